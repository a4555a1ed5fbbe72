/-! put -/
def sh8 (x : Int64) : Int64 := (x.toUInt64 >>> ((8 : Int32).toInt64.toUInt64 &&& Int64.toUInt64 63)).toInt64
def shk (a : Int64) : Nat → Int64
  | 0 => a
  | k + 1 => sh8 (shk a k)
theorem shk_n (a : Int64) : ∀ k, (shk a k).toBitVec.toNat = a.toBitVec.toNat / 2 ^ (8 * k)
  | 0 => by simp [shk]
  | k + 1 => by
    show (sh8 (shk a k)).toBitVec.toNat = _
    have e : ((8 : Int32).toInt64.toUInt64 &&& Int64.toUInt64 63).toNat % 64 = 8 := by decide
    rw [sh8, ushr_n, e, shk_n a k, Nat.div_div_eq_div_mul, ← Nat.pow_add, Nat.mul_succ]
theorem shk_b (a : Int64) (k : Nat) : ((shk a k) &&& 255).toInt32 = nI (yb a k) := by rw [and_255, shk_n]; rfl
def okb (a : Int64) (i r : Nat) : Prop := ∀ j, i ≤ j → j < r → 33 ≤ yb a j ∧ yb a j ≤ 126
def ptl (a : Int64) (r : Nat) (σ : Sg) : Option (Int32 × Sg) := if r = 0 then some (-2, σ) else if σ 150 5 + nI r ≤ 60 then f_X5_put_86 a FU a (nI r) 0 σ else some (-4, σ)
/-- the two counts -/
theorem cnt (a : Int64) : ∀ (d k f g : Nat) , k + d = 8 → d < f → d < g → ∃ r, r ≤ 8 ∧ okb a k r ∧ (∀ σ, f_X4_countSigns_5 a f (shk a k) (nI k) σ = some (nI r, σ)) ∧ ∀ σ, f_X5_put_5 a g a (nI k) (shk a k) σ = ptl a r σ
  | d, k, f, g, h, hf, hg => by
    obtain ⟨f, rfl⟩ : ∃ f', f = f' + 1 := ⟨f - 1, by omega⟩
    obtain ⟨g, rfl⟩ : ∃ g', g = g' + 1 := ⟨g - 1, by omega⟩
    have fin : ∃ r, r ≤ 8 ∧ okb a k r ∧ (∀ σ, f_X4_countSigns_51 a (shk a k) (nI k) σ = some (nI r, σ)) ∧ ∀ σ, f_X5_put_55 a a (nI k) (shk a k) σ = ptl a r σ := by
      by_cases h0 : lg_cmp (shk a k) 0 = 0
      · refine ⟨k, by omega, fun j h1 h2 => by omega, fun σ => by rw [f_X4_countSigns_51, if_pos h0, f_X4_countSigns_63], fun σ => ?_⟩
        rw [f_X5_put_55, ptl]
        by_cases hk : k = 0
        · subst hk; rw [if_pos (show nI 0 = 0 from rfl), if_pos rfl, f_X5_put_66]
        · rw [if_neg (nI_ne0 (by omega) (by omega)), if_neg hk, if_pos h0]
      · refine ⟨0, by omega, fun j h1 h2 => by omega, fun σ => by rw [f_X4_countSigns_51, if_neg h0, f_X4_countSigns_63]; rfl, fun σ => ?_⟩
        rw [f_X5_put_55, ptl, if_pos rfl, if_neg h0, f_X5_put_66]
        by_cases hk : nI k = 0
        · rw [if_pos hk]
        · rw [if_neg hk]
    by_cases hk8 : (8 : Int32) ≤ nI k
    · obtain ⟨r, r1, r2, r3, r4⟩ := fin
      exact ⟨r, r1, r2, fun σ => by rw [f_X4_countSigns_5, if_pos hk8]; exact r3 σ, fun σ => by rw [f_X5_put_5, if_pos hk8]; exact r4 σ⟩
    by_cases hz : lg_cmp (shk a k &&& 255) 0 = 0
    · obtain ⟨r, r1, r2, r3, r4⟩ := fin
      exact ⟨r, r1, r2, fun σ => by rw [f_X4_countSigns_5, if_neg hk8, if_pos hz]; exact r3 σ, fun σ => by rw [f_X5_put_5, if_neg hk8, if_pos hz]; exact r4 σ⟩
    have hk : k < 8 := by
      refine Nat.lt_of_not_le (fun z => hk8 ?_)
      rw [show (8 : Int32) = nI 8 from rfl]; exact nI_le z (by omega)
    by_cases hw : win (nI (yb a k)) 33 126 = 0
    · refine ⟨0, by omega, fun j h1 h2 => by omega, fun σ => ?_, fun σ => ?_⟩
      · rw [f_X4_countSigns_5, if_neg hk8, if_neg hz, shk_b, win_c, cb_some, if_pos hw]; rfl
      · rw [f_X5_put_5, if_neg hk8, if_neg hz, shk_b, win_r, cb_some, if_pos hw, ptl, if_pos rfl]
    obtain ⟨d, rfl⟩ : ∃ d', d = d' + 1 := ⟨d - 1, by omega⟩
    obtain ⟨r, r1, r2, r3, r4⟩ := cnt a d (k + 1) f g (by omega) (by omega) (by omega)
    refine ⟨r, r1, fun j h1 h2 => ?_, fun σ => ?_, fun σ => ?_⟩
    · by_cases hj : j = k
      · subst hj
        obtain ⟨m, m1, m2, m3⟩ := win_n (lo := 33) (hi := 126) (by decide) (by decide) hw
        have := (nI_eq (by have := yb_lt a j; omega) (by omega)).mp m3
        omega
      · exact r2 j (by omega) h2
    · rw [f_X4_countSigns_5, if_neg hk8, if_neg hz, shk_b, win_c, cb_some, if_neg hw, nI_1]; exact r3 σ
    · rw [f_X5_put_5, if_neg hk8, if_neg hz, shk_b, win_r, cb_some, if_neg hw, nI_1]; exact r4 σ
theorem nI_m1 (d : Nat) : nI d + -1 = nI d - 1 := (Int32.sub_eq_add_neg (nI d) 1).symm ▸ rfl
/-- the class appends -/
theorem apl (a : Int64) (a1 : Int32) {m r : Nat} (hr : r ≤ 8) (hmr : m + r ≤ 60) : ∀ (d i f : Nat) (σ : Sg), i + d = r → d < f → σ 143 1 = nI (m + i) → ∃ σ', f_X2_append_5 a a1 f a (nI d - 1) σ = some (0, σ') ∧ σ' 143 1 = nI (m + r) ∧ (∀ b, b ≠ 143 → b ≠ 144 → σ' b = σ b) ∧ (∀ j, j < m + i → σ' 144 j = σ 144 j) ∧ ∀ j, i ≤ j → j < r → σ' 144 (m + j) = nI (yb a (r - 1 - j))
  | 0, i, f, σ, h, hf, h1 => by
    obtain ⟨rfl, g, rfl⟩ := loop0 h hf
    refine ⟨σ, by rw [f_X2_append_5, if_pos (by decide), f_X2_append_57], h1, fun _ _ _ => rfl, fun _ _ => rfl, fun j h1 h2 => by omega⟩
  | d + 1, i, f + 1, σ, h, hf, h1 => by
    have hcl : (nI (m + i)).toNatClampNeg = m + i := nI_clamp (by omega)
    let s1 := st (st σ 144 (m + i) (nI (yb a d))) 143 1 (nI (m + i) + 1)
    have e1 : s1 143 1 = nI (m + (i + 1)) := by simp only [s1, st_r, and_self, if_true]; rw [nI_1]; rfl
    obtain ⟨s2, x1, x2, x3, x4, x5⟩ := apl a a1 hr hmr d (i + 1) f s1 (by omega) (by omega) e1
    have e2 : ∀ j, s1 144 j = if j = m + i then nI (yb a d) else σ 144 j := fun j => by simp [s1, st_r]
    refine ⟨s2, ?_, x2, fun b b1 b2 => by rw [x3 b b1 b2]; simp only [s1]; rw [st_o _ b1, st_o _ b2], fun j hj => by rw [x4 j (by omega), e2, if_neg (by omega)], fun j j1 j2 => ?_⟩
    · rw [f_X2_append_5, nI_pred, if_neg (nI_pos (by omega)), h1, if_neg (by rw [show (60 : Int32) = nI 60 from rfl]; exact nI_ge (by omega) (by decide)), hcl, if_neg (inb2 (by omega) (by decide)), wb_eq, wb_eq, cls_b a (show d < 8 by omega), char_n (yb_lt a d), st_o 143 (by decide), h1, nI_m1]
      exact x1
    · by_cases hj : j = i
      · subst hj; rw [x4 (m + j) (by omega), e2, if_pos rfl]; congr 2; omega
      · exact x5 j (by omega) j2
/-- the reference appends -/
theorem rpl (a : Int64) {m r : Nat} (hr : r ≤ 8) (hmr : m + r ≤ 60) : ∀ (d i f : Nat) (σ : Sg), i + d = r → d < f → σ 150 5 = nI m → ∃ σ', f_X5_put_86 a f a (nI r) (nI i) σ = some (nI (m + r), σ') ∧ σ' 150 5 = nI (m + r) ∧ (∀ b, b ≠ 150 → b ≠ 155 → σ' b = σ b) ∧ (∀ j, j < m + i → σ' 155 j = σ 155 j) ∧ ∀ j, i ≤ j → j < r → σ' 155 (m + j) = nI (yb a (r - 1 - j))
  | 0, i, f, σ, h, hf, h1 => by
    obtain ⟨rfl, g, rfl⟩ := loop0 h hf
    refine ⟨st σ 150 5 (nI m + nI i), ?_, ?_, fun b b1 b2 => st_o b b1, fun j hj => by rw [st_o _ (by decide)], fun j h1 h2 => by omega⟩
    · rw [f_X5_put_86, if_pos (nI_le (Nat.le_refl _) (by omega)), wb_eq, h1]
      congr 2
      simp only [st_r, and_self, if_true, nI_add]
    · simp only [st_r, and_self, if_true, nI_add]
  | d + 1, i, f + 1, σ, h, hf, h1 => by
    have hcl : (nI (m + i)).toNatClampNeg = m + i := nI_clamp (by omega)
    let s1 := st σ 155 (m + i) (nI (yb a (r - 1 - i)))
    have e1 : s1 150 5 = nI m := by simp only [s1]; rw [st_o 150 (by decide)]; exact h1
    obtain ⟨s2, x1, x2, x3, x4, x5⟩ := rpl a hr hmr d (i + 1) f s1 (by omega) (by omega) e1
    have e2 : ∀ j, s1 155 j = if j = m + i then nI (yb a (r - 1 - i)) else σ 155 j := fun j => by simp [s1, st_r]
    have e3 : nI r - 1 - nI i = nI (r - 1 - i) := by rw [show (1 : Int32) = nI 1 from rfl, pk_sub (by omega), pk_sub (by omega)]
    refine ⟨s2, ?_, x2, fun b b1 b2 => by rw [x3 b b1 b2]; exact st_o _ b2, fun j hj => by rw [x4 j (by omega), e2, if_neg (by omega)], fun j j1 j2 => ?_⟩
    · rw [f_X5_put_86, if_neg (nI_ge (by omega) (by omega)), h1, nI_add, hcl, if_neg (inb2 (by omega) (by decide)), wb_eq, e3, ref_b a (show r - 1 - i < 8 by omega), nI_1]
      exact x1
    · by_cases hj : j = i
      · subst hj; rw [x4 (m + j) (by omega), e2, if_pos rfl]
      · exact x5 j (by omega) j2
theorem INV.pad {σ σ' : Sg} (h : INV σ) (F : ∀ a, (a < 143 ∨ (151 ≤ a ∧ a < 155)) → σ' a = σ a) (hp : PAD σ') : INV σ' := by
  obtain ⟨⟨n, t, c, y1, y2, y3⟩, z1, z2, z3, -⟩ := h
  have g : ∀ a, (a < 143 ∨ (151 ≤ a ∧ a < 155)) → ∀ k, σ' a k = σ a k := fun a h1 k => by rw [F a h1]
  exact ⟨⟨n, t, c, by rw [F 151 (by omega)]; exact y1.F y2.1.1.1 (fun a h1 h2 => F a (by omega)), by rw [F 151 (by omega)]; exact y2, y3⟩, z1.F (fun a h1 h2 => F a (by omega)), z2.mv (g 142 (by decide) _) (g 154 (by decide) _) (fun k _ => g 153 (by decide) _) (fun a h1 h2 => F a (by omega)), z3.mv (g 142 (by decide) _) (g 154 (by decide) _) (fun k _ => g 153 (by decide) _) (fun a h1 h2 => F a (by omega)), hp⟩
theorem go_put (a : Int64) : Go (f_X4_put_0 a) (f_X5_put_0 a) := by
  intro σ h
  obtain ⟨-, -, -, -, m, m1, m2, m3, m4⟩ := id h
  obtain ⟨r, r1, r2, r3, r4⟩ := cnt a 8 0 FU FU rfl (by unfold FU; omega) (by unfold FU; omega)
  have r3' : f_X4_countSigns_0 a σ = some (nI r, σ) := r3 σ
  have r4' : ∀ σ, f_X5_put_0 a σ = ptl a r σ := r4
  by_cases h0 : r = 0
  · subst h0
    exact go_same h (-2) (by rw [f_X4_put_0, r3', cb_some, if_pos (by decide)]) (by rw [r4', ptl, if_pos rfl])
  have hn0 : ¬ nI r = 0 := nI_ne0 (by omega) (by omega)
  by_cases h60 : m + r ≤ 60
  · have l60 : nI m + nI r ≤ 60 := by rw [nI_add, show (60 : Int32) = nI 60 from rfl]; exact nI_le h60 (by decide)
    obtain ⟨s1, x1, x2, x3, x4, x5⟩ := apl a (nI r) r1 h60 r 0 FU σ (by omega) (by unfold FU; omega) m2
    obtain ⟨s2, y1, y2, y3, y4, y5⟩ := rpl a r1 h60 r 0 FU s1 (by omega) (by unfold FU; omega) (by rw [x3 150 (by decide) (by decide)]; exact m3)
    refine ⟨nI (m + r), s1, s2, ?_, ?_, h.pad (fun b hb => by rw [y3 b (by omega) (by omega), x3 b (by omega) (by omega)]) ⟨m + r, h60, by rw [y3 143 (by decide) (by decide)]; exact x2, y2, fun j hj => ?_⟩⟩
    · rw [f_X4_put_0, r3', cb_some, if_neg hn0, m2, if_pos l60, f_X2_append_0, x1, cb_some, x2]
    · rw [r4', ptl, if_neg h0, x3 150 (by decide) (by decide), m3, if_pos l60]; exact y1
    · by_cases hjm : j < m
      · obtain ⟨c1, c2⟩ := m4 j hjm
        rw [y3 144 (by decide) (by decide), x4 j (by omega), y4 j (by omega), x3 155 (by decide) (by decide)]
        exact ⟨c1, c2⟩
      · obtain ⟨i, rfl⟩ : ∃ i, j = m + i := ⟨j - m, by omega⟩
        rw [y3 144 (by decide) (by decide), x5 i (by omega) (by omega), y5 i (by omega) (by omega)]
        obtain ⟨c1, c2⟩ := r2 (r - 1 - i) (by omega) (by omega)
        exact ⟨rfl, yb a (r - 1 - i), c1, c2, rfl⟩
  · have l60 : ¬ nI m + nI r ≤ 60 := by rw [nI_add, show (60 : Int32) = nI 60 from rfl]; exact nI_ge (by omega) (by omega)
    exact go_same h (-4) (by rw [f_X4_put_0, r3', cb_some, if_neg hn0, m2, if_neg l60]) (by rw [r4', ptl, if_neg h0, m3, if_neg l60])
