/-! THE LAW's supervisor -/
theorem fe_neg (w : Vec) : ∀ (d i : Nat), i + d < 2 ^ 31 → (fe w d i < 0 ↔ ∀ j, i ≤ j → j < i + d → ¬ w (tx j 15) = 1)
  | 0, i, _ => by
    rw [fe]
    exact ⟨fun _ j h1 h2 => absurd h2 (by omega), fun _ => by decide⟩
  | d + 1, i, hb => by
    rw [fe]
    by_cases h : w (tx i 15) = 1
    · rw [if_pos h]
      exact ⟨fun q => absurd q (nI_pos (by omega)), fun q => absurd h (q i (Nat.le_refl _) (by omega))⟩
    · rw [if_neg h, fe_neg w d (i + 1) (by omega)]
      refine ⟨fun q j h1 h2 => ?_, fun q j h1 h2 => q j (by omega) (by omega)⟩
      by_cases hj : j = i
      · subst hj; exact h
      · exact q j (by omega) (by omega)
theorem keeps.rfP (i : Nat) (w : Vec) : keeps i PJ w w := keeps.rf i _ w
/-- the supervisor at task i -/
theorem l_jd {n t c i : Nat} {σ : Sg} {w w0 : Vec} (h : LWr n c w0 σ w) (hV : VW n t c w0) (hi : i < n) (hn : n ≤ 3) (a3 x4 : Int32) (f : Nat) : ∃ σ', f_L_kicks_14 a3 (f + 1) (nI n) x4 (nI i) σ = f_L_kicks_14 a3 f (nI n) (x4 + jdV i w (tx i 15)) (nI (i + 1)) σ' ∧ LWr n c w0 σ' (jdV i w) ∧ FL σ σ' := by
  obtain ⟨hB, h2, h3, h4, ⟨h5a, h5b, h5c, h5d⟩, h6, h7, h8, h9⟩ := id h
  obtain ⟨lt, wb, lp, lf, wd⟩ := h7 i hi
  obtain ⟨l0, l4, l5, l6, l7, lj, l3⟩ := id lt
  have hn6 : n ≤ 6 := by omega
  have hi3 : i < 3 := by omega
  have c4 := lx_cl hi3 (c := 4) (by decide)
  have c6 := lx_cl hi3 (c := 6) (by decide)
  have c7 := lx_cl hi3 (c := 7) (by decide)
  have g4 := lx_in hi3 (c := 4) (by decide)
  have g6 := lx_in hi3 (c := 6) (by decide)
  have g7 := lx_in hi3 (c := 7) (by decide)
  have lt6 : ¬ nI n ≤ nI i := nI_ge hi (by omega)
  have s : ∀ d, d < 8 → w (tx i d) = w0 (tx i d) := fun d hd => h3 i d hi hd
  obtain ⟨y, y1, y2, hy⟩ := (hV.1.2.2 i hi).2.2.1
  have hY : ¬ w (tx i 3) = 0 := by rw [s 3 (by decide), hy]; exact nI_ne0 (by omega) (by omega)
  have p213 : ∀ (σ' : Sg) (w' : Vec), LWr n c w0 σ' w' → f_L_kicks_213 a3 (f_L_kicks_14 a3 f) (nI n) x4 (nI i) (10 * nI i) σ' = f_L_kicks_14 a3 f (nI n) (x4 + w' (tx i 15)) (nI (i + 1)) σ' := by
    intro σ' w' h'
    obtain ⟨lt', -⟩ := h'.2.2.2.2.2.2.1 i hi
    rw [f_L_kicks_213, lx_7, c7, if_neg g7, lt'.2.2.2.2.1, nI_1]
  have hPJ : ∀ d, PJ d → 8 ≤ d ∧ d < 19 := fun d hd => by have := hd.1; have := hd.2; omega
  rw [f_L_kicks_14, if_neg lt6, lx_7, c7, if_neg g7, l7]
  by_cases h15 : w (tx i 15) = 0
  · have h151 : ¬ w (tx i 15) = 1 := by rw [h15]; decide
    rw [if_pos h15, tv_3 hB hV hi, cb_some, ← s 3 (by decide), if_neg hY, h5c]
    by_cases hr : w 15 - w 15 / w (tx i 3) * w (tx i 3) = 0
    · have ej : jdV i w = endV i w := by simp only [jdV, h151, if_false, hr, if_true]
      rw [if_pos hr, lx_4, c4, if_neg g4, tv_4 hB hV hi, cb_some, ← s 4 (by decide), l4, if_neg g4, tv_5 hB hV hi, cb_some, ← s 5 (by decide), lx_6, c6, if_neg g6, l6, ej]
      obtain ⟨σb, z1, z2, z3, z4, z5⟩ := l_bad hB hV hi hn (s 6 (by decide)) lt wb lp a3 (nI n) x4 (f_L_kicks_14 a3 f)
      have kb : keeps i PJ w (clr i (badV i w)) := (bad_keeps i w).tr (clr_keeps i _)
      have hb := h.task hn hi z5 kb hPJ z2 z3 z4
      by_cases ha : w (tx i 12) < w (tx i 4)
      · rw [if_pos ha, z1, endV, if_pos ha]
        exact ⟨σb, p213 σb _ hb, hb, z5.FL⟩
      · rw [if_neg ha, endV, if_neg ha]
        by_cases hm : w (tx i 5) < w (tx i 12)
        · rw [if_pos hm, z1, if_pos hm]
          exact ⟨σb, p213 σb _ hb, hb, z5.FL⟩
        · rw [if_neg hm, if_neg hm]
          by_cases hl : w (tx i 14) = 0
          · rw [if_pos hl, if_pos hl]
            obtain ⟨σg, y1, y2, y3, y4, y5⟩ := l_good hi hn lt wb lp h15 a3 (nI n) x4 (f_L_kicks_14 a3 f)
            have kg : keeps i PJ w (clr i (goodV i w)) := (good_keeps i w).tr (clr_keeps i _)
            have hg := h.task hn hi y5 kg hPJ y2 y3 y4
            rw [y1]
            exact ⟨σg, p213 σg _ hg, hg, y5.FL⟩
          · rw [if_neg hl, if_neg hl, z1]
            exact ⟨σb, p213 σb _ hb, hb, z5.FL⟩
    · have ej : jdV i w = w := by simp only [jdV, h151, if_false, hr]
      rw [if_neg hr, ej]
      exact ⟨σ, p213 σ w h, h, FL.rf σ⟩
  · have h151 : w (tx i 15) = 1 := wb.2.2.2.1.ne.mp h15
    have ej : jdV i w = w := by simp only [jdV, h151, if_true]
    rw [if_neg h15, ej]
    exact ⟨σ, p213 σ w h, h, FL.rf σ⟩
theorem LWr.b15 {n c i : Nat} {σ : Sg} {w w0 : Vec} (h : LWr n c w0 σ w) (hi : i < n) : b01 (w (tx i 15)) := (h.2.2.2.2.2.2.1 i hi).2.1.2.2.2.1
theorem l_kloop {n t c : Nat} {w0 : Vec} (hV : VW n t c w0) (hn : n ≤ 3) (a3 : Int32) : ∀ (d i f x : Nat) (σ : Sg) (w : Vec), i + d = n → d < f → LWr n c w0 σ w → x ≤ i → (x = 0 ↔ ∀ j, j < i → ¬ w (tx j 15) = 1) → ∃ σ', f_L_kicks_14 a3 f (nI n) (nI x) (nI i) σ = some (suR (spV n (lp jdV d i w)), σ') ∧ LWr n c w0 σ' (spV n (lp jdV d i w)) ∧ FL σ σ'
  | 0, i, f, x, σ, w, hd, hf, h, hx, hx0 => by
    obtain ⟨rfl, f, rfl⟩ := loop0 hd hf
    obtain ⟨hB, h2, h3, h4, ⟨h5a, h5b, h5c, h5d⟩, h6, h7, h8, h9⟩ := id h
    have fin : ∀ e : Int32, e = (if fe w i 0 < 0 then 0 else 1) → ∃ σ', f_L_kicks_246 a3 e (σ 150 7) 7 σ = some (suR (spV i w), σ') ∧ LWr i c w0 σ' (spV i w) ∧ FL σ σ' := by
      intro e he
      have hs : spV i w = upd w 16 (w 16 + e) := by rw [spV, he]
      have hN := h.num hn (Or.inr (Or.inr (Or.inr (Or.inl ⟨rfl, rfl⟩)))) (w 16 + e)
      obtain ⟨hB2, k2, -, -, ⟨-, m5, -, m7⟩, -⟩ := id hN
      have c7 : ((7 : Int32)).toNatClampNeg = 7 := by decide
      have g7 : ¬ ((7 : Int32) < 0 ∨ 14 ≤ 7) := by decide
      rw [hs]
      refine ⟨st σ 150 7 (w 16 + e), ?_, hN, (FL.rf σ).st0 _ _⟩
      rw [f_L_kicks_246, c7, if_neg g7, wb_eq, h5d, sv_17 hB2 hV, cb_some, m7, sv_16 hB2 hV, cb_some, m5, suR, k2 4 (by decide), k2 3 (by decide)]
      by_cases z1 : w0 4 < upd w 16 (w 16 + e) 16
      · rw [if_pos z1, if_pos z1, f_L_kicks_277, f_L_kicks_278, if_pos (Or.inl rfl)]
      · rw [if_neg z1, if_neg z1]
        by_cases z2 : upd w 16 (w 16 + e) 14 < w0 3
        · rw [if_pos z2, if_pos z2, f_L_kicks_277, f_L_kicks_278, if_pos (Or.inl rfl)]
        · rw [if_neg z2, if_neg z2, f_L_kicks_278, if_pos (Or.inr rfl)]
    rw [f_L_kicks_14, if_pos (nI_le (Nat.le_refl _) (by omega)), lp]
    have hfe := fe_neg w i 0 (by omega)
    by_cases hx1 : x = 0
    · have e1 : fe w i 0 < 0 := hfe.mpr (fun j _ hj => hx0.mp hx1 j (by omega))
      rw [if_pos (by rw [hx1]; decide)]
      exact fin 0 (by rw [if_pos e1])
    · have e1 : ¬ fe w i 0 < 0 := fun q => hx1 (hx0.mpr (fun j hj => hfe.mp q j (Nat.zero_le _) (by omega)))
      rw [if_neg (nI_nle (by omega) (by omega))]
      exact fin 1 (by rw [if_neg e1])
  | d + 1, i, f, x, σ, w, hd, hf, h, hx, hx0 => by
    obtain ⟨f, rfl⟩ : ∃ g, f = g + 1 := ⟨f - 1, by omega⟩
    obtain ⟨σ1, z1, z2, z3⟩ := l_jd h hV (i := i) (by omega) hn a3 (nI x) f
    have hk := jd_keeps i w
    have hb := z2.b15 (i := i) (by omega)
    rw [z1, lp]
    rcases hb with hb | hb
    · obtain ⟨σ2, y1, y2, y3⟩ := l_kloop hV hn a3 d (i + 1) f x σ1 (jdV i w) (by omega) (by omega) z2 (by omega) ⟨fun q j hj => by
        by_cases hji : j = i
        · subst hji; rw [hb]; decide
        · rw [hk.2.1 j 15 (by decide) (Or.inl hji)]; exact hx0.mp q j (by omega), fun q => hx0.mpr (fun j hj => by rw [← hk.2.1 j 15 (by decide) (Or.inl (by omega))]; exact q j (by omega))⟩
      refine ⟨σ2, ?_, y2, z3.tr y3⟩
      rw [hb, show (nI x + 0 : Int32) = nI x from nI_add x 0]; exact y1
    · obtain ⟨σ2, y1, y2, y3⟩ := l_kloop hV hn a3 d (i + 1) f (x + 1) σ1 (jdV i w) (by omega) (by omega) z2 (by omega) ⟨fun q => absurd q (by omega), fun q => absurd hb (q i (by omega))⟩
      refine ⟨σ2, ?_, y2, z3.tr y3⟩
      rw [hb, nI_1]; exact y1
theorem l_kicks {n t c : Nat} {w w0 : Vec} {σ : Sg} (h : LWr n c w0 σ w) (hV : VW n t c w0) (hn : n ≤ 3) : ∃ σ', f_L_kicks_0 (nI n) σ = some (suR (suV n w), σ') ∧ LWr n c w0 σ' (suV n w) ∧ FL σ σ' := by
  have hN := h.num hn (Or.inr (Or.inr (Or.inl ⟨rfl, rfl⟩))) (w 15 + 1)
  obtain ⟨σ', z1, z2, z3⟩ := l_kloop hV hn (nI n) n 0 FU 0 _ _ (by omega) (by unfold FU; omega) hN (Nat.le_refl _) ⟨fun _ j hj => absurd hj (by omega), fun _ => rfl⟩
  refine ⟨σ', ?_, z2, ((FL.rf σ).st0 _ _).tr z3⟩
  rw [f_L_kicks_0, wb_eq, h.2.2.2.2.1.2.2.1]
  exact z1
/-- all begins anew -/
def zb : Nat → Nat → Sg → Sg
  | 0, _, σ => σ
  | d + 1, k, σ => zb d (k + 1) (st σ 150 k 0)
def zt : Nat → Nat → Sg → Sg
  | 0, _, σ => σ
  | d + 1, k, σ => zt d (k + 1) (st σ 151 k (if 8 ≤ k % 10 then σ 151 k else 0))
theorem zb_o : ∀ (d k : Nat) (σ : Sg), (∀ a, a ≠ 150 → zb d k σ a = σ a) ∧ ∀ j, zb d k σ 150 j = if k ≤ j ∧ j < k + d then 0 else σ 150 j
  | 0, k, σ => ⟨fun _ _ => rfl, fun j => by rw [zb, if_neg (by omega)]⟩
  | d + 1, k, σ => by
    obtain ⟨h1, h2⟩ := zb_o d (k + 1) (st σ 150 k 0)
    refine ⟨fun a ha => by rw [zb, h1 a ha, st_o a ha], fun j => ?_⟩
    rw [zb, h2 j, st_r]
    by_cases hj : j = k
    · rw [if_neg (by omega), if_pos ⟨rfl, hj⟩, if_pos (by omega)]
    · rw [if_neg (show ¬ (150 = 150 ∧ j = k) from fun q => hj q.2)]
      by_cases h : k ≤ j ∧ j < k + (d + 1)
      · rw [if_pos h, if_pos (by omega)]
      · rw [if_neg h, if_neg (by omega)]
theorem zt_o : ∀ (d k : Nat) (σ : Sg), (∀ a, a ≠ 151 → zt d k σ a = σ a) ∧ ∀ j, zt d k σ 151 j = if (k ≤ j ∧ j < k + d) ∧ j % 10 < 8 then 0 else σ 151 j
  | 0, k, σ => ⟨fun _ _ => rfl, fun j => by rw [zt, if_neg (by omega)]⟩
  | d + 1, k, σ => by
    obtain ⟨h1, h2⟩ := zt_o d (k + 1) (st σ 151 k (if 8 ≤ k % 10 then σ 151 k else 0))
    refine ⟨fun a ha => by rw [zt, h1 a ha, st_o a ha], fun j => ?_⟩
    rw [zt, h2 j, st_r]
    by_cases hj : j = k
    · subst hj
      rw [if_neg (by omega), if_pos ⟨rfl, rfl⟩]
      by_cases h8 : 8 ≤ j % 10
      · rw [if_pos h8, if_neg (by omega)]
      · rw [if_neg h8, if_pos (by omega)]
    · rw [if_neg (show ¬ (151 = 151 ∧ j = k) from fun q => hj q.2)]
      by_cases h : (k ≤ j ∧ j < k + (d + 1)) ∧ j % 10 < 8
      · rw [if_pos h, if_pos (by omega)]
      · rw [if_neg h, if_neg (by omega)]
theorem anew_t : ∀ (d k f : Nat) (σ : Sg), k + d = 30 → d < f → f_L_anew_20 f (nI k) σ = some (0, zt d k σ)
  | 0, k, f, σ, h, hf => by
    obtain ⟨rfl, f, rfl⟩ := loop0 h hf
    rw [f_L_anew_20, if_pos (by decide), zt]
  | d + 1, k, f, σ, h, hf => by
    obtain ⟨f, rfl⟩ : ∃ g, f = g + 1 := ⟨f - 1, by omega⟩
    have hcl : (nI k).toNatClampNeg = k := nI_clamp (by omega)
    have g : ¬ (nI k < 0 ∨ 30 ≤ k) := inb2 (by omega) (by decide)
    have e : nI k - nI k / 10 * 10 = nI (k % 10) := by rw [show (10 : Int32) = nI 10 from rfl]; exact pk_rem (by omega) (by decide) (by decide)
    have h8 : (8 : Int32) ≤ nI (k % 10) ↔ 8 ≤ k % 10 := by rw [show (8 : Int32) = nI 8 from rfl]; exact nI_leI (by decide) (by omega)
    have h30 : ¬ (30 : Int32) ≤ nI k := by rw [show (30 : Int32) = nI 30 from rfl]; exact nI_ge (by omega) (by decide)
    rw [f_L_anew_20, if_neg h30, e, hcl, if_neg g, zt]
    by_cases h1 : 8 ≤ k % 10
    · rw [if_pos (h8.mpr h1), f_L_anew_44, hcl, if_neg g, wb_eq, nI_1, if_pos h1]
      exact anew_t d (k + 1) f _ (by omega) (by omega)
    · rw [if_neg (fun q => h1 (h8.mp q)), f_L_anew_44, hcl, if_neg g, wb_eq, nI_1, if_neg h1]
      exact anew_t d (k + 1) f _ (by omega) (by omega)
theorem anew_b : ∀ (d k f : Nat) (σ : Sg), k + d = 8 → d < f → f_L_anew_2 f (nI k) σ = f_L_anew_20 FU 0 (zb d k σ)
  | 0, k, f, σ, h, hf => by
    obtain ⟨rfl, f, rfl⟩ := loop0 h hf
    rw [f_L_anew_2, if_pos (by decide), zb]
  | d + 1, k, f, σ, h, hf => by
    obtain ⟨f, rfl⟩ : ∃ g, f = g + 1 := ⟨f - 1, by omega⟩
    have hcl : (nI k).toNatClampNeg = k := nI_clamp (by omega)
    have g : ¬ (nI k < 0 ∨ 14 ≤ k) := inb2 (by omega) (by decide)
    have h7 : ¬ (7 : Int32) < nI k := by rw [show (7 : Int32) = nI 7 from rfl]; exact nI_nlt (by omega) (by decide)
    rw [f_L_anew_2, if_neg h7, hcl, if_neg g, wb_eq, nI_1, zb]
    exact anew_b d (k + 1) f _ (by omega) (by omega)
theorem l_anew (σ : Sg) : ∃ σ', f_L_anew_0 σ = some (0, σ') ∧ (∀ j, σ' 150 j = if 4 ≤ j ∧ j < 8 then 0 else σ 150 j) ∧ (∀ j, σ' 151 j = if j < 30 ∧ j % 10 < 8 then 0 else σ 151 j) ∧ FL σ σ' := by
  obtain ⟨h1, h2⟩ := zb_o 4 4 σ
  obtain ⟨k1, k2⟩ := zt_o 30 0 (zb 4 4 σ)
  refine ⟨zt 30 0 (zb 4 4 σ), ?_, fun j => ?_, fun j => ?_, fun a ha hb => ?_⟩
  · rw [f_L_anew_0, show (4 : Int32) = nI 4 from rfl, anew_b 4 4 FU σ rfl (by unfold FU; omega), show (0 : Int32) = nI 0 from rfl, anew_t 30 0 FU _ rfl (by unfold FU; omega)]
    rfl
  · rw [k1 150 (by decide), h2 j]
  · rw [k2 j, h1 151 (by decide)]
    by_cases h : j < 30 ∧ j % 10 < 8
    · rw [if_pos h, if_pos (by omega)]
    · rw [if_neg h, if_neg (by omega)]
  · rw [k1 a hb, h1 a ha]
