/-! one fault is read -/
def kx (a : Int32) : Int32 := if a = 110 then 0 else if a = 104 then 1 else if a = 115 then 2 else if a = 107 then 3 else if a = 116 then 4 else if a = 99 then 5 else -1
theorem kind_c {s : Nat} (hs : s ≤ 126) (σ : Sg) : f_J0_indexOf_0f7a4_0 (nI s) σ = some (kx (nI s), σ) := by
  have e8 : (nI s).toInt8.toInt32 = nI s := by
    have : ∀ k, k < 127 → (nI k).toInt8.toInt32 = nI k := by decide
    exact this s (by omega)
  have c1 : ¬ nI s < 0 := nI_pos (by omega)
  have c2 : ¬ 255 < nI s := by rw [show (255 : Int32) = nI 255 from rfl]; exact nI_nlt (by omega) (by decide)
  have ce : f_J1_canEncode_9a6ad_0 (nI s) σ = some (1, σ) := by rw [f_J1_canEncode_9a6ad_0, if_neg c1, if_neg c2, f_J1_canEncode_9a6ad_16, if_pos (by decide)]
  have ln : f_J0_length_8abf5_0 σ = some (6, σ) := by rw [f_J0_length_8abf5_0, f_J0_coder_7d493_0, f_J0_coder_7d493_14, if_pos (by decide), cb_some]; rfl
  have lp : f_J1_indexOfChar_4cfef_7 (nI s) 0 6 FU 6 (nI s) 0 σ = some (kx (nI s), σ) := by
    have st1 : ∀ (f j : Nat), j < 6 → f_J1_indexOfChar_4cfef_7 (nI s) 0 6 (f + 1) 6 (nI s) (nI j) σ = if kb j = nI s then some (nI j, σ) else f_J1_indexOfChar_4cfef_7 (nI s) 0 6 f 6 (nI s) (nI (j + 1)) σ := fun f j hj => by
      have hcl : (nI j).toNatClampNeg = j := nI_clamp (by omega)
      rw [f_J1_indexOfChar_4cfef_7, if_neg (by rw [show (6 : Int32) = nI 6 from rfl]; exact nI_ge hj (by decide)), hcl, if_neg (inb2 hj (by decide)), nI_1]
    show f_J1_indexOfChar_4cfef_7 (nI s) 0 6 (99993 + 1 + 1 + 1 + 1 + 1 + 1 + 1) 6 (nI s) (nI 0) σ = _
    rw [st1 _ 0 (by decide), st1 _ 1 (by decide), st1 _ 2 (by decide), st1 _ 3 (by decide), st1 _ 4 (by decide), st1 _ 5 (by decide), f_J1_indexOfChar_4cfef_7, if_pos (show (6 : Int32) ≤ nI (5 + 1) by decide)]
    have k0 : kb 0 = 110 := rfl
    have k1 : kb 1 = 104 := rfl
    have k2 : kb 2 = 115 := rfl
    have k3 : kb 3 = 107 := rfl
    have k4 : kb 4 = 116 := rfl
    have k5 : kb 5 = 99 := rfl
    unfold kx
    rw [k0, k1, k2, k3, k4, k5]
    by_cases h : nI s = 110
    · rw [h]; rfl
    rw [if_neg (Ne.symm h), if_neg h]
    by_cases h : nI s = 104
    · rw [h]; rfl
    rw [if_neg (Ne.symm h), if_neg h]
    by_cases h : nI s = 115
    · rw [h]; rfl
    rw [if_neg (Ne.symm h), if_neg h]
    by_cases h : nI s = 107
    · rw [h]; rfl
    rw [if_neg (Ne.symm h), if_neg h]
    by_cases h : nI s = 116
    · rw [h]; rfl
    rw [if_neg (Ne.symm h), if_neg h]
    by_cases h : nI s = 99
    · rw [h]; rfl
    rw [if_neg (Ne.symm h), if_neg h]
  have ix : f_J1_indexOf_4cfef_0 (nI s) 0 6 σ = some (kx (nI s), σ) := by
    rw [f_J1_indexOf_4cfef_0, ce, cb_some, if_neg (by decide), if_neg (show ¬ (0 : Int32) < 0 by decide), if_neg (show ¬ (6 : Int32) < 6 by decide), if_pos (by decide), f_J1_indexOfChar_4cfef_0, e8, lp, cb_some]
  rw [f_J0_indexOf_0f7a4_0, f_J0_indexOf_7cf53_0, f_J0_isLatin1_aae02_0, f_J0_isLatin1_aae02_18, if_pos (by decide), cb_some, if_neg (by decide), ln, cb_some, ix, cb_some, f_J0_indexOf_7cf53_36, cb_some]
theorem kind_r (a : Int32) : (∃ k, k < 6 ∧ kx a = nI k ∧ ∀ σ, f_X5_kindOf_0 a σ = some (nI k, σ)) ∨ (kx a = -1 ∧ ∀ σ, f_X5_kindOf_0 a σ = some (-6, σ)) := by
  by_cases h0 : a = 110
  · subst h0; exact Or.inl ⟨0, by decide, rfl, fun _ => rfl⟩
  by_cases h1 : a = 104
  · subst h1; exact Or.inl ⟨1, by decide, rfl, fun _ => rfl⟩
  by_cases h2 : a = 115
  · subst h2; exact Or.inl ⟨2, by decide, rfl, fun _ => rfl⟩
  by_cases h3 : a = 107
  · subst h3; exact Or.inl ⟨3, by decide, rfl, fun _ => rfl⟩
  by_cases h4 : a = 116
  · subst h4; exact Or.inl ⟨4, by decide, rfl, fun _ => rfl⟩
  by_cases h5 : a = 99
  · subst h5; exact Or.inl ⟨5, by decide, rfl, fun _ => rfl⟩
  refine Or.inr ⟨by unfold kx; rw [if_neg h0, if_neg h1, if_neg h2, if_neg h3, if_neg h4, if_neg h5], fun σ => ?_⟩
  rw [f_X5_kindOf_0]
  simp only [h0, h1, h2, h3, h4, h5, if_false, ite_self, f_X5_kindOf_90]
/-- a mark and its number -/
theorem optn {m : Nat} {g : Nat → Nat} (hg : GC m g) {mx c : Nat} (hmx : mx ≤ 5000) (hc : c < 200) (hc0 : c ≠ 0) {p : Nat} (hp : p ≤ m) : (∃ p', p ≤ p' ∧ p' ≤ m ∧ (∀ σ (K : Int32 → Sg → Option (Int32 × Sg)), CP m g σ p → (cb (f_X2_accept_0 (nI c) σ) fun v s => if v = 0 then K 0 s else cb (f_X2_readNumber_0 (nI mx) s) fun n s2 => K n s2) = K (-1) (st σ 143 2 (nI p'))) ∧ ∀ σ (K : Int32 → Sg → Option (Int32 × Sg)), RP m g σ p → σ 150 7 = 0 → (cb (f_X5_takes_0 (nI c) σ) fun v s => if v = 0 then K 0 s else cb (f_X5_readNumber_0 (nI mx) s) fun n s2 => K n s2) = K 0 (st (st σ 150 6 (nI p')) 150 7 1)) ∨ ∃ v p', p ≤ p' ∧ p' ≤ m ∧ v ≤ 5000 ∧ (∀ σ (K : Int32 → Sg → Option (Int32 × Sg)), CP m g σ p → (cb (f_X2_accept_0 (nI c) σ) fun v s => if v = 0 then K 0 s else cb (f_X2_readNumber_0 (nI mx) s) fun n s2 => K n s2) = K (nI v) (st σ 143 2 (nI p'))) ∧ ∀ σ (K : Int32 → Sg → Option (Int32 × Sg)), RP m g σ p → σ 150 7 = 0 → (cb (f_X5_takes_0 (nI c) σ) fun v s => if v = 0 then K 0 s else cb (f_X5_readNumber_0 (nI mx) s) fun n s2 => K n s2) = K (nI v) (st σ 150 6 (nI p')) := by
  by_cases q : sg g m p = c
  · have hpm : p < m := sg_lt (g := g) (by omega)
    rcases numr hg hmx (show p + 1 ≤ m by omega) with ⟨n1, n2⟩ | ⟨v, p', v1, v2, v3, n1, n2⟩
    · refine Or.inl ⟨p + 1, by omega, by omega, fun σ K hC => ?_, fun σ K hR h7 => ?_⟩
      · rw [acc_c hg hC hp hc, if_pos q, cb_some, if_neg (by decide), n1 _ (hC.to (p + 1)), cb_some]
      · rw [tak_r hg hR h7 hp hc, if_pos q, cb_some, if_neg (by decide), n2 _ (hR.to (p + 1)) (by simp [st_r, h7]), cb_some]
    · refine Or.inr ⟨v, p', by omega, v2, v3, fun σ K hC => ?_, fun σ K hR h7 => ?_⟩
      · rw [acc_c hg hC hp hc, if_pos q, cb_some, if_neg (by decide), n1 _ (hC.to (p + 1)), cb_some, st_st]
      · rw [tak_r hg hR h7 hp hc, if_pos q, cb_some, if_neg (by decide), n2 _ (hR.to (p + 1)) (by simp [st_r, h7]), cb_some, st_st]
  · refine Or.inr ⟨0, p, Nat.le_refl p, hp, by omega, fun σ K hC => ?_, fun σ K hR h7 => ?_⟩
    · rw [acc_c hg hC hp hc, if_neg q, cb_some, if_pos rfl, hC.id]; rfl
    · rw [tak_r hg hR h7 hp hc, if_neg q, cb_some, if_pos rfl, hR.id]; rfl
def kf (σ : Sg) (p' cn : Nat) (k t s a l : Int32) : Sg := st (st (st (st (st (st (st σ 143 2 (nI p')) 149 cn l) 146 cn t) 145 cn k) 147 cn s) 148 cn a) 143 3 (nI (cn + 1))
theorem kee {σ : Sg} {p' cn : Nat} (k t s a l : Int32) (h3 : σ 143 3 = nI cn) (hcn : cn < 20) : f_X2_keepFault_0 l t k s a (st σ 143 2 (nI p')) = some (0, kf σ p' cn k t s a l) := by
  have hcl : (nI cn).toNatClampNeg = cn := nI_clamp (by omega)
  have h20 : nI cn < 20 := by rw [show (20 : Int32) = nI 20 from rfl]; exact nI_lt hcn (by decide)
  have g : ¬ (nI cn < 0 ∨ 20 ≤ cn) := inb2 hcn (by decide)
  have e : st σ 143 2 (nI p') 143 3 = nI cn := by simp [st_r, h3]
  rw [f_X2_keepFault_0, e, if_pos h20, hcl, if_neg g]
  simp only [wb_eq, st_o 143 (show 143 ≠ 149 by decide), st_o 143 (show 143 ≠ 146 by decide), st_o 143 (show 143 ≠ 145 by decide), st_o 143 (show 143 ≠ 147 by decide), st_o 143 (show 143 ≠ 148 by decide), e, hcl, if_neg g, nI_1]
  rfl
theorem RP.mv {m p p' : Nat} {g : Nat → Nat} {σ σ' : Sg} (h : RP m g σ p) (h1 : σ' 150 5 = σ 150 5) (h2 : σ' 150 6 = nI p') (h3 : σ' 155 = σ 155) : RP m g σ' p' := ⟨h1.trans h.1, h2, fun j hj => by rw [h3]; exact h.2.2 j hj⟩
theorem ixs {cn i : Nat} (hcn : cn ≤ 20) (hi : i < 5) : nI (5 * cn) + nI i = nI (5 * cn + i) ∧ (nI (5 * cn + i)).toNatClampNeg = 5 * cn + i ∧ ¬ (nI (5 * cn + i) < 0 ∨ 155 ≤ 5 * cn + i) := ⟨nI_add _ _, nI_clamp (by omega), inb2 (by omega) (by decide)⟩
/-- the tail after a failure -/
theorem r188 {cn : Nat} (hcn : cn ≤ 20) (l : Int32) (σ : Sg) : f_X5_readFault_188 l (nI (5 * cn) + 4) σ = some (0, st (st σ 156 (5 * cn + 4) l) 150 9 (σ 150 9 + 1)) := by
  obtain ⟨e1, e2, e3⟩ := ixs (i := 4) hcn (by decide)
  rw [f_X5_readFault_188, show nI (5 * cn) + 4 = nI (5 * cn + 4) from e1, e2, if_neg e3, wb_eq, wb_eq, st_o 150 (by decide)]
theorem r166f {cn : Nat} (hcn : cn ≤ 20) (s : Int32) {σ : Sg} (h7 : ¬ σ 150 7 = 0) : f_X5_readFault_166 (nI (5 * cn)) s (nI (5 * cn) + 3) σ = some (0, st (st (st σ 156 (5 * cn + 3) s) 156 (5 * cn + 4) 0) 150 9 (σ 150 9 + 1)) := by
  obtain ⟨e1, e2, e3⟩ := ixs (i := 3) hcn (by decide)
  rw [f_X5_readFault_166, show nI (5 * cn) + 3 = nI (5 * cn + 3) from e1, e2, if_neg e3, wb_eq, tak_f 33 (by rw [st_o 150 (by decide)]; exact h7), cb_some, if_pos rfl, r188 hcn, st_o 150 (by decide)]
theorem r138f {cn : Nat} (hcn : cn ≤ 20) (s : Int32) {σ : Sg} (h7 : ¬ σ 150 7 = 0) : f_X5_readFault_138 (nI (5 * cn)) s (nI (5 * cn) + 2) σ = some (0, st (st (st (st σ 156 (5 * cn + 2) s) 156 (5 * cn + 3) 0) 156 (5 * cn + 4) 0) 150 9 (σ 150 9 + 1)) := by
  obtain ⟨e1, e2, e3⟩ := ixs (i := 2) hcn (by decide)
  rw [f_X5_readFault_138, show nI (5 * cn) + 2 = nI (5 * cn + 2) from e1, e2, if_neg e3, wb_eq, tak_f 42 (by rw [st_o 150 (by decide)]; exact h7), cb_some, if_pos rfl, r166f hcn _ (by rw [st_o 150 (by decide)]; exact h7), st_o 150 (by decide)]
theorem flt {m : Nat} {g : Nat → Nat} (hg : GC m g) {p : Nat} (hp : p ≤ m) : (∃ p', p ≤ p' ∧ p' ≤ m ∧ (∀ σ, CP m g σ p → f_X2_readFault_0 σ = some (0, st σ 143 2 (nI p'))) ∧ ∀ σ cn, RP m g σ p → σ 150 9 = nI cn → cn ≤ 20 → ∃ σ', f_X5_readFault_0 σ = some (0, σ') ∧ σ' 150 5 = nI m ∧ σ' 150 6 = nI p' ∧ ¬ σ' 150 7 = 0 ∧ ∀ a, a ≠ 150 → a ≠ 156 → σ' a = σ a) ∨ ∃ p' k t s a l, p + 2 ≤ p' ∧ p' ≤ m ∧ t < 6 ∧ l < 2 ∧ (∀ σ cn, CP m g σ p → σ 143 3 = nI cn → cn < 20 → f_X2_readFault_0 σ = some (1, kf σ p' cn k (nI t) s a (nI l))) ∧ ∀ σ cn, RP m g σ p → σ 150 9 = nI cn → cn ≤ 20 → ∃ σ', f_X5_readFault_0 σ = some (0, σ') ∧ RP m g σ' p' ∧ σ' 150 7 = 0 ∧ σ' 150 9 = nI (cn + 1) ∧ (∀ a, a ≠ 150 → a ≠ 156 → σ' a = σ a) ∧ (∀ j, j < 5 * cn → σ' 156 j = σ 156 j) ∧ σ' 156 (5 * cn) = k ∧ σ' 156 (5 * cn + 1) = nI t ∧ σ' 156 (5 * cn + 2) = s ∧ σ' 156 (5 * cn + 3) = a ∧ σ' 156 (5 * cn + 4) = nI l := by
  have hm := hg.1
  have hs := sg_le (p := p) hg
  have hR0 : ∀ (kd : Int32), (∀ σ, f_X5_kindOf_0 (nI (sg g m p)) σ = some (kd, σ)) → ∀ σ cn, RP m g σ p → σ 150 9 = nI cn → cn ≤ 20 → f_X5_readFault_0 σ = if 0 ≤ kd then f_X5_readFault_55 (nI (5 * cn)) 1 (nI p) (st (st σ 156 (5 * cn) kd) 150 7 0) else f_X5_readFault_55 (nI (5 * cn)) 0 (nI p) (st (st σ 156 (5 * cn) kd) 150 7 1) := by
    intro kd hkd σ cn hR h9 hcn
    have e5 : 5 * nI cn = nI (5 * cn) := by rw [show (5 : Int32) = nI 5 from rfl, pk_mul]
    have hcl : (nI (5 * cn)).toNatClampNeg = 5 * cn := nI_clamp (by omega)
    rw [f_X5_readFault_0, next_r hg hR hp, cb_some, hkd, cb_some, h9, e5, hcl, if_neg (inb2 (by omega) (by decide)), wb_eq, if_neg (inb2 (by omega) (by decide))]
    have er : st σ 156 (5 * cn) kd 156 (5 * cn) = kd := by simp [st_r]
    rw [er]
    by_cases h : 0 ≤ kd
    · rw [if_pos h, if_pos h, f_X5_readFault_35, if_pos (by decide), wb_eq, if_pos (by simp [st_r])]
      congr 1
      simp [st_r, hR.2.1]
    · rw [if_neg h, if_neg h, f_X5_readFault_35, if_pos (by decide), wb_eq, if_neg (by simp [st_r])]
      congr 1
      simp [st_r, hR.2.1]
  rcases kind_r (nI (sg g m p)) with ⟨k, k6, kc, kr⟩ | ⟨kc, kr⟩
  · have hpm : p < m := by
      refine Nat.lt_of_not_le (fun z => ?_)
      have : sg g m p = 0 := by unfold sg; rw [if_neg (by omega)]
      rw [this] at kc
      have h1 : kx (nI 0) = -1 := by decide
      rw [h1] at kc
      have := nI_pos (n := k) (by omega)
      rw [← kc] at this
      exact this (by decide)
    have hs1 := sg_le (p := p + 1) hg
    have cC : ∀ σ, CP m g σ p → f_X2_readFault_0 σ = (if 48 ≤ sg g m (p + 1) ∧ sg g m (p + 1) ≤ 53 then (cb (f_X2_accept_0 (nI 64) (st σ 143 2 (nI (p + 2)))) fun v s => if v = 0 then f_X2_readFault_72 (nI k) (nI (sg g m (p + 1) - 48)) 0 s else cb (f_X2_readNumber_0 (nI 5000) s) fun n s2 => f_X2_readFault_72 (nI k) (nI (sg g m (p + 1) - 48)) n s2) else some (0, st σ 143 2 (nI (p + 1)))) := by
      intro σ hC
      rw [f_X2_readFault_0, sign_c hg hC hp, cb_some, kind_c hs, cb_some, kc, if_pos (nI_pos' (by omega)), wb_eq, hC.2.1, nI_1, dig_c hg (hC.to (p + 1)) (by omega), cb_some, win_c, cb_some]
      by_cases hd : 48 ≤ sg g m (p + 1) ∧ sg g m (p + 1) ≤ 53
      · have ed : dgt (sg g m (p + 1)) = nI (sg g m (p + 1) - 48) := by unfold dgt; rw [if_pos (by omega)]
        have ew : win (nI (sg g m (p + 1) - 48)) 0 5 = 1 := (win_i (lo := 0) (hi := 5) (by omega) (by decide) (by decide)).trans (if_pos (by omega))
        rw [if_pos hd, ed, ew, if_neg (by decide), wb_eq, st_st]
        have e2 : st σ 143 2 (nI (p + 1)) 143 2 + 1 = nI (p + 2) := by simp only [st_r, and_self, if_true]; rw [nI_1]
        rw [e2]
        rfl
      · have ew : win (dgt (sg g m (p + 1))) 0 5 = 0 := by
          unfold dgt
          by_cases h2 : 48 ≤ sg g m (p + 1) ∧ sg g m (p + 1) ≤ 57
          · rw [if_pos h2]; exact (win_i (lo := 0) (hi := 5) (by omega) (by decide) (by decide)).trans (if_neg (by omega))
          · rw [if_neg h2]; decide
        rw [if_neg hd, ew, if_pos rfl]
    have cR : ∀ σ cn, RP m g σ p → σ 150 9 = nI cn → cn ≤ 20 → f_X5_readFault_0 σ = (if 48 ≤ sg g m (p + 1) ∧ sg g m (p + 1) ≤ 53 then (cb (f_X5_takes_0 (nI 64) (st (st (st (st (st σ 156 (5 * cn) (nI k)) 150 7 0) 150 6 (nI (p + 1))) 156 (5 * cn + 1) (nI (sg g m (p + 1) - 48))) 150 6 (nI (p + 2)))) fun v s => if v = 0 then f_X5_readFault_138 (nI (5 * cn)) 0 (nI (5 * cn) + 2) s else cb (f_X5_readNumber_0 (nI 5000) s) fun n s2 => f_X5_readFault_138 (nI (5 * cn)) n (nI (5 * cn) + 2) s2) else some (0, st (st (st (st σ 156 (5 * cn) (nI k)) 150 7 0) 150 6 (nI (p + 1))) 150 7 1)) := by
      intro σ cn hR h9 hcn
      obtain ⟨i1, i2, i3⟩ := ixs (i := 1) hcn (by decide)
      have R1 : RP m g (st (st (st σ 156 (5 * cn) (nI k)) 150 7 0) 150 6 (nI (p + 1))) (p + 1) := hR.mv (by simp [st_r]) (by simp [st_r]) (by rw [st_o _ (by decide), st_o _ (by decide), st_o _ (by decide)])
      rw [hR0 _ kr σ cn hR h9 hcn, if_pos (nI_pos' (by omega)), f_X5_readFault_55, wb_eq, nI_1, if_pos (by simp [st_r]), next_r hg R1 (by omega), cb_some, win_r, cb_some]
      have ew : win (nI (sg g m (p + 1))) 48 53 = if 48 ≤ sg g m (p + 1) ∧ sg g m (p + 1) ≤ 53 then 1 else 0 := win_i (lo := 48) (hi := 53) (by omega) (by decide) (by decide)
      rw [ew]
      by_cases hd : 48 ≤ sg g m (p + 1) ∧ sg g m (p + 1) ≤ 53
      · rw [if_pos hd, if_pos hd, if_neg (by decide), next_r hg R1 (by omega), cb_some, show nI (5 * cn) + 1 = nI (5 * cn + 1) from i1, i2, if_neg i3, wb_eq, wb_eq, show (48 : Int32) = nI 48 from rfl, pk_sub hd.1]
        have e2 : st (st (st (st σ 156 (5 * cn) (nI k)) 150 7 0) 150 6 (nI (p + 1))) 156 (5 * cn + 1) (nI (sg g m (p + 1) - 48)) 150 6 + 1 = nI (p + 2) := by
          rw [st_o 150 (by decide), R1.2.1, nI_1]
        rw [e2]
        rfl
      · rw [if_neg hd, if_neg hd, if_pos rfl, f_X5_readFault_80, wb_eq]
    by_cases hd : 48 ≤ sg g m (p + 1) ∧ sg g m (p + 1) ≤ 53
    · have hpm1 : p + 1 < m := sg_lt (g := g) (by omega)
      let R2 := fun (σ : Sg) (cn : Nat) => st (st (st (st (st σ 156 (5 * cn) (nI k)) 150 7 0) 150 6 (nI (p + 1))) 156 (5 * cn + 1) (nI (sg g m (p + 1) - 48))) 150 6 (nI (p + 2))
      have hR2 : ∀ σ cn, RP m g σ p → RP m g (R2 σ cn) (p + 2) := fun σ cn hR => hR.mv (by simp [R2, st_r]) (by simp [R2, st_r]) (by simp only [R2]; rw [st_o _ (by decide), st_o _ (by decide), st_o _ (by decide), st_o _ (by decide), st_o _ (by decide)])
      have h72 : ∀ σ cn, R2 σ cn 150 7 = 0 := fun σ cn => by simp [R2, st_r]
      have h92 : ∀ σ cn, R2 σ cn 150 9 = σ 150 9 := fun σ cn => by simp [R2, st_r]
      have hF2 : ∀ σ cn a, a ≠ 150 → a ≠ 156 → R2 σ cn a = σ a := fun σ cn a h1 h2 => by simp only [R2]; rw [st_o _ h1, st_o _ h2, st_o _ h1, st_o _ h1, st_o _ h2]
      rcases optn hg (mx := 5000) (c := 64) (by decide) (by decide) (by decide) (show p + 2 ≤ m by omega) with ⟨p3, a1, a2, a3, a4⟩ | ⟨sv1, p3, a1, a2, a3, a4, a5⟩
      · refine Or.inl ⟨p3, by omega, a2, fun σ hC => ?_, fun σ cn hR h9 hcn => ?_⟩
        · rw [cC σ hC, if_pos hd]
          refine (a3 _ (fun n s => f_X2_readFault_72 (nI k) (nI (sg g m (p + 1) - 48)) n s) (hC.to (p + 2))).trans ?_
          rw [st_st]
          show f_X2_readFault_72 _ _ (-1) _ = _
          rw [f_X2_readFault_72, if_neg (by decide)]
        · have e := cR σ cn hR h9 hcn
          rw [if_pos hd] at e
          replace e := e.trans (a4 (R2 σ cn) (fun n s => f_X5_readFault_138 (nI (5 * cn)) n (nI (5 * cn) + 2) s) (hR2 σ cn hR) (h72 σ cn))
          replace e := e.trans (r138f hcn 0 (by simp [st_r]))
          refine ⟨_, e, ?_, by simp [st_r], by simp [st_r], fun a h1 h2 => ?_⟩
          · have := (hR2 σ cn hR).1
            simpa [st_r] using this
          · rw [st_o _ h1, st_o _ h2, st_o _ h2, st_o _ h2, st_o _ h1, st_o _ h1]; exact hF2 σ cn a h1 h2
      · let R3 := fun (σ : Sg) (cn : Nat) => st (st (R2 σ cn) 150 6 (nI p3)) 156 (5 * cn + 2) (nI sv1)
        have hR3 : ∀ σ cn, RP m g σ p → RP m g (R3 σ cn) p3 := fun σ cn hR => (hR2 σ cn hR).mv (by simp [R3, st_r]) (by simp [R3, st_r]) (by simp only [R3]; rw [st_o _ (by decide), st_o _ (by decide)])
        have h73 : ∀ σ cn, R3 σ cn 150 7 = 0 := fun σ cn => by have := h72 σ cn; simpa [R3, st_r] using this
        have h93 : ∀ σ cn, R3 σ cn 150 9 = σ 150 9 := fun σ cn => by have := h92 σ cn; simpa [R3, st_r] using this
        have hF3 : ∀ σ cn a, a ≠ 150 → a ≠ 156 → R3 σ cn a = σ a := fun σ cn a h1 h2 => by simp only [R3]; rw [st_o _ h2, st_o _ h1]; exact hF2 σ cn a h1 h2
        have cR3 : ∀ σ cn, RP m g σ p → σ 150 9 = nI cn → cn ≤ 20 → f_X5_readFault_0 σ = (cb (f_X5_takes_0 (nI 42) (R3 σ cn)) fun v s => if v = 0 then f_X5_readFault_166 (nI (5 * cn)) 0 (nI (5 * cn) + 3) s else cb (f_X5_readNumber_0 (nI 500) s) fun n s2 => f_X5_readFault_166 (nI (5 * cn)) n (nI (5 * cn) + 3) s2) := by
          intro σ cn hR h9 hcn
          obtain ⟨i1, i2, i3⟩ := ixs (i := 2) hcn (by decide)
          have e := cR σ cn hR h9 hcn
          rw [if_pos hd] at e
          replace e := e.trans (a5 (R2 σ cn) (fun n s => f_X5_readFault_138 (nI (5 * cn)) n (nI (5 * cn) + 2) s) (hR2 σ cn hR) (h72 σ cn))
          rw [e]
          show f_X5_readFault_138 _ _ _ _ = _
          rw [f_X5_readFault_138, show nI (5 * cn) + 2 = nI (5 * cn + 2) from i1, i2, if_neg i3, wb_eq]
          rfl
        have cC3 : ∀ σ, CP m g σ p → f_X2_readFault_0 σ = (cb (f_X2_accept_0 (nI 42) (st σ 143 2 (nI p3))) fun v s => if v = 0 then f_X2_readFault_99 (nI k) (nI (sg g m (p + 1) - 48)) (nI sv1) 0 s else cb (f_X2_readNumber_0 (nI 500) s) fun n s2 => f_X2_readFault_99 (nI k) (nI (sg g m (p + 1) - 48)) (nI sv1) n s2) := by
          intro σ hC
          rw [cC σ hC, if_pos hd]
          refine (a4 _ (fun n s => f_X2_readFault_72 (nI k) (nI (sg g m (p + 1) - 48)) n s) (hC.to (p + 2))).trans ?_
          rw [st_st]
          show f_X2_readFault_72 _ _ (nI sv1) _ = _
          rw [f_X2_readFault_72, if_pos (nI_pos' (by omega))]
          rfl
        rcases optn hg (mx := 500) (c := 42) (by decide) (by decide) (by decide) a2 with ⟨p4, b1, b2, b3, b4⟩ | ⟨av, p4, b1, b2, b3, b4, b5⟩
        · refine Or.inl ⟨p4, by omega, b2, fun σ hC => ?_, fun σ cn hR h9 hcn => ?_⟩
          · rw [cC3 σ hC]
            refine (b3 _ (fun n s => f_X2_readFault_99 (nI k) (nI (sg g m (p + 1) - 48)) (nI sv1) n s) (hC.to p3)).trans ?_
            rw [st_st]
            show f_X2_readFault_99 _ _ _ (-1) _ = _
            rw [f_X2_readFault_99, if_neg (by decide)]
          · have e := cR3 σ cn hR h9 hcn
            replace e := e.trans (b4 (R3 σ cn) (fun n s => f_X5_readFault_166 (nI (5 * cn)) n (nI (5 * cn) + 3) s) (hR3 σ cn hR) (h73 σ cn))
            replace e := e.trans (r166f hcn 0 (by simp [st_r]))
            refine ⟨_, e, ?_, by simp [st_r], by simp [st_r], fun a h1 h2 => ?_⟩
            · have := (hR3 σ cn hR).1
              simpa [st_r] using this
            · rw [st_o _ h1, st_o _ h2, st_o _ h2, st_o _ h1, st_o _ h1]; exact hF3 σ cn a h1 h2
        · let R4 := fun (σ : Sg) (cn : Nat) => st (st (R3 σ cn) 150 6 (nI p4)) 156 (5 * cn + 3) (nI av)
          have hR4 : ∀ σ cn, RP m g σ p → RP m g (R4 σ cn) p4 := fun σ cn hR => (hR3 σ cn hR).mv (by simp [R4, st_r]) (by simp [R4, st_r]) (by simp only [R4]; rw [st_o _ (by decide), st_o _ (by decide)])
          have h74 : ∀ σ cn, R4 σ cn 150 7 = 0 := fun σ cn => by have := h73 σ cn; simpa [R4, st_r] using this
          have h94 : ∀ σ cn, R4 σ cn 150 9 = σ 150 9 := fun σ cn => by have := h93 σ cn; simpa [R4, st_r] using this
          have hF4 : ∀ σ cn a, a ≠ 150 → a ≠ 156 → R4 σ cn a = σ a := fun σ cn a h1 h2 => by simp only [R4]; rw [st_o _ h2, st_o _ h1]; exact hF3 σ cn a h1 h2
          have hA4 : ∀ σ cn, (∀ j, j < 5 * cn → R4 σ cn 156 j = σ 156 j) ∧ R4 σ cn 156 (5 * cn) = nI k ∧ R4 σ cn 156 (5 * cn + 1) = nI (sg g m (p + 1) - 48) ∧ R4 σ cn 156 (5 * cn + 2) = nI sv1 ∧ R4 σ cn 156 (5 * cn + 3) = nI av := fun σ cn => by
            refine ⟨fun j hj => ?_, ?_, ?_, ?_, ?_⟩
            · have : ¬ j = 5 * cn ∧ ¬ j = 5 * cn + 1 ∧ ¬ j = 5 * cn + 2 ∧ ¬ j = 5 * cn + 3 := by omega
              simp [R4, R3, R2, st_r, this]
            · simp [R4, R3, R2, st_r]
            · simp [R4, R3, R2, st_r]
            · simp [R4, R3, R2, st_r]
            · simp [R4, R3, R2, st_r]
          have cR4 : ∀ σ cn, RP m g σ p → σ 150 9 = nI cn → cn ≤ 20 → f_X5_readFault_0 σ = (cb (f_X5_takes_0 33 (R4 σ cn)) fun v s => if v = 0 then f_X5_readFault_188 0 (nI (5 * cn) + 4) s else f_X5_readFault_188 1 (nI (5 * cn) + 4) s) := by
            intro σ cn hR h9 hcn
            obtain ⟨i1, i2, i3⟩ := ixs (i := 3) hcn (by decide)
            have e := cR3 σ cn hR h9 hcn
            replace e := e.trans (b5 (R3 σ cn) (fun n s => f_X5_readFault_166 (nI (5 * cn)) n (nI (5 * cn) + 3) s) (hR3 σ cn hR) (h73 σ cn))
            rw [e]
            show f_X5_readFault_166 _ _ _ _ = _
            rw [f_X5_readFault_166, show nI (5 * cn) + 3 = nI (5 * cn + 3) from i1, i2, if_neg i3, wb_eq]
          have cC4 : ∀ σ, CP m g σ p → f_X2_readFault_0 σ = (cb (f_X2_accept_0 33 (st σ 143 2 (nI p4))) fun v s => if v = 0 then f_X2_readFault_123 (nI k) (nI (sg g m (p + 1) - 48)) (nI sv1) (nI av) 0 s else f_X2_readFault_123 (nI k) (nI (sg g m (p + 1) - 48)) (nI sv1) (nI av) 1 s) := by
            intro σ hC
            rw [cC3 σ hC]
            refine (b4 _ (fun n s => f_X2_readFault_99 (nI k) (nI (sg g m (p + 1) - 48)) (nI sv1) n s) (hC.to p3)).trans ?_
            rw [st_st]
            show f_X2_readFault_99 _ _ _ (nI av) _ = _
            rw [f_X2_readFault_99, if_pos (nI_pos' (by omega))]
          by_cases hx : sg g m p4 = 33
          · have hp4 : p4 < m := sg_lt (g := g) (by omega)
            refine Or.inr ⟨p4 + 1, nI k, sg g m (p + 1) - 48, nI sv1, nI av, 1, by omega, by omega, by omega, by decide, fun σ cn hC h3 hcn => ?_, fun σ cn hR h9 hcn => ?_⟩
            · rw [cC4 σ hC, show (33 : Int32) = nI 33 from rfl, acc_c hg (hC.to p4) b2 (by decide), if_pos hx, cb_some, if_neg (by decide), st_st, f_X2_readFault_123]
              rw [show (1 : Int32) = nI 1 from rfl, kee _ _ _ _ _ h3 hcn, cb_some]
            · have e := cR4 σ cn hR h9 hcn
              rw [show (33 : Int32) = nI 33 from rfl, tak_r hg (hR4 σ cn hR) (h74 σ cn) b2 (by decide), if_pos hx, cb_some, if_neg (by decide), r188 hcn] at e
              obtain ⟨A1, A2, A3, A4, A5⟩ := hA4 σ cn
              have e9 : st (R4 σ cn) 150 6 (nI (p4 + 1)) 150 9 = nI cn := by simp only [st_r]; rw [if_neg (by decide), h94, h9]
              rw [e9] at e
              refine ⟨_, e, ?_, ?_, ?_, fun a h1 h2 => ?_, fun j hj => ?_, ?_, ?_, ?_, ?_, ?_⟩
              · exact (hR4 σ cn hR).mv (by simp [st_r]) (by simp [st_r]) (by rw [st_o _ (by decide), st_o _ (by decide), st_o _ (by decide)])
              · have := h74 σ cn; simpa [st_r] using this
              · simp [st_r, nI_1]
              · rw [st_o _ h1, st_o _ h2, st_o _ h1]; exact hF4 σ cn a h1 h2
              · rw [st_o _ (by decide), st_r, if_neg (by omega), st_o _ (by decide)]; exact A1 j hj
              · rw [st_o _ (by decide), st_r, if_neg (by omega), st_o _ (by decide)]; exact A2
              · rw [st_o _ (by decide), st_r, if_neg (by omega), st_o _ (by decide)]; exact A3
              · rw [st_o _ (by decide), st_r, if_neg (by omega), st_o _ (by decide)]; exact A4
              · rw [st_o _ (by decide), st_r, if_neg (by omega), st_o _ (by decide)]; exact A5
              · simp [st_r]; rfl
          · refine Or.inr ⟨p4, nI k, sg g m (p + 1) - 48, nI sv1, nI av, 0, by omega, by omega, by omega, by decide, fun σ cn hC h3 hcn => ?_, fun σ cn hR h9 hcn => ?_⟩
            · rw [cC4 σ hC, show (33 : Int32) = nI 33 from rfl, acc_c hg (hC.to p4) b2 (by decide), if_neg hx, cb_some, if_pos rfl, f_X2_readFault_123]
              rw [show (0 : Int32) = nI 0 from rfl, kee _ _ _ _ _ h3 hcn, cb_some]
            · have e := cR4 σ cn hR h9 hcn
              rw [show (33 : Int32) = nI 33 from rfl, tak_r hg (hR4 σ cn hR) (h74 σ cn) b2 (by decide), if_neg hx, cb_some, if_pos rfl, r188 hcn, h94, h9] at e
              obtain ⟨A1, A2, A3, A4, A5⟩ := hA4 σ cn
              refine ⟨_, e, ?_, ?_, ?_, fun a h1 h2 => ?_, fun j hj => ?_, ?_, ?_, ?_, ?_, ?_⟩
              · exact (hR4 σ cn hR).mv (by simp [st_r]) (by have := (hR4 σ cn hR).2.1; simpa [st_r] using this) (by rw [st_o _ (by decide), st_o _ (by decide)])
              · have := h74 σ cn; simpa [st_r] using this
              · simp [st_r, nI_1]
              · rw [st_o _ h1, st_o _ h2]; exact hF4 σ cn a h1 h2
              · rw [st_o _ (by decide), st_r, if_neg (by omega)]; exact A1 j hj
              · rw [st_o _ (by decide), st_r, if_neg (by omega)]; exact A2
              · rw [st_o _ (by decide), st_r, if_neg (by omega)]; exact A3
              · rw [st_o _ (by decide), st_r, if_neg (by omega)]; exact A4
              · rw [st_o _ (by decide), st_r, if_neg (by omega)]; exact A5
              · simp [st_r]; rfl
    · refine Or.inl ⟨p + 1, by omega, by omega, fun σ hC => by rw [cC σ hC, if_neg hd], fun σ cn hR h9 hcn => ⟨_, by rw [cR σ cn hR h9 hcn, if_neg hd], ?_, by simp [st_r], by simp [st_r], fun a h1 h2 => by rw [st_o _ h1, st_o _ h1, st_o _ h1, st_o _ h2]⟩⟩
      have := hR.1
      simpa [st_r] using this
  · refine Or.inl ⟨p, Nat.le_refl p, hp, fun σ hC => ?_, fun σ cn hR h9 hcn => ?_⟩
    · rw [f_X2_readFault_0, sign_c hg hC hp, cb_some, kind_c hs, cb_some, kc, if_neg (by decide), hC.id]
    · have e := hR0 _ kr σ cn hR h9 hcn
      rw [if_neg (by decide), f_X5_readFault_55, wb_eq, if_neg (by simp [st_r]), f_X5_readFault_80, wb_eq] at e
      refine ⟨_, e, ?_, ?_, by simp [st_r], fun a h1 h2 => by rw [st_o _ h1, st_o _ h1, st_o _ h1, st_o _ h2]⟩
      · have := hR.1
        simpa [st_r] using this
      · simp [st_r]
