/-! all faults are read, and go in -/
abbrev FF := Nat → Int32 × Nat × Int32 × Int32 × Nat
def CL (σ : Sg) (cn : Nat) (F : FF) : Prop := ∀ j, j < cn → σ 145 j = (F j).1 ∧ σ 146 j = nI (F j).2.1 ∧ σ 147 j = (F j).2.2.1 ∧ σ 148 j = (F j).2.2.2.1 ∧ σ 149 j = nI (F j).2.2.2.2
def RM (σ : Sg) (cn : Nat) (F : FF) : Prop := ∀ j, j < cn → σ 156 (5 * j) = (F j).1 ∧ σ 156 (5 * j + 1) = nI (F j).2.1 ∧ σ 156 (5 * j + 2) = (F j).2.2.1 ∧ σ 156 (5 * j + 3) = (F j).2.2.2.1 ∧ σ 156 (5 * j + 4) = nI (F j).2.2.2.2
def FV (cn : Nat) (F : FF) : Prop := ∀ j, j < cn → (F j).2.1 < 6 ∧ (F j).2.2.2.2 < 2
def ad1 (F : FF) (cn : Nat) (e : Int32 × Nat × Int32 × Int32 × Nat) : FF := fun j => if j = cn then e else F j
theorem kf_CP {m p p' cn : Nat} {g : Nat → Nat} {σ : Sg} (k t s a l : Int32) (h : CP m g σ p) : CP m g (kf σ p' cn k t s a l) p' := ⟨by have := h.1; simpa [kf, st_r] using this, by simp [kf, st_r], fun j hj => by have := h.2.2 j hj; simpa [kf, st_r] using this⟩
theorem kf_3 {σ : Sg} (p' cn : Nat) (k t s a l : Int32) : kf σ p' cn k t s a l 143 3 = nI (cn + 1) := by simp [kf, st_r]
theorem kf_CL {σ : Sg} {p' cn : Nat} {F : FF} {k : Int32} {t : Nat} {s a : Int32} {l : Nat} (h : CL σ cn F) : CL (kf σ p' cn k (nI t) s a (nI l)) (cn + 1) (ad1 F cn (k, t, s, a, l)) := fun j hj => by
  by_cases hjc : j = cn
  · subst hjc; simp [kf, st_r, ad1]
  · have := h j (by omega)
    simp [kf, st_r, ad1, hjc]; simpa using this
theorem kf_F {σ : Sg} (p' cn : Nat) (k t s a l : Int32) {b : Nat} (h : b < 143 ∨ 150 ≤ b ∨ b = 144) : kf σ p' cn k t s a l b = σ b := by
  simp only [kf]
  rw [st_o b (by omega), st_o b (by omega), st_o b (by omega), st_o b (by omega), st_o b (by omega), st_o b (by omega), st_o b (by omega)]
theorem FV.ad {cn : Nat} {F : FF} (h : FV cn F) {k : Int32} {t : Nat} {s a : Int32} {l : Nat} (ht : t < 6) (hl : l < 2) : FV (cn + 1) (ad1 F cn (k, t, s, a, l)) := fun j hj => by
  by_cases hjc : j = cn
  · subst hjc; simp [ad1, ht, hl]
  · have := h j (by omega)
    simp [ad1, hjc]; exact this
theorem RM.ad {σ σ' : Sg} {cn : Nat} {F : FF} {k : Int32} {t : Nat} {s a : Int32} {l : Nat} (h : RM σ cn F) (h0 : ∀ j, j < 5 * cn → σ' 156 j = σ 156 j) (h1 : σ' 156 (5 * cn) = k) (h2 : σ' 156 (5 * cn + 1) = nI t) (h3 : σ' 156 (5 * cn + 2) = s) (h4 : σ' 156 (5 * cn + 3) = a) (h5 : σ' 156 (5 * cn + 4) = nI l) : RM σ' (cn + 1) (ad1 F cn (k, t, s, a, l)) := fun j hj => by
  by_cases hjc : j = cn
  · subst hjc; simp only [ad1, if_true]; exact ⟨h1, h2, h3, h4, h5⟩
  · have := h j (by omega)
    rw [h0 _ (by omega), h0 _ (by omega), h0 _ (by omega), h0 _ (by omega), h0 _ (by omega)]
    simp only [ad1, hjc, if_false]; exact this
theorem c47 {σ : Sg} {p' : Nat} (x1 : Int32) (h : x1 = 0) (h2 : σ 143 2 = nI p') : f_X2_readFaults_47 x1 σ = some (nI p', σ) := by
  rw [f_X2_readFaults_47, if_pos h, f_X2_readFaults_67, f_X2_readFaults_71, h2]
theorem flp {m : Nat} {g : Nat → Nat} (hg : GC m g) : ∀ (d p c : Nat) (F : FF), p ≤ m → m ≤ p + d → 3 * c + 2 ≤ p → FV (c + 1) F → ∃ res cn F', cn ≤ 20 ∧ FV cn F' ∧ (∀ σ f, CP m g σ p → σ 143 3 = nI (c + 1) → CL σ (c + 1) F → d + 1 < f → ∃ σ', f_X2_readFaults_17 f 1 (nI c) σ = some (res, σ') ∧ (∀ b, (b < 143 ∨ 150 ≤ b ∨ b = 144) → σ' b = σ b) ∧ σ' 143 1 = nI m ∧ (res = -6 → σ' 143 3 = nI cn ∧ CL σ' cn F')) ∧ ∀ σ f, RP m g σ p → σ 150 7 = 0 → σ 150 9 = nI (c + 1) → RM σ (c + 1) F → d + 1 < f → ∃ σ', f_X5_position_19 f σ = some (res, σ') ∧ (∀ b, b ≠ 150 → b ≠ 156 → σ' b = σ b) ∧ σ' 150 5 = nI m ∧ (res = -6 → σ' 150 9 = nI cn ∧ RM σ' cn F')
  | d, p, c, F, hp, hmd, h3, hF => by
    have hm := hg.1
    have lt20 : ¬ (20 : Int32) ≤ nI c := by rw [show (20 : Int32) = nI 20 from rfl]; exact nI_ge (by omega) (by decide)
    have cstep : ∀ σ f, CP m g σ p → d + 1 < f → f_X2_readFaults_17 f 1 (nI c) σ = if sg g m p = 44 then cb (f_X2_readFault_0 (st σ 143 2 (nI (p + 1)))) (fun v s => f_X2_readFaults_17 (f - 1) v (nI (c + 1)) s) else f_X2_readFaults_47 1 σ := by
      intro σ f hC hf
      obtain ⟨f, rfl⟩ : ∃ f', f = f' + 1 := ⟨f - 1, by omega⟩
      rw [f_X2_readFaults_17, if_neg lt20, if_neg (by decide), show (44 : Int32) = nI 44 from rfl, acc_c hg hC hp (by decide)]
      by_cases h : sg g m p = 44
      · rw [if_pos h, if_pos h, cb_some, if_neg (by decide), nI_1]; rfl
      · rw [if_neg h, if_neg h, cb_some, if_pos rfl]
    have rstep : ∀ σ f, RP m g σ p → σ 150 7 = 0 → d + 1 < f → f_X5_position_19 f σ = if sg g m p = 44 then cb (f_X5_readFault_0 (st σ 150 6 (nI (p + 1)))) (fun _ s => f_X5_position_19 (f - 1) s) else if nI m ≤ nI p then some (-6, σ) else some (nI p, σ) := by
      intro σ f hR h7 hf
      obtain ⟨f, rfl⟩ : ∃ f', f = f' + 1 := ⟨f - 1, by omega⟩
      rw [f_X5_position_19, show (44 : Int32) = nI 44 from rfl, tak_r hg hR h7 hp (by decide)]
      by_cases h : sg g m p = 44
      · rw [if_pos h, if_pos h, cb_some, if_neg (by decide)]; rfl
      · rw [if_neg h, if_neg h, cb_some, if_pos rfl, if_pos h7, hR.1, hR.2.1, f_X5_position_62, f_X5_position_53, f_X5_position_62, hR.2.1]
    by_cases h44 : sg g m p = 44
    · have hpm : p < m := sg_lt (g := g) (by omega)
      rcases flt hg (show p + 1 ≤ m by omega) with ⟨p', a1, a2, a3, a4⟩ | ⟨p', k, t, s, a, l, a1, a2, ht, hl, a3, a4⟩
      · refine ⟨nI p', 0, F, by omega, fun j hj => by omega, fun σ f hC h3 hL hf => ?_, fun σ f hR h7 h9 hL hf => ?_⟩
        · refine ⟨st σ 143 2 (nI p'), ?_, fun b hb => st_o b (by omega), by have := hC.1; simpa [st_r] using this, fun z => ?_⟩
          · rw [cstep σ f hC hf, if_pos h44, a3 _ (hC.to (p + 1)), cb_some, st_st]
            obtain ⟨f, rfl⟩ : ∃ f', f = f' + 1 + 1 := ⟨f - 2, by omega⟩
            show f_X2_readFaults_17 (f + 1) 0 _ _ = _
            rw [f_X2_readFaults_17, c47 (p' := p') 0 rfl (by simp [st_r])]
            split
            · rfl
            · rw [if_pos rfl]
          · exfalso
            have := congrArg Int32.toInt z
            rw [nI_toInt (by omega), show (-6 : Int32).toInt = -6 by decide] at this
            omega
        · obtain ⟨σ', q1, q2, q3, q4, q5⟩ := a4 _ (c + 1) (hR.to (p + 1)) (by simpa [st_r] using h9) (by omega)
          refine ⟨σ', ?_, fun b b1 b2 => by rw [q5 b b1 b2]; exact st_o b b1, q2, fun z => ?_⟩
          · rw [rstep σ f hR h7 hf, if_pos h44, q1, cb_some]
            obtain ⟨f, rfl⟩ : ∃ f', f = f' + 1 + 1 := ⟨f - 2, by omega⟩
            show f_X5_position_19 (f + 1) _ = _
            rw [f_X5_position_19, tak_f 44 q4, cb_some, if_pos rfl, if_neg q4, f_X5_position_53, f_X5_position_62, q3]
          · exfalso
            have := congrArg Int32.toInt z
            rw [nI_toInt (by omega), show (-6 : Int32).toInt = -6 by decide] at this
            omega
      · obtain ⟨d, rfl⟩ : ∃ d', d = d' + 1 := ⟨d - 1, by omega⟩
        obtain ⟨res, cn, F', b1, b2, b3, b4⟩ := flp hg d p' (c + 1) (ad1 F (c + 1) (k, t, s, a, l)) a2 (by omega) (by omega) (hF.ad ht hl)
        refine ⟨res, cn, F', b1, b2, fun σ f hC h3 hL hf => ?_, fun σ f hR h7 h9 hL hf => ?_⟩
        · have hC1 := hC.to (p + 1)
          have h31 : st σ 143 2 (nI (p + 1)) 143 3 = nI (c + 1) := by simpa [st_r] using h3
          have hL1 : CL (st σ 143 2 (nI (p + 1))) (c + 1) F := fun j hj => by have := hL j hj; simpa [st_r] using this
          obtain ⟨σ', q1, q2, q3, q4⟩ := b3 _ (f - 1) (kf_CP k (nI t) s a (nI l) hC1) (kf_3 p' (c + 1) k (nI t) s a (nI l)) (kf_CL hL1) (by omega)
          refine ⟨σ', ?_, fun b hb => ?_, q3, q4⟩
          · rw [cstep σ f hC hf, if_pos h44, a3 _ (c + 1) hC1 h31 (by omega), cb_some]; exact q1
          · rw [q2 b hb, kf_F _ _ _ _ _ _ _ hb]; exact st_o b (by omega)
        · obtain ⟨s1, r1, r2, r3, r4, r5, r6, r7, r8, r9, r10, r11⟩ := a4 _ (c + 1) (hR.to (p + 1)) (by simpa [st_r] using h9) (by omega)
          have hL1 : RM (st σ 150 6 (nI (p + 1))) (c + 1) F := fun j hj => by have := hL j hj; simpa [st_r] using this
          obtain ⟨σ', q1, q2, q3, q4⟩ := b4 s1 (f - 1) r2 r3 r4 (hL1.ad r6 r7 r8 r9 r10 r11) (by omega)
          refine ⟨σ', ?_, fun b b1 b2 => ?_, q3, q4⟩
          · rw [rstep σ f hR h7 hf, if_pos h44, r1, cb_some]; exact q1
          · rw [q2 b b1 b2, r5 b b1 b2]; exact st_o b b1
    · refine ⟨if p = m then -6 else nI p, c + 1, F, by omega, hF, fun σ f hC h3 hL hf => ⟨σ, ?_, fun _ _ => rfl, hC.1, fun _ => ⟨h3, hL⟩⟩, fun σ f hR h7 h9 hL hf => ⟨σ, ?_, fun _ _ _ => rfl, hR.1, fun _ => ⟨h9, hL⟩⟩⟩
      · rw [cstep σ f hC hf, if_neg h44, f_X2_readFaults_47, if_neg (by decide), hC.1, hC.2.1]
        by_cases e : p = m
        · rw [if_pos e, if_pos (by rw [e]), f_X2_readFaults_71]
        · rw [if_neg e, if_neg (fun z => e ((nI_eq (by omega) (by omega)).mp z)), f_X2_readFaults_67, f_X2_readFaults_71, hC.2.1]
      · rw [rstep σ f hR h7 hf, if_neg h44]
        by_cases e : p = m
        · rw [if_pos e, if_pos (nI_le (by omega) (by omega))]
        · rw [if_neg e, if_neg (nI_ge (by omega) (by omega))]
theorem poss {m : Nat} {g : Nat → Nat} (hg : GC m g) : ∃ res cn F, cn ≤ 20 ∧ FV cn F ∧ (∀ σ, σ 143 1 = nI m → (∀ j, j < m → σ 144 j = nI (g j)) → ∃ σ', f_X2_readFaults_0 σ = some (res, σ') ∧ (∀ b, (b < 143 ∨ 150 ≤ b ∨ b = 144) → σ' b = σ b) ∧ σ' 143 1 = nI m ∧ (res = -6 → σ' 143 3 = nI cn ∧ CL σ' cn F)) ∧ ∀ σ, σ 150 5 = nI m → (∀ j, j < m → σ 155 j = nI (g j)) → ∃ σ', f_X5_position_0 σ = some (res, σ') ∧ (∀ b, b ≠ 150 → b ≠ 156 → σ' b = σ b) ∧ σ' 150 5 = nI m ∧ (res = -6 → σ' 150 9 = nI cn ∧ RM σ' cn F) := by
  have hm := hg.1
  have C0 : ∀ σ, σ 143 1 = nI m → (∀ j, j < m → σ 144 j = nI (g j)) → CP m g (st (st σ 143 2 0) 143 3 0) 0 := fun σ h1 h2 => ⟨by simpa [st_r] using h1, by simp [st_r]; rfl, fun j hj => by have := h2 j hj; simpa [st_r] using this⟩
  have R0 : ∀ σ, σ 150 5 = nI m → (∀ j, j < m → σ 155 j = nI (g j)) → RP m g (st (st (st σ 150 6 0) 150 7 0) 150 9 0) 0 := fun σ h1 h2 => ⟨by simpa [st_r] using h1, by simp [st_r]; rfl, fun j hj => by have := h2 j hj; simpa [st_r] using this⟩
  rcases flt hg (Nat.zero_le m) with ⟨p', a1, a2, a3, a4⟩ | ⟨p', k, t, s, a, l, a1, a2, ht, hl, a3, a4⟩
  · refine ⟨nI p', 0, fun _ => (0, 0, 0, 0, 0), by omega, fun j hj => by omega, fun σ h1 h2 => ?_, fun σ h1 h2 => ?_⟩
    · refine ⟨st (st (st σ 143 2 0) 143 3 0) 143 2 (nI p'), ?_, fun b hb => by rw [st_o b (by omega), st_o b (by omega), st_o b (by omega)], by simpa [st_r] using h1, fun z => ?_⟩
      · rw [f_X2_readFaults_0, wb_eq, wb_eq, a3 _ (C0 σ h1 h2), cb_some, show FU = 99999 + 1 from rfl, f_X2_readFaults_17, if_neg (by decide), if_pos rfl, c47 (p' := p') 0 rfl (by simp [st_r])]
      · exfalso
        have := congrArg Int32.toInt z
        rw [nI_toInt (by omega), show (-6 : Int32).toInt = -6 by decide] at this
        omega
    · obtain ⟨σ', q1, q2, q3, q4, q5⟩ := a4 _ 0 (R0 σ h1 h2) (by simp [st_r]; rfl) (by decide)
      refine ⟨σ', ?_, fun b b1 b2 => by rw [q5 b b1 b2, st_o b b1, st_o b b1, st_o b b1], q2, fun z => ?_⟩
      · rw [f_X5_position_0, wb_eq, wb_eq, wb_eq, q1, cb_some, show FU = 99999 + 1 from rfl, f_X5_position_19, tak_f 44 q4, cb_some, if_pos rfl, if_neg q4, f_X5_position_53, f_X5_position_62, q3]
      · exfalso
        have := congrArg Int32.toInt z
        rw [nI_toInt (by omega), show (-6 : Int32).toInt = -6 by decide] at this
        omega
  · obtain ⟨res, cn, F', b1, b2, b3, b4⟩ := flp hg (m - p') p' 0 (ad1 (fun _ => (0, 0, 0, 0, 0)) 0 (k, t, s, a, l)) a2 (by omega) (by omega) (FV.ad (fun j hj => by omega) ht hl)
    refine ⟨res, cn, F', b1, b2, fun σ h1 h2 => ?_, fun σ h1 h2 => ?_⟩
    · have hC := C0 σ h1 h2
      obtain ⟨σ', q1, q2, q3, q4⟩ := b3 _ FU (kf_CP k (nI t) s a (nI l) hC) (kf_3 p' 0 k (nI t) s a (nI l)) (kf_CL (fun j hj => by omega)) (by unfold FU; omega)
      refine ⟨σ', ?_, fun b hb => by rw [q2 b hb, kf_F _ _ _ _ _ _ _ hb, st_o b (by omega), st_o b (by omega)], q3, q4⟩
      rw [f_X2_readFaults_0, wb_eq, wb_eq, a3 _ 0 hC (by simp [st_r]; rfl) (by decide), cb_some]; exact q1
    · have hR := R0 σ h1 h2
      obtain ⟨s1, r1, r2, r3, r4, r5, r6, r7, r8, r9, r10, r11⟩ := a4 _ 0 hR (by simp [st_r]; rfl) (by decide)
      obtain ⟨σ', q1, q2, q3, q4⟩ := b4 s1 FU r2 r3 r4 (RM.ad (σ := s1) (fun j hj => by omega) (fun j hj => by omega) r7 r8 r9 r10 r11) (by unfold FU; omega)
      refine ⟨σ', ?_, fun b b1 b2 => by rw [q2 b b1 b2, r5 b b1 b2, st_o b b1, st_o b b1, st_o b b1], q3, q4⟩
      rw [f_X5_position_0, wb_eq, wb_eq, wb_eq, r1, cb_some]; exact q1
theorem pad_g {σ : Sg} (h : PAD σ) : ∃ m g, GC m g ∧ σ 143 1 = nI m ∧ σ 150 5 = nI m ∧ (∀ j, j < m → σ 144 j = nI (g j)) ∧ ∀ j, j < m → σ 155 j = nI (g j) := by
  obtain ⟨m, m1, m2, m3, m4⟩ := h
  have e : ∀ j, j < m → ∃ c, 33 ≤ c ∧ c ≤ 126 ∧ σ 155 j = nI c := fun j hj => (m4 j hj).2
  refine ⟨m, fun j => if h : j < m then (e j h).choose else 0, ⟨m1, fun j hj => ?_⟩, m2, m3, fun j hj => ?_, fun j hj => ?_⟩
  · simp only [dif_pos hj]; exact ⟨(e j hj).choose_spec.1, (e j hj).choose_spec.2.1⟩
  · simp only [dif_pos hj]; rw [(m4 j hj).1]; exact (e j hj).choose_spec.2.2
  · simp only [dif_pos hj]; exact (e j hj).choose_spec.2.2
theorem PAD.of {m : Nat} {g : Nat → Nat} {σ : Sg} (hg : GC m g) (h1 : σ 143 1 = nI m) (h2 : σ 150 5 = nI m) (h3 : ∀ j, j < m → σ 144 j = nI (g j)) (h4 : ∀ j, j < m → σ 155 j = nI (g j)) : PAD σ :=
  ⟨m, hg.1, h1, h2, fun j hj => ⟨by rw [h3 j hj, h4 j hj], g j, (hg.2 j hj).1, (hg.2 j hj).2, h4 j hj⟩⟩
theorem go_position : Go f_X4_position_0 f_X5_position_0 := by
  intro σ h
  obtain ⟨m, g, hg, h1, h2, h3, h4⟩ := pad_g h.2.2.2.2
  obtain ⟨res, cn, F, b1, b2, b3, b4⟩ := poss hg
  obtain ⟨s1, x1, x2, x3, -⟩ := b3 σ h1 h3
  obtain ⟨s2, y1, y2, y3, -⟩ := b4 s1 (by rw [x2 150 (by decide)]; exact h2) (fun j hj => by rw [x2 155 (by decide)]; exact h4 j hj)
  refine ⟨res, s1, s2, by rw [f_X4_position_0, x1, cb_some], y1, h.pad (fun a ha => by rw [y2 a (by omega) (by omega), x2 a (by omega)]) (PAD.of hg (by rw [y2 143 (by decide) (by decide)]; exact x3) y3 (fun j hj => by rw [y2 144 (by decide) (by decide), x2 144 (by decide)]; exact h3 j hj) (fun j hj => by rw [y2 155 (by decide) (by decide), x2 155 (by decide)]; exact h4 j hj))⟩
theorem ht_i {n t : Nat} (hn : n ≤ 6) (ht : t < 6) : htR n (nI t) = 0 ↔ n ≤ t := by
  constructor
  · intro h
    refine Nat.le_of_not_lt (fun z => ?_)
    obtain ⟨n', rfl⟩ : ∃ n', n = n' + 1 := ⟨n - 1, by omega⟩
    unfold htR at h
    rw [nI_pred, show (0 : Int32) = nI 0 from rfl, win_i (by omega) (by decide) (by omega), if_pos (by omega)] at h
    exact absurd h (by decide)
  · intro h
    refine Decidable.byContradiction (fun z => ?_)
    obtain ⟨i, hi, e⟩ := ht_n hn z
    have := (nI_eq (by omega) (by omega)).mp e
    omega
/-- the reference's loop once a task is missing -/
theorem lz {cn : Nat} (hcn : cn ≤ 20) : ∀ (d i f : Nat) (σ : Sg), i + d = cn → d < f → σ 150 9 = nI cn → f_X5_load_16 f 0 (nI i) σ = some (-1, σ)
  | 0, i, f, σ, h, hf, h9 => by
    obtain ⟨rfl, g, rfl⟩ := loop0 h hf
    rw [f_X5_load_16, h9, if_pos (nI_le (Nat.le_refl _) (by omega)), if_pos rfl]
  | d + 1, i, f + 1, σ, h, hf, h9 => by
    rw [f_X5_load_16, h9, if_neg (nI_ge (by omega) (by omega)), if_pos rfl, f_X5_load_49, f_X5_load_50, nI_1]
    exact lz hcn d (i + 1) f σ (by omega) (by omega) h9
theorem lchk {n cn : Nat} {F : FF} (hn : n ≤ 6) (hcn : cn ≤ 20) (hF : FV cn F) : ∀ (d i : Nat), i + d = cn → ((∀ j, i ≤ j → j < cn → (F j).2.1 < n) ∧ (∀ σ f, d < f → σ 143 3 = nI cn → CL σ cn F → σ 1 3 = nI n → f_X4_load_17 f (nI i) σ = f_X4_load_54 FU 0 σ) ∧ ∀ σ f, d < f → σ 150 9 = nI cn → RM σ cn F → σ 151 17 = nI n → f_X5_load_16 f 1 (nI i) σ = f_X5_load_65 FU 0 σ) ∨ ((∀ σ f, d < f → σ 143 3 = nI cn → CL σ cn F → σ 1 3 = nI n → f_X4_load_17 f (nI i) σ = some (-1, σ)) ∧ ∀ σ f, d < f → σ 150 9 = nI cn → RM σ cn F → σ 151 17 = nI n → f_X5_load_16 f 1 (nI i) σ = some (-1, σ))
  | 0, i, h => by
    obtain rfl : i = cn := by omega
    refine Or.inl ⟨fun j h1 h2 => by omega, fun σ f hf h3 hL hs => ?_, fun σ f hf h9 hL hs => ?_⟩
    · obtain ⟨f, rfl⟩ : ∃ f', f = f' + 1 := ⟨f - 1, by omega⟩
      rw [f_X4_load_17, h3, if_pos (nI_le (Nat.le_refl _) (by omega))]
    · obtain ⟨f, rfl⟩ : ∃ f', f = f' + 1 := ⟨f - 1, by omega⟩
      rw [f_X5_load_16, h9, if_pos (nI_le (Nat.le_refl _) (by omega)), if_neg (by decide)]
  | d + 1, i, h => by
    have hi : i < cn := by omega
    obtain ⟨f1, f2⟩ := hF i hi
    have cs : ∀ σ f, d + 1 < f → σ 143 3 = nI cn → CL σ cn F → σ 1 3 = nI n → f_X4_load_17 f (nI i) σ = if htR n (nI (F i).2.1) = 0 then some (-1, σ) else f_X4_load_17 (f - 1) (nI (i + 1)) σ := by
      intro σ f hf h3 hL hs
      obtain ⟨f, rfl⟩ : ∃ f', f = f' + 1 := ⟨f - 1, by omega⟩
      have hcl : (nI i).toNatClampNeg = i := nI_clamp (by omega)
      rw [f_X4_load_17, h3, if_neg (nI_ge hi (by omega)), hcl, if_neg (inb2 (by omega) (by decide)), (hL i hi).2.1, ht_c _ σ hs, cb_some, nI_1]
      rfl
    have rs : ∀ σ f, d + 1 < f → σ 150 9 = nI cn → RM σ cn F → σ 151 17 = nI n → f_X5_load_16 f 1 (nI i) σ = if htR n (nI (F i).2.1) = 0 then f_X5_load_16 (f - 1) 0 (nI (i + 1)) σ else f_X5_load_16 (f - 1) 1 (nI (i + 1)) σ := by
      intro σ f hf h9 hL hs
      obtain ⟨f, rfl⟩ : ∃ f', f = f' + 1 := ⟨f - 1, by omega⟩
      have e5 : 5 * nI i + 1 = nI (5 * i + 1) := by rw [show (5 : Int32) = nI 5 from rfl, pk_mul, nI_1]
      have hcl : (nI (5 * i + 1)).toNatClampNeg = 5 * i + 1 := nI_clamp (by omega)
      have hr := ht_r (nI (F i).2.1) σ (σ 151) hs
      rw [rb_self] at hr
      rw [f_X5_load_16, h9, if_neg (nI_ge hi (by omega)), if_neg (by decide), e5, hcl, if_neg (inb2 (by omega) (by decide)), (hL i hi).2.1, hr, cb_some]
      simp only [f_X5_load_49, f_X5_load_50, nI_1, Nat.add_sub_cancel]
    by_cases ht : htR n (nI (F i).2.1) = 0
    · refine Or.inr ⟨fun σ f hf h3 hL hs => by rw [cs σ f hf h3 hL hs, if_pos ht], fun σ f hf h9 hL hs => ?_⟩
      rw [rs σ f hf h9 hL hs, if_pos ht]
      exact lz hcn d (i + 1) (f - 1) σ (by omega) (by omega) h9
    · have htn : (F i).2.1 < n := Nat.lt_of_not_le (fun z => ht ((ht_i hn f1).mpr z))
      rcases lchk hn hcn hF d (i + 1) (by omega) with ⟨q1, q2, q3⟩ | ⟨q2, q3⟩
      · refine Or.inl ⟨fun j h1 h2 => ?_, fun σ f hf h3 hL hs => ?_, fun σ f hf h9 hL hs => ?_⟩
        · by_cases hj : j = i
          · subst hj; exact htn
          · exact q1 j (by omega) h2
        · rw [cs σ f hf h3 hL hs, if_neg ht]; exact q2 σ (f - 1) (by omega) h3 hL hs
        · rw [rs σ f hf h9 hL hs, if_neg ht]; exact q3 σ (f - 1) (by omega) h9 hL hs
      · refine Or.inr ⟨fun σ f hf h3 hL hs => ?_, fun σ f hf h9 hL hs => ?_⟩
        · rw [cs σ f hf h3 hL hs, if_neg ht]; exact q2 σ (f - 1) (by omega) h3 hL hs
        · rw [rs σ f hf h9 hL hs, if_neg ht]; exact q3 σ (f - 1) (by omega) h9 hL hs
def apv (F : FF) : Nat → Nat → Vec → Vec
  | 0, _, w => w
  | d + 1, i, w => apv F d (i + 1) (lfV (F i).2.2.2.2 (F i).2.1 (F i).1 (F i).2.2.1 (F i).2.2.2.1 w)
theorem lap {n cn : Nat} {F : FF} (hcn : cn ≤ 20) (hF : FV cn F) (hT : ∀ j, j < cn → (F j).2.1 < n) : ∀ (d i f : Nat) (σ : Sg) (w : Vec) (t c : Nat), i + d = cn → d < f → BS 1 n σ w → VW n t c w → σ 143 3 = nI cn → CL σ cn F → ∃ σ', f_X4_load_54 f (nI i) σ = some (nI cn, st σ' 143 1 0) ∧ BS 1 n σ' (apv F d i w) ∧ VW n t c (apv F d i w) ∧ Fq 1 σ σ'
  | 0, i, f, σ, w, t, c, h, hf, hB, hV, h3, hL => by
    obtain ⟨rfl, g, rfl⟩ := loop0 h hf
    refine ⟨σ, ?_, hB, hV, Fq.rf 1 σ⟩
    have e : st σ 143 1 0 143 3 = nI i := by simpa [st_r] using h3
    rw [f_X4_load_54, h3, if_pos (nI_le (Nat.le_refl _) (by omega)), wb_eq, e]
  | d + 1, i, f + 1, σ, w, t, c, h, hf, hB, hV, h3, hL => by
    have hi : i < cn := by omega
    have hcl : (nI i).toNatClampNeg = i := nI_clamp (by omega)
    obtain ⟨f1, f2⟩ := hF i hi
    have ft := hT i hi
    obtain ⟨l1, l2, l3, l4, l5⟩ := hL i hi
    have hct : (nI (F i).2.1).toNatClampNeg = (F i).2.1 := nI_clamp (by omega)
    have hn := hV.1.1.1
    have b1 := lf_rel hB hn ft f2 (F i).1 (F i).2.2.1 (F i).2.2.2.1
    have F1 : Fq 1 σ (st (st (st σ (T 1 (F i).2.1 + 2) (F i).2.2.2.2 (F i).1) (T 1 (F i).2.1 + 3) (F i).2.2.2.2 (F i).2.2.1) (T 1 (F i).2.1 + 4) (F i).2.2.2.2 (F i).2.2.2.1) := (((Fq.rf 1 σ).st (by simp only [T]; omega) _ _).st (by simp only [T]; omega) _ _).st (by simp only [T]; omega) _ _
    obtain ⟨σ', x1, x2, x3, x4⟩ := lap hcn hF hT d (i + 1) f _ _ t c (by omega) (by omega) b1 (lf_VW hV ft f2 (F i).1 (F i).2.2.1 (F i).2.2.2.1) (by rw [F1 143 (by omega)]; exact h3) (fun j hj => by rw [F1 145 (by omega), F1 146 (by omega), F1 147 (by omega), F1 148 (by omega), F1 149 (by omega)]; exact hL j hj)
    refine ⟨σ', ?_, x2, x3, F1.tr x4⟩
    have tf := tf_s (t := T 1 (F i).2.1) f2 (F i).1 (F i).2.2.1 (F i).2.2.2.1 σ
    rw [f_X4_load_54, h3, if_neg (nI_ge hi (by omega)), hcl, l1, l2, l3, l4, l5, hct]
    simp only [if_neg (inb2 (show i < 20 by omega) (by decide)), if_neg (inb2 f1 (by decide))]
    rw [show f_X3_takeFault_0 (3 + 3 + 5 * (F i).2.1) (nI (F i).2.2.2.2) (F i).1 (F i).2.2.1 (F i).2.2.2.1 σ = _ from tf, cb_some, nI_1]
    exact x1
theorem lbp {cn : Nat} {F : FF} (hcn : cn ≤ 20) (hF : FV cn F) : ∀ (d i f : Nat) (b : Sg) (w : Vec), i + d = cn → d < f → b 150 9 = nI cn → RM b cn F → f_X5_load_65 f (nI i) (rb b w) = some (nI cn, st (rb b (apv F d i w)) 150 5 0)
  | 0, i, f, b, w, h, hf, h9, hL => by
    obtain ⟨rfl, g, rfl⟩ := loop0 h hf
    have e : st (rb b w) 150 5 0 150 9 = nI i := by simp only [st_r]; rw [if_neg (by decide), rb_150]; exact h9
    rw [f_X5_load_65, rb_150, h9, if_pos (nI_le (Nat.le_refl _) (by omega)), wb_eq, e]; rfl
  | d + 1, i, f + 1, b, w, h, hf, h9, hL => by
    have hi : i < cn := by omega
    obtain ⟨f1, f2⟩ := hF i hi
    obtain ⟨l1, l2, l3, l4, l5⟩ := hL i hi
    have e5 : (5 : Int32) * nI i = nI (5 * i) := by rw [show (5 : Int32) = nI 5 from rfl, pk_mul]
    obtain ⟨i01, i02, i03⟩ := ixs (cn := i) (i := 0) (by omega) (by decide)
    obtain ⟨i11, i12, i13⟩ := ixs (cn := i) (i := 1) (by omega) (by decide)
    obtain ⟨i21, i22, i23⟩ := ixs (cn := i) (i := 2) (by omega) (by decide)
    obtain ⟨i31, i32, i33⟩ := ixs (cn := i) (i := 3) (by omega) (by decide)
    obtain ⟨i41, i42, i43⟩ := ixs (cn := i) (i := 4) (by omega) (by decide)
    have e156 : rb b w 156 = b 156 := rb_o b w (by decide)
    rw [f_X5_load_65, rb_150, h9, if_neg (nI_ge hi (by omega)), e5, e156, show nI (5 * i) + 4 = nI (5 * i + 4) from i41, show nI (5 * i) + 1 = nI (5 * i + 1) from i11, show nI (5 * i) + 2 = nI (5 * i + 2) from i21, show nI (5 * i) + 3 = nI (5 * i + 3) from i31, i42, i12, i22, i32, show (nI (5 * i)).toNatClampNeg = 5 * i from i02, l1, l2, l3, l4, l5, if_neg i43, if_neg i13, if_neg (show ¬ (nI (5 * i) < 0 ∨ 155 ≤ 5 * i) from i03), if_neg i23, if_neg i33, lf_s f2 f1, cb_some, nI_1]
    exact lbp hcn hF d (i + 1) f b _ (by omega) (by omega) h9 hL
theorem go_load : Go f_X4_load_0 f_X5_load_0 := by
  intro σ h
  obtain ⟨⟨n, t, c, y1, y2, y3⟩, k1, k2, k3, k4⟩ := id h
  have hn := y2.1.1.1
  obtain ⟨m, g, hg, h1, h2, h3, h4⟩ := pad_g k4
  obtain ⟨res, cn, F, b1, b2, b3, b4⟩ := poss hg
  obtain ⟨s1, x1, x2, x3, x4⟩ := b3 σ h1 h3
  have s13 : s1 1 3 = nI n := by rw [x2 1 (by decide), y1.1.2.1]; exact y2.1.1.2.1
  have fin : ∀ s2, (∀ b, b ≠ 150 → b ≠ 156 → s2 b = s1 b) → s2 150 5 = nI m → INV s2 := fun s2 z2 z3 => h.pad (fun a ha => by rw [z2 a (by omega) (by omega), x2 a (by omega)]) (PAD.of hg (by rw [z2 143 (by decide) (by decide)]; exact x3) z3 (fun j hj => by rw [z2 144 (by decide) (by decide), x2 144 (by decide)]; exact h3 j hj) (fun j hj => by rw [z2 155 (by decide) (by decide), x2 155 (by decide)]; exact h4 j hj))
  by_cases hres : res = -6
  · obtain ⟨w1, w2⟩ := x4 hres
    rcases lchk hn b1 b2 cn 0 (by omega) with ⟨q1, q2, q3⟩ | ⟨q2, q3⟩
    · have B1 : BS 1 n s1 (σ 151) := y1.F hn (fun a h1 h2 => x2 a (by omega))
      obtain ⟨s2, u1, u2, u3, u4⟩ := lap b1 b2 (fun j hj => q1 j (by omega) hj) cn 0 FU s1 (σ 151) t c (by omega) (by unfold FU; omega) B1 y2 w1 w2
      have E2 : ∀ a, (a < 1 ∨ 36 ≤ a) → a ≠ 143 → st s2 143 1 0 a = s1 a := fun a h1 h2 => by rw [st_o a h2, u4 a (by omega)]
      obtain ⟨s3, z1, z2, z3, z4⟩ := b4 (st s2 143 1 0) (by rw [E2 150 (by decide) (by decide), x2 150 (by decide)]; exact h2) (fun j hj => by rw [E2 155 (by decide) (by decide), x2 155 (by decide)]; exact h4 j hj)
      obtain ⟨v1, v2⟩ := z4 hres
      have e151 : s3 151 = σ 151 := by rw [z2 151 (by decide) (by decide), E2 151 (by decide) (by decide), x2 151 (by decide)]
      have s17 : s3 151 17 = nI n := by rw [e151]; exact y2.1.1.2.1
      have lb := lbp b1 b2 cn 0 FU s3 (s3 151) (by omega) (by unfold FU; omega) v1 v2
      rw [rb_self, e151] at lb
      refine ⟨nI cn, st s2 143 1 0, st (rb s3 (apv F cn 0 (σ 151))) 150 5 0, ?_, ?_, ?_⟩
      · rw [f_X4_load_0, x1, cb_some, if_pos hres]
        exact (q2 s1 FU (by unfold FU; omega) w1 w2 s13).trans u1
      · rw [f_X5_load_0, z1, cb_some, if_pos hres]
        exact (q3 s3 FU (by unfold FU; omega) v1 v2 s17).trans lb
      · have E3 : ∀ a, a ≠ 143 → a ≠ 150 → a ≠ 151 → a ≠ 156 → (a < 1 ∨ 36 ≤ a) → a < 143 ∨ 150 ≤ a ∨ a = 144 → st (rb s3 (apv F cn 0 (σ 151))) 150 5 0 a = σ a := fun a h1 h2 h3 h4 h5 h6 => by rw [st_o a h2, rb_o _ _ h3, z2 a h2 h4, E2 a h5 h1, x2 a h6]
        have E4 : ∀ a, 1 ≤ a → a < 36 → st (rb s3 (apv F cn 0 (σ 151))) 150 5 0 a = s2 a := fun a h1 h2 => by rw [st_o a (by omega), rb_o _ _ (by omega), z2 a (by omega) (by omega), st_o a (by omega)]
        have E5 : st (rb s3 (apv F cn 0 (σ 151))) 150 5 0 151 = apv F cn 0 (σ 151) := by rw [st_o 151 (by decide), rb_151]
        have G : ∀ a, 36 ≤ a → a < 143 ∨ (152 ≤ a ∧ a < 155) → st (rb s3 (apv F cn 0 (σ 151))) 150 5 0 a = σ a := fun a h1 h2 => E3 a (by omega) (by omega) (by omega) (by omega) (by omega) (by omega)
        have g : ∀ a, 36 ≤ a → a < 143 ∨ (152 ≤ a ∧ a < 155) → ∀ k, st (rb s3 (apv F cn 0 (σ 151))) 150 5 0 a k = σ a k := fun a h1 h2 k => by rw [G a h1 h2]
        refine ⟨⟨n, t, c, by rw [E5]; exact u2.F hn E4, by rw [E5]; exact u3, y3⟩, k1.F (fun a h1 h2 => G a (by omega) (by omega)), k2.mv (g 142 (by decide) (by decide) _) (g 154 (by decide) (by decide) _) (fun k _ => g 153 (by decide) (by decide) _) (fun a h1 h2 => G a (by omega) (by omega)), k3.mv (g 142 (by decide) (by decide) _) (g 154 (by decide) (by decide) _) (fun k _ => g 153 (by decide) (by decide) _) (fun a h1 h2 => G a (by omega) (by omega)), 0, by decide, ?_, ?_, fun j hj => by omega⟩
        · rw [st_o 143 (by decide), rb_o _ _ (by decide), z2 143 (by decide) (by decide)]; simp [st_r]; rfl
        · simp [st_r]; rfl
    · obtain ⟨s3, z1, z2, z3, z4⟩ := b4 s1 (by rw [x2 150 (by decide)]; exact h2) (fun j hj => by rw [x2 155 (by decide)]; exact h4 j hj)
      obtain ⟨v1, v2⟩ := z4 hres
      have s17 : s3 151 17 = nI n := by rw [z2 151 (by decide) (by decide), x2 151 (by decide)]; exact y2.1.1.2.1
      refine ⟨-1, s1, s3, ?_, ?_, fin s3 z2 z3⟩
      · rw [f_X4_load_0, x1, cb_some, if_pos hres]
        exact q2 s1 FU (by unfold FU; omega) w1 w2 s13
      · rw [f_X5_load_0, z1, cb_some, if_pos hres]
        exact q3 s3 FU (by unfold FU; omega) v1 v2 s17
  · obtain ⟨s3, z1, z2, z3, z4⟩ := b4 s1 (by rw [x2 150 (by decide)]; exact h2) (fun j hj => by rw [x2 155 (by decide)]; exact h4 j hj)
    exact ⟨-3, s1, s3, by rw [f_X4_load_0, x1, cb_some, if_neg hres], by rw [f_X5_load_0, z1, cb_some, if_neg hres], fin s3 z2 z3⟩
