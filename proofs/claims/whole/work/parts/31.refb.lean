/-! the reference's loops -/
theorem in_s (x lo hi : Int32) (σ : Sg) : f_X5_in_0 x lo hi σ = some (if x < lo then 0 else if hi < x then 0 else 1, σ) := by
  simp only [f_X5_in_0, f_X5_in_14, f_X5_in_15]
  by_cases h1 : x < lo
  · simp [h1]
  · by_cases h2 : hi < x <;> simp [h1, h2]
theorem jd_183 {i : Nat} (hi : i < 6) (a : Int32) (b : Sg) (w : Vec) : f_X5_judge_183 a (nI i) (rb b w) = some (0, rb b (clr i w)) := by
  simp only [f_X5_judge_183, of_0 hi, lay_0 hi, of_1 hi, lay_1 hi, of_2 hi, lay_2 hi, of_3 hi, lay_3 hi, of_4 hi, lay_4 hi, of_5 hi, lay_5 hi, of_6 hi, lay_6 hi, of_7 hi, lay_7 hi, of_8 hi, lay_8 hi, of_9 hi, lay_9 hi, of_10 hi, lay_10 hi, of_11 hi, lay_11 hi, of_12 hi, lay_12 hi, of_13 hi, lay_13 hi, of_14 hi, lay_14 hi, of_15 hi, lay_15 hi, of_16 hi, lay_16 hi, of_17 hi, lay_17 hi, of_18 hi, lay_18 hi, of_19 hi, lay_19 hi, of_20 hi, lay_20 hi, of_21 hi, lay_21 hi, of_22 hi, lay_22 hi, of_23 hi, lay_23 hi, of_24 hi, lay_24 hi, of_25 hi, lay_25 hi, cb_some, clr]
theorem jd_132 {i : Nat} (hi : i < 6) (a s0 : Int32) (b : Sg) (w : Vec) : f_X5_judge_132 a (nI i) s0 15 (nI i) (rb b w) = some (0, rb b (clr i (if w (tx i 17) = 0 then upd (upd (upd (upd w (tx i 15) s0) (tx i 16) (w (tx i 16) + 1)) (tx i 17) 1) (tx i 18) (w 8) else upd (upd w (tx i 15) s0) (tx i 16) (w (tx i 16) + 1)))) := by
  simp only [f_X5_judge_132, of_0 hi, lay_0 hi, of_1 hi, lay_1 hi, of_2 hi, lay_2 hi, of_3 hi, lay_3 hi, of_4 hi, lay_4 hi, of_5 hi, lay_5 hi, of_6 hi, lay_6 hi, of_7 hi, lay_7 hi, of_8 hi, lay_8 hi, of_9 hi, lay_9 hi, of_10 hi, lay_10 hi, of_11 hi, lay_11 hi, of_12 hi, lay_12 hi, of_13 hi, lay_13 hi, of_14 hi, lay_14 hi, of_15 hi, lay_15 hi, of_16 hi, lay_16 hi, of_17 hi, lay_17 hi, of_18 hi, lay_18 hi, of_19 hi, lay_19 hi, of_20 hi, lay_20 hi, of_21 hi, lay_21 hi, of_22 hi, lay_22 hi, of_23 hi, lay_23 hi, of_24 hi, lay_24 hi, of_25 hi, lay_25 hi, cb_some, upd_ap, tx_same, rb_151, k_tx _ _ 8 (by decide), jd_183 hi]
  by_cases h : w (tx i 17) = 0 <;> simp [h]
theorem jd_103 {i : Nat} (hi : i < 6) (a : Int32) (b : Sg) (w : Vec) : f_X5_judge_69 a (nI i) 0 (rb b w) = some (0, rb b (clr i (badV i w))) := by
  simp only [f_X5_judge_69, f_X5_judge_103, of_0 hi, lay_0 hi, of_1 hi, lay_1 hi, of_2 hi, lay_2 hi, of_3 hi, lay_3 hi, of_4 hi, lay_4 hi, of_5 hi, lay_5 hi, of_6 hi, lay_6 hi, of_7 hi, lay_7 hi, of_8 hi, lay_8 hi, of_9 hi, lay_9 hi, of_10 hi, lay_10 hi, of_11 hi, lay_11 hi, of_12 hi, lay_12 hi, of_13 hi, lay_13 hi, of_14 hi, lay_14 hi, of_15 hi, lay_15 hi, of_16 hi, lay_16 hi, of_17 hi, lay_17 hi, of_18 hi, lay_18 hi, of_19 hi, lay_19 hi, of_20 hi, lay_20 hi, of_21 hi, lay_21 hi, of_22 hi, lay_22 hi, of_23 hi, lay_23 hi, of_24 hi, lay_24 hi, of_25 hi, lay_25 hi, cb_some, upd_ap, tx_same, if_true, jd_132 hi, badV]
  by_cases h : w (tx i 13) + 1 ≤ w (tx i 6) <;> by_cases h2 : w (tx i 17) = 0 <;> simp [h, h2, k_tx]
theorem jd_good {i : Nat} (hi : i < 6) (a : Int32) (b : Sg) (w : Vec) : f_X5_judge_69 a (nI i) 1 (rb b w) = some (0, rb b (clr i (goodV i w))) := by
  simp only [f_X5_judge_69, f_X5_judge_103, of_0 hi, lay_0 hi, of_1 hi, lay_1 hi, of_2 hi, lay_2 hi, of_3 hi, lay_3 hi, of_4 hi, lay_4 hi, of_5 hi, lay_5 hi, of_6 hi, lay_6 hi, of_7 hi, lay_7 hi, of_8 hi, lay_8 hi, of_9 hi, lay_9 hi, of_10 hi, lay_10 hi, of_11 hi, lay_11 hi, of_12 hi, lay_12 hi, of_13 hi, lay_13 hi, of_14 hi, lay_14 hi, of_15 hi, lay_15 hi, of_16 hi, lay_16 hi, of_17 hi, lay_17 hi, of_18 hi, lay_18 hi, of_19 hi, lay_19 hi, of_20 hi, lay_20 hi, of_21 hi, lay_21 hi, of_22 hi, lay_22 hi, of_23 hi, lay_23 hi, of_24 hi, lay_24 hi, of_25 hi, lay_25 hi, cb_some, jd_183 hi, goodV]
  by_cases h : w (tx i 13) ≤ 0 <;> simp [h]
theorem jd_s {i : Nat} (hi : i < 6) (b : Sg) (w : Vec) (h3 : ¬ w (tx i 3) = 0) : f_X5_judge_0 (nI i) (rb b w) = some (0, rb b (jdV i w)) := by
  simp only [f_X5_judge_0, f_X5_judge_28, f_X5_judge_68, of_0 hi, lay_0 hi, of_1 hi, lay_1 hi, of_2 hi, lay_2 hi, of_3 hi, lay_3 hi, of_4 hi, lay_4 hi, of_5 hi, lay_5 hi, of_6 hi, lay_6 hi, of_7 hi, lay_7 hi, of_8 hi, lay_8 hi, of_9 hi, lay_9 hi, of_10 hi, lay_10 hi, of_11 hi, lay_11 hi, of_12 hi, lay_12 hi, of_13 hi, lay_13 hi, of_14 hi, lay_14 hi, of_15 hi, lay_15 hi, of_16 hi, lay_16 hi, of_17 hi, lay_17 hi, of_18 hi, lay_18 hi, of_19 hi, lay_19 hi, of_20 hi, lay_20 hi, of_21 hi, lay_21 hi, of_22 hi, lay_22 hi, of_23 hi, lay_23 hi, of_24 hi, lay_24 hi, of_25 hi, lay_25 hi, cb_some, rb_151, if_neg h3, in_s, jd_103 hi, jd_good hi, jdV, endV]
  by_cases h1 : w (tx i 15) = 1
  · simp [h1]
  · simp only [h1, if_false]
    by_cases h2 : w 15 - w 15 / w (tx i 3) * w (tx i 3) = 0
    · simp only [h2, if_true]
      by_cases h4 : w (tx i 12) < w (tx i 4)
      · simp [h4]
      · by_cases h5 : w (tx i 5) < w (tx i 12)
        · simp [h4, h5]
        · by_cases h6 : w (tx i 14) = 0 <;> simp [h4, h5, h6]
    · simp [h2]
/-- what a step on one task keeps: the board's numbers, the records, the other tasks, and of its own all places outside P -/
def keeps (i : Nat) (P : Nat → Prop) (w v : Vec) : Prop := (∀ k, k < 19 → v k = w k) ∧ (∀ j c, c < 26 → (j ≠ i ∨ ¬ P c) → v (tx j c) = w (tx j c)) ∧ ∀ c j, c < 16 → j < 5 → i < 6 → v (rx c j) = w (rx c j)
theorem keeps.rf (i : Nat) (P : Nat → Prop) (w : Vec) : keeps i P w w := ⟨fun _ _ => rfl, fun _ _ _ _ => rfl, fun _ _ _ _ _ => rfl⟩
theorem rx_tx {i c d j : Nat} (hi : i < 6) (hc : c < 26) : ¬ rx d j = tx i c := by simp only [rx, tx]; omega
theorem keeps.u {i : Nat} {P : Nat → Prop} {w v : Vec} (h : keeps i P w v) {c : Nat} (hc : c < 26) (hP : P c) (x : Int32) : keeps i P w (upd v (tx i c) x) := by
  refine ⟨fun k hk => ?_, fun j d hd hjd => ?_, fun d j hd hj hi => ?_⟩
  · simp [upd_ap, k_tx _ _ k hk, h.1 k hk]
  · have : ¬ (j = i ∧ d = c) := by
      rintro ⟨rfl, rfl⟩
      rcases hjd with q | q
      · exact q rfl
      · exact q hP
    simp only [upd_ap, tx_tx j i d c hd hc, this, if_false]
    exact h.2.1 j d hd hjd
  · simp only [upd_ap, if_neg (rx_tx hi hc)]
    exact h.2.2 d j hd hj hi
theorem keeps.mono {i : Nat} {P Q : Nat → Prop} {w v : Vec} (h : keeps i P w v) (hpq : ∀ c, P c → Q c) : keeps i Q w v := ⟨h.1, fun j c hc q => h.2.1 j c hc (q.imp id (fun q z => q (hpq c z))), h.2.2⟩
theorem keeps.tr {i : Nat} {P : Nat → Prop} {w v u : Vec} (h : keeps i P w v) (g : keeps i P v u) : keeps i P w u := ⟨fun k hk => (g.1 k hk).trans (h.1 k hk), fun j c hc q => (g.2.1 j c hc q).trans (h.2.1 j c hc q), fun c j hc hj hi => (g.2.2 c j hc hj hi).trans (h.2.2 c j hc hj hi)⟩
abbrev PR (c : Nat) : Prop := 8 ≤ c ∧ c < 15 ∧ c ≠ 13
abbrev PJ (c : Nat) : Prop := 12 ≤ c ∧ c < 19
theorem go_keeps (i : Nat) (w : Vec) : keeps i PR w (goV i w) := by
  unfold goV; split
  · split
    · exact ((keeps.rf i _ w).u (by decide) (by decide) _).u (by decide) (by decide) _
    · exact keeps.rf i _ w
  · exact keeps.rf i _ w
theorem late_keeps (i : Nat) (w : Vec) : keeps i PR w (lateV i w) := by
  unfold lateV; split
  · split
    · exact keeps.rf i _ w
    · split
      · exact keeps.rf i _ w
      · exact (keeps.rf i _ w).u (by decide) (by decide) _
  · exact keeps.rf i _ w
theorem bg_keeps (i : Nat) (w : Vec) (a : Int32) : keeps i PR w (bgV i w a) := by
  unfold bgV
  exact (((((keeps.rf i _ w).u (by decide) (by decide) _).u (by decide) (by decide) _).u (by decide) (by decide) _).u (by decide) (by decide) _).u (by decide) (by decide) _
theorem cr_keeps (i : Nat) (w : Vec) : keeps i PR w (cr i w).2 := by
  unfold cr; split
  · split
    · split
      · exact go_keeps i w
      · exact ((go_keeps i w).tr (bg_keeps i _ _)).tr (late_keeps i _)
    · exact (go_keeps i w).tr (late_keeps i _)
  · exact (go_keeps i w).tr (late_keeps i _)
theorem clr_keeps (i : Nat) (w : Vec) : keeps i PJ w (clr i w) := ((keeps.rf i _ w).u (by decide) (by decide) _).u (by decide) (by decide) _
theorem bad_keeps (i : Nat) (w : Vec) : keeps i PJ w (badV i w) := by
  unfold badV; split
  · exact (((((keeps.rf i _ w).u (by decide) (by decide) _).u (by decide) (by decide) _).u (by decide) (by decide) _).u (by decide) (by decide) _).u (by decide) (by decide) _
  · exact (((keeps.rf i _ w).u (by decide) (by decide) _).u (by decide) (by decide) _).u (by decide) (by decide) _
theorem good_keeps (i : Nat) (w : Vec) : keeps i PJ w (goodV i w) := (keeps.rf i _ w).u (by decide) (by decide) _
theorem end_keeps (i : Nat) (w : Vec) : keeps i PJ w (endV i w) := by
  unfold endV; split
  · exact (bad_keeps i w).tr (clr_keeps i _)
  · split
    · exact (bad_keeps i w).tr (clr_keeps i _)
    · split
      · exact (good_keeps i w).tr (clr_keeps i _)
      · exact (bad_keeps i w).tr (clr_keeps i _)
theorem jd_keeps (i : Nat) (w : Vec) : keeps i PJ w (jdV i w) := by
  unfold jdV; split
  · exact keeps.rf i _ w
  · split
    · exact end_keeps i w
    · exact keeps.rf i _ w
/-- what a walk over all tasks keeps -/
def keepA (P : Nat → Prop) (w v : Vec) : Prop := (∀ k, k < 19 → v k = w k) ∧ (∀ j c, c < 26 → ¬ P c → v (tx j c) = w (tx j c)) ∧ ∀ c j, c < 16 → j < 5 → v (rx c j) = w (rx c j)
theorem keepA.rf (P : Nat → Prop) (w : Vec) : keepA P w w := ⟨fun _ _ => rfl, fun _ _ _ _ => rfl, fun _ _ _ _ => rfl⟩
theorem keeps.A {i : Nat} (hi : i < 6) {P : Nat → Prop} {w v : Vec} (h : keeps i P w v) : keepA P w v := ⟨h.1, fun j c hc q => h.2.1 j c hc (Or.inr q), fun c j hc hj => h.2.2 c j hc hj hi⟩
theorem keepA.tr {P : Nat → Prop} {w v u : Vec} (h : keepA P w v) (g : keepA P v u) : keepA P w u := ⟨fun k hk => (g.1 k hk).trans (h.1 k hk), fun j c hc q => (g.2.1 j c hc q).trans (h.2.1 j c hc q), fun c j hc hj => (g.2.2 c j hc hj).trans (h.2.2 c j hc hj)⟩
theorem lp_keeps {P : Nat → Prop} {g : Nat → Vec → Vec} (hg : ∀ i w, keeps i P w (g i w)) : ∀ (d i : Nat) (w : Vec), i + d ≤ 6 → keepA P w (lp g d i w) ∧ ∀ j c, c < 26 → (j < i ∨ i + d ≤ j) → lp g d i w (tx j c) = w (tx j c)
  | 0, i, w, _ => ⟨keepA.rf P w, fun _ _ _ _ => rfl⟩
  | d + 1, i, w, h => by
    obtain ⟨h1, h2⟩ := lp_keeps hg d (i + 1) (g i w) (by omega)
    refine ⟨((hg i w).A (by omega)).tr h1, fun j c hc hj => ?_⟩
    rw [lp, h2 j c hc (by omega), (hg i w).2.1 j c hc (Or.inl (by omega))]
theorem fe_r (w : Vec) : ∀ (d i : Nat), fe w d i = -6 ∨ ∃ j, i ≤ j ∧ j < i + d ∧ fe w d i = nI j ∧ w (tx j 15) = 1
  | 0, _ => Or.inl rfl
  | d + 1, i => by
    rw [fe]
    by_cases h : w (tx i 15) = 1
    · rw [if_pos h]; exact Or.inr ⟨i, Nat.le_refl _, by omega, rfl, h⟩
    · rw [if_neg h]
      rcases fe_r w d (i + 1) with h2 | ⟨j, h3, h4, h5⟩
      · exact Or.inl h2
      · exact Or.inr ⟨j, by omega, by omega, h5⟩
theorem fe_loop {n : Nat} (hn : n ≤ 6) (b : Sg) (w : Vec) (h17 : w 17 = nI n) : ∀ (d i f : Nat), i + d = n → d < f → f_X5_firstExpired_2 f (nI i) (rb b w) = some (fe w d i, rb b w)
  | 0, i, f, h, hf => by
    obtain ⟨f, rfl⟩ : ∃ g, f = g + 1 := ⟨f - 1, by omega⟩
    have hin : i = n := by omega
    subst hin
    rw [f_X5_firstExpired_2, rb_151, h17, if_pos (nI_le (Nat.le_refl _) (by omega)), fe]
  | d + 1, i, f, h, hf => by
    obtain ⟨f, rfl⟩ : ∃ g, f = g + 1 := ⟨f - 1, by omega⟩
    have hi : i < 6 := by omega
    rw [f_X5_firstExpired_2, rb_151, h17, if_neg (nI_ge (by omega) (by omega)), of_15 hi, cb_some, fe]
    by_cases h1 : w (tx i 15) = 1
    · rw [if_pos h1, if_pos h1]
    · rw [if_neg h1, if_neg h1, nI_1]
      exact fe_loop hn b w h17 d (i + 1) f (by omega) (by omega)
theorem fe_s {n : Nat} (hn : n ≤ 6) (b : Sg) (w : Vec) (h17 : w 17 = nI n) : f_X5_firstExpired_0 (rb b w) = some (fe w n 0, rb b w) := by
  rw [f_X5_firstExpired_0, show (0 : Int32) = nI 0 from rfl]
  exact fe_loop hn b w h17 n 0 FU (by omega) (by unfold FU; omega)
theorem boot_s (b : Sg) (w : Vec) : f_X5_boot_0 (rb b w) = some (0, rb b (upd (upd w 9 0) 12 (w 5))) := by
  simp only [f_X5_boot_0, wb_eq, rb_st, rb_151, upd_ap, show (5 = 9) = False by decide, if_false]
theorem rec_ix {c j : Nat} (hc : c < 16) : (175 : Int32) + 5 * nI c + nI j = nI (rx c j) := by
  rw [show (175 : Int32) = nI 175 from rfl, show (5 : Int32) = nI 5 from rfl, pk_mul, nI_add, nI_add, rx]
theorem mk3_s (a0 a1 : Int32) (b : Sg) (w : Vec) : f_X5_makeReset_129 a0 a1 (rb b w) = some (0, rb b (mk3 w)) := by
  simp only [f_X5_makeReset_129, f_X5_makeReset_198, wb_eq, rb_st, rb_151, boot_s, cb_some, upd_ap, mk3]
  by_cases h : w 11 + 1 < w 7
  · simp [h]
  · by_cases h2 : w 10 = 0 <;> simp [h, h2]
theorem mk12_s (a0 a1 cause tk : Int32) (b : Sg) (w : Vec) {c : Nat} (h18 : w 18 = nI c) (hc : c < 2 ^ 31) (htk : tk < 0 ∨ ∃ j, j < 6 ∧ tk = nI j) : f_X5_makeReset_13 a0 a1 cause tk (rb b w) = some (0, rb b (mk3 (mk2 tk (mk1 cause tk w (c % 16))))) := by
  have hm : nI c - nI c / 16 * 16 = nI (c % 16) := by rw [show (16 : Int32) = nI 16 from rfl]; exact pk_rem hc (by decide) (by decide)
  have hlt : c % 16 < 16 := Nat.mod_lt _ (by decide)
  have e0 : (175 : Int32) + 5 * nI (c % 16) = nI (rx (c % 16) 0) := by rw [← rec_ix hlt]; simp [nI_0]
  have e1 : nI (rx (c % 16) 0) + 1 = nI (rx (c % 16) 1) := nI_1 _
  have e2 : nI (rx (c % 16) 0) + 2 = nI (rx (c % 16) 2) := by rw [show (2 : Int32) = nI 2 from rfl, nI_add]; rfl
  have e3 : nI (rx (c % 16) 0) + 3 = nI (rx (c % 16) 3) := by rw [show (3 : Int32) = nI 3 from rfl, nI_add]; rfl
  have e4 : nI (rx (c % 16) 0) + 4 = nI (rx (c % 16) 4) := by rw [show (4 : Int32) = nI 4 from rfl, nI_add]; rfl
  have cl : ∀ j, j < 5 → (nI (rx (c % 16) j)).toNatClampNeg = rx (c % 16) j := fun j hj => nI_clamp (Nat.lt_trans (rx_in hlt hj) (by decide))
  have gu : ∀ j, j < 5 → ¬ (nI (rx (c % 16) j) < 0 ∨ 255 ≤ rx (c % 16) j) := fun j hj => inb2 (rx_in hlt hj) (by decide)
  simp only [f_X5_makeReset_13, rb_151, h18, hm, e0, e1, e2, e3, e4, cl 0 (by decide), cl 1 (by decide), cl 2 (by decide), cl 3 (by decide), cl 4 (by decide), if_neg (gu 0 (by decide)), if_neg (gu 1 (by decide)), if_neg (gu 2 (by decide)), if_neg (gu 3 (by decide)), if_neg (gu 4 (by decide)), wb_eq, rb_st, upd_ap, k_rx _ _ 8 (by decide), k_rx _ _ 10 (by decide), k_rx _ _ 13 (by decide), k_rx _ _ 18 (by decide), if_false, mk3_s]
  rcases htk with h | ⟨j, hj, rfl⟩
  · simp only [h, if_true, mk2, mk1, h18]
  · have hn : ¬ nI j < 0 := nI_pos (by omega)
    simp only [hn, if_false, of_19 hj, lay_19 hj, cb_some, mk3_s, mk2, mk1, h18, nI_clamp (show j < 2 ^ 31 by omega)]
theorem fe_tk {n : Nat} (hn : n ≤ 6) (w : Vec) : fe w n 0 < 0 ∨ ∃ j, j < 6 ∧ fe w n 0 = nI j := by
  rcases fe_r w n 0 with h | ⟨j, -, h2, h3, -⟩
  · exact Or.inl (by rw [h]; decide)
  · exact Or.inr ⟨j, by omega, h3⟩
theorem mk_s {n : Nat} (hn : n ≤ 6) (cause crashed : Int32) (b : Sg) (w : Vec) {c : Nat} (h17 : w 17 = nI n) (h18 : w 18 = nI c) (hc : c < 2 ^ 31) (hcr : cause = 3 → ∃ j, j < 6 ∧ crashed = nI j) : f_X5_makeReset_0 cause crashed (rb b w) = some (0, rb b (mkV n cause crashed w)) := by
  have hcl : (w 18).toNatClampNeg = c := by rw [h18]; exact nI_clamp hc
  simp only [f_X5_makeReset_0, mkV, hcl]
  by_cases h3 : cause = 3
  · simp only [h3, if_true]
    obtain ⟨j, hj, rfl⟩ := hcr h3
    exact mk12_s _ _ _ _ b w h18 hc (Or.inr ⟨j, hj, rfl⟩)
  · simp only [h3, if_false, fe_s hn b w h17, cb_some]
    exact mk12_s _ _ _ _ b w h18 hc (fe_tk hn w)
