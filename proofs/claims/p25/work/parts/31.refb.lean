/-! the reference's loops -/
/-- what a step on one task keeps: the board's numbers, the records, the other tasks, and of its own all places outside P -/
def keeps (i : Nat) (P : Nat → Prop) (w v : Vec) : Prop := (∀ k, k < 19 → v k = w k) ∧ (∀ j c, c < 26 → (j ≠ i ∨ ¬ P c) → v (tx j c) = w (tx j c)) ∧ ∀ c j, c < 16 → j < 5 → i < 6 → v (rx c j) = w (rx c j)
theorem keeps.rf (i : Nat) (P : Nat → Prop) (w : Vec) : keeps i P w w := ⟨fun _ _ => rfl, fun _ _ _ _ => rfl, fun _ _ _ _ _ => rfl⟩
theorem rx_tx {i c d j : Nat} (hi : i < 6) (hc : c < 26) : ¬ rx d j = tx i c := by simp only [rx, tx]; omega
theorem keeps.u {i : Nat} {P : Nat → Prop} {w v : Vec} (h : keeps i P w v) {c : Nat} (hc : c < 26) (hP : P c) (x : Int32) : keeps i P w (upd v (tx i c) x) := by
  refine ⟨fun k hk => ?_, fun j d hd hjd => ?_, fun d j hd hj hi => ?_⟩
  · simp [upd_ap, k_tx _ _ k hk, h.1 k hk]
  · have : ¬ (j = i ∧ d = c) := by
      rintro ⟨rfl, rfl⟩
      rcases hjd with q | q
      · exact q rfl
      · exact q hP
    simp only [upd_ap, tx_tx j i d c hd hc, this, if_false]
    exact h.2.1 j d hd hjd
  · simp only [upd_ap, if_neg (rx_tx hi hc)]
    exact h.2.2 d j hd hj hi
theorem keeps.mono {i : Nat} {P Q : Nat → Prop} {w v : Vec} (h : keeps i P w v) (hpq : ∀ c, P c → Q c) : keeps i Q w v := ⟨h.1, fun j c hc q => h.2.1 j c hc (q.imp id (fun q z => q (hpq c z))), h.2.2⟩
theorem keeps.tr {i : Nat} {P : Nat → Prop} {w v u : Vec} (h : keeps i P w v) (g : keeps i P v u) : keeps i P w u := ⟨fun k hk => (g.1 k hk).trans (h.1 k hk), fun j c hc q => (g.2.1 j c hc q).trans (h.2.1 j c hc q), fun c j hc hj hi => (g.2.2 c j hc hj hi).trans (h.2.2 c j hc hj hi)⟩
abbrev PR (c : Nat) : Prop := 8 ≤ c ∧ c < 15 ∧ c ≠ 13
abbrev PJ (c : Nat) : Prop := 12 ≤ c ∧ c < 19
theorem go_keeps (i : Nat) (w : Vec) : keeps i PR w (goV i w) := by
  unfold goV; split
  · split
    · exact ((keeps.rf i _ w).u (by decide) (by decide) _).u (by decide) (by decide) _
    · exact keeps.rf i _ w
  · exact keeps.rf i _ w
theorem late_keeps (i : Nat) (w : Vec) : keeps i PR w (lateV i w) := by
  unfold lateV; split
  · split
    · exact keeps.rf i _ w
    · split
      · exact keeps.rf i _ w
      · exact (keeps.rf i _ w).u (by decide) (by decide) _
  · exact keeps.rf i _ w
theorem bg_keeps (i : Nat) (w : Vec) (a : Int32) : keeps i PR w (bgV i w a) := by
  unfold bgV
  exact (((((keeps.rf i _ w).u (by decide) (by decide) _).u (by decide) (by decide) _).u (by decide) (by decide) _).u (by decide) (by decide) _).u (by decide) (by decide) _
theorem cr_keeps (i : Nat) (w : Vec) : keeps i PR w (cr i w).2 := by
  unfold cr; split
  · split
    · split
      · exact go_keeps i w
      · exact ((go_keeps i w).tr (bg_keeps i _ _)).tr (late_keeps i _)
    · exact (go_keeps i w).tr (late_keeps i _)
  · exact (go_keeps i w).tr (late_keeps i _)
theorem clr_keeps (i : Nat) (w : Vec) : keeps i PJ w (clr i w) := ((keeps.rf i _ w).u (by decide) (by decide) _).u (by decide) (by decide) _
theorem bad_keeps (i : Nat) (w : Vec) : keeps i PJ w (badV i w) := by
  unfold badV; split
  · exact (((((keeps.rf i _ w).u (by decide) (by decide) _).u (by decide) (by decide) _).u (by decide) (by decide) _).u (by decide) (by decide) _).u (by decide) (by decide) _
  · exact (((keeps.rf i _ w).u (by decide) (by decide) _).u (by decide) (by decide) _).u (by decide) (by decide) _
theorem good_keeps (i : Nat) (w : Vec) : keeps i PJ w (goodV i w) := (keeps.rf i _ w).u (by decide) (by decide) _
theorem end_keeps (i : Nat) (w : Vec) : keeps i PJ w (endV i w) := by
  unfold endV; split
  · exact (bad_keeps i w).tr (clr_keeps i _)
  · split
    · exact (bad_keeps i w).tr (clr_keeps i _)
    · split
      · exact (good_keeps i w).tr (clr_keeps i _)
      · exact (bad_keeps i w).tr (clr_keeps i _)
theorem jd_keeps (i : Nat) (w : Vec) : keeps i PJ w (jdV i w) := by
  unfold jdV; split
  · exact keeps.rf i _ w
  · split
    · exact end_keeps i w
    · exact keeps.rf i _ w
/-- what a walk over all tasks keeps -/
def keepA (P : Nat → Prop) (w v : Vec) : Prop := (∀ k, k < 19 → v k = w k) ∧ (∀ j c, c < 26 → ¬ P c → v (tx j c) = w (tx j c)) ∧ ∀ c j, c < 16 → j < 5 → v (rx c j) = w (rx c j)
theorem keepA.rf (P : Nat → Prop) (w : Vec) : keepA P w w := ⟨fun _ _ => rfl, fun _ _ _ _ => rfl, fun _ _ _ _ => rfl⟩
theorem keeps.A {i : Nat} (hi : i < 6) {P : Nat → Prop} {w v : Vec} (h : keeps i P w v) : keepA P w v := ⟨h.1, fun j c hc q => h.2.1 j c hc (Or.inr q), fun c j hc hj => h.2.2 c j hc hj hi⟩
theorem keepA.tr {P : Nat → Prop} {w v u : Vec} (h : keepA P w v) (g : keepA P v u) : keepA P w u := ⟨fun k hk => (g.1 k hk).trans (h.1 k hk), fun j c hc q => (g.2.1 j c hc q).trans (h.2.1 j c hc q), fun c j hc hj => (g.2.2 c j hc hj).trans (h.2.2 c j hc hj)⟩
theorem lp_keeps {P : Nat → Prop} {g : Nat → Vec → Vec} (hg : ∀ i w, keeps i P w (g i w)) : ∀ (d i : Nat) (w : Vec), i + d ≤ 6 → keepA P w (lp g d i w) ∧ ∀ j c, c < 26 → (j < i ∨ i + d ≤ j) → lp g d i w (tx j c) = w (tx j c)
  | 0, i, w, _ => ⟨keepA.rf P w, fun _ _ _ _ => rfl⟩
  | d + 1, i, w, h => by
    obtain ⟨h1, h2⟩ := lp_keeps hg d (i + 1) (g i w) (by omega)
    refine ⟨((hg i w).A (by omega)).tr h1, fun j c hc hj => ?_⟩
    rw [lp, h2 j c hc (by omega), (hg i w).2.1 j c hc (Or.inl (by omega))]
theorem fe_r (w : Vec) : ∀ (d i : Nat), fe w d i = -6 ∨ ∃ j, i ≤ j ∧ j < i + d ∧ fe w d i = nI j ∧ w (tx j 15) = 1
  | 0, _ => Or.inl rfl
  | d + 1, i => by
    rw [fe]
    by_cases h : w (tx i 15) = 1
    · rw [if_pos h]; exact Or.inr ⟨i, Nat.le_refl _, by omega, rfl, h⟩
    · rw [if_neg h]
      rcases fe_r w d (i + 1) with h2 | ⟨j, h3, h4, h5⟩
      · exact Or.inl h2
      · exact Or.inr ⟨j, by omega, by omega, h5⟩
theorem rec_ix {c j : Nat} (hc : c < 16) : (175 : Int32) + 5 * nI c + nI j = nI (rx c j) := by
  rw [show (175 : Int32) = nI 175 from rfl, show (5 : Int32) = nI 5 from rfl, pk_mul, nI_add, nI_add, rx]
theorem fe_tk {n : Nat} (hn : n ≤ 6) (w : Vec) : fe w n 0 < 0 ∨ ∃ j, j < 6 ∧ fe w n 0 = nI j := by
  rcases fe_r w n 0 with h | ⟨j, -, h2, h3, -⟩
  · exact Or.inl (by rw [h]; decide)
  · exact Or.inr ⟨j, by omega, h3⟩
