/-! the class's task, whole steps -/
theorem fl12 : ∀ k, k < 12 → (if (0 : Int32) < nI k - 1 then nI k - 1 else 0) = (if nI k ≤ 0 then 0 else nI k - 1) := by decide
/-- what is known of a task's settings -/
def VT (i : Nat) (w : Vec) : Prop := (∃ e, 1 ≤ e ∧ e ≤ 200 ∧ w (tx i 0) = nI e) ∧ (∃ o, o ≤ 199 ∧ w (tx i 2) = nI o) ∧ (∃ y, 1 ≤ y ∧ y ≤ 20 ∧ w (tx i 3) = nI y) ∧ (∃ l, l ≤ 10 ∧ w (tx i 6) = nI l) ∧ (∃ d, d ≤ 500 ∧ w (tx i 7) = nI d)
/-- what is known of a task while the board runs -/
def VF (i : Nat) (w : Vec) : Prop := b01 (w (tx i 15)) ∧ ∃ f, f ≤ 11 ∧ w (tx i 13) = nI f ∧ (w (tx i 15) = 0 → f ≤ 10)
theorem VT.mv {i : Nat} {w w' : Vec} (h : VT i w) (hw : ∀ c, c < 8 → w' (tx i c) = w (tx i c)) : VT i w' := by
  unfold VT
  rw [hw 0 (by decide), hw 2 (by decide), hw 3 (by decide), hw 6 (by decide), hw 7 (by decide)]
  exact h
theorem ct {t i : Nat} {σ : Sg} {w : Vec} (hp : TRp t i σ w) (hr : TRr t i σ w) (hb : TB t σ) (h10 : w 10 = 0 ∨ w 10 = 1) (hv : VT i w) {u : Nat} (hu : u < 2 ^ 30) (h13 : w 13 = nI u) : ∃ σ', f_X3_crashesInTick_0 t (w 13) (w 10) σ = some ((cr i w).1, σ') ∧ TRp t i σ' (cr i w).2 ∧ ((cr i w).1 = 0 → TRr t i σ' (cr i w).2) ∧ TB t σ' ∧ Fr t σ σ' := by
  obtain ⟨⟨e, he1, he2, he⟩, ⟨ov, ho1, ho⟩, -, -, ⟨dl, hd1, hd⟩⟩ := id hv
  obtain ⟨σ1, z1, r1, b1, F1⟩ := cgo (w 13) (w 10) hr hb
  have kg := go_keeps i w
  have g13 : goV i w 13 = w 13 := kg.1 13 (by decide)
  have g10 : goV i w 10 = w 10 := kg.1 10 (by decide)
  have p1 : TRp t i σ1 (goV i w) := hp.mv F1.1 F1.2 (fun c hc q => kg.2.1 i c hc (Or.inr (by omega)))
  have gd : goV i w (tx i 7) = nI dl := by rw [kg.2.1 i 7 (by decide) (Or.inr (by decide))]; exact hd
  have fin : ∀ (σ2 : Sg) (w2 : Vec), keeps i PR w w2 → TRr t i σ2 w2 → TB t σ2 → Fr t σ σ2 → (cr i w) = (0, lateV i w2) → ∃ σ', f_X3_crashesInTick_78 t (w 13) (w 10) (w 13) σ2 = some ((cr i w).1, σ') ∧ TRp t i σ' (cr i w).2 ∧ ((cr i w).1 = 0 → TRr t i σ' (cr i w).2) ∧ TB t σ' ∧ Fr t σ σ' := by
    intro σ2 w2 k2 r2 b2 F2 ec
    have p2 : TRp t i σ2 w2 := hp.mv F2.1 F2.2 (fun c hc q => k2.2.1 i c hc (Or.inr (by omega)))
    obtain ⟨σ3, z3, r3, b3, F3⟩ := clate (w 13) (w 10) p2 r2 b2 (dl := dl) (by rw [k2.2.1 i 7 (by decide) (Or.inr (by decide))]; exact hd) hd1
    rw [k2.1 13 (by decide)] at z3
    rw [ec]
    have kl := late_keeps i w2
    exact ⟨σ3, z3, p2.mv F3.1 F3.2 (fun c hc q => kl.2.1 i c hc (Or.inr (by omega))), fun _ => r3, b3, F2.tr F3⟩
  rw [z1]
  simp only [f_X3_crashesInTick_40, r1.1]
  have h8 : b01 (goV i w (tx i 8)) := r1.1 ▸ b1.1
  by_cases h0 : goV i w (tx i 8) = 0
  · have s0 : σ1 (t + 1) 0 = nI e := by rw [p1.1 0 (by decide), kg.2.1 i 0 (by decide) (Or.inr (by decide))]; exact he
    have s2 : σ1 (t + 1) 2 = nI ov := by rw [p1.1 2 (by decide), kg.2.1 i 2 (by decide) (Or.inr (by decide))]; exact ho
    have hle : ¬ nI e ≤ 0 := nI_nle (by omega) (by omega)
    have hdue := due_iff (E := e) (U := u) (O := ov) (by omega) (by omega) (by omega) (by omega)
    simp only [h0, if_true, s0, s2, div_s, cb_some, hle, if_false, h13, hdue]
    rw [← h13]
    by_cases hd2 : w 13 - w 13 / nI e * nI e = nI ov - nI ov / nI e * nI e
    · rw [if_pos hd2, if_neg (by decide)]
      obtain ⟨σ2, z2, r2, b2, F2⟩ := cbeg p1 r1 b1 (by rw [g10]; exact h10)
      rw [g13, g10] at z2
      rw [z2, cb_some]
      have kb := bg_keeps i (goV i w) (actV i (goV i w))
      by_cases h5 : actV i (goV i w) = 5
      · have ec : cr i w = (1, goV i w) := by simp only [cr, h0, he, ho, hd2, h5, if_true]
        rw [if_pos h5, if_neg (by decide), ec]
        exact ⟨σ2, rfl, p1.mv F2.1 F2.2 (fun _ _ _ => rfl), fun q => absurd (show (1 : Int32) = 0 from q) (by decide), b2, F1.tr F2⟩
      · have ec : cr i w = (0, lateV i (bgV i (goV i w) (actV i (goV i w)))) := by simp only [cr, h0, he, ho, hd2, h5, if_true, if_false]
        rw [if_neg h5, if_pos rfl]
        exact fin σ2 _ (kg.tr kb) (r2 h5) b2 (F1.tr F2) ec
    · have ec : cr i w = (0, lateV i (goV i w)) := by simp only [cr, h0, he, ho, hd2, if_true, if_false]
      rw [if_neg hd2, if_pos rfl]
      exact fin σ1 _ kg r1 b1 F1 ec
  · have ec : cr i w = (0, lateV i (goV i w)) := by simp only [cr, h0, if_false]
    rw [if_neg h0]
    exact fin σ1 _ kg r1 b1 F1 ec
theorem cend {t i : Nat} {σ : Sg} {w : Vec} (hp : TRp t i σ w) (hr : TRr t i σ w) (hb : TB t σ) {f : Nat} (hf : f ≤ 11) (h13 : w (tx i 13) = nI f) : ∃ σ', f_X3_endCycle_0 t (w 8) σ = some (0, σ') ∧ TRp t i σ' (endV i w) ∧ TRr t i σ' (endV i w) ∧ TB t σ' ∧ ∀ a, a ≠ t → σ' a = σ a := by
  obtain ⟨r1, r2, r3, r4, r5, r6⟩ := id hr
  obtain ⟨b1, b2, b3, b4, b5⟩ := id hb
  obtain ⟨p1, p2, p3, p4, p5, p6⟩ := id hp
  have s4 := p1 4 (by decide)
  have s5 := p1 5 (by decide)
  have s6 := p1 6 (by decide)
  have l9 : b01 (w (tx i 17)) := p4 ▸ b5
  have n1 : ¬ (t + 1 = t) := by omega
  have n2 : ¬ (t + 2 = t) := by omega
  have n3 : ¬ (t + 3 = t) := by omega
  have n4 : ¬ (t + 4 = t) := by omega
  have B : ∃ σ', f_X3_endCycle_34 t (w 8) (w 8) 0 σ = some (0, σ') ∧ TRp t i σ' (clr i (badV i w)) ∧ TRr t i σ' (clr i (badV i w)) ∧ TB t σ' ∧ ∀ a, a ≠ t → σ' a = σ a := by
    simp only [f_X3_endCycle_34, f_X3_endCycle_86, f_X3_endCycle_115, f_X3_endCycle_123, wb_eq, st_r, if_true]
    have g0 : ((0 : Int32) = 0 ∨ (0 : Int32) = 1) := Or.inl rfl
    have g1 : ((1 : Int32) = 0 ∨ (1 : Int32) = 1) := Or.inr rfl
    simp only [n1, false_and, true_and, if_false, if_true, if_pos g0, if_pos g1, r3, s6, p3, p4, show (9 = 9) = True by decide, show (12 = 11) = False by decide, show (12 = 9) = False by decide, show (13 = 12) = False by decide, show (13 = 11) = False by decide, show (13 = 9) = False by decide, show (14 = 12) = False by decide, show (14 = 11) = False by decide, show (14 = 9) = False by decide]
    rcases l9 with h17 | h17
    · by_cases h6 : w (tx i 13) + 1 ≤ w (tx i 6)
      · refine ⟨st (st (st (st (st (st (st σ t 9 (w (tx i 13) + 1)) t 11 0) t 12 (w (tx i 16) + 1)) t 14 (w 8)) t 13 1) t 8 0) t 10 0, by simp [h17, h6], ?_, ?_, ?_, ?_⟩
        · refine ⟨fun k hk => ?_, fun m hm => ?_, ?_⟩
          · have q : ∀ c, 12 ≤ c → ¬ k = c := fun c hc => by omega
            simp [st_r, n1, clr, badV, h17, upd_ap, tx_same, q 14, q 12, q 13, q 15, q 16, q 17, q 18, p1 k hk, tx_k, k_tx]
          · have q : ∀ c d, c < 19 → 20 ≤ d → ¬ d + 3 * m = c := fun c d hc hd => by omega
            obtain ⟨m1, m2, m3⟩ := p2 m hm
            simp [st_r, n2, n3, n4, clr, badV, h17, upd_ap, tx_same, q, m1, m2, m3]
          · simp [st_r, clr, badV, h17, upd_ap, tx_same, p6, k_tx]
        · simp [TRr, st_r, clr, badV, h17, h6, upd_ap, tx_same]; exact ⟨r1, r6⟩
        · simp [TB, st_r, b01]; exact ⟨b1, b2⟩
        · intro a ha; simp only [st_o a ha]
      · refine ⟨st (st (st (st (st (st (st σ t 9 (w (tx i 13) + 1)) t 11 1) t 12 (w (tx i 16) + 1)) t 14 (w 8)) t 13 1) t 8 0) t 10 0, by simp [h17, h6], ?_, ?_, ?_, ?_⟩
        · refine ⟨fun k hk => ?_, fun m hm => ?_, ?_⟩
          · have q : ∀ c, 12 ≤ c → ¬ k = c := fun c hc => by omega
            simp [st_r, n1, clr, badV, h17, upd_ap, tx_same, q 14, q 12, q 13, q 15, q 16, q 17, q 18, p1 k hk, tx_k, k_tx]
          · have q : ∀ c d, c < 19 → 20 ≤ d → ¬ d + 3 * m = c := fun c d hc hd => by omega
            obtain ⟨m1, m2, m3⟩ := p2 m hm
            simp [st_r, n2, n3, n4, clr, badV, h17, upd_ap, tx_same, q, m1, m2, m3]
          · simp [st_r, clr, badV, h17, upd_ap, tx_same, p6, k_tx]
        · simp [TRr, st_r, clr, badV, h17, h6, upd_ap, tx_same]; exact ⟨r1, r6⟩
        · simp [TB, st_r, b01]; exact ⟨b1, b2⟩
        · intro a ha; simp only [st_o a ha]
    · have h170 : ¬ w (tx i 17) = 0 := by rw [h17]; decide
      by_cases h6 : w (tx i 13) + 1 ≤ w (tx i 6)
      · refine ⟨st (st (st (st (st (st (st σ t 9 (w (tx i 13) + 1)) t 11 0) t 12 (w (tx i 16) + 1)) t 14 (σ t 14)) t 13 1) t 8 0) t 10 0, by simp [h170, h6], ?_, ?_, ?_, ?_⟩
        · refine ⟨fun k hk => ?_, fun m hm => ?_, ?_⟩
          · have q : ∀ c, 12 ≤ c → ¬ k = c := fun c hc => by omega
            simp [st_r, n1, clr, badV, h170, upd_ap, tx_same, q 14, q 12, q 13, q 15, q 16, q 17, q 18, p1 k hk, tx_k, k_tx]
          · have q : ∀ c d, c < 19 → 20 ≤ d → ¬ d + 3 * m = c := fun c d hc hd => by omega
            obtain ⟨m1, m2, m3⟩ := p2 m hm
            simp [st_r, n2, n3, n4, clr, badV, h170, upd_ap, tx_same, q, m1, m2, m3]
          · simp [st_r, clr, badV, h17, upd_ap, tx_same, p6, p5 h17, k_tx]
        · simp [TRr, st_r, clr, badV, h170, h6, upd_ap, tx_same]; exact ⟨r1, r6⟩
        · simp [TB, st_r, b01]; exact ⟨b1, b2⟩
        · intro a ha; simp only [st_o a ha]
      · refine ⟨st (st (st (st (st (st (st σ t 9 (w (tx i 13) + 1)) t 11 1) t 12 (w (tx i 16) + 1)) t 14 (σ t 14)) t 13 1) t 8 0) t 10 0, by simp [h170, h6], ?_, ?_, ?_, ?_⟩
        · refine ⟨fun k hk => ?_, fun m hm => ?_, ?_⟩
          · have q : ∀ c, 12 ≤ c → ¬ k = c := fun c hc => by omega
            simp [st_r, n1, clr, badV, h170, upd_ap, tx_same, q 14, q 12, q 13, q 15, q 16, q 17, q 18, p1 k hk, tx_k, k_tx]
          · have q : ∀ c d, c < 19 → 20 ≤ d → ¬ d + 3 * m = c := fun c d hc hd => by omega
            obtain ⟨m1, m2, m3⟩ := p2 m hm
            simp [st_r, n2, n3, n4, clr, badV, h170, upd_ap, tx_same, q, m1, m2, m3]
          · simp [st_r, clr, badV, h17, upd_ap, tx_same, p6, p5 h17, k_tx]
        · simp [TRr, st_r, clr, badV, h170, h6, upd_ap, tx_same]; exact ⟨r1, r6⟩
        · simp [TB, st_r, b01]; exact ⟨b1, b2⟩
        · intro a ha; simp only [st_o a ha]
  have G : ∃ σ', f_X3_endCycle_34 t (w 8) (w 8) 1 σ = some (0, σ') ∧ TRp t i σ' (clr i (goodV i w)) ∧ TRr t i σ' (clr i (goodV i w)) ∧ TB t σ' ∧ ∀ a, a ≠ t → σ' a = σ a := by
    have e := fl12 f (by omega)
    refine ⟨st (st (st σ t 9 (if nI f ≤ 0 then 0 else nI f - 1)) t 8 0) t 10 0, ?_, ?_, ?_, ?_, ?_⟩
    · simp only [f_X3_endCycle_34, f_X3_endCycle_123, wb_eq, show ¬ (1 : Int32) = 0 by decide, if_false, r3, h13, e]
    · refine ⟨fun k hk => ?_, fun m hm => ?_, ?_⟩
      · have q : ∀ c, 12 ≤ c → ¬ k = c := fun c hc => by omega
        simp [st_r, n1, clr, goodV, upd_ap, tx_same, q 14, q 12, q 13, p1 k hk]
      · have q : ∀ c d, c < 19 → 20 ≤ d → ¬ d + 3 * m = c := fun c d hc hd => by omega
        obtain ⟨m1, m2, m3⟩ := p2 m hm
        simp [st_r, n2, n3, n4, clr, goodV, upd_ap, tx_same, q, m1, m2, m3]
      · simp [st_r, clr, goodV, upd_ap, tx_same, p3, p4, p5, p6]; exact p5
    · simp [TRr, st_r, clr, goodV, upd_ap, tx_same, h13]; exact ⟨r1, r5, r6⟩
    · simp [TB, st_r, b01]; exact ⟨b1, b2, b4, b5⟩
    · intro a ha; simp only [st_o a ha]
  simp only [f_X3_endCycle_0, f_X3_endCycle_33, win_s, cb_some, r2, s4, s5, r4, endV]
  by_cases c1 : w (tx i 12) < w (tx i 4)
  · simp only [c1, if_true]; exact B
  · by_cases c2 : w (tx i 5) < w (tx i 12)
    · simp only [c1, c2, if_true, if_false]; exact B
    · by_cases c3 : w (tx i 14) = 0
      · simp only [c1, c2, c3, if_true, if_false, show ¬ (1 : Int32) = 0 by decide]; exact G
      · simp only [c1, c2, c3, if_false, show ¬ (1 : Int32) = 0 by decide]; exact B
theorem zrT_0 (i : Nat) (w : Vec) {c : Nat} (h1 : 8 ≤ c) (h2 : c < 16) : zrT i w (tx i c) = 0 := by
  have h : c = 8 ∨ c = 9 ∨ c = 10 ∨ c = 11 ∨ c = 12 ∨ c = 13 ∨ c = 14 ∨ c = 15 := by omega
  rcases h with rfl | rfl | rfl | rfl | rfl | rfl | rfl | rfl <;> simp [zrT, zr, upd_ap, tx_same]
theorem cbr {t i : Nat} {σ : Sg} {w : Vec} (hp : TRp t i σ w) (hb : TB t σ) : ∃ σ', f_X3_beginRun_0 t σ = some (0, σ') ∧ TRp t i σ' (zrT i w) ∧ TRr t i σ' (zrT i w) ∧ TB t σ' ∧ Fr t σ σ' := by
  obtain ⟨b1, b2, b3, b4, b5⟩ := id hb
  have F : Fr t σ (st (st (st (st (st σ t 4 0) t 8 0) t 9 0) t 10 0) t 11 0) := (((((Fr.rf t σ).st (by decide) _).st (by decide) _).st (by decide) _).st (by decide) _).st (by decide) _
  refine ⟨st (st (st (st (st σ t 4 0) t 8 0) t 9 0) t 10 0) t 11 0, by simp only [f_X3_beginRun_0, wb_eq], hp.mv F.1 F.2 (fun c hc q => (zrT_keeps i w).2.1 i c hc (Or.inr (by omega))), ?_, ?_, F⟩
  · simp [TRr, st_r, zrT_0 i w]
  · simp [TB, st_r, b01]; exact ⟨b2, b5⟩

