/-! a board that runs -/
theorem RX.n13 {q n : Nat} {σ : Sg} {w : Vec} (h : RX q n σ w) (hn : n ≤ 6) (v : Int32) : RX q n (st σ q 9 v) (upd w 13 v) := by
  obtain ⟨⟨a1, a2, a3, a4, a5, a6, a7, a8⟩, ⟨c1, c2, c3, c4⟩, hp, hb⟩ := h
  refine ⟨⟨fun k hk => ?_, ?_, ?_, ?_, ?_, ?_, ?_, fun c j hc hj => ?_⟩, ⟨?_, ?_, ?_, ?_⟩, fun i hi => (hp i hi).same (fun m hm => st_o _ (by simp only [T]; omega)) (fun c hc _ => by simp only [upd_ap, tx_k _ _ 13 (by decide), if_false]), fun i hi => by unfold TB; rw [st_o _ (by simp only [T]; omega)]; exact hb i hi⟩
  · rw [st_o _ (by omega), upd_ap, if_neg (by omega)]; exact a1 k hk
  · simp [st_r, upd_ap, a2]
  · simp [st_r, upd_ap, a3]
  · simp [st_r, upd_ap, a4]
  · simp [st_r, upd_ap, a5]
  · simp [st_r, upd_ap, a6]
  · rw [st_o _ (by omega), upd_ap, if_neg (by omega)]; exact a7
  · rw [st_o _ (by omega), upd_ap, if_neg (by simp only [rx]; omega)]; exact a8 c j hc hj
  · simp [st_r, upd_ap, c1]
  · simp [st_r, upd_ap, c2]
  · simp [st_r, upd_ap, c3]
  · simp [st_r, upd_ap, c4]
theorem RS.n13 {q n : Nat} {σ : Sg} {w : Vec} (h : RS q n σ w) (hn : n ≤ 6) (v : Int32) : RS q n (st σ q 9 v) (upd w 13 v) :=
  ⟨h.1.n13 hn v, fun i hi => (h.2 i hi).same (st_o _ (by simp only [T]; omega)) (fun c hc => by simp only [upd_ap, tx_k _ _ 13 (by decide), if_false])⟩
theorem RX.n14 {q n : Nat} {σ : Sg} {w : Vec} (h : RX q n σ w) (hn : n ≤ 6) (v : Int32) : RX q n (st σ q 10 v) (upd w 14 v) := by
  obtain ⟨⟨a1, a2, a3, a4, a5, a6, a7, a8⟩, ⟨c1, c2, c3, c4⟩, hp, hb⟩ := h
  refine ⟨⟨fun k hk => ?_, ?_, ?_, ?_, ?_, ?_, ?_, fun c j hc hj => ?_⟩, ⟨?_, ?_, ?_, ?_⟩, fun i hi => (hp i hi).same (fun m hm => st_o _ (by simp only [T]; omega)) (fun c hc _ => by simp only [upd_ap, tx_k _ _ 14 (by decide), if_false]), fun i hi => by unfold TB; rw [st_o _ (by simp only [T]; omega)]; exact hb i hi⟩
  · rw [st_o _ (by omega), upd_ap, if_neg (by omega)]; exact a1 k hk
  · simp [st_r, upd_ap, a2]
  · simp [st_r, upd_ap, a3]
  · simp [st_r, upd_ap, a4]
  · simp [st_r, upd_ap, a5]
  · simp [st_r, upd_ap, a6]
  · rw [st_o _ (by omega), upd_ap, if_neg (by omega)]; exact a7
  · rw [st_o _ (by omega), upd_ap, if_neg (by simp only [rx]; omega)]; exact a8 c j hc hj
  · simp [st_r, upd_ap, c1]
  · simp [st_r, upd_ap, c2]
  · simp [st_r, upd_ap, c3]
  · simp [st_r, upd_ap, c4]
theorem RS.n14 {q n : Nat} {σ : Sg} {w : Vec} (h : RS q n σ w) (hn : n ≤ 6) (v : Int32) : RS q n (st σ q 10 v) (upd w 14 v) :=
  ⟨h.1.n14 hn v, fun i hi => (h.2 i hi).same (st_o _ (by simp only [T]; omega)) (fun c hc => by simp only [upd_ap, tx_k _ _ 14 (by decide), if_false])⟩
theorem RX.n15 {q n : Nat} {σ : Sg} {w : Vec} (h : RX q n σ w) (hn : n ≤ 6) (v : Int32) : RX q n (st σ q 11 v) (upd w 15 v) := by
  obtain ⟨⟨a1, a2, a3, a4, a5, a6, a7, a8⟩, ⟨c1, c2, c3, c4⟩, hp, hb⟩ := h
  refine ⟨⟨fun k hk => ?_, ?_, ?_, ?_, ?_, ?_, ?_, fun c j hc hj => ?_⟩, ⟨?_, ?_, ?_, ?_⟩, fun i hi => (hp i hi).same (fun m hm => st_o _ (by simp only [T]; omega)) (fun c hc _ => by simp only [upd_ap, tx_k _ _ 15 (by decide), if_false]), fun i hi => by unfold TB; rw [st_o _ (by simp only [T]; omega)]; exact hb i hi⟩
  · rw [st_o _ (by omega), upd_ap, if_neg (by omega)]; exact a1 k hk
  · simp [st_r, upd_ap, a2]
  · simp [st_r, upd_ap, a3]
  · simp [st_r, upd_ap, a4]
  · simp [st_r, upd_ap, a5]
  · simp [st_r, upd_ap, a6]
  · rw [st_o _ (by omega), upd_ap, if_neg (by omega)]; exact a7
  · rw [st_o _ (by omega), upd_ap, if_neg (by simp only [rx]; omega)]; exact a8 c j hc hj
  · simp [st_r, upd_ap, c1]
  · simp [st_r, upd_ap, c2]
  · simp [st_r, upd_ap, c3]
  · simp [st_r, upd_ap, c4]
theorem RS.n15 {q n : Nat} {σ : Sg} {w : Vec} (h : RS q n σ w) (hn : n ≤ 6) (v : Int32) : RS q n (st σ q 11 v) (upd w 15 v) :=
  ⟨h.1.n15 hn v, fun i hi => (h.2 i hi).same (st_o _ (by simp only [T]; omega)) (fun c hc => by simp only [upd_ap, tx_k _ _ 15 (by decide), if_false])⟩
theorem RX.n16 {q n : Nat} {σ : Sg} {w : Vec} (h : RX q n σ w) (hn : n ≤ 6) (v : Int32) : RX q n (st σ q 12 v) (upd w 16 v) := by
  obtain ⟨⟨a1, a2, a3, a4, a5, a6, a7, a8⟩, ⟨c1, c2, c3, c4⟩, hp, hb⟩ := h
  refine ⟨⟨fun k hk => ?_, ?_, ?_, ?_, ?_, ?_, ?_, fun c j hc hj => ?_⟩, ⟨?_, ?_, ?_, ?_⟩, fun i hi => (hp i hi).same (fun m hm => st_o _ (by simp only [T]; omega)) (fun c hc _ => by simp only [upd_ap, tx_k _ _ 16 (by decide), if_false]), fun i hi => by unfold TB; rw [st_o _ (by simp only [T]; omega)]; exact hb i hi⟩
  · rw [st_o _ (by omega), upd_ap, if_neg (by omega)]; exact a1 k hk
  · simp [st_r, upd_ap, a2]
  · simp [st_r, upd_ap, a3]
  · simp [st_r, upd_ap, a4]
  · simp [st_r, upd_ap, a5]
  · simp [st_r, upd_ap, a6]
  · rw [st_o _ (by omega), upd_ap, if_neg (by omega)]; exact a7
  · rw [st_o _ (by omega), upd_ap, if_neg (by simp only [rx]; omega)]; exact a8 c j hc hj
  · simp [st_r, upd_ap, c1]
  · simp [st_r, upd_ap, c2]
  · simp [st_r, upd_ap, c3]
  · simp [st_r, upd_ap, c4]
theorem RS.n16 {q n : Nat} {σ : Sg} {w : Vec} (h : RS q n σ w) (hn : n ≤ 6) (v : Int32) : RS q n (st σ q 12 v) (upd w 16 v) :=
  ⟨h.1.n16 hn v, fun i hi => (h.2 i hi).same (st_o _ (by simp only [T]; omega)) (fun c hc => by simp only [upd_ap, tx_k _ _ 16 (by decide), if_false])⟩

def VG (n c : Nat) (w : Vec) : Prop := V0 n c w ∧ (∃ p, 1 ≤ p ∧ p ≤ 100 ∧ w 2 = nI p) ∧ ∀ i, i < n → VT i w
theorem VG.keepA {n c : Nat} {P : Nat → Prop} {w v : Vec} (h : VG n c w) (hk : keepA P w v) (hP : ∀ c, c < 8 → ¬ P c) : VG n c v := by
  obtain ⟨h1, ⟨p, h2, h3, h4⟩, h5⟩ := h
  exact ⟨h1.keepA hk (hP 0 (by decide)) (hP 3 (by decide)), ⟨p, h2, h3, by rw [hk.1 2 (by decide)]; exact h4⟩, fun i hi => (h5 i hi).mv (fun c hc => hk.2.1 i c (by omega) (hP c hc))⟩
theorem VG.u {n c : Nat} {w : Vec} (h : VG n c w) {k : Nat} (hk : k < 19) (h2 : k ≠ 2) (h10 : k ≠ 10) (h17 : k ≠ 17) (h18 : k ≠ 18) (x : Int32) : VG n c (upd w k x) := by
  obtain ⟨h1, ⟨p, g2, g3, g4⟩, h5⟩ := h
  exact ⟨h1.u hk h2 h10 h17 h18 x, ⟨p, g2, g3, by simp only [upd_ap, if_neg h2.symm]; exact g4⟩, fun i hi => (h5 i hi).mv (fun c hc => by simp only [upd_ap, tx_k _ _ k hk, if_false])⟩
theorem VF.mv {i : Nat} {w w' : Vec} (h : VF i w) (h1 : w' (tx i 13) = w (tx i 13)) (h2 : w' (tx i 15) = w (tx i 15)) : VF i w' := by unfold VF; rw [h1, h2]; exact h
theorem VF.end {i : Nat} {w : Vec} (h : VF i w) (ht : VT i w) (h15 : w (tx i 15) = 0) : VF i (endV i w) := by
  obtain ⟨-, f, h1, h2, h3⟩ := h
  obtain ⟨-, -, -, ⟨l, hl, hl2⟩, -⟩ := ht
  have h10 := h3 h15
  have B : VF i (clr i (badV i w)) := by
    have e0 : clr i (badV i w) (tx i 15) = if w (tx i 13) + 1 ≤ w (tx i 6) then 0 else 1 := by
      unfold clr badV; split <;> simp [upd_ap, tx_same]
    refine ⟨by rw [e0]; split <;> first | exact Or.inl rfl | exact Or.inr rfl, f + 1, by omega, ?_, ?_⟩
    · unfold clr badV; split <;> simp [upd_ap, tx_same, h2, nI_1]
    · have e : clr i (badV i w) (tx i 15) = if w (tx i 13) + 1 ≤ w (tx i 6) then 0 else 1 := by
        unfold clr badV; split <;> simp [upd_ap, tx_same]
      rw [e, h2, hl2, nI_1]
      intro q
      by_cases hq : nI (f + 1) ≤ nI l
      · have := (nI_leI (by omega) (by omega)).mp hq; omega
      · rw [if_neg hq] at q; cases q
  unfold endV
  split
  · exact B
  · split
    · exact B
    · split
      · refine ⟨Or.inl (by simp [clr, goodV, upd_ap, tx_same, h15]), f - 1, by omega, ?_, fun _ => by omega⟩
        simp only [clr, goodV, upd_ap, tx_same, h2]
        have e : ∀ k, k < 12 → (if nI k ≤ 0 then (0 : Int32) else nI k - 1) = nI (k - 1) := by decide
        simp [e f (by omega)]
      · exact B
theorem le_loop {q n : Nat} (hn : n ≤ 6) {σ : Sg} {w : Vec} (h3 : σ q 3 = nI n) (hr : ∀ i, i < n → σ (T q i) 11 = w (tx i 15)) (hb : ∀ i, i < n → b01 (σ (T q i) 11)) : ∀ (d i f : Nat), i + d = n → d < f → f_X0_lowestExpired_2 q f (nI i) σ = some (fe w d i, σ)
  | 0, i, f, h, hf => by
    obtain ⟨rfl, f, rfl⟩ := loop0 h hf
    rw [f_X0_lowestExpired_2, h3, if_pos (nI_le (Nat.le_refl _) (by omega)), fe]
  | d + 1, i, f, h, hf => by
    obtain ⟨f, rfl⟩ : ∃ g, f = g + 1 := ⟨f - 1, by omega⟩
    have hi : i < n := by omega
    have e := hr i hi
    rw [f_X0_lowestExpired_2, h3, if_neg (nI_ge (by omega) (by omega)), nI_clamp (by omega), if_neg (inb2 (by omega) (by decide)), show σ (q + 2 + 3 + 5 * i) 11 = w (tx i 15) from e, fe, nI_1]
    rcases hb i hi with h0 | h1
    · rw [e] at h0
      rw [if_pos h0, if_neg (by rw [h0]; decide)]
      exact le_loop hn h3 hr hb d (i + 1) f (by omega) (by omega)
    · rw [e] at h1
      rw [if_neg (by rw [h1]; decide), if_pos h1]
theorem le_s {q n : Nat} (hn : n ≤ 6) {σ : Sg} {w : Vec} (h : RS q n σ w) (h17 : w 17 = nI n) : f_X0_lowestExpired_0 q σ = some (fe w n 0, σ) := by
  rw [f_X0_lowestExpired_0, show (0 : Int32) = nI 0 from rfl]
  exact le_loop hn (by rw [h.1.1.2.1]; exact h17) (fun i hi => (h.2 i hi).2.2.2.2.1) (fun i hi => (h.1.2.2.2 i (by omega)).2.2.2.1) n 0 FU (by omega) (by unfold FU; omega)
/-- a reset: the record, the task's count, the end -/
theorem cfall {q n c : Nat} {σ : Sg} {w : Vec} (cause tk : Int32) (hn : n ≤ 6) (h : RX q n σ w) (h17 : w 17 = nI n) (h18 : w 18 = nI c) (hc : c < 2 ^ 31) (h10 : w 10 = 0 ∨ w 10 = 1) (htk : tk < 0 ∨ ∃ j, j < n ∧ tk = nI j) : ∃ σ', f_X0_fall_0 q cause tk σ = some (0, σ') ∧ BS q n σ' (mk3 (mk2 tk (mk1 cause tk w (c % 16)))) ∧ Fq q σ σ' := by
  obtain ⟨⟨a1, a2, a3, a4, a5, a6, a7, a8⟩, ⟨c1, c2, c3, c4⟩, hp, hb⟩ := id h
  have hcm : c % 16 < 16 := Nat.mod_lt _ (by decide)
  obtain ⟨σ1, e1⟩ : ∃ z, z = st (st (st (st (st (st σ (q + 3 + 1) (c % 16 * 5 + 0) cause) (q + 3 + 1) (c % 16 * 5 + 1) (σ q 4)) (q + 3 + 1) (c % 16 * 5 + 2) tk) (q + 3 + 1) (c % 16 * 5 + 3) (σ q 6)) (q + 3 + 1) (c % 16 * 5 + 4) (σ q 9)) (q + 3) 1 (nI c + 1) := ⟨_, rfl⟩
  have ea : f_X1_add_0 (q + 3) cause (σ q 4) tk (σ q 6) (σ q 9) σ = some (0, σ1) := by rw [add_s _ _ _ _ _ σ (a7.trans h18) hc, e1]
  have F1 : ∀ a, a ≠ q + 3 → a ≠ q + 3 + 1 → σ1 a = σ a := fun a g1 g2 => by rw [e1, st_o a g1, st_o a g2, st_o a g2, st_o a g2, st_o a g2, st_o a g2]
  have f0 : σ1 q = σ q := F1 q (by omega) (by omega)
  have n34 : ¬ q + 3 + 1 = q + 3 := by omega
  have cells : ∀ d j, d < 16 → j < 5 → σ1 (q + 3 + 1) (d * 5 + j) = mk1 cause tk w (c % 16) (rx d j) := by
    intro d j hd hj
    have ew : ∀ k, k < 5 → (rx d j = rx (c % 16) k) = (d * 5 + j = c % 16 * 5 + k) := fun k hk => by simp only [rx, eq_iff_iff]; omega
    have e18 : (rx d j = 18) = False := rx_k d j 18 (by decide)
    simp only [e1, mk1, st_r, upd_ap, n34, false_and, if_false, e18, ew 0 (by decide), ew 1 (by decide), ew 2 (by decide), ew 3 (by decide), ew 4 (by decide), true_and, a3, a5, c1, a8 d j hd hj]
  have w1k : ∀ k, k < 18 → mk1 cause tk w (c % 16) k = w k := fun k hk => by
    have e : ∀ j, (k = rx (c % 16) j) = False := fun j => k_rx _ _ k (by omega)
    simp only [mk1, upd_ap, e, if_false, if_neg (show ¬ k = 18 by omega)]
  have w1t : ∀ i d, i < 6 → d < 26 → mk1 cause tk w (c % 16) (tx i d) = w (tx i d) := fun i d hi hd => by
    have e : ∀ j, ¬ (tx i d = rx (c % 16) j) := fun j => by simp only [tx, rx]; omega
    have e2 : (tx i d = 18) = False := tx_k i d 18 (by decide)
    simp only [mk1, upd_ap, if_neg (e _), e2, if_false]
  have X1 : RX q n σ1 (mk1 cause tk w (c % 16)) := by
    refine ⟨⟨fun k hk => ?_, ?_, ?_, ?_, ?_, ?_, ?_, cells⟩, ⟨?_, ?_, ?_, ?_⟩, fun i hi => ?_, fun i hi => ?_⟩
    · rw [F1 _ (by omega) (by omega), w1k k (by omega)]; exact a1 k hk
    · rw [f0, w1k 17 (by decide)]; exact a2
    · rw [f0, w1k 8 (by decide)]; exact a3
    · rw [f0, w1k 9 (by decide)]; exact a4
    · rw [f0, w1k 10 (by decide)]; exact a5
    · rw [f0, w1k 11 (by decide)]; exact a6
    · simp [e1, st_r, mk1, upd_ap, h18]
    · rw [f0, w1k 13 (by decide)]; exact c1
    · rw [f0, w1k 14 (by decide)]; exact c2
    · rw [f0, w1k 15 (by decide)]; exact c3
    · rw [f0, w1k 16 (by decide)]; exact c4
    · exact (hp i hi).same (fun m hm => F1 _ (by simp only [T]; omega) (by simp only [T]; omega)) (fun d hd _ => w1t i d (by omega) hd)
    · unfold TB; rw [F1 _ (by simp only [T]; omega) (by simp only [T]; omega)]; exact hb i hi
  have FQ1 : Fq q σ σ1 := fun a ha => F1 a (by omega) (by omega)
  rw [f_X0_fall_0, ea, cb_some]
  rcases htk with hneg | ⟨j, hj, rfl⟩
  · rw [if_pos hneg, mk2, if_pos hneg]
    obtain ⟨σ', z1, z2, z3⟩ := cfall48 cause tk hn X1 (by rw [w1k 10 (by decide)]; exact h10)
    exact ⟨σ', z1, z2, FQ1.tr z3⟩
  · have hnn : ¬ nI j < 0 := nI_pos (by omega)
    have hcl : (nI j).toNatClampNeg = j := nI_clamp (by omega)
    have h3 : σ1 q 3 = nI n := by rw [f0, a2]; exact h17
    rw [if_neg hnn, h3, if_neg (nI_ge hj (by omega)), hcl, if_neg (inb2 (by omega) (by decide)), wb_eq, mk2, if_neg hnn, hcl]
    have hpj := X1.2.2.1 j hj
    obtain ⟨p1, p2, p3, p4, p5, p6⟩ := id hpj
    have P2 : TRp (T q j) j (st σ1 (T q j) 15 (σ1 (T q j) 15 + 1)) (upd (mk1 cause (nI j) w (c % 16)) (tx j 19) (mk1 cause (nI j) w (c % 16) (tx j 19) + 1)) := by
      refine ⟨fun k hk => ?_, fun m hm => ?_, ?_, ?_, ?_, ?_⟩
      · rw [st_o _ (by omega), upd_ap, if_neg (by rw [tx_same]; omega)]; exact p1 k hk
      · rw [st_o _ (by omega), st_o _ (by omega), st_o _ (by omega), upd_ap, upd_ap, upd_ap, if_neg (by rw [tx_same]; omega), if_neg (by rw [tx_same]; omega), if_neg (by rw [tx_same]; omega)]; exact p2 m hm
      · simp [st_r, upd_ap, tx_same, p3]
      · simp [st_r, upd_ap, tx_same, p4]
      · simp only [st_r, upd_ap, tx_same]; simpa using p5
      · simp [st_r, upd_ap, p6]
    have B2 : TB (T q j) (st σ1 (T q j) 15 (σ1 (T q j) 15 + 1)) := by
      have := X1.2.2.2 j (by omega)
      simpa [TB, st_r] using this
    have X2 := X1.task hn hj (fun a ha => st_o a ha) ((keeps.rf j (fun c => c = 19) _).u (c := 19) (by decide) rfl _) P2 B2
    obtain ⟨σ', z1, z2, z3⟩ := cfall48 cause (nI j) hn X2 (by simp only [upd_ap, k_tx _ _ 10 (by decide), if_false]; rw [w1k 10 (by decide)]; exact h10)
    exact ⟨σ', z1, z2, (FQ1.tr ((Fq.rf q σ1).st (by simp only [T]; omega) _ _)).tr z3⟩

