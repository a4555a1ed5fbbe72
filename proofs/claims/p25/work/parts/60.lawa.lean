/-! THE LAW's own numbers against the row: one task -/
/-- place of number c of task i in the law's second array; of number j of the fault of task i in image m in its third -/
def lx (i c : Nat) : Nat := 10 * i + c
def fx (m i j : Nat) : Nat := 9 * m + 3 * i + j
theorem lx_same (i c d : Nat) : (lx i c = lx i d) = (c = d) := by simp only [lx, eq_iff_iff]; omega
theorem lx_e (i c : Nat) : (10 : Int32) * nI i + nI c = nI (lx i c) := by rw [show (10 : Int32) = nI 10 from rfl, pk_mul, nI_add, lx]
theorem lx_0 (i : Nat) : (10 : Int32) * nI i + 0 = nI (lx i 0) := lx_e i 0
theorem lx_1 (i : Nat) : (10 : Int32) * nI i + 1 = nI (lx i 1) := lx_e i 1
theorem lx_2 (i : Nat) : (10 : Int32) * nI i + 2 = nI (lx i 2) := lx_e i 2
theorem lx_3 (i : Nat) : (10 : Int32) * nI i + 3 = nI (lx i 3) := lx_e i 3
theorem lx_4 (i : Nat) : (10 : Int32) * nI i + 4 = nI (lx i 4) := lx_e i 4
theorem lx_5 (i : Nat) : (10 : Int32) * nI i + 5 = nI (lx i 5) := lx_e i 5
theorem lx_6 (i : Nat) : (10 : Int32) * nI i + 6 = nI (lx i 6) := lx_e i 6
theorem lx_7 (i : Nat) : (10 : Int32) * nI i + 7 = nI (lx i 7) := lx_e i 7
theorem lx_8 (i : Nat) : (10 : Int32) * nI i + 8 = nI (lx i 8) := lx_e i 8
theorem lx_9 (i : Nat) : (10 : Int32) * nI i + 9 = nI (lx i 9) := lx_e i 9
theorem lx_lt {i c : Nat} (hi : i < 3) (hc : c < 10) : lx i c < 30 := by simp only [lx]; omega
theorem lx_cl {i c : Nat} (hi : i < 3) (hc : c < 10) : (nI (lx i c)).toNatClampNeg = lx i c := nI_clamp (by have := lx_lt hi hc; omega)
theorem lx_in {i c : Nat} (hi : i < 3) (hc : c < 10) : ¬ (nI (lx i c) < 0 ∨ 30 ≤ lx i c) := inb2 (lx_lt hi hc) (by decide)
theorem fx_e (m i j : Nat) : (9 : Int32) * nI m + 3 * nI i + nI j = nI (fx m i j) := by rw [show (9 : Int32) = nI 9 from rfl, show (3 : Int32) = nI 3 from rfl, pk_mul, pk_mul, nI_add, nI_add, fx]
theorem fx_0 (m i : Nat) : (9 : Int32) * nI m + 3 * nI i = nI (fx m i 0) := by rw [show (9 : Int32) = nI 9 from rfl, show (3 : Int32) = nI 3 from rfl, pk_mul, pk_mul, nI_add, fx]; rfl
theorem fx_1 (m i : Nat) : nI (fx m i 0) + 1 = nI (fx m i 1) := by rw [nI_1]; rfl
theorem fx_2 (m i : Nat) : nI (fx m i 0) + 2 = nI (fx m i 2) := by rw [show (2 : Int32) = nI 2 from rfl, nI_add]; rfl
theorem fx_lt {m i j : Nat} (hm : m < 2) (hi : i < 3) (hj : j < 3) : fx m i j < 18 := by simp only [fx]; omega
theorem fx_cl {m i j : Nat} (hm : m < 2) (hi : i < 3) (hj : j < 3) : (nI (fx m i j)).toNatClampNeg = fx m i j := nI_clamp (by have := fx_lt hm hi hj; omega)
theorem fx_in {m i j : Nat} (hm : m < 2) (hi : i < 3) (hj : j < 3) : ¬ (nI (fx m i j) < 0 ∨ 18 ≤ fx m i j) := inb2 (fx_lt hm hi hj) (by decide)
/-- the job's numbers of a task while the board runs -/
def LT (i : Nat) (σ : Sg) (w : Vec) : Prop := σ 151 (lx i 0) = w (tx i 8) ∧ σ 151 (lx i 4) = w (tx i 12) ∧ σ 151 (lx i 5) = w (tx i 13) ∧ σ 151 (lx i 6) = w (tx i 14) ∧ σ 151 (lx i 7) = w (tx i 15) ∧ (w (tx i 8) = 1 → σ 151 (lx i 1) = w (tx i 11) ∧ σ 151 (lx i 2) = w (tx i 10)) ∧ σ 151 (lx i 3) = (if w (tx i 8) = 1 then if w (tx i 11) = 0 then w (tx i 9) else 0 else 0)
/-- of the row: what lies in its range -/
def WBp (j h l x r : Int32) : Prop := b01 j ∧ (j = 1 → b01 h) ∧ b01 l ∧ b01 x ∧ (j = 1 → h = 0 → ∃ m, 1 ≤ m ∧ m ≤ 700 ∧ r = nI m)
def WB (i : Nat) (w : Vec) : Prop := WBp (w (tx i 8)) (w (tx i 11)) (w (tx i 14)) (w (tx i 15)) (w (tx i 9))
def WD (i : Nat) (w : Vec) : Prop := (∃ d, 1 ≤ d ∧ d ≤ 200 ∧ w (tx i 1) = nI d) ∧ ∀ m, m < 2 → ∃ a, a ≤ 500 ∧ w (tx i (22 + 3 * m)) = nI a
def LF (i : Nat) (σ : Sg) (w : Vec) : Prop := ∀ m j, m < 2 → j < 3 → σ 152 (fx m i j) = w (tx i (20 + 3 * m + j))
/-- only the job's numbers of task i change -/
def F1 (i : Nat) (σ σ' : Sg) : Prop := (∀ a, a ≠ 151 → σ' a = σ a) ∧ ∀ k, (∀ c, c < 8 → k ≠ lx i c) → σ' 151 k = σ 151 k
theorem F1.rf (i : Nat) (σ : Sg) : F1 i σ σ := ⟨fun _ _ => rfl, fun _ _ => rfl⟩
theorem F1.tr {i : Nat} {a b c : Sg} (h : F1 i a b) (g : F1 i b c) : F1 i a c := ⟨fun x hx => (g.1 x hx).trans (h.1 x hx), fun k hk => (g.2 k hk).trans (h.2 k hk)⟩
theorem F1.st {i c : Nat} {a b : Sg} (h : F1 i a b) (hc : c < 8) (v : Int32) : F1 i a (st b 151 (lx i c) v) := ⟨fun x hx => by rw [st_o x hx]; exact h.1 x hx, fun k hk => by rw [st_r, if_neg (fun z => hk c hc z.2)]; exact h.2 k hk⟩
/-- the board isn't touched by the law's own writes -/
theorem BS.L {n : Nat} {σ σ' : Sg} {w : Vec} (h : BS 1 n σ w) (hn : n ≤ 6) (F : ∀ a, a < 150 → σ' a = σ a) : BS 1 n σ' w := h.F hn (fun a h1 h2 => F a (by omega))
theorem BS.st1 {n k : Nat} {σ : Sg} {w : Vec} {v : Int32} (h : BS 1 n σ w) (hn : n ≤ 6) : BS 1 n (st σ 151 k v) w := h.L hn (fun a ha => st_o a (by omega))
theorem BS.st0 {n k : Nat} {σ : Sg} {w : Vec} {v : Int32} (h : BS 1 n σ w) (hn : n ≤ 6) : BS 1 n (st σ 150 k v) w := h.L hn (fun a ha => st_o a (by omega))
/-- stage 3: lateness -/
theorem l_late {n t c i : Nat} {σ : Sg} {w w0 : Vec} (hB : BS 1 n σ w0) (hV : VW n t c w0) (hi : i < n) (hn : n ≤ 3) (s7 : w (tx i 7) = w0 (tx i 7)) (lt : LT i σ w) (hw : WB i w) (h4 : σ 150 4 = w 13) (a4 : Int32) : ∃ σ', f_L_crashes_239 a4 (nI i) (10 * nI i) σ = some (0, σ') ∧ LT i σ' (lateV i w) ∧ WB i (lateV i w) ∧ F1 i σ σ' := by
  obtain ⟨l0, l4, l5, l6, l7, lj, l3⟩ := id lt
  have hi3 : i < 3 := by omega
  have c0 := lx_cl hi3 (c := 0) (by decide)
  have c2 := lx_cl hi3 (c := 2) (by decide)
  have c6 := lx_cl hi3 (c := 6) (by decide)
  have g0 := lx_in hi3 (c := 0) (by decide)
  have g2 := lx_in hi3 (c := 2) (by decide)
  have g6 := lx_in hi3 (c := 6) (by decide)
  have same : ∃ σ', f_L_crashes_289 a4 (10 * nI i) (nI (lx i 6)) σ = some (0, σ') ∧ LT i σ' w ∧ F1 i σ σ' := by
    refine ⟨st σ 151 (lx i 6) (σ 151 (lx i 6)), ?_, ?_, (F1.rf i σ).st (by decide) _⟩
    · simp only [f_L_crashes_289, f_L_crashes_296, lx_6, c6, if_neg g6, wb_eq]
    · have e : st σ 151 (lx i 6) (σ 151 (lx i 6)) = σ := by
        funext a b; rw [st_r]; split
        · rename_i q; rw [q.1, q.2]
        · rfl
      rw [e]; exact lt
  simp only [f_L_crashes_239, tv_7 hB hV hi, cb_some, lx_0, lx_2, lx_6, c0, c2, if_neg g0, if_neg g2, l0, h4, ← s7, lateV]
  by_cases h8 : w (tx i 8) = 1
  · simp only [h8, if_true]
    by_cases h7 : w (tx i 7) ≤ 0
    · simp only [h7, if_true]
      obtain ⟨σ', z1, z2, z3⟩ := same
      exact ⟨σ', z1, z2, hw, z3⟩
    · simp only [h7, if_false, (lj h8).2]
      by_cases h2 : w 13 - w (tx i 10) ≤ w (tx i 7)
      · simp only [h2, if_true]
        obtain ⟨σ', z1, z2, z3⟩ := same
        exact ⟨σ', z1, z2, hw, z3⟩
      · simp only [h2, if_false]
        refine ⟨st σ 151 (lx i 6) 1, ?_, ?_, ?_, (F1.rf i σ).st (by decide) _⟩
        · simp only [f_L_crashes_296, c6, if_neg g6, wb_eq]
        · simp [LT, st_r, lx_same, upd_ap, tx_same, l0, l4, l5, l7, lj h8, l3, h8]
        · obtain ⟨b1, b2, b3, b4, b5⟩ := hw
          simp [WB, upd_ap, tx_same]
          exact ⟨b1, b2, Or.inr rfl, b4, b5⟩
  · simp only [h8, if_false]
    obtain ⟨σ', z1, z2, z3⟩ := same
    exact ⟨σ', z1, z2, hw, z3⟩
/-- stage 1: the job goes on -/
theorem l_go {n i : Nat} {σ : Sg} {w : Vec} (hi : i < n) (hn : n ≤ 3) (lt : LT i σ w) (hw : WB i w) : ∃ σ', f_L_crashes_0 (nI i) σ = f_L_crashes_69 (nI i) (nI i) (10 * nI i) (9 * σ 150 1 + 3 * nI i) σ' ∧ LT i σ' (goV i w) ∧ WB i (goV i w) ∧ F1 i σ σ' := by
  obtain ⟨l0, l4, l5, l6, l7, lj, l3⟩ := id lt
  obtain ⟨b1, b2, b3, b4, b5⟩ := id hw
  have hi3 : i < 3 := by omega
  have c0 := lx_cl hi3 (c := 0) (by decide)
  have c1 := lx_cl hi3 (c := 1) (by decide)
  have c3 := lx_cl hi3 (c := 3) (by decide)
  have g0 := lx_in hi3 (c := 0) (by decide)
  have g1 := lx_in hi3 (c := 1) (by decide)
  have g3 := lx_in hi3 (c := 3) (by decide)
  simp only [f_L_crashes_0, lx_0, lx_1, lx_3, c0, c1, c3, if_neg g0, if_neg g1, if_neg g3, wb_eq, l0, goV]
  by_cases h8 : w (tx i 8) = 1
  · by_cases h11 : w (tx i 11) = 0
    · obtain ⟨r, r1, r2, r3⟩ := b5 h8 h11
      simp only [h8, h11, if_true] at l3
      have e3 : st σ 151 (lx i 3) (w (tx i 9) - 1) 151 (lx i 3) = w (tx i 9) - 1 := by rw [st_r, if_pos ⟨rfl, rfl⟩]
      simp only [h8, if_true, (lj h8).1, h11, l3, e3]
      by_cases h9 : w (tx i 9) - 1 ≤ 0
      · have hr : r = 1 := by
          rw [r3, show (1 : Int32) = nI 1 from rfl, pk_sub r1, show (0 : Int32) = nI 0 from rfl, nI_leI (by omega) (by decide)] at h9; omega
        have h90 : w (tx i 9) - 1 = 0 := by rw [r3, hr]; decide
        refine ⟨st (st σ 151 (lx i 3) (w (tx i 9) - 1)) 151 (lx i 0) 0, ?_, ?_, ?_, ((F1.rf i σ).st (by decide) _).st (by decide) _⟩
        · simp only [h9, if_true, f_L_crashes_68, c0, if_neg g0, wb_eq]
        · simp [LT, st_r, lx_same, upd_ap, tx_same, l4, l5, l6, l7, h9, h90]
        · simp [WB, upd_ap, tx_same, h9]
          exact ⟨Or.inl rfl, fun q => absurd q (by decide), b3, b4, fun q => absurd q (by decide)⟩
      · refine ⟨st (st σ 151 (lx i 3) (w (tx i 9) - 1)) 151 (lx i 0) 1, ?_, ?_, ?_, ((F1.rf i σ).st (by decide) _).st (by decide) _⟩
        · simp only [h9, if_false, f_L_crashes_68, c0, if_neg g0, wb_eq]
        · simp [LT, st_r, lx_same, upd_ap, tx_same, l4, l5, l6, l7, h9, lj h8, h11]
        · have hr : 2 ≤ r := by
            rw [r3, show (1 : Int32) = nI 1 from rfl, pk_sub r1, show (0 : Int32) = nI 0 from rfl, nI_leI (by omega) (by decide)] at h9; omega
          have h92 : w (tx i 9) - 1 = nI (r - 1) := by rw [r3, show (1 : Int32) = nI 1 from rfl, pk_sub r1]
          simp [WB, upd_ap, tx_same, h9]
          exact ⟨Or.inr rfl, fun _ => b2 h8, b3, b4, fun _ _ => ⟨r - 1, by omega, by omega, h92⟩⟩
    · refine ⟨σ, ?_, ?_, ?_, F1.rf i σ⟩
      · simp only [h8, if_true, (lj h8).1, h11, if_false]
      · simp only [h8, h11, if_true, if_false]; exact lt
      · simp only [h8, h11, if_true, if_false]; exact hw
  · refine ⟨σ, ?_, ?_, ?_, F1.rf i σ⟩
    · simp only [h8, if_false]
    · simp only [h8, if_false]; exact lt
    · simp only [h8, if_false]; exact hw
