/-! THE LAW's numbers while the board runs; the supervisor's check of a task -/
def LPi (i : Nat) (σ : Sg) (w : Vec) : Prop := σ 151 (lx i 8) = w (tx i 16) ∧ σ 151 (lx i 9) = w (tx i 19)
def LC (c : Nat) (σ : Sg) (w : Vec) : Prop := 0 < c → ∀ j, j < 5 → σ 150 (9 + j) = w (rx ((c - 1) % 16) j)
/-- the law's numbers against the evolving row w; the board stands at w0 -/
def LWr (n c : Nat) (w0 : Vec) (σ : Sg) (w : Vec) : Prop := BS 1 n σ w0 ∧ (∀ k, k < 9 → w k = w0 k) ∧ (∀ i d, i < n → d < 8 → w (tx i d) = w0 (tx i d)) ∧ (σ 150 1 = w 10 ∧ σ 150 2 = w 11 ∧ σ 150 8 = w 18) ∧ (σ 150 4 = w 13 ∧ σ 150 5 = w 14 ∧ σ 150 6 = w 15 ∧ σ 150 7 = w 16) ∧ LC c σ w ∧ (∀ i, i < n → LT i σ w ∧ WB i w ∧ LPi i σ w ∧ LF i σ w ∧ WD i w) ∧ (∀ i, n ≤ i → i < 3 → σ 151 (lx i 7) = 0) ∧ (w 17 = w0 17 ∧ w 18 = w0 18 ∧ w 10 = w0 10) ∧ (σ 150 0 = 1 ∧ σ 150 3 = 0)
/-- only task i's numbers change, but not its count of resets -/
def F2 (i : Nat) (σ σ' : Sg) : Prop := (∀ a, a ≠ 151 → σ' a = σ a) ∧ ∀ k, (∀ c, c < 9 → k ≠ lx i c) → σ' 151 k = σ 151 k
theorem F2.rf (i : Nat) (σ : Sg) : F2 i σ σ := ⟨fun _ _ => rfl, fun _ _ => rfl⟩
theorem F2.tr {i : Nat} {a b c : Sg} (h : F2 i a b) (g : F2 i b c) : F2 i a c := ⟨fun x hx => (g.1 x hx).trans (h.1 x hx), fun k hk => (g.2 k hk).trans (h.2 k hk)⟩
theorem F2.st {i c : Nat} {a b : Sg} (h : F2 i a b) (hc : c < 9) (v : Int32) : F2 i a (st b 151 (lx i c) v) := ⟨fun x hx => by rw [st_o x hx]; exact h.1 x hx, fun k hk => by rw [st_r, if_neg (fun z => hk c hc z.2)]; exact h.2 k hk⟩
theorem F1.F2 {i : Nat} {a b : Sg} (h : F1 i a b) : F2 i a b := ⟨h.1, fun k hk => h.2 k (fun c hc => hk c (by omega))⟩
/-- the law's frame -/
def FL (σ σ' : Sg) : Prop := ∀ a, a ≠ 150 → a ≠ 151 → σ' a = σ a
theorem FL.rf (σ : Sg) : FL σ σ := fun _ _ _ => rfl
theorem FL.tr {a b c : Sg} (h : FL a b) (g : FL b c) : FL a c := fun x h1 h2 => (g x h1 h2).trans (h x h1 h2)
theorem FL.st0 {a b : Sg} (h : FL a b) (k : Nat) (v : Int32) : FL a (st b 150 k v) := fun x h1 h2 => by rw [st_o x h1]; exact h x h1 h2
theorem FL.st1 {a b : Sg} (h : FL a b) (k : Nat) (v : Int32) : FL a (st b 151 k v) := fun x h1 h2 => by rw [st_o x h2]; exact h x h1 h2
theorem F2.FL {i : Nat} {a b : Sg} (h : F2 i a b) : FL a b := fun x _ h2 => h.1 x h2
/-- a step on task i alone -/
theorem LWr.task {n c i : Nat} {P : Nat → Prop} {w0 w w' : Vec} {σ σ' : Sg} (h : LWr n c w0 σ w) (hn : n ≤ 3) (hi : i < n) (F : F2 i σ σ') (k : keeps i P w w') (hP : ∀ d, P d → 8 ≤ d ∧ d < 19) (lt : LT i σ' w') (wb : WB i w') (lp : LPi i σ' w') : LWr n c w0 σ' w' := by
  obtain ⟨a1, a2, a3, a4, a5, a6, a7, a8, a9, a10⟩ := h
  have f0 : σ' 150 = σ 150 := F.1 150 (by decide)
  have kq : ∀ j d, d < 26 → (d < 8 ∨ 19 ≤ d) → w' (tx j d) = w (tx j d) := fun j d hd h => k.2.1 j d hd (Or.inr (fun q => by have := hP d q; omega))
  have oth : ∀ j d, j ≠ i → d < 10 → σ' 151 (lx j d) = σ 151 (lx j d) := fun j d hj hd => F.2 _ (fun e he => by simp only [lx]; omega)
  refine ⟨a1.L (by omega) (fun a ha => F.1 a (by omega)), fun j hj => by rw [k.1 j (by omega)]; exact a2 j hj, fun j d hj hd => by rw [kq j d (by omega) (Or.inl hd)]; exact a3 j d hj hd, ?_, ?_, ?_, ?_, ?_, ?_, by rw [f0]; exact a10⟩
  · rw [f0, k.1 10 (by decide), k.1 11 (by decide), k.1 18 (by decide)]; exact a4
  · rw [f0, k.1 13 (by decide), k.1 14 (by decide), k.1 15 (by decide), k.1 16 (by decide)]; exact a5
  · intro hc j hj
    rw [f0, k.2.2 _ j (Nat.mod_lt _ (by decide)) hj (by omega)]; exact a6 hc j hj
  · intro j hj
    obtain ⟨b1, b2, b3, b4, b5⟩ := a7 j hj
    have hf : LF j σ' w' := fun m e hm he => by rw [F.1 152 (by decide), kq j _ (by omega) (Or.inr (by omega))]; exact b4 m e hm he
    have hd : WD j w' := by
      unfold WD
      rw [kq j 1 (by decide) (by decide)]
      refine ⟨b5.1, fun m hm => ?_⟩
      rw [kq j _ (by omega) (by omega)]; exact b5.2 m hm
    by_cases hji : j = i
    · subst hji; exact ⟨lt, wb, lp, hf, hd⟩
    · have kj : ∀ d, d < 26 → w' (tx j d) = w (tx j d) := fun d hd => k.2.1 j d hd (Or.inl hji)
      refine ⟨?_, ?_, ?_, hf, hd⟩
      · unfold LT
        rw [oth j 0 hji (by decide), oth j 1 hji (by decide), oth j 2 hji (by decide), oth j 3 hji (by decide), oth j 4 hji (by decide), oth j 5 hji (by decide), oth j 6 hji (by decide), oth j 7 hji (by decide), kj 8 (by decide), kj 9 (by decide), kj 10 (by decide), kj 11 (by decide), kj 12 (by decide), kj 13 (by decide), kj 14 (by decide), kj 15 (by decide)]
        exact b1
      · unfold WB
        rw [kj 8 (by decide), kj 9 (by decide), kj 11 (by decide), kj 14 (by decide), kj 15 (by decide)]
        exact b2
      · unfold LPi
        rw [oth j 8 hji (by decide), oth j 9 hji (by decide), kj 16 (by decide), kj 19 (by decide)]
        exact b3
  · intro j h1 h2
    rw [oth j 7 (by omega) (by decide)]; exact a8 j h1 h2
  · rw [k.1 17 (by decide), k.1 18 (by decide), k.1 10 (by decide)]; exact a9
/-- a step on a number of the board's -/
theorem LWr.num {n c p k : Nat} {w0 w : Vec} {σ : Sg} (h : LWr n c w0 σ w) (hn : n ≤ 3) (hp : (p = 4 ∧ k = 13) ∨ (p = 5 ∧ k = 14) ∨ (p = 6 ∧ k = 15) ∨ (p = 7 ∧ k = 16) ∨ (p = 2 ∧ k = 11)) (v : Int32) : LWr n c w0 (st σ 150 p v) (upd w k v) := by
  obtain ⟨a1, a2, a3, a4, a5, a6, a7, a8, a9, a10⟩ := h
  have hk : 11 ≤ k ∧ k ≤ 16 ∧ k ≠ 12 := by omega
  have ft : ∀ i d, upd w k v (tx i d) = w (tx i d) := fun i d => by rw [upd_ap, if_neg (by simp only [tx]; omega)]
  have f1 : st σ 150 p v 151 = σ 151 := st_o _ (by decide)
  have f2 : st σ 150 p v 152 = σ 152 := st_o _ (by decide)
  refine ⟨a1.st0 (by omega), fun j hj => by rw [upd_ap, if_neg (by omega)]; exact a2 j hj, fun j d hj hd => by rw [ft]; exact a3 j d hj hd, ?_, ?_, ?_, ?_, ?_, ?_, ?_⟩
  · rcases hp with ⟨rfl, rfl⟩ | ⟨rfl, rfl⟩ | ⟨rfl, rfl⟩ | ⟨rfl, rfl⟩ | ⟨rfl, rfl⟩ <;> simp [st_r, upd_ap, a4]
  · rcases hp with ⟨rfl, rfl⟩ | ⟨rfl, rfl⟩ | ⟨rfl, rfl⟩ | ⟨rfl, rfl⟩ | ⟨rfl, rfl⟩ <;> simp [st_r, upd_ap, a5]
  · intro hc j hj
    rw [st_r, if_neg (by omega), upd_ap, if_neg (by simp only [rx]; omega)]; exact a6 hc j hj
  · intro j hj
    obtain ⟨b1, b2, b3, b4, b5⟩ := a7 j hj
    refine ⟨?_, ?_, ?_, ?_, ?_⟩
    · simp only [LT, ft, f1]; exact b1
    · simp only [WB, ft]; exact b2
    · simp only [LPi, ft, f1]; exact b3
    · simp only [LF, ft, f2]; exact b4
    · simp only [WD, ft]; exact b5
  · intro j h1 h2
    rw [f1]; exact a8 j h1 h2
  · rw [upd_ap, upd_ap, upd_ap, if_neg (by omega), if_neg (by omega), if_neg (by omega)]; exact a9
  · rw [st_r, st_r, if_neg (by omega), if_neg (by omega)]; exact a10
/-- a bad cycle -/
theorem l_bad {n t c i : Nat} {σ : Sg} {w w0 : Vec} (hB : BS 1 n σ w0) (hV : VW n t c w0) (hi : i < n) (hn : n ≤ 3) (s6 : w (tx i 6) = w0 (tx i 6)) (lt : LT i σ w) (hw : WB i w) (lp : LPi i σ w) (a3 x3 x4 : Int32) (rec : Int32 → Int32 → Int32 → Sg → Option (Int32 × Sg)) : ∃ σ', f_L_kicks_98 a3 rec x3 x4 (nI i) (10 * nI i) σ = f_L_kicks_213 a3 rec x3 x4 (nI i) (10 * nI i) σ' ∧ LT i σ' (clr i (badV i w)) ∧ WB i (clr i (badV i w)) ∧ LPi i σ' (clr i (badV i w)) ∧ F2 i σ σ' := by
  obtain ⟨l0, l4, l5, l6, l7, lj, l3⟩ := id lt
  obtain ⟨b1, b2, b3, b4, b5⟩ := id hw
  obtain ⟨p8, p9⟩ := id lp
  have hn6 : n ≤ 6 := by omega
  have hi3 : i < 3 := by omega
  have c4 := lx_cl hi3 (c := 4) (by decide)
  have c5 := lx_cl hi3 (c := 5) (by decide)
  have c6 := lx_cl hi3 (c := 6) (by decide)
  have c7 := lx_cl hi3 (c := 7) (by decide)
  have c8 := lx_cl hi3 (c := 8) (by decide)
  have g4 := lx_in hi3 (c := 4) (by decide)
  have g5 := lx_in hi3 (c := 5) (by decide)
  have g6 := lx_in hi3 (c := 6) (by decide)
  have g7 := lx_in hi3 (c := 7) (by decide)
  have g8 := lx_in hi3 (c := 8) (by decide)
  have e5 : st σ 151 (lx i 5) (w (tx i 13) + 1) 151 (lx i 5) = w (tx i 13) + 1 := by rw [st_r, if_pos ⟨rfl, rfl⟩]
  have e8 : ∀ v, st (st σ 151 (lx i 5) (w (tx i 13) + 1)) 151 (lx i 7) v 151 (lx i 8) = w (tx i 16) := by intro v; simp [st_r, lx_same, p8]
  have fin : ∀ v : Int32, v = (if w (tx i 13) + 1 ≤ w (tx i 6) then 0 else 1) → ∃ σ', f_L_kicks_177 a3 rec x3 x4 (nI i) (10 * nI i) 0 v (nI (lx i 7)) (st σ 151 (lx i 5) (w (tx i 13) + 1)) = f_L_kicks_213 a3 rec x3 x4 (nI i) (10 * nI i) σ' ∧ LT i σ' (clr i (badV i w)) ∧ WB i (clr i (badV i w)) ∧ LPi i σ' (clr i (badV i w)) ∧ F2 i σ σ' := by
    intro v hv
    refine ⟨st (st (st (st (st σ 151 (lx i 5) (w (tx i 13) + 1)) 151 (lx i 7) v) 151 (lx i 8) (w (tx i 16) + 1)) 151 (lx i 4) 0) 151 (lx i 6) 0, ?_, ?_, ?_, ?_, (((((F2.rf i σ).st (by decide) _).st (by decide) _).st (by decide) _).st (by decide) _).st (by decide) _⟩
    · simp only [f_L_kicks_177, f_L_kicks_196, c7, if_neg g7, wb_eq, lx_8, c8, if_neg g8, if_true, e8, lx_4, c4, if_neg g4, lx_6, c6, if_neg g6]
    · by_cases h17 : w (tx i 17) = 0
      · simp only [LT, clr, badV, h17, if_true, st_r, lx_same, upd_ap, tx_same]
        simp [l0, lj, l3, hv]
        exact lj
      · simp only [LT, clr, badV, h17, if_false, st_r, lx_same, upd_ap, tx_same]
        simp [l0, lj, l3, hv]
        exact lj
    · have q : b01 (if w (tx i 13) + 1 ≤ w (tx i 6) then 0 else 1) := by
        split
        · exact Or.inl rfl
        · exact Or.inr rfl
      by_cases h17 : w (tx i 17) = 0
      · simp only [WB, clr, badV, h17, if_true, upd_ap, tx_same]
        simp
        exact ⟨b1, b2, Or.inl rfl, q, b5⟩
      · simp only [WB, clr, badV, h17, if_false, upd_ap, tx_same]
        simp
        exact ⟨b1, b2, Or.inl rfl, q, b5⟩
    · by_cases h17 : w (tx i 17) = 0
      · simp [LPi, clr, badV, h17, st_r, lx_same, upd_ap, tx_same, p9]
      · simp [LPi, clr, badV, h17, st_r, lx_same, upd_ap, tx_same, p9]
  simp only [f_L_kicks_98, f_L_kicks_99, f_L_kicks_143, if_true, lx_5, c5, if_neg g5, wb_eq, l5, e5, tv_6 (hB.st1 hn6) hV hi, cb_some, lx_7, ← s6]
  by_cases h : w (tx i 13) + 1 ≤ w (tx i 6)
  · rw [if_pos h, f_L_kicks_176]
    exact fin 0 (by rw [if_pos h])
  · rw [if_neg h]
    exact fin 1 (by rw [if_neg h])
/-- a good cycle -/
theorem l_good {n i : Nat} {σ : Sg} {w : Vec} (hi : i < n) (hn : n ≤ 3) (lt : LT i σ w) (hw : WB i w) (lp : LPi i σ w) (h15 : w (tx i 15) = 0) (a3 x3 x4 : Int32) (rec : Int32 → Int32 → Int32 → Sg → Option (Int32 × Sg)) : ∃ σ', f_L_kicks_99 a3 rec x3 x4 (nI i) (10 * nI i) 1 σ = f_L_kicks_213 a3 rec x3 x4 (nI i) (10 * nI i) σ' ∧ LT i σ' (clr i (goodV i w)) ∧ WB i (clr i (goodV i w)) ∧ LPi i σ' (clr i (goodV i w)) ∧ F2 i σ σ' := by
  obtain ⟨l0, l4, l5, l6, l7, lj, l3⟩ := id lt
  obtain ⟨b1, b2, b3, b4, b5⟩ := id hw
  obtain ⟨p8, p9⟩ := id lp
  have hi3 : i < 3 := by omega
  have c4 := lx_cl hi3 (c := 4) (by decide)
  have c5 := lx_cl hi3 (c := 5) (by decide)
  have c6 := lx_cl hi3 (c := 6) (by decide)
  have c7 := lx_cl hi3 (c := 7) (by decide)
  have c8 := lx_cl hi3 (c := 8) (by decide)
  have g4 := lx_in hi3 (c := 4) (by decide)
  have g5 := lx_in hi3 (c := 5) (by decide)
  have g6 := lx_in hi3 (c := 6) (by decide)
  have g7 := lx_in hi3 (c := 7) (by decide)
  have g8 := lx_in hi3 (c := 8) (by decide)
  have n10 : ¬ (1 : Int32) = 0 := by decide
  have fin : ∀ v : Int32, v = (if w (tx i 13) ≤ 0 then 0 else w (tx i 13) - 1) → ∃ σ', f_L_kicks_143 a3 rec x3 x4 (nI i) (10 * nI i) 1 v (nI (lx i 5)) σ = f_L_kicks_213 a3 rec x3 x4 (nI i) (10 * nI i) σ' ∧ LT i σ' (clr i (goodV i w)) ∧ WB i (clr i (goodV i w)) ∧ LPi i σ' (clr i (goodV i w)) ∧ F2 i σ σ' := by
    intro v hv
    have e8 : st (st σ 151 (lx i 5) v) 151 (lx i 7) 0 151 (lx i 8) = w (tx i 16) := by simp [st_r, lx_same, p8]
    refine ⟨st (st (st (st (st σ 151 (lx i 5) v) 151 (lx i 7) 0) 151 (lx i 8) (w (tx i 16) + 0)) 151 (lx i 4) 0) 151 (lx i 6) 0, ?_, ?_, ?_, ?_, (((((F2.rf i σ).st (by decide) _).st (by decide) _).st (by decide) _).st (by decide) _).st (by decide) _⟩
    · simp only [f_L_kicks_143, f_L_kicks_176, f_L_kicks_177, f_L_kicks_196, c5, if_neg g5, n10, if_false, lx_7, c7, if_neg g7, wb_eq, lx_8, c8, if_neg g8, e8, lx_4, c4, if_neg g4, lx_6, c6, if_neg g6]
    · simp only [LT, clr, goodV, st_r, lx_same, upd_ap, tx_same]
      simp [l0, lj, l3, hv, h15]
      exact lj
    · simp only [WB, clr, goodV, upd_ap, tx_same]
      simp
      exact ⟨b1, b2, Or.inl rfl, b4, b5⟩
    · simp [LPi, clr, goodV, st_r, lx_same, upd_ap, tx_same, p8, p9]
  simp only [f_L_kicks_99, n10, if_false, lx_5, c5, if_neg g5, l5]
  by_cases h : w (tx i 13) ≤ 0
  · rw [if_pos h]; exact fin 0 (by rw [if_pos h])
  · rw [if_neg h]; exact fin _ (by rw [if_neg h])
