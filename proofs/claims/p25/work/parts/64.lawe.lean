/-! THE LAW's reset -/
/-- the law's numbers against the row, between two ticks and within one -/
def LQ (n c : Nat) (σ : Sg) (w : Vec) : Prop := (σ 150 0 = w 9 ∧ σ 150 1 = w 10 ∧ σ 150 2 = w 11 ∧ σ 150 8 = w 18 ∧ σ 150 3 = (if w 9 = 0 then w 12 else 0)) ∧ (w 9 = 1 → (σ 150 4 = w 13 ∧ σ 150 5 = w 14 ∧ σ 150 6 = w 15 ∧ σ 150 7 = w 16) ∧ (∀ i, i < n → LT i σ w ∧ WB i w) ∧ ∀ i, n ≤ i → i < 3 → σ 151 (lx i 7) = 0) ∧ (¬ w 9 = 1 → (∀ k, 4 ≤ k → k < 8 → σ 150 k = 0) ∧ ∀ i d, i < 3 → d < 8 → σ 151 (lx i d) = 0) ∧ LC c σ w ∧ ∀ i, i < n → LPi i σ w ∧ LF i σ w ∧ WD i w
/-- the lowest expired task, as the law finds it -/
def lowL (a b c z : Int32) : Int32 := if a = 1 then 0 else if b = 1 then 1 else if c = 1 then 2 else z
theorem rs_loop (a3 a4 a5 cause z : Int32) (hc : ¬ cause = 3) (σ : Sg) : f_L_reset_7 a3 a4 a5 FU cause a5 z 2 σ = f_L_reset_46 a3 a4 a5 cause a5 (lowL (σ 151 (lx 0 7)) (σ 151 (lx 1 7)) (σ 151 (lx 2 7)) z) σ := by
  have e2 : ((10 : Int32) * 2 + 7).toNatClampNeg = lx 2 7 := by decide
  have e1 : ((10 : Int32) * 1 + 7).toNatClampNeg = lx 1 7 := by decide
  have e0 : ((10 : Int32) * 0 + 7).toNatClampNeg = lx 0 7 := by decide
  have g2 : ¬ ((10 : Int32) * 2 + 7 < 0 ∨ 30 ≤ lx 2 7) := by decide
  have g1 : ¬ ((10 : Int32) * 1 + 7 < 0 ∨ 30 ≤ lx 1 7) := by decide
  have g0 : ¬ ((10 : Int32) * 0 + 7 < 0 ∨ 30 ≤ lx 0 7) := by decide
  have m2 : ¬ (2 : Int32) < 0 := by decide
  have m1 : ¬ (1 : Int32) < 0 := by decide
  have m0 : ¬ (0 : Int32) < 0 := by decide
  have mm : (-1 : Int32) < 0 := by decide
  have d2 : (2 : Int32) + -1 = 1 := by decide
  have d1 : (1 : Int32) + -1 = 0 := by decide
  have d0 : (0 : Int32) + -1 = -1 := by decide
  have s0 : ∀ (f : Nat) (y : Int32), f_L_reset_7 a3 a4 a5 (f + 1) cause a5 y (-1) σ = f_L_reset_46 a3 a4 a5 cause a5 y σ := by
    intro f y; rw [f_L_reset_7, if_pos mm]
  have s1 : ∀ (f : Nat) (y : Int32), f_L_reset_7 a3 a4 a5 (f + 1 + 1) cause a5 y 0 σ = f_L_reset_46 a3 a4 a5 cause a5 (if σ 151 (lx 0 7) = 1 then 0 else y) σ := by
    intro f y
    rw [f_L_reset_7, if_neg m0, if_neg hc, e0, if_neg g0, f_L_reset_38, f_L_reset_38, d0, s0, s0]
    split <;> rfl
  have s2 : ∀ (f : Nat) (y : Int32), f_L_reset_7 a3 a4 a5 (f + 1 + 1 + 1) cause a5 y 1 σ = f_L_reset_46 a3 a4 a5 cause a5 (if σ 151 (lx 0 7) = 1 then 0 else if σ 151 (lx 1 7) = 1 then 1 else y) σ := by
    intro f y
    rw [f_L_reset_7, if_neg m1, if_neg hc, e1, if_neg g1, f_L_reset_38, f_L_reset_38, d1, s1, s1]
    by_cases h : σ 151 (lx 1 7) = 1
    · rw [if_pos h, if_pos h]
    · rw [if_neg h, if_neg h]
  rw [show FU = 99996 + 1 + 1 + 1 + 1 from rfl, f_L_reset_7, if_neg m2, if_neg hc, e2, if_neg g2, f_L_reset_38, f_L_reset_38, d2, s2, s2, lowL]
  by_cases h : σ 151 (lx 2 7) = 1
  · rw [if_pos h, if_pos h]
  · rw [if_neg h, if_neg h]
theorem low_fe {n : Nat} (hn : n ≤ 3) {σ : Sg} {w : Vec} (h : ∀ i, i < n → σ 151 (lx i 7) = w (tx i 15)) (h0 : ∀ i, n ≤ i → i < 3 → σ 151 (lx i 7) = 0) : lowL (σ 151 (lx 0 7)) (σ 151 (lx 1 7)) (σ 151 (lx 2 7)) (-6) = fe w n 0 := by
  have n01 : ¬ (0 : Int32) = 1 := by decide
  have hh : n = 0 ∨ n = 1 ∨ n = 2 ∨ n = 3 := by omega
  rcases hh with rfl | rfl | rfl | rfl
  · rw [h0 0 (by decide) (by decide), h0 1 (by decide) (by decide), h0 2 (by decide) (by decide)]; rfl
  · rw [h 0 (by decide), h0 1 (by decide) (by decide), h0 2 (by decide) (by decide)]
    simp only [lowL, fe, n01, if_false]; rfl
  · rw [h 0 (by decide), h 1 (by decide), h0 2 (by decide) (by decide)]
    simp only [lowL, fe, n01, if_false]; rfl
  · rw [h 0 (by decide), h 1 (by decide), h 2 (by decide)]
    simp only [lowL, fe]; rfl
/-- what the record and the task's count make of the row -/
theorem mk2_facts {c i0 : Nat} (cause tk : Int32) (w : Vec) (htk : tk < 0 ∨ (i0 < 6 ∧ tk = nI i0)) : (∀ k, k < 18 → mk2 tk (mk1 cause tk w (c % 16)) k = w k) ∧ mk2 tk (mk1 cause tk w (c % 16)) 18 = w 18 + 1 ∧ (∀ i d, i < 6 → d < 26 → d ≠ 19 → mk2 tk (mk1 cause tk w (c % 16)) (tx i d) = w (tx i d)) ∧ (∀ i, i < 6 → mk2 tk (mk1 cause tk w (c % 16)) (tx i 19) = if tk = nI i then w (tx i 19) + 1 else w (tx i 19)) ∧ mk2 tk (mk1 cause tk w (c % 16)) (rx (c % 16) 0) = cause ∧ mk2 tk (mk1 cause tk w (c % 16)) (rx (c % 16) 1) = w 8 ∧ mk2 tk (mk1 cause tk w (c % 16)) (rx (c % 16) 2) = tk ∧ mk2 tk (mk1 cause tk w (c % 16)) (rx (c % 16) 3) = w 10 ∧ mk2 tk (mk1 cause tk w (c % 16)) (rx (c % 16) 4) = w 13 := by
  have hcm : c % 16 < 16 := Nat.mod_lt _ (by decide)
  have A : ∀ k, k < 18 → mk1 cause tk w (c % 16) k = w k := fun k hk => by
    have e : ∀ j, (k = rx (c % 16) j) = False := fun j => k_rx _ _ k (by omega)
    simp only [mk1, upd_ap, e, if_false, if_neg (show ¬ k = 18 by omega)]
  have A18 : mk1 cause tk w (c % 16) 18 = w 18 + 1 := by simp only [mk1, upd_ap, if_true]
  have At : ∀ i d, i < 6 → d < 26 → mk1 cause tk w (c % 16) (tx i d) = w (tx i d) := fun i d hi hd => by
    have e : ∀ j, ¬ (tx i d = rx (c % 16) j) := fun j => by simp only [tx, rx]; omega
    simp only [mk1, upd_ap, if_neg (e _), tx_k i d 18 (by decide), if_false]
  have rr : ∀ a b, (rx (c % 16) a = rx (c % 16) b) = (a = b) := fun a b => by simp only [rx, eq_iff_iff]; omega
  have Ar : ∀ j v, j < 5 → (v = if j = 4 then w 13 else if j = 3 then w 10 else if j = 2 then tk else if j = 1 then w 8 else cause) → mk1 cause tk w (c % 16) (rx (c % 16) j) = v := by
    intro j v hj hv
    have : j = 0 ∨ j = 1 ∨ j = 2 ∨ j = 3 ∨ j = 4 := by omega
    rcases this with rfl | rfl | rfl | rfl | rfl <;> (simp only [mk1, upd_ap, rx_k _ _ 18 (by decide), rr]; rw [hv]; simp)
  rcases htk with h | ⟨hj, rfl⟩
  · simp only [mk2, h, if_true]
    refine ⟨A, A18, fun i d hi hd _ => At i d hi hd, fun i hi => ?_, Ar 0 _ (by decide) rfl, Ar 1 _ (by decide) rfl, Ar 2 _ (by decide) rfl, Ar 3 _ (by decide) rfl, Ar 4 _ (by decide) rfl⟩
    rw [if_neg (show ¬ tk = nI i from fun q => nI_pos (show i < 2 ^ 31 by omega) (by rw [← q]; exact h)), At i 19 hi (by decide)]
  · have hneg : ¬ nI i0 < 0 := nI_pos (by omega)
    have tr : ∀ d, ¬ rx (c % 16) d = tx i0 19 := fun d => by simp only [tx, rx]; omega
    simp only [mk2, hneg, if_false, nI_clamp (show i0 < 2 ^ 31 by omega), upd_ap, if_neg (tr _)]
    refine ⟨fun k hk => by rw [if_neg (by simp only [tx]; omega)]; exact A k hk, by rw [if_neg (by simp only [tx]; omega)]; exact A18, fun i d hi hd hx => ?_, fun i hi => ?_, Ar 0 _ (by decide) rfl, Ar 1 _ (by decide) rfl, Ar 2 _ (by decide) rfl, Ar 3 _ (by decide) rfl, Ar 4 _ (by decide) rfl⟩
    · rw [if_neg (by rw [tx_tx i i0 d 19 hd (by decide)]; omega)]; exact At i d hi hd
    · by_cases hii : i = i0
      · subst hii; rw [if_pos rfl, if_pos rfl, At i 19 hi (by decide)]
      · rw [if_neg (by rw [tx_tx i i0 19 19 (by decide) (by decide)]; omega), if_neg (by rw [nI_eq (by omega) (by omega)]; omega), At i 19 hi (by decide)]
/-- the law's board behind a reset -/
def rsB (σ : Sg) (att : Int32) (img mode left : Int32) : Sg := st (st (st (st (st σ 150 2 (σ 150 2 + 1)) 150 2 att) 150 1 img) 150 0 mode) 150 3 left
theorem rs_104 {n t c : Nat} {σ : Sg} {w0 : Vec} (a3 a4 a5 : Int32) (hB : BS 1 n σ w0) (hV : VW n t c w0) (hn : n ≤ 3) (h1 : σ 150 1 = 0 ∨ σ 150 1 = 1) : f_L_reset_104 a3 a4 a5 σ = cb (f_L_anew_0 (if σ 150 2 + 1 < w0 7 then rsB σ (σ 150 2 + 1) (σ 150 1) 0 (w0 5) else if σ 150 1 = 0 then rsB σ 0 1 0 (w0 5) else rsB σ (σ 150 2 + 1) 1 2 0)) (fun _ s => some (0, s)) := by
  have hn6 : n ≤ 6 := by omega
  have e22 : ∀ v, st σ 150 2 v 150 2 = v := fun v => by rw [st_r, if_pos ⟨rfl, rfl⟩]
  have e21 : ∀ v, st σ 150 2 v 150 1 = σ 150 1 := fun v => by rw [st_r, if_neg (by decide)]
  have c0 : ((0 : Int32)).toNatClampNeg = 0 := by decide
  have c1 : ((1 : Int32)).toNatClampNeg = 1 := by decide
  have c2 : ((2 : Int32)).toNatClampNeg = 2 := by decide
  have c3 : ((3 : Int32)).toNatClampNeg = 3 := by decide
  have g0 : ¬ ((0 : Int32) < 0 ∨ 14 ≤ 0) := by decide
  have g1 : ¬ ((1 : Int32) < 0 ∨ 14 ≤ 1) := by decide
  have g2 : ¬ ((2 : Int32) < 0 ∨ 14 ≤ 2) := by decide
  have g3 : ¬ ((3 : Int32) < 0 ∨ 14 ≤ 3) := by decide
  have n10 : ¬ (1 : Int32) = 0 := by decide
  have n01 : ¬ (0 : Int32) = 1 := by decide
  have ex : ∀ v u, st (st σ 150 2 v) 150 2 u 150 1 = σ 150 1 := fun v u => by rw [st_r, if_neg (by decide), e21]
  rw [f_L_reset_104, wb_eq, sv_20 (hB.st0 hn6) hV, cb_some, e22]
  by_cases ha : σ 150 2 + 1 < w0 7
  · rw [if_pos ha, if_pos ha, f_L_reset_128, if_pos rfl, f_L_reset_146, f_L_reset_147, if_pos rfl, f_L_reset_165, f_L_reset_168, c2, if_neg g2, wb_eq, if_pos rfl, e22, ex, f_L_reset_183, c1, if_neg g1, wb_eq, if_pos rfl, f_L_reset_196, c0, if_neg g0, wb_eq, if_pos rfl, sv_18 ((((hB.st0 hn6).st0 hn6).st0 hn6).st0 hn6) hV, cb_some, f_L_reset_214, c3, if_neg g3, wb_eq]
    rfl
  · rw [if_neg ha, if_neg ha, f_L_reset_128, if_neg n10, e21]
    rcases h1 with h1 | h1
    · rw [if_neg (by rw [h1]; exact n01), if_pos h1, f_L_reset_146, f_L_reset_147, if_neg n10, if_pos rfl, f_L_reset_168, c2, if_neg g2, wb_eq, if_neg n10, f_L_reset_183, c1, if_neg g1, wb_eq, if_pos rfl, f_L_reset_196, c0, if_neg g0, wb_eq, if_pos rfl, sv_18 ((((hB.st0 hn6).st0 hn6).st0 hn6).st0 hn6) hV, cb_some, f_L_reset_214, c3, if_neg g3, wb_eq]
      rfl
    · rw [if_pos h1, if_neg (by rw [h1]; exact n10), f_L_reset_147, if_neg n10, if_neg n10, f_L_reset_165, f_L_reset_168, c2, if_neg g2, wb_eq, if_neg n10, e22, f_L_reset_183, c1, if_neg g1, wb_eq, if_neg n10, f_L_reset_196, c0, if_neg g0, wb_eq, if_neg n10, f_L_reset_214, c3, if_neg g3, wb_eq]
      rfl
