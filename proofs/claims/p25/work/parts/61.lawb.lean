/-! THE LAW's task: a job begins; a whole tick of a task -/
/-- stage 2: a job begins -/
theorem l_beg {n t c i : Nat} {σ : Sg} {w w0 : Vec} (hB : BS 1 n σ w0) (hV : VW n t c w0) (hi : i < n) (hn : n ≤ 3) (s : ∀ d, d < 8 → w (tx i d) = w0 (tx i d)) (lt : LT i σ w) (hw : WB i w) (hd : WD i w) (hf : LF i σ w) (h4 : σ 150 4 = w 13) {m : Nat} (hm : m < 2) (h10 : w 10 = nI m) (a4 : Int32) : ∃ σ', f_L_crashes_126 a4 (nI i) (10 * nI i) (nI (fx m i 0)) (actV i w) σ = some (if actV i w = 5 then 1 else 0, σ') ∧ (actV i w = 5 → σ' = σ) ∧ (¬ actV i w = 5 → LT i σ' (lateV i (bgV i w (actV i w))) ∧ WB i (lateV i (bgV i w (actV i w)))) ∧ F1 i σ σ' := by
  obtain ⟨l0, l4, l5, l6, l7, lj, l3⟩ := id lt
  obtain ⟨b1, b2, b3, b4, b5⟩ := id hw
  have hn6 : n ≤ 6 := by omega
  have hi3 : i < 3 := by omega
  have c0 := lx_cl hi3 (c := 0) (by decide)
  have c1 := lx_cl hi3 (c := 1) (by decide)
  have c2 := lx_cl hi3 (c := 2) (by decide)
  have c3 := lx_cl hi3 (c := 3) (by decide)
  have c4 := lx_cl hi3 (c := 4) (by decide)
  have g0 := lx_in hi3 (c := 0) (by decide)
  have g1 := lx_in hi3 (c := 1) (by decide)
  have g2 := lx_in hi3 (c := 2) (by decide)
  have g3 := lx_in hi3 (c := 3) (by decide)
  have g4 := lx_in hi3 (c := 4) (by decide)
  have k2 := fx_cl hm hi3 (j := 2) (by decide)
  have f2 := fx_in hm hi3 (j := 2) (by decide)
  by_cases h5 : actV i w = 5
  · refine ⟨σ, ?_, fun _ => rfl, fun q => absurd h5 q, F1.rf i σ⟩
    simp only [f_L_crashes_126, h5, if_true]
  have fmm : fm w = 3 * m := by
    unfold fm; rw [h10]
    have : m = 0 ∨ m = 1 := by omega
    rcases this with rfl | rfl <;> decide
  generalize ha : actV i w = a at h5 ⊢
  -- what stands there before the lateness is looked at
  have key : ∀ (hg rv av : Int32), hg = (if a = 1 then 1 else 0) → rv = (if a = 1 then 0 else w (tx i 1) + (if a = 2 then w (tx i (22 + fm w)) else 0)) → av = (if a = 3 then 0 else if a = 4 then 2 else 1) → ∃ σ', f_L_crashes_237 a4 (nI i) (10 * nI i) av (w (tx i 12)) (nI (lx i 4)) (st (st (st (st σ 151 (lx i 0) 1) 151 (lx i 1) hg) 151 (lx i 2) (w 13)) 151 (lx i 3) rv) = some (0, σ') ∧ LT i σ' (lateV i (bgV i w a)) ∧ WB i (lateV i (bgV i w a)) ∧ F1 i σ σ' := by
    intro hg rv av ehg erv eav
    have F : F1 i σ (st (st (st (st (st σ 151 (lx i 0) 1) 151 (lx i 1) hg) 151 (lx i 2) (w 13)) 151 (lx i 3) rv) 151 (lx i 4) (w (tx i 12) + av)) := (((((F1.rf i σ).st (by decide) _).st (by decide) _).st (by decide) _).st (by decide) _).st (by decide) _
    have lt2 : LT i (st (st (st (st (st σ 151 (lx i 0) 1) 151 (lx i 1) hg) 151 (lx i 2) (w 13)) 151 (lx i 3) rv) 151 (lx i 4) (w (tx i 12) + av)) (bgV i w a) := by
      simp only [LT, bgV, st_r, lx_same, upd_ap, tx_same]
      by_cases h1 : a = 1
      · simp [l5, l6, l7, ehg, erv, eav, h1]
      · simp [l5, l6, l7, ehg, erv, eav, h1]
    have wb2 : WB i (bgV i w a) := by
      obtain ⟨⟨d, d1, d2, d3⟩, hda⟩ := hd
      obtain ⟨x, x1, x2⟩ := hda m hm
      simp only [WB, bgV, upd_ap, tx_same]
      simp
      refine ⟨Or.inr rfl, fun _ => ?_, b3, b4, fun _ q => ?_⟩
      · split
        · exact Or.inr rfl
        · exact Or.inl rfl
      · rw [fmm, d3, x2]
        split
        · exact ⟨d + x, by omega, by omega, nI_add d x⟩
        · exact ⟨d, by omega, by omega, nI_add d 0⟩
    have kb := bg_keeps i w a
    have h13 : bgV i w a 13 = w 13 := kb.1 13 (by decide)
    have s7 : bgV i w a (tx i 7) = w0 (tx i 7) := by rw [kb.2.1 i 7 (by decide) (Or.inr (by decide))]; exact s 7 (by decide)
    obtain ⟨σ', z1, z2, z3, z4⟩ := l_late ((((((hB.st1 hn6).st1 hn6).st1 hn6).st1 hn6).st1 hn6)) hV hi hn s7 lt2 wb2 (by rw [h13, F.1 150 (by decide)]; exact h4) a4
    refine ⟨σ', ?_, z2, z3, F.tr z4⟩
    rw [f_L_crashes_237, c4, if_neg g4, wb_eq]
    exact z1
  have e4 : ∀ (hg rv : Int32), st (st (st (st σ 151 (lx i 0) 1) 151 (lx i 1) hg) 151 (lx i 2) (w 13)) 151 (lx i 3) rv 151 (lx i 4) = w (tx i 12) := by
    intro hg rv
    simp [st_r, lx_same, l4]
  have k208 : ∀ (hg rv : Int32), hg = (if a = 1 then 1 else 0) → rv = (if a = 1 then 0 else w (tx i 1) + (if a = 2 then w (tx i (22 + fm w)) else 0)) → ∃ σ', f_L_crashes_208 a4 (nI i) (10 * nI i) a rv (nI (lx i 3)) (st (st (st σ 151 (lx i 0) 1) 151 (lx i 1) hg) 151 (lx i 2) (w 13)) = some (0, σ') ∧ LT i σ' (lateV i (bgV i w a)) ∧ WB i (lateV i (bgV i w a)) ∧ F1 i σ σ' := by
    intro hg rv ehg erv
    simp only [f_L_crashes_208, c3, if_neg g3, wb_eq, lx_4, c4, if_neg g4, e4]
    by_cases h3 : a = 3
    · rw [if_pos h3]; exact key hg rv 0 ehg erv (by rw [if_pos h3])
    · rw [if_neg h3]
      by_cases h4' : a = 4
      · rw [if_pos h4']; exact key hg rv 2 ehg erv (by rw [if_neg h3, if_pos h4'])
      · rw [if_neg h4']; exact key hg rv 1 ehg erv (by rw [if_neg h3, if_neg h4'])
  have k159 : ∀ hg : Int32, hg = (if a = 1 then 1 else 0) → ∃ σ', f_L_crashes_159 a4 (nI i) (10 * nI i) (nI (fx m i 0)) a hg (nI (lx i 1)) (st σ 151 (lx i 0) 1) = some (0, σ') ∧ LT i σ' (lateV i (bgV i w a)) ∧ WB i (lateV i (bgV i w a)) ∧ F1 i σ σ' := by
    intro hg ehg
    have e150 : st (st σ 151 (lx i 0) 1) 151 (lx i 1) hg 150 4 = w 13 := by rw [st_o _ (by decide), st_o _ (by decide)]; exact h4
    simp only [f_L_crashes_159, c1, if_neg g1, wb_eq, lx_2, c2, if_neg g2, e150, lx_3]
    by_cases h1 : a = 1
    · rw [if_pos h1]
      exact k208 hg 0 ehg (by rw [if_pos h1])
    · rw [if_neg h1, tv_1 (((hB.st1 hn6).st1 hn6).st1 hn6) hV hi, cb_some]
      rw [← s 1 (by decide)]
      by_cases h2 : a = 2
      · rw [if_pos h2, fx_2, k2, if_neg f2, f_L_crashes_207]
        have e2 : st (st (st σ 151 (lx i 0) 1) 151 (lx i 1) hg) 151 (lx i 2) (w 13) 152 (fx m i 2) = w (tx i (22 + fm w)) := by
          rw [st_o _ (by decide), st_o _ (by decide), st_o _ (by decide), hf m 2 hm (by decide), fmm]; congr 2; omega
        rw [e2]
        exact k208 hg _ ehg (by rw [if_neg h1, if_pos h2])
      · rw [if_neg h2, f_L_crashes_207]
        exact k208 hg _ ehg (by rw [if_neg h1, if_neg h2])
  simp only [f_L_crashes_126, if_neg h5, lx_0, c0, if_neg g0, wb_eq, lx_1]
  by_cases h1 : a = 1
  · rw [if_pos h1]
    obtain ⟨σ', z1, z2, z3, z4⟩ := k159 1 (by rw [if_pos h1])
    exact ⟨σ', z1, fun q => absurd q h5, fun _ => ⟨z2, z3⟩, z4⟩
  · rw [if_neg h1]
    obtain ⟨σ', z1, z2, z3, z4⟩ := k159 0 (by rw [if_neg h1])
    exact ⟨σ', z1, fun q => absurd q h5, fun _ => ⟨z2, z3⟩, z4⟩
/-- a task's part of a tick -/
theorem l_crash {n t c i : Nat} {σ : Sg} {w w0 : Vec} (hB : BS 1 n σ w0) (hV : VW n t c w0) (hi : i < n) (hn : n ≤ 3) (s : ∀ d, d < 8 → w (tx i d) = w0 (tx i d)) (lt : LT i σ w) (hw : WB i w) (hd : WD i w) (hf : LF i σ w) (h4 : σ 150 4 = w 13) {m : Nat} (hm : m < 2) (h10 : w 10 = nI m) (h1 : σ 150 1 = w 10) : ∃ σ', f_L_crashes_0 (nI i) σ = some ((cr i w).1, σ') ∧ LT i σ' (cr i w).2 ∧ WB i (cr i w).2 ∧ F1 i σ σ' := by
  obtain ⟨σ1, z1, z2, z3, z4⟩ := l_go hi hn lt hw
  have hn6 : n ≤ 6 := by omega
  have hi3 : i < 3 := by omega
  have kg := go_keeps i w
  have c0 := lx_cl hi3 (c := 0) (by decide)
  have g0 := lx_in hi3 (c := 0) (by decide)
  have k0 := fx_cl hm hi3 (j := 0) (by decide)
  have f0 := fx_in hm hi3 (j := 0) (by decide)
  have k1 := fx_cl hm hi3 (j := 1) (by decide)
  have f1 := fx_in hm hi3 (j := 1) (by decide)
  have hB1 : BS 1 n σ1 w0 := hB.L hn6 (fun a ha => z4.1 a (by omega))
  have g13 : goV i w 13 = w 13 := kg.1 13 (by decide)
  have g10 : goV i w 10 = w 10 := kg.1 10 (by decide)
  have s1 : ∀ d, d < 8 → goV i w (tx i d) = w0 (tx i d) := fun d hd => by rw [kg.2.1 i d (by omega) (Or.inr (by omega))]; exact s d hd
  have h41 : σ1 150 4 = goV i w 13 := by rw [z4.1 150 (by decide), g13]; exact h4
  have hf1 : LF i σ1 (goV i w) := fun m j hm hj => by
    rw [z4.1 152 (by decide), kg.2.1 i (20 + 3 * m + j) (by omega) (Or.inr (by omega))]; exact hf m j hm hj
  have hd1 : WD i (goV i w) := by
    unfold WD
    rw [kg.2.1 i 1 (by decide) (Or.inr (by decide))]
    refine ⟨hd.1, fun m hm => ?_⟩
    rw [kg.2.1 i (22 + 3 * m) (by omega) (Or.inr (by omega))]; exact hd.2 m hm
  have fin : cr i w = (0, lateV i (goV i w)) → ∃ σ', f_L_crashes_239 (nI i) (nI i) (10 * nI i) σ1 = some ((cr i w).1, σ') ∧ LT i σ' (cr i w).2 ∧ WB i (cr i w).2 ∧ F1 i σ σ' := by
    intro e
    obtain ⟨σ', y1, y2, y3, y4⟩ := l_late hB1 hV hi hn (s1 7 (by decide)) z2 z3 h41 (nI i)
    rw [e]
    exact ⟨σ', y1, y2, y3, z4.tr y4⟩
  obtain ⟨e, he1, he2, he⟩ := (hV.1.2.2 i hi).1
  have hE : ¬ w (tx i 0) = 0 := by rw [s 0 (by decide), he]; exact nI_ne0 (by omega) (by omega)
  have fmm : fm (goV i w) = 3 * m := by
    unfold fm; rw [g10, h10]
    have : m = 0 ∨ m = 1 := by omega
    rcases this with rfl | rfl <;> decide
  rw [z1, h1, h10, fx_0, f_L_crashes_69, tv_0 hB1 hV hi, cb_some, lx_0, c0, if_neg g0, z2.1, tv_2 hB1 hV hi, cb_some, ← s 0 (by decide), ← s 2 (by decide), if_neg hE, if_neg hE, h41, g13]
  by_cases h0 : goV i w (tx i 8) = 0
  · rw [if_pos h0]
    by_cases hdue : w 13 - w 13 / w (tx i 0) * w (tx i 0) = w (tx i 2) - w (tx i 2) / w (tx i 0) * w (tx i 0)
    · obtain ⟨σ', y1, y2, y3, y4⟩ := l_beg hB1 hV hi hn s1 z2 z3 hd1 hf1 h41 hm (by rw [g10]; exact h10) (nI i)
      rw [if_pos hdue, fx_1, k1, if_neg f1, k0, if_neg f0, hf1 m 1 hm (by decide), hf1 m 0 hm (by decide)]
      have ea : (if w 13 < goV i w (tx i (20 + 3 * m + 1)) then f_L_crashes_126 (nI i) (nI i) (10 * nI i) (nI (fx m i 0)) 0 σ1 else f_L_crashes_126 (nI i) (nI i) (10 * nI i) (nI (fx m i 0)) (goV i w (tx i (20 + 3 * m + 0))) σ1) = f_L_crashes_126 (nI i) (nI i) (10 * nI i) (nI (fx m i 0)) (actV i (goV i w)) σ1 := by
        rw [actV, fmm, g13, show 21 + 3 * m = 20 + 3 * m + 1 by omega]
        split <;> rfl
      rw [ea, y1]
      by_cases h5 : actV i (goV i w) = 5
      · have ec : cr i w = (1, goV i w) := by simp only [cr, h0, hdue, h5, if_true]
        rw [ec, if_pos h5, y2 h5]
        exact ⟨σ1, rfl, z2, z3, z4⟩
      · have ec : cr i w = (0, lateV i (bgV i (goV i w) (actV i (goV i w)))) := by simp only [cr, h0, hdue, h5, if_true, if_false]
        rw [ec, if_neg h5]
        exact ⟨σ', rfl, (y3 h5).1, (y3 h5).2, z4.tr y4⟩
    · rw [if_neg hdue]
      exact fin (by simp only [cr, h0, hdue, if_true, if_false])
  · rw [if_neg h0]
    exact fin (by simp only [cr, h0, if_false])
