/-! THE LAW's reset, whole -/
theorem mk3_o (v : Vec) {x : Nat} (h : x < 9 ∨ 12 < x) : mk3 v x = v x := by
  unfold mk3
  split
  · simp only [upd_ap, if_neg (show ¬ x = 9 by omega), if_neg (show ¬ x = 11 by omega), if_neg (show ¬ x = 12 by omega)]
  · split
    · simp only [upd_ap, if_neg (show ¬ x = 9 by omega), if_neg (show ¬ x = 10 by omega), if_neg (show ¬ x = 11 by omega), if_neg (show ¬ x = 12 by omega)]
    · simp only [upd_ap, if_neg (show ¬ x = 9 by omega), if_neg (show ¬ x = 11 by omega), if_neg (show ¬ x = 12 by omega)]
theorem rs_46 {n : Nat} {σ : Sg} (a3 a4 a5 cause tm tk : Int32) (hn : n ≤ 3) (htk : tk < 0 ∨ ∃ j, j < n ∧ tk = nI j) : ∃ σh, f_L_reset_46 a3 a4 a5 cause tm tk σ = f_L_reset_104 a3 a4 a5 σh ∧ (∀ k, k < 8 → σh 150 k = σ 150 k) ∧ σh 150 8 = σ 150 8 + 1 ∧ (σh 150 9 = cause ∧ σh 150 10 = tm ∧ σh 150 11 = tk ∧ σh 150 12 = σ 150 1 ∧ σh 150 13 = σ 150 4) ∧ (∀ i d, i < 3 → d < 9 → σh 151 (lx i d) = σ 151 (lx i d)) ∧ (∀ i, i < 3 → σh 151 (lx i 9) = if tk = nI i then σ 151 (lx i 9) + 1 else σ 151 (lx i 9)) ∧ FL σ σh := by
  generalize hσ : st (st (st (st (st (st σ 150 9 cause) 150 10 tm) 150 11 tk) 150 12 (σ 150 1)) 150 13 (σ 150 4)) 150 8 (σ 150 8 + 1) = σ6
  have A : (∀ k, k < 8 → σ6 150 k = σ 150 k) ∧ σ6 150 8 = σ 150 8 + 1 ∧ (σ6 150 9 = cause ∧ σ6 150 10 = tm ∧ σ6 150 11 = tk ∧ σ6 150 12 = σ 150 1 ∧ σ6 150 13 = σ 150 4) ∧ σ6 151 = σ 151 ∧ FL σ σ6 := by
    rw [← hσ]
    refine ⟨fun k hk => ?_, by simp [st_r], by simp [st_r], ?_, ((((((FL.rf σ).st0 _ _).st0 _ _).st0 _ _).st0 _ _).st0 _ _).st0 _ _⟩
    · simp [st_r, show ¬ k = 8 by omega, show ¬ k = 9 by omega, show ¬ k = 10 by omega, show ¬ k = 11 by omega, show ¬ k = 12 by omega, show ¬ k = 13 by omega]
    · rw [st_o _ (by decide), st_o _ (by decide), st_o _ (by decide), st_o _ (by decide), st_o _ (by decide), st_o _ (by decide)]
  obtain ⟨A1, A2, A3, A4, A5⟩ := A
  have e1 : st (st (st σ 150 9 cause) 150 10 tm) 150 11 tk 150 1 = σ 150 1 := by simp [st_r]
  have e4 : st (st (st (st σ 150 9 cause) 150 10 tm) 150 11 tk) 150 12 (σ 150 1) 150 4 = σ 150 4 := by simp [st_r]
  have e8 : st (st (st (st (st σ 150 9 cause) 150 10 tm) 150 11 tk) 150 12 (σ 150 1)) 150 13 (σ 150 4) 150 8 = σ 150 8 := by simp [st_r]
  rw [f_L_reset_46, wb_eq, wb_eq, wb_eq, e1, wb_eq, e4, wb_eq, e8, wb_eq, hσ]
  rcases htk with h | ⟨j, hj, rfl⟩
  · rw [if_pos h]
    refine ⟨σ6, rfl, A1, A2, A3, fun i d _ _ => by rw [A4], fun i hi => ?_, A5⟩
    rw [if_neg (show ¬ tk = nI i from fun q => nI_pos (show i < 2 ^ 31 by omega) (by rw [← q]; exact h)), A4]
  · have hj3 : j < 3 := by omega
    have c9 := lx_cl hj3 (c := 9) (by decide)
    have g9 := lx_in hj3 (c := 9) (by decide)
    rw [if_neg (nI_pos (by omega)), lx_9, c9, if_neg g9, if_neg g9, wb_eq]
    refine ⟨st σ6 151 (lx j 9) (σ6 151 (lx j 9) + 1), rfl, fun k hk => by rw [st_o _ (by decide)]; exact A1 k hk, by rw [st_o _ (by decide)]; exact A2, by rw [st_o _ (by decide)]; exact A3, fun i d hi hd => ?_, fun i hi => ?_, A5.st1 _ _⟩
    · rw [st_r, if_neg (by simp only [lx]; omega), A4]
    · rw [st_r, A4]
      by_cases hij : i = j
      · subst hij; rw [if_pos ⟨rfl, rfl⟩, if_pos rfl]
      · rw [if_neg (by simp only [lx]; omega), if_neg (by rw [nI_eq (by omega) (by omega)]; omega)]
theorem l_reset {n t c : Nat} {σ : Sg} {w w0 : Vec} (h : LWr n c w0 σ w) (hV : VW n t c w0) (hn : n ≤ 3) (ht : t + 2 < 2 ^ 30) (cause crashed : Int32) (hc : (cause = 3 ∧ ∃ j, j < n ∧ crashed = nI j) ∨ (¬ cause = 3 ∧ crashed = -6)) : ∃ σ', f_L_reset_0 cause crashed (nI t) σ = some (0, σ') ∧ LQ n (c + 1) σ' (mkV n cause crashed w) ∧ FL σ σ' := by
  obtain ⟨hB, k2, k3, ⟨k4a, k4b, k4c⟩, ⟨k5a, k5b, k5c, k5d⟩, k6, k7, k8, ⟨k9a, k9b, k9c⟩, k10⟩ := id h
  have hc30 : c < 2 ^ 30 := by have := hV.2.2.2.1; omega
  have h18 : w 18 = nI c := by rw [k9b]; exact hV.1.1.2.2.1
  have h10 : w 10 = 0 ∨ w 10 = 1 := by rw [k9c]; exact hV.1.1.2.2.2.2.1
  have h8 : w 8 = nI t := by rw [k2 8 (by decide)]; exact hV.2.1
  have hcc : (w 18).toNatClampNeg = c := by rw [h18]; exact nI_clamp (by omega)
  generalize htkd : (if cause = 3 then crashed else fe w n 0) = tk
  have htk : tk < 0 ∨ ∃ j, j < n ∧ tk = nI j := by
    rw [← htkd]
    rcases hc with ⟨h3, j, hj, e⟩ | ⟨h3, -⟩
    · rw [if_pos h3]; exact Or.inr ⟨j, hj, e⟩
    · rw [if_neg h3]; exact fe_n w
  have st1 : f_L_reset_0 cause crashed (nI t) σ = f_L_reset_46 cause crashed (nI t) cause (nI t) tk σ := by
    rw [f_L_reset_0, ← htkd]
    rcases hc with ⟨h3, -⟩ | ⟨h3, h6⟩
    · rw [if_pos h3, show FU = 99999 + 1 from rfl, f_L_reset_7, if_neg (by decide), if_pos h3]
    · rw [if_neg h3, rs_loop cause crashed (nI t) cause crashed h3 σ, h6, low_fe hn (fun i hi => (k7 i hi).1.2.2.2.2.1) k8]
  obtain ⟨σh, z1, z2, z3, ⟨z4a, z4b, z4c, z4d, z4e⟩, z5, z6, z7⟩ := rs_46 (σ := σ) cause crashed (nI t) cause (nI t) tk hn htk
  have hBh : BS 1 n σh w0 := hB.L (by omega) (fun a ha => z7 a (by omega) (by omega))
  have q1 : σh 150 1 = w 10 := by rw [z2 1 (by decide)]; exact k4a
  have q2 : σh 150 2 = w 11 := by rw [z2 2 (by decide)]; exact k4b
  have r104 := rs_104 cause crashed (nI t) hBh hV hn (by rw [q1]; exact h10)
  obtain ⟨i0, hi0⟩ : ∃ i0 : Nat, tk < 0 ∨ (i0 < 6 ∧ tk = nI i0) := by
    rcases htk with q | ⟨j, hj, e⟩
    · exact ⟨0, Or.inl q⟩
    · exact ⟨j, Or.inr ⟨by omega, e⟩⟩
  obtain ⟨m1, m2, m3, m4, m5, m6, m7, m8, m9⟩ := mk2_facts (c := c) cause tk w hi0
  have emk : mkV n cause crashed w = mk3 (mk2 tk (mk1 cause tk w (c % 16))) := by rw [mkV, htkd, hcc]
  rw [emk]
  generalize mk2 tk (mk1 cause tk w (c % 16)) = v at m1 m2 m3 m4 m5 m6 m7 m8 m9 ⊢
  -- the board's numbers, whatever the case
  have fin : ∀ (att img mode left : Int32), mk3 v 9 = mode → ¬ mode = 1 → mk3 v 10 = img → mk3 v 11 = att → left = (if mode = 0 then mk3 v 12 else 0) → ∃ σ', (cb (f_L_anew_0 (rsB σh att img mode left)) fun _ s => some ((0 : Int32), s)) = some (0, σ') ∧ LQ n (c + 1) σ' (mk3 v) ∧ FL σ σ' := by
    intro att img mode left e9 e91 e10 e11 el
    obtain ⟨σ', y1, y2, y3, y4⟩ := l_anew (rsB σh att img mode left)
    have b150 : ∀ k, 4 ≤ k → rsB σh att img mode left 150 k = σh 150 k := fun k hk => by
      simp [rsB, st_r, show ¬ k = 3 by omega, show ¬ k = 0 by omega, show ¬ k = 1 by omega, show ¬ k = 2 by omega]
    have b151 : rsB σh att img mode left 151 = σh 151 := by
      simp only [rsB]
      rw [st_o _ (by decide), st_o _ (by decide), st_o _ (by decide), st_o _ (by decide), st_o _ (by decide)]
    have FB : FL σh (rsB σh att img mode left) := (((((FL.rf σh).st0 _ _).st0 _ _).st0 _ _).st0 _ _).st0 _ _
    have F : FL σ σ' := (z7.tr FB).tr y4
    have n8 : ∀ i d, 8 ≤ d → d < 10 → σ' 151 (lx i d) = σh 151 (lx i d) := fun i d h1 h2 => by
      rw [y3, if_neg (by simp only [lx]; omega), b151]
    have n9 : ∀ k, 8 ≤ k → σ' 150 k = σh 150 k := fun k hk => by rw [y2, if_neg (by omega)]; exact b150 k (by omega)
    refine ⟨σ', by rw [y1, cb_some], ⟨⟨?_, ?_, ?_, ?_, ?_⟩, fun q => absurd (e9 ▸ q) e91, fun _ => ⟨fun k h1 h2 => ?_, fun i d hi hd => ?_⟩, fun _ j hj => ?_, fun i hi => ⟨⟨?_, ?_⟩, fun m j hm hj => ?_, ?_⟩⟩, F⟩
    · rw [y2, if_neg (by decide), e9]; simp [rsB, st_r]
    · rw [y2, if_neg (by decide), e10]; simp [rsB, st_r]
    · rw [y2, if_neg (by decide), e11]; simp [rsB, st_r]
    · rw [n9 8 (by decide), z3, k4c, mk3_o v (by decide), m2]
    · rw [y2, if_neg (by decide), e9, ← el]; simp [rsB, st_r]
    · rw [y2, if_pos ⟨h1, h2⟩]
    · rw [y3, if_pos (by simp only [lx]; omega)]
    · rw [n9 _ (by omega), show c + 1 - 1 = c by omega, mk3_o v (by simp only [rx]; omega)]
      have : j = 0 ∨ j = 1 ∨ j = 2 ∨ j = 3 ∨ j = 4 := by omega
      rcases this with rfl | rfl | rfl | rfl | rfl
      · rw [z4a, m5]
      · rw [z4b, m6, h8]
      · rw [z4c, m7]
      · rw [z4d, m8]; exact k4a
      · rw [z4e, m9]; exact k5a
    · rw [n8 i 8 (by decide) (by decide), z5 i 8 (by omega) (by decide), mk3_o v (by simp only [tx]; omega), m3 i 16 (by omega) (by decide) (by decide)]
      exact (k7 i hi).2.2.1.1
    · rw [n8 i 9 (by decide) (by decide), z6 i (by omega), mk3_o v (by simp only [tx]; omega), m4 i (by omega), (k7 i hi).2.2.1.2]
    · rw [F 152 (by decide) (by decide), mk3_o v (by simp only [tx]; omega), m3 i _ (by omega) (by omega) (by omega)]
      exact (k7 i hi).2.2.2.1 m j hm hj
    · unfold WD
      rw [mk3_o v (by simp only [tx]; omega), m3 i 1 (by omega) (by decide) (by decide)]
      refine ⟨(k7 i hi).2.2.2.2.1, fun m hm => ?_⟩
      rw [mk3_o v (by simp only [tx]; omega), m3 i _ (by omega) (by omega) (by omega)]
      exact (k7 i hi).2.2.2.2.2 m hm
  rw [st1, z1, r104, q1, q2, ← k2 7 (by decide), ← k2 5 (by decide)]
  have v7 := m1 7 (by decide)
  have v5 := m1 5 (by decide)
  have v10 := m1 10 (by decide)
  have v11 := m1 11 (by decide)
  by_cases ha : w 11 + 1 < w 7
  · rw [if_pos ha]
    have e : mk3 v = upd (upd (upd v 11 (w 11 + 1)) 9 0) 12 (w 5) := by rw [mk3, v11, v7, if_pos ha, v5]
    exact fin (w 11 + 1) (w 10) 0 (w 5) (by rw [e]; simp [upd_ap]) (by decide) (by rw [e]; simp [upd_ap, v10]) (by rw [e]; simp [upd_ap]) (by rw [e]; simp [upd_ap])
  · rw [if_neg ha]
    by_cases hi : w 10 = 0
    · rw [if_pos hi]
      have e : mk3 v = upd (upd (upd (upd (upd v 11 (w 11 + 1)) 9 0) 12 (w 5)) 10 1) 11 0 := by rw [mk3, v11, v7, if_neg ha, v10, if_pos hi, v5]
      exact fin 0 1 0 (w 5) (by rw [e]; simp [upd_ap]) (by decide) (by rw [e]; simp [upd_ap]) (by rw [e]; simp [upd_ap]) (by rw [e]; simp [upd_ap])
    · have hi1 : w 10 = 1 := h10.resolve_left hi
      rw [if_neg hi]
      have e : mk3 v = upd (upd (upd (upd v 11 (w 11 + 1)) 9 0) 12 (w 5)) 9 2 := by rw [mk3, v11, v7, if_neg ha, v10, if_neg hi, v5]
      exact fin (w 11 + 1) 1 2 0 (by rw [e]; simp [upd_ap]) (by decide) (by rw [e]; simp [upd_ap, v10, hi1]) (by rw [e]; simp [upd_ap]) (by rw [if_neg (by decide)])
