/-! WHAT THE BOARD TELLS: state, task and record, out of the row of numbers -/
/-- of a board that isn't running the numbers of a run are 0 -/
def g1 (w : Vec) (x : Int32) : Int32 := if w 9 = 1 then x else 0
theorem sv_1 {n t c : Nat} {σ : Sg} {w : Vec} (hB : BS 1 n σ w) (hV : VW n t c w) : f_X4_state_0 1 σ = some (w 9, σ) := by
  obtain ⟨a1, a2, a3, a4, a5, a6, a7, a8⟩ := hB.1
  rw [f_X4_state_0, win_c, cb_some, if_pos (show win 1 13 20 = 0 by decide), if_neg (show ¬ (1 : Int32) = 0 by decide), if_pos (show (1 : Int32) = 1 from rfl)]
  rw [a4]
theorem sv_2 {n t c : Nat} {σ : Sg} {w : Vec} (hB : BS 1 n σ w) (hV : VW n t c w) : f_X4_state_0 2 σ = some (w 10, σ) := by
  obtain ⟨a1, a2, a3, a4, a5, a6, a7, a8⟩ := hB.1
  rw [f_X4_state_0, win_c, cb_some, if_pos (show win 2 13 20 = 0 by decide), if_neg (show ¬ (2 : Int32) = 0 by decide), if_neg (show ¬ (2 : Int32) = 1 by decide), if_pos (show (2 : Int32) = 2 from rfl)]
  rw [a5]
theorem sv_3 {n t c : Nat} {σ : Sg} {w : Vec} (hB : BS 1 n σ w) (hV : VW n t c w) : f_X4_state_0 3 σ = some (w 11, σ) := by
  obtain ⟨a1, a2, a3, a4, a5, a6, a7, a8⟩ := hB.1
  rw [f_X4_state_0, win_c, cb_some, if_pos (show win 3 13 20 = 0 by decide), if_neg (show ¬ (3 : Int32) = 0 by decide), if_neg (show ¬ (3 : Int32) = 1 by decide), if_neg (show ¬ (3 : Int32) = 2 by decide), if_pos (show (3 : Int32) = 3 from rfl)]
  rw [a6]
theorem sv_4 {n t c : Nat} {σ : Sg} {w : Vec} (hB : BS 1 n σ w) (hV : VW n t c w) : f_X4_state_0 4 σ = some (if w 9 = 0 then w 12 else 0, σ) := by
  obtain ⟨a1, a2, a3, a4, a5, a6, a7, a8⟩ := hB.1
  rw [f_X4_state_0, win_c, cb_some, if_pos (show win 4 13 20 = 0 by decide), if_neg (show ¬ (4 : Int32) = 0 by decide), if_neg (show ¬ (4 : Int32) = 1 by decide), if_neg (show ¬ (4 : Int32) = 2 by decide), if_neg (show ¬ (4 : Int32) = 3 by decide), if_pos (show (4 : Int32) = 4 from rfl)]
  rw [a4]
  by_cases z : w 9 = 0
  · rw [if_pos z, if_pos z, f_X4_state_145, hB.2.1 z]
  · rw [if_neg z, if_neg z, f_X4_state_145]
theorem sv_5 {n t c : Nat} {σ : Sg} {w : Vec} (hB : BS 1 n σ w) (hV : VW n t c w) : f_X4_state_0 5 σ = some (g1 w (w 13), σ) := by
  obtain ⟨a1, a2, a3, a4, a5, a6, a7, a8⟩ := hB.1
  rw [f_X4_state_0, win_c, cb_some, if_pos (show win 5 13 20 = 0 by decide), if_neg (show ¬ (5 : Int32) = 0 by decide), if_neg (show ¬ (5 : Int32) = 1 by decide), if_neg (show ¬ (5 : Int32) = 2 by decide), if_neg (show ¬ (5 : Int32) = 3 by decide), if_neg (show ¬ (5 : Int32) = 4 by decide), if_pos (show (5 : Int32) = 5 from rfl)]
  rw [ifr, cb_some, a4]
  by_cases z : w 9 = 1
  · rw [if_pos z, g1, if_pos z, (hB.2.2.1 z).1.1]
  · rw [if_neg z, g1, if_neg z]
theorem sv_6 {n t c : Nat} {σ : Sg} {w : Vec} (hB : BS 1 n σ w) (hV : VW n t c w) : f_X4_state_0 6 σ = some (g1 w (w 14), σ) := by
  obtain ⟨a1, a2, a3, a4, a5, a6, a7, a8⟩ := hB.1
  rw [f_X4_state_0, win_c, cb_some, if_pos (show win 6 13 20 = 0 by decide), if_neg (show ¬ (6 : Int32) = 0 by decide), if_neg (show ¬ (6 : Int32) = 1 by decide), if_neg (show ¬ (6 : Int32) = 2 by decide), if_neg (show ¬ (6 : Int32) = 3 by decide), if_neg (show ¬ (6 : Int32) = 4 by decide), if_neg (show ¬ (6 : Int32) = 5 by decide), if_pos (show (6 : Int32) = 6 from rfl)]
  rw [ifr, cb_some, a4]
  by_cases z : w 9 = 1
  · rw [if_pos z, g1, if_pos z, (hB.2.2.1 z).1.2.1]
  · rw [if_neg z, g1, if_neg z]
theorem sv_7 {n t c : Nat} {σ : Sg} {w : Vec} (hB : BS 1 n σ w) (hV : VW n t c w) : f_X4_state_0 7 σ = some (g1 w (w 15), σ) := by
  obtain ⟨a1, a2, a3, a4, a5, a6, a7, a8⟩ := hB.1
  rw [f_X4_state_0, win_c, cb_some, if_pos (show win 7 13 20 = 0 by decide), if_neg (show ¬ (7 : Int32) = 0 by decide), if_neg (show ¬ (7 : Int32) = 1 by decide), if_neg (show ¬ (7 : Int32) = 2 by decide), if_neg (show ¬ (7 : Int32) = 3 by decide), if_neg (show ¬ (7 : Int32) = 4 by decide), if_neg (show ¬ (7 : Int32) = 5 by decide), if_neg (show ¬ (7 : Int32) = 6 by decide), if_pos (show (7 : Int32) = 7 from rfl)]
  rw [ifr, cb_some, a4]
  by_cases z : w 9 = 1
  · rw [if_pos z, g1, if_pos z, (hB.2.2.1 z).1.2.2.1]
  · rw [if_neg z, g1, if_neg z]
theorem sv_8 {n t c : Nat} {σ : Sg} {w : Vec} (hB : BS 1 n σ w) (hV : VW n t c w) : f_X4_state_0 8 σ = some (g1 w (w 16), σ) := by
  obtain ⟨a1, a2, a3, a4, a5, a6, a7, a8⟩ := hB.1
  rw [f_X4_state_0, win_c, cb_some, if_pos (show win 8 13 20 = 0 by decide), if_neg (show ¬ (8 : Int32) = 0 by decide), if_neg (show ¬ (8 : Int32) = 1 by decide), if_neg (show ¬ (8 : Int32) = 2 by decide), if_neg (show ¬ (8 : Int32) = 3 by decide), if_neg (show ¬ (8 : Int32) = 4 by decide), if_neg (show ¬ (8 : Int32) = 5 by decide), if_neg (show ¬ (8 : Int32) = 6 by decide), if_neg (show ¬ (8 : Int32) = 7 by decide), if_pos (show (8 : Int32) = 8 from rfl)]
  rw [ifr, cb_some, a4]
  by_cases z : w 9 = 1
  · rw [if_pos z, g1, if_pos z, (hB.2.2.1 z).1.2.2.2]
  · rw [if_neg z, g1, if_neg z]
theorem sv_9 {n t c : Nat} {σ : Sg} {w : Vec} (hB : BS 1 n σ w) (hV : VW n t c w) : f_X4_state_0 9 σ = some (w 18, σ) := by
  obtain ⟨a1, a2, a3, a4, a5, a6, a7, a8⟩ := hB.1
  rw [f_X4_state_0, win_c, cb_some, if_pos (show win 9 13 20 = 0 by decide), if_neg (show ¬ (9 : Int32) = 0 by decide), if_neg (show ¬ (9 : Int32) = 1 by decide), if_neg (show ¬ (9 : Int32) = 2 by decide), if_neg (show ¬ (9 : Int32) = 3 by decide), if_neg (show ¬ (9 : Int32) = 4 by decide), if_neg (show ¬ (9 : Int32) = 5 by decide), if_neg (show ¬ (9 : Int32) = 6 by decide), if_neg (show ¬ (9 : Int32) = 7 by decide), if_neg (show ¬ (9 : Int32) = 8 by decide), if_pos (show (9 : Int32) = 9 from rfl)]
  rw [show σ 4 1 = w 18 from a7]
theorem sv_11 {n t c : Nat} {σ : Sg} {w : Vec} (hB : BS 1 n σ w) (hV : VW n t c w) : f_X4_state_0 11 σ = some (g1 w (exL (fun j => w (tx j 15)) n 0 0), σ) := by
  obtain ⟨a1, a2, a3, a4, a5, a6, a7, a8⟩ := hB.1
  rw [f_X4_state_0, win_c, cb_some, if_pos (show win 11 13 20 = 0 by decide), if_neg (show ¬ (11 : Int32) = 0 by decide), if_neg (show ¬ (11 : Int32) = 1 by decide), if_neg (show ¬ (11 : Int32) = 2 by decide), if_neg (show ¬ (11 : Int32) = 3 by decide), if_neg (show ¬ (11 : Int32) = 4 by decide), if_neg (show ¬ (11 : Int32) = 5 by decide), if_neg (show ¬ (11 : Int32) = 6 by decide), if_neg (show ¬ (11 : Int32) = 7 by decide), if_neg (show ¬ (11 : Int32) = 8 by decide), if_neg (show ¬ (11 : Int32) = 9 by decide), if_neg (show ¬ (11 : Int32) = 10 by decide), if_pos (show (11 : Int32) = 11 from rfl)]
  rw [f_X0_expiredSet_0, show f_X0_expiredSet_4 1 FU 0 0 σ = some (exL (fun j => σ (T 1 j) 11) n 0 0, σ) from ex_c hV.1.1.1 (by rw [a2]; exact hV.1.1.2.1) n 0 FU 0 (by omega) (by have := hV.1.1.1; unfold FU; omega), cb_some, ifr, cb_some, a4]
  by_cases z : w 9 = 1
  · rw [if_pos z, g1, if_pos z, exL_c (h := fun j => w (tx j 15)) n 0 0 (fun j _ hj => ((hB.2.2.1 z).2 j (by omega)).2.2.2.2.1)]
  · rw [if_neg z, g1, if_neg z]
theorem sv_13 {n t c : Nat} {σ : Sg} {w : Vec} (hB : BS 1 n σ w) (hV : VW n t c w) : f_X4_state_0 13 σ = some (w 0, σ) := by
  obtain ⟨a1, a2, a3, a4, a5, a6, a7, a8⟩ := hB.1
  rw [f_X4_state_0, win_c, cb_some, if_neg (show ¬ win 13 13 20 = 0 by decide), show (13 : Int32) - 13 = 0 by decide, show ((0 : Int32)).toNatClampNeg = 0 by decide, if_neg (by decide), show σ 2 0 = w 0 from a1 0 (by decide)]
theorem sv_14 {n t c : Nat} {σ : Sg} {w : Vec} (hB : BS 1 n σ w) (hV : VW n t c w) : f_X4_state_0 14 σ = some (w 1, σ) := by
  obtain ⟨a1, a2, a3, a4, a5, a6, a7, a8⟩ := hB.1
  rw [f_X4_state_0, win_c, cb_some, if_neg (show ¬ win 14 13 20 = 0 by decide), show (14 : Int32) - 13 = 1 by decide, show ((1 : Int32)).toNatClampNeg = 1 by decide, if_neg (by decide), show σ 2 1 = w 1 from a1 1 (by decide)]
theorem sv_15 {n t c : Nat} {σ : Sg} {w : Vec} (hB : BS 1 n σ w) (hV : VW n t c w) : f_X4_state_0 15 σ = some (w 2, σ) := by
  obtain ⟨a1, a2, a3, a4, a5, a6, a7, a8⟩ := hB.1
  rw [f_X4_state_0, win_c, cb_some, if_neg (show ¬ win 15 13 20 = 0 by decide), show (15 : Int32) - 13 = 2 by decide, show ((2 : Int32)).toNatClampNeg = 2 by decide, if_neg (by decide), show σ 2 2 = w 2 from a1 2 (by decide)]
theorem sv_16 {n t c : Nat} {σ : Sg} {w : Vec} (hB : BS 1 n σ w) (hV : VW n t c w) : f_X4_state_0 16 σ = some (w 3, σ) := by
  obtain ⟨a1, a2, a3, a4, a5, a6, a7, a8⟩ := hB.1
  rw [f_X4_state_0, win_c, cb_some, if_neg (show ¬ win 16 13 20 = 0 by decide), show (16 : Int32) - 13 = 3 by decide, show ((3 : Int32)).toNatClampNeg = 3 by decide, if_neg (by decide), show σ 2 3 = w 3 from a1 3 (by decide)]
theorem sv_17 {n t c : Nat} {σ : Sg} {w : Vec} (hB : BS 1 n σ w) (hV : VW n t c w) : f_X4_state_0 17 σ = some (w 4, σ) := by
  obtain ⟨a1, a2, a3, a4, a5, a6, a7, a8⟩ := hB.1
  rw [f_X4_state_0, win_c, cb_some, if_neg (show ¬ win 17 13 20 = 0 by decide), show (17 : Int32) - 13 = 4 by decide, show ((4 : Int32)).toNatClampNeg = 4 by decide, if_neg (by decide), show σ 2 4 = w 4 from a1 4 (by decide)]
theorem sv_18 {n t c : Nat} {σ : Sg} {w : Vec} (hB : BS 1 n σ w) (hV : VW n t c w) : f_X4_state_0 18 σ = some (w 5, σ) := by
  obtain ⟨a1, a2, a3, a4, a5, a6, a7, a8⟩ := hB.1
  rw [f_X4_state_0, win_c, cb_some, if_neg (show ¬ win 18 13 20 = 0 by decide), show (18 : Int32) - 13 = 5 by decide, show ((5 : Int32)).toNatClampNeg = 5 by decide, if_neg (by decide), show σ 2 5 = w 5 from a1 5 (by decide)]
theorem sv_19 {n t c : Nat} {σ : Sg} {w : Vec} (hB : BS 1 n σ w) (hV : VW n t c w) : f_X4_state_0 19 σ = some (w 6, σ) := by
  obtain ⟨a1, a2, a3, a4, a5, a6, a7, a8⟩ := hB.1
  rw [f_X4_state_0, win_c, cb_some, if_neg (show ¬ win 19 13 20 = 0 by decide), show (19 : Int32) - 13 = 6 by decide, show ((6 : Int32)).toNatClampNeg = 6 by decide, if_neg (by decide), show σ 2 6 = w 6 from a1 6 (by decide)]
theorem sv_20 {n t c : Nat} {σ : Sg} {w : Vec} (hB : BS 1 n σ w) (hV : VW n t c w) : f_X4_state_0 20 σ = some (w 7, σ) := by
  obtain ⟨a1, a2, a3, a4, a5, a6, a7, a8⟩ := hB.1
  rw [f_X4_state_0, win_c, cb_some, if_neg (show ¬ win 20 13 20 = 0 by decide), show (20 : Int32) - 13 = 7 by decide, show ((7 : Int32)).toNatClampNeg = 7 by decide, if_neg (by decide), show σ 2 7 = w 7 from a1 7 (by decide)]
theorem tv_s {n t c i k : Nat} {σ : Sg} {w : Vec} (hB : BS 1 n σ w) (hV : VW n t c w) (hi : i < n) (hk : k < 8) : f_X4_task_0 (nI i) (nI k) σ = some (w (tx i k), σ) := by
  have hn := hV.1.1.1
  have s3 : σ 1 3 = nI n := by rw [hB.1.2.1]; exact hV.1.1.2.1
  have a4 : σ 1 5 = w 9 := hB.1.2.2.2.1
  have hi6 : i < 6 := by omega
  have hcl : (nI i).toNatClampNeg = i := nI_clamp (by omega)
  obtain ⟨p1, p2, p3, p4, p5, p6⟩ := hB.2.2.2.1 i hi
  have hb := hB.2.2.2.2 i hi6
  rw [f_X4_task_0, ht_c (nI i) σ s3, cb_some, if_neg (hasT hn hi), hcl, if_neg (inb2 hi6 (by decide)), win_c, cb_some]
  have hw : ¬ win (nI k) 0 7 = 0 := by
    unfold win; rw [if_neg (nI_pos (by omega)), if_neg (show ¬ (7 : Int32) < nI k from nI_nlt (a := 7) (by omega) (by decide))]; decide
  have hcm : (nI k).toNatClampNeg = k := nI_clamp (by omega)
  rw [if_neg hw, hcm, if_neg (inb2 hk (by decide)), show σ (3 + 3 + 5 * i + 1) k = w (tx i k) from p1 k hk]
theorem tv_0 {n t c i : Nat} {σ : Sg} {w : Vec} (hB : BS 1 n σ w) (hV : VW n t c w) (hi : i < n) : f_X4_task_0 (nI i) 0 σ = some (w (tx i 0), σ) := tv_s (k := 0) hB hV hi (by decide)
theorem tv_1 {n t c i : Nat} {σ : Sg} {w : Vec} (hB : BS 1 n σ w) (hV : VW n t c w) (hi : i < n) : f_X4_task_0 (nI i) 1 σ = some (w (tx i 1), σ) := tv_s (k := 1) hB hV hi (by decide)
theorem tv_2 {n t c i : Nat} {σ : Sg} {w : Vec} (hB : BS 1 n σ w) (hV : VW n t c w) (hi : i < n) : f_X4_task_0 (nI i) 2 σ = some (w (tx i 2), σ) := tv_s (k := 2) hB hV hi (by decide)
theorem tv_3 {n t c i : Nat} {σ : Sg} {w : Vec} (hB : BS 1 n σ w) (hV : VW n t c w) (hi : i < n) : f_X4_task_0 (nI i) 3 σ = some (w (tx i 3), σ) := tv_s (k := 3) hB hV hi (by decide)
theorem tv_4 {n t c i : Nat} {σ : Sg} {w : Vec} (hB : BS 1 n σ w) (hV : VW n t c w) (hi : i < n) : f_X4_task_0 (nI i) 4 σ = some (w (tx i 4), σ) := tv_s (k := 4) hB hV hi (by decide)
theorem tv_5 {n t c i : Nat} {σ : Sg} {w : Vec} (hB : BS 1 n σ w) (hV : VW n t c w) (hi : i < n) : f_X4_task_0 (nI i) 5 σ = some (w (tx i 5), σ) := tv_s (k := 5) hB hV hi (by decide)
theorem tv_6 {n t c i : Nat} {σ : Sg} {w : Vec} (hB : BS 1 n σ w) (hV : VW n t c w) (hi : i < n) : f_X4_task_0 (nI i) 6 σ = some (w (tx i 6), σ) := tv_s (k := 6) hB hV hi (by decide)
theorem tv_7 {n t c i : Nat} {σ : Sg} {w : Vec} (hB : BS 1 n σ w) (hV : VW n t c w) (hi : i < n) : f_X4_task_0 (nI i) 7 σ = some (w (tx i 7), σ) := tv_s (k := 7) hB hV hi (by decide)
theorem tv_8 {n t c i : Nat} {σ : Sg} {w : Vec} (hB : BS 1 n σ w) (hV : VW n t c w) (hi : i < n) : f_X4_task_0 (nI i) 8 σ = some (g1 w (w (tx i 8)), σ) := by
  have hn := hV.1.1.1
  have s3 : σ 1 3 = nI n := by rw [hB.1.2.1]; exact hV.1.1.2.1
  have a4 : σ 1 5 = w 9 := hB.1.2.2.2.1
  have hi6 : i < 6 := by omega
  have hcl : (nI i).toNatClampNeg = i := nI_clamp (by omega)
  obtain ⟨p1, p2, p3, p4, p5, p6⟩ := hB.2.2.2.1 i hi
  have hb := hB.2.2.2.2 i hi6
  rw [f_X4_task_0, ht_c (nI i) σ s3, cb_some, if_neg (hasT hn hi), hcl, if_neg (inb2 hi6 (by decide)), win_c, cb_some]
  rw [if_pos (show win 8 0 7 = 0 by decide), win_c, cb_some, if_neg (show ¬ win 8 8 13 = 0 by decide), show (3 + 3 + 5 * i) = T 1 i from rfl]
  by_cases z : w 9 = 1
  · obtain ⟨r1, r2, r3, r4, r5, r6⟩ := (hB.2.2.1 z).2 i hi
    obtain ⟨b1, b2, b3, b4, -⟩ := hb
    have hv : f_X3_momentary_0 (T 1 i) 8 σ = some (w (tx i 8), σ) := by
      rw [f_X3_momentary_0, if_pos (show (8 : Int32) = 8 from rfl)]
      rw [← r1]
      rcases b1 with y | y
      · rw [if_pos y, f_X3_momentary_48, y]
      · rw [if_neg (by rw [y]; decide), f_X3_momentary_48, y]
    rw [hv, cb_some, ifr, cb_some, a4, if_pos z, g1, if_pos z]
  · obtain ⟨v, v1⟩ := mo_c (t := T 1 i) 8 σ
    rw [v1, cb_some, ifr, cb_some, a4, if_neg z, g1, if_neg z]
theorem tv_9 {n t c i : Nat} {σ : Sg} {w : Vec} (hB : BS 1 n σ w) (hV : VW n t c w) (hi : i < n) : f_X4_task_0 (nI i) 9 σ = some (g1 w (if w (tx i 8) = 1 then if w (tx i 11) = 0 then w (tx i 9) else 0 else 0), σ) := by
  have hn := hV.1.1.1
  have s3 : σ 1 3 = nI n := by rw [hB.1.2.1]; exact hV.1.1.2.1
  have a4 : σ 1 5 = w 9 := hB.1.2.2.2.1
  have hi6 : i < 6 := by omega
  have hcl : (nI i).toNatClampNeg = i := nI_clamp (by omega)
  obtain ⟨p1, p2, p3, p4, p5, p6⟩ := hB.2.2.2.1 i hi
  have hb := hB.2.2.2.2 i hi6
  rw [f_X4_task_0, ht_c (nI i) σ s3, cb_some, if_neg (hasT hn hi), hcl, if_neg (inb2 hi6 (by decide)), win_c, cb_some]
  rw [if_pos (show win 9 0 7 = 0 by decide), win_c, cb_some, if_neg (show ¬ win 9 8 13 = 0 by decide), show (3 + 3 + 5 * i) = T 1 i from rfl]
  by_cases z : w 9 = 1
  · obtain ⟨r1, r2, r3, r4, r5, r6⟩ := (hB.2.2.1 z).2 i hi
    obtain ⟨b1, b2, b3, b4, -⟩ := hb
    have hv : f_X3_momentary_0 (T 1 i) 9 σ = some (if w (tx i 8) = 1 then if w (tx i 11) = 0 then w (tx i 9) else 0 else 0, σ) := by
      rw [f_X3_momentary_0, if_neg (show ¬ (9 : Int32) = 8 by decide), if_pos (show (9 : Int32) = 9 from rfl)]
      rcases b1 with y | y
      · rw [if_pos y, f_X3_momentary_70, f_X3_momentary_71, ← r1, y, if_neg (by decide)]
      · obtain ⟨s1, s2, -⟩ := r6 (by rw [← r1]; exact y)
        rw [if_neg (by rw [y]; decide), if_pos (show w (tx i 8) = 1 by rw [← r1]; exact y), ← s1]
        by_cases x : σ (T 1 i) 5 = 0
        · rw [if_pos x, if_pos x, f_X3_momentary_71, s2]
        · rw [if_neg x, if_neg x, f_X3_momentary_70, f_X3_momentary_71]
    rw [hv, cb_some, ifr, cb_some, a4, if_pos z, g1, if_pos z]
  · obtain ⟨v, v1⟩ := mo_c (t := T 1 i) 9 σ
    rw [v1, cb_some, ifr, cb_some, a4, if_neg z, g1, if_neg z]
theorem tv_10 {n t c i : Nat} {σ : Sg} {w : Vec} (hB : BS 1 n σ w) (hV : VW n t c w) (hi : i < n) : f_X4_task_0 (nI i) 10 σ = some (g1 w (w (tx i 12)), σ) := by
  have hn := hV.1.1.1
  have s3 : σ 1 3 = nI n := by rw [hB.1.2.1]; exact hV.1.1.2.1
  have a4 : σ 1 5 = w 9 := hB.1.2.2.2.1
  have hi6 : i < 6 := by omega
  have hcl : (nI i).toNatClampNeg = i := nI_clamp (by omega)
  obtain ⟨p1, p2, p3, p4, p5, p6⟩ := hB.2.2.2.1 i hi
  have hb := hB.2.2.2.2 i hi6
  rw [f_X4_task_0, ht_c (nI i) σ s3, cb_some, if_neg (hasT hn hi), hcl, if_neg (inb2 hi6 (by decide)), win_c, cb_some]
  rw [if_pos (show win 10 0 7 = 0 by decide), win_c, cb_some, if_neg (show ¬ win 10 8 13 = 0 by decide), show (3 + 3 + 5 * i) = T 1 i from rfl]
  by_cases z : w 9 = 1
  · obtain ⟨r1, r2, r3, r4, r5, r6⟩ := (hB.2.2.1 z).2 i hi
    obtain ⟨b1, b2, b3, b4, -⟩ := hb
    have hv : f_X3_momentary_0 (T 1 i) 10 σ = some (w (tx i 12), σ) := by
      rw [f_X3_momentary_0, if_neg (show ¬ (10 : Int32) = 8 by decide), if_neg (show ¬ (10 : Int32) = 9 by decide), if_pos (show (10 : Int32) = 10 from rfl)]
      rw [r2]
    rw [hv, cb_some, ifr, cb_some, a4, if_pos z, g1, if_pos z]
  · obtain ⟨v, v1⟩ := mo_c (t := T 1 i) 10 σ
    rw [v1, cb_some, ifr, cb_some, a4, if_neg z, g1, if_neg z]
theorem tv_11 {n t c i : Nat} {σ : Sg} {w : Vec} (hB : BS 1 n σ w) (hV : VW n t c w) (hi : i < n) : f_X4_task_0 (nI i) 11 σ = some (g1 w (w (tx i 13)), σ) := by
  have hn := hV.1.1.1
  have s3 : σ 1 3 = nI n := by rw [hB.1.2.1]; exact hV.1.1.2.1
  have a4 : σ 1 5 = w 9 := hB.1.2.2.2.1
  have hi6 : i < 6 := by omega
  have hcl : (nI i).toNatClampNeg = i := nI_clamp (by omega)
  obtain ⟨p1, p2, p3, p4, p5, p6⟩ := hB.2.2.2.1 i hi
  have hb := hB.2.2.2.2 i hi6
  rw [f_X4_task_0, ht_c (nI i) σ s3, cb_some, if_neg (hasT hn hi), hcl, if_neg (inb2 hi6 (by decide)), win_c, cb_some]
  rw [if_pos (show win 11 0 7 = 0 by decide), win_c, cb_some, if_neg (show ¬ win 11 8 13 = 0 by decide), show (3 + 3 + 5 * i) = T 1 i from rfl]
  by_cases z : w 9 = 1
  · obtain ⟨r1, r2, r3, r4, r5, r6⟩ := (hB.2.2.1 z).2 i hi
    obtain ⟨b1, b2, b3, b4, -⟩ := hb
    have hv : f_X3_momentary_0 (T 1 i) 11 σ = some (w (tx i 13), σ) := by
      rw [f_X3_momentary_0, if_neg (show ¬ (11 : Int32) = 8 by decide), if_neg (show ¬ (11 : Int32) = 9 by decide), if_neg (show ¬ (11 : Int32) = 10 by decide), if_pos (show (11 : Int32) = 11 from rfl)]
      rw [r3]
    rw [hv, cb_some, ifr, cb_some, a4, if_pos z, g1, if_pos z]
  · obtain ⟨v, v1⟩ := mo_c (t := T 1 i) 11 σ
    rw [v1, cb_some, ifr, cb_some, a4, if_neg z, g1, if_neg z]
theorem tv_12 {n t c i : Nat} {σ : Sg} {w : Vec} (hB : BS 1 n σ w) (hV : VW n t c w) (hi : i < n) : f_X4_task_0 (nI i) 12 σ = some (g1 w (w (tx i 14)), σ) := by
  have hn := hV.1.1.1
  have s3 : σ 1 3 = nI n := by rw [hB.1.2.1]; exact hV.1.1.2.1
  have a4 : σ 1 5 = w 9 := hB.1.2.2.2.1
  have hi6 : i < 6 := by omega
  have hcl : (nI i).toNatClampNeg = i := nI_clamp (by omega)
  obtain ⟨p1, p2, p3, p4, p5, p6⟩ := hB.2.2.2.1 i hi
  have hb := hB.2.2.2.2 i hi6
  rw [f_X4_task_0, ht_c (nI i) σ s3, cb_some, if_neg (hasT hn hi), hcl, if_neg (inb2 hi6 (by decide)), win_c, cb_some]
  rw [if_pos (show win 12 0 7 = 0 by decide), win_c, cb_some, if_neg (show ¬ win 12 8 13 = 0 by decide), show (3 + 3 + 5 * i) = T 1 i from rfl]
  by_cases z : w 9 = 1
  · obtain ⟨r1, r2, r3, r4, r5, r6⟩ := (hB.2.2.1 z).2 i hi
    obtain ⟨b1, b2, b3, b4, -⟩ := hb
    have hv : f_X3_momentary_0 (T 1 i) 12 σ = some (w (tx i 14), σ) := by
      rw [f_X3_momentary_0, if_neg (show ¬ (12 : Int32) = 8 by decide), if_neg (show ¬ (12 : Int32) = 9 by decide), if_neg (show ¬ (12 : Int32) = 10 by decide), if_neg (show ¬ (12 : Int32) = 11 by decide), if_pos (show (12 : Int32) = 12 from rfl)]
      rw [← r4]
      rcases b3 with y | y
      · rw [if_pos y, f_X3_momentary_94, y]
      · rw [if_neg (by rw [y]; decide), f_X3_momentary_94, y]
    rw [hv, cb_some, ifr, cb_some, a4, if_pos z, g1, if_pos z]
  · obtain ⟨v, v1⟩ := mo_c (t := T 1 i) 12 σ
    rw [v1, cb_some, ifr, cb_some, a4, if_neg z, g1, if_neg z]
theorem tv_13 {n t c i : Nat} {σ : Sg} {w : Vec} (hB : BS 1 n σ w) (hV : VW n t c w) (hi : i < n) : f_X4_task_0 (nI i) 13 σ = some (g1 w (w (tx i 15)), σ) := by
  have hn := hV.1.1.1
  have s3 : σ 1 3 = nI n := by rw [hB.1.2.1]; exact hV.1.1.2.1
  have a4 : σ 1 5 = w 9 := hB.1.2.2.2.1
  have hi6 : i < 6 := by omega
  have hcl : (nI i).toNatClampNeg = i := nI_clamp (by omega)
  obtain ⟨p1, p2, p3, p4, p5, p6⟩ := hB.2.2.2.1 i hi
  have hb := hB.2.2.2.2 i hi6
  rw [f_X4_task_0, ht_c (nI i) σ s3, cb_some, if_neg (hasT hn hi), hcl, if_neg (inb2 hi6 (by decide)), win_c, cb_some]
  rw [if_pos (show win 13 0 7 = 0 by decide), win_c, cb_some, if_neg (show ¬ win 13 8 13 = 0 by decide), show (3 + 3 + 5 * i) = T 1 i from rfl]
  by_cases z : w 9 = 1
  · obtain ⟨r1, r2, r3, r4, r5, r6⟩ := (hB.2.2.1 z).2 i hi
    obtain ⟨b1, b2, b3, b4, -⟩ := hb
    have hv : f_X3_momentary_0 (T 1 i) 13 σ = some (w (tx i 15), σ) := by
      rw [f_X3_momentary_0, if_neg (show ¬ (13 : Int32) = 8 by decide), if_neg (show ¬ (13 : Int32) = 9 by decide), if_neg (show ¬ (13 : Int32) = 10 by decide), if_neg (show ¬ (13 : Int32) = 11 by decide), if_neg (show ¬ (13 : Int32) = 12 by decide)]
      rw [← r5]
      rcases b4 with y | y
      · rw [if_pos y, f_X3_momentary_107, y]
      · rw [if_neg (by rw [y]; decide), f_X3_momentary_107, y]
    rw [hv, cb_some, ifr, cb_some, a4, if_pos z, g1, if_pos z]
  · obtain ⟨v, v1⟩ := mo_c (t := T 1 i) 13 σ
    rw [v1, cb_some, ifr, cb_some, a4, if_neg z, g1, if_neg z]
theorem tv_16 {n t c i : Nat} {σ : Sg} {w : Vec} (hB : BS 1 n σ w) (hV : VW n t c w) (hi : i < n) : f_X4_task_0 (nI i) 16 σ = some (w (tx i 16), σ) := by
  have hn := hV.1.1.1
  have s3 : σ 1 3 = nI n := by rw [hB.1.2.1]; exact hV.1.1.2.1
  have a4 : σ 1 5 = w 9 := hB.1.2.2.2.1
  have hi6 : i < 6 := by omega
  have hcl : (nI i).toNatClampNeg = i := nI_clamp (by omega)
  obtain ⟨p1, p2, p3, p4, p5, p6⟩ := hB.2.2.2.1 i hi
  have hb := hB.2.2.2.2 i hi6
  rw [f_X4_task_0, ht_c (nI i) σ s3, cb_some, if_neg (hasT hn hi), hcl, if_neg (inb2 hi6 (by decide)), win_c, cb_some]
  rw [if_pos (show win 16 0 7 = 0 by decide), win_c, cb_some, if_pos (show win 16 8 13 = 0 by decide), if_neg (show ¬ (16 : Int32) = 14 by decide), if_neg (show ¬ (16 : Int32) = 15 by decide), if_pos (show (16 : Int32) = 16 from rfl)]
  rw [show σ (3 + 3 + 5 * i) 12 = w (tx i 16) from p3]
theorem tv_17 {n t c i : Nat} {σ : Sg} {w : Vec} (hB : BS 1 n σ w) (hV : VW n t c w) (hi : i < n) : f_X4_task_0 (nI i) 17 σ = some (if w (tx i 17) = 1 then w (tx i 18) else -6, σ) := by
  have hn := hV.1.1.1
  have s3 : σ 1 3 = nI n := by rw [hB.1.2.1]; exact hV.1.1.2.1
  have a4 : σ 1 5 = w 9 := hB.1.2.2.2.1
  have hi6 : i < 6 := by omega
  have hcl : (nI i).toNatClampNeg = i := nI_clamp (by omega)
  obtain ⟨p1, p2, p3, p4, p5, p6⟩ := hB.2.2.2.1 i hi
  have hb := hB.2.2.2.2 i hi6
  rw [f_X4_task_0, ht_c (nI i) σ s3, cb_some, if_neg (hasT hn hi), hcl, if_neg (inb2 hi6 (by decide)), win_c, cb_some]
  rw [if_pos (show win 17 0 7 = 0 by decide), win_c, cb_some, if_pos (show win 17 8 13 = 0 by decide), if_neg (show ¬ (17 : Int32) = 14 by decide), if_neg (show ¬ (17 : Int32) = 15 by decide), if_neg (show ¬ (17 : Int32) = 16 by decide), if_pos (show (17 : Int32) = 17 from rfl)]
  rw [← p4, show (3 + 3 + 5 * i) = T 1 i from rfl]
  rcases hb.2.2.2.2 with z | z
  · rw [if_pos z, f_X4_task_131, z, if_neg (by decide)]
  · rw [if_neg (by rw [z]; decide), f_X4_task_131, p5 (by rw [← p4]; exact z), if_pos z]
theorem tv_18 {n t c i : Nat} {σ : Sg} {w : Vec} (hB : BS 1 n σ w) (hV : VW n t c w) (hi : i < n) : f_X4_task_0 (nI i) 18 σ = some (w (tx i 19), σ) := by
  have hn := hV.1.1.1
  have s3 : σ 1 3 = nI n := by rw [hB.1.2.1]; exact hV.1.1.2.1
  have a4 : σ 1 5 = w 9 := hB.1.2.2.2.1
  have hi6 : i < 6 := by omega
  have hcl : (nI i).toNatClampNeg = i := nI_clamp (by omega)
  obtain ⟨p1, p2, p3, p4, p5, p6⟩ := hB.2.2.2.1 i hi
  have hb := hB.2.2.2.2 i hi6
  rw [f_X4_task_0, ht_c (nI i) σ s3, cb_some, if_neg (hasT hn hi), hcl, if_neg (inb2 hi6 (by decide)), win_c, cb_some]
  rw [if_pos (show win 18 0 7 = 0 by decide), win_c, cb_some, if_pos (show win 18 8 13 = 0 by decide), if_neg (show ¬ (18 : Int32) = 14 by decide), if_neg (show ¬ (18 : Int32) = 15 by decide), if_neg (show ¬ (18 : Int32) = 16 by decide), if_neg (show ¬ (18 : Int32) = 17 by decide), if_pos (show (18 : Int32) = 18 from rfl)]
  rw [show σ (3 + 3 + 5 * i) 15 = w (tx i 19) from p6]
theorem rv {n t c m j : Nat} {σ : Sg} {w : Vec} (hB : BS 1 n σ w) (h18 : w 18 = nI c) (hc : c < 2 ^ 30) (hm : m < c) (h16 : c ≤ m + 16) (hj : j < 5) : f_X4_record_0 (nI m) (nI j) σ = some (w (rx (m % 16) j), σ) := by
  have s1 : σ 4 1 = nI c := by rw [show σ 4 1 = w 18 from hB.1.2.2.2.2.2.2.1]; exact h18
  have h0 : ¬ win (nI j) 0 4 = 0 := by
    unfold win; rw [if_neg (nI_pos (by omega)), if_neg (show ¬ (4 : Int32) < nI j from nI_nlt (a := 4) (by omega) (by decide))]; decide
  rw [f_X4_record_0, win_c, cb_some, if_neg h0, pr_s s1 hc hm h16 hj, cb_some, show σ (4 + 1) (m % 16 * 5 + j) = w (rx (m % 16) j) from hB.1.2.2.2.2.2.2.2 _ j (Nat.mod_lt _ (by decide)) hj]
