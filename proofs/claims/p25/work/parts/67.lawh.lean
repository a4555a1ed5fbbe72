/-! THE LAW's check behind a tick -/
/-- of the row: the diagnostic of a task, T ticks behind the start -/
def WL (T i : Nat) (w : Vec) : Prop := (w (tx i 17) = 0 ∧ w (tx i 16) = 0) ∨ (w (tx i 17) = 1 ∧ (∃ j, 1 ≤ j ∧ j ≤ T ∧ w (tx i 16) = nI j) ∧ ∃ s, s < T ∧ w (tx i 18) = nI s)
theorem exL_0 : ∀ (d i : Nat) (x : Int32) (h : Nat → Int32), (∀ j, i ≤ j → j < i + d → h j = 0) → exL h d i x = x
  | 0, _, _, _, _ => rfl
  | d + 1, i, x, h, e => by
    rw [exL, if_pos (e i (Nat.le_refl _) (by omega))]
    exact exL_0 d (i + 1) x h (fun j h1 h2 => e j (by omega) (by omega))
theorem t_310 {n t c : Nat} {σ : Sg} {w : Vec} (hL : LQ n c σ w) (hB : BS 1 n σ w) (hV : VW n t c w) (a3 x : Int32) (hx : x = g1 w (exL (fun j => w (tx j 15)) n 0 0)) : f_L_isTold_310 a3 x σ = some (1, σ) := by
  obtain ⟨⟨h0a, h0b, h0c, h0d, h0e⟩, h1, h2, h3, h4⟩ := id hL
  have e4 : (if w 9 = 0 then w 12 else 0) = σ 150 3 := h0e.symm
  have gg : ∀ k p, 4 ≤ p → p < 8 → (w 9 = 1 → σ 150 p = w k) → g1 w (w k) = σ 150 p := by
    intro k p q1 q2 q3
    by_cases h9 : w 9 = 1
    · rw [g1, if_pos h9, q3 h9]
    · rw [g1, if_neg h9, (h2 h9).1 p q1 q2]
  have e5 := gg 13 4 (by decide) (by decide) (fun h9 => (h1 h9).1.1)
  have e6 := gg 14 5 (by decide) (by decide) (fun h9 => (h1 h9).1.2.1)
  have e7 := gg 15 6 (by decide) (by decide) (fun h9 => (h1 h9).1.2.2.1)
  have e8 := gg 16 7 (by decide) (by decide) (fun h9 => (h1 h9).1.2.2.2)
  rw [f_L_isTold_310, sv_1 hB hV, cb_some, if_pos h0a.symm, sv_2 hB hV, cb_some, if_pos h0b.symm, sv_3 hB hV, cb_some, if_pos h0c.symm, sv_4 hB hV, cb_some, if_pos e4, sv_5 hB hV, cb_some, if_pos e5, sv_6 hB hV, cb_some, if_pos e6, sv_7 hB hV, cb_some, if_pos e7, sv_8 hB hV, cb_some, if_pos e8, sv_9 hB hV, cb_some, if_pos h0d.symm, sv_11 hB hV, cb_some, if_pos hx.symm, f_L_isTold_432, if_pos (Or.inr rfl)]
theorem t_end {n t c : Nat} {σ : Sg} {w : Vec} (hL : LQ n c σ w) (hB : BS 1 n σ w) (hV : VW n t c w) (hn : n ≤ 3) (ht : t + 2 < 2 ^ 30) (f : Nat) (a3 x : Int32) (hx : x = g1 w (exL (fun j => w (tx j 15)) n 0 0)) : f_L_isTold_6 a3 (f + 1) (nI n) x (nI n) σ = some (1, σ) := by
  have hc : c < 2 ^ 30 := by have := hV.2.2.2.1; omega
  have h18 : w 18 = nI c := hV.1.1.2.2.1
  have s8 : σ 150 8 = nI c := by rw [hL.1.2.2.2.1]; exact h18
  have t310 := t_310 hL hB hV a3 x hx
  rw [f_L_isTold_6, if_pos (nI_le (Nat.le_refl _) (by omega)), s8]
  by_cases h0 : c = 0
  · subst h0
    rw [if_pos (by decide)]; exact t310
  · obtain ⟨m, rfl⟩ : ∃ m, c = m + 1 := ⟨c - 1, by omega⟩
    have r := fun j hj => rv (t := t) (j := j) hB h18 hc (show m < m + 1 by omega) (by omega) hj
    have lc : ∀ j, j < 5 → w (rx (m % 16) j) = σ 150 (9 + j) := fun j hj => (hL.2.2.2.1 (by omega) j hj).symm
    have r0 := r 0 (by decide)
    have r1 := r 1 (by decide)
    have r2 := r 2 (by decide)
    have r3 := r 3 (by decide)
    have r4 := r 4 (by decide)
    rw [show nI 0 = (0 : Int32) from rfl] at r0
    rw [show nI 1 = (1 : Int32) from rfl] at r1
    rw [show nI 2 = (2 : Int32) from rfl] at r2
    rw [show nI 3 = (3 : Int32) from rfl] at r3
    rw [show nI 4 = (4 : Int32) from rfl] at r4
    rw [nI_pred, if_neg (nI_pos (by omega)), r0, cb_some, if_pos (lc 0 (by decide)), r1, cb_some, if_pos (lc 1 (by decide)), r2, cb_some, if_pos (lc 2 (by decide)), r3, cb_some, if_pos (lc 3 (by decide)), r4, cb_some, if_pos (lc 4 (by decide))]
    exact t310
theorem t_task {n t c i : Nat} {σ : Sg} {w : Vec} (hL : LQ n c σ w) (hB : BS 1 n σ w) (hV : VW n t c w) (hn : n ≤ 3) (hi : i < n) {Tm : Nat} (hT : Tm < 2 ^ 30) (hw : WL Tm i w) (f : Nat) (a3 x : Int32) : f_L_isTold_6 a3 (f + 1) (nI n) x (nI i) σ = f_L_isTold_6 a3 f (nI n) (x ||| (σ 151 (lx i 7) <<< (nI i &&& 31))) (nI (i + 1)) σ := by
  obtain ⟨-, h1, h2, h3, h4⟩ := id hL
  obtain ⟨⟨p8, p9⟩, -⟩ := h4 i hi
  have hi3 : i < 3 := by omega
  have c0 := lx_cl hi3 (c := 0) (by decide)
  have c1 := lx_cl hi3 (c := 1) (by decide)
  have c3 := lx_cl hi3 (c := 3) (by decide)
  have c4 := lx_cl hi3 (c := 4) (by decide)
  have c5 := lx_cl hi3 (c := 5) (by decide)
  have c6 := lx_cl hi3 (c := 6) (by decide)
  have c7 := lx_cl hi3 (c := 7) (by decide)
  have c8 := lx_cl hi3 (c := 8) (by decide)
  have c9 := lx_cl hi3 (c := 9) (by decide)
  have q0 := lx_in hi3 (c := 0) (by decide)
  have q1 := lx_in hi3 (c := 1) (by decide)
  have q3 := lx_in hi3 (c := 3) (by decide)
  have q4 := lx_in hi3 (c := 4) (by decide)
  have q5 := lx_in hi3 (c := 5) (by decide)
  have q6 := lx_in hi3 (c := 6) (by decide)
  have q7 := lx_in hi3 (c := 7) (by decide)
  have q8 := lx_in hi3 (c := 8) (by decide)
  have q9 := lx_in hi3 (c := 9) (by decide)
  have gg : ∀ (d : Nat) (v : Int32), d < 8 → (w 9 = 1 → σ 151 (lx i d) = v) → g1 w v = σ 151 (lx i d) := by
    intro d v hd q
    by_cases h9 : w 9 = 1
    · rw [g1, if_pos h9, q h9]
    · rw [g1, if_neg h9, (h2 h9).2 i d hi3 hd]
  have e8 := gg 0 (w (tx i 8)) (by decide) (fun h9 => ((h1 h9).2.1 i hi).1.1)
  have e10 := gg 4 (w (tx i 12)) (by decide) (fun h9 => ((h1 h9).2.1 i hi).1.2.1)
  have e11 := gg 5 (w (tx i 13)) (by decide) (fun h9 => ((h1 h9).2.1 i hi).1.2.2.1)
  have e12 := gg 6 (w (tx i 14)) (by decide) (fun h9 => ((h1 h9).2.1 i hi).1.2.2.2.1)
  have e13 := gg 7 (w (tx i 15)) (by decide) (fun h9 => ((h1 h9).2.1 i hi).1.2.2.2.2.1)
  have e9 : g1 w (if w (tx i 8) = 1 then if w (tx i 11) = 0 then w (tx i 9) else 0 else 0) = σ 151 (lx i 3) * (1 - σ 151 (lx i 1)) := by
    by_cases h9 : w 9 = 1
    · obtain ⟨l0, l4, l5, l6, l7, lj, l3⟩ := ((h1 h9).2.1 i hi).1
      rw [g1, if_pos h9, l3]
      by_cases h8 : w (tx i 8) = 1
      · rw [if_pos h8]
        by_cases h11 : w (tx i 11) = 0
        · rw [if_pos h11, (lj h8).1, h11, show (1 : Int32) - 0 = 1 by decide, Int32.mul_one]
        · rw [if_neg h11, Int32.zero_mul]
      · rw [if_neg h8, Int32.zero_mul]
    · rw [g1, if_neg h9, (h2 h9).2 i 3 hi3 (by decide), Int32.zero_mul]
  have eb : f_L_isTold_6 a3 (f + 1) (nI n) x (nI i) σ = (if 0 ≤ (if w (tx i 17) = 1 then w (tx i 18) else -6) then f_L_isTold_199 a3 (f_L_isTold_6 a3 f) (nI n) (x ||| (σ 151 (lx i 7) <<< (nI i &&& 31))) (nI i) (10 * nI i) 0 σ else f_L_isTold_199 a3 (f_L_isTold_6 a3 f) (nI n) (x ||| (σ 151 (lx i 7) <<< (nI i &&& 31))) (nI i) (10 * nI i) 1 σ) := by
    rw [f_L_isTold_6, if_neg (nI_ge hi (by omega)), lx_7, c7, if_neg q7, tv_8 hB hV hi, cb_some, lx_0, c0, if_neg q0, if_pos e8, tv_9 hB hV hi, cb_some, lx_3, c3, if_neg q3, lx_1, c1, if_neg q1, if_pos e9, tv_10 hB hV hi, cb_some, lx_4, c4, if_neg q4, if_pos e10, tv_11 hB hV hi, cb_some, lx_5, c5, if_neg q5, if_pos e11, tv_12 hB hV hi, cb_some, lx_6, c6, if_neg q6, if_pos e12, tv_13 hB hV hi, cb_some, if_neg q7, if_pos e13, tv_16 hB hV hi, cb_some, lx_8, c8, if_neg q8, if_pos p8.symm, tv_18 hB hV hi, cb_some, lx_9, c9, if_neg q9, if_pos p9.symm, tv_17 hB hV hi, cb_some]
  rw [eb]
  rcases hw with ⟨w17, w16⟩ | ⟨w17, ⟨j, j1, j2, w16⟩, s, s1, w18⟩
  · rw [w17, if_neg (show ¬ (0 : Int32) = 1 by decide), if_neg (by decide), f_L_isTold_199, lx_8, c8, if_neg q8, p8, w16, if_pos rfl, f_L_isTold_214, if_pos rfl, nI_1]
  · rw [w17, if_pos rfl, w18, if_pos (nI_pos' (by omega)), f_L_isTold_199, lx_8, c8, if_neg q8, p8, w16, if_neg (nI_ne0 (by omega) (by omega)), f_L_isTold_214, if_pos rfl, nI_1]
theorem t_loop {n t c : Nat} {σ : Sg} {w : Vec} (hL : LQ n c σ w) (hB : BS 1 n σ w) (hV : VW n t c w) (hn : n ≤ 3) {Tm : Nat} (hT : Tm < 2 ^ 30) (hw : ∀ i, i < n → WL Tm i w) (a3 : Int32) : ∀ (d i f : Nat) (x : Int32), i + d = n → f_L_isTold_6 a3 (f + 1 + d) (nI n) x (nI i) σ = f_L_isTold_6 a3 (f + 1) (nI n) (exL (fun j => σ 151 (lx j 7)) d i x) (nI n) σ
  | 0, i, f, x, hd => by
    obtain rfl : i = n := by omega
    rfl
  | d + 1, i, f, x, hd => by
    have hi : i < n := by omega
    have ob : b01 (σ 151 (lx i 7)) := by
      by_cases h9 : w 9 = 1
      · obtain ⟨lt, wb⟩ := (hL.2.1 h9).2.1 i hi
        rw [lt.2.2.2.2.1]; exact wb.2.2.2.1
      · rw [(hL.2.2.1 h9).2 i 7 (by omega) (by decide)]; exact Or.inl rfl
    rw [show f + 1 + (d + 1) = f + 1 + d + 1 from rfl, t_task hL hB hV hn hi hT (hw i hi) (f + 1 + d) a3 x, t_loop hL hB hV hn hT hw a3 d (i + 1) f _ (by omega), exL]
    rcases ob with q | q
    · rw [q, if_pos rfl, show (0 : Int32) <<< (nI i &&& 31) = 0 from Int32.zero_shiftLeft, Int32.or_zero]
    · rw [q, if_neg (by decide)]
theorem l_told {n t c : Nat} {σ : Sg} {w : Vec} (hL : LQ n c σ w) (hB : BS 1 n σ w) (hV : VW n t c w) (hn : n ≤ 3) (ht : t + 2 < 2 ^ 30) {Tm : Nat} (hT : Tm < 2 ^ 30) (hw : ∀ i, i < n → WL Tm i w) : f_L_isTold_0 (nI n) σ = some (1, σ) := by
  have e := t_loop hL hB hV hn hT hw (nI n) n 0 (FU - 1 - n) 0 (by omega)
  rw [show FU - 1 - n + 1 + n = FU by unfold FU; omega, show nI 0 = (0 : Int32) from rfl] at e
  rw [f_L_isTold_0, e]
  refine t_end hL hB hV hn ht _ (nI n) _ ?_
  by_cases h9 : w 9 = 1
  · rw [g1, if_pos h9]
    exact exL_c n 0 0 (fun j _ hj => ((hL.2.1 h9).2.1 j (by omega)).1.2.2.2.2.1)
  · rw [g1, if_neg h9]
    exact exL_0 n 0 0 _ (fun j _ hj => (hL.2.2.1 h9).2 j 7 (by omega) (by decide))
