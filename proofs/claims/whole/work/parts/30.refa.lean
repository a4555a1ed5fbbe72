/-! THE REFERENCE, as functions on its row of numbers. tx i k: the place of task i's number k; rx c j: the place of the record's (in its ring) number j -/
abbrev Vec : Type := Nat → Int32
def tx (i k : Nat) : Nat := 19 + 26 * i + k
def rx (c j : Nat) : Nat := 175 + 5 * c + j
def rb (b : Sg) (w : Vec) : Sg := sr b 151 w
theorem rb_151 (b : Sg) (w : Vec) : rb b w 151 = w := by simp [rb, sr]
theorem rb_o (b : Sg) (w : Vec) {a : Nat} (h : a ≠ 151) : rb b w a = b a := sr_o a h
theorem rb_150 (b : Sg) (w : Vec) : rb b w 150 = b 150 := rb_o b w (by decide)
theorem rb_self (b : Sg) : rb b (b 151) = b := by funext a; by_cases h : a = 151 <;> simp [rb, sr, h]
theorem rb_rb (b : Sg) (w v : Vec) : rb (rb b w) v = rb b v := by funext a; by_cases h : a = 151 <;> simp [rb, sr, h]
theorem rb_st (b : Sg) (w : Vec) (k : Nat) (v : Int32) : st (rb b w) 151 k v = rb b (upd w k v) := by
  funext a j; by_cases h : a = 151 <;> simp [rb, sr, st, upd, h]
theorem cb_some {β : Type} (v : Int32) (σ : Sg) (f : Int32 → Sg → Option β) : cb (some (v, σ)) f = f v σ := rfl
theorem wb_eq {β : Type} (x : Sg) (f : Sg → Option β) : wb x f = f x := rfl
theorem upd_ap (f : Vec) (k : Nat) (x : Int32) (j : Nat) : upd f k x j = if j = k then x else f j := rfl
theorem tx_k (i c k : Nat) (h : k < 19) : (tx i c = k) = False := by simp only [tx, eq_iff_iff, iff_false]; omega
theorem k_tx (i c k : Nat) (h : k < 19) : (k = tx i c) = False := by simp only [tx, eq_iff_iff, iff_false]; omega
theorem tx_tx (i j c d : Nat) (hc : c < 26) (hd : d < 26) : (tx i c = tx j d) = (i = j ∧ c = d) := by simp only [tx, eq_iff_iff]; omega
theorem tx_same (i c d : Nat) : (tx i c = tx i d) = (c = d) := by simp only [tx, eq_iff_iff]; omega
theorem rx_k (c j k : Nat) (h : k < 175) : (rx c j = k) = False := by simp only [rx, eq_iff_iff, iff_false]; omega
theorem k_rx (c j k : Nat) (h : k < 175) : (k = rx c j) = False := by simp only [rx, eq_iff_iff, iff_false]; omega
theorem tx_lt {i c : Nat} (hi : i < 6) (hc : c < 26) : tx i c < 175 := by simp only [tx]; omega
theorem tx_in {i c : Nat} (hi : i < 6) (hc : c < 26) : tx i c < 255 := by simp only [tx]; omega
theorem rx_in {c j : Nat} (hc : c < 16) (hj : j < 5) : rx c j < 255 := by simp only [rx]; omega
theorem inb {n N : Nat} (h : n < N) (hN : N < 2 ^ 31) : ¬ (nI n < 0 ∨ N ≤ (nI n).toNatClampNeg) := nI_in h hN
theorem inb2 {n N : Nat} (h : n < N) (hN : N < 2 ^ 31) : ¬ (nI n < 0 ∨ N ≤ n) := fun q => q.elim (nI_pos (Nat.lt_trans h hN)) (fun q => absurd h (Nat.not_lt.mpr q))
theorem place_tx (i c : Nat) : (19 : Int32) + 26 * nI i + nI c = nI (tx i c) := by
  rw [show (19 : Int32) = nI 19 from rfl, show (26 : Int32) = nI 26 from rfl, pk_mul, nI_add, nI_add, tx]
theorem of_s {i c : Nat} (hi : i < 6) (hc : c < 26) (b : Sg) (w : Vec) : f_X5_of_0 (nI i) (nI c) (rb b w) = some (w (tx i c), rb b w) := by
  have h := tx_in hi hc
  simp only [f_X5_of_0, f_X5_place_0, cb_some, place_tx, nI_clamp (Nat.lt_trans h (by decide)), if_neg (inb2 h (by decide)), rb_151]
theorem lay_s {i c : Nat} (hi : i < 6) (hc : c < 26) (v : Int32) (b : Sg) (w : Vec) : f_X5_lay_0 (nI i) (nI c) v (rb b w) = some (0, rb b (upd w (tx i c) v)) := by
  have h := tx_in hi hc
  simp only [f_X5_lay_0, f_X5_place_0, cb_some, wb_eq, place_tx, nI_clamp (Nat.lt_trans h (by decide)), if_neg (inb2 h (by decide)), rb_st]
theorem of_0 {i : Nat} (hi : i < 6) (b : Sg) (w : Vec) : f_X5_of_0 (nI i) 0 (rb b w) = some (w (tx i 0), rb b w) := of_s hi (c := 0) (by decide) b w
theorem lay_0 {i : Nat} (hi : i < 6) (v : Int32) (b : Sg) (w : Vec) : f_X5_lay_0 (nI i) 0 v (rb b w) = some (0, rb b (upd w (tx i 0) v)) := lay_s hi (c := 0) (by decide) v b w
theorem of_1 {i : Nat} (hi : i < 6) (b : Sg) (w : Vec) : f_X5_of_0 (nI i) 1 (rb b w) = some (w (tx i 1), rb b w) := of_s hi (c := 1) (by decide) b w
theorem lay_1 {i : Nat} (hi : i < 6) (v : Int32) (b : Sg) (w : Vec) : f_X5_lay_0 (nI i) 1 v (rb b w) = some (0, rb b (upd w (tx i 1) v)) := lay_s hi (c := 1) (by decide) v b w
theorem of_2 {i : Nat} (hi : i < 6) (b : Sg) (w : Vec) : f_X5_of_0 (nI i) 2 (rb b w) = some (w (tx i 2), rb b w) := of_s hi (c := 2) (by decide) b w
theorem lay_2 {i : Nat} (hi : i < 6) (v : Int32) (b : Sg) (w : Vec) : f_X5_lay_0 (nI i) 2 v (rb b w) = some (0, rb b (upd w (tx i 2) v)) := lay_s hi (c := 2) (by decide) v b w
theorem of_3 {i : Nat} (hi : i < 6) (b : Sg) (w : Vec) : f_X5_of_0 (nI i) 3 (rb b w) = some (w (tx i 3), rb b w) := of_s hi (c := 3) (by decide) b w
theorem lay_3 {i : Nat} (hi : i < 6) (v : Int32) (b : Sg) (w : Vec) : f_X5_lay_0 (nI i) 3 v (rb b w) = some (0, rb b (upd w (tx i 3) v)) := lay_s hi (c := 3) (by decide) v b w
theorem of_4 {i : Nat} (hi : i < 6) (b : Sg) (w : Vec) : f_X5_of_0 (nI i) 4 (rb b w) = some (w (tx i 4), rb b w) := of_s hi (c := 4) (by decide) b w
theorem lay_4 {i : Nat} (hi : i < 6) (v : Int32) (b : Sg) (w : Vec) : f_X5_lay_0 (nI i) 4 v (rb b w) = some (0, rb b (upd w (tx i 4) v)) := lay_s hi (c := 4) (by decide) v b w
theorem of_5 {i : Nat} (hi : i < 6) (b : Sg) (w : Vec) : f_X5_of_0 (nI i) 5 (rb b w) = some (w (tx i 5), rb b w) := of_s hi (c := 5) (by decide) b w
theorem lay_5 {i : Nat} (hi : i < 6) (v : Int32) (b : Sg) (w : Vec) : f_X5_lay_0 (nI i) 5 v (rb b w) = some (0, rb b (upd w (tx i 5) v)) := lay_s hi (c := 5) (by decide) v b w
theorem of_6 {i : Nat} (hi : i < 6) (b : Sg) (w : Vec) : f_X5_of_0 (nI i) 6 (rb b w) = some (w (tx i 6), rb b w) := of_s hi (c := 6) (by decide) b w
theorem lay_6 {i : Nat} (hi : i < 6) (v : Int32) (b : Sg) (w : Vec) : f_X5_lay_0 (nI i) 6 v (rb b w) = some (0, rb b (upd w (tx i 6) v)) := lay_s hi (c := 6) (by decide) v b w
theorem of_7 {i : Nat} (hi : i < 6) (b : Sg) (w : Vec) : f_X5_of_0 (nI i) 7 (rb b w) = some (w (tx i 7), rb b w) := of_s hi (c := 7) (by decide) b w
theorem lay_7 {i : Nat} (hi : i < 6) (v : Int32) (b : Sg) (w : Vec) : f_X5_lay_0 (nI i) 7 v (rb b w) = some (0, rb b (upd w (tx i 7) v)) := lay_s hi (c := 7) (by decide) v b w
theorem of_8 {i : Nat} (hi : i < 6) (b : Sg) (w : Vec) : f_X5_of_0 (nI i) 8 (rb b w) = some (w (tx i 8), rb b w) := of_s hi (c := 8) (by decide) b w
theorem lay_8 {i : Nat} (hi : i < 6) (v : Int32) (b : Sg) (w : Vec) : f_X5_lay_0 (nI i) 8 v (rb b w) = some (0, rb b (upd w (tx i 8) v)) := lay_s hi (c := 8) (by decide) v b w
theorem of_9 {i : Nat} (hi : i < 6) (b : Sg) (w : Vec) : f_X5_of_0 (nI i) 9 (rb b w) = some (w (tx i 9), rb b w) := of_s hi (c := 9) (by decide) b w
theorem lay_9 {i : Nat} (hi : i < 6) (v : Int32) (b : Sg) (w : Vec) : f_X5_lay_0 (nI i) 9 v (rb b w) = some (0, rb b (upd w (tx i 9) v)) := lay_s hi (c := 9) (by decide) v b w
theorem of_10 {i : Nat} (hi : i < 6) (b : Sg) (w : Vec) : f_X5_of_0 (nI i) 10 (rb b w) = some (w (tx i 10), rb b w) := of_s hi (c := 10) (by decide) b w
theorem lay_10 {i : Nat} (hi : i < 6) (v : Int32) (b : Sg) (w : Vec) : f_X5_lay_0 (nI i) 10 v (rb b w) = some (0, rb b (upd w (tx i 10) v)) := lay_s hi (c := 10) (by decide) v b w
theorem of_11 {i : Nat} (hi : i < 6) (b : Sg) (w : Vec) : f_X5_of_0 (nI i) 11 (rb b w) = some (w (tx i 11), rb b w) := of_s hi (c := 11) (by decide) b w
theorem lay_11 {i : Nat} (hi : i < 6) (v : Int32) (b : Sg) (w : Vec) : f_X5_lay_0 (nI i) 11 v (rb b w) = some (0, rb b (upd w (tx i 11) v)) := lay_s hi (c := 11) (by decide) v b w
theorem of_12 {i : Nat} (hi : i < 6) (b : Sg) (w : Vec) : f_X5_of_0 (nI i) 12 (rb b w) = some (w (tx i 12), rb b w) := of_s hi (c := 12) (by decide) b w
theorem lay_12 {i : Nat} (hi : i < 6) (v : Int32) (b : Sg) (w : Vec) : f_X5_lay_0 (nI i) 12 v (rb b w) = some (0, rb b (upd w (tx i 12) v)) := lay_s hi (c := 12) (by decide) v b w
theorem of_13 {i : Nat} (hi : i < 6) (b : Sg) (w : Vec) : f_X5_of_0 (nI i) 13 (rb b w) = some (w (tx i 13), rb b w) := of_s hi (c := 13) (by decide) b w
theorem lay_13 {i : Nat} (hi : i < 6) (v : Int32) (b : Sg) (w : Vec) : f_X5_lay_0 (nI i) 13 v (rb b w) = some (0, rb b (upd w (tx i 13) v)) := lay_s hi (c := 13) (by decide) v b w
theorem of_14 {i : Nat} (hi : i < 6) (b : Sg) (w : Vec) : f_X5_of_0 (nI i) 14 (rb b w) = some (w (tx i 14), rb b w) := of_s hi (c := 14) (by decide) b w
theorem lay_14 {i : Nat} (hi : i < 6) (v : Int32) (b : Sg) (w : Vec) : f_X5_lay_0 (nI i) 14 v (rb b w) = some (0, rb b (upd w (tx i 14) v)) := lay_s hi (c := 14) (by decide) v b w
theorem of_15 {i : Nat} (hi : i < 6) (b : Sg) (w : Vec) : f_X5_of_0 (nI i) 15 (rb b w) = some (w (tx i 15), rb b w) := of_s hi (c := 15) (by decide) b w
theorem lay_15 {i : Nat} (hi : i < 6) (v : Int32) (b : Sg) (w : Vec) : f_X5_lay_0 (nI i) 15 v (rb b w) = some (0, rb b (upd w (tx i 15) v)) := lay_s hi (c := 15) (by decide) v b w
theorem of_16 {i : Nat} (hi : i < 6) (b : Sg) (w : Vec) : f_X5_of_0 (nI i) 16 (rb b w) = some (w (tx i 16), rb b w) := of_s hi (c := 16) (by decide) b w
theorem lay_16 {i : Nat} (hi : i < 6) (v : Int32) (b : Sg) (w : Vec) : f_X5_lay_0 (nI i) 16 v (rb b w) = some (0, rb b (upd w (tx i 16) v)) := lay_s hi (c := 16) (by decide) v b w
theorem of_17 {i : Nat} (hi : i < 6) (b : Sg) (w : Vec) : f_X5_of_0 (nI i) 17 (rb b w) = some (w (tx i 17), rb b w) := of_s hi (c := 17) (by decide) b w
theorem lay_17 {i : Nat} (hi : i < 6) (v : Int32) (b : Sg) (w : Vec) : f_X5_lay_0 (nI i) 17 v (rb b w) = some (0, rb b (upd w (tx i 17) v)) := lay_s hi (c := 17) (by decide) v b w
theorem of_18 {i : Nat} (hi : i < 6) (b : Sg) (w : Vec) : f_X5_of_0 (nI i) 18 (rb b w) = some (w (tx i 18), rb b w) := of_s hi (c := 18) (by decide) b w
theorem lay_18 {i : Nat} (hi : i < 6) (v : Int32) (b : Sg) (w : Vec) : f_X5_lay_0 (nI i) 18 v (rb b w) = some (0, rb b (upd w (tx i 18) v)) := lay_s hi (c := 18) (by decide) v b w
theorem of_19 {i : Nat} (hi : i < 6) (b : Sg) (w : Vec) : f_X5_of_0 (nI i) 19 (rb b w) = some (w (tx i 19), rb b w) := of_s hi (c := 19) (by decide) b w
theorem lay_19 {i : Nat} (hi : i < 6) (v : Int32) (b : Sg) (w : Vec) : f_X5_lay_0 (nI i) 19 v (rb b w) = some (0, rb b (upd w (tx i 19) v)) := lay_s hi (c := 19) (by decide) v b w
theorem of_20 {i : Nat} (hi : i < 6) (b : Sg) (w : Vec) : f_X5_of_0 (nI i) 20 (rb b w) = some (w (tx i 20), rb b w) := of_s hi (c := 20) (by decide) b w
theorem lay_20 {i : Nat} (hi : i < 6) (v : Int32) (b : Sg) (w : Vec) : f_X5_lay_0 (nI i) 20 v (rb b w) = some (0, rb b (upd w (tx i 20) v)) := lay_s hi (c := 20) (by decide) v b w
theorem of_21 {i : Nat} (hi : i < 6) (b : Sg) (w : Vec) : f_X5_of_0 (nI i) 21 (rb b w) = some (w (tx i 21), rb b w) := of_s hi (c := 21) (by decide) b w
theorem lay_21 {i : Nat} (hi : i < 6) (v : Int32) (b : Sg) (w : Vec) : f_X5_lay_0 (nI i) 21 v (rb b w) = some (0, rb b (upd w (tx i 21) v)) := lay_s hi (c := 21) (by decide) v b w
theorem of_22 {i : Nat} (hi : i < 6) (b : Sg) (w : Vec) : f_X5_of_0 (nI i) 22 (rb b w) = some (w (tx i 22), rb b w) := of_s hi (c := 22) (by decide) b w
theorem lay_22 {i : Nat} (hi : i < 6) (v : Int32) (b : Sg) (w : Vec) : f_X5_lay_0 (nI i) 22 v (rb b w) = some (0, rb b (upd w (tx i 22) v)) := lay_s hi (c := 22) (by decide) v b w
theorem of_23 {i : Nat} (hi : i < 6) (b : Sg) (w : Vec) : f_X5_of_0 (nI i) 23 (rb b w) = some (w (tx i 23), rb b w) := of_s hi (c := 23) (by decide) b w
theorem lay_23 {i : Nat} (hi : i < 6) (v : Int32) (b : Sg) (w : Vec) : f_X5_lay_0 (nI i) 23 v (rb b w) = some (0, rb b (upd w (tx i 23) v)) := lay_s hi (c := 23) (by decide) v b w
theorem of_24 {i : Nat} (hi : i < 6) (b : Sg) (w : Vec) : f_X5_of_0 (nI i) 24 (rb b w) = some (w (tx i 24), rb b w) := of_s hi (c := 24) (by decide) b w
theorem lay_24 {i : Nat} (hi : i < 6) (v : Int32) (b : Sg) (w : Vec) : f_X5_lay_0 (nI i) 24 v (rb b w) = some (0, rb b (upd w (tx i 24) v)) := lay_s hi (c := 24) (by decide) v b w
theorem of_25 {i : Nat} (hi : i < 6) (b : Sg) (w : Vec) : f_X5_of_0 (nI i) 25 (rb b w) = some (w (tx i 25), rb b w) := of_s hi (c := 25) (by decide) b w
theorem lay_25 {i : Nat} (hi : i < 6) (v : Int32) (b : Sg) (w : Vec) : f_X5_lay_0 (nI i) 25 v (rb b w) = some (0, rb b (upd w (tx i 25) v)) := lay_s hi (c := 25) (by decide) v b w
/-! the specs -/
def goV (i : Nat) (w : Vec) : Vec := if w (tx i 8) = 1 then if w (tx i 11) = 0 then upd (upd w (tx i 9) (w (tx i 9) - 1)) (tx i 8) (if w (tx i 9) - 1 ≤ 0 then 0 else 1) else w else w
def fm (w : Vec) : Nat := if w 10 = 0 then 0 else 3
def actV (i : Nat) (w : Vec) : Int32 := if w 13 < w (tx i (21 + fm w)) then 0 else w (tx i (20 + fm w))
def bgV (i : Nat) (w : Vec) (a : Int32) : Vec := upd (upd (upd (upd (upd w (tx i 8) 1) (tx i 10) (w 13)) (tx i 9) (w (tx i 1) + (if a = 2 then w (tx i (22 + fm w)) else 0))) (tx i 11) (if a = 1 then 1 else 0)) (tx i 12) (w (tx i 12) + (if a = 3 then 0 else if a = 4 then 2 else 1))
def lateV (i : Nat) (w : Vec) : Vec := if w (tx i 8) = 1 then if w (tx i 7) ≤ 0 then w else if w 13 - w (tx i 10) ≤ w (tx i 7) then w else upd w (tx i 14) 1 else w
def cr (i : Nat) (w : Vec) : Int32 × Vec := if goV i w (tx i 8) = 0 then if w 13 - w 13 / w (tx i 0) * w (tx i 0) = w (tx i 2) - w (tx i 2) / w (tx i 0) * w (tx i 0) then if actV i (goV i w) = 5 then (1, goV i w) else (0, lateV i (bgV i (goV i w) (actV i (goV i w)))) else (0, lateV i (goV i w)) else (0, lateV i (goV i w))
def clr (i : Nat) (w : Vec) : Vec := upd (upd w (tx i 12) 0) (tx i 14) 0
def badV (i : Nat) (w : Vec) : Vec := if w (tx i 17) = 0 then upd (upd (upd (upd (upd w (tx i 13) (w (tx i 13) + 1)) (tx i 15) (if w (tx i 13) + 1 ≤ w (tx i 6) then 0 else 1)) (tx i 16) (w (tx i 16) + 1)) (tx i 17) 1) (tx i 18) (w 8) else upd (upd (upd w (tx i 13) (w (tx i 13) + 1)) (tx i 15) (if w (tx i 13) + 1 ≤ w (tx i 6) then 0 else 1)) (tx i 16) (w (tx i 16) + 1)
def goodV (i : Nat) (w : Vec) : Vec := upd w (tx i 13) (if w (tx i 13) ≤ 0 then 0 else w (tx i 13) - 1)
def endV (i : Nat) (w : Vec) : Vec := if w (tx i 12) < w (tx i 4) then clr i (badV i w) else if w (tx i 5) < w (tx i 12) then clr i (badV i w) else if w (tx i 14) = 0 then clr i (goodV i w) else clr i (badV i w)
def jdV (i : Nat) (w : Vec) : Vec := if w (tx i 15) = 1 then w else if w 15 - w 15 / w (tx i 3) * w (tx i 3) = 0 then endV i w else w
def lp (g : Nat → Vec → Vec) : Nat → Nat → Vec → Vec
  | 0, _, w => w
  | d + 1, i, w => lp g d (i + 1) (g i w)
def fe (w : Vec) : Nat → Nat → Int32
  | 0, _ => -6
  | d + 1, i => if w (tx i 15) = 1 then nI i else fe w d (i + 1)
def mk1 (cause tk : Int32) (w : Vec) (c : Nat) : Vec := upd (upd (upd (upd (upd (upd w (rx c 0) cause) (rx c 1) (w 8)) (rx c 2) tk) (rx c 3) (w 10)) (rx c 4) (w 13)) 18 (w 18 + 1)
def mk2 (tk : Int32) (w : Vec) : Vec := if tk < 0 then w else upd w (tx tk.toNatClampNeg 19) (w (tx tk.toNatClampNeg 19) + 1)
def mk3 (w : Vec) : Vec := if w 11 + 1 < w 7 then upd (upd (upd w 11 (w 11 + 1)) 9 0) 12 (w 5) else if w 10 = 0 then upd (upd (upd (upd (upd w 11 (w 11 + 1)) 9 0) 12 (w 5)) 10 1) 11 0 else upd (upd (upd (upd w 11 (w 11 + 1)) 9 0) 12 (w 5)) 9 2
def mkV (n : Nat) (cause crashed : Int32) (w : Vec) : Vec := mk3 (mk2 (if cause = 3 then crashed else fe w n 0) (mk1 cause (if cause = 3 then crashed else fe w n 0) w ((w 18).toNatClampNeg % 16)))

theorem go_s {i : Nat} (hi : i < 6) (b : Sg) (w : Vec) : f_X5_goOnJob_0 (nI i) (rb b w) = some (0, rb b (goV i w)) := by
  simp only [f_X5_goOnJob_0, f_X5_goOnJob_59, f_X5_goOnJob_56, goV, of_0 hi, lay_0 hi, of_1 hi, lay_1 hi, of_2 hi, lay_2 hi, of_3 hi, lay_3 hi, of_4 hi, lay_4 hi, of_5 hi, lay_5 hi, of_6 hi, lay_6 hi, of_7 hi, lay_7 hi, of_8 hi, lay_8 hi, of_9 hi, lay_9 hi, of_10 hi, lay_10 hi, of_11 hi, lay_11 hi, of_12 hi, lay_12 hi, of_13 hi, lay_13 hi, of_14 hi, lay_14 hi, of_15 hi, lay_15 hi, of_16 hi, lay_16 hi, of_17 hi, lay_17 hi, of_18 hi, lay_18 hi, of_19 hi, lay_19 hi, of_20 hi, lay_20 hi, of_21 hi, lay_21 hi, of_22 hi, lay_22 hi, of_23 hi, lay_23 hi, of_24 hi, lay_24 hi, of_25 hi, lay_25 hi, cb_some, wb_eq, upd_ap, tx_same, if_true, if_false]
  by_cases h1 : w (tx i 8) = 1
  · by_cases h2 : w (tx i 11) = 0
    · by_cases h3 : w (tx i 9) - 1 ≤ 0 <;> simp [h1, h2, h3, of_0 hi, lay_0 hi, of_1 hi, lay_1 hi, of_2 hi, lay_2 hi, of_3 hi, lay_3 hi, of_4 hi, lay_4 hi, of_5 hi, lay_5 hi, of_6 hi, lay_6 hi, of_7 hi, lay_7 hi, of_8 hi, lay_8 hi, of_9 hi, lay_9 hi, of_10 hi, lay_10 hi, of_11 hi, lay_11 hi, of_12 hi, lay_12 hi, of_13 hi, lay_13 hi, of_14 hi, lay_14 hi, of_15 hi, lay_15 hi, of_16 hi, lay_16 hi, of_17 hi, lay_17 hi, of_18 hi, lay_18 hi, of_19 hi, lay_19 hi, of_20 hi, lay_20 hi, of_21 hi, lay_21 hi, of_22 hi, lay_22 hi, of_23 hi, lay_23 hi, of_24 hi, lay_24 hi, of_25 hi, lay_25 hi, cb_some]
    · simp [h1, h2]
  · simp [h1]
theorem late_s {i : Nat} (hi : i < 6) (a : Int32) (b : Sg) (w : Vec) : f_X5_crashes_52 a (nI i) (rb b w) = some (0, rb b (lateV i w)) := by
  simp only [f_X5_crashes_52, f_X5_crashes_106, lateV, of_0 hi, lay_0 hi, of_1 hi, lay_1 hi, of_2 hi, lay_2 hi, of_3 hi, lay_3 hi, of_4 hi, lay_4 hi, of_5 hi, lay_5 hi, of_6 hi, lay_6 hi, of_7 hi, lay_7 hi, of_8 hi, lay_8 hi, of_9 hi, lay_9 hi, of_10 hi, lay_10 hi, of_11 hi, lay_11 hi, of_12 hi, lay_12 hi, of_13 hi, lay_13 hi, of_14 hi, lay_14 hi, of_15 hi, lay_15 hi, of_16 hi, lay_16 hi, of_17 hi, lay_17 hi, of_18 hi, lay_18 hi, of_19 hi, lay_19 hi, of_20 hi, lay_20 hi, of_21 hi, lay_21 hi, of_22 hi, lay_22 hi, of_23 hi, lay_23 hi, of_24 hi, lay_24 hi, of_25 hi, lay_25 hi, cb_some, wb_eq, rb_151]
  by_cases h1 : w (tx i 8) = 1
  · by_cases h2 : w (tx i 7) ≤ 0
    · simp [h1, h2]
    · by_cases h3 : w 13 - w (tx i 10) ≤ w (tx i 7) <;> simp [h1, h2, h3]
  · simp [h1]
theorem fm_im {w : Vec} (h : w 10 = 0 ∨ w 10 = 1) : (20 : Int32) + 3 * w 10 = nI (20 + fm w) := by
  rcases h with h | h <;> rw [h] <;> simp only [fm, h] <;> decide
theorem fm_le (w : Vec) : fm w ≤ 3 := by unfold fm; split <;> omega
theorem act_s {i : Nat} (hi : i < 6) (b : Sg) (w : Vec) (h10 : w 10 = 0 ∨ w 10 = 1) : f_X5_acting_0 (nI i) (rb b w) = some (actV i w, rb b w) := by
  have e := fm_im h10
  have hf := fm_le w
  have e1 : nI (20 + fm w) + 1 = nI (21 + fm w) := by rw [nI_1]; congr 1; omega
  simp only [f_X5_acting_0, f_X5_acting_41, actV, rb_151, e, e1, of_s hi (c := 21 + fm w) (by omega), of_s hi (c := 20 + fm w) (by omega), cb_some]
  by_cases h : w 13 < w (tx i (21 + fm w)) <;> simp [h]
theorem bg_s {i : Nat} (hi : i < 6) (b : Sg) (w : Vec) (h10 : w 10 = 0 ∨ w 10 = 1) : f_X5_beginJob_0 (nI i) (rb b w) = if actV i w = 5 then some (1, rb b w) else some (0, rb b (bgV i w (actV i w))) := by
  have e := fm_im h10
  have hf := fm_le w
  have e1 : nI (20 + fm w) + 2 = nI (22 + fm w) := by rw [show (2 : Int32) = nI 2 from rfl, nI_add]; congr 1; omega
  simp only [f_X5_beginJob_0, act_s hi b w h10, cb_some]
  by_cases h5 : actV i w = 5
  · simp [h5]
  · simp only [h5, if_false, of_0 hi, lay_0 hi, of_1 hi, lay_1 hi, of_2 hi, lay_2 hi, of_3 hi, lay_3 hi, of_4 hi, lay_4 hi, of_5 hi, lay_5 hi, of_6 hi, lay_6 hi, of_7 hi, lay_7 hi, of_8 hi, lay_8 hi, of_9 hi, lay_9 hi, of_10 hi, lay_10 hi, of_11 hi, lay_11 hi, of_12 hi, lay_12 hi, of_13 hi, lay_13 hi, of_14 hi, lay_14 hi, of_15 hi, lay_15 hi, of_16 hi, lay_16 hi, of_17 hi, lay_17 hi, of_18 hi, lay_18 hi, of_19 hi, lay_19 hi, of_20 hi, lay_20 hi, of_21 hi, lay_21 hi, of_22 hi, lay_22 hi, of_23 hi, lay_23 hi, of_24 hi, lay_24 hi, of_25 hi, lay_25 hi, cb_some, rb_151, upd_ap, k_tx _ _ 10 (by decide), k_tx _ _ 13 (by decide), tx_same, e, e1, of_s hi (c := 22 + fm w) (by omega)]
    have q1 : (22 + fm w = 8) = False := by simp only [eq_iff_iff, iff_false]; omega
    have q2 : (22 + fm w = 10) = False := by simp only [eq_iff_iff, iff_false]; omega
    by_cases h2 : actV i w = 2
    · have h3 : ¬ actV i w = 1 := by rw [h2]; decide
      have h4 : ¬ actV i w = 3 := by rw [h2]; decide
      have h6 : ¬ actV i w = 4 := by rw [h2]; decide
      simp [f_X5_beginJob_73, f_X5_beginJob_91, f_X5_beginJob_124, bgV, h2, of_0 hi, lay_0 hi, of_1 hi, lay_1 hi, of_2 hi, lay_2 hi, of_3 hi, lay_3 hi, of_4 hi, lay_4 hi, of_5 hi, lay_5 hi, of_6 hi, lay_6 hi, of_7 hi, lay_7 hi, of_8 hi, lay_8 hi, of_9 hi, lay_9 hi, of_10 hi, lay_10 hi, of_11 hi, lay_11 hi, of_12 hi, lay_12 hi, of_13 hi, lay_13 hi, of_14 hi, lay_14 hi, of_15 hi, lay_15 hi, of_16 hi, lay_16 hi, of_17 hi, lay_17 hi, of_18 hi, lay_18 hi, of_19 hi, lay_19 hi, of_20 hi, lay_20 hi, of_21 hi, lay_21 hi, of_22 hi, lay_22 hi, of_23 hi, lay_23 hi, of_24 hi, lay_24 hi, of_25 hi, lay_25 hi, cb_some, upd_ap, tx_same, q1, q2, tx_k, k_tx]
    · by_cases h3 : actV i w = 1 <;> by_cases h4 : actV i w = 3 <;> by_cases h6 : actV i w = 4 <;> simp [f_X5_beginJob_73, f_X5_beginJob_91, f_X5_beginJob_124, bgV, h2, h3, h4, h6, of_0 hi, lay_0 hi, of_1 hi, lay_1 hi, of_2 hi, lay_2 hi, of_3 hi, lay_3 hi, of_4 hi, lay_4 hi, of_5 hi, lay_5 hi, of_6 hi, lay_6 hi, of_7 hi, lay_7 hi, of_8 hi, lay_8 hi, of_9 hi, lay_9 hi, of_10 hi, lay_10 hi, of_11 hi, lay_11 hi, of_12 hi, lay_12 hi, of_13 hi, lay_13 hi, of_14 hi, lay_14 hi, of_15 hi, lay_15 hi, of_16 hi, lay_16 hi, of_17 hi, lay_17 hi, of_18 hi, lay_18 hi, of_19 hi, lay_19 hi, of_20 hi, lay_20 hi, of_21 hi, lay_21 hi, of_22 hi, lay_22 hi, of_23 hi, lay_23 hi, of_24 hi, lay_24 hi, of_25 hi, lay_25 hi, cb_some, upd_ap, tx_same, q1, q2, tx_k, k_tx]
theorem go_k (i : Nat) (w : Vec) {k : Nat} (hk : k < 19) : goV i w k = w k := by
  unfold goV
  split
  · split
    · simp [upd_ap, k_tx _ _ k hk]
    · rfl
  · rfl
theorem go_t (i : Nat) (w : Vec) {j c : Nat} (hc : c < 26) (h : j ≠ i ∨ (c ≠ 8 ∧ c ≠ 9)) : goV i w (tx j c) = w (tx j c) := by
  unfold goV
  split
  · split
    · simp only [upd_ap, tx_tx j i c _ hc (show 8 < 26 by decide), tx_tx j i c _ hc (show 9 < 26 by decide)]
      have h8 : ¬ (j = i ∧ c = 8) := by omega
      have h9 : ¬ (j = i ∧ c = 9) := by omega
      simp [h8, h9]
    · rfl
  · rfl
theorem fm_go (i : Nat) (w : Vec) : fm (goV i w) = fm w := by unfold fm; rw [go_k i w (by decide)]
theorem cr_s {i : Nat} (hi : i < 6) (b : Sg) (w : Vec) (h10 : w 10 = 0 ∨ w 10 = 1) (h0 : ¬ w (tx i 0) = 0) : f_X5_crashes_0 (nI i) (rb b w) = some ((cr i w).1, rb b (cr i w).2) := by
  have g10 : goV i w 10 = 0 ∨ goV i w 10 = 1 := by rw [go_k i w (by decide)]; exact h10
  have g0 : goV i w (tx i 0) = w (tx i 0) := go_t i w (by decide) (Or.inr (by decide))
  have g2 : goV i w (tx i 2) = w (tx i 2) := go_t i w (by decide) (Or.inr (by decide))
  have g13 : goV i w 13 = w 13 := go_k i w (by decide)
  simp only [f_X5_crashes_0, go_s hi, of_0 hi, lay_0 hi, of_1 hi, lay_1 hi, of_2 hi, lay_2 hi, of_3 hi, lay_3 hi, of_4 hi, lay_4 hi, of_5 hi, lay_5 hi, of_6 hi, lay_6 hi, of_7 hi, lay_7 hi, of_8 hi, lay_8 hi, of_9 hi, lay_9 hi, of_10 hi, lay_10 hi, of_11 hi, lay_11 hi, of_12 hi, lay_12 hi, of_13 hi, lay_13 hi, of_14 hi, lay_14 hi, of_15 hi, lay_15 hi, of_16 hi, lay_16 hi, of_17 hi, lay_17 hi, of_18 hi, lay_18 hi, of_19 hi, lay_19 hi, of_20 hi, lay_20 hi, of_21 hi, lay_21 hi, of_22 hi, lay_22 hi, of_23 hi, lay_23 hi, of_24 hi, lay_24 hi, of_25 hi, lay_25 hi, cb_some, rb_151, g0, g2, g13, if_neg h0, cr, bg_s hi b _ g10, late_s hi]
  by_cases h1 : goV i w (tx i 8) = 0
  · simp only [h1, if_true]
    by_cases h2 : w 13 - w 13 / w (tx i 0) * w (tx i 0) = w (tx i 2) - w (tx i 2) / w (tx i 0) * w (tx i 0)
    · simp only [h2, if_true]
      by_cases h5 : actV i (goV i w) = 5
      · simp [h5, cb_some]
      · simp [h5, cb_some, late_s hi]
    · simp only [h2, if_false]
  · simp only [h1, if_false]

