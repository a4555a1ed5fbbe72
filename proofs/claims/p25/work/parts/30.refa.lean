/-! THE REFERENCE, as functions on its row of numbers. tx i k: the place of task i's number k; rx c j: the place of the record's (in its ring) number j -/
abbrev Vec : Type := Nat → Int32
def tx (i k : Nat) : Nat := 19 + 26 * i + k
def rx (c j : Nat) : Nat := 175 + 5 * c + j
def rb (b : Sg) (w : Vec) : Sg := sr b 151 w
theorem rb_151 (b : Sg) (w : Vec) : rb b w 151 = w := by simp [rb, sr]
theorem rb_o (b : Sg) (w : Vec) {a : Nat} (h : a ≠ 151) : rb b w a = b a := sr_o a h
theorem rb_150 (b : Sg) (w : Vec) : rb b w 150 = b 150 := rb_o b w (by decide)
theorem rb_self (b : Sg) : rb b (b 151) = b := by funext a; by_cases h : a = 151 <;> simp [rb, sr, h]
theorem rb_rb (b : Sg) (w v : Vec) : rb (rb b w) v = rb b v := by funext a; by_cases h : a = 151 <;> simp [rb, sr, h]
theorem rb_st (b : Sg) (w : Vec) (k : Nat) (v : Int32) : st (rb b w) 151 k v = rb b (upd w k v) := by
  funext a j; by_cases h : a = 151 <;> simp [rb, sr, st, upd, h]
theorem cb_some {β : Type} (v : Int32) (σ : Sg) (f : Int32 → Sg → Option β) : cb (some (v, σ)) f = f v σ := rfl
theorem wb_eq {β : Type} (x : Sg) (f : Sg → Option β) : wb x f = f x := rfl
theorem upd_ap (f : Vec) (k : Nat) (x : Int32) (j : Nat) : upd f k x j = if j = k then x else f j := rfl
theorem tx_k (i c k : Nat) (h : k < 19) : (tx i c = k) = False := by simp only [tx, eq_iff_iff, iff_false]; omega
theorem k_tx (i c k : Nat) (h : k < 19) : (k = tx i c) = False := by simp only [tx, eq_iff_iff, iff_false]; omega
theorem tx_tx (i j c d : Nat) (hc : c < 26) (hd : d < 26) : (tx i c = tx j d) = (i = j ∧ c = d) := by simp only [tx, eq_iff_iff]; omega
theorem tx_same (i c d : Nat) : (tx i c = tx i d) = (c = d) := by simp only [tx, eq_iff_iff]; omega
theorem rx_k (c j k : Nat) (h : k < 175) : (rx c j = k) = False := by simp only [rx, eq_iff_iff, iff_false]; omega
theorem k_rx (c j k : Nat) (h : k < 175) : (k = rx c j) = False := by simp only [rx, eq_iff_iff, iff_false]; omega
theorem tx_lt {i c : Nat} (hi : i < 6) (hc : c < 26) : tx i c < 175 := by simp only [tx]; omega
theorem tx_in {i c : Nat} (hi : i < 6) (hc : c < 26) : tx i c < 255 := by simp only [tx]; omega
theorem rx_in {c j : Nat} (hc : c < 16) (hj : j < 5) : rx c j < 255 := by simp only [rx]; omega
theorem inb {n N : Nat} (h : n < N) (hN : N < 2 ^ 31) : ¬ (nI n < 0 ∨ N ≤ (nI n).toNatClampNeg) := nI_in h hN
theorem inb2 {n N : Nat} (h : n < N) (hN : N < 2 ^ 31) : ¬ (nI n < 0 ∨ N ≤ n) := fun q => q.elim (nI_pos (Nat.lt_trans h hN)) (fun q => absurd h (Nat.not_lt.mpr q))
theorem place_tx (i c : Nat) : (19 : Int32) + 26 * nI i + nI c = nI (tx i c) := by
  rw [show (19 : Int32) = nI 19 from rfl, show (26 : Int32) = nI 26 from rfl, pk_mul, nI_add, nI_add, tx]
/-! the specs -/
def goV (i : Nat) (w : Vec) : Vec := if w (tx i 8) = 1 then if w (tx i 11) = 0 then upd (upd w (tx i 9) (w (tx i 9) - 1)) (tx i 8) (if w (tx i 9) - 1 ≤ 0 then 0 else 1) else w else w
def fm (w : Vec) : Nat := if w 10 = 0 then 0 else 3
def actV (i : Nat) (w : Vec) : Int32 := if w 13 < w (tx i (21 + fm w)) then 0 else w (tx i (20 + fm w))
def bgV (i : Nat) (w : Vec) (a : Int32) : Vec := upd (upd (upd (upd (upd w (tx i 8) 1) (tx i 10) (w 13)) (tx i 9) (w (tx i 1) + (if a = 2 then w (tx i (22 + fm w)) else 0))) (tx i 11) (if a = 1 then 1 else 0)) (tx i 12) (w (tx i 12) + (if a = 3 then 0 else if a = 4 then 2 else 1))
def lateV (i : Nat) (w : Vec) : Vec := if w (tx i 8) = 1 then if w (tx i 7) ≤ 0 then w else if w 13 - w (tx i 10) ≤ w (tx i 7) then w else upd w (tx i 14) 1 else w
def cr (i : Nat) (w : Vec) : Int32 × Vec := if goV i w (tx i 8) = 0 then if w 13 - w 13 / w (tx i 0) * w (tx i 0) = w (tx i 2) - w (tx i 2) / w (tx i 0) * w (tx i 0) then if actV i (goV i w) = 5 then (1, goV i w) else (0, lateV i (bgV i (goV i w) (actV i (goV i w)))) else (0, lateV i (goV i w)) else (0, lateV i (goV i w))
def clr (i : Nat) (w : Vec) : Vec := upd (upd w (tx i 12) 0) (tx i 14) 0
def badV (i : Nat) (w : Vec) : Vec := if w (tx i 17) = 0 then upd (upd (upd (upd (upd w (tx i 13) (w (tx i 13) + 1)) (tx i 15) (if w (tx i 13) + 1 ≤ w (tx i 6) then 0 else 1)) (tx i 16) (w (tx i 16) + 1)) (tx i 17) 1) (tx i 18) (w 8) else upd (upd (upd w (tx i 13) (w (tx i 13) + 1)) (tx i 15) (if w (tx i 13) + 1 ≤ w (tx i 6) then 0 else 1)) (tx i 16) (w (tx i 16) + 1)
def goodV (i : Nat) (w : Vec) : Vec := upd w (tx i 13) (if w (tx i 13) ≤ 0 then 0 else w (tx i 13) - 1)
def endV (i : Nat) (w : Vec) : Vec := if w (tx i 12) < w (tx i 4) then clr i (badV i w) else if w (tx i 5) < w (tx i 12) then clr i (badV i w) else if w (tx i 14) = 0 then clr i (goodV i w) else clr i (badV i w)
def jdV (i : Nat) (w : Vec) : Vec := if w (tx i 15) = 1 then w else if w 15 - w 15 / w (tx i 3) * w (tx i 3) = 0 then endV i w else w
def lp (g : Nat → Vec → Vec) : Nat → Nat → Vec → Vec
  | 0, _, w => w
  | d + 1, i, w => lp g d (i + 1) (g i w)
def fe (w : Vec) : Nat → Nat → Int32
  | 0, _ => -6
  | d + 1, i => if w (tx i 15) = 1 then nI i else fe w d (i + 1)
def mk1 (cause tk : Int32) (w : Vec) (c : Nat) : Vec := upd (upd (upd (upd (upd (upd w (rx c 0) cause) (rx c 1) (w 8)) (rx c 2) tk) (rx c 3) (w 10)) (rx c 4) (w 13)) 18 (w 18 + 1)
def mk2 (tk : Int32) (w : Vec) : Vec := if tk < 0 then w else upd w (tx tk.toNatClampNeg 19) (w (tx tk.toNatClampNeg 19) + 1)
def mk3 (w : Vec) : Vec := if w 11 + 1 < w 7 then upd (upd (upd w 11 (w 11 + 1)) 9 0) 12 (w 5) else if w 10 = 0 then upd (upd (upd (upd (upd w 11 (w 11 + 1)) 9 0) 12 (w 5)) 10 1) 11 0 else upd (upd (upd (upd w 11 (w 11 + 1)) 9 0) 12 (w 5)) 9 2
def mkV (n : Nat) (cause crashed : Int32) (w : Vec) : Vec := mk3 (mk2 (if cause = 3 then crashed else fe w n 0) (mk1 cause (if cause = 3 then crashed else fe w n 0) w ((w 18).toNatClampNeg % 16)))

theorem fm_im {w : Vec} (h : w 10 = 0 ∨ w 10 = 1) : (20 : Int32) + 3 * w 10 = nI (20 + fm w) := by
  rcases h with h | h <;> rw [h] <;> simp only [fm, h] <;> decide
theorem fm_le (w : Vec) : fm w ≤ 3 := by unfold fm; split <;> omega
theorem go_k (i : Nat) (w : Vec) {k : Nat} (hk : k < 19) : goV i w k = w k := by
  unfold goV
  split
  · split
    · simp [upd_ap, k_tx _ _ k hk]
    · rfl
  · rfl
theorem go_t (i : Nat) (w : Vec) {j c : Nat} (hc : c < 26) (h : j ≠ i ∨ (c ≠ 8 ∧ c ≠ 9)) : goV i w (tx j c) = w (tx j c) := by
  unfold goV
  split
  · split
    · simp only [upd_ap, tx_tx j i c _ hc (show 8 < 26 by decide), tx_tx j i c _ hc (show 9 < 26 by decide)]
      have h8 : ¬ (j = i ∧ c = 8) := by omega
      have h9 : ¬ (j = i ∧ c = 9) := by omega
      simp [h8, h9]
    · rfl
  · rfl
theorem fm_go (i : Nat) (w : Vec) : fm (goV i w) = fm w := by unfold fm; rw [go_k i w (by decide)]
