/-! place 3 (the least wait for a kick) stands aside -/
theorem r3 (w : Vec) (x : Int32) {k : Nat} (h : k ≠ 3) : upd w 3 x k = w k := by simp only [upd_ap, if_neg h]
theorem c3 (w : Vec) (x y : Int32) {k : Nat} (h : k ≠ 3) : upd (upd w 3 x) k y = upd (upd w k y) 3 x := by
  funext j
  simp only [upd_ap]
  by_cases h1 : j = k
  · subst h1; rw [if_pos rfl, if_neg h, if_pos rfl]
  · rw [if_neg h1, if_neg h1]
theorem tx3 (i c : Nat) : tx i c ≠ 3 := by simp only [tx]; omega
theorem rx3 (i c : Nat) : rx i c ≠ 3 := by simp only [rx]; omega
theorem r3_t (w : Vec) (x : Int32) (i c : Nat) : upd w 3 x (tx i c) = w (tx i c) := r3 w x (tx3 i c)
theorem c3_t (w : Vec) (x y : Int32) (i c : Nat) : upd (upd w 3 x) (tx i c) y = upd (upd w (tx i c) y) 3 x := c3 w x y (tx3 i c)
theorem c3_r (w : Vec) (x y : Int32) (i c : Nat) : upd (upd w 3 x) (rx i c) y = upd (upd w (rx i c) y) 3 x := c3 w x y (rx3 i c)
theorem r3_0 (w : Vec) (x : Int32) : upd w 3 x 0 = w 0 := r3 w x (by decide)
theorem c3_0 (w : Vec) (x y : Int32) : upd (upd w 3 x) 0 y = upd (upd w 0 y) 3 x := c3 w x y (by decide)
theorem r3_1 (w : Vec) (x : Int32) : upd w 3 x 1 = w 1 := r3 w x (by decide)
theorem c3_1 (w : Vec) (x y : Int32) : upd (upd w 3 x) 1 y = upd (upd w 1 y) 3 x := c3 w x y (by decide)
theorem r3_2 (w : Vec) (x : Int32) : upd w 3 x 2 = w 2 := r3 w x (by decide)
theorem c3_2 (w : Vec) (x y : Int32) : upd (upd w 3 x) 2 y = upd (upd w 2 y) 3 x := c3 w x y (by decide)
theorem r3_4 (w : Vec) (x : Int32) : upd w 3 x 4 = w 4 := r3 w x (by decide)
theorem c3_4 (w : Vec) (x y : Int32) : upd (upd w 3 x) 4 y = upd (upd w 4 y) 3 x := c3 w x y (by decide)
theorem r3_5 (w : Vec) (x : Int32) : upd w 3 x 5 = w 5 := r3 w x (by decide)
theorem c3_5 (w : Vec) (x y : Int32) : upd (upd w 3 x) 5 y = upd (upd w 5 y) 3 x := c3 w x y (by decide)
theorem r3_6 (w : Vec) (x : Int32) : upd w 3 x 6 = w 6 := r3 w x (by decide)
theorem c3_6 (w : Vec) (x y : Int32) : upd (upd w 3 x) 6 y = upd (upd w 6 y) 3 x := c3 w x y (by decide)
theorem r3_7 (w : Vec) (x : Int32) : upd w 3 x 7 = w 7 := r3 w x (by decide)
theorem c3_7 (w : Vec) (x y : Int32) : upd (upd w 3 x) 7 y = upd (upd w 7 y) 3 x := c3 w x y (by decide)
theorem r3_8 (w : Vec) (x : Int32) : upd w 3 x 8 = w 8 := r3 w x (by decide)
theorem c3_8 (w : Vec) (x y : Int32) : upd (upd w 3 x) 8 y = upd (upd w 8 y) 3 x := c3 w x y (by decide)
theorem r3_9 (w : Vec) (x : Int32) : upd w 3 x 9 = w 9 := r3 w x (by decide)
theorem c3_9 (w : Vec) (x y : Int32) : upd (upd w 3 x) 9 y = upd (upd w 9 y) 3 x := c3 w x y (by decide)
theorem r3_10 (w : Vec) (x : Int32) : upd w 3 x 10 = w 10 := r3 w x (by decide)
theorem c3_10 (w : Vec) (x y : Int32) : upd (upd w 3 x) 10 y = upd (upd w 10 y) 3 x := c3 w x y (by decide)
theorem r3_11 (w : Vec) (x : Int32) : upd w 3 x 11 = w 11 := r3 w x (by decide)
theorem c3_11 (w : Vec) (x y : Int32) : upd (upd w 3 x) 11 y = upd (upd w 11 y) 3 x := c3 w x y (by decide)
theorem r3_12 (w : Vec) (x : Int32) : upd w 3 x 12 = w 12 := r3 w x (by decide)
theorem c3_12 (w : Vec) (x y : Int32) : upd (upd w 3 x) 12 y = upd (upd w 12 y) 3 x := c3 w x y (by decide)
theorem r3_13 (w : Vec) (x : Int32) : upd w 3 x 13 = w 13 := r3 w x (by decide)
theorem c3_13 (w : Vec) (x y : Int32) : upd (upd w 3 x) 13 y = upd (upd w 13 y) 3 x := c3 w x y (by decide)
theorem r3_14 (w : Vec) (x : Int32) : upd w 3 x 14 = w 14 := r3 w x (by decide)
theorem c3_14 (w : Vec) (x y : Int32) : upd (upd w 3 x) 14 y = upd (upd w 14 y) 3 x := c3 w x y (by decide)
theorem r3_15 (w : Vec) (x : Int32) : upd w 3 x 15 = w 15 := r3 w x (by decide)
theorem c3_15 (w : Vec) (x y : Int32) : upd (upd w 3 x) 15 y = upd (upd w 15 y) 3 x := c3 w x y (by decide)
theorem r3_16 (w : Vec) (x : Int32) : upd w 3 x 16 = w 16 := r3 w x (by decide)
theorem c3_16 (w : Vec) (x y : Int32) : upd (upd w 3 x) 16 y = upd (upd w 16 y) 3 x := c3 w x y (by decide)
theorem r3_17 (w : Vec) (x : Int32) : upd w 3 x 17 = w 17 := r3 w x (by decide)
theorem c3_17 (w : Vec) (x y : Int32) : upd (upd w 3 x) 17 y = upd (upd w 17 y) 3 x := c3 w x y (by decide)
theorem r3_18 (w : Vec) (x : Int32) : upd w 3 x 18 = w 18 := r3 w x (by decide)
theorem c3_18 (w : Vec) (x y : Int32) : upd (upd w 3 x) 18 y = upd (upd w 18 y) 3 x := c3 w x y (by decide)
theorem go_3 (i : Nat) (w : Vec) (x : Int32) : goV i (upd w 3 x) = upd (goV i w) 3 x := by
  unfold goV; simp only [r3_t, c3_t, c3_r, r3_0, r3_1, r3_2, r3_4, r3_5, r3_6, r3_7, r3_8, r3_9, r3_10, r3_11, r3_12, r3_13, r3_14, r3_15, r3_16, r3_17, r3_18, c3_0, c3_1, c3_2, c3_4, c3_5, c3_6, c3_7, c3_8, c3_9, c3_10, c3_11, c3_12, c3_13, c3_14, c3_15, c3_16, c3_17, c3_18]; repeat' (first | rfl | split)
theorem fm_3 (w : Vec) (x : Int32) : fm (upd w 3 x) = fm w := by unfold fm; rw [r3_10]
theorem act_3 (i : Nat) (w : Vec) (x : Int32) : actV i (upd w 3 x) = actV i w := by unfold actV; simp only [fm_3, r3_t, c3_t, c3_r, r3_0, r3_1, r3_2, r3_4, r3_5, r3_6, r3_7, r3_8, r3_9, r3_10, r3_11, r3_12, r3_13, r3_14, r3_15, r3_16, r3_17, r3_18, c3_0, c3_1, c3_2, c3_4, c3_5, c3_6, c3_7, c3_8, c3_9, c3_10, c3_11, c3_12, c3_13, c3_14, c3_15, c3_16, c3_17, c3_18]
theorem bg_3 (i : Nat) (w : Vec) (a x : Int32) : bgV i (upd w 3 x) a = upd (bgV i w a) 3 x := by unfold bgV; simp only [fm_3, r3_t, c3_t, c3_r, r3_0, r3_1, r3_2, r3_4, r3_5, r3_6, r3_7, r3_8, r3_9, r3_10, r3_11, r3_12, r3_13, r3_14, r3_15, r3_16, r3_17, r3_18, c3_0, c3_1, c3_2, c3_4, c3_5, c3_6, c3_7, c3_8, c3_9, c3_10, c3_11, c3_12, c3_13, c3_14, c3_15, c3_16, c3_17, c3_18]
theorem late_3 (i : Nat) (w : Vec) (x : Int32) : lateV i (upd w 3 x) = upd (lateV i w) 3 x := by
  unfold lateV; simp only [r3_t, c3_t, c3_r, r3_0, r3_1, r3_2, r3_4, r3_5, r3_6, r3_7, r3_8, r3_9, r3_10, r3_11, r3_12, r3_13, r3_14, r3_15, r3_16, r3_17, r3_18, c3_0, c3_1, c3_2, c3_4, c3_5, c3_6, c3_7, c3_8, c3_9, c3_10, c3_11, c3_12, c3_13, c3_14, c3_15, c3_16, c3_17, c3_18]; repeat' (first | rfl | split)
theorem cr_3 (i : Nat) (w : Vec) (x : Int32) : cr i (upd w 3 x) = ((cr i w).1, upd (cr i w).2 3 x) := by
  unfold cr; simp only [go_3, act_3, bg_3, late_3, r3_t, c3_t, c3_r, r3_0, r3_1, r3_2, r3_4, r3_5, r3_6, r3_7, r3_8, r3_9, r3_10, r3_11, r3_12, r3_13, r3_14, r3_15, r3_16, r3_17, r3_18, c3_0, c3_1, c3_2, c3_4, c3_5, c3_6, c3_7, c3_8, c3_9, c3_10, c3_11, c3_12, c3_13, c3_14, c3_15, c3_16, c3_17, c3_18]; repeat' (first | rfl | split)
theorem clr_3 (i : Nat) (w : Vec) (x : Int32) : clr i (upd w 3 x) = upd (clr i w) 3 x := by unfold clr; simp only [r3_t, c3_t, c3_r, r3_0, r3_1, r3_2, r3_4, r3_5, r3_6, r3_7, r3_8, r3_9, r3_10, r3_11, r3_12, r3_13, r3_14, r3_15, r3_16, r3_17, r3_18, c3_0, c3_1, c3_2, c3_4, c3_5, c3_6, c3_7, c3_8, c3_9, c3_10, c3_11, c3_12, c3_13, c3_14, c3_15, c3_16, c3_17, c3_18]
theorem bad_3 (i : Nat) (w : Vec) (x : Int32) : badV i (upd w 3 x) = upd (badV i w) 3 x := by
  unfold badV; simp only [r3_t, c3_t, c3_r, r3_0, r3_1, r3_2, r3_4, r3_5, r3_6, r3_7, r3_8, r3_9, r3_10, r3_11, r3_12, r3_13, r3_14, r3_15, r3_16, r3_17, r3_18, c3_0, c3_1, c3_2, c3_4, c3_5, c3_6, c3_7, c3_8, c3_9, c3_10, c3_11, c3_12, c3_13, c3_14, c3_15, c3_16, c3_17, c3_18]
  by_cases h : w (tx i 17) = 0
  · rw [if_pos h, if_pos h]
  · rw [if_neg h, if_neg h]
theorem good_3 (i : Nat) (w : Vec) (x : Int32) : goodV i (upd w 3 x) = upd (goodV i w) 3 x := by unfold goodV; simp only [r3_t, c3_t, c3_r, r3_0, r3_1, r3_2, r3_4, r3_5, r3_6, r3_7, r3_8, r3_9, r3_10, r3_11, r3_12, r3_13, r3_14, r3_15, r3_16, r3_17, r3_18, c3_0, c3_1, c3_2, c3_4, c3_5, c3_6, c3_7, c3_8, c3_9, c3_10, c3_11, c3_12, c3_13, c3_14, c3_15, c3_16, c3_17, c3_18]
theorem end_3 (i : Nat) (w : Vec) (x : Int32) : endV i (upd w 3 x) = upd (endV i w) 3 x := by
  unfold endV; simp only [bad_3, good_3, clr_3, r3_t, c3_t, c3_r, r3_0, r3_1, r3_2, r3_4, r3_5, r3_6, r3_7, r3_8, r3_9, r3_10, r3_11, r3_12, r3_13, r3_14, r3_15, r3_16, r3_17, r3_18, c3_0, c3_1, c3_2, c3_4, c3_5, c3_6, c3_7, c3_8, c3_9, c3_10, c3_11, c3_12, c3_13, c3_14, c3_15, c3_16, c3_17, c3_18]; repeat' (first | rfl | split)
theorem jd_3 (i : Nat) (w : Vec) (x : Int32) : jdV i (upd w 3 x) = upd (jdV i w) 3 x := by
  unfold jdV; simp only [end_3, r3_t, c3_t, c3_r, r3_0, r3_1, r3_2, r3_4, r3_5, r3_6, r3_7, r3_8, r3_9, r3_10, r3_11, r3_12, r3_13, r3_14, r3_15, r3_16, r3_17, r3_18, c3_0, c3_1, c3_2, c3_4, c3_5, c3_6, c3_7, c3_8, c3_9, c3_10, c3_11, c3_12, c3_13, c3_14, c3_15, c3_16, c3_17, c3_18]; repeat' (first | rfl | split)
theorem lp_3 {g : Nat → Vec → Vec} {x : Int32} (hg : ∀ i w, g i (upd w 3 x) = upd (g i w) 3 x) : ∀ (d i : Nat) (w : Vec), lp g d i (upd w 3 x) = upd (lp g d i w) 3 x
  | 0, _, _ => rfl
  | d + 1, i, w => by rw [lp, lp, hg]; exact lp_3 hg d (i + 1) (g i w)
theorem fe_3 (w : Vec) (x : Int32) : ∀ (d i : Nat), fe (upd w 3 x) d i = fe w d i
  | 0, _ => rfl
  | d + 1, i => by rw [fe, fe, r3_t, fe_3 w x d (i + 1)]
theorem mk1_3 (cause t : Int32) (w : Vec) (c : Nat) (x : Int32) : mk1 cause t (upd w 3 x) c = upd (mk1 cause t w c) 3 x := by unfold mk1; simp only [r3_t, c3_t, c3_r, r3_0, r3_1, r3_2, r3_4, r3_5, r3_6, r3_7, r3_8, r3_9, r3_10, r3_11, r3_12, r3_13, r3_14, r3_15, r3_16, r3_17, r3_18, c3_0, c3_1, c3_2, c3_4, c3_5, c3_6, c3_7, c3_8, c3_9, c3_10, c3_11, c3_12, c3_13, c3_14, c3_15, c3_16, c3_17, c3_18]
theorem mk2_3 (t : Int32) (w : Vec) (x : Int32) : mk2 t (upd w 3 x) = upd (mk2 t w) 3 x := by
  unfold mk2; simp only [r3_t, c3_t, c3_r, r3_0, r3_1, r3_2, r3_4, r3_5, r3_6, r3_7, r3_8, r3_9, r3_10, r3_11, r3_12, r3_13, r3_14, r3_15, r3_16, r3_17, r3_18, c3_0, c3_1, c3_2, c3_4, c3_5, c3_6, c3_7, c3_8, c3_9, c3_10, c3_11, c3_12, c3_13, c3_14, c3_15, c3_16, c3_17, c3_18]; repeat' (first | rfl | split)
theorem mk3_3 (w : Vec) (x : Int32) : mk3 (upd w 3 x) = upd (mk3 w) 3 x := by
  unfold mk3; simp only [r3_t, c3_t, c3_r, r3_0, r3_1, r3_2, r3_4, r3_5, r3_6, r3_7, r3_8, r3_9, r3_10, r3_11, r3_12, r3_13, r3_14, r3_15, r3_16, r3_17, r3_18, c3_0, c3_1, c3_2, c3_4, c3_5, c3_6, c3_7, c3_8, c3_9, c3_10, c3_11, c3_12, c3_13, c3_14, c3_15, c3_16, c3_17, c3_18]; repeat' (first | rfl | split)
theorem mkV_3 (n : Nat) (cause t : Int32) (w : Vec) (x : Int32) : mkV n cause t (upd w 3 x) = upd (mkV n cause t w) 3 x := by
  unfold mkV; simp only [fe_3, mk1_3, mk2_3, mk3_3, r3_t, c3_t, c3_r, r3_0, r3_1, r3_2, r3_4, r3_5, r3_6, r3_7, r3_8, r3_9, r3_10, r3_11, r3_12, r3_13, r3_14, r3_15, r3_16, r3_17, r3_18, c3_0, c3_1, c3_2, c3_4, c3_5, c3_6, c3_7, c3_8, c3_9, c3_10, c3_11, c3_12, c3_13, c3_14, c3_15, c3_16, c3_17, c3_18]
theorem stb_3 (y : Int32) (w : Vec) (x : Int32) : stb y (upd w 3 x) = upd (stb y w) 3 x := by unfold stb; simp only [r3_t, c3_t, c3_r, r3_0, r3_1, r3_2, r3_4, r3_5, r3_6, r3_7, r3_8, r3_9, r3_10, r3_11, r3_12, r3_13, r3_14, r3_15, r3_16, r3_17, r3_18, c3_0, c3_1, c3_2, c3_4, c3_5, c3_6, c3_7, c3_8, c3_9, c3_10, c3_11, c3_12, c3_13, c3_14, c3_15, c3_16, c3_17, c3_18]
theorem dec_3 (n : Nat) (k : Int32) (w : Vec) (x : Int32) : dec n k (upd w 3 x) = ((dec n k w).1, upd (dec n k w).2 3 x) := by
  unfold dec; simp only [stb_3, mkV_3, r3_t, c3_t, c3_r, r3_0, r3_1, r3_2, r3_4, r3_5, r3_6, r3_7, r3_8, r3_9, r3_10, r3_11, r3_12, r3_13, r3_14, r3_15, r3_16, r3_17, r3_18, c3_0, c3_1, c3_2, c3_4, c3_5, c3_6, c3_7, c3_8, c3_9, c3_10, c3_11, c3_12, c3_13, c3_14, c3_15, c3_16, c3_17, c3_18]; repeat' (first | rfl | split)
theorem su_3 (n : Nat) (w : Vec) (x : Int32) : suV n (upd w 3 x) = upd (suV n w) 3 x := by
  unfold suV spV; simp only [r3_t, c3_t, c3_r, r3_0, r3_1, r3_2, r3_4, r3_5, r3_6, r3_7, r3_8, r3_9, r3_10, r3_11, r3_12, r3_13, r3_14, r3_15, r3_16, r3_17, r3_18, c3_0, c3_1, c3_2, c3_4, c3_5, c3_6, c3_7, c3_8, c3_9, c3_10, c3_11, c3_12, c3_13, c3_14, c3_15, c3_16, c3_17, c3_18]; rw [lp_3 (fun i w => jd_3 i w x)]; simp only [fe_3, r3_t, c3_t, c3_r, r3_0, r3_1, r3_2, r3_4, r3_5, r3_6, r3_7, r3_8, r3_9, r3_10, r3_11, r3_12, r3_13, r3_14, r3_15, r3_16, r3_17, r3_18, c3_0, c3_1, c3_2, c3_4, c3_5, c3_6, c3_7, c3_8, c3_9, c3_10, c3_11, c3_12, c3_13, c3_14, c3_15, c3_16, c3_17, c3_18]
theorem crL_3 (x : Int32) : ∀ (d i : Nat) (w : Vec), crL d i (upd w 3 x) = ((crL d i w).1, upd (crL d i w).2 3 x)
  | 0, _, _ => rfl
  | d + 1, i, w => by
    rw [crL, crL, cr_3]
    by_cases h : (cr i w).1 = 0
    · rw [if_pos h, if_pos h]; exact crL_3 x d (i + 1) (cr i w).2
    · rw [if_neg h, if_neg h]
theorem up2_3 (w : Vec) (x : Int32) : up2 (upd w 3 x) = upd (up2 w) 3 x := by unfold up2; simp only [r3_t, c3_t, c3_r, r3_0, r3_1, r3_2, r3_4, r3_5, r3_6, r3_7, r3_8, r3_9, r3_10, r3_11, r3_12, r3_13, r3_14, r3_15, r3_16, r3_17, r3_18, c3_0, c3_1, c3_2, c3_4, c3_5, c3_6, c3_7, c3_8, c3_9, c3_10, c3_11, c3_12, c3_13, c3_14, c3_15, c3_16, c3_17, c3_18]
theorem zr_3 (i : Nat) (x : Int32) : ∀ (d k : Nat) (w : Vec), zr i d k (upd w 3 x) = upd (zr i d k w) 3 x
  | 0, _, _ => rfl
  | d + 1, k, w => by rw [zr, zr, c3_t]; exact zr_3 i x d (k + 1) _
theorem bgn_3 (n : Nat) (w : Vec) (x : Int32) : bgnV n (upd w 3 x) = upd (bgnV n w) 3 x := by
  unfold bgnV; simp only [r3_t, c3_t, c3_r, r3_0, r3_1, r3_2, r3_4, r3_5, r3_6, r3_7, r3_8, r3_9, r3_10, r3_11, r3_12, r3_13, r3_14, r3_15, r3_16, r3_17, r3_18, c3_0, c3_1, c3_2, c3_4, c3_5, c3_6, c3_7, c3_8, c3_9, c3_10, c3_11, c3_12, c3_13, c3_14, c3_15, c3_16, c3_17, c3_18]; exact lp_3 (fun i w => zr_3 i x 8 8 w) n 0 _
theorem inc_3 (w : Vec) (x : Int32) : inc (upd w 3 x) = upd (inc w) 3 x := by unfold inc; simp only [r3_t, c3_t, c3_r, r3_0, r3_1, r3_2, r3_4, r3_5, r3_6, r3_7, r3_8, r3_9, r3_10, r3_11, r3_12, r3_13, r3_14, r3_15, r3_16, r3_17, r3_18, c3_0, c3_1, c3_2, c3_4, c3_5, c3_6, c3_7, c3_8, c3_9, c3_10, c3_11, c3_12, c3_13, c3_14, c3_15, c3_16, c3_17, c3_18]
theorem sw_3 (w : Vec) (x : Int32) : swV (upd w 3 x) = upd (swV w) 3 x := by unfold swV; simp only [r3_t, c3_t, c3_r, r3_0, r3_1, r3_2, r3_4, r3_5, r3_6, r3_7, r3_8, r3_9, r3_10, r3_11, r3_12, r3_13, r3_14, r3_15, r3_16, r3_17, r3_18, c3_0, c3_1, c3_2, c3_4, c3_5, c3_6, c3_7, c3_8, c3_9, c3_10, c3_11, c3_12, c3_13, c3_14, c3_15, c3_16, c3_17, c3_18]
theorem u3_u3 (w : Vec) (x y : Int32) : upd (upd w 3 x) 3 y = upd w 3 y := by
  funext j; simp only [upd_ap]; by_cases h : j = 3 <;> simp [h]
theorem u3_self (w : Vec) : upd w 3 (w 3) = w := by
  funext j; simp only [upd_ap]; by_cases h : j = 3
  · subst h; rw [if_pos rfl]
  · rw [if_neg h]
/-- two waits that no multiple of the period tells apart -/
def SC (p k k' : Nat) : Prop := ∀ j, p * j < k ↔ p * j < k'
def SS (p : Nat) (w : Vec) : Prop := w 9 = 1 → ∃ u e, u < 2 ^ 30 ∧ e ≤ u ∧ w 13 = nI u ∧ w 14 = nI e ∧ e % p = u % p
theorem suR_3 {p k k' u e : Nat} {v : Vec} (h14 : v 14 = nI e) (he : e < 2 ^ 30) (hu : e % p = u % p) (h0 : u % p = 0) (h3 : v 3 = nI k) (hk : k < 2 ^ 30) (hk' : k' < 2 ^ 30) (hS : SC p k k') : suR (upd v 3 (nI k')) = suR v := by
  have e3 : upd v 3 (nI k') 3 = nI k' := by simp [upd_ap]
  unfold suR
  rw [r3_4, r3_16, r3_14, e3, h3, h14]
  have q : e = p * (e / p) := by
    have := Nat.div_add_mod e p
    omega
  have g : nI e < nI k ↔ nI e < nI k' := by
    rw [nI_ltI (by omega) (by omega), nI_ltI (by omega) (by omega), q]
    exact hS (e / p)
  by_cases h : nI e < nI k
  · rw [if_pos h, if_pos (g.mp h)]
  · rw [if_neg h, if_neg (fun z => h (g.mpr z))]
theorem su_k {n k : Nat} (hn : n ≤ 6) (v : Vec) (hk : k < 15) : suV n v k = v k := by
  have a : ¬ k = 16 := by omega
  have b : ¬ k = 15 := by omega
  simp only [suV, spV, upd_ap, a, if_false]
  rw [(lp_keeps jd_keeps n 0 _ (by omega)).1.1 k (by omega)]; simp only [upd_ap, b, if_false]
theorem dec_S {n t c p u e : Nat} (k : Int32) {v : Vec} (hB : VB n t c v) (h13 : v 13 = nI u) (hu : u < 2 ^ 30) (h14 : v 14 = nI e) (he : e ≤ u) (hp : e % p = u % p) (h0 : ¬ k = 0 → u % p = 0) : (dec n k v).2 2 = v 2 ∧ SS p (dec n k v).2 := by
  have g : ∀ cause, ¬ cause = (3 : Int32) → mkV n cause (-6) v 2 = v 2 ∧ SS p (mkV n cause (-6) v) := fun cause hc => by
    rw [mkV_ne3 cause (-6) v hc hB.1.1.2.2.1 hB.1.1.2.2.2.1]
    obtain ⟨k1, -, -, -, k5, -, -⟩ := mk_keep (c := c) cause (fe v n 0) v hB.1.1.1 (fe_n v)
    refine ⟨k1 2 (by decide), fun z => ?_⟩
    rcases k5 with ⟨q, -⟩ | q <;> rw [q] at z <;> exact absurd z (by decide)
  unfold dec
  by_cases hk : k = 0
  · rw [if_pos hk]
    by_cases h1 : v 14 ≤ v 1
    · rw [if_pos h1]
      exact ⟨by simp [stb, upd_ap], fun _ => ⟨u, e, hu, he, by simp [stb, upd_ap, h13], by simp [stb, upd_ap, h14], hp⟩⟩
    · rw [if_neg h1]; exact g 2 (by decide)
  · rw [if_neg hk]
    by_cases h1 : v 14 < v 0
    · rw [if_pos h1]; exact g 1 (by decide)
    · rw [if_neg h1]
      exact ⟨by simp [stb, upd_ap], fun _ => ⟨u, 0, hu, by omega, by simp [stb, upd_ap, h13], by simp [stb, upd_ap]; rfl, by rw [h0 hk]; exact Nat.zero_mod p⟩⟩
theorem rn_3 {n t c p k k' : Nat} {w : Vec} (h : VW n t c w) (h9 : w 9 = 1) (ht : t + 1 < 2 ^ 30) (hp : w 2 = nI p) (hp1 : 1 ≤ p) (hp2 : p ≤ 100) (h3 : w 3 = nI k) (hk : k < 2 ^ 30) (hk' : k' < 2 ^ 30) (hS : SC p k k') (hSS : SS p w) : rn n (upd w 3 (nI k')) = ((rn n w).1, upd (rn n w).2 3 (nI k')) ∧ (rn n w).2 2 = w 2 ∧ SS p (rn n w).2 := by
  obtain ⟨g1, g2, g3, g4, g5, g6, g7, g8⟩ := h
  obtain ⟨hc, hF, u0, hu0, h130⟩ := g5 h9
  obtain ⟨u, e, hu, he, h13, h14, hue⟩ := hSS h9
  have : u = u0 := (nI_eq (by omega) (by omega)).mp (h13.symm.trans h130)
  have hut : u ≤ t := by omega
  have hn := g1.1.1
  have B1 : VB n t c (up2 w) := ((show VB n t c w from ⟨g1, g2, g7, g8⟩).u (k := 13) (by decide) (by decide) (by decide) (by decide) (by decide) (by decide) (by decide) _).u (k := 14) (by decide) (by decide) (by decide) (by decide) (by decide) (by decide) (by decide) _
  have F1 : VFn n (up2 w) := fun i hi => (hF i hi).mv (by simp [up2, upd_ap, tx_k]) (by simp [up2, upd_ap, tx_k])
  have u13 : up2 w 13 = nI (u + 1) := by simp [up2, upd_ap, h13, nI_1]
  have u14 : up2 w 14 = nI (e + 1) := by simp [up2, upd_ap, h14, nI_1]
  have u2 : up2 w 2 = w 2 := by simp [up2, upd_ap]
  have u3 : up2 w 3 = w 3 := by simp [up2, upd_ap]
  obtain ⟨k1, k2, k3⟩ := crL_keep n 0 (up2 w) (by omega) hn
  have B2 : VB n t c (crL n 0 (up2 w)).2 := B1.A k1 (fun c hc => by show ¬ (8 ≤ c ∧ c < 15 ∧ c ≠ 13); omega) k2
  have F2 : VFn n (crL n 0 (up2 w)).2 := F1.A k1 (by decide) (by decide)
  have v13 : (crL n 0 (up2 w)).2 13 = nI (u + 1) := (k1.1 13 (by decide)).trans u13
  have v14 : (crL n 0 (up2 w)).2 14 = nI (e + 1) := (k1.1 14 (by decide)).trans u14
  have v2 : (crL n 0 (up2 w)).2 2 = w 2 := (k1.1 2 (by decide)).trans u2
  have v3 : (crL n 0 (up2 w)).2 3 = nI k := ((k1.1 3 (by decide)).trans u3).trans h3
  have hue1 : (e + 1) % p = (u + 1) % p := by rw [Nat.add_mod, hue, ← Nat.add_mod]
  unfold rn
  rw [up2_3, crL_3]
  unfold rn2
  rcases hj : (crL n 0 (up2 w)).1 with _ | j
  · have em : nI (u + 1) - nI (u + 1) / nI p * nI p = nI ((u + 1) % p) := pk_rem (by omega) (by omega) (by omega)
    have e0 : nI ((u + 1) % p) = 0 ↔ (u + 1) % p = 0 := by
      rw [show (0 : Int32) = nI 0 from rfl, nI_eq (by have := Nat.mod_lt (u + 1) (show p > 0 by omega); omega) (by decide)]
    show aft n (upd (crL n 0 (up2 w)).2 3 (nI k')) = ((aft n (crL n 0 (up2 w)).2).1, upd (aft n (crL n 0 (up2 w)).2).2 3 (nI k')) ∧ (aft n (crL n 0 (up2 w)).2).2 2 = w 2 ∧ SS p (aft n (crL n 0 (up2 w)).2).2
    unfold aft
    rw [r3_13, r3_2, v13, v2, hp, em]
    by_cases hz : (u + 1) % p = 0
    · rw [if_pos (e0.mpr hz), if_pos (e0.mpr hz), su_3]
      have s13 := (su_k (k := 13) hn (crL n 0 (up2 w)).2 (by decide)).trans v13
      have s14 := (su_k (k := 14) hn (crL n 0 (up2 w)).2 (by decide)).trans v14
      have s3 := (su_k (k := 3) hn (crL n 0 (up2 w)).2 (by decide)).trans v3
      have s2 := (su_k (k := 2) hn (crL n 0 (up2 w)).2 (by decide)).trans v2
      rw [suR_3 s14 (by omega) hue1 hz s3 hk hk' hS, dec_3]
      obtain ⟨d1, d2⟩ := dec_S (suR (suV n (crL n 0 (up2 w)).2)) (su_VF B2 F2).1 s13 (by omega) s14 (by omega) hue1 (fun _ => hz)
      exact ⟨rfl, by rw [d1, s2, hp], d2⟩
    · rw [if_neg (fun z => hz (e0.mp z)), if_neg (fun z => hz (e0.mp z)), dec_3]
      obtain ⟨d1, d2⟩ := dec_S 0 B2 v13 (by omega) v14 (by omega) hue1 (fun z => absurd rfl z)
      exact ⟨rfl, by rw [d1, v2, hp], d2⟩
  · show (1, mkV n 3 (nI j) (upd (crL n 0 (up2 w)).2 3 (nI k'))) = ((1 : Int32), upd (mkV n 3 (nI j) (crL n 0 (up2 w)).2) 3 (nI k')) ∧ mkV n 3 (nI j) (crL n 0 (up2 w)).2 2 = w 2 ∧ SS p (mkV n 3 (nI j) (crL n 0 (up2 w)).2)
    rw [mkV_3]
    have em : mkV n 3 (nI j) (crL n 0 (up2 w)).2 = mk3 (mk2 (nI j) (mk1 3 (nI j) (crL n 0 (up2 w)).2 (c % 16))) := by
      simp only [mkV, if_true, B2.1.1.2.2.1, nI_clamp B2.1.1.2.2.2.1]
    rw [em]
    obtain ⟨m1, -, -, -, m5, -, -⟩ := mk_keep (c := c) 3 (nI j) (crL n 0 (up2 w)).2 hn (Or.inr ⟨j, k3 j hj, rfl⟩)
    refine ⟨rfl, by rw [m1 2 (by decide), v2], fun z => ?_⟩
    rcases m5 with ⟨q, -⟩ | q <;> rw [q] at z <;> exact absurd z (by decide)
theorem tk_3' {n t c p k k' : Nat} {w : Vec} (h : VW n t c w) (ht : t + 1 < 2 ^ 30) (hp : w 2 = nI p) (hp1 : 1 ≤ p) (hp2 : p ≤ 100) (h3 : w 3 = nI k) (hk : k < 2 ^ 30) (hk' : k' < 2 ^ 30) (hS : SC p k k') (hSS : SS p w) : tk n (upd w 3 (nI k')) = ((tk n w).1, upd (tk n w).2 3 (nI k')) ∧ (tk n w).2 2 = w 2 ∧ SS p (tk n w).2 := by
  have hn := h.1.1.1
  have i2 : ∀ v : Vec, inc v 2 = v 2 := fun v => by simp [inc, upd_ap]
  have iS : ∀ v : Vec, SS p v → SS p (inc v) := fun v hv z => by
    have e : ∀ k, k ≠ 8 → inc v k = v k := fun k hk => by simp [inc, upd_ap, hk]
    rw [e 9 (by decide)] at z
    rw [e 13 (by decide), e 14 (by decide)]
    exact hv z
  unfold tk
  rw [r3_9, r3_12]
  by_cases h0 : w 9 = 0
  · rw [if_pos h0, if_pos h0]
    by_cases h1 : w 12 - 1 = 0
    · rw [if_pos h1, if_pos h1, c3_12, bgn_3, inc_3]
      have kk := fun k hk => (lp_keeps zrT_keeps n 0 (upd (upd (upd (upd (upd (upd w 12 (w 12 - 1)) 9 1) 13 0) 14 0) 15 0) 16 0) (by omega)).1.1 k hk
      refine ⟨rfl, ?_, iS _ (fun _ => ⟨0, 0, by decide, by decide, ?_, ?_, rfl⟩)⟩
      · show inc (bgnV n (upd w 12 (w 12 - 1))) 2 = w 2; rw [i2]; unfold bgnV; rw [kk 2 (by decide)]; simp [upd_ap]
      · unfold bgnV; rw [kk 13 (by decide)]; simp [upd_ap]; rfl
      · unfold bgnV; rw [kk 14 (by decide)]; simp [upd_ap]; rfl
    · rw [if_neg h1, if_neg h1, c3_12, inc_3]
      refine ⟨rfl, (by show inc (upd w 12 (w 12 - 1)) 2 = w 2; rw [i2]; simp [upd_ap]), iS _ (fun z => ?_)⟩
      simp [upd_ap, h0] at z
  · rw [if_neg h0, if_neg h0]
    by_cases h1 : w 9 = 1
    · rw [if_pos h1, if_pos h1]
      obtain ⟨x1, x2, x3⟩ := rn_3 h h1 ht hp hp1 hp2 h3 hk hk' hS hSS
      rw [x1]
      exact ⟨by rw [inc_3], (i2 _).trans x2, iS _ x3⟩
    · rw [if_neg h1, if_neg h1, inc_3]
      exact ⟨rfl, i2 w, iS _ hSS⟩
theorem SC.rf (p k : Nat) : SC p k k := fun _ => Iff.rfl
theorem tk_3 {n t c p k k' : Nat} {w : Vec} (h : VW n t c w) (ht : t + 1 < 2 ^ 30) (hp : w 2 = nI p) (hp1 : 1 ≤ p) (hp2 : p ≤ 100) (h3 : w 3 = nI k) (hk : k < 2 ^ 30) (hk' : k' < 2 ^ 30) (hS : SC p k k') (hSS : SS p w) : tk n (upd w 3 (nI k')) = ((tk n w).1, upd (tk n w).2 3 (nI k')) ∧ (tk n w).2 2 = nI p ∧ (tk n w).2 3 = nI k ∧ SS p (tk n w).2 := by
  obtain ⟨x1, x2, x3⟩ := tk_3' h ht hp hp1 hp2 h3 hk hk' hS hSS
  obtain ⟨y1, -, -⟩ := tk_3' h ht hp hp1 hp2 h3 hk hk (SC.rf p k) hSS
  rw [← h3, u3_self] at y1
  refine ⟨x1, x2.trans hp, ?_, x3⟩
  have := congrArg (fun q => q.2 3) y1
  simp only [upd_ap, if_true] at this
  rw [this, h3]
theorem trL_3 {n p k k' : Nat} (hp1 : 1 ≤ p) (hp2 : p ≤ 100) (hk : k < 2 ^ 30) (hk' : k' < 2 ^ 30) (hS : SC p k k') : ∀ (d j t c : Nat) (w : Vec), VW n t c w → t + d < 2 ^ 29 → w 2 = nI p → w 3 = nI k → SS p w → (trL n d j (upd w 3 (nI k'))).1 = (trL n d j w).1
  | 0, _, _, _, _, _, _, _, _, _ => rfl
  | d + 1, j, t, c, w, h, ht, hp, h3, hSS => by
    obtain ⟨x1, x2, x3, x4⟩ := tk_3 h (by omega) hp hp1 hp2 h3 hk hk' hS hSS
    rw [trL, trL, x1]
    by_cases h0 : (tk n w).1 = 0
    · rw [if_pos h0, if_pos h0]
      obtain ⟨c', hV⟩ := tk_VW h (by omega)
      exact trL_3 hp1 hp2 hk hk' hS d (j + 1) (t + 1) c' (tk n w).2 hV (by omega) x2 x3 x4
    · rw [if_neg h0, if_neg h0]
