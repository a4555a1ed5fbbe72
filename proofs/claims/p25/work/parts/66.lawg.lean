/-! THE LAW's tick against the row's -/
theorem LQ.cg {n c : Nat} {σ : Sg} {w w' : Vec} (h : LQ n c σ w) (e : ∀ k, k ≠ 8 → w' k = w k) : LQ n c σ w' := by
  have et : ∀ i d, w' (tx i d) = w (tx i d) := fun i d => e _ (by simp only [tx]; omega)
  obtain ⟨h0, h1, h2, h3, h4⟩ := h
  refine ⟨?_, fun q => ?_, fun q => ?_, fun hc j hj => ?_, fun i hi => ?_⟩
  · rw [e 9 (by decide), e 10 (by decide), e 11 (by decide), e 12 (by decide), e 18 (by decide)]; exact h0
  · rw [e 9 (by decide)] at q
    obtain ⟨x1, x2, x3⟩ := h1 q
    rw [e 13 (by decide), e 14 (by decide), e 15 (by decide), e 16 (by decide)]
    refine ⟨x1, fun i hi => ?_, x3⟩
    simp only [LT, WB, et]; exact x2 i hi
  · rw [e 9 (by decide)] at q; exact h2 q
  · rw [e _ (by simp only [rx]; omega)]; exact h3 hc j hj
  · simp only [LPi, LF, WD, et]; exact h4 i hi
theorem LQ.ic {n c : Nat} {σ : Sg} {w : Vec} (h : LQ n c σ w) : LQ n c σ (inc w) := h.cg (fun k hk => by rw [inc, upd_ap, if_neg hk])
theorem LWr.toQ {n c : Nat} {σ : Sg} {w w0 : Vec} (h : LWr n c w0 σ w) (h9 : w 9 = 1) : LQ n c σ w := by
  obtain ⟨hB, k2, k3, ⟨k4a, k4b, k4c⟩, k5, k6, k7, k8, k9, k10a, k10b⟩ := h
  exact ⟨⟨by rw [h9]; exact k10a, k4a, k4b, k4c, by rw [h9, if_neg (by decide)]; exact k10b⟩, fun _ => ⟨k5, fun i hi => ⟨(k7 i hi).1, (k7 i hi).2.1⟩, k8⟩, fun q => absurd h9 q, k6, fun i hi => (k7 i hi).2.2⟩
theorem LQ.toW {n c : Nat} {σ : Sg} {w : Vec} (h : LQ n c σ w) (hB : BS 1 n σ w) (h9 : w 9 = 1) : LWr n c w σ w := by
  obtain ⟨⟨h0a, h0b, h0c, h0d, h0e⟩, h1, h2, h3, h4⟩ := h
  obtain ⟨x1, x2, x3⟩ := h1 h9
  exact ⟨hB, fun _ _ => rfl, fun _ _ _ _ => rfl, ⟨h0b, h0c, h0d⟩, x1, h3, fun i hi => ⟨(x2 i hi).1, (x2 i hi).2, h4 i hi⟩, x3, ⟨rfl, rfl, rfl⟩, by rw [h0a]; exact h9, by rw [h0e, h9, if_neg (by decide)]⟩
/-- the end of a tick in which the watchdog doesn't reset the board -/
theorem l_stb {n t c : Nat} {σ : Sg} {w w0 : Vec} (h : LWr n c w0 σ w) (hV : VW n t c w0) (hn : n ≤ 3) (h9 : w 9 = 1) (x a4 a5 : Int32) : ∃ σ', f_L_tick_197 a4 a5 x 5 σ = some (0, σ') ∧ LQ n c σ' (stb x w) ∧ FL σ σ' := by
  have hN := h.num hn (Or.inr (Or.inl ⟨rfl, rfl⟩)) x
  have hM := hN.num hn (Or.inr (Or.inr (Or.inr (Or.inr ⟨rfl, rfl⟩)))) (if w 13 = w 6 then 0 else w 11)
  obtain ⟨hB1, k2, -, ⟨-, k4b, -⟩, ⟨m4, -⟩, -⟩ := id hN
  have c5 : ((5 : Int32)).toNatClampNeg = 5 := by decide
  have g5 : ¬ ((5 : Int32) < 0 ∨ 14 ≤ 5) := by decide
  have c2 : ((2 : Int32)).toNatClampNeg = 2 := by decide
  have g2 : ¬ ((2 : Int32) < 0 ∨ 14 ≤ 2) := by decide
  have e13 : upd w 14 x 13 = w 13 := by rw [upd_ap, if_neg (by decide)]
  have e11 : upd w 14 x 11 = w 11 := by rw [upd_ap, if_neg (by decide)]
  have e6 : w0 6 = w 6 := (h.2.1 6 (by decide)).symm
  refine ⟨st (st σ 150 5 x) 150 2 (if w 13 = w 6 then 0 else w 11), ?_, hM.toQ (by rw [upd_ap, if_neg (by decide), upd_ap, if_neg (by decide)]; exact h9), ((FL.rf σ).st0 _ _).st0 _ _⟩
  rw [f_L_tick_197, c5, if_neg g5, wb_eq, sv_19 hB1 hV, cb_some, m4, e13, e6, k4b, e11]
  by_cases q : w 13 = w 6
  · rw [if_pos q, f_L_tick_219, c2, if_neg g2, wb_eq, f_L_tick_220, if_pos q]
  · rw [if_neg q, f_L_tick_219, c2, if_neg g2, wb_eq, f_L_tick_220, if_neg q]
def cN (c : Nat) (r : Int32) : Nat := if r = 0 then c else c + 1
theorem l_dec {n t c : Nat} {σ : Sg} {w w0 : Vec} (h : LWr n c w0 σ w) (hV : VW n t c w0) (hn : n ≤ 3) (ht : t + 2 < 2 ^ 30) (h9 : w 9 = 1) (k a4 a5 : Int32) : ∃ σ', f_L_tick_119 a4 a5 (nI t) k σ = some (0, σ') ∧ LQ n (cN c (dec n k w).1) σ' (dec n k w).2 ∧ FL σ σ' := by
  obtain ⟨hB, k2, k3, k4, ⟨k5a, k5b, k5c, k5d⟩, k6, k7, k8, k9, k10⟩ := id h
  have e0 : w0 0 = w 0 := (k2 0 (by decide)).symm
  have e1 : w0 1 = w 1 := (k2 1 (by decide)).symm
  have n10 : ¬ (1 : Int32) = 0 := by decide
  have rst : ∀ cause : Int32, ¬ cause = 3 → ∃ σ', (cb (f_L_reset_0 cause (-6) (nI t) σ) fun _ s => f_L_tick_220 a4 a5 s) = some (0, σ') ∧ LQ n (c + 1) σ' (mkV n cause (-6) w) ∧ FL σ σ' := by
    intro cause hc
    obtain ⟨σ', z1, z2, z3⟩ := l_reset h hV hn ht cause (-6) (Or.inr ⟨hc, rfl⟩)
    exact ⟨σ', by rw [z1, cb_some, f_L_tick_220], z2, z3⟩
  rw [f_L_tick_119]
  by_cases hk : k = 0
  · rw [if_pos hk, f_L_tick_152, if_pos hk, sv_14 hB hV, cb_some, k5b, e1]
    by_cases hl : w 14 ≤ w 1
    · rw [if_pos hl, f_L_tick_183, if_pos hk, k5b]
      have ed : dec n k w = (0, stb (w 14) w) := by rw [dec, if_pos hk, if_pos hl]
      rw [ed]
      obtain ⟨σ', z1, z2, z3⟩ := l_stb h hV hn h9 (w 14) a4 a5
      exact ⟨σ', z1, z2, z3⟩
    · rw [if_neg hl]
      have ed : dec n k w = (1, mkV n 2 (-6) w) := by rw [dec, if_pos hk, if_neg hl]
      rw [ed]
      exact rst 2 (by decide)
  · rw [if_neg hk, sv_13 hB hV, cb_some, k5b, e0]
    by_cases hl : w 14 < w 0
    · rw [if_neg (Int32.not_le.mpr hl)]
      have ed : dec n k w = (1, mkV n 1 (-6) w) := by rw [dec, if_neg hk, if_pos hl]
      rw [ed]
      exact rst 1 (by decide)
    · rw [if_pos (Int32.not_lt.mp hl), f_L_tick_152, if_neg hk, f_L_tick_183, if_neg hk]
      have ed : dec n k w = (0, stb 0 w) := by rw [dec, if_neg hk, if_neg hl]
      rw [ed]
      obtain ⟨σ', z1, z2, z3⟩ := l_stb h hV hn h9 0 a4 a5
      exact ⟨σ', z1, z2, z3⟩
theorem su_9 {n : Nat} (hn : n ≤ 6) (w : Vec) : suV n w 9 = w 9 := by
  unfold suV spV
  rw [upd_ap, if_neg (by decide), (lp_keeps jd_keeps n 0 _ (by omega)).1.1 9 (by decide), upd_ap, if_neg (by decide)]
theorem l_aft {n t c : Nat} {σ : Sg} {w w0 : Vec} (h : LWr n c w0 σ w) (hV : VW n t c w0) (hn : n ≤ 3) (ht : t + 2 < 2 ^ 30) (h9 : w 9 = 1) (f : Nat) (a4 a5 : Int32) : ∃ σ', f_L_tick_53 a4 a5 (f + 1) (nI n) (nI t) (nI n) σ = some (0, σ') ∧ LQ n (cN c (aft n w).1) σ' (aft n w).2 ∧ FL σ σ' := by
  obtain ⟨hB, k2, k3, k4, ⟨k5a, k5b, k5c, k5d⟩, k6, k7, k8, k9, k10⟩ := id h
  have e2 : w0 2 = w 2 := (k2 2 (by decide)).symm
  have h2 : ¬ w 2 = 0 := by rw [← e2]; exact hV.1.1.2.2.2.2.2.1
  rw [f_L_tick_53, if_pos (nI_le (Nat.le_refl _) (by omega)), sv_15 hB hV, cb_some, e2, if_neg h2, k5a, aft]
  by_cases hp : w 13 - w 13 / w 2 * w 2 = 0
  · rw [if_pos hp, if_pos hp]
    obtain ⟨σ1, z1, z2, z3⟩ := l_kicks h hV hn
    rw [z1, cb_some]
    have s9 : suV n w 9 = 1 := by rw [su_9 (by omega)]; exact h9
    by_cases hk : suR (suV n w) = 0
    · rw [if_pos hk, f_L_tick_118]
      obtain ⟨σ2, y1, y2, y3⟩ := l_dec z2 hV hn ht s9 0 a4 a5
      rw [hk]
      exact ⟨σ2, y1, y2, z3.tr y3⟩
    · have hk1 : suR (suV n w) = 1 := (suR_b _).ne.mp hk
      rw [if_neg hk]
      obtain ⟨σ2, y1, y2, y3⟩ := l_dec z2 hV hn ht s9 1 a4 a5
      rw [hk1]
      exact ⟨σ2, y1, y2, z3.tr y3⟩
  · rw [if_neg hp, if_neg hp, f_L_tick_118]
    exact l_dec h hV hn ht h9 0 a4 a5
theorem l_tloop {n t c : Nat} {w0 : Vec} (hV : VW n t c w0) (hn : n ≤ 3) (ht : t + 2 < 2 ^ 30) (a4 a5 : Int32) : ∀ (d i f : Nat) (σ : Sg) (w : Vec), i + d = n → d < f → LWr n c w0 σ w → w 9 = 1 → ∃ σ', f_L_tick_53 a4 a5 f (nI n) (nI t) (nI i) σ = some (0, σ') ∧ LQ n (cN c (rn2 n (crL d i w)).1) σ' (rn2 n (crL d i w)).2 ∧ FL σ σ'
  | 0, i, f, σ, w, hd, hf, h, h9 => by
    obtain ⟨rfl, f, rfl⟩ := loop0 hd hf
    rw [crL, rn2]
    exact l_aft h hV hn ht h9 f a4 a5
  | d + 1, i, f, σ, w, hd, hf, h, h9 => by
    obtain ⟨f, rfl⟩ : ∃ g, f = g + 1 := ⟨f - 1, by omega⟩
    have hi : i < n := by omega
    obtain ⟨hB, k2, k3, ⟨k4a, k4b, k4c⟩, ⟨k5a, k5b, k5c, k5d⟩, k6, k7, k8, ⟨k9a, k9b, k9c⟩, k10⟩ := id h
    obtain ⟨lt, wb, lp, lf, wd⟩ := k7 i hi
    obtain ⟨m, hm, h10⟩ : ∃ m, m < 2 ∧ w 10 = nI m := by
      rcases hV.1.1.2.2.2.2.1 with q | q
      · exact ⟨0, by decide, by rw [k9c]; exact q⟩
      · exact ⟨1, by decide, by rw [k9c]; exact q⟩
    obtain ⟨σ1, z1, z2, z3, z4⟩ := l_crash hB hV hi hn (fun d hd => k3 i d hi hd) lt wb wd lf k5a hm h10 k4a
    have kc := cr_keeps i w
    have lp1 : LPi i σ1 (cr i w).2 := by
      unfold LPi
      rw [z4.2 _ (fun c hc => by simp only [lx]; omega), z4.2 _ (fun c hc => by simp only [lx]; omega), kc.2.1 i 16 (by decide) (Or.inr (by decide)), kc.2.1 i 19 (by decide) (Or.inr (by decide))]
      exact lp
    have h1 := h.task hn hi z4.F2 kc (fun d hd => by have := hd.1; have := hd.2.1; omega) z2 z3 lp1
    have c9 : (cr i w).2 9 = 1 := by rw [kc.1 9 (by decide)]; exact h9
    rw [f_L_tick_53, if_neg (nI_ge hi (by omega)), z1, cb_some, crL]
    by_cases h0 : (cr i w).1 = 0
    · rw [if_pos h0, if_pos h0, nI_1]
      obtain ⟨σ2, y1, y2, y3⟩ := l_tloop hV hn ht a4 a5 d (i + 1) f σ1 _ (by omega) (by omega) h1 c9
      exact ⟨σ2, y1, y2, z4.F2.FL.tr y3⟩
    · rw [if_neg h0, if_neg h0, rn2]
      obtain ⟨σ2, y1, y2, y3⟩ := l_reset h1 hV hn ht 3 (nI i) (Or.inl ⟨rfl, i, hi, rfl⟩)
      rw [y1, cb_some]
      exact ⟨σ2, rfl, y2, z4.F2.FL.tr y3⟩
theorem lpz : ∀ (d i : Nat) (w : Vec) (j c : Nat), i ≤ j → j < i + d → i + d ≤ 6 → 8 ≤ c → c < 16 → lp zrT d i w (tx j c) = 0
  | 0, i, w, j, c, h1, h2, _, _, _ => absurd h2 (by omega)
  | d + 1, i, w, j, c, h1, h2, h3, h4, h5 => by
    rw [lp]
    by_cases hj : j = i
    · subst hj
      rw [(lp_keeps zrT_keeps d (j + 1) (zrT j w) (by omega)).2 j c (by omega) (by omega)]
      exact zrT_0 j w h4 h5
    · exact lpz d (i + 1) _ j c (by omega) (by omega) (by omega) h4 h5
theorem l_tick {n t c : Nat} {σ : Sg} {w : Vec} (hL : LQ n c σ w) (hB : BS 1 n σ w) (hV : VW n t c w) (hn : n ≤ 3) (ht : t + 2 < 2 ^ 30) : ∃ σ', f_L_tick_0 (nI n) (nI t) σ = some (0, σ') ∧ LQ n (cN c (tk n w).1) σ' (tk n w).2 ∧ FL σ σ' := by
  obtain ⟨⟨h0a, h0b, h0c, h0d, h0e⟩, h1, h2, h3, h4⟩ := id hL
  have c0 : ((0 : Int32)).toNatClampNeg = 0 := by decide
  have g0 : ¬ ((0 : Int32) < 0 ∨ 14 ≤ 0) := by decide
  rw [f_L_tick_0, h0a, tk]
  by_cases h9 : w 9 = 0
  · have h91 : ¬ w 9 = 1 := by rw [h9]; decide
    obtain ⟨y1, y2⟩ := h2 h91
    rw [h9, if_pos rfl] at h0e
    have e3 : st σ 150 3 (w 12 - 1) 150 3 = w 12 - 1 := by rw [st_r, if_pos ⟨rfl, rfl⟩]
    rw [if_pos h9, if_pos h9, wb_eq, h0e, e3]
    have f151 : ∀ v, st (st σ 150 3 (w 12 - 1)) 150 0 v 151 = σ 151 := fun v => by rw [st_o _ (by decide), st_o _ (by decide)]
    have f152 : ∀ v, st (st σ 150 3 (w 12 - 1)) 150 0 v 152 = σ 152 := fun v => by rw [st_o _ (by decide), st_o _ (by decide)]
    have fk : ∀ v k, k ≠ 0 → k ≠ 3 → st (st σ 150 3 (w 12 - 1)) 150 0 v 150 k = σ 150 k := fun v k q1 q2 => by rw [st_r, if_neg (by omega), st_r, if_neg (by omega)]
    by_cases h12 : w 12 - 1 = 0
    · rw [if_pos h12, if_pos h12, f_L_tick_26, c0, if_neg g0, wb_eq]
      refine ⟨_, rfl, LQ.ic ?_, ((FL.rf σ).st0 _ _).st0 _ _⟩
      have kl := (lp_keeps zrT_keeps n 0 (upd (upd (upd (upd (upd (upd w 12 (w 12 - 1)) 9 1) 13 0) 14 0) 15 0) 16 0) (by omega)).1
      have eb : ∀ k, k < 19 → k ≠ 12 → k ≠ 9 → k ≠ 13 → k ≠ 14 → k ≠ 15 → k ≠ 16 → bgnV n (upd w 12 (w 12 - 1)) k = w k := fun k q0 q1 q2 q3 q4 q5 q6 => by
        rw [bgnV, kl.1 k q0, upd_ap, if_neg q6, upd_ap, if_neg q5, upd_ap, if_neg q4, upd_ap, if_neg q3, upd_ap, if_neg q2, upd_ap, if_neg q1]
      have b9 : bgnV n (upd w 12 (w 12 - 1)) 9 = 1 := by rw [bgnV, kl.1 9 (by decide)]; simp [upd_ap]
      have b13 : bgnV n (upd w 12 (w 12 - 1)) 13 = 0 := by rw [bgnV, kl.1 13 (by decide)]; simp [upd_ap]
      have b14 : bgnV n (upd w 12 (w 12 - 1)) 14 = 0 := by rw [bgnV, kl.1 14 (by decide)]; simp [upd_ap]
      have b15 : bgnV n (upd w 12 (w 12 - 1)) 15 = 0 := by rw [bgnV, kl.1 15 (by decide)]; simp [upd_ap]
      have b16 : bgnV n (upd w 12 (w 12 - 1)) 16 = 0 := by rw [bgnV, kl.1 16 (by decide)]; simp [upd_ap]
      have ut : ∀ i d, upd (upd (upd (upd (upd (upd w 12 (w 12 - 1)) 9 1) 13 0) 14 0) 15 0) 16 0 (tx i d) = w (tx i d) := fun i d => by
        simp only [upd_ap, tx_k i d _ (show 9 < 19 by decide), tx_k i d _ (show 12 < 19 by decide), tx_k i d _ (show 13 < 19 by decide), tx_k i d _ (show 14 < 19 by decide), tx_k i d _ (show 15 < 19 by decide), tx_k i d _ (show 16 < 19 by decide), if_false]
      have bt : ∀ i d, d < 26 → (d < 8 ∨ 16 ≤ d) → bgnV n (upd w 12 (w 12 - 1)) (tx i d) = w (tx i d) := fun i d hd q => by
        rw [bgnV, kl.2.1 i d hd (by omega), ut]
      have bz : ∀ i d, i < n → 8 ≤ d → d < 16 → bgnV n (upd w 12 (w 12 - 1)) (tx i d) = 0 := fun i d hi q1 q2 => lpz n 0 _ i d (Nat.zero_le _) (by omega) (by omega) q1 q2
      have br : ∀ a b, a < 16 → b < 5 → bgnV n (upd w 12 (w 12 - 1)) (rx a b) = w (rx a b) := fun a b ha hb => by
        rw [bgnV, kl.2.2 a b ha hb]
        simp only [upd_ap, rx_k a b _ (show 9 < 175 by decide), rx_k a b _ (show 12 < 175 by decide), rx_k a b _ (show 13 < 175 by decide), rx_k a b _ (show 14 < 175 by decide), rx_k a b _ (show 15 < 175 by decide), rx_k a b _ (show 16 < 175 by decide), if_false]
      generalize bgnV n (upd w 12 (w 12 - 1)) = v at eb b9 b13 b14 b15 b16 bt bz br ⊢
      refine ⟨⟨?_, ?_, ?_, ?_, ?_⟩, fun _ => ⟨⟨?_, ?_, ?_, ?_⟩, fun i hi => ⟨?_, ?_⟩, fun i q1 q2 => ?_⟩, fun q => absurd b9 q, fun hc j hj => ?_, fun i hi => ⟨?_, fun m j hm hj => ?_, ?_⟩⟩
      · rw [b9]; simp [st_r]
      · rw [fk _ 1 (by decide) (by decide), eb 10 (by decide) (by decide) (by decide) (by decide) (by decide) (by decide) (by decide)]; exact h0b
      · rw [fk _ 2 (by decide) (by decide), eb 11 (by decide) (by decide) (by decide) (by decide) (by decide) (by decide) (by decide)]; exact h0c
      · rw [fk _ 8 (by decide) (by decide), eb 18 (by decide) (by decide) (by decide) (by decide) (by decide) (by decide) (by decide)]; exact h0d
      · rw [b9, if_neg (by decide)]; simp [st_r, h12]
      · rw [fk _ 4 (by decide) (by decide), b13]; exact y1 4 (by decide) (by decide)
      · rw [fk _ 5 (by decide) (by decide), b14]; exact y1 5 (by decide) (by decide)
      · rw [fk _ 6 (by decide) (by decide), b15]; exact y1 6 (by decide) (by decide)
      · rw [fk _ 7 (by decide) (by decide), b16]; exact y1 7 (by decide) (by decide)
      · unfold LT
        have yz := fun d hd => y2 i d (by omega) hd
        rw [f151, yz 0 (by decide), yz 1 (by decide), yz 2 (by decide), yz 3 (by decide), yz 4 (by decide), yz 5 (by decide), yz 6 (by decide), yz 7 (by decide), bz i 8 hi (by decide) (by decide), bz i 12 hi (by decide) (by decide), bz i 13 hi (by decide) (by decide), bz i 14 hi (by decide) (by decide), bz i 15 hi (by decide) (by decide)]
        exact ⟨rfl, rfl, rfl, rfl, rfl, fun q => absurd q (by decide), by rw [if_neg (by decide)]⟩
      · unfold WB
        rw [bz i 8 hi (by decide) (by decide), bz i 14 hi (by decide) (by decide), bz i 15 hi (by decide) (by decide)]
        exact ⟨Or.inl rfl, fun q => absurd q (by decide), Or.inl rfl, Or.inl rfl, fun q => absurd q (by decide)⟩
      · rw [f151]; exact y2 i 7 q2 (by decide)
      · rw [fk _ _ (by omega) (by omega), br _ j (Nat.mod_lt _ (by decide)) hj]; exact h3 hc j hj
      · unfold LPi
        rw [f151, bt i 16 (by decide) (by decide), bt i 19 (by decide) (by decide)]; exact (h4 i hi).1
      · rw [f152, bt i _ (by omega) (by omega)]; exact (h4 i hi).2.1 m j hm hj
      · unfold WD
        rw [bt i 1 (by decide) (by decide)]
        refine ⟨(h4 i hi).2.2.1, fun m hm => ?_⟩
        rw [bt i _ (by omega) (by omega)]; exact (h4 i hi).2.2.2 m hm
    · rw [if_neg h12, if_neg h12, f_L_tick_26, c0, if_neg g0, wb_eq]
      refine ⟨_, rfl, LQ.ic ?_, ((FL.rf σ).st0 _ _).st0 _ _⟩
      have e : ∀ k, k ≠ 12 → upd w 12 (w 12 - 1) k = w k := fun k q => by rw [upd_ap, if_neg q]
      have et : ∀ i d, upd w 12 (w 12 - 1) (tx i d) = w (tx i d) := fun i d => e _ (by simp only [tx]; omega)
      refine ⟨⟨?_, ?_, ?_, ?_, ?_⟩, fun q => absurd (e 9 (by decide) ▸ q) h91, fun _ => ⟨fun k q1 q2 => ?_, fun i d q1 q2 => ?_⟩, fun hc j hj => ?_, fun i hi => ⟨?_, fun m j hm hj => ?_, ?_⟩⟩
      · rw [e 9 (by decide), h9]; simp [st_r]
      · rw [fk _ 1 (by decide) (by decide), e 10 (by decide)]; exact h0b
      · rw [fk _ 2 (by decide) (by decide), e 11 (by decide)]; exact h0c
      · rw [fk _ 8 (by decide) (by decide), e 18 (by decide)]; exact h0d
      · rw [e 9 (by decide), if_pos h9]; simp [st_r, upd_ap]
      · rw [fk _ k (by omega) (by omega)]; exact y1 k q1 q2
      · rw [f151]; exact y2 i d q1 q2
      · rw [fk _ _ (by omega) (by omega), e _ (by simp only [rx]; omega)]; exact h3 hc j hj
      · unfold LPi
        rw [f151, et, et]; exact (h4 i hi).1
      · rw [f152, et]; exact (h4 i hi).2.1 m j hm hj
      · unfold WD
        rw [et]
        refine ⟨(h4 i hi).2.2.1, fun m hm => ?_⟩
        rw [et]; exact (h4 i hi).2.2.2 m hm
  · rw [if_neg h9, if_neg h9]
    by_cases h92 : w 9 = 2
    · rw [if_pos h92, if_neg (by rw [h92]; decide)]
      exact ⟨σ, rfl, hL.ic, FL.rf σ⟩
    · have h91 : w 9 = 1 := by
        rcases hV.2.2.1 with q | q | q
        · exact absurd q h9
        · exact q
        · exact absurd q h92
      rw [if_neg h92, if_pos h91]
      have hW := hL.toW hB h91
      have hN := hW.num hn (Or.inl ⟨rfl, rfl⟩) (w 13 + 1)
      have hM := hN.num hn (Or.inr (Or.inl ⟨rfl, rfl⟩)) (w 14 + 1)
      obtain ⟨⟨k4, k5, -⟩, -⟩ := h1 h91
      have e5 : st σ 150 4 (w 13 + 1) 150 5 = w 14 := by rw [st_r, if_neg (by decide)]; exact k5
      rw [wb_eq, wb_eq, k4, e5, show (0 : Int32) = nI 0 from rfl]
      obtain ⟨σ', z1, z2, z3⟩ := l_tloop hV hn ht (nI n) (nI t) n 0 FU _ _ (by omega) (by unfold FU; omega) hM (by rw [upd_ap, if_neg (by decide), upd_ap, if_neg (by decide)]; exact h91)
      exact ⟨σ', z1, z2.ic, (((FL.rf σ).st0 _ _).st0 _ _).tr z3⟩
