/-! THE LAW's 150 ticks -/
theorem cN_0 (c : Nat) : cN c 0 = c := rfl
theorem cN_1 (c : Nat) : cN c 1 = c + 1 := rfl
/-- the row's count of resets over a tick -/
theorem mk_18 {n c j : Nat} (cause cr : Int32) (w : Vec) (hn : n ≤ 6) (h18 : w 18 = nI c) (hc : c < 2 ^ 31) (h : (cause = 3 ∧ j < n ∧ cr = nI j) ∨ ¬ cause = 3) : mkV n cause cr w 18 = nI (c + 1) ∧ ∀ i d, i < 6 → d < 26 → d ≠ 19 → mkV n cause cr w (tx i d) = w (tx i d) := by
  have hcc : (w 18).toNatClampNeg = c := by rw [h18]; exact nI_clamp (by omega)
  generalize htkd : (if cause = 3 then cr else fe w n 0) = tk
  obtain ⟨i0, hi0⟩ : ∃ i0 : Nat, tk < 0 ∨ (i0 < 6 ∧ tk = nI i0) := by
    rw [← htkd]
    rcases h with ⟨h3, hj, e⟩ | h3
    · rw [if_pos h3]; exact ⟨j, Or.inr ⟨by omega, e⟩⟩
    · rw [if_neg h3]
      rcases fe_n (n := n) w with q | ⟨j, hj, e⟩
      · exact ⟨0, Or.inl q⟩
      · exact ⟨j, Or.inr ⟨by omega, e⟩⟩
  obtain ⟨m1, m2, m3, -⟩ := mk2_facts (c := c) cause tk w hi0
  have emk : mkV n cause cr w = mk3 (mk2 tk (mk1 cause tk w (c % 16))) := by rw [mkV, htkd, hcc]
  rw [emk]
  refine ⟨?_, fun i d hi hd h19 => ?_⟩
  · rw [mk3_o _ (by decide), m2, h18, nI_1]
  · rw [mk3_o _ (by simp only [tx]; omega), m3 i d hi hd h19]
theorem stb_o (x : Int32) (w : Vec) {k : Nat} (h1 : k ≠ 14) (h2 : k ≠ 11) : stb x w k = w k := by rw [stb, upd_ap, if_neg h2, upd_ap, if_neg h1]
theorem dec_t {n c : Nat} (k : Int32) (w : Vec) (hn : n ≤ 6) (h18 : w 18 = nI c) (hc : c < 2 ^ 31) : (dec n k w).2 18 = nI (cN c (dec n k w).1) ∧ ∀ i d, i < 6 → d < 26 → d ≠ 19 → (dec n k w).2 (tx i d) = w (tx i d) := by
  have s : ∀ x, stb x w 18 = nI (cN c 0) ∧ ∀ i d, i < 6 → d < 26 → d ≠ 19 → stb x w (tx i d) = w (tx i d) := fun x =>
    ⟨by rw [stb_o x w (by decide) (by decide), h18, cN_0], fun i d _ _ _ => stb_o x w (by simp only [tx]; omega) (by simp only [tx]; omega)⟩
  have m : ∀ cause : Int32, ¬ cause = 3 → mkV n cause (-6) w 18 = nI (cN c 1) ∧ ∀ i d, i < 6 → d < 26 → d ≠ 19 → mkV n cause (-6) w (tx i d) = w (tx i d) := fun cause h3 => mk_18 (j := 0) cause (-6) w hn h18 hc (Or.inr h3)
  unfold dec
  split
  · split
    · exact s _
    · exact m 2 (by decide)
  · split
    · exact m 1 (by decide)
    · exact s _
/-- the diagnostic over the supervisor's run -/
theorem WL.mono {T i : Nat} {w : Vec} (h : WL T i w) : WL (T + 1) i w := by
  rcases h with h | ⟨h1, ⟨j, j1, j2, j3⟩, s, s1, s2⟩
  · exact Or.inl h
  · exact Or.inr ⟨h1, ⟨j, j1, by omega, j3⟩, s, by omega, s2⟩
theorem WL.cg {T i : Nat} {w w' : Vec} (h : WL T i w) (e : ∀ d, 16 ≤ d → d < 19 → w' (tx i d) = w (tx i d)) : WL T i w' := by
  unfold WL
  rw [e 16 (by decide) (by decide), e 17 (by decide) (by decide), e 18 (by decide) (by decide)]
  exact h
theorem wl_bad {T i : Nat} {w : Vec} (h : WL T i w) (h8 : w 8 = nI T) : WL (T + 1) i (clr i (badV i w)) := by
  rcases h with ⟨h1, h2⟩ | ⟨h1, ⟨j, j1, j2, j3⟩, s, s1, s2⟩
  · refine Or.inr ⟨?_, ⟨1, by omega, by omega, ?_⟩, T, by omega, ?_⟩
    · simp [clr, badV, h1, upd_ap, tx_same]
    · simp [clr, badV, h1, h2, upd_ap, tx_same]; rfl
    · simp [clr, badV, h1, upd_ap, tx_same, h8]
  · have h10 : ¬ w (tx i 17) = 0 := by rw [h1]; decide
    refine Or.inr ⟨?_, ⟨j + 1, by omega, by omega, ?_⟩, s, by omega, ?_⟩
    · simp [clr, badV, h10, upd_ap, tx_same, h1]
    · simp only [clr, badV, h10, if_false, upd_ap, tx_same]
      simp [j3, nI_1]
    · simp [clr, badV, h10, upd_ap, tx_same, s2]
theorem wl_jd {T i : Nat} {w : Vec} (h : WL T i w) (h8 : w 8 = nI T) : WL (T + 1) i (jdV i w) := by
  have hg : WL (T + 1) i (clr i (goodV i w)) := h.mono.cg (fun d h1 h2 => by
    rw [clr, upd_ap, if_neg (by rw [tx_same]; omega), upd_ap, if_neg (by rw [tx_same]; omega), goodV, upd_ap, if_neg (by rw [tx_same]; omega)])
  have hb := wl_bad h h8
  unfold jdV endV
  split
  · exact h.mono
  · split
    · split
      · exact hb
      · split
        · exact hb
        · split
          · exact hg
          · exact hb
    · exact h.mono
theorem wl_lp {T : Nat} : ∀ (d i : Nat) (w : Vec), i + d ≤ 6 → w 8 = nI T → (∀ j, j < i → WL (T + 1) j w) → (∀ j, i ≤ j → j < i + d → WL T j w) → ∀ j, j < i + d → WL (T + 1) j (lp jdV d i w)
  | 0, i, w, _, _, h1, _, j, hj => h1 j (by omega)
  | d + 1, i, w, h6, h8, h1, h2, j, hj => by
    have hk := jd_keeps i w
    rw [lp]
    refine wl_lp d (i + 1) (jdV i w) (by omega) (by rw [hk.1 8 (by decide)]; exact h8) (fun m hm => ?_) (fun m hm1 hm2 => ?_) j (by omega)
    · by_cases hmi : m = i
      · subst hmi; exact wl_jd (h2 m (Nat.le_refl _) (by omega)) h8
      · exact (h1 m (by omega)).cg (fun e h1 h2 => hk.2.1 m e (by omega) (Or.inl hmi))
    · exact (h2 m (by omega) (by omega)).cg (fun e h1 h2 => hk.2.1 m e (by omega) (Or.inl (by omega)))
theorem su_t {n t c : Nat} {w : Vec} (hn : n ≤ 6) (h18 : w 18 = nI c) (h8 : w 8 = nI t) : suV n w 18 = nI c ∧ ((∀ i, i < n → WL t i w) → ∀ i, i < n → WL (t + 1) i (suV n w)) := by
  have kl := (lp_keeps jd_keeps n 0 (upd w 15 (w 15 + 1)) (by omega)).1
  have ut : ∀ i d, upd w 15 (w 15 + 1) (tx i d) = w (tx i d) := fun i d => by rw [upd_ap, if_neg (by simp only [tx]; omega)]
  unfold suV spV
  refine ⟨?_, fun h i hi => ?_⟩
  · rw [upd_ap, if_neg (by decide), kl.1 18 (by decide), upd_ap, if_neg (by decide)]; exact h18
  · have h1 := wl_lp (T := t) n 0 (upd w 15 (w 15 + 1)) (by omega) (by rw [upd_ap, if_neg (by decide)]; exact h8) (fun j hj => absurd hj (by omega)) (fun j _ hj => (h j (by omega)).cg (fun d _ _ => ut j d)) i (by omega)
    exact h1.cg (fun d _ _ => by rw [upd_ap, if_neg (by simp only [tx]; omega)])
theorem aft_t {n t c : Nat} {w : Vec} (hn : n ≤ 6) (h18 : w 18 = nI c) (hc : c < 2 ^ 31) (h8 : w 8 = nI t) : (aft n w).2 18 = nI (cN c (aft n w).1) ∧ ((∀ i, i < n → WL t i w) → ∀ i, i < n → WL (t + 1) i (aft n w).2) := by
  obtain ⟨s1, s2⟩ := su_t (n := n) hn h18 h8
  unfold aft
  split
  · obtain ⟨d1, d2⟩ := dec_t (n := n) (suR (suV n w)) (suV n w) hn s1 hc
    exact ⟨d1, fun h i hi => (s2 h i hi).cg (fun d q1 q2 => d2 i d (by omega) (by omega) (by omega))⟩
  · obtain ⟨d1, d2⟩ := dec_t (n := n) 0 w hn h18 hc
    exact ⟨d1, fun h i hi => (h i hi).mono.cg (fun d q1 q2 => d2 i d (by omega) (by omega) (by omega))⟩
theorem rn_t {n t c : Nat} {w : Vec} (hn : n ≤ 6) (h18 : w 18 = nI c) (hc : c < 2 ^ 31) (h8 : w 8 = nI t) : (rn n w).2 18 = nI (cN c (rn n w).1) ∧ ((∀ i, i < n → WL t i w) → ∀ i, i < n → WL (t + 1) i (rn n w).2) := by
  obtain ⟨hk, -, hj⟩ := crL_keep (n := n) n 0 (up2 w) (by omega) hn
  have u18 : up2 w 18 = nI c := by rw [up2, upd_ap, if_neg (by decide), upd_ap, if_neg (by decide)]; exact h18
  have u8 : up2 w 8 = nI t := by rw [up2, upd_ap, if_neg (by decide), upd_ap, if_neg (by decide)]; exact h8
  have ut : ∀ i d, up2 w (tx i d) = w (tx i d) := fun i d => by rw [up2, upd_ap, if_neg (by simp only [tx]; omega), upd_ap, if_neg (by simp only [tx]; omega)]
  have v18 : (crL n 0 (up2 w)).2 18 = nI c := by rw [hk.1 18 (by decide)]; exact u18
  have v8 : (crL n 0 (up2 w)).2 8 = nI t := by rw [hk.1 8 (by decide)]; exact u8
  have vt : ∀ i d, 16 ≤ d → d < 19 → (crL n 0 (up2 w)).2 (tx i d) = w (tx i d) := fun i d h1 h2 => by rw [hk.2.1 i d (by omega) (fun q => by have := q.2.1; omega), ut]
  unfold rn
  generalize crL n 0 (up2 w) = p at hj v18 v8 vt
  obtain ⟨o, v⟩ := p
  cases o with
  | some j =>
    have m := mk_18 (j := j) 3 (nI j) v hn v18 hc (Or.inl ⟨rfl, hj j rfl, rfl⟩)
    refine ⟨m.1, fun h i hi => (h i hi).mono.cg (fun d q1 q2 => ?_)⟩
    show mkV n 3 (nI j) v (tx i d) = w (tx i d)
    rw [m.2 i d (by omega) (by omega) (by omega)]; exact vt i d q1 q2
  | none =>
    have m := aft_t (n := n) (w := v) hn v18 hc v8
    exact ⟨m.1, fun h => m.2 (fun i hi => (h i hi).cg (fun d q1 q2 => vt i d q1 q2))⟩
theorem tk_t {n t c : Nat} {w : Vec} (hV : VW n t c w) (ht : t + 2 < 2 ^ 30) : (tk n w).2 18 = nI (cN c (tk n w).1) ∧ ((∀ i, i < n → WL t i w) → ∀ i, i < n → WL (t + 1) i (tk n w).2) := by
  have hn := hV.1.1.1
  have h18 : w 18 = nI c := hV.1.1.2.2.1
  have hc : c < 2 ^ 31 := hV.1.1.2.2.2.1
  have h8 : w 8 = nI t := hV.2.1
  have ic : ∀ (v : Vec) (r : Int32), v 18 = nI (cN c r) → ((∀ i, i < n → WL t i w) → ∀ i, i < n → WL (t + 1) i v) → inc v 18 = nI (cN c r) ∧ ((∀ i, i < n → WL t i w) → ∀ i, i < n → WL (t + 1) i (inc v)) := fun v r h1 h2 =>
    ⟨by rw [inc, upd_ap, if_neg (by decide)]; exact h1, fun h i hi => (h2 h i hi).cg (fun d _ _ => by rw [inc, upd_ap, if_neg (by simp only [tx]; omega)])⟩
  have sm : ∀ (v : Vec), v 18 = w 18 → (∀ i d, i < 6 → 16 ≤ d → d < 19 → v (tx i d) = w (tx i d)) → v 18 = nI (cN c 0) ∧ ((∀ i, i < n → WL t i w) → ∀ i, i < n → WL (t + 1) i v) := fun v h1 h2 =>
    ⟨by rw [h1, h18, cN_0], fun h i hi => (h i hi).mono.cg (fun d q1 q2 => h2 i d (by omega) q1 q2)⟩
  unfold tk
  split
  · split
    · have kl := (lp_keeps zrT_keeps n 0 (upd (upd (upd (upd (upd (upd w 12 (w 12 - 1)) 9 1) 13 0) 14 0) 15 0) 16 0) (by omega)).1
      obtain ⟨q1, q2⟩ := sm (bgnV n (upd w 12 (w 12 - 1))) (by rw [bgnV, kl.1 18 (by decide)]; simp [upd_ap]) (fun i d _ h1 h2 => by
        rw [bgnV, kl.2.1 i d (by omega) (by omega)]
        simp only [upd_ap, tx_k i d _ (show 9 < 19 by decide), tx_k i d _ (show 12 < 19 by decide), tx_k i d _ (show 13 < 19 by decide), tx_k i d _ (show 14 < 19 by decide), tx_k i d _ (show 15 < 19 by decide), tx_k i d _ (show 16 < 19 by decide), if_false])
      exact ic _ 0 q1 q2
    · obtain ⟨q1, q2⟩ := sm (upd w 12 (w 12 - 1)) (by simp [upd_ap]) (fun i d _ h1 h2 => by rw [upd_ap, if_neg (by simp only [tx]; omega)])
      exact ic _ 0 q1 q2
  · split
    · obtain ⟨q1, q2⟩ := rn_t (n := n) hn h18 hc h8
      exact ic _ _ q1 q2
    · obtain ⟨q1, q2⟩ := sm w rfl (fun _ _ _ _ _ => rfl)
      exact ic _ 0 q1 q2
theorem LQ.F {n c : Nat} {σ σ' : Sg} {w : Vec} (h : LQ n c σ w) (e0 : σ' 150 = σ 150) (e1 : σ' 151 = σ 151) (e2 : σ' 152 = σ 152) : LQ n c σ' w := by
  unfold LQ LC at *
  simp only [LT, LPi, LF, e0, e1, e2] at *
  exact h
theorem law_end (D : SD) (n : Int32) (f : Nat) (x2 x6 : Int32) (σ : Sg) : f_L_law_490 D n (f + 1) x2 x6 x6 150 σ = some (1, σ) := by
  rw [f_L_law_490, if_pos (by decide), if_pos rfl, f_L_law_577]
theorem law_loop {n : Nat} (hn : n ≤ 3) (D : SD) (nn F : Int32) : ∀ (d k f : Nat) (first : Int32) (σ : Sg) (w : Vec) (c : Nat), k + d = 150 → d < f → BS 1 n σ w → VW n k c w → LQ n c σ w → (∀ i, i < n → WL k i w) → ((c = 0 ∧ first = -6 ∧ F = (trL n d (k + 1) w).1) ∨ (0 < c ∧ 0 ≤ first ∧ first = F)) → ∃ σ', f_L_law_490 D nn f (nI n) F first (nI k) σ = some (1, σ')
  | 0, k, f, first, σ, w, c, hk, hf, hB, hV, hL, hw, hF => by
    obtain ⟨f, rfl⟩ : ∃ g, f = g + 1 := ⟨f - 1, by omega⟩
    obtain rfl : k = 150 := by omega
    have e : first = F := by
      rcases hF with ⟨-, h1, h2⟩ | ⟨-, -, h⟩
      · rw [h1, h2]; rfl
      · exact h
    rw [e]
    exact ⟨σ, law_end D nn f (nI n) F σ⟩
  | d + 1, k, f, first, σ, w, c, hk, hf, hB, hV, hL, hw, hF => by
    obtain ⟨f, rfl⟩ : ∃ g, f = g + 1 := ⟨f - 1, by omega⟩
    obtain ⟨σ1, z1, z2, z3⟩ := l_tick hL hB hV hn (by omega)
    have hB1 : BS 1 n σ1 w := hB.L (by omega) (fun a ha => z3 a (by omega) (by omega))
    obtain ⟨σ2, c', y1, y2, y3, y4⟩ := ck_run hB1 hV (by omega)
    obtain ⟨t1, t2⟩ := tk_t hV (by omega)
    have hcb : c < 2 ^ 20 := by have := hV.2.2.2.1; omega
    have hc' : c' = cN c (tk n w).1 := by
      have h1 : (tk n w).2 18 = nI c' := y3.1.1.2.2.1
      have h2 : c' < 2 ^ 31 := y3.1.1.2.2.2.1
      rw [t1] at h1
      have h3 : cN c (tk n w).1 < 2 ^ 31 := by unfold cN; split <;> omega
      exact ((nI_eq h3 h2).mp h1).symm
    have hL2 : LQ n c' σ2 (tk n w).2 := by
      rw [hc']; exact z2.F (y4 150 (by omega)) (y4 151 (by omega)) (y4 152 (by omega))
    have hw2 := t2 hw
    have told := l_told hL2 y2 y3 hn (by omega) (Tm := k + 1) (by omega) hw2
    have s8 : σ1 150 8 = nI (cN c (tk n w).1) := by rw [z2.1.2.2.2.1]; exact t1
    have k532 : ∀ s0 : Int32, ((c' = 0 ∧ s0 = -6 ∧ F = (trL n d (k + 1 + 1) (tk n w).2).1) ∨ (0 < c' ∧ 0 ≤ s0 ∧ s0 = F)) → ∃ σ', f_L_law_532 D nn (f_L_law_490 D nn f) (nI n) F (nI k) s0 σ1 = some (1, σ') := by
      intro s0 hs
      rw [f_L_law_532, y1, cb_some, nI_1, if_pos rfl, told, cb_some, if_neg (by decide)]
      exact law_loop hn D nn F d (k + 1) f s0 σ2 (tk n w).2 c' (by omega) (by omega) y2 y3 hL2 hw2 hs
    rw [f_L_law_490, if_neg (by rw [show (150 : Int32) = nI 150 from rfl]; exact nI_ge (by omega) (by decide)), z1, cb_some]
    rcases hF with ⟨h0, h1, h2⟩ | ⟨h0, h1, h2⟩
    · subst h0
      rw [h1, if_neg (by decide), s8]
      rw [trL] at h2
      rcases tk_r n w with r | r
      · rw [r, cN_0, if_neg (by decide), f_L_law_530]
        rw [if_pos r] at h2
        exact k532 (-6) (Or.inl ⟨by rw [hc', r, cN_0], rfl, h2⟩)
      · rw [r, cN_1, if_pos (by decide), nI_1]
        rw [if_neg (by rw [r]; decide)] at h2
        exact k532 (nI (k + 1)) (Or.inr ⟨by rw [hc', r, cN_1]; omega, nI_pos' (by omega), h2.symm⟩)
    · rw [if_pos h1, f_L_law_530]
      refine k532 first (Or.inr ⟨?_, h1, h2⟩)
      rw [hc']; unfold cN; split <;> omega
theorem law_474 {n : Nat} (hn : n ≤ 3) (D : SD) (nn : Int32) {σ : Sg} {w : Vec} (hB : BS 1 n σ w) (hV : VW n 0 0 w) (hL : LQ n 0 σ w) (hw : ∀ i, i < n → WL 0 i w) (h36 : TBq 36 σ) : ∃ σ', f_L_law_474 D nn (nI n) σ = some (1, σ') := by
  obtain ⟨σ1, z1, z2, z3⟩ := ck_forecast hB hV h36 (by omega)
  rw [f_L_law_474, z1, cb_some]
  exact law_loop hn D nn _ 150 0 FU (-6) σ1 w 0 rfl (by unfold FU; omega) z2 hV (hL.F (z3 150 (by omega)) (z3 151 (by omega)) (z3 152 (by omega))) hw (Or.inl ⟨rfl, rfl, rfl⟩)
