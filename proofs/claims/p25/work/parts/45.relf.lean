/-! a whole tick -/
theorem VFn.A {n : Nat} {P : Nat → Prop} {w v : Vec} (h : VFn n w) (k : keepA P w v) (h13 : ¬ P 13) (h15 : ¬ P 15) : VFn n v := fun i hi => (h i hi).mv (k.2.1 i 13 (by decide) h13) (k.2.1 i 15 (by decide) h15)
theorem ccl {q n c u : Nat} (hu : u < 2 ^ 30) : ∀ (d i f : Nat) (σ : Sg) (w : Vec), i + d = n → RS q n σ w → VG n c w → w 13 = nI u →
    ((crL d i w).1 = none ∧ keepA PR w (crL d i w).2 ∧ (∀ j cc, cc < 26 → n ≤ j → (crL d i w).2 (tx j cc) = w (tx j cc)) ∧ ∃ σ', f_X0_tickRunning_22 q (f + 1 + d) (nI i) σ = f_X0_tickRunning_22 q (f + 1) (nI n) σ' ∧ RS q n σ' (crL d i w).2 ∧ Fq q σ σ') ∨
    (∃ j, (crL d i w).1 = some j ∧ j < n ∧ keepA PR w (crL d i w).2 ∧ (∀ j cc, cc < 26 → n ≤ j → (crL d i w).2 (tx j cc) = w (tx j cc)) ∧ ∃ σ', f_X0_tickRunning_22 q (f + 1 + d) (nI i) σ = some (1, σ') ∧ BS q n σ' (mkV n 3 (nI j) (crL d i w).2) ∧ Fq q σ σ')
  | 0, i, f, σ, w, h, hS, hG, h13 => by
    have : i = n := by omega
    subst this
    exact Or.inl ⟨rfl, keepA.rf PR w, fun _ _ _ _ => rfl, σ, rfl, hS, Fq.rf q σ⟩
  | d + 1, i, f, σ, w, h, hS, hG, h13 => by
    have hn := hG.1.1
    have hi : i < n := by omega
    have h3 : σ q 3 = nI n := by rw [hS.1.1.2.1]; exact hG.1.2.1
    have hcl : (nI i).toNatClampNeg = i := nI_clamp (by omega)
    have s9 : σ q 9 = w 13 := hS.1.2.1.1
    have s6 : σ q 6 = w 10 := hS.1.1.2.2.2.2.1
    obtain ⟨σ1, z1, z2, z3, z4, z5⟩ := ct (hS.1.2.2.1 i hi) (hS.2 i hi) (hS.1.2.2.2 i (by omega)) hG.1.2.2.2.2.1 (hG.2.2 i hi) hu h13
    have kc := cr_keeps i w
    have kA := kc.A (show i < 6 by omega)
    have hG2 : VG n c (cr i w).2 := hG.keepA kA (fun c hc => by show ¬ (8 ≤ c ∧ c < 15 ∧ c ≠ 13); omega)
    rw [show f + 1 + (d + 1) = (f + 1 + d) + 1 by omega, f_X0_tickRunning_22, h3, if_neg (nI_ge hi (by omega)), hcl, if_neg (inb2 (by omega) (by decide)), s9, s6, show q + 2 + 3 + 5 * i = T q i from rfl, z1, cb_some, nI_1, crL]
    by_cases h0 : (cr i w).1 = 0
    · rw [if_pos h0, if_pos h0]
      have S2 := hS.task hn hi z5.1 kc z2 (z3 h0) z4
      have FQ := Fq.tsk (q := q) (i := i) (by omega) z5.1
      rcases ccl hu d (i + 1) f σ1 (cr i w).2 (by omega) S2 hG2 (by rw [kc.1 13 (by decide)]; exact h13) with ⟨y1, y2, yz, σ2, y3, y4, y5⟩ | ⟨j, y1, yj, y2, yz, σ2, y3, y4, y5⟩
      · exact Or.inl ⟨y1, kA.tr y2, fun j cc hc hj => (yz j cc hc hj).trans (kc.2.1 j cc hc (Or.inl (by omega))), σ2, y3, y4, FQ.tr y5⟩
      · exact Or.inr ⟨j, y1, yj, kA.tr y2, fun j cc hc hj => (yz j cc hc hj).trans (kc.2.1 j cc hc (Or.inl (by omega))), σ2, y3, y4, FQ.tr y5⟩
    · rw [if_neg h0, if_neg h0]
      have X2 := hS.1.task hn hi z5.1 kc z2 z4
      obtain ⟨σ2, y1, y2, y3⟩ := cfall 3 (nI i) hn X2 hG2.1.2.1 hG2.1.2.2.1 hG2.1.2.2.2.1 hG2.1.2.2.2.2.1 (Or.inr ⟨i, hi, rfl⟩)
      refine Or.inr ⟨i, rfl, hi, kA, fun j cc hc hj => kc.2.1 j cc hc (Or.inl (by omega)), σ2, by rw [y1, cb_some], ?_, (Fq.tsk (by omega) z5.1).tr y3⟩
      have e : mkV n 3 (nI i) (cr i w).2 = mk3 (mk2 (nI i) (mk1 3 (nI i) (cr i w).2 (c % 16))) := by
        simp only [mkV, if_true, hG2.1.2.2.1, nI_clamp hG2.1.2.2.2.1]
      rw [e]
      exact y2
theorem suR_b (w : Vec) : b01 (suR w) := by
  unfold suR; split
  · exact Or.inl rfl
  · split
    · exact Or.inl rfl
    · exact Or.inr rfl
theorem crn {q n c u : Nat} {σ : Sg} {w : Vec} (hS : RS q n σ w) (hG : VG n c w) (hF : VFn n w) (hu : u + 1 < 2 ^ 30) (h13 : w 13 = nI u) (h9 : w 9 = 1) : ∃ σ', f_X0_tickRunning_0 q σ = some ((rn n w).1, σ') ∧ BS q n σ' (rn n w).2 ∧ Fq q σ σ' := by
  have hn := hG.1.1
  have s9 : σ q 9 = w 13 := hS.1.2.1.1
  have s10 : σ q 10 = w 14 := hS.1.2.1.2.1
  have S1 : RS q n (st (st σ q 9 (w 13 + 1)) q 10 (w 14 + 1)) (up2 w) := (hS.n13 hn (w 13 + 1)).n14 hn (w 14 + 1)
  have G1 : VG n c (up2 w) := (hG.u (k := 13) (by decide) (by decide) (by decide) (by decide) (by decide) (w 13 + 1)).u (k := 14) (by decide) (by decide) (by decide) (by decide) (by decide) (w 14 + 1)
  have F1 : VFn n (up2 w) := fun i hi => (hF i hi).mv (by simp [up2, upd_ap, tx_k]) (by simp [up2, upd_ap, tx_k])
  have u13 : up2 w 13 = nI (u + 1) := by simp [up2, upd_ap, h13, nI_1]
  have u9 : up2 w 9 = 1 := by simp [up2, upd_ap, h9]
  have FQ : Fq q σ (st (st σ q 9 (w 13 + 1)) q 10 (w 14 + 1)) := ((Fq.rf q σ).st (by omega) _ _).st (by omega) _ _
  have hfu : FU - 1 - n + 1 + n = FU := by unfold FU; omega
  have e0 : f_X0_tickRunning_0 q σ = f_X0_tickRunning_22 q FU (nI 0) (st (st σ q 9 (w 13 + 1)) q 10 (w 14 + 1)) := by
    simp only [f_X0_tickRunning_0, wb_eq, s9, st_r, show ¬ (10 = 9) by decide, and_false, if_false, s10]
    rfl
  rw [e0]
  rcases ccl hu n 0 (FU - 1 - n) _ _ (by omega) S1 G1 u13 with ⟨y1, y2, -, σ2, y3, y4, y5⟩ | ⟨j, y1, yj, y2, -, σ2, y3, y4, y5⟩
  · rw [hfu] at y3
    have G2 : VG n c (crL n 0 (up2 w)).2 := G1.keepA y2 (fun c hc => by show ¬ (8 ≤ c ∧ c < 15 ∧ c ≠ 13); omega)
    have F2 : VFn n (crL n 0 (up2 w)).2 := F1.A y2 (by decide) (by decide)
    have v9 : (crL n 0 (up2 w)).2 9 = 1 := (y2.1 9 (by decide)).trans u9
    obtain ⟨w2, e2⟩ : ∃ z, z = (crL n 0 (up2 w)).2 := ⟨_, rfl⟩
    rw [← e2] at G2 F2 v9 y4
    have er : rn n w = aft n w2 := by
      have : crL n 0 (up2 w) = (none, w2) := Prod.ext y1 e2.symm
      simp only [rn, this, rn2]
    rw [er, y3]
    obtain ⟨p, hp1, hp2, hp⟩ := G2.2.1
    have t3 : σ2 q 3 = nI n := by rw [y4.1.1.2.1]; exact G2.1.2.1
    have t2 : σ2 (q + 1) 2 = nI p := by rw [y4.1.1.1 2 (by decide)]; exact hp
    have t9 : σ2 q 9 = w2 13 := y4.1.2.1.1
    have hle : ¬ nI p ≤ 0 := nI_nle (by omega) (by omega)
    rw [f_X0_tickRunning_22, t3, if_pos (nI_le (Nat.le_refl _) (by omega))]
    simp only [t2, t9, div_s, cb_some, hle, if_false, f_X0_tickRunning_91, aft, hp]
    by_cases hm : w2 13 - w2 13 / nI p * nI p = 0
    · obtain ⟨σ3, z1, z2, z3, z4⟩ := csu y4 G2 F2
      have G3 : VG n c (suV n w2) := by
        have h1 := G2.u (k := 15) (by decide) (by decide) (by decide) (by decide) (by decide) (w2 15 + 1)
        exact (h1.keepA (lp_keeps jd_keeps n 0 _ (by omega)).1 (fun c hc => by show ¬ (12 ≤ c ∧ c < 19); omega)).u (by decide) (by decide) (by decide) (by decide) (by decide) _
      have k9 : suV n w2 9 = 1 := by
        have e := (lp_keeps jd_keeps n 0 (upd w2 15 (w2 15 + 1)) (by omega)).1.1 9 (by decide)
        simp only [suV, spV, upd_ap, show ¬ (9 = 16) by decide, if_false]
        rw [e]; simp [upd_ap, v9]
      rw [if_pos hm, if_neg (by decide), z1, cb_some, if_pos hm]
      have hb := suR_b (suV n w2)
      obtain ⟨σ4, x1, x2, x3⟩ := cdec (suR (suV n w2)) hb z2 G3 k9
      refine ⟨σ4, ?_, x2, ((FQ.tr y5).tr z3).tr x3⟩
      rcases hb with h0 | h1
      · rw [if_pos h0, ← x1, h0]
      · rw [if_neg (by rw [h1]; decide), ← x1, h1]
    · rw [if_neg hm, if_pos rfl, if_neg hm]
      obtain ⟨σ4, x1, x2, x3⟩ := cdec 0 (Or.inl rfl) y4 G2 v9
      exact ⟨σ4, x1, x2, (FQ.tr y5).tr x3⟩
  · rw [hfu] at y3
    have er : rn n w = (1, mkV n 3 (nI j) (crL n 0 (up2 w)).2) := by simp only [rn, rn2, y1]
    rw [er]
    exact ⟨σ2, y3, y4, FQ.tr y5⟩
/-- a boot that ends -/
theorem cbn_loop {q n : Nat} (hn : n ≤ 6) : ∀ (d i f : Nat) (σ : Sg) (w : Vec), i + d = n → d < f → RX q n σ w → w 17 = nI n → (∀ j, j < i → TRr (T q j) j σ w) → ∃ σ', f_X0_tickBooting_45 q f (nI i) σ = some (0, σ') ∧ RS q n σ' (lp zrT d i w) ∧ Fq q σ σ'
  | 0, i, f, σ, w, h, hf, hX, h17, hr => by
    obtain ⟨rfl, f, rfl⟩ := loop0 h hf
    have h3 : σ q 3 = nI i := by rw [hX.1.2.1]; exact h17
    rw [f_X0_tickBooting_45, h3, if_pos (nI_le (Nat.le_refl _) (by omega)), lp]
    exact ⟨σ, rfl, ⟨hX, hr⟩, Fq.rf q σ⟩
  | d + 1, i, f, σ, w, h, hf, hX, h17, hr => by
    obtain ⟨f, rfl⟩ : ∃ g, f = g + 1 := ⟨f - 1, by omega⟩
    have hi : i < n := by omega
    have h3 : σ q 3 = nI n := by rw [hX.1.2.1]; exact h17
    have hcl : (nI i).toNatClampNeg = i := nI_clamp (by omega)
    obtain ⟨σ1, z1, z2, z3, z4, z5⟩ := cbr (hX.2.2.1 i hi) (hX.2.2.2 i (by omega))
    have kz := zrT_keeps i w
    have X2 := hX.task hn hi z5.1 kz z2 z4
    rw [f_X0_tickBooting_45, h3, if_neg (nI_ge hi (by omega)), hcl, if_neg (inb2 (by omega) (by decide)), show q + 2 + 3 + 5 * i = T q i from rfl, z1, cb_some, nI_1, lp]
    obtain ⟨σ2, y1, y2, y3⟩ := cbn_loop hn d (i + 1) f σ1 (zrT i w) (by omega) (by omega) X2 (by rw [kz.1 17 (by decide)]; exact h17) (fun j hj => by
      by_cases hji : j = i
      · subst hji; exact z3
      · exact (hr j (by omega)).same (z5.1 _ (by simp only [T]; omega)) (fun c hc => kz.2.1 j c hc (Or.inl hji)))
    exact ⟨σ2, y1, y2, (Fq.tsk (by omega) z5.1).tr y3⟩
/-- what is known of the reference's row -/
def VW (n t c : Nat) (w : Vec) : Prop := VG n c w ∧ w 8 = nI t ∧ (w 9 = 0 ∨ w 9 = 1 ∨ w 9 = 2) ∧ c ≤ t + 1 ∧ (w 9 = 1 → c ≤ t ∧ VFn n w ∧ ∃ u, u ≤ t ∧ w 13 = nI u) ∧ (w 9 = 0 → ∃ l, 1 ≤ l ∧ l ≤ 200 ∧ w 12 = nI l) ∧ (∃ b, 1 ≤ b ∧ b ≤ 200 ∧ w 5 = nI b) ∧ ∀ j d, n ≤ j → j < 6 → d < 26 → w (tx j d) = 0
theorem bs_inc {q n : Nat} {σ : Sg} {w : Vec} (h : BS q n σ w) : BS q n (st σ q 4 (σ q 4 + 1)) (inc w) := by
  obtain ⟨⟨a1, a2, a3, a4, a5, a6, a7, a8⟩, h0, h1, hp, hb⟩ := h
  have e9 : inc w 9 = w 9 := by simp [inc, upd_ap]
  refine ⟨⟨fun k hk => ?_, ?_, ?_, ?_, ?_, ?_, ?_, fun c j hc hj => ?_⟩, fun q9 => ?_, fun q9 => ?_, fun i hi => (hp i hi).same (fun m hm => st_o _ (by simp only [T]; omega)) (fun c hc _ => by simp only [inc, upd_ap, tx_k _ _ 8 (by decide), if_false]), fun i hi => by unfold TB; rw [st_o _ (by simp only [T]; omega)]; exact hb i hi⟩
  · rw [st_o _ (by omega), inc, upd_ap, if_neg (by omega)]; exact a1 k hk
  · simp [st_r, inc, upd_ap, a2]
  · simp [st_r, inc, upd_ap, a3]
  · simp [st_r, inc, upd_ap, a4]
  · simp [st_r, inc, upd_ap, a5]
  · simp [st_r, inc, upd_ap, a6]
  · rw [st_o _ (by omega), inc, upd_ap, if_neg (by omega)]; exact a7
  · rw [st_o _ (by omega), inc, upd_ap, if_neg (by simp only [rx]; omega)]; exact a8 c j hc hj
  · rw [e9] at q9; simp [st_r, inc, upd_ap, h0 q9]
  · rw [e9] at q9
    obtain ⟨⟨c1, c2, c3, c4⟩, hr⟩ := h1 q9
    exact ⟨⟨by simp [st_r, inc, upd_ap, c1], by simp [st_r, inc, upd_ap, c2], by simp [st_r, inc, upd_ap, c3], by simp [st_r, inc, upd_ap, c4]⟩, fun i hi => (hr i hi).same (st_o _ (by simp only [T]; omega)) (fun c hc => by simp only [inc, upd_ap, tx_k _ _ 8 (by decide), if_false])⟩
theorem ctk {q n t c : Nat} {σ : Sg} {w : Vec} (hB : BS q n σ w) (hV : VW n t c w) (ht : t + 1 < 2 ^ 30) : ∃ σ', f_X0_tick_0 q σ = some ((tk n w).1, σ') ∧ BS q n σ' (tk n w).2 ∧ Fq q σ σ' := by
  obtain ⟨hG, h8, h9, hc, hR, h0, -, -⟩ := hV
  have hn := hG.1.1
  have s5 : σ q 5 = w 9 := hB.1.2.2.2.1
  have fin : ∀ (r : Int32) (σ1 : Sg) (w1 : Vec), (r = 0 ∨ r = 1) → BS q n σ1 w1 → Fq q σ σ1 → ∃ σ', f_X0_tick_29 q r σ1 = some (r, σ') ∧ BS q n σ' (inc w1) ∧ Fq q σ σ' := by
    intro r σ1 w1 hr h1 F
    refine ⟨_, ?_, bs_inc h1, F.st (by omega) _ _⟩
    simp only [f_X0_tick_29, wb_eq, if_pos hr]
  simp only [f_X0_tick_0, s5, tk]
  rcases h9 with h9 | h9 | h9
  · obtain ⟨l, hl1, hl2, hl⟩ := h0 h9
    have s8 : σ q 8 = nI l := by rw [hB.2.1 h9]; exact hl
    obtain ⟨k, rfl⟩ : ∃ k, l = k + 1 := ⟨l - 1, by omega⟩
    have hd : nI (k + 1) - 1 = nI k := nI_pred k
    have hle : nI k ≤ 0 ↔ k = 0 := by rw [show (0 : Int32) = nI 0 from rfl, nI_leI (by omega) (by decide)]; omega
    have heq : nI k = 0 ↔ k = 0 := by rw [show (0 : Int32) = nI 0 from rfl, nI_eq (by omega) (by decide)]
    obtain ⟨⟨a1, a2, a3, a4, a5, a6, a7, a8⟩, b0, b1, hp, hb⟩ := id hB
    have FQ : Fq q σ (st σ q 8 (nI k)) := (Fq.rf q σ).st (by omega) _ _
    simp only [h9, if_true, hl, hd, f_X0_tickBooting_0, wb_eq, s8, st_r, true_and, hle, heq]
    by_cases hk : k = 0
    · subst hk
      simp only [if_true]
      have X1 : RX q n (st (st (st (st (st (st σ q 8 (nI 0)) q 5 1) q 9 0) q 10 0) q 11 0) q 12 0) (upd (upd (upd (upd (upd (upd w 12 (nI 0)) 9 1) 13 0) 14 0) 15 0) 16 0) := by
        refine ⟨⟨fun k hk => ?_, ?_, ?_, ?_, ?_, ?_, ?_, fun c j hc hj => ?_⟩, ⟨?_, ?_, ?_, ?_⟩, fun i hi => (hp i hi).same (fun m hm => by simp only [st_o (T q i + m) (show T q i + m ≠ q by simp only [T]; omega)]) (fun c hc _ => by simp [upd_ap, tx_k]), fun i hi => by unfold TB; simp only [st_o (T q i) (show T q i ≠ q by simp only [T]; omega)]; exact hb i hi⟩
        · have : ¬ k = 9 ∧ ¬ k = 12 ∧ ¬ k = 13 ∧ ¬ k = 14 ∧ ¬ k = 15 ∧ ¬ k = 16 := by omega
          simp only [st_o (q + 1) (show q + 1 ≠ q by omega)]
          simp [upd_ap, this, a1 k hk]
        · simp [st_r, upd_ap, a2]
        · simp [st_r, upd_ap, a3]
        · simp [st_r, upd_ap]
        · simp [st_r, upd_ap, a5]
        · simp [st_r, upd_ap, a6]
        · simp only [st_o (q + 3) (show q + 3 ≠ q by omega)]; simp [upd_ap, a7]
        · have : ¬ rx c j = 9 ∧ ¬ rx c j = 12 ∧ ¬ rx c j = 13 ∧ ¬ rx c j = 14 ∧ ¬ rx c j = 15 ∧ ¬ rx c j = 16 := by simp only [rx]; omega
          simp only [st_o (q + 3 + 1) (show q + 3 + 1 ≠ q by omega)]
          simp [upd_ap, this, a8 c j hc hj]
        · simp [st_r, upd_ap]
        · simp [st_r, upd_ap]
        · simp [st_r, upd_ap]
        · simp [st_r, upd_ap]
      obtain ⟨σ2, y1, y2, y3⟩ := cbn_loop hn n 0 FU _ _ (by omega) (by unfold FU; omega) X1 (by simp [upd_ap]; exact hG.1.2.1) (fun j hj => absurd hj (by omega))
      rw [show (0 : Int32) = nI 0 from rfl] at y1 ⊢
      rw [y1, cb_some]
      have e9 : lp zrT n 0 (upd (upd (upd (upd (upd (upd w 12 (nI 0)) 9 1) 13 0) 14 0) 15 0) 16 0) 9 = 1 := by
        rw [(lp_keeps zrT_keeps n 0 _ (by omega)).1.1 9 (by decide)]; simp [upd_ap]
      have F2 : Fq q σ σ2 := ((((((FQ.st (by omega) _ _).st (by omega) _ _).st (by omega) _ _).st (by omega) _ _).st (by omega) _ _)).tr y3
      exact fin (nI 0) σ2 _ (Or.inl rfl) (BS.of y2 e9) F2
    · simp only [hk, if_false, cb_some]
      refine fin 0 _ _ (Or.inl rfl) ?_ FQ
      refine ⟨⟨fun k hk => ?_, ?_, ?_, ?_, ?_, ?_, ?_, fun c j hc hj => ?_⟩, fun _ => by simp [st_r, upd_ap], fun q9 => absurd (by simpa [upd_ap] using q9) (show ¬ w 9 = 1 by rw [h9]; decide), fun i hi => (hp i hi).same (fun m hm => st_o _ (by simp only [T]; omega)) (fun c hc _ => by simp [upd_ap, tx_k]), fun i hi => by unfold TB; rw [st_o _ (by simp only [T]; omega)]; exact hb i hi⟩
      · rw [st_o _ (by omega), upd_ap, if_neg (by omega)]; exact a1 k hk
      · simp [st_r, upd_ap, a2]
      · simp [st_r, upd_ap, a3]
      · simp [st_r, upd_ap, a4]
      · simp [st_r, upd_ap, a5]
      · simp [st_r, upd_ap, a6]
      · rw [st_o _ (by omega), upd_ap, if_neg (by omega)]; exact a7
      · rw [st_o _ (by omega), upd_ap, if_neg (by simp only [rx]; omega)]; exact a8 c j hc hj
  · obtain ⟨hct, hF, u, hu, h13⟩ := hR h9
    obtain ⟨hr1, hr2⟩ := hB.2.2.1 h9
    obtain ⟨σ1, z1, z2, z3⟩ := crn (u := u) ⟨⟨hB.1, hr1, hB.2.2.2.1, hB.2.2.2.2⟩, hr2⟩ hG hF (by omega) h13 h9
    simp only [h9, show ¬ (1 : Int32) = 0 by decide, if_false, if_true, z1, cb_some]
    exact fin _ σ1 _ (rn_r n w) z2 z3
  · simp only [h9, show ¬ (2 : Int32) = 0 by decide, show ¬ (2 : Int32) = 1 by decide, if_false]
    exact fin 0 σ w (Or.inl rfl) hB (Fq.rf q σ)

