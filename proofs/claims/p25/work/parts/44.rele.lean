/-! ticks agree -/
def VFn (n : Nat) (w : Vec) : Prop := ∀ i, i < n → VF i w
theorem RS.b15 {q n i : Nat} {σ : Sg} {w : Vec} (h : RS q n σ w) (hn : n ≤ 6) (hi : i < n) : b01 (w (tx i 15)) := by
  rw [← (h.2 i hi).2.2.2.2.1]; exact (h.1.2.2.2 i (by omega)).2.2.2.1
theorem csu_loop {q n c : Nat} : ∀ (d i f : Nat) (σ : Sg) (w : Vec), i + d = n → RS q n σ w → VG n c w → VFn n w → ∃ σ', f_X0_supervise_12 q (f + 1 + d) (nI i) σ = f_X0_supervise_12 q (f + 1) (nI n) σ' ∧ RS q n σ' (lp jdV d i w) ∧ Fq q σ σ' ∧ VFn n (lp jdV d i w)
  | 0, i, f, σ, w, h, hS, hG, hF => by
    have : i = n := by omega
    subst this
    exact ⟨σ, rfl, hS, Fq.rf q σ, hF⟩
  | d + 1, i, f, σ, w, h, hS, hG, hF => by
    have hn := hG.1.1
    have hi : i < n := by omega
    have h3 : σ q 3 = nI n := by rw [hS.1.1.2.1]; exact hG.1.2.1
    have hcl : (nI i).toNatClampNeg = i := nI_clamp (by omega)
    have hp := hS.1.2.2.1 i hi
    have hr := hS.2 i hi
    have hb := hS.1.2.2.2 i (by omega)
    have e11 : σ (T q i) 11 = w (tx i 15) := hr.2.2.2.2.1
    have kj := jd_keeps i w
    have hkA := kj.A (show i < 6 by omega)
    have hG2 := hG.keepA hkA (fun c hc => by show ¬ (12 ≤ c ∧ c < 19); omega)
    have hvt := hG.2.2 i hi
    have step : ∃ σ1, f_X0_supervise_12 q (f + 1 + (d + 1)) (nI i) σ = f_X0_supervise_12 q (f + 1 + d) (nI (i + 1)) σ1 ∧ TRp (T q i) i σ1 (jdV i w) ∧ TRr (T q i) i σ1 (jdV i w) ∧ TB (T q i) σ1 ∧ (∀ a, a ≠ T q i → σ1 a = σ a) ∧ VF i (jdV i w) := by
      rw [show f + 1 + (d + 1) = (f + 1 + d) + 1 by omega, f_X0_supervise_12, h3, if_neg (nI_ge hi (by omega)), hcl, if_neg (inb2 (by omega) (by decide))]
      rw [show σ (q + 2 + 3 + 5 * i) 11 = w (tx i 15) from e11]
      rcases hS.b15 hn hi with h0 | h1
      · have h01 : ¬ w (tx i 15) = 1 := by rw [h0]; decide
        obtain ⟨y, hy1, hy2, hy⟩ := hvt.2.2.1
        have s3 : σ (q + 2 + 3 + 5 * i + 1) 3 = nI y := by rw [← hy]; exact hp.1 3 (by decide)
        have s15 : σ q 11 = w 15 := hS.1.2.1.2.2.1
        have hle : ¬ nI y ≤ 0 := nI_nle (by omega) (by omega)
        simp only [h0, if_true, s3, s15, div_s, cb_some, hle, if_false, f_X0_supervise_58, nI_1]
        by_cases hm : w 15 - w 15 / nI y * nI y = 0
        · have ej : jdV i w = endV i w := by simp only [jdV, h01, if_false, hy, hm, if_true]
          obtain ⟨-, fl, hf1, hf2, hf3⟩ := hF i hi
          have s8 : σ q 4 = w 8 := hS.1.1.2.2.1
          obtain ⟨σ1, z1, z2, z3, z4, z5⟩ := cend hp hr hb hf1 hf2
          rw [ej, if_pos hm, if_neg (by decide), s8, show q + 2 + 3 + 5 * i = T q i from rfl, z1, cb_some]
          exact ⟨σ1, rfl, z2, z3, z4, z5, (hF i hi).end hvt h0⟩
        · have ej : jdV i w = w := by simp only [jdV, h01, if_false, hy, hm]
          rw [ej, if_neg hm, if_pos rfl]
          exact ⟨σ, rfl, hp, hr, hb, fun _ _ => rfl, hF i hi⟩
      · have ej : jdV i w = w := by simp only [jdV, h1, if_true]
        rw [ej, h1, if_neg (by decide), f_X0_supervise_58, nI_1]
        exact ⟨σ, rfl, hp, hr, hb, fun _ _ => rfl, hF i hi⟩
    obtain ⟨σ1, z1, z2, z3, z4, z5, z6⟩ := step
    have S2 := hS.task hn hi z5 kj z2 z3 z4
    have F2 : VFn n (jdV i w) := fun j hj => by
      by_cases hji : j = i
      · subst hji; exact z6
      · exact (hF j hj).mv (kj.2.1 j 13 (by decide) (Or.inl hji)) (kj.2.1 j 15 (by decide) (Or.inl hji))
    obtain ⟨σ2, y1, y2, y3, y4⟩ := csu_loop d (i + 1) f σ1 (jdV i w) (by omega) S2 hG2 F2
    exact ⟨σ2, z1.trans y1, y2, (Fq.tsk (by omega) z5).tr y3, y4⟩
theorem csu {q n c : Nat} {σ : Sg} {w : Vec} (hS : RS q n σ w) (hG : VG n c w) (hF : VFn n w) : ∃ σ', f_X0_supervise_0 q σ = some (suR (suV n w), σ') ∧ RS q n σ' (suV n w) ∧ Fq q σ σ' ∧ VFn n (suV n w) := by
  have hn := hG.1.1
  have s11 : σ q 11 = w 15 := hS.1.2.1.2.2.1
  have S1 := hS.n15 hn (w 15 + 1)
  have G1 := hG.u (k := 15) (by decide) (by decide) (by decide) (by decide) (by decide) (w 15 + 1)
  have F1 : VFn n (upd w 15 (w 15 + 1)) := fun i hi => (hF i hi).mv (by simp only [upd_ap, tx_k _ _ 15 (by decide), if_false]) (by simp only [upd_ap, tx_k _ _ 15 (by decide), if_false])
  obtain ⟨σ2, z1, z2, z3, z4⟩ := csu_loop n 0 (FU - 1 - n) _ _ (by omega) S1 G1 F1
  have hfu : FU - 1 - n + 1 + n = FU := by unfold FU; omega
  have hk := (lp_keeps jd_keeps n 0 (upd w 15 (w 15 + 1)) (by omega)).1
  have G2 := G1.keepA hk (fun c hc => by show ¬ (12 ≤ c ∧ c < 19); omega)
  rw [hfu] at z1
  have h3 : σ2 q 3 = nI n := by rw [z2.1.1.2.1]; exact G2.1.2.1
  rw [f_X0_supervise_0, wb_eq, s11, show (0 : Int32) = nI 0 from rfl, z1, f_X0_supervise_12, h3, if_pos (nI_le (Nat.le_refl _) (by omega)), le_s hn z2 G2.1.2.1, cb_some]
  have fin : ∀ (σ3 : Sg) (w3 : Vec), RS q n σ3 w3 → f_X0_supervise_83 q σ3 = some (suR w3, σ3) := by
    intro σ3 w3 h
    have t4 : σ3 (q + 1) 4 = w3 4 := h.1.1.1 4 (by decide)
    have t3 : σ3 (q + 1) 3 = w3 3 := h.1.1.1 3 (by decide)
    have t12 : σ3 q 12 = w3 16 := h.1.2.1.2.2.2
    have t10 : σ3 q 10 = w3 14 := h.1.2.1.2.1
    simp only [f_X0_supervise_83, f_X0_supervise_113, f_X0_supervise_114, t4, t3, t12, t10, suR]
    by_cases h1 : w3 4 < w3 16
    · simp [h1]
    · by_cases h2 : w3 14 < w3 3 <;> simp [h1, h2]
  have s12 : σ2 q 12 = lp jdV n 0 (upd w 15 (w 15 + 1)) 16 := z2.1.2.1.2.2.2
  have FV : ∀ x, VFn n (upd (lp jdV n 0 (upd w 15 (w 15 + 1))) 16 x) := fun x i hi => (z4 i hi).mv (by simp only [upd_ap, tx_k _ _ 16 (by decide), if_false]) (by simp only [upd_ap, tx_k _ _ 16 (by decide), if_false])
  have FQ : Fq q σ σ2 := ((Fq.rf q σ).st (by omega) _ _).tr z3
  have hX : ∀ x : Int32, σ2 = st σ2 q 12 (σ2 q 12) := fun _ => by
    funext a b; simp only [st_r]; by_cases hab : a = q ∧ b = 12
    · rw [if_pos hab, hab.1, hab.2]
    · rw [if_neg hab]
  rcases fe_r (lp jdV n 0 (upd w 15 (w 15 + 1))) n 0 with e6 | ⟨j, -, hj, ej, -⟩
  · have e : suV n w = upd (lp jdV n 0 (upd w 15 (w 15 + 1))) 16 (lp jdV n 0 (upd w 15 (w 15 + 1)) 16 + 0) := by
      simp only [suV, spV, e6]; rfl
    have S3 : RS q n σ2 (suV n w) := by
      rw [e, hX 0, s12, Int32.add_zero]; exact z2.n16 hn _
    rw [e6, if_pos rfl]
    exact ⟨σ2, fin σ2 _ S3, S3, FQ, by rw [e]; exact FV _⟩
  · have hneg : ¬ fe (lp jdV n 0 (upd w 15 (w 15 + 1))) n 0 < 0 := by rw [ej]; exact nI_pos (by omega)
    have hm6 : ¬ nI j = -6 := by
      intro q; have h2 := nI_pos' (n := j) (by omega); rw [q] at h2; exact absurd h2 (by decide)
    have e : suV n w = upd (lp jdV n 0 (upd w 15 (w 15 + 1))) 16 (lp jdV n 0 (upd w 15 (w 15 + 1)) 16 + 1) := by
      simp only [suV, spV, hneg, if_false]
    have S3 : RS q n (st σ2 q 12 (σ2 q 12 + 1)) (suV n w) := by
      rw [e, s12]; exact z2.n16 hn _
    rw [ej, if_neg hm6, wb_eq]
    exact ⟨_, fin _ _ S3, S3, FQ.st (by omega) _ _, by rw [e]; exact FV _⟩
theorem BS.of {q n : Nat} {σ : Sg} {w : Vec} (h : RS q n σ w) (h9 : w 9 = 1) : BS q n σ w := ⟨h.1.1, fun z => absurd (h9 ▸ z) (by decide), fun _ => ⟨h.1.2.1, h.2⟩, h.1.2.2.1, h.1.2.2.2⟩
/-- attempts -/
theorem RS.n11 {q n : Nat} {σ : Sg} {w : Vec} (h : RS q n σ w) (hn : n ≤ 6) (v : Int32) : RS q n (st σ q 7 v) (upd w 11 v) := by
  obtain ⟨⟨⟨a1, a2, a3, a4, a5, a6, a7, a8⟩, ⟨c1, c2, c3, c4⟩, hp, hb⟩, hr⟩ := h
  refine ⟨⟨⟨fun k hk => ?_, ?_, ?_, ?_, ?_, ?_, ?_, fun c j hc hj => ?_⟩, ⟨?_, ?_, ?_, ?_⟩, fun i hi => (hp i hi).same (fun m hm => st_o _ (by simp only [T]; omega)) (fun c hc _ => by simp only [upd_ap, tx_k _ _ 11 (by decide), if_false]), fun i hi => by unfold TB; rw [st_o _ (by simp only [T]; omega)]; exact hb i hi⟩, fun i hi => (hr i hi).same (st_o _ (by simp only [T]; omega)) (fun c hc => by simp only [upd_ap, tx_k _ _ 11 (by decide), if_false])⟩
  · rw [st_o _ (by omega), upd_ap, if_neg (by omega)]; exact a1 k hk
  · simp [st_r, upd_ap, a2]
  · simp [st_r, upd_ap, a3]
  · simp [st_r, upd_ap, a4]
  · simp [st_r, upd_ap, a5]
  · simp [st_r, upd_ap]
  · rw [st_o _ (by omega), upd_ap, if_neg (by omega)]; exact a7
  · rw [st_o _ (by omega), upd_ap, if_neg (by simp only [rx]; omega)]; exact a8 c j hc hj
  · simp [st_r, upd_ap, c1]
  · simp [st_r, upd_ap, c2]
  · simp [st_r, upd_ap, c3]
  · simp [st_r, upd_ap, c4]
theorem mkV_ne3 {n c : Nat} (cause cr : Int32) (w : Vec) (h : ¬ cause = 3) (h18 : w 18 = nI c) (hc : c < 2 ^ 31) : mkV n cause cr w = mk3 (mk2 (fe w n 0) (mk1 cause (fe w n 0) w (c % 16))) := by
  simp only [mkV, h, if_false, h18, nI_clamp hc]
theorem fe_n {n : Nat} (w : Vec) : fe w n 0 < 0 ∨ ∃ j, j < n ∧ fe w n 0 = nI j := by
  rcases fe_r w n 0 with h | ⟨j, -, h2, h3, -⟩
  · exact Or.inl (by rw [h]; decide)
  · exact Or.inr ⟨j, by omega, h3⟩
theorem cdec {q n c : Nat} {σ : Sg} {w : Vec} (k : Int32) (hk : b01 k) (hS : RS q n σ w) (hG : VG n c w) (h9 : w 9 = 1) : ∃ σ', f_X0_tickRunning_92 q k σ = some ((dec n k w).1, σ') ∧ BS q n σ' (dec n k w).2 ∧ Fq q σ σ' := by
  have hn := hG.1.1
  have t10 : σ q 10 = w 14 := hS.1.2.1.2.1
  have t9 : σ q 9 = w 13 := hS.1.2.1.1
  have t0 : σ (q + 1) 0 = w 0 := hS.1.1.1 0 (by decide)
  have t1 : σ (q + 1) 1 = w 1 := hS.1.1.1 1 (by decide)
  have t6 : σ (q + 1) 6 = w 6 := hS.1.1.1 6 (by decide)
  have n1 : ¬ q + 1 = q := by omega
  have self : ∀ v : Vec, ∀ j, upd v j (v j) = v := fun v j => by funext x; simp only [upd_ap]; by_cases h : x = j <;> simp [h]
  -- a reset
  have R : ∀ cause : Int32, ¬ cause = 3 → ∃ σ', (cb (f_X0_lowestExpired_0 q σ) fun v1 σ1 => cb (f_X0_fall_0 q cause v1 σ1) fun _ σ2 => some ((1 : Int32), σ2)) = some (1, σ') ∧ BS q n σ' (mkV n cause (-6) w) ∧ Fq q σ σ' := by
    intro cause hc3
    obtain ⟨σ', z1, z2, z3⟩ := cfall cause (fe w n 0) hn hS.1 hG.1.2.1 hG.1.2.2.1 hG.1.2.2.2.1 hG.1.2.2.2.2.1 (fe_n w)
    rw [le_s hn hS hG.1.2.1, cb_some, z1, cb_some, mkV_ne3 cause (-6) w hc3 hG.1.2.2.1 hG.1.2.2.2.1]
    exact ⟨σ', rfl, z2, z3⟩
  -- no reset
  have N : ∀ (σ1 : Sg) (x : Int32), RS q n σ1 (upd w 14 x) → Fq q σ σ1 → ∃ σ', (if σ1 q 9 = σ1 (q + 1) 6 then f_X0_tickRunning_133 q (st σ1 q 7 0) else f_X0_tickRunning_133 q σ1) = some (0, σ') ∧ BS q n σ' (stb x w) ∧ Fq q σ σ' := by
    intro σ1 x hS1 hF1
    have u9 : σ1 q 9 = w 13 := by rw [hS1.1.2.1.1]; simp [upd_ap]
    have u6 : σ1 (q + 1) 6 = w 6 := by rw [hS1.1.1.1 6 (by decide)]; simp [upd_ap]
    simp only [f_X0_tickRunning_133, u9, u6, stb]
    by_cases h : w 13 = w 6
    · simp only [h, if_true]
      exact ⟨_, rfl, BS.of (hS1.n11 hn 0) (by simp [upd_ap, h9]), hF1.st (by omega) _ _⟩
    · simp only [h, if_false]
      have e : upd (upd w 14 x) 11 (w 11) = upd w 14 x := by
        have := self (upd w 14 x) 11
        rwa [show upd w 14 x 11 = w 11 by simp [upd_ap]] at this
      rw [e]
      exact ⟨_, rfl, BS.of hS1 (by simp [upd_ap, h9]), hF1⟩
  simp only [f_X0_tickRunning_92, f_X0_watch_0, f_X0_watch_19, f_X0_watch_48, t10, t0, t1, wb_eq, dec]
  rcases hk with rfl | rfl
  · simp only [if_true]
    by_cases h : w 14 ≤ w 1
    · simp only [h, if_true, cb_some]
      exact N σ (w 14) (by rw [self]; exact hS) (Fq.rf q σ)
    · simp only [h, if_false, cb_some, show ¬ (2 : Int32) = 0 by decide]
      exact R 2 (by decide)
  · simp only [show ¬ (1 : Int32) = 0 by decide, if_false]
    by_cases h : w 14 < w 0
    · have h' : ¬ w 0 ≤ w 14 := Int32.not_le.mpr h
      simp only [h, h', if_true, if_false, cb_some, show ¬ (1 : Int32) = 0 by decide]
      exact R 1 (by decide)
    · have h' : w 0 ≤ w 14 := Int32.not_lt.mp h
      simp only [h, h', if_true, if_false, cb_some]
      exact N (st σ q 10 0) 0 (hS.n14 hn 0) ((Fq.rf q σ).st (by omega) _ _)

