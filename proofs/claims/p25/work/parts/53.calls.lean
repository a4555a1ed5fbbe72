/-! THE CLASS'S CALLS, each against the row of numbers alone -/
/-- what a call gives: an answer, the board's new row -/
def Ck (fc : Sg → Option (Int32 × Sg)) (σ : Sg) (n t : Nat) (r : Int32) (w : Vec) : Prop := ∃ σ' c, fc σ = some (r, σ') ∧ BS 1 n σ' w ∧ VW n t c w ∧ Fq 1 σ σ'
theorem ck_rule {n t c k : Nat} {σ : Sg} {w : Vec} (hB : BS 1 n σ w) (hV : VW n t c w) (hk : k < 8) {v : Int32} (hr : ¬ ruR (nI k) v = 0) : Ck (f_X4_rule_0 (nI k) v) σ n t (w k) (upd w k v) := by
  have hcl : (nI k).toNatClampNeg = k := nI_clamp (by omega)
  have g1 : ¬ (nI k < 0 ∨ 8 ≤ k) := inb2 hk (by decide)
  refine ⟨st σ 2 k v, c, ?_, bs_rule hB hV.1.1.1 hk v, ru_VW hV hk hr, (Fq.rf 1 σ).st (by omega) _ _⟩
  have s : σ 2 k = w k := hB.1.1 k hk
  rw [f_X4_rule_0, isA_s, ru_eq, cb_some, if_neg hr]
  simp only [hcl, if_neg g1, wb_eq, s]
theorem ck_power {n t c : Nat} {σ : Sg} {w : Vec} (hB : BS 1 n σ w) (hV : VW n t c w) : Ck f_X4_powerCycle_0 σ n t (w 9) (swV w) := by
  obtain ⟨σ', z1, z2, z3⟩ := csw hB hV.1.1.1
  have s5 : σ 1 5 = w 9 := hB.1.2.2.2.1
  exact ⟨σ', c, by simp only [f_X4_powerCycle_0, z1, cb_some, s5], z2, sw_VW hV, z3⟩
theorem ck_run {n t c : Nat} {σ : Sg} {w : Vec} (hB : BS 1 n σ w) (hV : VW n t c w) (ht : t < 1000000) : Ck (f_X4_run_0 1) σ n (t + 1) (nI (t + 1)) (tk n w).2 := by
  have s4 : σ 1 4 = nI t := by rw [hB.1.2.2.1]; exact hV.2.1
  obtain ⟨σ1, z1, z2, z3⟩ := ctk hB hV (by omega)
  obtain ⟨c1, hV1⟩ := tk_VW hV (by omega)
  refine ⟨σ1, c1, ?_, z2, hV1, z3⟩
  have hw : ¬ win 1 1 2000 = 0 := by decide
  have hl2 : nI t + 1 ≤ 1000000 := by rw [nI_1, show (1000000 : Int32) = nI 1000000 from rfl]; exact nI_le (by omega) (by decide)
  have e : f_X4_run_33 1 FU 1 0 σ = f_X4_run_33 1 (99998 + 1 + 1) 1 0 σ := rfl
  simp only [f_X4_run_0, win_c, cb_some, hw, if_false, s4, hl2, if_true]
  rw [e, f_X4_run_33, if_neg (by decide), z1, cb_some, f_X4_run_33, if_pos (by decide)]
  have : σ1 1 4 = nI (t + 1) := by rw [z2.1.2.2.1]; exact hV1.2.1
  rw [this]
theorem ck_forecast {n t c : Nat} {σ : Sg} {w : Vec} (hB : BS 1 n σ w) (hV : VW n t c w) (h36 : TBq 36 σ) (ht : t ≤ 1000000) : ∃ σ', f_X4_forecast_0 150 σ = some ((trL n 150 1 w).1, σ') ∧ BS 1 n σ' w ∧ ∀ a, (a < 36 ∨ 71 ≤ a) → σ' a = σ a := by
  have h0 : ¬ win 150 1 5000 = 0 := by decide
  obtain ⟨s1, x1, x2, x3⟩ := bec (q := 36) (o := 1) hV.1.1.1 (Or.inr (by decide)) hB hV.1.1.2.1 h36
  obtain ⟨s2, t', c', u1, u2, u3, u4, u5⟩ := ctr_s (M := 150) (by omega) x2 hV (by omega)
  have e : ∀ a, (a < 36 ∨ 71 ≤ a) → s2 a = σ a := fun a ha => by rw [u3 a (by omega), x3 a (by omega)]
  refine ⟨s2, ?_, hB.F hV.1.1.1 (fun a h1 h2 => e a (by omega)), e⟩
  rw [f_X4_forecast_0, win_c, cb_some, if_neg h0, x1, cb_some, show (150 : Int32) = nI 150 from rfl, u1, cb_some]
theorem hasT {n i : Nat} (hn : n ≤ 6) (hi : i < n) : ¬ htR n (nI i) = 0 := by
  unfold htR win
  rw [if_neg (nI_pos (by omega)), if_neg]
  · decide
  · rw [show (1 : Int32) = nI 1 from rfl, pk_sub (by omega)]; exact nI_nlt (by omega) (by omega)
theorem ck_set {n t c i k : Nat} {σ : Sg} {w : Vec} (hB : BS 1 n σ w) (hV : VW n t c w) (hi : i < n) (hk : k < 8) {a2 : Int32} (hs : ¬ seR (nI k) a2 = 0) : Ck (f_X4_set_0 (nI i) (nI k) a2) σ n t (w (tx i k)) (upd w (tx i k) a2) := by
  have hn := hV.1.1.1
  have s3 : σ 1 3 = nI n := by rw [hB.1.2.1]; exact hV.1.1.2.1
  have hr := hasT hn hi
  have hi6 : i < 6 := by omega
  have hcl : (nI i).toNatClampNeg = i := nI_clamp (by omega)
  have hck : (nI k).toNatClampNeg = k := nI_clamp (by omega)
  have g : ¬ (nI i < 0 ∨ 6 ≤ i) := inb2 hi6 (by decide)
  have g2 : ¬ (nI k < 0 ∨ 8 ≤ k) := inb2 hk (by decide)
  obtain ⟨p1, p2, p3, p4, p5, p6⟩ := hB.2.2.2.1 i hi
  have hb := hB.2.2.2.2 i hi6
  refine ⟨st σ (T 1 i + 1) k a2, c, ?_, ?_, ?_, (Fq.rf 1 σ).st (by simp only [T]; omega) _ _⟩
  · rw [f_X4_set_0, ht_c _ σ s3, cb_some, if_neg hr, isA_s, se_eq, cb_some, if_neg hs, hcl, hck, if_neg g, if_neg g2, if_neg g2, wb_eq, show σ (3 + 3 + 5 * i + 1) k = w (tx i k) from p1 k hk]
  · have f0 : st σ (T 1 i + 1) k a2 (T 1 i) = σ (T 1 i) := st_o _ (by omega)
    refine bs_task hB hn hi (fun a ha => st_o a (by omega)) (fun j hj => by rw [upd_ap, if_neg (hj k (by omega))]) ⟨fun j hj => ?_, fun m hm => ?_, ?_, ?_, ?_, ?_⟩ (fun q => ?_) ?_
    · simp only [st_r, upd_ap, tx_same]
      by_cases hjk : j = k
      · rw [if_pos ⟨trivial, hjk⟩, if_pos hjk]
      · rw [if_neg (fun z => hjk z.2), if_neg hjk]; exact p1 j hj
    · rw [st_o _ (by omega), st_o _ (by omega), st_o _ (by omega), upd_ap, upd_ap, upd_ap, if_neg (by rw [tx_same]; omega), if_neg (by rw [tx_same]; omega), if_neg (by rw [tx_same]; omega)]; exact p2 m hm
    · rw [f0, upd_ap, if_neg (by rw [tx_same]; omega)]; exact p3
    · rw [f0, upd_ap, if_neg (by rw [tx_same]; omega)]; exact p4
    · rw [f0, upd_ap, upd_ap, if_neg (by rw [tx_same]; omega), if_neg (by rw [tx_same]; omega)]; exact p5
    · rw [f0, upd_ap, if_neg (by rw [tx_same]; omega)]; exact p6
    · have h8 := (hB.2.2.1 q).2 i hi
      have e : ∀ d, 8 ≤ d → upd w (tx i k) a2 (tx i d) = w (tx i d) := fun d hd => by rw [upd_ap, if_neg (by rw [tx_same]; omega)]
      unfold TRr
      rw [f0, e 8 (by decide), e 9 (by decide), e 10 (by decide), e 11 (by decide), e 12 (by decide), e 13 (by decide), e 14 (by decide), e 15 (by decide)]
      exact h8
    · unfold TB; rw [f0]; exact hb
  · refine vw_task hV hi (fun j hj => by rw [upd_ap, if_neg (hj k (by omega))]) ?_ (fun q => ((hV.2.2.2.2.1 q).2.1 i hi).mv (by rw [upd_ap, if_neg (by rw [tx_same]; omega)]) (by rw [upd_ap, if_neg (by rw [tx_same]; omega)]))
    obtain ⟨v0, v2, v3, v6, v7⟩ := hV.1.2.2 i hi
    have ee : ∀ d, d ≠ k → upd w (tx i k) a2 (tx i d) = w (tx i d) := fun d hd => by rw [upd_ap, if_neg (by rw [tx_same]; exact hd)]
    have es : upd w (tx i k) a2 (tx i k) = a2 := by simp [upd_ap]
    refine ⟨?_, ?_, ?_, ?_, ?_⟩
    · by_cases hk0 : k = 0
      · subst hk0
        have : ¬ win a2 (nI 1) (nI 200) = 0 := hs
        obtain ⟨m, m1, m2, m3⟩ := win_n (by decide) (by decide) this
        exact ⟨m, m1, m2, by rw [es]; exact m3⟩
      · rw [ee 0 (fun z => hk0 z.symm)]; exact v0
    · by_cases hk0 : k = 2
      · subst hk0
        have : ¬ win a2 (nI 0) (nI 199) = 0 := hs
        obtain ⟨m, m1, m2, m3⟩ := win_n (by decide) (by decide) this
        exact ⟨m, m2, by rw [es]; exact m3⟩
      · rw [ee 2 (fun z => hk0 z.symm)]; exact v2
    · by_cases hk0 : k = 3
      · subst hk0
        have : ¬ win a2 (nI 1) (nI 20) = 0 := hs
        obtain ⟨m, m1, m2, m3⟩ := win_n (by decide) (by decide) this
        exact ⟨m, m1, m2, by rw [es]; exact m3⟩
      · rw [ee 3 (fun z => hk0 z.symm)]; exact v3
    · by_cases hk0 : k = 6
      · subst hk0
        have : ¬ win a2 (nI 0) (nI 10) = 0 := hs
        obtain ⟨m, m1, m2, m3⟩ := win_n (by decide) (by decide) this
        exact ⟨m, m2, by rw [es]; exact m3⟩
      · rw [ee 6 (fun z => hk0 z.symm)]; exact v6
    · by_cases hk0 : k = 7
      · subst hk0
        have : ¬ win a2 (nI 0) (nI 500) = 0 := hs
        obtain ⟨m, m1, m2, m3⟩ := win_n (by decide) (by decide) this
        exact ⟨m, m2, by rw [es]; exact m3⟩
      · rw [ee 7 (fun z => hk0 z.symm)]; exact v7
theorem ck_fault {n t c i m kd s a : Nat} {σ : Sg} {w : Vec} (hB : BS 1 n σ w) (hV : VW n t c w) (hi : i < n) (hm : m < 2) (hkd : kd ≤ 5) (hs : s ≤ 5000) (ha : a ≤ 500) : Ck (f_X4_putFault_0 (nI m) (nI i) (nI kd) (nI s) (nI a)) σ n t (w (tx i (20 + 3 * m))) (lfV m i (nI kd) (nI s) (nI a) w) := by
  have hn := hV.1.1.1
  have s3 : σ 1 3 = nI n := by rw [hB.1.2.1]; exact hV.1.1.2.1
  have hw : ∀ x hi : Nat, x ≤ hi → hi < 2 ^ 31 → ¬ win (nI x) 0 (nI hi) = 0 := fun x hi h1 h2 => by
    unfold win; rw [if_neg (nI_pos (by omega)), if_neg (nI_nlt h1 h2)]; decide
  have h0 : ¬ win (nI m) 0 1 = 0 := hw m 1 (by omega) (by decide)
  have h1 := hasT hn hi
  have h2 : ¬ win (nI kd) 0 5 = 0 := hw kd 5 hkd (by decide)
  have h3 : ¬ win (nI s) 0 5000 = 0 := hw s 5000 hs (by decide)
  have h4 : ¬ win (nI a) 0 500 = 0 := hw a 500 ha (by decide)
  have hi6 : i < 6 := by omega
  have hcl : (nI i).toNatClampNeg = i := nI_clamp (by omega)
  have hcm : (nI m).toNatClampNeg = m := nI_clamp (by omega)
  have g : ¬ (nI i < 0 ∨ 6 ≤ i) := inb2 hi6 (by decide)
  have g2 : ¬ (nI m < 0 ∨ 2 ≤ m) := inb2 hm (by decide)
  obtain ⟨p1, p2, -⟩ := hB.2.2.2.1 i hi
  refine ⟨_, c, ?_, lf_rel hB hn hi hm (nI kd) (nI s) (nI a), lf_VW hV hi hm (nI kd) (nI s) (nI a), (((Fq.rf 1 σ).st (by simp only [T]; omega) _ _).st (by simp only [T]; omega) _ _).st (by simp only [T]; omega) _ _⟩
  rw [f_X4_putFault_0, win_c, cb_some, if_neg h0, ht_c _ σ s3, cb_some, if_neg h1, win_c, cb_some, if_neg h2, win_c, cb_some, if_neg h3, win_c, cb_some, if_neg h4, hcl, hcm, if_neg g, if_neg g2, if_neg g, tf_s hm, cb_some, show σ (3 + 3 + 5 * i + 2) m = w (tx i (20 + 3 * m)) from (p2 m hm).1]
theorem ck_add {n t c m0 m1 : Nat} {σ : Sg} {w : Vec} (hB : BS 1 n σ w) (hV : VW n t c w) (hn5 : n < 6) (m01 : 1 ≤ m0) (m02 : m0 ≤ 200) (m11 : 1 ≤ m1) (m12 : m1 ≤ 200) : Ck (f_X4_addTask_0 (nI m0) (nI m1)) σ (n + 1) t (nI n) (adV n (nI m0) (nI m1) w) := by
  have s3 : σ 1 3 = nI n := by rw [hB.1.2.1]; exact hV.1.1.2.1
  have e0 : ∀ x, f_X4_isAllowed_0 0 x 3 4 σ = some (win x 1 200, σ) := fun x => by rw [isA_s]; rfl
  have e1 : ∀ x, f_X4_isAllowed_0 1 x 3 4 σ = some (win x 1 200, σ) := fun x => by rw [isA_s]; rfl
  have hw : ∀ x : Nat, 1 ≤ x → x ≤ 200 → ¬ win (nI x) 1 200 = 0 := fun x h1 h2 => by
    unfold win; rw [if_neg (show ¬ nI x < (1 : Int32) from nI_nlt (b := 1) h1 (by omega)), if_neg (show ¬ (200 : Int32) < nI x from nI_nlt (a := 200) h2 (by decide))]; decide
  have h0 := hw m0 m01 m02
  have h1 := hw m1 m11 m12
  have hcl : (nI n).toNatClampNeg = n := nI_clamp (by omega)
  have g : ¬ (nI n < 0 ∨ 6 ≤ n) := inb2 hn5 (by decide)
  have lt6 : nI n < 6 := by rw [show (6 : Int32) = nI 6 from rfl]; exact nI_lt hn5 (by decide)
  have ne6 : ¬ nI n = 6 := fun z => by
    have := nI_toInt (n := n) (by omega)
    rw [z] at this
    have h6 : (6 : Int32).toInt = 6 := by decide
    omega
  have hz : ∀ d, d < 26 → w (tx n d) = 0 := fun d hd => hV.2.2.2.2.2.2.2 n d (Nat.le_refl n) hn5 hd
  obtain ⟨σ', z1, z2, z3, z4, z5⟩ := bn (q := 1) (nI m0) (nI m1) (hB.2.2.2.2 n hn5) hz
  have f1 : σ' 1 = σ 1 := z5 1 (by simp only [T]; omega)
  have ne1 : T 1 n ≠ 1 := by simp only [T]; omega
  refine ⟨st σ' 1 3 (nI n + 1), c, ?_, ?_, ?_, fun a ha => ?_⟩
  · rw [f_X4_addTask_0, e0, cb_some, if_neg h0, e1, cb_some, if_neg h1, s3, hcl, if_pos lt6, if_neg g]
    rw [show f_X3_becomeNew_0 (3 + 3 + 5 * n) (nI m0) (nI m1) σ = some (0, σ') from z1]
    simp only [cb_some, wb_eq, f1, s3]
  · refine bs_add hB hn5 (fun a ha h1 => by rw [st_o a h1]; exact z5 a ha) (fun k hk => by rw [st_r, if_neg (fun z => hk z.2), f1]) ?_ (fun k h hk => ad_k n _ _ w h hk) ?_ ?_ ?_
    · simp [st_r, adV, upd_ap, tx_k, k_tx]
    · exact z2.same (fun m hm => st_o _ (by simp only [T]; omega)) (fun _ _ _ => rfl)
    · exact z3.same (st_o _ ne1) (fun _ _ => rfl)
    · unfold TB; rw [st_o _ ne1]; exact z4
  · refine vw_add hV hn5 ?_ (fun k h hk => ad_k n _ _ w h hk) ?_ ?_
    · rw [show nI (n + 1) = nI n + 1 from (nI_add n 1).symm]; simp [adV, upd_ap, tx_k, k_tx]
    · refine ⟨⟨m0, m01, m02, ?_⟩, ⟨0, by decide, ?_⟩, ⟨1, by decide, by decide, ?_⟩, ⟨1, by decide, ?_⟩, ⟨0, by decide, ?_⟩⟩ <;> rw [ad_t n _ _ hz (by decide)] <;> rfl
    · refine ⟨?_, 0, by decide, ?_, fun _ => by decide⟩
      · rw [ad_t n _ _ hz (by decide)]; exact Or.inl rfl
      · rw [ad_t n _ _ hz (by decide)]; rfl
  · rw [st_o a (by omega)]; exact z5 a (by simp only [T]; omega)
