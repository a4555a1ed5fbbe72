/-! calls on one task -/
theorem bs_task {q n i : Nat} {σ σ' : Sg} {w w' : Vec} (h : BS q n σ w) (hn : n ≤ 6) (hi : i < n) (F : ∀ a, (a < T q i ∨ T q i + 5 ≤ a) → σ' a = σ a) (Wk : ∀ k, (∀ c, c < 26 → k ≠ tx i c) → w' k = w k) (p : TRp (T q i) i σ' w') (r : w 9 = 1 → TRr (T q i) i σ' w') (b : TB (T q i) σ') : BS q n σ' w' := by
  obtain ⟨⟨a1, a2, a3, a4, a5, a6, a7, a8⟩, h0, h1, hp, hb⟩ := h
  have f0 := F q (by simp only [T]; omega)
  have e : ∀ k, k < 19 → w' k = w k := fun k hk => Wk k (fun c _ => by simp only [tx]; omega)
  have et : ∀ j c, j ≠ i → c < 26 → w' (tx j c) = w (tx j c) := fun j c hj hc => Wk _ (fun d hd => by simp only [tx]; omega)
  refine ⟨⟨fun k hk => by rw [F _ (by simp only [T]; omega), e k (by omega)]; exact a1 k hk, by rw [f0, e 17 (by decide)]; exact a2, by rw [f0, e 8 (by decide)]; exact a3, by rw [f0, e 9 (by decide)]; exact a4, by rw [f0, e 10 (by decide)]; exact a5, by rw [f0, e 11 (by decide)]; exact a6, by rw [F _ (by simp only [T]; omega), e 18 (by decide)]; exact a7, fun c j hc hj => by rw [F _ (by simp only [T]; omega), Wk _ (fun d hd => by simp only [tx, rx]; omega)]; exact a8 c j hc hj⟩, fun q9 => ?_, fun q9 => ?_, fun j hj => ?_, fun j hj => ?_⟩
  · rw [e 9 (by decide)] at q9; rw [f0, e 12 (by decide)]; exact h0 q9
  · rw [e 9 (by decide)] at q9
    obtain ⟨⟨c1, c2, c3, c4⟩, hr⟩ := h1 q9
    refine ⟨⟨by rw [f0, e 13 (by decide)]; exact c1, by rw [f0, e 14 (by decide)]; exact c2, by rw [f0, e 15 (by decide)]; exact c3, by rw [f0, e 16 (by decide)]; exact c4⟩, fun j hj => ?_⟩
    by_cases hji : j = i
    · subst hji; exact r q9
    · exact (hr j hj).same (F _ (by simp only [T]; omega)) (fun c hc => et j c hji hc)
  · by_cases hji : j = i
    · subst hji; exact p
    · exact (hp j hj).same (fun m hm => F _ (by simp only [T]; omega)) (fun c hc _ => et j c hji hc)
  · by_cases hji : j = i
    · subst hji; exact b
    · unfold TB; rw [F _ (by simp only [T]; omega)]; exact hb j hj
theorem vw_task {n t c i : Nat} {w w' : Vec} (hV : VW n t c w) (hi : i < n) (Wk : ∀ k, (∀ c, c < 26 → k ≠ tx i c) → w' k = w k) (vt : VT i w') (vf : w 9 = 1 → VF i w') : VW n t c w' := by
  obtain ⟨⟨⟨v1, v2, v3, v4, v5, v6, v7⟩, ⟨p, hp1, hp2, hp⟩, hvt⟩, g2, g3, g4, g5, g6, ⟨b, h1, h2, h3⟩, g8⟩ := hV
  have e : ∀ k, k < 19 → w' k = w k := fun k hk => Wk k (fun c _ => by simp only [tx]; omega)
  have et : ∀ j c, j ≠ i → c < 26 → w' (tx j c) = w (tx j c) := fun j c hj hc => Wk _ (fun d hd => by simp only [tx]; omega)
  have nz : ∀ {x : Int32} {m : Nat}, 1 ≤ m → m ≤ 200 → x = nI m → ¬ x = 0 := fun a b c => by rw [c]; exact nI_ne0 (by omega) (by omega)
  refine ⟨⟨⟨v1, by rw [e 17 (by decide)]; exact v2, by rw [e 18 (by decide)]; exact v3, v4, by rw [e 10 (by decide)]; exact v5, by rw [e 2 (by decide)]; exact v6, fun j hj => ?_⟩, ⟨p, hp1, hp2, by rw [e 2 (by decide)]; exact hp⟩, fun j hj => ?_⟩, by rw [e 8 (by decide)]; exact g2, by rw [e 9 (by decide)]; exact g3, g4, fun q => ?_, fun q => ?_, ⟨b, h1, h2, by rw [e 5 (by decide)]; exact h3⟩, fun j d hj hj6 hd => by rw [et j d (by omega) hd]; exact g8 j d hj hj6 hd⟩
  · by_cases hji : j = i
    · subst hji
      obtain ⟨⟨m, m1, m2, m3⟩, -, ⟨m', m1', m2', m3'⟩, -⟩ := vt
      exact ⟨nz m1 m2 m3, nz m1' (by omega) m3'⟩
    · rw [et j 0 hji (by decide), et j 3 hji (by decide)]; exact v7 j hj
  · by_cases hji : j = i
    · subst hji; exact vt
    · exact (hvt j hj).mv (fun d hd => et j d hji (by omega))
  · rw [e 9 (by decide)] at q
    obtain ⟨k1, k2, u, k3, k4⟩ := g5 q
    refine ⟨k1, fun j hj => ?_, u, k3, by rw [e 13 (by decide)]; exact k4⟩
    by_cases hji : j = i
    · subst hji; exact vf q
    · exact (k2 j hj).mv (et j 13 hji (by decide)) (et j 15 hji (by decide))
  · rw [e 9 (by decide)] at q
    rw [e 12 (by decide)]
    exact g6 q
def htR (n : Nat) (a0 : Int32) : Int32 := win a0 0 (nI n - 1)
theorem ht_c {n : Nat} (a0 : Int32) (σ : Sg) (h : σ 1 3 = nI n) : f_X4_hasTask_0 a0 σ = some (htR n a0, σ) := by
  have hb : htR n a0 = 0 ∨ htR n a0 = 1 := win_b _ _ _
  simp only [f_X4_hasTask_0, win_c, cb_some, h]
  exact if_pos hb
theorem ht_r {n : Nat} (a0 : Int32) (b : Sg) (w : Vec) (h : w 17 = nI n) : f_X5_isTask_0 a0 (rb b w) = some (htR n a0, rb b w) := by
  have hb : htR n a0 = 0 ∨ htR n a0 = 1 := win_b _ _ _
  simp only [f_X5_isTask_0, win_r, cb_some, rb_151, h]
  exact if_pos hb
theorem ht_n {n : Nat} (hn : n ≤ 6) {a0 : Int32} (h : ¬ htR n a0 = 0) : ∃ i, i < n ∧ a0 = nI i := by
  cases n with
  | zero =>
    exfalso
    apply h
    unfold htR win
    by_cases h1 : a0 < 0
    · rw [if_pos h1]
    · rw [if_neg h1, if_pos]
      obtain ⟨m, hm, rfl⟩ := nI_of h1
      have e1 := nI_toInt hm
      rw [Int32.lt_iff_toInt_lt, e1]
      have : (nI 0 - 1).toInt = -1 := by decide
      omega
  | succ n =>
    unfold htR at h
    rw [nI_pred, show (0 : Int32) = nI 0 from rfl] at h
    obtain ⟨m, -, m2, m3⟩ := win_n (by omega) (by decide) h
    exact ⟨m, by omega, m3⟩
theorem ag_clear (a0 : Int32) : Ag (f_X4_clear_0 a0) (f_X5_clear_0 a0) := by
  intro n t c σ w hB hV ht
  have hn := hV.1.1.1
  have s3 : σ 1 3 = nI n := by rw [hB.1.2.1]; exact hV.1.1.2.1
  by_cases hr : htR n a0 = 0
  · exact ag_same hB hV ht (-1) (by simp only [f_X4_clear_0, ht_c a0 σ s3, cb_some, hr, if_true]) (fun b => by simp only [f_X5_clear_0, ht_r a0 b w hV.1.1.2.1, cb_some, hr, if_true])
  · obtain ⟨i, hi, rfl⟩ := ht_n hn hr
    have hi6 : i < 6 := by omega
    have hcl : (nI i).toNatClampNeg = i := nI_clamp (by omega)
    have g : ¬ (nI i < 0 ∨ 6 ≤ i) := inb2 hi6 (by decide)
    obtain ⟨p1, p2, p3, p4, p5, p6⟩ := hB.2.2.2.1 i hi
    have hb := hB.2.2.2.2 i hi6
    refine ⟨w (tx i 16), st (st (st σ (T 1 i) 12 0) (T 1 i) 13 0) (T 1 i) 15 0, upd (upd (upd w (tx i 16) 0) (tx i 17) 0) (tx i 19) 0, n, t, c, ?_, fun b => ?_, ?_, ?_, ht, (((Fq.rf 1 σ).st (by simp only [T]; omega) _ _).st (by simp only [T]; omega) _ _).st (by simp only [T]; omega) _ _⟩
    · rw [f_X4_clear_0, ht_c _ σ s3, cb_some, if_neg hr, hcl, if_neg g, if_neg g]
      simp only [f_X3_clearDiagnostic_0, wb_eq, cb_some, show σ (3 + 3 + 5 * i) 12 = w (tx i 16) from p3]
    · rw [f_X5_clear_0, ht_r _ b w hV.1.1.2.1, cb_some, if_neg hr, of_16 hi6, cb_some, lay_16 hi6, cb_some, lay_17 hi6, cb_some, lay_19 hi6, cb_some]
    · refine bs_task hB hn hi (fun a ha => ?_) (fun k hk => ?_) ⟨fun k hk => ?_, fun m hm => ?_, ?_, ?_, ?_, ?_⟩ (fun q => ?_) ?_
      · simp only [st_o a (show a ≠ T 1 i by omega)]
      · simp [upd_ap, hk 16 (by decide), hk 17 (by decide), hk 19 (by decide)]
      · have : ¬ k = 16 ∧ ¬ k = 17 ∧ ¬ k = 19 := by omega
        simp only [st_o (T 1 i + 1) (show T 1 i + 1 ≠ T 1 i by omega)]
        simp [upd_ap, tx_same, this, p1 k hk]
      · have : ∀ d e, d < 20 → 20 ≤ e → ¬ e + 3 * m = d := by omega
        simp only [st_o (T 1 i + 2) (show T 1 i + 2 ≠ T 1 i by omega), st_o (T 1 i + 3) (show T 1 i + 3 ≠ T 1 i by omega), st_o (T 1 i + 4) (show T 1 i + 4 ≠ T 1 i by omega)]
        simp [upd_ap, tx_same, this, p2 m hm]
      · simp [st_r, upd_ap, tx_same]
      · simp [st_r, upd_ap, tx_same]
      · simp [upd_ap, tx_same]
      · simp [st_r, upd_ap]
      · have := (hB.2.2.1 q).2 i hi
        simpa [TRr, st_r, upd_ap, tx_same] using this
      · simp only [TB, st_r]; simp [b01] at *; exact ⟨hb.1, hb.2.1, hb.2.2.1, hb.2.2.2.1⟩
    · refine vw_task hV hi (fun k hk => ?_) ((hV.1.2.2 i hi).mv (fun d hd => ?_)) (fun q => ((hV.2.2.2.2.1 q).2.1 i hi).mv ?_ ?_)
      · simp [upd_ap, hk 16 (by decide), hk 17 (by decide), hk 19 (by decide)]
      · have : ¬ d = 16 ∧ ¬ d = 17 ∧ ¬ d = 19 := by omega
        simp [upd_ap, tx_same, this]
      · simp [upd_ap, tx_same]
      · simp [upd_ap, tx_same]
theorem ag_set (a0 a1 a2 : Int32) : Ag (f_X4_set_0 a0 a1 a2) (f_X5_set_0 a0 a1 a2) := by
  intro n t c σ w hB hV ht
  have hn := hV.1.1.1
  have s3 : σ 1 3 = nI n := by rw [hB.1.2.1]; exact hV.1.1.2.1
  by_cases hr : htR n a0 = 0
  · exact ag_same hB hV ht (-1) (by simp only [f_X4_set_0, ht_c a0 σ s3, cb_some, hr, if_true]) (fun b => by simp only [f_X5_set_0, ht_r a0 b w hV.1.1.2.1, cb_some, hr, if_true])
  · by_cases hs : seR a1 a2 = 0
    · exact ag_same hB hV ht (-2) (by rw [f_X4_set_0, ht_c a0 σ s3, cb_some, if_neg hr, isA_s, se_eq, cb_some, if_pos hs]) (fun b => by rw [f_X5_set_0, ht_r a0 b w hV.1.1.2.1, cb_some, if_neg hr, isS_s, cb_some, if_pos hs])
    · obtain ⟨i, hi, rfl⟩ := ht_n hn hr
      obtain ⟨k, hk, rfl⟩ := se_k hs
      have hi6 : i < 6 := by omega
      have hcl : (nI i).toNatClampNeg = i := nI_clamp (by omega)
      have hck : (nI k).toNatClampNeg = k := nI_clamp (by omega)
      have g : ¬ (nI i < 0 ∨ 6 ≤ i) := inb2 hi6 (by decide)
      have g2 : ¬ (nI k < 0 ∨ 8 ≤ k) := inb2 hk (by decide)
      obtain ⟨p1, p2, p3, p4, p5, p6⟩ := hB.2.2.2.1 i hi
      have hb := hB.2.2.2.2 i hi6
      refine ⟨w (tx i k), st σ (T 1 i + 1) k a2, upd w (tx i k) a2, n, t, c, ?_, fun b => ?_, ?_, ?_, ht, (Fq.rf 1 σ).st (by simp only [T]; omega) _ _⟩
      · rw [f_X4_set_0, ht_c _ σ s3, cb_some, if_neg hr, isA_s, se_eq, cb_some, if_neg hs, hcl, hck, if_neg g, if_neg g2, if_neg g2, wb_eq, show σ (3 + 3 + 5 * i + 1) k = w (tx i k) from p1 k hk]
      · rw [f_X5_set_0, ht_r _ b w hV.1.1.2.1, cb_some, if_neg hr, isS_s, cb_some, if_neg hs, of_s hi6 (c := k) (by omega), cb_some, lay_s hi6 (c := k) (by omega), cb_some]
      · have f0 : st σ (T 1 i + 1) k a2 (T 1 i) = σ (T 1 i) := st_o _ (by omega)
        refine bs_task hB hn hi (fun a ha => st_o a (by omega)) (fun j hj => by rw [upd_ap, if_neg (hj k (by omega))]) ⟨fun j hj => ?_, fun m hm => ?_, ?_, ?_, ?_, ?_⟩ (fun q => ?_) ?_
        · simp only [st_r, upd_ap, tx_same]
          by_cases hjk : j = k
          · rw [if_pos ⟨trivial, hjk⟩, if_pos hjk]
          · rw [if_neg (fun z => hjk z.2), if_neg hjk]; exact p1 j hj
        · rw [st_o _ (by omega), st_o _ (by omega), st_o _ (by omega), upd_ap, upd_ap, upd_ap, if_neg (by rw [tx_same]; omega), if_neg (by rw [tx_same]; omega), if_neg (by rw [tx_same]; omega)]; exact p2 m hm
        · rw [f0, upd_ap, if_neg (by rw [tx_same]; omega)]; exact p3
        · rw [f0, upd_ap, if_neg (by rw [tx_same]; omega)]; exact p4
        · rw [f0, upd_ap, upd_ap, if_neg (by rw [tx_same]; omega), if_neg (by rw [tx_same]; omega)]; exact p5
        · rw [f0, upd_ap, if_neg (by rw [tx_same]; omega)]; exact p6
        · have h8 := (hB.2.2.1 q).2 i hi
          have e : ∀ d, 8 ≤ d → upd w (tx i k) a2 (tx i d) = w (tx i d) := fun d hd => by rw [upd_ap, if_neg (by rw [tx_same]; omega)]
          unfold TRr
          rw [f0, e 8 (by decide), e 9 (by decide), e 10 (by decide), e 11 (by decide), e 12 (by decide), e 13 (by decide), e 14 (by decide), e 15 (by decide)]
          exact h8
        · unfold TB; rw [f0]; exact hb
      · refine vw_task hV hi (fun j hj => by rw [upd_ap, if_neg (hj k (by omega))]) ?_ (fun q => ((hV.2.2.2.2.1 q).2.1 i hi).mv (by rw [upd_ap, if_neg (by rw [tx_same]; omega)]) (by rw [upd_ap, if_neg (by rw [tx_same]; omega)]))
        obtain ⟨v0, v2, v3, v6, v7⟩ := hV.1.2.2 i hi
        have ee : ∀ d, d ≠ k → upd w (tx i k) a2 (tx i d) = w (tx i d) := fun d hd => by rw [upd_ap, if_neg (by rw [tx_same]; exact hd)]
        have es : upd w (tx i k) a2 (tx i k) = a2 := by simp [upd_ap]
        refine ⟨?_, ?_, ?_, ?_, ?_⟩
        · by_cases hk0 : k = 0
          · subst hk0
            have : ¬ win a2 (nI 1) (nI 200) = 0 := hs
            obtain ⟨m, m1, m2, m3⟩ := win_n (by decide) (by decide) this
            exact ⟨m, m1, m2, by rw [es]; exact m3⟩
          · rw [ee 0 (fun z => hk0 z.symm)]; exact v0
        · by_cases hk0 : k = 2
          · subst hk0
            have : ¬ win a2 (nI 0) (nI 199) = 0 := hs
            obtain ⟨m, m1, m2, m3⟩ := win_n (by decide) (by decide) this
            exact ⟨m, m2, by rw [es]; exact m3⟩
          · rw [ee 2 (fun z => hk0 z.symm)]; exact v2
        · by_cases hk0 : k = 3
          · subst hk0
            have : ¬ win a2 (nI 1) (nI 20) = 0 := hs
            obtain ⟨m, m1, m2, m3⟩ := win_n (by decide) (by decide) this
            exact ⟨m, m1, m2, by rw [es]; exact m3⟩
          · rw [ee 3 (fun z => hk0 z.symm)]; exact v3
        · by_cases hk0 : k = 6
          · subst hk0
            have : ¬ win a2 (nI 0) (nI 10) = 0 := hs
            obtain ⟨m, m1, m2, m3⟩ := win_n (by decide) (by decide) this
            exact ⟨m, m2, by rw [es]; exact m3⟩
          · rw [ee 6 (fun z => hk0 z.symm)]; exact v6
        · by_cases hk0 : k = 7
          · subst hk0
            have : ¬ win a2 (nI 0) (nI 500) = 0 := hs
            obtain ⟨m, m1, m2, m3⟩ := win_n (by decide) (by decide) this
            exact ⟨m, m2, by rw [es]; exact m3⟩
          · rw [ee 7 (fun z => hk0 z.symm)]; exact v7
/-- a fault goes in -/
theorem tf_s {t m : Nat} (hm : m < 2) (kind start amount : Int32) (σ : Sg) : f_X3_takeFault_0 t (nI m) kind start amount σ = some (0, st (st (st σ (t + 2) m kind) (t + 3) m start) (t + 4) m amount) := by
  have hcl : (nI m).toNatClampNeg = m := nI_clamp (by omega)
  have g1 : ¬ nI m < 0 := nI_pos (by omega)
  have g2 : nI m < 2 := by rw [show (2 : Int32) = nI 2 from rfl]; exact nI_lt hm (by decide)
  have g3 : ¬ 2 ≤ m := by omega
  simp only [f_X3_takeFault_0, hcl, g1, g2, g3, if_true, if_false, or_false, wb_eq]
theorem lf_rel {q n i m : Nat} {σ : Sg} {w : Vec} (hB : BS q n σ w) (hn : n ≤ 6) (hi : i < n) (hm : m < 2) (kind start amount : Int32) : BS q n (st (st (st σ (T q i + 2) m kind) (T q i + 3) m start) (T q i + 4) m amount) (lfV m i kind start amount w) := by
  obtain ⟨p1, p2, p3, p4, p5, p6⟩ := hB.2.2.2.1 i hi
  have f0 : st (st (st σ (T q i + 2) m kind) (T q i + 3) m start) (T q i + 4) m amount (T q i) = σ (T q i) := by rw [st_o _ (by omega), st_o _ (by omega), st_o _ (by omega)]
  have e : ∀ d, d < 20 → lfV m i kind start amount w (tx i d) = w (tx i d) := fun d hd => by
    have q1 : ¬ d = 20 + 3 * m ∧ ¬ d = 21 + 3 * m ∧ ¬ d = 22 + 3 * m := by omega
    simp [lfV, upd_ap, tx_same, q1]
  refine bs_task hB hn hi (fun a ha => by rw [st_o _ (by omega), st_o _ (by omega), st_o _ (by omega)]) (fun k hk => by simp [lfV, upd_ap, hk (20 + 3 * m) (by omega), hk (21 + 3 * m) (by omega), hk (22 + 3 * m) (by omega)]) ⟨fun k hk => ?_, fun d hd => ?_, ?_, ?_, ?_, ?_⟩ (fun q9 => ?_) ?_
  · rw [st_o _ (by omega), st_o _ (by omega), st_o _ (by omega), e k (by omega)]; exact p1 k hk
  · obtain ⟨x1, x2, x3⟩ := p2 d hd
    have n1 : ¬ T q i + 2 = T q i + 3 ∧ ¬ T q i + 2 = T q i + 4 ∧ ¬ T q i + 3 = T q i + 2 ∧ ¬ T q i + 3 = T q i + 4 ∧ ¬ T q i + 4 = T q i + 2 ∧ ¬ T q i + 4 = T q i + 3 := by omega
    have n2 : ¬ 20 + 3 * d = 21 + 3 * m ∧ ¬ 20 + 3 * d = 22 + 3 * m ∧ ¬ 21 + 3 * d = 20 + 3 * m ∧ ¬ 21 + 3 * d = 22 + 3 * m ∧ ¬ 22 + 3 * d = 20 + 3 * m ∧ ¬ 22 + 3 * d = 21 + 3 * m := by omega
    by_cases hdm : d = m
    · subst hdm
      simp only [st_r, lfV, upd_ap, tx_same, n1, n2, false_and, and_self, if_true, if_false]
    · have n3 : ¬ 20 + 3 * d = 20 + 3 * m ∧ ¬ 21 + 3 * d = 21 + 3 * m ∧ ¬ 22 + 3 * d = 22 + 3 * m := by omega
      simp only [st_r, lfV, upd_ap, tx_same, n2, n3, hdm, and_false, if_false, x1, x2, x3]
      trivial
  · rw [f0, e 16 (by decide)]; exact p3
  · rw [f0, e 17 (by decide)]; exact p4
  · rw [f0, e 17 (by decide), e 18 (by decide)]; exact p5
  · rw [f0, e 19 (by decide)]; exact p6
  · have h8 := (hB.2.2.1 q9).2 i hi
    unfold TRr
    rw [f0, e 8 (by decide), e 9 (by decide), e 10 (by decide), e 11 (by decide), e 12 (by decide), e 13 (by decide), e 14 (by decide), e 15 (by decide)]
    exact h8
  · unfold TB; rw [f0]; exact hB.2.2.2.2 i (by omega)
theorem lf_VW {n t c i m : Nat} {w : Vec} (hV : VW n t c w) (hi : i < n) (hm : m < 2) (kind start amount : Int32) : VW n t c (lfV m i kind start amount w) := by
  have e : ∀ d, d < 20 → lfV m i kind start amount w (tx i d) = w (tx i d) := fun d hd => by
    have q1 : ¬ d = 20 + 3 * m ∧ ¬ d = 21 + 3 * m ∧ ¬ d = 22 + 3 * m := by omega
    simp [lfV, upd_ap, tx_same, q1]
  exact vw_task hV hi (fun k hk => by simp [lfV, upd_ap, hk (20 + 3 * m) (by omega), hk (21 + 3 * m) (by omega), hk (22 + 3 * m) (by omega)]) ((hV.1.2.2 i hi).mv (fun d hd => e d (by omega))) (fun q => ((hV.2.2.2.2.1 q).2.1 i hi).mv (e 13 (by decide)) (e 15 (by decide)))
theorem ag_putFault (a0 a1 a2 a3 a4 : Int32) : Ag (f_X4_putFault_0 a0 a1 a2 a3 a4) (f_X5_putFault_0 a0 a1 a2 a3 a4) := by
  intro n t c σ w hB hV ht
  have hn := hV.1.1.1
  have s3 : σ 1 3 = nI n := by rw [hB.1.2.1]; exact hV.1.1.2.1
  by_cases h0 : win a0 0 1 = 0
  · exact ag_same hB hV ht (-1) (by rw [f_X4_putFault_0, win_c, cb_some, if_pos h0, f_X4_putFault_17]) (fun b => by rw [f_X5_putFault_0, win_r, cb_some, if_pos h0, f_X5_putFault_17])
  by_cases h1 : htR n a1 = 0
  · exact ag_same hB hV ht (-1) (by rw [f_X4_putFault_0, win_c, cb_some, if_neg h0, ht_c _ σ s3, cb_some, if_pos h1, f_X4_putFault_17]) (fun b => by rw [f_X5_putFault_0, win_r, cb_some, if_neg h0, ht_r _ b w hV.1.1.2.1, cb_some, if_pos h1, f_X5_putFault_17])
  by_cases h2 : win a2 0 5 = 0
  · exact ag_same hB hV ht (-2) (by rw [f_X4_putFault_0, win_c, cb_some, if_neg h0, ht_c _ σ s3, cb_some, if_neg h1, win_c, cb_some, if_pos h2, f_X4_putFault_52]) (fun b => by rw [f_X5_putFault_0, win_r, cb_some, if_neg h0, ht_r _ b w hV.1.1.2.1, cb_some, if_neg h1, win_r, cb_some, if_pos h2, f_X5_putFault_52])
  by_cases h3 : win a3 0 5000 = 0
  · exact ag_same hB hV ht (-2) (by rw [f_X4_putFault_0, win_c, cb_some, if_neg h0, ht_c _ σ s3, cb_some, if_neg h1, win_c, cb_some, if_neg h2, win_c, cb_some, if_pos h3, f_X4_putFault_52]) (fun b => by rw [f_X5_putFault_0, win_r, cb_some, if_neg h0, ht_r _ b w hV.1.1.2.1, cb_some, if_neg h1, win_r, cb_some, if_neg h2, win_r, cb_some, if_pos h3, f_X5_putFault_52])
  by_cases h4 : win a4 0 500 = 0
  · exact ag_same hB hV ht (-2) (by rw [f_X4_putFault_0, win_c, cb_some, if_neg h0, ht_c _ σ s3, cb_some, if_neg h1, win_c, cb_some, if_neg h2, win_c, cb_some, if_neg h3, win_c, cb_some, if_pos h4, f_X4_putFault_52]) (fun b => by rw [f_X5_putFault_0, win_r, cb_some, if_neg h0, ht_r _ b w hV.1.1.2.1, cb_some, if_neg h1, win_r, cb_some, if_neg h2, win_r, cb_some, if_neg h3, win_r, cb_some, if_pos h4, f_X5_putFault_52])
  obtain ⟨m, -, hm2, rfl⟩ := win_n (lo := 0) (hi := 1) (by decide) (by decide) h0
  obtain ⟨i, hi, rfl⟩ := ht_n hn h1
  have hm : m < 2 := by omega
  have hi6 : i < 6 := by omega
  have hcl : (nI i).toNatClampNeg = i := nI_clamp (by omega)
  have hcm : (nI m).toNatClampNeg = m := nI_clamp (by omega)
  have g : ¬ (nI i < 0 ∨ 6 ≤ i) := inb2 hi6 (by decide)
  have g2 : ¬ (nI m < 0 ∨ 2 ≤ m) := inb2 hm (by decide)
  have e20 : (20 : Int32) + 3 * nI m = nI (20 + 3 * m) := by rw [show (20 : Int32) = nI 20 from rfl, show (3 : Int32) = nI 3 from rfl, pk_mul, nI_add]
  obtain ⟨p1, p2, -⟩ := hB.2.2.2.1 i hi
  refine ⟨w (tx i (20 + 3 * m)), _, lfV m i a2 a3 a4 w, n, t, c, ?_, fun b => ?_, lf_rel hB hn hi hm a2 a3 a4, lf_VW hV hi hm a2 a3 a4, ht, (((Fq.rf 1 σ).st (by simp only [T]; omega) _ _).st (by simp only [T]; omega) _ _).st (by simp only [T]; omega) _ _⟩
  · rw [f_X4_putFault_0, win_c, cb_some, if_neg h0, ht_c _ σ s3, cb_some, if_neg h1, win_c, cb_some, if_neg h2, win_c, cb_some, if_neg h3, win_c, cb_some, if_neg h4, hcl, hcm, if_neg g, if_neg g2, if_neg g, tf_s hm, cb_some, show σ (3 + 3 + 5 * i + 2) m = w (tx i (20 + 3 * m)) from (p2 m hm).1]
  · rw [f_X5_putFault_0, win_r, cb_some, if_neg h0, ht_r _ b w hV.1.1.2.1, cb_some, if_neg h1, win_r, cb_some, if_neg h2, win_r, cb_some, if_neg h3, win_r, cb_some, if_neg h4, e20, of_s hi6 (c := 20 + 3 * m) (by omega), cb_some, lf_s hm hi6, cb_some]
