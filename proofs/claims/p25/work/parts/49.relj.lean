/-! calls on one task -/
theorem bs_task {q n i : Nat} {σ σ' : Sg} {w w' : Vec} (h : BS q n σ w) (hn : n ≤ 6) (hi : i < n) (F : ∀ a, (a < T q i ∨ T q i + 5 ≤ a) → σ' a = σ a) (Wk : ∀ k, (∀ c, c < 26 → k ≠ tx i c) → w' k = w k) (p : TRp (T q i) i σ' w') (r : w 9 = 1 → TRr (T q i) i σ' w') (b : TB (T q i) σ') : BS q n σ' w' := by
  obtain ⟨⟨a1, a2, a3, a4, a5, a6, a7, a8⟩, h0, h1, hp, hb⟩ := h
  have f0 := F q (by simp only [T]; omega)
  have e : ∀ k, k < 19 → w' k = w k := fun k hk => Wk k (fun c _ => by simp only [tx]; omega)
  have et : ∀ j c, j ≠ i → c < 26 → w' (tx j c) = w (tx j c) := fun j c hj hc => Wk _ (fun d hd => by simp only [tx]; omega)
  refine ⟨⟨fun k hk => by rw [F _ (by simp only [T]; omega), e k (by omega)]; exact a1 k hk, by rw [f0, e 17 (by decide)]; exact a2, by rw [f0, e 8 (by decide)]; exact a3, by rw [f0, e 9 (by decide)]; exact a4, by rw [f0, e 10 (by decide)]; exact a5, by rw [f0, e 11 (by decide)]; exact a6, by rw [F _ (by simp only [T]; omega), e 18 (by decide)]; exact a7, fun c j hc hj => by rw [F _ (by simp only [T]; omega), Wk _ (fun d hd => by simp only [tx, rx]; omega)]; exact a8 c j hc hj⟩, fun q9 => ?_, fun q9 => ?_, fun j hj => ?_, fun j hj => ?_⟩
  · rw [e 9 (by decide)] at q9; rw [f0, e 12 (by decide)]; exact h0 q9
  · rw [e 9 (by decide)] at q9
    obtain ⟨⟨c1, c2, c3, c4⟩, hr⟩ := h1 q9
    refine ⟨⟨by rw [f0, e 13 (by decide)]; exact c1, by rw [f0, e 14 (by decide)]; exact c2, by rw [f0, e 15 (by decide)]; exact c3, by rw [f0, e 16 (by decide)]; exact c4⟩, fun j hj => ?_⟩
    by_cases hji : j = i
    · subst hji; exact r q9
    · exact (hr j hj).same (F _ (by simp only [T]; omega)) (fun c hc => et j c hji hc)
  · by_cases hji : j = i
    · subst hji; exact p
    · exact (hp j hj).same (fun m hm => F _ (by simp only [T]; omega)) (fun c hc _ => et j c hji hc)
  · by_cases hji : j = i
    · subst hji; exact b
    · unfold TB; rw [F _ (by simp only [T]; omega)]; exact hb j hj
theorem vw_task {n t c i : Nat} {w w' : Vec} (hV : VW n t c w) (hi : i < n) (Wk : ∀ k, (∀ c, c < 26 → k ≠ tx i c) → w' k = w k) (vt : VT i w') (vf : w 9 = 1 → VF i w') : VW n t c w' := by
  obtain ⟨⟨⟨v1, v2, v3, v4, v5, v6, v7⟩, ⟨p, hp1, hp2, hp⟩, hvt⟩, g2, g3, g4, g5, g6, ⟨b, h1, h2, h3⟩, g8⟩ := hV
  have e : ∀ k, k < 19 → w' k = w k := fun k hk => Wk k (fun c _ => by simp only [tx]; omega)
  have et : ∀ j c, j ≠ i → c < 26 → w' (tx j c) = w (tx j c) := fun j c hj hc => Wk _ (fun d hd => by simp only [tx]; omega)
  have nz : ∀ {x : Int32} {m : Nat}, 1 ≤ m → m ≤ 200 → x = nI m → ¬ x = 0 := fun a b c => by rw [c]; exact nI_ne0 (by omega) (by omega)
  refine ⟨⟨⟨v1, by rw [e 17 (by decide)]; exact v2, by rw [e 18 (by decide)]; exact v3, v4, by rw [e 10 (by decide)]; exact v5, by rw [e 2 (by decide)]; exact v6, fun j hj => ?_⟩, ⟨p, hp1, hp2, by rw [e 2 (by decide)]; exact hp⟩, fun j hj => ?_⟩, by rw [e 8 (by decide)]; exact g2, by rw [e 9 (by decide)]; exact g3, g4, fun q => ?_, fun q => ?_, ⟨b, h1, h2, by rw [e 5 (by decide)]; exact h3⟩, fun j d hj hj6 hd => by rw [et j d (by omega) hd]; exact g8 j d hj hj6 hd⟩
  · by_cases hji : j = i
    · subst hji
      obtain ⟨⟨m, m1, m2, m3⟩, -, ⟨m', m1', m2', m3'⟩, -⟩ := vt
      exact ⟨nz m1 m2 m3, nz m1' (by omega) m3'⟩
    · rw [et j 0 hji (by decide), et j 3 hji (by decide)]; exact v7 j hj
  · by_cases hji : j = i
    · subst hji; exact vt
    · exact (hvt j hj).mv (fun d hd => et j d hji (by omega))
  · rw [e 9 (by decide)] at q
    obtain ⟨k1, k2, u, k3, k4⟩ := g5 q
    refine ⟨k1, fun j hj => ?_, u, k3, by rw [e 13 (by decide)]; exact k4⟩
    by_cases hji : j = i
    · subst hji; exact vf q
    · exact (k2 j hj).mv (et j 13 hji (by decide)) (et j 15 hji (by decide))
  · rw [e 9 (by decide)] at q
    rw [e 12 (by decide)]
    exact g6 q
def htR (n : Nat) (a0 : Int32) : Int32 := win a0 0 (nI n - 1)
theorem ht_c {n : Nat} (a0 : Int32) (σ : Sg) (h : σ 1 3 = nI n) : f_X4_hasTask_0 a0 σ = some (htR n a0, σ) := by
  have hb : htR n a0 = 0 ∨ htR n a0 = 1 := win_b _ _ _
  simp only [f_X4_hasTask_0, win_c, cb_some, h]
  exact if_pos hb
theorem ht_n {n : Nat} (hn : n ≤ 6) {a0 : Int32} (h : ¬ htR n a0 = 0) : ∃ i, i < n ∧ a0 = nI i := by
  cases n with
  | zero =>
    exfalso
    apply h
    unfold htR win
    by_cases h1 : a0 < 0
    · rw [if_pos h1]
    · rw [if_neg h1, if_pos]
      obtain ⟨m, hm, rfl⟩ := nI_of h1
      have e1 := nI_toInt hm
      rw [Int32.lt_iff_toInt_lt, e1]
      have : (nI 0 - 1).toInt = -1 := by decide
      omega
  | succ n =>
    unfold htR at h
    rw [nI_pred, show (0 : Int32) = nI 0 from rfl] at h
    obtain ⟨m, -, m2, m3⟩ := win_n (by omega) (by decide) h
    exact ⟨m, by omega, m3⟩
/-- a fault goes in -/
theorem tf_s {t m : Nat} (hm : m < 2) (kind start amount : Int32) (σ : Sg) : f_X3_takeFault_0 t (nI m) kind start amount σ = some (0, st (st (st σ (t + 2) m kind) (t + 3) m start) (t + 4) m amount) := by
  have hcl : (nI m).toNatClampNeg = m := nI_clamp (by omega)
  have g1 : ¬ nI m < 0 := nI_pos (by omega)
  have g2 : nI m < 2 := by rw [show (2 : Int32) = nI 2 from rfl]; exact nI_lt hm (by decide)
  have g3 : ¬ 2 ≤ m := by omega
  simp only [f_X3_takeFault_0, hcl, g1, g2, g3, if_true, if_false, or_false, wb_eq]
theorem lf_rel {q n i m : Nat} {σ : Sg} {w : Vec} (hB : BS q n σ w) (hn : n ≤ 6) (hi : i < n) (hm : m < 2) (kind start amount : Int32) : BS q n (st (st (st σ (T q i + 2) m kind) (T q i + 3) m start) (T q i + 4) m amount) (lfV m i kind start amount w) := by
  obtain ⟨p1, p2, p3, p4, p5, p6⟩ := hB.2.2.2.1 i hi
  have f0 : st (st (st σ (T q i + 2) m kind) (T q i + 3) m start) (T q i + 4) m amount (T q i) = σ (T q i) := by rw [st_o _ (by omega), st_o _ (by omega), st_o _ (by omega)]
  have e : ∀ d, d < 20 → lfV m i kind start amount w (tx i d) = w (tx i d) := fun d hd => by
    have q1 : ¬ d = 20 + 3 * m ∧ ¬ d = 21 + 3 * m ∧ ¬ d = 22 + 3 * m := by omega
    simp [lfV, upd_ap, tx_same, q1]
  refine bs_task hB hn hi (fun a ha => by rw [st_o _ (by omega), st_o _ (by omega), st_o _ (by omega)]) (fun k hk => by simp [lfV, upd_ap, hk (20 + 3 * m) (by omega), hk (21 + 3 * m) (by omega), hk (22 + 3 * m) (by omega)]) ⟨fun k hk => ?_, fun d hd => ?_, ?_, ?_, ?_, ?_⟩ (fun q9 => ?_) ?_
  · rw [st_o _ (by omega), st_o _ (by omega), st_o _ (by omega), e k (by omega)]; exact p1 k hk
  · obtain ⟨x1, x2, x3⟩ := p2 d hd
    have n1 : ¬ T q i + 2 = T q i + 3 ∧ ¬ T q i + 2 = T q i + 4 ∧ ¬ T q i + 3 = T q i + 2 ∧ ¬ T q i + 3 = T q i + 4 ∧ ¬ T q i + 4 = T q i + 2 ∧ ¬ T q i + 4 = T q i + 3 := by omega
    have n2 : ¬ 20 + 3 * d = 21 + 3 * m ∧ ¬ 20 + 3 * d = 22 + 3 * m ∧ ¬ 21 + 3 * d = 20 + 3 * m ∧ ¬ 21 + 3 * d = 22 + 3 * m ∧ ¬ 22 + 3 * d = 20 + 3 * m ∧ ¬ 22 + 3 * d = 21 + 3 * m := by omega
    by_cases hdm : d = m
    · subst hdm
      simp only [st_r, lfV, upd_ap, tx_same, n1, n2, false_and, and_self, if_true, if_false]
    · have n3 : ¬ 20 + 3 * d = 20 + 3 * m ∧ ¬ 21 + 3 * d = 21 + 3 * m ∧ ¬ 22 + 3 * d = 22 + 3 * m := by omega
      simp only [st_r, lfV, upd_ap, tx_same, n2, n3, hdm, and_false, if_false, x1, x2, x3]
      trivial
  · rw [f0, e 16 (by decide)]; exact p3
  · rw [f0, e 17 (by decide)]; exact p4
  · rw [f0, e 17 (by decide), e 18 (by decide)]; exact p5
  · rw [f0, e 19 (by decide)]; exact p6
  · have h8 := (hB.2.2.1 q9).2 i hi
    unfold TRr
    rw [f0, e 8 (by decide), e 9 (by decide), e 10 (by decide), e 11 (by decide), e 12 (by decide), e 13 (by decide), e 14 (by decide), e 15 (by decide)]
    exact h8
  · unfold TB; rw [f0]; exact hB.2.2.2.2 i (by omega)
theorem lf_VW {n t c i m : Nat} {w : Vec} (hV : VW n t c w) (hi : i < n) (hm : m < 2) (kind start amount : Int32) : VW n t c (lfV m i kind start amount w) := by
  have e : ∀ d, d < 20 → lfV m i kind start amount w (tx i d) = w (tx i d) := fun d hd => by
    have q1 : ¬ d = 20 + 3 * m ∧ ¬ d = 21 + 3 * m ∧ ¬ d = 22 + 3 * m := by omega
    simp [lfV, upd_ap, tx_same, q1]
  exact vw_task hV hi (fun k hk => by simp [lfV, upd_ap, hk (20 + 3 * m) (by omega), hk (21 + 3 * m) (by omega), hk (22 + 3 * m) (by omega)]) ((hV.1.2.2 i hi).mv (fun d hd => e d (by omega))) (fun q => ((hV.2.2.2.2.1 q).2.1 i hi).mv (e 13 (by decide)) (e 15 (by decide)))
