/-! what is known of the row stays known -/
theorem mk_keep {n c : Nat} (cause tk : Int32) (w : Vec) (hn : n ≤ 6) (htk : tk < 0 ∨ ∃ j, j < n ∧ tk = nI j) : (∀ k, k < 9 → mk3 (mk2 tk (mk1 cause tk w (c % 16))) k = w k) ∧ mk3 (mk2 tk (mk1 cause tk w (c % 16))) 17 = w 17 ∧ mk3 (mk2 tk (mk1 cause tk w (c % 16))) 18 = w 18 + 1 ∧ (w 10 = 0 ∨ w 10 = 1 → mk3 (mk2 tk (mk1 cause tk w (c % 16))) 10 = 0 ∨ mk3 (mk2 tk (mk1 cause tk w (c % 16))) 10 = 1) ∧ ((mk3 (mk2 tk (mk1 cause tk w (c % 16))) 9 = 0 ∧ mk3 (mk2 tk (mk1 cause tk w (c % 16))) 12 = w 5) ∨ mk3 (mk2 tk (mk1 cause tk w (c % 16))) 9 = 2) ∧ (∀ i d, i < 6 → d < 26 → (n ≤ i ∨ d ≠ 19) → mk3 (mk2 tk (mk1 cause tk w (c % 16))) (tx i d) = w (tx i d)) ∧ mk3 (mk2 tk (mk1 cause tk w (c % 16))) (rx (c % 16) 4) = w 13 := by
  have hcm : c % 16 < 16 := Nat.mod_lt _ (by decide)
  have A : ∀ k, k < 18 → mk1 cause tk w (c % 16) k = w k := fun k hk => by
    have e : ∀ j, (k = rx (c % 16) j) = False := fun j => k_rx _ _ k (by omega)
    simp only [mk1, upd_ap, e, if_false, if_neg (show ¬ k = 18 by omega)]
  have A18 : mk1 cause tk w (c % 16) 18 = w 18 + 1 := by simp only [mk1, upd_ap, if_true]
  have At : ∀ i d, i < 6 → d < 26 → mk1 cause tk w (c % 16) (tx i d) = w (tx i d) := fun i d hi hd => by
    have e : ∀ j, ¬ (tx i d = rx (c % 16) j) := fun j => by simp only [tx, rx]; omega
    simp only [mk1, upd_ap, if_neg (e _), tx_k i d 18 (by decide), if_false]
  have Ar : mk1 cause tk w (c % 16) (rx (c % 16) 4) = w 13 := by
    simp only [mk1, upd_ap, rx_k _ _ 18 (by decide), if_false, if_true]
  have B : (∀ k, k < 19 → mk2 tk (mk1 cause tk w (c % 16)) k = mk1 cause tk w (c % 16) k) ∧ (∀ i d, i < 6 → d < 26 → (n ≤ i ∨ d ≠ 19) → mk2 tk (mk1 cause tk w (c % 16)) (tx i d) = w (tx i d)) ∧ mk2 tk (mk1 cause tk w (c % 16)) (rx (c % 16) 4) = w 13 := by
    rcases htk with h | ⟨j, hj, rfl⟩
    · simp only [mk2, h, if_true]
      exact ⟨fun _ _ => trivial, fun i d hi hd _ => At i d hi hd, Ar⟩
    · have hneg : ¬ nI j < 0 := nI_pos (by omega)
      simp only [mk2, hneg, if_false, nI_clamp (show j < 2 ^ 31 by omega), upd_ap]
      refine ⟨fun k hk => by rw [if_neg (by rw [k_tx _ _ k hk]; exact id)], fun i d hi hd hx => ?_, ?_⟩
      · rw [if_neg (by rw [tx_tx i j d 19 hd (by decide)]; omega)]; exact At i d hi hd
      · rw [if_neg (by simp only [rx, tx]; omega)]; exact Ar
  obtain ⟨B1, B2, B3⟩ := B
  have qt : ∀ i c : Nat, ¬ tx i c = 9 ∧ ¬ tx i c = 10 ∧ ¬ tx i c = 11 ∧ ¬ tx i c = 12 := fun i c => by simp only [tx]; omega
  have qr : ¬ rx (c % 16) 4 = 9 ∧ ¬ rx (c % 16) 4 = 10 ∧ ¬ rx (c % 16) 4 = 11 ∧ ¬ rx (c % 16) 4 = 12 := by simp only [rx]; omega
  have b5 : mk2 tk (mk1 cause tk w (c % 16)) 5 = w 5 := by rw [B1 5 (by decide), A 5 (by decide)]
  have b10 : mk2 tk (mk1 cause tk w (c % 16)) 10 = w 10 := by rw [B1 10 (by decide), A 10 (by decide)]
  unfold mk3
  split
  · refine ⟨fun k hk => ?_, ?_, ?_, fun h => ?_, Or.inl ⟨?_, ?_⟩, fun i d hi hd hx => ?_, ?_⟩
    · have : ¬ k = 9 ∧ ¬ k = 11 ∧ ¬ k = 12 := by omega
      simp only [upd_ap, this, if_false]; rw [B1 k (by omega), A k (by omega)]
    · simp only [upd_ap, show ¬ (17 = 12) by decide, show ¬ (17 = 9) by decide, show ¬ (17 = 11) by decide, if_false]; rw [B1 17 (by decide), A 17 (by decide)]
    · simp only [upd_ap, show ¬ (18 = 12) by decide, show ¬ (18 = 9) by decide, show ¬ (18 = 11) by decide, if_false]; rw [B1 18 (by decide), A18]
    · simpa [upd_ap, b10] using h
    · simp [upd_ap]
    · simp [upd_ap, b5]
    · simp only [upd_ap, qt i d, if_false]; exact B2 i d hi hd hx
    · simp only [upd_ap, qr, if_false]; exact B3
  · split
    · refine ⟨fun k hk => ?_, ?_, ?_, fun h => ?_, Or.inl ⟨?_, ?_⟩, fun i d hi hd hx => ?_, ?_⟩
      · have : ¬ k = 9 ∧ ¬ k = 10 ∧ ¬ k = 11 ∧ ¬ k = 12 := by omega
        simp only [upd_ap, this, if_false]; rw [B1 k (by omega), A k (by omega)]
      · simp only [upd_ap, show ¬ (17 = 12) by decide, show ¬ (17 = 9) by decide, show ¬ (17 = 10) by decide, show ¬ (17 = 11) by decide, if_false]; rw [B1 17 (by decide), A 17 (by decide)]
      · simp only [upd_ap, show ¬ (18 = 12) by decide, show ¬ (18 = 9) by decide, show ¬ (18 = 10) by decide, show ¬ (18 = 11) by decide, if_false]; rw [B1 18 (by decide), A18]
      · simp [upd_ap]
      · simp [upd_ap]
      · simp [upd_ap, b5]
      · simp only [upd_ap, qt i d, if_false]; exact B2 i d hi hd hx
      · simp only [upd_ap, qr, if_false]; exact B3
    · refine ⟨fun k hk => ?_, ?_, ?_, fun h => ?_, Or.inr ?_, fun i d hi hd hx => ?_, ?_⟩
      · have : ¬ k = 9 ∧ ¬ k = 11 ∧ ¬ k = 12 := by omega
        simp only [upd_ap, this, if_false]; rw [B1 k (by omega), A k (by omega)]
      · simp only [upd_ap, show ¬ (17 = 12) by decide, show ¬ (17 = 9) by decide, show ¬ (17 = 11) by decide, if_false]; rw [B1 17 (by decide), A 17 (by decide)]
      · simp only [upd_ap, show ¬ (18 = 12) by decide, show ¬ (18 = 9) by decide, show ¬ (18 = 11) by decide, if_false]; rw [B1 18 (by decide), A18]
      · simpa [upd_ap, b10] using h
      · simp [upd_ap]
      · simp only [upd_ap, qt i d, if_false]; exact B2 i d hi hd hx
      · simp only [upd_ap, qr, if_false]; exact B3
/-- what of VW a step inside a tick needs, whatever the mode -/
def VB (n t c : Nat) (w : Vec) : Prop := VG n c w ∧ w 8 = nI t ∧ (∃ b, 1 ≤ b ∧ b ≤ 200 ∧ w 5 = nI b) ∧ ∀ j d, n ≤ j → j < 6 → d < 26 → w (tx j d) = 0
theorem mk_VW {n t c : Nat} (cause tk : Int32) {w : Vec} (h : VB n t c w) (hc : c ≤ t) (ht : t + 1 < 2 ^ 30) (htk : tk < 0 ∨ ∃ j, j < n ∧ tk = nI j) : VW n t (c + 1) (mk3 (mk2 tk (mk1 cause tk w (c % 16)))) := by
  obtain ⟨⟨⟨v1, v2, v3, v4, v5, v6, v7⟩, ⟨p, hp1, hp2, hp⟩, hvt⟩, h8, ⟨b, hb1, hb2, hb⟩, hz⟩ := h
  obtain ⟨k1, k2, k3, k4, k5, k6, -⟩ := mk_keep (n := n) (c := c) cause tk w v1 htk
  refine ⟨⟨⟨v1, by rw [k2]; exact v2, by rw [k3, v3, nI_1], by omega, k4 v5, by rw [k1 2 (by decide)]; exact v6, fun j hj => ?_⟩, ⟨p, hp1, hp2, by rw [k1 2 (by decide)]; exact hp⟩, fun i hi => (hvt i hi).mv (fun d hd => k6 i d (by omega) (by omega) (Or.inr (by omega)))⟩, by rw [k1 8 (by decide)]; exact h8, ?_, by omega, ?_, ?_, ⟨b, hb1, hb2, by rw [k1 5 (by decide)]; exact hb⟩, fun j d hj hj6 hd => by rw [k6 j d hj6 hd (Or.inl hj)]; exact hz j d hj hj6 hd⟩
  · rw [k6 j 0 (by omega) (by decide) (Or.inr (by decide)), k6 j 3 (by omega) (by decide) (Or.inr (by decide))]; exact v7 j hj
  · rcases k5 with ⟨q, -⟩ | q
    · exact Or.inl q
    · exact Or.inr (Or.inr q)
  · intro q
    rcases k5 with ⟨q2, -⟩ | q2
    · rw [q2] at q; exact absurd q (by decide)
    · rw [q2] at q; exact absurd q (by decide)
  · intro q
    rcases k5 with ⟨-, q2⟩ | q2
    · exact ⟨b, hb1, hb2, by rw [q2]; exact hb⟩
    · rw [q2] at q; exact absurd q (by decide)
theorem VB.A {n t c : Nat} {P : Nat → Prop} {w v : Vec} (h : VB n t c w) (k : keepA P w v) (hP : ∀ c, c < 8 → ¬ P c) (hz : ∀ j d, d < 26 → n ≤ j → v (tx j d) = w (tx j d)) : VB n t c v := by
  obtain ⟨h1, h2, ⟨b, h3, h4, h5⟩, h6⟩ := h
  exact ⟨h1.keepA k hP, by rw [k.1 8 (by decide)]; exact h2, ⟨b, h3, h4, by rw [k.1 5 (by decide)]; exact h5⟩, fun j d hj hj6 hd => by rw [hz j d hd hj]; exact h6 j d hj hj6 hd⟩
theorem VB.u {n t c : Nat} {w : Vec} (h : VB n t c w) {k : Nat} (hk : k < 19) (h2 : k ≠ 2) (h5 : k ≠ 5) (h8 : k ≠ 8) (h10 : k ≠ 10) (h17 : k ≠ 17) (h18 : k ≠ 18) (x : Int32) : VB n t c (upd w k x) := by
  obtain ⟨g1, g2, ⟨b, g3, g4, g5⟩, g6⟩ := h
  exact ⟨g1.u hk h2 h10 h17 h18 x, by rw [upd_ap, if_neg h8.symm]; exact g2, ⟨b, g3, g4, by rw [upd_ap, if_neg h5.symm]; exact g5⟩, fun j d hj hj6 hd => by simp only [upd_ap, tx_k _ _ k hk, if_false]; exact g6 j d hj hj6 hd⟩
theorem jd_VF {n i : Nat} {w : Vec} (h : VFn n w) (ht : VT i w) (hi : i < n) : VFn n (jdV i w) := by
  intro j hj
  have k := jd_keeps i w
  by_cases hji : j = i
  · subst hji
    unfold jdV
    rcases (h j hj).1 with h0 | h1
    · rw [if_neg (by rw [h0]; decide)]
      split
      · exact (h j hj).end ht h0
      · exact h j hj
    · rw [if_pos h1]; exact h j hj
  · exact (h j hj).mv (k.2.1 j 13 (by decide) (Or.inl hji)) (k.2.1 j 15 (by decide) (Or.inl hji))
theorem lpjd_VF {n t c : Nat} : ∀ (d i : Nat) (w : Vec), i + d = n → VB n t c w → VFn n w → VB n t c (lp jdV d i w) ∧ VFn n (lp jdV d i w)
  | 0, i, w, _, h1, h2 => ⟨h1, h2⟩
  | d + 1, i, w, h, h1, h2 => by
    have hn := h1.1.1.1
    have hi : i < n := by omega
    have k := jd_keeps i w
    exact lpjd_VF d (i + 1) (jdV i w) (by omega) (h1.A (k.A (by omega)) (fun c hc => by show ¬ (12 ≤ c ∧ c < 19); omega) (fun j d hd hj => k.2.1 j d hd (Or.inl (by omega)))) (jd_VF h2 (h1.1.2.2 i hi) hi)
theorem su_VF {n t c : Nat} {w : Vec} (h1 : VB n t c w) (h2 : VFn n w) : VB n t c (suV n w) ∧ VFn n (suV n w) := by
  obtain ⟨g1, g2⟩ := lpjd_VF n 0 (upd w 15 (w 15 + 1)) (by omega) (h1.u (by decide) (by decide) (by decide) (by decide) (by decide) (by decide) (by decide) _) (fun i hi => (h2 i hi).mv (by simp only [upd_ap, tx_k _ _ 15 (by decide), if_false]) (by simp only [upd_ap, tx_k _ _ 15 (by decide), if_false]))
  exact ⟨g1.u (by decide) (by decide) (by decide) (by decide) (by decide) (by decide) (by decide) _, fun i hi => (g2 i hi).mv (by simp only [suV, spV, upd_ap, tx_k _ _ 16 (by decide), if_false]) (by simp only [suV, spV, upd_ap, tx_k _ _ 16 (by decide), if_false])⟩
theorem crL_keep {n : Nat} : ∀ (d i : Nat) (w : Vec), i + d = n → n ≤ 6 → keepA PR w (crL d i w).2 ∧ (∀ j cc, cc < 26 → n ≤ j → (crL d i w).2 (tx j cc) = w (tx j cc)) ∧ ∀ j, (crL d i w).1 = some j → j < n
  | 0, i, w, _, _ => ⟨keepA.rf PR w, fun _ _ _ _ => rfl, fun j h => by cases h⟩
  | d + 1, i, w, h, hn => by
    have k := cr_keeps i w
    rw [crL]
    by_cases h0 : (cr i w).1 = 0
    · rw [if_pos h0]
      obtain ⟨g1, g2, g3⟩ := crL_keep d (i + 1) (cr i w).2 (by omega) hn
      exact ⟨(k.A (by omega)).tr g1, fun j cc hc hj => (g2 j cc hc hj).trans (k.2.1 j cc hc (Or.inl (by omega))), g3⟩
    · rw [if_neg h0]
      exact ⟨k.A (by omega), fun j cc hc hj => k.2.1 j cc hc (Or.inl (by omega)), fun j q => by cases q; omega⟩
/-- of a step inside a tick: the row it leaves, before the time goes on -/
def VI (n t c : Nat) (w : Vec) : Prop := ∃ c', c' ≤ t + 1 ∧ VG n c' w ∧ w 8 = nI t ∧ (w 9 = 0 ∨ w 9 = 1 ∨ w 9 = 2) ∧ (w 9 = 1 → VFn n w ∧ ∃ u, u ≤ t + 1 ∧ w 13 = nI u) ∧ (w 9 = 0 → ∃ l, 1 ≤ l ∧ l ≤ 200 ∧ w 12 = nI l) ∧ (∃ b, 1 ≤ b ∧ b ≤ 200 ∧ w 5 = nI b) ∧ ∀ j d, n ≤ j → j < 6 → d < 26 → w (tx j d) = 0
theorem vi_inc {n t c : Nat} {w : Vec} (h : VI n t c w) : ∃ c', VW n (t + 1) c' (inc w) := by
  obtain ⟨c', h0, h1, h2, h3, h5, h6, ⟨b, h7, h8, h9⟩, h10⟩ := h
  refine ⟨c', ?_⟩
  have e : ∀ k, k ≠ 8 → inc w k = w k := fun k hk => by simp only [inc, upd_ap, if_neg hk]
  have et : ∀ i d, inc w (tx i d) = w (tx i d) := fun i d => by simp only [inc, upd_ap, tx_k _ _ 8 (by decide), if_false]
  refine ⟨h1.u (by decide) (by decide) (by decide) (by decide) (by decide) _, by simp [inc, upd_ap, h2, nI_1], by rw [e 9 (by decide)]; exact h3, by omega, fun q => ?_, fun q => ?_, ⟨b, h7, h8, by rw [e 5 (by decide)]; exact h9⟩, fun j d hj hj6 hd => by rw [et]; exact h10 j d hj hj6 hd⟩
  · rw [e 9 (by decide)] at q
    obtain ⟨g2, u, g3, g4⟩ := h5 q
    exact ⟨by omega, fun i hi => (g2 i hi).mv (et i 13) (et i 15), u, g3, by rw [e 13 (by decide)]; exact g4⟩
  · rw [e 9 (by decide)] at q
    rw [e 12 (by decide)]
    exact h6 q
theorem VB.VI {n t c u : Nat} {w : Vec} (h : VB n t c w) (h9 : w 9 = 1) (hF : VFn n w) (hc : c ≤ t + 1) (hu : u ≤ t + 1) (h13 : w 13 = nI u) : VI n t c w :=
  ⟨c, hc, h.1, h.2.1, Or.inr (Or.inl h9), fun _ => ⟨hF, u, hu, h13⟩, fun q => by rw [h9] at q; exact absurd q (by decide), h.2.2.1, h.2.2.2⟩
theorem vw_vi {n t c : Nat} {w : Vec} (h : VW n t c w) : VI n t c w :=
  ⟨c, h.2.2.2.1, h.1, h.2.1, h.2.2.1, fun q => ⟨(h.2.2.2.2.1 q).2.1, by obtain ⟨u, h1, h2⟩ := (h.2.2.2.2.1 q).2.2; exact ⟨u, by omega, h2⟩⟩, h.2.2.2.2.2.1, h.2.2.2.2.2.2.1, h.2.2.2.2.2.2.2⟩
theorem VI.c {n t c d : Nat} {w : Vec} (h : VI n t c w) : VI n t d w := h
theorem dec_VI {n t c u : Nat} {w : Vec} (k : Int32) (h : VB n t c w) (h9 : w 9 = 1) (hF : VFn n w) (hc : c ≤ t) (ht : t + 1 < 2 ^ 30) (hu : u ≤ t + 1) (h13 : w 13 = nI u) : VI n t c (dec n k w).2 := by
  have S : ∀ x, VI n t c (stb x w) := fun x => by
    have h1 : VB n t c (stb x w) := (h.u (k := 14) (by decide) (by decide) (by decide) (by decide) (by decide) (by decide) (by decide) x).u (k := 11) (by decide) (by decide) (by decide) (by decide) (by decide) (by decide) (by decide) _
    exact h1.VI (u := u) (by simp [stb, upd_ap, h9]) (fun i hi => (hF i hi).mv (by simp [stb, upd_ap, tx_k]) (by simp [stb, upd_ap, tx_k])) (by omega) hu (by simp [stb, upd_ap, h13])
  have R : ∀ cause : Int32, ¬ cause = 3 → VI n t c (mkV n cause (-6) w) := fun cause h3 => by
    rw [mkV_ne3 cause (-6) w h3 h.1.1.2.2.1 h.1.1.2.2.2.1]
    exact (vw_vi (mk_VW cause (fe w n 0) h hc ht (fe_n w))).c
  unfold dec
  split
  · split
    · exact S _
    · exact R 2 (by decide)
  · split
    · exact R 1 (by decide)
    · exact S _
theorem rn_VI {n t c : Nat} {w : Vec} (h : VW n t c w) (h9 : w 9 = 1) (ht : t + 1 < 2 ^ 30) : VI n t c (rn n w).2 := by
  obtain ⟨g1, g2, g3, g4, g5, g6, g7, g8⟩ := h
  obtain ⟨hc, hF, u, hu, h13⟩ := g5 h9
  have hn := g1.1.1
  have B1 : VB n t c (up2 w) := ((show VB n t c w from ⟨g1, g2, g7, g8⟩).u (k := 13) (by decide) (by decide) (by decide) (by decide) (by decide) (by decide) (by decide) _).u (k := 14) (by decide) (by decide) (by decide) (by decide) (by decide) (by decide) (by decide) _
  have F1 : VFn n (up2 w) := fun i hi => (hF i hi).mv (by simp [up2, upd_ap, tx_k]) (by simp [up2, upd_ap, tx_k])
  have u13 : up2 w 13 = nI (u + 1) := by simp [up2, upd_ap, h13, nI_1]
  have u9 : up2 w 9 = 1 := by simp [up2, upd_ap, h9]
  obtain ⟨k1, k2, k3⟩ := crL_keep n 0 (up2 w) (by omega) hn
  have B2 : VB n t c (crL n 0 (up2 w)).2 := B1.A k1 (fun c hc => by show ¬ (8 ≤ c ∧ c < 15 ∧ c ≠ 13); omega) k2
  have F2 : VFn n (crL n 0 (up2 w)).2 := F1.A k1 (by decide) (by decide)
  have v13 : (crL n 0 (up2 w)).2 13 = nI (u + 1) := (k1.1 13 (by decide)).trans u13
  have v9 : (crL n 0 (up2 w)).2 9 = 1 := (k1.1 9 (by decide)).trans u9
  unfold rn rn2
  split
  · rename_i j hj
    have e : mkV n 3 (nI j) (crL n 0 (up2 w)).2 = mk3 (mk2 (nI j) (mk1 3 (nI j) (crL n 0 (up2 w)).2 (c % 16))) := by
      simp only [mkV, if_true, B2.1.1.2.2.1, nI_clamp B2.1.1.2.2.2.1]
    show VI n t c (mkV n 3 (nI j) (crL n 0 (up2 w)).2)
    rw [e]
    exact (vw_vi (mk_VW 3 (nI j) B2 hc ht (Or.inr ⟨j, k3 j hj, rfl⟩))).c
  · unfold aft
    split
    · obtain ⟨s1, s2⟩ := su_VF B2 F2
      have e13 : suV n (crL n 0 (up2 w)).2 13 = nI (u + 1) := by
        simp only [suV, spV, upd_ap, show ¬ (13 = 16) by decide, if_false]
        rw [(lp_keeps jd_keeps n 0 _ (by omega)).1.1 13 (by decide)]; simp [upd_ap, v13]
      have e9 : suV n (crL n 0 (up2 w)).2 9 = 1 := by
        simp only [suV, spV, upd_ap, show ¬ (9 = 16) by decide, if_false]
        rw [(lp_keeps jd_keeps n 0 _ (by omega)).1.1 9 (by decide)]; simp [upd_ap, v9]
      exact dec_VI _ s1 e9 s2 hc ht (by omega) e13
    · exact dec_VI _ B2 v9 F2 hc ht (by omega) v13
theorem tk_VW {n t c : Nat} {w : Vec} (h : VW n t c w) (ht : t + 1 < 2 ^ 30) : ∃ c', VW n (t + 1) c' (tk n w).2 := by
  obtain ⟨g1, g2, g3, g4, g5, g6, g7, g8⟩ := id h
  have hn := g1.1.1
  unfold tk
  split
  · rename_i h9
    obtain ⟨l, l1, l2, l3⟩ := g6 h9
    obtain ⟨k, rfl⟩ : ∃ k, l = k + 1 := ⟨l - 1, by omega⟩
    have hd : w 12 - 1 = nI k := by rw [l3]; exact nI_pred k
    have heq : nI k = 0 ↔ k = 0 := by rw [show (0 : Int32) = nI 0 from rfl, nI_eq (by omega) (by decide)]
    have B0 : VB n t c w := ⟨g1, g2, g7, g8⟩
    rw [hd]
    by_cases hk : k = 0
    · rw [if_pos (heq.mpr hk)]
      have B1 : VB n t c (upd (upd (upd (upd (upd (upd w 12 (nI k)) 9 1) 13 0) 14 0) 15 0) 16 0) := (((((B0.u (k := 12) (by decide) (by decide) (by decide) (by decide) (by decide) (by decide) (by decide) _).u (k := 9) (by decide) (by decide) (by decide) (by decide) (by decide) (by decide) (by decide) _).u (k := 13) (by decide) (by decide) (by decide) (by decide) (by decide) (by decide) (by decide) _).u (k := 14) (by decide) (by decide) (by decide) (by decide) (by decide) (by decide) (by decide) _).u (k := 15) (by decide) (by decide) (by decide) (by decide) (by decide) (by decide) (by decide) _).u (k := 16) (by decide) (by decide) (by decide) (by decide) (by decide) (by decide) (by decide) _
      obtain ⟨k1, k2⟩ := lp_keeps zrT_keeps n 0 (upd (upd (upd (upd (upd (upd w 12 (nI k)) 9 1) 13 0) 14 0) 15 0) 16 0) (by omega)
      have B2 := B1.A k1 (fun c hc => by show ¬ (8 ≤ c ∧ c < 16); omega) (fun j d hd hj => k2 j d hd (by omega))
      have F2 : VFn n (lp zrT n 0 (upd (upd (upd (upd (upd (upd w 12 (nI k)) 9 1) 13 0) 14 0) 15 0) 16 0)) := by
        have Z : ∀ (d i : Nat) (v : Vec), i + d ≤ 6 → ∀ j, i ≤ j → j < i + d → lp zrT d i v (tx j 13) = 0 ∧ lp zrT d i v (tx j 15) = 0 := by
          intro d
          induction d with
          | zero => intro i v _ j h1 h2; omega
          | succ d ih =>
            intro i v h6 j h1 h2
            rw [lp]
            by_cases hji : j = i
            · subst hji
              have q := (lp_keeps zrT_keeps d (j + 1) (zrT j v) (by omega)).2
              rw [q j 13 (by decide) (by omega), q j 15 (by decide) (by omega), zrT_0 j v (by decide) (by decide), zrT_0 j v (by decide) (by decide)]
              exact ⟨rfl, rfl⟩
            · exact ih (i + 1) _ (by omega) j (by omega) (by omega)
        intro i hi
        obtain ⟨z1, z2⟩ := Z n 0 (upd (upd (upd (upd (upd (upd w 12 (nI k)) 9 1) 13 0) 14 0) 15 0) 16 0) (by omega) i (by omega) (by omega)
        exact ⟨Or.inl z2, 0, by omega, z1, fun _ => by omega⟩
      exact vi_inc (B2.VI (u := 0) (by rw [k1.1 9 (by decide)]; simp [upd_ap]) F2 (by omega) (by omega) (by rw [k1.1 13 (by decide)]; simp [upd_ap]; rfl))
    · rw [if_neg (fun q => hk (heq.mp q))]
      have B1 : VB n t c (upd w 12 (nI k)) := B0.u (k := 12) (by decide) (by decide) (by decide) (by decide) (by decide) (by decide) (by decide) _
      exact vi_inc (c := c) ⟨c, g4, B1.1, B1.2.1, Or.inl (by simp [upd_ap, h9]), fun q => by simp [upd_ap, h9] at q, fun _ => ⟨k, by omega, by omega, by simp [upd_ap]⟩, B1.2.2.1, B1.2.2.2⟩
  · split
    · rename_i h9
      exact vi_inc (rn_VI h h9 ht)
    · exact vi_inc (vw_vi h)

