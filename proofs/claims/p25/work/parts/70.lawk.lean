/-! THE LAW's body from its first row of numbers on: it answers 1 -/
theorem SU.lq {n : Nat} {σ : Sg} {w : Vec} (S : SU n n σ w) (hn : n ≤ 3) {v : Int32} {w' : Vec} {σ' : Sg} (F : ∀ a, a ≠ 150 → 36 ≤ a → σ' a = σ a) (h150 : ∀ k, k < 9 → σ' 150 k = if k = 3 then v else 0) (hw : w' 9 = 0 ∧ w' 10 = 0 ∧ w' 11 = 0 ∧ w' 12 = v ∧ w' 18 = 0) (et : ∀ i d, w' (tx i d) = w (tx i d)) : LQ n 0 σ' w' ∧ ∀ i, i < n → WL 0 i w' := by
  obtain ⟨-, -, -, -, -, h6, h7⟩ := S
  obtain ⟨w9, w10, w11, w12, w18⟩ := hw
  refine ⟨⟨⟨?_, ?_, ?_, ?_, ?_⟩, fun q => absurd (w9 ▸ q) (by decide), fun _ => ⟨fun k q1 q2 => ?_, fun i d q1 q2 => ?_⟩, fun hc => absurd hc (by decide), fun i hi => ⟨⟨?_, ?_⟩, fun m j hm hj => ?_, ?_, fun m hm => ?_⟩⟩, fun i hi => Or.inl ⟨?_, ?_⟩⟩
  · rw [h150 0 (by decide), if_neg (by decide), w9]
  · rw [h150 1 (by decide), if_neg (by decide), w10]
  · rw [h150 2 (by decide), if_neg (by decide), w11]
  · rw [h150 8 (by decide), if_neg (by decide), w18]
  · rw [h150 3 (by decide), if_pos rfl, w9, if_pos rfl, w12]
  · rw [h150 k (by omega), if_neg (by omega)]
  · rw [F 151 (by decide) (by decide)]; exact h6 _ (by simp only [lx]; omega)
  · rw [F 151 (by decide) (by decide), et, (h7 i hi).2.2.1]
    by_cases hi3 : i < 3
    · exact h6 _ (by simp only [lx]; omega)
    · exact absurd hi3 (by omega)
  · rw [F 151 (by decide) (by decide), et, (h7 i hi).2.2.2.2]
    by_cases hi3 : i < 3
    · exact h6 _ (by simp only [lx]; omega)
    · exact absurd hi3 (by omega)
  · rw [F 152 (by decide) (by decide), et]; exact (h7 i hi).1 m j hm hj
  · rw [et]; exact (h7 i hi).2.1.1
  · rw [et]; exact (h7 i hi).2.1.2 m hm
  · rw [et]; exact (h7 i hi).2.2.2.1
  · rw [et]; exact (h7 i hi).2.2.1
theorem law_160e {D : SD} (hD : D.1 ≤ 260) {n : Nat} (hn : n ≤ 3) {σ : Sg} {w : Vec} (S : SU n n σ w) (nn : Int32) (f : Nat) : ∃ σ', f_L_law_160 D nn (f + 1) (nI n) (nI n) σ = some (1, σ') := by
  obtain ⟨v, hv, e⟩ := cell_x hD (X := 60) (M := 2) 60 2 rfl rfl (by decide) (by decide) (by decide)
  obtain ⟨hB, hV, h36, ⟨w9, w10, w11, w12⟩, ⟨b3, bo⟩, h6, h7⟩ := id S
  rw [f_L_law_160, if_pos (nI_le (Nat.le_refl _) (by omega)), e, cb_some]
  by_cases q : nI v = 0
  · have hB2 : BS 1 n (st σ 150 3 (w 5)) w := hB.st0 (by omega)
    obtain ⟨σ2, c, z1, z2, z3, z4⟩ := ck_power hB2 hV
    have s18 : swV w 18 = 0 := by simp [swV, upd_ap]; exact S.w18
    obtain ⟨l1, l2⟩ := S.lq hn (v := w 5) (w' := swV w) (σ' := σ2) (fun a q1 q2 => by rw [z4 a (by omega), st_o a q1]) (fun k hk => by
      rw [z4 150 (by omega), st_r]
      by_cases k3 : k = 3
      · rw [if_pos ⟨rfl, k3⟩, if_pos k3]
      · rw [if_neg (fun z => k3 z.2), if_neg k3]; exact bo k hk k3) ⟨by simp [swV, upd_ap], by simp [swV, upd_ap], by simp [swV, upd_ap], by simp [swV, upd_ap], s18⟩ (fun i d => by simp only [swV, upd_ap, tx_k i d _ (show 9 < 19 by decide), tx_k i d _ (show 10 < 19 by decide), tx_k i d _ (show 11 < 19 by decide), tx_k i d _ (show 12 < 19 by decide), if_false])
    rw [if_pos q, sv_18 hB hV, cb_some, wb_eq, z1, cb_some]
    exact law_474 hn D nn z2 (vw_00 z3 s18) l1 l2 (h36.F (fun a q1 q2 => by rw [z4 a (by omega), st_o a (by omega)]))
  · obtain ⟨l1, l2⟩ := S.lq hn (v := 30) (w' := w) (σ' := σ) (fun _ _ _ => rfl) (fun k hk => by
      by_cases k3 : k = 3
      · rw [k3, if_pos rfl]; exact b3
      · rw [if_neg k3]; exact bo k hk k3) ⟨w9, w10, w11, w12, S.w18⟩ (fun _ _ => rfl)
    rw [if_neg q]
    exact law_474 hn D nn hB hV l1 l2 h36
theorem law_160s {D : SD} (hD : D.1 ≤ 260) {n N : Nat} (hn : n < 3) (hN : n < N) (hN3 : N ≤ 3) {σ : Sg} {w : Vec} (S : SU n n σ w) (nn : Int32) (f : Nat) : ∃ σ' w', f_L_law_160 D nn (f + 1) (nI N) (nI n) σ = f_L_law_160 D nn f (nI N) (nI (n + 1)) σ' ∧ SU (n + 1) (n + 1) σ' w' := by
  have c9 : (8 : Int32) * nI n + 9 = nI (8 * n + 9) := by rw [show (8 : Int32) = nI 8 from rfl, show (9 : Int32) = nI 9 from rfl, pk_mul, nI_add]
  have ad : ∀ d, nI (8 * n + 9) + nI d = nI (8 * n + 9 + d) := fun d => nI_add _ d
  obtain ⟨va, hva, ea⟩ := cell_x hD (X := nI (8 * n + 9)) (M := 12) (8 * n + 9) 12 rfl rfl (by omega) (by decide) (by decide)
  obtain ⟨vb, hvb, eb⟩ := cell_x hD (X := nI (8 * n + 9) + 1) (M := 10) (8 * n + 9 + 1) 10 (ad 1) rfl (by omega) (by decide) (by decide)
  obtain ⟨vs2, hvs2, es2⟩ := cell_x hD (X := nI (8 * n + 9) + 2) (M := 14) (8 * n + 9 + 2) 14 (ad 2) rfl (by omega) (by decide) (by decide)
  obtain ⟨vs3, hvs3, es3⟩ := cell_x hD (X := nI (8 * n + 9) + 3) (M := 4) (8 * n + 9 + 3) 4 (ad 3) rfl (by omega) (by decide) (by decide)
  obtain ⟨vs4, hvs4, es4⟩ := cell_x hD (X := nI (8 * n + 9) + 4) (M := 3) (8 * n + 9 + 4) 3 (ad 4) rfl (by omega) (by decide) (by decide)
  obtain ⟨vs5, hvs5, es5⟩ := cell_x hD (X := nI (8 * n + 9) + 5) (M := 6) (8 * n + 9 + 5) 6 (ad 5) rfl (by omega) (by decide) (by decide)
  obtain ⟨vs6, hvs6, es6⟩ := cell_x hD (X := nI (8 * n + 9) + 6) (M := 3) (8 * n + 9 + 6) 3 (ad 6) rfl (by omega) (by decide) (by decide)
  obtain ⟨vs7, hvs7, es7⟩ := cell_x hD (X := nI (8 * n + 9) + 7) (M := 12) (8 * n + 9 + 7) 12 (ad 7) rfl (by omega) (by decide) (by decide)
  have one : ∀ v : Nat, (1 : Int32) + nI v = nI (1 + v) := fun v => nI_add 1 v
  obtain ⟨r0, σ0', w0', a1, a2, a3⟩ := su_add S (by omega) (show 1 ≤ 1 + va by omega) (by omega) (show 1 ≤ 1 + vb by omega) (by omega)
  obtain ⟨r2, σ2', w2', z2, b2, c2⟩ := su_set a2 a3 (k := 2) (by decide) (by decide) (a := nI vs2) (show ¬ win (nI vs2) (nI 0) (nI 199) = 0 from win_ok (by omega) (by omega) (by decide))
  obtain ⟨r3, σ3', w3', z3, b3, c3⟩ := su_set b2 c2 (k := 3) (by decide) (by decide) (a := nI (1 + vs3)) (show ¬ win (nI (1 + vs3)) (nI 1) (nI 20) = 0 from win_ok (by omega) (by omega) (by decide))
  obtain ⟨r4, σ4', w4', z4, b4, c4⟩ := su_set b3 c3 (k := 4) (by decide) (by decide) (a := nI vs4) (show ¬ win (nI vs4) (nI 0) (nI 50) = 0 from win_ok (by omega) (by omega) (by decide))
  obtain ⟨r5, σ5', w5', z5, b5, c5⟩ := su_set b4 c4 (k := 5) (by decide) (by decide) (a := nI (1 + vs5)) (show ¬ win (nI (1 + vs5)) (nI 0) (nI 50) = 0 from win_ok (by omega) (by omega) (by decide))
  obtain ⟨r6, σ6', w6', z6, b6, c6⟩ := su_set b5 c5 (k := 6) (by decide) (by decide) (a := nI vs6) (show ¬ win (nI vs6) (nI 0) (nI 10) = 0 from win_ok (by omega) (by omega) (by decide))
  obtain ⟨r7, σ7', w7', z7, b7, c7⟩ := su_set b6 c6 (k := 7) (by decide) (by decide) (a := nI vs7) (show ¬ win (nI vs7) (nI 0) (nI 500) = 0 from win_ok (by omega) (by omega) (by decide))
  replace z2 : f_X4_set_0 (nI n) 2 (nI vs2) σ0' = some (r2, σ2') := z2
  replace z3 : f_X4_set_0 (nI n) 3 (nI (1 + vs3)) σ2' = some (r3, σ3') := z3
  replace z4 : f_X4_set_0 (nI n) 4 (nI vs4) σ3' = some (r4, σ4') := z4
  replace z5 : f_X4_set_0 (nI n) 5 (nI (1 + vs5)) σ4' = some (r5, σ5') := z5
  replace z6 : f_X4_set_0 (nI n) 6 (nI vs6) σ5' = some (r6, σ6') := z6
  replace z7 : f_X4_set_0 (nI n) 7 (nI vs7) σ6' = some (r7, σ7') := z7
  obtain ⟨f0, hf0⟩ : ∃ f0, FU = f0 + 1 + 1 + 1 := ⟨99997, rfl⟩
  obtain ⟨σa, wa, q1, q2, q3⟩ := su_fault hD b7 c7 hn (m := 0) (by decide) (f := f0 + 1 + 1) nn (nI N) (f_L_law_160 D nn f)
  obtain ⟨σb, wb', p1, p2, p3⟩ := su_fault hD q2 q3 hn (m := 1) (by decide) (f := f0 + 1) nn (nI N) (f_L_law_160 D nn f)
  replace q1 : f_L_law_319 D nn (f_L_law_160 D nn f) (f0 + 1 + 1 + 1) (nI N) (nI n) 0 σ7' = f_L_law_319 D nn (f_L_law_160 D nn f) (f0 + 1 + 1) (nI N) (nI n) (nI (0 + 1)) σa := q1
  obtain ⟨g1, g2, g3, g4, g5, g6, g7⟩ := p2
  obtain ⟨x1, ⟨x2, x3, x4⟩, x5, x6, x7⟩ := p3
  refine ⟨σb, wb', ?_, g1, g2, g3, g4, g5, g6, fun i hi => ?_⟩
  · rw [f_L_law_160, if_neg (nI_ge hN (by omega)), c9, ea, cb_some, eb, cb_some, one, one, a1, cb_some]
    rw [es2, cb_some, z2, cb_some]
    rw [es3, cb_some, one, z3, cb_some]
    rw [es4, cb_some, z4, cb_some]
    rw [es5, cb_some, one, z5, cb_some]
    rw [es6, cb_some, z6, cb_some]
    rw [es7, cb_some, z7, cb_some]
    rw [hf0, q1, p1, f_L_law_319, if_pos (by decide), nI_1]
  · by_cases hin : i < n
    · exact g7 i hin
    · obtain rfl : i = n := by omega
      refine ⟨fun m j hm hj => x5 m j (by omega) hj, ⟨⟨1 + vb, by omega, by omega, x1⟩, fun m hm => x6 m (by omega)⟩, x2, x3, x4⟩
theorem law_160 {D : SD} (hD : D.1 ≤ 260) {N : Nat} (hN : N ≤ 3) (nn : Int32) : ∀ (d n f : Nat) (σ : Sg) (w : Vec), n + d = N → d < f → SU n n σ w → ∃ σ', f_L_law_160 D nn f (nI N) (nI n) σ = some (1, σ')
  | 0, n, f, σ, w, hd, hf, S => by
    obtain ⟨rfl, f, rfl⟩ := loop0 hd hf
    exact law_160e hD hN S nn f
  | d + 1, n, f, σ, w, hd, hf, S => by
    obtain ⟨f, rfl⟩ : ∃ g, f = g + 1 := ⟨f - 1, by omega⟩
    obtain ⟨σ1, w1, z1, z2⟩ := law_160s hD (show n < 3 by omega) (show n < N by omega) hN S nn f
    rw [z1]
    exact law_160 hD hN nn d (n + 1) f σ1 w1 (by omega) (by omega) z2
theorem law_34 {D : SD} (hD : D.1 ≤ 260) {N : Nat} (hN : N ≤ 3) {σ : Sg} {w : Vec} (S : SU 0 0 (st σ 150 3 30) w) : ∃ σ', f_L_law_34 D (nI N) σ = some (1, σ') := by
  obtain ⟨v0, hv0, e0⟩ := cell_x hD (X := 1) (M := 12) 1 12 rfl rfl (by decide) (by decide) (by decide)
  obtain ⟨v1, hv1, e1⟩ := cell_x hD (X := 2) (M := 40) 2 40 rfl rfl (by decide) (by decide) (by decide)
  obtain ⟨v2, hv2, e2⟩ := cell_x hD (X := 3) (M := 8) 3 8 rfl rfl (by decide) (by decide) (by decide)
  obtain ⟨v3, hv3, e3⟩ := cell_x hD (X := 4) (M := 30) 4 30 rfl rfl (by decide) (by decide) (by decide)
  obtain ⟨v4, hv4, e4⟩ := cell_x hD (X := 5) (M := 4) 5 4 rfl rfl (by decide) (by decide) (by decide)
  obtain ⟨v5, hv5, e5⟩ := cell_x hD (X := 6) (M := 6) 6 6 rfl rfl (by decide) (by decide) (by decide)
  obtain ⟨v6, hv6, e6⟩ := cell_x hD (X := 7) (M := 60) 7 60 rfl rfl (by decide) (by decide) (by decide)
  obtain ⟨v7, hv7, e7⟩ := cell_x hD (X := 8) (M := 3) 8 3 rfl rfl (by decide) (by decide) (by decide)
  obtain ⟨r0, σ0, z0, S0⟩ := su_rule S (k := 0) (by decide) (v := nI v0) (show ¬ win (nI v0) (nI 0) (nI 1000) = 0 from win_ok (by omega) (by omega) (by decide))
  replace z0 : f_X4_rule_0 0 (nI v0) (st σ 150 3 30) = some (r0, σ0) := z0
  obtain ⟨r1, σ1, z1, S1⟩ := su_rule S0 (k := 1) (by decide) (v := nI (10 + v1)) (show ¬ win (nI (10 + v1)) (nI 1) (nI 2000) = 0 from win_ok (by omega) (by omega) (by decide))
  replace z1 : f_X4_rule_0 1 (nI (10 + v1)) σ0 = some (r1, σ1) := z1
  have o1 : (10 : Int32) + nI v1 = nI (10 + v1) := nI_add 10 v1
  obtain ⟨r2, σ2, z2, S2⟩ := su_rule S1 (k := 2) (by decide) (v := nI (1 + v2)) (show ¬ win (nI (1 + v2)) (nI 1) (nI 100) = 0 from win_ok (by omega) (by omega) (by decide))
  replace z2 : f_X4_rule_0 2 (nI (1 + v2)) σ1 = some (r2, σ2) := z2
  have o2 : (1 : Int32) + nI v2 = nI (1 + v2) := nI_add 1 v2
  obtain ⟨r3, σ3, z3, S3⟩ := su_rule S2 (k := 3) (by decide) (v := nI v3) (show ¬ win (nI v3) (nI 0) (nI 2000) = 0 from win_ok (by omega) (by omega) (by decide))
  replace z3 : f_X4_rule_0 3 (nI v3) σ2 = some (r3, σ3) := z3
  obtain ⟨r4, σ4, z4, S4⟩ := su_rule S3 (k := 4) (by decide) (v := nI v4) (show ¬ win (nI v4) (nI 0) (nI 20) = 0 from win_ok (by omega) (by omega) (by decide))
  replace z4 : f_X4_rule_0 4 (nI v4) σ3 = some (r4, σ4) := z4
  obtain ⟨r5, σ5, z5, S5⟩ := su_rule S4 (k := 5) (by decide) (v := nI (1 + v5)) (show ¬ win (nI (1 + v5)) (nI 1) (nI 200) = 0 from win_ok (by omega) (by omega) (by decide))
  replace z5 : f_X4_rule_0 5 (nI (1 + v5)) σ4 = some (r5, σ5) := z5
  have o5 : (1 : Int32) + nI v5 = nI (1 + v5) := nI_add 1 v5
  obtain ⟨r6, σ6, z6, S6⟩ := su_rule S5 (k := 6) (by decide) (v := nI (5 + v6)) (show ¬ win (nI (5 + v6)) (nI 1) (nI 5000) = 0 from win_ok (by omega) (by omega) (by decide))
  replace z6 : f_X4_rule_0 6 (nI (5 + v6)) σ5 = some (r6, σ6) := z6
  have o6 : (5 : Int32) + nI v6 = nI (5 + v6) := nI_add 5 v6
  obtain ⟨r7, σ7, z7, S7⟩ := su_rule S6 (k := 7) (by decide) (v := nI (1 + v7)) (show ¬ win (nI (1 + v7)) (nI 1) (nI 5) = 0 from win_ok (by omega) (by omega) (by decide))
  replace z7 : f_X4_rule_0 7 (nI (1 + v7)) σ6 = some (r7, σ7) := z7
  have o7 : (1 : Int32) + nI v7 = nI (1 + v7) := nI_add 1 v7
  rw [f_L_law_34, wb_eq]
  rw [e0, cb_some, z0, cb_some]
  rw [e1, cb_some, o1, z1, cb_some]
  rw [e2, cb_some, o2, z2, cb_some]
  rw [e3, cb_some, z3, cb_some]
  rw [e4, cb_some, z4, cb_some]
  rw [e5, cb_some, o5, z5, cb_some]
  rw [e6, cb_some, o6, z6, cb_some]
  rw [e7, cb_some, o7, z7, cb_some]
  exact law_160 hD hN (nI N) N 0 FU σ7 _ (by omega) (by unfold FU; omega) S7
