/-! a task more -/
theorem cpy0 {f g : Nat → Int32} {n j : Nat} : va_cpy f g 0 0 n j = if j < n then f j else g j := by
  by_cases h : j < n
  · rw [pk_cpy_in (Nat.zero_le j) (by omega), if_pos h]; simp
  · rw [pk_cpy_out (Or.inr (by omega)), if_neg h]
theorem bs_add {q n : Nat} {σ σ' : Sg} {w w' : Vec} (h : BS q n σ w) (hn : n < 6) (F : ∀ a, (a < T q n ∨ T q n + 5 ≤ a) → a ≠ q → σ' a = σ a) (Fk : ∀ k, k ≠ 3 → σ' q k = σ q k) (F3 : σ' q 3 = w' 17) (Wk : ∀ k, k ≠ 17 → (∀ c, c < 26 → k ≠ tx n c) → w' k = w k) (p : TRp (T q n) n σ' w') (r : TRr (T q n) n σ' w') (b : TB (T q n) σ') : BS q (n + 1) σ' w' := by
  obtain ⟨⟨a1, a2, a3, a4, a5, a6, a7, a8⟩, h0, h1, hp, hb⟩ := h
  have e : ∀ k, k < 17 → w' k = w k := fun k hk => Wk k (by omega) (fun c _ => by simp only [tx]; omega)
  have e18 : w' 18 = w 18 := Wk 18 (by omega) (fun c _ => by simp only [tx]; omega)
  have et : ∀ j c, j ≠ n → c < 26 → w' (tx j c) = w (tx j c) := fun j c hj hc => Wk _ (by simp only [tx]; omega) (fun d hd => by simp only [tx]; omega)
  refine ⟨⟨fun k hk => by rw [F _ (by simp only [T]; omega) (by omega), e k (by omega)]; exact a1 k hk, F3, by rw [Fk _ (by decide), e 8 (by decide)]; exact a3, by rw [Fk _ (by decide), e 9 (by decide)]; exact a4, by rw [Fk _ (by decide), e 10 (by decide)]; exact a5, by rw [Fk _ (by decide), e 11 (by decide)]; exact a6, by rw [F _ (by simp only [T]; omega) (by omega), e18]; exact a7, fun c j hc hj => by rw [F _ (by simp only [T]; omega) (by omega), Wk _ (by simp only [rx]; omega) (fun d hd => by simp only [tx, rx]; omega)]; exact a8 c j hc hj⟩, fun q9 => ?_, fun q9 => ?_, fun j hj => ?_, fun j hj => ?_⟩
  · rw [e 9 (by decide)] at q9; rw [Fk _ (by decide), e 12 (by decide)]; exact h0 q9
  · rw [e 9 (by decide)] at q9
    obtain ⟨⟨c1, c2, c3, c4⟩, hr⟩ := h1 q9
    refine ⟨⟨by rw [Fk _ (by decide), e 13 (by decide)]; exact c1, by rw [Fk _ (by decide), e 14 (by decide)]; exact c2, by rw [Fk _ (by decide), e 15 (by decide)]; exact c3, by rw [Fk _ (by decide), e 16 (by decide)]; exact c4⟩, fun j hj => ?_⟩
    by_cases hji : j = n
    · subst hji; exact r
    · exact (hr j (by omega)).same (F _ (by simp only [T]; omega) (by simp only [T]; omega)) (fun c hc => et j c hji hc)
  · by_cases hji : j = n
    · subst hji; exact p
    · exact (hp j (by omega)).same (fun m hm => F _ (by simp only [T]; omega) (by simp only [T]; omega)) (fun c hc _ => et j c hji hc)
  · by_cases hji : j = n
    · subst hji; exact b
    · unfold TB; rw [F _ (by simp only [T]; omega) (by simp only [T]; omega)]; exact hb j hj
theorem vw_add {n t c : Nat} {w w' : Vec} (hV : VW n t c w) (hn : n < 6) (h17 : w' 17 = nI (n + 1)) (Wk : ∀ k, k ≠ 17 → (∀ c, c < 26 → k ≠ tx n c) → w' k = w k) (vt : VT n w') (vf : VF n w') : VW (n + 1) t c w' := by
  obtain ⟨⟨⟨v1, v2, v3, v4, v5, v6, v7⟩, ⟨p, hp1, hp2, hp⟩, hvt⟩, g2, g3, g4, g5, g6, ⟨b, h1, h2, h3⟩, g8⟩ := hV
  have e : ∀ k, k < 17 → w' k = w k := fun k hk => Wk k (by omega) (fun c _ => by simp only [tx]; omega)
  have e18 : w' 18 = w 18 := Wk 18 (by omega) (fun c _ => by simp only [tx]; omega)
  have et : ∀ j c, j ≠ n → c < 26 → w' (tx j c) = w (tx j c) := fun j c hj hc => Wk _ (by simp only [tx]; omega) (fun d hd => by simp only [tx]; omega)
  have nz : ∀ {x : Int32} {m : Nat}, 1 ≤ m → m ≤ 200 → x = nI m → ¬ x = 0 := fun a b c => by rw [c]; exact nI_ne0 (by omega) (by omega)
  refine ⟨⟨⟨by omega, h17, by rw [e18]; exact v3, v4, by rw [e 10 (by decide)]; exact v5, by rw [e 2 (by decide)]; exact v6, fun j hj => ?_⟩, ⟨p, hp1, hp2, by rw [e 2 (by decide)]; exact hp⟩, fun j hj => ?_⟩, by rw [e 8 (by decide)]; exact g2, by rw [e 9 (by decide)]; exact g3, g4, fun q => ?_, fun q => ?_, ⟨b, h1, h2, by rw [e 5 (by decide)]; exact h3⟩, fun j d hj hj6 hd => by rw [et j d (by omega) hd]; exact g8 j d (by omega) hj6 hd⟩
  · by_cases hji : j = n
    · subst hji
      obtain ⟨⟨m, m1, m2, m3⟩, -, ⟨m', m1', m2', m3'⟩, -⟩ := vt
      exact ⟨nz m1 m2 m3, nz m1' (by omega) m3'⟩
    · rw [et j 0 hji (by decide), et j 3 hji (by decide)]; exact v7 j (by omega)
  · by_cases hji : j = n
    · subst hji; exact vt
    · exact (hvt j (by omega)).mv (fun d hd => et j d hji (by omega))
  · rw [e 9 (by decide)] at q
    obtain ⟨k1, k2, u, k3, k4⟩ := g5 q
    refine ⟨k1, fun j hj => ?_, u, k3, by rw [e 13 (by decide)]; exact k4⟩
    by_cases hji : j = n
    · subst hji; exact vf
    · exact (k2 j (by omega)).mv (et j 13 hji (by decide)) (et j 15 hji (by decide))
  · rw [e 9 (by decide)] at q
    rw [e 12 (by decide)]
    exact g6 q
def adV (n : Nat) (a0 a1 : Int32) (w : Vec) : Vec := upd (upd (upd (upd (upd (upd (upd w 17 (nI n + 1)) (tx n 0) a0) (tx n 1) a1) (tx n 3) 1) (tx n 4) 1) (tx n 5) 50) (tx n 6) 1
theorem ad_k (n : Nat) (a0 a1 : Int32) (w : Vec) {k : Nat} (h : k ≠ 17) (hk : ∀ c, c < 26 → k ≠ tx n c) : adV n a0 a1 w k = w k := by
  simp [adV, upd_ap, h, hk 0 (by decide), hk 1 (by decide), hk 3 (by decide), hk 4 (by decide), hk 5 (by decide), hk 6 (by decide)]
theorem ad_t (n : Nat) (a0 a1 : Int32) {w : Vec} (hz : ∀ d, d < 26 → w (tx n d) = 0) {d : Nat} (hd : d < 26) : adV n a0 a1 w (tx n d) = if d = 0 then a0 else if d = 1 then a1 else if d < 8 then tb 5 d else 0 := by
  have z := hz d hd
  have h17 : (tx n d = 17) = False := tx_k n d 17 (by decide)
  simp only [adV, upd_ap, tx_same, h17, if_false, z]
  match d, hd with
  | 0, _ | 1, _ | 2, _ | 3, _ | 4, _ | 5, _ | 6, _ | 7, _ => rfl
  | d + 8, _ =>
    have : ¬ d + 8 = 0 ∧ ¬ d + 8 = 1 ∧ ¬ d + 8 = 3 ∧ ¬ d + 8 = 4 ∧ ¬ d + 8 = 5 ∧ ¬ d + 8 = 6 ∧ ¬ d + 8 < 8 := by omega
    simp only [this, if_false]
theorem bn_30 {t : Nat} (a0 a1 : Int32) (σ : Sg) : f_X3_becomeNew_30 t a0 a1 FU 0 σ = cb (f_X3_beginRun_0 t (st (st (st (st (st (st σ (t + 2) 0 0) (t + 3) 0 0) (t + 4) 0 0) (t + 2) 1 0) (t + 3) 1 0) (t + 4) 1 0)) (fun _ s => cb (f_X3_clearDiagnostic_0 t s) (fun _ s2 => some (0, s2))) := by
  rw [show FU = 99997 + 1 + 1 + 1 from rfl, f_X3_becomeNew_30, if_neg (by decide), show (0 : Int32) = nI 0 from rfl, tf_s (by decide), cb_some, f_X3_becomeNew_30, show nI 0 + 1 = nI 1 from rfl, if_neg (by decide), tf_s (by decide), cb_some, show nI 1 + 1 = nI 2 from rfl, f_X3_becomeNew_30, if_pos (by decide)]
  rfl
theorem bn {q n : Nat} (a0 a1 : Int32) {σ : Sg} {w : Vec} (hb : TB (T q n) σ) (hz : ∀ d, d < 26 → w (tx n d) = 0) : ∃ σ', f_X3_becomeNew_0 (T q n) a0 a1 σ = some (0, σ') ∧ TRp (T q n) n σ' (adV n a0 a1 w) ∧ TRr (T q n) n σ' (adV n a0 a1 w) ∧ TB (T q n) σ' ∧ ∀ a, (a < T q n ∨ T q n + 5 ≤ a) → σ' a = σ a := by
  let t := T q n
  have ht : T q n = t := rfl
  rw [ht] at hb ⊢
  let s1 := st (st (sr σ (t + 1) (va_cpy (tb 5) (σ (t + 1)) 0 0 8)) (t + 1) 0 a0) (t + 1) 1 a1
  let s2 := st (st (st (st (st (st s1 (t + 2) 0 0) (t + 3) 0 0) (t + 4) 0 0) (t + 2) 1 0) (t + 3) 1 0) (t + 4) 1 0
  have E2 : ∀ a, a ≠ t + 1 → a ≠ t + 2 → a ≠ t + 3 → a ≠ t + 4 → s2 a = σ a := fun a h1 h2 h3 h4 => by
    simp only [s2, s1, st_o a h2, st_o a h3, st_o a h4, st_o a h1, sr_o a h1]
  have E2t : s2 t = σ t := E2 t (by omega) (by omega) (by omega) (by omega)
  let w0 := upd (upd (upd (upd (adV n a0 a1 w) (tx n 16) (σ t 12)) (tx n 17) (σ t 13)) (tx n 18) (σ t 14)) (tx n 19) (σ t 15)
  have W0 : ∀ d, d < 26 → (d < 16 ∨ 20 ≤ d) → w0 (tx n d) = adV n a0 a1 w (tx n d) := fun d hd hh => by
    have : ¬ d = 16 ∧ ¬ d = 17 ∧ ¬ d = 18 ∧ ¬ d = 19 := by omega
    simp [w0, upd_ap, tx_same, this]
  have P2 : TRp t n s2 w0 := by
    refine ⟨fun k hk => ?_, fun m hm => ?_, ?_, ?_, fun _ => ?_, ?_⟩
    · rw [W0 k (by omega) (Or.inl (by omega)), ad_t n a0 a1 hz (by omega)]
      have e2 : s2 (t + 1) = s1 (t + 1) := by simp only [s2]; rw [st_o _ (by omega), st_o _ (by omega), st_o _ (by omega), st_o _ (by omega), st_o _ (by omega), st_o _ (by omega)]
      rw [e2]
      simp only [s1, st_r, sr, true_and, if_true, cpy0, hk]
      by_cases k0 : k = 0
      · subst k0; rfl
      · by_cases k1 : k = 1
        · subst k1; rfl
        · simp only [k0, k1, if_false]
    · rw [W0 _ (by omega) (Or.inr (by omega)), W0 _ (by omega) (Or.inr (by omega)), W0 _ (by omega) (Or.inr (by omega)), ad_t n a0 a1 hz (by omega), ad_t n a0 a1 hz (by omega), ad_t n a0 a1 hz (by omega)]
      have g : ∀ e, 20 ≤ e → ¬ e + 3 * m = 0 ∧ ¬ e + 3 * m = 1 ∧ ¬ e + 3 * m < 8 := by omega
      rw [if_neg (g 20 (by decide)).1, if_neg (g 20 (by decide)).2.1, if_neg (g 20 (by decide)).2.2, if_neg (g 21 (by decide)).1, if_neg (g 21 (by decide)).2.1, if_neg (g 21 (by decide)).2.2, if_neg (g 22 (by decide)).1, if_neg (g 22 (by decide)).2.1, if_neg (g 22 (by decide)).2.2]
      have : m = 0 ∨ m = 1 := by omega
      rcases this with rfl | rfl <;> simp [s2, st_r]
    · rw [E2t]; simp [w0, upd_ap, tx_same]
    · rw [E2t]; simp [w0, upd_ap, tx_same]
    · rw [E2t]; simp [w0, upd_ap, tx_same]
    · rw [E2t]; simp [w0, upd_ap, tx_same]
  obtain ⟨s3, z1, z2, z3, z4, z5⟩ := cbr P2 (by unfold TB; rw [E2t]; exact hb)
  have D : ∀ d, d < 26 → (d < 8 ∨ 20 ≤ d) → zrT n w0 (tx n d) = adV n a0 a1 w (tx n d) := fun d hd hh => by
    rw [(zrT_keeps n w0).2.1 n d hd (Or.inr (by omega))]; exact W0 d hd (by omega)
  have Z : ∀ d, 8 ≤ d → d < 26 → adV n a0 a1 w (tx n d) = 0 := fun d h8 hd => by rw [ad_t n a0 a1 hz hd, if_neg (by omega), if_neg (by omega), if_neg (by omega)]
  refine ⟨st (st (st s3 t 12 0) t 13 0) t 15 0, ?_, ⟨fun k hk => ?_, fun m hm => ?_, ?_, ?_, fun h => ?_, ?_⟩, ?_, ?_, fun a ha => ?_⟩
  · simp only [f_X3_becomeNew_0, wb_eq, bn_30]
    rw [show f_X3_beginRun_0 t _ = some (0, s3) from z1]
    simp only [cb_some, f_X3_clearDiagnostic_0, wb_eq]
  · rw [st_o _ (by omega), st_o _ (by omega), st_o _ (by omega), z2.1 k hk, D k (by omega) (by omega)]
  · obtain ⟨x1, x2, x3⟩ := z2.2.1 m hm
    rw [st_o _ (by omega), st_o _ (by omega), st_o _ (by omega), st_o _ (by omega), st_o _ (by omega), st_o _ (by omega), st_o _ (by omega), st_o _ (by omega), st_o _ (by omega), x1, x2, x3]
    exact ⟨D _ (by omega) (by omega), D _ (by omega) (by omega), D _ (by omega) (by omega)⟩
  · rw [Z 16 (by decide) (by decide)]; simp [st_r]
  · rw [Z 17 (by decide) (by decide)]; simp [st_r]
  · rw [Z 17 (by decide) (by decide)] at h; exact absurd h (by decide)
  · rw [Z 19 (by decide) (by decide)]; simp [st_r]
  · obtain ⟨y1, y2, y3, y4, y5, -⟩ := z3
    rw [zrT_0 n _ (by decide) (by decide)] at y1 y2 y3 y4 y5
    refine ⟨?_, ?_, ?_, ?_, ?_, fun h => ?_⟩
    · rw [Z 8 (by decide) (by decide)]; simpa [st_r] using y1
    · rw [Z 12 (by decide) (by decide)]; simpa [st_r] using y2
    · rw [Z 13 (by decide) (by decide)]; simpa [st_r] using y3
    · rw [Z 14 (by decide) (by decide)]; simpa [st_r] using y4
    · rw [Z 15 (by decide) (by decide)]; simpa [st_r] using y5
    · rw [Z 8 (by decide) (by decide)] at h; exact absurd h (by decide)
  · obtain ⟨c1, c2, c3, c4, -⟩ := z4
    simp only [TB, st_r]
    exact ⟨c1, c2, c3, c4, Or.inl rfl⟩
  · rw [st_o a (by omega), st_o a (by omega), st_o a (by omega), z5.1 a (by omega), E2 a (by omega) (by omega) (by omega) (by omega)]
