/-! one board becomes another -/
def Cp (t s : Nat) (σ σ' : Sg) : Prop := (∀ k, 4 ≤ k → k ≤ 15 → σ' t k = σ s k) ∧ (∀ k, k < 8 → σ' (t + 1) k = σ (s + 1) k) ∧ ∀ m, m < 2 → σ' (t + 2) m = σ (s + 2) m ∧ σ' (t + 3) m = σ (s + 3) m ∧ σ' (t + 4) m = σ (s + 4) m
theorem tbc {t s : Nat} (h : t + 5 ≤ s ∨ s + 5 ≤ t) {σ : Sg} (hb : TB s σ) : ∃ σ', f_X3_become_0 t s σ = some (0, σ') ∧ Cp t s σ σ' ∧ ∀ a, (a < t ∨ t + 5 ≤ a) → σ' a = σ a := by
  obtain ⟨b1, b2, b3, b4, b5⟩ := hb
  unfold b01 at b1 b2 b3 b4 b5
  let s1 := sr (sr (sr (sr σ (t + 1) (va_cpy (σ (s + 1)) (σ (t + 1)) 0 0 8)) (t + 2) (va_cpy (σ (s + 2)) (σ (t + 2)) 0 0 2)) (t + 3) (va_cpy (σ (s + 3)) (σ (t + 3)) 0 0 2)) (t + 4) (va_cpy (σ (s + 4)) (σ (t + 4)) 0 0 2)
  have hs : s ≠ t := by omega
  have e0 : s1 s = σ s := by simp only [s1]; rw [sr_o _ (by omega), sr_o _ (by omega), sr_o _ (by omega), sr_o _ (by omega)]
  let s2 := st (st (st (st (st (st (st (st (st (st (st (st s1 t 4 (σ s 4)) t 5 (σ s 5)) t 6 (σ s 6)) t 7 (σ s 7)) t 8 (σ s 8)) t 9 (σ s 9)) t 10 (σ s 10)) t 11 (σ s 11)) t 12 (σ s 12)) t 13 (σ s 13)) t 14 (σ s 14)) t 15 (σ s 15)
  have o2 : ∀ a, a ≠ t → s2 a = s1 a := fun a ha => by simp only [s2, st_o a ha]
  refine ⟨s2, ?_, ⟨fun k h1 h2 => ?_, fun k hk => ?_, fun m hm => ⟨?_, ?_, ?_⟩⟩, fun a ha => ?_⟩
  · have x1 : sr σ (t + 1) (va_cpy (σ (s + 1)) (σ (t + 1)) 0 0 8) (s + 2) = σ (s + 2) := sr_o _ (by omega)
    have y1 : sr σ (t + 1) (va_cpy (σ (s + 1)) (σ (t + 1)) 0 0 8) (t + 2) = σ (t + 2) := sr_o _ (by omega)
    rw [f_X3_become_0, wb_eq, wb_eq, wb_eq, wb_eq, x1, y1]
    rw [sr_o (s + 3) (show s + 3 ≠ t + 2 by omega), sr_o (s + 3) (show s + 3 ≠ t + 1 by omega), sr_o (t + 3) (show t + 3 ≠ t + 2 by omega), sr_o (t + 3) (show t + 3 ≠ t + 1 by omega)]
    rw [sr_o (s + 4) (show s + 4 ≠ t + 3 by omega), sr_o (s + 4) (show s + 4 ≠ t + 2 by omega), sr_o (s + 4) (show s + 4 ≠ t + 1 by omega), sr_o (t + 4) (show t + 4 ≠ t + 3 by omega), sr_o (t + 4) (show t + 4 ≠ t + 2 by omega), sr_o (t + 4) (show t + 4 ≠ t + 1 by omega)]
    change (if s1 s 4 = 0 ∨ s1 s 4 = 1 then _ else none) = _
    simp only [st_o s hs, sr_o s (show s ≠ t + 1 by omega), sr_o s (show s ≠ t + 2 by omega), sr_o s (show s ≠ t + 3 by omega), sr_o s (show s ≠ t + 4 by omega), e0, wb_eq, if_pos b1, if_pos b2, if_pos b3, if_pos b4, if_pos b5]
    rfl
  · have : k = 4 ∨ k = 5 ∨ k = 6 ∨ k = 7 ∨ k = 8 ∨ k = 9 ∨ k = 10 ∨ k = 11 ∨ k = 12 ∨ k = 13 ∨ k = 14 ∨ k = 15 := by omega
    rcases this with rfl | rfl | rfl | rfl | rfl | rfl | rfl | rfl | rfl | rfl | rfl | rfl <;> simp [s2, st_r]
  · rw [o2 _ (by omega)]
    simp only [s1]
    rw [sr_o _ (by omega), sr_o _ (by omega), sr_o _ (by omega)]
    simp only [sr, if_true, cpy0, hk]
  · rw [o2 _ (by omega)]
    simp only [s1]
    rw [sr_o _ (by omega), sr_o _ (by omega)]
    simp only [sr, if_true, cpy0, hm]
  · rw [o2 _ (by omega)]
    simp only [s1]
    rw [sr_o _ (by omega)]
    simp only [sr, if_true, cpy0, hm]
  · rw [o2 _ (by omega)]
    simp only [s1, sr, if_true, cpy0, hm]
  · rw [o2 _ (by omega)]
    simp only [s1]
    rw [sr_o _ (by omega), sr_o _ (by omega), sr_o _ (by omega), sr_o _ (by omega)]
def bcT (q o : Nat) (σ : Sg) : Option (Int32 × Sg) := cb (f_X1_become_0 (q + 3) (o + 3) σ) fun _ s5 => some (0, st (st (st (st (st (st (st (st (st (st s5 q 3 (s5 o 3)) q 4 (s5 o 4)) q 5 (s5 o 5)) q 6 (s5 o 6)) q 7 (s5 o 7)) q 8 (s5 o 8)) q 9 (s5 o 9)) q 10 (s5 o 10)) q 11 (s5 o 11)) q 12 (s5 o 12))
theorem bl {q o n : Nat} (hn : n ≤ 6) (hqo : q + 35 ≤ o ∨ o + 35 ≤ q) : ∀ (d i f : Nat) (σ : Sg), i + d = n → d < f → σ o 3 = nI n → (∀ j, j < n → TB (T o j) σ) → ∃ σ', f_X0_become_17 q o f (nI i) σ = bcT q o σ' ∧ (∀ j, i ≤ j → j < n → Cp (T q j) (T o j) σ σ') ∧ ∀ a, (a < T q i ∨ T q n ≤ a) → σ' a = σ a
  | 0, i, f, σ, h, hf, h3, hb => by
    obtain ⟨rfl, g, rfl⟩ := loop0 h hf
    refine ⟨σ, ?_, fun j h1 h2 => by omega, fun _ _ => rfl⟩
    have ho : o ≠ q := by omega
    rw [f_X0_become_17, h3, if_pos (nI_le (Nat.le_refl _) (by omega)), bcT]
    congr 1
    funext v s5
    simp only [wb_eq, st_o o ho]
  | d + 1, i, f + 1, σ, h, hf, h3, hb => by
    have hcl : (nI i).toNatClampNeg = i := nI_clamp (by omega)
    obtain ⟨s1, x1, x2, x3⟩ := tbc (t := T q i) (s := T o i) (by simp only [T]; omega) (hb i (by omega))
    obtain ⟨s2, y1, y2, y3⟩ := bl hn hqo d (i + 1) f s1 (by omega) (by omega) (by rw [x3 o (by simp only [T]; omega)]; exact h3) (fun j hj => by unfold TB; rw [x3 _ (by simp only [T]; omega)]; exact hb j hj)
    refine ⟨s2, ?_, fun j h1 h2 => ?_, fun a ha => ?_⟩
    · rw [f_X0_become_17, h3, if_neg (nI_ge (by omega) (by omega)), hcl, if_neg (inb2 (by omega) (by decide)), if_neg (inb2 (by omega) (by decide)), show f_X3_become_0 (q + 2 + 3 + 5 * i) (o + 2 + 3 + 5 * i) σ = some (0, s1) from x1, cb_some, nI_1]
      exact y1
    · by_cases hj : j = i
      · subst hj
        refine ⟨fun k k1 k2 => ?_, fun k k1 => ?_, fun m hm => ?_⟩
        · rw [y3 _ (by simp only [T]; omega)]; exact x2.1 k k1 k2
        · rw [y3 _ (by simp only [T]; omega)]; exact x2.2.1 k k1
        · rw [y3 _ (by simp only [T]; omega), y3 _ (by simp only [T]; omega), y3 _ (by simp only [T]; omega)]; exact x2.2.2 m hm
      · obtain ⟨g1, g2, g3⟩ := y2 j (by omega) h2
        have x3' : ∀ m, m < 5 → s1 (T o j + m) = σ (T o j + m) := fun m hm => x3 _ (by simp only [T]; omega)
        refine ⟨fun k k1 k2 => ?_, fun k k1 => ?_, fun m hm => ?_⟩
        · rw [g1 k k1 k2, show s1 (T o j) = σ (T o j) from x3' 0 (by decide)]
        · rw [g2 k k1, x3' 1 (by decide)]
        · obtain ⟨u1, u2, u3⟩ := g3 m hm
          rw [u1, u2, u3, x3' 2 (by decide), x3' 3 (by decide), x3' 4 (by decide)]
          exact ⟨rfl, rfl, rfl⟩
    · rw [y3 a (by simp only [T] at *; omega), x3 a (by simp only [T] at *; omega)]
theorem BS.F {q n : Nat} {σ σ' : Sg} {w : Vec} (h : BS q n σ w) (hn : n ≤ 6) (F : ∀ a, q ≤ a → a < q + 35 → σ' a = σ a) : BS q n σ' w := by
  obtain ⟨⟨a1, a2, a3, a4, a5, a6, a7, a8⟩, h0, h1, hp, hb⟩ := h
  have f0 := F q (by omega) (by omega)
  refine ⟨⟨fun k hk => by rw [F _ (by omega) (by omega)]; exact a1 k hk, by rw [f0]; exact a2, by rw [f0]; exact a3, by rw [f0]; exact a4, by rw [f0]; exact a5, by rw [f0]; exact a6, by rw [F _ (by omega) (by omega)]; exact a7, fun c j hc hj => by rw [F _ (by omega) (by omega)]; exact a8 c j hc hj⟩, fun q9 => by rw [f0]; exact h0 q9, fun q9 => ?_, fun j hj => ?_, fun j hj => ?_⟩
  · obtain ⟨⟨c1, c2, c3, c4⟩, hr⟩ := h1 q9
    exact ⟨⟨by rw [f0]; exact c1, by rw [f0]; exact c2, by rw [f0]; exact c3, by rw [f0]; exact c4⟩, fun j hj => (hr j hj).same (F _ (by simp only [T]; omega) (by simp only [T]; omega)) (fun _ _ => rfl)⟩
  · exact (hp j hj).same (fun m hm => F _ (by simp only [T]; omega) (by simp only [T]; omega)) (fun _ _ _ => rfl)
  · unfold TB; rw [F _ (by simp only [T]; omega) (by simp only [T]; omega)]; exact hb j hj
theorem TBq.F {q : Nat} {σ σ' : Sg} (h : TBq q σ) (F : ∀ a, q ≤ a → a < q + 35 → σ' a = σ a) : TBq q σ' := fun j hj => by
  unfold TB; rw [F _ (by simp only [T]; omega) (by simp only [T]; omega)]; exact h j hj
theorem BS.cg {q n : Nat} {σ : Sg} {w w' : Vec} (h : BS q n σ w) (hn : n ≤ 6) (e : ∀ k, k < 255 → w' k = w k) : BS q n σ w' := by
  obtain ⟨⟨a1, a2, a3, a4, a5, a6, a7, a8⟩, h0, h1, hp, hb⟩ := h
  refine ⟨⟨fun k hk => by rw [e k (by omega)]; exact a1 k hk, by rw [e _ (by decide)]; exact a2, by rw [e _ (by decide)]; exact a3, by rw [e _ (by decide)]; exact a4, by rw [e _ (by decide)]; exact a5, by rw [e _ (by decide)]; exact a6, by rw [e _ (by decide)]; exact a7, fun c j hc hj => by rw [e _ (rx_in hc hj)]; exact a8 c j hc hj⟩, fun q9 => ?_, fun q9 => ?_, fun j hj => ?_, hb⟩
  · rw [e _ (by decide)] at q9 ⊢; exact h0 q9
  · rw [e _ (by decide)] at q9
    obtain ⟨⟨c1, c2, c3, c4⟩, hr⟩ := h1 q9
    exact ⟨⟨by rw [e _ (by decide)]; exact c1, by rw [e _ (by decide)]; exact c2, by rw [e _ (by decide)]; exact c3, by rw [e _ (by decide)]; exact c4⟩, fun j hj => (hr j hj).same rfl (fun c hc => e _ (tx_in (by omega) hc))⟩
  · exact (hp j hj).same (fun m hm => rfl) (fun c hc _ => e _ (tx_in (by omega) hc))
theorem VW.cg {n t c : Nat} {w w' : Vec} (hV : VW n t c w) (e : ∀ k, k < 255 → w' k = w k) : VW n t c w' := by
  obtain ⟨⟨⟨v1, v2, v3, v4, v5, v6, v7⟩, ⟨p, hp1, hp2, hp⟩, hvt⟩, g2, g3, g4, g5, g6, ⟨b, h1, h2, h3⟩, g8⟩ := hV
  have et : ∀ j c, j < n → c < 26 → w' (tx j c) = w (tx j c) := fun j c hj hc => e _ (tx_in (by omega) hc)
  refine ⟨⟨⟨v1, by rw [e _ (by decide)]; exact v2, by rw [e _ (by decide)]; exact v3, v4, by rw [e _ (by decide)]; exact v5, by rw [e _ (by decide)]; exact v6, fun j hj => by rw [et j 0 hj (by decide), et j 3 hj (by decide)]; exact v7 j hj⟩, ⟨p, hp1, hp2, by rw [e _ (by decide)]; exact hp⟩, fun j hj => (hvt j hj).mv (fun d hd => et j d hj (by omega))⟩, by rw [e _ (by decide)]; exact g2, by rw [e _ (by decide)]; exact g3, g4, fun q => ?_, fun q => ?_, ⟨b, h1, h2, by rw [e _ (by decide)]; exact h3⟩, fun j d hj hj6 hd => by rw [e _ (tx_in hj6 hd)]; exact g8 j d hj hj6 hd⟩
  · rw [e _ (by decide)] at q
    obtain ⟨k1, k2, u, k3, k4⟩ := g5 q
    exact ⟨k1, fun j hj => (k2 j hj).mv (et j 13 hj (by decide)) (et j 15 hj (by decide)), u, k3, by rw [e _ (by decide)]; exact k4⟩
  · rw [e _ (by decide)] at q
    rw [e _ (by decide)]
    exact g6 q
theorem bec {q o n : Nat} {σ : Sg} {w : Vec} (hn : n ≤ 6) (hqo : q + 35 ≤ o ∨ o + 35 ≤ q) (h : BS o n σ w) (h17 : w 17 = nI n) (hq : TBq q σ) : ∃ σ', f_X0_become_0 q o σ = some (0, σ') ∧ BS q n σ' w ∧ Fq q σ σ' := by
  obtain ⟨⟨a1, a2, a3, a4, a5, a6, a7, a8⟩, h0, h1, hp, hb⟩ := id h
  let s1 := sr σ (q + 1) (va_cpy (σ (o + 1)) (σ (q + 1)) 0 0 8)
  have e1 : ∀ a, a ≠ q + 1 → s1 a = σ a := fun a ha => sr_o a ha
  obtain ⟨s2, y1, y2, y3⟩ := bl hn hqo n 0 FU s1 (by omega) (by unfold FU; omega) (by rw [e1 _ (by omega), a2]; exact h17) (fun j hj => by unfold TB; rw [e1 _ (by simp only [T]; omega)]; exact hb j (by omega))
  let s3 := st (sr s2 (q + 3 + 1) (va_cpy (s2 (o + 3 + 1)) (s2 (q + 3 + 1)) 0 0 80)) (q + 3) 1 (s2 (o + 3) 1)
  have E2 : ∀ a, (a < q + 1 ∨ q + 2 ≤ a) → (a < q + 5 ∨ q + 35 ≤ a) → s2 a = σ a := fun a k1 k2 => by rw [y3 a (by simp only [T]; omega), e1 a (by omega)]
  have e3 : ∀ a, a ≠ q + 3 → a ≠ q + 4 → s3 a = s2 a := fun a k1 k2 => by simp only [s3]; rw [st_o _ k1, sr_o _ (by omega)]
  have o3 : s3 o = σ o := by rw [e3 _ (by omega) (by omega), E2 _ (by omega) (by omega)]
  let s4 := st (st (st (st (st (st (st (st (st (st s3 q 3 (s3 o 3)) q 4 (s3 o 4)) q 5 (s3 o 5)) q 6 (s3 o 6)) q 7 (s3 o 7)) q 8 (s3 o 8)) q 9 (s3 o 9)) q 10 (s3 o 10)) q 11 (s3 o 11)) q 12 (s3 o 12)
  have e4 : ∀ a, a ≠ q → s4 a = s3 a := fun a ha => by simp only [s4, st_o a ha]
  have q4 : ∀ k, 3 ≤ k → k ≤ 12 → s4 q k = σ o k := fun k k1 k2 => by
    rw [← o3]
    have : k = 3 ∨ k = 4 ∨ k = 5 ∨ k = 6 ∨ k = 7 ∨ k = 8 ∨ k = 9 ∨ k = 10 ∨ k = 11 ∨ k = 12 := by omega
    rcases this with rfl | rfl | rfl | rfl | rfl | rfl | rfl | rfl | rfl | rfl <;> simp [s4, st_r]
  have t4 : ∀ j m, j < 6 → m < 5 → s4 (T q j + m) = s2 (T q j + m) := fun j m hj hm => by
    rw [e4 _ (by simp only [T]; omega), e3 _ (by simp only [T]; omega) (by simp only [T]; omega)]
  have C : ∀ j, j < n → Cp (T q j) (T o j) σ s4 := fun j hj => by
    obtain ⟨g1, g2, g3⟩ := y2 j (by omega) hj
    have u : ∀ m, m < 5 → s1 (T o j + m) = σ (T o j + m) := fun m hm => e1 _ (by simp only [T]; omega)
    refine ⟨fun k k1 k2 => ?_, fun k hk => ?_, fun m hm => ?_⟩
    · rw [show s4 (T q j) = s2 (T q j) from t4 j 0 (by omega) (by decide), g1 k k1 k2, show s1 (T o j) = σ (T o j) from u 0 (by decide)]
    · rw [t4 j 1 (by omega) (by decide), g2 k hk, u 1 (by decide)]
    · obtain ⟨u1, u2, u3⟩ := g3 m hm
      rw [t4 j 2 (by omega) (by decide), t4 j 3 (by omega) (by decide), t4 j 4 (by omega) (by decide), u1, u2, u3, u 2 (by decide), u 3 (by decide), u 4 (by decide)]
      exact ⟨rfl, rfl, rfl⟩
  refine ⟨s4, ?_, ⟨⟨fun k hk => ?_, ?_, ?_, ?_, ?_, ?_, ?_, fun c j hc hj => ?_⟩, fun q9 => ?_, fun q9 => ⟨⟨?_, ?_, ?_, ?_⟩, fun i hi => ?_⟩, fun i hi => ?_, fun j hj => ?_⟩, fun a ha => ?_⟩
  · rw [f_X0_become_0, wb_eq, show (0 : Int32) = nI 0 from rfl, y1, bcT]
    have x : f_X1_become_0 (q + 3) (o + 3) s2 = some (0, s3) := by
      rw [f_X1_become_0, wb_eq, wb_eq, sr_o (o + 3) (show o + 3 ≠ q + 3 + 1 by omega)]
    rw [x, cb_some]
    rfl
  · rw [e4 _ (by omega), e3 _ (by omega) (by omega), y3 _ (by simp only [T]; omega)]
    simp only [s1, sr, if_true, cpy0, hk]
    exact a1 k hk
  · rw [q4 3 (by decide) (by decide)]; exact a2
  · rw [q4 4 (by decide) (by decide)]; exact a3
  · rw [q4 5 (by decide) (by decide)]; exact a4
  · rw [q4 6 (by decide) (by decide)]; exact a5
  · rw [q4 7 (by decide) (by decide)]; exact a6
  · rw [e4 _ (by omega)]
    simp only [s3, st_r, and_self, if_true]
    rw [E2 _ (by omega) (by omega)]; exact a7
  · rw [e4 _ (by omega)]
    simp only [s3]
    rw [st_o _ (by omega)]
    have : c * 5 + j < 80 := by omega
    simp only [sr, if_true, cpy0, this]
    rw [E2 _ (by omega) (by omega)]; exact a8 c j hc hj
  · rw [q4 8 (by decide) (by decide)]; exact h0 q9
  · rw [q4 9 (by decide) (by decide)]; exact (h1 q9).1.1
  · rw [q4 10 (by decide) (by decide)]; exact (h1 q9).1.2.1
  · rw [q4 11 (by decide) (by decide)]; exact (h1 q9).1.2.2.1
  · rw [q4 12 (by decide) (by decide)]; exact (h1 q9).1.2.2.2
  · obtain ⟨r1, r2, r3, r4, r5, r6⟩ := (h1 q9).2 i hi
    have g := (C i hi).1
    refine ⟨by rw [g _ (by decide) (by decide)]; exact r1, by rw [g _ (by decide) (by decide)]; exact r2, by rw [g _ (by decide) (by decide)]; exact r3, by rw [g _ (by decide) (by decide)]; exact r4, by rw [g _ (by decide) (by decide)]; exact r5, fun z => ?_⟩
    rw [g _ (by decide) (by decide), g _ (by decide) (by decide), g _ (by decide) (by decide)]
    exact r6 z
  · obtain ⟨p1, p2, p3, p4, p5, p6⟩ := hp i hi
    obtain ⟨g, g2, g3⟩ := C i hi
    refine ⟨fun k hk => by rw [g2 k hk]; exact p1 k hk, fun m hm => ?_, by rw [g _ (by decide) (by decide)]; exact p3, by rw [g _ (by decide) (by decide)]; exact p4, fun z => by rw [g _ (by decide) (by decide)]; exact p5 z, by rw [g _ (by decide) (by decide)]; exact p6⟩
    obtain ⟨u1, u2, u3⟩ := g3 m hm
    rw [u1, u2, u3]; exact p2 m hm
  · by_cases hjn : j < n
    · have g := (C j hjn).1
      unfold TB
      rw [g _ (by decide) (by decide), g _ (by decide) (by decide), g _ (by decide) (by decide), g _ (by decide) (by decide), g _ (by decide) (by decide)]
      exact hb j hj
    · unfold TB
      rw [show s4 (T q j) = s2 (T q j) from t4 j 0 hj (by decide), y3 _ (by simp only [T]; omega), e1 _ (by simp only [T]; omega)]
      exact hq j hj
  · rw [e4 _ (by omega), e3 _ (by omega) (by omega), E2 _ (by omega) (by omega)]

