/-! the class's board against the reference's row -/
abbrev T (q i : Nat) : Nat := q + 2 + 3 + 5 * i
def BRb (q : Nat) (σ : Sg) (w : Vec) : Prop := (∀ k, k < 8 → σ (q + 1) k = w k) ∧ σ q 3 = w 17 ∧ σ q 4 = w 8 ∧ σ q 5 = w 9 ∧ σ q 6 = w 10 ∧ σ q 7 = w 11 ∧ σ (q + 3) 1 = w 18 ∧ ∀ c j, c < 16 → j < 5 → σ (q + 3 + 1) (c * 5 + j) = w (rx c j)
def BRr (q : Nat) (σ : Sg) (w : Vec) : Prop := σ q 9 = w 13 ∧ σ q 10 = w 14 ∧ σ q 11 = w 15 ∧ σ q 12 = w 16
def TBq (q : Nat) (σ : Sg) : Prop := ∀ i, i < 6 → TB (T q i) σ
def RX (q n : Nat) (σ : Sg) (w : Vec) : Prop := BRb q σ w ∧ BRr q σ w ∧ (∀ i, i < n → TRp (T q i) i σ w) ∧ TBq q σ
def RS (q n : Nat) (σ : Sg) (w : Vec) : Prop := RX q n σ w ∧ ∀ i, i < n → TRr (T q i) i σ w
def BS (q n : Nat) (σ : Sg) (w : Vec) : Prop := BRb q σ w ∧ (w 9 = 0 → σ q 8 = w 12) ∧ (w 9 = 1 → BRr q σ w ∧ ∀ i, i < n → TRr (T q i) i σ w) ∧ (∀ i, i < n → TRp (T q i) i σ w) ∧ TBq q σ
def Fq (q : Nat) (σ σ' : Sg) : Prop := ∀ a, (a < q ∨ q + 35 ≤ a) → σ' a = σ a
theorem Fq.rf (q : Nat) (σ : Sg) : Fq q σ σ := fun _ _ => rfl
theorem Fq.tr {q : Nat} {a b c : Sg} (h : Fq q a b) (g : Fq q b c) : Fq q a c := fun x hx => (g x hx).trans (h x hx)
theorem Fq.st {q : Nat} {a b : Sg} (h : Fq q a b) {t : Nat} (ht : q ≤ t ∧ t < q + 35) (k : Nat) (v : Int32) : Fq q a (st b t k v) := fun x hx => by rw [st_o x (by omega)]; exact h x hx
theorem Fq.tsk {q i : Nat} {σ σ' : Sg} (hi : i < 6) (h : ∀ a, a ≠ T q i → σ' a = σ a) : Fq q σ σ' := fun x hx => h x (by simp only [T]; omega)
theorem TRp.same {t i : Nat} {σ σ' : Sg} {w w' : Vec} (h : TRp t i σ w) (hσ : ∀ m, m < 5 → σ' (t + m) = σ (t + m)) (hw : ∀ c, c < 26 → (c < 8 ∨ 16 ≤ c) → w' (tx i c) = w (tx i c)) : TRp t i σ' w' := by
  obtain ⟨h1, h2, h3, h4, h5, h6⟩ := h
  have e0 : σ' t = σ t := hσ 0 (by decide)
  refine ⟨fun k hk8 => ?_, fun m hm => ?_, ?_, ?_, ?_, ?_⟩
  · rw [hσ 1 (by decide), hw k (by omega) (Or.inl hk8)]; exact h1 k hk8
  · rw [hσ 2 (by decide), hσ 3 (by decide), hσ 4 (by decide), hw _ (by omega) (by omega), hw _ (by omega) (by omega), hw _ (by omega) (by omega)]; exact h2 m hm
  · rw [e0, hw 16 (by decide) (by decide)]; exact h3
  · rw [e0, hw 17 (by decide) (by decide)]; exact h4
  · rw [e0, hw 17 (by decide) (by decide), hw 18 (by decide) (by decide)]; exact h5
  · rw [e0, hw 19 (by decide) (by decide)]; exact h6
theorem TRr.same {t i : Nat} {σ σ' : Sg} {w w' : Vec} (h : TRr t i σ w) (hσ : σ' t = σ t) (hw : ∀ c, c < 26 → w' (tx i c) = w (tx i c)) : TRr t i σ' w' := by
  unfold TRr
  rw [hσ, hw 8 (by decide), hw 9 (by decide), hw 10 (by decide), hw 11 (by decide), hw 12 (by decide), hw 13 (by decide), hw 14 (by decide), hw 15 (by decide)]
  exact h
/-- a step on task i alone -/
theorem RX.task {q n i : Nat} {P : Nat → Prop} {σ σ' : Sg} {w w' : Vec} (h : RX q n σ w) (hn : n ≤ 6) (hi : i < n) (F : ∀ a, a ≠ T q i → σ' a = σ a) (k : keeps i P w w') (p : TRp (T q i) i σ' w') (b : TB (T q i) σ') : RX q n σ' w' := by
  obtain ⟨⟨a1, a2, a3, a4, a5, a6, a7, a8⟩, ⟨c1, c2, c3, c4⟩, hp, hb⟩ := h
  have f0 : σ' q = σ q := F q (by simp only [T]; omega)
  refine ⟨⟨fun j hj => ?_, ?_, ?_, ?_, ?_, ?_, ?_, fun c j hc hj => ?_⟩, ⟨?_, ?_, ?_, ?_⟩, fun j hj => ?_, fun j hj => ?_⟩
  · rw [F _ (by simp only [T]; omega), k.1 j (by omega)]; exact a1 j hj
  · rw [f0, k.1 17 (by decide)]; exact a2
  · rw [f0, k.1 8 (by decide)]; exact a3
  · rw [f0, k.1 9 (by decide)]; exact a4
  · rw [f0, k.1 10 (by decide)]; exact a5
  · rw [f0, k.1 11 (by decide)]; exact a6
  · rw [F _ (by simp only [T]; omega), k.1 18 (by decide)]; exact a7
  · rw [F _ (by simp only [T]; omega), k.2.2 c j hc hj (by omega)]; exact a8 c j hc hj
  · rw [f0, k.1 13 (by decide)]; exact c1
  · rw [f0, k.1 14 (by decide)]; exact c2
  · rw [f0, k.1 15 (by decide)]; exact c3
  · rw [f0, k.1 16 (by decide)]; exact c4
  · by_cases hji : j = i
    · subst hji; exact p
    · exact (hp j hj).same (fun m hm => F _ (by simp only [T]; omega)) (fun c hc _ => k.2.1 j c hc (Or.inl hji))
  · by_cases hji : j = i
    · subst hji; exact b
    · unfold TB; rw [F _ (by simp only [T]; omega)]; exact hb j hj
theorem RS.task {q n i : Nat} {P : Nat → Prop} {σ σ' : Sg} {w w' : Vec} (h : RS q n σ w) (hn : n ≤ 6) (hi : i < n) (F : ∀ a, a ≠ T q i → σ' a = σ a) (k : keeps i P w w') (p : TRp (T q i) i σ' w') (r : TRr (T q i) i σ' w') (b : TB (T q i) σ') : RS q n σ' w' := by
  refine ⟨h.1.task hn hi F k p b, fun j hj => ?_⟩
  by_cases hji : j = i
  · subst hji; exact r
  · exact (h.2 j hj).same (F _ (by simp only [T]; omega)) (fun c hc => k.2.1 j c hc (Or.inl hji))
/-- records -/
theorem add_s {q c : Nat} (a0 a1 a2 a3 a4 : Int32) (σ : Sg) (h : σ q 1 = nI c) (hc : c < 2 ^ 31) : f_X1_add_0 q a0 a1 a2 a3 a4 σ = some (0, st (st (st (st (st (st σ (q + 1) (c % 16 * 5 + 0) a0) (q + 1) (c % 16 * 5 + 1) a1) (q + 1) (c % 16 * 5 + 2) a2) (q + 1) (c % 16 * 5 + 3) a3) (q + 1) (c % 16 * 5 + 4) a4) q 1 (nI c + 1)) := by
  have hm : nI c - nI c / 16 * 16 = nI (c % 16) := by rw [show (16 : Int32) = nI 16 from rfl]; exact pk_rem hc (by decide) (by decide)
  have hlt : c % 16 < 16 := Nat.mod_lt _ (by decide)
  have e0 : nI (c % 16) * 5 = nI (c % 16 * 5 + 0) := by rw [show (5 : Int32) = nI 5 from rfl, pk_mul]; rfl
  have e1 : nI (c % 16 * 5 + 0) + 1 = nI (c % 16 * 5 + 1) := nI_1 _
  have e2 : nI (c % 16 * 5 + 0) + 2 = nI (c % 16 * 5 + 2) := by rw [show (2 : Int32) = nI 2 from rfl, nI_add]
  have e3 : nI (c % 16 * 5 + 0) + 3 = nI (c % 16 * 5 + 3) := by rw [show (3 : Int32) = nI 3 from rfl, nI_add]
  have e4 : nI (c % 16 * 5 + 0) + 4 = nI (c % 16 * 5 + 4) := by rw [show (4 : Int32) = nI 4 from rfl, nI_add]
  have cl : ∀ j, j < 5 → (nI (c % 16 * 5 + j)).toNatClampNeg = c % 16 * 5 + j := fun j hj => nI_clamp (by omega)
  have gu : ∀ j, j < 5 → ¬ (nI (c % 16 * 5 + j) < 0 ∨ 80 ≤ c % 16 * 5 + j) := fun j hj => inb2 (by omega) (by decide)
  have n1 : ¬ q = q + 1 := by omega
  simp only [f_X1_add_0, h, hm, e0, e1, e2, e3, e4, cl 0 (by decide), cl 1 (by decide), cl 2 (by decide), cl 3 (by decide), cl 4 (by decide), if_neg (gu 0 (by decide)), if_neg (gu 1 (by decide)), if_neg (gu 2 (by decide)), if_neg (gu 3 (by decide)), if_neg (gu 4 (by decide)), wb_eq, st_r, n1, false_and, if_false]
theorem boot_c (q : Nat) (σ : Sg) : f_X0_boot_0 q σ = some (0, st (st σ q 5 0) q 8 (σ (q + 1) 5)) := by
  have n1 : ¬ q + 1 = q := by omega
  simp only [f_X0_boot_0, wb_eq, st_r, n1, false_and, if_false]
/-- the end of a reset -/
theorem cfall48 {q n : Nat} {σ : Sg} {w : Vec} (a0 a1 : Int32) (hn : n ≤ 6) (h : RX q n σ w) (h10 : w 10 = 0 ∨ w 10 = 1) : ∃ σ', f_X0_fall_48 q a0 a1 σ = some (0, σ') ∧ BS q n σ' (mk3 w) ∧ Fq q σ σ' := by
  obtain ⟨⟨a1', a2, a3, a4, a5, a6, a7, a8⟩, ⟨c1, c2, c3, c4⟩, hp, hb⟩ := h
  have n1 : ¬ q + 1 = q := by omega
  have n3 : ¬ q + 3 = q := by omega
  have n4 : ¬ q + 3 + 1 = q := by omega
  have s7 := a1' 7 (by decide)
  have s5 := a1' 5 (by decide)
  have key : ∀ (σ' : Sg) (w' : Vec), (∀ a, a ≠ q → σ' a = σ a) → (∀ k, k < 8 → w' k = w k) → σ' q 3 = w' 17 → σ' q 4 = w' 8 → σ' q 5 = w' 9 → σ' q 6 = w' 10 → σ' q 7 = w' 11 → w' 18 = w 18 → ¬ w' 9 = 1 → (w' 9 = 0 → σ' q 8 = w' 12) → (∀ i c, w' (tx i c) = w (tx i c)) → (∀ c j, w' (rx c j) = w (rx c j)) → BS q n σ' w' := by
    intro σ' w' F g1 g2 g3 g4 g5 g6 g7 g8 g9 g10 g11
    refine ⟨⟨fun k hk => ?_, g2, g3, g4, g5, g6, ?_, fun c j hc hj => ?_⟩, g9, fun q => absurd q g8, fun i hi => ?_, fun i hi => ?_⟩
    · rw [F _ (by omega), g1 k hk]; exact a1' k hk
    · rw [F _ (by omega), g7]; exact a7
    · rw [F _ (by omega), g11]; exact a8 c j hc hj
    · exact (hp i hi).same (fun m hm => F _ (by simp only [T]; omega)) (fun c hc _ => g10 i c)
    · unfold TB; rw [F _ (by simp only [T]; omega)]; exact hb i hi
  have qt : ∀ i c : Nat, ¬ tx i c = 7 ∧ ¬ tx i c = 9 ∧ ¬ tx i c = 10 ∧ ¬ tx i c = 11 ∧ ¬ tx i c = 12 := fun i c => by simp only [tx]; omega
  have qr : ∀ i c : Nat, ¬ rx i c = 7 ∧ ¬ rx i c = 9 ∧ ¬ rx i c = 10 ∧ ¬ rx i c = 11 ∧ ¬ rx i c = 12 := fun i c => by simp only [rx]; omega
  simp only [f_X0_fall_48, f_X0_fall_77, f_X0_fall_96, f_X0_fall_110, wb_eq, st_r, n1, false_and, true_and, if_true, if_false, s7, a6, boot_c, cb_some]
  by_cases h7 : w 11 + 1 < w 7
  · have e : mk3 w = upd (upd (upd w 11 (w 11 + 1)) 9 0) 12 (w 5) := by simp only [mk3, h7, if_true]
    rw [e]
    refine ⟨st (st (st σ q 7 (w 11 + 1)) q 5 0) q 8 (σ (q + 1) 5), by simp [h7, st_r], ?_, (((Fq.rf q σ).st (by omega) _ _).st (by omega) _ _).st (by omega) _ _⟩
    refine key _ _ (fun a ha => by simp only [st_o a ha]) (fun k hk => ?_) ?_ ?_ ?_ ?_ ?_ ?_ ?_ ?_ (fun i c => ?_) (fun i c => ?_)
    · have : ¬ k = 9 ∧ ¬ k = 11 ∧ ¬ k = 12 := by omega
      simp [upd_ap, this]
    · simp [st_r, upd_ap, a2]
    · simp [st_r, upd_ap, a3]
    · simp [st_r, upd_ap]
    · simp [st_r, upd_ap, a5]
    · simp [st_r, upd_ap]
    · simp [upd_ap]
    · simp [upd_ap]
    · simp [st_r, upd_ap, s5]
    · simp [upd_ap, qt i c]
    · simp [upd_ap, qr i c]
  · by_cases h10' : w 10 = 0
    · have e : mk3 w = upd (upd (upd (upd (upd w 11 (w 11 + 1)) 9 0) 12 (w 5)) 10 1) 11 0 := by simp only [mk3, h7, h10', if_true, if_false]
      rw [e]
      refine ⟨st (st (st (st (st σ q 7 (w 11 + 1)) q 6 1) q 7 0) q 5 0) q 8 (σ (q + 1) 5), by simp [h7, st_r, a5, h10', boot_c, cb_some], ?_, (((((Fq.rf q σ).st (by omega) _ _).st (by omega) _ _).st (by omega) _ _).st (by omega) _ _).st (by omega) _ _⟩
      refine key _ _ (fun a ha => by simp only [st_o a ha]) (fun k hk => ?_) ?_ ?_ ?_ ?_ ?_ ?_ ?_ ?_ (fun i c => ?_) (fun i c => ?_)
      · have : ¬ k = 9 ∧ ¬ k = 10 ∧ ¬ k = 11 ∧ ¬ k = 12 := by omega
        simp [upd_ap, this]
      · simp [st_r, upd_ap, a2]
      · simp [st_r, upd_ap, a3]
      · simp [st_r, upd_ap]
      · simp [st_r, upd_ap]
      · simp [st_r, upd_ap]
      · simp [upd_ap]
      · simp [upd_ap]
      · simp [st_r, upd_ap, s5]
      · simp [upd_ap, qt i c]
      · simp [upd_ap, qr i c]
    · have h101 : w 10 = 1 := h10.resolve_left h10'
      have e : mk3 w = upd (upd (upd (upd w 11 (w 11 + 1)) 9 0) 12 (w 5)) 9 2 := by simp only [mk3, h7, h10', if_false]
      rw [e]
      refine ⟨st (st σ q 7 (w 11 + 1)) q 5 2, by simp [h7, st_r, a5, h101], ?_, ((Fq.rf q σ).st (by omega) _ _).st (by omega) _ _⟩
      refine key _ _ (fun a ha => by simp only [st_o a ha]) (fun k hk => ?_) ?_ ?_ ?_ ?_ ?_ ?_ ?_ ?_ (fun i c => ?_) (fun i c => ?_)
      · have : ¬ k = 9 ∧ ¬ k = 11 ∧ ¬ k = 12 := by omega
        simp [upd_ap, this]
      · simp [st_r, upd_ap, a2]
      · simp [st_r, upd_ap, a3]
      · simp [st_r, upd_ap]
      · simp [st_r, upd_ap, a5]
      · simp [st_r, upd_ap]
      · simp [upd_ap]
      · simp [upd_ap]
      · simp [upd_ap]
      · simp [upd_ap, qt i c]
      · simp [upd_ap, qr i c]

