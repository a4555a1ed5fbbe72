/-! THE CLASS's task against the reference's row of numbers -/
theorem rem0 {x e : Int32} : x - x / e * e = 0 ↔ e.toInt ∣ x.toInt := by
  rw [← Int32.toInt_inj, rem_toInt, show (0 : Int32).toInt = 0 from rfl]
  exact ⟨Int.dvd_of_tmod_eq_zero, Int.tmod_eq_zero_of_dvd⟩
theorem due_iff {E U O : Nat} (hE : 0 < E) (hE2 : E < 2 ^ 31) (hU : U < 2 ^ 30) (hO : O < 2 ^ 30) : (nI U - nI O) - (nI U - nI O) / nI E * nI E = 0 ↔ nI U - nI U / nI E * nI E = nI O - nI O / nI E * nI E := by
  rw [rem0, pk_sub_toInt hU hO, nI_toInt hE2, pk_rem (by omega) hE hE2, pk_rem (by omega) hE hE2, nI_eq (by have := Nat.mod_lt U hE; omega) (by have := Nat.mod_lt O hE; omega)]
  constructor
  · intro h
    have h2 := Int.emod_emod_of_dvd ((U : Int)) (Int.dvd_refl (E : Int))
    have h3 : (U : Int) % E = (O : Int) % E := (Int.emod_eq_emod_iff_emod_sub_eq_zero).mpr (Int.emod_eq_zero_of_dvd h)
    omega
  · intro h
    have h3 : (U : Int) % E = (O : Int) % E := by omega
    exact Int.dvd_of_emod_eq_zero ((Int.emod_eq_emod_iff_emod_sub_eq_zero).mp h3)
theorem div_s (e x : Int32) (σ : Sg) : f_X4_divides_0 e x σ = some (if e ≤ 0 then 0 else if x - x / e * e = 0 then 1 else 0, σ) := by
  simp only [f_X4_divides_0, f_X4_divides_14, f_X4_divides_15]
  by_cases h : e ≤ 0
  · simp [h]
  · have h0 : ¬ e = 0 := fun q => h (by rw [q]; decide)
    by_cases h1 : x - x / e * e = 0 <;> simp [h, h0, h1]
theorem win_s (x lo hi : Int32) (σ : Sg) : f_X4_isWithin_0 x lo hi σ = some (if x < lo then 0 else if hi < x then 0 else 1, σ) := by
  simp only [f_X4_isWithin_0, f_X4_isWithin_14, f_X4_isWithin_15]
  by_cases h1 : x < lo
  · simp [h1]
  · by_cases h2 : hi < x <;> simp [h1, h2]
/-- booleans -/
def b01 (x : Int32) : Prop := x = 0 ∨ x = 1
theorem b01.ne {x : Int32} (h : b01 x) : ¬ x = 0 ↔ x = 1 := by rcases h with rfl | rfl <;> decide
theorem b01.if {x : Int32} (h : b01 x) : (if x = 0 then (0 : Int32) else 1) = x := by rcases h with rfl | rfl <;> rfl
def TB (t : Nat) (σ : Sg) : Prop := b01 (σ t 4) ∧ b01 (σ t 5) ∧ b01 (σ t 10) ∧ b01 (σ t 11) ∧ b01 (σ t 13)
/-- what lasts of a task; what a run of the board makes of it -/
def TRp (t i : Nat) (σ : Sg) (w : Vec) : Prop := (∀ k, k < 8 → σ (t + 1) k = w (tx i k)) ∧ (∀ m, m < 2 → σ (t + 2) m = w (tx i (20 + 3 * m)) ∧ σ (t + 3) m = w (tx i (21 + 3 * m)) ∧ σ (t + 4) m = w (tx i (22 + 3 * m))) ∧ σ t 12 = w (tx i 16) ∧ σ t 13 = w (tx i 17) ∧ (w (tx i 17) = 1 → σ t 14 = w (tx i 18)) ∧ σ t 15 = w (tx i 19)
def TRr (t i : Nat) (σ : Sg) (w : Vec) : Prop := σ t 4 = w (tx i 8) ∧ σ t 8 = w (tx i 12) ∧ σ t 9 = w (tx i 13) ∧ σ t 10 = w (tx i 14) ∧ σ t 11 = w (tx i 15) ∧ (w (tx i 8) = 1 → σ t 5 = w (tx i 11) ∧ σ t 7 = w (tx i 9) ∧ σ t 6 = w (tx i 10))
theorem TRp.mv {t i : Nat} {σ σ' : Sg} {w w' : Vec} (h : TRp t i σ w) (hσ : ∀ a, a ≠ t → σ' a = σ a) (hk : ∀ k, 12 ≤ k → σ' t k = σ t k) (hw : ∀ c, c < 26 → (c < 8 ∨ 16 ≤ c) → w' (tx i c) = w (tx i c)) : TRp t i σ' w' := by
  obtain ⟨h1, h2, h3, h4, h5, h6⟩ := h
  refine ⟨fun k hk8 => ?_, fun m hm => ?_, ?_, ?_, ?_, ?_⟩
  · rw [hσ _ (by omega), hw k (by omega) (Or.inl hk8)]; exact h1 k hk8
  · rw [hσ _ (by omega), hσ _ (by omega), hσ _ (by omega), hw _ (by omega) (by omega), hw _ (by omega) (by omega), hw _ (by omega) (by omega)]; exact h2 m hm
  · rw [hk 12 (by decide), hw 16 (by decide) (by decide)]; exact h3
  · rw [hk 13 (by decide), hw 17 (by decide) (by decide)]; exact h4
  · rw [hk 14 (by decide), hw 17 (by decide) (by decide), hw 18 (by decide) (by decide)]; exact h5
  · rw [hk 15 (by decide), hw 19 (by decide) (by decide)]; exact h6
/-- only the running part of t changes -/
def Fr (t : Nat) (σ σ' : Sg) : Prop := (∀ a, a ≠ t → σ' a = σ a) ∧ ∀ k, 12 ≤ k → σ' t k = σ t k
theorem Fr.rf (t : Nat) (σ : Sg) : Fr t σ σ := ⟨fun _ _ => rfl, fun _ _ => rfl⟩
theorem Fr.tr {t : Nat} {a b c : Sg} (h : Fr t a b) (g : Fr t b c) : Fr t a c := ⟨fun x hx => (g.1 x hx).trans (h.1 x hx), fun k hk => (g.2 k hk).trans (h.2 k hk)⟩
theorem Fr.st {t : Nat} {a b : Sg} (h : Fr t a b) {k : Nat} (hk : k < 12) (v : Int32) : Fr t a (st b t k v) := ⟨fun x hx => by rw [st_o x hx]; exact h.1 x hx, fun j hj => by rw [st_r, if_neg (by omega)]; exact h.2 j hj⟩
/-- stage 1: the job goes on -/
theorem cgo {t i : Nat} {σ : Sg} {w : Vec} (u img : Int32) (hr : TRr t i σ w) (hb : TB t σ) : ∃ σ', f_X3_crashesInTick_0 t u img σ = f_X3_crashesInTick_40 t u img u img σ' ∧ TRr t i σ' (goV i w) ∧ TB t σ' ∧ Fr t σ σ' := by
  obtain ⟨r1, r2, r3, r4, r5, r6⟩ := hr
  obtain ⟨b1, b2, b3, b4, b5⟩ := hb
  simp only [f_X3_crashesInTick_0, f_X3_crashesInTick_37, wb_eq, st_r, goV]
  by_cases h8 : w (tx i 8) = 1
  · obtain ⟨q1, q2, q3⟩ := r6 h8
    have e1 : ¬ σ t 4 = 0 := by rw [r1, h8]; decide
    by_cases h11 : w (tx i 11) = 0
    · have e2 : σ t 5 = 0 := by rw [q1, h11]
      by_cases h9 : w (tx i 9) - 1 ≤ 0
      · refine ⟨st (st σ t 7 (σ t 7 - 1)) t 4 0, ?_, ?_, ?_, ((Fr.rf t σ).st (by decide) _).st (by decide) _⟩
        · simp [e1, e2, q2, h9]
        · simp [TRr, st_r, upd_ap, tx_same, h8, h11, h9, r2, r3, r4, r5]
        · simp [TB, st_r, b01, b2, b3, b4, b5]; exact ⟨b2, b3, b4, b5⟩
      · refine ⟨st (st σ t 7 (σ t 7 - 1)) t 4 1, ?_, ?_, ?_, ((Fr.rf t σ).st (by decide) _).st (by decide) _⟩
        · simp [e1, e2, q2, h9]
        · simp [TRr, st_r, upd_ap, tx_same, h8, h11, h9, r2, r3, r4, r5, q1, q2, q3]
        · simp [TB, st_r, b01]; exact ⟨b2, b3, b4, b5⟩
    · have e2 : ¬ σ t 5 = 0 := by rw [q1]; exact h11
      refine ⟨σ, ?_, ?_, ⟨b1, b2, b3, b4, b5⟩, Fr.rf t σ⟩
      · simp [e1, e2]
      · simp only [h8, h11, if_true, if_false]; exact ⟨r1, r2, r3, r4, r5, r6⟩
  · have e1 : σ t 4 = 0 := by
      rcases b1 with h | h
      · exact h
      · exact absurd (r1 ▸ h) h8
    refine ⟨σ, ?_, ?_, ⟨b1, b2, b3, b4, b5⟩, Fr.rf t σ⟩
    · simp [e1]
    · simp only [h8, if_false]; exact ⟨r1, r2, r3, r4, r5, r6⟩
/-- stage 3: lateness -/
theorem clate {t i : Nat} {σ : Sg} {w : Vec} (a0 a1 : Int32) (hp : TRp t i σ w) (hr : TRr t i σ w) (hb : TB t σ) {dl : Nat} (h7 : w (tx i 7) = nI dl) (hdl : dl ≤ 500) : ∃ σ', f_X3_crashesInTick_78 t a0 a1 (w 13) σ = some (0, σ') ∧ TRr t i σ' (lateV i w) ∧ TB t σ' ∧ Fr t σ σ' := by
  obtain ⟨r1, r2, r3, r4, r5, r6⟩ := id hr
  obtain ⟨b1, b2, b3, b4, b5⟩ := id hb
  have p7 : σ (t + 1) 7 = w (tx i 7) := hp.1 7 (by decide)
  have e7 : w (tx i 7) = 0 ↔ w (tx i 7) ≤ 0 := by
    rw [h7, show (0 : Int32) = nI 0 from rfl, nI_eq (by omega) (by decide), nI_leI (by omega) (by decide)]; omega
  simp only [f_X3_crashesInTick_78, f_X3_crashesInTick_116, wb_eq, p7, r1, lateV]
  by_cases h8 : w (tx i 8) = 1
  · have h80 : ¬ w (tx i 8) = 0 := by rw [h8]; decide
    obtain ⟨q1, q2, q3⟩ := r6 h8
    by_cases h0 : w (tx i 7) = 0
    · refine ⟨σ, ?_, ?_, hb, Fr.rf t σ⟩
      · simp [h80, h0]
      · simp only [h8, if_true, e7.mp h0]; exact hr
    · have h1 : ¬ w (tx i 7) ≤ 0 := fun q => h0 (e7.mpr q)
      by_cases h2 : w 13 - w (tx i 10) ≤ w (tx i 7)
      · refine ⟨σ, ?_, ?_, hb, Fr.rf t σ⟩
        · simp [h80, h0, q3, h2]
        · simp only [h8, if_true, h1, if_false, h2]; exact hr
      · refine ⟨st σ t 10 1, ?_, ?_, ?_, (Fr.rf t σ).st (by decide) _⟩
        · simp [h80, h0, q3, h2]
        · simp [TRr, st_r, upd_ap, tx_same, h8, h1, h2, r1, r2, r3, r5, q1, q2, q3]
        · simp [TB, st_r, b01]; exact ⟨b1, b2, b4, b5⟩
  · have h80 : w (tx i 8) = 0 := by
      rcases b1 with h | h
      · rw [← r1]; exact h
      · exact absurd (r1 ▸ h) h8
    refine ⟨σ, ?_, ?_, hb, Fr.rf t σ⟩
    · simp [h80]
    · simp only [h8, if_false]; exact hr
/-- stage 2: a job begins -/
theorem cbeg {t i : Nat} {σ : Sg} {w : Vec} (hp : TRp t i σ w) (hr : TRr t i σ w) (hb : TB t σ) (h10 : w 10 = 0 ∨ w 10 = 1) : ∃ σ', f_X3_crashesAtBegin_0 t (w 13) (w 10) σ = some (if actV i w = 5 then 1 else 0, σ') ∧ (¬ actV i w = 5 → TRr t i σ' (bgV i w (actV i w))) ∧ TB t σ' ∧ Fr t σ σ' := by
  obtain ⟨r1, r2, r3, r4, r5, r6⟩ := id hr
  obtain ⟨b1, b2, b3, b4, b5⟩ := id hb
  have hf : ∃ m, m < 2 ∧ w 10 = nI m ∧ fm w = 3 * m := by
    rcases h10 with h | h
    · exact ⟨0, by decide, h, by simp [fm, h]⟩
    · exact ⟨1, by decide, h, by simp [fm, h]⟩
  obtain ⟨m, hm, h10m, hfm⟩ := hf
  obtain ⟨k1, k2, k3⟩ := hp.2.1 m hm
  have p1 : σ (t + 1) 1 = w (tx i 1) := hp.1 1 (by decide)
  have g1 : ¬ nI m < 0 := nI_pos (by omega)
  have g2 : ¬ (2 : Int32) ≤ nI m := by rw [show (2 : Int32) = nI 2 from rfl]; exact nI_ge hm (by decide)
  have g3 : ¬ 2 ≤ m := Nat.not_le.mpr hm
  have hcl : (nI m).toNatClampNeg = m := nI_clamp (by omega)
  have key : ∀ (x3 x4 : Int32), x3 = actV i w → (x3 = 2 → x4 = w (tx i (22 + fm w))) → ∃ σ', f_X3_crashesAtBegin_39 t (w 13) (w 10) (w 13) x3 x4 σ = some (if actV i w = 5 then 1 else 0, σ') ∧ (¬ actV i w = 5 → TRr t i σ' (bgV i w (actV i w))) ∧ TB t σ' ∧ Fr t σ σ' := by
    intro x3 x4 e3 e4
    have fin : ∀ (amt al : Int32) (hg : Int32), b01 hg → (∃ σ', (if x3 = 3 then f_X3_crashesAtBegin_109 t (w 13) (w 10) x3 (st (st (st (st σ t 4 1) t 5 hg) t 6 (w 13)) t 7 (w (tx i 1) + amt)) else if x3 = 4 then f_X3_crashesAtBegin_109 t (w 13) (w 10) x3 (st (st (st (st (st σ t 4 1) t 5 hg) t 6 (w 13)) t 7 (w (tx i 1) + amt)) t 8 (w (tx i 12) + 2)) else f_X3_crashesAtBegin_109 t (w 13) (w 10) x3 (st (st (st (st (st σ t 4 1) t 5 hg) t 6 (w 13)) t 7 (w (tx i 1) + amt)) t 8 (w (tx i 12) + 1))) = some (if actV i w = 5 then 1 else 0, σ') ∧ (hg = (if x3 = 1 then 1 else 0) → amt = (if x3 = 2 then w (tx i (22 + fm w)) else 0) → ¬ actV i w = 5 → TRr t i σ' (bgV i w (actV i w))) ∧ TB t σ' ∧ Fr t σ σ') := by
      intro amt al hg hgb
      have q109 : ∀ σ1 : Sg, f_X3_crashesAtBegin_109 t (w 13) (w 10) x3 σ1 = some (if actV i w = 5 then 1 else 0, σ1) := by
        intro σ1
        simp only [f_X3_crashesAtBegin_109, f_X3_crashesAtBegin_119, ← e3]
        by_cases h5 : x3 = 5 <;> simp [h5]
      by_cases h3 : x3 = 3
      · refine ⟨st (st (st (st σ t 4 1) t 5 hg) t 6 (w 13)) t 7 (w (tx i 1) + amt), ?_, fun ehg eamt h5 => ?_, ?_, ?_⟩
        · rw [if_pos h3, q109]
        · have h2 : ¬ x3 = 2 := by rw [h3]; decide
          have h1 : ¬ x3 = 1 := by rw [h3]; decide
          rw [if_neg h1] at ehg; rw [if_neg h2] at eamt
          rw [← e3]
          simp [TRr, st_r, bgV, upd_ap, tx_same, h1, h2, h3, ehg, eamt, r2, r3, r4, r5]
        · simp only [TB, st_r]; simp [b01] at *; exact ⟨hgb, b3, b4, b5⟩
        · exact ((((Fr.rf t σ).st (by decide) _).st (by decide) _).st (by decide) _).st (by decide) _
      · by_cases h4 : x3 = 4
        · refine ⟨st (st (st (st (st σ t 4 1) t 5 hg) t 6 (w 13)) t 7 (w (tx i 1) + amt)) t 8 (w (tx i 12) + 2), ?_, fun ehg eamt h5 => ?_, ?_, ?_⟩
          · rw [if_neg h3, if_pos h4, q109]
          · have h2 : ¬ x3 = 2 := by rw [h4]; decide
            have h1 : ¬ x3 = 1 := by rw [h4]; decide
            rw [if_neg h1] at ehg; rw [if_neg h2] at eamt
            rw [← e3]
            simp [TRr, st_r, bgV, upd_ap, tx_same, h1, h2, h3, h4, ehg, eamt, r2, r3, r4, r5]
          · simp only [TB, st_r]; simp [b01] at *; exact ⟨hgb, b3, b4, b5⟩
          · exact (((((Fr.rf t σ).st (by decide) _).st (by decide) _).st (by decide) _).st (by decide) _).st (by decide) _
        · refine ⟨st (st (st (st (st σ t 4 1) t 5 hg) t 6 (w 13)) t 7 (w (tx i 1) + amt)) t 8 (w (tx i 12) + 1), ?_, fun ehg eamt h5 => ?_, ?_, ?_⟩
          · rw [if_neg h3, if_neg h4, q109]
          · rw [← e3]
            simp only [TRr, st_r, bgV, upd_ap, tx_same]
            simp [h3, h4, ehg, eamt, r3, r4, r5]
          · simp only [TB, st_r]; simp [b01] at *; exact ⟨hgb, b3, b4, b5⟩
          · exact (((((Fr.rf t σ).st (by decide) _).st (by decide) _).st (by decide) _).st (by decide) _).st (by decide) _
    simp only [f_X3_crashesAtBegin_39, f_X3_crashesAtBegin_55, f_X3_crashesAtBegin_81, f_X3_crashesAtBegin_105, wb_eq, st_r]
    by_cases h1 : x3 = 1
    · have h2 : ¬ x3 = 2 := by rw [h1]; decide
      obtain ⟨σ', z1, z2, z3⟩ := fin 0 0 1 (Or.inr rfl)
      refine ⟨σ', ?_, fun h5 => z2 (by simp [h1]) (by simp [h2]) h5, z3⟩
      rw [← z1]
      simp [h1, p1, r2]
    · by_cases h2 : x3 = 2
      · obtain ⟨σ', z1, z2, z3⟩ := fin x4 0 0 (Or.inl rfl)
        refine ⟨σ', ?_, fun h5 => z2 (by simp [h1]) (by simp only [h2, if_true]; exact e4 h2) h5, z3⟩
        rw [← z1]
        simp [h2, p1, r2]
      · obtain ⟨σ', z1, z2, z3⟩ := fin 0 0 0 (Or.inl rfl)
        refine ⟨σ', ?_, fun h5 => z2 (by simp [h1]) (by simp [h2]) h5, z3⟩
        rw [← z1]
        simp [h1, h2, p1, r2]
  simp only [f_X3_crashesAtBegin_0, h10m, g1, g2, hcl, if_false, false_or, g3, k1, k2, k3]
  rw [← h10m]
  have i21 : 21 + fm w = 21 + 3 * m := by rw [hfm]
  have i20 : 20 + fm w = 20 + 3 * m := by rw [hfm]
  by_cases hs : w 13 < w (tx i (21 + 3 * m))
  · rw [if_pos hs]
    exact key 0 0 (by simp [actV, i21, hs]) (fun q => by cases q)
  · rw [if_neg hs]
    exact key (w (tx i (20 + 3 * m))) (w (tx i (22 + 3 * m))) (by simp [actV, i21, i20, hs]) (fun _ => by rw [hfm])

