/-! the start's facts against the fresh world; the loop's numbers -/
theorem ks_kk {Γ : GG} {s : State} {x m : Nat} {u : UX4} {v : UX5} (h : KS Γ s) (h1 : ∀ i j, i < 157 → j < 157 → (ΓA Γ x m u v).1 i = (ΓA Γ x m u v).1 j → i = j) (hAB : ∀ q, AD (ΓA Γ x m u v) q → Ab s.heap.size q) : KK (ΓA Γ x m u v) s s.heap :=
  ⟨h.1.1, h.1.2.1, fun k hk => ⟨(h.2.1 k hk).1.narrow hAB, (h.2.1 k hk).2.narrow hAB⟩, ⟨h.2.2.1, h.2.2.2.1.narrow hAB, h.2.2.2.2.1.narrow hAB, h.2.2.2.2.2.narrow hAB⟩, h1⟩
theorem gt6 {i L : Nat} (hi : i ≤ 3078) (hL : L ≤ 3072) (h : ¬ Int32.ofNat L - 6 < nI i) : i + 6 ≤ L := by
  have h : ¬ nI L - 6 < nI i := h
  rw [Int32.lt_iff_toInt_lt, Int32.toInt_sub, nI_toInt (by omega), nI_toInt (by omega)] at h
  have e : ((L : Int) - (6 : Int32).toInt).bmod (2 ^ 32) = (L : Int) - 6 := by
    rw [show (6 : Int32).toInt = 6 from rfl]
    exact Int.bmod_eq_of_le (by omega) (by omega)
  rw [e] at h
  omega
theorem AD_of {Γ : GG} {base : Nat} (h : ∀ k, k < 157 → base ≤ Γ.1 k) : ∀ q, AD Γ q → Ab base q := fun q ⟨k, hk, e⟩ => by rw [e]; exact h k hk
theorem AL_0 (Γ : GG) (x m : Nat) (u : UX4) (v : UX5) : (ΓA Γ x m u v).1 0 = x := rfl
theorem AL_150 (Γ : GG) (x m : Nat) (u : UX4) (v : UX5) : (ΓA Γ x m u v).1 150 = m := rfl
