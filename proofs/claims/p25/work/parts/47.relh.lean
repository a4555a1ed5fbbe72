/-! many ticks; the calls on one board -/
theorem ctr {q n M : Nat} (hM : M < 2 ^ 20) (a : Int32) : ∀ (d k f : Nat) (σ : Sg) (w : Vec) (t c : Nat), k + d = M + 1 → d < f → BS q n σ w → VW n t c w → t + d < 2 ^ 29 → ∃ σ' t' c', f_X0_ticksToReset_2 q a f (nI M) (nI k) σ = some ((trL n d k w).1, σ') ∧ BS q n σ' (trL n d k w).2 ∧ Fq q σ σ' ∧ VW n t' c' (trL n d k w).2 ∧ t' ≤ t + d
  | 0, k, f, σ, w, t, c, h, hf, hB, hV, ht => by
    obtain ⟨f, rfl⟩ : ∃ g, f = g + 1 := ⟨f - 1, by omega⟩
    rw [f_X0_ticksToReset_2, if_pos (nI_lt (by omega) (by omega)), trL]
    exact ⟨σ, t, c, rfl, hB, Fq.rf q σ, hV, by omega⟩
  | d + 1, k, f, σ, w, t, c, h, hf, hB, hV, ht => by
    obtain ⟨f, rfl⟩ : ∃ g, f = g + 1 := ⟨f - 1, by omega⟩
    obtain ⟨σ1, z1, z2, z3⟩ := ctk hB hV (by omega)
    obtain ⟨c1, hV1⟩ := tk_VW hV (by omega)
    rw [f_X0_ticksToReset_2, if_neg (nI_nlt (by omega) (by omega)), z1, cb_some, trL]
    by_cases h0 : (tk n w).1 = 0
    · rw [if_pos h0, if_pos h0, nI_1]
      obtain ⟨σ2, t2, c2, y1, y2, y3, y4, y5⟩ := ctr hM a d (k + 1) f σ1 (tk n w).2 (t + 1) c1 (by omega) (by omega) z2 hV1 (by omega)
      exact ⟨σ2, t2, c2, y1, y2, z3.tr y3, y4, by omega⟩
    · rw [if_neg h0, if_neg h0]
      exact ⟨σ1, t + 1, c1, rfl, z2, z3, hV1, by omega⟩
theorem trL_r (n : Nat) : ∀ (d k : Nat) (w : Vec), (trL n d k w).1 = -6 ∨ ∃ j, k ≤ j ∧ j < k + d ∧ (trL n d k w).1 = nI j
  | 0, _, _ => Or.inl rfl
  | d + 1, k, w => by
    rw [trL]; split
    · rcases trL_r n d (k + 1) (tk n w).2 with h | ⟨j, h1, h2, h3⟩
      · exact Or.inl h
      · exact Or.inr ⟨j, by omega, by omega, h3⟩
    · exact Or.inr ⟨k, by omega, by omega, rfl⟩
theorem ctr_s {q n M : Nat} (hM : M < 2 ^ 16) {σ : Sg} {w : Vec} {t c : Nat} (hB : BS q n σ w) (hV : VW n t c w) (ht : t + M < 2 ^ 29) : ∃ σ' t' c', f_X0_ticksToReset_0 q (nI M) σ = some ((trL n M 1 w).1, σ') ∧ BS q n σ' (trL n M 1 w).2 ∧ Fq q σ σ' ∧ VW n t' c' (trL n M 1 w).2 ∧ t' ≤ t + M :=
  ctr (M := M) (by omega) (nI M) M 1 FU σ w t c (by omega) (by unfold FU; omega) hB hV ht
def rnL (n : Nat) : Nat → Vec → Vec
  | 0, w => w
  | d + 1, w => rnL n d (tk n w).2
/-- a call on the board: class and reference agree -/
def Ag (fc fr : Sg → Option (Int32 × Sg)) : Prop := ∀ (n t c : Nat) (σ : Sg) (w : Vec), BS 1 n σ w → VW n t c w → t ≤ 1000000 → ∃ r σ' w' n' t' c', fc σ = some (r, σ') ∧ (∀ b, fr (rb b w) = some (r, rb b w')) ∧ BS 1 n' σ' w' ∧ VW n' t' c' w' ∧ t' ≤ 1000000 ∧ Fq 1 σ σ'
def win (x lo hi : Int32) : Int32 := if x < lo then 0 else if hi < x then 0 else 1
theorem win_c (x lo hi : Int32) (σ : Sg) : f_X4_isWithin_0 x lo hi σ = some (win x lo hi, σ) := win_s x lo hi σ
theorem win_b (x lo hi : Int32) : b01 (win x lo hi) := by
  unfold win; split
  · exact Or.inl rfl
  · split
    · exact Or.inl rfl
    · exact Or.inr rfl
theorem win_n {x : Int32} {lo hi : Nat} (hhi : hi < 2 ^ 31) (hlo : lo < 2 ^ 31) (h : ¬ win x (nI lo) (nI hi) = 0) : ∃ m, lo ≤ m ∧ m ≤ hi ∧ x = nI m := by
  unfold win at h
  by_cases h1 : x < nI lo
  · rw [if_pos h1] at h; exact absurd rfl h
  · by_cases h2 : nI hi < x
    · rw [if_neg h1, if_pos h2] at h; exact absurd rfl h
    · have h3 := Int32.not_lt.mp h1
      have h4 := Int32.not_lt.mp h2
      have h0 : ¬ x < 0 := by
        intro q
        have e1 := Int32.le_iff_toInt_le.mp h3
        have e2 := Int32.lt_iff_toInt_lt.mp q
        rw [nI_toInt hlo] at e1
        have e3 : (0 : Int32).toInt = 0 := rfl
        omega
      obtain ⟨m, hm, rfl⟩ := nI_of h0
      exact ⟨m, (nI_leI hlo hm).mp h3, (nI_leI hm hhi).mp h4, rfl⟩
theorem ag_same {fc fr : Sg → Option (Int32 × Sg)} {n t c : Nat} {σ : Sg} {w : Vec} (hB : BS 1 n σ w) (hV : VW n t c w) (ht : t ≤ 1000000) (r : Int32) (h1 : fc σ = some (r, σ)) (h2 : ∀ b, fr (rb b w) = some (r, rb b w)) : ∃ r σ' w' n' t' c', fc σ = some (r, σ') ∧ (∀ b, fr (rb b w) = some (r, rb b w')) ∧ BS 1 n' σ' w' ∧ VW n' t' c' w' ∧ t' ≤ 1000000 ∧ Fq 1 σ σ' := ⟨r, σ, w, n, t, c, h1, h2, hB, hV, ht, Fq.rf 1 σ⟩
theorem BS.RS {n q : Nat} {σ : Sg} {w : Vec} (h : BS q n σ w) (h9 : w 9 = 1) : RS q n σ w := ⟨⟨h.1, (h.2.2.1 h9).1, h.2.2.2.1, h.2.2.2.2⟩, (h.2.2.1 h9).2⟩
theorem mkV_18 {n c : Nat} (cause : Int32) (h3 : ¬ cause = 3) {w : Vec} (hn : n ≤ 6) (h18 : w 18 = nI c) (hc : c < 2 ^ 31) : mkV n cause (-6) w 18 = w 18 + 1 := by
  rw [mkV_ne3 cause (-6) w h3 h18 hc]
  exact (mk_keep (n := n) (c := c) cause _ w hn (fe_n w)).2.2.1
