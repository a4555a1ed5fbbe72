/-! what only reads -/
def exL (h : Nat → Int32) : Nat → Nat → Int32 → Int32
  | 0, _, x => x
  | d + 1, i, x => exL h d (i + 1) (if h i = 0 then x else x ||| (1 <<< (nI i &&& 31)))
theorem exL_c {g h : Nat → Int32} : ∀ (d i : Nat) (x : Int32), (∀ j, i ≤ j → j < i + d → g j = h j) → exL g d i x = exL h d i x
  | 0, _, _, _ => rfl
  | d + 1, i, x, e => by
    rw [exL, exL, e i (by omega) (by omega)]
    exact exL_c d (i + 1) _ (fun j h1 h2 => e j (by omega) (by omega))
theorem ex_c {q n : Nat} (hn : n ≤ 6) {σ : Sg} (h3 : σ q 3 = nI n) : ∀ (d i f : Nat) (x : Int32), i + d = n → d < f → f_X0_expiredSet_4 q f x (nI i) σ = some (exL (fun j => σ (T q j) 11) d i x, σ)
  | 0, i, f, x, h, hf => by
    obtain ⟨rfl, g, rfl⟩ := loop0 h hf
    rw [f_X0_expiredSet_4, h3, if_pos (nI_le (Nat.le_refl _) (by omega))]; rfl
  | d + 1, i, f + 1, x, h, hf => by
    have hcl : (nI i).toNatClampNeg = i := nI_clamp (by omega)
    rw [f_X0_expiredSet_4, h3, if_neg (nI_ge (by omega) (by omega)), hcl, if_neg (inb2 (by omega) (by decide)), exL]
    by_cases z : σ (T q i) 11 = 0
    · rw [show σ (q + 2 + 3 + 5 * i) 11 = 0 from z, if_pos rfl, f_X0_expiredSet_30, nI_1, if_pos rfl]
      exact ex_c hn h3 d (i + 1) f x (by omega) (by omega)
    · rw [if_neg (show ¬ σ (q + 2 + 3 + 5 * i) 11 = 0 from z), if_neg z, f_X0_expiredSet_30, nI_1]
      exact ex_c hn h3 d (i + 1) f _ (by omega) (by omega)
theorem or0 (x : Int32) : x ||| 0 = x := Int32.or_zero
theorem ifr (v : Int32) (σ : Sg) : f_X0_ifRunning_0 1 v σ = some (if σ 1 5 = 1 then v else 0, σ) := by
  rw [f_X0_ifRunning_0]
  by_cases h : σ 1 5 = 1
  · rw [if_pos h, if_pos h, f_X0_ifRunning_13]
  · rw [if_neg h, if_neg h, f_X0_ifRunning_13]
/-- of a task -/
theorem mo_c {t : Nat} (a0 : Int32) (σ : Sg) : ∃ v, f_X3_momentary_0 t a0 σ = some (v, σ) := by
  rw [f_X3_momentary_0]
  split
  · split <;> exact ⟨_, rfl⟩
  split
  · split
    · exact ⟨_, rfl⟩
    · split <;> exact ⟨_, rfl⟩
  split
  · exact ⟨_, rfl⟩
  split
  · exact ⟨_, rfl⟩
  split
  · split <;> exact ⟨_, rfl⟩
  · split <;> exact ⟨_, rfl⟩
/-- the records -/
theorem pr_s {q c m j : Nat} {σ : Sg} (h : σ q 1 = nI c) (hc : c < 2 ^ 30) (hm : m < c) (h16 : c ≤ m + 16) (hj : j < 5) : f_X1_property_0 q (nI m) (nI j) σ = some (σ (q + 1) (m % 16 * 5 + j), σ) := by
  have e1 : nI m - nI m / 16 * 16 = nI (m % 16) := by rw [show (16 : Int32) = nI 16 from rfl]; exact pk_rem (by omega) (by decide) (by decide)
  have e2 : nI (m % 16) * 5 + nI j = nI (m % 16 * 5 + j) := by rw [show (5 : Int32) = nI 5 from rfl, pk_mul, nI_add]
  have hlt : m % 16 < 16 := Nat.mod_lt _ (by decide)
  have hcl : (nI (m % 16 * 5 + j)).toNatClampNeg = m % 16 * 5 + j := nI_clamp (by omega)
  have l1 : ¬ nI m < nI c - 16 := by
    rw [Int32.lt_iff_toInt_lt, show (16 : Int32) = nI 16 from rfl, pk_sub_toInt hc (by decide), nI_toInt (by omega)]; omega
  have wj : win (nI j) 0 4 = 1 := by
    unfold win; rw [if_neg (nI_pos (by omega)), if_neg]
    rw [show (4 : Int32) = nI 4 from rfl]; exact nI_nlt (by omega) (by decide)
  rw [f_X1_property_0, if_neg (nI_pos (by omega)), h, if_neg (nI_ge hm (by omega)), if_neg l1, win_c, cb_some, wj, if_neg (by decide), e1, e2, hcl, if_neg (inb2 (by omega) (by decide))]
