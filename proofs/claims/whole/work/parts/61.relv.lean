/-! the pad is read: signs, digits, numbers -/
def sg (g : Nat → Nat) (m p : Nat) : Nat := if p < m then g p else 0
def CP (m : Nat) (g : Nat → Nat) (σ : Sg) (p : Nat) : Prop := σ 143 1 = nI m ∧ σ 143 2 = nI p ∧ ∀ j, j < m → σ 144 j = nI (g j)
def RP (m : Nat) (g : Nat → Nat) (σ : Sg) (p : Nat) : Prop := σ 150 5 = nI m ∧ σ 150 6 = nI p ∧ ∀ j, j < m → σ 155 j = nI (g j)
def GC (m : Nat) (g : Nat → Nat) : Prop := m ≤ 60 ∧ ∀ j, j < m → 33 ≤ g j ∧ g j ≤ 126
theorem sg_le {m p : Nat} {g : Nat → Nat} (h : GC m g) : sg g m p ≤ 126 := by
  unfold sg; by_cases q : p < m
  · rw [if_pos q]; exact (h.2 p q).2
  · rw [if_neg q]; omega
theorem sg_lt {m p : Nat} {g : Nat → Nat} (h : sg g m p ≠ 0) : p < m := by
  refine Nat.lt_of_not_le (fun z => h ?_)
  unfold sg; rw [if_neg (by omega)]
theorem CP.to {m p : Nat} {g : Nat → Nat} {σ : Sg} (h : CP m g σ p) (p' : Nat) : CP m g (st σ 143 2 (nI p')) p' := ⟨by simp [st_r]; exact h.1, by simp [st_r], fun j hj => by rw [st_o 144 (by decide)]; exact h.2.2 j hj⟩
theorem RP.to {m p : Nat} {g : Nat → Nat} {σ : Sg} (h : RP m g σ p) (p' : Nat) : RP m g (st σ 150 6 (nI p')) p' := ⟨by simp [st_r]; exact h.1, by simp [st_r], fun j hj => by rw [st_o 155 (by decide)]; exact h.2.2 j hj⟩
theorem st_st (σ : Sg) (q k : Nat) (x y : Int32) : st (st σ q k x) q k y = st σ q k y := by
  funext a b; simp only [st_r]; by_cases h : a = q ∧ b = k
  · rw [if_pos h, if_pos h]
  · rw [if_neg h, if_neg h, if_neg h]
theorem st_id (σ : Sg) (q k : Nat) {x : Int32} (h : σ q k = x) : st σ q k x = σ := by
  funext a b; simp only [st_r]; by_cases z : a = q ∧ b = k
  · rw [if_pos z, z.1, z.2, h]
  · rw [if_neg z]
theorem CP.id {m p : Nat} {g : Nat → Nat} {σ : Sg} (h : CP m g σ p) : st σ 143 2 (nI p) = σ := st_id σ 143 2 h.2.1
theorem RP.id {m p : Nat} {g : Nat → Nat} {σ : Sg} (h : RP m g σ p) : st σ 150 6 (nI p) = σ := st_id σ 150 6 h.2.1
theorem sign_c {m p : Nat} {g : Nat → Nat} (hg : GC m g) {σ : Sg} (h : CP m g σ p) (hp : p ≤ m) : f_X2_sign_0 σ = some (nI (sg g m p), σ) := by
  obtain ⟨h1, h2, h3⟩ := h
  have := hg.1
  rw [f_X2_sign_0, h2, if_neg (nI_pos (by omega)), h1]
  by_cases q : p < m
  · have hcl : (nI p).toNatClampNeg = p := nI_clamp (by omega)
    have hc := (hg.2 p q).2
    rw [if_neg (nI_ge q (by omega)), if_neg (by rw [show (60 : Int32) = nI 60 from rfl]; exact nI_ge (by omega) (by decide)), hcl, if_neg (inb2 (by omega) (by decide)), h3 p q, f_X2_sign_40, if_pos (by rw [pk_char, pk_tn (by omega), Nat.mod_eq_of_lt (by omega)]), sg, if_pos q]
  · rw [if_pos (nI_le (by omega) (by omega)), f_X2_sign_39, f_X2_sign_40, if_pos (by decide), sg, if_neg q]; rfl
theorem next_r {m p : Nat} {g : Nat → Nat} (hg : GC m g) {σ : Sg} (h : RP m g σ p) (hp : p ≤ m) : f_X5_next_0 σ = some (nI (sg g m p), σ) := by
  obtain ⟨h1, h2, h3⟩ := h
  have := hg.1
  rw [f_X5_next_0, h2, h1]
  by_cases q : p < m
  · have hcl : (nI p).toNatClampNeg = p := nI_clamp (by omega)
    rw [if_neg (nI_ge q (by omega)), hcl, if_neg (inb2 (by omega) (by decide)), h3 p q, f_X5_next_24, sg, if_pos q]
  · rw [if_pos (nI_le (by omega) (by omega)), f_X5_next_24, sg, if_neg q]; rfl
theorem acc_c {m p : Nat} {g : Nat → Nat} (hg : GC m g) {σ : Sg} (h : CP m g σ p) (hp : p ≤ m) {c : Nat} (hc : c < 200) : f_X2_accept_0 (nI c) σ = if sg g m p = c then some (1, st σ 143 2 (nI (p + 1))) else some (0, σ) := by
  have := sg_le (p := p) hg
  rw [f_X2_accept_0, sign_c hg h hp, cb_some]
  by_cases q : sg g m p = c
  · rw [if_pos q, if_pos (by rw [q]), wb_eq, h.2.1, nI_1]
  · rw [if_neg q, if_neg (fun z => q ((nI_eq (by omega) (by omega)).mp z))]
theorem tak_r {m p : Nat} {g : Nat → Nat} (hg : GC m g) {σ : Sg} (h : RP m g σ p) (h7 : σ 150 7 = 0) (hp : p ≤ m) {c : Nat} (hc : c < 200) : f_X5_takes_0 (nI c) σ = if sg g m p = c then some (1, st σ 150 6 (nI (p + 1))) else some (0, σ) := by
  have := sg_le (p := p) hg
  rw [f_X5_takes_0, if_pos h7, next_r hg h hp, cb_some]
  by_cases q : sg g m p = c
  · rw [if_pos q, if_pos (by rw [q]), wb_eq, h.2.1, nI_1]
  · rw [if_neg q, if_neg (fun z => q ((nI_eq (by omega) (by omega)).mp z)), f_X5_takes_15]
theorem tak_f {σ : Sg} (c : Int32) (h7 : ¬ σ 150 7 = 0) : f_X5_takes_0 c σ = some (0, σ) := by rw [f_X5_takes_0, if_neg h7, f_X5_takes_15]
def dgt (s : Nat) : Int32 := if 48 ≤ s ∧ s ≤ 57 then nI (s - 48) else -1
theorem dig_c {m p : Nat} {g : Nat → Nat} (hg : GC m g) {σ : Sg} (h : CP m g σ p) (hp : p ≤ m) : f_X2_digit_0 σ = some (dgt (sg g m p), σ) := by
  have := sg_le (p := p) hg
  rw [f_X2_digit_0, sign_c hg h hp, cb_some]
  unfold dgt
  by_cases a : sg g m p < 48
  · rw [if_pos (by rw [show (48 : Int32) = nI 48 from rfl]; exact nI_lt a (by decide)), if_neg (by omega), f_X2_digit_24, f_X2_digit_25]
  · rw [if_neg (by rw [show (48 : Int32) = nI 48 from rfl]; exact nI_nlt (by omega) (by omega))]
    by_cases b : 57 < sg g m p
    · rw [if_pos (by rw [show (57 : Int32) = nI 57 from rfl]; exact nI_lt b (by omega)), if_neg (by omega), f_X2_digit_24, f_X2_digit_25]
    · rw [if_neg (by rw [show (57 : Int32) = nI 57 from rfl]; exact nI_nlt (by omega) (by omega)), if_pos (by omega), f_X2_digit_25, show (48 : Int32) = nI 48 from rfl, pk_sub (by omega)]
theorem win_i {s lo hi : Nat} (hs : s < 2 ^ 31) (hlo : lo < 2 ^ 31) (hhi : hi < 2 ^ 31) : win (nI s) (nI lo) (nI hi) = if lo ≤ s ∧ s ≤ hi then 1 else 0 := by
  unfold win
  by_cases a : s < lo
  · rw [if_pos (nI_lt a hlo), if_neg (by omega)]
  · rw [if_neg (nI_nlt (by omega) hs)]
    by_cases b : hi < s
    · rw [if_pos (nI_lt b hs), if_neg (by omega)]
    · rw [if_neg (nI_nlt (by omega) hhi), if_pos (by omega)]
/-- the digits after the first -/
theorem numl {m : Nat} {g : Nat → Nat} (hg : GC m g) {mx : Nat} (hmx : mx ≤ 5000) (a0 : Int32) : ∀ (d p X : Nat), p + d = m → X ≤ 5000 → ∃ v p', p ≤ p' ∧ p' ≤ m ∧ v ≤ 5000 ∧ (∀ σ f x3, CP m g σ p → x3 + d < 60 → d < f → f_X2_readNumber_23 a0 f (nI mx) (nI X) (nI x3) σ = some (nI v, st σ 143 2 (nI p'))) ∧ (∀ σ f, RP m g σ p → d < f → f_X5_readNumber_46 a0 f (nI mx) (nI X) σ = some (nI v, st σ 150 6 (nI p')))
  | d, p, X, h, hX => by
    have hp : p ≤ m := by omega
    have hs := sg_le (p := p) hg
    have hcls : ∀ σ f x3, CP m g σ p → x3 + d < 60 → d < f → f_X2_readNumber_23 a0 f (nI mx) (nI X) (nI x3) σ = if dgt (sg g m p) < 0 then some (nI X, σ) else if nI X = 0 then some (nI X, σ) else if nI X * 10 + dgt (sg g m p) ≤ nI mx then f_X2_readNumber_23 a0 (f - 1) (nI mx) (nI X * 10 + dgt (sg g m p)) (nI (x3 + 1)) (st σ 143 2 (nI (p + 1))) else some (nI X, σ) := by
      intro σ f x3 hC hx hf
      obtain ⟨f, rfl⟩ : ∃ f', f = f' + 1 := ⟨f - 1, by omega⟩
      rw [f_X2_readNumber_23, if_neg (by rw [show (60 : Int32) = nI 60 from rfl]; exact nI_ge (by omega) (by decide)), dig_c hg hC hp, cb_some, nI_1]
      simp only [f_X2_readNumber_55, wb_eq, hC.2.1, nI_1, Nat.add_sub_cancel]
    have hrf : ∀ σ f, RP m g σ p → d < f → f_X5_readNumber_46 a0 f (nI mx) (nI X) σ = if nI X ≤ 0 then some (nI X, σ) else if win (nI (sg g m p)) 48 57 = 0 then some (nI X, σ) else if nI mx < (10 * nI X + nI (sg g m p)) - 48 then some (nI X, σ) else f_X5_readNumber_46 a0 (f - 1) (nI mx) ((10 * nI X + nI (sg g m p)) - 48) (st σ 150 6 (nI (p + 1))) := by
      intro σ f hR hf
      obtain ⟨f, rfl⟩ : ∃ f', f = f' + 1 := ⟨f - 1, by omega⟩
      rw [f_X5_readNumber_46]
      simp only [next_r hg hR hp, cb_some, win_r, f_X5_readNumber_106, wb_eq, hR.2.1, nI_1, Nat.add_sub_cancel]
    have stop : ((nI X = 0) ∨ ¬ (48 ≤ sg g m p ∧ sg g m p ≤ 57) ∨ mx < 10 * X + sg g m p - 48) → ∃ v p', p ≤ p' ∧ p' ≤ m ∧ v ≤ 5000 ∧ (∀ σ f x3, CP m g σ p → x3 + d < 60 → d < f → f_X2_readNumber_23 a0 f (nI mx) (nI X) (nI x3) σ = some (nI v, st σ 143 2 (nI p'))) ∧ (∀ σ f, RP m g σ p → d < f → f_X5_readNumber_46 a0 f (nI mx) (nI X) σ = some (nI v, st σ 150 6 (nI p'))) := by
      intro hq
      refine ⟨X, p, Nat.le_refl p, hp, hX, fun σ f x3 hC hx hf => ?_, fun σ f hR hf => ?_⟩
      · rw [hcls σ f x3 hC hx hf, hC.id]
        by_cases h1 : dgt (sg g m p) < 0
        · rw [if_pos h1]
        rw [if_neg h1]
        by_cases h2 : nI X = 0
        · rw [if_pos h2]
        rw [if_neg h2, if_neg]
        have hd : 48 ≤ sg g m p ∧ sg g m p ≤ 57 := by
          refine Decidable.byContradiction (fun z => h1 ?_)
          unfold dgt; rw [if_neg z]; decide
        have h3 : mx < 10 * X + sg g m p - 48 := (hq.resolve_left h2).resolve_left (fun z => z hd)
        unfold dgt
        rw [if_pos hd, show (10 : Int32) = nI 10 from rfl, pk_mul, nI_add]
        exact nI_ge (by omega) (by omega)
      · rw [hrf σ f hR hf, hR.id]
        by_cases h1 : nI X ≤ 0
        · rw [if_pos h1]
        rw [if_neg h1]
        by_cases h2 : win (nI (sg g m p)) 48 57 = 0
        · rw [if_pos h2]
        rw [if_neg h2, if_pos]
        have hd : 48 ≤ sg g m p ∧ sg g m p ≤ 57 := by
          refine Decidable.byContradiction (fun z => h2 ?_)
          exact (win_i (lo := 48) (hi := 57) (by omega) (by decide) (by decide)).trans (if_neg z)
        have h3 : mx < 10 * X + sg g m p - 48 := (hq.resolve_left (fun z => h1 (by rw [z]; decide))).resolve_left (fun z => z hd)
        rw [show (10 : Int32) = nI 10 from rfl, pk_mul, nI_add, show (48 : Int32) = nI 48 from rfl, pk_sub (by omega)]
        exact nI_lt h3 (by omega)
    by_cases hX0 : X = 0
    · exact stop (Or.inl (by rw [hX0]; rfl))
    by_cases hd : 48 ≤ sg g m p ∧ sg g m p ≤ 57
    · by_cases hm : mx < 10 * X + sg g m p - 48
      · exact stop (Or.inr (Or.inr hm))
      have hpm : p < m := sg_lt (g := g) (by omega)
      have eS : X * 10 + (sg g m p - 48) = 10 * X + sg g m p - 48 := by omega
      obtain ⟨d, rfl⟩ : ∃ d', d = d' + 1 := ⟨d - 1, by omega⟩
      obtain ⟨v, p', q1, q2, q3, q4, q5⟩ := numl hg hmx a0 d (p + 1) (10 * X + sg g m p - 48) (by omega) (by omega)
      have nX : ¬ nI X = 0 := nI_ne0 (by omega) (by omega)
      refine ⟨v, p', by omega, q2, q3, fun σ f x3 hC hx hf => ?_, fun σ f hR hf => ?_⟩
      · have ed : nI X * 10 + dgt (sg g m p) = nI (10 * X + sg g m p - 48) := by
          unfold dgt; rw [if_pos hd, show (10 : Int32) = nI 10 from rfl, pk_mul, nI_add, eS]
        rw [hcls σ f x3 hC hx hf, ed, if_neg, if_neg nX, if_pos (nI_le (by omega) (by omega)), q4 _ (f - 1) (x3 + 1) (hC.to (p + 1)) (by omega) (by omega), st_st]
        unfold dgt; rw [if_pos hd]; exact nI_pos (by omega)
      · have ed : (10 * nI X + nI (sg g m p)) - 48 = nI (10 * X + sg g m p - 48) := by
          rw [show (10 : Int32) = nI 10 from rfl, pk_mul, nI_add, show (48 : Int32) = nI 48 from rfl, pk_sub (by omega)]
        have hw : ¬ win (nI (sg g m p)) 48 57 = 0 := by
          rw [show win (nI (sg g m p)) 48 57 = win (nI (sg g m p)) (nI 48) (nI 57) from rfl, win_i (by omega) (by decide) (by decide), if_pos hd]; decide
        rw [hrf σ f hR hf, ed, if_neg (nI_nle (by omega) (by omega)), if_neg hw, if_neg (nI_nlt (by omega) (by omega)), q5 _ (f - 1) (hR.to (p + 1)) (by omega), st_st]
    · exact stop (Or.inr (Or.inl hd))
/-- a number: none, or a value -/
theorem numr {m : Nat} {g : Nat → Nat} (hg : GC m g) {mx : Nat} (hmx : mx ≤ 5000) {p : Nat} (hp : p ≤ m) : ((∀ σ, CP m g σ p → f_X2_readNumber_0 (nI mx) σ = some (-1, σ)) ∧ ∀ σ, RP m g σ p → σ 150 7 = 0 → f_X5_readNumber_0 (nI mx) σ = some (0, st σ 150 7 1)) ∨ ∃ v p', p < p' ∧ p' ≤ m ∧ v ≤ 5000 ∧ (∀ σ, CP m g σ p → f_X2_readNumber_0 (nI mx) σ = some (nI v, st σ 143 2 (nI p'))) ∧ ∀ σ, RP m g σ p → σ 150 7 = 0 → f_X5_readNumber_0 (nI mx) σ = some (nI v, st σ 150 6 (nI p')) := by
  have hs := sg_le (p := p) hg
  have hm := hg.1
  have hw : win (nI (sg g m p)) 48 57 = if 48 ≤ sg g m p ∧ sg g m p ≤ 57 then 1 else 0 := win_i (lo := 48) (hi := 57) (by omega) (by decide) (by decide)
  by_cases hd : 48 ≤ sg g m p ∧ sg g m p ≤ 57
  · right
    have hpm : p < m := sg_lt (g := g) (by omega)
    obtain ⟨v, p', q1, q2, q3, q4, q5⟩ := numl hg hmx (nI mx) (m - (p + 1)) (p + 1) (sg g m p - 48) (by omega) (by omega)
    refine ⟨v, p', by omega, q2, q3, fun σ hC => ?_, fun σ hR h7 => ?_⟩
    · have ed : dgt (sg g m p) = nI (sg g m p - 48) := by unfold dgt; rw [if_pos hd]
      rw [f_X2_readNumber_0, dig_c hg hC hp, cb_some, ed, if_pos (nI_pos' (by omega)), wb_eq, hC.2.1, nI_1]
      have := q4 _ FU 0 (hC.to (p + 1)) (by omega) (by unfold FU; omega)
      rw [st_st] at this
      exact this
    · rw [f_X5_readNumber_0, if_pos h7, next_r hg hR hp, cb_some, win_r, cb_some, hw, if_pos hd, if_neg (by decide), next_r hg hR hp, cb_some, wb_eq, hR.2.1, nI_1, show (48 : Int32) = nI 48 from rfl, pk_sub hd.1]
      have := q5 _ FU (hR.to (p + 1)) (by unfold FU; omega)
      rw [st_st] at this
      exact this
  · left
    refine ⟨fun σ hC => ?_, fun σ hR h7 => ?_⟩
    · have ed : dgt (sg g m p) = -1 := by unfold dgt; rw [if_neg hd]
      rw [f_X2_readNumber_0, dig_c hg hC hp, cb_some, ed, if_neg (by decide)]
    · rw [f_X5_readNumber_0, if_pos h7, next_r hg hR hp, cb_some, win_r, cb_some, hw, if_neg hd, if_pos rfl, f_X5_readNumber_21, wb_eq]
