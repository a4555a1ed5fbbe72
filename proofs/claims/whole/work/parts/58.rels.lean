/-! the greatest kick -/
def kv (n k : Nat) (w : Vec) : Vec := upd (trV n w) 3 (nI k)
abbrev SU (n M : Nat) (w : Vec) (k : Nat) : Prop := (trL n M 1 (kv n k w)).1 = -6
theorem ru3 {k : Nat} (hk : k ≤ 2000) : ¬ ruR (nI 3) (nI k) = 0 := by
  rw [show ruR (nI 3) (nI k) = win (nI k) 0 2000 from rfl]
  unfold win
  rw [if_neg (nI_pos (by omega)), if_neg (by rw [show (2000 : Int32) = nI 2000 from rfl]; exact nI_nlt hk (by decide))]
  decide
theorem cst {n t c M k : Nat} {σ : Sg} {w : Vec} (hB : BS 1 n σ w) (hV : VW n t c w) (ht : t ≤ 1000000) (hT : TBq 36 σ) (hM : M ≤ 5000) (hk : k ≤ 2000) : ∃ σ', f_X4_staysUp_0 (nI k) (nI M) σ = some (if SU n M w k then 1 else 0, σ') ∧ TBq 36 σ' ∧ Fq 36 σ σ' := by
  obtain ⟨s1, x1, x2, x3, x4⟩ := ptr hB hV hT
  have b2 := bs_rule (k := 3) x2 hV.1.1.1 (by decide) (nI k)
  have v2 := ru_VW (k := 3) x4 (by decide) (ru3 hk)
  have F2 : Fq 36 σ (st s1 37 3 (nI k)) := x3.st (by decide) _ _
  obtain ⟨s3, t', c', z1, z2, z3, z4, z5⟩ := ctr_s (M := M) (by omega) b2 v2 (by omega)
  refine ⟨s3, ?_, z2.TBq, F2.tr z3⟩
  rw [f_X4_staysUp_0, x1, cb_some, wb_eq, z1, cb_some]
  show (if (trL n M 1 (kv n k w)).1 = -6 then _ else _) = some (if SU n M w k then 1 else 0, s3)
  by_cases h : SU n M w k
  · rw [if_pos (show (trL n M 1 (kv n k w)).1 = -6 from h), if_pos h, f_X4_staysUp_32, if_pos (by decide)]
  · rw [if_neg (show ¬ (trL n M 1 (kv n k w)).1 = -6 from h), if_neg h, f_X4_staysUp_32, if_pos (by decide)]
theorem su_cg {n t c M k : Nat} {σ : Sg} {w w' : Vec} (hB : BS 1 n σ w) (hV : VW n t c w) (ht : t ≤ 1000000) (hT : TBq 36 σ) (hM : M ≤ 5000) (hk : k ≤ 2000) (e : ∀ k, k < 255 → w' k = w k) : SU n M w' k ↔ SU n M w k := by
  obtain ⟨s1, x1, -⟩ := cst hB hV ht hT hM hk
  obtain ⟨s2, y1, -⟩ := cst (hB.cg hV.1.1.1 e) (hV.cg e) ht hT hM hk
  rw [x1] at y1
  injection y1 with y1
  injection y1 with y1 _
  by_cases h : SU n M w k
  · by_cases h' : SU n M w' k
    · exact ⟨fun _ => h, fun _ => h'⟩
    · rw [if_pos h, if_neg h'] at y1; exact absurd y1 (by decide)
  · by_cases h' : SU n M w' k
    · rw [if_neg h, if_pos h'] at y1; exact absurd y1 (by decide)
    · exact ⟨fun z => absurd z h', fun z => absurd z h⟩
theorem su_sc {n t c p M k k' : Nat} {σ : Sg} {w : Vec} (hB : BS 1 n σ w) (hV : VW n t c w) (ht : t ≤ 1000000) (hT : TBq 36 σ) (hM : M ≤ 5000) (hp : w 2 = nI p) (hp1 : 1 ≤ p) (hp2 : p ≤ 100) (hk : k ≤ 2000) (hk' : k' ≤ 2000) (hS : SC p k k') : SU n M w k' ↔ SU n M w k := by
  obtain ⟨s1, x1, x2, x3, x4⟩ := ptr hB hV hT
  have v2 : VW n t c (kv n k w) := ru_VW (k := 3) x4 (by decide) (ru3 hk)
  have e2 : kv n k w 2 = nI p := by
    have : trV n w 2 = w 2 := by
      unfold trV
      rw [show swV (lp cfT n 0 w) 2 = lp cfT n 0 w 2 by simp [swV, upd_ap]]
      exact (lp_keeps cfT_keeps n 0 w (by have := hV.1.1.1; omega)).1.1 2 (by decide)
    simp [kv, upd_ap, this, hp]
  have e3 : kv n k w 3 = nI k := by simp [kv, upd_ap]
  have e9 : kv n k w 9 = 0 := by simp [kv, trV, swV, upd_ap]
  have q := trL_3 (n := n) hp1 hp2 (show k < 2 ^ 30 by omega) (show k' < 2 ^ 30 by omega) hS M 1 t c (kv n k w) v2 (by omega) e2 e3 (fun z => by rw [e9] at z; exact absurd z (by decide))
  unfold SU
  rw [show upd (kv n k w) 3 (nI k') = kv n k' w from u3_u3 _ _ _] at q
  rw [q]
def gk (P : Nat → Prop) [DecidablePred P] : Nat → Int32
  | 0 => if P 0 then nI 0 else -6
  | k + 1 => if P (k + 1) then nI (k + 1) else gk P k
theorem gk_cg {P Q : Nat → Prop} [DecidablePred P] [DecidablePred Q] : ∀ (m : Nat), (∀ k, k ≤ m → (P k ↔ Q k)) → gk P m = gk Q m
  | 0, h => by
    rw [gk, gk]
    by_cases q : P 0
    · rw [if_pos q, if_pos ((h 0 (Nat.le_refl _)).mp q)]
    · rw [if_neg q, if_neg (fun z => q ((h 0 (Nat.le_refl _)).mpr z))]
  | m + 1, h => by
    rw [gk, gk]
    by_cases q : P (m + 1)
    · rw [if_pos q, if_pos ((h _ (Nat.le_refl _)).mp q)]
    · rw [if_neg q, if_neg (fun z => q ((h _ (Nat.le_refl _)).mpr z))]; exact gk_cg m (fun k hk => h k (by omega))
/-- down over numbers that don't hold -/
theorem gk_down (P : Nat → Prop) [DecidablePred P] (a : Nat) : ∀ (d : Nat), (∀ k, a < k → k ≤ a + d → ¬ P k) → gk P (a + d) = gk P a
  | 0, _ => rfl
  | d + 1, h => by
    rw [show a + (d + 1) = (a + d) + 1 from rfl, gk, if_neg (h _ (by omega) (by omega))]
    exact gk_down P a d (fun k h1 h2 => h k h1 (by omega))
theorem sc_of {p q k k' : Nat} (h1 : q * p < k) (h2 : k ≤ (q + 1) * p) (h3 : q * p < k') (h4 : k' ≤ (q + 1) * p) : SC p k k' := fun j => by
  by_cases h : j ≤ q
  · have : p * j ≤ q * p := by rw [Nat.mul_comm]; exact Nat.mul_le_mul_right p h
    omega
  · have : (q + 1) * p ≤ p * j := by rw [Nat.mul_comm p]; exact Nat.mul_le_mul_right p (by omega)
    omega
/-- the class's loop over the multiples -/
theorem ck {n t c p M : Nat} {w : Vec} (hV : VW n t c w) (ht : t ≤ 1000000) (hM : M ≤ 5000) (hp : w 2 = nI p) (hp1 : 1 ≤ p) (hp2 : p ≤ 100) (a : Int32) : ∀ (q f : Nat) (σ : Sg), q * p ≤ 1999 → q < f → BS 1 n σ w → TBq 36 σ → ∃ σ', f_X4_greatestKick_49 a (f + 1) (nI M) (nI p) (nI q) σ = some (gk (SU n M w) (q * p), σ') ∧ TBq 36 σ' ∧ Fq 36 σ σ' := by
  intro q
  induction q with
  | zero =>
    intro f σ hq hf hB hT
    obtain ⟨s1, x1, x2, x3⟩ := cst (k := 0) hB hV ht hT hM (by decide)
    refine ⟨s1, ?_, x2, x3⟩
    obtain ⟨f, rfl⟩ : ∃ f', f = f' + 1 := ⟨f - 1, by omega⟩
    have e0 : nI 0 * nI p = nI 0 := by rw [pk_mul, Nat.zero_mul]
    rw [f_X4_greatestKick_49, if_neg (nI_pos (by decide)), e0, x1, cb_some, Nat.zero_mul, gk]
    by_cases h : SU n M w 0
    · rw [if_pos h, if_pos h, if_neg (by decide)]
    · rw [if_neg h, if_neg h, if_pos rfl, f_X4_greatestKick_49, if_pos (show nI 0 + -1 < 0 by decide)]
  | succ q ih =>
    intro f σ hq hf hB hT
    obtain ⟨f, rfl⟩ : ∃ f', f = f' + 1 := ⟨f - 1, by omega⟩
    have hqp : (q + 1) * p = q * p + p := Nat.succ_mul q p
    obtain ⟨s1, x1, x2, x3⟩ := cst (k := (q + 1) * p) hB hV ht hT hM (by omega)
    have e0 : nI (q + 1) * nI p = nI ((q + 1) * p) := pk_mul _ _
    have hq31 : q + 1 < 2 ^ 31 := by
      have : q + 1 ≤ (q + 1) * p := Nat.le_mul_of_pos_right _ hp1
      omega
    have hgk : gk (SU n M w) ((q + 1) * p) = if SU n M w ((q + 1) * p) then nI ((q + 1) * p) else gk (SU n M w) (q * p) := by
      obtain ⟨m, hm⟩ : ∃ m, (q + 1) * p = m + 1 := ⟨(q + 1) * p - 1, by omega⟩
      rw [hm, gk, ← hm]
      by_cases h : SU n M w ((q + 1) * p)
      · rw [if_pos h, if_pos h]
      · rw [if_neg h, if_neg h]
        have hmd : m = q * p + (p - 1) := by omega
        rw [hmd]
        refine gk_down _ _ _ (fun k k1 k2 => fun z => h ?_)
        exact (su_sc hB hV ht hT hM hp hp1 hp2 (show k ≤ 2000 by omega) (show (q + 1) * p ≤ 2000 by omega) (sc_of (q := q) k1 (by omega) (by omega) (by omega))).mpr z
    rw [f_X4_greatestKick_49, if_neg (nI_pos hq31), e0, x1, cb_some, hgk]
    by_cases h : SU n M w ((q + 1) * p)
    · rw [if_pos h, if_pos h, if_neg (by decide)]
      exact ⟨s1, rfl, x2, x3⟩
    · rw [if_neg h, if_neg h, if_pos rfl, pk_m1]
      obtain ⟨s2, y1, y2, y3⟩ := ih f s1 (by omega) (by omega) (hB.F hV.1.1.1 (fun a h1 h2 => x3 a (by omega))) x2
      exact ⟨s2, y1, y2, x3.tr y3⟩
theorem cgk {n t c M : Nat} {σ : Sg} {w : Vec} (hB : BS 1 n σ w) (hV : VW n t c w) (ht : t ≤ 1000000) (hT : TBq 36 σ) (hM : 1 ≤ M) (hM2 : M ≤ 1000) : ∃ σ', f_X4_greatestKick_0 (nI M) σ = some (gk (SU n M w) 2000, σ') ∧ TBq 36 σ' ∧ Fq 36 σ σ' := by
  obtain ⟨p, hp1, hp2, hp⟩ := hV.1.2.1
  have hw : ¬ win (nI M) 1 1000 = 0 := by
    unfold win
    rw [if_neg (by rw [show (1 : Int32) = nI 1 from rfl]; exact nI_nlt hM (by omega)), if_neg (by rw [show (1000 : Int32) = nI 1000 from rfl]; exact nI_nlt hM2 (by decide))]
    decide
  obtain ⟨s1, x1, x2, x3⟩ := cst (k := 2000) hB hV ht hT (show M ≤ 5000 by omega) (by decide)
  have x1 : f_X4_staysUp_0 2000 (nI M) σ = _ := x1
  have b1 := hB.F hV.1.1.1 (fun a h1 h2 => x3 a (by omega))
  have s2 : s1 2 2 = nI p := (b1.1.1 2 (by decide)).trans hp
  have em : (if 1 < s1 2 2 then s1 2 2 else 1) = nI p := by
    rw [s2]
    by_cases q : p = 1
    · subst q; rw [if_neg (by decide)]; rfl
    · rw [if_pos (by rw [show (1 : Int32) = nI 1 from rfl]; exact nI_lt (by omega) (by omega))]
  have hdiv : 1999 / nI p = nI (1999 / p) := by rw [show (1999 : Int32) = nI 1999 from rfl]; exact pk_div (by decide) (by omega) (by omega)
  have hq1 : 1999 / p * p ≤ 1999 := Nat.div_mul_le_self _ _
  have hq2 : 1999 < (1999 / p + 1) * p := by
    have := Nat.div_add_mod 1999 p
    have := Nat.mod_lt 1999 (show p > 0 by omega)
    rw [Nat.succ_mul, Nat.mul_comm]
    omega
  have hg : gk (SU n M w) 2000 = if SU n M w 2000 then nI 2000 else gk (SU n M w) (1999 / p * p) := by
    rw [gk]
    by_cases h : SU n M w (1999 + 1)
    · rw [if_pos h, if_pos h]
    · rw [if_neg h, if_neg h]
      obtain ⟨d, hd⟩ : ∃ d, 1999 = 1999 / p * p + d := ⟨1999 - 1999 / p * p, by omega⟩
      have gg : gk (SU n M w) (1999 / p * p + d) = gk (SU n M w) (1999 / p * p) := by
        refine gk_down _ _ _ (fun k k1 k2 => fun z => h ?_)
        exact (su_sc hB hV ht hT (by omega) hp hp1 hp2 (show k ≤ 2000 by omega) (show 1999 + 1 ≤ 2000 by omega) (sc_of (q := 1999 / p) k1 (by omega) (by omega) (by omega))).mpr z
      rw [← hd] at gg
      exact gg
  rw [f_X4_greatestKick_0, win_c, cb_some, if_neg hw, x1, cb_some, hg]
  by_cases h : SU n M w 2000
  · rw [if_pos h, if_pos h, if_neg (by decide)]
    exact ⟨s1, rfl, x2, x3⟩
  · rw [if_neg h, if_neg h, if_pos rfl, em, if_neg (nI_ne0 (by omega) (by omega)), hdiv]
    obtain ⟨s2, y1, y2, y3⟩ := ck hV ht (show M ≤ 5000 by omega) hp hp1 hp2 (nI M) (1999 / p) 99999 s1 hq1 (by have := Nat.div_le_self 1999 p; omega) b1 x2
    exact ⟨s2, y1, y2, x3.tr y3⟩
/-- the reference's loop -/
theorem rk_end (a x1 x2 x3 : Int32) (f : Nat) (b : Sg) (v : Vec) (h : x3 < 0 ∨ 0 ≤ x2) : f_X5_greatestKick_25 a (f + 1) x1 x2 x3 (rb b v) = some (x2, rb b (mg 0 (b 152) v)) := by
  have e : f_X5_greatestKick_73 a x2 (rb b v) = some (x2, rb b (mg 0 (b 152) v)) := by rw [f_X5_greatestKick_73, pb_s, cb_some]
  rw [f_X5_greatestKick_25]
  by_cases h1 : x3 < 0
  · rw [if_pos h1]; exact e
  · rw [if_neg h1, if_pos (h.resolve_left h1)]; exact e
theorem rk {n t c M : Nat} {w : Vec} {σ : Sg} (hB : BS 1 n σ w) (hV : VW n t c w) (ht : t ≤ 1000000) (hT : TBq 36 σ) (hM : M ≤ 5000) (a : Int32) (b : Sg) (hb : ∀ k, k < 255 → b 152 k = w k) : ∀ (k f : Nat) (v : Vec), k ≤ 2000 → k < f → ∃ v', f_X5_greatestKick_25 a (f + 1) (nI M) (-6) (nI k) (rb b v) = some (gk (SU n M w) k, rb b v') ∧ ∀ j, j < 255 → v' j = w j := by
  intro k
  have st1 : ∀ (k f : Nat) (v : Vec), k ≤ 2000 → f_X5_greatestKick_25 a (f + 1) (nI M) (-6) (nI k) (rb b v) = f_X5_greatestKick_25 a f (nI M) (if SU n M w k then nI k else -6) (nI k + -1) (rb b (trL n M 1 (kv n k (mg 0 (b 152) v))).2) := by
    intro k f v hk
    have ew : ∀ k, k < 255 → mg 0 (b 152) v k = w k := fun k hk => by rw [mg_0 _ _ hk]; exact hb k hk
    have hV1 : VW n t c (mg 0 (b 152) v) := hV.cg ew
    obtain ⟨s1, x1, x2, x3, x4⟩ := ptr (hB.cg hV.1.1.1 ew) hV1 hT
    have v2 : VW n t c (kv n k (mg 0 (b 152) v)) := ru_VW (k := 3) x4 (by decide) (ru3 hk)
    have hsu := su_cg (k := k) hB hV ht hT hM hk ew
    rw [f_X5_greatestKick_25, if_neg (nI_pos (by omega)), if_neg (by decide), pb_s, cb_some, cf_s hV.1.1.1 b _ hV1.1.1.2.1, cb_some, wb_eq, rb_st, sw_s, cb_some, sw_3]
    rw [show upd (swV (lp cfT n 0 (mg 0 (b 152) v))) 3 (nI k) = kv n k (mg 0 (b 152) v) from rfl, rtr_s (by omega) b v2 (by omega), cb_some]
    by_cases h : SU n M w k
    · have h' : (trL n M 1 (kv n k (mg 0 (b 152) v))).1 = -6 := hsu.mpr h
      rw [if_pos h, h', if_neg (by decide), f_X5_greatestKick_66]
    · have h' : ¬ (trL n M 1 (kv n k (mg 0 (b 152) v))).1 = -6 := fun z => h (hsu.mp z)
      have pos : 0 ≤ (trL n M 1 (kv n k (mg 0 (b 152) v))).1 := by
        rcases trL_r n M 1 (kv n k (mg 0 (b 152) v)) with q | ⟨j, j1, j2, j3⟩
        · exact absurd q h'
        · rw [j3]; exact nI_pos' (by omega)
      rw [if_neg h, if_pos pos, f_X5_greatestKick_66]
  have me : ∀ (v : Vec) j, j < 255 → mg 0 (b 152) v j = w j := fun v j hj => by rw [mg_0 _ _ hj]; exact hb j hj
  induction k with
  | zero =>
    intro f v hk hf
    obtain ⟨f, rfl⟩ : ∃ f', f = f' + 1 := ⟨f - 1, by omega⟩
    rw [st1 0 _ v hk, rk_end _ _ _ _ _ _ _ (Or.inl (by decide)), gk]
    exact ⟨_, rfl, me _⟩
  | succ k ih =>
    intro f v hk hf
    obtain ⟨f, rfl⟩ : ∃ f', f = f' + 1 := ⟨f - 1, by omega⟩
    rw [st1 (k + 1) _ v hk, gk, pk_m1]
    by_cases h : SU n M w (k + 1)
    · rw [if_pos h, if_pos h, rk_end _ _ _ _ _ _ _ (Or.inr (nI_pos' (by omega)))]
      exact ⟨_, rfl, me _⟩
    · rw [if_neg h, if_neg h]
      exact ih f _ (by omega) (by omega)
theorem go_kick (a0 : Int32) : Go (f_X4_greatestKick_0 a0) (f_X5_greatestKick_0 a0) := by
  intro σ h
  obtain ⟨⟨n, t, c, y1, y2, y3⟩, z1, z2, z3, z4⟩ := id h
  by_cases h0 : win a0 1 1000 = 0
  · exact go_same h (-2) (by rw [f_X4_greatestKick_0, win_c, cb_some, if_pos h0]) (by rw [f_X5_greatestKick_0, win_r, cb_some, if_pos h0])
  obtain ⟨M, hM1, hM, rfl⟩ := win_n (lo := 1) (hi := 1000) (by decide) (by decide) h0
  obtain ⟨s1, q1, q4, q5⟩ := cgk y1 y2 y3 z1 hM1 hM
  have e : ∀ a, (a < 36 ∨ 71 ≤ a) → s1 a = σ a := fun a ha => q5 a (by omega)
  have e151 : s1 151 = σ 151 := e 151 (by decide)
  obtain ⟨v', p2, p3⟩ := rk y1 y2 y3 z1 (show M ≤ 5000 by omega) (nI M) (asd s1) (fun k hk => by rw [asd_152 _ hk, e151]) 2000 99999 (σ 151) (by decide) (by decide)
  refine ⟨_, s1, rb (asd s1) v', q1, ?_, h.mv (fun a h1 h2 h3 => by rw [rb_o _ _ h2, asd_o _ h3, e a h1]) (q4.F (fun a h1 h2 => by rw [rb_o _ _ (by omega), asd_o _ (by omega)])) (fun k hk => by rw [rb_151]; exact p3 k hk)⟩
  rw [f_X5_greatestKick_0, win_r, cb_some, if_neg h0, pa_s, cb_some, asd_rb, e151, rb_rb]
  exact p2
