/-! the reference's tick -/
theorem loop0 {n i f : Nat} (h : i + 0 = n) (hf : 0 < f) : i = n ∧ ∃ g, f = g + 1 := ⟨by omega, f - 1, by omega⟩
def spV (n : Nat) (w : Vec) : Vec := upd w 16 (w 16 + (if fe w n 0 < 0 then 0 else 1))
def suV (n : Nat) (w : Vec) : Vec := spV n (lp jdV n 0 (upd w 15 (w 15 + 1)))
def suR (w : Vec) : Int32 := if w 4 < w 16 then 0 else if w 14 < w 3 then 0 else 1
theorem sp_s (x : Int32) (b : Sg) (w : Vec) : f_X5_supervise_55 x (w 16) 16 (rb b w) = some (suR (upd w 16 (w 16 + x)), rb b (upd w 16 (w 16 + x))) := by
  have hc : (16 : Int32).toNatClampNeg = 16 := by decide
  have hg : ¬ ((16 : Int32) < 0 ∨ 255 ≤ (16 : Int32).toNatClampNeg) := by decide
  simp only [f_X5_supervise_55, f_X5_supervise_93, f_X5_supervise_94, if_neg hg, hc, wb_eq, rb_st, rb_151, suR, upd_ap]
  by_cases h1 : w 4 < w 16 + x
  · simp [h1]
  · by_cases h2 : w 14 < w 3 <;> simp [h1, h2]
theorem su_loop {n : Nat} (hn : n ≤ 6) (b : Sg) : ∀ (d i f : Nat) (w : Vec), i + d = n → d < f → w 17 = nI n → (∀ j, j < n → ¬ w (tx j 3) = 0) → f_X5_supervise_13 f (nI i) (rb b w) = some (suR (spV n (lp jdV d i w)), rb b (spV n (lp jdV d i w)))
  | 0, i, f, w, h, hf, h17, h3 => by
    obtain ⟨rfl, f, rfl⟩ := loop0 h hf
    rw [f_X5_supervise_13, rb_151, h17, if_pos (nI_le (Nat.le_refl _) (by omega)), fe_s hn b w h17, cb_some, lp, spV]
    by_cases h : fe w i 0 < 0
    · simp only [h, if_true]; exact sp_s 0 b w
    · simp only [h, if_false]; exact sp_s 1 b w
  | d + 1, i, f, w, h, hf, h17, h3 => by
    obtain ⟨f, rfl⟩ : ∃ g, f = g + 1 := ⟨f - 1, by omega⟩
    have hi : i < 6 := by omega
    have hk := jd_keeps i w
    rw [f_X5_supervise_13, rb_151, h17, if_neg (nI_ge (by omega) (by omega)), jd_s hi b w (h3 i (by omega)), cb_some, nI_1, lp]
    exact su_loop hn b d (i + 1) f (jdV i w) (by omega) (by omega) (by rw [hk.1 17 (by decide)]; exact h17) (fun j hj => by rw [hk.2.1 j 3 (by decide) (Or.inr (by decide))]; exact h3 j hj)
theorem su_s {n : Nat} (hn : n ≤ 6) (b : Sg) (w : Vec) (h17 : w 17 = nI n) (h3 : ∀ j, j < n → ¬ w (tx j 3) = 0) : f_X5_supervise_0 (rb b w) = some (suR (suV n w), rb b (suV n w)) := by
  simp only [f_X5_supervise_0, wb_eq, rb_151, rb_st]
  rw [show (0 : Int32) = nI 0 from rfl]
  exact su_loop hn b n 0 FU _ (by omega) (by unfold FU; omega) (by simp only [upd_ap, show (17 = 15) = False by decide, if_false]; exact h17) (fun j hj => by simp only [upd_ap, tx_k _ _ 15 (by decide), if_false]; exact h3 j hj)
def crL : Nat → Nat → Vec → Option Nat × Vec
  | 0, _, w => (none, w)
  | d + 1, i, w => if (cr i w).1 = 0 then crL d (i + 1) (cr i w).2 else (some i, (cr i w).2)
def stb (x : Int32) (w : Vec) : Vec := upd (upd w 14 x) 11 (if w 13 = w 6 then 0 else w 11)
def dec (n : Nat) (k : Int32) (w : Vec) : Int32 × Vec := if k = 0 then if w 14 ≤ w 1 then (0, stb (w 14) w) else (1, mkV n 2 (-6) w) else if w 14 < w 0 then (1, mkV n 1 (-6) w) else (0, stb 0 w)
def aft (n : Nat) (w : Vec) : Int32 × Vec := if w 13 - w 13 / w 2 * w 2 = 0 then dec n (suR (suV n w)) (suV n w) else dec n 0 w
def rn2 (n : Nat) (p : Option Nat × Vec) : Int32 × Vec := match p.1 with
  | some j => (1, mkV n 3 (nI j) p.2)
  | none => aft n p.2
def up2 (w : Vec) : Vec := upd (upd w 13 (w 13 + 1)) 14 (w 14 + 1)
def rn (n : Nat) (w : Vec) : Int32 × Vec := rn2 n (crL n 0 (up2 w))
theorem stb_s (x : Int32) (b : Sg) (w : Vec) : f_X5_runs_165 x 14 (rb b w) = some (0, rb b (stb x w)) := by
  have hc : (14 : Int32).toNatClampNeg = 14 := by decide
  have hg : ¬ ((14 : Int32) < 0 ∨ 255 ≤ (14 : Int32).toNatClampNeg) := by decide
  have hc1 : (11 : Int32).toNatClampNeg = 11 := by decide
  have hg1 : ¬ ((11 : Int32) < 0 ∨ 255 ≤ (11 : Int32).toNatClampNeg) := by decide
  simp only [f_X5_runs_165, f_X5_runs_200, if_neg hg, hc, if_neg hg1, hc1, wb_eq, rb_st, rb_151, stb, upd_ap]
  by_cases h1 : w 13 = w 6 <;> simp [h1]
/-- what the reference needs, to go on without a throw -/
def V0 (n c : Nat) (w : Vec) : Prop := n ≤ 6 ∧ w 17 = nI n ∧ w 18 = nI c ∧ c < 2 ^ 31 ∧ (w 10 = 0 ∨ w 10 = 1) ∧ ¬ w 2 = 0 ∧ ∀ j, j < n → ¬ w (tx j 0) = 0 ∧ ¬ w (tx j 3) = 0
theorem V0.keepA {n c : Nat} {P : Nat → Prop} {w v : Vec} (h : V0 n c w) (hk : keepA P w v) (h0 : ¬ P 0) (h3 : ¬ P 3) : V0 n c v := by
  obtain ⟨a1, a2, a3, a4, a5, a6, a7⟩ := h
  refine ⟨a1, by rw [hk.1 17 (by decide)]; exact a2, by rw [hk.1 18 (by decide)]; exact a3, a4, by rw [hk.1 10 (by decide)]; exact a5, by rw [hk.1 2 (by decide)]; exact a6, fun j hj => ?_⟩
  rw [hk.2.1 j 0 (by decide) h0, hk.2.1 j 3 (by decide) h3]
  exact a7 j hj
theorem V0.u {n c : Nat} {w : Vec} (h : V0 n c w) {k : Nat} (hk : k < 19) (h2 : k ≠ 2) (h10 : k ≠ 10) (h17 : k ≠ 17) (h18 : k ≠ 18) (x : Int32) : V0 n c (upd w k x) := by
  obtain ⟨a1, a2, a3, a4, a5, a6, a7⟩ := h
  refine ⟨a1, by simp only [upd_ap, if_neg h17.symm]; exact a2, by simp only [upd_ap, if_neg h18.symm]; exact a3, a4, by simp only [upd_ap, if_neg h10.symm]; exact a5, by simp only [upd_ap, if_neg h2.symm]; exact a6, fun j hj => ?_⟩
  simp only [upd_ap, tx_k _ _ k hk, if_false]
  exact a7 j hj
theorem su_V0 {n c : Nat} {w : Vec} (h : V0 n c w) : V0 n c (suV n w) := by
  unfold suV spV
  have h1 := h.u (k := 15) (by decide) (by decide) (by decide) (by decide) (by decide) (w 15 + 1)
  have h2 := h1.keepA (lp_keeps jd_keeps n 0 _ (by have := h.1; omega)).1 (by decide) (by decide)
  exact h2.u (by decide) (by decide) (by decide) (by decide) (by decide) _
theorem dec_s {n c : Nat} (k : Int32) (b : Sg) (w : Vec) (h : V0 n c w) : f_X5_runs_86 k (rb b w) = some ((dec n k w).1, rb b (dec n k w).2) := by
  have m1 : ∀ cause : Int32, ¬ cause = 3 → f_X5_makeReset_0 cause (-6) (rb b w) = some (0, rb b (mkV n cause (-6) w)) := fun cause hc => mk_s h.1 cause (-6) b w h.2.1 h.2.2.1 h.2.2.2.1 (fun q => absurd q hc)
  simp only [f_X5_runs_86, f_X5_runs_107, f_X5_runs_127, f_X5_runs_137, f_X5_runs_144, rb_151, dec, stb_s, m1 1 (by decide), m1 2 (by decide), cb_some]
  by_cases h0 : k = 0
  · by_cases h1 : w 14 ≤ w 1 <;> simp [h0, h1]
  · by_cases h1 : w 14 < w 0 <;> simp [h0, h1]
theorem rn_loop {n c : Nat} (b : Sg) : ∀ (d i f : Nat) (w : Vec), i + d = n → d < f → V0 n c w → f_X5_runs_24 f (nI i) (rb b w) = some ((rn2 n (crL d i w)).1, rb b (rn2 n (crL d i w)).2)
  | 0, i, f, w, h, hf, hV => by
    obtain ⟨rfl, f, rfl⟩ := loop0 h hf
    have hn := hV.1
    rw [f_X5_runs_24, rb_151, hV.2.1, if_pos (nI_le (Nat.le_refl _) (by omega)), if_neg hV.2.2.2.2.2.1, crL, rn2, aft]
    by_cases h2 : w 13 - w 13 / w 2 * w 2 = 0
    · simp only [h2, if_true, su_s hn b w hV.2.1 (fun j hj => (hV.2.2.2.2.2.2 j hj).2), cb_some, f_X5_runs_85]
      have hS := su_V0 hV
      by_cases h0 : suR (suV i w) = 0
      · rw [if_pos h0, h0]; exact dec_s 0 b _ hS
      · have h1 : suR (suV i w) = 1 := by
          unfold suR at h0 ⊢
          split at h0
          · exact absurd rfl h0
          · split at h0
            · exact absurd rfl h0
            · simp [*]
        rw [if_neg h0, h1]; exact dec_s 1 b _ hS
    · simp only [h2, if_false, f_X5_runs_85]
      exact dec_s 0 b w hV
  | d + 1, i, f, w, h, hf, hV => by
    obtain ⟨f, rfl⟩ : ∃ g, f = g + 1 := ⟨f - 1, by omega⟩
    have hn := hV.1
    have hi : i < 6 := by omega
    have hk := (cr_keeps i w).A hi
    have hV2 := hV.keepA hk (by decide) (by decide)
    rw [f_X5_runs_24, rb_151, hV.2.1, if_neg (nI_ge (by omega) (by omega)), cr_s hi b w hV.2.2.2.2.1 (hV.2.2.2.2.2.2 i (by omega)).1, cb_some, crL]
    by_cases h0 : (cr i w).1 = 0
    · rw [if_pos h0, if_pos h0, nI_1]
      exact rn_loop b d (i + 1) f _ (by omega) (by omega) hV2
    · rw [if_neg h0, if_neg h0, mk_s hn 3 (nI i) b _ hV2.2.1 hV2.2.2.1 hV2.2.2.2.1 (fun _ => ⟨i, hi, rfl⟩), cb_some]
      rfl
theorem rn_s {n c : Nat} (b : Sg) (w : Vec) (h : V0 n c w) : f_X5_runs_0 (rb b w) = some ((rn n w).1, rb b (rn n w).2) := by
  simp only [f_X5_runs_0, wb_eq, rb_st, rb_151, upd_ap, show (14 = 13) = False by decide, if_false]
  rw [show (0 : Int32) = nI 0 from rfl]
  exact rn_loop b n 0 FU (up2 w) (by omega) (by have := h.1; unfold FU; omega) ((h.u (by decide) (by decide) (by decide) (by decide) (by decide) _).u (by decide) (by decide) (by decide) (by decide) (by decide) _)
def zr (i : Nat) : Nat → Nat → Vec → Vec
  | 0, _, w => w
  | d + 1, k, w => zr i d (k + 1) (upd w (tx i k) 0)
def zrT (i : Nat) (w : Vec) : Vec := zr i 8 8 w
def bgnV (n : Nat) (w : Vec) : Vec := lp zrT n 0 (upd (upd (upd (upd (upd w 9 1) 13 0) 14 0) 15 0) 16 0)
theorem zr_loop {i : Nat} (hi : i < 6) (b : Sg) (rec : Int32 → Sg → Option (Int32 × Sg)) : ∀ (d k f : Nat) (w : Vec), k + d = 16 → d < f → f_X5_beginToRun_56 rec f (nI i) (nI k) (rb b w) = rec (nI i + 1) (rb b (zr i d k w))
  | 0, k, f, w, h, hf => by
    obtain ⟨rfl, f, rfl⟩ := loop0 h hf
    rw [f_X5_beginToRun_56, if_pos (by decide), zr]
  | d + 1, k, f, w, h, hf => by
    obtain ⟨f, rfl⟩ : ∃ g, f = g + 1 := ⟨f - 1, by omega⟩
    rw [f_X5_beginToRun_56, if_neg (by rw [show (15 : Int32) = nI 15 from rfl]; exact nI_nlt (by omega) (by decide)), lay_s hi (c := k) (by omega), cb_some, nI_1, zr]
    exact zr_loop hi b rec d (k + 1) f _ (by omega) (by omega)
theorem zr_keeps (i : Nat) : ∀ (d k : Nat) (w : Vec), 8 ≤ k → k + d ≤ 16 → keeps i (fun c => 8 ≤ c ∧ c < 16) w (zr i d k w)
  | 0, k, w, _, _ => keeps.rf i _ w
  | d + 1, k, w, h1, h2 => ((keeps.rf i _ w).u (c := k) (by omega) ⟨by omega, by omega⟩ 0).tr (zr_keeps i d (k + 1) _ (by omega) (by omega))
theorem zrT_keeps (i : Nat) (w : Vec) : keeps i (fun c => 8 ≤ c ∧ c < 16) w (zrT i w) := zr_keeps i 8 8 w (by decide) (by decide)
theorem bgn_loop {n : Nat} (hn : n ≤ 6) (b : Sg) : ∀ (d i f : Nat) (w : Vec), i + d = n → d < f → w 17 = nI n → f_X5_beginToRun_42 f (nI i) (rb b w) = some (0, rb b (lp zrT d i w))
  | 0, i, f, w, h, hf, h17 => by
    obtain ⟨rfl, f, rfl⟩ := loop0 h hf
    rw [f_X5_beginToRun_42, rb_151, h17, if_pos (nI_le (Nat.le_refl _) (by omega)), lp]
  | d + 1, i, f, w, h, hf, h17 => by
    obtain ⟨f, rfl⟩ : ∃ g, f = g + 1 := ⟨f - 1, by omega⟩
    have hi : i < 6 := by omega
    rw [f_X5_beginToRun_42, rb_151, h17, if_neg (nI_ge (by omega) (by omega)), show (8 : Int32) = nI 8 from rfl, zr_loop hi b _ 8 8 FU w rfl (by unfold FU; omega), nI_1, lp]
    exact bgn_loop hn b d (i + 1) f _ (by omega) (by omega) (by show zrT i w 17 = nI n; rw [(zrT_keeps i w).1 17 (by decide)]; exact h17)
theorem bgn_s {n : Nat} (hn : n ≤ 6) (b : Sg) (w : Vec) (h17 : w 17 = nI n) : f_X5_beginToRun_0 (rb b w) = some (0, rb b (bgnV n w)) := by
  simp only [f_X5_beginToRun_0, wb_eq, rb_st]
  rw [show (0 : Int32) = nI 0 from rfl]
  exact bgn_loop hn b n 0 FU _ (by omega) (by unfold FU; omega) (by simp [upd_ap, h17])
def inc (w : Vec) : Vec := upd w 8 (w 8 + 1)
def tk (n : Nat) (w : Vec) : Int32 × Vec := if w 9 = 0 then if w 12 - 1 = 0 then (0, inc (bgnV n (upd w 12 (w 12 - 1)))) else (0, inc (upd w 12 (w 12 - 1))) else if w 9 = 1 then ((rn n w).1, inc (rn n w).2) else (0, inc w)
theorem dec_r (n : Nat) (k : Int32) (w : Vec) : (dec n k w).1 = 0 ∨ (dec n k w).1 = 1 := by
  unfold dec; split
  · split
    · exact Or.inl rfl
    · exact Or.inr rfl
  · split
    · exact Or.inr rfl
    · exact Or.inl rfl
theorem rn_r (n : Nat) (w : Vec) : (rn n w).1 = 0 ∨ (rn n w).1 = 1 := by
  unfold rn rn2; split
  · exact Or.inr rfl
  · unfold aft; split <;> exact dec_r _ _ _
theorem tk_r (n : Nat) (w : Vec) : (tk n w).1 = 0 ∨ (tk n w).1 = 1 := by
  unfold tk; split
  · split <;> exact Or.inl rfl
  · split
    · exact rn_r n w
    · exact Or.inl rfl
theorem tk_s {n c : Nat} (b : Sg) (w : Vec) (h : V0 n c w) : f_X5_tick_0 (rb b w) = some ((tk n w).1, rb b (tk n w).2) := by
  have g0 : ((0 : Int32) = 0 ∨ (0 : Int32) = 1) := Or.inl rfl
  have h12 : ∀ x, upd w 12 x 17 = nI n := fun x => by simp only [upd_ap, show (17 = 12) = False by decide, if_false]; exact h.2.1
  simp only [f_X5_tick_0, f_X5_tick_56, wb_eq, rb_st, rb_151, upd_ap, if_true, tk, rn_s b w h, cb_some, if_pos (rn_r n w), if_pos g0, bgn_s h.1 b _ (h12 _), inc]
  by_cases h9 : w 9 = 0
  · by_cases h1 : w 12 - 1 = 0
    · simp only [h9, h1, if_true, bgn_s h.1 b _ (h12 _), cb_some, rb_st, rb_151, true_or]
    · simp [h9, h1]
  · by_cases h1 : w 9 = 1 <;> simp [h9, h1]
def trL (n : Nat) : Nat → Nat → Vec → Int32 × Vec
  | 0, _, w => (-6, w)
  | d + 1, k, w => if (tk n w).1 = 0 then trL n d (k + 1) (tk n w).2 else (nI k, (tk n w).2)
def swV (w : Vec) : Vec := upd (upd (upd (upd w 9 0) 12 (w 5)) 10 0) 11 0
theorem sw_s (b : Sg) (w : Vec) : f_X5_switchOn_0 (rb b w) = some (0, rb b (swV w)) := by
  simp only [f_X5_switchOn_0, boot_s, cb_some, wb_eq, rb_st, swV]
def lfV (m i : Nat) (kind start amount : Int32) (w : Vec) : Vec := upd (upd (upd w (tx i (20 + 3 * m)) kind) (tx i (21 + 3 * m)) start) (tx i (22 + 3 * m)) amount
theorem lf_s {m i : Nat} (hm : m < 2) (hi : i < 6) (kind start amount : Int32) (b : Sg) (w : Vec) : f_X5_layFault_0 (nI m) (nI i) kind start amount (rb b w) = some (0, rb b (lfV m i kind start amount w)) := by
  have e : (20 : Int32) + 3 * nI m = nI (20 + 3 * m) := by rw [show (20 : Int32) = nI 20 from rfl, show (3 : Int32) = nI 3 from rfl, pk_mul, nI_add]
  have e1 : nI (20 + 3 * m) + 1 = nI (21 + 3 * m) := by rw [nI_1]; congr 1; omega
  have e2 : nI (20 + 3 * m) + 2 = nI (22 + 3 * m) := by rw [show (2 : Int32) = nI 2 from rfl, nI_add]; congr 1; omega
  simp only [f_X5_layFault_0, e, e1, e2, lay_s hi (c := 20 + 3 * m) (by omega), lay_s hi (c := 21 + 3 * m) (by omega), lay_s hi (c := 22 + 3 * m) (by omega), cb_some, lfV]
def cfT (i : Nat) (w : Vec) : Vec := lfV 1 i 0 0 0 (lfV 0 i 0 0 0 w)
theorem cfT_keeps (i : Nat) (w : Vec) : keeps i (fun c => 20 ≤ c) w (cfT i w) := by
  unfold cfT lfV
  exact ((((((keeps.rf i _ w).u (by decide) (by decide) _).u (by decide) (by decide) _).u (by decide) (by decide) _).u (by decide) (by decide) _).u (by decide) (by decide) _).u (by decide) (by decide) _
theorem cf_loop {n : Nat} (hn : n ≤ 6) (b : Sg) : ∀ (d i f : Nat) (w : Vec), i + d = n → d < f → w 17 = nI n → f_X5_clearFaults_2 f (nI i) (rb b w) = some (0, rb b (lp cfT d i w))
  | 0, i, f, w, h, hf, h17 => by
    obtain ⟨rfl, f, rfl⟩ := loop0 h hf
    rw [f_X5_clearFaults_2, rb_151, h17, if_pos (nI_le (Nat.le_refl _) (by omega)), lp]
  | d + 1, i, f, w, h, hf, h17 => by
    obtain ⟨f, rfl⟩ : ∃ g, f = g + 1 := ⟨f - 1, by omega⟩
    have hi : i < 6 := by omega
    have l0 := fun w => lf_s (m := 0) (by decide) hi 0 0 0 b w
    have l1 := fun w => lf_s (m := 1) (by decide) hi 0 0 0 b w
    rw [show nI 0 = (0 : Int32) from rfl] at l0
    rw [show nI 1 = (1 : Int32) from rfl] at l1
    rw [f_X5_clearFaults_2, rb_151, h17, if_neg (nI_ge (by omega) (by omega)), l0, cb_some, l1, cb_some, nI_1, lp]
    exact cf_loop hn b d (i + 1) f _ (by omega) (by omega) (by rw [show lfV 1 i 0 0 0 (lfV 0 i 0 0 0 w) = cfT i w from rfl, (cfT_keeps i w).1 17 (by decide)]; exact h17)
theorem cf_s {n : Nat} (hn : n ≤ 6) (b : Sg) (w : Vec) (h17 : w 17 = nI n) : f_X5_clearFaults_0 (rb b w) = some (0, rb b (lp cfT n 0 w)) := by
  rw [f_X5_clearFaults_0, show (0 : Int32) = nI 0 from rfl]
  exact cf_loop hn b n 0 FU w (by omega) (by unfold FU; omega) h17
