/-! the reference's tick -/
theorem loop0 {n i f : Nat} (h : i + 0 = n) (hf : 0 < f) : i = n ∧ ∃ g, f = g + 1 := ⟨by omega, f - 1, by omega⟩
def spV (n : Nat) (w : Vec) : Vec := upd w 16 (w 16 + (if fe w n 0 < 0 then 0 else 1))
def suV (n : Nat) (w : Vec) : Vec := spV n (lp jdV n 0 (upd w 15 (w 15 + 1)))
def suR (w : Vec) : Int32 := if w 4 < w 16 then 0 else if w 14 < w 3 then 0 else 1
def crL : Nat → Nat → Vec → Option Nat × Vec
  | 0, _, w => (none, w)
  | d + 1, i, w => if (cr i w).1 = 0 then crL d (i + 1) (cr i w).2 else (some i, (cr i w).2)
def stb (x : Int32) (w : Vec) : Vec := upd (upd w 14 x) 11 (if w 13 = w 6 then 0 else w 11)
def dec (n : Nat) (k : Int32) (w : Vec) : Int32 × Vec := if k = 0 then if w 14 ≤ w 1 then (0, stb (w 14) w) else (1, mkV n 2 (-6) w) else if w 14 < w 0 then (1, mkV n 1 (-6) w) else (0, stb 0 w)
def aft (n : Nat) (w : Vec) : Int32 × Vec := if w 13 - w 13 / w 2 * w 2 = 0 then dec n (suR (suV n w)) (suV n w) else dec n 0 w
def rn2 (n : Nat) (p : Option Nat × Vec) : Int32 × Vec := match p.1 with
  | some j => (1, mkV n 3 (nI j) p.2)
  | none => aft n p.2
def up2 (w : Vec) : Vec := upd (upd w 13 (w 13 + 1)) 14 (w 14 + 1)
def rn (n : Nat) (w : Vec) : Int32 × Vec := rn2 n (crL n 0 (up2 w))
/-- what the reference needs, to go on without a throw -/
def V0 (n c : Nat) (w : Vec) : Prop := n ≤ 6 ∧ w 17 = nI n ∧ w 18 = nI c ∧ c < 2 ^ 31 ∧ (w 10 = 0 ∨ w 10 = 1) ∧ ¬ w 2 = 0 ∧ ∀ j, j < n → ¬ w (tx j 0) = 0 ∧ ¬ w (tx j 3) = 0
theorem V0.keepA {n c : Nat} {P : Nat → Prop} {w v : Vec} (h : V0 n c w) (hk : keepA P w v) (h0 : ¬ P 0) (h3 : ¬ P 3) : V0 n c v := by
  obtain ⟨a1, a2, a3, a4, a5, a6, a7⟩ := h
  refine ⟨a1, by rw [hk.1 17 (by decide)]; exact a2, by rw [hk.1 18 (by decide)]; exact a3, a4, by rw [hk.1 10 (by decide)]; exact a5, by rw [hk.1 2 (by decide)]; exact a6, fun j hj => ?_⟩
  rw [hk.2.1 j 0 (by decide) h0, hk.2.1 j 3 (by decide) h3]
  exact a7 j hj
theorem V0.u {n c : Nat} {w : Vec} (h : V0 n c w) {k : Nat} (hk : k < 19) (h2 : k ≠ 2) (h10 : k ≠ 10) (h17 : k ≠ 17) (h18 : k ≠ 18) (x : Int32) : V0 n c (upd w k x) := by
  obtain ⟨a1, a2, a3, a4, a5, a6, a7⟩ := h
  refine ⟨a1, by simp only [upd_ap, if_neg h17.symm]; exact a2, by simp only [upd_ap, if_neg h18.symm]; exact a3, a4, by simp only [upd_ap, if_neg h10.symm]; exact a5, by simp only [upd_ap, if_neg h2.symm]; exact a6, fun j hj => ?_⟩
  simp only [upd_ap, tx_k _ _ k hk, if_false]
  exact a7 j hj
theorem su_V0 {n c : Nat} {w : Vec} (h : V0 n c w) : V0 n c (suV n w) := by
  unfold suV spV
  have h1 := h.u (k := 15) (by decide) (by decide) (by decide) (by decide) (by decide) (w 15 + 1)
  have h2 := h1.keepA (lp_keeps jd_keeps n 0 _ (by have := h.1; omega)).1 (by decide) (by decide)
  exact h2.u (by decide) (by decide) (by decide) (by decide) (by decide) _
def zr (i : Nat) : Nat → Nat → Vec → Vec
  | 0, _, w => w
  | d + 1, k, w => zr i d (k + 1) (upd w (tx i k) 0)
def zrT (i : Nat) (w : Vec) : Vec := zr i 8 8 w
def bgnV (n : Nat) (w : Vec) : Vec := lp zrT n 0 (upd (upd (upd (upd (upd w 9 1) 13 0) 14 0) 15 0) 16 0)
theorem zr_keeps (i : Nat) : ∀ (d k : Nat) (w : Vec), 8 ≤ k → k + d ≤ 16 → keeps i (fun c => 8 ≤ c ∧ c < 16) w (zr i d k w)
  | 0, k, w, _, _ => keeps.rf i _ w
  | d + 1, k, w, h1, h2 => ((keeps.rf i _ w).u (c := k) (by omega) ⟨by omega, by omega⟩ 0).tr (zr_keeps i d (k + 1) _ (by omega) (by omega))
theorem zrT_keeps (i : Nat) (w : Vec) : keeps i (fun c => 8 ≤ c ∧ c < 16) w (zrT i w) := zr_keeps i 8 8 w (by decide) (by decide)
def inc (w : Vec) : Vec := upd w 8 (w 8 + 1)
def tk (n : Nat) (w : Vec) : Int32 × Vec := if w 9 = 0 then if w 12 - 1 = 0 then (0, inc (bgnV n (upd w 12 (w 12 - 1)))) else (0, inc (upd w 12 (w 12 - 1))) else if w 9 = 1 then ((rn n w).1, inc (rn n w).2) else (0, inc w)
theorem dec_r (n : Nat) (k : Int32) (w : Vec) : (dec n k w).1 = 0 ∨ (dec n k w).1 = 1 := by
  unfold dec; split
  · split
    · exact Or.inl rfl
    · exact Or.inr rfl
  · split
    · exact Or.inr rfl
    · exact Or.inl rfl
theorem rn_r (n : Nat) (w : Vec) : (rn n w).1 = 0 ∨ (rn n w).1 = 1 := by
  unfold rn rn2; split
  · exact Or.inr rfl
  · unfold aft; split <;> exact dec_r _ _ _
theorem tk_r (n : Nat) (w : Vec) : (tk n w).1 = 0 ∨ (tk n w).1 = 1 := by
  unfold tk; split
  · split <;> exact Or.inl rfl
  · split
    · exact rn_r n w
    · exact Or.inl rfl
def trL (n : Nat) : Nat → Nat → Vec → Int32 × Vec
  | 0, _, w => (-6, w)
  | d + 1, k, w => if (tk n w).1 = 0 then trL n d (k + 1) (tk n w).2 else (nI k, (tk n w).2)
def swV (w : Vec) : Vec := upd (upd (upd (upd w 9 0) 12 (w 5)) 10 0) 11 0
def lfV (m i : Nat) (kind start amount : Int32) (w : Vec) : Vec := upd (upd (upd w (tx i (20 + 3 * m)) kind) (tx i (21 + 3 * m)) start) (tx i (22 + 3 * m)) amount
def cfT (i : Nat) (w : Vec) : Vec := lfV 1 i 0 0 0 (lfV 0 i 0 0 0 w)
theorem cfT_keeps (i : Nat) (w : Vec) : keeps i (fun c => 20 ≤ c) w (cfT i w) := by
  unfold cfT lfV
  exact ((((((keeps.rf i _ w).u (by decide) (by decide) _).u (by decide) (by decide) _).u (by decide) (by decide) _).u (by decide) (by decide) _).u (by decide) (by decide) _).u (by decide) (by decide) _
