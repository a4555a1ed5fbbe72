/-! many ticks; the calls on one board -/
theorem ctr {q n M : Nat} (hM : M < 2 ^ 20) (a : Int32) : ∀ (d k f : Nat) (σ : Sg) (w : Vec) (t c : Nat), k + d = M + 1 → d < f → BS q n σ w → VW n t c w → t + d < 2 ^ 29 → ∃ σ' t' c', f_X0_ticksToReset_2 q a f (nI M) (nI k) σ = some ((trL n d k w).1, σ') ∧ BS q n σ' (trL n d k w).2 ∧ Fq q σ σ' ∧ VW n t' c' (trL n d k w).2 ∧ t' ≤ t + d
  | 0, k, f, σ, w, t, c, h, hf, hB, hV, ht => by
    obtain ⟨f, rfl⟩ : ∃ g, f = g + 1 := ⟨f - 1, by omega⟩
    rw [f_X0_ticksToReset_2, if_pos (nI_lt (by omega) (by omega)), trL]
    exact ⟨σ, t, c, rfl, hB, Fq.rf q σ, hV, by omega⟩
  | d + 1, k, f, σ, w, t, c, h, hf, hB, hV, ht => by
    obtain ⟨f, rfl⟩ : ∃ g, f = g + 1 := ⟨f - 1, by omega⟩
    obtain ⟨σ1, z1, z2, z3⟩ := ctk hB hV (by omega)
    obtain ⟨c1, hV1⟩ := tk_VW hV (by omega)
    rw [f_X0_ticksToReset_2, if_neg (nI_nlt (by omega) (by omega)), z1, cb_some, trL]
    by_cases h0 : (tk n w).1 = 0
    · rw [if_pos h0, if_pos h0, nI_1]
      obtain ⟨σ2, t2, c2, y1, y2, y3, y4, y5⟩ := ctr hM a d (k + 1) f σ1 (tk n w).2 (t + 1) c1 (by omega) (by omega) z2 hV1 (by omega)
      exact ⟨σ2, t2, c2, y1, y2, z3.tr y3, y4, by omega⟩
    · rw [if_neg h0, if_neg h0]
      exact ⟨σ1, t + 1, c1, rfl, z2, z3, hV1, by omega⟩
theorem rtr {n M : Nat} (hM : M < 2 ^ 20) (a : Int32) (b : Sg) : ∀ (d k f : Nat) (w : Vec) (t c : Nat), k + d = M + 1 → d < f → VW n t c w → t + d < 2 ^ 29 → f_X5_tickOfReset_2 a f (nI M) (nI k) (rb b w) = some ((trL n d k w).1, rb b (trL n d k w).2)
  | 0, k, f, w, t, c, h, hf, hV, ht => by
    obtain ⟨f, rfl⟩ : ∃ g, f = g + 1 := ⟨f - 1, by omega⟩
    rw [f_X5_tickOfReset_2, if_pos (nI_lt (by omega) (by omega)), trL]
  | d + 1, k, f, w, t, c, h, hf, hV, ht => by
    obtain ⟨f, rfl⟩ : ∃ g, f = g + 1 := ⟨f - 1, by omega⟩
    obtain ⟨c1, hV1⟩ := tk_VW hV (by omega)
    rw [f_X5_tickOfReset_2, if_neg (nI_nlt (by omega) (by omega)), tk_s b w hV.1.1, cb_some, trL]
    by_cases h0 : (tk n w).1 = 0
    · rw [if_pos h0, if_pos h0, nI_1]
      exact rtr hM a b d (k + 1) f _ (t + 1) c1 (by omega) (by omega) hV1 (by omega)
    · rw [if_neg h0, if_neg h0]
theorem trL_r (n : Nat) : ∀ (d k : Nat) (w : Vec), (trL n d k w).1 = -6 ∨ ∃ j, k ≤ j ∧ j < k + d ∧ (trL n d k w).1 = nI j
  | 0, _, _ => Or.inl rfl
  | d + 1, k, w => by
    rw [trL]; split
    · rcases trL_r n d (k + 1) (tk n w).2 with h | ⟨j, h1, h2, h3⟩
      · exact Or.inl h
      · exact Or.inr ⟨j, by omega, by omega, h3⟩
    · exact Or.inr ⟨k, by omega, by omega, rfl⟩
theorem ctr_s {q n M : Nat} (hM : M < 2 ^ 16) {σ : Sg} {w : Vec} {t c : Nat} (hB : BS q n σ w) (hV : VW n t c w) (ht : t + M < 2 ^ 29) : ∃ σ' t' c', f_X0_ticksToReset_0 q (nI M) σ = some ((trL n M 1 w).1, σ') ∧ BS q n σ' (trL n M 1 w).2 ∧ Fq q σ σ' ∧ VW n t' c' (trL n M 1 w).2 ∧ t' ≤ t + M :=
  ctr (M := M) (by omega) (nI M) M 1 FU σ w t c (by omega) (by unfold FU; omega) hB hV ht
theorem rtr_s {n M : Nat} (hM : M < 2 ^ 16) (b : Sg) {w : Vec} {t c : Nat} (hV : VW n t c w) (ht : t + M < 2 ^ 29) : f_X5_tickOfReset_0 (nI M) (rb b w) = some ((trL n M 1 w).1, rb b (trL n M 1 w).2) :=
  rtr (M := M) (by omega) (nI M) b M 1 FU w t c (by omega) (by unfold FU; omega) hV ht
def rnL (n : Nat) : Nat → Vec → Vec
  | 0, w => w
  | d + 1, w => rnL n d (tk n w).2
theorem crl {n M : Nat} (hM : M < 2 ^ 20) (a : Int32) : ∀ (d k f : Nat) (σ : Sg) (w : Vec) (t c : Nat), k + d = M → d < f → BS 1 n σ w → VW n t c w → t + d < 2 ^ 29 → ∃ σ' c', f_X4_run_33 a f (nI M) (nI k) σ = some (nI (t + d), σ') ∧ BS 1 n σ' (rnL n d w) ∧ Fq 1 σ σ' ∧ VW n (t + d) c' (rnL n d w) ∧ ∀ b, f_X5_run_33 a f (nI M) (nI k) (rb b w) = some (nI (t + d), rb b (rnL n d w))
  | 0, k, f, σ, w, t, c, h, hf, hB, hV, ht => by
    obtain ⟨f, rfl⟩ : ∃ g, f = g + 1 := ⟨f - 1, by omega⟩
    have hk : nI M ≤ nI k := nI_le (by omega) (by omega)
    refine ⟨σ, c, ?_, hB, Fq.rf 1 σ, hV, fun b => ?_⟩
    · rw [f_X4_run_33, if_pos hk, hB.1.2.2.1, hV.2.1]; rfl
    · rw [f_X5_run_33, if_pos hk, rb_151, hV.2.1]; rfl
  | d + 1, k, f, σ, w, t, c, h, hf, hB, hV, ht => by
    obtain ⟨f, rfl⟩ : ∃ g, f = g + 1 := ⟨f - 1, by omega⟩
    have hk : ¬ nI M ≤ nI k := nI_ge (by omega) (by omega)
    obtain ⟨σ1, z1, z2, z3⟩ := ctk hB hV (by omega)
    obtain ⟨c1, hV1⟩ := tk_VW hV (by omega)
    obtain ⟨σ2, c2, y1, y2, y3, y4, y5⟩ := crl hM a d (k + 1) f σ1 (tk n w).2 (t + 1) c1 (by omega) (by omega) z2 hV1 (by omega)
    rw [show t + 1 + d = t + (d + 1) by omega] at y1 y4 y5
    refine ⟨σ2, c2, ?_, y2, z3.tr y3, y4, fun b => ?_⟩
    · rw [f_X4_run_33, if_neg hk, z1, cb_some, nI_1]; exact y1
    · rw [f_X5_run_33, if_neg hk, tk_s b w hV.1.1, cb_some, nI_1]; exact y5 b
/-- a call on the board: class and reference agree -/
def Ag (fc fr : Sg → Option (Int32 × Sg)) : Prop := ∀ (n t c : Nat) (σ : Sg) (w : Vec), BS 1 n σ w → VW n t c w → t ≤ 1000000 → ∃ r σ' w' n' t' c', fc σ = some (r, σ') ∧ (∀ b, fr (rb b w) = some (r, rb b w')) ∧ BS 1 n' σ' w' ∧ VW n' t' c' w' ∧ t' ≤ 1000000 ∧ Fq 1 σ σ'
def win (x lo hi : Int32) : Int32 := if x < lo then 0 else if hi < x then 0 else 1
theorem win_c (x lo hi : Int32) (σ : Sg) : f_X4_isWithin_0 x lo hi σ = some (win x lo hi, σ) := win_s x lo hi σ
theorem win_r (x lo hi : Int32) (σ : Sg) : f_X5_in_0 x lo hi σ = some (win x lo hi, σ) := in_s x lo hi σ
theorem win_b (x lo hi : Int32) : b01 (win x lo hi) := by
  unfold win; split
  · exact Or.inl rfl
  · split
    · exact Or.inl rfl
    · exact Or.inr rfl
theorem win_n {x : Int32} {lo hi : Nat} (hhi : hi < 2 ^ 31) (hlo : lo < 2 ^ 31) (h : ¬ win x (nI lo) (nI hi) = 0) : ∃ m, lo ≤ m ∧ m ≤ hi ∧ x = nI m := by
  unfold win at h
  by_cases h1 : x < nI lo
  · rw [if_pos h1] at h; exact absurd rfl h
  · by_cases h2 : nI hi < x
    · rw [if_neg h1, if_pos h2] at h; exact absurd rfl h
    · have h3 := Int32.not_lt.mp h1
      have h4 := Int32.not_lt.mp h2
      have h0 : ¬ x < 0 := by
        intro q
        have e1 := Int32.le_iff_toInt_le.mp h3
        have e2 := Int32.lt_iff_toInt_lt.mp q
        rw [nI_toInt hlo] at e1
        have e3 : (0 : Int32).toInt = 0 := rfl
        omega
      obtain ⟨m, hm, rfl⟩ := nI_of h0
      exact ⟨m, (nI_leI hlo hm).mp h3, (nI_leI hm hhi).mp h4, rfl⟩
theorem ag_same {fc fr : Sg → Option (Int32 × Sg)} {n t c : Nat} {σ : Sg} {w : Vec} (hB : BS 1 n σ w) (hV : VW n t c w) (ht : t ≤ 1000000) (r : Int32) (h1 : fc σ = some (r, σ)) (h2 : ∀ b, fr (rb b w) = some (r, rb b w)) : ∃ r σ' w' n' t' c', fc σ = some (r, σ') ∧ (∀ b, fr (rb b w) = some (r, rb b w')) ∧ BS 1 n' σ' w' ∧ VW n' t' c' w' ∧ t' ≤ 1000000 ∧ Fq 1 σ σ' := ⟨r, σ, w, n, t, c, h1, h2, hB, hV, ht, Fq.rf 1 σ⟩
theorem ag_run (a : Int32) : Ag (f_X4_run_0 a) (f_X5_run_0 a) := by
  intro n t c σ w hB hV ht
  have s4 : σ 1 4 = nI t := by rw [hB.1.2.2.1]; exact hV.2.1
  by_cases hw : win a 1 2000 = 0
  · exact ag_same hB hV ht (-2) (by simp only [f_X4_run_0, win_c, cb_some, hw, if_true]) (fun b => by simp only [f_X5_run_0, win_r, cb_some, hw, if_true])
  · obtain ⟨m, hm1, hm2, rfl⟩ := win_n (lo := 1) (hi := 2000) (by decide) (by decide) hw
    by_cases hl : t + m ≤ 1000000
    · have hl2 : nI t + nI m ≤ 1000000 := by rw [nI_add, show (1000000 : Int32) = nI 1000000 from rfl]; exact nI_le hl (by decide)
      obtain ⟨σ', c', z1, z2, z3, z4, z5⟩ := crl (M := m) (by omega) (nI m) m 0 FU σ w t c (by omega) (by unfold FU; omega) hB hV (by omega)
      refine ⟨nI (t + m), σ', rnL n m w, n, t + m, c', ?_, fun b => ?_, z2, z4, hl, z3⟩
      · simp only [f_X4_run_0, win_c, cb_some, if_neg hw, s4, if_pos hl2]; exact z1
      · simp only [f_X5_run_0, win_r, cb_some, if_neg hw, rb_151, hV.2.1, if_pos hl2]; exact z5 b
    · have hl2 : ¬ nI t + nI m ≤ 1000000 := by rw [nI_add, show (1000000 : Int32) = nI 1000000 from rfl]; exact nI_ge (by omega) (by omega)
      exact ag_same hB hV ht (-5) (by simp only [f_X4_run_0, win_c, cb_some, if_neg hw, s4, if_neg hl2]) (fun b => by simp only [f_X5_run_0, win_r, cb_some, if_neg hw, rb_151, hV.2.1, if_neg hl2])
theorem ag_rtr (a : Int32) : Ag (f_X4_runToReset_0 a) (f_X5_runToReset_0 a) := by
  intro n t c σ w hB hV ht
  have s4 : σ 1 4 = nI t := by rw [hB.1.2.2.1]; exact hV.2.1
  by_cases hw : win a 1 2000 = 0
  · exact ag_same hB hV ht (-2) (by simp only [f_X4_runToReset_0, win_c, cb_some, hw, if_true]) (fun b => by simp only [f_X5_runToReset_0, win_r, cb_some, hw, if_true])
  · obtain ⟨m, hm1, hm2, rfl⟩ := win_n (lo := 1) (hi := 2000) (by decide) (by decide) hw
    by_cases hl : t + m ≤ 1000000
    · have hl2 : nI t + nI m ≤ 1000000 := by rw [nI_add, show (1000000 : Int32) = nI 1000000 from rfl]; exact nI_le hl (by decide)
      obtain ⟨σ', t', c', z1, z2, z3, z4, z5⟩ := ctr_s (M := m) (by omega) hB hV (by omega)
      have z6 := fun b => rtr_s (M := m) (by omega) b hV (by omega)
      rcases trL_r n m 1 w with e | ⟨j, hj1, hj2, e⟩
      · refine ⟨nI m, σ', (trL n m 1 w).2, n, t', c', ?_, fun b => ?_, z2, z4, by omega, z3⟩
        · simp only [f_X4_runToReset_0, f_X4_runToReset_51, win_c, cb_some, if_neg hw, s4, if_pos hl2, z1, e, if_true]
        · simp only [f_X5_runToReset_0, f_X5_runToReset_46, win_r, cb_some, if_neg hw, rb_151, hV.2.1, if_pos hl2, z6 b, e]
          rw [if_neg (by decide)]
      · have n6 : ¬ nI j = -6 := by
          intro q; have h2 := nI_pos' (n := j) (by omega); rw [q] at h2; exact absurd h2 (by decide)
        have p0 : (0 : Int32) ≤ nI j := nI_pos' (by omega)
        refine ⟨nI j, σ', (trL n m 1 w).2, n, t', c', ?_, fun b => ?_, z2, z4, by omega, z3⟩
        · simp only [f_X4_runToReset_0, f_X4_runToReset_51, win_c, cb_some, if_neg hw, s4, if_pos hl2, z1, e, if_neg n6]
        · simp only [f_X5_runToReset_0, f_X5_runToReset_46, win_r, cb_some, if_neg hw, rb_151, hV.2.1, if_pos hl2, z6 b, e, if_pos p0]
    · have hl2 : ¬ nI t + nI m ≤ 1000000 := by rw [nI_add, show (1000000 : Int32) = nI 1000000 from rfl]; exact nI_ge (by omega) (by omega)
      exact ag_same hB hV ht (-5) (by simp only [f_X4_runToReset_0, win_c, cb_some, if_neg hw, s4, if_neg hl2]) (fun b => by simp only [f_X5_runToReset_0, win_r, cb_some, if_neg hw, rb_151, hV.2.1, if_neg hl2])
theorem BS.RS {n q : Nat} {σ : Sg} {w : Vec} (h : BS q n σ w) (h9 : w 9 = 1) : RS q n σ w := ⟨⟨h.1, (h.2.2.1 h9).1, h.2.2.2.1, h.2.2.2.2⟩, (h.2.2.1 h9).2⟩
theorem hand {q n t c : Nat} {σ : Sg} {w : Vec} (cause : Int32) (h3 : ¬ cause = 3) (hB : BS q n σ w) (hV : VW n t c w) (h9 : w 9 = 1) (ht : t + 1 < 2 ^ 30) : ∃ σ', (∀ {β : Type} (g : Int32 → Sg → Option β), (cb (f_X0_lowestExpired_0 q σ) fun v1 σ1 => cb (f_X0_fall_0 q cause v1 σ1) g) = g 0 σ') ∧ (∀ b, f_X5_makeReset_0 cause (-6) (rb b w) = some (0, rb b (mkV n cause (-6) w))) ∧ BS q n σ' (mkV n cause (-6) w) ∧ VW n t (c + 1) (mkV n cause (-6) w) ∧ Fq q σ σ' := by
  obtain ⟨g1, g2, g3, g4, g5, g6, g7, g8⟩ := id hV
  have hS := hB.RS h9
  have hn := g1.1.1
  obtain ⟨σ', z1, z2, z3⟩ := cfall cause (fe w n 0) hn hS.1 g1.1.2.1 g1.1.2.2.1 g1.1.2.2.2.1 g1.1.2.2.2.2.1 (fe_n w)
  have e := mkV_ne3 (n := n) cause (-6) w h3 g1.1.2.2.1 g1.1.2.2.2.1
  refine ⟨σ', fun g => by rw [le_s hn hS g1.1.2.1, cb_some, z1, cb_some], fun b => mk_s hn cause (-6) b w g1.1.2.1 g1.1.2.2.1 g1.1.2.2.2.1 (fun q => absurd q h3), by rw [e]; exact z2, by rw [e]; exact mk_VW cause _ ⟨g1, g2, g7, g8⟩ (g5 h9).1 ht (fe_n w), z3⟩
theorem ag_kick : Ag f_X4_kick_0 f_X5_kick_0 := by
  intro n t c σ w hB hV ht
  have s5 : σ 1 5 = w 9 := hB.1.2.2.2.1
  by_cases h9 : w 9 = 1
  · have hS := hB.RS h9
    have s0 : σ 2 0 = w 0 := hB.1.1 0 (by decide)
    have s10 : σ 1 10 = w 14 := hS.1.2.1.2.1
    by_cases h : w 0 ≤ w 14
    · obtain ⟨g1, g2, g3, g4, g5, g6, g7, g8⟩ := id hV
      refine ⟨w 14, st σ 1 10 0, upd w 14 0, n, t, c, ?_, fun b => ?_, BS.of (hS.n14 g1.1.1 0) (by simp [upd_ap, h9]), ?_, ht, (Fq.rf 1 σ).st (by omega) _ _⟩
      · simp only [f_X4_kick_0, f_X4_kick_61, s5, h9, if_true, s0, s10, h, wb_eq]
      · simp only [f_X5_kick_0, f_X5_kick_50, rb_151, h9, if_true, h, wb_eq, rb_st]
      · refine ⟨g1.u (by decide) (by decide) (by decide) (by decide) (by decide) _, by simp [upd_ap, g2], by simp [upd_ap, g3], g4, fun _ => ?_, fun q => ?_, ?_, fun j d hj hj6 hd => by simp only [upd_ap, tx_k _ _ 14 (by decide), if_false]; exact g8 j d hj hj6 hd⟩
        · obtain ⟨k1, k2, u, k3, k4⟩ := g5 h9
          exact ⟨k1, fun i hi => (k2 i hi).mv (by simp [upd_ap, tx_k]) (by simp [upd_ap, tx_k]), u, k3, by simp [upd_ap, k4]⟩
        · simp [upd_ap, h9] at q
        · simpa [upd_ap] using g7
    · obtain ⟨σ', z1, z2, z3, z4, z5⟩ := hand 1 (by decide) hB hV h9 (by omega)
      refine ⟨w 14, σ', _, n, t, c + 1, ?_, fun b => ?_, z3, z4, ht, z5⟩
      · simp only [f_X4_kick_0, f_X4_kick_61, s5, h9, if_true, s0, s10, h, if_false]; exact z1 _
      · simp only [f_X5_kick_0, f_X5_kick_50, rb_151, h9, if_true, h, if_false, z2 b, cb_some]
  · exact ag_same hB hV ht (-5) (by simp only [f_X4_kick_0, s5, h9, if_false]) (fun b => by simp only [f_X5_kick_0, rb_151, h9, if_false])
theorem mkV_18 {n c : Nat} (cause : Int32) (h3 : ¬ cause = 3) {w : Vec} (hn : n ≤ 6) (h18 : w 18 = nI c) (hc : c < 2 ^ 31) : mkV n cause (-6) w 18 = w 18 + 1 := by
  rw [mkV_ne3 cause (-6) w h3 h18 hc]
  exact (mk_keep (n := n) (c := c) cause _ w hn (fe_n w)).2.2.1
theorem ag_reset : Ag f_X4_reset_0 f_X5_reset_0 := by
  intro n t c σ w hB hV ht
  have s5 : σ 1 5 = w 9 := hB.1.2.2.2.1
  by_cases h9 : w 9 = 1
  · have hG := hV.1.1
    have s18 : σ 4 1 = w 18 := hB.1.2.2.2.2.2.2.1
    obtain ⟨σ', z1, z2, z3, z4, z5⟩ := hand 4 (by decide) hB hV h9 (by omega)
    refine ⟨w 18, σ', _, n, t, c + 1, ?_, fun b => ?_, z3, z4, ht, z5⟩
    · simp only [f_X4_reset_0, s5, h9, if_true, s18]; exact z1 _
    · have e := mkV_18 (n := n) 4 (by decide) hG.1 hG.2.2.1 hG.2.2.2.1
      simp only [f_X5_reset_0, rb_151, h9, if_true, z2 b, cb_some, e]
      rw [hG.2.2.1, nI_1, nI_pred]
  · exact ag_same hB hV ht (-5) (by simp only [f_X4_reset_0, s5, h9, if_false]) (fun b => by simp only [f_X5_reset_0, rb_151, h9, if_false])
