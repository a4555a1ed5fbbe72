/-! trials -/
theorem mk_u {n t c u : Nat} (cause tk : Int32) {v : Vec} (hB : VB n t c v) (htk : tk < 0 ∨ ∃ j, j < n ∧ tk = nI j) (h13 : v 13 = nI u) : mk3 (mk2 tk (mk1 cause tk v (c % 16))) 18 = nI (c + 1) ∧ mk3 (mk2 tk (mk1 cause tk v (c % 16))) (rx (c % 16) 4) = nI u := by
  obtain ⟨-, -, k3, -, -, -, k7⟩ := mk_keep (c := c) cause tk v hB.1.1.1 htk
  exact ⟨by rw [k3, hB.1.1.2.2.1, nI_1], by rw [k7, h13]⟩
theorem dec_u {n t c u : Nat} (k : Int32) {v : Vec} (hB : VB n t c v) (h13 : v 13 = nI u) (h : ¬ (dec n k v).1 = 0) : (dec n k v).2 18 = nI (c + 1) ∧ (dec n k v).2 (rx (c % 16) 4) = nI u := by
  have g : ∀ cause, ¬ cause = (3 : Int32) → mkV n cause (-6) v 18 = nI (c + 1) ∧ mkV n cause (-6) v (rx (c % 16) 4) = nI u := fun cause hc => by
    rw [mkV_ne3 cause (-6) v hc hB.1.1.2.2.1 hB.1.1.2.2.2.1]
    exact mk_u cause _ hB (fe_n v) h13
  unfold dec at h ⊢
  by_cases hk : k = 0
  · rw [if_pos hk] at h ⊢
    by_cases h1 : v 14 ≤ v 1
    · rw [if_pos h1] at h; exact absurd rfl h
    · rw [if_neg h1]; exact g 2 (by decide)
  · rw [if_neg hk] at h ⊢
    by_cases h1 : v 14 < v 0
    · rw [if_pos h1]; exact g 1 (by decide)
    · rw [if_neg h1] at h; exact absurd rfl h
theorem rn_u {n t c : Nat} {w : Vec} (h : VW n t c w) (h9 : w 9 = 1) (hr : ¬ (rn n w).1 = 0) : ∃ u, u ≤ t + 1 ∧ (rn n w).2 18 = nI (c + 1) ∧ (rn n w).2 (rx (c % 16) 4) = nI u := by
  obtain ⟨g1, g2, g3, g4, g5, g6, g7, g8⟩ := h
  obtain ⟨hc, hF, u, hu, h13⟩ := g5 h9
  have hn := g1.1.1
  have B1 : VB n t c (up2 w) := ((show VB n t c w from ⟨g1, g2, g7, g8⟩).u (k := 13) (by decide) (by decide) (by decide) (by decide) (by decide) (by decide) (by decide) _).u (k := 14) (by decide) (by decide) (by decide) (by decide) (by decide) (by decide) (by decide) _
  have F1 : VFn n (up2 w) := fun i hi => (hF i hi).mv (by simp [up2, upd_ap, tx_k]) (by simp [up2, upd_ap, tx_k])
  have u13 : up2 w 13 = nI (u + 1) := by simp [up2, upd_ap, h13, nI_1]
  obtain ⟨k1, k2, k3⟩ := crL_keep n 0 (up2 w) (by omega) hn
  have B2 : VB n t c (crL n 0 (up2 w)).2 := B1.A k1 (fun c hc => by show ¬ (8 ≤ c ∧ c < 15 ∧ c ≠ 13); omega) k2
  have F2 : VFn n (crL n 0 (up2 w)).2 := F1.A k1 (by decide) (by decide)
  have v13 : (crL n 0 (up2 w)).2 13 = nI (u + 1) := (k1.1 13 (by decide)).trans u13
  refine ⟨u + 1, by omega, ?_⟩
  unfold rn rn2 at hr ⊢
  split
  · rename_i j hj
    have e : mkV n 3 (nI j) (crL n 0 (up2 w)).2 = mk3 (mk2 (nI j) (mk1 3 (nI j) (crL n 0 (up2 w)).2 (c % 16))) := by
      simp only [mkV, if_true, B2.1.1.2.2.1, nI_clamp B2.1.1.2.2.2.1]
    show mkV n 3 (nI j) (crL n 0 (up2 w)).2 18 = _ ∧ mkV n 3 (nI j) (crL n 0 (up2 w)).2 _ = _
    rw [e]
    exact mk_u 3 (nI j) B2 (Or.inr ⟨j, k3 j hj, rfl⟩) v13
  · rename_i hj
    rw [hj] at hr
    replace hr : ¬ (aft n (crL n 0 (up2 w)).2).1 = 0 := hr
    unfold aft at hr ⊢
    split
    · rename_i hp
      rw [if_pos hp] at hr
      obtain ⟨s1, s2⟩ := su_VF B2 F2
      have e13 : suV n (crL n 0 (up2 w)).2 13 = nI (u + 1) := by
        simp only [suV, spV, upd_ap, show ¬ (13 = 16) by decide, if_false]
        rw [(lp_keeps jd_keeps n 0 _ (by omega)).1.1 13 (by decide)]; simp [upd_ap, v13]
      exact dec_u _ s1 e13 hr
    · rename_i hp
      rw [if_neg hp] at hr
      exact dec_u _ B2 v13 hr
theorem tk_u {n t c : Nat} {w : Vec} (h : VW n t c w) (hr : ¬ (tk n w).1 = 0) : ∃ u, u ≤ t + 1 ∧ (tk n w).2 18 = nI (c + 1) ∧ (tk n w).2 (rx (c % 16) 4) = nI u := by
  unfold tk at hr ⊢
  by_cases h0 : w 9 = 0
  · rw [if_pos h0] at hr
    split at hr <;> exact absurd rfl hr
  · rw [if_neg h0] at hr ⊢
    by_cases h1 : w 9 = 1
    · rw [if_pos h1] at hr ⊢
      obtain ⟨u, u1, u2, u3⟩ := rn_u h h1 hr
      exact ⟨u, u1, by show inc (rn n w).2 18 = _; simp only [inc, upd_ap]; rw [if_neg (by decide)]; exact u2, by show inc (rn n w).2 _ = _; simp only [inc, upd_ap]; rw [if_neg (by simp only [rx]; omega)]; exact u3⟩
    · rw [if_neg h1] at hr; exact absurd rfl hr
theorem trL_u {n : Nat} : ∀ (d k : Nat) (w : Vec) (t c : Nat), VW n t c w → t + d < 2 ^ 29 → ¬ (trL n d k w).1 = -6 → ∃ u c', u ≤ t + d ∧ c' ≤ t + d ∧ (trL n d k w).2 18 = nI (c' + 1) ∧ (trL n d k w).2 (rx (c' % 16) 4) = nI u
  | 0, k, w, t, c, h, ht, hr => absurd rfl hr
  | d + 1, k, w, t, c, h, ht, hr => by
    rw [trL] at hr ⊢
    by_cases h0 : (tk n w).1 = 0
    · rw [if_pos h0] at hr ⊢
      obtain ⟨c', hV⟩ := tk_VW h (by omega)
      obtain ⟨u, c2, u1, u2, u3, u4⟩ := trL_u d (k + 1) (tk n w).2 (t + 1) c' hV (by omega) hr
      exact ⟨u, c2, by omega, by omega, u3, u4⟩
    · rw [if_neg h0]
      obtain ⟨u, u1, u2, u3⟩ := tk_u h h0
      have := h.2.2.2.1
      by_cases h9 : w 9 = 1
      · have := (h.2.2.2.2.1 h9).1
        exact ⟨u, c, by omega, by omega, u2, u3⟩
      · exfalso
        apply h0
        unfold tk
        by_cases g0 : w 9 = 0
        · rw [if_pos g0]; split <;> rfl
        · rw [if_neg g0, if_neg h9]
/-- a board without faults, switched off and on -/
theorem lfc_VW {n t c i : Nat} {w : Vec} (hV : VW n t c w) (hi : i < n) : VW n t c (cfT i w) := lf_VW (lf_VW hV hi (by decide) 0 0 0) hi (by decide) 0 0 0
theorem crf {q n : Nat} : ∀ (d i f : Nat) (σ : Sg) (w : Vec) (t c : Nat), i + d = n → d < f → BS q n σ w → VW n t c w → ∃ σ', f_X0_removeFaults_2 q f (nI i) σ = some (0, σ') ∧ BS q n σ' (lp cfT d i w) ∧ Fq q σ σ' ∧ VW n t c (lp cfT d i w)
  | 0, i, f, σ, w, t, c, h, hf, hB, hV => by
    obtain ⟨rfl, g, rfl⟩ := loop0 h hf
    exact ⟨σ, by rw [f_X0_removeFaults_2, hB.1.2.1, hV.1.1.2.1, if_pos (nI_le (Nat.le_refl _) (by have := hV.1.1.1; omega))], hB, Fq.rf q σ, hV⟩
  | d + 1, i, f + 1, σ, w, t, c, h, hf, hB, hV => by
    have hn := hV.1.1.1
    have hcl : (nI i).toNatClampNeg = i := nI_clamp (by omega)
    have b1 := lf_rel (m := 0) hB hn (show i < n by omega) (by decide) 0 0 0
    have b2 := lf_rel (m := 1) b1 hn (show i < n by omega) (by decide) 0 0 0
    obtain ⟨σ', x1, x2, x3, x4⟩ := crf d (i + 1) f _ (cfT i w) t c (by omega) (by omega) b2 (lfc_VW hV (by omega))
    refine ⟨σ', ?_, x2, Fq.tr ?_ x3, x4⟩
    · rw [f_X0_removeFaults_2, hB.1.2.1, hV.1.1.2.1, if_neg (nI_ge (by omega) (by omega)), show FU = 99997 + 1 + 1 + 1 from rfl, f_X0_removeFaults_12, if_neg (by decide), hcl, if_neg (inb2 (by omega) (by decide)), show (0 : Int32) = nI 0 from rfl, tf_s (by decide), cb_some, f_X0_removeFaults_12, show nI 0 + 1 = nI 1 from rfl, if_neg (by decide), hcl, if_neg (inb2 (by omega) (by decide)), tf_s (by decide), cb_some, f_X0_removeFaults_12, show nI 1 + 1 = nI 2 from rfl, if_pos (by decide), nI_1]
      exact x1
    · exact (((((Fq.rf q σ).st (by simp only [T]; omega) _ _).st (by simp only [T]; omega) _ _).st (by simp only [T]; omega) _ _).st (by simp only [T]; omega) _ _).st (by simp only [T]; omega) _ _ |>.st (by simp only [T]; omega) _ _
def trV (n : Nat) (w : Vec) : Vec := swV (lp cfT n 0 w)
theorem ptr {n t c : Nat} {σ : Sg} {w : Vec} (hB : BS 1 n σ w) (hV : VW n t c w) (hT : TBq 36 σ) : ∃ σ', f_X4_prepareTrial_0 σ = some (0, σ') ∧ BS 36 n σ' (trV n w) ∧ Fq 36 σ σ' ∧ VW n t c (trV n w) := by
  obtain ⟨s1, x1, x2, x3⟩ := bec (q := 36) (o := 1) hV.1.1.1 (Or.inr (by decide)) hB hV.1.1.2.1 hT
  obtain ⟨s2, y1, y2, y3, y4⟩ := crf n 0 FU s1 w t c (by omega) (by have := hV.1.1.1; unfold FU; omega) x2 hV
  obtain ⟨s3, z1, z2, z3⟩ := csw y2 hV.1.1.1
  refine ⟨s3, ?_, z2, (x3.tr y3).tr z3, sw_VW y4⟩
  rw [f_X4_prepareTrial_0, x1, cb_some, f_X0_removeFaults_0, show (0 : Int32) = nI 0 from rfl, y1, cb_some, z1, cb_some]
theorem sw_lf (m i : Nat) (a b c : Int32) (w : Vec) : swV (lfV m i a b c w) = lfV m i a b c (swV w) := by
  have t5 : ∀ d, (5 = tx i d) = False := fun d => k_tx i d 5 (by decide)
  have e5 : lfV m i a b c w 5 = w 5 := by simp only [lfV, upd_ap, t5, if_false]
  have h : ∀ d, ¬ tx i d = 9 ∧ ¬ tx i d = 10 ∧ ¬ tx i d = 11 ∧ ¬ tx i d = 12 := fun d => by simp only [tx]; omega
  have cm : ∀ (v : Vec) (d k : Nat) (x y : Int32), tx i d ≠ k → upd (upd v (tx i d) x) k y = upd (upd v k y) (tx i d) x := fun v d k x y hk => by
    funext j
    simp only [upd_ap]
    by_cases h1 : j = k
    · subst h1; rw [if_pos rfl, if_neg (Ne.symm hk), if_pos rfl]
    · rw [if_neg h1, if_neg h1]
  unfold swV
  rw [e5]
  unfold lfV
  rw [cm _ _ 9 _ _ (h _).1, cm _ _ 9 _ _ (h _).1, cm _ _ 9 _ _ (h _).1, cm _ _ 12 _ _ (h _).2.2.2, cm _ _ 12 _ _ (h _).2.2.2, cm _ _ 12 _ _ (h _).2.2.2, cm _ _ 10 _ _ (h _).2.1, cm _ _ 10 _ _ (h _).2.1, cm _ _ 10 _ _ (h _).2.1, cm _ _ 11 _ _ (h _).2.2.1, cm _ _ 11 _ _ (h _).2.2.1, cm _ _ 11 _ _ (h _).2.2.1]
