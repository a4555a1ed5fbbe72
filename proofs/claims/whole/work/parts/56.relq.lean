/-! the worst hang -/
theorem wend (a0 a1 a2 a3 x1 x2 x3 x4 y x7 : Int32) (g : Nat) (b : Sg) (v : Vec) : f_X5_worstHang_60 a0 a1 a2 a3 (g + 1) x1 x2 x3 x4 y 0 x7 (rb b v) = some (-6, rb b (mg 0 (b 152) v)) := by
  have e : f_X5_worstHang_172 a0 a1 a2 a3 y 0 (rb b v) = some (-6, rb b (mg 0 (b 152) v)) := by
    rw [f_X5_worstHang_172, pb_s, cb_some, if_pos rfl, f_X5_worstHang_188]
  rw [f_X5_worstHang_60]
  split
  · exact e
  · rw [if_pos rfl]; exact e
theorem wh {n t c i lo cnt M : Nat} {w : Vec} (hV : VW n t c w) (ht : t ≤ 1000000) (hi : i < n) (hlo : lo ≤ 4000) (hcnt : cnt ≤ 60) (hM : M ≤ 5000) (a0 a1 a2 a3 : Int32) (b : Sg) (hb : ∀ k, k < 255 → b 152 k = w k) : ∀ (d s f g : Nat) (σ : Sg) (v : Vec) (x y : Int32), s + d = lo + cnt → d < f → d < g → BS 1 n σ w → TBq 36 σ → (x = y ∨ (x = -5000 ∧ y = -1000000 ∧ 0 < d)) → ∃ r σ' v', f_X4_worstHang_54 a0 a1 a2 a3 f (nI i) (nI lo) (nI cnt) (nI M) x (nI s) σ = some (r, σ') ∧ f_X5_worstHang_60 a0 a1 a2 a3 g (nI i) (nI lo) (nI cnt) (nI M) y 1 (nI s) (rb b v) = some (r, rb b v') ∧ (∀ k, k < 255 → v' k = w k) ∧ TBq 36 σ' ∧ Fq 36 σ σ'
  | 0, s, f, g, σ, v, x, y, h, hf, hg, hB, hT, hR => by
    obtain ⟨f, rfl⟩ : ∃ f', f = f' + 1 := ⟨f - 1, by omega⟩
    obtain ⟨g, rfl⟩ : ∃ g', g = g' + 1 := ⟨g - 1, by omega⟩
    have e : nI lo + nI cnt ≤ nI s := by rw [nI_add]; exact nI_le (by omega) (by omega)
    have hxy : x = y := hR.elim id (fun z => absurd z.2.2 (by omega))
    refine ⟨x, σ, mg 0 (b 152) v, by rw [f_X4_worstHang_54, if_pos e], ?_, fun k hk => by rw [mg_0 _ _ hk]; exact hb k hk, hT, Fq.rf 36 σ⟩
    rw [f_X5_worstHang_60, if_pos e, f_X5_worstHang_172, pb_s, cb_some, if_neg (by decide), f_X5_worstHang_188, hxy]
  | d + 1, s, f, g, σ, v, x, y, h, hf, hg, hB, hT, hR => by
    obtain ⟨f, rfl⟩ : ∃ f', f = f' + 1 := ⟨f - 1, by omega⟩
    obtain ⟨g, rfl⟩ : ∃ g', g = g' + 1 := ⟨g - 1, by omega⟩
    have hn := hV.1.1.1
    have hi6 : i < 6 := by omega
    have hcl : (nI i).toNatClampNeg = i := nI_clamp (by omega)
    have e : ¬ nI lo + nI cnt ≤ nI s := by rw [nI_add]; exact nI_ge (by omega) (by omega)
    have ew : ∀ k, k < 255 → mg 0 (b 152) v k = w k := fun k hk => by rw [mg_0 _ _ hk]; exact hb k hk
    have hV1 : VW n t c (mg 0 (b 152) v) := hV.cg ew
    obtain ⟨s1, x1, x2, x3, x4⟩ := ptr (hB.cg hn ew) hV1 hT
    have b2 := lf_rel (m := 0) x2 hn hi (by decide) 1 (nI s) 0
    have v2 := lf_VW (m := 0) x4 hi (by decide) 1 (nI s) 0
    have F2 : Fq 36 σ (st (st (st s1 (T 36 i + 2) 0 1) (T 36 i + 3) 0 (nI s)) (T 36 i + 4) 0 0) := ((x3.st (by simp only [T]; omega) _ _).st (by simp only [T]; omega) _ _).st (by simp only [T]; omega) _ _
    obtain ⟨s3, t', c', z1, z2, z3, z4, z5⟩ := ctr_s (M := M) (by omega) b2 v2 (by omega)
    have cc : f_X4_worstHang_54 a0 a1 a2 a3 (f + 1) (nI i) (nI lo) (nI cnt) (nI M) x (nI s) σ = if (trL n M 1 (lfV 0 i 1 (nI s) 0 (trV n (mg 0 (b 152) v)))).1 = -6 then some (-6, s3) else cb (f_X1_property_0 39 (s3 39 1 - 1) 4 s3) fun v29 s30 => f_X4_worstHang_54 a0 a1 a2 a3 f (nI i) (nI lo) (nI cnt) (nI M) (if x < v29 - nI s then v29 - nI s else x) (nI s + 1) s30 := by
      rw [f_X4_worstHang_54, if_neg e, x1, cb_some, hcl, if_neg (inb2 hi6 (by decide))]
      rw [show f_X3_takeFault_0 (38 + 3 + 5 * i) 0 1 (nI s) 0 s1 = some (0, st (st (st s1 (T 36 i + 2) 0 1) (T 36 i + 3) 0 (nI s)) (T 36 i + 4) 0 0) from tf_s (t := T 36 i) (m := 0) (by decide) 1 (nI s) 0 s1]
      rw [cb_some, z1, cb_some]
    have rc : f_X5_worstHang_60 a0 a1 a2 a3 (g + 1) (nI i) (nI lo) (nI cnt) (nI M) y 1 (nI s) (rb b v) = if (trL n M 1 (lfV 0 i 1 (nI s) 0 (trV n (mg 0 (b 152) v)))).1 ≤ 0 then f_X5_worstHang_109 a0 a1 a2 a3 (f_X5_worstHang_60 a0 a1 a2 a3 g) (nI i) (nI lo) (nI cnt) (nI M) y (nI s) 0 (rb b (trL n M 1 (lfV 0 i 1 (nI s) 0 (trV n (mg 0 (b 152) v)))).2) else f_X5_worstHang_109 a0 a1 a2 a3 (f_X5_worstHang_60 a0 a1 a2 a3 g) (nI i) (nI lo) (nI cnt) (nI M) y (nI s) 1 (rb b (trL n M 1 (lfV 0 i 1 (nI s) 0 (trV n (mg 0 (b 152) v)))).2) := by
      rw [f_X5_worstHang_60, if_neg e, if_neg (by decide), pb_s, cb_some, cf_s hn b _ hV1.1.1.2.1, cb_some]
      rw [show f_X5_layFault_0 0 (nI i) 1 (nI s) 0 (rb b (lp cfT n 0 (mg 0 (b 152) v))) = some (0, rb b (lfV 0 i 1 (nI s) 0 (lp cfT n 0 (mg 0 (b 152) v)))) from lf_s (m := 0) (by decide) hi6 1 (nI s) 0 b _]
      rw [cb_some, sw_s, cb_some, sw_lf, show swV (lp cfT n 0 (mg 0 (b 152) v)) = trV n (mg 0 (b 152) v) from rfl, rtr_s (by omega) b v2 (by omega), cb_some]
    by_cases h6 : (trL n M 1 (lfV 0 i 1 (nI s) 0 (trV n (mg 0 (b 152) v)))).1 = -6
    · obtain ⟨g, rfl⟩ : ∃ g', g = g' + 1 := ⟨g - 1, by omega⟩
      refine ⟨-6, s3, mg 0 (b 152) (trL n M 1 (lfV 0 i 1 (nI s) 0 (trV n (mg 0 (b 152) v)))).2, by rw [cc, if_pos h6], ?_, fun k hk => by rw [mg_0 _ _ hk]; exact hb k hk, z2.TBq, F2.tr z3⟩
      rw [rc, if_pos (by rw [h6]; decide), f_X5_worstHang_109, if_pos rfl, f_X5_worstHang_148]
      split
      · rw [f_X5_worstHang_164, wend]
      · rw [f_X5_worstHang_164, wend]
    · obtain ⟨u, c2, u1, u2, u3, u4⟩ := trL_u M 1 _ t c v2 (by omega) h6
      have pos : ¬ (trL n M 1 (lfV 0 i 1 (nI s) 0 (trV n (mg 0 (b 152) v)))).1 ≤ 0 := by
        rcases trL_r n M 1 (lfV 0 i 1 (nI s) 0 (trV n (mg 0 (b 152) v))) with q | ⟨j, j1, j2, j3⟩
        · exact absurd q h6
        · rw [j3]; exact nI_nle (by omega) (by omega)
      have q18 : s3 39 1 = nI (c2 + 1) := by rw [show s3 39 1 = _ from z2.1.2.2.2.2.2.2.1]; exact u3
      have hc16 : c2 % 16 < 16 := Nat.mod_lt _ (by decide)
      have pr : f_X1_property_0 39 (s3 39 1 - 1) 4 s3 = some (nI u, s3) := by
        rw [q18, nI_pred]
        rw [show f_X1_property_0 39 (nI c2) 4 s3 = some (s3 (39 + 1) (c2 % 16 * 5 + 4), s3) from pr_s (j := 4) q18 (by omega) (by omega) (by omega) (by decide)]
        rw [show s3 (39 + 1) (c2 % 16 * 5 + 4) = nI u from (z2.1.2.2.2.2.2.2.2 _ 4 hc16 (by decide)).trans u4]
      have b4 : BS 1 n s3 w := hB.F hn (fun a h1 h2 => (F2.tr z3) a (by omega))
      let D := nI u - nI s
      have hD : D.toInt = (u : Int) - s := pk_sub_toInt (by omega) (by omega)
      obtain ⟨r, s4, v4, w1, w2, w3, w4, w5⟩ := wh hV ht hi hlo hcnt hM a0 a1 a2 a3 b hb d (s + 1) f g s3 (trL n M 1 (lfV 0 i 1 (nI s) 0 (trV n (mg 0 (b 152) v)))).2 (if x < D then D else x) (if D ≤ y then y else D) (by omega) (by omega) (by omega) b4 z2.TBq (Or.inl (by
        rcases hR with rfl | ⟨rfl, rfl, -⟩
        · by_cases q : x < D
          · rw [if_pos q, if_neg (Int32.not_le.mpr q)]
          · rw [if_neg q, if_pos (Int32.not_lt.mp q)]
        · rw [if_pos, if_neg]
          · rw [Int32.le_iff_toInt_le, hD, show (-1000000 : Int32).toInt = -1000000 by decide]; omega
          · rw [Int32.lt_iff_toInt_lt, hD, show (-5000 : Int32).toInt = -5000 by decide]; omega))
      refine ⟨r, s4, v4, ?_, ?_, w3, w4, (F2.tr z3).tr w5⟩
      · rw [cc, if_neg h6, pr, cb_some, nI_1]; exact w1
      · have e1 : nI c2 - nI c2 / 16 * 16 = nI (c2 % 16) := by rw [show (16 : Int32) = nI 16 from rfl]; exact pk_rem (by omega) (by decide) (by decide)
        have e2 : (175 : Int32) + 5 * nI (c2 % 16) + 4 = nI (rx (c2 % 16) 4) := rec_ix (j := 4) hc16
        have hcr : (nI (rx (c2 % 16) 4)).toNatClampNeg = rx (c2 % 16) 4 := nI_clamp (by simp only [rx]; omega)
        rw [rc, if_neg pos, f_X5_worstHang_109, if_neg (by decide), rb_151, u3, nI_pred, e1, e2, hcr, if_neg (inb2 (by simp only [rx]; omega) (by decide)), u4, f_X5_worstHang_148]
        by_cases q : D ≤ y
        · rw [if_pos (show nI u - nI s ≤ y from q), f_X5_worstHang_164, nI_1]
          rw [if_pos q] at w2; exact w2
        · rw [if_neg (show ¬ nI u - nI s ≤ y from q), f_X5_worstHang_164, nI_1]
          rw [if_neg q] at w2; exact w2
theorem go_worst (a0 a1 a2 a3 : Int32) : Go (f_X4_worstHang_0 a0 a1 a2 a3) (f_X5_worstHang_0 a0 a1 a2 a3) := by
  intro σ h
  obtain ⟨⟨n, t, c, y1, y2, y3⟩, z1, z2, z3, z4⟩ := id h
  have s3 : σ 1 3 = nI n := by rw [y1.1.2.1]; exact y2.1.1.2.1
  have hr0 : f_X5_isTask_0 a0 σ = some (htR n a0, σ) := by have := ht_r a0 σ (σ 151) y2.1.1.2.1; rwa [rb_self] at this
  by_cases hr : htR n a0 = 0
  · exact go_same h (-1) (by rw [f_X4_worstHang_0, ht_c a0 σ s3, cb_some, if_pos hr]) (by rw [f_X5_worstHang_0, hr0, cb_some, if_pos hr])
  by_cases h1 : win a1 1 4000 = 0
  · exact go_same h (-2) (by rw [f_X4_worstHang_0, ht_c a0 σ s3, cb_some, if_neg hr, win_c, cb_some, if_pos h1, f_X4_worstHang_43]) (by rw [f_X5_worstHang_0, hr0, cb_some, if_neg hr, win_r, cb_some, if_pos h1, f_X5_worstHang_43])
  by_cases h2 : win a2 1 60 = 0
  · exact go_same h (-2) (by rw [f_X4_worstHang_0, ht_c a0 σ s3, cb_some, if_neg hr, win_c, cb_some, if_neg h1, win_c, cb_some, if_pos h2, f_X4_worstHang_43]) (by rw [f_X5_worstHang_0, hr0, cb_some, if_neg hr, win_r, cb_some, if_neg h1, win_r, cb_some, if_pos h2, f_X5_worstHang_43])
  by_cases h3 : win a3 1 5000 = 0
  · exact go_same h (-2) (by rw [f_X4_worstHang_0, ht_c a0 σ s3, cb_some, if_neg hr, win_c, cb_some, if_neg h1, win_c, cb_some, if_neg h2, win_c, cb_some, if_pos h3, f_X4_worstHang_43]) (by rw [f_X5_worstHang_0, hr0, cb_some, if_neg hr, win_r, cb_some, if_neg h1, win_r, cb_some, if_neg h2, win_r, cb_some, if_pos h3, f_X5_worstHang_43])
  have hn := y2.1.1.1
  obtain ⟨i, hi, rfl⟩ := ht_n hn hr
  obtain ⟨lo, -, hlo, rfl⟩ := win_n (lo := 1) (hi := 4000) (by decide) (by decide) h1
  obtain ⟨cnt, hc1, hcnt, rfl⟩ := win_n (lo := 1) (hi := 60) (by decide) (by decide) h2
  obtain ⟨M, -, hM, rfl⟩ := win_n (lo := 1) (hi := 5000) (by decide) (by decide) h3
  have W := fun (b : Sg) hb (v : Vec) => wh y2 y3 hi hlo hcnt hM (nI i) (nI lo) (nI cnt) (nI M) b hb cnt lo FU FU σ v (-5000) (-1000000) rfl (by unfold FU; omega) (by unfold FU; omega) y1 z1 (Or.inr ⟨rfl, rfl, hc1⟩)
  obtain ⟨r, s1, -, q1, -, -, q4, q5⟩ := W (asd σ) (fun k hk => asd_152 σ hk) (σ 151)
  have e : ∀ a, (a < 36 ∨ 71 ≤ a) → s1 a = σ a := fun a ha => q5 a (by omega)
  have e151 : s1 151 = σ 151 := e 151 (by decide)
  obtain ⟨r', s1', v', p1, p2, p3, -, -⟩ := W (asd s1) (fun k hk => by rw [asd_152 _ hk, e151]) (σ 151)
  rw [q1] at p1
  injection p1 with p1
  injection p1 with p1 p1'
  subst p1
  refine ⟨r, s1, rb (asd s1) v', ?_, ?_, h.mv (fun a h1 h2 h3 => by rw [rb_o _ _ h2, asd_o _ h3, e a h1]) (q4.F (fun a h1 h2 => by rw [rb_o _ _ (by omega), asd_o _ (by omega)])) (fun k hk => by rw [rb_151]; exact p3 k hk)⟩
  · rw [f_X4_worstHang_0, ht_c _ σ s3, cb_some, if_neg hr, win_c, cb_some, if_neg h1, win_c, cb_some, if_neg h2, win_c, cb_some, if_neg h3]; exact q1
  · have hr1 : f_X5_isTask_0 (nI i) s1 = some (htR n (nI i), s1) := by have := ht_r (nI i) s1 (s1 151) (by rw [e151]; exact y2.1.1.2.1); rwa [rb_self] at this
    rw [f_X5_worstHang_0, hr1, cb_some, if_neg hr, win_r, cb_some, if_neg h1, win_r, cb_some, if_neg h2, win_r, cb_some, if_neg h3, pa_s, cb_some, asd_rb, e151, rb_rb]; exact p2
