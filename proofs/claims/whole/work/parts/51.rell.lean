/-! what only reads -/
def exL (h : Nat → Int32) : Nat → Nat → Int32 → Int32
  | 0, _, x => x
  | d + 1, i, x => exL h d (i + 1) (if h i = 0 then x else x ||| (1 <<< (nI i &&& 31)))
theorem exL_c {g h : Nat → Int32} : ∀ (d i : Nat) (x : Int32), (∀ j, i ≤ j → j < i + d → g j = h j) → exL g d i x = exL h d i x
  | 0, _, _, _ => rfl
  | d + 1, i, x, e => by
    rw [exL, exL, e i (by omega) (by omega)]
    exact exL_c d (i + 1) _ (fun j h1 h2 => e j (by omega) (by omega))
theorem ex_c {q n : Nat} (hn : n ≤ 6) {σ : Sg} (h3 : σ q 3 = nI n) : ∀ (d i f : Nat) (x : Int32), i + d = n → d < f → f_X0_expiredSet_4 q f x (nI i) σ = some (exL (fun j => σ (T q j) 11) d i x, σ)
  | 0, i, f, x, h, hf => by
    obtain ⟨rfl, g, rfl⟩ := loop0 h hf
    rw [f_X0_expiredSet_4, h3, if_pos (nI_le (Nat.le_refl _) (by omega))]; rfl
  | d + 1, i, f + 1, x, h, hf => by
    have hcl : (nI i).toNatClampNeg = i := nI_clamp (by omega)
    rw [f_X0_expiredSet_4, h3, if_neg (nI_ge (by omega) (by omega)), hcl, if_neg (inb2 (by omega) (by decide)), exL]
    by_cases z : σ (T q i) 11 = 0
    · rw [show σ (q + 2 + 3 + 5 * i) 11 = 0 from z, if_pos rfl, f_X0_expiredSet_30, nI_1, if_pos rfl]
      exact ex_c hn h3 d (i + 1) f x (by omega) (by omega)
    · rw [if_neg (show ¬ σ (q + 2 + 3 + 5 * i) 11 = 0 from z), if_neg z, f_X0_expiredSet_30, nI_1]
      exact ex_c hn h3 d (i + 1) f _ (by omega) (by omega)
theorem or0 (x : Int32) : x ||| 0 = x := Int32.or_zero
theorem ex_r {n : Nat} (hn : n ≤ 6) (b : Sg) {w : Vec} (h17 : w 17 = nI n) (hb : ∀ i, i < n → b01 (w (tx i 15))) : ∀ (d i f : Nat) (x : Int32), i + d = n → d < f → f_X5_expiredSet_4 f x (nI i) (rb b w) = some (exL (fun j => w (tx j 15)) d i x, rb b w)
  | 0, i, f, x, h, hf => by
    obtain ⟨rfl, g, rfl⟩ := loop0 h hf
    rw [f_X5_expiredSet_4, rb_151, h17, if_pos (nI_le (Nat.le_refl _) (by omega))]; rfl
  | d + 1, i, f + 1, x, h, hf => by
    rw [f_X5_expiredSet_4, rb_151, h17, if_neg (nI_ge (by omega) (by omega)), of_15 (by omega), cb_some, exL]
    by_cases z : w (tx i 15) = 0
    · rw [if_neg (by rw [z]; decide), if_pos z, f_X5_expiredSet_34, nI_1, or0]
      exact ex_r hn b h17 hb d (i + 1) f x (by omega) (by omega)
    · rw [if_pos ((hb i (by omega)).ne.mp z), if_neg z, f_X5_expiredSet_34, nI_1]
      exact ex_r hn b h17 hb d (i + 1) f _ (by omega) (by omega)
theorem ifr (v : Int32) (σ : Sg) : f_X0_ifRunning_0 1 v σ = some (if σ 1 5 = 1 then v else 0, σ) := by
  rw [f_X0_ifRunning_0]
  by_cases h : σ 1 5 = 1
  · rw [if_pos h, if_pos h, f_X0_ifRunning_13]
  · rw [if_neg h, if_neg h, f_X0_ifRunning_13]
theorem st_s {n t c : Nat} {σ b : Sg} {w : Vec} (a0 : Int32) (hB : BS 1 n σ w) (hV : VW n t c w) (hp : σ 143 1 = b 150 5) : ∃ r, f_X4_state_0 a0 σ = some (r, σ) ∧ f_X5_state_0 a0 (rb b w) = some (r, rb b w) := by
  have hn := hV.1.1.1
  have h17 := hV.1.1.2.1
  obtain ⟨a1, a2, a3, a4, a5, a6, a7, a8⟩ := hB.1
  have a7 : σ 4 1 = w 18 := a7
  have c5 : σ 1 5 = 1 → BRr 1 σ w ∧ ∀ i, i < n → TRr (T 1 i) i σ w := fun z => hB.2.2.1 (by rw [← a4]; exact z)
  have c0 : σ 1 5 = 0 → σ 1 8 = w 12 := fun z => hB.2.1 (by rw [← a4]; exact z)
  have e5 : f_X5_state_0 a0 (rb b w) = f_X5_state_16 a0 a0 (if σ 1 5 = 1 then 1 else 0) (rb b w) := by
    rw [f_X5_state_0, rb_151, ← a4]
    by_cases z : σ 1 5 = 1
    · rw [if_pos z, if_pos z]
    · rw [if_neg z, if_neg z]
  rw [e5]
  by_cases hr : win a0 13 20 = 0
  · rw [f_X4_state_0, win_c, cb_some, if_pos hr, f_X5_state_16, win_r, cb_some, if_pos hr]
    by_cases h0 : a0 = 0
    · subst h0
      refine ⟨w 8, by rw [if_pos rfl, a3], by rw [if_pos rfl, if_neg (by decide), rb_151]; rfl⟩
    rw [if_neg h0, if_neg h0]
    by_cases h0 : a0 = 1
    · subst h0
      refine ⟨w 9, by rw [if_pos rfl, a4], by rw [if_pos rfl, if_neg (by decide), rb_151]; rfl⟩
    rw [if_neg h0, if_neg h0]
    by_cases h0 : a0 = 2
    · subst h0
      refine ⟨w 10, by rw [if_pos rfl, a5], by rw [if_pos rfl, if_neg (by decide), rb_151]; rfl⟩
    rw [if_neg h0, if_neg h0]
    by_cases h0 : a0 = 3
    · subst h0
      refine ⟨w 11, by rw [if_pos rfl, a6], by rw [if_pos rfl, if_neg (by decide), rb_151]; rfl⟩
    rw [if_neg h0, if_neg h0]
    by_cases h0 : a0 = 4
    · subst h0
      rw [if_pos rfl, if_pos rfl, rb_151, ← a4]
      by_cases z : σ 1 5 = 0
      · exact ⟨w 12, by rw [if_pos z, f_X4_state_145, c0 z], by rw [if_pos z, f_X5_state_135]⟩
      · exact ⟨0, by rw [if_neg z, f_X4_state_145], by rw [if_neg z, f_X5_state_135]⟩
    rw [if_neg h0, if_neg h0]
    by_cases h0 : a0 = 5
    · subst h0
      rw [if_pos rfl, if_pos rfl, ifr, cb_some]
      by_cases z : σ 1 5 = 1
      · exact ⟨w 13, by rw [if_pos z, (c5 z).1.1], by rw [if_pos z, if_neg (by decide), if_neg (by decide), f_X5_state_155, rb_151]; rfl⟩
      · exact ⟨0, by rw [if_neg z], by rw [if_neg z, if_pos rfl, f_X5_state_155]⟩
    rw [if_neg h0, if_neg h0]
    by_cases h0 : a0 = 6
    · subst h0
      rw [if_pos rfl, if_pos rfl, ifr, cb_some]
      by_cases z : σ 1 5 = 1
      · exact ⟨w 14, by rw [if_pos z, (c5 z).1.2.1], by rw [if_pos z, if_neg (by decide), if_neg (by decide), f_X5_state_155, rb_151]; rfl⟩
      · exact ⟨0, by rw [if_neg z], by rw [if_neg z, if_pos rfl, f_X5_state_155]⟩
    rw [if_neg h0, if_neg h0]
    by_cases h0 : a0 = 7
    · subst h0
      rw [if_pos rfl, if_pos rfl, ifr, cb_some]
      by_cases z : σ 1 5 = 1
      · exact ⟨w 15, by rw [if_pos z, (c5 z).1.2.2.1], by rw [if_pos z, if_neg (by decide), if_neg (by decide), f_X5_state_155, rb_151]; rfl⟩
      · exact ⟨0, by rw [if_neg z], by rw [if_neg z, if_pos rfl, f_X5_state_155]⟩
    rw [if_neg h0, if_neg h0]
    by_cases h0 : a0 = 8
    · subst h0
      rw [if_pos rfl, if_pos rfl, ifr, cb_some]
      by_cases z : σ 1 5 = 1
      · exact ⟨w 16, by rw [if_pos z, (c5 z).1.2.2.2], by rw [if_pos z, if_neg (by decide), if_neg (by decide), f_X5_state_155, rb_151]; rfl⟩
      · exact ⟨0, by rw [if_neg z], by rw [if_neg z, if_pos rfl, f_X5_state_155]⟩
    rw [if_neg h0, if_neg h0]
    by_cases h0 : a0 = 9
    · exact ⟨w 18, by rw [if_pos h0, a7], by rw [if_pos h0, rb_151]⟩
    rw [if_neg h0, if_neg h0]
    by_cases h0 : a0 = 10
    · exact ⟨w 17, by rw [if_pos h0, a2], by rw [if_pos h0, rb_151]⟩
    rw [if_neg h0, if_neg h0]
    by_cases h0 : a0 = 11
    · rw [if_pos h0, if_pos h0, f_X0_expiredSet_0, show f_X0_expiredSet_4 1 FU 0 0 σ = some (exL (fun j => σ (T 1 j) 11) n 0 0, σ) from ex_c hn (by rw [a2]; exact h17) n 0 FU 0 (by omega) (by unfold FU; omega), cb_some, ifr, cb_some]
      by_cases z : σ 1 5 = 1
      · have hr := (c5 z).2
        have hb : ∀ i, i < n → b01 (w (tx i 15)) := fun i hi => by rw [← (hr i hi).2.2.2.2.1]; exact (hB.2.2.2.2 i (by omega)).2.2.2.1
        refine ⟨exL (fun j => w (tx j 15)) n 0 0, ?_, ?_⟩
        · rw [if_pos z, exL_c (h := fun j => w (tx j 15)) n 0 0 (fun j _ hj => (hr j (by omega)).2.2.2.2.1)]
        · rw [if_pos z, if_neg (by decide), f_X5_expiredSet_0, show f_X5_expiredSet_4 FU 0 0 (rb b w) = some (exL (fun j => w (tx j 15)) n 0 0, rb b w) from ex_r hn b h17 hb n 0 FU 0 (by omega) (by unfold FU; omega), cb_some, f_X5_state_184]
      · exact ⟨0, by rw [if_neg z], by rw [if_neg z, if_pos rfl, f_X5_state_184]⟩
    rw [if_neg h0, if_neg h0]
    by_cases h0 : a0 = 12
    · exact ⟨b 150 5, by rw [if_pos h0, hp], by rw [if_pos h0, rb_150]⟩
    exact ⟨-2, by rw [if_neg h0], by rw [if_neg h0]⟩
  · obtain ⟨m, m1, m2, rfl⟩ := win_n (lo := 13) (hi := 20) (by decide) (by decide) hr
    have e : nI m - 13 = nI (m - 13) := pk_sub (b := 13) m1
    have hcl : (nI (m - 13)).toNatClampNeg = m - 13 := nI_clamp (by omega)
    rw [f_X4_state_0, win_c, cb_some, if_neg hr, f_X5_state_16, win_r, cb_some, if_neg hr, e, hcl, if_neg (inb2 (by omega) (by decide)), if_neg (inb2 (by omega) (by decide)), rb_151]
    exact ⟨w (m - 13), by rw [show σ 2 (m - 13) = w (m - 13) from a1 _ (by omega)], rfl⟩
/-- of a task -/
theorem mo_c {t : Nat} (a0 : Int32) (σ : Sg) : ∃ v, f_X3_momentary_0 t a0 σ = some (v, σ) := by
  rw [f_X3_momentary_0]
  split
  · split <;> exact ⟨_, rfl⟩
  split
  · split
    · exact ⟨_, rfl⟩
    · split <;> exact ⟨_, rfl⟩
  split
  · exact ⟨_, rfl⟩
  split
  · exact ⟨_, rfl⟩
  split
  · split <;> exact ⟨_, rfl⟩
  · split <;> exact ⟨_, rfl⟩
theorem mo_r {i : Nat} (hi : i < 6) (a0 : Int32) (b : Sg) {σ : Sg} {w : Vec} (hr : TRr (T 1 i) i σ w) (hb : TB (T 1 i) σ) : ∃ v, f_X3_momentary_0 (T 1 i) a0 σ = some (v, σ) ∧ f_X5_ofJob_0 (nI i) a0 (rb b w) = some (v, rb b w) := by
  obtain ⟨r1, r2, r3, r4, r5, r6⟩ := hr
  obtain ⟨b1, b2, b3, b4, -⟩ := hb
  rw [f_X3_momentary_0, f_X5_ofJob_0]
  by_cases h : a0 = 8
  · rw [if_pos h, if_pos h, of_8 hi, cb_some, ← r1]
    rcases b1 with z | z
    · exact ⟨0, by rw [if_pos z, f_X3_momentary_48], by rw [z]⟩
    · exact ⟨1, by rw [if_neg (by rw [z]; decide), f_X3_momentary_48], by rw [z]⟩
  rw [if_neg h, if_neg h]
  by_cases h : a0 = 9
  · rw [if_pos h, if_pos h, of_8 hi, cb_some]
    rcases b1 with z | z
    · exact ⟨0, by rw [if_pos z, f_X3_momentary_70, f_X3_momentary_71], by rw [← r1, z, if_neg (by decide), f_X5_ofJob_75, f_X5_ofJob_76]⟩
    · obtain ⟨s1, s2, -⟩ := r6 (by rw [← r1]; exact z)
      rw [if_neg (by rw [z]; decide), if_pos (show w (tx i 8) = 1 by rw [← r1]; exact z), of_11 hi, cb_some, ← s1]
      by_cases y : σ (T 1 i) 5 = 0
      · exact ⟨w (tx i 9), by rw [if_pos y, f_X3_momentary_71, s2], by rw [if_pos y, of_9 hi, cb_some, f_X5_ofJob_76]⟩
      · exact ⟨0, by rw [if_neg y, f_X3_momentary_70, f_X3_momentary_71], by rw [if_neg y, f_X5_ofJob_75, f_X5_ofJob_76]⟩
  rw [if_neg h, if_neg h]
  by_cases h : a0 = 10
  · exact ⟨w (tx i 12), by rw [if_pos h, r2], by rw [if_pos h, of_12 hi, cb_some]⟩
  rw [if_neg h, if_neg h]
  by_cases h : a0 = 11
  · exact ⟨w (tx i 13), by rw [if_pos h, r3], by rw [if_pos h, of_13 hi, cb_some]⟩
  rw [if_neg h, if_neg h]
  by_cases h : a0 = 12
  · rw [if_pos h, if_pos h, of_14 hi, cb_some, ← r4]
    rcases b3 with z | z
    · exact ⟨0, by rw [if_pos z, f_X3_momentary_94], by rw [z]⟩
    · exact ⟨1, by rw [if_neg (by rw [z]; decide), f_X3_momentary_94], by rw [z]⟩
  rw [if_neg h, if_neg h, of_15 hi, cb_some, ← r5]
  rcases b4 with z | z
  · exact ⟨0, by rw [if_pos z, f_X3_momentary_107], by rw [z]⟩
  · exact ⟨1, by rw [if_neg (by rw [z]; decide), f_X3_momentary_107], by rw [z]⟩
theorem ta_s {n t c : Nat} {σ : Sg} {w : Vec} (a0 a1 : Int32) (b : Sg) (hB : BS 1 n σ w) (hV : VW n t c w) : ∃ r, f_X4_task_0 a0 a1 σ = some (r, σ) ∧ f_X5_task_0 a0 a1 (rb b w) = some (r, rb b w) := by
  have hn := hV.1.1.1
  have s3 : σ 1 3 = nI n := by rw [hB.1.2.1]; exact hV.1.1.2.1
  have a4 : σ 1 5 = w 9 := hB.1.2.2.2.1
  rw [f_X4_task_0, f_X5_task_0, ht_c a0 σ s3, ht_r a0 b w hV.1.1.2.1, cb_some, cb_some]
  by_cases hr : htR n a0 = 0
  · exact ⟨-1, by rw [if_pos hr], by rw [if_pos hr]⟩
  obtain ⟨i, hi, rfl⟩ := ht_n hn hr
  have hi6 : i < 6 := by omega
  have hcl : (nI i).toNatClampNeg = i := nI_clamp (by omega)
  obtain ⟨p1, p2, p3, p4, p5, p6⟩ := hB.2.2.2.1 i hi
  have hb := hB.2.2.2.2 i hi6
  rw [if_neg hr, if_neg hr, hcl, if_neg (inb2 hi6 (by decide)), win_c, win_r, cb_some, cb_some]
  by_cases h0 : win a1 0 7 = 0
  · rw [if_pos h0, if_pos h0, win_c, win_r, cb_some, cb_some]
    by_cases h8 : win a1 8 13 = 0
    · rw [if_pos h8, if_pos h8]
      by_cases h : a1 = 14
      · exact ⟨w (tx i 20), by rw [if_pos h, show σ (3 + 3 + 5 * i + 2) 0 = w (tx i 20) from (p2 0 (by decide)).1], by rw [if_pos h, of_20 hi6, cb_some]⟩
      rw [if_neg h, if_neg h]
      by_cases h : a1 = 15
      · exact ⟨w (tx i 23), by rw [if_pos h, show σ (3 + 3 + 5 * i + 2) 1 = w (tx i 23) from (p2 1 (by decide)).1], by rw [if_pos h, of_23 hi6, cb_some]⟩
      rw [if_neg h, if_neg h]
      by_cases h : a1 = 16
      · exact ⟨w (tx i 16), by rw [if_pos h, show σ (3 + 3 + 5 * i) 12 = w (tx i 16) from p3], by rw [if_pos h, of_16 hi6, cb_some]⟩
      rw [if_neg h, if_neg h]
      by_cases h : a1 = 17
      · rw [if_pos h, if_pos h, of_17 hi6, cb_some, ← p4, show (3 + 3 + 5 * i) = T 1 i from rfl]
        rcases hb.2.2.2.2 with z | z
        · exact ⟨-6, by rw [if_pos z, f_X4_task_131], by rw [z, if_neg (by decide), f_X5_task_143]⟩
        · exact ⟨w (tx i 18), by rw [if_neg (by rw [z]; decide), f_X4_task_131, p5 (by rw [← p4]; exact z)], by rw [if_pos z, of_18 hi6, cb_some, f_X5_task_143]⟩
      rw [if_neg h, if_neg h]
      by_cases h : a1 = 18
      · exact ⟨w (tx i 19), by rw [if_pos h, show σ (3 + 3 + 5 * i) 15 = w (tx i 19) from p6], by rw [if_pos h, of_19 hi6, cb_some]⟩
      exact ⟨-2, by rw [if_neg h], by rw [if_neg h]⟩
    · rw [if_neg h8, if_neg h8, rb_151, ← a4, show (3 + 3 + 5 * i) = T 1 i from rfl]
      by_cases z : σ 1 5 = 1
      · obtain ⟨v, v1, v2⟩ := mo_r hi6 a1 b ((hB.2.2.1 (by rw [← a4]; exact z)).2 i hi) hb
        exact ⟨v, by rw [v1, cb_some, ifr, cb_some, if_pos z], by rw [if_pos z, v2, cb_some, f_X5_task_59]⟩
      · obtain ⟨v, v1⟩ := mo_c (t := T 1 i) a1 σ
        exact ⟨0, by rw [v1, cb_some, ifr, cb_some, if_neg z], by rw [if_neg z, f_X5_task_59]⟩
  · obtain ⟨m, -, m2, rfl⟩ := win_n (lo := 0) (hi := 7) (by decide) (by decide) h0
    have hcm : (nI m).toNatClampNeg = m := nI_clamp (by omega)
    rw [if_neg h0, if_neg h0, hcm, if_neg (inb2 (by omega) (by decide)), of_s hi6 (by omega), cb_some]
    exact ⟨w (tx i m), by rw [show σ (3 + 3 + 5 * i + 1) m = w (tx i m) from p1 m (by omega)], rfl⟩
/-- the records -/
theorem pr_s {q c m j : Nat} {σ : Sg} (h : σ q 1 = nI c) (hc : c < 2 ^ 30) (hm : m < c) (h16 : c ≤ m + 16) (hj : j < 5) : f_X1_property_0 q (nI m) (nI j) σ = some (σ (q + 1) (m % 16 * 5 + j), σ) := by
  have e1 : nI m - nI m / 16 * 16 = nI (m % 16) := by rw [show (16 : Int32) = nI 16 from rfl]; exact pk_rem (by omega) (by decide) (by decide)
  have e2 : nI (m % 16) * 5 + nI j = nI (m % 16 * 5 + j) := by rw [show (5 : Int32) = nI 5 from rfl, pk_mul, nI_add]
  have hlt : m % 16 < 16 := Nat.mod_lt _ (by decide)
  have hcl : (nI (m % 16 * 5 + j)).toNatClampNeg = m % 16 * 5 + j := nI_clamp (by omega)
  have l1 : ¬ nI m < nI c - 16 := by
    rw [Int32.lt_iff_toInt_lt, show (16 : Int32) = nI 16 from rfl, pk_sub_toInt hc (by decide), nI_toInt (by omega)]; omega
  have wj : win (nI j) 0 4 = 1 := by
    unfold win; rw [if_neg (nI_pos (by omega)), if_neg]
    rw [show (4 : Int32) = nI 4 from rfl]; exact nI_nlt (by omega) (by decide)
  rw [f_X1_property_0, if_neg (nI_pos (by omega)), h, if_neg (nI_ge hm (by omega)), if_neg l1, win_c, cb_some, wj, if_neg (by decide), e1, e2, hcl, if_neg (inb2 (by omega) (by decide))]
theorem re_s {n t c : Nat} {σ : Sg} {w : Vec} (a0 a1 : Int32) (b : Sg) (hB : BS 1 n σ w) (hV : VW n t c w) (ht : t + 2 < 2 ^ 30) : ∃ r, f_X4_record_0 a0 a1 σ = some (r, σ) ∧ f_X5_record_0 a0 a1 (rb b w) = some (r, rb b w) := by
  have hc : c < 2 ^ 30 := by have := hV.2.2.2.1; omega
  have h18 : w 18 = nI c := hV.1.1.2.2.1
  have s1 : σ 4 1 = nI c := by rw [show σ 4 1 = w 18 from hB.1.2.2.2.2.2.2.1]; exact h18
  have a8 := hB.1.2.2.2.2.2.2.2
  rw [f_X4_record_0, f_X5_record_0, win_c, win_r, cb_some, cb_some]
  by_cases h0 : win a1 0 4 = 0
  · exact ⟨-2, by rw [if_pos h0], by rw [if_pos h0]⟩
  rw [if_neg h0, if_neg h0, rb_151, h18, win_r, cb_some]
  by_cases hneg : a0 < 0
  · exact ⟨-6, by rw [f_X1_property_0, if_pos hneg, f_X1_property_32, cb_some], by rw [if_pos (by unfold win; rw [if_pos hneg]), f_X5_record_43]⟩
  obtain ⟨m, hm, rfl⟩ := nI_of hneg
  obtain ⟨j, -, hj, rfl⟩ := win_n (lo := 0) (hi := 4) (by decide) (by decide) h0
  by_cases hmc : c ≤ m
  · refine ⟨-6, by rw [f_X1_property_0, if_neg hneg, s1, if_pos (nI_le hmc hm), f_X1_property_32, cb_some], ?_⟩
    rw [if_pos, f_X5_record_43]
    unfold win
    rw [if_neg hneg, if_pos]
    rw [Int32.lt_iff_toInt_lt, show (1 : Int32) = nI 1 from rfl, pk_sub_toInt hc (by decide), nI_toInt hm]; omega
  have hw : ¬ win (nI m) 0 (nI c - 1) = 0 := by
    unfold win
    rw [if_neg hneg, if_neg]
    · decide
    · rw [Int32.lt_iff_toInt_lt, show (1 : Int32) = nI 1 from rfl, pk_sub_toInt hc (by decide), nI_toInt hm]; omega
  rw [if_neg hw]
  by_cases h16 : c ≤ m + 16
  · have e1 : nI m - nI m / 16 * 16 = nI (m % 16) := by rw [show (16 : Int32) = nI 16 from rfl]; exact pk_rem (by omega) (by decide) (by decide)
    have hlt : m % 16 < 16 := Nat.mod_lt _ (by decide)
    have hcl : (nI (rx (m % 16) j)).toNatClampNeg = rx (m % 16) j := nI_clamp (by simp only [rx]; omega)
    refine ⟨w (rx (m % 16) j), ?_, ?_⟩
    · rw [pr_s s1 hc (by omega) h16 (by omega), cb_some, show σ (4 + 1) (m % 16 * 5 + j) = w (rx (m % 16) j) from a8 _ j hlt (by omega)]
    · rw [if_pos, e1, rec_ix hlt, hcl, if_neg (inb2 (by simp only [rx]; omega) (by decide)), rb_151]
      rw [rb_151, h18, Int32.le_iff_toInt_le, show (16 : Int32) = nI 16 from rfl, pk_sub_toInt hc (by decide), nI_toInt hm]; omega
  · refine ⟨-6, ?_, ?_⟩
    · rw [f_X1_property_0, if_neg hneg, s1, if_neg (nI_ge (by omega) (by omega)), if_pos, f_X1_property_32, cb_some]
      rw [Int32.lt_iff_toInt_lt, show (16 : Int32) = nI 16 from rfl, pk_sub_toInt hc (by decide), nI_toInt hm]; omega
    · rw [if_neg, f_X5_record_43]
      rw [rb_151, h18, Int32.le_iff_toInt_le, show (16 : Int32) = nI 16 from rfl, pk_sub_toInt hc (by decide), nI_toInt hm]; omega
