/-! save and restore -/
def ms (s i : Nat) (a b : Vec) : Vec := fun k => if 255 * s + i ≤ k ∧ k < 255 * s + 255 then a (k - 255 * s) else b k
theorem ms_s {s i : Nat} (hi : i < 255) (a b : Vec) : ms s (i + 1) a (upd b (255 * s + i) (a i)) = ms s i a b := by
  funext k
  simp only [ms, upd_ap]
  by_cases h : k = 255 * s + i
  · subst h; rw [if_neg (by omega), if_pos rfl, if_pos (by omega), show 255 * s + i - 255 * s = i by omega]
  · by_cases g : 255 * s + (i + 1) ≤ k ∧ k < 255 * s + 255
    · rw [if_pos g, if_pos (by omega)]
    · rw [if_neg g, if_neg h, if_neg (by omega)]
theorem ms_e (s : Nat) (a b : Vec) : ms s 255 a b = b := by funext k; simp only [ms]; rw [if_neg (by omega)]
theorem s_ix (s i : Nat) : (255 : Int32) * nI s + nI i = nI (255 * s + i) := by rw [show (255 : Int32) = nI 255 from rfl, pk_mul, nI_add]
theorem nb1 : vp_nar .boolean 1 = 1 := rfl
theorem sav_l {s : Nat} (hs : s < 2) (a : Int32) : ∀ (d i f : Nat) (σ : Sg), i + d = 255 → d < f → f_X5_save_14 a f (nI s) (nI i) σ = some (σ 151 8, st (sr σ 153 (ms s i (σ 151) (σ 153))) 154 s 1)
  | 0, i, f, σ, h, hf => by
    obtain ⟨rfl, g, rfl⟩ := loop0 h hf
    have hcl : (nI s).toNatClampNeg = s := nI_clamp (by omega)
    rw [f_X5_save_14, if_pos (show (255 : Int32) ≤ nI 255 by decide), hcl, if_neg (inb2 hs (by decide)), wb_eq, ms_e, sr_self, st_o 151 (by decide), nb1]
  | d + 1, i, f + 1, σ, h, hf => by
    have hcl : (nI i).toNatClampNeg = i := nI_clamp (by omega)
    have hcx : (nI (255 * s + i)).toNatClampNeg = 255 * s + i := nI_clamp (by omega)
    rw [f_X5_save_14, if_neg (by rw [show (255 : Int32) = nI 255 from rfl]; exact nI_ge (by omega) (by decide)), hcl, if_neg (inb2 (by omega) (by decide)), s_ix, hcx, if_neg (inb2 (by omega) (by decide)), wb_eq, nI_1, sav_l hs a d (i + 1) f _ (by omega) (by omega), sr_st, sr_sr, sr_o 151 (by decide), sr_q, ms_s (by omega)]
theorem res_l {s : Nat} (hs : s < 2) (a : Int32) : ∀ (d i f : Nat) (σ : Sg), i + d = 255 → d < f → f_X5_restore_26 a f (nI s) (nI i) σ = some (mg i (sv s σ) (σ 151) 8, sr σ 151 (mg i (sv s σ) (σ 151)))
  | 0, i, f, σ, h, hf => by
    obtain ⟨rfl, g, rfl⟩ := loop0 h hf
    rw [f_X5_restore_26, if_pos (show (255 : Int32) ≤ nI 255 by decide), mg_e, sr_self]
  | d + 1, i, f + 1, σ, h, hf => by
    have hcl : (nI i).toNatClampNeg = i := nI_clamp (by omega)
    have hcx : (nI (255 * s + i)).toNatClampNeg = 255 * s + i := nI_clamp (by omega)
    have e : sv s (st σ 151 i (σ 153 (255 * s + i))) = sv s σ := by funext k; simp only [sv]; rw [st_o 153 (by decide)]
    rw [f_X5_restore_26, if_neg (by rw [show (255 : Int32) = nI 255 from rfl]; exact nI_ge (by omega) (by decide)), s_ix, hcx, if_neg (inb2 (by omega) (by decide)), hcl, if_neg (inb2 (by omega) (by decide)), wb_eq, nI_1, res_l hs a d (i + 1) f _ (by omega) (by omega), e, sr_st, sr_sr, sr_q, show σ 153 (255 * s + i) = sv s σ i from rfl, mg_s (by omega)]
theorem go_save (a0 : Int32) : Go (f_X4_save_0 a0) (f_X5_save_0 a0) := by
  intro σ h
  obtain ⟨⟨n, t, c, y1, y2, y3⟩, z1, z2, z3, z4⟩ := id h
  by_cases h0 : win a0 0 1 = 0
  · exact go_same h (-2) (by rw [f_X4_save_0, win_c, cb_some, if_pos h0]) (by rw [f_X5_save_0, win_r, cb_some, if_pos h0])
  obtain ⟨s, -, hs1, rfl⟩ := win_n (lo := 0) (hi := 1) (by decide) (by decide) h0
  have hs : s < 2 := by omega
  have hcl : (nI s).toNatClampNeg = s := nI_clamp (by omega)
  have zs : SLOT s σ := by
    have : s = 0 ∨ s = 1 := by omega
    rcases this with rfl | rfl
    · exact z2
    · exact z3
  obtain ⟨s1, x1, x2, x3⟩ := bec (q := 72 + 35 * s) (o := 1) y2.1.1.1 (Or.inr (by omega)) y1 y2.1.1.2.1 zs.2.2.1
  have x1' : f_X0_become_0 (71 + 1 + 35 * s) 1 σ = some (0, s1) := x1
  let s2 := st s1 142 s 1
  have E2 : ∀ a, (a < 72 + 35 * s ∨ 72 + 35 * s + 35 ≤ a) → a ≠ 142 → s2 a = σ a := fun a h1 h2 => by simp only [s2]; rw [st_o a h2, x3 a h1]
  have e151 : s2 151 = σ 151 := E2 151 (by omega) (by decide)
  let s3 := st (sr s2 153 (ms s 0 (s2 151) (s2 153))) 154 s 1
  have E3 : ∀ a, a ≠ 153 → a ≠ 154 → s3 a = s2 a := fun a h1 h2 => by simp only [s3]; rw [st_o a h2, sr_o a h1]
  have E : ∀ a, (a < 72 + 35 * s ∨ 72 + 35 * s + 35 ≤ a) → a ≠ 142 → a ≠ 153 → a ≠ 154 → s3 a = σ a := fun a h1 h2 h3 h4 => by rw [E3 a h3 h4, E2 a h1 h2]
  have e142 : ∀ k, s3 142 k = if k = s then 1 else σ 142 k := fun k => by
    rw [E3 142 (by decide) (by decide)]; simp only [s2, st_r, true_and]; rw [x3 142 (by omega)]
  have e154 : ∀ k, s3 154 k = if k = s then 1 else σ 154 k := fun k => by
    simp only [s3, st_r, true_and]; rw [sr_o 154 (by decide), E2 154 (by omega) (by decide)]
  have e153 : ∀ k, s3 153 k = ms s 0 (σ 151) (σ 153) k := fun k => by
    simp only [s3]; rw [st_o 153 (by decide), sr_q, e151, E2 153 (by omega) (by decide)]
  have me : SLOT s s3 := by
    refine ⟨by rw [e154, if_pos rfl]; exact Or.inr rfl, by rw [e142, e154, if_pos rfl, if_pos rfl], x2.TBq.F (fun a h1 h2 => ?_), fun _ => ⟨n, t, c, (x2.F y2.1.1.1 (fun a h1 h2 => ?_)).cg y2.1.1.1 (fun k hk => ?_), y2.cg (fun k hk => ?_), y3⟩⟩
    · rw [E3 a (by omega) (by omega)]; exact st_o a (by omega)
    · rw [E3 a (by omega) (by omega)]; exact st_o a (by omega)
    · simp only [sv]; rw [e153, ms, if_pos (by omega)]; congr 1; omega
    · simp only [sv]; rw [e153, ms, if_pos (by omega)]; congr 1; omega
  have other : ∀ r, r < 2 → r ≠ s → SLOT r σ → SLOT r s3 := fun r hr hrs hz => hz.mv (by rw [e142, if_neg hrs]) (by rw [e154, if_neg hrs]) (fun k hk => by rw [e153, ms, if_neg (by omega)]) (fun a h1 h2 => E a (by omega) (by omega) (by omega) (by omega))
  have g : ∀ a, 143 ≤ a → a ≠ 153 → a ≠ 154 → ∀ k, s3 a k = σ a k := fun a h1 h2 h3 k => by rw [E a (by omega) (by omega) h2 h3]
  refine ⟨σ 151 8, s2, s3, ?_, ?_, ⟨n, t, c, ?_, ?_, y3⟩, z1.F (fun a h1 h2 => E a (by omega) (by omega) (by omega) (by omega)), ?_, ?_, z4.mv (g 143 (by decide) (by decide) (by decide) _) (g 150 (by decide) (by decide) (by decide) _) (fun j _ => ⟨g 144 (by decide) (by decide) (by decide) _, g 155 (by decide) (by decide) (by decide) _⟩)⟩
  · rw [f_X4_save_0, win_c, cb_some, if_neg h0, hcl, if_neg (inb2 hs (by decide)), x1', cb_some, if_neg (inb2 hs (by decide)), wb_eq, nb1, st_o 1 (by decide), x3 1 (by omega), show σ 1 4 = σ 151 8 from y1.1.2.2.1]
  · rw [f_X5_save_0, win_r, cb_some, if_neg h0]
    exact (sav_l hs (nI s) 255 0 FU s2 (by decide) (by unfold FU; omega)).trans (congrArg (fun z => some (z, s3)) (congrFun e151 8))
  · rw [E 151 (by omega) (by decide) (by decide) (by decide)]
    exact y1.F y2.1.1.1 (fun a h1 h2 => E a (by omega) (by omega) (by omega) (by omega))
  · rw [E 151 (by omega) (by decide) (by decide) (by decide)]; exact y2
  · by_cases q : 0 = s
    · rw [q]; exact me
    · exact other 0 (by decide) q z2
  · by_cases q : 1 = s
    · rw [q]; exact me
    · exact other 1 (by decide) q z3
theorem go_restore (a0 : Int32) : Go (f_X4_restore_0 a0) (f_X5_restore_0 a0) := by
  intro σ h
  obtain ⟨⟨n, t, c, y1, y2, y3⟩, z1, z2, z3, z4⟩ := id h
  by_cases h0 : win a0 0 1 = 0
  · exact go_same h (-2) (by rw [f_X4_restore_0, win_c, cb_some, if_pos h0]) (by rw [f_X5_restore_0, win_r, cb_some, if_pos h0])
  obtain ⟨s, -, hs1, rfl⟩ := win_n (lo := 0) (hi := 1) (by decide) (by decide) h0
  have hs : s < 2 := by omega
  have hcl : (nI s).toNatClampNeg = s := nI_clamp (by omega)
  have zs : SLOT s σ := by
    have : s = 0 ∨ s = 1 := by omega
    rcases this with rfl | rfl
    · exact z2
    · exact z3
  obtain ⟨k1, k2, k3, k4⟩ := zs
  by_cases z : σ 154 s = 0
  · exact go_same h (-5) (by rw [f_X4_restore_0, win_c, cb_some, if_neg h0, hcl, if_neg (inb2 hs (by decide)), k2, if_pos z]) (by rw [f_X5_restore_0, win_r, cb_some, if_neg h0, hcl, if_neg (inb2 hs (by decide)), if_pos z])
  obtain ⟨n', t', c', v1, v2, v3⟩ := k4 (k1.ne.mp z)
  obtain ⟨s1, x1, x2, x3⟩ := bec (q := 1) (o := 72 + 35 * s) v2.1.1.1 (Or.inl (by omega)) v1 v2.1.1.2.1 y1.TBq
  have x1' : f_X0_become_0 1 (71 + 1 + 35 * s) σ = some (0, s1) := x1
  have e : ∀ a, 36 ≤ a → s1 a = σ a := fun a ha => x3 a (by omega)
  have esv : sv s s1 = sv s σ := by funext k; simp only [sv]; rw [e 153 (by decide)]
  let s2 := sr s1 151 (mg 0 (sv s σ) (σ 151))
  have E : ∀ a, 36 ≤ a → a ≠ 151 → s2 a = σ a := fun a h1 h2 => by simp only [s2]; rw [sr_o a h2, e a h1]
  have e151 : ∀ k, k < 255 → s2 151 k = sv s σ k := fun k hk => by simp only [s2]; rw [sr_q, mg_0 _ _ hk]
  have g : ∀ a, 36 ≤ a → a ≠ 151 → ∀ k, s2 a k = σ a k := fun a h1 h2 k => by rw [E a h1 h2]
  refine ⟨sv s σ 8, s1, s2, ?_, ?_, ⟨n', t', c', (x2.F v2.1.1.1 (fun a h1 h2 => sr_o a (by omega))).cg v2.1.1.1 e151, v2.cg e151, v3⟩, z1.F (fun a h1 h2 => E a (by omega) (by omega)), z2.mv (g 142 (by decide) (by decide) _) (g 154 (by decide) (by decide) _) (fun k _ => g 153 (by decide) (by decide) _) (fun a h1 h2 => E a (by omega) (by omega)), z3.mv (g 142 (by decide) (by decide) _) (g 154 (by decide) (by decide) _) (fun k _ => g 153 (by decide) (by decide) _) (fun a h1 h2 => E a (by omega) (by omega)), z4.mv (g 143 (by decide) (by decide) _) (g 150 (by decide) (by decide) _) (fun j _ => ⟨g 144 (by decide) (by decide) _, g 155 (by decide) (by decide) _⟩)⟩
  · rw [f_X4_restore_0, win_c, cb_some, if_neg h0, hcl, if_neg (inb2 hs (by decide)), k2, if_neg z, if_neg (inb2 hs (by decide)), x1', cb_some, show s1 1 4 = sv s σ 8 from x2.1.2.2.1]
  · rw [f_X5_restore_0, win_r, cb_some, if_neg h0, hcl, if_neg (inb2 hs (by decide)), e 154 (by decide), if_neg z]
    have r := res_l hs (nI s) 255 0 FU s1 (by decide) (by unfold FU; omega)
    rw [esv, e 151 (by decide), mg_0 _ _ (by decide)] at r
    exact r
