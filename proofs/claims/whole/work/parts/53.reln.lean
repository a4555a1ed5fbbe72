/-! what holds between two calls of the law -/
def PAD (σ : Sg) : Prop := ∃ m, m ≤ 60 ∧ σ 143 1 = nI m ∧ σ 150 5 = nI m ∧ ∀ j, j < m → σ 144 j = σ 155 j ∧ ∃ c, 33 ≤ c ∧ c ≤ 126 ∧ σ 155 j = nI c
def sv (s : Nat) (σ : Sg) : Vec := fun k => σ 153 (255 * s + k)
def SLOT (s : Nat) (σ : Sg) : Prop := b01 (σ 154 s) ∧ σ 142 s = σ 154 s ∧ TBq (72 + 35 * s) σ ∧ (σ 154 s = 1 → ∃ n t c, BS (72 + 35 * s) n σ (sv s σ) ∧ VW n t c (sv s σ) ∧ t ≤ 1000000)
def INV (σ : Sg) : Prop := (∃ n t c, BS 1 n σ (σ 151) ∧ VW n t c (σ 151) ∧ t ≤ 1000000) ∧ TBq 36 σ ∧ SLOT 0 σ ∧ SLOT 1 σ ∧ PAD σ
def Go (fc fr : Sg → Option (Int32 × Sg)) : Prop := ∀ σ, INV σ → ∃ r σ1 σ2, fc σ = some (r, σ1) ∧ fr σ1 = some (r, σ2) ∧ INV σ2
theorem SLOT.mv {s : Nat} {σ σ' : Sg} (h : SLOT s σ) (h0 : σ' 142 s = σ 142 s) (h1 : σ' 154 s = σ 154 s) (h2 : ∀ k, k < 255 → σ' 153 (255 * s + k) = σ 153 (255 * s + k)) (h3 : ∀ a, 72 + 35 * s ≤ a → a < 72 + 35 * s + 35 → σ' a = σ a) : SLOT s σ' := by
  obtain ⟨x1, x2, x3, x4⟩ := h
  refine ⟨by rw [h1]; exact x1, by rw [h0, h1]; exact x2, x3.F h3, fun z => ?_⟩
  obtain ⟨n, t, c, y1, y2, y3⟩ := x4 (by rw [← h1]; exact z)
  exact ⟨n, t, c, (y1.F y2.1.1.1 h3).cg y2.1.1.1 (fun k hk => h2 k hk), y2.cg (fun k hk => h2 k hk), y3⟩
theorem PAD.mv {σ σ' : Sg} (h : PAD σ) (h0 : σ' 143 1 = σ 143 1) (h1 : σ' 150 5 = σ 150 5) (h2 : ∀ j, j < 60 → σ' 144 j = σ 144 j ∧ σ' 155 j = σ 155 j) : PAD σ' := by
  obtain ⟨m, m1, m2, m3, m4⟩ := h
  refine ⟨m, m1, by rw [h0]; exact m2, by rw [h1]; exact m3, fun j hj => ?_⟩
  obtain ⟨e1, e2⟩ := h2 j (by omega)
  rw [e1, e2]; exact m4 j hj
theorem INV.mv {σ σ' : Sg} (h : INV σ) (F : ∀ a, (a < 36 ∨ 71 ≤ a) → a ≠ 151 → a ≠ 152 → σ' a = σ a) (B : TBq 36 σ') (e : ∀ k, k < 255 → σ' 151 k = σ 151 k) : INV σ' := by
  obtain ⟨⟨n, t, c, y1, y2, y3⟩, z1, z2, z3, z4⟩ := h
  have g : ∀ a, (a < 36 ∨ 71 ≤ a) → a < 151 ∨ 152 < a → ∀ k, σ' a k = σ a k := fun a h1 h2 k => by rw [F a h1 (by omega) (by omega)]
  exact ⟨⟨n, t, c, (y1.F y2.1.1.1 (fun a h1 h2 => F a (by omega) (by omega) (by omega))).cg y2.1.1.1 e, y2.cg e, y3⟩, B, z2.mv (g 142 (by decide) (by decide) _) (g 154 (by decide) (by decide) _) (fun k _ => g 153 (by decide) (by decide) _) (fun a h1 h2 => F a (by omega) (by omega) (by omega)), z3.mv (g 142 (by decide) (by decide) _) (g 154 (by decide) (by decide) _) (fun k _ => g 153 (by decide) (by decide) _) (fun a h1 h2 => F a (by omega) (by omega) (by omega)), z4.mv (g 143 (by decide) (by decide) _) (g 150 (by decide) (by decide) _) (fun j _ => ⟨g 144 (by decide) (by decide) _, g 155 (by decide) (by decide) _⟩)⟩
theorem Ag.go {fc fr : Sg → Option (Int32 × Sg)} (h : Ag fc fr) : Go fc fr := by
  intro σ ⟨⟨n, t, c, y1, y2, y3⟩, z1, z2, z3, z4⟩
  obtain ⟨r, σ1, w', n', t', c', x1, x2, x3, x4, x5, x6⟩ := h n t c σ (σ 151) y1 y2 y3
  have e1 : σ1 151 = σ 151 := x6 151 (by omega)
  have e : σ1 = rb σ1 (σ 151) := by rw [← e1]; exact (rb_self σ1).symm
  have G : ∀ a, 36 ≤ a → a ≠ 151 → rb σ1 w' a = σ a := fun a h1 h2 => by rw [rb_o _ _ h2]; exact x6 a (by omega)
  have g : ∀ a, 36 ≤ a → a ≠ 151 → ∀ k, rb σ1 w' a k = σ a k := fun a h1 h2 k => by rw [G a h1 h2]
  refine ⟨r, σ1, rb σ1 w', x1, by rw [e, rb_rb]; exact x2 σ1, ⟨n', t', c', ?_, by rw [rb_151]; exact x4, x5⟩, z1.F (fun a h1 h2 => G a (by omega) (by omega)), z2.mv (g 142 (by decide) (by decide) _) (g 154 (by decide) (by decide) _) (fun k _ => g 153 (by decide) (by decide) _) (fun a h1 h2 => G a (by omega) (by omega)), z3.mv (g 142 (by decide) (by decide) _) (g 154 (by decide) (by decide) _) (fun k _ => g 153 (by decide) (by decide) _) (fun a h1 h2 => G a (by omega) (by omega)), z4.mv (g 143 (by decide) (by decide) _) (g 150 (by decide) (by decide) _) (fun j _ => ⟨g 144 (by decide) (by decide) _, g 155 (by decide) (by decide) _⟩)⟩
  rw [rb_151]
  exact x3.F x4.1.1.1 (fun a h1 h2 => rb_o _ _ (by omega))
theorem go_same {fc fr : Sg → Option (Int32 × Sg)} {σ : Sg} (h : INV σ) (r : Int32) (h1 : fc σ = some (r, σ)) (h2 : fr σ = some (r, σ)) : ∃ r σ1 σ2, fc σ = some (r, σ1) ∧ fr σ1 = some (r, σ2) ∧ INV σ2 := ⟨r, σ, σ, h1, h2, h⟩
theorem go_state (a0 : Int32) : Go (f_X4_state_0 a0) (f_X5_state_0 a0) := by
  intro σ h
  obtain ⟨⟨n, t, c, y1, y2, y3⟩, z1, z2, z3, m, m1, m2, m3, m4⟩ := id h
  obtain ⟨r, r1, r2⟩ := st_s (b := σ) a0 y1 y2 (by rw [m2, m3])
  exact go_same h r r1 (by rw [rb_self] at r2; exact r2)
theorem go_task (a0 a1 : Int32) : Go (f_X4_task_0 a0 a1) (f_X5_task_0 a0 a1) := by
  intro σ h
  obtain ⟨⟨n, t, c, y1, y2, y3⟩, -⟩ := id h
  obtain ⟨r, r1, r2⟩ := ta_s a0 a1 σ y1 y2
  exact go_same h r r1 (by rw [rb_self] at r2; exact r2)
theorem go_record (a0 a1 : Int32) : Go (f_X4_record_0 a0 a1) (f_X5_record_0 a0 a1) := by
  intro σ h
  obtain ⟨⟨n, t, c, y1, y2, y3⟩, -⟩ := id h
  obtain ⟨r, r1, r2⟩ := re_s a0 a1 σ y1 y2 (by omega)
  exact go_same h r r1 (by rw [rb_self] at r2; exact r2)
theorem go_wipe : Go f_X4_wipe_0 f_X5_wipe_0 := by
  intro σ ⟨⟨n, t, c, y1, y2, y3⟩, z1, z2, z3, m, m1, m2, m3, m4⟩
  have G : ∀ a, a ≠ 143 → a ≠ 150 → st (st σ 143 1 0) 150 5 0 a = σ a := fun a h1 h2 => by rw [st_o a h2, st_o a h1]
  have g : ∀ a, a ≠ 143 → a ≠ 150 → ∀ k, st (st σ 143 1 0) 150 5 0 a k = σ a k := fun a h1 h2 k => by rw [G a h1 h2]
  refine ⟨nI m, st σ 143 1 0, st (st σ 143 1 0) 150 5 0, by rw [f_X4_wipe_0, wb_eq, m2], ?_, ⟨n, t, c, ?_, ?_, y3⟩, z1.F (fun a h1 h2 => G a (by omega) (by omega)), z2.mv (g 142 (by decide) (by decide) _) (g 154 (by decide) (by decide) _) (fun k _ => g 153 (by decide) (by decide) _) (fun a h1 h2 => G a (by omega) (by omega)), z3.mv (g 142 (by decide) (by decide) _) (g 154 (by decide) (by decide) _) (fun k _ => g 153 (by decide) (by decide) _) (fun a h1 h2 => G a (by omega) (by omega)), 0, by decide, ?_, ?_, fun j hj => by omega⟩
  · rw [f_X5_wipe_0, wb_eq, st_o 150 (by decide), m3]
  · rw [G 151 (by decide) (by decide)]; exact y1.F y2.1.1.1 (fun a h1 h2 => G a (by omega) (by omega))
  · rw [G 151 (by decide) (by decide)]; exact y2
  · simp [st_r, nI_0]
  · simp [st_r, nI_0]
/-- laid aside, and back -/
def mg (i : Nat) (a b : Vec) : Vec := fun k => if i ≤ k ∧ k < 255 then a k else b k
theorem mg_s {i : Nat} (hi : i < 255) (a b : Vec) : mg (i + 1) a (upd b i (a i)) = mg i a b := by
  funext k
  simp only [mg, upd_ap]
  by_cases h : k = i
  · subst h; rw [if_neg (by omega), if_pos rfl, if_pos ⟨Nat.le_refl _, hi⟩]
  · by_cases g : i + 1 ≤ k ∧ k < 255
    · rw [if_pos g, if_pos ⟨by omega, g.2⟩]
    · rw [if_neg g, if_neg h, if_neg (by omega)]
theorem mg_e (a b : Vec) : mg 255 a b = b := by funext k; simp only [mg]; rw [if_neg (by omega)]
theorem mg_0 (a b : Vec) {k : Nat} (h : k < 255) : mg 0 a b k = a k := if_pos ⟨Nat.zero_le _, h⟩
theorem sr_self (σ : Sg) (q : Nat) : sr σ q (σ q) = σ := by funext a; by_cases h : a = q <;> simp [sr, h]
theorem sr_st (σ : Sg) (q k : Nat) (v : Int32) : st σ q k v = sr σ q (upd (σ q) k v) := by
  funext a b; by_cases h : a = q <;> simp [sr, st, upd, h]
theorem sr_sr (σ : Sg) (q : Nat) (f g : Vec) : sr (sr σ q f) q g = sr σ q g := by
  funext a; by_cases h : a = q <;> simp [sr, h]
theorem sr_q (σ : Sg) (q : Nat) (f : Vec) : sr σ q f q = f := by simp [sr]
theorem pa_l : ∀ (d i f : Nat) (σ : Sg), i + d = 255 → d < f → f_X5_putAside_2 f (nI i) σ = some (0, sr σ 152 (mg i (σ 151) (σ 152)))
  | 0, i, f, σ, h, hf => by
    obtain ⟨rfl, g, rfl⟩ := loop0 h hf
    rw [f_X5_putAside_2, if_pos (show (255 : Int32) ≤ nI 255 by decide), mg_e, sr_self]
  | d + 1, i, f + 1, σ, h, hf => by
    have hcl : (nI i).toNatClampNeg = i := nI_clamp (by omega)
    rw [f_X5_putAside_2, if_neg (by rw [show (255 : Int32) = nI 255 from rfl]; exact nI_ge (by omega) (by decide)), hcl, if_neg (inb2 (by omega) (by decide)), if_neg (inb2 (by omega) (by decide)), wb_eq, nI_1, pa_l d (i + 1) f _ (by omega) (by omega), sr_st, sr_sr, sr_o 151 (by decide), sr_q, mg_s (by omega)]
theorem pb_l : ∀ (d i f : Nat) (σ : Sg), i + d = 255 → d < f → f_X5_putBack_2 f (nI i) σ = some (0, sr σ 151 (mg i (σ 152) (σ 151)))
  | 0, i, f, σ, h, hf => by
    obtain ⟨rfl, g, rfl⟩ := loop0 h hf
    rw [f_X5_putBack_2, if_pos (show (255 : Int32) ≤ nI 255 by decide), mg_e, sr_self]
  | d + 1, i, f + 1, σ, h, hf => by
    have hcl : (nI i).toNatClampNeg = i := nI_clamp (by omega)
    rw [f_X5_putBack_2, if_neg (by rw [show (255 : Int32) = nI 255 from rfl]; exact nI_ge (by omega) (by decide)), hcl, if_neg (inb2 (by omega) (by decide)), if_neg (inb2 (by omega) (by decide)), wb_eq, nI_1, pb_l d (i + 1) f _ (by omega) (by omega), sr_st, sr_sr, sr_o 152 (by decide), sr_q, mg_s (by omega)]
def asd (σ : Sg) : Sg := sr σ 152 (mg 0 (σ 151) (σ 152))
theorem pa_s (σ : Sg) : f_X5_putAside_0 σ = some (0, asd σ) := pa_l 255 0 FU σ (by decide) (by unfold FU; omega)
theorem pb_s (b : Sg) (v : Vec) : f_X5_putBack_0 (rb b v) = some (0, rb b (mg 0 (b 152) v)) := by
  rw [show f_X5_putBack_0 (rb b v) = f_X5_putBack_2 FU (nI 0) (rb b v) from rfl, pb_l 255 0 FU _ (by decide) (by unfold FU; omega), rb_151, rb_o _ _ (by decide)]
  exact congrArg (fun z => some ((0 : Int32), z)) (sr_sr b 151 v _)
theorem asd_rb (σ : Sg) : asd σ = rb (asd σ) (σ 151) := by
  rw [show σ 151 = asd σ 151 from (sr_o 151 (by decide)).symm]; exact (rb_self _).symm
theorem asd_152 (σ : Sg) {k : Nat} (h : k < 255) : asd σ 152 k = σ 151 k := by rw [asd, sr_q, mg_0 _ _ h]
theorem asd_o (σ : Sg) {a : Nat} (h : a ≠ 152) : asd σ a = σ a := sr_o a h
theorem BS.TBq {q n : Nat} {σ : Sg} {w : Vec} (h : BS q n σ w) : TBq q σ := h.2.2.2.2
theorem go_forecast (a0 : Int32) : Go (f_X4_forecast_0 a0) (f_X5_forecast_0 a0) := by
  intro σ h
  obtain ⟨⟨n, t, c, y1, y2, y3⟩, z1, z2, z3, z4⟩ := id h
  by_cases h0 : win a0 1 5000 = 0
  · exact go_same h (-2) (by rw [f_X4_forecast_0, win_c, cb_some, if_pos h0]) (by rw [f_X5_forecast_0, win_r, cb_some, if_pos h0])
  obtain ⟨M, -, hM, rfl⟩ := win_n (lo := 1) (hi := 5000) (by decide) (by decide) h0
  obtain ⟨s1, x1, x2, x3⟩ := bec (q := 36) (o := 1) y2.1.1.1 (Or.inr (by decide)) y1 y2.1.1.2.1 z1
  obtain ⟨s2, t', c', u1, u2, u3, u4, u5⟩ := ctr_s (M := M) (by omega) x2 y2 (by omega)
  have e : ∀ a, (a < 36 ∨ 71 ≤ a) → s2 a = σ a := fun a ha => by rw [u3 a (by omega), x3 a (by omega)]
  have e151 : s2 151 = σ 151 := e 151 (by decide)
  refine ⟨_, s2, rb (asd s2) (mg 0 (asd s2 152) (trL n M 1 (σ 151)).2), by rw [f_X4_forecast_0, win_c, cb_some, if_neg h0, x1, cb_some, u1, cb_some], ?_, ?_⟩
  · rw [f_X5_forecast_0, win_r, cb_some, if_neg h0, pa_s, cb_some, asd_rb, e151, rtr_s (by omega) _ y2 (by omega), cb_some, pb_s, cb_some, ← e151, ← asd_rb]
  · refine h.mv (fun a h1 h2 h3 => ?_) ?_ (fun k hk => ?_)
    · rw [rb_o _ _ h2, asd_o _ h3, e a h1]
    · exact u2.TBq.F (fun a h1 h2 => by rw [rb_o _ _ (by omega), asd_o _ (by omega)])
    · rw [rb_151, mg_0 _ _ hk, asd_152 _ hk, e151]
