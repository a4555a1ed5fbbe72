/-! THE LAW's set-up: cells, rules, tasks, faults -/
theorem cell_x {D : SD} (hD : D.1 ≤ 260) {X M : Int32} (k m : Nat) (hX : X = nI k) (hM : M = nI m) (hk : k < 1000) (h1 : 1 ≤ m) (h2 : m ≤ 1000) : ∃ v, v < m ∧ ∀ σ, f_L_cell_0 D X M σ = some (nI v, σ) := by
  subst hX; subst hM
  have c28 : ∀ (a1 a2 : Int32) (j : Nat), j < 2 ^ 31 → ∀ σ, f_L_cell_28 D a1 a2 (nI m) (nI j) σ = some (nI (j % m), σ) := fun a1 a2 j hj σ => by
    rw [f_L_cell_28, if_neg (nI_ne0 (by omega) (by omega)), pk_rem hj (by omega) (by omega)]
  by_cases hL : D.1 = 0
  · refine ⟨(k * 37 + 5) % m, Nat.mod_lt _ (by omega), fun σ => ?_⟩
    have e : nI k * 37 + 5 = nI (k * 37 + 5) := by rw [show (37 : Int32) = nI 37 from rfl, show (5 : Int32) = nI 5 from rfl, pk_mul, nI_add]
    rw [f_L_cell_0, hL, if_pos (by decide), e, c28 _ _ _ (by omega)]
  · have eL : Int32.ofNat D.1 = nI D.1 := rfl
    have hLp : 0 < D.1 := by omega
    have hlt : k % D.1 < D.1 := Nat.mod_lt _ hLp
    obtain ⟨j, hj, ej⟩ := pk_andE ((D.2 (k % D.1)) >>> ((nI k - nI k / 7 * 7) &&& 31)) (m := 4194303) 22 (by decide)
    refine ⟨j % m, Nat.mod_lt _ (by omega), fun σ => ?_⟩
    rw [f_L_cell_0, eL, if_neg (nI_ne0 hLp (by omega)), if_neg (nI_ne0 hLp (by omega)), pk_rem (by omega) hLp (by omega), nI_clamp (by omega), if_neg (inb2 hlt (by omega)), ej, c28 _ _ _ (by omega)]
theorem win_ok {x lo hi : Nat} (h1 : lo ≤ x) (h2 : x ≤ hi) (h3 : hi < 2 ^ 31) : ¬ win (nI x) (nI lo) (nI hi) = 0 := by
  unfold win; rw [if_neg (nI_nlt h1 (by omega)), if_neg (nI_nlt h2 h3)]; decide
/-- while the law sets up: the board has N tasks, n of them are whole -/
def SU (N n : Nat) (σ : Sg) (w : Vec) : Prop := BS 1 N σ w ∧ VW N 0 0 w ∧ TBq 36 σ ∧ (w 9 = 0 ∧ w 10 = 0 ∧ w 11 = 0 ∧ w 12 = 30) ∧ (σ 150 3 = 30 ∧ ∀ k, k < 9 → k ≠ 3 → σ 150 k = 0) ∧ (∀ k, k < 30 → σ 151 k = 0) ∧ ∀ i, i < n → LF i σ w ∧ WD i w ∧ (w (tx i 16) = 0 ∧ w (tx i 17) = 0 ∧ w (tx i 19) = 0)
/-- a step of the board alone -/
theorem SU.step {N N' n : Nat} {σ σ' : Sg} {w w' : Vec} (S : SU N n σ w) (hB : BS 1 N' σ' w') (hV : VW N' 0 0 w') (F : Fq 1 σ σ') (e : w' 9 = w 9 ∧ w' 10 = w 10 ∧ w' 11 = w 11 ∧ w' 12 = w 12) (et : ∀ i d, i < n → d < 26 → (d = 1 ∨ 8 ≤ d) → w' (tx i d) = w (tx i d)) : SU N' n σ' w' := by
  obtain ⟨-, -, h3, ⟨h4a, h4b, h4c, h4d⟩, h5, h6, h7⟩ := S
  refine ⟨hB, hV, h3.F (fun a q1 q2 => F a (by omega)), ⟨by rw [e.1]; exact h4a, by rw [e.2.1]; exact h4b, by rw [e.2.2.1]; exact h4c, by rw [e.2.2.2]; exact h4d⟩, by rw [F 150 (by omega)]; exact h5, by rw [F 151 (by omega)]; exact h6, fun i hi => ?_⟩
  obtain ⟨k1, ⟨k2, k3⟩, k4, k5, k6⟩ := h7 i hi
  refine ⟨fun m j hm hj => ?_, ⟨?_, fun m hm => ?_⟩, ?_, ?_, ?_⟩
  · rw [F 152 (by omega), et i _ hi (by omega) (by omega)]; exact k1 m j hm hj
  · rw [et i 1 hi (by decide) (by decide)]; exact k2
  · rw [et i _ hi (by omega) (by omega)]; exact k3 m hm
  · rw [et i 16 hi (by decide) (by decide)]; exact k4
  · rw [et i 17 hi (by decide) (by decide)]; exact k5
  · rw [et i 19 hi (by decide) (by decide)]; exact k6
theorem su_rule {N n k : Nat} {σ : Sg} {w : Vec} (S : SU N n σ w) (hk : k < 8) {v : Int32} (hr : ¬ ruR (nI k) v = 0) : ∃ r σ', f_X4_rule_0 (nI k) v σ = some (r, σ') ∧ SU N n σ' (upd w k v) := by
  obtain ⟨σ', c, z1, z2, z3, z4⟩ := ck_rule S.1 S.2.1 hk hr
  refine ⟨w k, σ', z1, S.step z2 (ru_VW S.2.1 hk hr) z4 ⟨?_, ?_, ?_, ?_⟩ (fun i d _ _ _ => ?_)⟩
  · rw [upd_ap, if_neg (by omega)]
  · rw [upd_ap, if_neg (by omega)]
  · rw [upd_ap, if_neg (by omega)]
  · rw [upd_ap, if_neg (by omega)]
  · rw [upd_ap, if_neg (by simp only [tx]; omega)]
/-- the count of resets isn't touched -/
theorem vw_00 {N c : Nat} {w : Vec} (h : VW N 0 c w) (h18 : w 18 = 0) : VW N 0 0 w := by
  have h1 : w 18 = nI c := h.1.1.2.2.1
  have hc : c = 0 := by
    have h2 : nI c = nI 0 := by rw [← h1, h18]; rfl
    exact (nI_eq h.1.1.2.2.2.1 (by decide)).mp h2
  rw [hc] at h; exact h
theorem SU.w18 {N n : Nat} {σ : Sg} {w : Vec} (S : SU N n σ w) : w 18 = 0 := S.2.1.1.1.2.2.1
/-- the task under way: its duration stands, no fault yet from image m on -/
def NF (n m m1 : Nat) (σ : Sg) (w : Vec) : Prop := w (tx n 1) = nI m1 ∧ (w (tx n 16) = 0 ∧ w (tx n 17) = 0 ∧ w (tx n 19) = 0) ∧ (∀ m' j, m' < m → j < 3 → σ 152 (fx m' n j) = w (tx n (20 + 3 * m' + j))) ∧ (∀ m', m' < m → ∃ a, a ≤ 500 ∧ w (tx n (22 + 3 * m')) = nI a) ∧ ∀ d, 20 + 3 * m ≤ d → d < 26 → w (tx n d) = 0
theorem su_add {n m0 m1 : Nat} {σ : Sg} {w : Vec} (S : SU n n σ w) (hn : n < 6) (m01 : 1 ≤ m0) (m02 : m0 ≤ 200) (m11 : 1 ≤ m1) (m12 : m1 ≤ 200) : ∃ r σ' w', f_X4_addTask_0 (nI m0) (nI m1) σ = some (r, σ') ∧ SU (n + 1) n σ' w' ∧ NF n 0 m1 σ' w' := by
  obtain ⟨σ', c, z1, z2, z3, z4⟩ := ck_add S.1 S.2.1 hn m01 m02 m11 m12
  have hz : ∀ d, d < 26 → w (tx n d) = 0 := fun d hd => S.2.1.2.2.2.2.2.2.2 n d (Nat.le_refl n) hn hd
  have ek : ∀ k, k < 17 → adV n (nI m0) (nI m1) w k = w k := fun k hk => ad_k n _ _ w (by omega) (fun c hc => by simp only [tx]; omega)
  have e18 : adV n (nI m0) (nI m1) w 18 = 0 := by rw [ad_k n _ _ w (by decide) (fun c hc => by simp only [tx]; omega)]; exact S.w18
  have et : ∀ d, d < 26 → 8 ≤ d → adV n (nI m0) (nI m1) w (tx n d) = 0 := fun d hd h8 => by
    rw [ad_t n _ _ hz hd, if_neg (by omega), if_neg (by omega), if_neg (by omega)]
  refine ⟨_, σ', _, z1, S.step z2 (vw_00 z3 e18) z4 ⟨ek 9 (by decide), ek 10 (by decide), ek 11 (by decide), ek 12 (by decide)⟩ (fun i d hi hd _ => ad_k n _ _ w (by simp only [tx]; omega) (fun c hc => by simp only [tx]; omega)), ?_, ⟨et 16 (by decide) (by decide), et 17 (by decide) (by decide), et 19 (by decide) (by decide)⟩, fun m' j hm _ => absurd hm (by omega), fun m' hm => absurd hm (by omega), fun d h1 h2 => et d h2 (by omega)⟩
  rw [ad_t n _ _ hz (by decide)]; rfl
theorem su_set {n k m1 : Nat} {σ : Sg} {w : Vec} (S : SU (n + 1) n σ w) (X : NF n 0 m1 σ w) (hk : k < 8) (hk1 : k ≠ 1) {a : Int32} (hs : ¬ seR (nI k) a = 0) : ∃ r σ' w', f_X4_set_0 (nI n) (nI k) a σ = some (r, σ') ∧ SU (n + 1) n σ' w' ∧ NF n 0 m1 σ' w' := by
  obtain ⟨σ', c, z1, z2, z3, z4⟩ := ck_set S.1 S.2.1 (show n < n + 1 by omega) hk hs
  have ek : ∀ j, j < 19 → upd w (tx n k) a j = w j := fun j hj => by rw [upd_ap, if_neg (by simp only [tx]; omega)]
  have et : ∀ d, d ≠ k → upd w (tx n k) a (tx n d) = w (tx n d) := fun d hd => by rw [upd_ap, if_neg (by rw [tx_same]; exact hd)]
  obtain ⟨x1, ⟨x2, x3, x4⟩, -, -, x6⟩ := X
  refine ⟨_, σ', _, z1, S.step z2 (vw_00 z3 (by rw [ek 18 (by decide)]; exact S.w18)) z4 ⟨ek 9 (by decide), ek 10 (by decide), ek 11 (by decide), ek 12 (by decide)⟩ (fun i d hi hd _ => by rw [upd_ap, if_neg (by simp only [tx]; omega)]), ?_, ⟨?_, ?_, ?_⟩, fun m' j hm _ => absurd hm (by omega), fun m' hm => absurd hm (by omega), fun d h1 h2 => ?_⟩
  · rw [et 1 (fun q => hk1 q.symm)]; exact x1
  · rw [et 16 (by omega)]; exact x2
  · rw [et 17 (by omega)]; exact x3
  · rw [et 19 (by omega)]; exact x4
  · rw [et d (by omega)]; exact x6 d h1 h2
/-- the law's own writes of a fault -/
theorem SU.fw {N n m j : Nat} {σ : Sg} {w : Vec} (S : SU N n σ w) (hN : N ≤ 6) (hn : n < 3) (hm : m < 2) (hj : j < 3) (v : Int32) : SU N n (st σ 152 (fx m n j) v) w := by
  obtain ⟨h1, h2, h3, h4, h5, h6, h7⟩ := S
  refine ⟨h1.L hN (fun a ha => st_o a (by omega)), h2, h3.F (fun a q1 q2 => st_o a (by omega)), h4, by rw [st_o _ (by decide)]; exact h5, by rw [st_o _ (by decide)]; exact h6, fun i hi => ?_⟩
  obtain ⟨k1, k2⟩ := h7 i hi
  refine ⟨fun m' j' hm' hj' => ?_, k2⟩
  rw [st_r, if_neg (by simp only [fx]; omega)]; exact k1 m' j' hm' hj'
/-- a fault goes in -/
theorem su_fault {D : SD} (hD : D.1 ≤ 260) {n m m1 f : Nat} {σ : Sg} {w : Vec} (S : SU (n + 1) n σ w) (X : NF n m m1 σ w) (hn : n < 3) (hm : m < 2) (nn x2 : Int32) (rec : Int32 → Int32 → Sg → Option (Int32 × Sg)) : ∃ σ' w', f_L_law_319 D nn rec (f + 1) x2 (nI n) (nI m) σ = f_L_law_319 D nn rec f x2 (nI n) (nI (m + 1)) σ' ∧ SU (n + 1) n σ' w' ∧ NF n (m + 1) m1 σ' w' := by
  have c0 := fx_cl hm hn (j := 0) (by decide)
  have c1 := fx_cl hm hn (j := 1) (by decide)
  have c2 := fx_cl hm hn (j := 2) (by decide)
  have g0 := fx_in hm hn (j := 0) (by decide)
  have g1 := fx_in hm hn (j := 1) (by decide)
  have g2 := fx_in hm hn (j := 2) (by decide)
  have l0 := fx_lt hm hn (j := 0) (by decide)
  have ad : ∀ d, nI (fx m n 0) + nI d = nI (fx m n 0 + d) := fun d => nI_add _ d
  obtain ⟨v0, hv0, e0⟩ := cell_x hD (X := nI (fx m n 0) + 34) (M := 3) (fx m n 0 + 34) 3 (ad 34) rfl (by omega) (by decide) (by decide)
  obtain ⟨v1, hv1, e1⟩ := cell_x hD (X := nI (fx m n 0) + 35) (M := 6) (fx m n 0 + 35) 6 (ad 35) rfl (by omega) (by decide) (by decide)
  obtain ⟨v2, hv2, e2⟩ := cell_x hD (X := nI (fx m n 0) + 36) (M := 60) (fx m n 0 + 36) 60 (ad 36) rfl (by omega) (by decide) (by decide)
  obtain ⟨v3, hv3, e3⟩ := cell_x hD (X := nI (fx m n 0) + 37) (M := 15) (fx m n 0 + 37) 15 (ad 37) rfl (by omega) (by decide) (by decide)
  obtain ⟨x1, ⟨x2', x3, x4⟩, x5, x6, x7⟩ := X
  have main : ∀ kd : Nat, kd ≤ 5 → ∃ σ' w', f_L_law_369 D nn rec (f_L_law_319 D nn rec f) x2 (nI n) (nI m) (nI (fx m n 0)) (nI kd) (nI (fx m n 0)) σ = f_L_law_319 D nn rec f x2 (nI n) (nI (m + 1)) σ' ∧ SU (n + 1) n σ' w' ∧ NF n (m + 1) m1 σ' w' := by
    intro kd hkd
    generalize hσ : st (st (st σ 152 (fx m n 0) (nI kd)) 152 (fx m n 1) (nI v2)) 152 (fx m n 2) (nI v3) = σ3
    have S3 : SU (n + 1) n σ3 w := by rw [← hσ]; exact ((S.fw (by omega) hn hm (by decide) _).fw (by omega) hn hm (by decide) _).fw (by omega) hn hm (by decide) _
    have r0 : σ3 152 (fx m n 0) = nI kd := by rw [← hσ]; simp [st_r, fx]
    have r1 : σ3 152 (fx m n 1) = nI v2 := by rw [← hσ]; simp [st_r, fx]
    have r2 : σ3 152 (fx m n 2) = nI v3 := by rw [← hσ]; simp [st_r, fx]
    have ro : ∀ m' j, m' < m → j < 3 → σ3 152 (fx m' n j) = σ 152 (fx m' n j) := fun m' j hm' hj => by
      rw [← hσ, st_r, if_neg (by simp only [fx]; omega), st_r, if_neg (by simp only [fx]; omega), st_r, if_neg (by simp only [fx]; omega)]
    obtain ⟨σ', c, z1, z2, z3, z4⟩ := ck_fault S3.1 S3.2.1 (show n < n + 1 by omega) hm hkd (show v2 ≤ 5000 by omega) (show v3 ≤ 500 by omega)
    rw [x7 (20 + 3 * m) (Nat.le_refl _) (by omega)] at z1
    have ek : ∀ k, (∀ d, k ≠ tx n d) → lfV m n (nI kd) (nI v2) (nI v3) w k = w k := fun k hk => by
      rw [lfV, upd_ap, if_neg (hk _), upd_ap, if_neg (hk _), upd_ap, if_neg (hk _)]
    have en : ∀ d, lfV m n (nI kd) (nI v2) (nI v3) w (tx n d) = if d = 22 + 3 * m then nI v3 else if d = 21 + 3 * m then nI v2 else if d = 20 + 3 * m then nI kd else w (tx n d) := fun d => by
      simp only [lfV, upd_ap, tx_same]
    have eq : ∀ d, (d < 20 + 3 * m ∨ 23 + 3 * m ≤ d) → lfV m n (nI kd) (nI v2) (nI v3) w (tx n d) = w (tx n d) := fun d hd => by
      rw [en, if_neg (by omega), if_neg (by omega), if_neg (by omega)]
    have kn : ∀ k, k < 19 → ∀ d, k ≠ tx n d := fun k hk d => by simp only [tx]; omega
    refine ⟨σ', lfV m n (nI kd) (nI v2) (nI v3) w, ?_, S3.step z2 (vw_00 z3 (by rw [ek 18 (kn 18 (by decide))]; exact S.w18)) z4 ⟨ek 9 (kn 9 (by decide)), ek 10 (kn 10 (by decide)), ek 11 (kn 11 (by decide)), ek 12 (kn 12 (by decide))⟩ (fun i d hi hd _ => ?_), ?_, ⟨?_, ?_, ?_⟩, fun m' j hm' hj => ?_, fun m' hm' => ?_, fun d h1 h2 => ?_⟩
    · rw [f_L_law_369, c0, if_neg g0, wb_eq, e2, cb_some, fx_1, c1, if_neg g1, wb_eq, e3, cb_some, fx_2, c2, if_neg g2, wb_eq, hσ, if_neg g0, if_neg g1, if_neg g2, r0, r1, r2, z1, cb_some, if_pos rfl, nI_1]
    · rw [lfV, upd_ap, if_neg (by simp only [tx]; omega), upd_ap, if_neg (by simp only [tx]; omega), upd_ap, if_neg (by simp only [tx]; omega)]
    · rw [eq 1 (by omega)]; exact x1
    · rw [eq 16 (by omega)]; exact x2'
    · rw [eq 17 (by omega)]; exact x3
    · rw [eq 19 (by omega)]; exact x4
    · rw [z4 152 (by omega)]
      by_cases q : m' = m
      · subst q
        rw [en]
        have : j = 0 ∨ j = 1 ∨ j = 2 := by omega
        rcases this with rfl | rfl | rfl
        · rw [r0, if_neg (by omega), if_neg (by omega), if_pos (by omega)]
        · rw [r1, if_neg (by omega), if_pos (by omega)]
        · rw [r2, if_pos (by omega)]
      · rw [ro m' j (by omega) hj, eq _ (by omega)]; exact x5 m' j (by omega) hj
    · by_cases q : m' = m
      · subst q; exact ⟨v3, by omega, by rw [en, if_pos rfl]⟩
      · rw [eq _ (by omega)]; exact x6 m' (by omega)
    · rw [eq d (by omega)]; exact x7 d (by omega) h2
  have h2m : ¬ (2 : Int32) ≤ nI m := by rw [show (2 : Int32) = nI 2 from rfl]; exact nI_ge hm (by decide)
  rw [f_L_law_319, if_neg h2m, fx_0, e0, cb_some]
  by_cases q : nI v0 = 0
  · rw [if_pos q, e1, cb_some]; exact main v1 (by omega)
  · rw [if_neg q]; exact main 0 (by decide)
