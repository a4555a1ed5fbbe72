abbrev rm_L_law : Room := room_1
def f_L_law_577 (D : SD) (n : Int32)  (s0 : Int32) (σ : Sg) : Option (Int32 × Sg) :=
some (s0, σ)
set_option maxHeartbeats 4000000 in
set_option maxRecDepth 100000 in
theorem w_L_law_577 {p : Program} {l : Launch} {e : Env} {s : State} {m : MethodId} {args : Array Value} {below : List Frame} {meth : Method} {c : Code} {Γ : GG} {res : Int32 × Sg} {cells slots : Nat} {Q : State → Prop} (M : MX RL cL_law 10 (some .boolean) p s m args meth c) (K : KK Γ s s.heap) (hz : cells ≤ room_1.cells ∧ slots ≤ room_1.slots) (hR : RT Γ p l e s m args below meth c cells slots Q res) {D : SD} (hD : gX Γ = D) (n : Int32) (s0 : Int32) (σ : Sg) (H : Heap) (locs : List Loc) (ls : Array Slot)  (hB : Bd Γ σ s H locs) (hl : lv_has ls 10 []) (hr : f_L_law_577 D n  s0 σ = some res) : WLw cells slots Q Γ rm_L_law p l e s m args below meth c H locs res (F0 m 577 ls [.int s0]) := by
  unfold f_L_law_577 at hr
  exact hR _ _ _ _ _ _ (Option.some.inj hr) dL_law_577 hB
def f_L_law_557 (D : SD) (n : Int32)   (σ : Sg) : Option (Int32 × Sg) :=
some (0, σ)
set_option maxHeartbeats 4000000 in
set_option maxRecDepth 100000 in
theorem w_L_law_557 {p : Program} {l : Launch} {e : Env} {s : State} {m : MethodId} {args : Array Value} {below : List Frame} {meth : Method} {c : Code} {Γ : GG} {res : Int32 × Sg} {cells slots : Nat} {Q : State → Prop} (M : MX RL cL_law 10 (some .boolean) p s m args meth c) (K : KK Γ s s.heap) (hz : cells ≤ room_1.cells ∧ slots ≤ room_1.slots) (hR : RT Γ p l e s m args below meth c cells slots Q res) {D : SD} (hD : gX Γ = D) (n : Int32)  (σ : Sg) (H : Heap) (locs : List Loc) (ls : Array Slot)  (hB : Bd Γ σ s H locs) (hl : lv_has ls 10 []) (hr : f_L_law_557 D n   σ = some res) : WLw cells slots Q Γ rm_L_law p l e s m args below meth c H locs res (F0 m 557 ls []) := by
  unfold f_L_law_557 at hr
  refine lv_iconst (v := 0) M.1 M.2.1 dL_law_557 (by decide) ?_
  exact hR _ _ _ _ _ _ (Option.some.inj hr) dL_law_558 hB
def f_L_law_532 (D : SD) (n : Int32) (rec_490 : Int32 → Int32 → Int32 → Int32 → Sg → Option (Int32 × Sg)) (x2 : Int32) (x6 : Int32) (x8 : Int32) (s0 : Int32) (σ : Sg) : Option (Int32 × Sg) :=
cb (f_X4_run_0 1 σ) fun v_149 σ_150 =>
if v_149 = x8 + 1 then
cb (f_L_isTold_0 x2 σ_150) fun v_153 σ_154 =>
if v_153 = 0 then
f_L_law_557 D n   σ_154
else
rec_490 x2 x6 s0 (x8 + 1) σ_154
else
f_L_law_557 D n   σ_150
set_option maxHeartbeats 4000000 in
set_option maxRecDepth 100000 in
theorem w_L_law_532 {p : Program} {l : Launch} {e : Env} {s : State} {m : MethodId} {args : Array Value} {below : List Frame} {meth : Method} {c : Code} {Γ : GG} {res : Int32 × Sg} {cells slots : Nat} {Q : State → Prop} (M : MX RL cL_law 10 (some .boolean) p s m args meth c) (K : KK Γ s s.heap) (hz : cells ≤ room_1.cells ∧ slots ≤ room_1.slots) (hR : RT Γ p l e s m args below meth c cells slots Q res) {D : SD} (hD : gX Γ = D) (n : Int32) (rec_490 : Int32 → Int32 → Int32 → Int32 → Sg → Option (Int32 × Sg)) (ih_490 : ∀ (x2 : Int32) (x6 : Int32) (x7 : Int32) (x8 : Int32) (σ : Sg) (H : Heap) (locs : List Loc) (ls : Array Slot) , Bd Γ σ s H locs → lv_has ls 10 [(1, .ref (Γ.1 0)), (2, .int x2), (3, .ref (Γ.1 150)), (4, .ref (Γ.1 151)), (5, .ref (Γ.1 152)), (6, .int x6), (7, .int x7), (8, .int x8)] → rec_490 x2 x6 x7 x8 σ = some res → WLw cells slots Q Γ rm_L_law p l e s m args below meth c H locs res (F0 m 490 ls [])) (x2 : Int32) (x6 : Int32) (x8 : Int32) (s0 : Int32) (σ : Sg) (H : Heap) (locs : List Loc) (ls : Array Slot)  (hB : Bd Γ σ s H locs) (hl : lv_has ls 10 [(1, .ref (Γ.1 0)), (2, .int x2), (3, .ref (Γ.1 150)), (4, .ref (Γ.1 151)), (5, .ref (Γ.1 152)), (6, .int x6), (8, .int x8)]) (hr : f_L_law_532 D n rec_490 x2 x6 x8 s0 σ = some res) : WLw cells slots Q Γ rm_L_law p l e s m args below meth c H locs res (F0 m 532 ls [.int s0]) := by
  unfold f_L_law_532 at hr
  refine lv_istore (lv' := [(7, .int s0), (1, .ref (Γ.1 0)), (2, .int x2), (3, .ref (Γ.1 150)), (4, .ref (Γ.1 151)), (5, .ref (Γ.1 152)), (6, .int x6), (8, .int x8)]) M.1 M.2.1 dL_law_532 hl (by decide) rfl (fun ls hl => ?_)
  refine lv_aload_n M.1 M.2.1 dL_law_534 rfl (lv_at hl 1 rfl) ?_
  refine lv_iconst (v := 1) M.1 M.2.1 dL_law_535 (by decide) ?_
  obtain ⟨v_149, σ_150, h_151, hr⟩ := cbd hr
  refine x_callI (x_runV M K hB hl.1 [.int 1] (rest := []) rfl (c_X4_run l Γ 1  σ (v_149, σ_150) h_151) cy_X4_run (x_recv K hB isK_0.2 (ent_4 isK_0.1) rfl) wd_120 ⟨rfl, rfl, Nat.le_of_ble_eq_true rfl, Nat.le_of_ble_eq_true rfl⟩ (Nat.le_of_ble_eq_true rfl) hz dL_law_536) hB (fun H locs hB => ?_)
  replace hB : Bd Γ σ_150 s H locs := hB
  refine lv_iload M.1 M.2.1 dL_law_539 (lv_at hl 7 rfl) ?_
  refine lv_iconst (v := 1) M.1 M.2.1 dL_law_541 (by decide) ?_
  refine lv_iadd M.1 M.2.1 dL_law_542 ?_
  refine lv_icmp_ne (tgt := 557) M.1 M.2.1 dL_law_543 (by decide) (fun c_152 => ?_) (fun c_152 => ?_)
  · rw [if_neg c_152] at hr
    exact w_L_law_557 M K hz hR hD n   _ _ _ _  hB (lv_sub hl [] rfl) hr
  · rw [if_pos c_152] at hr
    refine lv_aload_n M.1 M.2.1 dL_law_546 rfl (lv_at hl 1 rfl) ?_
    refine lv_aload_n M.1 M.2.1 dL_law_547 rfl (lv_at hl 3 rfl) ?_
    refine lv_aload M.1 M.2.1 dL_law_548 (lv_at hl 4 rfl) ?_
    refine lv_iload_n M.1 M.2.1 dL_law_550 rfl (lv_at hl 2 rfl) ?_
    obtain ⟨v_153, σ_154, h_155, hr⟩ := cbd hr
    refine x_callI (x_runS M K hB hl.1 [.ref (Γ.1 0), .ref (Γ.1 150), .ref (Γ.1 151), .int x2] (rest := []) rfl (c_L_isTold l Γ x2  σ_150 (v_153, σ_154) h_155) cy_L_isTold wd_121 ⟨rfl, rfl, Nat.le_of_ble_eq_true rfl, Nat.le_of_ble_eq_true rfl⟩ (Nat.le_of_ble_eq_true rfl) hz dL_law_551) hB (fun H locs hB => ?_)
    replace hB : Bd Γ σ_154 s H locs := hB
    refine lv_if_ne (tgt := 559) M.1 M.2.1 dL_law_554 (by decide) (fun c_156 => ?_) (fun c_156 => ?_)
    · rw [if_neg c_156] at hr
      refine lv_iinc (v := x8 + 1) (lv' := [(8, .int (x8 + 1)), (7, .int s0), (1, .ref (Γ.1 0)), (2, .int x2), (3, .ref (Γ.1 150)), (4, .ref (Γ.1 151)), (5, .ref (Γ.1 152)), (6, .int x6)]) M.1 M.2.1 dL_law_559 hl (k := 7) rfl rfl (by decide) rfl (fun ls hl => ?_)
      refine lv_goto (tgt := 490) M.1 M.2.1 dL_law_562 (by decide) ?_
      exact ih_490 x2 x6 s0 (x8 + 1) _ _ _ _  hB (lv_sub hl [2, 3, 4, 5, 6, 7, 1, 0] rfl) hr
    · rw [if_pos c_156] at hr
      exact w_L_law_557 M K hz hR hD n   _ _ _ _  hB (lv_sub hl [] rfl) hr
def f_L_law_530 (D : SD) (n : Int32) (rec_490 : Int32 → Int32 → Int32 → Int32 → Sg → Option (Int32 × Sg)) (x2 : Int32) (x6 : Int32) (x7 : Int32) (x8 : Int32) (σ : Sg) : Option (Int32 × Sg) :=
f_L_law_532 D n rec_490 x2 x6 x8 x7 σ
set_option maxHeartbeats 4000000 in
set_option maxRecDepth 100000 in
theorem w_L_law_530 {p : Program} {l : Launch} {e : Env} {s : State} {m : MethodId} {args : Array Value} {below : List Frame} {meth : Method} {c : Code} {Γ : GG} {res : Int32 × Sg} {cells slots : Nat} {Q : State → Prop} (M : MX RL cL_law 10 (some .boolean) p s m args meth c) (K : KK Γ s s.heap) (hz : cells ≤ room_1.cells ∧ slots ≤ room_1.slots) (hR : RT Γ p l e s m args below meth c cells slots Q res) {D : SD} (hD : gX Γ = D) (n : Int32) (rec_490 : Int32 → Int32 → Int32 → Int32 → Sg → Option (Int32 × Sg)) (ih_490 : ∀ (x2 : Int32) (x6 : Int32) (x7 : Int32) (x8 : Int32) (σ : Sg) (H : Heap) (locs : List Loc) (ls : Array Slot) , Bd Γ σ s H locs → lv_has ls 10 [(1, .ref (Γ.1 0)), (2, .int x2), (3, .ref (Γ.1 150)), (4, .ref (Γ.1 151)), (5, .ref (Γ.1 152)), (6, .int x6), (7, .int x7), (8, .int x8)] → rec_490 x2 x6 x7 x8 σ = some res → WLw cells slots Q Γ rm_L_law p l e s m args below meth c H locs res (F0 m 490 ls [])) (x2 : Int32) (x6 : Int32) (x7 : Int32) (x8 : Int32) (σ : Sg) (H : Heap) (locs : List Loc) (ls : Array Slot)  (hB : Bd Γ σ s H locs) (hl : lv_has ls 10 [(1, .ref (Γ.1 0)), (2, .int x2), (3, .ref (Γ.1 150)), (4, .ref (Γ.1 151)), (5, .ref (Γ.1 152)), (6, .int x6), (7, .int x7), (8, .int x8)]) (hr : f_L_law_530 D n rec_490 x2 x6 x7 x8 σ = some res) : WLw cells slots Q Γ rm_L_law p l e s m args below meth c H locs res (F0 m 530 ls []) := by
  unfold f_L_law_530 at hr
  refine lv_iload M.1 M.2.1 dL_law_530 (lv_at hl 6 rfl) ?_
  exact w_L_law_532 M K hz hR hD n _ ih_490 x2 x6 x8 x7 _ _ _ _  hB (lv_sub hl [0, 1, 2, 3, 4, 5, 7] rfl) hr
def f_L_law_490 (D : SD) (n : Int32)  : Nat → Int32 → Int32 → Int32 → Int32 → Sg → Option (Int32 × Sg)
  | 0, _, _, _, _, _ => none
  | f + 1, x2, x6, x7, x8, σ => if 150 ≤ x8 then
if x6 = x7 then
f_L_law_577 D n  1 σ
else
f_L_law_577 D n  0 σ
else
cb (f_L_tick_0 x2 x8 σ) fun v_144 σ_145 =>
if 0 ≤ x7 then
f_L_law_530 D n (f_L_law_490 D n  f) x2 x6 x7 x8 σ_145
else
if σ_145 150 8 = 1 then
f_L_law_532 D n (f_L_law_490 D n  f) x2 x6 x8 (x8 + 1) σ_145
else
f_L_law_530 D n (f_L_law_490 D n  f) x2 x6 x7 x8 σ_145
set_option maxHeartbeats 4000000 in
set_option maxRecDepth 100000 in
theorem w_L_law_490 {p : Program} {l : Launch} {e : Env} {s : State} {m : MethodId} {args : Array Value} {below : List Frame} {meth : Method} {c : Code} {Γ : GG} {res : Int32 × Sg} {cells slots : Nat} {Q : State → Prop} (M : MX RL cL_law 10 (some .boolean) p s m args meth c) (K : KK Γ s s.heap) (hz : cells ≤ room_1.cells ∧ slots ≤ room_1.slots) (hR : RT Γ p l e s m args below meth c cells slots Q res) {D : SD} (hD : gX Γ = D) (n : Int32) : ∀ (f : Nat) (x2 : Int32) (x6 : Int32) (x7 : Int32) (x8 : Int32) (σ : Sg) (H : Heap) (locs : List Loc) (ls : Array Slot)  (hB : Bd Γ σ s H locs) (hl : lv_has ls 10 [(1, .ref (Γ.1 0)), (2, .int x2), (3, .ref (Γ.1 150)), (4, .ref (Γ.1 151)), (5, .ref (Γ.1 152)), (6, .int x6), (7, .int x7), (8, .int x8)]) (hr : f_L_law_490 D n  f x2 x6 x7 x8 σ = some res), WLw cells slots Q Γ rm_L_law p l e s m args below meth c H locs res (F0 m 490 ls []) := by
  intro f
  induction f with
  | zero => intros; rename_i hr; exact absurd hr (by rw [f_L_law_490]; exact fun h => by cases h)
  | succ f ih_490 =>
    intro x2 x6 x7 x8 σ H locs ls  hB hl hr
    rw [f_L_law_490] at hr
    refine lv_iload M.1 M.2.1 dL_law_490 (lv_at hl 7 rfl) ?_
    refine lv_sipush (v := 150) M.1 M.2.1 dL_law_492 (by decide) ?_
    refine lv_icmp_ge (tgt := 565) M.1 M.2.1 dL_law_495 (by decide) (fun c_142 => ?_) (fun c_142 => ?_)
    · rw [if_pos c_142] at hr
      refine lv_iload M.1 M.2.1 dL_law_565 (lv_at hl 5 rfl) ?_
      refine lv_iload M.1 M.2.1 dL_law_567 (lv_at hl 6 rfl) ?_
      refine lv_icmp_ne (tgt := 576) M.1 M.2.1 dL_law_569 (by decide) (fun c_143 => ?_) (fun c_143 => ?_)
      · rw [if_neg c_143] at hr
        refine lv_iconst (v := 0) M.1 M.2.1 dL_law_576 (by decide) ?_
        exact w_L_law_577 M K hz hR hD n  0 _ _ _ _  hB (lv_sub hl [] rfl) hr
      · rw [if_pos c_143] at hr
        refine lv_iconst (v := 1) M.1 M.2.1 dL_law_572 (by decide) ?_
        refine lv_goto (tgt := 577) M.1 M.2.1 dL_law_573 (by decide) ?_
        exact w_L_law_577 M K hz hR hD n  1 _ _ _ _  hB (lv_sub hl [] rfl) hr
    · rw [if_neg c_142] at hr
      refine lv_aload_n M.1 M.2.1 dL_law_498 rfl (lv_at hl 0 rfl) ?_
      refine lv_aload_n M.1 M.2.1 dL_law_499 rfl (lv_at hl 2 rfl) ?_
      refine lv_aload M.1 M.2.1 dL_law_500 (lv_at hl 3 rfl) ?_
      refine lv_aload M.1 M.2.1 dL_law_502 (lv_at hl 4 rfl) ?_
      refine lv_iload_n M.1 M.2.1 dL_law_504 rfl (lv_at hl 1 rfl) ?_
      refine lv_iload M.1 M.2.1 dL_law_505 (lv_at hl 7 rfl) ?_
      obtain ⟨v_144, σ_145, h_146, hr⟩ := cbd hr
      refine x_callV (x_runS M K hB hl.1 [.ref (Γ.1 0), .ref (Γ.1 150), .ref (Γ.1 151), .ref (Γ.1 152), .int x2, .int x8] (rest := []) rfl (c_L_tick l Γ x2 x8  σ (v_144, σ_145) h_146) cy_L_tick wd_119 ⟨rfl, rfl, Nat.le_of_ble_eq_true rfl, Nat.le_of_ble_eq_true rfl⟩ (Nat.le_of_ble_eq_true rfl) hz dL_law_507) hB (fun H locs hB => ?_)
      replace hB : Bd Γ σ_145 s H locs := hB
      refine lv_iload M.1 M.2.1 dL_law_510 (lv_at hl 6 rfl) ?_
      refine lv_if_ge (tgt := 530) M.1 M.2.1 dL_law_512 (by decide) (fun c_147 => ?_) (fun c_147 => ?_)
      · rw [if_pos c_147] at hr
        exact w_L_law_530 M K hz hR hD n _ ih_490 x2 x6 x7 x8 _ _ _ _  hB (lv_sub hl [0, 1, 2, 3, 4, 5, 6, 7] rfl) hr
      · rw [if_neg c_147] at hr
        refine lv_aload_n M.1 M.2.1 dL_law_515 rfl (lv_at hl 2 rfl) ?_
        refine lv_bipush (v := 8) M.1 M.2.1 dL_law_516 (by decide) ?_
        refine x_ialdL M K hB isA_150 (k := 8) (by decide) (by decide) dL_law_518 ?_
        refine lv_iconst (v := 1) M.1 M.2.1 dL_law_519 (by decide) ?_
        refine lv_icmp_ne (tgt := 530) M.1 M.2.1 dL_law_520 (by decide) (fun c_148 => ?_) (fun c_148 => ?_)
        · rw [if_neg c_148] at hr
          exact w_L_law_530 M K hz hR hD n _ ih_490 x2 x6 x7 x8 _ _ _ _  hB (lv_sub hl [0, 1, 2, 3, 4, 5, 6, 7] rfl) hr
        · rw [if_pos c_148] at hr
          refine lv_iload M.1 M.2.1 dL_law_523 (lv_at hl 7 rfl) ?_
          refine lv_iconst (v := 1) M.1 M.2.1 dL_law_525 (by decide) ?_
          refine lv_iadd M.1 M.2.1 dL_law_526 ?_
          refine lv_goto (tgt := 532) M.1 M.2.1 dL_law_527 (by decide) ?_
          exact w_L_law_532 M K hz hR hD n _ ih_490 x2 x6 x8 (x8 + 1) _ _ _ _  hB (lv_sub hl [0, 1, 2, 3, 4, 5, 7] rfl) hr
def f_L_law_474 (D : SD) (n : Int32)  (x2 : Int32) (σ : Sg) : Option (Int32 × Sg) :=
cb (f_X4_forecast_0 150 σ) fun v_139 σ_140 =>
f_L_law_490 D n  FU x2 v_139 (-6) 0 σ_140
set_option maxHeartbeats 4000000 in
set_option maxRecDepth 100000 in
theorem w_L_law_474 {p : Program} {l : Launch} {e : Env} {s : State} {m : MethodId} {args : Array Value} {below : List Frame} {meth : Method} {c : Code} {Γ : GG} {res : Int32 × Sg} {cells slots : Nat} {Q : State → Prop} (M : MX RL cL_law 10 (some .boolean) p s m args meth c) (K : KK Γ s s.heap) (hz : cells ≤ room_1.cells ∧ slots ≤ room_1.slots) (hR : RT Γ p l e s m args below meth c cells slots Q res) {D : SD} (hD : gX Γ = D) (n : Int32) (x2 : Int32) (σ : Sg) (H : Heap) (locs : List Loc) (ls : Array Slot)  (hB : Bd Γ σ s H locs) (hl : lv_has ls 10 [(1, .ref (Γ.1 0)), (2, .int x2), (3, .ref (Γ.1 150)), (4, .ref (Γ.1 151)), (5, .ref (Γ.1 152))]) (hr : f_L_law_474 D n  x2 σ = some res) : WLw cells slots Q Γ rm_L_law p l e s m args below meth c H locs res (F0 m 474 ls []) := by
  unfold f_L_law_474 at hr
  refine lv_aload_n M.1 M.2.1 dL_law_474 rfl (lv_at hl 0 rfl) ?_
  refine lv_sipush (v := 150) M.1 M.2.1 dL_law_475 (by decide) ?_
  obtain ⟨v_139, σ_140, h_141, hr⟩ := cbd hr
  refine x_callI (x_runV M K hB hl.1 [.int 150] (rest := []) rfl (c_X4_forecast l Γ 150  σ (v_139, σ_140) h_141) cy_X4_forecast (x_recv K hB isK_0.2 (ent_4 isK_0.1) rfl) wd_118 ⟨rfl, rfl, Nat.le_of_ble_eq_true rfl, Nat.le_of_ble_eq_true rfl⟩ (Nat.le_of_ble_eq_true rfl) hz dL_law_478) hB (fun H locs hB => ?_)
  replace hB : Bd Γ σ_140 s H locs := hB
  refine lv_istore (lv' := [(6, .int v_139), (1, .ref (Γ.1 0)), (2, .int x2), (3, .ref (Γ.1 150)), (4, .ref (Γ.1 151)), (5, .ref (Γ.1 152))]) M.1 M.2.1 dL_law_481 hl (by decide) rfl (fun ls hl => ?_)
  refine lv_bipush (v := (-6)) M.1 M.2.1 dL_law_483 (by decide) ?_
  refine lv_istore (lv' := [(7, .int (-6)), (6, .int v_139), (1, .ref (Γ.1 0)), (2, .int x2), (3, .ref (Γ.1 150)), (4, .ref (Γ.1 151)), (5, .ref (Γ.1 152))]) M.1 M.2.1 dL_law_485 hl (by decide) rfl (fun ls hl => ?_)
  refine lv_iconst (v := 0) M.1 M.2.1 dL_law_487 (by decide) ?_
  refine lv_istore (lv' := [(8, .int 0), (7, .int (-6)), (6, .int v_139), (1, .ref (Γ.1 0)), (2, .int x2), (3, .ref (Γ.1 150)), (4, .ref (Γ.1 151)), (5, .ref (Γ.1 152))]) M.1 M.2.1 dL_law_488 hl (by decide) rfl (fun ls hl => ?_)
  exact w_L_law_490 M K hz hR hD n  FU x2 v_139 (-6) 0 _ _ _ _  hB (lv_sub hl [3, 4, 5, 6, 7, 2, 1, 0] rfl) hr
def f_L_law_369 (D : SD) (n : Int32) (rec_160 : Int32 → Int32 → Sg → Option (Int32 × Sg)) (rec_319 : Int32 → Int32 → Int32 → Sg → Option (Int32 × Sg)) (x2 : Int32) (x6 : Int32) (x8 : Int32) (x9 : Int32) (s0 : Int32) (s1 : Int32) (σ : Sg) : Option (Int32 × Sg) :=
if s1 < 0 ∨ 18 ≤ s1.toNatClampNeg then none else
wb (st σ 152 (s1.toNatClampNeg) s0) fun σ_118 =>
cb (f_L_cell_0 D (x9 + 36) 60 σ_118) fun v_120 σ_121 =>
if x9 + 1 < 0 ∨ 18 ≤ (x9 + 1).toNatClampNeg then none else
wb (st σ_121 152 ((x9 + 1).toNatClampNeg) v_120) fun σ_124 =>
cb (f_L_cell_0 D (x9 + 37) 15 σ_124) fun v_126 σ_127 =>
if x9 + 2 < 0 ∨ 18 ≤ (x9 + 2).toNatClampNeg then none else
wb (st σ_127 152 ((x9 + 2).toNatClampNeg) v_126) fun σ_130 =>
if x9 < 0 ∨ 18 ≤ x9.toNatClampNeg then none else
if x9 + 1 < 0 ∨ 18 ≤ (x9 + 1).toNatClampNeg then none else
if x9 + 2 < 0 ∨ 18 ≤ (x9 + 2).toNatClampNeg then none else
cb (f_X4_putFault_0 x8 x6 (σ_130 152 (x9.toNatClampNeg)) (σ_130 152 ((x9 + 1).toNatClampNeg)) (σ_130 152 ((x9 + 2).toNatClampNeg)) σ_130) fun v_135 σ_136 =>
if v_135 = 0 then
rec_319 x2 x6 (x8 + 1) σ_136
else
some (0, σ_136)
set_option maxHeartbeats 4000000 in
set_option maxRecDepth 100000 in
theorem w_L_law_369 {p : Program} {l : Launch} {e : Env} {s : State} {m : MethodId} {args : Array Value} {below : List Frame} {meth : Method} {c : Code} {Γ : GG} {res : Int32 × Sg} {cells slots : Nat} {Q : State → Prop} (M : MX RL cL_law 10 (some .boolean) p s m args meth c) (K : KK Γ s s.heap) (hz : cells ≤ room_1.cells ∧ slots ≤ room_1.slots) (hR : RT Γ p l e s m args below meth c cells slots Q res) {D : SD} (hD : gX Γ = D) (n : Int32) (rec_160 : Int32 → Int32 → Sg → Option (Int32 × Sg)) (ih_160 : ∀ (x2 : Int32) (x6 : Int32) (σ : Sg) (H : Heap) (locs : List Loc) (ls : Array Slot) , Bd Γ σ s H locs → lv_has ls 10 [(0, .ref (gS Γ 6)), (1, .ref (Γ.1 0)), (2, .int x2), (3, .ref (Γ.1 150)), (4, .ref (Γ.1 151)), (5, .ref (Γ.1 152)), (6, .int x6)] → rec_160 x2 x6 σ = some res → WLw cells slots Q Γ rm_L_law p l e s m args below meth c H locs res (F0 m 160 ls [])) (rec_319 : Int32 → Int32 → Int32 → Sg → Option (Int32 × Sg)) (ih_319 : ∀ (x2 : Int32) (x6 : Int32) (x8 : Int32) (σ : Sg) (H : Heap) (locs : List Loc) (ls : Array Slot) , Bd Γ σ s H locs → lv_has ls 10 [(0, .ref (gS Γ 6)), (1, .ref (Γ.1 0)), (2, .int x2), (3, .ref (Γ.1 150)), (4, .ref (Γ.1 151)), (5, .ref (Γ.1 152)), (6, .int x6), (8, .int x8)] → rec_319 x2 x6 x8 σ = some res → WLw cells slots Q Γ rm_L_law p l e s m args below meth c H locs res (F0 m 319 ls [])) (x2 : Int32) (x6 : Int32) (x8 : Int32) (x9 : Int32) (s0 : Int32) (s1 : Int32) (σ : Sg) (H : Heap) (locs : List Loc) (ls : Array Slot)  (hB : Bd Γ σ s H locs) (hl : lv_has ls 10 [(0, .ref (gS Γ 6)), (1, .ref (Γ.1 0)), (2, .int x2), (3, .ref (Γ.1 150)), (4, .ref (Γ.1 151)), (5, .ref (Γ.1 152)), (6, .int x6), (8, .int x8), (9, .int x9)]) (hr : f_L_law_369 D n rec_160 rec_319 x2 x6 x8 x9 s0 s1 σ = some res) : WLw cells slots Q Γ rm_L_law p l e s m args below meth c H locs res (F0 m 369 ls [.int s0, .int s1, .ref (Γ.1 152)]) := by
  unfold f_L_law_369 at hr
  obtain ⟨g_117, hr⟩ := gd hr
  obtain ⟨σ_118, e_119, hr⟩ := wbd hr
  refine x_iast M K hB isA_152 g_117 dL_law_369 (fun H locs hB => ?_)
  rw [← e_119] at hB
  refine lv_aload M.1 M.2.1 dL_law_370 (lv_at hl 5 rfl) ?_
  refine lv_iload M.1 M.2.1 dL_law_372 (lv_at hl 8 rfl) ?_
  refine lv_iconst (v := 1) M.1 M.2.1 dL_law_374 (by decide) ?_
  refine lv_iadd M.1 M.2.1 dL_law_375 ?_
  refine lv_aload_n M.1 M.2.1 dL_law_376 rfl (lv_at hl 0 rfl) ?_
  refine lv_iload M.1 M.2.1 dL_law_377 (lv_at hl 8 rfl) ?_
  refine lv_bipush (v := 36) M.1 M.2.1 dL_law_379 (by decide) ?_
  refine lv_iadd M.1 M.2.1 dL_law_381 ?_
  refine lv_bipush (v := 60) M.1 M.2.1 dL_law_382 (by decide) ?_
  obtain ⟨v_120, σ_121, h_122, hr⟩ := cbd hr
  refine x_callI (x_runS M K hB hl.1 [.ref (gS Γ 6), .int (x9 + 36), .int 60] (rest := [.int (x9 + 1), .ref (Γ.1 152)]) rfl (c_L_cell l Γ D (x9 + 36) 60 hD σ_118 (v_120, σ_121) h_122) cy_L_cell wd_112 ⟨rfl, rfl, Nat.le_of_ble_eq_true rfl, Nat.le_of_ble_eq_true rfl⟩ (Nat.le_of_ble_eq_true rfl) hz dL_law_384) hB (fun H locs hB => ?_)
  replace hB : Bd Γ σ_121 s H locs := hB
  obtain ⟨g_123, hr⟩ := gd hr
  obtain ⟨σ_124, e_125, hr⟩ := wbd hr
  refine x_iast M K hB isA_152 g_123 dL_law_387 (fun H locs hB => ?_)
  rw [← e_125] at hB
  refine lv_aload M.1 M.2.1 dL_law_388 (lv_at hl 5 rfl) ?_
  refine lv_iload M.1 M.2.1 dL_law_390 (lv_at hl 8 rfl) ?_
  refine lv_iconst (v := 2) M.1 M.2.1 dL_law_392 (by decide) ?_
  refine lv_iadd M.1 M.2.1 dL_law_393 ?_
  refine lv_aload_n M.1 M.2.1 dL_law_394 rfl (lv_at hl 0 rfl) ?_
  refine lv_iload M.1 M.2.1 dL_law_395 (lv_at hl 8 rfl) ?_
  refine lv_bipush (v := 37) M.1 M.2.1 dL_law_397 (by decide) ?_
  refine lv_iadd M.1 M.2.1 dL_law_399 ?_
  refine lv_bipush (v := 15) M.1 M.2.1 dL_law_400 (by decide) ?_
  obtain ⟨v_126, σ_127, h_128, hr⟩ := cbd hr
  refine x_callI (x_runS M K hB hl.1 [.ref (gS Γ 6), .int (x9 + 37), .int 15] (rest := [.int (x9 + 2), .ref (Γ.1 152)]) rfl (c_L_cell l Γ D (x9 + 37) 15 hD σ_124 (v_126, σ_127) h_128) cy_L_cell wd_112 ⟨rfl, rfl, Nat.le_of_ble_eq_true rfl, Nat.le_of_ble_eq_true rfl⟩ (Nat.le_of_ble_eq_true rfl) hz dL_law_402) hB (fun H locs hB => ?_)
  replace hB : Bd Γ σ_127 s H locs := hB
  obtain ⟨g_129, hr⟩ := gd hr
  obtain ⟨σ_130, e_131, hr⟩ := wbd hr
  refine x_iast M K hB isA_152 g_129 dL_law_405 (fun H locs hB => ?_)
  rw [← e_131] at hB
  refine lv_aload_n M.1 M.2.1 dL_law_406 rfl (lv_at hl 1 rfl) ?_
  refine lv_iload M.1 M.2.1 dL_law_407 (lv_at hl 7 rfl) ?_
  refine lv_iload M.1 M.2.1 dL_law_409 (lv_at hl 6 rfl) ?_
  refine lv_aload M.1 M.2.1 dL_law_411 (lv_at hl 5 rfl) ?_
  refine lv_iload M.1 M.2.1 dL_law_413 (lv_at hl 8 rfl) ?_
  obtain ⟨g_132, hr⟩ := gd hr
  refine x_iald M K hB isA_152 g_132 dL_law_415 ?_
  refine lv_aload M.1 M.2.1 dL_law_416 (lv_at hl 5 rfl) ?_
  refine lv_iload M.1 M.2.1 dL_law_418 (lv_at hl 8 rfl) ?_
  refine lv_iconst (v := 1) M.1 M.2.1 dL_law_420 (by decide) ?_
  refine lv_iadd M.1 M.2.1 dL_law_421 ?_
  obtain ⟨g_133, hr⟩ := gd hr
  refine x_iald M K hB isA_152 g_133 dL_law_422 ?_
  refine lv_aload M.1 M.2.1 dL_law_423 (lv_at hl 5 rfl) ?_
  refine lv_iload M.1 M.2.1 dL_law_425 (lv_at hl 8 rfl) ?_
  refine lv_iconst (v := 2) M.1 M.2.1 dL_law_427 (by decide) ?_
  refine lv_iadd M.1 M.2.1 dL_law_428 ?_
  obtain ⟨g_134, hr⟩ := gd hr
  refine x_iald M K hB isA_152 g_134 dL_law_429 ?_
  obtain ⟨v_135, σ_136, h_137, hr⟩ := cbd hr
  refine x_callI (x_runV M K hB hl.1 [.int x8, .int x6, .int (σ_130 152 (x9.toNatClampNeg)), .int (σ_130 152 ((x9 + 1).toNatClampNeg)), .int (σ_130 152 ((x9 + 2).toNatClampNeg))] (rest := []) rfl (c_X4_putFault l Γ x8 x6 (σ_130 152 (x9.toNatClampNeg)) (σ_130 152 ((x9 + 1).toNatClampNeg)) (σ_130 152 ((x9 + 2).toNatClampNeg))  σ_130 (v_135, σ_136) h_137) cy_X4_putFault (x_recv K hB isK_0.2 (ent_4 isK_0.1) rfl) wd_117 ⟨rfl, rfl, Nat.le_of_ble_eq_true rfl, Nat.le_of_ble_eq_true rfl⟩ (Nat.le_of_ble_eq_true rfl) hz dL_law_430) hB (fun H locs hB => ?_)
  replace hB : Bd Γ σ_136 s H locs := hB
  refine lv_if_eq (tgt := 438) M.1 M.2.1 dL_law_433 (by decide) (fun c_138 => ?_) (fun c_138 => ?_)
  · rw [if_pos c_138] at hr
    refine lv_iinc (v := x8 + 1) (lv' := [(8, .int (x8 + 1)), (0, .ref (gS Γ 6)), (1, .ref (Γ.1 0)), (2, .int x2), (3, .ref (Γ.1 150)), (4, .ref (Γ.1 151)), (5, .ref (Γ.1 152)), (6, .int x6), (9, .int x9)]) M.1 M.2.1 dL_law_438 hl (k := 7) rfl rfl (by decide) rfl (fun ls hl => ?_)
    refine lv_goto (tgt := 319) M.1 M.2.1 dL_law_441 (by decide) ?_
    exact ih_319 x2 x6 (x8 + 1) _ _ _ _  hB (lv_sub hl [1, 2, 3, 4, 5, 6, 7, 0] rfl) hr
  · rw [if_neg c_138] at hr
    refine lv_iconst (v := 0) M.1 M.2.1 dL_law_436 (by decide) ?_
    exact hR _ _ _ _ _ _ (Option.some.inj hr) dL_law_437 hB
def f_L_law_319 (D : SD) (n : Int32) (rec_160 : Int32 → Int32 → Sg → Option (Int32 × Sg)) : Nat → Int32 → Int32 → Int32 → Sg → Option (Int32 × Sg)
  | 0, _, _, _, _ => none
  | f + 1, x2, x6, x8, σ => if 2 ≤ x8 then
rec_160 x2 (x6 + 1) σ
else
cb (f_L_cell_0 D (((9 * x8) + (3 * x6)) + 34) 3 σ) fun v_110 σ_111 =>
if v_110 = 0 then
cb (f_L_cell_0 D (((9 * x8) + (3 * x6)) + 35) 6 σ_111) fun v_114 σ_115 =>
f_L_law_369 D n rec_160 (f_L_law_319 D n rec_160 f) x2 x6 x8 ((9 * x8) + (3 * x6)) v_114 ((9 * x8) + (3 * x6)) σ_115
else
f_L_law_369 D n rec_160 (f_L_law_319 D n rec_160 f) x2 x6 x8 ((9 * x8) + (3 * x6)) 0 ((9 * x8) + (3 * x6)) σ_111
set_option maxHeartbeats 4000000 in
set_option maxRecDepth 100000 in
theorem w_L_law_319 {p : Program} {l : Launch} {e : Env} {s : State} {m : MethodId} {args : Array Value} {below : List Frame} {meth : Method} {c : Code} {Γ : GG} {res : Int32 × Sg} {cells slots : Nat} {Q : State → Prop} (M : MX RL cL_law 10 (some .boolean) p s m args meth c) (K : KK Γ s s.heap) (hz : cells ≤ room_1.cells ∧ slots ≤ room_1.slots) (hR : RT Γ p l e s m args below meth c cells slots Q res) {D : SD} (hD : gX Γ = D) (n : Int32) (rec_160 : Int32 → Int32 → Sg → Option (Int32 × Sg)) (ih_160 : ∀ (x2 : Int32) (x6 : Int32) (σ : Sg) (H : Heap) (locs : List Loc) (ls : Array Slot) , Bd Γ σ s H locs → lv_has ls 10 [(0, .ref (gS Γ 6)), (1, .ref (Γ.1 0)), (2, .int x2), (3, .ref (Γ.1 150)), (4, .ref (Γ.1 151)), (5, .ref (Γ.1 152)), (6, .int x6)] → rec_160 x2 x6 σ = some res → WLw cells slots Q Γ rm_L_law p l e s m args below meth c H locs res (F0 m 160 ls [])) : ∀ (f : Nat) (x2 : Int32) (x6 : Int32) (x8 : Int32) (σ : Sg) (H : Heap) (locs : List Loc) (ls : Array Slot)  (hB : Bd Γ σ s H locs) (hl : lv_has ls 10 [(0, .ref (gS Γ 6)), (1, .ref (Γ.1 0)), (2, .int x2), (3, .ref (Γ.1 150)), (4, .ref (Γ.1 151)), (5, .ref (Γ.1 152)), (6, .int x6), (8, .int x8)]) (hr : f_L_law_319 D n rec_160 f x2 x6 x8 σ = some res), WLw cells slots Q Γ rm_L_law p l e s m args below meth c H locs res (F0 m 319 ls []) := by
  intro f
  induction f with
  | zero => intros; rename_i hr; exact absurd hr (by rw [f_L_law_319]; exact fun h => by cases h)
  | succ f ih_319 =>
    intro x2 x6 x8 σ H locs ls  hB hl hr
    rw [f_L_law_319] at hr
    refine lv_iload M.1 M.2.1 dL_law_319 (lv_at hl 7 rfl) ?_
    refine lv_iconst (v := 2) M.1 M.2.1 dL_law_321 (by decide) ?_
    refine lv_icmp_ge (tgt := 444) M.1 M.2.1 dL_law_322 (by decide) (fun c_109 => ?_) (fun c_109 => ?_)
    · rw [if_pos c_109] at hr
      refine lv_iinc (v := x6 + 1) (lv' := [(6, .int (x6 + 1)), (0, .ref (gS Γ 6)), (1, .ref (Γ.1 0)), (2, .int x2), (3, .ref (Γ.1 150)), (4, .ref (Γ.1 151)), (5, .ref (Γ.1 152)), (8, .int x8)]) M.1 M.2.1 dL_law_444 hl (k := 6) rfl rfl (by decide) rfl (fun ls hl => ?_)
      refine lv_goto (tgt := 160) M.1 M.2.1 dL_law_447 (by decide) ?_
      exact ih_160 x2 (x6 + 1) _ _ _ _  hB (lv_sub hl [1, 2, 3, 4, 5, 6, 0] rfl) hr
    · rw [if_neg c_109] at hr
      refine lv_bipush (v := 9) M.1 M.2.1 dL_law_325 (by decide) ?_
      refine lv_iload M.1 M.2.1 dL_law_327 (lv_at hl 7 rfl) ?_
      refine lv_imul M.1 M.2.1 dL_law_329 ?_
      refine lv_iconst (v := 3) M.1 M.2.1 dL_law_330 (by decide) ?_
      refine lv_iload M.1 M.2.1 dL_law_331 (lv_at hl 6 rfl) ?_
      refine lv_imul M.1 M.2.1 dL_law_333 ?_
      refine lv_iadd M.1 M.2.1 dL_law_334 ?_
      refine lv_istore (lv' := [(9, .int ((9 * x8) + (3 * x6))), (0, .ref (gS Γ 6)), (1, .ref (Γ.1 0)), (2, .int x2), (3, .ref (Γ.1 150)), (4, .ref (Γ.1 151)), (5, .ref (Γ.1 152)), (6, .int x6), (8, .int x8)]) M.1 M.2.1 dL_law_335 hl (by decide) rfl (fun ls hl => ?_)
      refine lv_aload M.1 M.2.1 dL_law_337 (lv_at hl 6 rfl) ?_
      refine lv_iload M.1 M.2.1 dL_law_339 (lv_at hl 0 rfl) ?_
      refine lv_aload_n M.1 M.2.1 dL_law_341 rfl (lv_at hl 1 rfl) ?_
      refine lv_iload M.1 M.2.1 dL_law_342 (lv_at hl 0 rfl) ?_
      refine lv_bipush (v := 34) M.1 M.2.1 dL_law_344 (by decide) ?_
      refine lv_iadd M.1 M.2.1 dL_law_346 ?_
      refine lv_iconst (v := 3) M.1 M.2.1 dL_law_347 (by decide) ?_
      obtain ⟨v_110, σ_111, h_112, hr⟩ := cbd hr
      refine x_callI (x_runS M K hB hl.1 [.ref (gS Γ 6), .int (((9 * x8) + (3 * x6)) + 34), .int 3] (rest := [.int ((9 * x8) + (3 * x6)), .ref (Γ.1 152)]) rfl (c_L_cell l Γ D (((9 * x8) + (3 * x6)) + 34) 3 hD σ (v_110, σ_111) h_112) cy_L_cell wd_112 ⟨rfl, rfl, Nat.le_of_ble_eq_true rfl, Nat.le_of_ble_eq_true rfl⟩ (Nat.le_of_ble_eq_true rfl) hz dL_law_348) hB (fun H locs hB => ?_)
      replace hB : Bd Γ σ_111 s H locs := hB
      refine lv_if_ne (tgt := 368) M.1 M.2.1 dL_law_351 (by decide) (fun c_113 => ?_) (fun c_113 => ?_)
      · rw [if_neg c_113] at hr
        refine lv_iconst (v := 0) M.1 M.2.1 dL_law_368 (by decide) ?_
        exact w_L_law_369 M K hz hR hD n _ ih_160 _ ih_319 x2 x6 x8 ((9 * x8) + (3 * x6)) 0 ((9 * x8) + (3 * x6)) _ _ _ _  hB (lv_sub hl [1, 2, 3, 4, 5, 6, 7, 8, 0] rfl) hr
      · rw [if_pos c_113] at hr
        refine lv_aload_n M.1 M.2.1 dL_law_354 rfl (lv_at hl 1 rfl) ?_
        refine lv_iload M.1 M.2.1 dL_law_355 (lv_at hl 0 rfl) ?_
        refine lv_bipush (v := 35) M.1 M.2.1 dL_law_357 (by decide) ?_
        refine lv_iadd M.1 M.2.1 dL_law_359 ?_
        refine lv_bipush (v := 6) M.1 M.2.1 dL_law_360 (by decide) ?_
        obtain ⟨v_114, σ_115, h_116, hr⟩ := cbd hr
        refine x_callI (x_runS M K hB hl.1 [.ref (gS Γ 6), .int (((9 * x8) + (3 * x6)) + 35), .int 6] (rest := [.int ((9 * x8) + (3 * x6)), .ref (Γ.1 152)]) rfl (c_L_cell l Γ D (((9 * x8) + (3 * x6)) + 35) 6 hD σ_111 (v_114, σ_115) h_116) cy_L_cell wd_112 ⟨rfl, rfl, Nat.le_of_ble_eq_true rfl, Nat.le_of_ble_eq_true rfl⟩ (Nat.le_of_ble_eq_true rfl) hz dL_law_362) hB (fun H locs hB => ?_)
        replace hB : Bd Γ σ_115 s H locs := hB
        refine lv_goto (tgt := 369) M.1 M.2.1 dL_law_365 (by decide) ?_
        exact w_L_law_369 M K hz hR hD n _ ih_160 _ ih_319 x2 x6 x8 ((9 * x8) + (3 * x6)) v_114 ((9 * x8) + (3 * x6)) _ _ _ _  hB (lv_sub hl [1, 2, 3, 4, 5, 6, 7, 8, 0] rfl) hr
def f_L_law_160 (D : SD) (n : Int32)  : Nat → Int32 → Int32 → Sg → Option (Int32 × Sg)
  | 0, _, _, _ => none
  | f + 1, x2, x6, σ => if x2 ≤ x6 then
cb (f_L_cell_0 D 60 2 σ) fun v_52 σ_53 =>
if v_52 = 0 then
cb (f_X4_state_0 18 σ_53) fun v_56 σ_57 =>
wb (st σ_57 150 3 v_56) fun σ_59 =>
cb (f_X4_powerCycle_0  σ_59) fun v_61 σ_62 =>
f_L_law_474 D n  x2 σ_62
else
f_L_law_474 D n  x2 σ_53
else
cb (f_L_cell_0 D ((8 * x6) + 9) 12 σ) fun v_64 σ_65 =>
cb (f_L_cell_0 D (((8 * x6) + 9) + 1) 10 σ_65) fun v_67 σ_68 =>
cb (f_X4_addTask_0 (1 + v_64) (1 + v_67) σ_68) fun v_70 σ_71 =>
cb (f_L_cell_0 D (((8 * x6) + 9) + 2) 14 σ_71) fun v_73 σ_74 =>
cb (f_X4_set_0 x6 2 v_73 σ_74) fun v_76 σ_77 =>
cb (f_L_cell_0 D (((8 * x6) + 9) + 3) 4 σ_77) fun v_79 σ_80 =>
cb (f_X4_set_0 x6 3 (1 + v_79) σ_80) fun v_82 σ_83 =>
cb (f_L_cell_0 D (((8 * x6) + 9) + 4) 3 σ_83) fun v_85 σ_86 =>
cb (f_X4_set_0 x6 4 v_85 σ_86) fun v_88 σ_89 =>
cb (f_L_cell_0 D (((8 * x6) + 9) + 5) 6 σ_89) fun v_91 σ_92 =>
cb (f_X4_set_0 x6 5 (1 + v_91) σ_92) fun v_94 σ_95 =>
cb (f_L_cell_0 D (((8 * x6) + 9) + 6) 3 σ_95) fun v_97 σ_98 =>
cb (f_X4_set_0 x6 6 v_97 σ_98) fun v_100 σ_101 =>
cb (f_L_cell_0 D (((8 * x6) + 9) + 7) 12 σ_101) fun v_103 σ_104 =>
cb (f_X4_set_0 x6 7 v_103 σ_104) fun v_106 σ_107 =>
f_L_law_319 D n (f_L_law_160 D n  f) FU x2 x6 0 σ_107
set_option maxHeartbeats 4000000 in
set_option maxRecDepth 100000 in
theorem w_L_law_160 {p : Program} {l : Launch} {e : Env} {s : State} {m : MethodId} {args : Array Value} {below : List Frame} {meth : Method} {c : Code} {Γ : GG} {res : Int32 × Sg} {cells slots : Nat} {Q : State → Prop} (M : MX RL cL_law 10 (some .boolean) p s m args meth c) (K : KK Γ s s.heap) (hz : cells ≤ room_1.cells ∧ slots ≤ room_1.slots) (hR : RT Γ p l e s m args below meth c cells slots Q res) {D : SD} (hD : gX Γ = D) (n : Int32) : ∀ (f : Nat) (x2 : Int32) (x6 : Int32) (σ : Sg) (H : Heap) (locs : List Loc) (ls : Array Slot)  (hB : Bd Γ σ s H locs) (hl : lv_has ls 10 [(0, .ref (gS Γ 6)), (1, .ref (Γ.1 0)), (2, .int x2), (3, .ref (Γ.1 150)), (4, .ref (Γ.1 151)), (5, .ref (Γ.1 152)), (6, .int x6)]) (hr : f_L_law_160 D n  f x2 x6 σ = some res), WLw cells slots Q Γ rm_L_law p l e s m args below meth c H locs res (F0 m 160 ls []) := by
  intro f
  induction f with
  | zero => intros; rename_i hr; exact absurd hr (by rw [f_L_law_160]; exact fun h => by cases h)
  | succ f ih_160 =>
    intro x2 x6 σ H locs ls  hB hl hr
    rw [f_L_law_160] at hr
    refine lv_iload M.1 M.2.1 dL_law_160 (lv_at hl 6 rfl) ?_
    refine lv_iload_n M.1 M.2.1 dL_law_162 rfl (lv_at hl 2 rfl) ?_
    refine lv_icmp_ge (tgt := 450) M.1 M.2.1 dL_law_163 (by decide) (fun c_51 => ?_) (fun c_51 => ?_)
    · rw [if_pos c_51] at hr
      refine lv_aload_n M.1 M.2.1 dL_law_450 rfl (lv_at hl 0 rfl) ?_
      refine lv_bipush (v := 60) M.1 M.2.1 dL_law_451 (by decide) ?_
      refine lv_iconst (v := 2) M.1 M.2.1 dL_law_453 (by decide) ?_
      obtain ⟨v_52, σ_53, h_54, hr⟩ := cbd hr
      refine x_callI (x_runS M K hB hl.1 [.ref (gS Γ 6), .int 60, .int 2] (rest := []) rfl (c_L_cell l Γ D 60 2 hD σ (v_52, σ_53) h_54) cy_L_cell wd_112 ⟨rfl, rfl, Nat.le_of_ble_eq_true rfl, Nat.le_of_ble_eq_true rfl⟩ (Nat.le_of_ble_eq_true rfl) hz dL_law_454) hB (fun H locs hB => ?_)
      replace hB : Bd Γ σ_53 s H locs := hB
      refine lv_if_ne (tgt := 474) M.1 M.2.1 dL_law_457 (by decide) (fun c_55 => ?_) (fun c_55 => ?_)
      · rw [if_neg c_55] at hr
        exact w_L_law_474 M K hz hR hD n  x2 _ _ _ _  hB (lv_sub hl [1, 2, 3, 4, 5] rfl) hr
      · rw [if_pos c_55] at hr
        refine lv_aload_n M.1 M.2.1 dL_law_460 rfl (lv_at hl 3 rfl) ?_
        refine lv_iconst (v := 3) M.1 M.2.1 dL_law_461 (by decide) ?_
        refine lv_aload_n M.1 M.2.1 dL_law_462 rfl (lv_at hl 1 rfl) ?_
        refine lv_bipush (v := 18) M.1 M.2.1 dL_law_463 (by decide) ?_
        obtain ⟨v_56, σ_57, h_58, hr⟩ := cbd hr
        refine x_callI (x_runV M K hB hl.1 [.int 18] (rest := [.int 3, .ref (Γ.1 150)]) rfl (c_X4_state l Γ 18  σ_53 (v_56, σ_57) h_58) cy_X4_state (x_recv K hB isK_0.2 (ent_4 isK_0.1) rfl) wd_106 ⟨rfl, rfl, Nat.le_of_ble_eq_true rfl, Nat.le_of_ble_eq_true rfl⟩ (Nat.le_of_ble_eq_true rfl) hz dL_law_465) hB (fun H locs hB => ?_)
        replace hB : Bd Γ σ_57 s H locs := hB
        obtain ⟨σ_59, e_60, hr⟩ := wbd hr
        refine x_iastL M K hB isA_150 (k := 3) (by decide) (by decide) dL_law_468 (fun H locs hB => ?_)
        rw [← e_60] at hB
        refine lv_aload_n M.1 M.2.1 dL_law_469 rfl (lv_at hl 1 rfl) ?_
        obtain ⟨v_61, σ_62, h_63, hr⟩ := cbd hr
        refine x_callI (x_runV M K hB hl.1 [] (rest := []) rfl (c_X4_powerCycle l Γ   σ_59 (v_61, σ_62) h_63) cy_X4_powerCycle (x_recv K hB isK_0.2 (ent_4 isK_0.1) rfl) wd_114 ⟨rfl, rfl, Nat.le_of_ble_eq_true rfl, Nat.le_of_ble_eq_true rfl⟩ (Nat.le_of_ble_eq_true rfl) hz dL_law_470) hB (fun H locs hB => ?_)
        replace hB : Bd Γ σ_62 s H locs := hB
        refine lv_pop M.1 M.2.1 dL_law_473 rfl ?_
        exact w_L_law_474 M K hz hR hD n  x2 _ _ _ _  hB (lv_sub hl [1, 2, 3, 4, 5] rfl) hr
    · rw [if_neg c_51] at hr
      refine lv_bipush (v := 8) M.1 M.2.1 dL_law_166 (by decide) ?_
      refine lv_iload M.1 M.2.1 dL_law_168 (lv_at hl 6 rfl) ?_
      refine lv_imul M.1 M.2.1 dL_law_170 ?_
      refine lv_bipush (v := 9) M.1 M.2.1 dL_law_171 (by decide) ?_
      refine lv_iadd M.1 M.2.1 dL_law_173 ?_
      refine lv_istore (lv' := [(7, .int ((8 * x6) + 9)), (0, .ref (gS Γ 6)), (1, .ref (Γ.1 0)), (2, .int x2), (3, .ref (Γ.1 150)), (4, .ref (Γ.1 151)), (5, .ref (Γ.1 152)), (6, .int x6)]) M.1 M.2.1 dL_law_174 hl (by decide) rfl (fun ls hl => ?_)
      refine lv_aload_n M.1 M.2.1 dL_law_176 rfl (lv_at hl 2 rfl) ?_
      refine lv_iconst (v := 1) M.1 M.2.1 dL_law_177 (by decide) ?_
      refine lv_aload_n M.1 M.2.1 dL_law_178 rfl (lv_at hl 1 rfl) ?_
      refine lv_iload M.1 M.2.1 dL_law_179 (lv_at hl 0 rfl) ?_
      refine lv_bipush (v := 12) M.1 M.2.1 dL_law_181 (by decide) ?_
      obtain ⟨v_64, σ_65, h_66, hr⟩ := cbd hr
      refine x_callI (x_runS M K hB hl.1 [.ref (gS Γ 6), .int ((8 * x6) + 9), .int 12] (rest := [.int 1, .ref (Γ.1 0)]) rfl (c_L_cell l Γ D ((8 * x6) + 9) 12 hD σ (v_64, σ_65) h_66) cy_L_cell wd_112 ⟨rfl, rfl, Nat.le_of_ble_eq_true rfl, Nat.le_of_ble_eq_true rfl⟩ (Nat.le_of_ble_eq_true rfl) hz dL_law_183) hB (fun H locs hB => ?_)
      replace hB : Bd Γ σ_65 s H locs := hB
      refine lv_iadd M.1 M.2.1 dL_law_186 ?_
      refine lv_iconst (v := 1) M.1 M.2.1 dL_law_187 (by decide) ?_
      refine lv_aload_n M.1 M.2.1 dL_law_188 rfl (lv_at hl 1 rfl) ?_
      refine lv_iload M.1 M.2.1 dL_law_189 (lv_at hl 0 rfl) ?_
      refine lv_iconst (v := 1) M.1 M.2.1 dL_law_191 (by decide) ?_
      refine lv_iadd M.1 M.2.1 dL_law_192 ?_
      refine lv_bipush (v := 10) M.1 M.2.1 dL_law_193 (by decide) ?_
      obtain ⟨v_67, σ_68, h_69, hr⟩ := cbd hr
      refine x_callI (x_runS M K hB hl.1 [.ref (gS Γ 6), .int (((8 * x6) + 9) + 1), .int 10] (rest := [.int 1, .int (1 + v_64), .ref (Γ.1 0)]) rfl (c_L_cell l Γ D (((8 * x6) + 9) + 1) 10 hD σ_65 (v_67, σ_68) h_69) cy_L_cell wd_112 ⟨rfl, rfl, Nat.le_of_ble_eq_true rfl, Nat.le_of_ble_eq_true rfl⟩ (Nat.le_of_ble_eq_true rfl) hz dL_law_195) hB (fun H locs hB => ?_)
      replace hB : Bd Γ σ_68 s H locs := hB
      refine lv_iadd M.1 M.2.1 dL_law_198 ?_
      obtain ⟨v_70, σ_71, h_72, hr⟩ := cbd hr
      refine x_callI (x_runV M K hB hl.1 [.int (1 + v_64), .int (1 + v_67)] (rest := []) rfl (c_X4_addTask l Γ (1 + v_64) (1 + v_67)  σ_68 (v_70, σ_71) h_72) cy_X4_addTask (x_recv K hB isK_0.2 (ent_4 isK_0.1) rfl) wd_115 ⟨rfl, rfl, Nat.le_of_ble_eq_true rfl, Nat.le_of_ble_eq_true rfl⟩ (Nat.le_of_ble_eq_true rfl) hz dL_law_199) hB (fun H locs hB => ?_)
      replace hB : Bd Γ σ_71 s H locs := hB
      refine lv_pop M.1 M.2.1 dL_law_202 rfl ?_
      refine lv_aload_n M.1 M.2.1 dL_law_203 rfl (lv_at hl 2 rfl) ?_
      refine lv_iload M.1 M.2.1 dL_law_204 (lv_at hl 7 rfl) ?_
      refine lv_iconst (v := 2) M.1 M.2.1 dL_law_206 (by decide) ?_
      refine lv_aload_n M.1 M.2.1 dL_law_207 rfl (lv_at hl 1 rfl) ?_
      refine lv_iload M.1 M.2.1 dL_law_208 (lv_at hl 0 rfl) ?_
      refine lv_iconst (v := 2) M.1 M.2.1 dL_law_210 (by decide) ?_
      refine lv_iadd M.1 M.2.1 dL_law_211 ?_
      refine lv_bipush (v := 14) M.1 M.2.1 dL_law_212 (by decide) ?_
      obtain ⟨v_73, σ_74, h_75, hr⟩ := cbd hr
      refine x_callI (x_runS M K hB hl.1 [.ref (gS Γ 6), .int (((8 * x6) + 9) + 2), .int 14] (rest := [.int 2, .int x6, .ref (Γ.1 0)]) rfl (c_L_cell l Γ D (((8 * x6) + 9) + 2) 14 hD σ_71 (v_73, σ_74) h_75) cy_L_cell wd_112 ⟨rfl, rfl, Nat.le_of_ble_eq_true rfl, Nat.le_of_ble_eq_true rfl⟩ (Nat.le_of_ble_eq_true rfl) hz dL_law_214) hB (fun H locs hB => ?_)
      replace hB : Bd Γ σ_74 s H locs := hB
      obtain ⟨v_76, σ_77, h_78, hr⟩ := cbd hr
      refine x_callI (x_runV M K hB hl.1 [.int x6, .int 2, .int v_73] (rest := []) rfl (c_X4_set l Γ x6 2 v_73  σ_74 (v_76, σ_77) h_78) cy_X4_set (x_recv K hB isK_0.2 (ent_4 isK_0.1) rfl) wd_116 ⟨rfl, rfl, Nat.le_of_ble_eq_true rfl, Nat.le_of_ble_eq_true rfl⟩ (Nat.le_of_ble_eq_true rfl) hz dL_law_217) hB (fun H locs hB => ?_)
      replace hB : Bd Γ σ_77 s H locs := hB
      refine lv_pop M.1 M.2.1 dL_law_220 rfl ?_
      refine lv_aload_n M.1 M.2.1 dL_law_221 rfl (lv_at hl 2 rfl) ?_
      refine lv_iload M.1 M.2.1 dL_law_222 (lv_at hl 7 rfl) ?_
      refine lv_iconst (v := 3) M.1 M.2.1 dL_law_224 (by decide) ?_
      refine lv_iconst (v := 1) M.1 M.2.1 dL_law_225 (by decide) ?_
      refine lv_aload_n M.1 M.2.1 dL_law_226 rfl (lv_at hl 1 rfl) ?_
      refine lv_iload M.1 M.2.1 dL_law_227 (lv_at hl 0 rfl) ?_
      refine lv_iconst (v := 3) M.1 M.2.1 dL_law_229 (by decide) ?_
      refine lv_iadd M.1 M.2.1 dL_law_230 ?_
      refine lv_iconst (v := 4) M.1 M.2.1 dL_law_231 (by decide) ?_
      obtain ⟨v_79, σ_80, h_81, hr⟩ := cbd hr
      refine x_callI (x_runS M K hB hl.1 [.ref (gS Γ 6), .int (((8 * x6) + 9) + 3), .int 4] (rest := [.int 1, .int 3, .int x6, .ref (Γ.1 0)]) rfl (c_L_cell l Γ D (((8 * x6) + 9) + 3) 4 hD σ_77 (v_79, σ_80) h_81) cy_L_cell wd_112 ⟨rfl, rfl, Nat.le_of_ble_eq_true rfl, Nat.le_of_ble_eq_true rfl⟩ (Nat.le_of_ble_eq_true rfl) hz dL_law_232) hB (fun H locs hB => ?_)
      replace hB : Bd Γ σ_80 s H locs := hB
      refine lv_iadd M.1 M.2.1 dL_law_235 ?_
      obtain ⟨v_82, σ_83, h_84, hr⟩ := cbd hr
      refine x_callI (x_runV M K hB hl.1 [.int x6, .int 3, .int (1 + v_79)] (rest := []) rfl (c_X4_set l Γ x6 3 (1 + v_79)  σ_80 (v_82, σ_83) h_84) cy_X4_set (x_recv K hB isK_0.2 (ent_4 isK_0.1) rfl) wd_116 ⟨rfl, rfl, Nat.le_of_ble_eq_true rfl, Nat.le_of_ble_eq_true rfl⟩ (Nat.le_of_ble_eq_true rfl) hz dL_law_236) hB (fun H locs hB => ?_)
      replace hB : Bd Γ σ_83 s H locs := hB
      refine lv_pop M.1 M.2.1 dL_law_239 rfl ?_
      refine lv_aload_n M.1 M.2.1 dL_law_240 rfl (lv_at hl 2 rfl) ?_
      refine lv_iload M.1 M.2.1 dL_law_241 (lv_at hl 7 rfl) ?_
      refine lv_iconst (v := 4) M.1 M.2.1 dL_law_243 (by decide) ?_
      refine lv_aload_n M.1 M.2.1 dL_law_244 rfl (lv_at hl 1 rfl) ?_
      refine lv_iload M.1 M.2.1 dL_law_245 (lv_at hl 0 rfl) ?_
      refine lv_iconst (v := 4) M.1 M.2.1 dL_law_247 (by decide) ?_
      refine lv_iadd M.1 M.2.1 dL_law_248 ?_
      refine lv_iconst (v := 3) M.1 M.2.1 dL_law_249 (by decide) ?_
      obtain ⟨v_85, σ_86, h_87, hr⟩ := cbd hr
      refine x_callI (x_runS M K hB hl.1 [.ref (gS Γ 6), .int (((8 * x6) + 9) + 4), .int 3] (rest := [.int 4, .int x6, .ref (Γ.1 0)]) rfl (c_L_cell l Γ D (((8 * x6) + 9) + 4) 3 hD σ_83 (v_85, σ_86) h_87) cy_L_cell wd_112 ⟨rfl, rfl, Nat.le_of_ble_eq_true rfl, Nat.le_of_ble_eq_true rfl⟩ (Nat.le_of_ble_eq_true rfl) hz dL_law_250) hB (fun H locs hB => ?_)
      replace hB : Bd Γ σ_86 s H locs := hB
      obtain ⟨v_88, σ_89, h_90, hr⟩ := cbd hr
      refine x_callI (x_runV M K hB hl.1 [.int x6, .int 4, .int v_85] (rest := []) rfl (c_X4_set l Γ x6 4 v_85  σ_86 (v_88, σ_89) h_90) cy_X4_set (x_recv K hB isK_0.2 (ent_4 isK_0.1) rfl) wd_116 ⟨rfl, rfl, Nat.le_of_ble_eq_true rfl, Nat.le_of_ble_eq_true rfl⟩ (Nat.le_of_ble_eq_true rfl) hz dL_law_253) hB (fun H locs hB => ?_)
      replace hB : Bd Γ σ_89 s H locs := hB
      refine lv_pop M.1 M.2.1 dL_law_256 rfl ?_
      refine lv_aload_n M.1 M.2.1 dL_law_257 rfl (lv_at hl 2 rfl) ?_
      refine lv_iload M.1 M.2.1 dL_law_258 (lv_at hl 7 rfl) ?_
      refine lv_iconst (v := 5) M.1 M.2.1 dL_law_260 (by decide) ?_
      refine lv_iconst (v := 1) M.1 M.2.1 dL_law_261 (by decide) ?_
      refine lv_aload_n M.1 M.2.1 dL_law_262 rfl (lv_at hl 1 rfl) ?_
      refine lv_iload M.1 M.2.1 dL_law_263 (lv_at hl 0 rfl) ?_
      refine lv_iconst (v := 5) M.1 M.2.1 dL_law_265 (by decide) ?_
      refine lv_iadd M.1 M.2.1 dL_law_266 ?_
      refine lv_bipush (v := 6) M.1 M.2.1 dL_law_267 (by decide) ?_
      obtain ⟨v_91, σ_92, h_93, hr⟩ := cbd hr
      refine x_callI (x_runS M K hB hl.1 [.ref (gS Γ 6), .int (((8 * x6) + 9) + 5), .int 6] (rest := [.int 1, .int 5, .int x6, .ref (Γ.1 0)]) rfl (c_L_cell l Γ D (((8 * x6) + 9) + 5) 6 hD σ_89 (v_91, σ_92) h_93) cy_L_cell wd_112 ⟨rfl, rfl, Nat.le_of_ble_eq_true rfl, Nat.le_of_ble_eq_true rfl⟩ (Nat.le_of_ble_eq_true rfl) hz dL_law_269) hB (fun H locs hB => ?_)
      replace hB : Bd Γ σ_92 s H locs := hB
      refine lv_iadd M.1 M.2.1 dL_law_272 ?_
      obtain ⟨v_94, σ_95, h_96, hr⟩ := cbd hr
      refine x_callI (x_runV M K hB hl.1 [.int x6, .int 5, .int (1 + v_91)] (rest := []) rfl (c_X4_set l Γ x6 5 (1 + v_91)  σ_92 (v_94, σ_95) h_96) cy_X4_set (x_recv K hB isK_0.2 (ent_4 isK_0.1) rfl) wd_116 ⟨rfl, rfl, Nat.le_of_ble_eq_true rfl, Nat.le_of_ble_eq_true rfl⟩ (Nat.le_of_ble_eq_true rfl) hz dL_law_273) hB (fun H locs hB => ?_)
      replace hB : Bd Γ σ_95 s H locs := hB
      refine lv_pop M.1 M.2.1 dL_law_276 rfl ?_
      refine lv_aload_n M.1 M.2.1 dL_law_277 rfl (lv_at hl 2 rfl) ?_
      refine lv_iload M.1 M.2.1 dL_law_278 (lv_at hl 7 rfl) ?_
      refine lv_bipush (v := 6) M.1 M.2.1 dL_law_280 (by decide) ?_
      refine lv_aload_n M.1 M.2.1 dL_law_282 rfl (lv_at hl 1 rfl) ?_
      refine lv_iload M.1 M.2.1 dL_law_283 (lv_at hl 0 rfl) ?_
      refine lv_bipush (v := 6) M.1 M.2.1 dL_law_285 (by decide) ?_
      refine lv_iadd M.1 M.2.1 dL_law_287 ?_
      refine lv_iconst (v := 3) M.1 M.2.1 dL_law_288 (by decide) ?_
      obtain ⟨v_97, σ_98, h_99, hr⟩ := cbd hr
      refine x_callI (x_runS M K hB hl.1 [.ref (gS Γ 6), .int (((8 * x6) + 9) + 6), .int 3] (rest := [.int 6, .int x6, .ref (Γ.1 0)]) rfl (c_L_cell l Γ D (((8 * x6) + 9) + 6) 3 hD σ_95 (v_97, σ_98) h_99) cy_L_cell wd_112 ⟨rfl, rfl, Nat.le_of_ble_eq_true rfl, Nat.le_of_ble_eq_true rfl⟩ (Nat.le_of_ble_eq_true rfl) hz dL_law_289) hB (fun H locs hB => ?_)
      replace hB : Bd Γ σ_98 s H locs := hB
      obtain ⟨v_100, σ_101, h_102, hr⟩ := cbd hr
      refine x_callI (x_runV M K hB hl.1 [.int x6, .int 6, .int v_97] (rest := []) rfl (c_X4_set l Γ x6 6 v_97  σ_98 (v_100, σ_101) h_102) cy_X4_set (x_recv K hB isK_0.2 (ent_4 isK_0.1) rfl) wd_116 ⟨rfl, rfl, Nat.le_of_ble_eq_true rfl, Nat.le_of_ble_eq_true rfl⟩ (Nat.le_of_ble_eq_true rfl) hz dL_law_292) hB (fun H locs hB => ?_)
      replace hB : Bd Γ σ_101 s H locs := hB
      refine lv_pop M.1 M.2.1 dL_law_295 rfl ?_
      refine lv_aload_n M.1 M.2.1 dL_law_296 rfl (lv_at hl 2 rfl) ?_
      refine lv_iload M.1 M.2.1 dL_law_297 (lv_at hl 7 rfl) ?_
      refine lv_bipush (v := 7) M.1 M.2.1 dL_law_299 (by decide) ?_
      refine lv_aload_n M.1 M.2.1 dL_law_301 rfl (lv_at hl 1 rfl) ?_
      refine lv_iload M.1 M.2.1 dL_law_302 (lv_at hl 0 rfl) ?_
      refine lv_bipush (v := 7) M.1 M.2.1 dL_law_304 (by decide) ?_
      refine lv_iadd M.1 M.2.1 dL_law_306 ?_
      refine lv_bipush (v := 12) M.1 M.2.1 dL_law_307 (by decide) ?_
      obtain ⟨v_103, σ_104, h_105, hr⟩ := cbd hr
      refine x_callI (x_runS M K hB hl.1 [.ref (gS Γ 6), .int (((8 * x6) + 9) + 7), .int 12] (rest := [.int 7, .int x6, .ref (Γ.1 0)]) rfl (c_L_cell l Γ D (((8 * x6) + 9) + 7) 12 hD σ_101 (v_103, σ_104) h_105) cy_L_cell wd_112 ⟨rfl, rfl, Nat.le_of_ble_eq_true rfl, Nat.le_of_ble_eq_true rfl⟩ (Nat.le_of_ble_eq_true rfl) hz dL_law_309) hB (fun H locs hB => ?_)
      replace hB : Bd Γ σ_104 s H locs := hB
      obtain ⟨v_106, σ_107, h_108, hr⟩ := cbd hr
      refine x_callI (x_runV M K hB hl.1 [.int x6, .int 7, .int v_103] (rest := []) rfl (c_X4_set l Γ x6 7 v_103  σ_104 (v_106, σ_107) h_108) cy_X4_set (x_recv K hB isK_0.2 (ent_4 isK_0.1) rfl) wd_116 ⟨rfl, rfl, Nat.le_of_ble_eq_true rfl, Nat.le_of_ble_eq_true rfl⟩ (Nat.le_of_ble_eq_true rfl) hz dL_law_312) hB (fun H locs hB => ?_)
      replace hB : Bd Γ σ_107 s H locs := hB
      refine lv_pop M.1 M.2.1 dL_law_315 rfl ?_
      refine lv_iconst (v := 0) M.1 M.2.1 dL_law_316 (by decide) ?_
      refine lv_istore (lv' := [(8, .int 0), (7, .int ((8 * x6) + 9)), (0, .ref (gS Γ 6)), (1, .ref (Γ.1 0)), (2, .int x2), (3, .ref (Γ.1 150)), (4, .ref (Γ.1 151)), (5, .ref (Γ.1 152)), (6, .int x6)]) M.1 M.2.1 dL_law_317 hl (by decide) rfl (fun ls hl => ?_)
      exact w_L_law_319 M K hz hR hD n _ ih_160 FU x2 x6 0 _ _ _ _  hB (lv_sub hl [2, 3, 4, 5, 6, 7, 8, 0] rfl) hr
def f_L_law_34 (D : SD) (n : Int32)   (σ : Sg) : Option (Int32 × Sg) :=
wb (st σ 150 3 30) fun σ_1 =>
cb (f_L_cell_0 D 1 12 σ_1) fun v_3 σ_4 =>
cb (f_X4_rule_0 0 v_3 σ_4) fun v_6 σ_7 =>
cb (f_L_cell_0 D 2 40 σ_7) fun v_9 σ_10 =>
cb (f_X4_rule_0 1 (10 + v_9) σ_10) fun v_12 σ_13 =>
cb (f_L_cell_0 D 3 8 σ_13) fun v_15 σ_16 =>
cb (f_X4_rule_0 2 (1 + v_15) σ_16) fun v_18 σ_19 =>
cb (f_L_cell_0 D 4 30 σ_19) fun v_21 σ_22 =>
cb (f_X4_rule_0 3 v_21 σ_22) fun v_24 σ_25 =>
cb (f_L_cell_0 D 5 4 σ_25) fun v_27 σ_28 =>
cb (f_X4_rule_0 4 v_27 σ_28) fun v_30 σ_31 =>
cb (f_L_cell_0 D 6 6 σ_31) fun v_33 σ_34 =>
cb (f_X4_rule_0 5 (1 + v_33) σ_34) fun v_36 σ_37 =>
cb (f_L_cell_0 D 7 60 σ_37) fun v_39 σ_40 =>
cb (f_X4_rule_0 6 (5 + v_39) σ_40) fun v_42 σ_43 =>
cb (f_L_cell_0 D 8 3 σ_43) fun v_45 σ_46 =>
cb (f_X4_rule_0 7 (1 + v_45) σ_46) fun v_48 σ_49 =>
f_L_law_160 D n  FU n 0 σ_49
set_option maxHeartbeats 4000000 in
set_option maxRecDepth 100000 in
theorem w_L_law_34 {p : Program} {l : Launch} {e : Env} {s : State} {m : MethodId} {args : Array Value} {below : List Frame} {meth : Method} {c : Code} {Γ : GG} {res : Int32 × Sg} {cells slots : Nat} {Q : State → Prop} (M : MX RL cL_law 10 (some .boolean) p s m args meth c) (K : KK Γ s s.heap) (hz : cells ≤ room_1.cells ∧ slots ≤ room_1.slots) (hR : RT Γ p l e s m args below meth c cells slots Q res) {D : SD} (hD : gX Γ = D) (n : Int32)  (σ : Sg) (H : Heap) (locs : List Loc) (ls : Array Slot)  (hB : Bd Γ σ s H locs) (hl : lv_has ls 10 [(0, .ref (gS Γ 6)), (1, .ref (Γ.1 0)), (2, .int n), (3, .ref (Γ.1 150)), (4, .ref (Γ.1 151)), (5, .ref (Γ.1 152))]) (hr : f_L_law_34 D n   σ = some res) : WLw cells slots Q Γ rm_L_law p l e s m args below meth c H locs res (F0 m 34 ls []) := by
  unfold f_L_law_34 at hr
  refine lv_aload_n M.1 M.2.1 dL_law_34 rfl (lv_at hl 3 rfl) ?_
  refine lv_iconst (v := 3) M.1 M.2.1 dL_law_35 (by decide) ?_
  refine lv_bipush (v := 30) M.1 M.2.1 dL_law_36 (by decide) ?_
  obtain ⟨σ_1, e_2, hr⟩ := wbd hr
  refine x_iastL M K hB isA_150 (k := 3) (by decide) (by decide) dL_law_38 (fun H locs hB => ?_)
  rw [← e_2] at hB
  refine lv_aload_n M.1 M.2.1 dL_law_39 rfl (lv_at hl 1 rfl) ?_
  refine lv_iconst (v := 0) M.1 M.2.1 dL_law_40 (by decide) ?_
  refine lv_aload_n M.1 M.2.1 dL_law_41 rfl (lv_at hl 0 rfl) ?_
  refine lv_iconst (v := 1) M.1 M.2.1 dL_law_42 (by decide) ?_
  refine lv_bipush (v := 12) M.1 M.2.1 dL_law_43 (by decide) ?_
  obtain ⟨v_3, σ_4, h_5, hr⟩ := cbd hr
  refine x_callI (x_runS M K hB hl.1 [.ref (gS Γ 6), .int 1, .int 12] (rest := [.int 0, .ref (Γ.1 0)]) rfl (c_L_cell l Γ D 1 12 hD σ_1 (v_3, σ_4) h_5) cy_L_cell wd_112 ⟨rfl, rfl, Nat.le_of_ble_eq_true rfl, Nat.le_of_ble_eq_true rfl⟩ (Nat.le_of_ble_eq_true rfl) hz dL_law_45) hB (fun H locs hB => ?_)
  replace hB : Bd Γ σ_4 s H locs := hB
  obtain ⟨v_6, σ_7, h_8, hr⟩ := cbd hr
  refine x_callI (x_runV M K hB hl.1 [.int 0, .int v_3] (rest := []) rfl (c_X4_rule l Γ 0 v_3  σ_4 (v_6, σ_7) h_8) cy_X4_rule (x_recv K hB isK_0.2 (ent_4 isK_0.1) rfl) wd_113 ⟨rfl, rfl, Nat.le_of_ble_eq_true rfl, Nat.le_of_ble_eq_true rfl⟩ (Nat.le_of_ble_eq_true rfl) hz dL_law_48) hB (fun H locs hB => ?_)
  replace hB : Bd Γ σ_7 s H locs := hB
  refine lv_pop M.1 M.2.1 dL_law_51 rfl ?_
  refine lv_aload_n M.1 M.2.1 dL_law_52 rfl (lv_at hl 1 rfl) ?_
  refine lv_iconst (v := 1) M.1 M.2.1 dL_law_53 (by decide) ?_
  refine lv_bipush (v := 10) M.1 M.2.1 dL_law_54 (by decide) ?_
  refine lv_aload_n M.1 M.2.1 dL_law_56 rfl (lv_at hl 0 rfl) ?_
  refine lv_iconst (v := 2) M.1 M.2.1 dL_law_57 (by decide) ?_
  refine lv_bipush (v := 40) M.1 M.2.1 dL_law_58 (by decide) ?_
  obtain ⟨v_9, σ_10, h_11, hr⟩ := cbd hr
  refine x_callI (x_runS M K hB hl.1 [.ref (gS Γ 6), .int 2, .int 40] (rest := [.int 10, .int 1, .ref (Γ.1 0)]) rfl (c_L_cell l Γ D 2 40 hD σ_7 (v_9, σ_10) h_11) cy_L_cell wd_112 ⟨rfl, rfl, Nat.le_of_ble_eq_true rfl, Nat.le_of_ble_eq_true rfl⟩ (Nat.le_of_ble_eq_true rfl) hz dL_law_60) hB (fun H locs hB => ?_)
  replace hB : Bd Γ σ_10 s H locs := hB
  refine lv_iadd M.1 M.2.1 dL_law_63 ?_
  obtain ⟨v_12, σ_13, h_14, hr⟩ := cbd hr
  refine x_callI (x_runV M K hB hl.1 [.int 1, .int (10 + v_9)] (rest := []) rfl (c_X4_rule l Γ 1 (10 + v_9)  σ_10 (v_12, σ_13) h_14) cy_X4_rule (x_recv K hB isK_0.2 (ent_4 isK_0.1) rfl) wd_113 ⟨rfl, rfl, Nat.le_of_ble_eq_true rfl, Nat.le_of_ble_eq_true rfl⟩ (Nat.le_of_ble_eq_true rfl) hz dL_law_64) hB (fun H locs hB => ?_)
  replace hB : Bd Γ σ_13 s H locs := hB
  refine lv_pop M.1 M.2.1 dL_law_67 rfl ?_
  refine lv_aload_n M.1 M.2.1 dL_law_68 rfl (lv_at hl 1 rfl) ?_
  refine lv_iconst (v := 2) M.1 M.2.1 dL_law_69 (by decide) ?_
  refine lv_iconst (v := 1) M.1 M.2.1 dL_law_70 (by decide) ?_
  refine lv_aload_n M.1 M.2.1 dL_law_71 rfl (lv_at hl 0 rfl) ?_
  refine lv_iconst (v := 3) M.1 M.2.1 dL_law_72 (by decide) ?_
  refine lv_bipush (v := 8) M.1 M.2.1 dL_law_73 (by decide) ?_
  obtain ⟨v_15, σ_16, h_17, hr⟩ := cbd hr
  refine x_callI (x_runS M K hB hl.1 [.ref (gS Γ 6), .int 3, .int 8] (rest := [.int 1, .int 2, .ref (Γ.1 0)]) rfl (c_L_cell l Γ D 3 8 hD σ_13 (v_15, σ_16) h_17) cy_L_cell wd_112 ⟨rfl, rfl, Nat.le_of_ble_eq_true rfl, Nat.le_of_ble_eq_true rfl⟩ (Nat.le_of_ble_eq_true rfl) hz dL_law_75) hB (fun H locs hB => ?_)
  replace hB : Bd Γ σ_16 s H locs := hB
  refine lv_iadd M.1 M.2.1 dL_law_78 ?_
  obtain ⟨v_18, σ_19, h_20, hr⟩ := cbd hr
  refine x_callI (x_runV M K hB hl.1 [.int 2, .int (1 + v_15)] (rest := []) rfl (c_X4_rule l Γ 2 (1 + v_15)  σ_16 (v_18, σ_19) h_20) cy_X4_rule (x_recv K hB isK_0.2 (ent_4 isK_0.1) rfl) wd_113 ⟨rfl, rfl, Nat.le_of_ble_eq_true rfl, Nat.le_of_ble_eq_true rfl⟩ (Nat.le_of_ble_eq_true rfl) hz dL_law_79) hB (fun H locs hB => ?_)
  replace hB : Bd Γ σ_19 s H locs := hB
  refine lv_pop M.1 M.2.1 dL_law_82 rfl ?_
  refine lv_aload_n M.1 M.2.1 dL_law_83 rfl (lv_at hl 1 rfl) ?_
  refine lv_iconst (v := 3) M.1 M.2.1 dL_law_84 (by decide) ?_
  refine lv_aload_n M.1 M.2.1 dL_law_85 rfl (lv_at hl 0 rfl) ?_
  refine lv_iconst (v := 4) M.1 M.2.1 dL_law_86 (by decide) ?_
  refine lv_bipush (v := 30) M.1 M.2.1 dL_law_87 (by decide) ?_
  obtain ⟨v_21, σ_22, h_23, hr⟩ := cbd hr
  refine x_callI (x_runS M K hB hl.1 [.ref (gS Γ 6), .int 4, .int 30] (rest := [.int 3, .ref (Γ.1 0)]) rfl (c_L_cell l Γ D 4 30 hD σ_19 (v_21, σ_22) h_23) cy_L_cell wd_112 ⟨rfl, rfl, Nat.le_of_ble_eq_true rfl, Nat.le_of_ble_eq_true rfl⟩ (Nat.le_of_ble_eq_true rfl) hz dL_law_89) hB (fun H locs hB => ?_)
  replace hB : Bd Γ σ_22 s H locs := hB
  obtain ⟨v_24, σ_25, h_26, hr⟩ := cbd hr
  refine x_callI (x_runV M K hB hl.1 [.int 3, .int v_21] (rest := []) rfl (c_X4_rule l Γ 3 v_21  σ_22 (v_24, σ_25) h_26) cy_X4_rule (x_recv K hB isK_0.2 (ent_4 isK_0.1) rfl) wd_113 ⟨rfl, rfl, Nat.le_of_ble_eq_true rfl, Nat.le_of_ble_eq_true rfl⟩ (Nat.le_of_ble_eq_true rfl) hz dL_law_92) hB (fun H locs hB => ?_)
  replace hB : Bd Γ σ_25 s H locs := hB
  refine lv_pop M.1 M.2.1 dL_law_95 rfl ?_
  refine lv_aload_n M.1 M.2.1 dL_law_96 rfl (lv_at hl 1 rfl) ?_
  refine lv_iconst (v := 4) M.1 M.2.1 dL_law_97 (by decide) ?_
  refine lv_aload_n M.1 M.2.1 dL_law_98 rfl (lv_at hl 0 rfl) ?_
  refine lv_iconst (v := 5) M.1 M.2.1 dL_law_99 (by decide) ?_
  refine lv_iconst (v := 4) M.1 M.2.1 dL_law_100 (by decide) ?_
  obtain ⟨v_27, σ_28, h_29, hr⟩ := cbd hr
  refine x_callI (x_runS M K hB hl.1 [.ref (gS Γ 6), .int 5, .int 4] (rest := [.int 4, .ref (Γ.1 0)]) rfl (c_L_cell l Γ D 5 4 hD σ_25 (v_27, σ_28) h_29) cy_L_cell wd_112 ⟨rfl, rfl, Nat.le_of_ble_eq_true rfl, Nat.le_of_ble_eq_true rfl⟩ (Nat.le_of_ble_eq_true rfl) hz dL_law_101) hB (fun H locs hB => ?_)
  replace hB : Bd Γ σ_28 s H locs := hB
  obtain ⟨v_30, σ_31, h_32, hr⟩ := cbd hr
  refine x_callI (x_runV M K hB hl.1 [.int 4, .int v_27] (rest := []) rfl (c_X4_rule l Γ 4 v_27  σ_28 (v_30, σ_31) h_32) cy_X4_rule (x_recv K hB isK_0.2 (ent_4 isK_0.1) rfl) wd_113 ⟨rfl, rfl, Nat.le_of_ble_eq_true rfl, Nat.le_of_ble_eq_true rfl⟩ (Nat.le_of_ble_eq_true rfl) hz dL_law_104) hB (fun H locs hB => ?_)
  replace hB : Bd Γ σ_31 s H locs := hB
  refine lv_pop M.1 M.2.1 dL_law_107 rfl ?_
  refine lv_aload_n M.1 M.2.1 dL_law_108 rfl (lv_at hl 1 rfl) ?_
  refine lv_iconst (v := 5) M.1 M.2.1 dL_law_109 (by decide) ?_
  refine lv_iconst (v := 1) M.1 M.2.1 dL_law_110 (by decide) ?_
  refine lv_aload_n M.1 M.2.1 dL_law_111 rfl (lv_at hl 0 rfl) ?_
  refine lv_bipush (v := 6) M.1 M.2.1 dL_law_112 (by decide) ?_
  refine lv_bipush (v := 6) M.1 M.2.1 dL_law_114 (by decide) ?_
  obtain ⟨v_33, σ_34, h_35, hr⟩ := cbd hr
  refine x_callI (x_runS M K hB hl.1 [.ref (gS Γ 6), .int 6, .int 6] (rest := [.int 1, .int 5, .ref (Γ.1 0)]) rfl (c_L_cell l Γ D 6 6 hD σ_31 (v_33, σ_34) h_35) cy_L_cell wd_112 ⟨rfl, rfl, Nat.le_of_ble_eq_true rfl, Nat.le_of_ble_eq_true rfl⟩ (Nat.le_of_ble_eq_true rfl) hz dL_law_116) hB (fun H locs hB => ?_)
  replace hB : Bd Γ σ_34 s H locs := hB
  refine lv_iadd M.1 M.2.1 dL_law_119 ?_
  obtain ⟨v_36, σ_37, h_38, hr⟩ := cbd hr
  refine x_callI (x_runV M K hB hl.1 [.int 5, .int (1 + v_33)] (rest := []) rfl (c_X4_rule l Γ 5 (1 + v_33)  σ_34 (v_36, σ_37) h_38) cy_X4_rule (x_recv K hB isK_0.2 (ent_4 isK_0.1) rfl) wd_113 ⟨rfl, rfl, Nat.le_of_ble_eq_true rfl, Nat.le_of_ble_eq_true rfl⟩ (Nat.le_of_ble_eq_true rfl) hz dL_law_120) hB (fun H locs hB => ?_)
  replace hB : Bd Γ σ_37 s H locs := hB
  refine lv_pop M.1 M.2.1 dL_law_123 rfl ?_
  refine lv_aload_n M.1 M.2.1 dL_law_124 rfl (lv_at hl 1 rfl) ?_
  refine lv_bipush (v := 6) M.1 M.2.1 dL_law_125 (by decide) ?_
  refine lv_iconst (v := 5) M.1 M.2.1 dL_law_127 (by decide) ?_
  refine lv_aload_n M.1 M.2.1 dL_law_128 rfl (lv_at hl 0 rfl) ?_
  refine lv_bipush (v := 7) M.1 M.2.1 dL_law_129 (by decide) ?_
  refine lv_bipush (v := 60) M.1 M.2.1 dL_law_131 (by decide) ?_
  obtain ⟨v_39, σ_40, h_41, hr⟩ := cbd hr
  refine x_callI (x_runS M K hB hl.1 [.ref (gS Γ 6), .int 7, .int 60] (rest := [.int 5, .int 6, .ref (Γ.1 0)]) rfl (c_L_cell l Γ D 7 60 hD σ_37 (v_39, σ_40) h_41) cy_L_cell wd_112 ⟨rfl, rfl, Nat.le_of_ble_eq_true rfl, Nat.le_of_ble_eq_true rfl⟩ (Nat.le_of_ble_eq_true rfl) hz dL_law_133) hB (fun H locs hB => ?_)
  replace hB : Bd Γ σ_40 s H locs := hB
  refine lv_iadd M.1 M.2.1 dL_law_136 ?_
  obtain ⟨v_42, σ_43, h_44, hr⟩ := cbd hr
  refine x_callI (x_runV M K hB hl.1 [.int 6, .int (5 + v_39)] (rest := []) rfl (c_X4_rule l Γ 6 (5 + v_39)  σ_40 (v_42, σ_43) h_44) cy_X4_rule (x_recv K hB isK_0.2 (ent_4 isK_0.1) rfl) wd_113 ⟨rfl, rfl, Nat.le_of_ble_eq_true rfl, Nat.le_of_ble_eq_true rfl⟩ (Nat.le_of_ble_eq_true rfl) hz dL_law_137) hB (fun H locs hB => ?_)
  replace hB : Bd Γ σ_43 s H locs := hB
  refine lv_pop M.1 M.2.1 dL_law_140 rfl ?_
  refine lv_aload_n M.1 M.2.1 dL_law_141 rfl (lv_at hl 1 rfl) ?_
  refine lv_bipush (v := 7) M.1 M.2.1 dL_law_142 (by decide) ?_
  refine lv_iconst (v := 1) M.1 M.2.1 dL_law_144 (by decide) ?_
  refine lv_aload_n M.1 M.2.1 dL_law_145 rfl (lv_at hl 0 rfl) ?_
  refine lv_bipush (v := 8) M.1 M.2.1 dL_law_146 (by decide) ?_
  refine lv_iconst (v := 3) M.1 M.2.1 dL_law_148 (by decide) ?_
  obtain ⟨v_45, σ_46, h_47, hr⟩ := cbd hr
  refine x_callI (x_runS M K hB hl.1 [.ref (gS Γ 6), .int 8, .int 3] (rest := [.int 1, .int 7, .ref (Γ.1 0)]) rfl (c_L_cell l Γ D 8 3 hD σ_43 (v_45, σ_46) h_47) cy_L_cell wd_112 ⟨rfl, rfl, Nat.le_of_ble_eq_true rfl, Nat.le_of_ble_eq_true rfl⟩ (Nat.le_of_ble_eq_true rfl) hz dL_law_149) hB (fun H locs hB => ?_)
  replace hB : Bd Γ σ_46 s H locs := hB
  refine lv_iadd M.1 M.2.1 dL_law_152 ?_
  obtain ⟨v_48, σ_49, h_50, hr⟩ := cbd hr
  refine x_callI (x_runV M K hB hl.1 [.int 7, .int (1 + v_45)] (rest := []) rfl (c_X4_rule l Γ 7 (1 + v_45)  σ_46 (v_48, σ_49) h_50) cy_X4_rule (x_recv K hB isK_0.2 (ent_4 isK_0.1) rfl) wd_113 ⟨rfl, rfl, Nat.le_of_ble_eq_true rfl, Nat.le_of_ble_eq_true rfl⟩ (Nat.le_of_ble_eq_true rfl) hz dL_law_153) hB (fun H locs hB => ?_)
  replace hB : Bd Γ σ_49 s H locs := hB
  refine lv_pop M.1 M.2.1 dL_law_156 rfl ?_
  refine lv_iconst (v := 0) M.1 M.2.1 dL_law_157 (by decide) ?_
  refine lv_istore (lv' := [(6, .int 0), (0, .ref (gS Γ 6)), (1, .ref (Γ.1 0)), (2, .int n), (3, .ref (Γ.1 150)), (4, .ref (Γ.1 151)), (5, .ref (Γ.1 152))]) M.1 M.2.1 dL_law_158 hl (by decide) rfl (fun ls hl => ?_)
  exact w_L_law_160 M K hz hR hD n  FU n 0 _ _ _ _  hB (lv_sub hl [1, 2, 3, 4, 5, 6, 0] rfl) hr
