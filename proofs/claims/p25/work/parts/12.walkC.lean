abbrev rm_X0_tick : Room := { frames := 4, cells := 0, slots := 0, locals := 88 }
def f_X0_tick_29 (q : Nat)  (x1 : Int32) (σ : Sg) : Option (Int32 × Sg) :=
wb (st σ q 4 ((σ q 4) + 1)) fun σ_9 =>
if x1 = 0 ∨ x1 = 1 then some (x1, σ_9) else none
set_option maxHeartbeats 4000000 in
set_option maxRecDepth 100000 in
theorem w_X0_tick_29 {p : Program} {l : Launch} {e : Env} {s : State} {m : MethodId} {args : Array Value} {below : List Frame} {meth : Method} {c : Code} {Γ : GG} {res : Int32 × Sg} (M : MX RX0 cX0_tick 2 (some .boolean) p s m args meth c) (K : KK Γ s s.heap) {q : Nat} (hq : isB q) (x1 : Int32) (σ : Sg) (H : Heap) (locs : List Loc) (ls : Array Slot)  (hB : Bd Γ σ s H locs) (hl : lv_has ls 2 [(0, .ref (Γ.1 q)), (1, .int x1)]) (hr : f_X0_tick_29 q  x1 σ = some res) : WI Γ rm_X0_tick p l e s m args below meth c H locs res (F0 m 29 ls []) := by
  unfold f_X0_tick_29 at hr
  refine lv_aload_n M.1 M.2.1 dX0_tick_29 rfl (lv_at hl 0 rfl) ?_
  refine lv_dup M.1 M.2.1 dX0_tick_30 rfl ?_
  refine x_get0 M K hB (hq.k) 4 (by decide) wd_42 (v := .int (σ q 4)) rfl dX0_tick_31 ?_
  refine lv_iconst (v := 1) M.1 M.2.1 dX0_tick_34 (by decide) ?_
  refine lv_iadd M.1 M.2.1 dX0_tick_35 ?_
  obtain ⟨σ_9, e_10, hr⟩ := wbd hr
  refine x_put0 M K hB (hq.k) 4 (by decide) wd_42 dX0_tick_36 (fun H locs hB => ?_)
  rw [← e_10] at hB
  refine lv_iload_n M.1 M.2.1 dX0_tick_39 rfl (lv_at hl 1 rfl) ?_
  obtain ⟨g_11, hr⟩ := gd2 hr
  exact x_zret M hB (nar_z g_11) (Option.some.inj hr) dX0_tick_40
def f_X0_tick_0 (q : Nat)   (σ : Sg) : Option (Int32 × Sg) :=
if σ q 5 = 0 then
cb (f_X0_tickBooting_0 q σ) fun v_6 σ_7 =>
f_X0_tick_29 q  0 σ_7
else
if σ q 5 = 1 then
cb (f_X0_tickRunning_0 q σ) fun v_3 σ_4 =>
f_X0_tick_29 q  v_3 σ_4
else
f_X0_tick_29 q  0 σ
set_option maxHeartbeats 4000000 in
set_option maxRecDepth 100000 in
theorem w_X0_tick_0 {p : Program} {l : Launch} {e : Env} {s : State} {m : MethodId} {args : Array Value} {below : List Frame} {meth : Method} {c : Code} {Γ : GG} {res : Int32 × Sg} (M : MX RX0 cX0_tick 2 (some .boolean) p s m args meth c) (K : KK Γ s s.heap) {q : Nat} (hq : isB q)  (σ : Sg) (H : Heap) (locs : List Loc) (ls : Array Slot)  (hB : Bd Γ σ s H locs) (hl : lv_has ls 2 [(0, .ref (Γ.1 q))]) (hr : f_X0_tick_0 q   σ = some res) : WI Γ rm_X0_tick p l e s m args below meth c H locs res (F0 m 0 ls []) := by
  unfold f_X0_tick_0 at hr
  refine lv_iconst (v := 0) M.1 M.2.1 dX0_tick_0 (by decide) ?_
  refine lv_istore_n (lv' := [(1, .int 0), (0, .ref (Γ.1 q))]) M.1 M.2.1 dX0_tick_1 rfl hl (by decide) rfl (fun ls hl => ?_)
  refine lv_aload_n M.1 M.2.1 dX0_tick_2 rfl (lv_at hl 1 rfl) ?_
  refine x_get0 M K hB (hq.k) 5 (by decide) wd_32 (v := .int (σ q 5)) rfl dX0_tick_3 ?_
  refine lv_if_ne (tgt := 16) M.1 M.2.1 dX0_tick_6 (by decide) (fun c_1 => ?_) (fun c_1 => ?_)
  · rw [if_neg c_1] at hr
    refine lv_aload_n M.1 M.2.1 dX0_tick_16 rfl (lv_at hl 1 rfl) ?_
    refine x_get0 M K hB (hq.k) 5 (by decide) wd_32 (v := .int (σ q 5)) rfl dX0_tick_17 ?_
    refine lv_iconst (v := 1) M.1 M.2.1 dX0_tick_20 (by decide) ?_
    refine lv_icmp_ne (tgt := 29) M.1 M.2.1 dX0_tick_21 (by decide) (fun c_2 => ?_) (fun c_2 => ?_)
    · rw [if_neg c_2] at hr
      exact w_X0_tick_29 M K hq  0 _ _ _ _  hB (lv_sub hl [1, 0] rfl) hr
    · rw [if_pos c_2] at hr
      refine lv_aload_n M.1 M.2.1 dX0_tick_24 rfl (lv_at hl 1 rfl) ?_
      obtain ⟨v_3, σ_4, h_5, hr⟩ := cbd hr
      refine x_callI (x_runV M K hB hl.1 [] (rest := []) rfl (c_X0_tickRunning l Γ q hq σ (v_3, σ_4) h_5) cy_X0_tickRunning (x_recv K hB (hq.k).2 (ent_0 (hq.k).1) rfl) wd_56 ⟨rfl, rfl, Nat.le_of_ble_eq_true rfl, Nat.le_of_ble_eq_true rfl⟩ (Nat.le_of_ble_eq_true rfl) ⟨Nat.zero_le _, Nat.zero_le _⟩ dX0_tick_25) hB (fun H locs hB => ?_)
      replace hB : Bd Γ σ_4 s H locs := hB
      refine lv_istore_n (lv' := [(1, .int v_3), (0, .ref (Γ.1 q))]) M.1 M.2.1 dX0_tick_28 rfl hl (by decide) rfl (fun ls hl => ?_)
      exact w_X0_tick_29 M K hq  v_3 _ _ _ _  hB (lv_sub hl [1, 0] rfl) hr
  · rw [if_pos c_1] at hr
    refine lv_aload_n M.1 M.2.1 dX0_tick_9 rfl (lv_at hl 1 rfl) ?_
    obtain ⟨v_6, σ_7, h_8, hr⟩ := cbd hr
    refine x_callV (x_runV M K hB hl.1 [] (rest := []) rfl (c_X0_tickBooting l Γ q hq σ (v_6, σ_7) h_8) cy_X0_tickBooting (x_recv K hB (hq.k).2 (ent_0 (hq.k).1) rfl) wd_57 ⟨rfl, rfl, Nat.le_of_ble_eq_true rfl, Nat.le_of_ble_eq_true rfl⟩ (Nat.le_of_ble_eq_true rfl) ⟨Nat.zero_le _, Nat.zero_le _⟩ dX0_tick_10) hB (fun H locs hB => ?_)
    replace hB : Bd Γ σ_7 s H locs := hB
    refine lv_goto (tgt := 29) M.1 M.2.1 dX0_tick_13 (by decide) ?_
    exact w_X0_tick_29 M K hq  0 _ _ _ _  hB (lv_sub hl [1, 0] rfl) hr
theorem c_X0_tick (l : Launch) (Γ : GG) (q : Nat) (hq : isB q) (σ : Sg) (res : Int32 × Sg) (hr : f_X0_tick_0 q σ = some res) : Met l yX0_tick (Cond.code yX0_tick cX0_tick 2 (some .boolean) :: gtb) rm_X0_tick (va_Pc [.ref (Γ.1 q)] (GI Γ σ)) (QI Γ res) 0 0 (AD Γ) :=
  x_metI (by decide) [.ref (Γ.1 q)] (Nat.le_of_ble_eq_true rfl) (fun p e s m args below meth c M K ls hl hB => w_X0_tick_0 M K hq σ _ _ ls hB hl hr)
abbrev rm_X0_switchOffAndOn : Room := { frames := 1, cells := 0, slots := 0, locals := 20 }
def f_X0_switchOffAndOn_0 (q : Nat)   (σ : Sg) : Option (Int32 × Sg) :=
wb (st σ q 6 0) fun σ_1 =>
wb (st σ_1 q 7 0) fun σ_3 =>
cb (f_X0_boot_0 q σ_3) fun v_5 σ_6 =>
some (0, σ_6)
set_option maxHeartbeats 4000000 in
set_option maxRecDepth 100000 in
theorem w_X0_switchOffAndOn_0 {p : Program} {l : Launch} {e : Env} {s : State} {m : MethodId} {args : Array Value} {below : List Frame} {meth : Method} {c : Code} {Γ : GG} {res : Int32 × Sg} (M : MX RX0 cX0_switchOffAndOn 1 none p s m args meth c) (K : KK Γ s s.heap) {q : Nat} (hq : isB q)  (σ : Sg) (H : Heap) (locs : List Loc) (ls : Array Slot)  (hB : Bd Γ σ s H locs) (hl : lv_has ls 1 [(0, .ref (Γ.1 q))]) (hr : f_X0_switchOffAndOn_0 q   σ = some res) : WV Γ rm_X0_switchOffAndOn p l e s m args below meth c H locs res (F0 m 0 ls []) := by
  unfold f_X0_switchOffAndOn_0 at hr
  refine lv_aload_n M.1 M.2.1 dX0_switchOffAndOn_0 rfl (lv_at hl 0 rfl) ?_
  refine lv_iconst (v := 0) M.1 M.2.1 dX0_switchOffAndOn_1 (by decide) ?_
  obtain ⟨σ_1, e_2, hr⟩ := wbd hr
  refine x_put0 M K hB (hq.k) 6 (by decide) wd_43 dX0_switchOffAndOn_2 (fun H locs hB => ?_)
  rw [← e_2] at hB
  refine lv_aload_n M.1 M.2.1 dX0_switchOffAndOn_5 rfl (lv_at hl 0 rfl) ?_
  refine lv_iconst (v := 0) M.1 M.2.1 dX0_switchOffAndOn_6 (by decide) ?_
  obtain ⟨σ_3, e_4, hr⟩ := wbd hr
  refine x_put0 M K hB (hq.k) 7 (by decide) wd_46 dX0_switchOffAndOn_7 (fun H locs hB => ?_)
  rw [← e_4] at hB
  refine lv_aload_n M.1 M.2.1 dX0_switchOffAndOn_10 rfl (lv_at hl 0 rfl) ?_
  obtain ⟨v_5, σ_6, h_7, hr⟩ := cbd hr
  refine x_callV (x_runV M K hB hl.1 [] (rest := []) rfl (c_X0_boot l Γ q hq σ_3 (v_5, σ_6) h_7) cy_X0_boot (x_recv K hB (hq.k).2 (ent_0 (hq.k).1) rfl) wd_47 ⟨rfl, rfl, Nat.le_of_ble_eq_true rfl, Nat.le_of_ble_eq_true rfl⟩ (Nat.le_of_ble_eq_true rfl) ⟨Nat.zero_le _, Nat.zero_le _⟩ dX0_switchOffAndOn_11) hB (fun H locs hB => ?_)
  replace hB : Bd Γ σ_6 s H locs := hB
  exact x_vret M hB (Option.some.inj hr) dX0_switchOffAndOn_14
theorem c_X0_switchOffAndOn (l : Launch) (Γ : GG) (q : Nat) (hq : isB q) (σ : Sg) (res : Int32 × Sg) (hr : f_X0_switchOffAndOn_0 q σ = some res) : Met l yX0_switchOffAndOn (Cond.code yX0_switchOffAndOn cX0_switchOffAndOn 1 none :: gtb) rm_X0_switchOffAndOn (va_Pc [.ref (Γ.1 q)] (GI Γ σ)) (QV Γ res) 0 0 (AD Γ) :=
  x_metV (by decide) [.ref (Γ.1 q)] (Nat.le_of_ble_eq_true rfl) (fun p e s m args below meth c M K ls hl hB => w_X0_switchOffAndOn_0 M K hq σ _ _ ls hB hl hr)
abbrev rm_X0_ifRunning : Room := { frames := 0, cells := 0, slots := 0, locals := 0 }
def f_X0_ifRunning_13 (q : Nat) (a0 : Int32)  (s0 : Int32) (σ : Sg) : Option (Int32 × Sg) :=
some (s0, σ)
set_option maxHeartbeats 4000000 in
set_option maxRecDepth 100000 in
theorem w_X0_ifRunning_13 {p : Program} {l : Launch} {e : Env} {s : State} {m : MethodId} {args : Array Value} {below : List Frame} {meth : Method} {c : Code} {Γ : GG} {res : Int32 × Sg} (M : MX RX0 cX0_ifRunning 2 (some .int) p s m args meth c) (K : KK Γ s s.heap) {q : Nat} (hq : isB q) (a0 : Int32) (s0 : Int32) (σ : Sg) (H : Heap) (locs : List Loc) (ls : Array Slot)  (hB : Bd Γ σ s H locs) (hl : lv_has ls 2 []) (hr : f_X0_ifRunning_13 q a0  s0 σ = some res) : WI Γ rm_X0_ifRunning p l e s m args below meth c H locs res (F0 m 13 ls [.int s0]) := by
  unfold f_X0_ifRunning_13 at hr
  exact x_iret M hB (Option.some.inj hr) dX0_ifRunning_13
def f_X0_ifRunning_0 (q : Nat) (a0 : Int32)   (σ : Sg) : Option (Int32 × Sg) :=
if σ q 5 = 1 then
f_X0_ifRunning_13 q a0  a0 σ
else
f_X0_ifRunning_13 q a0  0 σ
set_option maxHeartbeats 4000000 in
set_option maxRecDepth 100000 in
theorem w_X0_ifRunning_0 {p : Program} {l : Launch} {e : Env} {s : State} {m : MethodId} {args : Array Value} {below : List Frame} {meth : Method} {c : Code} {Γ : GG} {res : Int32 × Sg} (M : MX RX0 cX0_ifRunning 2 (some .int) p s m args meth c) (K : KK Γ s s.heap) {q : Nat} (hq : isB q) (a0 : Int32)  (σ : Sg) (H : Heap) (locs : List Loc) (ls : Array Slot)  (hB : Bd Γ σ s H locs) (hl : lv_has ls 2 [(0, .ref (Γ.1 q)), (1, .int a0)]) (hr : f_X0_ifRunning_0 q a0   σ = some res) : WI Γ rm_X0_ifRunning p l e s m args below meth c H locs res (F0 m 0 ls []) := by
  unfold f_X0_ifRunning_0 at hr
  refine lv_aload_n M.1 M.2.1 dX0_ifRunning_0 rfl (lv_at hl 0 rfl) ?_
  refine x_get0 M K hB (hq.k) 5 (by decide) wd_32 (v := .int (σ q 5)) rfl dX0_ifRunning_1 ?_
  refine lv_iconst (v := 1) M.1 M.2.1 dX0_ifRunning_4 (by decide) ?_
  refine lv_icmp_ne (tgt := 12) M.1 M.2.1 dX0_ifRunning_5 (by decide) (fun c_1 => ?_) (fun c_1 => ?_)
  · rw [if_neg c_1] at hr
    refine lv_iconst (v := 0) M.1 M.2.1 dX0_ifRunning_12 (by decide) ?_
    exact w_X0_ifRunning_13 M K hq a0  0 _ _ _ _  hB (lv_sub hl [] rfl) hr
  · rw [if_pos c_1] at hr
    refine lv_iload_n M.1 M.2.1 dX0_ifRunning_8 rfl (lv_at hl 1 rfl) ?_
    refine lv_goto (tgt := 13) M.1 M.2.1 dX0_ifRunning_9 (by decide) ?_
    exact w_X0_ifRunning_13 M K hq a0  a0 _ _ _ _  hB (lv_sub hl [] rfl) hr
theorem c_X0_ifRunning (l : Launch) (Γ : GG) (q : Nat) (a0 : Int32) (hq : isB q) (σ : Sg) (res : Int32 × Sg) (hr : f_X0_ifRunning_0 q a0 σ = some res) : Met l yX0_ifRunning (Cond.code yX0_ifRunning cX0_ifRunning 2 (some .int) :: gtb) rm_X0_ifRunning (va_Pc [.ref (Γ.1 q), .int a0] (GI Γ σ)) (QI Γ res) 0 0 (AD Γ) :=
  x_metI (by decide) [.ref (Γ.1 q), .int a0] (Nat.le_of_ble_eq_true rfl) (fun p e s m args below meth c M K ls hl hB => w_X0_ifRunning_0 M K hq a0 σ _ _ ls hB hl hr)
abbrev rm_X0_expiredSet : Room := { frames := 0, cells := 0, slots := 0, locals := 0 }
def f_X0_expiredSet_30 (q : Nat) (rec_4 : Int32 → Int32 → Sg → Option (Int32 × Sg)) (x1 : Int32) (x2 : Int32) (σ : Sg) : Option (Int32 × Sg) :=
rec_4 x1 (x2 + 1) σ
set_option maxHeartbeats 4000000 in
set_option maxRecDepth 100000 in
theorem w_X0_expiredSet_30 {p : Program} {l : Launch} {e : Env} {s : State} {m : MethodId} {args : Array Value} {below : List Frame} {meth : Method} {c : Code} {Γ : GG} {res : Int32 × Sg} (M : MX RX0 cX0_expiredSet 3 (some .int) p s m args meth c) (K : KK Γ s s.heap) {q : Nat} (hq : isB q) (rec_4 : Int32 → Int32 → Sg → Option (Int32 × Sg)) (ih_4 : ∀ (x1 : Int32) (x2 : Int32) (σ : Sg) (H : Heap) (locs : List Loc) (ls : Array Slot) , Bd Γ σ s H locs → lv_has ls 3 [(0, .ref (Γ.1 q)), (1, .int x1), (2, .int x2)] → rec_4 x1 x2 σ = some res → WI Γ rm_X0_expiredSet p l e s m args below meth c H locs res (F0 m 4 ls [])) (x1 : Int32) (x2 : Int32) (σ : Sg) (H : Heap) (locs : List Loc) (ls : Array Slot)  (hB : Bd Γ σ s H locs) (hl : lv_has ls 3 [(0, .ref (Γ.1 q)), (1, .int x1), (2, .int x2)]) (hr : f_X0_expiredSet_30 q rec_4 x1 x2 σ = some res) : WI Γ rm_X0_expiredSet p l e s m args below meth c H locs res (F0 m 30 ls []) := by
  unfold f_X0_expiredSet_30 at hr
  refine lv_iinc (v := x2 + 1) (lv' := [(2, .int (x2 + 1)), (0, .ref (Γ.1 q)), (1, .int x1)]) M.1 M.2.1 dX0_expiredSet_30 hl (k := 2) rfl rfl (by decide) rfl (fun ls hl => ?_)
  refine lv_goto (tgt := 4) M.1 M.2.1 dX0_expiredSet_33 (by decide) ?_
  exact ih_4 x1 (x2 + 1) _ _ _ _  hB (lv_sub hl [1, 2, 0] rfl) hr
def f_X0_expiredSet_4 (q : Nat)  : Nat → Int32 → Int32 → Sg → Option (Int32 × Sg)
  | 0, _, _, _ => none
  | f + 1, x1, x2, σ => if σ q 3 ≤ x2 then
some (x1, σ)
else
if x2 < 0 ∨ 6 ≤ x2.toNatClampNeg then none else
if σ (q + 2 + 3 + 5 * x2.toNatClampNeg) 11 = 0 then
f_X0_expiredSet_30 q (f_X0_expiredSet_4 q  f) x1 x2 σ
else
f_X0_expiredSet_30 q (f_X0_expiredSet_4 q  f) (x1 ||| (1 <<< (x2 &&& 31))) x2 σ
set_option maxHeartbeats 4000000 in
set_option maxRecDepth 100000 in
theorem w_X0_expiredSet_4 {p : Program} {l : Launch} {e : Env} {s : State} {m : MethodId} {args : Array Value} {below : List Frame} {meth : Method} {c : Code} {Γ : GG} {res : Int32 × Sg} (M : MX RX0 cX0_expiredSet 3 (some .int) p s m args meth c) (K : KK Γ s s.heap) {q : Nat} (hq : isB q) : ∀ (f : Nat) (x1 : Int32) (x2 : Int32) (σ : Sg) (H : Heap) (locs : List Loc) (ls : Array Slot)  (hB : Bd Γ σ s H locs) (hl : lv_has ls 3 [(0, .ref (Γ.1 q)), (1, .int x1), (2, .int x2)]) (hr : f_X0_expiredSet_4 q  f x1 x2 σ = some res), WI Γ rm_X0_expiredSet p l e s m args below meth c H locs res (F0 m 4 ls []) := by
  intro f
  induction f with
  | zero => intros; rename_i hr; exact absurd hr (by rw [f_X0_expiredSet_4]; exact fun h => by cases h)
  | succ f ih_4 =>
    intro x1 x2 σ H locs ls  hB hl hr
    rw [f_X0_expiredSet_4] at hr
    refine lv_iload_n M.1 M.2.1 dX0_expiredSet_4 rfl (lv_at hl 2 rfl) ?_
    refine lv_aload_n M.1 M.2.1 dX0_expiredSet_5 rfl (lv_at hl 0 rfl) ?_
    refine x_get0 M K hB (hq.k) 3 (by decide) wd_37 (v := .int (σ q 3)) rfl dX0_expiredSet_6 ?_
    refine lv_icmp_ge (tgt := 36) M.1 M.2.1 dX0_expiredSet_9 (by decide) (fun c_1 => ?_) (fun c_1 => ?_)
    · rw [if_pos c_1] at hr
      refine lv_iload_n M.1 M.2.1 dX0_expiredSet_36 rfl (lv_at hl 1 rfl) ?_
      exact x_iret M hB (Option.some.inj hr) dX0_expiredSet_37
    · rw [if_neg c_1] at hr
      refine lv_aload_n M.1 M.2.1 dX0_expiredSet_12 rfl (lv_at hl 0 rfl) ?_
      refine x_get0 M K hB (hq.k) 1 (by decide) wd_38 (v := .ref (Γ.1 (q + 2))) rfl dX0_expiredSet_13 ?_
      refine lv_iload_n M.1 M.2.1 dX0_expiredSet_16 rfl (lv_at hl 2 rfl) ?_
      obtain ⟨g_2, hr⟩ := gd hr
      refine x_aaldT M K hB (hq.k2) g_2 dX0_expiredSet_17 ?_
      refine x_get3 M K hB ((isB.t hq (vp_lt g_2)).k) 11 (by decide) wd_48 (v := .int (σ (q + 2 + 3 + 5 * x2.toNatClampNeg) 11)) rfl dX0_expiredSet_18 ?_
      refine lv_if_eq (tgt := 30) M.1 M.2.1 dX0_expiredSet_21 (by decide) (fun c_3 => ?_) (fun c_3 => ?_)
      · rw [if_pos c_3] at hr
        exact w_X0_expiredSet_30 M K hq _ ih_4 x1 x2 _ _ _ _  hB (lv_sub hl [0, 1, 2] rfl) hr
      · rw [if_neg c_3] at hr
        refine lv_iload_n M.1 M.2.1 dX0_expiredSet_24 rfl (lv_at hl 1 rfl) ?_
        refine lv_iconst (v := 1) M.1 M.2.1 dX0_expiredSet_25 (by decide) ?_
        refine lv_iload_n M.1 M.2.1 dX0_expiredSet_26 rfl (lv_at hl 2 rfl) ?_
        refine lv_ishl M.1 M.2.1 dX0_expiredSet_27 ?_
        refine lv_ior M.1 M.2.1 dX0_expiredSet_28 ?_
        refine lv_istore_n (lv' := [(1, .int (x1 ||| (1 <<< (x2 &&& 31)))), (0, .ref (Γ.1 q)), (2, .int x2)]) M.1 M.2.1 dX0_expiredSet_29 rfl hl (by decide) rfl (fun ls hl => ?_)
        exact w_X0_expiredSet_30 M K hq _ ih_4 (x1 ||| (1 <<< (x2 &&& 31))) x2 _ _ _ _  hB (lv_sub hl [1, 0, 2] rfl) hr
def f_X0_expiredSet_0 (q : Nat)   (σ : Sg) : Option (Int32 × Sg) :=
f_X0_expiredSet_4 q  FU 0 0 σ
set_option maxHeartbeats 4000000 in
set_option maxRecDepth 100000 in
theorem w_X0_expiredSet_0 {p : Program} {l : Launch} {e : Env} {s : State} {m : MethodId} {args : Array Value} {below : List Frame} {meth : Method} {c : Code} {Γ : GG} {res : Int32 × Sg} (M : MX RX0 cX0_expiredSet 3 (some .int) p s m args meth c) (K : KK Γ s s.heap) {q : Nat} (hq : isB q)  (σ : Sg) (H : Heap) (locs : List Loc) (ls : Array Slot)  (hB : Bd Γ σ s H locs) (hl : lv_has ls 3 [(0, .ref (Γ.1 q))]) (hr : f_X0_expiredSet_0 q   σ = some res) : WI Γ rm_X0_expiredSet p l e s m args below meth c H locs res (F0 m 0 ls []) := by
  unfold f_X0_expiredSet_0 at hr
  refine lv_iconst (v := 0) M.1 M.2.1 dX0_expiredSet_0 (by decide) ?_
  refine lv_istore_n (lv' := [(1, .int 0), (0, .ref (Γ.1 q))]) M.1 M.2.1 dX0_expiredSet_1 rfl hl (by decide) rfl (fun ls hl => ?_)
  refine lv_iconst (v := 0) M.1 M.2.1 dX0_expiredSet_2 (by decide) ?_
  refine lv_istore_n (lv' := [(2, .int 0), (1, .int 0), (0, .ref (Γ.1 q))]) M.1 M.2.1 dX0_expiredSet_3 rfl hl (by decide) rfl (fun ls hl => ?_)
  exact w_X0_expiredSet_4 M K hq  FU 0 0 _ _ _ _  hB (lv_sub hl [2, 1, 0] rfl) hr
theorem c_X0_expiredSet (l : Launch) (Γ : GG) (q : Nat) (hq : isB q) (σ : Sg) (res : Int32 × Sg) (hr : f_X0_expiredSet_0 q σ = some res) : Met l yX0_expiredSet (Cond.code yX0_expiredSet cX0_expiredSet 3 (some .int) :: gtb) rm_X0_expiredSet (va_Pc [.ref (Γ.1 q)] (GI Γ σ)) (QI Γ res) 0 0 (AD Γ) :=
  x_metI (by decide) [.ref (Γ.1 q)] (Nat.le_of_ble_eq_true rfl) (fun p e s m args below meth c M K ls hl hB => w_X0_expiredSet_0 M K hq σ _ _ ls hB hl hr)
abbrev rm_X0_become : Room := { frames := 2, cells := 0, slots := 0, locals := 47 }
def f_X0_become_17 (q : Nat) (o0 : Nat)  : Nat → Int32 → Sg → Option (Int32 × Sg)
  | 0, _, _ => none
  | f + 1, x2, σ => if σ o0 3 ≤ x2 then
cb (f_X1_become_0 (q + 3) (o0 + 3) σ) fun v_4 σ_5 =>
wb (st σ_5 q 3 (σ_5 o0 3)) fun σ_7 =>
wb (st σ_7 q 4 (σ_7 o0 4)) fun σ_9 =>
wb (st σ_9 q 5 (σ_9 o0 5)) fun σ_11 =>
wb (st σ_11 q 6 (σ_11 o0 6)) fun σ_13 =>
wb (st σ_13 q 7 (σ_13 o0 7)) fun σ_15 =>
wb (st σ_15 q 8 (σ_15 o0 8)) fun σ_17 =>
wb (st σ_17 q 9 (σ_17 o0 9)) fun σ_19 =>
wb (st σ_19 q 10 (σ_19 o0 10)) fun σ_21 =>
wb (st σ_21 q 11 (σ_21 o0 11)) fun σ_23 =>
wb (st σ_23 q 12 (σ_23 o0 12)) fun σ_25 =>
some (0, σ_25)
else
if x2 < 0 ∨ 6 ≤ x2.toNatClampNeg then none else
if x2 < 0 ∨ 6 ≤ x2.toNatClampNeg then none else
cb (f_X3_become_0 (q + 2 + 3 + 5 * x2.toNatClampNeg) (o0 + 2 + 3 + 5 * x2.toNatClampNeg) σ) fun v_29 σ_30 =>
f_X0_become_17 q o0  f (x2 + 1) σ_30
set_option maxHeartbeats 4000000 in
set_option maxRecDepth 100000 in
theorem w_X0_become_17 {p : Program} {l : Launch} {e : Env} {s : State} {m : MethodId} {args : Array Value} {below : List Frame} {meth : Method} {c : Code} {Γ : GG} {res : Int32 × Sg} (M : MX RX0 cX0_become 3 none p s m args meth c) (K : KK Γ s s.heap) {q : Nat} (hq : isB q) {o0 : Nat} (ho0 : isB o0) : ∀ (f : Nat) (x2 : Int32) (σ : Sg) (H : Heap) (locs : List Loc) (ls : Array Slot)  (hB : Bd Γ σ s H locs) (hl : lv_has ls 3 [(0, .ref (Γ.1 q)), (1, .ref (Γ.1 o0)), (2, .int x2)]) (hr : f_X0_become_17 q o0  f x2 σ = some res), WV Γ rm_X0_become p l e s m args below meth c H locs res (F0 m 17 ls []) := by
  intro f
  induction f with
  | zero => intros; rename_i hr; exact absurd hr (by rw [f_X0_become_17]; exact fun h => by cases h)
  | succ f ih_17 =>
    intro x2 σ H locs ls  hB hl hr
    rw [f_X0_become_17] at hr
    refine lv_iload_n M.1 M.2.1 dX0_become_17 rfl (lv_at hl 2 rfl) ?_
    refine lv_aload_n M.1 M.2.1 dX0_become_18 rfl (lv_at hl 1 rfl) ?_
    refine x_get0 M K hB (ho0.k) 3 (by decide) wd_37 (v := .int (σ o0 3)) rfl dX0_become_19 ?_
    refine lv_icmp_ge (tgt := 46) M.1 M.2.1 dX0_become_22 (by decide) (fun c_3 => ?_) (fun c_3 => ?_)
    · rw [if_pos c_3] at hr
      refine lv_aload_n M.1 M.2.1 dX0_become_46 rfl (lv_at hl 0 rfl) ?_
      refine x_get0 M K hB (hq.k) 2 (by decide) wd_41 (v := .ref (Γ.1 (q + 3))) rfl dX0_become_47 ?_
      refine lv_aload_n M.1 M.2.1 dX0_become_50 rfl (lv_at hl 1 rfl) ?_
      refine x_get0 M K hB (ho0.k) 2 (by decide) wd_41 (v := .ref (Γ.1 (o0 + 3))) rfl dX0_become_51 ?_
      obtain ⟨v_4, σ_5, h_6, hr⟩ := cbd hr
      refine x_callV (x_runV M K hB hl.1 [.ref (Γ.1 (o0 + 3))] (rest := []) rfl (c_X1_become l Γ (q + 3) (o0 + 3) hq.bk ho0.bk σ (v_4, σ_5) h_6) cy_X1_become (x_recv K hB (hq.bk.k).2 (ent_1 (hq.bk.k).1) rfl) wd_59 ⟨rfl, rfl, Nat.le_of_ble_eq_true rfl, Nat.le_of_ble_eq_true rfl⟩ (Nat.le_of_ble_eq_true rfl) ⟨Nat.zero_le _, Nat.zero_le _⟩ dX0_become_54) hB (fun H locs hB => ?_)
      replace hB : Bd Γ σ_5 s H locs := hB
      refine lv_aload_n M.1 M.2.1 dX0_become_57 rfl (lv_at hl 0 rfl) ?_
      refine lv_aload_n M.1 M.2.1 dX0_become_58 rfl (lv_at hl 1 rfl) ?_
      refine x_get0 M K hB (ho0.k) 3 (by decide) wd_37 (v := .int (σ_5 o0 3)) rfl dX0_become_59 ?_
      obtain ⟨σ_7, e_8, hr⟩ := wbd hr
      refine x_put0 M K hB (hq.k) 3 (by decide) wd_37 dX0_become_62 (fun H locs hB => ?_)
      rw [← e_8] at hB
      refine lv_aload_n M.1 M.2.1 dX0_become_65 rfl (lv_at hl 0 rfl) ?_
      refine lv_aload_n M.1 M.2.1 dX0_become_66 rfl (lv_at hl 1 rfl) ?_
      refine x_get0 M K hB (ho0.k) 4 (by decide) wd_42 (v := .int (σ_7 o0 4)) rfl dX0_become_67 ?_
      obtain ⟨σ_9, e_10, hr⟩ := wbd hr
      refine x_put0 M K hB (hq.k) 4 (by decide) wd_42 dX0_become_70 (fun H locs hB => ?_)
      rw [← e_10] at hB
      refine lv_aload_n M.1 M.2.1 dX0_become_73 rfl (lv_at hl 0 rfl) ?_
      refine lv_aload_n M.1 M.2.1 dX0_become_74 rfl (lv_at hl 1 rfl) ?_
      refine x_get0 M K hB (ho0.k) 5 (by decide) wd_32 (v := .int (σ_9 o0 5)) rfl dX0_become_75 ?_
      obtain ⟨σ_11, e_12, hr⟩ := wbd hr
      refine x_put0 M K hB (hq.k) 5 (by decide) wd_32 dX0_become_78 (fun H locs hB => ?_)
      rw [← e_12] at hB
      refine lv_aload_n M.1 M.2.1 dX0_become_81 rfl (lv_at hl 0 rfl) ?_
      refine lv_aload_n M.1 M.2.1 dX0_become_82 rfl (lv_at hl 1 rfl) ?_
      refine x_get0 M K hB (ho0.k) 6 (by decide) wd_43 (v := .int (σ_11 o0 6)) rfl dX0_become_83 ?_
      obtain ⟨σ_13, e_14, hr⟩ := wbd hr
      refine x_put0 M K hB (hq.k) 6 (by decide) wd_43 dX0_become_86 (fun H locs hB => ?_)
      rw [← e_14] at hB
      refine lv_aload_n M.1 M.2.1 dX0_become_89 rfl (lv_at hl 0 rfl) ?_
      refine lv_aload_n M.1 M.2.1 dX0_become_90 rfl (lv_at hl 1 rfl) ?_
      refine x_get0 M K hB (ho0.k) 7 (by decide) wd_46 (v := .int (σ_13 o0 7)) rfl dX0_become_91 ?_
      obtain ⟨σ_15, e_16, hr⟩ := wbd hr
      refine x_put0 M K hB (hq.k) 7 (by decide) wd_46 dX0_become_94 (fun H locs hB => ?_)
      rw [← e_16] at hB
      refine lv_aload_n M.1 M.2.1 dX0_become_97 rfl (lv_at hl 0 rfl) ?_
      refine lv_aload_n M.1 M.2.1 dX0_become_98 rfl (lv_at hl 1 rfl) ?_
      refine x_get0 M K hB (ho0.k) 8 (by decide) wd_31 (v := .int (σ_15 o0 8)) rfl dX0_become_99 ?_
      obtain ⟨σ_17, e_18, hr⟩ := wbd hr
      refine x_put0 M K hB (hq.k) 8 (by decide) wd_31 dX0_become_102 (fun H locs hB => ?_)
      rw [← e_18] at hB
      refine lv_aload_n M.1 M.2.1 dX0_become_105 rfl (lv_at hl 0 rfl) ?_
      refine lv_aload_n M.1 M.2.1 dX0_become_106 rfl (lv_at hl 1 rfl) ?_
      refine x_get0 M K hB (ho0.k) 9 (by decide) wd_33 (v := .int (σ_17 o0 9)) rfl dX0_become_107 ?_
      obtain ⟨σ_19, e_20, hr⟩ := wbd hr
      refine x_put0 M K hB (hq.k) 9 (by decide) wd_33 dX0_become_110 (fun H locs hB => ?_)
      rw [← e_20] at hB
      refine lv_aload_n M.1 M.2.1 dX0_become_113 rfl (lv_at hl 0 rfl) ?_
      refine lv_aload_n M.1 M.2.1 dX0_become_114 rfl (lv_at hl 1 rfl) ?_
      refine x_get0 M K hB (ho0.k) 10 (by decide) wd_34 (v := .int (σ_19 o0 10)) rfl dX0_become_115 ?_
      obtain ⟨σ_21, e_22, hr⟩ := wbd hr
      refine x_put0 M K hB (hq.k) 10 (by decide) wd_34 dX0_become_118 (fun H locs hB => ?_)
      rw [← e_22] at hB
      refine lv_aload_n M.1 M.2.1 dX0_become_121 rfl (lv_at hl 0 rfl) ?_
      refine lv_aload_n M.1 M.2.1 dX0_become_122 rfl (lv_at hl 1 rfl) ?_
      refine x_get0 M K hB (ho0.k) 11 (by decide) wd_35 (v := .int (σ_21 o0 11)) rfl dX0_become_123 ?_
      obtain ⟨σ_23, e_24, hr⟩ := wbd hr
      refine x_put0 M K hB (hq.k) 11 (by decide) wd_35 dX0_become_126 (fun H locs hB => ?_)
      rw [← e_24] at hB
      refine lv_aload_n M.1 M.2.1 dX0_become_129 rfl (lv_at hl 0 rfl) ?_
      refine lv_aload_n M.1 M.2.1 dX0_become_130 rfl (lv_at hl 1 rfl) ?_
      refine x_get0 M K hB (ho0.k) 12 (by decide) wd_36 (v := .int (σ_23 o0 12)) rfl dX0_become_131 ?_
      obtain ⟨σ_25, e_26, hr⟩ := wbd hr
      refine x_put0 M K hB (hq.k) 12 (by decide) wd_36 dX0_become_134 (fun H locs hB => ?_)
      rw [← e_26] at hB
      exact x_vret M hB (Option.some.inj hr) dX0_become_137
    · rw [if_neg c_3] at hr
      refine lv_aload_n M.1 M.2.1 dX0_become_25 rfl (lv_at hl 0 rfl) ?_
      refine x_get0 M K hB (hq.k) 1 (by decide) wd_38 (v := .ref (Γ.1 (q + 2))) rfl dX0_become_26 ?_
      refine lv_iload_n M.1 M.2.1 dX0_become_29 rfl (lv_at hl 2 rfl) ?_
      obtain ⟨g_27, hr⟩ := gd hr
      refine x_aaldT M K hB (hq.k2) g_27 dX0_become_30 ?_
      refine lv_aload_n M.1 M.2.1 dX0_become_31 rfl (lv_at hl 1 rfl) ?_
      refine x_get0 M K hB (ho0.k) 1 (by decide) wd_38 (v := .ref (Γ.1 (o0 + 2))) rfl dX0_become_32 ?_
      refine lv_iload_n M.1 M.2.1 dX0_become_35 rfl (lv_at hl 2 rfl) ?_
      obtain ⟨g_28, hr⟩ := gd hr
      refine x_aaldT M K hB (ho0.k2) g_28 dX0_become_36 ?_
      obtain ⟨v_29, σ_30, h_31, hr⟩ := cbd hr
      refine x_callV (x_runV M K hB hl.1 [.ref (Γ.1 (o0 + 2 + 3 + 5 * x2.toNatClampNeg))] (rest := []) rfl (c_X3_become l Γ (q + 2 + 3 + 5 * x2.toNatClampNeg) (o0 + 2 + 3 + 5 * x2.toNatClampNeg) (isB.t hq (vp_lt g_27)) (isB.t ho0 (vp_lt g_28)) σ (v_29, σ_30) h_31) cy_X3_become (x_recv K hB ((isB.t hq (vp_lt g_27)).k).2 (ent_3 ((isB.t hq (vp_lt g_27)).k).1) rfl) wd_60 ⟨rfl, rfl, Nat.le_of_ble_eq_true rfl, Nat.le_of_ble_eq_true rfl⟩ (Nat.le_of_ble_eq_true rfl) ⟨Nat.zero_le _, Nat.zero_le _⟩ dX0_become_37) hB (fun H locs hB => ?_)
      replace hB : Bd Γ σ_30 s H locs := hB
      refine lv_iinc (v := x2 + 1) (lv' := [(2, .int (x2 + 1)), (0, .ref (Γ.1 q)), (1, .ref (Γ.1 o0))]) M.1 M.2.1 dX0_become_40 hl (k := 2) rfl rfl (by decide) rfl (fun ls hl => ?_)
      refine lv_goto (tgt := 17) M.1 M.2.1 dX0_become_43 (by decide) ?_
      exact ih_17 (x2 + 1) _ _ _ _  hB (lv_sub hl [1, 2, 0] rfl) hr
def f_X0_become_0 (q : Nat) (o0 : Nat)   (σ : Sg) : Option (Int32 × Sg) :=
wb (sr σ (q + 1) (va_cpy (σ (o0 + 1)) (σ (q + 1)) 0 0 8)) fun σ_1 =>
f_X0_become_17 q o0  FU 0 σ_1
set_option maxHeartbeats 4000000 in
set_option maxRecDepth 100000 in
theorem w_X0_become_0 {p : Program} {l : Launch} {e : Env} {s : State} {m : MethodId} {args : Array Value} {below : List Frame} {meth : Method} {c : Code} {Γ : GG} {res : Int32 × Sg} (M : MX RX0 cX0_become 3 none p s m args meth c) (K : KK Γ s s.heap) {q : Nat} (hq : isB q) {o0 : Nat} (ho0 : isB o0)  (σ : Sg) (H : Heap) (locs : List Loc) (ls : Array Slot)  (hB : Bd Γ σ s H locs) (hl : lv_has ls 3 [(0, .ref (Γ.1 q)), (1, .ref (Γ.1 o0))]) (hr : f_X0_become_0 q o0   σ = some res) : WV Γ rm_X0_become p l e s m args below meth c H locs res (F0 m 0 ls []) := by
  unfold f_X0_become_0 at hr
  refine lv_aload_n M.1 M.2.1 dX0_become_0 rfl (lv_at hl 1 rfl) ?_
  refine x_get0 M K hB (ho0.k) 0 (by decide) wd_40 (v := .ref (Γ.1 (o0 + 1))) rfl dX0_become_1 ?_
  refine lv_iconst (v := 0) M.1 M.2.1 dX0_become_4 (by decide) ?_
  refine lv_aload_n M.1 M.2.1 dX0_become_5 rfl (lv_at hl 0 rfl) ?_
  refine x_get0 M K hB (hq.k) 0 (by decide) wd_40 (v := .ref (Γ.1 (q + 1))) rfl dX0_become_6 ?_
  refine lv_iconst (v := 0) M.1 M.2.1 dX0_become_9 (by decide) ?_
  refine lv_bipush (v := 8) M.1 M.2.1 dX0_become_10 (by decide) ?_
  obtain ⟨σ_1, e_2, hr⟩ := wbd hr
  refine x_copy M K hB hl.1 (ho0.a1) (hq.a1) wd_58 wd_3 wd_4 wd_5 (by decide) (by decide) (by decide) (by decide) (by decide) (Nat.le_of_ble_eq_true rfl) (Nat.le_of_ble_eq_true rfl) dX0_become_12 (fun H locs hB => ?_)
  replace hB : Bd Γ (sr σ (q + 1) (va_cpy (σ (o0 + 1)) (σ (q + 1)) 0 0 8)) s H locs := hB
  rw [← e_2] at hB
  refine lv_iconst (v := 0) M.1 M.2.1 dX0_become_15 (by decide) ?_
  refine lv_istore_n (lv' := [(2, .int 0), (0, .ref (Γ.1 q)), (1, .ref (Γ.1 o0))]) M.1 M.2.1 dX0_become_16 rfl hl (by decide) rfl (fun ls hl => ?_)
  exact w_X0_become_17 M K hq ho0  FU 0 _ _ _ _  hB (lv_sub hl [1, 2, 0] rfl) hr
theorem c_X0_become (l : Launch) (Γ : GG) (q : Nat) (o0 : Nat) (hq : isB q) (ho0 : isB o0) (σ : Sg) (res : Int32 × Sg) (hr : f_X0_become_0 q o0 σ = some res) : Met l yX0_become (Cond.code yX0_become cX0_become 3 none :: gtb) rm_X0_become (va_Pc [.ref (Γ.1 q), .ref (Γ.1 o0)] (GI Γ σ)) (QV Γ res) 0 0 (AD Γ) :=
  x_metV (by decide) [.ref (Γ.1 q), .ref (Γ.1 o0)] (Nat.le_of_ble_eq_true rfl) (fun p e s m args below meth c M K ls hl hB => w_X0_become_0 M K hq ho0 σ _ _ ls hB hl hr)
abbrev rm_X0_ticksToReset : Room := { frames := 5, cells := 0, slots := 0, locals := 109 }
def f_X0_ticksToReset_2 (q : Nat) (a0 : Int32)  : Nat → Int32 → Int32 → Sg → Option (Int32 × Sg)
  | 0, _, _, _ => none
  | f + 1, x1, x2, σ => if x1 < x2 then
some ((-6), σ)
else
cb (f_X0_tick_0 q σ) fun v_2 σ_3 =>
if v_2 = 0 then
f_X0_ticksToReset_2 q a0  f x1 (x2 + 1) σ_3
else
some (x2, σ_3)
set_option maxHeartbeats 4000000 in
set_option maxRecDepth 100000 in
theorem w_X0_ticksToReset_2 {p : Program} {l : Launch} {e : Env} {s : State} {m : MethodId} {args : Array Value} {below : List Frame} {meth : Method} {c : Code} {Γ : GG} {res : Int32 × Sg} (M : MX RX0 cX0_ticksToReset 3 (some .int) p s m args meth c) (K : KK Γ s s.heap) {q : Nat} (hq : isB q) (a0 : Int32) : ∀ (f : Nat) (x1 : Int32) (x2 : Int32) (σ : Sg) (H : Heap) (locs : List Loc) (ls : Array Slot)  (hB : Bd Γ σ s H locs) (hl : lv_has ls 3 [(0, .ref (Γ.1 q)), (1, .int x1), (2, .int x2)]) (hr : f_X0_ticksToReset_2 q a0  f x1 x2 σ = some res), WI Γ rm_X0_ticksToReset p l e s m args below meth c H locs res (F0 m 2 ls []) := by
  intro f
  induction f with
  | zero => intros; rename_i hr; exact absurd hr (by rw [f_X0_ticksToReset_2]; exact fun h => by cases h)
  | succ f ih_2 =>
    intro x1 x2 σ H locs ls  hB hl hr
    rw [f_X0_ticksToReset_2] at hr
    refine lv_iload_n M.1 M.2.1 dX0_ticksToReset_2 rfl (lv_at hl 2 rfl) ?_
    refine lv_iload_n M.1 M.2.1 dX0_ticksToReset_3 rfl (lv_at hl 1 rfl) ?_
    refine lv_icmp_gt (tgt := 22) M.1 M.2.1 dX0_ticksToReset_4 (by decide) (fun c_1 => ?_) (fun c_1 => ?_)
    · rw [if_pos c_1] at hr
      refine lv_bipush (v := (-6)) M.1 M.2.1 dX0_ticksToReset_22 (by decide) ?_
      exact x_iret M hB (Option.some.inj hr) dX0_ticksToReset_24
    · rw [if_neg c_1] at hr
      refine lv_aload_n M.1 M.2.1 dX0_ticksToReset_7 rfl (lv_at hl 0 rfl) ?_
      obtain ⟨v_2, σ_3, h_4, hr⟩ := cbd hr
      refine x_callI (x_runV M K hB hl.1 [] (rest := []) rfl (c_X0_tick l Γ q hq σ (v_2, σ_3) h_4) cy_X0_tick (x_recv K hB (hq.k).2 (ent_0 (hq.k).1) rfl) wd_61 ⟨rfl, rfl, Nat.le_of_ble_eq_true rfl, Nat.le_of_ble_eq_true rfl⟩ (Nat.le_of_ble_eq_true rfl) ⟨Nat.zero_le _, Nat.zero_le _⟩ dX0_ticksToReset_8) hB (fun H locs hB => ?_)
      replace hB : Bd Γ σ_3 s H locs := hB
      refine lv_if_eq (tgt := 16) M.1 M.2.1 dX0_ticksToReset_11 (by decide) (fun c_5 => ?_) (fun c_5 => ?_)
      · rw [if_pos c_5] at hr
        refine lv_iinc (v := x2 + 1) (lv' := [(2, .int (x2 + 1)), (0, .ref (Γ.1 q)), (1, .int x1)]) M.1 M.2.1 dX0_ticksToReset_16 hl (k := 2) rfl rfl (by decide) rfl (fun ls hl => ?_)
        refine lv_goto (tgt := 2) M.1 M.2.1 dX0_ticksToReset_19 (by decide) ?_
        exact ih_2 x1 (x2 + 1) _ _ _ _  hB (lv_sub hl [1, 2, 0] rfl) hr
      · rw [if_neg c_5] at hr
        refine lv_iload_n M.1 M.2.1 dX0_ticksToReset_14 rfl (lv_at hl 2 rfl) ?_
        exact x_iret M hB (Option.some.inj hr) dX0_ticksToReset_15
def f_X0_ticksToReset_0 (q : Nat) (a0 : Int32)   (σ : Sg) : Option (Int32 × Sg) :=
f_X0_ticksToReset_2 q a0  FU a0 1 σ
set_option maxHeartbeats 4000000 in
set_option maxRecDepth 100000 in
theorem w_X0_ticksToReset_0 {p : Program} {l : Launch} {e : Env} {s : State} {m : MethodId} {args : Array Value} {below : List Frame} {meth : Method} {c : Code} {Γ : GG} {res : Int32 × Sg} (M : MX RX0 cX0_ticksToReset 3 (some .int) p s m args meth c) (K : KK Γ s s.heap) {q : Nat} (hq : isB q) (a0 : Int32)  (σ : Sg) (H : Heap) (locs : List Loc) (ls : Array Slot)  (hB : Bd Γ σ s H locs) (hl : lv_has ls 3 [(0, .ref (Γ.1 q)), (1, .int a0)]) (hr : f_X0_ticksToReset_0 q a0   σ = some res) : WI Γ rm_X0_ticksToReset p l e s m args below meth c H locs res (F0 m 0 ls []) := by
  unfold f_X0_ticksToReset_0 at hr
  refine lv_iconst (v := 1) M.1 M.2.1 dX0_ticksToReset_0 (by decide) ?_
  refine lv_istore_n (lv' := [(2, .int 1), (0, .ref (Γ.1 q)), (1, .int a0)]) M.1 M.2.1 dX0_ticksToReset_1 rfl hl (by decide) rfl (fun ls hl => ?_)
  exact w_X0_ticksToReset_2 M K hq a0  FU a0 1 _ _ _ _  hB (lv_sub hl [1, 2, 0] rfl) hr
theorem c_X0_ticksToReset (l : Launch) (Γ : GG) (q : Nat) (a0 : Int32) (hq : isB q) (σ : Sg) (res : Int32 × Sg) (hr : f_X0_ticksToReset_0 q a0 σ = some res) : Met l yX0_ticksToReset (Cond.code yX0_ticksToReset cX0_ticksToReset 3 (some .int) :: gtb) rm_X0_ticksToReset (va_Pc [.ref (Γ.1 q), .int a0] (GI Γ σ)) (QI Γ res) 0 0 (AD Γ) :=
  x_metI (by decide) [.ref (Γ.1 q), .int a0] (Nat.le_of_ble_eq_true rfl) (fun p e s m args below meth c M K ls hl hB => w_X0_ticksToReset_0 M K hq a0 σ _ _ ls hB hl hr)
abbrev rm_X4_isAllowed : Room := { frames := 1, cells := 0, slots := 0, locals := 22 }
def f_X4_isAllowed_34 (a0 : Int32) (a1 : Int32) (t2 : Nat) (t3 : Nat)  (s0 : Int32) (σ : Sg) : Option (Int32 × Sg) :=
if s0 = 0 ∨ s0 = 1 then some (s0, σ) else none
set_option maxHeartbeats 4000000 in
set_option maxRecDepth 100000 in
theorem w_X4_isAllowed_34 {p : Program} {l : Launch} {e : Env} {s : State} {m : MethodId} {args : Array Value} {below : List Frame} {meth : Method} {c : Code} {Γ : GG} {res : Int32 × Sg} (M : MX RX4 cX4_isAllowed 4 (some .boolean) p s m args meth c) (K : KK Γ s s.heap) (a0 : Int32) (a1 : Int32) {t2 : Nat} (ht2 : t2 < 6) {t3 : Nat} (ht3 : t3 < 6) (s0 : Int32) (σ : Sg) (H : Heap) (locs : List Loc) (ls : Array Slot)  (hB : Bd Γ σ s H locs) (hl : lv_has ls 4 []) (hr : f_X4_isAllowed_34 a0 a1 t2 t3  s0 σ = some res) : WI Γ rm_X4_isAllowed p l e s m args below meth c H locs res (F0 m 34 ls [.int s0]) := by
  unfold f_X4_isAllowed_34 at hr
  obtain ⟨g_10, hr⟩ := gd2 hr
  exact x_zret M hB (nar_z g_10) (Option.some.inj hr) dX4_isAllowed_34
def f_X4_isAllowed_33 (a0 : Int32) (a1 : Int32) (t2 : Nat) (t3 : Nat)   (σ : Sg) : Option (Int32 × Sg) :=
f_X4_isAllowed_34 a0 a1 t2 t3  0 σ
set_option maxHeartbeats 4000000 in
set_option maxRecDepth 100000 in
theorem w_X4_isAllowed_33 {p : Program} {l : Launch} {e : Env} {s : State} {m : MethodId} {args : Array Value} {below : List Frame} {meth : Method} {c : Code} {Γ : GG} {res : Int32 × Sg} (M : MX RX4 cX4_isAllowed 4 (some .boolean) p s m args meth c) (K : KK Γ s s.heap) (a0 : Int32) (a1 : Int32) {t2 : Nat} (ht2 : t2 < 6) {t3 : Nat} (ht3 : t3 < 6)  (σ : Sg) (H : Heap) (locs : List Loc) (ls : Array Slot)  (hB : Bd Γ σ s H locs) (hl : lv_has ls 4 []) (hr : f_X4_isAllowed_33 a0 a1 t2 t3   σ = some res) : WI Γ rm_X4_isAllowed p l e s m args below meth c H locs res (F0 m 33 ls []) := by
  unfold f_X4_isAllowed_33 at hr
  refine lv_iconst (v := 0) M.1 M.2.1 dX4_isAllowed_33 (by decide) ?_
  exact w_X4_isAllowed_34 M K a0 a1 ht2 ht3  0 _ _ _ _  hB (lv_sub hl [] rfl) hr
def f_X4_isAllowed_0 (a0 : Int32) (a1 : Int32) (t2 : Nat) (t3 : Nat)   (σ : Sg) : Option (Int32 × Sg) :=
if a0 < 0 then
f_X4_isAllowed_33 a0 a1 t2 t3   σ
else
if 8 ≤ a0 then
f_X4_isAllowed_33 a0 a1 t2 t3   σ
else
if 8 ≤ a0 then
f_X4_isAllowed_33 a0 a1 t2 t3   σ
else
if a0 < 0 ∨ 8 ≤ a0.toNatClampNeg then none else
if a0 < 0 ∨ 8 ≤ a0.toNatClampNeg then none else
cb (f_X4_isWithin_0 a1 (tb t2 (a0.toNatClampNeg)) (tb t3 (a0.toNatClampNeg)) σ) fun v_6 σ_7 =>
if v_6 = 0 then
f_X4_isAllowed_33 a0 a1 t2 t3   σ_7
else
f_X4_isAllowed_34 a0 a1 t2 t3  1 σ_7
set_option maxHeartbeats 4000000 in
set_option maxRecDepth 100000 in
theorem w_X4_isAllowed_0 {p : Program} {l : Launch} {e : Env} {s : State} {m : MethodId} {args : Array Value} {below : List Frame} {meth : Method} {c : Code} {Γ : GG} {res : Int32 × Sg} (M : MX RX4 cX4_isAllowed 4 (some .boolean) p s m args meth c) (K : KK Γ s s.heap) (a0 : Int32) (a1 : Int32) {t2 : Nat} (ht2 : t2 < 6) {t3 : Nat} (ht3 : t3 < 6)  (σ : Sg) (H : Heap) (locs : List Loc) (ls : Array Slot)  (hB : Bd Γ σ s H locs) (hl : lv_has ls 4 [(0, .int a0), (1, .int a1), (2, .ref (gS Γ t2)), (3, .ref (gS Γ t3))]) (hr : f_X4_isAllowed_0 a0 a1 t2 t3   σ = some res) : WI Γ rm_X4_isAllowed p l e s m args below meth c H locs res (F0 m 0 ls []) := by
  unfold f_X4_isAllowed_0 at hr
  refine lv_iload_n M.1 M.2.1 dX4_isAllowed_0 rfl (lv_at hl 0 rfl) ?_
  refine lv_if_lt (tgt := 33) M.1 M.2.1 dX4_isAllowed_1 (by decide) (fun c_1 => ?_) (fun c_1 => ?_)
  · rw [if_pos c_1] at hr
    exact w_X4_isAllowed_33 M K a0 a1 ht2 ht3   _ _ _ _  hB (lv_sub hl [] rfl) hr
  · rw [if_neg c_1] at hr
    refine lv_iload_n M.1 M.2.1 dX4_isAllowed_4 rfl (lv_at hl 0 rfl) ?_
    refine lv_aload_n M.1 M.2.1 dX4_isAllowed_5 rfl (lv_at hl 2 rfl) ?_
    refine x_tlen M K hB ht2 dX4_isAllowed_6 ?_
    refine lv_icmp_ge (tgt := 33) M.1 M.2.1 dX4_isAllowed_7 (by decide) (fun c_2 => ?_) (fun c_2 => ?_)
    · rw [if_pos c_2] at hr
      exact w_X4_isAllowed_33 M K a0 a1 ht2 ht3   _ _ _ _  hB (lv_sub hl [] rfl) hr
    · rw [if_neg c_2] at hr
      refine lv_iload_n M.1 M.2.1 dX4_isAllowed_10 rfl (lv_at hl 0 rfl) ?_
      refine lv_aload_n M.1 M.2.1 dX4_isAllowed_11 rfl (lv_at hl 3 rfl) ?_
      refine x_tlen M K hB ht3 dX4_isAllowed_12 ?_
      refine lv_icmp_ge (tgt := 33) M.1 M.2.1 dX4_isAllowed_13 (by decide) (fun c_3 => ?_) (fun c_3 => ?_)
      · rw [if_pos c_3] at hr
        exact w_X4_isAllowed_33 M K a0 a1 ht2 ht3   _ _ _ _  hB (lv_sub hl [] rfl) hr
      · rw [if_neg c_3] at hr
        refine lv_iload_n M.1 M.2.1 dX4_isAllowed_16 rfl (lv_at hl 1 rfl) ?_
        refine lv_aload_n M.1 M.2.1 dX4_isAllowed_17 rfl (lv_at hl 2 rfl) ?_
        refine lv_iload_n M.1 M.2.1 dX4_isAllowed_18 rfl (lv_at hl 0 rfl) ?_
        obtain ⟨g_4, hr⟩ := gd hr
        refine x_ti M K hB ht2 g_4 dX4_isAllowed_19 ?_
        refine lv_aload_n M.1 M.2.1 dX4_isAllowed_20 rfl (lv_at hl 3 rfl) ?_
        refine lv_iload_n M.1 M.2.1 dX4_isAllowed_21 rfl (lv_at hl 0 rfl) ?_
        obtain ⟨g_5, hr⟩ := gd hr
        refine x_ti M K hB ht3 g_5 dX4_isAllowed_22 ?_
        obtain ⟨v_6, σ_7, h_8, hr⟩ := cbd hr
        refine x_callI (x_runS M K hB hl.1 [.int a1, .int (tb t2 (a0.toNatClampNeg)), .int (tb t3 (a0.toNatClampNeg))] (rest := []) rfl (c_X4_isWithin l Γ a1 (tb t2 (a0.toNatClampNeg)) (tb t3 (a0.toNatClampNeg))  σ (v_6, σ_7) h_8) cy_X4_isWithin wd_62 ⟨rfl, rfl, Nat.le_of_ble_eq_true rfl, Nat.le_of_ble_eq_true rfl⟩ (Nat.le_of_ble_eq_true rfl) ⟨Nat.zero_le _, Nat.zero_le _⟩ dX4_isAllowed_23) hB (fun H locs hB => ?_)
        replace hB : Bd Γ σ_7 s H locs := hB
        refine lv_if_eq (tgt := 33) M.1 M.2.1 dX4_isAllowed_26 (by decide) (fun c_9 => ?_) (fun c_9 => ?_)
        · rw [if_pos c_9] at hr
          exact w_X4_isAllowed_33 M K a0 a1 ht2 ht3   _ _ _ _  hB (lv_sub hl [] rfl) hr
        · rw [if_neg c_9] at hr
          refine lv_iconst (v := 1) M.1 M.2.1 dX4_isAllowed_29 (by decide) ?_
          refine lv_goto (tgt := 34) M.1 M.2.1 dX4_isAllowed_30 (by decide) ?_
          exact w_X4_isAllowed_34 M K a0 a1 ht2 ht3  1 _ _ _ _  hB (lv_sub hl [] rfl) hr
theorem c_X4_isAllowed (l : Launch) (Γ : GG) (a0 : Int32) (a1 : Int32) (t2 : Nat) (t3 : Nat) (ht2 : t2 < 6) (ht3 : t3 < 6) (σ : Sg) (res : Int32 × Sg) (hr : f_X4_isAllowed_0 a0 a1 t2 t3 σ = some res) : Met l yX4_isAllowed (Cond.code yX4_isAllowed cX4_isAllowed 4 (some .boolean) :: gtb) rm_X4_isAllowed (va_Pc [.int a0, .int a1, .ref (gS Γ t2), .ref (gS Γ t3)] (GI Γ σ)) (QI Γ res) 0 0 (AD Γ) :=
  x_metI (by decide) [.int a0, .int a1, .ref (gS Γ t2), .ref (gS Γ t3)] (Nat.le_of_ble_eq_true rfl) (fun p e s m args below meth c M K ls hl hB => w_X4_isAllowed_0 M K a0 a1 ht2 ht3 σ _ _ ls hB hl hr)
abbrev rm_X4_rule : Room := { frames := 2, cells := 0, slots := 0, locals := 45 }
def f_X4_rule_0 (a0 : Int32) (a1 : Int32)   (σ : Sg) : Option (Int32 × Sg) :=
cb (f_X4_isAllowed_0 a0 a1 0 1 σ) fun v_1 σ_2 =>
if v_1 = 0 then
some ((-2), σ_2)
else
if a0 < 0 ∨ 8 ≤ a0.toNatClampNeg then none else
if a0 < 0 ∨ 8 ≤ a0.toNatClampNeg then none else
wb (st σ_2 2 (a0.toNatClampNeg) a1) fun σ_7 =>
some (σ_2 2 (a0.toNatClampNeg), σ_7)
set_option maxHeartbeats 4000000 in
set_option maxRecDepth 100000 in
theorem w_X4_rule_0 {p : Program} {l : Launch} {e : Env} {s : State} {m : MethodId} {args : Array Value} {below : List Frame} {meth : Method} {c : Code} {Γ : GG} {res : Int32 × Sg} (M : MX RX4 cX4_rule 4 (some .int) p s m args meth c) (K : KK Γ s s.heap) (a0 : Int32) (a1 : Int32)  (σ : Sg) (H : Heap) (locs : List Loc) (ls : Array Slot)  (hB : Bd Γ σ s H locs) (hl : lv_has ls 4 [(0, .ref (Γ.1 0)), (1, .int a0), (2, .int a1)]) (hr : f_X4_rule_0 a0 a1   σ = some res) : WI Γ rm_X4_rule p l e s m args below meth c H locs res (F0 m 0 ls []) := by
  unfold f_X4_rule_0 at hr
  refine lv_iload_n M.1 M.2.1 dX4_rule_0 rfl (lv_at hl 1 rfl) ?_
  refine lv_iload_n M.1 M.2.1 dX4_rule_1 rfl (lv_at hl 2 rfl) ?_
  refine x_gets M K hB 0 (by decide) wd_63 dX4_rule_2 ?_
  refine x_gets M K hB 1 (by decide) wd_64 dX4_rule_5 ?_
  obtain ⟨v_1, σ_2, h_3, hr⟩ := cbd hr
  refine x_callI (x_runS M K hB hl.1 [.int a0, .int a1, .ref (gS Γ 0), .ref (gS Γ 1)] (rest := []) rfl (c_X4_isAllowed l Γ a0 a1 0 1 (by decide : 0 < 6) (by decide : 1 < 6) σ (v_1, σ_2) h_3) cy_X4_isAllowed wd_65 ⟨rfl, rfl, Nat.le_of_ble_eq_true rfl, Nat.le_of_ble_eq_true rfl⟩ (Nat.le_of_ble_eq_true rfl) ⟨Nat.zero_le _, Nat.zero_le _⟩ dX4_rule_8) hB (fun H locs hB => ?_)
  replace hB : Bd Γ σ_2 s H locs := hB
  refine lv_if_ne (tgt := 17) M.1 M.2.1 dX4_rule_11 (by decide) (fun c_4 => ?_) (fun c_4 => ?_)
  · rw [if_neg c_4] at hr
    refine lv_aload_n M.1 M.2.1 dX4_rule_17 rfl (lv_at hl 0 rfl) ?_
    refine x_get4 M K hB isK_0 0 (by decide) wd_66 (v := .ref (Γ.1 1)) rfl dX4_rule_18 ?_
    refine x_get0 M K hB (isB_1.k) 0 (by decide) wd_67 (v := .ref (Γ.1 2)) rfl dX4_rule_21 ?_
    refine lv_iload_n M.1 M.2.1 dX4_rule_24 rfl (lv_at hl 1 rfl) ?_
    obtain ⟨g_5, hr⟩ := gd hr
    refine x_iald M K hB (isB_1.a1) g_5 dX4_rule_25 ?_
    refine lv_istore_n (lv' := [(3, .int (σ_2 2 (a0.toNatClampNeg))), (0, .ref (Γ.1 0)), (1, .int a0), (2, .int a1)]) M.1 M.2.1 dX4_rule_26 rfl hl (by decide) rfl (fun ls hl => ?_)
    refine lv_aload_n M.1 M.2.1 dX4_rule_27 rfl (lv_at hl 1 rfl) ?_
    refine x_get4 M K hB isK_0 0 (by decide) wd_66 (v := .ref (Γ.1 1)) rfl dX4_rule_28 ?_
    refine x_get0 M K hB (isB_1.k) 0 (by decide) wd_67 (v := .ref (Γ.1 2)) rfl dX4_rule_31 ?_
    refine lv_iload_n M.1 M.2.1 dX4_rule_34 rfl (lv_at hl 2 rfl) ?_
    refine lv_iload_n M.1 M.2.1 dX4_rule_35 rfl (lv_at hl 3 rfl) ?_
    obtain ⟨g_6, hr⟩ := gd hr
    obtain ⟨σ_7, e_8, hr⟩ := wbd hr
    refine x_iast M K hB (isB_1.a1) g_6 dX4_rule_36 (fun H locs hB => ?_)
    rw [← e_8] at hB
    refine lv_iload_n M.1 M.2.1 dX4_rule_37 rfl (lv_at hl 0 rfl) ?_
    exact x_iret M hB (Option.some.inj hr) dX4_rule_38
  · rw [if_pos c_4] at hr
    refine lv_bipush (v := (-2)) M.1 M.2.1 dX4_rule_14 (by decide) ?_
    exact x_iret M hB (Option.some.inj hr) dX4_rule_16
theorem c_X4_rule (l : Launch) (Γ : GG) (a0 : Int32) (a1 : Int32)  (σ : Sg) (res : Int32 × Sg) (hr : f_X4_rule_0 a0 a1 σ = some res) : Met l yX4_rule (Cond.code yX4_rule cX4_rule 4 (some .int) :: gtb) rm_X4_rule (va_Pc [.ref (Γ.1 0), .int a0, .int a1] (GI Γ σ)) (QI Γ res) 0 0 (AD Γ) :=
  x_metI (by decide) [.ref (Γ.1 0), .int a0, .int a1] (Nat.le_of_ble_eq_true rfl) (fun p e s m args below meth c M K ls hl hB => w_X4_rule_0 M K a0 a1 σ _ _ ls hB hl hr)
abbrev rm_X4_addTask : Room := { frames := 2, cells := 0, slots := 0, locals := 49 }
def f_X4_addTask_28 (a0 : Int32) (a1 : Int32)   (σ : Sg) : Option (Int32 × Sg) :=
some ((-2), σ)
set_option maxHeartbeats 4000000 in
set_option maxRecDepth 100000 in
theorem w_X4_addTask_28 {p : Program} {l : Launch} {e : Env} {s : State} {m : MethodId} {args : Array Value} {below : List Frame} {meth : Method} {c : Code} {Γ : GG} {res : Int32 × Sg} (M : MX RX4 cX4_addTask 4 (some .int) p s m args meth c) (K : KK Γ s s.heap) (a0 : Int32) (a1 : Int32)  (σ : Sg) (H : Heap) (locs : List Loc) (ls : Array Slot)  (hB : Bd Γ σ s H locs) (hl : lv_has ls 4 []) (hr : f_X4_addTask_28 a0 a1   σ = some res) : WI Γ rm_X4_addTask p l e s m args below meth c H locs res (F0 m 28 ls []) := by
  unfold f_X4_addTask_28 at hr
  refine lv_bipush (v := (-2)) M.1 M.2.1 dX4_addTask_28 (by decide) ?_
  exact x_iret M hB (Option.some.inj hr) dX4_addTask_30
def f_X4_addTask_0 (a0 : Int32) (a1 : Int32)   (σ : Sg) : Option (Int32 × Sg) :=
cb (f_X4_isAllowed_0 0 a0 3 4 σ) fun v_1 σ_2 =>
if v_1 = 0 then
f_X4_addTask_28 a0 a1   σ_2
else
cb (f_X4_isAllowed_0 1 a1 3 4 σ_2) fun v_5 σ_6 =>
if v_5 = 0 then
f_X4_addTask_28 a0 a1   σ_6
else
if σ_6 1 3 < 6 then
if σ_6 1 3 < 0 ∨ 6 ≤ (σ_6 1 3).toNatClampNeg then none else
cb (f_X3_becomeNew_0 (3 + 3 + 5 * (σ_6 1 3).toNatClampNeg) a0 a1 σ_6) fun v_11 σ_12 =>
wb (st σ_12 1 3 ((σ_12 1 3) + 1)) fun σ_14 =>
some (σ_6 1 3, σ_14)
else
some ((-4), σ_6)
set_option maxHeartbeats 4000000 in
set_option maxRecDepth 100000 in
theorem w_X4_addTask_0 {p : Program} {l : Launch} {e : Env} {s : State} {m : MethodId} {args : Array Value} {below : List Frame} {meth : Method} {c : Code} {Γ : GG} {res : Int32 × Sg} (M : MX RX4 cX4_addTask 4 (some .int) p s m args meth c) (K : KK Γ s s.heap) (a0 : Int32) (a1 : Int32)  (σ : Sg) (H : Heap) (locs : List Loc) (ls : Array Slot)  (hB : Bd Γ σ s H locs) (hl : lv_has ls 4 [(0, .ref (Γ.1 0)), (1, .int a0), (2, .int a1)]) (hr : f_X4_addTask_0 a0 a1   σ = some res) : WI Γ rm_X4_addTask p l e s m args below meth c H locs res (F0 m 0 ls []) := by
  unfold f_X4_addTask_0 at hr
  refine lv_iconst (v := 0) M.1 M.2.1 dX4_addTask_0 (by decide) ?_
  refine lv_iload_n M.1 M.2.1 dX4_addTask_1 rfl (lv_at hl 1 rfl) ?_
  refine x_gets M K hB 3 (by decide) wd_68 dX4_addTask_2 ?_
  refine x_gets M K hB 4 (by decide) wd_69 dX4_addTask_5 ?_
  obtain ⟨v_1, σ_2, h_3, hr⟩ := cbd hr
  refine x_callI (x_runS M K hB hl.1 [.int 0, .int a0, .ref (gS Γ 3), .ref (gS Γ 4)] (rest := []) rfl (c_X4_isAllowed l Γ 0 a0 3 4 (by decide : 3 < 6) (by decide : 4 < 6) σ (v_1, σ_2) h_3) cy_X4_isAllowed wd_65 ⟨rfl, rfl, Nat.le_of_ble_eq_true rfl, Nat.le_of_ble_eq_true rfl⟩ (Nat.le_of_ble_eq_true rfl) ⟨Nat.zero_le _, Nat.zero_le _⟩ dX4_addTask_8) hB (fun H locs hB => ?_)
  replace hB : Bd Γ σ_2 s H locs := hB
  refine lv_if_eq (tgt := 28) M.1 M.2.1 dX4_addTask_11 (by decide) (fun c_4 => ?_) (fun c_4 => ?_)
  · rw [if_pos c_4] at hr
    exact w_X4_addTask_28 M K a0 a1   _ _ _ _  hB (lv_sub hl [] rfl) hr
  · rw [if_neg c_4] at hr
    refine lv_iconst (v := 1) M.1 M.2.1 dX4_addTask_14 (by decide) ?_
    refine lv_iload_n M.1 M.2.1 dX4_addTask_15 rfl (lv_at hl 2 rfl) ?_
    refine x_gets M K hB 3 (by decide) wd_68 dX4_addTask_16 ?_
    refine x_gets M K hB 4 (by decide) wd_69 dX4_addTask_19 ?_
    obtain ⟨v_5, σ_6, h_7, hr⟩ := cbd hr
    refine x_callI (x_runS M K hB hl.1 [.int 1, .int a1, .ref (gS Γ 3), .ref (gS Γ 4)] (rest := []) rfl (c_X4_isAllowed l Γ 1 a1 3 4 (by decide : 3 < 6) (by decide : 4 < 6) σ_2 (v_5, σ_6) h_7) cy_X4_isAllowed wd_65 ⟨rfl, rfl, Nat.le_of_ble_eq_true rfl, Nat.le_of_ble_eq_true rfl⟩ (Nat.le_of_ble_eq_true rfl) ⟨Nat.zero_le _, Nat.zero_le _⟩ dX4_addTask_22) hB (fun H locs hB => ?_)
    replace hB : Bd Γ σ_6 s H locs := hB
    refine lv_if_ne (tgt := 31) M.1 M.2.1 dX4_addTask_25 (by decide) (fun c_8 => ?_) (fun c_8 => ?_)
    · rw [if_neg c_8] at hr
      refine lv_aload_n M.1 M.2.1 dX4_addTask_31 rfl (lv_at hl 0 rfl) ?_
      refine x_get4 M K hB isK_0 0 (by decide) wd_66 (v := .ref (Γ.1 1)) rfl dX4_addTask_32 ?_
      refine x_get0 M K hB (isB_1.k) 3 (by decide) wd_70 (v := .int (σ_6 1 3)) rfl dX4_addTask_35 ?_
      refine lv_bipush (v := 6) M.1 M.2.1 dX4_addTask_38 (by decide) ?_
      refine lv_icmp_lt (tgt := 46) M.1 M.2.1 dX4_addTask_40 (by decide) (fun c_9 => ?_) (fun c_9 => ?_)
      · rw [if_pos c_9] at hr
        refine lv_aload_n M.1 M.2.1 dX4_addTask_46 rfl (lv_at hl 0 rfl) ?_
        refine x_get4 M K hB isK_0 0 (by decide) wd_66 (v := .ref (Γ.1 1)) rfl dX4_addTask_47 ?_
        refine x_get0 M K hB (isB_1.k) 3 (by decide) wd_70 (v := .int (σ_6 1 3)) rfl dX4_addTask_50 ?_
        refine lv_istore_n (lv' := [(3, .int (σ_6 1 3)), (0, .ref (Γ.1 0)), (1, .int a0), (2, .int a1)]) M.1 M.2.1 dX4_addTask_53 rfl hl (by decide) rfl (fun ls hl => ?_)
        refine lv_aload_n M.1 M.2.1 dX4_addTask_54 rfl (lv_at hl 1 rfl) ?_
        refine x_get4 M K hB isK_0 0 (by decide) wd_66 (v := .ref (Γ.1 1)) rfl dX4_addTask_55 ?_
        refine x_get0 M K hB (isB_1.k) 1 (by decide) wd_71 (v := .ref (Γ.1 3)) rfl dX4_addTask_58 ?_
        refine lv_iload_n M.1 M.2.1 dX4_addTask_61 rfl (lv_at hl 0 rfl) ?_
        obtain ⟨g_10, hr⟩ := gd hr
        refine x_aaldT M K hB (isB_1.k2) g_10 dX4_addTask_62 ?_
        refine lv_iload_n M.1 M.2.1 dX4_addTask_63 rfl (lv_at hl 2 rfl) ?_
        refine lv_iload_n M.1 M.2.1 dX4_addTask_64 rfl (lv_at hl 3 rfl) ?_
        obtain ⟨v_11, σ_12, h_13, hr⟩ := cbd hr
        refine x_callV (x_runV M K hB hl.1 [.int a0, .int a1] (rest := []) rfl (c_X3_becomeNew l Γ (3 + 3 + 5 * (σ_6 1 3).toNatClampNeg) a0 a1 (isB.t isB_1 (vp_lt g_10)) σ_6 (v_11, σ_12) h_13) cy_X3_becomeNew (x_recv K hB ((isB.t isB_1 (vp_lt g_10)).k).2 (ent_3 ((isB.t isB_1 (vp_lt g_10)).k).1) rfl) wd_72 ⟨rfl, rfl, Nat.le_of_ble_eq_true rfl, Nat.le_of_ble_eq_true rfl⟩ (Nat.le_of_ble_eq_true rfl) ⟨Nat.zero_le _, Nat.zero_le _⟩ dX4_addTask_65) hB (fun H locs hB => ?_)
        replace hB : Bd Γ σ_12 s H locs := hB
        refine lv_aload_n M.1 M.2.1 dX4_addTask_68 rfl (lv_at hl 1 rfl) ?_
        refine x_get4 M K hB isK_0 0 (by decide) wd_66 (v := .ref (Γ.1 1)) rfl dX4_addTask_69 ?_
        refine lv_dup M.1 M.2.1 dX4_addTask_72 rfl ?_
        refine x_get0 M K hB (isB_1.k) 3 (by decide) wd_70 (v := .int (σ_12 1 3)) rfl dX4_addTask_73 ?_
        refine lv_iconst (v := 1) M.1 M.2.1 dX4_addTask_76 (by decide) ?_
        refine lv_iadd M.1 M.2.1 dX4_addTask_77 ?_
        obtain ⟨σ_14, e_15, hr⟩ := wbd hr
        refine x_put0 M K hB (isB_1.k) 3 (by decide) wd_70 dX4_addTask_78 (fun H locs hB => ?_)
        rw [← e_15] at hB
        refine lv_iload_n M.1 M.2.1 dX4_addTask_81 rfl (lv_at hl 0 rfl) ?_
        exact x_iret M hB (Option.some.inj hr) dX4_addTask_82
      · rw [if_neg c_9] at hr
        refine lv_bipush (v := (-4)) M.1 M.2.1 dX4_addTask_43 (by decide) ?_
        exact x_iret M hB (Option.some.inj hr) dX4_addTask_45
    · rw [if_pos c_8] at hr
      exact w_X4_addTask_28 M K a0 a1   _ _ _ _  hB (lv_sub hl [] rfl) hr
theorem c_X4_addTask (l : Launch) (Γ : GG) (a0 : Int32) (a1 : Int32)  (σ : Sg) (res : Int32 × Sg) (hr : f_X4_addTask_0 a0 a1 σ = some res) : Met l yX4_addTask (Cond.code yX4_addTask cX4_addTask 4 (some .int) :: gtb) rm_X4_addTask (va_Pc [.ref (Γ.1 0), .int a0, .int a1] (GI Γ σ)) (QI Γ res) 0 0 (AD Γ) :=
  x_metI (by decide) [.ref (Γ.1 0), .int a0, .int a1] (Nat.le_of_ble_eq_true rfl) (fun p e s m args below meth c M K ls hl hB => w_X4_addTask_0 M K a0 a1 σ _ _ ls hB hl hr)
abbrev rm_X4_hasTask : Room := { frames := 1, cells := 0, slots := 0, locals := 22 }
def f_X4_hasTask_0 (a0 : Int32)   (σ : Sg) : Option (Int32 × Sg) :=
cb (f_X4_isWithin_0 a0 0 ((σ 1 3) - 1) σ) fun v_1 σ_2 =>
if v_1 = 0 ∨ v_1 = 1 then some (v_1, σ_2) else none
set_option maxHeartbeats 4000000 in
set_option maxRecDepth 100000 in
theorem w_X4_hasTask_0 {p : Program} {l : Launch} {e : Env} {s : State} {m : MethodId} {args : Array Value} {below : List Frame} {meth : Method} {c : Code} {Γ : GG} {res : Int32 × Sg} (M : MX RX4 cX4_hasTask 2 (some .boolean) p s m args meth c) (K : KK Γ s s.heap) (a0 : Int32)  (σ : Sg) (H : Heap) (locs : List Loc) (ls : Array Slot)  (hB : Bd Γ σ s H locs) (hl : lv_has ls 2 [(0, .ref (Γ.1 0)), (1, .int a0)]) (hr : f_X4_hasTask_0 a0   σ = some res) : WI Γ rm_X4_hasTask p l e s m args below meth c H locs res (F0 m 0 ls []) := by
  unfold f_X4_hasTask_0 at hr
  refine lv_iload_n M.1 M.2.1 dX4_hasTask_0 rfl (lv_at hl 1 rfl) ?_
  refine lv_iconst (v := 0) M.1 M.2.1 dX4_hasTask_1 (by decide) ?_
  refine lv_aload_n M.1 M.2.1 dX4_hasTask_2 rfl (lv_at hl 0 rfl) ?_
  refine x_get4 M K hB isK_0 0 (by decide) wd_66 (v := .ref (Γ.1 1)) rfl dX4_hasTask_3 ?_
  refine x_get0 M K hB (isB_1.k) 3 (by decide) wd_70 (v := .int (σ 1 3)) rfl dX4_hasTask_6 ?_
  refine lv_iconst (v := 1) M.1 M.2.1 dX4_hasTask_9 (by decide) ?_
  refine lv_isub M.1 M.2.1 dX4_hasTask_10 ?_
  obtain ⟨v_1, σ_2, h_3, hr⟩ := cbd hr
  refine x_callI (x_runS M K hB hl.1 [.int a0, .int 0, .int ((σ 1 3) - 1)] (rest := []) rfl (c_X4_isWithin l Γ a0 0 ((σ 1 3) - 1)  σ (v_1, σ_2) h_3) cy_X4_isWithin wd_62 ⟨rfl, rfl, Nat.le_of_ble_eq_true rfl, Nat.le_of_ble_eq_true rfl⟩ (Nat.le_of_ble_eq_true rfl) ⟨Nat.zero_le _, Nat.zero_le _⟩ dX4_hasTask_11) hB (fun H locs hB => ?_)
  replace hB : Bd Γ σ_2 s H locs := hB
  obtain ⟨g_4, hr⟩ := gd2 hr
  exact x_zret M hB (nar_z g_4) (Option.some.inj hr) dX4_hasTask_14
theorem c_X4_hasTask (l : Launch) (Γ : GG) (a0 : Int32)  (σ : Sg) (res : Int32 × Sg) (hr : f_X4_hasTask_0 a0 σ = some res) : Met l yX4_hasTask (Cond.code yX4_hasTask cX4_hasTask 2 (some .boolean) :: gtb) rm_X4_hasTask (va_Pc [.ref (Γ.1 0), .int a0] (GI Γ σ)) (QI Γ res) 0 0 (AD Γ) :=
  x_metI (by decide) [.ref (Γ.1 0), .int a0] (Nat.le_of_ble_eq_true rfl) (fun p e s m args below meth c M K ls hl hB => w_X4_hasTask_0 M K a0 σ _ _ ls hB hl hr)
abbrev rm_X4_set : Room := { frames := 2, cells := 0, slots := 0, locals := 45 }
def f_X4_set_0 (a0 : Int32) (a1 : Int32) (a2 : Int32)   (σ : Sg) : Option (Int32 × Sg) :=
cb (f_X4_hasTask_0 a0 σ) fun v_1 σ_2 =>
if v_1 = 0 then
some ((-1), σ_2)
else
cb (f_X4_isAllowed_0 a1 a2 3 4 σ_2) fun v_5 σ_6 =>
if v_5 = 0 then
some ((-2), σ_6)
else
if a0 < 0 ∨ 6 ≤ a0.toNatClampNeg then none else
if a1 < 0 ∨ 8 ≤ a1.toNatClampNeg then none else
if a1 < 0 ∨ 8 ≤ a1.toNatClampNeg then none else
wb (st σ_6 (3 + 3 + 5 * a0.toNatClampNeg + 1) (a1.toNatClampNeg) a2) fun σ_12 =>
some (σ_6 (3 + 3 + 5 * a0.toNatClampNeg + 1) (a1.toNatClampNeg), σ_12)
set_option maxHeartbeats 4000000 in
set_option maxRecDepth 100000 in
theorem w_X4_set_0 {p : Program} {l : Launch} {e : Env} {s : State} {m : MethodId} {args : Array Value} {below : List Frame} {meth : Method} {c : Code} {Γ : GG} {res : Int32 × Sg} (M : MX RX4 cX4_set 6 (some .int) p s m args meth c) (K : KK Γ s s.heap) (a0 : Int32) (a1 : Int32) (a2 : Int32)  (σ : Sg) (H : Heap) (locs : List Loc) (ls : Array Slot)  (hB : Bd Γ σ s H locs) (hl : lv_has ls 6 [(0, .ref (Γ.1 0)), (1, .int a0), (2, .int a1), (3, .int a2)]) (hr : f_X4_set_0 a0 a1 a2   σ = some res) : WI Γ rm_X4_set p l e s m args below meth c H locs res (F0 m 0 ls []) := by
  unfold f_X4_set_0 at hr
  refine lv_aload_n M.1 M.2.1 dX4_set_0 rfl (lv_at hl 0 rfl) ?_
  refine lv_iload_n M.1 M.2.1 dX4_set_1 rfl (lv_at hl 1 rfl) ?_
  obtain ⟨v_1, σ_2, h_3, hr⟩ := cbd hr
  refine x_callI (x_runV M K hB hl.1 [.int a0] (rest := []) rfl (c_X4_hasTask l Γ a0  σ (v_1, σ_2) h_3) cy_X4_hasTask (x_recv K hB isK_0.2 (ent_4 isK_0.1) rfl) wd_73 ⟨rfl, rfl, Nat.le_of_ble_eq_true rfl, Nat.le_of_ble_eq_true rfl⟩ (Nat.le_of_ble_eq_true rfl) ⟨Nat.zero_le _, Nat.zero_le _⟩ dX4_set_2) hB (fun H locs hB => ?_)
  replace hB : Bd Γ σ_2 s H locs := hB
  refine lv_if_ne (tgt := 10) M.1 M.2.1 dX4_set_5 (by decide) (fun c_4 => ?_) (fun c_4 => ?_)
  · rw [if_neg c_4] at hr
    refine lv_iload_n M.1 M.2.1 dX4_set_10 rfl (lv_at hl 2 rfl) ?_
    refine lv_iload_n M.1 M.2.1 dX4_set_11 rfl (lv_at hl 3 rfl) ?_
    refine x_gets M K hB 3 (by decide) wd_68 dX4_set_12 ?_
    refine x_gets M K hB 4 (by decide) wd_69 dX4_set_15 ?_
    obtain ⟨v_5, σ_6, h_7, hr⟩ := cbd hr
    refine x_callI (x_runS M K hB hl.1 [.int a1, .int a2, .ref (gS Γ 3), .ref (gS Γ 4)] (rest := []) rfl (c_X4_isAllowed l Γ a1 a2 3 4 (by decide : 3 < 6) (by decide : 4 < 6) σ_2 (v_5, σ_6) h_7) cy_X4_isAllowed wd_65 ⟨rfl, rfl, Nat.le_of_ble_eq_true rfl, Nat.le_of_ble_eq_true rfl⟩ (Nat.le_of_ble_eq_true rfl) ⟨Nat.zero_le _, Nat.zero_le _⟩ dX4_set_18) hB (fun H locs hB => ?_)
    replace hB : Bd Γ σ_6 s H locs := hB
    refine lv_if_ne (tgt := 27) M.1 M.2.1 dX4_set_21 (by decide) (fun c_8 => ?_) (fun c_8 => ?_)
    · rw [if_neg c_8] at hr
      refine lv_aload_n M.1 M.2.1 dX4_set_27 rfl (lv_at hl 0 rfl) ?_
      refine x_get4 M K hB isK_0 0 (by decide) wd_66 (v := .ref (Γ.1 1)) rfl dX4_set_28 ?_
      refine x_get0 M K hB (isB_1.k) 1 (by decide) wd_71 (v := .ref (Γ.1 3)) rfl dX4_set_31 ?_
      refine lv_iload_n M.1 M.2.1 dX4_set_34 rfl (lv_at hl 1 rfl) ?_
      obtain ⟨g_9, hr⟩ := gd hr
      refine x_aaldT M K hB (isB_1.k2) g_9 dX4_set_35 ?_
      refine x_get3 M K hB ((isB.t isB_1 (vp_lt g_9)).k) 0 (by decide) wd_74 (v := .ref (Γ.1 (3 + 3 + 5 * a0.toNatClampNeg + 1))) rfl dX4_set_36 ?_
      refine lv_astore (lv' := [(4, .ref (Γ.1 (3 + 3 + 5 * a0.toNatClampNeg + 1))), (0, .ref (Γ.1 0)), (1, .int a0), (2, .int a1), (3, .int a2)]) M.1 M.2.1 dX4_set_39 hl (by decide) rfl (fun ls hl => ?_)
      refine lv_aload M.1 M.2.1 dX4_set_41 (lv_at hl 0 rfl) ?_
      refine lv_iload_n M.1 M.2.1 dX4_set_43 rfl (lv_at hl 3 rfl) ?_
      obtain ⟨g_10, hr⟩ := gd hr
      refine x_iald M K hB ((isB.t isB_1 (vp_lt g_9)).a1) g_10 dX4_set_44 ?_
      refine lv_istore (lv' := [(5, .int (σ_6 (3 + 3 + 5 * a0.toNatClampNeg + 1) (a1.toNatClampNeg))), (4, .ref (Γ.1 (3 + 3 + 5 * a0.toNatClampNeg + 1))), (0, .ref (Γ.1 0)), (1, .int a0), (2, .int a1), (3, .int a2)]) M.1 M.2.1 dX4_set_45 hl (by decide) rfl (fun ls hl => ?_)
      refine lv_aload M.1 M.2.1 dX4_set_47 (lv_at hl 1 rfl) ?_
      refine lv_iload_n M.1 M.2.1 dX4_set_49 rfl (lv_at hl 4 rfl) ?_
      refine lv_iload_n M.1 M.2.1 dX4_set_50 rfl (lv_at hl 5 rfl) ?_
      obtain ⟨g_11, hr⟩ := gd hr
      obtain ⟨σ_12, e_13, hr⟩ := wbd hr
      refine x_iast M K hB ((isB.t isB_1 (vp_lt g_9)).a1) g_11 dX4_set_51 (fun H locs hB => ?_)
      rw [← e_13] at hB
      refine lv_iload M.1 M.2.1 dX4_set_52 (lv_at hl 0 rfl) ?_
      exact x_iret M hB (Option.some.inj hr) dX4_set_54
    · rw [if_pos c_8] at hr
      refine lv_bipush (v := (-2)) M.1 M.2.1 dX4_set_24 (by decide) ?_
      exact x_iret M hB (Option.some.inj hr) dX4_set_26
  · rw [if_pos c_4] at hr
    refine lv_iconst (v := (-1)) M.1 M.2.1 dX4_set_8 (by decide) ?_
    exact x_iret M hB (Option.some.inj hr) dX4_set_9
theorem c_X4_set (l : Launch) (Γ : GG) (a0 : Int32) (a1 : Int32) (a2 : Int32)  (σ : Sg) (res : Int32 × Sg) (hr : f_X4_set_0 a0 a1 a2 σ = some res) : Met l yX4_set (Cond.code yX4_set cX4_set 6 (some .int) :: gtb) rm_X4_set (va_Pc [.ref (Γ.1 0), .int a0, .int a1, .int a2] (GI Γ σ)) (QI Γ res) 0 0 (AD Γ) :=
  x_metI (by decide) [.ref (Γ.1 0), .int a0, .int a1, .int a2] (Nat.le_of_ble_eq_true rfl) (fun p e s m args below meth c M K ls hl hB => w_X4_set_0 M K a0 a1 a2 σ _ _ ls hB hl hr)
abbrev rm_X4_putFault : Room := { frames := 2, cells := 0, slots := 0, locals := 43 }
def f_X4_putFault_52 (a0 : Int32) (a1 : Int32) (a2 : Int32) (a3 : Int32) (a4 : Int32)   (σ : Sg) : Option (Int32 × Sg) :=
some ((-2), σ)
set_option maxHeartbeats 4000000 in
set_option maxRecDepth 100000 in
theorem w_X4_putFault_52 {p : Program} {l : Launch} {e : Env} {s : State} {m : MethodId} {args : Array Value} {below : List Frame} {meth : Method} {c : Code} {Γ : GG} {res : Int32 × Sg} (M : MX RX4 cX4_putFault 7 (some .int) p s m args meth c) (K : KK Γ s s.heap) (a0 : Int32) (a1 : Int32) (a2 : Int32) (a3 : Int32) (a4 : Int32)  (σ : Sg) (H : Heap) (locs : List Loc) (ls : Array Slot)  (hB : Bd Γ σ s H locs) (hl : lv_has ls 7 []) (hr : f_X4_putFault_52 a0 a1 a2 a3 a4   σ = some res) : WI Γ rm_X4_putFault p l e s m args below meth c H locs res (F0 m 52 ls []) := by
  unfold f_X4_putFault_52 at hr
  refine lv_bipush (v := (-2)) M.1 M.2.1 dX4_putFault_52 (by decide) ?_
  exact x_iret M hB (Option.some.inj hr) dX4_putFault_54
def f_X4_putFault_17 (a0 : Int32) (a1 : Int32) (a2 : Int32) (a3 : Int32) (a4 : Int32)   (σ : Sg) : Option (Int32 × Sg) :=
some ((-1), σ)
set_option maxHeartbeats 4000000 in
set_option maxRecDepth 100000 in
theorem w_X4_putFault_17 {p : Program} {l : Launch} {e : Env} {s : State} {m : MethodId} {args : Array Value} {below : List Frame} {meth : Method} {c : Code} {Γ : GG} {res : Int32 × Sg} (M : MX RX4 cX4_putFault 7 (some .int) p s m args meth c) (K : KK Γ s s.heap) (a0 : Int32) (a1 : Int32) (a2 : Int32) (a3 : Int32) (a4 : Int32)  (σ : Sg) (H : Heap) (locs : List Loc) (ls : Array Slot)  (hB : Bd Γ σ s H locs) (hl : lv_has ls 7 []) (hr : f_X4_putFault_17 a0 a1 a2 a3 a4   σ = some res) : WI Γ rm_X4_putFault p l e s m args below meth c H locs res (F0 m 17 ls []) := by
  unfold f_X4_putFault_17 at hr
  refine lv_iconst (v := (-1)) M.1 M.2.1 dX4_putFault_17 (by decide) ?_
  exact x_iret M hB (Option.some.inj hr) dX4_putFault_18
def f_X4_putFault_0 (a0 : Int32) (a1 : Int32) (a2 : Int32) (a3 : Int32) (a4 : Int32)   (σ : Sg) : Option (Int32 × Sg) :=
cb (f_X4_isWithin_0 a0 0 1 σ) fun v_1 σ_2 =>
if v_1 = 0 then
f_X4_putFault_17 a0 a1 a2 a3 a4   σ_2
else
cb (f_X4_hasTask_0 a1 σ_2) fun v_5 σ_6 =>
if v_5 = 0 then
f_X4_putFault_17 a0 a1 a2 a3 a4   σ_6
else
cb (f_X4_isWithin_0 a2 0 5 σ_6) fun v_9 σ_10 =>
if v_9 = 0 then
f_X4_putFault_52 a0 a1 a2 a3 a4   σ_10
else
cb (f_X4_isWithin_0 a3 0 5000 σ_10) fun v_13 σ_14 =>
if v_13 = 0 then
f_X4_putFault_52 a0 a1 a2 a3 a4   σ_14
else
cb (f_X4_isWithin_0 a4 0 500 σ_14) fun v_17 σ_18 =>
if v_17 = 0 then
f_X4_putFault_52 a0 a1 a2 a3 a4   σ_18
else
if a1 < 0 ∨ 6 ≤ a1.toNatClampNeg then none else
if a0 < 0 ∨ 2 ≤ a0.toNatClampNeg then none else
if a1 < 0 ∨ 6 ≤ a1.toNatClampNeg then none else
cb (f_X3_takeFault_0 (3 + 3 + 5 * a1.toNatClampNeg) a0 a2 a3 a4 σ_18) fun v_24 σ_25 =>
some (σ_18 (3 + 3 + 5 * a1.toNatClampNeg + 2) (a0.toNatClampNeg), σ_25)
set_option maxHeartbeats 4000000 in
set_option maxRecDepth 100000 in
theorem w_X4_putFault_0 {p : Program} {l : Launch} {e : Env} {s : State} {m : MethodId} {args : Array Value} {below : List Frame} {meth : Method} {c : Code} {Γ : GG} {res : Int32 × Sg} (M : MX RX4 cX4_putFault 7 (some .int) p s m args meth c) (K : KK Γ s s.heap) (a0 : Int32) (a1 : Int32) (a2 : Int32) (a3 : Int32) (a4 : Int32)  (σ : Sg) (H : Heap) (locs : List Loc) (ls : Array Slot)  (hB : Bd Γ σ s H locs) (hl : lv_has ls 7 [(0, .ref (Γ.1 0)), (1, .int a0), (2, .int a1), (3, .int a2), (4, .int a3), (5, .int a4)]) (hr : f_X4_putFault_0 a0 a1 a2 a3 a4   σ = some res) : WI Γ rm_X4_putFault p l e s m args below meth c H locs res (F0 m 0 ls []) := by
  unfold f_X4_putFault_0 at hr
  refine lv_iload_n M.1 M.2.1 dX4_putFault_0 rfl (lv_at hl 1 rfl) ?_
  refine lv_iconst (v := 0) M.1 M.2.1 dX4_putFault_1 (by decide) ?_
  refine lv_iconst (v := 1) M.1 M.2.1 dX4_putFault_2 (by decide) ?_
  obtain ⟨v_1, σ_2, h_3, hr⟩ := cbd hr
  refine x_callI (x_runS M K hB hl.1 [.int a0, .int 0, .int 1] (rest := []) rfl (c_X4_isWithin l Γ a0 0 1  σ (v_1, σ_2) h_3) cy_X4_isWithin wd_62 ⟨rfl, rfl, Nat.le_of_ble_eq_true rfl, Nat.le_of_ble_eq_true rfl⟩ (Nat.le_of_ble_eq_true rfl) ⟨Nat.zero_le _, Nat.zero_le _⟩ dX4_putFault_3) hB (fun H locs hB => ?_)
  replace hB : Bd Γ σ_2 s H locs := hB
  refine lv_if_eq (tgt := 17) M.1 M.2.1 dX4_putFault_6 (by decide) (fun c_4 => ?_) (fun c_4 => ?_)
  · rw [if_pos c_4] at hr
    exact w_X4_putFault_17 M K a0 a1 a2 a3 a4   _ _ _ _  hB (lv_sub hl [] rfl) hr
  · rw [if_neg c_4] at hr
    refine lv_aload_n M.1 M.2.1 dX4_putFault_9 rfl (lv_at hl 0 rfl) ?_
    refine lv_iload_n M.1 M.2.1 dX4_putFault_10 rfl (lv_at hl 2 rfl) ?_
    obtain ⟨v_5, σ_6, h_7, hr⟩ := cbd hr
    refine x_callI (x_runV M K hB hl.1 [.int a1] (rest := []) rfl (c_X4_hasTask l Γ a1  σ_2 (v_5, σ_6) h_7) cy_X4_hasTask (x_recv K hB isK_0.2 (ent_4 isK_0.1) rfl) wd_73 ⟨rfl, rfl, Nat.le_of_ble_eq_true rfl, Nat.le_of_ble_eq_true rfl⟩ (Nat.le_of_ble_eq_true rfl) ⟨Nat.zero_le _, Nat.zero_le _⟩ dX4_putFault_11) hB (fun H locs hB => ?_)
    replace hB : Bd Γ σ_6 s H locs := hB
    refine lv_if_ne (tgt := 19) M.1 M.2.1 dX4_putFault_14 (by decide) (fun c_8 => ?_) (fun c_8 => ?_)
    · rw [if_neg c_8] at hr
      refine lv_iload_n M.1 M.2.1 dX4_putFault_19 rfl (lv_at hl 3 rfl) ?_
      refine lv_iconst (v := 0) M.1 M.2.1 dX4_putFault_20 (by decide) ?_
      refine lv_iconst (v := 5) M.1 M.2.1 dX4_putFault_21 (by decide) ?_
      obtain ⟨v_9, σ_10, h_11, hr⟩ := cbd hr
      refine x_callI (x_runS M K hB hl.1 [.int a2, .int 0, .int 5] (rest := []) rfl (c_X4_isWithin l Γ a2 0 5  σ_6 (v_9, σ_10) h_11) cy_X4_isWithin wd_62 ⟨rfl, rfl, Nat.le_of_ble_eq_true rfl, Nat.le_of_ble_eq_true rfl⟩ (Nat.le_of_ble_eq_true rfl) ⟨Nat.zero_le _, Nat.zero_le _⟩ dX4_putFault_22) hB (fun H locs hB => ?_)
      replace hB : Bd Γ σ_10 s H locs := hB
      refine lv_if_eq (tgt := 52) M.1 M.2.1 dX4_putFault_25 (by decide) (fun c_12 => ?_) (fun c_12 => ?_)
      · rw [if_pos c_12] at hr
        exact w_X4_putFault_52 M K a0 a1 a2 a3 a4   _ _ _ _  hB (lv_sub hl [] rfl) hr
      · rw [if_neg c_12] at hr
        refine lv_iload M.1 M.2.1 dX4_putFault_28 (lv_at hl 4 rfl) ?_
        refine lv_iconst (v := 0) M.1 M.2.1 dX4_putFault_30 (by decide) ?_
        refine lv_sipush (v := 5000) M.1 M.2.1 dX4_putFault_31 (by decide) ?_
        obtain ⟨v_13, σ_14, h_15, hr⟩ := cbd hr
        refine x_callI (x_runS M K hB hl.1 [.int a3, .int 0, .int 5000] (rest := []) rfl (c_X4_isWithin l Γ a3 0 5000  σ_10 (v_13, σ_14) h_15) cy_X4_isWithin wd_62 ⟨rfl, rfl, Nat.le_of_ble_eq_true rfl, Nat.le_of_ble_eq_true rfl⟩ (Nat.le_of_ble_eq_true rfl) ⟨Nat.zero_le _, Nat.zero_le _⟩ dX4_putFault_34) hB (fun H locs hB => ?_)
        replace hB : Bd Γ σ_14 s H locs := hB
        refine lv_if_eq (tgt := 52) M.1 M.2.1 dX4_putFault_37 (by decide) (fun c_16 => ?_) (fun c_16 => ?_)
        · rw [if_pos c_16] at hr
          exact w_X4_putFault_52 M K a0 a1 a2 a3 a4   _ _ _ _  hB (lv_sub hl [] rfl) hr
        · rw [if_neg c_16] at hr
          refine lv_iload M.1 M.2.1 dX4_putFault_40 (lv_at hl 5 rfl) ?_
          refine lv_iconst (v := 0) M.1 M.2.1 dX4_putFault_42 (by decide) ?_
          refine lv_sipush (v := 500) M.1 M.2.1 dX4_putFault_43 (by decide) ?_
          obtain ⟨v_17, σ_18, h_19, hr⟩ := cbd hr
          refine x_callI (x_runS M K hB hl.1 [.int a4, .int 0, .int 500] (rest := []) rfl (c_X4_isWithin l Γ a4 0 500  σ_14 (v_17, σ_18) h_19) cy_X4_isWithin wd_62 ⟨rfl, rfl, Nat.le_of_ble_eq_true rfl, Nat.le_of_ble_eq_true rfl⟩ (Nat.le_of_ble_eq_true rfl) ⟨Nat.zero_le _, Nat.zero_le _⟩ dX4_putFault_46) hB (fun H locs hB => ?_)
          replace hB : Bd Γ σ_18 s H locs := hB
          refine lv_if_ne (tgt := 55) M.1 M.2.1 dX4_putFault_49 (by decide) (fun c_20 => ?_) (fun c_20 => ?_)
          · rw [if_neg c_20] at hr
            refine lv_aload_n M.1 M.2.1 dX4_putFault_55 rfl (lv_at hl 0 rfl) ?_
            refine x_get4 M K hB isK_0 0 (by decide) wd_66 (v := .ref (Γ.1 1)) rfl dX4_putFault_56 ?_
            refine x_get0 M K hB (isB_1.k) 1 (by decide) wd_71 (v := .ref (Γ.1 3)) rfl dX4_putFault_59 ?_
            refine lv_iload_n M.1 M.2.1 dX4_putFault_62 rfl (lv_at hl 2 rfl) ?_
            obtain ⟨g_21, hr⟩ := gd hr
            refine x_aaldT M K hB (isB_1.k2) g_21 dX4_putFault_63 ?_
            refine x_get3 M K hB ((isB.t isB_1 (vp_lt g_21)).k) 1 (by decide) wd_75 (v := .ref (Γ.1 (3 + 3 + 5 * a1.toNatClampNeg + 2))) rfl dX4_putFault_64 ?_
            refine lv_iload_n M.1 M.2.1 dX4_putFault_67 rfl (lv_at hl 1 rfl) ?_
            obtain ⟨g_22, hr⟩ := gd hr
            refine x_iald M K hB ((isB.t isB_1 (vp_lt g_21)).a2) g_22 dX4_putFault_68 ?_
            refine lv_istore (lv' := [(6, .int (σ_18 (3 + 3 + 5 * a1.toNatClampNeg + 2) (a0.toNatClampNeg))), (0, .ref (Γ.1 0)), (1, .int a0), (2, .int a1), (3, .int a2), (4, .int a3), (5, .int a4)]) M.1 M.2.1 dX4_putFault_69 hl (by decide) rfl (fun ls hl => ?_)
            refine lv_aload_n M.1 M.2.1 dX4_putFault_71 rfl (lv_at hl 1 rfl) ?_
            refine x_get4 M K hB isK_0 0 (by decide) wd_66 (v := .ref (Γ.1 1)) rfl dX4_putFault_72 ?_
            refine x_get0 M K hB (isB_1.k) 1 (by decide) wd_71 (v := .ref (Γ.1 3)) rfl dX4_putFault_75 ?_
            refine lv_iload_n M.1 M.2.1 dX4_putFault_78 rfl (lv_at hl 3 rfl) ?_
            obtain ⟨g_23, hr⟩ := gd hr
            refine x_aaldT M K hB (isB_1.k2) g_23 dX4_putFault_79 ?_
            refine lv_iload_n M.1 M.2.1 dX4_putFault_80 rfl (lv_at hl 2 rfl) ?_
            refine lv_iload_n M.1 M.2.1 dX4_putFault_81 rfl (lv_at hl 4 rfl) ?_
            refine lv_iload M.1 M.2.1 dX4_putFault_82 (lv_at hl 5 rfl) ?_
            refine lv_iload M.1 M.2.1 dX4_putFault_84 (lv_at hl 6 rfl) ?_
            obtain ⟨v_24, σ_25, h_26, hr⟩ := cbd hr
            refine x_callV (x_runV M K hB hl.1 [.int a0, .int a2, .int a3, .int a4] (rest := []) rfl (c_X3_takeFault l Γ (3 + 3 + 5 * a1.toNatClampNeg) a0 a2 a3 a4 (isB.t isB_1 (vp_lt g_23)) σ_18 (v_24, σ_25) h_26) cy_X3_takeFault (x_recv K hB ((isB.t isB_1 (vp_lt g_23)).k).2 (ent_3 ((isB.t isB_1 (vp_lt g_23)).k).1) rfl) wd_76 ⟨rfl, rfl, Nat.le_of_ble_eq_true rfl, Nat.le_of_ble_eq_true rfl⟩ (Nat.le_of_ble_eq_true rfl) ⟨Nat.zero_le _, Nat.zero_le _⟩ dX4_putFault_86) hB (fun H locs hB => ?_)
            replace hB : Bd Γ σ_25 s H locs := hB
            refine lv_iload M.1 M.2.1 dX4_putFault_89 (lv_at hl 0 rfl) ?_
            exact x_iret M hB (Option.some.inj hr) dX4_putFault_91
          · rw [if_pos c_20] at hr
            exact w_X4_putFault_52 M K a0 a1 a2 a3 a4   _ _ _ _  hB (lv_sub hl [] rfl) hr
    · rw [if_pos c_8] at hr
      exact w_X4_putFault_17 M K a0 a1 a2 a3 a4   _ _ _ _  hB (lv_sub hl [] rfl) hr
theorem c_X4_putFault (l : Launch) (Γ : GG) (a0 : Int32) (a1 : Int32) (a2 : Int32) (a3 : Int32) (a4 : Int32)  (σ : Sg) (res : Int32 × Sg) (hr : f_X4_putFault_0 a0 a1 a2 a3 a4 σ = some res) : Met l yX4_putFault (Cond.code yX4_putFault cX4_putFault 7 (some .int) :: gtb) rm_X4_putFault (va_Pc [.ref (Γ.1 0), .int a0, .int a1, .int a2, .int a3, .int a4] (GI Γ σ)) (QI Γ res) 0 0 (AD Γ) :=
  x_metI (by decide) [.ref (Γ.1 0), .int a0, .int a1, .int a2, .int a3, .int a4] (Nat.le_of_ble_eq_true rfl) (fun p e s m args below meth c M K ls hl hB => w_X4_putFault_0 M K a0 a1 a2 a3 a4 σ _ _ ls hB hl hr)
abbrev rm_X4_run : Room := { frames := 5, cells := 0, slots := 0, locals := 109 }
def f_X4_run_33 (a0 : Int32)  : Nat → Int32 → Int32 → Sg → Option (Int32 × Sg)
  | 0, _, _, _ => none
  | f + 1, x1, x2, σ => if x1 ≤ x2 then
some (σ 1 4, σ)
else
cb (f_X0_tick_0 1 σ) fun v_7 σ_8 =>
f_X4_run_33 a0  f x1 (x2 + 1) σ_8
set_option maxHeartbeats 4000000 in
set_option maxRecDepth 100000 in
theorem w_X4_run_33 {p : Program} {l : Launch} {e : Env} {s : State} {m : MethodId} {args : Array Value} {below : List Frame} {meth : Method} {c : Code} {Γ : GG} {res : Int32 × Sg} (M : MX RX4 cX4_run 3 (some .int) p s m args meth c) (K : KK Γ s s.heap) (a0 : Int32) : ∀ (f : Nat) (x1 : Int32) (x2 : Int32) (σ : Sg) (H : Heap) (locs : List Loc) (ls : Array Slot)  (hB : Bd Γ σ s H locs) (hl : lv_has ls 3 [(0, .ref (Γ.1 0)), (1, .int x1), (2, .int x2)]) (hr : f_X4_run_33 a0  f x1 x2 σ = some res), WI Γ rm_X4_run p l e s m args below meth c H locs res (F0 m 33 ls []) := by
  intro f
  induction f with
  | zero => intros; rename_i hr; exact absurd hr (by rw [f_X4_run_33]; exact fun h => by cases h)
  | succ f ih_33 =>
    intro x1 x2 σ H locs ls  hB hl hr
    rw [f_X4_run_33] at hr
    refine lv_iload_n M.1 M.2.1 dX4_run_33 rfl (lv_at hl 2 rfl) ?_
    refine lv_iload_n M.1 M.2.1 dX4_run_34 rfl (lv_at hl 1 rfl) ?_
    refine lv_icmp_ge (tgt := 52) M.1 M.2.1 dX4_run_35 (by decide) (fun c_6 => ?_) (fun c_6 => ?_)
    · rw [if_pos c_6] at hr
      refine lv_aload_n M.1 M.2.1 dX4_run_52 rfl (lv_at hl 0 rfl) ?_
      refine x_get4 M K hB isK_0 0 (by decide) wd_66 (v := .ref (Γ.1 1)) rfl dX4_run_53 ?_
      refine x_get0 M K hB (isB_1.k) 4 (by decide) wd_77 (v := .int (σ 1 4)) rfl dX4_run_56 ?_
      exact x_iret M hB (Option.some.inj hr) dX4_run_59
    · rw [if_neg c_6] at hr
      refine lv_aload_n M.1 M.2.1 dX4_run_38 rfl (lv_at hl 0 rfl) ?_
      refine x_get4 M K hB isK_0 0 (by decide) wd_66 (v := .ref (Γ.1 1)) rfl dX4_run_39 ?_
      obtain ⟨v_7, σ_8, h_9, hr⟩ := cbd hr
      refine x_callI (x_runV M K hB hl.1 [] (rest := []) rfl (c_X0_tick l Γ 1 isB_1 σ (v_7, σ_8) h_9) cy_X0_tick (x_recv K hB (isB_1.k).2 (ent_0 (isB_1.k).1) rfl) wd_79 ⟨rfl, rfl, Nat.le_of_ble_eq_true rfl, Nat.le_of_ble_eq_true rfl⟩ (Nat.le_of_ble_eq_true rfl) ⟨Nat.zero_le _, Nat.zero_le _⟩ dX4_run_42) hB (fun H locs hB => ?_)
      replace hB : Bd Γ σ_8 s H locs := hB
      refine lv_pop M.1 M.2.1 dX4_run_45 rfl ?_
      refine lv_iinc (v := x2 + 1) (lv' := [(2, .int (x2 + 1)), (0, .ref (Γ.1 0)), (1, .int x1)]) M.1 M.2.1 dX4_run_46 hl (k := 2) rfl rfl (by decide) rfl (fun ls hl => ?_)
      refine lv_goto (tgt := 33) M.1 M.2.1 dX4_run_49 (by decide) ?_
      exact ih_33 x1 (x2 + 1) _ _ _ _  hB (lv_sub hl [1, 2, 0] rfl) hr
def f_X4_run_0 (a0 : Int32)   (σ : Sg) : Option (Int32 × Sg) :=
cb (f_X4_isWithin_0 a0 1 2000 σ) fun v_1 σ_2 =>
if v_1 = 0 then
some ((-2), σ_2)
else
if (σ_2 1 4) + a0 ≤ 1000000 then
f_X4_run_33 a0  FU a0 0 σ_2
else
some ((-5), σ_2)
set_option maxHeartbeats 4000000 in
set_option maxRecDepth 100000 in
theorem w_X4_run_0 {p : Program} {l : Launch} {e : Env} {s : State} {m : MethodId} {args : Array Value} {below : List Frame} {meth : Method} {c : Code} {Γ : GG} {res : Int32 × Sg} (M : MX RX4 cX4_run 3 (some .int) p s m args meth c) (K : KK Γ s s.heap) (a0 : Int32)  (σ : Sg) (H : Heap) (locs : List Loc) (ls : Array Slot)  (hB : Bd Γ σ s H locs) (hl : lv_has ls 3 [(0, .ref (Γ.1 0)), (1, .int a0)]) (hr : f_X4_run_0 a0   σ = some res) : WI Γ rm_X4_run p l e s m args below meth c H locs res (F0 m 0 ls []) := by
  unfold f_X4_run_0 at hr
  refine lv_iload_n M.1 M.2.1 dX4_run_0 rfl (lv_at hl 1 rfl) ?_
  refine lv_iconst (v := 1) M.1 M.2.1 dX4_run_1 (by decide) ?_
  refine lv_sipush (v := 2000) M.1 M.2.1 dX4_run_2 (by decide) ?_
  obtain ⟨v_1, σ_2, h_3, hr⟩ := cbd hr
  refine x_callI (x_runS M K hB hl.1 [.int a0, .int 1, .int 2000] (rest := []) rfl (c_X4_isWithin l Γ a0 1 2000  σ (v_1, σ_2) h_3) cy_X4_isWithin wd_62 ⟨rfl, rfl, Nat.le_of_ble_eq_true rfl, Nat.le_of_ble_eq_true rfl⟩ (Nat.le_of_ble_eq_true rfl) ⟨Nat.zero_le _, Nat.zero_le _⟩ dX4_run_5) hB (fun H locs hB => ?_)
  replace hB : Bd Γ σ_2 s H locs := hB
  refine lv_if_ne (tgt := 14) M.1 M.2.1 dX4_run_8 (by decide) (fun c_4 => ?_) (fun c_4 => ?_)
  · rw [if_neg c_4] at hr
    refine lv_aload_n M.1 M.2.1 dX4_run_14 rfl (lv_at hl 0 rfl) ?_
    refine x_get4 M K hB isK_0 0 (by decide) wd_66 (v := .ref (Γ.1 1)) rfl dX4_run_15 ?_
    refine x_get0 M K hB (isB_1.k) 4 (by decide) wd_77 (v := .int (σ_2 1 4)) rfl dX4_run_18 ?_
    refine lv_iload_n M.1 M.2.1 dX4_run_21 rfl (lv_at hl 1 rfl) ?_
    refine lv_iadd M.1 M.2.1 dX4_run_22 ?_
    refine x_ldc (v := 1000000) M wd_78 dX4_run_23 ?_
    refine lv_icmp_le (tgt := 31) M.1 M.2.1 dX4_run_25 (by decide) (fun c_5 => ?_) (fun c_5 => ?_)
    · rw [if_pos c_5] at hr
      refine lv_iconst (v := 0) M.1 M.2.1 dX4_run_31 (by decide) ?_
      refine lv_istore_n (lv' := [(2, .int 0), (0, .ref (Γ.1 0)), (1, .int a0)]) M.1 M.2.1 dX4_run_32 rfl hl (by decide) rfl (fun ls hl => ?_)
      exact w_X4_run_33 M K a0  FU a0 0 _ _ _ _  hB (lv_sub hl [1, 2, 0] rfl) hr
    · rw [if_neg c_5] at hr
      refine lv_bipush (v := (-5)) M.1 M.2.1 dX4_run_28 (by decide) ?_
      exact x_iret M hB (Option.some.inj hr) dX4_run_30
  · rw [if_pos c_4] at hr
    refine lv_bipush (v := (-2)) M.1 M.2.1 dX4_run_11 (by decide) ?_
    exact x_iret M hB (Option.some.inj hr) dX4_run_13
theorem c_X4_run (l : Launch) (Γ : GG) (a0 : Int32)  (σ : Sg) (res : Int32 × Sg) (hr : f_X4_run_0 a0 σ = some res) : Met l yX4_run (Cond.code yX4_run cX4_run 3 (some .int) :: gtb) rm_X4_run (va_Pc [.ref (Γ.1 0), .int a0] (GI Γ σ)) (QI Γ res) 0 0 (AD Γ) :=
  x_metI (by decide) [.ref (Γ.1 0), .int a0] (Nat.le_of_ble_eq_true rfl) (fun p e s m args below meth c M K ls hl hB => w_X4_run_0 M K a0 σ _ _ ls hB hl hr)
abbrev rm_X4_powerCycle : Room := { frames := 2, cells := 0, slots := 0, locals := 40 }
def f_X4_powerCycle_0    (σ : Sg) : Option (Int32 × Sg) :=
cb (f_X0_switchOffAndOn_0 1 σ) fun v_1 σ_2 =>
some (σ 1 5, σ_2)
set_option maxHeartbeats 4000000 in
set_option maxRecDepth 100000 in
theorem w_X4_powerCycle_0 {p : Program} {l : Launch} {e : Env} {s : State} {m : MethodId} {args : Array Value} {below : List Frame} {meth : Method} {c : Code} {Γ : GG} {res : Int32 × Sg} (M : MX RX4 cX4_powerCycle 2 (some .int) p s m args meth c) (K : KK Γ s s.heap)   (σ : Sg) (H : Heap) (locs : List Loc) (ls : Array Slot)  (hB : Bd Γ σ s H locs) (hl : lv_has ls 2 [(0, .ref (Γ.1 0))]) (hr : f_X4_powerCycle_0    σ = some res) : WI Γ rm_X4_powerCycle p l e s m args below meth c H locs res (F0 m 0 ls []) := by
  unfold f_X4_powerCycle_0 at hr
  refine lv_aload_n M.1 M.2.1 dX4_powerCycle_0 rfl (lv_at hl 0 rfl) ?_
  refine x_get4 M K hB isK_0 0 (by decide) wd_66 (v := .ref (Γ.1 1)) rfl dX4_powerCycle_1 ?_
  refine x_get0 M K hB (isB_1.k) 5 (by decide) wd_80 (v := .int (σ 1 5)) rfl dX4_powerCycle_4 ?_
  refine lv_istore_n (lv' := [(1, .int (σ 1 5)), (0, .ref (Γ.1 0))]) M.1 M.2.1 dX4_powerCycle_7 rfl hl (by decide) rfl (fun ls hl => ?_)
  refine lv_aload_n M.1 M.2.1 dX4_powerCycle_8 rfl (lv_at hl 1 rfl) ?_
  refine x_get4 M K hB isK_0 0 (by decide) wd_66 (v := .ref (Γ.1 1)) rfl dX4_powerCycle_9 ?_
  obtain ⟨v_1, σ_2, h_3, hr⟩ := cbd hr
  refine x_callV (x_runV M K hB hl.1 [] (rest := []) rfl (c_X0_switchOffAndOn l Γ 1 isB_1 σ (v_1, σ_2) h_3) cy_X0_switchOffAndOn (x_recv K hB (isB_1.k).2 (ent_0 (isB_1.k).1) rfl) wd_81 ⟨rfl, rfl, Nat.le_of_ble_eq_true rfl, Nat.le_of_ble_eq_true rfl⟩ (Nat.le_of_ble_eq_true rfl) ⟨Nat.zero_le _, Nat.zero_le _⟩ dX4_powerCycle_12) hB (fun H locs hB => ?_)
  replace hB : Bd Γ σ_2 s H locs := hB
  refine lv_iload_n M.1 M.2.1 dX4_powerCycle_15 rfl (lv_at hl 0 rfl) ?_
  exact x_iret M hB (Option.some.inj hr) dX4_powerCycle_16
theorem c_X4_powerCycle (l : Launch) (Γ : GG)   (σ : Sg) (res : Int32 × Sg) (hr : f_X4_powerCycle_0  σ = some res) : Met l yX4_powerCycle (Cond.code yX4_powerCycle cX4_powerCycle 2 (some .int) :: gtb) rm_X4_powerCycle (va_Pc [.ref (Γ.1 0)] (GI Γ σ)) (QI Γ res) 0 0 (AD Γ) :=
  x_metI (by decide) [.ref (Γ.1 0)] (Nat.le_of_ble_eq_true rfl) (fun p e s m args below meth c M K ls hl hB => w_X4_powerCycle_0 M K  σ _ _ ls hB hl hr)
