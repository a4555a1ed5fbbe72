abbrev rm_X4_countSigns : Room := { frames := 1, cells := 0, slots := 0, locals := 22 }
def f_X4_countSigns_63 (a0 : Int64)  (s0 : Int32) (σ : Sg) : Option (Int32 × Sg) :=
some (s0, σ)
set_option maxHeartbeats 4000000 in
set_option maxRecDepth 100000 in
theorem w_X4_countSigns_63 {p : Program} {l : Launch} {e : Env} {s : State} {m : MethodId} {args : Array Value} {below : List Frame} {meth : Method} {c : Code} {Γ : GG} {res : Int32 × Sg} (M : MX RX4 cX4_countSigns 5 (some .int) p s m args meth c) (K : KK Γ s s.heap) (a0 : Int64) (s0 : Int32) (σ : Sg) (H : Heap) (locs : List Loc) (ls : Array Slot)  (hB : Bd Γ σ s H locs) (hl : lv_has ls 5 []) (hr : f_X4_countSigns_63 a0  s0 σ = some res) : WI Γ rm_X4_countSigns p l e s m args below meth c H locs res (F0 m 63 ls [.int s0]) := by
  unfold f_X4_countSigns_63 at hr
  exact x_iret M hB (Option.some.inj hr) dX4_countSigns_63
def f_X4_countSigns_51 (a0 : Int64)  (x2 : Int64) (x4 : Int32) (σ : Sg) : Option (Int32 × Sg) :=
if lg_cmp x2 0 = 0 then
f_X4_countSigns_63 a0  x4 σ
else
f_X4_countSigns_63 a0  0 σ
set_option maxHeartbeats 4000000 in
set_option maxRecDepth 100000 in
theorem w_X4_countSigns_51 {p : Program} {l : Launch} {e : Env} {s : State} {m : MethodId} {args : Array Value} {below : List Frame} {meth : Method} {c : Code} {Γ : GG} {res : Int32 × Sg} (M : MX RX4 cX4_countSigns 5 (some .int) p s m args meth c) (K : KK Γ s s.heap) (a0 : Int64) (x2 : Int64) (x4 : Int32) (σ : Sg) (H : Heap) (locs : List Loc) (ls : Array Slot)  (hB : Bd Γ σ s H locs) (hl : lv_has ls 5 [(2, .long x2), (4, .int x4)]) (hr : f_X4_countSigns_51 a0  x2 x4 σ = some res) : WI Γ rm_X4_countSigns p l e s m args below meth c H locs res (F0 m 51 ls []) := by
  unfold f_X4_countSigns_51 at hr
  refine lv_lload_n M.1 M.2.1 dX4_countSigns_51 rfl (lv_at hl 0 rfl) ?_
  refine lv_lconst (v := 0) M.1 M.2.1 dX4_countSigns_52 (by decide) ?_
  refine W.lcmp M.1 M.2.1 dX4_countSigns_53 ?_
  refine lv_if_ne (tgt := 62) M.1 M.2.1 dX4_countSigns_54 (by decide) (fun c_7 => ?_) (fun c_7 => ?_)
  · rw [if_neg c_7] at hr
    refine lv_iconst (v := 0) M.1 M.2.1 dX4_countSigns_62 (by decide) ?_
    exact w_X4_countSigns_63 M K a0  0 _ _ _ _  hB (lv_sub hl [] rfl) hr
  · rw [if_pos c_7] at hr
    refine lv_iload M.1 M.2.1 dX4_countSigns_57 (lv_at hl 1 rfl) ?_
    refine lv_goto (tgt := 63) M.1 M.2.1 dX4_countSigns_59 (by decide) ?_
    exact w_X4_countSigns_63 M K a0  x4 _ _ _ _  hB (lv_sub hl [] rfl) hr
def f_X4_countSigns_5 (a0 : Int64)  : Nat → Int64 → Int32 → Sg → Option (Int32 × Sg)
  | 0, _, _, _ => none
  | f + 1, x2, x4, σ => if 8 ≤ x4 then
f_X4_countSigns_51 a0  x2 x4 σ
else
if lg_cmp (x2 &&& 255) 0 = 0 then
f_X4_countSigns_51 a0  x2 x4 σ
else
cb (f_X4_isWithin_0 ((x2 &&& 255).toInt32) 33 126 σ) fun v_3 σ_4 =>
if v_3 = 0 then
some (0, σ_4)
else
f_X4_countSigns_5 a0  f ((x2.toUInt64 >>> ((8 : Int32).toInt64.toUInt64 &&& Int64.toUInt64 63)).toInt64) (x4 + 1) σ_4
set_option maxHeartbeats 4000000 in
set_option maxRecDepth 100000 in
theorem w_X4_countSigns_5 {p : Program} {l : Launch} {e : Env} {s : State} {m : MethodId} {args : Array Value} {below : List Frame} {meth : Method} {c : Code} {Γ : GG} {res : Int32 × Sg} (M : MX RX4 cX4_countSigns 5 (some .int) p s m args meth c) (K : KK Γ s s.heap) (a0 : Int64) : ∀ (f : Nat) (x2 : Int64) (x4 : Int32) (σ : Sg) (H : Heap) (locs : List Loc) (ls : Array Slot)  (hB : Bd Γ σ s H locs) (hl : lv_has ls 5 [(2, .long x2), (4, .int x4)]) (hr : f_X4_countSigns_5 a0  f x2 x4 σ = some res), WI Γ rm_X4_countSigns p l e s m args below meth c H locs res (F0 m 5 ls []) := by
  intro f
  induction f with
  | zero => intros; rename_i hr; exact absurd hr (by rw [f_X4_countSigns_5]; exact fun h => by cases h)
  | succ f ih_5 =>
    intro x2 x4 σ H locs ls  hB hl hr
    rw [f_X4_countSigns_5] at hr
    refine lv_iload M.1 M.2.1 dX4_countSigns_5 (lv_at hl 1 rfl) ?_
    refine lv_bipush (v := 8) M.1 M.2.1 dX4_countSigns_7 (by decide) ?_
    refine lv_icmp_ge (tgt := 51) M.1 M.2.1 dX4_countSigns_9 (by decide) (fun c_1 => ?_) (fun c_1 => ?_)
    · rw [if_pos c_1] at hr
      exact w_X4_countSigns_51 M K a0  x2 x4 _ _ _ _  hB (lv_sub hl [0, 1] rfl) hr
    · rw [if_neg c_1] at hr
      refine lv_lload_n M.1 M.2.1 dX4_countSigns_12 rfl (lv_at hl 0 rfl) ?_
      refine x_ldc2 (v := 255) M wd_109 dX4_countSigns_13 ?_
      refine lv_land M.1 M.2.1 dX4_countSigns_16 ?_
      refine lv_lconst (v := 0) M.1 M.2.1 dX4_countSigns_17 (by decide) ?_
      refine W.lcmp M.1 M.2.1 dX4_countSigns_18 ?_
      refine lv_if_eq (tgt := 51) M.1 M.2.1 dX4_countSigns_19 (by decide) (fun c_2 => ?_) (fun c_2 => ?_)
      · rw [if_pos c_2] at hr
        exact w_X4_countSigns_51 M K a0  x2 x4 _ _ _ _  hB (lv_sub hl [0, 1] rfl) hr
      · rw [if_neg c_2] at hr
        refine lv_lload_n M.1 M.2.1 dX4_countSigns_22 rfl (lv_at hl 0 rfl) ?_
        refine x_ldc2 (v := 255) M wd_109 dX4_countSigns_23 ?_
        refine lv_land M.1 M.2.1 dX4_countSigns_26 ?_
        refine lv_l2i (v := (x2 &&& 255).toInt32) M.1 M.2.1 dX4_countSigns_27 rfl ?_
        refine lv_bipush (v := 33) M.1 M.2.1 dX4_countSigns_28 (by decide) ?_
        refine lv_bipush (v := 126) M.1 M.2.1 dX4_countSigns_30 (by decide) ?_
        obtain ⟨v_3, σ_4, h_5, hr⟩ := cbd hr
        refine x_callI (x_runS M K hB hl.1 [.int ((x2 &&& 255).toInt32), .int 33, .int 126] (rest := []) rfl (c_X4_isWithin l Γ ((x2 &&& 255).toInt32) 33 126  σ (v_3, σ_4) h_5) cy_X4_isWithin wd_94 ⟨rfl, rfl, Nat.le_of_ble_eq_true rfl, Nat.le_of_ble_eq_true rfl⟩ (Nat.le_of_ble_eq_true rfl) ⟨Nat.zero_le _, Nat.zero_le _⟩ dX4_countSigns_32) hB (fun H locs hB => ?_)
        replace hB : Bd Γ σ_4 s H locs := hB
        refine lv_if_ne (tgt := 40) M.1 M.2.1 dX4_countSigns_35 (by decide) (fun c_6 => ?_) (fun c_6 => ?_)
        · rw [if_neg c_6] at hr
          refine lv_lload_n M.1 M.2.1 dX4_countSigns_40 rfl (lv_at hl 0 rfl) ?_
          refine lv_bipush (v := 8) M.1 M.2.1 dX4_countSigns_41 (by decide) ?_
          refine lv_lushr (v := (x2.toUInt64 >>> ((8 : Int32).toInt64.toUInt64 &&& Int64.toUInt64 63)).toInt64) M.1 M.2.1 dX4_countSigns_43 rfl ?_
          refine lv_lstore_n (lv' := [(2, .long ((x2.toUInt64 >>> ((8 : Int32).toInt64.toUInt64 &&& Int64.toUInt64 63)).toInt64)), (4, .int x4)]) M.1 M.2.1 dX4_countSigns_44 rfl hl (by decide) rfl (fun ls hl => ?_)
          refine lv_iinc (v := x4 + 1) (lv' := [(4, .int (x4 + 1)), (2, .long ((x2.toUInt64 >>> ((8 : Int32).toInt64.toUInt64 &&& Int64.toUInt64 63)).toInt64))]) M.1 M.2.1 dX4_countSigns_45 hl (k := 1) rfl rfl (by decide) rfl (fun ls hl => ?_)
          refine lv_goto (tgt := 5) M.1 M.2.1 dX4_countSigns_48 (by decide) ?_
          exact ih_5 ((x2.toUInt64 >>> ((8 : Int32).toInt64.toUInt64 &&& Int64.toUInt64 63)).toInt64) (x4 + 1) _ _ _ _  hB (lv_sub hl [1, 0] rfl) hr
        · rw [if_pos c_6] at hr
          refine lv_iconst (v := 0) M.1 M.2.1 dX4_countSigns_38 (by decide) ?_
          exact x_iret M hB (Option.some.inj hr) dX4_countSigns_39
def f_X4_countSigns_0 (a0 : Int64)   (σ : Sg) : Option (Int32 × Sg) :=
f_X4_countSigns_5 a0  FU a0 0 σ
set_option maxHeartbeats 4000000 in
set_option maxRecDepth 100000 in
theorem w_X4_countSigns_0 {p : Program} {l : Launch} {e : Env} {s : State} {m : MethodId} {args : Array Value} {below : List Frame} {meth : Method} {c : Code} {Γ : GG} {res : Int32 × Sg} (M : MX RX4 cX4_countSigns 5 (some .int) p s m args meth c) (K : KK Γ s s.heap) (a0 : Int64)  (σ : Sg) (H : Heap) (locs : List Loc) (ls : Array Slot)  (hB : Bd Γ σ s H locs) (hl : lv_has ls 5 [(0, .long a0)]) (hr : f_X4_countSigns_0 a0   σ = some res) : WI Γ rm_X4_countSigns p l e s m args below meth c H locs res (F0 m 0 ls []) := by
  unfold f_X4_countSigns_0 at hr
  refine lv_lload_n M.1 M.2.1 dX4_countSigns_0 rfl (lv_at hl 0 rfl) ?_
  refine lv_lstore_n (lv' := [(2, .long a0), (0, .long a0)]) M.1 M.2.1 dX4_countSigns_1 rfl hl (by decide) rfl (fun ls hl => ?_)
  refine lv_iconst (v := 0) M.1 M.2.1 dX4_countSigns_2 (by decide) ?_
  refine lv_istore (lv' := [(4, .int 0), (2, .long a0), (0, .long a0)]) M.1 M.2.1 dX4_countSigns_3 hl (by decide) rfl (fun ls hl => ?_)
  exact w_X4_countSigns_5 M K a0  FU a0 0 _ _ _ _  hB (lv_sub hl [1, 0] rfl) hr
theorem c_X4_countSigns (l : Launch) (Γ : GG) (a0 : Int64)  (σ : Sg) (res : Int32 × Sg) (hr : f_X4_countSigns_0 a0 σ = some res) : Met l yX4_countSigns (Cond.code yX4_countSigns cX4_countSigns 5 (some .int) :: gtb) rm_X4_countSigns (va_Pc [.long a0] (GI Γ σ)) (QI Γ res) 0 0 (AD Γ) :=
  x_metI (by decide) [.long a0] (Nat.le_of_ble_eq_true rfl) (fun p e s m args below meth c M K ls hl hB => w_X4_countSigns_0 M K a0 σ _ _ ls hB hl hr)
abbrev rm_X4_put : Room := { frames := 2, cells := 0, slots := 0, locals := 46 }
def f_X4_put_0 (a0 : Int64)   (σ : Sg) : Option (Int32 × Sg) :=
cb (f_X4_countSigns_0 a0 σ) fun v_1 σ_2 =>
if v_1 = 0 then
some ((-2), σ_2)
else
if (σ_2 143 1) + v_1 ≤ 60 then
cb (f_X2_append_0 a0 v_1 σ_2) fun v_6 σ_7 =>
some (σ_7 143 1, σ_7)
else
some ((-4), σ_2)
set_option maxHeartbeats 4000000 in
set_option maxRecDepth 100000 in
theorem w_X4_put_0 {p : Program} {l : Launch} {e : Env} {s : State} {m : MethodId} {args : Array Value} {below : List Frame} {meth : Method} {c : Code} {Γ : GG} {res : Int32 × Sg} (M : MX RX4 cX4_put 4 (some .int) p s m args meth c) (K : KK Γ s s.heap) (a0 : Int64)  (σ : Sg) (H : Heap) (locs : List Loc) (ls : Array Slot)  (hB : Bd Γ σ s H locs) (hl : lv_has ls 4 [(0, .ref (Γ.1 0)), (1, .long a0)]) (hr : f_X4_put_0 a0   σ = some res) : WI Γ rm_X4_put p l e s m args below meth c H locs res (F0 m 0 ls []) := by
  unfold f_X4_put_0 at hr
  refine lv_lload_n M.1 M.2.1 dX4_put_0 rfl (lv_at hl 1 rfl) ?_
  obtain ⟨v_1, σ_2, h_3, hr⟩ := cbd hr
  refine x_callI (x_runS M K hB hl.1 [.long a0] (rest := []) rfl (c_X4_countSigns l Γ a0  σ (v_1, σ_2) h_3) cy_X4_countSigns wd_110 ⟨rfl, rfl, Nat.le_of_ble_eq_true rfl, Nat.le_of_ble_eq_true rfl⟩ (Nat.le_of_ble_eq_true rfl) ⟨Nat.zero_le _, Nat.zero_le _⟩ dX4_put_1) hB (fun H locs hB => ?_)
  replace hB : Bd Γ σ_2 s H locs := hB
  refine lv_istore_n (lv' := [(3, .int v_1), (0, .ref (Γ.1 0)), (1, .long a0)]) M.1 M.2.1 dX4_put_4 rfl hl (by decide) rfl (fun ls hl => ?_)
  refine lv_iload_n M.1 M.2.1 dX4_put_5 rfl (lv_at hl 0 rfl) ?_
  refine lv_if_ne (tgt := 12) M.1 M.2.1 dX4_put_6 (by decide) (fun c_4 => ?_) (fun c_4 => ?_)
  · rw [if_neg c_4] at hr
    refine lv_aload_n M.1 M.2.1 dX4_put_12 rfl (lv_at hl 1 rfl) ?_
    refine x_get4 M K hB isK_0 4 (by decide) wd_111 (v := .ref (Γ.1 143)) rfl dX4_put_13 ?_
    refine x_get2 M K hB isK_143 1 (by decide) wd_112 (v := .int (σ_2 143 1)) rfl dX4_put_16 ?_
    refine lv_iload_n M.1 M.2.1 dX4_put_19 rfl (lv_at hl 0 rfl) ?_
    refine lv_iadd M.1 M.2.1 dX4_put_20 ?_
    refine lv_bipush (v := 60) M.1 M.2.1 dX4_put_21 (by decide) ?_
    refine lv_icmp_le (tgt := 29) M.1 M.2.1 dX4_put_23 (by decide) (fun c_5 => ?_) (fun c_5 => ?_)
    · rw [if_pos c_5] at hr
      refine lv_aload_n M.1 M.2.1 dX4_put_29 rfl (lv_at hl 1 rfl) ?_
      refine x_get4 M K hB isK_0 4 (by decide) wd_111 (v := .ref (Γ.1 143)) rfl dX4_put_30 ?_
      refine lv_lload_n M.1 M.2.1 dX4_put_33 rfl (lv_at hl 2 rfl) ?_
      refine lv_iload_n M.1 M.2.1 dX4_put_34 rfl (lv_at hl 0 rfl) ?_
      obtain ⟨v_6, σ_7, h_8, hr⟩ := cbd hr
      refine x_callV (x_runV M K hB hl.1 [.long a0, .int v_1] (rest := []) rfl (c_X2_append l Γ a0 v_1  σ_2 (v_6, σ_7) h_8) cy_X2_append (x_recv K hB isK_143.2 (ent_2 isK_143.1) rfl) wd_113 ⟨rfl, rfl, Nat.le_of_ble_eq_true rfl, Nat.le_of_ble_eq_true rfl⟩ (Nat.le_of_ble_eq_true rfl) ⟨Nat.zero_le _, Nat.zero_le _⟩ dX4_put_35) hB (fun H locs hB => ?_)
      replace hB : Bd Γ σ_7 s H locs := hB
      refine lv_aload_n M.1 M.2.1 dX4_put_38 rfl (lv_at hl 1 rfl) ?_
      refine x_get4 M K hB isK_0 4 (by decide) wd_111 (v := .ref (Γ.1 143)) rfl dX4_put_39 ?_
      refine x_get2 M K hB isK_143 1 (by decide) wd_112 (v := .int (σ_7 143 1)) rfl dX4_put_42 ?_
      exact x_iret M hB (Option.some.inj hr) dX4_put_45
    · rw [if_neg c_5] at hr
      refine lv_bipush (v := (-4)) M.1 M.2.1 dX4_put_26 (by decide) ?_
      exact x_iret M hB (Option.some.inj hr) dX4_put_28
  · rw [if_pos c_4] at hr
    refine lv_bipush (v := (-2)) M.1 M.2.1 dX4_put_9 (by decide) ?_
    exact x_iret M hB (Option.some.inj hr) dX4_put_11
theorem c_X4_put (l : Launch) (Γ : GG) (a0 : Int64)  (σ : Sg) (res : Int32 × Sg) (hr : f_X4_put_0 a0 σ = some res) : Met l yX4_put (Cond.code yX4_put cX4_put 4 (some .int) :: gtb) rm_X4_put (va_Pc [.ref (Γ.1 0), .long a0] (GI Γ σ)) (QI Γ res) 0 0 (AD Γ) :=
  x_metI (by decide) [.ref (Γ.1 0), .long a0] (Nat.le_of_ble_eq_true rfl) (fun p e s m args below meth c M K ls hl hB => w_X4_put_0 M K a0 σ _ _ ls hB hl hr)
abbrev rm_X4_wipe : Room := { frames := 0, cells := 0, slots := 0, locals := 0 }
def f_X4_wipe_0    (σ : Sg) : Option (Int32 × Sg) :=
wb (st σ 143 1 0) fun σ_1 =>
some (σ 143 1, σ_1)
set_option maxHeartbeats 4000000 in
set_option maxRecDepth 100000 in
theorem w_X4_wipe_0 {p : Program} {l : Launch} {e : Env} {s : State} {m : MethodId} {args : Array Value} {below : List Frame} {meth : Method} {c : Code} {Γ : GG} {res : Int32 × Sg} (M : MX RX4 cX4_wipe 2 (some .int) p s m args meth c) (K : KK Γ s s.heap)   (σ : Sg) (H : Heap) (locs : List Loc) (ls : Array Slot)  (hB : Bd Γ σ s H locs) (hl : lv_has ls 2 [(0, .ref (Γ.1 0))]) (hr : f_X4_wipe_0    σ = some res) : WI Γ rm_X4_wipe p l e s m args below meth c H locs res (F0 m 0 ls []) := by
  unfold f_X4_wipe_0 at hr
  refine lv_aload_n M.1 M.2.1 dX4_wipe_0 rfl (lv_at hl 0 rfl) ?_
  refine x_get4 M K hB isK_0 4 (by decide) wd_111 (v := .ref (Γ.1 143)) rfl dX4_wipe_1 ?_
  refine x_get2 M K hB isK_143 1 (by decide) wd_112 (v := .int (σ 143 1)) rfl dX4_wipe_4 ?_
  refine lv_istore_n (lv' := [(1, .int (σ 143 1)), (0, .ref (Γ.1 0))]) M.1 M.2.1 dX4_wipe_7 rfl hl (by decide) rfl (fun ls hl => ?_)
  refine lv_aload_n M.1 M.2.1 dX4_wipe_8 rfl (lv_at hl 1 rfl) ?_
  refine x_get4 M K hB isK_0 4 (by decide) wd_111 (v := .ref (Γ.1 143)) rfl dX4_wipe_9 ?_
  refine lv_iconst (v := 0) M.1 M.2.1 dX4_wipe_12 (by decide) ?_
  obtain ⟨σ_1, e_2, hr⟩ := wbd hr
  refine x_put2 M K hB isK_143 1 (by decide) wd_112 dX4_wipe_13 (fun H locs hB => ?_)
  rw [← e_2] at hB
  refine lv_iload_n M.1 M.2.1 dX4_wipe_16 rfl (lv_at hl 0 rfl) ?_
  exact x_iret M hB (Option.some.inj hr) dX4_wipe_17
theorem c_X4_wipe (l : Launch) (Γ : GG)   (σ : Sg) (res : Int32 × Sg) (hr : f_X4_wipe_0  σ = some res) : Met l yX4_wipe (Cond.code yX4_wipe cX4_wipe 2 (some .int) :: gtb) rm_X4_wipe (va_Pc [.ref (Γ.1 0)] (GI Γ σ)) (QI Γ res) 0 0 (AD Γ) :=
  x_metI (by decide) [.ref (Γ.1 0)] (Nat.le_of_ble_eq_true rfl) (fun p e s m args below meth c M K ls hl hB => w_X4_wipe_0 M K  σ _ _ ls hB hl hr)
abbrev rm_X4_position : Room := { frames := 6, cells := 0, slots := 0, locals := 137 }
def f_X4_position_0    (σ : Sg) : Option (Int32 × Sg) :=
cb (f_X2_readFaults_0  σ) fun v_1 σ_2 =>
some (v_1, σ_2)
set_option maxHeartbeats 4000000 in
set_option maxRecDepth 100000 in
theorem w_X4_position_0 {p : Program} {l : Launch} {e : Env} {s : State} {m : MethodId} {args : Array Value} {below : List Frame} {meth : Method} {c : Code} {Γ : GG} {res : Int32 × Sg} (M : MX RX4 cX4_position 1 (some .int) p s m args meth c) (K : KK Γ s s.heap)   (σ : Sg) (H : Heap) (locs : List Loc) (ls : Array Slot)  (hB : Bd Γ σ s H locs) (hl : lv_has ls 1 [(0, .ref (Γ.1 0))]) (hr : f_X4_position_0    σ = some res) : WI Γ rm_X4_position p l e s m args below meth c H locs res (F0 m 0 ls []) := by
  unfold f_X4_position_0 at hr
  refine lv_aload_n M.1 M.2.1 dX4_position_0 rfl (lv_at hl 0 rfl) ?_
  refine x_get4 M K hB isK_0 4 (by decide) wd_111 (v := .ref (Γ.1 143)) rfl dX4_position_1 ?_
  obtain ⟨v_1, σ_2, h_3, hr⟩ := cbd hr
  refine x_callI (x_runV M K hB hl.1 [] (rest := []) rfl (c_X2_readFaults l Γ   σ (v_1, σ_2) h_3) cy_X2_readFaults (x_recv K hB isK_143.2 (ent_2 isK_143.1) rfl) wd_114 ⟨rfl, rfl, Nat.le_of_ble_eq_true rfl, Nat.le_of_ble_eq_true rfl⟩ (Nat.le_of_ble_eq_true rfl) ⟨Nat.zero_le _, Nat.zero_le _⟩ dX4_position_4) hB (fun H locs hB => ?_)
  replace hB : Bd Γ σ_2 s H locs := hB
  exact x_iret M hB (Option.some.inj hr) dX4_position_7
theorem c_X4_position (l : Launch) (Γ : GG)   (σ : Sg) (res : Int32 × Sg) (hr : f_X4_position_0  σ = some res) : Met l yX4_position (Cond.code yX4_position cX4_position 1 (some .int) :: gtb) rm_X4_position (va_Pc [.ref (Γ.1 0)] (GI Γ σ)) (QI Γ res) 0 0 (AD Γ) :=
  x_metI (by decide) [.ref (Γ.1 0)] (Nat.le_of_ble_eq_true rfl) (fun p e s m args below meth c M K ls hl hB => w_X4_position_0 M K  σ _ _ ls hB hl hr)
abbrev rm_X4_load : Room := { frames := 6, cells := 0, slots := 0, locals := 137 }
def f_X4_load_54   : Nat → Int32 → Sg → Option (Int32 × Sg)
  | 0, _, _ => none
  | f + 1, x1, σ => if σ 143 3 ≤ x1 then
wb (st σ 143 1 0) fun σ_12 =>
some (σ_12 143 3, σ_12)
else
if x1 < 0 ∨ 20 ≤ x1.toNatClampNeg then none else
if σ 146 (x1.toNatClampNeg) < 0 ∨ 6 ≤ (σ 146 (x1.toNatClampNeg)).toNatClampNeg then none else
if x1 < 0 ∨ 20 ≤ x1.toNatClampNeg then none else
if x1 < 0 ∨ 20 ≤ x1.toNatClampNeg then none else
if x1 < 0 ∨ 20 ≤ x1.toNatClampNeg then none else
if x1 < 0 ∨ 20 ≤ x1.toNatClampNeg then none else
cb (f_X3_takeFault_0 (3 + 3 + 5 * (σ 146 (x1.toNatClampNeg)).toNatClampNeg) (σ 149 (x1.toNatClampNeg)) (σ 145 (x1.toNatClampNeg)) (σ 147 (x1.toNatClampNeg)) (σ 148 (x1.toNatClampNeg)) σ) fun v_20 σ_21 =>
f_X4_load_54   f (x1 + 1) σ_21
set_option maxHeartbeats 4000000 in
set_option maxRecDepth 100000 in
theorem w_X4_load_54 {p : Program} {l : Launch} {e : Env} {s : State} {m : MethodId} {args : Array Value} {below : List Frame} {meth : Method} {c : Code} {Γ : GG} {res : Int32 × Sg} (M : MX RX4 cX4_load 2 (some .int) p s m args meth c) (K : KK Γ s s.heap)  : ∀ (f : Nat) (x1 : Int32) (σ : Sg) (H : Heap) (locs : List Loc) (ls : Array Slot)  (hB : Bd Γ σ s H locs) (hl : lv_has ls 2 [(0, .ref (Γ.1 0)), (1, .int x1)]) (hr : f_X4_load_54   f x1 σ = some res), WI Γ rm_X4_load p l e s m args below meth c H locs res (F0 m 54 ls []) := by
  intro f
  induction f with
  | zero => intros; rename_i hr; exact absurd hr (by rw [f_X4_load_54]; exact fun h => by cases h)
  | succ f ih_54 =>
    intro x1 σ H locs ls  hB hl hr
    rw [f_X4_load_54] at hr
    refine lv_iload_n M.1 M.2.1 dX4_load_54 rfl (lv_at hl 1 rfl) ?_
    refine lv_aload_n M.1 M.2.1 dX4_load_55 rfl (lv_at hl 0 rfl) ?_
    refine x_get4 M K hB isK_0 4 (by decide) wd_111 (v := .ref (Γ.1 143)) rfl dX4_load_56 ?_
    refine x_get2 M K hB isK_143 3 (by decide) wd_115 (v := .int (σ 143 3)) rfl dX4_load_59 ?_
    refine lv_icmp_ge (tgt := 127) M.1 M.2.1 dX4_load_62 (by decide) (fun c_11 => ?_) (fun c_11 => ?_)
    · rw [if_pos c_11] at hr
      refine lv_aload_n M.1 M.2.1 dX4_load_127 rfl (lv_at hl 0 rfl) ?_
      refine x_get4 M K hB isK_0 4 (by decide) wd_111 (v := .ref (Γ.1 143)) rfl dX4_load_128 ?_
      refine lv_iconst (v := 0) M.1 M.2.1 dX4_load_131 (by decide) ?_
      obtain ⟨σ_12, e_13, hr⟩ := wbd hr
      refine x_put2 M K hB isK_143 1 (by decide) wd_112 dX4_load_132 (fun H locs hB => ?_)
      rw [← e_13] at hB
      refine lv_aload_n M.1 M.2.1 dX4_load_135 rfl (lv_at hl 0 rfl) ?_
      refine x_get4 M K hB isK_0 4 (by decide) wd_111 (v := .ref (Γ.1 143)) rfl dX4_load_136 ?_
      refine x_get2 M K hB isK_143 3 (by decide) wd_115 (v := .int (σ_12 143 3)) rfl dX4_load_139 ?_
      exact x_iret M hB (Option.some.inj hr) dX4_load_142
    · rw [if_neg c_11] at hr
      refine lv_aload_n M.1 M.2.1 dX4_load_65 rfl (lv_at hl 0 rfl) ?_
      refine x_get4 M K hB isK_0 0 (by decide) wd_98 (v := .ref (Γ.1 1)) rfl dX4_load_66 ?_
      refine x_get0 M K hB (isB_1.k) 1 (by decide) wd_103 (v := .ref (Γ.1 3)) rfl dX4_load_69 ?_
      refine lv_aload_n M.1 M.2.1 dX4_load_72 rfl (lv_at hl 0 rfl) ?_
      refine x_get4 M K hB isK_0 4 (by decide) wd_111 (v := .ref (Γ.1 143)) rfl dX4_load_73 ?_
      refine x_get2 M K hB isK_143 5 (by decide) wd_116 (v := .ref (Γ.1 146)) rfl dX4_load_76 ?_
      refine lv_iload_n M.1 M.2.1 dX4_load_79 rfl (lv_at hl 1 rfl) ?_
      obtain ⟨g_14, hr⟩ := gd hr
      refine x_iald M K hB isA_146 g_14 dX4_load_80 ?_
      obtain ⟨g_15, hr⟩ := gd hr
      refine x_aaldT M K hB (isB_1.k2) g_15 dX4_load_81 ?_
      refine lv_aload_n M.1 M.2.1 dX4_load_82 rfl (lv_at hl 0 rfl) ?_
      refine x_get4 M K hB isK_0 4 (by decide) wd_111 (v := .ref (Γ.1 143)) rfl dX4_load_83 ?_
      refine x_get2 M K hB isK_143 8 (by decide) wd_117 (v := .ref (Γ.1 149)) rfl dX4_load_86 ?_
      refine lv_iload_n M.1 M.2.1 dX4_load_89 rfl (lv_at hl 1 rfl) ?_
      obtain ⟨g_16, hr⟩ := gd hr
      refine x_iald M K hB isA_149 g_16 dX4_load_90 ?_
      refine lv_aload_n M.1 M.2.1 dX4_load_91 rfl (lv_at hl 0 rfl) ?_
      refine x_get4 M K hB isK_0 4 (by decide) wd_111 (v := .ref (Γ.1 143)) rfl dX4_load_92 ?_
      refine x_get2 M K hB isK_143 4 (by decide) wd_118 (v := .ref (Γ.1 145)) rfl dX4_load_95 ?_
      refine lv_iload_n M.1 M.2.1 dX4_load_98 rfl (lv_at hl 1 rfl) ?_
      obtain ⟨g_17, hr⟩ := gd hr
      refine x_iald M K hB isA_145 g_17 dX4_load_99 ?_
      refine lv_aload_n M.1 M.2.1 dX4_load_100 rfl (lv_at hl 0 rfl) ?_
      refine x_get4 M K hB isK_0 4 (by decide) wd_111 (v := .ref (Γ.1 143)) rfl dX4_load_101 ?_
      refine x_get2 M K hB isK_143 6 (by decide) wd_119 (v := .ref (Γ.1 147)) rfl dX4_load_104 ?_
      refine lv_iload_n M.1 M.2.1 dX4_load_107 rfl (lv_at hl 1 rfl) ?_
      obtain ⟨g_18, hr⟩ := gd hr
      refine x_iald M K hB isA_147 g_18 dX4_load_108 ?_
      refine lv_aload_n M.1 M.2.1 dX4_load_109 rfl (lv_at hl 0 rfl) ?_
      refine x_get4 M K hB isK_0 4 (by decide) wd_111 (v := .ref (Γ.1 143)) rfl dX4_load_110 ?_
      refine x_get2 M K hB isK_143 7 (by decide) wd_120 (v := .ref (Γ.1 148)) rfl dX4_load_113 ?_
      refine lv_iload_n M.1 M.2.1 dX4_load_116 rfl (lv_at hl 1 rfl) ?_
      obtain ⟨g_19, hr⟩ := gd hr
      refine x_iald M K hB isA_148 g_19 dX4_load_117 ?_
      obtain ⟨v_20, σ_21, h_22, hr⟩ := cbd hr
      refine x_callV (x_runV M K hB hl.1 [.int (σ 149 (x1.toNatClampNeg)), .int (σ 145 (x1.toNatClampNeg)), .int (σ 147 (x1.toNatClampNeg)), .int (σ 148 (x1.toNatClampNeg))] (rest := []) rfl (c_X3_takeFault l Γ (3 + 3 + 5 * (σ 146 (x1.toNatClampNeg)).toNatClampNeg) (σ 149 (x1.toNatClampNeg)) (σ 145 (x1.toNatClampNeg)) (σ 147 (x1.toNatClampNeg)) (σ 148 (x1.toNatClampNeg)) (isB.t isB_1 (vp_lt g_15)) σ (v_20, σ_21) h_22) cy_X3_takeFault (x_recv K hB ((isB.t isB_1 (vp_lt g_15)).k).2 (ent_3 ((isB.t isB_1 (vp_lt g_15)).k).1) rfl) wd_108 ⟨rfl, rfl, Nat.le_of_ble_eq_true rfl, Nat.le_of_ble_eq_true rfl⟩ (Nat.le_of_ble_eq_true rfl) ⟨Nat.zero_le _, Nat.zero_le _⟩ dX4_load_118) hB (fun H locs hB => ?_)
      replace hB : Bd Γ σ_21 s H locs := hB
      refine lv_iinc (v := x1 + 1) (lv' := [(1, .int (x1 + 1)), (0, .ref (Γ.1 0))]) M.1 M.2.1 dX4_load_121 hl (k := 1) rfl rfl (by decide) rfl (fun ls hl => ?_)
      refine lv_goto (tgt := 54) M.1 M.2.1 dX4_load_124 (by decide) ?_
      exact ih_54 (x1 + 1) _ _ _ _  hB (lv_sub hl [1, 0] rfl) hr
def f_X4_load_17   : Nat → Int32 → Sg → Option (Int32 × Sg)
  | 0, _, _ => none
  | f + 1, x1, σ => if σ 143 3 ≤ x1 then
f_X4_load_54   FU 0 σ
else
if x1 < 0 ∨ 20 ≤ x1.toNatClampNeg then none else
cb (f_X4_hasTask_0 (σ 146 (x1.toNatClampNeg)) σ) fun v_7 σ_8 =>
if v_7 = 0 then
some ((-1), σ_8)
else
f_X4_load_17   f (x1 + 1) σ_8
set_option maxHeartbeats 4000000 in
set_option maxRecDepth 100000 in
theorem w_X4_load_17 {p : Program} {l : Launch} {e : Env} {s : State} {m : MethodId} {args : Array Value} {below : List Frame} {meth : Method} {c : Code} {Γ : GG} {res : Int32 × Sg} (M : MX RX4 cX4_load 2 (some .int) p s m args meth c) (K : KK Γ s s.heap)  : ∀ (f : Nat) (x1 : Int32) (σ : Sg) (H : Heap) (locs : List Loc) (ls : Array Slot)  (hB : Bd Γ σ s H locs) (hl : lv_has ls 2 [(0, .ref (Γ.1 0)), (1, .int x1)]) (hr : f_X4_load_17   f x1 σ = some res), WI Γ rm_X4_load p l e s m args below meth c H locs res (F0 m 17 ls []) := by
  intro f
  induction f with
  | zero => intros; rename_i hr; exact absurd hr (by rw [f_X4_load_17]; exact fun h => by cases h)
  | succ f ih_17 =>
    intro x1 σ H locs ls  hB hl hr
    rw [f_X4_load_17] at hr
    refine lv_iload_n M.1 M.2.1 dX4_load_17 rfl (lv_at hl 1 rfl) ?_
    refine lv_aload_n M.1 M.2.1 dX4_load_18 rfl (lv_at hl 0 rfl) ?_
    refine x_get4 M K hB isK_0 4 (by decide) wd_111 (v := .ref (Γ.1 143)) rfl dX4_load_19 ?_
    refine x_get2 M K hB isK_143 3 (by decide) wd_115 (v := .int (σ 143 3)) rfl dX4_load_22 ?_
    refine lv_icmp_ge (tgt := 52) M.1 M.2.1 dX4_load_25 (by decide) (fun c_5 => ?_) (fun c_5 => ?_)
    · rw [if_pos c_5] at hr
      refine lv_iconst (v := 0) M.1 M.2.1 dX4_load_52 (by decide) ?_
      refine lv_istore_n (lv' := [(1, .int 0), (0, .ref (Γ.1 0))]) M.1 M.2.1 dX4_load_53 rfl hl (by decide) rfl (fun ls hl => ?_)
      exact w_X4_load_54 M K   FU 0 _ _ _ _  hB (lv_sub hl [1, 0] rfl) hr
    · rw [if_neg c_5] at hr
      refine lv_aload_n M.1 M.2.1 dX4_load_28 rfl (lv_at hl 0 rfl) ?_
      refine lv_aload_n M.1 M.2.1 dX4_load_29 rfl (lv_at hl 0 rfl) ?_
      refine x_get4 M K hB isK_0 4 (by decide) wd_111 (v := .ref (Γ.1 143)) rfl dX4_load_30 ?_
      refine x_get2 M K hB isK_143 5 (by decide) wd_116 (v := .ref (Γ.1 146)) rfl dX4_load_33 ?_
      refine lv_iload_n M.1 M.2.1 dX4_load_36 rfl (lv_at hl 1 rfl) ?_
      obtain ⟨g_6, hr⟩ := gd hr
      refine x_iald M K hB isA_146 g_6 dX4_load_37 ?_
      obtain ⟨v_7, σ_8, h_9, hr⟩ := cbd hr
      refine x_callI (x_runV M K hB hl.1 [.int (σ 146 (x1.toNatClampNeg))] (rest := []) rfl (c_X4_hasTask l Γ (σ 146 (x1.toNatClampNeg))  σ (v_7, σ_8) h_9) cy_X4_hasTask (x_recv K hB isK_0.2 (ent_4 isK_0.1) rfl) wd_105 ⟨rfl, rfl, Nat.le_of_ble_eq_true rfl, Nat.le_of_ble_eq_true rfl⟩ (Nat.le_of_ble_eq_true rfl) ⟨Nat.zero_le _, Nat.zero_le _⟩ dX4_load_38) hB (fun H locs hB => ?_)
      replace hB : Bd Γ σ_8 s H locs := hB
      refine lv_if_ne (tgt := 46) M.1 M.2.1 dX4_load_41 (by decide) (fun c_10 => ?_) (fun c_10 => ?_)
      · rw [if_neg c_10] at hr
        refine lv_iinc (v := x1 + 1) (lv' := [(1, .int (x1 + 1)), (0, .ref (Γ.1 0))]) M.1 M.2.1 dX4_load_46 hl (k := 1) rfl rfl (by decide) rfl (fun ls hl => ?_)
        refine lv_goto (tgt := 17) M.1 M.2.1 dX4_load_49 (by decide) ?_
        exact ih_17 (x1 + 1) _ _ _ _  hB (lv_sub hl [1, 0] rfl) hr
      · rw [if_pos c_10] at hr
        refine lv_iconst (v := (-1)) M.1 M.2.1 dX4_load_44 (by decide) ?_
        exact x_iret M hB (Option.some.inj hr) dX4_load_45
def f_X4_load_0    (σ : Sg) : Option (Int32 × Sg) :=
cb (f_X2_readFaults_0  σ) fun v_1 σ_2 =>
if v_1 = (-6) then
f_X4_load_17   FU 0 σ_2
else
some ((-3), σ_2)
set_option maxHeartbeats 4000000 in
set_option maxRecDepth 100000 in
theorem w_X4_load_0 {p : Program} {l : Launch} {e : Env} {s : State} {m : MethodId} {args : Array Value} {below : List Frame} {meth : Method} {c : Code} {Γ : GG} {res : Int32 × Sg} (M : MX RX4 cX4_load 2 (some .int) p s m args meth c) (K : KK Γ s s.heap)   (σ : Sg) (H : Heap) (locs : List Loc) (ls : Array Slot)  (hB : Bd Γ σ s H locs) (hl : lv_has ls 2 [(0, .ref (Γ.1 0))]) (hr : f_X4_load_0    σ = some res) : WI Γ rm_X4_load p l e s m args below meth c H locs res (F0 m 0 ls []) := by
  unfold f_X4_load_0 at hr
  refine lv_aload_n M.1 M.2.1 dX4_load_0 rfl (lv_at hl 0 rfl) ?_
  refine x_get4 M K hB isK_0 4 (by decide) wd_111 (v := .ref (Γ.1 143)) rfl dX4_load_1 ?_
  obtain ⟨v_1, σ_2, h_3, hr⟩ := cbd hr
  refine x_callI (x_runV M K hB hl.1 [] (rest := []) rfl (c_X2_readFaults l Γ   σ (v_1, σ_2) h_3) cy_X2_readFaults (x_recv K hB isK_143.2 (ent_2 isK_143.1) rfl) wd_114 ⟨rfl, rfl, Nat.le_of_ble_eq_true rfl, Nat.le_of_ble_eq_true rfl⟩ (Nat.le_of_ble_eq_true rfl) ⟨Nat.zero_le _, Nat.zero_le _⟩ dX4_load_4) hB (fun H locs hB => ?_)
  replace hB : Bd Γ σ_2 s H locs := hB
  refine lv_bipush (v := (-6)) M.1 M.2.1 dX4_load_7 (by decide) ?_
  refine lv_icmp_eq (tgt := 15) M.1 M.2.1 dX4_load_9 (by decide) (fun c_4 => ?_) (fun c_4 => ?_)
  · rw [if_pos c_4] at hr
    refine lv_iconst (v := 0) M.1 M.2.1 dX4_load_15 (by decide) ?_
    refine lv_istore_n (lv' := [(1, .int 0), (0, .ref (Γ.1 0))]) M.1 M.2.1 dX4_load_16 rfl hl (by decide) rfl (fun ls hl => ?_)
    exact w_X4_load_17 M K   FU 0 _ _ _ _  hB (lv_sub hl [1, 0] rfl) hr
  · rw [if_neg c_4] at hr
    refine lv_bipush (v := (-3)) M.1 M.2.1 dX4_load_12 (by decide) ?_
    exact x_iret M hB (Option.some.inj hr) dX4_load_14
theorem c_X4_load (l : Launch) (Γ : GG)   (σ : Sg) (res : Int32 × Sg) (hr : f_X4_load_0  σ = some res) : Met l yX4_load (Cond.code yX4_load cX4_load 2 (some .int) :: gtb) rm_X4_load (va_Pc [.ref (Γ.1 0)] (GI Γ σ)) (QI Γ res) 0 0 (AD Γ) :=
  x_metI (by decide) [.ref (Γ.1 0)] (Nat.le_of_ble_eq_true rfl) (fun p e s m args below meth c M K ls hl hB => w_X4_load_0 M K  σ _ _ ls hB hl hr)
abbrev rm_X4_run : Room := { frames := 5, cells := 0, slots := 0, locals := 109 }
def f_X4_run_33 (a0 : Int32)  : Nat → Int32 → Int32 → Sg → Option (Int32 × Sg)
  | 0, _, _, _ => none
  | f + 1, x1, x2, σ => if x1 ≤ x2 then
some (σ 1 4, σ)
else
cb (f_X0_tick_0 1 σ) fun v_7 σ_8 =>
f_X4_run_33 a0  f x1 (x2 + 1) σ_8
set_option maxHeartbeats 4000000 in
set_option maxRecDepth 100000 in
theorem w_X4_run_33 {p : Program} {l : Launch} {e : Env} {s : State} {m : MethodId} {args : Array Value} {below : List Frame} {meth : Method} {c : Code} {Γ : GG} {res : Int32 × Sg} (M : MX RX4 cX4_run 3 (some .int) p s m args meth c) (K : KK Γ s s.heap) (a0 : Int32) : ∀ (f : Nat) (x1 : Int32) (x2 : Int32) (σ : Sg) (H : Heap) (locs : List Loc) (ls : Array Slot)  (hB : Bd Γ σ s H locs) (hl : lv_has ls 3 [(0, .ref (Γ.1 0)), (1, .int x1), (2, .int x2)]) (hr : f_X4_run_33 a0  f x1 x2 σ = some res), WI Γ rm_X4_run p l e s m args below meth c H locs res (F0 m 33 ls []) := by
  intro f
  induction f with
  | zero => intros; rename_i hr; exact absurd hr (by rw [f_X4_run_33]; exact fun h => by cases h)
  | succ f ih_33 =>
    intro x1 x2 σ H locs ls  hB hl hr
    rw [f_X4_run_33] at hr
    refine lv_iload_n M.1 M.2.1 dX4_run_33 rfl (lv_at hl 2 rfl) ?_
    refine lv_iload_n M.1 M.2.1 dX4_run_34 rfl (lv_at hl 1 rfl) ?_
    refine lv_icmp_ge (tgt := 52) M.1 M.2.1 dX4_run_35 (by decide) (fun c_6 => ?_) (fun c_6 => ?_)
    · rw [if_pos c_6] at hr
      refine lv_aload_n M.1 M.2.1 dX4_run_52 rfl (lv_at hl 0 rfl) ?_
      refine x_get4 M K hB isK_0 0 (by decide) wd_98 (v := .ref (Γ.1 1)) rfl dX4_run_53 ?_
      refine x_get0 M K hB (isB_1.k) 4 (by decide) wd_121 (v := .int (σ 1 4)) rfl dX4_run_56 ?_
      exact x_iret M hB (Option.some.inj hr) dX4_run_59
    · rw [if_neg c_6] at hr
      refine lv_aload_n M.1 M.2.1 dX4_run_38 rfl (lv_at hl 0 rfl) ?_
      refine x_get4 M K hB isK_0 0 (by decide) wd_98 (v := .ref (Γ.1 1)) rfl dX4_run_39 ?_
      obtain ⟨v_7, σ_8, h_9, hr⟩ := cbd hr
      refine x_callI (x_runV M K hB hl.1 [] (rest := []) rfl (c_X0_tick l Γ 1 isB_1 σ (v_7, σ_8) h_9) cy_X0_tick (x_recv K hB (isB_1.k).2 (ent_0 (isB_1.k).1) rfl) wd_123 ⟨rfl, rfl, Nat.le_of_ble_eq_true rfl, Nat.le_of_ble_eq_true rfl⟩ (Nat.le_of_ble_eq_true rfl) ⟨Nat.zero_le _, Nat.zero_le _⟩ dX4_run_42) hB (fun H locs hB => ?_)
      replace hB : Bd Γ σ_8 s H locs := hB
      refine lv_pop M.1 M.2.1 dX4_run_45 rfl ?_
      refine lv_iinc (v := x2 + 1) (lv' := [(2, .int (x2 + 1)), (0, .ref (Γ.1 0)), (1, .int x1)]) M.1 M.2.1 dX4_run_46 hl (k := 2) rfl rfl (by decide) rfl (fun ls hl => ?_)
      refine lv_goto (tgt := 33) M.1 M.2.1 dX4_run_49 (by decide) ?_
      exact ih_33 x1 (x2 + 1) _ _ _ _  hB (lv_sub hl [1, 2, 0] rfl) hr
def f_X4_run_0 (a0 : Int32)   (σ : Sg) : Option (Int32 × Sg) :=
cb (f_X4_isWithin_0 a0 1 2000 σ) fun v_1 σ_2 =>
if v_1 = 0 then
some ((-2), σ_2)
else
if (σ_2 1 4) + a0 ≤ 1000000 then
f_X4_run_33 a0  FU a0 0 σ_2
else
some ((-5), σ_2)
set_option maxHeartbeats 4000000 in
set_option maxRecDepth 100000 in
theorem w_X4_run_0 {p : Program} {l : Launch} {e : Env} {s : State} {m : MethodId} {args : Array Value} {below : List Frame} {meth : Method} {c : Code} {Γ : GG} {res : Int32 × Sg} (M : MX RX4 cX4_run 3 (some .int) p s m args meth c) (K : KK Γ s s.heap) (a0 : Int32)  (σ : Sg) (H : Heap) (locs : List Loc) (ls : Array Slot)  (hB : Bd Γ σ s H locs) (hl : lv_has ls 3 [(0, .ref (Γ.1 0)), (1, .int a0)]) (hr : f_X4_run_0 a0   σ = some res) : WI Γ rm_X4_run p l e s m args below meth c H locs res (F0 m 0 ls []) := by
  unfold f_X4_run_0 at hr
  refine lv_iload_n M.1 M.2.1 dX4_run_0 rfl (lv_at hl 1 rfl) ?_
  refine lv_iconst (v := 1) M.1 M.2.1 dX4_run_1 (by decide) ?_
  refine lv_sipush (v := 2000) M.1 M.2.1 dX4_run_2 (by decide) ?_
  obtain ⟨v_1, σ_2, h_3, hr⟩ := cbd hr
  refine x_callI (x_runS M K hB hl.1 [.int a0, .int 1, .int 2000] (rest := []) rfl (c_X4_isWithin l Γ a0 1 2000  σ (v_1, σ_2) h_3) cy_X4_isWithin wd_94 ⟨rfl, rfl, Nat.le_of_ble_eq_true rfl, Nat.le_of_ble_eq_true rfl⟩ (Nat.le_of_ble_eq_true rfl) ⟨Nat.zero_le _, Nat.zero_le _⟩ dX4_run_5) hB (fun H locs hB => ?_)
  replace hB : Bd Γ σ_2 s H locs := hB
  refine lv_if_ne (tgt := 14) M.1 M.2.1 dX4_run_8 (by decide) (fun c_4 => ?_) (fun c_4 => ?_)
  · rw [if_neg c_4] at hr
    refine lv_aload_n M.1 M.2.1 dX4_run_14 rfl (lv_at hl 0 rfl) ?_
    refine x_get4 M K hB isK_0 0 (by decide) wd_98 (v := .ref (Γ.1 1)) rfl dX4_run_15 ?_
    refine x_get0 M K hB (isB_1.k) 4 (by decide) wd_121 (v := .int (σ_2 1 4)) rfl dX4_run_18 ?_
    refine lv_iload_n M.1 M.2.1 dX4_run_21 rfl (lv_at hl 1 rfl) ?_
    refine lv_iadd M.1 M.2.1 dX4_run_22 ?_
    refine x_ldc (v := 1000000) M wd_122 dX4_run_23 ?_
    refine lv_icmp_le (tgt := 31) M.1 M.2.1 dX4_run_25 (by decide) (fun c_5 => ?_) (fun c_5 => ?_)
    · rw [if_pos c_5] at hr
      refine lv_iconst (v := 0) M.1 M.2.1 dX4_run_31 (by decide) ?_
      refine lv_istore_n (lv' := [(2, .int 0), (0, .ref (Γ.1 0)), (1, .int a0)]) M.1 M.2.1 dX4_run_32 rfl hl (by decide) rfl (fun ls hl => ?_)
      exact w_X4_run_33 M K a0  FU a0 0 _ _ _ _  hB (lv_sub hl [1, 2, 0] rfl) hr
    · rw [if_neg c_5] at hr
      refine lv_bipush (v := (-5)) M.1 M.2.1 dX4_run_28 (by decide) ?_
      exact x_iret M hB (Option.some.inj hr) dX4_run_30
  · rw [if_pos c_4] at hr
    refine lv_bipush (v := (-2)) M.1 M.2.1 dX4_run_11 (by decide) ?_
    exact x_iret M hB (Option.some.inj hr) dX4_run_13
theorem c_X4_run (l : Launch) (Γ : GG) (a0 : Int32)  (σ : Sg) (res : Int32 × Sg) (hr : f_X4_run_0 a0 σ = some res) : Met l yX4_run (Cond.code yX4_run cX4_run 3 (some .int) :: gtb) rm_X4_run (va_Pc [.ref (Γ.1 0), .int a0] (GI Γ σ)) (QI Γ res) 0 0 (AD Γ) :=
  x_metI (by decide) [.ref (Γ.1 0), .int a0] (Nat.le_of_ble_eq_true rfl) (fun p e s m args below meth c M K ls hl hB => w_X4_run_0 M K a0 σ _ _ ls hB hl hr)
abbrev rm_X4_runToReset : Room := { frames := 6, cells := 0, slots := 0, locals := 131 }
def f_X4_runToReset_51 (a0 : Int32)  (s0 : Int32) (σ : Sg) : Option (Int32 × Sg) :=
some (s0, σ)
set_option maxHeartbeats 4000000 in
set_option maxRecDepth 100000 in
theorem w_X4_runToReset_51 {p : Program} {l : Launch} {e : Env} {s : State} {m : MethodId} {args : Array Value} {below : List Frame} {meth : Method} {c : Code} {Γ : GG} {res : Int32 × Sg} (M : MX RX4 cX4_runToReset 3 (some .int) p s m args meth c) (K : KK Γ s s.heap) (a0 : Int32) (s0 : Int32) (σ : Sg) (H : Heap) (locs : List Loc) (ls : Array Slot)  (hB : Bd Γ σ s H locs) (hl : lv_has ls 3 []) (hr : f_X4_runToReset_51 a0  s0 σ = some res) : WI Γ rm_X4_runToReset p l e s m args below meth c H locs res (F0 m 51 ls [.int s0]) := by
  unfold f_X4_runToReset_51 at hr
  exact x_iret M hB (Option.some.inj hr) dX4_runToReset_51
def f_X4_runToReset_0 (a0 : Int32)   (σ : Sg) : Option (Int32 × Sg) :=
cb (f_X4_isWithin_0 a0 1 2000 σ) fun v_1 σ_2 =>
if v_1 = 0 then
some ((-2), σ_2)
else
if (σ_2 1 4) + a0 ≤ 1000000 then
cb (f_X0_ticksToReset_0 1 a0 σ_2) fun v_6 σ_7 =>
if v_6 = (-6) then
f_X4_runToReset_51 a0  a0 σ_7
else
f_X4_runToReset_51 a0  v_6 σ_7
else
some ((-5), σ_2)
set_option maxHeartbeats 4000000 in
set_option maxRecDepth 100000 in
theorem w_X4_runToReset_0 {p : Program} {l : Launch} {e : Env} {s : State} {m : MethodId} {args : Array Value} {below : List Frame} {meth : Method} {c : Code} {Γ : GG} {res : Int32 × Sg} (M : MX RX4 cX4_runToReset 3 (some .int) p s m args meth c) (K : KK Γ s s.heap) (a0 : Int32)  (σ : Sg) (H : Heap) (locs : List Loc) (ls : Array Slot)  (hB : Bd Γ σ s H locs) (hl : lv_has ls 3 [(0, .ref (Γ.1 0)), (1, .int a0)]) (hr : f_X4_runToReset_0 a0   σ = some res) : WI Γ rm_X4_runToReset p l e s m args below meth c H locs res (F0 m 0 ls []) := by
  unfold f_X4_runToReset_0 at hr
  refine lv_iload_n M.1 M.2.1 dX4_runToReset_0 rfl (lv_at hl 1 rfl) ?_
  refine lv_iconst (v := 1) M.1 M.2.1 dX4_runToReset_1 (by decide) ?_
  refine lv_sipush (v := 2000) M.1 M.2.1 dX4_runToReset_2 (by decide) ?_
  obtain ⟨v_1, σ_2, h_3, hr⟩ := cbd hr
  refine x_callI (x_runS M K hB hl.1 [.int a0, .int 1, .int 2000] (rest := []) rfl (c_X4_isWithin l Γ a0 1 2000  σ (v_1, σ_2) h_3) cy_X4_isWithin wd_94 ⟨rfl, rfl, Nat.le_of_ble_eq_true rfl, Nat.le_of_ble_eq_true rfl⟩ (Nat.le_of_ble_eq_true rfl) ⟨Nat.zero_le _, Nat.zero_le _⟩ dX4_runToReset_5) hB (fun H locs hB => ?_)
  replace hB : Bd Γ σ_2 s H locs := hB
  refine lv_if_ne (tgt := 14) M.1 M.2.1 dX4_runToReset_8 (by decide) (fun c_4 => ?_) (fun c_4 => ?_)
  · rw [if_neg c_4] at hr
    refine lv_aload_n M.1 M.2.1 dX4_runToReset_14 rfl (lv_at hl 0 rfl) ?_
    refine x_get4 M K hB isK_0 0 (by decide) wd_98 (v := .ref (Γ.1 1)) rfl dX4_runToReset_15 ?_
    refine x_get0 M K hB (isB_1.k) 4 (by decide) wd_121 (v := .int (σ_2 1 4)) rfl dX4_runToReset_18 ?_
    refine lv_iload_n M.1 M.2.1 dX4_runToReset_21 rfl (lv_at hl 1 rfl) ?_
    refine lv_iadd M.1 M.2.1 dX4_runToReset_22 ?_
    refine x_ldc (v := 1000000) M wd_122 dX4_runToReset_23 ?_
    refine lv_icmp_le (tgt := 31) M.1 M.2.1 dX4_runToReset_25 (by decide) (fun c_5 => ?_) (fun c_5 => ?_)
    · rw [if_pos c_5] at hr
      refine lv_aload_n M.1 M.2.1 dX4_runToReset_31 rfl (lv_at hl 0 rfl) ?_
      refine x_get4 M K hB isK_0 0 (by decide) wd_98 (v := .ref (Γ.1 1)) rfl dX4_runToReset_32 ?_
      refine lv_iload_n M.1 M.2.1 dX4_runToReset_35 rfl (lv_at hl 1 rfl) ?_
      obtain ⟨v_6, σ_7, h_8, hr⟩ := cbd hr
      refine x_callI (x_runV M K hB hl.1 [.int a0] (rest := []) rfl (c_X0_ticksToReset l Γ 1 a0 isB_1 σ_2 (v_6, σ_7) h_8) cy_X0_ticksToReset (x_recv K hB (isB_1.k).2 (ent_0 (isB_1.k).1) rfl) wd_124 ⟨rfl, rfl, Nat.le_of_ble_eq_true rfl, Nat.le_of_ble_eq_true rfl⟩ (Nat.le_of_ble_eq_true rfl) ⟨Nat.zero_le _, Nat.zero_le _⟩ dX4_runToReset_36) hB (fun H locs hB => ?_)
      replace hB : Bd Γ σ_7 s H locs := hB
      refine lv_istore_n (lv' := [(2, .int v_6), (0, .ref (Γ.1 0)), (1, .int a0)]) M.1 M.2.1 dX4_runToReset_39 rfl hl (by decide) rfl (fun ls hl => ?_)
      refine lv_iload_n M.1 M.2.1 dX4_runToReset_40 rfl (lv_at hl 0 rfl) ?_
      refine lv_bipush (v := (-6)) M.1 M.2.1 dX4_runToReset_41 (by decide) ?_
      refine lv_icmp_ne (tgt := 50) M.1 M.2.1 dX4_runToReset_43 (by decide) (fun c_9 => ?_) (fun c_9 => ?_)
      · rw [if_neg c_9] at hr
        refine lv_iload_n M.1 M.2.1 dX4_runToReset_50 rfl (lv_at hl 0 rfl) ?_
        exact w_X4_runToReset_51 M K a0  v_6 _ _ _ _  hB (lv_sub hl [] rfl) hr
      · rw [if_pos c_9] at hr
        refine lv_iload_n M.1 M.2.1 dX4_runToReset_46 rfl (lv_at hl 2 rfl) ?_
        refine lv_goto (tgt := 51) M.1 M.2.1 dX4_runToReset_47 (by decide) ?_
        exact w_X4_runToReset_51 M K a0  a0 _ _ _ _  hB (lv_sub hl [] rfl) hr
    · rw [if_neg c_5] at hr
      refine lv_bipush (v := (-5)) M.1 M.2.1 dX4_runToReset_28 (by decide) ?_
      exact x_iret M hB (Option.some.inj hr) dX4_runToReset_30
  · rw [if_pos c_4] at hr
    refine lv_bipush (v := (-2)) M.1 M.2.1 dX4_runToReset_11 (by decide) ?_
    exact x_iret M hB (Option.some.inj hr) dX4_runToReset_13
theorem c_X4_runToReset (l : Launch) (Γ : GG) (a0 : Int32)  (σ : Sg) (res : Int32 × Sg) (hr : f_X4_runToReset_0 a0 σ = some res) : Met l yX4_runToReset (Cond.code yX4_runToReset cX4_runToReset 3 (some .int) :: gtb) rm_X4_runToReset (va_Pc [.ref (Γ.1 0), .int a0] (GI Γ σ)) (QI Γ res) 0 0 (AD Γ) :=
  x_metI (by decide) [.ref (Γ.1 0), .int a0] (Nat.le_of_ble_eq_true rfl) (fun p e s m args below meth c M K ls hl hB => w_X4_runToReset_0 M K a0 σ _ _ ls hB hl hr)
abbrev rm_X4_kick : Room := { frames := 2, cells := 0, slots := 0, locals := 49 }
def f_X4_kick_61   (x1 : Int32) (σ : Sg) : Option (Int32 × Sg) :=
some (x1, σ)
set_option maxHeartbeats 4000000 in
set_option maxRecDepth 100000 in
theorem w_X4_kick_61 {p : Program} {l : Launch} {e : Env} {s : State} {m : MethodId} {args : Array Value} {below : List Frame} {meth : Method} {c : Code} {Γ : GG} {res : Int32 × Sg} (M : MX RX4 cX4_kick 2 (some .int) p s m args meth c) (K : KK Γ s s.heap)  (x1 : Int32) (σ : Sg) (H : Heap) (locs : List Loc) (ls : Array Slot)  (hB : Bd Γ σ s H locs) (hl : lv_has ls 2 [(1, .int x1)]) (hr : f_X4_kick_61   x1 σ = some res) : WI Γ rm_X4_kick p l e s m args below meth c H locs res (F0 m 61 ls []) := by
  unfold f_X4_kick_61 at hr
  refine lv_iload_n M.1 M.2.1 dX4_kick_61 rfl (lv_at hl 0 rfl) ?_
  exact x_iret M hB (Option.some.inj hr) dX4_kick_62
def f_X4_kick_0    (σ : Sg) : Option (Int32 × Sg) :=
if σ 1 5 = 1 then
if σ 2 0 ≤ σ 1 10 then
wb (st σ 1 10 0) fun σ_3 =>
f_X4_kick_61   (σ 1 10) σ_3
else
cb (f_X0_lowestExpired_0 1 σ) fun v_5 σ_6 =>
cb (f_X0_fall_0 1 1 v_5 σ_6) fun v_8 σ_9 =>
f_X4_kick_61   (σ 1 10) σ_9
else
some ((-5), σ)
set_option maxHeartbeats 4000000 in
set_option maxRecDepth 100000 in
theorem w_X4_kick_0 {p : Program} {l : Launch} {e : Env} {s : State} {m : MethodId} {args : Array Value} {below : List Frame} {meth : Method} {c : Code} {Γ : GG} {res : Int32 × Sg} (M : MX RX4 cX4_kick 2 (some .int) p s m args meth c) (K : KK Γ s s.heap)   (σ : Sg) (H : Heap) (locs : List Loc) (ls : Array Slot)  (hB : Bd Γ σ s H locs) (hl : lv_has ls 2 [(0, .ref (Γ.1 0))]) (hr : f_X4_kick_0    σ = some res) : WI Γ rm_X4_kick p l e s m args below meth c H locs res (F0 m 0 ls []) := by
  unfold f_X4_kick_0 at hr
  refine lv_aload_n M.1 M.2.1 dX4_kick_0 rfl (lv_at hl 0 rfl) ?_
  refine x_get4 M K hB isK_0 0 (by decide) wd_98 (v := .ref (Γ.1 1)) rfl dX4_kick_1 ?_
  refine x_get0 M K hB (isB_1.k) 5 (by decide) wd_125 (v := .int (σ 1 5)) rfl dX4_kick_4 ?_
  refine lv_iconst (v := 1) M.1 M.2.1 dX4_kick_7 (by decide) ?_
  refine lv_icmp_eq (tgt := 14) M.1 M.2.1 dX4_kick_8 (by decide) (fun c_1 => ?_) (fun c_1 => ?_)
  · rw [if_pos c_1] at hr
    refine lv_aload_n M.1 M.2.1 dX4_kick_14 rfl (lv_at hl 0 rfl) ?_
    refine x_get4 M K hB isK_0 0 (by decide) wd_98 (v := .ref (Γ.1 1)) rfl dX4_kick_15 ?_
    refine x_get0 M K hB (isB_1.k) 10 (by decide) wd_126 (v := .int (σ 1 10)) rfl dX4_kick_18 ?_
    refine lv_istore_n (lv' := [(1, .int (σ 1 10)), (0, .ref (Γ.1 0))]) M.1 M.2.1 dX4_kick_21 rfl hl (by decide) rfl (fun ls hl => ?_)
    refine lv_iload_n M.1 M.2.1 dX4_kick_22 rfl (lv_at hl 0 rfl) ?_
    refine lv_aload_n M.1 M.2.1 dX4_kick_23 rfl (lv_at hl 1 rfl) ?_
    refine x_get4 M K hB isK_0 0 (by decide) wd_98 (v := .ref (Γ.1 1)) rfl dX4_kick_24 ?_
    refine x_get0 M K hB (isB_1.k) 0 (by decide) wd_99 (v := .ref (Γ.1 2)) rfl dX4_kick_27 ?_
    refine lv_iconst (v := 0) M.1 M.2.1 dX4_kick_30 (by decide) ?_
    refine x_ialdL M K hB (isB_1.a1) (k := 0) (by decide) (by decide) dX4_kick_31 ?_
    refine lv_icmp_ge (tgt := 53) M.1 M.2.1 dX4_kick_32 (by decide) (fun c_2 => ?_) (fun c_2 => ?_)
    · rw [if_pos c_2] at hr
      refine lv_aload_n M.1 M.2.1 dX4_kick_53 rfl (lv_at hl 1 rfl) ?_
      refine x_get4 M K hB isK_0 0 (by decide) wd_98 (v := .ref (Γ.1 1)) rfl dX4_kick_54 ?_
      refine lv_iconst (v := 0) M.1 M.2.1 dX4_kick_57 (by decide) ?_
      obtain ⟨σ_3, e_4, hr⟩ := wbd hr
      refine x_put0 M K hB (isB_1.k) 10 (by decide) wd_126 dX4_kick_58 (fun H locs hB => ?_)
      rw [← e_4] at hB
      exact w_X4_kick_61 M K   (σ 1 10) _ _ _ _  hB (lv_sub hl [0] rfl) hr
    · rw [if_neg c_2] at hr
      refine lv_aload_n M.1 M.2.1 dX4_kick_35 rfl (lv_at hl 1 rfl) ?_
      refine x_get4 M K hB isK_0 0 (by decide) wd_98 (v := .ref (Γ.1 1)) rfl dX4_kick_36 ?_
      refine lv_iconst (v := 1) M.1 M.2.1 dX4_kick_39 (by decide) ?_
      refine lv_aload_n M.1 M.2.1 dX4_kick_40 rfl (lv_at hl 1 rfl) ?_
      refine x_get4 M K hB isK_0 0 (by decide) wd_98 (v := .ref (Γ.1 1)) rfl dX4_kick_41 ?_
      obtain ⟨v_5, σ_6, h_7, hr⟩ := cbd hr
      refine x_callI (x_runV M K hB hl.1 [] (rest := [.int 1, .ref (Γ.1 1)]) rfl (c_X0_lowestExpired l Γ 1 isB_1 σ (v_5, σ_6) h_7) cy_X0_lowestExpired (x_recv K hB (isB_1.k).2 (ent_0 (isB_1.k).1) rfl) wd_127 ⟨rfl, rfl, Nat.le_of_ble_eq_true rfl, Nat.le_of_ble_eq_true rfl⟩ (Nat.le_of_ble_eq_true rfl) ⟨Nat.zero_le _, Nat.zero_le _⟩ dX4_kick_44) hB (fun H locs hB => ?_)
      replace hB : Bd Γ σ_6 s H locs := hB
      obtain ⟨v_8, σ_9, h_10, hr⟩ := cbd hr
      refine x_callV (x_runV M K hB hl.1 [.int 1, .int v_5] (rest := []) rfl (c_X0_fall l Γ 1 1 v_5 isB_1 σ_6 (v_8, σ_9) h_10) cy_X0_fall (x_recv K hB (isB_1.k).2 (ent_0 (isB_1.k).1) rfl) wd_128 ⟨rfl, rfl, Nat.le_of_ble_eq_true rfl, Nat.le_of_ble_eq_true rfl⟩ (Nat.le_of_ble_eq_true rfl) ⟨Nat.zero_le _, Nat.zero_le _⟩ dX4_kick_47) hB (fun H locs hB => ?_)
      replace hB : Bd Γ σ_9 s H locs := hB
      refine lv_goto (tgt := 61) M.1 M.2.1 dX4_kick_50 (by decide) ?_
      exact w_X4_kick_61 M K   (σ 1 10) _ _ _ _  hB (lv_sub hl [0] rfl) hr
  · rw [if_neg c_1] at hr
    refine lv_bipush (v := (-5)) M.1 M.2.1 dX4_kick_11 (by decide) ?_
    exact x_iret M hB (Option.some.inj hr) dX4_kick_13
theorem c_X4_kick (l : Launch) (Γ : GG)   (σ : Sg) (res : Int32 × Sg) (hr : f_X4_kick_0  σ = some res) : Met l yX4_kick (Cond.code yX4_kick cX4_kick 2 (some .int) :: gtb) rm_X4_kick (va_Pc [.ref (Γ.1 0)] (GI Γ σ)) (QI Γ res) 0 0 (AD Γ) :=
  x_metI (by decide) [.ref (Γ.1 0)] (Nat.le_of_ble_eq_true rfl) (fun p e s m args below meth c M K ls hl hB => w_X4_kick_0 M K  σ _ _ ls hB hl hr)
abbrev rm_X4_reset : Room := { frames := 2, cells := 0, slots := 0, locals := 49 }
def f_X4_reset_0    (σ : Sg) : Option (Int32 × Sg) :=
if σ 1 5 = 1 then
cb (f_X0_lowestExpired_0 1 σ) fun v_2 σ_3 =>
cb (f_X0_fall_0 1 4 v_2 σ_3) fun v_5 σ_6 =>
some (σ 4 1, σ_6)
else
some ((-5), σ)
set_option maxHeartbeats 4000000 in
set_option maxRecDepth 100000 in
theorem w_X4_reset_0 {p : Program} {l : Launch} {e : Env} {s : State} {m : MethodId} {args : Array Value} {below : List Frame} {meth : Method} {c : Code} {Γ : GG} {res : Int32 × Sg} (M : MX RX4 cX4_reset 2 (some .int) p s m args meth c) (K : KK Γ s s.heap)   (σ : Sg) (H : Heap) (locs : List Loc) (ls : Array Slot)  (hB : Bd Γ σ s H locs) (hl : lv_has ls 2 [(0, .ref (Γ.1 0))]) (hr : f_X4_reset_0    σ = some res) : WI Γ rm_X4_reset p l e s m args below meth c H locs res (F0 m 0 ls []) := by
  unfold f_X4_reset_0 at hr
  refine lv_aload_n M.1 M.2.1 dX4_reset_0 rfl (lv_at hl 0 rfl) ?_
  refine x_get4 M K hB isK_0 0 (by decide) wd_98 (v := .ref (Γ.1 1)) rfl dX4_reset_1 ?_
  refine x_get0 M K hB (isB_1.k) 5 (by decide) wd_125 (v := .int (σ 1 5)) rfl dX4_reset_4 ?_
  refine lv_iconst (v := 1) M.1 M.2.1 dX4_reset_7 (by decide) ?_
  refine lv_icmp_eq (tgt := 14) M.1 M.2.1 dX4_reset_8 (by decide) (fun c_1 => ?_) (fun c_1 => ?_)
  · rw [if_pos c_1] at hr
    refine lv_aload_n M.1 M.2.1 dX4_reset_14 rfl (lv_at hl 0 rfl) ?_
    refine x_get4 M K hB isK_0 0 (by decide) wd_98 (v := .ref (Γ.1 1)) rfl dX4_reset_15 ?_
    refine x_get0 M K hB (isB_1.k) 2 (by decide) wd_129 (v := .ref (Γ.1 4)) rfl dX4_reset_18 ?_
    refine x_get1 M K hB (isB_1.bk.k) 1 (by decide) wd_130 (v := .int (σ 4 1)) rfl dX4_reset_21 ?_
    refine lv_istore_n (lv' := [(1, .int (σ 4 1)), (0, .ref (Γ.1 0))]) M.1 M.2.1 dX4_reset_24 rfl hl (by decide) rfl (fun ls hl => ?_)
    refine lv_aload_n M.1 M.2.1 dX4_reset_25 rfl (lv_at hl 1 rfl) ?_
    refine x_get4 M K hB isK_0 0 (by decide) wd_98 (v := .ref (Γ.1 1)) rfl dX4_reset_26 ?_
    refine lv_iconst (v := 4) M.1 M.2.1 dX4_reset_29 (by decide) ?_
    refine lv_aload_n M.1 M.2.1 dX4_reset_30 rfl (lv_at hl 1 rfl) ?_
    refine x_get4 M K hB isK_0 0 (by decide) wd_98 (v := .ref (Γ.1 1)) rfl dX4_reset_31 ?_
    obtain ⟨v_2, σ_3, h_4, hr⟩ := cbd hr
    refine x_callI (x_runV M K hB hl.1 [] (rest := [.int 4, .ref (Γ.1 1)]) rfl (c_X0_lowestExpired l Γ 1 isB_1 σ (v_2, σ_3) h_4) cy_X0_lowestExpired (x_recv K hB (isB_1.k).2 (ent_0 (isB_1.k).1) rfl) wd_127 ⟨rfl, rfl, Nat.le_of_ble_eq_true rfl, Nat.le_of_ble_eq_true rfl⟩ (Nat.le_of_ble_eq_true rfl) ⟨Nat.zero_le _, Nat.zero_le _⟩ dX4_reset_34) hB (fun H locs hB => ?_)
    replace hB : Bd Γ σ_3 s H locs := hB
    obtain ⟨v_5, σ_6, h_7, hr⟩ := cbd hr
    refine x_callV (x_runV M K hB hl.1 [.int 4, .int v_2] (rest := []) rfl (c_X0_fall l Γ 1 4 v_2 isB_1 σ_3 (v_5, σ_6) h_7) cy_X0_fall (x_recv K hB (isB_1.k).2 (ent_0 (isB_1.k).1) rfl) wd_128 ⟨rfl, rfl, Nat.le_of_ble_eq_true rfl, Nat.le_of_ble_eq_true rfl⟩ (Nat.le_of_ble_eq_true rfl) ⟨Nat.zero_le _, Nat.zero_le _⟩ dX4_reset_37) hB (fun H locs hB => ?_)
    replace hB : Bd Γ σ_6 s H locs := hB
    refine lv_iload_n M.1 M.2.1 dX4_reset_40 rfl (lv_at hl 0 rfl) ?_
    exact x_iret M hB (Option.some.inj hr) dX4_reset_41
  · rw [if_neg c_1] at hr
    refine lv_bipush (v := (-5)) M.1 M.2.1 dX4_reset_11 (by decide) ?_
    exact x_iret M hB (Option.some.inj hr) dX4_reset_13
theorem c_X4_reset (l : Launch) (Γ : GG)   (σ : Sg) (res : Int32 × Sg) (hr : f_X4_reset_0  σ = some res) : Met l yX4_reset (Cond.code yX4_reset cX4_reset 2 (some .int) :: gtb) rm_X4_reset (va_Pc [.ref (Γ.1 0)] (GI Γ σ)) (QI Γ res) 0 0 (AD Γ) :=
  x_metI (by decide) [.ref (Γ.1 0)] (Nat.le_of_ble_eq_true rfl) (fun p e s m args below meth c M K ls hl hB => w_X4_reset_0 M K  σ _ _ ls hB hl hr)
abbrev rm_X4_powerCycle : Room := { frames := 2, cells := 0, slots := 0, locals := 40 }
def f_X4_powerCycle_0    (σ : Sg) : Option (Int32 × Sg) :=
cb (f_X0_switchOffAndOn_0 1 σ) fun v_1 σ_2 =>
some (σ 1 5, σ_2)
set_option maxHeartbeats 4000000 in
set_option maxRecDepth 100000 in
theorem w_X4_powerCycle_0 {p : Program} {l : Launch} {e : Env} {s : State} {m : MethodId} {args : Array Value} {below : List Frame} {meth : Method} {c : Code} {Γ : GG} {res : Int32 × Sg} (M : MX RX4 cX4_powerCycle 2 (some .int) p s m args meth c) (K : KK Γ s s.heap)   (σ : Sg) (H : Heap) (locs : List Loc) (ls : Array Slot)  (hB : Bd Γ σ s H locs) (hl : lv_has ls 2 [(0, .ref (Γ.1 0))]) (hr : f_X4_powerCycle_0    σ = some res) : WI Γ rm_X4_powerCycle p l e s m args below meth c H locs res (F0 m 0 ls []) := by
  unfold f_X4_powerCycle_0 at hr
  refine lv_aload_n M.1 M.2.1 dX4_powerCycle_0 rfl (lv_at hl 0 rfl) ?_
  refine x_get4 M K hB isK_0 0 (by decide) wd_98 (v := .ref (Γ.1 1)) rfl dX4_powerCycle_1 ?_
  refine x_get0 M K hB (isB_1.k) 5 (by decide) wd_125 (v := .int (σ 1 5)) rfl dX4_powerCycle_4 ?_
  refine lv_istore_n (lv' := [(1, .int (σ 1 5)), (0, .ref (Γ.1 0))]) M.1 M.2.1 dX4_powerCycle_7 rfl hl (by decide) rfl (fun ls hl => ?_)
  refine lv_aload_n M.1 M.2.1 dX4_powerCycle_8 rfl (lv_at hl 1 rfl) ?_
  refine x_get4 M K hB isK_0 0 (by decide) wd_98 (v := .ref (Γ.1 1)) rfl dX4_powerCycle_9 ?_
  obtain ⟨v_1, σ_2, h_3, hr⟩ := cbd hr
  refine x_callV (x_runV M K hB hl.1 [] (rest := []) rfl (c_X0_switchOffAndOn l Γ 1 isB_1 σ (v_1, σ_2) h_3) cy_X0_switchOffAndOn (x_recv K hB (isB_1.k).2 (ent_0 (isB_1.k).1) rfl) wd_131 ⟨rfl, rfl, Nat.le_of_ble_eq_true rfl, Nat.le_of_ble_eq_true rfl⟩ (Nat.le_of_ble_eq_true rfl) ⟨Nat.zero_le _, Nat.zero_le _⟩ dX4_powerCycle_12) hB (fun H locs hB => ?_)
  replace hB : Bd Γ σ_2 s H locs := hB
  refine lv_iload_n M.1 M.2.1 dX4_powerCycle_15 rfl (lv_at hl 0 rfl) ?_
  exact x_iret M hB (Option.some.inj hr) dX4_powerCycle_16
theorem c_X4_powerCycle (l : Launch) (Γ : GG)   (σ : Sg) (res : Int32 × Sg) (hr : f_X4_powerCycle_0  σ = some res) : Met l yX4_powerCycle (Cond.code yX4_powerCycle cX4_powerCycle 2 (some .int) :: gtb) rm_X4_powerCycle (va_Pc [.ref (Γ.1 0)] (GI Γ σ)) (QI Γ res) 0 0 (AD Γ) :=
  x_metI (by decide) [.ref (Γ.1 0)] (Nat.le_of_ble_eq_true rfl) (fun p e s m args below meth c M K ls hl hB => w_X4_powerCycle_0 M K  σ _ _ ls hB hl hr)
abbrev rm_X4_state : Room := { frames := 1, cells := 0, slots := 0, locals := 22 }
def f_X4_state_145 (a0 : Int32)  (s0 : Int32) (σ : Sg) : Option (Int32 × Sg) :=
some (s0, σ)
set_option maxHeartbeats 4000000 in
set_option maxRecDepth 100000 in
theorem w_X4_state_145 {p : Program} {l : Launch} {e : Env} {s : State} {m : MethodId} {args : Array Value} {below : List Frame} {meth : Method} {c : Code} {Γ : GG} {res : Int32 × Sg} (M : MX RX4 cX4_state 2 (some .int) p s m args meth c) (K : KK Γ s s.heap) (a0 : Int32) (s0 : Int32) (σ : Sg) (H : Heap) (locs : List Loc) (ls : Array Slot)  (hB : Bd Γ σ s H locs) (hl : lv_has ls 2 []) (hr : f_X4_state_145 a0  s0 σ = some res) : WI Γ rm_X4_state p l e s m args below meth c H locs res (F0 m 145 ls [.int s0]) := by
  unfold f_X4_state_145 at hr
  exact x_iret M hB (Option.some.inj hr) dX4_state_145
def f_X4_state_0 (a0 : Int32)   (σ : Sg) : Option (Int32 × Sg) :=
cb (f_X4_isWithin_0 a0 13 20 σ) fun v_1 σ_2 =>
if v_1 = 0 then
if a0 = 0 then
some (σ_2 1 4, σ_2)
else
if a0 = 1 then
some (σ_2 1 5, σ_2)
else
if a0 = 2 then
some (σ_2 1 6, σ_2)
else
if a0 = 3 then
some (σ_2 1 7, σ_2)
else
if a0 = 4 then
if σ_2 1 5 = 0 then
f_X4_state_145 a0  (σ_2 1 8) σ_2
else
f_X4_state_145 a0  0 σ_2
else
if a0 = 5 then
cb (f_X0_ifRunning_0 1 (σ_2 1 9) σ_2) fun v_18 σ_19 =>
some (v_18, σ_19)
else
if a0 = 6 then
cb (f_X0_ifRunning_0 1 (σ_2 1 10) σ_2) fun v_23 σ_24 =>
some (v_23, σ_24)
else
if a0 = 7 then
cb (f_X0_ifRunning_0 1 (σ_2 1 11) σ_2) fun v_28 σ_29 =>
some (v_28, σ_29)
else
if a0 = 8 then
cb (f_X0_ifRunning_0 1 (σ_2 1 12) σ_2) fun v_33 σ_34 =>
some (v_33, σ_34)
else
if a0 = 9 then
some (σ_2 4 1, σ_2)
else
if a0 = 10 then
some (σ_2 1 3, σ_2)
else
if a0 = 11 then
cb (f_X0_expiredSet_0 1 σ_2) fun v_42 σ_43 =>
cb (f_X0_ifRunning_0 1 v_42 σ_43) fun v_45 σ_46 =>
some (v_45, σ_46)
else
if a0 = 12 then
some (σ_2 143 1, σ_2)
else
some ((-2), σ_2)
else
if a0 - 13 < 0 ∨ 8 ≤ (a0 - 13).toNatClampNeg then none else
some (σ_2 2 ((a0 - 13).toNatClampNeg), σ_2)
set_option maxHeartbeats 4000000 in
set_option maxRecDepth 100000 in
theorem w_X4_state_0 {p : Program} {l : Launch} {e : Env} {s : State} {m : MethodId} {args : Array Value} {below : List Frame} {meth : Method} {c : Code} {Γ : GG} {res : Int32 × Sg} (M : MX RX4 cX4_state 2 (some .int) p s m args meth c) (K : KK Γ s s.heap) (a0 : Int32)  (σ : Sg) (H : Heap) (locs : List Loc) (ls : Array Slot)  (hB : Bd Γ σ s H locs) (hl : lv_has ls 2 [(0, .ref (Γ.1 0)), (1, .int a0)]) (hr : f_X4_state_0 a0   σ = some res) : WI Γ rm_X4_state p l e s m args below meth c H locs res (F0 m 0 ls []) := by
  unfold f_X4_state_0 at hr
  refine lv_iload_n M.1 M.2.1 dX4_state_0 rfl (lv_at hl 1 rfl) ?_
  refine lv_bipush (v := 13) M.1 M.2.1 dX4_state_1 (by decide) ?_
  refine lv_bipush (v := 20) M.1 M.2.1 dX4_state_3 (by decide) ?_
  obtain ⟨v_1, σ_2, h_3, hr⟩ := cbd hr
  refine x_callI (x_runS M K hB hl.1 [.int a0, .int 13, .int 20] (rest := []) rfl (c_X4_isWithin l Γ a0 13 20  σ (v_1, σ_2) h_3) cy_X4_isWithin wd_94 ⟨rfl, rfl, Nat.le_of_ble_eq_true rfl, Nat.le_of_ble_eq_true rfl⟩ (Nat.le_of_ble_eq_true rfl) ⟨Nat.zero_le _, Nat.zero_le _⟩ dX4_state_5) hB (fun H locs hB => ?_)
  replace hB : Bd Γ σ_2 s H locs := hB
  refine lv_if_eq (tgt := 24) M.1 M.2.1 dX4_state_8 (by decide) (fun c_4 => ?_) (fun c_4 => ?_)
  · rw [if_pos c_4] at hr
    refine lv_iload_n M.1 M.2.1 dX4_state_24 rfl (lv_at hl 1 rfl) ?_
    by_cases c_5 : a0 = 0
    · rw [if_pos c_5] at hr
      have t_6 : Int32.toInt a0 = 0 := by rw [c_5]; decide
      refine lv_tableIn (off := 67) (tgt := 92) M.1 M.2.1 dX4_state_25 (by rw [t_6]; decide) (by rw [t_6]; decide) (by rw [t_6]; rfl) (by decide) ?_
      refine lv_aload_n M.1 M.2.1 dX4_state_92 rfl (lv_at hl 0 rfl) ?_
      refine x_get4 M K hB isK_0 0 (by decide) wd_98 (v := .ref (Γ.1 1)) rfl dX4_state_93 ?_
      refine x_get0 M K hB (isB_1.k) 4 (by decide) wd_121 (v := .int (σ_2 1 4)) rfl dX4_state_96 ?_
      exact x_iret M hB (Option.some.inj hr) dX4_state_99
    · rw [if_neg c_5] at hr
      have t_6 : ¬ Int32.toInt a0 = 0 := lv_neT c_5 (by decide)
      by_cases c_7 : a0 = 1
      · rw [if_pos c_7] at hr
        have t_8 : Int32.toInt a0 = 1 := by rw [c_7]; decide
        refine lv_tableIn (off := 75) (tgt := 100) M.1 M.2.1 dX4_state_25 (by rw [t_8]; decide) (by rw [t_8]; decide) (by rw [t_8]; rfl) (by decide) ?_
        refine lv_aload_n M.1 M.2.1 dX4_state_100 rfl (lv_at hl 0 rfl) ?_
        refine x_get4 M K hB isK_0 0 (by decide) wd_98 (v := .ref (Γ.1 1)) rfl dX4_state_101 ?_
        refine x_get0 M K hB (isB_1.k) 5 (by decide) wd_125 (v := .int (σ_2 1 5)) rfl dX4_state_104 ?_
        exact x_iret M hB (Option.some.inj hr) dX4_state_107
      · rw [if_neg c_7] at hr
        have t_8 : ¬ Int32.toInt a0 = 1 := lv_neT c_7 (by decide)
        by_cases c_9 : a0 = 2
        · rw [if_pos c_9] at hr
          have t_10 : Int32.toInt a0 = 2 := by rw [c_9]; decide
          refine lv_tableIn (off := 83) (tgt := 108) M.1 M.2.1 dX4_state_25 (by rw [t_10]; decide) (by rw [t_10]; decide) (by rw [t_10]; rfl) (by decide) ?_
          refine lv_aload_n M.1 M.2.1 dX4_state_108 rfl (lv_at hl 0 rfl) ?_
          refine x_get4 M K hB isK_0 0 (by decide) wd_98 (v := .ref (Γ.1 1)) rfl dX4_state_109 ?_
          refine x_get0 M K hB (isB_1.k) 6 (by decide) wd_132 (v := .int (σ_2 1 6)) rfl dX4_state_112 ?_
          exact x_iret M hB (Option.some.inj hr) dX4_state_115
        · rw [if_neg c_9] at hr
          have t_10 : ¬ Int32.toInt a0 = 2 := lv_neT c_9 (by decide)
          by_cases c_11 : a0 = 3
          · rw [if_pos c_11] at hr
            have t_12 : Int32.toInt a0 = 3 := by rw [c_11]; decide
            refine lv_tableIn (off := 91) (tgt := 116) M.1 M.2.1 dX4_state_25 (by rw [t_12]; decide) (by rw [t_12]; decide) (by rw [t_12]; rfl) (by decide) ?_
            refine lv_aload_n M.1 M.2.1 dX4_state_116 rfl (lv_at hl 0 rfl) ?_
            refine x_get4 M K hB isK_0 0 (by decide) wd_98 (v := .ref (Γ.1 1)) rfl dX4_state_117 ?_
            refine x_get0 M K hB (isB_1.k) 7 (by decide) wd_133 (v := .int (σ_2 1 7)) rfl dX4_state_120 ?_
            exact x_iret M hB (Option.some.inj hr) dX4_state_123
          · rw [if_neg c_11] at hr
            have t_12 : ¬ Int32.toInt a0 = 3 := lv_neT c_11 (by decide)
            by_cases c_13 : a0 = 4
            · rw [if_pos c_13] at hr
              have t_14 : Int32.toInt a0 = 4 := by rw [c_13]; decide
              refine lv_tableIn (off := 99) (tgt := 124) M.1 M.2.1 dX4_state_25 (by rw [t_14]; decide) (by rw [t_14]; decide) (by rw [t_14]; rfl) (by decide) ?_
              refine lv_aload_n M.1 M.2.1 dX4_state_124 rfl (lv_at hl 0 rfl) ?_
              refine x_get4 M K hB isK_0 0 (by decide) wd_98 (v := .ref (Γ.1 1)) rfl dX4_state_125 ?_
              refine x_get0 M K hB (isB_1.k) 5 (by decide) wd_125 (v := .int (σ_2 1 5)) rfl dX4_state_128 ?_
              refine lv_if_ne (tgt := 144) M.1 M.2.1 dX4_state_131 (by decide) (fun c_15 => ?_) (fun c_15 => ?_)
              · rw [if_neg c_15] at hr
                refine lv_iconst (v := 0) M.1 M.2.1 dX4_state_144 (by decide) ?_
                exact w_X4_state_145 M K a0  0 _ _ _ _  hB (lv_sub hl [] rfl) hr
              · rw [if_pos c_15] at hr
                refine lv_aload_n M.1 M.2.1 dX4_state_134 rfl (lv_at hl 0 rfl) ?_
                refine x_get4 M K hB isK_0 0 (by decide) wd_98 (v := .ref (Γ.1 1)) rfl dX4_state_135 ?_
                refine x_get0 M K hB (isB_1.k) 8 (by decide) wd_134 (v := .int (σ_2 1 8)) rfl dX4_state_138 ?_
                refine lv_goto (tgt := 145) M.1 M.2.1 dX4_state_141 (by decide) ?_
                exact w_X4_state_145 M K a0  (σ_2 1 8) _ _ _ _  hB (lv_sub hl [] rfl) hr
            · rw [if_neg c_13] at hr
              have t_14 : ¬ Int32.toInt a0 = 4 := lv_neT c_13 (by decide)
              by_cases c_16 : a0 = 5
              · rw [if_pos c_16] at hr
                have t_17 : Int32.toInt a0 = 5 := by rw [c_16]; decide
                refine lv_tableIn (off := 121) (tgt := 146) M.1 M.2.1 dX4_state_25 (by rw [t_17]; decide) (by rw [t_17]; decide) (by rw [t_17]; rfl) (by decide) ?_
                refine lv_aload_n M.1 M.2.1 dX4_state_146 rfl (lv_at hl 0 rfl) ?_
                refine x_get4 M K hB isK_0 0 (by decide) wd_98 (v := .ref (Γ.1 1)) rfl dX4_state_147 ?_
                refine lv_aload_n M.1 M.2.1 dX4_state_150 rfl (lv_at hl 0 rfl) ?_
                refine x_get4 M K hB isK_0 0 (by decide) wd_98 (v := .ref (Γ.1 1)) rfl dX4_state_151 ?_
                refine x_get0 M K hB (isB_1.k) 9 (by decide) wd_135 (v := .int (σ_2 1 9)) rfl dX4_state_154 ?_
                obtain ⟨v_18, σ_19, h_20, hr⟩ := cbd hr
                refine x_callI (x_runV M K hB hl.1 [.int (σ_2 1 9)] (rest := []) rfl (c_X0_ifRunning l Γ 1 (σ_2 1 9) isB_1 σ_2 (v_18, σ_19) h_20) cy_X0_ifRunning (x_recv K hB (isB_1.k).2 (ent_0 (isB_1.k).1) rfl) wd_136 ⟨rfl, rfl, Nat.le_of_ble_eq_true rfl, Nat.le_of_ble_eq_true rfl⟩ (Nat.le_of_ble_eq_true rfl) ⟨Nat.zero_le _, Nat.zero_le _⟩ dX4_state_157) hB (fun H locs hB => ?_)
                replace hB : Bd Γ σ_19 s H locs := hB
                exact x_iret M hB (Option.some.inj hr) dX4_state_160
              · rw [if_neg c_16] at hr
                have t_17 : ¬ Int32.toInt a0 = 5 := lv_neT c_16 (by decide)
                by_cases c_21 : a0 = 6
                · rw [if_pos c_21] at hr
                  have t_22 : Int32.toInt a0 = 6 := by rw [c_21]; decide
                  refine lv_tableIn (off := 136) (tgt := 161) M.1 M.2.1 dX4_state_25 (by rw [t_22]; decide) (by rw [t_22]; decide) (by rw [t_22]; rfl) (by decide) ?_
                  refine lv_aload_n M.1 M.2.1 dX4_state_161 rfl (lv_at hl 0 rfl) ?_
                  refine x_get4 M K hB isK_0 0 (by decide) wd_98 (v := .ref (Γ.1 1)) rfl dX4_state_162 ?_
                  refine lv_aload_n M.1 M.2.1 dX4_state_165 rfl (lv_at hl 0 rfl) ?_
                  refine x_get4 M K hB isK_0 0 (by decide) wd_98 (v := .ref (Γ.1 1)) rfl dX4_state_166 ?_
                  refine x_get0 M K hB (isB_1.k) 10 (by decide) wd_126 (v := .int (σ_2 1 10)) rfl dX4_state_169 ?_
                  obtain ⟨v_23, σ_24, h_25, hr⟩ := cbd hr
                  refine x_callI (x_runV M K hB hl.1 [.int (σ_2 1 10)] (rest := []) rfl (c_X0_ifRunning l Γ 1 (σ_2 1 10) isB_1 σ_2 (v_23, σ_24) h_25) cy_X0_ifRunning (x_recv K hB (isB_1.k).2 (ent_0 (isB_1.k).1) rfl) wd_136 ⟨rfl, rfl, Nat.le_of_ble_eq_true rfl, Nat.le_of_ble_eq_true rfl⟩ (Nat.le_of_ble_eq_true rfl) ⟨Nat.zero_le _, Nat.zero_le _⟩ dX4_state_172) hB (fun H locs hB => ?_)
                  replace hB : Bd Γ σ_24 s H locs := hB
                  exact x_iret M hB (Option.some.inj hr) dX4_state_175
                · rw [if_neg c_21] at hr
                  have t_22 : ¬ Int32.toInt a0 = 6 := lv_neT c_21 (by decide)
                  by_cases c_26 : a0 = 7
                  · rw [if_pos c_26] at hr
                    have t_27 : Int32.toInt a0 = 7 := by rw [c_26]; decide
                    refine lv_tableIn (off := 151) (tgt := 176) M.1 M.2.1 dX4_state_25 (by rw [t_27]; decide) (by rw [t_27]; decide) (by rw [t_27]; rfl) (by decide) ?_
                    refine lv_aload_n M.1 M.2.1 dX4_state_176 rfl (lv_at hl 0 rfl) ?_
                    refine x_get4 M K hB isK_0 0 (by decide) wd_98 (v := .ref (Γ.1 1)) rfl dX4_state_177 ?_
                    refine lv_aload_n M.1 M.2.1 dX4_state_180 rfl (lv_at hl 0 rfl) ?_
                    refine x_get4 M K hB isK_0 0 (by decide) wd_98 (v := .ref (Γ.1 1)) rfl dX4_state_181 ?_
                    refine x_get0 M K hB (isB_1.k) 11 (by decide) wd_137 (v := .int (σ_2 1 11)) rfl dX4_state_184 ?_
                    obtain ⟨v_28, σ_29, h_30, hr⟩ := cbd hr
                    refine x_callI (x_runV M K hB hl.1 [.int (σ_2 1 11)] (rest := []) rfl (c_X0_ifRunning l Γ 1 (σ_2 1 11) isB_1 σ_2 (v_28, σ_29) h_30) cy_X0_ifRunning (x_recv K hB (isB_1.k).2 (ent_0 (isB_1.k).1) rfl) wd_136 ⟨rfl, rfl, Nat.le_of_ble_eq_true rfl, Nat.le_of_ble_eq_true rfl⟩ (Nat.le_of_ble_eq_true rfl) ⟨Nat.zero_le _, Nat.zero_le _⟩ dX4_state_187) hB (fun H locs hB => ?_)
                    replace hB : Bd Γ σ_29 s H locs := hB
                    exact x_iret M hB (Option.some.inj hr) dX4_state_190
                  · rw [if_neg c_26] at hr
                    have t_27 : ¬ Int32.toInt a0 = 7 := lv_neT c_26 (by decide)
                    by_cases c_31 : a0 = 8
                    · rw [if_pos c_31] at hr
                      have t_32 : Int32.toInt a0 = 8 := by rw [c_31]; decide
                      refine lv_tableIn (off := 166) (tgt := 191) M.1 M.2.1 dX4_state_25 (by rw [t_32]; decide) (by rw [t_32]; decide) (by rw [t_32]; rfl) (by decide) ?_
                      refine lv_aload_n M.1 M.2.1 dX4_state_191 rfl (lv_at hl 0 rfl) ?_
                      refine x_get4 M K hB isK_0 0 (by decide) wd_98 (v := .ref (Γ.1 1)) rfl dX4_state_192 ?_
                      refine lv_aload_n M.1 M.2.1 dX4_state_195 rfl (lv_at hl 0 rfl) ?_
                      refine x_get4 M K hB isK_0 0 (by decide) wd_98 (v := .ref (Γ.1 1)) rfl dX4_state_196 ?_
                      refine x_get0 M K hB (isB_1.k) 12 (by decide) wd_138 (v := .int (σ_2 1 12)) rfl dX4_state_199 ?_
                      obtain ⟨v_33, σ_34, h_35, hr⟩ := cbd hr
                      refine x_callI (x_runV M K hB hl.1 [.int (σ_2 1 12)] (rest := []) rfl (c_X0_ifRunning l Γ 1 (σ_2 1 12) isB_1 σ_2 (v_33, σ_34) h_35) cy_X0_ifRunning (x_recv K hB (isB_1.k).2 (ent_0 (isB_1.k).1) rfl) wd_136 ⟨rfl, rfl, Nat.le_of_ble_eq_true rfl, Nat.le_of_ble_eq_true rfl⟩ (Nat.le_of_ble_eq_true rfl) ⟨Nat.zero_le _, Nat.zero_le _⟩ dX4_state_202) hB (fun H locs hB => ?_)
                      replace hB : Bd Γ σ_34 s H locs := hB
                      exact x_iret M hB (Option.some.inj hr) dX4_state_205
                    · rw [if_neg c_31] at hr
                      have t_32 : ¬ Int32.toInt a0 = 8 := lv_neT c_31 (by decide)
                      by_cases c_36 : a0 = 9
                      · rw [if_pos c_36] at hr
                        have t_37 : Int32.toInt a0 = 9 := by rw [c_36]; decide
                        refine lv_tableIn (off := 181) (tgt := 206) M.1 M.2.1 dX4_state_25 (by rw [t_37]; decide) (by rw [t_37]; decide) (by rw [t_37]; rfl) (by decide) ?_
                        refine lv_aload_n M.1 M.2.1 dX4_state_206 rfl (lv_at hl 0 rfl) ?_
                        refine x_get4 M K hB isK_0 0 (by decide) wd_98 (v := .ref (Γ.1 1)) rfl dX4_state_207 ?_
                        refine x_get0 M K hB (isB_1.k) 2 (by decide) wd_129 (v := .ref (Γ.1 4)) rfl dX4_state_210 ?_
                        refine x_get1 M K hB (isB_1.bk.k) 1 (by decide) wd_130 (v := .int (σ_2 4 1)) rfl dX4_state_213 ?_
                        exact x_iret M hB (Option.some.inj hr) dX4_state_216
                      · rw [if_neg c_36] at hr
                        have t_37 : ¬ Int32.toInt a0 = 9 := lv_neT c_36 (by decide)
                        by_cases c_38 : a0 = 10
                        · rw [if_pos c_38] at hr
                          have t_39 : Int32.toInt a0 = 10 := by rw [c_38]; decide
                          refine lv_tableIn (off := 192) (tgt := 217) M.1 M.2.1 dX4_state_25 (by rw [t_39]; decide) (by rw [t_39]; decide) (by rw [t_39]; rfl) (by decide) ?_
                          refine lv_aload_n M.1 M.2.1 dX4_state_217 rfl (lv_at hl 0 rfl) ?_
                          refine x_get4 M K hB isK_0 0 (by decide) wd_98 (v := .ref (Γ.1 1)) rfl dX4_state_218 ?_
                          refine x_get0 M K hB (isB_1.k) 3 (by decide) wd_102 (v := .int (σ_2 1 3)) rfl dX4_state_221 ?_
                          exact x_iret M hB (Option.some.inj hr) dX4_state_224
                        · rw [if_neg c_38] at hr
                          have t_39 : ¬ Int32.toInt a0 = 10 := lv_neT c_38 (by decide)
                          by_cases c_40 : a0 = 11
                          · rw [if_pos c_40] at hr
                            have t_41 : Int32.toInt a0 = 11 := by rw [c_40]; decide
                            refine lv_tableIn (off := 200) (tgt := 225) M.1 M.2.1 dX4_state_25 (by rw [t_41]; decide) (by rw [t_41]; decide) (by rw [t_41]; rfl) (by decide) ?_
                            refine lv_aload_n M.1 M.2.1 dX4_state_225 rfl (lv_at hl 0 rfl) ?_
                            refine x_get4 M K hB isK_0 0 (by decide) wd_98 (v := .ref (Γ.1 1)) rfl dX4_state_226 ?_
                            refine lv_aload_n M.1 M.2.1 dX4_state_229 rfl (lv_at hl 0 rfl) ?_
                            refine x_get4 M K hB isK_0 0 (by decide) wd_98 (v := .ref (Γ.1 1)) rfl dX4_state_230 ?_
                            obtain ⟨v_42, σ_43, h_44, hr⟩ := cbd hr
                            refine x_callI (x_runV M K hB hl.1 [] (rest := [.ref (Γ.1 1)]) rfl (c_X0_expiredSet l Γ 1 isB_1 σ_2 (v_42, σ_43) h_44) cy_X0_expiredSet (x_recv K hB (isB_1.k).2 (ent_0 (isB_1.k).1) rfl) wd_139 ⟨rfl, rfl, Nat.le_of_ble_eq_true rfl, Nat.le_of_ble_eq_true rfl⟩ (Nat.le_of_ble_eq_true rfl) ⟨Nat.zero_le _, Nat.zero_le _⟩ dX4_state_233) hB (fun H locs hB => ?_)
                            replace hB : Bd Γ σ_43 s H locs := hB
                            obtain ⟨v_45, σ_46, h_47, hr⟩ := cbd hr
                            refine x_callI (x_runV M K hB hl.1 [.int v_42] (rest := []) rfl (c_X0_ifRunning l Γ 1 v_42 isB_1 σ_43 (v_45, σ_46) h_47) cy_X0_ifRunning (x_recv K hB (isB_1.k).2 (ent_0 (isB_1.k).1) rfl) wd_136 ⟨rfl, rfl, Nat.le_of_ble_eq_true rfl, Nat.le_of_ble_eq_true rfl⟩ (Nat.le_of_ble_eq_true rfl) ⟨Nat.zero_le _, Nat.zero_le _⟩ dX4_state_236) hB (fun H locs hB => ?_)
                            replace hB : Bd Γ σ_46 s H locs := hB
                            exact x_iret M hB (Option.some.inj hr) dX4_state_239
                          · rw [if_neg c_40] at hr
                            have t_41 : ¬ Int32.toInt a0 = 11 := lv_neT c_40 (by decide)
                            by_cases c_48 : a0 = 12
                            · rw [if_pos c_48] at hr
                              have t_49 : Int32.toInt a0 = 12 := by rw [c_48]; decide
                              refine lv_tableIn (off := 215) (tgt := 240) M.1 M.2.1 dX4_state_25 (by rw [t_49]; decide) (by rw [t_49]; decide) (by rw [t_49]; rfl) (by decide) ?_
                              refine lv_aload_n M.1 M.2.1 dX4_state_240 rfl (lv_at hl 0 rfl) ?_
                              refine x_get4 M K hB isK_0 4 (by decide) wd_111 (v := .ref (Γ.1 143)) rfl dX4_state_241 ?_
                              refine x_get2 M K hB isK_143 1 (by decide) wd_112 (v := .int (σ_2 143 1)) rfl dX4_state_244 ?_
                              exact x_iret M hB (Option.some.inj hr) dX4_state_247
                            · rw [if_neg c_48] at hr
                              have t_49 : ¬ Int32.toInt a0 = 12 := lv_neT c_48 (by decide)
                              refine lv_tableOut (tgt := 248) M.1 M.2.1 dX4_state_25 (by omega) (by decide) ?_
                              refine lv_bipush (v := (-2)) M.1 M.2.1 dX4_state_248 (by decide) ?_
                              exact x_iret M hB (Option.some.inj hr) dX4_state_250
  · rw [if_neg c_4] at hr
    refine lv_aload_n M.1 M.2.1 dX4_state_11 rfl (lv_at hl 0 rfl) ?_
    refine x_get4 M K hB isK_0 0 (by decide) wd_98 (v := .ref (Γ.1 1)) rfl dX4_state_12 ?_
    refine x_get0 M K hB (isB_1.k) 0 (by decide) wd_99 (v := .ref (Γ.1 2)) rfl dX4_state_15 ?_
    refine lv_iload_n M.1 M.2.1 dX4_state_18 rfl (lv_at hl 1 rfl) ?_
    refine lv_bipush (v := 13) M.1 M.2.1 dX4_state_19 (by decide) ?_
    refine lv_isub M.1 M.2.1 dX4_state_21 ?_
    obtain ⟨g_50, hr⟩ := gd hr
    refine x_iald M K hB (isB_1.a1) g_50 dX4_state_22 ?_
    exact x_iret M hB (Option.some.inj hr) dX4_state_23
theorem c_X4_state (l : Launch) (Γ : GG) (a0 : Int32)  (σ : Sg) (res : Int32 × Sg) (hr : f_X4_state_0 a0 σ = some res) : Met l yX4_state (Cond.code yX4_state cX4_state 2 (some .int) :: gtb) rm_X4_state (va_Pc [.ref (Γ.1 0), .int a0] (GI Γ σ)) (QI Γ res) 0 0 (AD Γ) :=
  x_metI (by decide) [.ref (Γ.1 0), .int a0] (Nat.le_of_ble_eq_true rfl) (fun p e s m args below meth c M K ls hl hB => w_X4_state_0 M K a0 σ _ _ ls hB hl hr)
