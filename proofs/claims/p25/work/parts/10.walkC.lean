abbrev rm_X4_isWithin : Room := { frames := 0, cells := 0, slots := 0, locals := 0 }
def f_X4_isWithin_15 (a0 : Int32) (a1 : Int32) (a2 : Int32)  (s0 : Int32) (σ : Sg) : Option (Int32 × Sg) :=
if s0 = 0 ∨ s0 = 1 then some (s0, σ) else none
set_option maxHeartbeats 4000000 in
set_option maxRecDepth 100000 in
theorem w_X4_isWithin_15 {p : Program} {l : Launch} {e : Env} {s : State} {m : MethodId} {args : Array Value} {below : List Frame} {meth : Method} {c : Code} {Γ : GG} {res : Int32 × Sg} (M : MX RX4 cX4_isWithin 3 (some .boolean) p s m args meth c) (K : KK Γ s s.heap) (a0 : Int32) (a1 : Int32) (a2 : Int32) (s0 : Int32) (σ : Sg) (H : Heap) (locs : List Loc) (ls : Array Slot)  (hB : Bd Γ σ s H locs) (hl : lv_has ls 3 []) (hr : f_X4_isWithin_15 a0 a1 a2  s0 σ = some res) : WI Γ rm_X4_isWithin p l e s m args below meth c H locs res (F0 m 15 ls [.int s0]) := by
  unfold f_X4_isWithin_15 at hr
  obtain ⟨g_3, hr⟩ := gd2 hr
  exact x_zret M hB (nar_z g_3) (Option.some.inj hr) dX4_isWithin_15
def f_X4_isWithin_14 (a0 : Int32) (a1 : Int32) (a2 : Int32)   (σ : Sg) : Option (Int32 × Sg) :=
f_X4_isWithin_15 a0 a1 a2  0 σ
set_option maxHeartbeats 4000000 in
set_option maxRecDepth 100000 in
theorem w_X4_isWithin_14 {p : Program} {l : Launch} {e : Env} {s : State} {m : MethodId} {args : Array Value} {below : List Frame} {meth : Method} {c : Code} {Γ : GG} {res : Int32 × Sg} (M : MX RX4 cX4_isWithin 3 (some .boolean) p s m args meth c) (K : KK Γ s s.heap) (a0 : Int32) (a1 : Int32) (a2 : Int32)  (σ : Sg) (H : Heap) (locs : List Loc) (ls : Array Slot)  (hB : Bd Γ σ s H locs) (hl : lv_has ls 3 []) (hr : f_X4_isWithin_14 a0 a1 a2   σ = some res) : WI Γ rm_X4_isWithin p l e s m args below meth c H locs res (F0 m 14 ls []) := by
  unfold f_X4_isWithin_14 at hr
  refine lv_iconst (v := 0) M.1 M.2.1 dX4_isWithin_14 (by decide) ?_
  exact w_X4_isWithin_15 M K a0 a1 a2  0 _ _ _ _  hB (lv_sub hl [] rfl) hr
def f_X4_isWithin_0 (a0 : Int32) (a1 : Int32) (a2 : Int32)   (σ : Sg) : Option (Int32 × Sg) :=
if a0 < a1 then
f_X4_isWithin_14 a0 a1 a2   σ
else
if a2 < a0 then
f_X4_isWithin_14 a0 a1 a2   σ
else
f_X4_isWithin_15 a0 a1 a2  1 σ
set_option maxHeartbeats 4000000 in
set_option maxRecDepth 100000 in
theorem w_X4_isWithin_0 {p : Program} {l : Launch} {e : Env} {s : State} {m : MethodId} {args : Array Value} {below : List Frame} {meth : Method} {c : Code} {Γ : GG} {res : Int32 × Sg} (M : MX RX4 cX4_isWithin 3 (some .boolean) p s m args meth c) (K : KK Γ s s.heap) (a0 : Int32) (a1 : Int32) (a2 : Int32)  (σ : Sg) (H : Heap) (locs : List Loc) (ls : Array Slot)  (hB : Bd Γ σ s H locs) (hl : lv_has ls 3 [(0, .int a0), (1, .int a1), (2, .int a2)]) (hr : f_X4_isWithin_0 a0 a1 a2   σ = some res) : WI Γ rm_X4_isWithin p l e s m args below meth c H locs res (F0 m 0 ls []) := by
  unfold f_X4_isWithin_0 at hr
  refine lv_iload_n M.1 M.2.1 dX4_isWithin_0 rfl (lv_at hl 0 rfl) ?_
  refine lv_iload_n M.1 M.2.1 dX4_isWithin_1 rfl (lv_at hl 1 rfl) ?_
  refine lv_icmp_lt (tgt := 14) M.1 M.2.1 dX4_isWithin_2 (by decide) (fun c_1 => ?_) (fun c_1 => ?_)
  · rw [if_pos c_1] at hr
    exact w_X4_isWithin_14 M K a0 a1 a2   _ _ _ _  hB (lv_sub hl [] rfl) hr
  · rw [if_neg c_1] at hr
    refine lv_iload_n M.1 M.2.1 dX4_isWithin_5 rfl (lv_at hl 0 rfl) ?_
    refine lv_iload_n M.1 M.2.1 dX4_isWithin_6 rfl (lv_at hl 2 rfl) ?_
    refine lv_icmp_gt (tgt := 14) M.1 M.2.1 dX4_isWithin_7 (by decide) (fun c_2 => ?_) (fun c_2 => ?_)
    · rw [if_pos c_2] at hr
      exact w_X4_isWithin_14 M K a0 a1 a2   _ _ _ _  hB (lv_sub hl [] rfl) hr
    · rw [if_neg c_2] at hr
      refine lv_iconst (v := 1) M.1 M.2.1 dX4_isWithin_10 (by decide) ?_
      refine lv_goto (tgt := 15) M.1 M.2.1 dX4_isWithin_11 (by decide) ?_
      exact w_X4_isWithin_15 M K a0 a1 a2  1 _ _ _ _  hB (lv_sub hl [] rfl) hr
theorem c_X4_isWithin (l : Launch) (Γ : GG) (a0 : Int32) (a1 : Int32) (a2 : Int32)  (σ : Sg) (res : Int32 × Sg) (hr : f_X4_isWithin_0 a0 a1 a2 σ = some res) : Met l yX4_isWithin (Cond.code yX4_isWithin cX4_isWithin 3 (some .boolean) :: gtb) rm_X4_isWithin (va_Pc [.int a0, .int a1, .int a2] (GI Γ σ)) (QI Γ res) 0 0 (AD Γ) :=
  x_metI (by decide) [.int a0, .int a1, .int a2] (Nat.le_of_ble_eq_true rfl) (fun p e s m args below meth c M K ls hl hB => w_X4_isWithin_0 M K a0 a1 a2 σ _ _ ls hB hl hr)
abbrev rm_X4_divides : Room := { frames := 0, cells := 0, slots := 0, locals := 0 }
def f_X4_divides_15 (a0 : Int32) (a1 : Int32)  (s0 : Int32) (σ : Sg) : Option (Int32 × Sg) :=
if s0 = 0 ∨ s0 = 1 then some (s0, σ) else none
set_option maxHeartbeats 4000000 in
set_option maxRecDepth 100000 in
theorem w_X4_divides_15 {p : Program} {l : Launch} {e : Env} {s : State} {m : MethodId} {args : Array Value} {below : List Frame} {meth : Method} {c : Code} {Γ : GG} {res : Int32 × Sg} (M : MX RX4 cX4_divides 2 (some .boolean) p s m args meth c) (K : KK Γ s s.heap) (a0 : Int32) (a1 : Int32) (s0 : Int32) (σ : Sg) (H : Heap) (locs : List Loc) (ls : Array Slot)  (hB : Bd Γ σ s H locs) (hl : lv_has ls 2 []) (hr : f_X4_divides_15 a0 a1  s0 σ = some res) : WI Γ rm_X4_divides p l e s m args below meth c H locs res (F0 m 15 ls [.int s0]) := by
  unfold f_X4_divides_15 at hr
  obtain ⟨g_4, hr⟩ := gd2 hr
  exact x_zret M hB (nar_z g_4) (Option.some.inj hr) dX4_divides_15
def f_X4_divides_14 (a0 : Int32) (a1 : Int32)   (σ : Sg) : Option (Int32 × Sg) :=
f_X4_divides_15 a0 a1  0 σ
set_option maxHeartbeats 4000000 in
set_option maxRecDepth 100000 in
theorem w_X4_divides_14 {p : Program} {l : Launch} {e : Env} {s : State} {m : MethodId} {args : Array Value} {below : List Frame} {meth : Method} {c : Code} {Γ : GG} {res : Int32 × Sg} (M : MX RX4 cX4_divides 2 (some .boolean) p s m args meth c) (K : KK Γ s s.heap) (a0 : Int32) (a1 : Int32)  (σ : Sg) (H : Heap) (locs : List Loc) (ls : Array Slot)  (hB : Bd Γ σ s H locs) (hl : lv_has ls 2 []) (hr : f_X4_divides_14 a0 a1   σ = some res) : WI Γ rm_X4_divides p l e s m args below meth c H locs res (F0 m 14 ls []) := by
  unfold f_X4_divides_14 at hr
  refine lv_iconst (v := 0) M.1 M.2.1 dX4_divides_14 (by decide) ?_
  exact w_X4_divides_15 M K a0 a1  0 _ _ _ _  hB (lv_sub hl [] rfl) hr
def f_X4_divides_0 (a0 : Int32) (a1 : Int32)   (σ : Sg) : Option (Int32 × Sg) :=
if a0 ≤ 0 then
f_X4_divides_14 a0 a1   σ
else
if a0 = 0 then none else
if a1 - a1 / a0 * a0 = 0 then
f_X4_divides_15 a0 a1  1 σ
else
f_X4_divides_14 a0 a1   σ
set_option maxHeartbeats 4000000 in
set_option maxRecDepth 100000 in
theorem w_X4_divides_0 {p : Program} {l : Launch} {e : Env} {s : State} {m : MethodId} {args : Array Value} {below : List Frame} {meth : Method} {c : Code} {Γ : GG} {res : Int32 × Sg} (M : MX RX4 cX4_divides 2 (some .boolean) p s m args meth c) (K : KK Γ s s.heap) (a0 : Int32) (a1 : Int32)  (σ : Sg) (H : Heap) (locs : List Loc) (ls : Array Slot)  (hB : Bd Γ σ s H locs) (hl : lv_has ls 2 [(0, .int a0), (1, .int a1)]) (hr : f_X4_divides_0 a0 a1   σ = some res) : WI Γ rm_X4_divides p l e s m args below meth c H locs res (F0 m 0 ls []) := by
  unfold f_X4_divides_0 at hr
  refine lv_iload_n M.1 M.2.1 dX4_divides_0 rfl (lv_at hl 0 rfl) ?_
  refine lv_if_le (tgt := 14) M.1 M.2.1 dX4_divides_1 (by decide) (fun c_1 => ?_) (fun c_1 => ?_)
  · rw [if_pos c_1] at hr
    exact w_X4_divides_14 M K a0 a1   _ _ _ _  hB (lv_sub hl [] rfl) hr
  · rw [if_neg c_1] at hr
    refine lv_iload_n M.1 M.2.1 dX4_divides_4 rfl (lv_at hl 1 rfl) ?_
    refine lv_iload_n M.1 M.2.1 dX4_divides_5 rfl (lv_at hl 0 rfl) ?_
    obtain ⟨g_2, hr⟩ := gd hr
    refine lv_irem M.1 M.2.1 dX4_divides_6 g_2 ?_
    refine lv_if_ne (tgt := 14) M.1 M.2.1 dX4_divides_7 (by decide) (fun c_3 => ?_) (fun c_3 => ?_)
    · rw [if_neg c_3] at hr
      exact w_X4_divides_14 M K a0 a1   _ _ _ _  hB (lv_sub hl [] rfl) hr
    · rw [if_pos c_3] at hr
      refine lv_iconst (v := 1) M.1 M.2.1 dX4_divides_10 (by decide) ?_
      refine lv_goto (tgt := 15) M.1 M.2.1 dX4_divides_11 (by decide) ?_
      exact w_X4_divides_15 M K a0 a1  1 _ _ _ _  hB (lv_sub hl [] rfl) hr
theorem c_X4_divides (l : Launch) (Γ : GG) (a0 : Int32) (a1 : Int32)  (σ : Sg) (res : Int32 × Sg) (hr : f_X4_divides_0 a0 a1 σ = some res) : Met l yX4_divides (Cond.code yX4_divides cX4_divides 2 (some .boolean) :: gtb) rm_X4_divides (va_Pc [.int a0, .int a1] (GI Γ σ)) (QI Γ res) 0 0 (AD Γ) :=
  x_metI (by decide) [.int a0, .int a1] (Nat.le_of_ble_eq_true rfl) (fun p e s m args below meth c M K ls hl hB => w_X4_divides_0 M K a0 a1 σ _ _ ls hB hl hr)
abbrev rm_X1_add : Room := { frames := 0, cells := 0, slots := 0, locals := 0 }
def f_X1_add_0 (q : Nat) (a0 : Int32) (a1 : Int32) (a2 : Int32) (a3 : Int32) (a4 : Int32)   (σ : Sg) : Option (Int32 × Sg) :=
if ((σ q 1) - (σ q 1) / 16 * 16) * 5 < 0 ∨ 80 ≤ (((σ q 1) - (σ q 1) / 16 * 16) * 5).toNatClampNeg then none else
wb (st σ (q + 1) ((((σ q 1) - (σ q 1) / 16 * 16) * 5).toNatClampNeg) a0) fun σ_2 =>
if (((σ q 1) - (σ q 1) / 16 * 16) * 5) + 1 < 0 ∨ 80 ≤ ((((σ q 1) - (σ q 1) / 16 * 16) * 5) + 1).toNatClampNeg then none else
wb (st σ_2 (q + 1) (((((σ q 1) - (σ q 1) / 16 * 16) * 5) + 1).toNatClampNeg) a1) fun σ_5 =>
if (((σ q 1) - (σ q 1) / 16 * 16) * 5) + 2 < 0 ∨ 80 ≤ ((((σ q 1) - (σ q 1) / 16 * 16) * 5) + 2).toNatClampNeg then none else
wb (st σ_5 (q + 1) (((((σ q 1) - (σ q 1) / 16 * 16) * 5) + 2).toNatClampNeg) a2) fun σ_8 =>
if (((σ q 1) - (σ q 1) / 16 * 16) * 5) + 3 < 0 ∨ 80 ≤ ((((σ q 1) - (σ q 1) / 16 * 16) * 5) + 3).toNatClampNeg then none else
wb (st σ_8 (q + 1) (((((σ q 1) - (σ q 1) / 16 * 16) * 5) + 3).toNatClampNeg) a3) fun σ_11 =>
if (((σ q 1) - (σ q 1) / 16 * 16) * 5) + 4 < 0 ∨ 80 ≤ ((((σ q 1) - (σ q 1) / 16 * 16) * 5) + 4).toNatClampNeg then none else
wb (st σ_11 (q + 1) (((((σ q 1) - (σ q 1) / 16 * 16) * 5) + 4).toNatClampNeg) a4) fun σ_14 =>
wb (st σ_14 q 1 ((σ_14 q 1) + 1)) fun σ_16 =>
some (0, σ_16)
set_option maxHeartbeats 4000000 in
set_option maxRecDepth 100000 in
theorem w_X1_add_0 {p : Program} {l : Launch} {e : Env} {s : State} {m : MethodId} {args : Array Value} {below : List Frame} {meth : Method} {c : Code} {Γ : GG} {res : Int32 × Sg} (M : MX RX1 cX1_add 7 none p s m args meth c) (K : KK Γ s s.heap) {q : Nat} (hq : isBk q) (a0 : Int32) (a1 : Int32) (a2 : Int32) (a3 : Int32) (a4 : Int32)  (σ : Sg) (H : Heap) (locs : List Loc) (ls : Array Slot)  (hB : Bd Γ σ s H locs) (hl : lv_has ls 7 [(0, .ref (Γ.1 q)), (1, .int a0), (2, .int a1), (3, .int a2), (4, .int a3), (5, .int a4)]) (hr : f_X1_add_0 q a0 a1 a2 a3 a4   σ = some res) : WV Γ rm_X1_add p l e s m args below meth c H locs res (F0 m 0 ls []) := by
  unfold f_X1_add_0 at hr
  refine lv_aload_n M.1 M.2.1 dX1_add_0 rfl (lv_at hl 0 rfl) ?_
  refine x_get1 M K hB (hq.k) 1 (by decide) wd_0 (v := .int (σ q 1)) rfl dX1_add_1 ?_
  refine lv_bipush (v := 16) M.1 M.2.1 dX1_add_4 (by decide) ?_
  refine lv_irem M.1 M.2.1 dX1_add_6 (by decide) ?_
  refine lv_iconst (v := 5) M.1 M.2.1 dX1_add_7 (by decide) ?_
  refine lv_imul M.1 M.2.1 dX1_add_8 ?_
  refine lv_istore (lv' := [(6, .int (((σ q 1) - (σ q 1) / 16 * 16) * 5)), (0, .ref (Γ.1 q)), (1, .int a0), (2, .int a1), (3, .int a2), (4, .int a3), (5, .int a4)]) M.1 M.2.1 dX1_add_9 hl (by decide) rfl (fun ls hl => ?_)
  refine lv_aload_n M.1 M.2.1 dX1_add_11 rfl (lv_at hl 1 rfl) ?_
  refine x_get1 M K hB (hq.k) 0 (by decide) wd_1 (v := .ref (Γ.1 (q + 1))) rfl dX1_add_12 ?_
  refine lv_iload M.1 M.2.1 dX1_add_15 (lv_at hl 0 rfl) ?_
  refine lv_iload_n M.1 M.2.1 dX1_add_17 rfl (lv_at hl 2 rfl) ?_
  obtain ⟨g_1, hr⟩ := gd hr
  obtain ⟨σ_2, e_3, hr⟩ := wbd hr
  refine x_iast M K hB (hq.a) g_1 dX1_add_18 (fun H locs hB => ?_)
  rw [← e_3] at hB
  refine lv_aload_n M.1 M.2.1 dX1_add_19 rfl (lv_at hl 1 rfl) ?_
  refine x_get1 M K hB (hq.k) 0 (by decide) wd_1 (v := .ref (Γ.1 (q + 1))) rfl dX1_add_20 ?_
  refine lv_iload M.1 M.2.1 dX1_add_23 (lv_at hl 0 rfl) ?_
  refine lv_iconst (v := 1) M.1 M.2.1 dX1_add_25 (by decide) ?_
  refine lv_iadd M.1 M.2.1 dX1_add_26 ?_
  refine lv_iload_n M.1 M.2.1 dX1_add_27 rfl (lv_at hl 3 rfl) ?_
  obtain ⟨g_4, hr⟩ := gd hr
  obtain ⟨σ_5, e_6, hr⟩ := wbd hr
  refine x_iast M K hB (hq.a) g_4 dX1_add_28 (fun H locs hB => ?_)
  rw [← e_6] at hB
  refine lv_aload_n M.1 M.2.1 dX1_add_29 rfl (lv_at hl 1 rfl) ?_
  refine x_get1 M K hB (hq.k) 0 (by decide) wd_1 (v := .ref (Γ.1 (q + 1))) rfl dX1_add_30 ?_
  refine lv_iload M.1 M.2.1 dX1_add_33 (lv_at hl 0 rfl) ?_
  refine lv_iconst (v := 2) M.1 M.2.1 dX1_add_35 (by decide) ?_
  refine lv_iadd M.1 M.2.1 dX1_add_36 ?_
  refine lv_iload_n M.1 M.2.1 dX1_add_37 rfl (lv_at hl 4 rfl) ?_
  obtain ⟨g_7, hr⟩ := gd hr
  obtain ⟨σ_8, e_9, hr⟩ := wbd hr
  refine x_iast M K hB (hq.a) g_7 dX1_add_38 (fun H locs hB => ?_)
  rw [← e_9] at hB
  refine lv_aload_n M.1 M.2.1 dX1_add_39 rfl (lv_at hl 1 rfl) ?_
  refine x_get1 M K hB (hq.k) 0 (by decide) wd_1 (v := .ref (Γ.1 (q + 1))) rfl dX1_add_40 ?_
  refine lv_iload M.1 M.2.1 dX1_add_43 (lv_at hl 0 rfl) ?_
  refine lv_iconst (v := 3) M.1 M.2.1 dX1_add_45 (by decide) ?_
  refine lv_iadd M.1 M.2.1 dX1_add_46 ?_
  refine lv_iload M.1 M.2.1 dX1_add_47 (lv_at hl 5 rfl) ?_
  obtain ⟨g_10, hr⟩ := gd hr
  obtain ⟨σ_11, e_12, hr⟩ := wbd hr
  refine x_iast M K hB (hq.a) g_10 dX1_add_49 (fun H locs hB => ?_)
  rw [← e_12] at hB
  refine lv_aload_n M.1 M.2.1 dX1_add_50 rfl (lv_at hl 1 rfl) ?_
  refine x_get1 M K hB (hq.k) 0 (by decide) wd_1 (v := .ref (Γ.1 (q + 1))) rfl dX1_add_51 ?_
  refine lv_iload M.1 M.2.1 dX1_add_54 (lv_at hl 0 rfl) ?_
  refine lv_iconst (v := 4) M.1 M.2.1 dX1_add_56 (by decide) ?_
  refine lv_iadd M.1 M.2.1 dX1_add_57 ?_
  refine lv_iload M.1 M.2.1 dX1_add_58 (lv_at hl 6 rfl) ?_
  obtain ⟨g_13, hr⟩ := gd hr
  obtain ⟨σ_14, e_15, hr⟩ := wbd hr
  refine x_iast M K hB (hq.a) g_13 dX1_add_60 (fun H locs hB => ?_)
  rw [← e_15] at hB
  refine lv_aload_n M.1 M.2.1 dX1_add_61 rfl (lv_at hl 1 rfl) ?_
  refine lv_dup M.1 M.2.1 dX1_add_62 rfl ?_
  refine x_get1 M K hB (hq.k) 1 (by decide) wd_0 (v := .int (σ_14 q 1)) rfl dX1_add_63 ?_
  refine lv_iconst (v := 1) M.1 M.2.1 dX1_add_66 (by decide) ?_
  refine lv_iadd M.1 M.2.1 dX1_add_67 ?_
  obtain ⟨σ_16, e_17, hr⟩ := wbd hr
  refine x_put1 M K hB (hq.k) 1 (by decide) wd_0 dX1_add_68 (fun H locs hB => ?_)
  rw [← e_17] at hB
  exact x_vret M hB (Option.some.inj hr) dX1_add_71
theorem c_X1_add (l : Launch) (Γ : GG) (q : Nat) (a0 : Int32) (a1 : Int32) (a2 : Int32) (a3 : Int32) (a4 : Int32) (hq : isBk q) (σ : Sg) (res : Int32 × Sg) (hr : f_X1_add_0 q a0 a1 a2 a3 a4 σ = some res) : Met l yX1_add (Cond.code yX1_add cX1_add 7 none :: gtb) rm_X1_add (va_Pc [.ref (Γ.1 q), .int a0, .int a1, .int a2, .int a3, .int a4] (GI Γ σ)) (QV Γ res) 0 0 (AD Γ) :=
  x_metV (by decide) [.ref (Γ.1 q), .int a0, .int a1, .int a2, .int a3, .int a4] (Nat.le_of_ble_eq_true rfl) (fun p e s m args below meth c M K ls hl hB => w_X1_add_0 M K hq a0 a1 a2 a3 a4 σ _ _ ls hB hl hr)
abbrev rm_X1_become : Room := { frames := 1, cells := 0, slots := 0, locals := 26 }
def f_X1_become_0 (q : Nat) (o0 : Nat)   (σ : Sg) : Option (Int32 × Sg) :=
wb (sr σ (q + 1) (va_cpy (σ (o0 + 1)) (σ (q + 1)) 0 0 80)) fun σ_1 =>
wb (st σ_1 q 1 (σ_1 o0 1)) fun σ_3 =>
some (0, σ_3)
set_option maxHeartbeats 4000000 in
set_option maxRecDepth 100000 in
theorem w_X1_become_0 {p : Program} {l : Launch} {e : Env} {s : State} {m : MethodId} {args : Array Value} {below : List Frame} {meth : Method} {c : Code} {Γ : GG} {res : Int32 × Sg} (M : MX RX1 cX1_become 2 none p s m args meth c) (K : KK Γ s s.heap) {q : Nat} (hq : isBk q) {o0 : Nat} (ho0 : isBk o0)  (σ : Sg) (H : Heap) (locs : List Loc) (ls : Array Slot)  (hB : Bd Γ σ s H locs) (hl : lv_has ls 2 [(0, .ref (Γ.1 q)), (1, .ref (Γ.1 o0))]) (hr : f_X1_become_0 q o0   σ = some res) : WV Γ rm_X1_become p l e s m args below meth c H locs res (F0 m 0 ls []) := by
  unfold f_X1_become_0 at hr
  refine lv_aload_n M.1 M.2.1 dX1_become_0 rfl (lv_at hl 1 rfl) ?_
  refine x_get1 M K hB (ho0.k) 0 (by decide) wd_1 (v := .ref (Γ.1 (o0 + 1))) rfl dX1_become_1 ?_
  refine lv_iconst (v := 0) M.1 M.2.1 dX1_become_4 (by decide) ?_
  refine lv_aload_n M.1 M.2.1 dX1_become_5 rfl (lv_at hl 0 rfl) ?_
  refine x_get1 M K hB (hq.k) 0 (by decide) wd_1 (v := .ref (Γ.1 (q + 1))) rfl dX1_become_6 ?_
  refine lv_iconst (v := 0) M.1 M.2.1 dX1_become_9 (by decide) ?_
  refine lv_bipush (v := 80) M.1 M.2.1 dX1_become_10 (by decide) ?_
  obtain ⟨σ_1, e_2, hr⟩ := wbd hr
  refine x_copy M K hB hl.1 (ho0.a) (hq.a) wd_2 wd_3 wd_4 wd_5 (by decide) (by decide) (by decide) (by decide) (by decide) (Nat.le_of_ble_eq_true rfl) (Nat.le_of_ble_eq_true rfl) dX1_become_12 (fun H locs hB => ?_)
  replace hB : Bd Γ (sr σ (q + 1) (va_cpy (σ (o0 + 1)) (σ (q + 1)) 0 0 80)) s H locs := hB
  rw [← e_2] at hB
  refine lv_aload_n M.1 M.2.1 dX1_become_15 rfl (lv_at hl 0 rfl) ?_
  refine lv_aload_n M.1 M.2.1 dX1_become_16 rfl (lv_at hl 1 rfl) ?_
  refine x_get1 M K hB (ho0.k) 1 (by decide) wd_0 (v := .int (σ_1 o0 1)) rfl dX1_become_17 ?_
  obtain ⟨σ_3, e_4, hr⟩ := wbd hr
  refine x_put1 M K hB (hq.k) 1 (by decide) wd_0 dX1_become_20 (fun H locs hB => ?_)
  rw [← e_4] at hB
  exact x_vret M hB (Option.some.inj hr) dX1_become_23
theorem c_X1_become (l : Launch) (Γ : GG) (q : Nat) (o0 : Nat) (hq : isBk q) (ho0 : isBk o0) (σ : Sg) (res : Int32 × Sg) (hr : f_X1_become_0 q o0 σ = some res) : Met l yX1_become (Cond.code yX1_become cX1_become 2 none :: gtb) rm_X1_become (va_Pc [.ref (Γ.1 q), .ref (Γ.1 o0)] (GI Γ σ)) (QV Γ res) 0 0 (AD Γ) :=
  x_metV (by decide) [.ref (Γ.1 q), .ref (Γ.1 o0)] (Nat.le_of_ble_eq_true rfl) (fun p e s m args below meth c M K ls hl hB => w_X1_become_0 M K hq ho0 σ _ _ ls hB hl hr)
abbrev rm_X1_property : Room := { frames := 1, cells := 0, slots := 0, locals := 22 }
def f_X1_property_32 (q : Nat) (a0 : Int32) (a1 : Int32)   (σ : Sg) : Option (Int32 × Sg) :=
some ((-6), σ)
set_option maxHeartbeats 4000000 in
set_option maxRecDepth 100000 in
theorem w_X1_property_32 {p : Program} {l : Launch} {e : Env} {s : State} {m : MethodId} {args : Array Value} {below : List Frame} {meth : Method} {c : Code} {Γ : GG} {res : Int32 × Sg} (M : MX RX1 cX1_property 3 (some .int) p s m args meth c) (K : KK Γ s s.heap) {q : Nat} (hq : isBk q) (a0 : Int32) (a1 : Int32)  (σ : Sg) (H : Heap) (locs : List Loc) (ls : Array Slot)  (hB : Bd Γ σ s H locs) (hl : lv_has ls 3 []) (hr : f_X1_property_32 q a0 a1   σ = some res) : WI Γ rm_X1_property p l e s m args below meth c H locs res (F0 m 32 ls []) := by
  unfold f_X1_property_32 at hr
  refine lv_bipush (v := (-6)) M.1 M.2.1 dX1_property_32 (by decide) ?_
  exact x_iret M hB (Option.some.inj hr) dX1_property_34
def f_X1_property_0 (q : Nat) (a0 : Int32) (a1 : Int32)   (σ : Sg) : Option (Int32 × Sg) :=
if a0 < 0 then
f_X1_property_32 q a0 a1   σ
else
if σ q 1 ≤ a0 then
f_X1_property_32 q a0 a1   σ
else
if a0 < (σ q 1) - 16 then
f_X1_property_32 q a0 a1   σ
else
cb (f_X4_isWithin_0 a1 0 4 σ) fun v_4 σ_5 =>
if v_4 = 0 then
f_X1_property_32 q a0 a1   σ_5
else
if ((a0 - a0 / 16 * 16) * 5) + a1 < 0 ∨ 80 ≤ (((a0 - a0 / 16 * 16) * 5) + a1).toNatClampNeg then none else
some (σ_5 (q + 1) ((((a0 - a0 / 16 * 16) * 5) + a1).toNatClampNeg), σ_5)
set_option maxHeartbeats 4000000 in
set_option maxRecDepth 100000 in
theorem w_X1_property_0 {p : Program} {l : Launch} {e : Env} {s : State} {m : MethodId} {args : Array Value} {below : List Frame} {meth : Method} {c : Code} {Γ : GG} {res : Int32 × Sg} (M : MX RX1 cX1_property 3 (some .int) p s m args meth c) (K : KK Γ s s.heap) {q : Nat} (hq : isBk q) (a0 : Int32) (a1 : Int32)  (σ : Sg) (H : Heap) (locs : List Loc) (ls : Array Slot)  (hB : Bd Γ σ s H locs) (hl : lv_has ls 3 [(0, .ref (Γ.1 q)), (1, .int a0), (2, .int a1)]) (hr : f_X1_property_0 q a0 a1   σ = some res) : WI Γ rm_X1_property p l e s m args below meth c H locs res (F0 m 0 ls []) := by
  unfold f_X1_property_0 at hr
  refine lv_iload_n M.1 M.2.1 dX1_property_0 rfl (lv_at hl 1 rfl) ?_
  refine lv_if_lt (tgt := 32) M.1 M.2.1 dX1_property_1 (by decide) (fun c_1 => ?_) (fun c_1 => ?_)
  · rw [if_pos c_1] at hr
    exact w_X1_property_32 M K hq a0 a1   _ _ _ _  hB (lv_sub hl [] rfl) hr
  · rw [if_neg c_1] at hr
    refine lv_iload_n M.1 M.2.1 dX1_property_4 rfl (lv_at hl 1 rfl) ?_
    refine lv_aload_n M.1 M.2.1 dX1_property_5 rfl (lv_at hl 0 rfl) ?_
    refine x_get1 M K hB (hq.k) 1 (by decide) wd_0 (v := .int (σ q 1)) rfl dX1_property_6 ?_
    refine lv_icmp_ge (tgt := 32) M.1 M.2.1 dX1_property_9 (by decide) (fun c_2 => ?_) (fun c_2 => ?_)
    · rw [if_pos c_2] at hr
      exact w_X1_property_32 M K hq a0 a1   _ _ _ _  hB (lv_sub hl [] rfl) hr
    · rw [if_neg c_2] at hr
      refine lv_iload_n M.1 M.2.1 dX1_property_12 rfl (lv_at hl 1 rfl) ?_
      refine lv_aload_n M.1 M.2.1 dX1_property_13 rfl (lv_at hl 0 rfl) ?_
      refine x_get1 M K hB (hq.k) 1 (by decide) wd_0 (v := .int (σ q 1)) rfl dX1_property_14 ?_
      refine lv_bipush (v := 16) M.1 M.2.1 dX1_property_17 (by decide) ?_
      refine lv_isub M.1 M.2.1 dX1_property_19 ?_
      refine lv_icmp_lt (tgt := 32) M.1 M.2.1 dX1_property_20 (by decide) (fun c_3 => ?_) (fun c_3 => ?_)
      · rw [if_pos c_3] at hr
        exact w_X1_property_32 M K hq a0 a1   _ _ _ _  hB (lv_sub hl [] rfl) hr
      · rw [if_neg c_3] at hr
        refine lv_iload_n M.1 M.2.1 dX1_property_23 rfl (lv_at hl 2 rfl) ?_
        refine lv_iconst (v := 0) M.1 M.2.1 dX1_property_24 (by decide) ?_
        refine lv_iconst (v := 4) M.1 M.2.1 dX1_property_25 (by decide) ?_
        obtain ⟨v_4, σ_5, h_6, hr⟩ := cbd hr
        refine x_callI (x_runSN M K hB hl.1 [.int a1, .int 0, .int 4] (rest := []) rfl (c_X4_isWithin l Γ a1 0 4  σ (v_4, σ_5) h_6) cy_X4_isWithin nw_0 ⟨rfl, rfl, Nat.le_of_ble_eq_true rfl, Nat.le_of_ble_eq_true rfl⟩ (Nat.le_of_ble_eq_true rfl) ⟨Nat.zero_le _, Nat.zero_le _⟩ dX1_property_26) hB (fun H locs hB => ?_)
        replace hB : Bd Γ σ_5 s H locs := hB
        refine lv_if_ne (tgt := 35) M.1 M.2.1 dX1_property_29 (by decide) (fun c_7 => ?_) (fun c_7 => ?_)
        · rw [if_neg c_7] at hr
          refine lv_aload_n M.1 M.2.1 dX1_property_35 rfl (lv_at hl 0 rfl) ?_
          refine x_get1 M K hB (hq.k) 0 (by decide) wd_1 (v := .ref (Γ.1 (q + 1))) rfl dX1_property_36 ?_
          refine lv_iload_n M.1 M.2.1 dX1_property_39 rfl (lv_at hl 1 rfl) ?_
          refine lv_bipush (v := 16) M.1 M.2.1 dX1_property_40 (by decide) ?_
          refine lv_irem M.1 M.2.1 dX1_property_42 (by decide) ?_
          refine lv_iconst (v := 5) M.1 M.2.1 dX1_property_43 (by decide) ?_
          refine lv_imul M.1 M.2.1 dX1_property_44 ?_
          refine lv_iload_n M.1 M.2.1 dX1_property_45 rfl (lv_at hl 2 rfl) ?_
          refine lv_iadd M.1 M.2.1 dX1_property_46 ?_
          obtain ⟨g_8, hr⟩ := gd hr
          refine x_iald M K hB (hq.a) g_8 dX1_property_47 ?_
          exact x_iret M hB (Option.some.inj hr) dX1_property_48
        · rw [if_pos c_7] at hr
          exact w_X1_property_32 M K hq a0 a1   _ _ _ _  hB (lv_sub hl [] rfl) hr
theorem c_X1_property (l : Launch) (Γ : GG) (q : Nat) (a0 : Int32) (a1 : Int32) (hq : isBk q) (σ : Sg) (res : Int32 × Sg) (hr : f_X1_property_0 q a0 a1 σ = some res) : Met l yX1_property (Cond.code yX1_property cX1_property 3 (some .int) :: gtb) rm_X1_property (va_Pc [.ref (Γ.1 q), .int a0, .int a1] (GI Γ σ)) (QI Γ res) 0 0 (AD Γ) :=
  x_metI (by decide) [.ref (Γ.1 q), .int a0, .int a1] (Nat.le_of_ble_eq_true rfl) (fun p e s m args below meth c M K ls hl hB => w_X1_property_0 M K hq a0 a1 σ _ _ ls hB hl hr)
abbrev rm_X3_takeFault : Room := { frames := 0, cells := 0, slots := 0, locals := 0 }
def f_X3_takeFault_9 (q : Nat) (a0 : Int32) (a1 : Int32) (a2 : Int32) (a3 : Int32)   (σ : Sg) : Option (Int32 × Sg) :=
some (0, σ)
set_option maxHeartbeats 4000000 in
set_option maxRecDepth 100000 in
theorem w_X3_takeFault_9 {p : Program} {l : Launch} {e : Env} {s : State} {m : MethodId} {args : Array Value} {below : List Frame} {meth : Method} {c : Code} {Γ : GG} {res : Int32 × Sg} (M : MX RX3 cX3_takeFault 5 none p s m args meth c) (K : KK Γ s s.heap) {q : Nat} (hq : isT q) (a0 : Int32) (a1 : Int32) (a2 : Int32) (a3 : Int32)  (σ : Sg) (H : Heap) (locs : List Loc) (ls : Array Slot)  (hB : Bd Γ σ s H locs) (hl : lv_has ls 5 []) (hr : f_X3_takeFault_9 q a0 a1 a2 a3   σ = some res) : WV Γ rm_X3_takeFault p l e s m args below meth c H locs res (F0 m 9 ls []) := by
  unfold f_X3_takeFault_9 at hr
  exact x_vret M hB (Option.some.inj hr) dX3_takeFault_9
def f_X3_takeFault_0 (q : Nat) (a0 : Int32) (a1 : Int32) (a2 : Int32) (a3 : Int32)   (σ : Sg) : Option (Int32 × Sg) :=
if a0 < 0 then
f_X3_takeFault_9 q a0 a1 a2 a3   σ
else
if a0 < 2 then
if a0 < 0 ∨ 2 ≤ a0.toNatClampNeg then none else
wb (st σ (q + 2) (a0.toNatClampNeg) a1) fun σ_4 =>
if a0 < 0 ∨ 2 ≤ a0.toNatClampNeg then none else
wb (st σ_4 (q + 3) (a0.toNatClampNeg) a2) fun σ_7 =>
if a0 < 0 ∨ 2 ≤ a0.toNatClampNeg then none else
wb (st σ_7 (q + 4) (a0.toNatClampNeg) a3) fun σ_10 =>
some (0, σ_10)
else
f_X3_takeFault_9 q a0 a1 a2 a3   σ
set_option maxHeartbeats 4000000 in
set_option maxRecDepth 100000 in
theorem w_X3_takeFault_0 {p : Program} {l : Launch} {e : Env} {s : State} {m : MethodId} {args : Array Value} {below : List Frame} {meth : Method} {c : Code} {Γ : GG} {res : Int32 × Sg} (M : MX RX3 cX3_takeFault 5 none p s m args meth c) (K : KK Γ s s.heap) {q : Nat} (hq : isT q) (a0 : Int32) (a1 : Int32) (a2 : Int32) (a3 : Int32)  (σ : Sg) (H : Heap) (locs : List Loc) (ls : Array Slot)  (hB : Bd Γ σ s H locs) (hl : lv_has ls 5 [(0, .ref (Γ.1 q)), (1, .int a0), (2, .int a1), (3, .int a2), (4, .int a3)]) (hr : f_X3_takeFault_0 q a0 a1 a2 a3   σ = some res) : WV Γ rm_X3_takeFault p l e s m args below meth c H locs res (F0 m 0 ls []) := by
  unfold f_X3_takeFault_0 at hr
  refine lv_iload_n M.1 M.2.1 dX3_takeFault_0 rfl (lv_at hl 1 rfl) ?_
  refine lv_if_lt (tgt := 9) M.1 M.2.1 dX3_takeFault_1 (by decide) (fun c_1 => ?_) (fun c_1 => ?_)
  · rw [if_pos c_1] at hr
    exact w_X3_takeFault_9 M K hq a0 a1 a2 a3   _ _ _ _  hB (lv_sub hl [] rfl) hr
  · rw [if_neg c_1] at hr
    refine lv_iload_n M.1 M.2.1 dX3_takeFault_4 rfl (lv_at hl 1 rfl) ?_
    refine lv_iconst (v := 2) M.1 M.2.1 dX3_takeFault_5 (by decide) ?_
    refine lv_icmp_lt (tgt := 10) M.1 M.2.1 dX3_takeFault_6 (by decide) (fun c_2 => ?_) (fun c_2 => ?_)
    · rw [if_pos c_2] at hr
      refine lv_aload_n M.1 M.2.1 dX3_takeFault_10 rfl (lv_at hl 0 rfl) ?_
      refine x_get3 M K hB (hq.k) 1 (by decide) wd_6 (v := .ref (Γ.1 (q + 2))) rfl dX3_takeFault_11 ?_
      refine lv_iload_n M.1 M.2.1 dX3_takeFault_14 rfl (lv_at hl 1 rfl) ?_
      refine lv_iload_n M.1 M.2.1 dX3_takeFault_15 rfl (lv_at hl 2 rfl) ?_
      obtain ⟨g_3, hr⟩ := gd hr
      obtain ⟨σ_4, e_5, hr⟩ := wbd hr
      refine x_iast M K hB (hq.a2) g_3 dX3_takeFault_16 (fun H locs hB => ?_)
      rw [← e_5] at hB
      refine lv_aload_n M.1 M.2.1 dX3_takeFault_17 rfl (lv_at hl 0 rfl) ?_
      refine x_get3 M K hB (hq.k) 2 (by decide) wd_7 (v := .ref (Γ.1 (q + 3))) rfl dX3_takeFault_18 ?_
      refine lv_iload_n M.1 M.2.1 dX3_takeFault_21 rfl (lv_at hl 1 rfl) ?_
      refine lv_iload_n M.1 M.2.1 dX3_takeFault_22 rfl (lv_at hl 3 rfl) ?_
      obtain ⟨g_6, hr⟩ := gd hr
      obtain ⟨σ_7, e_8, hr⟩ := wbd hr
      refine x_iast M K hB (hq.a3) g_6 dX3_takeFault_23 (fun H locs hB => ?_)
      rw [← e_8] at hB
      refine lv_aload_n M.1 M.2.1 dX3_takeFault_24 rfl (lv_at hl 0 rfl) ?_
      refine x_get3 M K hB (hq.k) 3 (by decide) wd_8 (v := .ref (Γ.1 (q + 4))) rfl dX3_takeFault_25 ?_
      refine lv_iload_n M.1 M.2.1 dX3_takeFault_28 rfl (lv_at hl 1 rfl) ?_
      refine lv_iload M.1 M.2.1 dX3_takeFault_29 (lv_at hl 4 rfl) ?_
      obtain ⟨g_9, hr⟩ := gd hr
      obtain ⟨σ_10, e_11, hr⟩ := wbd hr
      refine x_iast M K hB (hq.a4) g_9 dX3_takeFault_31 (fun H locs hB => ?_)
      rw [← e_11] at hB
      exact x_vret M hB (Option.some.inj hr) dX3_takeFault_32
    · rw [if_neg c_2] at hr
      exact w_X3_takeFault_9 M K hq a0 a1 a2 a3   _ _ _ _  hB (lv_sub hl [] rfl) hr
theorem c_X3_takeFault (l : Launch) (Γ : GG) (q : Nat) (a0 : Int32) (a1 : Int32) (a2 : Int32) (a3 : Int32) (hq : isT q) (σ : Sg) (res : Int32 × Sg) (hr : f_X3_takeFault_0 q a0 a1 a2 a3 σ = some res) : Met l yX3_takeFault (Cond.code yX3_takeFault cX3_takeFault 5 none :: gtb) rm_X3_takeFault (va_Pc [.ref (Γ.1 q), .int a0, .int a1, .int a2, .int a3] (GI Γ σ)) (QV Γ res) 0 0 (AD Γ) :=
  x_metV (by decide) [.ref (Γ.1 q), .int a0, .int a1, .int a2, .int a3] (Nat.le_of_ble_eq_true rfl) (fun p e s m args below meth c M K ls hl hB => w_X3_takeFault_0 M K hq a0 a1 a2 a3 σ _ _ ls hB hl hr)
abbrev rm_X3_beginRun : Room := { frames := 0, cells := 0, slots := 0, locals := 0 }
def f_X3_beginRun_0 (q : Nat)   (σ : Sg) : Option (Int32 × Sg) :=
wb (st σ q 4 0) fun σ_1 =>
wb (st σ_1 q 8 0) fun σ_3 =>
wb (st σ_3 q 9 0) fun σ_5 =>
wb (st σ_5 q 10 0) fun σ_7 =>
wb (st σ_7 q 11 0) fun σ_9 =>
some (0, σ_9)
set_option maxHeartbeats 4000000 in
set_option maxRecDepth 100000 in
theorem w_X3_beginRun_0 {p : Program} {l : Launch} {e : Env} {s : State} {m : MethodId} {args : Array Value} {below : List Frame} {meth : Method} {c : Code} {Γ : GG} {res : Int32 × Sg} (M : MX RX3 cX3_beginRun 1 none p s m args meth c) (K : KK Γ s s.heap) {q : Nat} (hq : isT q)  (σ : Sg) (H : Heap) (locs : List Loc) (ls : Array Slot)  (hB : Bd Γ σ s H locs) (hl : lv_has ls 1 [(0, .ref (Γ.1 q))]) (hr : f_X3_beginRun_0 q   σ = some res) : WV Γ rm_X3_beginRun p l e s m args below meth c H locs res (F0 m 0 ls []) := by
  unfold f_X3_beginRun_0 at hr
  refine lv_aload_n M.1 M.2.1 dX3_beginRun_0 rfl (lv_at hl 0 rfl) ?_
  refine lv_iconst (v := 0) M.1 M.2.1 dX3_beginRun_1 (by decide) ?_
  obtain ⟨σ_1, e_2, hr⟩ := wbd hr
  refine x_putz3 M K hB (hq.k) 4 (by decide) wd_9 (by decide) dX3_beginRun_2 (fun H locs hB => ?_)
  rw [← e_2] at hB
  refine lv_aload_n M.1 M.2.1 dX3_beginRun_5 rfl (lv_at hl 0 rfl) ?_
  refine lv_iconst (v := 0) M.1 M.2.1 dX3_beginRun_6 (by decide) ?_
  obtain ⟨σ_3, e_4, hr⟩ := wbd hr
  refine x_put3 M K hB (hq.k) 8 (by decide) wd_10 dX3_beginRun_7 (fun H locs hB => ?_)
  rw [← e_4] at hB
  refine lv_aload_n M.1 M.2.1 dX3_beginRun_10 rfl (lv_at hl 0 rfl) ?_
  refine lv_iconst (v := 0) M.1 M.2.1 dX3_beginRun_11 (by decide) ?_
  obtain ⟨σ_5, e_6, hr⟩ := wbd hr
  refine x_put3 M K hB (hq.k) 9 (by decide) wd_11 dX3_beginRun_12 (fun H locs hB => ?_)
  rw [← e_6] at hB
  refine lv_aload_n M.1 M.2.1 dX3_beginRun_15 rfl (lv_at hl 0 rfl) ?_
  refine lv_iconst (v := 0) M.1 M.2.1 dX3_beginRun_16 (by decide) ?_
  obtain ⟨σ_7, e_8, hr⟩ := wbd hr
  refine x_putz3 M K hB (hq.k) 10 (by decide) wd_12 (by decide) dX3_beginRun_17 (fun H locs hB => ?_)
  rw [← e_8] at hB
  refine lv_aload_n M.1 M.2.1 dX3_beginRun_20 rfl (lv_at hl 0 rfl) ?_
  refine lv_iconst (v := 0) M.1 M.2.1 dX3_beginRun_21 (by decide) ?_
  obtain ⟨σ_9, e_10, hr⟩ := wbd hr
  refine x_putz3 M K hB (hq.k) 11 (by decide) wd_13 (by decide) dX3_beginRun_22 (fun H locs hB => ?_)
  rw [← e_10] at hB
  exact x_vret M hB (Option.some.inj hr) dX3_beginRun_25
theorem c_X3_beginRun (l : Launch) (Γ : GG) (q : Nat) (hq : isT q) (σ : Sg) (res : Int32 × Sg) (hr : f_X3_beginRun_0 q σ = some res) : Met l yX3_beginRun (Cond.code yX3_beginRun cX3_beginRun 1 none :: gtb) rm_X3_beginRun (va_Pc [.ref (Γ.1 q)] (GI Γ σ)) (QV Γ res) 0 0 (AD Γ) :=
  x_metV (by decide) [.ref (Γ.1 q)] (Nat.le_of_ble_eq_true rfl) (fun p e s m args below meth c M K ls hl hB => w_X3_beginRun_0 M K hq σ _ _ ls hB hl hr)
abbrev rm_X3_clearDiagnostic : Room := { frames := 0, cells := 0, slots := 0, locals := 0 }
def f_X3_clearDiagnostic_0 (q : Nat)   (σ : Sg) : Option (Int32 × Sg) :=
wb (st σ q 12 0) fun σ_1 =>
wb (st σ_1 q 13 0) fun σ_3 =>
wb (st σ_3 q 15 0) fun σ_5 =>
some (0, σ_5)
set_option maxHeartbeats 4000000 in
set_option maxRecDepth 100000 in
theorem w_X3_clearDiagnostic_0 {p : Program} {l : Launch} {e : Env} {s : State} {m : MethodId} {args : Array Value} {below : List Frame} {meth : Method} {c : Code} {Γ : GG} {res : Int32 × Sg} (M : MX RX3 cX3_clearDiagnostic 1 none p s m args meth c) (K : KK Γ s s.heap) {q : Nat} (hq : isT q)  (σ : Sg) (H : Heap) (locs : List Loc) (ls : Array Slot)  (hB : Bd Γ σ s H locs) (hl : lv_has ls 1 [(0, .ref (Γ.1 q))]) (hr : f_X3_clearDiagnostic_0 q   σ = some res) : WV Γ rm_X3_clearDiagnostic p l e s m args below meth c H locs res (F0 m 0 ls []) := by
  unfold f_X3_clearDiagnostic_0 at hr
  refine lv_aload_n M.1 M.2.1 dX3_clearDiagnostic_0 rfl (lv_at hl 0 rfl) ?_
  refine lv_iconst (v := 0) M.1 M.2.1 dX3_clearDiagnostic_1 (by decide) ?_
  obtain ⟨σ_1, e_2, hr⟩ := wbd hr
  refine x_put3 M K hB (hq.k) 12 (by decide) wd_14 dX3_clearDiagnostic_2 (fun H locs hB => ?_)
  rw [← e_2] at hB
  refine lv_aload_n M.1 M.2.1 dX3_clearDiagnostic_5 rfl (lv_at hl 0 rfl) ?_
  refine lv_iconst (v := 0) M.1 M.2.1 dX3_clearDiagnostic_6 (by decide) ?_
  obtain ⟨σ_3, e_4, hr⟩ := wbd hr
  refine x_putz3 M K hB (hq.k) 13 (by decide) wd_15 (by decide) dX3_clearDiagnostic_7 (fun H locs hB => ?_)
  rw [← e_4] at hB
  refine lv_aload_n M.1 M.2.1 dX3_clearDiagnostic_10 rfl (lv_at hl 0 rfl) ?_
  refine lv_iconst (v := 0) M.1 M.2.1 dX3_clearDiagnostic_11 (by decide) ?_
  obtain ⟨σ_5, e_6, hr⟩ := wbd hr
  refine x_put3 M K hB (hq.k) 15 (by decide) wd_16 dX3_clearDiagnostic_12 (fun H locs hB => ?_)
  rw [← e_6] at hB
  exact x_vret M hB (Option.some.inj hr) dX3_clearDiagnostic_15
theorem c_X3_clearDiagnostic (l : Launch) (Γ : GG) (q : Nat) (hq : isT q) (σ : Sg) (res : Int32 × Sg) (hr : f_X3_clearDiagnostic_0 q σ = some res) : Met l yX3_clearDiagnostic (Cond.code yX3_clearDiagnostic cX3_clearDiagnostic 1 none :: gtb) rm_X3_clearDiagnostic (va_Pc [.ref (Γ.1 q)] (GI Γ σ)) (QV Γ res) 0 0 (AD Γ) :=
  x_metV (by decide) [.ref (Γ.1 q)] (Nat.le_of_ble_eq_true rfl) (fun p e s m args below meth c M K ls hl hB => w_X3_clearDiagnostic_0 M K hq σ _ _ ls hB hl hr)
abbrev rm_X3_becomeNew : Room := { frames := 1, cells := 0, slots := 0, locals := 26 }
def f_X3_becomeNew_30 (q : Nat) (a0 : Int32) (a1 : Int32)  : Nat → Int32 → Sg → Option (Int32 × Sg)
  | 0, _, _ => none
  | f + 1, x3, σ => if 2 ≤ x3 then
cb (f_X3_beginRun_0 q σ) fun v_8 σ_9 =>
cb (f_X3_clearDiagnostic_0 q σ_9) fun v_11 σ_12 =>
some (0, σ_12)
else
cb (f_X3_takeFault_0 q x3 0 0 0 σ) fun v_14 σ_15 =>
f_X3_becomeNew_30 q a0 a1  f (x3 + 1) σ_15
set_option maxHeartbeats 4000000 in
set_option maxRecDepth 100000 in
theorem w_X3_becomeNew_30 {p : Program} {l : Launch} {e : Env} {s : State} {m : MethodId} {args : Array Value} {below : List Frame} {meth : Method} {c : Code} {Γ : GG} {res : Int32 × Sg} (M : MX RX3 cX3_becomeNew 4 none p s m args meth c) (K : KK Γ s s.heap) {q : Nat} (hq : isT q) (a0 : Int32) (a1 : Int32) : ∀ (f : Nat) (x3 : Int32) (σ : Sg) (H : Heap) (locs : List Loc) (ls : Array Slot)  (hB : Bd Γ σ s H locs) (hl : lv_has ls 4 [(0, .ref (Γ.1 q)), (3, .int x3)]) (hr : f_X3_becomeNew_30 q a0 a1  f x3 σ = some res), WV Γ rm_X3_becomeNew p l e s m args below meth c H locs res (F0 m 30 ls []) := by
  intro f
  induction f with
  | zero => intros; rename_i hr; exact absurd hr (by rw [f_X3_becomeNew_30]; exact fun h => by cases h)
  | succ f ih_30 =>
    intro x3 σ H locs ls  hB hl hr
    rw [f_X3_becomeNew_30] at hr
    refine lv_iload_n M.1 M.2.1 dX3_becomeNew_30 rfl (lv_at hl 1 rfl) ?_
    refine lv_iconst (v := 2) M.1 M.2.1 dX3_becomeNew_31 (by decide) ?_
    refine lv_icmp_ge (tgt := 49) M.1 M.2.1 dX3_becomeNew_32 (by decide) (fun c_7 => ?_) (fun c_7 => ?_)
    · rw [if_pos c_7] at hr
      refine lv_aload_n M.1 M.2.1 dX3_becomeNew_49 rfl (lv_at hl 0 rfl) ?_
      obtain ⟨v_8, σ_9, h_10, hr⟩ := cbd hr
      refine x_callV (x_runV M K hB hl.1 [] (rest := []) rfl (c_X3_beginRun l Γ q hq σ (v_8, σ_9) h_10) cy_X3_beginRun (x_recv K hB (hq.k).2 (ent_3 (hq.k).1) rfl) wd_19 ⟨rfl, rfl, Nat.le_of_ble_eq_true rfl, Nat.le_of_ble_eq_true rfl⟩ (Nat.le_of_ble_eq_true rfl) ⟨Nat.zero_le _, Nat.zero_le _⟩ dX3_becomeNew_50) hB (fun H locs hB => ?_)
      replace hB : Bd Γ σ_9 s H locs := hB
      refine lv_aload_n M.1 M.2.1 dX3_becomeNew_53 rfl (lv_at hl 0 rfl) ?_
      obtain ⟨v_11, σ_12, h_13, hr⟩ := cbd hr
      refine x_callV (x_runV M K hB hl.1 [] (rest := []) rfl (c_X3_clearDiagnostic l Γ q hq σ_9 (v_11, σ_12) h_13) cy_X3_clearDiagnostic (x_recv K hB (hq.k).2 (ent_3 (hq.k).1) rfl) wd_20 ⟨rfl, rfl, Nat.le_of_ble_eq_true rfl, Nat.le_of_ble_eq_true rfl⟩ (Nat.le_of_ble_eq_true rfl) ⟨Nat.zero_le _, Nat.zero_le _⟩ dX3_becomeNew_54) hB (fun H locs hB => ?_)
      replace hB : Bd Γ σ_12 s H locs := hB
      exact x_vret M hB (Option.some.inj hr) dX3_becomeNew_57
    · rw [if_neg c_7] at hr
      refine lv_aload_n M.1 M.2.1 dX3_becomeNew_35 rfl (lv_at hl 0 rfl) ?_
      refine lv_iload_n M.1 M.2.1 dX3_becomeNew_36 rfl (lv_at hl 1 rfl) ?_
      refine lv_iconst (v := 0) M.1 M.2.1 dX3_becomeNew_37 (by decide) ?_
      refine lv_iconst (v := 0) M.1 M.2.1 dX3_becomeNew_38 (by decide) ?_
      refine lv_iconst (v := 0) M.1 M.2.1 dX3_becomeNew_39 (by decide) ?_
      obtain ⟨v_14, σ_15, h_16, hr⟩ := cbd hr
      refine x_callV (x_runV M K hB hl.1 [.int x3, .int 0, .int 0, .int 0] (rest := []) rfl (c_X3_takeFault l Γ q x3 0 0 0 hq σ (v_14, σ_15) h_16) cy_X3_takeFault (x_recv K hB (hq.k).2 (ent_3 (hq.k).1) rfl) wd_21 ⟨rfl, rfl, Nat.le_of_ble_eq_true rfl, Nat.le_of_ble_eq_true rfl⟩ (Nat.le_of_ble_eq_true rfl) ⟨Nat.zero_le _, Nat.zero_le _⟩ dX3_becomeNew_40) hB (fun H locs hB => ?_)
      replace hB : Bd Γ σ_15 s H locs := hB
      refine lv_iinc (v := x3 + 1) (lv' := [(3, .int (x3 + 1)), (0, .ref (Γ.1 q))]) M.1 M.2.1 dX3_becomeNew_43 hl (k := 1) rfl rfl (by decide) rfl (fun ls hl => ?_)
      refine lv_goto (tgt := 30) M.1 M.2.1 dX3_becomeNew_46 (by decide) ?_
      exact ih_30 (x3 + 1) _ _ _ _  hB (lv_sub hl [1, 0] rfl) hr
def f_X3_becomeNew_0 (q : Nat) (a0 : Int32) (a1 : Int32)   (σ : Sg) : Option (Int32 × Sg) :=
wb (sr σ (q + 1) (va_cpy (tb 5) (σ (q + 1)) 0 0 8)) fun σ_1 =>
wb (st σ_1 (q + 1) 0 a0) fun σ_3 =>
wb (st σ_3 (q + 1) 1 a1) fun σ_5 =>
f_X3_becomeNew_30 q a0 a1  FU 0 σ_5
set_option maxHeartbeats 4000000 in
set_option maxRecDepth 100000 in
theorem w_X3_becomeNew_0 {p : Program} {l : Launch} {e : Env} {s : State} {m : MethodId} {args : Array Value} {below : List Frame} {meth : Method} {c : Code} {Γ : GG} {res : Int32 × Sg} (M : MX RX3 cX3_becomeNew 4 none p s m args meth c) (K : KK Γ s s.heap) {q : Nat} (hq : isT q) (a0 : Int32) (a1 : Int32)  (σ : Sg) (H : Heap) (locs : List Loc) (ls : Array Slot)  (hB : Bd Γ σ s H locs) (hl : lv_has ls 4 [(0, .ref (Γ.1 q)), (1, .int a0), (2, .int a1)]) (hr : f_X3_becomeNew_0 q a0 a1   σ = some res) : WV Γ rm_X3_becomeNew p l e s m args below meth c H locs res (F0 m 0 ls []) := by
  unfold f_X3_becomeNew_0 at hr
  refine x_getsN M K hB 5 (by decide) nw_1 dX3_becomeNew_0 ?_
  refine lv_iconst (v := 0) M.1 M.2.1 dX3_becomeNew_3 (by decide) ?_
  refine lv_aload_n M.1 M.2.1 dX3_becomeNew_4 rfl (lv_at hl 0 rfl) ?_
  refine x_get3 M K hB (hq.k) 0 (by decide) wd_17 (v := .ref (Γ.1 (q + 1))) rfl dX3_becomeNew_5 ?_
  refine lv_iconst (v := 0) M.1 M.2.1 dX3_becomeNew_8 (by decide) ?_
  refine lv_bipush (v := 8) M.1 M.2.1 dX3_becomeNew_9 (by decide) ?_
  obtain ⟨σ_1, e_2, hr⟩ := wbd hr
  refine x_copyT M K hB hl.1 (by decide : 5 < 6) (hq.a1) wd_18 wd_3 wd_4 wd_5 (by decide) (by decide) (by decide) (by decide) (by decide) (Nat.le_of_ble_eq_true rfl) (Nat.le_of_ble_eq_true rfl) dX3_becomeNew_11 (fun H locs hB => ?_)
  replace hB : Bd Γ (sr σ (q + 1) (va_cpy (tb 5) (σ (q + 1)) 0 0 8)) s H locs := hB
  rw [← e_2] at hB
  refine lv_aload_n M.1 M.2.1 dX3_becomeNew_14 rfl (lv_at hl 0 rfl) ?_
  refine x_get3 M K hB (hq.k) 0 (by decide) wd_17 (v := .ref (Γ.1 (q + 1))) rfl dX3_becomeNew_15 ?_
  refine lv_iconst (v := 0) M.1 M.2.1 dX3_becomeNew_18 (by decide) ?_
  refine lv_iload_n M.1 M.2.1 dX3_becomeNew_19 rfl (lv_at hl 1 rfl) ?_
  obtain ⟨σ_3, e_4, hr⟩ := wbd hr
  refine x_iastL M K hB (hq.a1) (k := 0) (by decide) (by decide) dX3_becomeNew_20 (fun H locs hB => ?_)
  rw [← e_4] at hB
  refine lv_aload_n M.1 M.2.1 dX3_becomeNew_21 rfl (lv_at hl 0 rfl) ?_
  refine x_get3 M K hB (hq.k) 0 (by decide) wd_17 (v := .ref (Γ.1 (q + 1))) rfl dX3_becomeNew_22 ?_
  refine lv_iconst (v := 1) M.1 M.2.1 dX3_becomeNew_25 (by decide) ?_
  refine lv_iload_n M.1 M.2.1 dX3_becomeNew_26 rfl (lv_at hl 2 rfl) ?_
  obtain ⟨σ_5, e_6, hr⟩ := wbd hr
  refine x_iastL M K hB (hq.a1) (k := 1) (by decide) (by decide) dX3_becomeNew_27 (fun H locs hB => ?_)
  rw [← e_6] at hB
  refine lv_iconst (v := 0) M.1 M.2.1 dX3_becomeNew_28 (by decide) ?_
  refine lv_istore_n (lv' := [(3, .int 0), (0, .ref (Γ.1 q)), (1, .int a0), (2, .int a1)]) M.1 M.2.1 dX3_becomeNew_29 rfl hl (by decide) rfl (fun ls hl => ?_)
  exact w_X3_becomeNew_30 M K hq a0 a1  FU 0 _ _ _ _  hB (lv_sub hl [1, 0] rfl) hr
theorem c_X3_becomeNew (l : Launch) (Γ : GG) (q : Nat) (a0 : Int32) (a1 : Int32) (hq : isT q) (σ : Sg) (res : Int32 × Sg) (hr : f_X3_becomeNew_0 q a0 a1 σ = some res) : Met l yX3_becomeNew (Cond.code yX3_becomeNew cX3_becomeNew 4 none :: gtb) rm_X3_becomeNew (va_Pc [.ref (Γ.1 q), .int a0, .int a1] (GI Γ σ)) (QV Γ res) 0 0 (AD Γ) :=
  x_metV (by decide) [.ref (Γ.1 q), .int a0, .int a1] (Nat.le_of_ble_eq_true rfl) (fun p e s m args below meth c M K ls hl hB => w_X3_becomeNew_0 M K hq a0 a1 σ _ _ ls hB hl hr)
abbrev rm_X3_crashesAtBegin : Room := { frames := 0, cells := 0, slots := 0, locals := 0 }
def f_X3_crashesAtBegin_119 (q : Nat) (a0 : Int32) (a1 : Int32)  (s0 : Int32) (σ : Sg) : Option (Int32 × Sg) :=
if s0 = 0 ∨ s0 = 1 then some (s0, σ) else none
set_option maxHeartbeats 4000000 in
set_option maxRecDepth 100000 in
theorem w_X3_crashesAtBegin_119 {p : Program} {l : Launch} {e : Env} {s : State} {m : MethodId} {args : Array Value} {below : List Frame} {meth : Method} {c : Code} {Γ : GG} {res : Int32 × Sg} (M : MX RX3 cX3_crashesAtBegin 5 (some .boolean) p s m args meth c) (K : KK Γ s s.heap) {q : Nat} (hq : isT q) (a0 : Int32) (a1 : Int32) (s0 : Int32) (σ : Sg) (H : Heap) (locs : List Loc) (ls : Array Slot)  (hB : Bd Γ σ s H locs) (hl : lv_has ls 5 []) (hr : f_X3_crashesAtBegin_119 q a0 a1  s0 σ = some res) : WI Γ rm_X3_crashesAtBegin p l e s m args below meth c H locs res (F0 m 119 ls [.int s0]) := by
  unfold f_X3_crashesAtBegin_119 at hr
  obtain ⟨g_23, hr⟩ := gd2 hr
  exact x_zret M hB (nar_z g_23) (Option.some.inj hr) dX3_crashesAtBegin_119
def f_X3_crashesAtBegin_109 (q : Nat) (a0 : Int32) (a1 : Int32)  (x3 : Int32) (σ : Sg) : Option (Int32 × Sg) :=
if x3 = 5 then
f_X3_crashesAtBegin_119 q a0 a1  1 σ
else
f_X3_crashesAtBegin_119 q a0 a1  0 σ
set_option maxHeartbeats 4000000 in
set_option maxRecDepth 100000 in
theorem w_X3_crashesAtBegin_109 {p : Program} {l : Launch} {e : Env} {s : State} {m : MethodId} {args : Array Value} {below : List Frame} {meth : Method} {c : Code} {Γ : GG} {res : Int32 × Sg} (M : MX RX3 cX3_crashesAtBegin 5 (some .boolean) p s m args meth c) (K : KK Γ s s.heap) {q : Nat} (hq : isT q) (a0 : Int32) (a1 : Int32) (x3 : Int32) (σ : Sg) (H : Heap) (locs : List Loc) (ls : Array Slot)  (hB : Bd Γ σ s H locs) (hl : lv_has ls 5 [(3, .int x3)]) (hr : f_X3_crashesAtBegin_109 q a0 a1  x3 σ = some res) : WI Γ rm_X3_crashesAtBegin p l e s m args below meth c H locs res (F0 m 109 ls []) := by
  unfold f_X3_crashesAtBegin_109 at hr
  refine lv_iload_n M.1 M.2.1 dX3_crashesAtBegin_109 rfl (lv_at hl 0 rfl) ?_
  refine lv_iconst (v := 5) M.1 M.2.1 dX3_crashesAtBegin_110 (by decide) ?_
  refine lv_icmp_ne (tgt := 118) M.1 M.2.1 dX3_crashesAtBegin_111 (by decide) (fun c_22 => ?_) (fun c_22 => ?_)
  · rw [if_neg c_22] at hr
    refine lv_iconst (v := 0) M.1 M.2.1 dX3_crashesAtBegin_118 (by decide) ?_
    exact w_X3_crashesAtBegin_119 M K hq a0 a1  0 _ _ _ _  hB (lv_sub hl [] rfl) hr
  · rw [if_pos c_22] at hr
    refine lv_iconst (v := 1) M.1 M.2.1 dX3_crashesAtBegin_114 (by decide) ?_
    refine lv_goto (tgt := 119) M.1 M.2.1 dX3_crashesAtBegin_115 (by decide) ?_
    exact w_X3_crashesAtBegin_119 M K hq a0 a1  1 _ _ _ _  hB (lv_sub hl [] rfl) hr
def f_X3_crashesAtBegin_105 (q : Nat) (a0 : Int32) (a1 : Int32)  (x3 : Int32) (s0 : Int32) (s1 : Int32) (σ : Sg) : Option (Int32 × Sg) :=
wb (st σ q 8 (s1 + s0)) fun σ_20 =>
f_X3_crashesAtBegin_109 q a0 a1  x3 σ_20
set_option maxHeartbeats 4000000 in
set_option maxRecDepth 100000 in
theorem w_X3_crashesAtBegin_105 {p : Program} {l : Launch} {e : Env} {s : State} {m : MethodId} {args : Array Value} {below : List Frame} {meth : Method} {c : Code} {Γ : GG} {res : Int32 × Sg} (M : MX RX3 cX3_crashesAtBegin 5 (some .boolean) p s m args meth c) (K : KK Γ s s.heap) {q : Nat} (hq : isT q) (a0 : Int32) (a1 : Int32) (x3 : Int32) (s0 : Int32) (s1 : Int32) (σ : Sg) (H : Heap) (locs : List Loc) (ls : Array Slot)  (hB : Bd Γ σ s H locs) (hl : lv_has ls 5 [(3, .int x3)]) (hr : f_X3_crashesAtBegin_105 q a0 a1  x3 s0 s1 σ = some res) : WI Γ rm_X3_crashesAtBegin p l e s m args below meth c H locs res (F0 m 105 ls [.int s0, .int s1, .ref (Γ.1 q)]) := by
  unfold f_X3_crashesAtBegin_105 at hr
  refine lv_iadd M.1 M.2.1 dX3_crashesAtBegin_105 ?_
  obtain ⟨σ_20, e_21, hr⟩ := wbd hr
  refine x_put3 M K hB (hq.k) 8 (by decide) wd_10 dX3_crashesAtBegin_106 (fun H locs hB => ?_)
  rw [← e_21] at hB
  exact w_X3_crashesAtBegin_109 M K hq a0 a1  x3 _ _ _ _  hB (lv_sub hl [0] rfl) hr
def f_X3_crashesAtBegin_81 (q : Nat) (a0 : Int32) (a1 : Int32)  (x3 : Int32) (s0 : Int32) (s1 : Int32) (σ : Sg) : Option (Int32 × Sg) :=
wb (st σ q 7 (s1 + s0)) fun σ_16 =>
if x3 = 3 then
f_X3_crashesAtBegin_109 q a0 a1  x3 σ_16
else
if x3 = 4 then
f_X3_crashesAtBegin_105 q a0 a1  x3 2 (σ_16 q 8) σ_16
else
f_X3_crashesAtBegin_105 q a0 a1  x3 1 (σ_16 q 8) σ_16
set_option maxHeartbeats 4000000 in
set_option maxRecDepth 100000 in
theorem w_X3_crashesAtBegin_81 {p : Program} {l : Launch} {e : Env} {s : State} {m : MethodId} {args : Array Value} {below : List Frame} {meth : Method} {c : Code} {Γ : GG} {res : Int32 × Sg} (M : MX RX3 cX3_crashesAtBegin 5 (some .boolean) p s m args meth c) (K : KK Γ s s.heap) {q : Nat} (hq : isT q) (a0 : Int32) (a1 : Int32) (x3 : Int32) (s0 : Int32) (s1 : Int32) (σ : Sg) (H : Heap) (locs : List Loc) (ls : Array Slot)  (hB : Bd Γ σ s H locs) (hl : lv_has ls 5 [(0, .ref (Γ.1 q)), (3, .int x3)]) (hr : f_X3_crashesAtBegin_81 q a0 a1  x3 s0 s1 σ = some res) : WI Γ rm_X3_crashesAtBegin p l e s m args below meth c H locs res (F0 m 81 ls [.int s0, .int s1, .ref (Γ.1 q)]) := by
  unfold f_X3_crashesAtBegin_81 at hr
  refine lv_iadd M.1 M.2.1 dX3_crashesAtBegin_81 ?_
  obtain ⟨σ_16, e_17, hr⟩ := wbd hr
  refine x_put3 M K hB (hq.k) 7 (by decide) wd_24 dX3_crashesAtBegin_82 (fun H locs hB => ?_)
  rw [← e_17] at hB
  refine lv_iload_n M.1 M.2.1 dX3_crashesAtBegin_85 rfl (lv_at hl 1 rfl) ?_
  refine lv_iconst (v := 3) M.1 M.2.1 dX3_crashesAtBegin_86 (by decide) ?_
  refine lv_icmp_eq (tgt := 109) M.1 M.2.1 dX3_crashesAtBegin_87 (by decide) (fun c_18 => ?_) (fun c_18 => ?_)
  · rw [if_pos c_18] at hr
    exact w_X3_crashesAtBegin_109 M K hq a0 a1  x3 _ _ _ _  hB (lv_sub hl [1] rfl) hr
  · rw [if_neg c_18] at hr
    refine lv_aload_n M.1 M.2.1 dX3_crashesAtBegin_90 rfl (lv_at hl 0 rfl) ?_
    refine lv_dup M.1 M.2.1 dX3_crashesAtBegin_91 rfl ?_
    refine x_get3 M K hB (hq.k) 8 (by decide) wd_10 (v := .int (σ_16 q 8)) rfl dX3_crashesAtBegin_92 ?_
    refine lv_iload_n M.1 M.2.1 dX3_crashesAtBegin_95 rfl (lv_at hl 1 rfl) ?_
    refine lv_iconst (v := 4) M.1 M.2.1 dX3_crashesAtBegin_96 (by decide) ?_
    refine lv_icmp_ne (tgt := 104) M.1 M.2.1 dX3_crashesAtBegin_97 (by decide) (fun c_19 => ?_) (fun c_19 => ?_)
    · rw [if_neg c_19] at hr
      refine lv_iconst (v := 1) M.1 M.2.1 dX3_crashesAtBegin_104 (by decide) ?_
      exact w_X3_crashesAtBegin_105 M K hq a0 a1  x3 1 (σ_16 q 8) _ _ _ _  hB (lv_sub hl [1] rfl) hr
    · rw [if_pos c_19] at hr
      refine lv_iconst (v := 2) M.1 M.2.1 dX3_crashesAtBegin_100 (by decide) ?_
      refine lv_goto (tgt := 105) M.1 M.2.1 dX3_crashesAtBegin_101 (by decide) ?_
      exact w_X3_crashesAtBegin_105 M K hq a0 a1  x3 2 (σ_16 q 8) _ _ _ _  hB (lv_sub hl [1] rfl) hr
def f_X3_crashesAtBegin_55 (q : Nat) (a0 : Int32) (a1 : Int32)  (x1 : Int32) (x3 : Int32) (x4 : Int32) (s0 : Int32) (σ : Sg) : Option (Int32 × Sg) :=
if s0 = 0 ∨ s0 = 1 then
wb (st σ q 5 s0) fun σ_11 =>
wb (st σ_11 q 6 x1) fun σ_13 =>
if x3 = 2 then
f_X3_crashesAtBegin_81 q a0 a1  x3 x4 (σ_13 (q + 1) 1) σ_13
else
f_X3_crashesAtBegin_81 q a0 a1  x3 0 (σ_13 (q + 1) 1) σ_13 else none
set_option maxHeartbeats 4000000 in
set_option maxRecDepth 100000 in
theorem w_X3_crashesAtBegin_55 {p : Program} {l : Launch} {e : Env} {s : State} {m : MethodId} {args : Array Value} {below : List Frame} {meth : Method} {c : Code} {Γ : GG} {res : Int32 × Sg} (M : MX RX3 cX3_crashesAtBegin 5 (some .boolean) p s m args meth c) (K : KK Γ s s.heap) {q : Nat} (hq : isT q) (a0 : Int32) (a1 : Int32) (x1 : Int32) (x3 : Int32) (x4 : Int32) (s0 : Int32) (σ : Sg) (H : Heap) (locs : List Loc) (ls : Array Slot)  (hB : Bd Γ σ s H locs) (hl : lv_has ls 5 [(0, .ref (Γ.1 q)), (1, .int x1), (3, .int x3), (4, .int x4)]) (hr : f_X3_crashesAtBegin_55 q a0 a1  x1 x3 x4 s0 σ = some res) : WI Γ rm_X3_crashesAtBegin p l e s m args below meth c H locs res (F0 m 55 ls [.int s0, .ref (Γ.1 q)]) := by
  unfold f_X3_crashesAtBegin_55 at hr
  obtain ⟨g_10, hr⟩ := gd2 hr
  obtain ⟨σ_11, e_12, hr⟩ := wbd hr
  refine x_putz3 M K hB (hq.k) 5 (by decide) wd_22 g_10 dX3_crashesAtBegin_55 (fun H locs hB => ?_)
  rw [← e_12] at hB
  refine lv_aload_n M.1 M.2.1 dX3_crashesAtBegin_58 rfl (lv_at hl 0 rfl) ?_
  refine lv_iload_n M.1 M.2.1 dX3_crashesAtBegin_59 rfl (lv_at hl 1 rfl) ?_
  obtain ⟨σ_13, e_14, hr⟩ := wbd hr
  refine x_put3 M K hB (hq.k) 6 (by decide) wd_23 dX3_crashesAtBegin_60 (fun H locs hB => ?_)
  rw [← e_14] at hB
  refine lv_aload_n M.1 M.2.1 dX3_crashesAtBegin_63 rfl (lv_at hl 0 rfl) ?_
  refine lv_aload_n M.1 M.2.1 dX3_crashesAtBegin_64 rfl (lv_at hl 0 rfl) ?_
  refine x_get3 M K hB (hq.k) 0 (by decide) wd_17 (v := .ref (Γ.1 (q + 1))) rfl dX3_crashesAtBegin_65 ?_
  refine lv_iconst (v := 1) M.1 M.2.1 dX3_crashesAtBegin_68 (by decide) ?_
  refine x_ialdL M K hB (hq.a1) (k := 1) (by decide) (by decide) dX3_crashesAtBegin_69 ?_
  refine lv_iload_n M.1 M.2.1 dX3_crashesAtBegin_70 rfl (lv_at hl 2 rfl) ?_
  refine lv_iconst (v := 2) M.1 M.2.1 dX3_crashesAtBegin_71 (by decide) ?_
  refine lv_icmp_ne (tgt := 80) M.1 M.2.1 dX3_crashesAtBegin_72 (by decide) (fun c_15 => ?_) (fun c_15 => ?_)
  · rw [if_neg c_15] at hr
    refine lv_iconst (v := 0) M.1 M.2.1 dX3_crashesAtBegin_80 (by decide) ?_
    exact w_X3_crashesAtBegin_81 M K hq a0 a1  x3 0 (σ_13 (q + 1) 1) _ _ _ _  hB (lv_sub hl [0, 2] rfl) hr
  · rw [if_pos c_15] at hr
    refine lv_iload M.1 M.2.1 dX3_crashesAtBegin_75 (lv_at hl 3 rfl) ?_
    refine lv_goto (tgt := 81) M.1 M.2.1 dX3_crashesAtBegin_77 (by decide) ?_
    exact w_X3_crashesAtBegin_81 M K hq a0 a1  x3 x4 (σ_13 (q + 1) 1) _ _ _ _  hB (lv_sub hl [0, 2] rfl) hr
def f_X3_crashesAtBegin_39 (q : Nat) (a0 : Int32) (a1 : Int32)  (x1 : Int32) (x3 : Int32) (x4 : Int32) (σ : Sg) : Option (Int32 × Sg) :=
wb (st σ q 4 1) fun σ_7 =>
if x3 = 1 then
f_X3_crashesAtBegin_55 q a0 a1  x1 x3 x4 1 σ_7
else
f_X3_crashesAtBegin_55 q a0 a1  x1 x3 x4 0 σ_7
set_option maxHeartbeats 4000000 in
set_option maxRecDepth 100000 in
theorem w_X3_crashesAtBegin_39 {p : Program} {l : Launch} {e : Env} {s : State} {m : MethodId} {args : Array Value} {below : List Frame} {meth : Method} {c : Code} {Γ : GG} {res : Int32 × Sg} (M : MX RX3 cX3_crashesAtBegin 5 (some .boolean) p s m args meth c) (K : KK Γ s s.heap) {q : Nat} (hq : isT q) (a0 : Int32) (a1 : Int32) (x1 : Int32) (x3 : Int32) (x4 : Int32) (σ : Sg) (H : Heap) (locs : List Loc) (ls : Array Slot)  (hB : Bd Γ σ s H locs) (hl : lv_has ls 5 [(0, .ref (Γ.1 q)), (1, .int x1), (3, .int x3), (4, .int x4)]) (hr : f_X3_crashesAtBegin_39 q a0 a1  x1 x3 x4 σ = some res) : WI Γ rm_X3_crashesAtBegin p l e s m args below meth c H locs res (F0 m 39 ls []) := by
  unfold f_X3_crashesAtBegin_39 at hr
  refine lv_aload_n M.1 M.2.1 dX3_crashesAtBegin_39 rfl (lv_at hl 0 rfl) ?_
  refine lv_iconst (v := 1) M.1 M.2.1 dX3_crashesAtBegin_40 (by decide) ?_
  obtain ⟨σ_7, e_8, hr⟩ := wbd hr
  refine x_putz3 M K hB (hq.k) 4 (by decide) wd_9 (by decide) dX3_crashesAtBegin_41 (fun H locs hB => ?_)
  rw [← e_8] at hB
  refine lv_aload_n M.1 M.2.1 dX3_crashesAtBegin_44 rfl (lv_at hl 0 rfl) ?_
  refine lv_iload_n M.1 M.2.1 dX3_crashesAtBegin_45 rfl (lv_at hl 2 rfl) ?_
  refine lv_iconst (v := 1) M.1 M.2.1 dX3_crashesAtBegin_46 (by decide) ?_
  refine lv_icmp_ne (tgt := 54) M.1 M.2.1 dX3_crashesAtBegin_47 (by decide) (fun c_9 => ?_) (fun c_9 => ?_)
  · rw [if_neg c_9] at hr
    refine lv_iconst (v := 0) M.1 M.2.1 dX3_crashesAtBegin_54 (by decide) ?_
    exact w_X3_crashesAtBegin_55 M K hq a0 a1  x1 x3 x4 0 _ _ _ _  hB (lv_sub hl [0, 1, 2, 3] rfl) hr
  · rw [if_pos c_9] at hr
    refine lv_iconst (v := 1) M.1 M.2.1 dX3_crashesAtBegin_50 (by decide) ?_
    refine lv_goto (tgt := 55) M.1 M.2.1 dX3_crashesAtBegin_51 (by decide) ?_
    exact w_X3_crashesAtBegin_55 M K hq a0 a1  x1 x3 x4 1 _ _ _ _  hB (lv_sub hl [0, 1, 2, 3] rfl) hr
def f_X3_crashesAtBegin_0 (q : Nat) (a0 : Int32) (a1 : Int32)   (σ : Sg) : Option (Int32 × Sg) :=
if a1 < 0 then
f_X3_crashesAtBegin_39 q a0 a1  a0 0 0 σ
else
if 2 ≤ a1 then
f_X3_crashesAtBegin_39 q a0 a1  a0 0 0 σ
else
if a1 < 0 ∨ 2 ≤ a1.toNatClampNeg then none else
if a0 < σ (q + 3) (a1.toNatClampNeg) then
f_X3_crashesAtBegin_39 q a0 a1  a0 0 0 σ
else
if a1 < 0 ∨ 2 ≤ a1.toNatClampNeg then none else
if a1 < 0 ∨ 2 ≤ a1.toNatClampNeg then none else
f_X3_crashesAtBegin_39 q a0 a1  a0 (σ (q + 2) (a1.toNatClampNeg)) (σ (q + 4) (a1.toNatClampNeg)) σ
set_option maxHeartbeats 4000000 in
set_option maxRecDepth 100000 in
theorem w_X3_crashesAtBegin_0 {p : Program} {l : Launch} {e : Env} {s : State} {m : MethodId} {args : Array Value} {below : List Frame} {meth : Method} {c : Code} {Γ : GG} {res : Int32 × Sg} (M : MX RX3 cX3_crashesAtBegin 5 (some .boolean) p s m args meth c) (K : KK Γ s s.heap) {q : Nat} (hq : isT q) (a0 : Int32) (a1 : Int32)  (σ : Sg) (H : Heap) (locs : List Loc) (ls : Array Slot)  (hB : Bd Γ σ s H locs) (hl : lv_has ls 5 [(0, .ref (Γ.1 q)), (1, .int a0), (2, .int a1)]) (hr : f_X3_crashesAtBegin_0 q a0 a1   σ = some res) : WI Γ rm_X3_crashesAtBegin p l e s m args below meth c H locs res (F0 m 0 ls []) := by
  unfold f_X3_crashesAtBegin_0 at hr
  refine lv_iconst (v := 0) M.1 M.2.1 dX3_crashesAtBegin_0 (by decide) ?_
  refine lv_istore_n (lv' := [(3, .int 0), (0, .ref (Γ.1 q)), (1, .int a0), (2, .int a1)]) M.1 M.2.1 dX3_crashesAtBegin_1 rfl hl (by decide) rfl (fun ls hl => ?_)
  refine lv_iconst (v := 0) M.1 M.2.1 dX3_crashesAtBegin_2 (by decide) ?_
  refine lv_istore (lv' := [(4, .int 0), (3, .int 0), (0, .ref (Γ.1 q)), (1, .int a0), (2, .int a1)]) M.1 M.2.1 dX3_crashesAtBegin_3 hl (by decide) rfl (fun ls hl => ?_)
  refine lv_iload_n M.1 M.2.1 dX3_crashesAtBegin_5 rfl (lv_at hl 4 rfl) ?_
  refine lv_if_lt (tgt := 39) M.1 M.2.1 dX3_crashesAtBegin_6 (by decide) (fun c_1 => ?_) (fun c_1 => ?_)
  · rw [if_pos c_1] at hr
    exact w_X3_crashesAtBegin_39 M K hq a0 a1  a0 0 0 _ _ _ _  hB (lv_sub hl [2, 3, 1, 0] rfl) hr
  · rw [if_neg c_1] at hr
    refine lv_iload_n M.1 M.2.1 dX3_crashesAtBegin_9 rfl (lv_at hl 4 rfl) ?_
    refine lv_iconst (v := 2) M.1 M.2.1 dX3_crashesAtBegin_10 (by decide) ?_
    refine lv_icmp_ge (tgt := 39) M.1 M.2.1 dX3_crashesAtBegin_11 (by decide) (fun c_2 => ?_) (fun c_2 => ?_)
    · rw [if_pos c_2] at hr
      exact w_X3_crashesAtBegin_39 M K hq a0 a1  a0 0 0 _ _ _ _  hB (lv_sub hl [2, 3, 1, 0] rfl) hr
    · rw [if_neg c_2] at hr
      refine lv_iload_n M.1 M.2.1 dX3_crashesAtBegin_14 rfl (lv_at hl 3 rfl) ?_
      refine lv_aload_n M.1 M.2.1 dX3_crashesAtBegin_15 rfl (lv_at hl 2 rfl) ?_
      refine x_get3 M K hB (hq.k) 2 (by decide) wd_7 (v := .ref (Γ.1 (q + 3))) rfl dX3_crashesAtBegin_16 ?_
      refine lv_iload_n M.1 M.2.1 dX3_crashesAtBegin_19 rfl (lv_at hl 4 rfl) ?_
      obtain ⟨g_3, hr⟩ := gd hr
      refine x_iald M K hB (hq.a3) g_3 dX3_crashesAtBegin_20 ?_
      refine lv_icmp_lt (tgt := 39) M.1 M.2.1 dX3_crashesAtBegin_21 (by decide) (fun c_4 => ?_) (fun c_4 => ?_)
      · rw [if_pos c_4] at hr
        exact w_X3_crashesAtBegin_39 M K hq a0 a1  a0 0 0 _ _ _ _  hB (lv_sub hl [2, 3, 1, 0] rfl) hr
      · rw [if_neg c_4] at hr
        refine lv_aload_n M.1 M.2.1 dX3_crashesAtBegin_24 rfl (lv_at hl 2 rfl) ?_
        refine x_get3 M K hB (hq.k) 1 (by decide) wd_6 (v := .ref (Γ.1 (q + 2))) rfl dX3_crashesAtBegin_25 ?_
        refine lv_iload_n M.1 M.2.1 dX3_crashesAtBegin_28 rfl (lv_at hl 4 rfl) ?_
        obtain ⟨g_5, hr⟩ := gd hr
        refine x_iald M K hB (hq.a2) g_5 dX3_crashesAtBegin_29 ?_
        refine lv_istore_n (lv' := [(3, .int (σ (q + 2) (a1.toNatClampNeg))), (4, .int 0), (0, .ref (Γ.1 q)), (1, .int a0), (2, .int a1)]) M.1 M.2.1 dX3_crashesAtBegin_30 rfl hl (by decide) rfl (fun ls hl => ?_)
        refine lv_aload_n M.1 M.2.1 dX3_crashesAtBegin_31 rfl (lv_at hl 2 rfl) ?_
        refine x_get3 M K hB (hq.k) 3 (by decide) wd_8 (v := .ref (Γ.1 (q + 4))) rfl dX3_crashesAtBegin_32 ?_
        refine lv_iload_n M.1 M.2.1 dX3_crashesAtBegin_35 rfl (lv_at hl 4 rfl) ?_
        obtain ⟨g_6, hr⟩ := gd hr
        refine x_iald M K hB (hq.a4) g_6 dX3_crashesAtBegin_36 ?_
        refine lv_istore (lv' := [(4, .int (σ (q + 4) (a1.toNatClampNeg))), (3, .int (σ (q + 2) (a1.toNatClampNeg))), (0, .ref (Γ.1 q)), (1, .int a0), (2, .int a1)]) M.1 M.2.1 dX3_crashesAtBegin_37 hl (by decide) rfl (fun ls hl => ?_)
        exact w_X3_crashesAtBegin_39 M K hq a0 a1  a0 (σ (q + 2) (a1.toNatClampNeg)) (σ (q + 4) (a1.toNatClampNeg)) _ _ _ _  hB (lv_sub hl [2, 3, 1, 0] rfl) hr
theorem c_X3_crashesAtBegin (l : Launch) (Γ : GG) (q : Nat) (a0 : Int32) (a1 : Int32) (hq : isT q) (σ : Sg) (res : Int32 × Sg) (hr : f_X3_crashesAtBegin_0 q a0 a1 σ = some res) : Met l yX3_crashesAtBegin (Cond.code yX3_crashesAtBegin cX3_crashesAtBegin 5 (some .boolean) :: gtb) rm_X3_crashesAtBegin (va_Pc [.ref (Γ.1 q), .int a0, .int a1] (GI Γ σ)) (QI Γ res) 0 0 (AD Γ) :=
  x_metI (by decide) [.ref (Γ.1 q), .int a0, .int a1] (Nat.le_of_ble_eq_true rfl) (fun p e s m args below meth c M K ls hl hB => w_X3_crashesAtBegin_0 M K hq a0 a1 σ _ _ ls hB hl hr)
abbrev rm_X3_crashesInTick : Room := { frames := 1, cells := 0, slots := 0, locals := 24 }
def f_X3_crashesInTick_116 (q : Nat) (a0 : Int32) (a1 : Int32)   (σ : Sg) : Option (Int32 × Sg) :=
some (0, σ)
set_option maxHeartbeats 4000000 in
set_option maxRecDepth 100000 in
theorem w_X3_crashesInTick_116 {p : Program} {l : Launch} {e : Env} {s : State} {m : MethodId} {args : Array Value} {below : List Frame} {meth : Method} {c : Code} {Γ : GG} {res : Int32 × Sg} (M : MX RX3 cX3_crashesInTick 3 (some .boolean) p s m args meth c) (K : KK Γ s s.heap) {q : Nat} (hq : isT q) (a0 : Int32) (a1 : Int32)  (σ : Sg) (H : Heap) (locs : List Loc) (ls : Array Slot)  (hB : Bd Γ σ s H locs) (hl : lv_has ls 3 []) (hr : f_X3_crashesInTick_116 q a0 a1   σ = some res) : WI Γ rm_X3_crashesInTick p l e s m args below meth c H locs res (F0 m 116 ls []) := by
  unfold f_X3_crashesInTick_116 at hr
  refine lv_iconst (v := 0) M.1 M.2.1 dX3_crashesInTick_116 (by decide) ?_
  exact x_zret M hB (nar_z (by decide)) (Option.some.inj hr) dX3_crashesInTick_117
def f_X3_crashesInTick_78 (q : Nat) (a0 : Int32) (a1 : Int32)  (x1 : Int32) (σ : Sg) : Option (Int32 × Sg) :=
if σ q 4 = 0 then
f_X3_crashesInTick_116 q a0 a1   σ
else
if σ (q + 1) 7 = 0 then
f_X3_crashesInTick_116 q a0 a1   σ
else
if x1 - (σ q 6) ≤ σ (q + 1) 7 then
f_X3_crashesInTick_116 q a0 a1   σ
else
wb (st σ q 10 1) fun σ_21 =>
f_X3_crashesInTick_116 q a0 a1   σ_21
set_option maxHeartbeats 4000000 in
set_option maxRecDepth 100000 in
theorem w_X3_crashesInTick_78 {p : Program} {l : Launch} {e : Env} {s : State} {m : MethodId} {args : Array Value} {below : List Frame} {meth : Method} {c : Code} {Γ : GG} {res : Int32 × Sg} (M : MX RX3 cX3_crashesInTick 3 (some .boolean) p s m args meth c) (K : KK Γ s s.heap) {q : Nat} (hq : isT q) (a0 : Int32) (a1 : Int32) (x1 : Int32) (σ : Sg) (H : Heap) (locs : List Loc) (ls : Array Slot)  (hB : Bd Γ σ s H locs) (hl : lv_has ls 3 [(0, .ref (Γ.1 q)), (1, .int x1)]) (hr : f_X3_crashesInTick_78 q a0 a1  x1 σ = some res) : WI Γ rm_X3_crashesInTick p l e s m args below meth c H locs res (F0 m 78 ls []) := by
  unfold f_X3_crashesInTick_78 at hr
  refine lv_aload_n M.1 M.2.1 dX3_crashesInTick_78 rfl (lv_at hl 0 rfl) ?_
  refine x_get3 M K hB (hq.k) 4 (by decide) wd_9 (v := .int (σ q 4)) rfl dX3_crashesInTick_79 ?_
  refine lv_if_eq (tgt := 116) M.1 M.2.1 dX3_crashesInTick_82 (by decide) (fun c_18 => ?_) (fun c_18 => ?_)
  · rw [if_pos c_18] at hr
    exact w_X3_crashesInTick_116 M K hq a0 a1   _ _ _ _  hB (lv_sub hl [] rfl) hr
  · rw [if_neg c_18] at hr
    refine lv_aload_n M.1 M.2.1 dX3_crashesInTick_85 rfl (lv_at hl 0 rfl) ?_
    refine x_get3 M K hB (hq.k) 0 (by decide) wd_17 (v := .ref (Γ.1 (q + 1))) rfl dX3_crashesInTick_86 ?_
    refine lv_bipush (v := 7) M.1 M.2.1 dX3_crashesInTick_89 (by decide) ?_
    refine x_ialdL M K hB (hq.a1) (k := 7) (by decide) (by decide) dX3_crashesInTick_91 ?_
    refine lv_if_eq (tgt := 116) M.1 M.2.1 dX3_crashesInTick_92 (by decide) (fun c_19 => ?_) (fun c_19 => ?_)
    · rw [if_pos c_19] at hr
      exact w_X3_crashesInTick_116 M K hq a0 a1   _ _ _ _  hB (lv_sub hl [] rfl) hr
    · rw [if_neg c_19] at hr
      refine lv_iload_n M.1 M.2.1 dX3_crashesInTick_95 rfl (lv_at hl 1 rfl) ?_
      refine lv_aload_n M.1 M.2.1 dX3_crashesInTick_96 rfl (lv_at hl 0 rfl) ?_
      refine x_get3 M K hB (hq.k) 6 (by decide) wd_23 (v := .int (σ q 6)) rfl dX3_crashesInTick_97 ?_
      refine lv_isub M.1 M.2.1 dX3_crashesInTick_100 ?_
      refine lv_aload_n M.1 M.2.1 dX3_crashesInTick_101 rfl (lv_at hl 0 rfl) ?_
      refine x_get3 M K hB (hq.k) 0 (by decide) wd_17 (v := .ref (Γ.1 (q + 1))) rfl dX3_crashesInTick_102 ?_
      refine lv_bipush (v := 7) M.1 M.2.1 dX3_crashesInTick_105 (by decide) ?_
      refine x_ialdL M K hB (hq.a1) (k := 7) (by decide) (by decide) dX3_crashesInTick_107 ?_
      refine lv_icmp_le (tgt := 116) M.1 M.2.1 dX3_crashesInTick_108 (by decide) (fun c_20 => ?_) (fun c_20 => ?_)
      · rw [if_pos c_20] at hr
        exact w_X3_crashesInTick_116 M K hq a0 a1   _ _ _ _  hB (lv_sub hl [] rfl) hr
      · rw [if_neg c_20] at hr
        refine lv_aload_n M.1 M.2.1 dX3_crashesInTick_111 rfl (lv_at hl 0 rfl) ?_
        refine lv_iconst (v := 1) M.1 M.2.1 dX3_crashesInTick_112 (by decide) ?_
        obtain ⟨σ_21, e_22, hr⟩ := wbd hr
        refine x_putz3 M K hB (hq.k) 10 (by decide) wd_12 (by decide) dX3_crashesInTick_113 (fun H locs hB => ?_)
        rw [← e_22] at hB
        exact w_X3_crashesInTick_116 M K hq a0 a1   _ _ _ _  hB (lv_sub hl [] rfl) hr
def f_X3_crashesInTick_40 (q : Nat) (a0 : Int32) (a1 : Int32)  (x1 : Int32) (x2 : Int32) (σ : Sg) : Option (Int32 × Sg) :=
if σ q 4 = 0 then
cb (f_X4_divides_0 (σ (q + 1) 0) (x1 - (σ (q + 1) 2)) σ) fun v_10 σ_11 =>
if v_10 = 0 then
f_X3_crashesInTick_78 q a0 a1  x1 σ_11
else
cb (f_X3_crashesAtBegin_0 q x1 x2 σ_11) fun v_14 σ_15 =>
if v_14 = 0 then
f_X3_crashesInTick_78 q a0 a1  x1 σ_15
else
some (1, σ_15)
else
f_X3_crashesInTick_78 q a0 a1  x1 σ
set_option maxHeartbeats 4000000 in
set_option maxRecDepth 100000 in
theorem w_X3_crashesInTick_40 {p : Program} {l : Launch} {e : Env} {s : State} {m : MethodId} {args : Array Value} {below : List Frame} {meth : Method} {c : Code} {Γ : GG} {res : Int32 × Sg} (M : MX RX3 cX3_crashesInTick 3 (some .boolean) p s m args meth c) (K : KK Γ s s.heap) {q : Nat} (hq : isT q) (a0 : Int32) (a1 : Int32) (x1 : Int32) (x2 : Int32) (σ : Sg) (H : Heap) (locs : List Loc) (ls : Array Slot)  (hB : Bd Γ σ s H locs) (hl : lv_has ls 3 [(0, .ref (Γ.1 q)), (1, .int x1), (2, .int x2)]) (hr : f_X3_crashesInTick_40 q a0 a1  x1 x2 σ = some res) : WI Γ rm_X3_crashesInTick p l e s m args below meth c H locs res (F0 m 40 ls []) := by
  unfold f_X3_crashesInTick_40 at hr
  refine lv_aload_n M.1 M.2.1 dX3_crashesInTick_40 rfl (lv_at hl 0 rfl) ?_
  refine x_get3 M K hB (hq.k) 4 (by decide) wd_9 (v := .int (σ q 4)) rfl dX3_crashesInTick_41 ?_
  refine lv_if_ne (tgt := 78) M.1 M.2.1 dX3_crashesInTick_44 (by decide) (fun c_9 => ?_) (fun c_9 => ?_)
  · rw [if_neg c_9] at hr
    exact w_X3_crashesInTick_78 M K hq a0 a1  x1 _ _ _ _  hB (lv_sub hl [0, 1] rfl) hr
  · rw [if_pos c_9] at hr
    refine lv_aload_n M.1 M.2.1 dX3_crashesInTick_47 rfl (lv_at hl 0 rfl) ?_
    refine x_get3 M K hB (hq.k) 0 (by decide) wd_17 (v := .ref (Γ.1 (q + 1))) rfl dX3_crashesInTick_48 ?_
    refine lv_iconst (v := 0) M.1 M.2.1 dX3_crashesInTick_51 (by decide) ?_
    refine x_ialdL M K hB (hq.a1) (k := 0) (by decide) (by decide) dX3_crashesInTick_52 ?_
    refine lv_iload_n M.1 M.2.1 dX3_crashesInTick_53 rfl (lv_at hl 1 rfl) ?_
    refine lv_aload_n M.1 M.2.1 dX3_crashesInTick_54 rfl (lv_at hl 0 rfl) ?_
    refine x_get3 M K hB (hq.k) 0 (by decide) wd_17 (v := .ref (Γ.1 (q + 1))) rfl dX3_crashesInTick_55 ?_
    refine lv_iconst (v := 2) M.1 M.2.1 dX3_crashesInTick_58 (by decide) ?_
    refine x_ialdL M K hB (hq.a1) (k := 2) (by decide) (by decide) dX3_crashesInTick_59 ?_
    refine lv_isub M.1 M.2.1 dX3_crashesInTick_60 ?_
    obtain ⟨v_10, σ_11, h_12, hr⟩ := cbd hr
    refine x_callI (x_runSN M K hB hl.1 [.int (σ (q + 1) 0), .int (x1 - (σ (q + 1) 2))] (rest := []) rfl (c_X4_divides l Γ (σ (q + 1) 0) (x1 - (σ (q + 1) 2))  σ (v_10, σ_11) h_12) cy_X4_divides nw_2 ⟨rfl, rfl, Nat.le_of_ble_eq_true rfl, Nat.le_of_ble_eq_true rfl⟩ (Nat.le_of_ble_eq_true rfl) ⟨Nat.zero_le _, Nat.zero_le _⟩ dX3_crashesInTick_61) hB (fun H locs hB => ?_)
    replace hB : Bd Γ σ_11 s H locs := hB
    refine lv_if_eq (tgt := 78) M.1 M.2.1 dX3_crashesInTick_64 (by decide) (fun c_13 => ?_) (fun c_13 => ?_)
    · rw [if_pos c_13] at hr
      exact w_X3_crashesInTick_78 M K hq a0 a1  x1 _ _ _ _  hB (lv_sub hl [0, 1] rfl) hr
    · rw [if_neg c_13] at hr
      refine lv_aload_n M.1 M.2.1 dX3_crashesInTick_67 rfl (lv_at hl 0 rfl) ?_
      refine lv_iload_n M.1 M.2.1 dX3_crashesInTick_68 rfl (lv_at hl 1 rfl) ?_
      refine lv_iload_n M.1 M.2.1 dX3_crashesInTick_69 rfl (lv_at hl 2 rfl) ?_
      obtain ⟨v_14, σ_15, h_16, hr⟩ := cbd hr
      refine x_callI (x_runV M K hB hl.1 [.int x1, .int x2] (rest := []) rfl (c_X3_crashesAtBegin l Γ q x1 x2 hq σ_11 (v_14, σ_15) h_16) cy_X3_crashesAtBegin (x_recv K hB (hq.k).2 (ent_3 (hq.k).1) rfl) wd_25 ⟨rfl, rfl, Nat.le_of_ble_eq_true rfl, Nat.le_of_ble_eq_true rfl⟩ (Nat.le_of_ble_eq_true rfl) ⟨Nat.zero_le _, Nat.zero_le _⟩ dX3_crashesInTick_70) hB (fun H locs hB => ?_)
      replace hB : Bd Γ σ_15 s H locs := hB
      refine lv_if_eq (tgt := 78) M.1 M.2.1 dX3_crashesInTick_73 (by decide) (fun c_17 => ?_) (fun c_17 => ?_)
      · rw [if_pos c_17] at hr
        exact w_X3_crashesInTick_78 M K hq a0 a1  x1 _ _ _ _  hB (lv_sub hl [0, 1] rfl) hr
      · rw [if_neg c_17] at hr
        refine lv_iconst (v := 1) M.1 M.2.1 dX3_crashesInTick_76 (by decide) ?_
        exact x_zret M hB (nar_z (by decide)) (Option.some.inj hr) dX3_crashesInTick_77
def f_X3_crashesInTick_37 (q : Nat) (a0 : Int32) (a1 : Int32)  (x1 : Int32) (x2 : Int32) (s0 : Int32) (σ : Sg) : Option (Int32 × Sg) :=
if s0 = 0 ∨ s0 = 1 then
wb (st σ q 4 s0) fun σ_7 =>
f_X3_crashesInTick_40 q a0 a1  x1 x2 σ_7 else none
set_option maxHeartbeats 4000000 in
set_option maxRecDepth 100000 in
theorem w_X3_crashesInTick_37 {p : Program} {l : Launch} {e : Env} {s : State} {m : MethodId} {args : Array Value} {below : List Frame} {meth : Method} {c : Code} {Γ : GG} {res : Int32 × Sg} (M : MX RX3 cX3_crashesInTick 3 (some .boolean) p s m args meth c) (K : KK Γ s s.heap) {q : Nat} (hq : isT q) (a0 : Int32) (a1 : Int32) (x1 : Int32) (x2 : Int32) (s0 : Int32) (σ : Sg) (H : Heap) (locs : List Loc) (ls : Array Slot)  (hB : Bd Γ σ s H locs) (hl : lv_has ls 3 [(0, .ref (Γ.1 q)), (1, .int x1), (2, .int x2)]) (hr : f_X3_crashesInTick_37 q a0 a1  x1 x2 s0 σ = some res) : WI Γ rm_X3_crashesInTick p l e s m args below meth c H locs res (F0 m 37 ls [.int s0, .ref (Γ.1 q)]) := by
  unfold f_X3_crashesInTick_37 at hr
  obtain ⟨g_6, hr⟩ := gd2 hr
  obtain ⟨σ_7, e_8, hr⟩ := wbd hr
  refine x_putz3 M K hB (hq.k) 4 (by decide) wd_9 g_6 dX3_crashesInTick_37 (fun H locs hB => ?_)
  rw [← e_8] at hB
  exact w_X3_crashesInTick_40 M K hq a0 a1  x1 x2 _ _ _ _  hB (lv_sub hl [0, 1, 2] rfl) hr
def f_X3_crashesInTick_0 (q : Nat) (a0 : Int32) (a1 : Int32)   (σ : Sg) : Option (Int32 × Sg) :=
if σ q 4 = 0 then
f_X3_crashesInTick_40 q a0 a1  a0 a1 σ
else
if σ q 5 = 0 then
wb (st σ q 7 ((σ q 7) - 1)) fun σ_3 =>
if σ_3 q 7 ≤ 0 then
f_X3_crashesInTick_37 q a0 a1  a0 a1 0 σ_3
else
f_X3_crashesInTick_37 q a0 a1  a0 a1 1 σ_3
else
f_X3_crashesInTick_40 q a0 a1  a0 a1 σ
set_option maxHeartbeats 4000000 in
set_option maxRecDepth 100000 in
theorem w_X3_crashesInTick_0 {p : Program} {l : Launch} {e : Env} {s : State} {m : MethodId} {args : Array Value} {below : List Frame} {meth : Method} {c : Code} {Γ : GG} {res : Int32 × Sg} (M : MX RX3 cX3_crashesInTick 3 (some .boolean) p s m args meth c) (K : KK Γ s s.heap) {q : Nat} (hq : isT q) (a0 : Int32) (a1 : Int32)  (σ : Sg) (H : Heap) (locs : List Loc) (ls : Array Slot)  (hB : Bd Γ σ s H locs) (hl : lv_has ls 3 [(0, .ref (Γ.1 q)), (1, .int a0), (2, .int a1)]) (hr : f_X3_crashesInTick_0 q a0 a1   σ = some res) : WI Γ rm_X3_crashesInTick p l e s m args below meth c H locs res (F0 m 0 ls []) := by
  unfold f_X3_crashesInTick_0 at hr
  refine lv_aload_n M.1 M.2.1 dX3_crashesInTick_0 rfl (lv_at hl 0 rfl) ?_
  refine x_get3 M K hB (hq.k) 4 (by decide) wd_9 (v := .int (σ q 4)) rfl dX3_crashesInTick_1 ?_
  refine lv_if_eq (tgt := 40) M.1 M.2.1 dX3_crashesInTick_4 (by decide) (fun c_1 => ?_) (fun c_1 => ?_)
  · rw [if_pos c_1] at hr
    exact w_X3_crashesInTick_40 M K hq a0 a1  a0 a1 _ _ _ _  hB (lv_sub hl [0, 1, 2] rfl) hr
  · rw [if_neg c_1] at hr
    refine lv_aload_n M.1 M.2.1 dX3_crashesInTick_7 rfl (lv_at hl 0 rfl) ?_
    refine x_get3 M K hB (hq.k) 5 (by decide) wd_22 (v := .int (σ q 5)) rfl dX3_crashesInTick_8 ?_
    refine lv_if_ne (tgt := 40) M.1 M.2.1 dX3_crashesInTick_11 (by decide) (fun c_2 => ?_) (fun c_2 => ?_)
    · rw [if_neg c_2] at hr
      exact w_X3_crashesInTick_40 M K hq a0 a1  a0 a1 _ _ _ _  hB (lv_sub hl [0, 1, 2] rfl) hr
    · rw [if_pos c_2] at hr
      refine lv_aload_n M.1 M.2.1 dX3_crashesInTick_14 rfl (lv_at hl 0 rfl) ?_
      refine lv_dup M.1 M.2.1 dX3_crashesInTick_15 rfl ?_
      refine x_get3 M K hB (hq.k) 7 (by decide) wd_24 (v := .int (σ q 7)) rfl dX3_crashesInTick_16 ?_
      refine lv_iconst (v := 1) M.1 M.2.1 dX3_crashesInTick_19 (by decide) ?_
      refine lv_isub M.1 M.2.1 dX3_crashesInTick_20 ?_
      obtain ⟨σ_3, e_4, hr⟩ := wbd hr
      refine x_put3 M K hB (hq.k) 7 (by decide) wd_24 dX3_crashesInTick_21 (fun H locs hB => ?_)
      rw [← e_4] at hB
      refine lv_aload_n M.1 M.2.1 dX3_crashesInTick_24 rfl (lv_at hl 0 rfl) ?_
      refine lv_aload_n M.1 M.2.1 dX3_crashesInTick_25 rfl (lv_at hl 0 rfl) ?_
      refine x_get3 M K hB (hq.k) 7 (by decide) wd_24 (v := .int (σ_3 q 7)) rfl dX3_crashesInTick_26 ?_
      refine lv_if_le (tgt := 36) M.1 M.2.1 dX3_crashesInTick_29 (by decide) (fun c_5 => ?_) (fun c_5 => ?_)
      · rw [if_pos c_5] at hr
        refine lv_iconst (v := 0) M.1 M.2.1 dX3_crashesInTick_36 (by decide) ?_
        exact w_X3_crashesInTick_37 M K hq a0 a1  a0 a1 0 _ _ _ _  hB (lv_sub hl [0, 1, 2] rfl) hr
      · rw [if_neg c_5] at hr
        refine lv_iconst (v := 1) M.1 M.2.1 dX3_crashesInTick_32 (by decide) ?_
        refine lv_goto (tgt := 37) M.1 M.2.1 dX3_crashesInTick_33 (by decide) ?_
        exact w_X3_crashesInTick_37 M K hq a0 a1  a0 a1 1 _ _ _ _  hB (lv_sub hl [0, 1, 2] rfl) hr
theorem c_X3_crashesInTick (l : Launch) (Γ : GG) (q : Nat) (a0 : Int32) (a1 : Int32) (hq : isT q) (σ : Sg) (res : Int32 × Sg) (hr : f_X3_crashesInTick_0 q a0 a1 σ = some res) : Met l yX3_crashesInTick (Cond.code yX3_crashesInTick cX3_crashesInTick 3 (some .boolean) :: gtb) rm_X3_crashesInTick (va_Pc [.ref (Γ.1 q), .int a0, .int a1] (GI Γ σ)) (QI Γ res) 0 0 (AD Γ) :=
  x_metI (by decide) [.ref (Γ.1 q), .int a0, .int a1] (Nat.le_of_ble_eq_true rfl) (fun p e s m args below meth c M K ls hl hB => w_X3_crashesInTick_0 M K hq a0 a1 σ _ _ ls hB hl hr)
abbrev rm_X3_endCycle : Room := { frames := 1, cells := 0, slots := 0, locals := 22 }
def f_X3_endCycle_123 (q : Nat) (a0 : Int32)   (σ : Sg) : Option (Int32 × Sg) :=
wb (st σ q 8 0) fun σ_12 =>
wb (st σ_12 q 10 0) fun σ_14 =>
some (0, σ_14)
set_option maxHeartbeats 4000000 in
set_option maxRecDepth 100000 in
theorem w_X3_endCycle_123 {p : Program} {l : Launch} {e : Env} {s : State} {m : MethodId} {args : Array Value} {below : List Frame} {meth : Method} {c : Code} {Γ : GG} {res : Int32 × Sg} (M : MX RX3 cX3_endCycle 3 none p s m args meth c) (K : KK Γ s s.heap) {q : Nat} (hq : isT q) (a0 : Int32)  (σ : Sg) (H : Heap) (locs : List Loc) (ls : Array Slot)  (hB : Bd Γ σ s H locs) (hl : lv_has ls 3 [(0, .ref (Γ.1 q))]) (hr : f_X3_endCycle_123 q a0   σ = some res) : WV Γ rm_X3_endCycle p l e s m args below meth c H locs res (F0 m 123 ls []) := by
  unfold f_X3_endCycle_123 at hr
  refine lv_aload_n M.1 M.2.1 dX3_endCycle_123 rfl (lv_at hl 0 rfl) ?_
  refine lv_iconst (v := 0) M.1 M.2.1 dX3_endCycle_124 (by decide) ?_
  obtain ⟨σ_12, e_13, hr⟩ := wbd hr
  refine x_put3 M K hB (hq.k) 8 (by decide) wd_10 dX3_endCycle_125 (fun H locs hB => ?_)
  rw [← e_13] at hB
  refine lv_aload_n M.1 M.2.1 dX3_endCycle_128 rfl (lv_at hl 0 rfl) ?_
  refine lv_iconst (v := 0) M.1 M.2.1 dX3_endCycle_129 (by decide) ?_
  obtain ⟨σ_14, e_15, hr⟩ := wbd hr
  refine x_putz3 M K hB (hq.k) 10 (by decide) wd_12 (by decide) dX3_endCycle_130 (fun H locs hB => ?_)
  rw [← e_15] at hB
  exact x_vret M hB (Option.some.inj hr) dX3_endCycle_133
def f_X3_endCycle_115 (q : Nat) (a0 : Int32)  (s0 : Int32) (σ : Sg) : Option (Int32 × Sg) :=
wb (st σ q 14 s0) fun σ_22 =>
wb (st σ_22 q 13 1) fun σ_24 =>
f_X3_endCycle_123 q a0   σ_24
set_option maxHeartbeats 4000000 in
set_option maxRecDepth 100000 in
theorem w_X3_endCycle_115 {p : Program} {l : Launch} {e : Env} {s : State} {m : MethodId} {args : Array Value} {below : List Frame} {meth : Method} {c : Code} {Γ : GG} {res : Int32 × Sg} (M : MX RX3 cX3_endCycle 3 none p s m args meth c) (K : KK Γ s s.heap) {q : Nat} (hq : isT q) (a0 : Int32) (s0 : Int32) (σ : Sg) (H : Heap) (locs : List Loc) (ls : Array Slot)  (hB : Bd Γ σ s H locs) (hl : lv_has ls 3 [(0, .ref (Γ.1 q))]) (hr : f_X3_endCycle_115 q a0  s0 σ = some res) : WV Γ rm_X3_endCycle p l e s m args below meth c H locs res (F0 m 115 ls [.int s0, .ref (Γ.1 q)]) := by
  unfold f_X3_endCycle_115 at hr
  obtain ⟨σ_22, e_23, hr⟩ := wbd hr
  refine x_put3 M K hB (hq.k) 14 (by decide) wd_30 dX3_endCycle_115 (fun H locs hB => ?_)
  rw [← e_23] at hB
  refine lv_aload_n M.1 M.2.1 dX3_endCycle_118 rfl (lv_at hl 0 rfl) ?_
  refine lv_iconst (v := 1) M.1 M.2.1 dX3_endCycle_119 (by decide) ?_
  obtain ⟨σ_24, e_25, hr⟩ := wbd hr
  refine x_putz3 M K hB (hq.k) 13 (by decide) wd_15 (by decide) dX3_endCycle_120 (fun H locs hB => ?_)
  rw [← e_25] at hB
  exact w_X3_endCycle_123 M K hq a0   _ _ _ _  hB (lv_sub hl [0] rfl) hr
def f_X3_endCycle_86 (q : Nat) (a0 : Int32)  (x1 : Int32) (s0 : Int32) (σ : Sg) : Option (Int32 × Sg) :=
if s0 = 0 ∨ s0 = 1 then
wb (st σ q 11 s0) fun σ_17 =>
wb (st σ_17 q 12 ((σ_17 q 12) + 1)) fun σ_19 =>
if σ_19 q 13 = 0 then
f_X3_endCycle_115 q a0  x1 σ_19
else
f_X3_endCycle_115 q a0  (σ_19 q 14) σ_19 else none
set_option maxHeartbeats 4000000 in
set_option maxRecDepth 100000 in
theorem w_X3_endCycle_86 {p : Program} {l : Launch} {e : Env} {s : State} {m : MethodId} {args : Array Value} {below : List Frame} {meth : Method} {c : Code} {Γ : GG} {res : Int32 × Sg} (M : MX RX3 cX3_endCycle 3 none p s m args meth c) (K : KK Γ s s.heap) {q : Nat} (hq : isT q) (a0 : Int32) (x1 : Int32) (s0 : Int32) (σ : Sg) (H : Heap) (locs : List Loc) (ls : Array Slot)  (hB : Bd Γ σ s H locs) (hl : lv_has ls 3 [(0, .ref (Γ.1 q)), (1, .int x1)]) (hr : f_X3_endCycle_86 q a0  x1 s0 σ = some res) : WV Γ rm_X3_endCycle p l e s m args below meth c H locs res (F0 m 86 ls [.int s0, .ref (Γ.1 q)]) := by
  unfold f_X3_endCycle_86 at hr
  obtain ⟨g_16, hr⟩ := gd2 hr
  obtain ⟨σ_17, e_18, hr⟩ := wbd hr
  refine x_putz3 M K hB (hq.k) 11 (by decide) wd_13 g_16 dX3_endCycle_86 (fun H locs hB => ?_)
  rw [← e_18] at hB
  refine lv_aload_n M.1 M.2.1 dX3_endCycle_89 rfl (lv_at hl 0 rfl) ?_
  refine lv_dup M.1 M.2.1 dX3_endCycle_90 rfl ?_
  refine x_get3 M K hB (hq.k) 12 (by decide) wd_14 (v := .int (σ_17 q 12)) rfl dX3_endCycle_91 ?_
  refine lv_iconst (v := 1) M.1 M.2.1 dX3_endCycle_94 (by decide) ?_
  refine lv_iadd M.1 M.2.1 dX3_endCycle_95 ?_
  obtain ⟨σ_19, e_20, hr⟩ := wbd hr
  refine x_put3 M K hB (hq.k) 12 (by decide) wd_14 dX3_endCycle_96 (fun H locs hB => ?_)
  rw [← e_20] at hB
  refine lv_aload_n M.1 M.2.1 dX3_endCycle_99 rfl (lv_at hl 0 rfl) ?_
  refine lv_aload_n M.1 M.2.1 dX3_endCycle_100 rfl (lv_at hl 0 rfl) ?_
  refine x_get3 M K hB (hq.k) 13 (by decide) wd_15 (v := .int (σ_19 q 13)) rfl dX3_endCycle_101 ?_
  refine lv_if_eq (tgt := 114) M.1 M.2.1 dX3_endCycle_104 (by decide) (fun c_21 => ?_) (fun c_21 => ?_)
  · rw [if_pos c_21] at hr
    refine lv_iload_n M.1 M.2.1 dX3_endCycle_114 rfl (lv_at hl 1 rfl) ?_
    exact w_X3_endCycle_115 M K hq a0  x1 _ _ _ _  hB (lv_sub hl [0] rfl) hr
  · rw [if_neg c_21] at hr
    refine lv_aload_n M.1 M.2.1 dX3_endCycle_107 rfl (lv_at hl 0 rfl) ?_
    refine x_get3 M K hB (hq.k) 14 (by decide) wd_30 (v := .int (σ_19 q 14)) rfl dX3_endCycle_108 ?_
    refine lv_goto (tgt := 115) M.1 M.2.1 dX3_endCycle_111 (by decide) ?_
    exact w_X3_endCycle_115 M K hq a0  (σ_19 q 14) _ _ _ _  hB (lv_sub hl [0] rfl) hr
def f_X3_endCycle_34 (q : Nat) (a0 : Int32)  (x1 : Int32) (s0 : Int32) (σ : Sg) : Option (Int32 × Sg) :=
if s0 = 0 then
wb (st σ q 9 ((σ q 9) + 1)) fun σ_7 =>
if σ_7 q 9 ≤ σ_7 (q + 1) 6 then
f_X3_endCycle_86 q a0  x1 0 σ_7
else
f_X3_endCycle_86 q a0  x1 1 σ_7
else
wb (st σ q 9 (if 0 < (σ q 9) - 1 then (σ q 9) - 1 else 0)) fun σ_10 =>
f_X3_endCycle_123 q a0   σ_10
set_option maxHeartbeats 4000000 in
set_option maxRecDepth 100000 in
theorem w_X3_endCycle_34 {p : Program} {l : Launch} {e : Env} {s : State} {m : MethodId} {args : Array Value} {below : List Frame} {meth : Method} {c : Code} {Γ : GG} {res : Int32 × Sg} (M : MX RX3 cX3_endCycle 3 none p s m args meth c) (K : KK Γ s s.heap) {q : Nat} (hq : isT q) (a0 : Int32) (x1 : Int32) (s0 : Int32) (σ : Sg) (H : Heap) (locs : List Loc) (ls : Array Slot)  (hB : Bd Γ σ s H locs) (hl : lv_has ls 3 [(0, .ref (Γ.1 q)), (1, .int x1)]) (hr : f_X3_endCycle_34 q a0  x1 s0 σ = some res) : WV Γ rm_X3_endCycle p l e s m args below meth c H locs res (F0 m 34 ls [.int s0]) := by
  unfold f_X3_endCycle_34 at hr
  refine lv_istore_n (lv' := [(2, .int s0), (0, .ref (Γ.1 q)), (1, .int x1)]) M.1 M.2.1 dX3_endCycle_34 rfl hl (by decide) rfl (fun ls hl => ?_)
  refine lv_iload_n M.1 M.2.1 dX3_endCycle_35 rfl (lv_at hl 0 rfl) ?_
  refine lv_if_eq (tgt := 56) M.1 M.2.1 dX3_endCycle_36 (by decide) (fun c_6 => ?_) (fun c_6 => ?_)
  · rw [if_pos c_6] at hr
    refine lv_aload_n M.1 M.2.1 dX3_endCycle_56 rfl (lv_at hl 1 rfl) ?_
    refine lv_dup M.1 M.2.1 dX3_endCycle_57 rfl ?_
    refine x_get3 M K hB (hq.k) 9 (by decide) wd_11 (v := .int (σ q 9)) rfl dX3_endCycle_58 ?_
    refine lv_iconst (v := 1) M.1 M.2.1 dX3_endCycle_61 (by decide) ?_
    refine lv_iadd M.1 M.2.1 dX3_endCycle_62 ?_
    obtain ⟨σ_7, e_8, hr⟩ := wbd hr
    refine x_put3 M K hB (hq.k) 9 (by decide) wd_11 dX3_endCycle_63 (fun H locs hB => ?_)
    rw [← e_8] at hB
    refine lv_aload_n M.1 M.2.1 dX3_endCycle_66 rfl (lv_at hl 1 rfl) ?_
    refine lv_aload_n M.1 M.2.1 dX3_endCycle_67 rfl (lv_at hl 1 rfl) ?_
    refine x_get3 M K hB (hq.k) 9 (by decide) wd_11 (v := .int (σ_7 q 9)) rfl dX3_endCycle_68 ?_
    refine lv_aload_n M.1 M.2.1 dX3_endCycle_71 rfl (lv_at hl 1 rfl) ?_
    refine x_get3 M K hB (hq.k) 0 (by decide) wd_17 (v := .ref (Γ.1 (q + 1))) rfl dX3_endCycle_72 ?_
    refine lv_bipush (v := 6) M.1 M.2.1 dX3_endCycle_75 (by decide) ?_
    refine x_ialdL M K hB (hq.a1) (k := 6) (by decide) (by decide) dX3_endCycle_77 ?_
    refine lv_icmp_le (tgt := 85) M.1 M.2.1 dX3_endCycle_78 (by decide) (fun c_9 => ?_) (fun c_9 => ?_)
    · rw [if_pos c_9] at hr
      refine lv_iconst (v := 0) M.1 M.2.1 dX3_endCycle_85 (by decide) ?_
      exact w_X3_endCycle_86 M K hq a0  x1 0 _ _ _ _  hB (lv_sub hl [1, 2] rfl) hr
    · rw [if_neg c_9] at hr
      refine lv_iconst (v := 1) M.1 M.2.1 dX3_endCycle_81 (by decide) ?_
      refine lv_goto (tgt := 86) M.1 M.2.1 dX3_endCycle_82 (by decide) ?_
      exact w_X3_endCycle_86 M K hq a0  x1 1 _ _ _ _  hB (lv_sub hl [1, 2] rfl) hr
  · rw [if_neg c_6] at hr
    refine lv_aload_n M.1 M.2.1 dX3_endCycle_39 rfl (lv_at hl 1 rfl) ?_
    refine lv_iconst (v := 0) M.1 M.2.1 dX3_endCycle_40 (by decide) ?_
    refine lv_aload_n M.1 M.2.1 dX3_endCycle_41 rfl (lv_at hl 1 rfl) ?_
    refine x_get3 M K hB (hq.k) 9 (by decide) wd_11 (v := .int (σ q 9)) rfl dX3_endCycle_42 ?_
    refine lv_iconst (v := 1) M.1 M.2.1 dX3_endCycle_45 (by decide) ?_
    refine lv_isub M.1 M.2.1 dX3_endCycle_46 ?_
    refine x_max M hl.1 wd_26 wd_27 wd_28 wd_29 (Nat.le_of_ble_eq_true rfl) (Nat.le_of_ble_eq_true rfl) (Nat.zero_le _) (Nat.zero_le _) dX3_endCycle_47 ?_
    obtain ⟨σ_10, e_11, hr⟩ := wbd hr
    refine x_put3 M K hB (hq.k) 9 (by decide) wd_11 dX3_endCycle_50 (fun H locs hB => ?_)
    rw [← e_11] at hB
    refine lv_goto (tgt := 123) M.1 M.2.1 dX3_endCycle_53 (by decide) ?_
    exact w_X3_endCycle_123 M K hq a0   _ _ _ _  hB (lv_sub hl [1] rfl) hr
def f_X3_endCycle_33 (q : Nat) (a0 : Int32)  (x1 : Int32) (σ : Sg) : Option (Int32 × Sg) :=
f_X3_endCycle_34 q a0  x1 0 σ
set_option maxHeartbeats 4000000 in
set_option maxRecDepth 100000 in
theorem w_X3_endCycle_33 {p : Program} {l : Launch} {e : Env} {s : State} {m : MethodId} {args : Array Value} {below : List Frame} {meth : Method} {c : Code} {Γ : GG} {res : Int32 × Sg} (M : MX RX3 cX3_endCycle 3 none p s m args meth c) (K : KK Γ s s.heap) {q : Nat} (hq : isT q) (a0 : Int32) (x1 : Int32) (σ : Sg) (H : Heap) (locs : List Loc) (ls : Array Slot)  (hB : Bd Γ σ s H locs) (hl : lv_has ls 3 [(0, .ref (Γ.1 q)), (1, .int x1)]) (hr : f_X3_endCycle_33 q a0  x1 σ = some res) : WV Γ rm_X3_endCycle p l e s m args below meth c H locs res (F0 m 33 ls []) := by
  unfold f_X3_endCycle_33 at hr
  refine lv_iconst (v := 0) M.1 M.2.1 dX3_endCycle_33 (by decide) ?_
  exact w_X3_endCycle_34 M K hq a0  x1 0 _ _ _ _  hB (lv_sub hl [0, 1] rfl) hr
def f_X3_endCycle_0 (q : Nat) (a0 : Int32)   (σ : Sg) : Option (Int32 × Sg) :=
cb (f_X4_isWithin_0 (σ q 8) (σ (q + 1) 4) (σ (q + 1) 5) σ) fun v_1 σ_2 =>
if v_1 = 0 then
f_X3_endCycle_33 q a0  a0 σ_2
else
if σ_2 q 10 = 0 then
f_X3_endCycle_34 q a0  a0 1 σ_2
else
f_X3_endCycle_33 q a0  a0 σ_2
set_option maxHeartbeats 4000000 in
set_option maxRecDepth 100000 in
theorem w_X3_endCycle_0 {p : Program} {l : Launch} {e : Env} {s : State} {m : MethodId} {args : Array Value} {below : List Frame} {meth : Method} {c : Code} {Γ : GG} {res : Int32 × Sg} (M : MX RX3 cX3_endCycle 3 none p s m args meth c) (K : KK Γ s s.heap) {q : Nat} (hq : isT q) (a0 : Int32)  (σ : Sg) (H : Heap) (locs : List Loc) (ls : Array Slot)  (hB : Bd Γ σ s H locs) (hl : lv_has ls 3 [(0, .ref (Γ.1 q)), (1, .int a0)]) (hr : f_X3_endCycle_0 q a0   σ = some res) : WV Γ rm_X3_endCycle p l e s m args below meth c H locs res (F0 m 0 ls []) := by
  unfold f_X3_endCycle_0 at hr
  refine lv_aload_n M.1 M.2.1 dX3_endCycle_0 rfl (lv_at hl 0 rfl) ?_
  refine x_get3 M K hB (hq.k) 8 (by decide) wd_10 (v := .int (σ q 8)) rfl dX3_endCycle_1 ?_
  refine lv_aload_n M.1 M.2.1 dX3_endCycle_4 rfl (lv_at hl 0 rfl) ?_
  refine x_get3 M K hB (hq.k) 0 (by decide) wd_17 (v := .ref (Γ.1 (q + 1))) rfl dX3_endCycle_5 ?_
  refine lv_iconst (v := 4) M.1 M.2.1 dX3_endCycle_8 (by decide) ?_
  refine x_ialdL M K hB (hq.a1) (k := 4) (by decide) (by decide) dX3_endCycle_9 ?_
  refine lv_aload_n M.1 M.2.1 dX3_endCycle_10 rfl (lv_at hl 0 rfl) ?_
  refine x_get3 M K hB (hq.k) 0 (by decide) wd_17 (v := .ref (Γ.1 (q + 1))) rfl dX3_endCycle_11 ?_
  refine lv_iconst (v := 5) M.1 M.2.1 dX3_endCycle_14 (by decide) ?_
  refine x_ialdL M K hB (hq.a1) (k := 5) (by decide) (by decide) dX3_endCycle_15 ?_
  obtain ⟨v_1, σ_2, h_3, hr⟩ := cbd hr
  refine x_callI (x_runSN M K hB hl.1 [.int (σ q 8), .int (σ (q + 1) 4), .int (σ (q + 1) 5)] (rest := []) rfl (c_X4_isWithin l Γ (σ q 8) (σ (q + 1) 4) (σ (q + 1) 5)  σ (v_1, σ_2) h_3) cy_X4_isWithin nw_3 ⟨rfl, rfl, Nat.le_of_ble_eq_true rfl, Nat.le_of_ble_eq_true rfl⟩ (Nat.le_of_ble_eq_true rfl) ⟨Nat.zero_le _, Nat.zero_le _⟩ dX3_endCycle_16) hB (fun H locs hB => ?_)
  replace hB : Bd Γ σ_2 s H locs := hB
  refine lv_if_eq (tgt := 33) M.1 M.2.1 dX3_endCycle_19 (by decide) (fun c_4 => ?_) (fun c_4 => ?_)
  · rw [if_pos c_4] at hr
    exact w_X3_endCycle_33 M K hq a0  a0 _ _ _ _  hB (lv_sub hl [0, 1] rfl) hr
  · rw [if_neg c_4] at hr
    refine lv_aload_n M.1 M.2.1 dX3_endCycle_22 rfl (lv_at hl 0 rfl) ?_
    refine x_get3 M K hB (hq.k) 10 (by decide) wd_12 (v := .int (σ_2 q 10)) rfl dX3_endCycle_23 ?_
    refine lv_if_ne (tgt := 33) M.1 M.2.1 dX3_endCycle_26 (by decide) (fun c_5 => ?_) (fun c_5 => ?_)
    · rw [if_neg c_5] at hr
      exact w_X3_endCycle_33 M K hq a0  a0 _ _ _ _  hB (lv_sub hl [0, 1] rfl) hr
    · rw [if_pos c_5] at hr
      refine lv_iconst (v := 1) M.1 M.2.1 dX3_endCycle_29 (by decide) ?_
      refine lv_goto (tgt := 34) M.1 M.2.1 dX3_endCycle_30 (by decide) ?_
      exact w_X3_endCycle_34 M K hq a0  a0 1 _ _ _ _  hB (lv_sub hl [0, 1] rfl) hr
theorem c_X3_endCycle (l : Launch) (Γ : GG) (q : Nat) (a0 : Int32) (hq : isT q) (σ : Sg) (res : Int32 × Sg) (hr : f_X3_endCycle_0 q a0 σ = some res) : Met l yX3_endCycle (Cond.code yX3_endCycle cX3_endCycle 3 none :: gtb) rm_X3_endCycle (va_Pc [.ref (Γ.1 q), .int a0] (GI Γ σ)) (QV Γ res) 0 0 (AD Γ) :=
  x_metV (by decide) [.ref (Γ.1 q), .int a0] (Nat.le_of_ble_eq_true rfl) (fun p e s m args below meth c M K ls hl hB => w_X3_endCycle_0 M K hq a0 σ _ _ ls hB hl hr)
