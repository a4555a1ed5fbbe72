abbrev rm_L_cell : Room := { frames := 0, cells := 0, slots := 0, locals := 0 }
def f_L_cell_28 (D : SD) (a1 : Int32) (a2 : Int32)  (x2 : Int32) (s0 : Int32) (σ : Sg) : Option (Int32 × Sg) :=
if x2 = 0 then none else
some (s0 - s0 / x2 * x2, σ)
set_option maxHeartbeats 4000000 in
set_option maxRecDepth 100000 in
theorem w_L_cell_28 {p : Program} {l : Launch} {e : Env} {s : State} {m : MethodId} {args : Array Value} {below : List Frame} {meth : Method} {c : Code} {Γ : GG} {res : Int32 × Sg} (M : MX RL cL_cell 3 (some .int) p s m args meth c) (K : KK Γ s s.heap) {D : SD} (hD : gX Γ = D) (a1 : Int32) (a2 : Int32) (x2 : Int32) (s0 : Int32) (σ : Sg) (H : Heap) (locs : List Loc) (ls : Array Slot)  (hB : Bd Γ σ s H locs) (hl : lv_has ls 3 [(2, .int x2)]) (hr : f_L_cell_28 D a1 a2  x2 s0 σ = some res) : WI Γ rm_L_cell p l e s m args below meth c H locs res (F0 m 28 ls [.int s0]) := by
  unfold f_L_cell_28 at hr
  refine lv_iload_n M.1 M.2.1 dL_cell_28 rfl (lv_at hl 0 rfl) ?_
  obtain ⟨g_4, hr⟩ := gd hr
  refine lv_irem M.1 M.2.1 dL_cell_29 g_4 ?_
  exact x_iret M hB (Option.some.inj hr) dL_cell_30
def f_L_cell_0 (D : SD) (a1 : Int32) (a2 : Int32)   (σ : Sg) : Option (Int32 × Sg) :=
if Int32.ofNat D.1 = 0 then
f_L_cell_28 D a1 a2  a2 ((a1 * 37) + 5) σ
else
if Int32.ofNat D.1 = 0 then none else
if a1 - a1 / (Int32.ofNat D.1) * (Int32.ofNat D.1) < 0 ∨ D.1 ≤ (a1 - a1 / (Int32.ofNat D.1) * (Int32.ofNat D.1)).toNatClampNeg then none else
f_L_cell_28 D a1 a2  a2 (((D.2 ((a1 - a1 / (Int32.ofNat D.1) * (Int32.ofNat D.1)).toNatClampNeg)) >>> ((a1 - a1 / 7 * 7) &&& 31)) &&& 4194303) σ
set_option maxHeartbeats 4000000 in
set_option maxRecDepth 100000 in
theorem w_L_cell_0 {p : Program} {l : Launch} {e : Env} {s : State} {m : MethodId} {args : Array Value} {below : List Frame} {meth : Method} {c : Code} {Γ : GG} {res : Int32 × Sg} (M : MX RL cL_cell 3 (some .int) p s m args meth c) (K : KK Γ s s.heap) {D : SD} (hD : gX Γ = D) (a1 : Int32) (a2 : Int32)  (σ : Sg) (H : Heap) (locs : List Loc) (ls : Array Slot)  (hB : Bd Γ σ s H locs) (hl : lv_has ls 3 [(0, .ref (gS Γ 6)), (1, .int a1), (2, .int a2)]) (hr : f_L_cell_0 D a1 a2   σ = some res) : WI Γ rm_L_cell p l e s m args below meth c H locs res (F0 m 0 ls []) := by
  unfold f_L_cell_0 at hr
  refine lv_aload_n M.1 M.2.1 dL_cell_0 rfl (lv_at hl 0 rfl) ?_
  refine x_slen M K hB hD dL_cell_1 ?_
  refine lv_if_ne (tgt := 14) M.1 M.2.1 dL_cell_2 (by decide) (fun c_1 => ?_) (fun c_1 => ?_)
  · rw [if_neg c_1] at hr
    refine lv_aload_n M.1 M.2.1 dL_cell_14 rfl (lv_at hl 0 rfl) ?_
    refine lv_iload_n M.1 M.2.1 dL_cell_15 rfl (lv_at hl 1 rfl) ?_
    refine lv_aload_n M.1 M.2.1 dL_cell_16 rfl (lv_at hl 0 rfl) ?_
    refine x_slen M K hB hD dL_cell_17 ?_
    obtain ⟨g_2, hr⟩ := gd hr
    refine lv_irem M.1 M.2.1 dL_cell_18 g_2 ?_
    obtain ⟨g_3, hr⟩ := gd hr
    refine x_sld M K hB hD g_3 dL_cell_19 ?_
    refine lv_iload_n M.1 M.2.1 dL_cell_20 rfl (lv_at hl 1 rfl) ?_
    refine lv_bipush (v := 7) M.1 M.2.1 dL_cell_21 (by decide) ?_
    refine lv_irem M.1 M.2.1 dL_cell_23 (by decide) ?_
    refine lv_ishr M.1 M.2.1 dL_cell_24 ?_
    refine x_ldc (v := 4194303) M wd_104 dL_cell_25 ?_
    refine lv_iand M.1 M.2.1 dL_cell_27 ?_
    exact w_L_cell_28 M K hD a1 a2  a2 (((D.2 ((a1 - a1 / (Int32.ofNat D.1) * (Int32.ofNat D.1)).toNatClampNeg)) >>> ((a1 - a1 / 7 * 7) &&& 31)) &&& 4194303) _ _ _ _  hB (lv_sub hl [2] rfl) hr
  · rw [if_pos c_1] at hr
    refine lv_iload_n M.1 M.2.1 dL_cell_5 rfl (lv_at hl 1 rfl) ?_
    refine lv_bipush (v := 37) M.1 M.2.1 dL_cell_6 (by decide) ?_
    refine lv_imul M.1 M.2.1 dL_cell_8 ?_
    refine lv_iconst (v := 5) M.1 M.2.1 dL_cell_9 (by decide) ?_
    refine lv_iadd M.1 M.2.1 dL_cell_10 ?_
    refine lv_goto (tgt := 28) M.1 M.2.1 dL_cell_11 (by decide) ?_
    exact w_L_cell_28 M K hD a1 a2  a2 ((a1 * 37) + 5) _ _ _ _  hB (lv_sub hl [2] rfl) hr
theorem c_L_cell (l : Launch) (Γ : GG) (D : SD) (a1 : Int32) (a2 : Int32) (hD : gX Γ = D) (σ : Sg) (res : Int32 × Sg) (hr : f_L_cell_0 D a1 a2 σ = some res) : Met l yL_cell (Cond.code yL_cell cL_cell 3 (some .int) :: gtb) rm_L_cell (va_Pc [.ref (gS Γ 6), .int a1, .int a2] (GI Γ σ)) (QI Γ res) 0 0 (AD Γ) :=
  x_metI (by decide) [.ref (gS Γ 6), .int a1, .int a2] (Nat.le_of_ble_eq_true rfl) (fun p e s m args below meth c M K ls hl hB => w_L_cell_0 M K hD a1 a2 σ _ _ ls hB hl hr)
abbrev rm_L_crashes : Room := { frames := 3, cells := 0, slots := 0, locals := 66 }
def f_L_crashes_296 (a4 : Int32)  (s0 : Int32) (s1 : Int32) (σ : Sg) : Option (Int32 × Sg) :=
if s1 < 0 ∨ 30 ≤ s1.toNatClampNeg then none else
wb (st σ 151 (s1.toNatClampNeg) s0) fun σ_63 =>
some (0, σ_63)
set_option maxHeartbeats 4000000 in
set_option maxRecDepth 100000 in
theorem w_L_crashes_296 {p : Program} {l : Launch} {e : Env} {s : State} {m : MethodId} {args : Array Value} {below : List Frame} {meth : Method} {c : Code} {Γ : GG} {res : Int32 × Sg} (M : MX RL cL_crashes 9 (some .boolean) p s m args meth c) (K : KK Γ s s.heap) (a4 : Int32) (s0 : Int32) (s1 : Int32) (σ : Sg) (H : Heap) (locs : List Loc) (ls : Array Slot)  (hB : Bd Γ σ s H locs) (hl : lv_has ls 9 []) (hr : f_L_crashes_296 a4  s0 s1 σ = some res) : WI Γ rm_L_crashes p l e s m args below meth c H locs res (F0 m 296 ls [.int s0, .int s1, .ref (Γ.1 151)]) := by
  unfold f_L_crashes_296 at hr
  obtain ⟨g_62, hr⟩ := gd hr
  obtain ⟨σ_63, e_64, hr⟩ := wbd hr
  refine x_iast M K hB isA_151 g_62 dL_crashes_296 (fun H locs hB => ?_)
  rw [← e_64] at hB
  refine lv_iconst (v := 0) M.1 M.2.1 dL_crashes_297 (by decide) ?_
  exact x_zret M hB (nar_z (by decide)) (Option.some.inj hr) dL_crashes_298
def f_L_crashes_289 (a4 : Int32)  (x5 : Int32) (s0 : Int32) (σ : Sg) : Option (Int32 × Sg) :=
if x5 + 6 < 0 ∨ 30 ≤ (x5 + 6).toNatClampNeg then none else
f_L_crashes_296 a4  (σ 151 ((x5 + 6).toNatClampNeg)) s0 σ
set_option maxHeartbeats 4000000 in
set_option maxRecDepth 100000 in
theorem w_L_crashes_289 {p : Program} {l : Launch} {e : Env} {s : State} {m : MethodId} {args : Array Value} {below : List Frame} {meth : Method} {c : Code} {Γ : GG} {res : Int32 × Sg} (M : MX RL cL_crashes 9 (some .boolean) p s m args meth c) (K : KK Γ s s.heap) (a4 : Int32) (x5 : Int32) (s0 : Int32) (σ : Sg) (H : Heap) (locs : List Loc) (ls : Array Slot)  (hB : Bd Γ σ s H locs) (hl : lv_has ls 9 [(2, .ref (Γ.1 151)), (5, .int x5)]) (hr : f_L_crashes_289 a4  x5 s0 σ = some res) : WI Γ rm_L_crashes p l e s m args below meth c H locs res (F0 m 289 ls [.int s0, .ref (Γ.1 151)]) := by
  unfold f_L_crashes_289 at hr
  refine lv_aload_n M.1 M.2.1 dL_crashes_289 rfl (lv_at hl 0 rfl) ?_
  refine lv_iload M.1 M.2.1 dL_crashes_290 (lv_at hl 1 rfl) ?_
  refine lv_bipush (v := 6) M.1 M.2.1 dL_crashes_292 (by decide) ?_
  refine lv_iadd M.1 M.2.1 dL_crashes_294 ?_
  obtain ⟨g_65, hr⟩ := gd hr
  refine x_iald M K hB isA_151 g_65 dL_crashes_295 ?_
  exact w_L_crashes_296 M K a4  (σ 151 ((x5 + 6).toNatClampNeg)) s0 _ _ _ _  hB (lv_sub hl [] rfl) hr
def f_L_crashes_239 (a4 : Int32)  (x4 : Int32) (x5 : Int32) (σ : Sg) : Option (Int32 × Sg) :=
cb (f_X4_task_0 x4 7 σ) fun v_54 σ_55 =>
if x5 + 0 < 0 ∨ 30 ≤ (x5 + 0).toNatClampNeg then none else
if σ_55 151 ((x5 + 0).toNatClampNeg) = 1 then
if v_54 ≤ 0 then
f_L_crashes_289 a4  x5 (x5 + 6) σ_55
else
if x5 + 2 < 0 ∨ 30 ≤ (x5 + 2).toNatClampNeg then none else
if (σ_55 150 4) - (σ_55 151 ((x5 + 2).toNatClampNeg)) ≤ v_54 then
f_L_crashes_289 a4  x5 (x5 + 6) σ_55
else
f_L_crashes_296 a4  1 (x5 + 6) σ_55
else
f_L_crashes_289 a4  x5 (x5 + 6) σ_55
set_option maxHeartbeats 4000000 in
set_option maxRecDepth 100000 in
theorem w_L_crashes_239 {p : Program} {l : Launch} {e : Env} {s : State} {m : MethodId} {args : Array Value} {below : List Frame} {meth : Method} {c : Code} {Γ : GG} {res : Int32 × Sg} (M : MX RL cL_crashes 9 (some .boolean) p s m args meth c) (K : KK Γ s s.heap) (a4 : Int32) (x4 : Int32) (x5 : Int32) (σ : Sg) (H : Heap) (locs : List Loc) (ls : Array Slot)  (hB : Bd Γ σ s H locs) (hl : lv_has ls 9 [(0, .ref (Γ.1 0)), (1, .ref (Γ.1 150)), (2, .ref (Γ.1 151)), (4, .int x4), (5, .int x5)]) (hr : f_L_crashes_239 a4  x4 x5 σ = some res) : WI Γ rm_L_crashes p l e s m args below meth c H locs res (F0 m 239 ls []) := by
  unfold f_L_crashes_239 at hr
  refine lv_aload_n M.1 M.2.1 dL_crashes_239 rfl (lv_at hl 0 rfl) ?_
  refine lv_iload M.1 M.2.1 dL_crashes_240 (lv_at hl 3 rfl) ?_
  refine lv_bipush (v := 7) M.1 M.2.1 dL_crashes_242 (by decide) ?_
  obtain ⟨v_54, σ_55, h_56, hr⟩ := cbd hr
  refine x_callI (x_runV M K hB hl.1 [.int x4, .int 7] (rest := []) rfl (c_X4_task l Γ x4 7  σ (v_54, σ_55) h_56) cy_X4_task (x_recv K hB isK_0.2 (ent_4 isK_0.1) rfl) wd_105 ⟨rfl, rfl, Nat.le_of_ble_eq_true rfl, Nat.le_of_ble_eq_true rfl⟩ (Nat.le_of_ble_eq_true rfl) ⟨Nat.zero_le _, Nat.zero_le _⟩ dL_crashes_244) hB (fun H locs hB => ?_)
  replace hB : Bd Γ σ_55 s H locs := hB
  refine lv_istore (lv' := [(8, .int v_54), (0, .ref (Γ.1 0)), (1, .ref (Γ.1 150)), (2, .ref (Γ.1 151)), (4, .int x4), (5, .int x5)]) M.1 M.2.1 dL_crashes_247 hl (by decide) rfl (fun ls hl => ?_)
  refine lv_aload_n M.1 M.2.1 dL_crashes_249 rfl (lv_at hl 3 rfl) ?_
  refine lv_iload M.1 M.2.1 dL_crashes_250 (lv_at hl 5 rfl) ?_
  refine lv_bipush (v := 6) M.1 M.2.1 dL_crashes_252 (by decide) ?_
  refine lv_iadd M.1 M.2.1 dL_crashes_254 ?_
  refine lv_aload_n M.1 M.2.1 dL_crashes_255 rfl (lv_at hl 3 rfl) ?_
  refine lv_iload M.1 M.2.1 dL_crashes_256 (lv_at hl 5 rfl) ?_
  refine lv_iconst (v := 0) M.1 M.2.1 dL_crashes_258 (by decide) ?_
  refine lv_iadd M.1 M.2.1 dL_crashes_259 ?_
  obtain ⟨g_57, hr⟩ := gd hr
  refine x_iald M K hB isA_151 g_57 dL_crashes_260 ?_
  refine lv_iconst (v := 1) M.1 M.2.1 dL_crashes_261 (by decide) ?_
  refine lv_icmp_ne (tgt := 289) M.1 M.2.1 dL_crashes_262 (by decide) (fun c_58 => ?_) (fun c_58 => ?_)
  · rw [if_neg c_58] at hr
    exact w_L_crashes_289 M K a4  x5 (x5 + 6) _ _ _ _  hB (lv_sub hl [3, 5] rfl) hr
  · rw [if_pos c_58] at hr
    refine lv_iload M.1 M.2.1 dL_crashes_265 (lv_at hl 0 rfl) ?_
    refine lv_if_le (tgt := 289) M.1 M.2.1 dL_crashes_267 (by decide) (fun c_59 => ?_) (fun c_59 => ?_)
    · rw [if_pos c_59] at hr
      exact w_L_crashes_289 M K a4  x5 (x5 + 6) _ _ _ _  hB (lv_sub hl [3, 5] rfl) hr
    · rw [if_neg c_59] at hr
      refine lv_aload_n M.1 M.2.1 dL_crashes_270 rfl (lv_at hl 2 rfl) ?_
      refine lv_iconst (v := 4) M.1 M.2.1 dL_crashes_271 (by decide) ?_
      refine x_ialdL M K hB isA_150 (k := 4) (by decide) (by decide) dL_crashes_272 ?_
      refine lv_aload_n M.1 M.2.1 dL_crashes_273 rfl (lv_at hl 3 rfl) ?_
      refine lv_iload M.1 M.2.1 dL_crashes_274 (lv_at hl 5 rfl) ?_
      refine lv_iconst (v := 2) M.1 M.2.1 dL_crashes_276 (by decide) ?_
      refine lv_iadd M.1 M.2.1 dL_crashes_277 ?_
      obtain ⟨g_60, hr⟩ := gd hr
      refine x_iald M K hB isA_151 g_60 dL_crashes_278 ?_
      refine lv_isub M.1 M.2.1 dL_crashes_279 ?_
      refine lv_iload M.1 M.2.1 dL_crashes_280 (lv_at hl 0 rfl) ?_
      refine lv_icmp_le (tgt := 289) M.1 M.2.1 dL_crashes_282 (by decide) (fun c_61 => ?_) (fun c_61 => ?_)
      · rw [if_pos c_61] at hr
        exact w_L_crashes_289 M K a4  x5 (x5 + 6) _ _ _ _  hB (lv_sub hl [3, 5] rfl) hr
      · rw [if_neg c_61] at hr
        refine lv_iconst (v := 1) M.1 M.2.1 dL_crashes_285 (by decide) ?_
        refine lv_goto (tgt := 296) M.1 M.2.1 dL_crashes_286 (by decide) ?_
        exact w_L_crashes_296 M K a4  1 (x5 + 6) _ _ _ _  hB (lv_sub hl [] rfl) hr
def f_L_crashes_237 (a4 : Int32)  (x4 : Int32) (x5 : Int32) (s0 : Int32) (s1 : Int32) (s2 : Int32) (σ : Sg) : Option (Int32 × Sg) :=
if s2 < 0 ∨ 30 ≤ s2.toNatClampNeg then none else
wb (st σ 151 (s2.toNatClampNeg) (s1 + s0)) fun σ_52 =>
f_L_crashes_239 a4  x4 x5 σ_52
set_option maxHeartbeats 4000000 in
set_option maxRecDepth 100000 in
theorem w_L_crashes_237 {p : Program} {l : Launch} {e : Env} {s : State} {m : MethodId} {args : Array Value} {below : List Frame} {meth : Method} {c : Code} {Γ : GG} {res : Int32 × Sg} (M : MX RL cL_crashes 9 (some .boolean) p s m args meth c) (K : KK Γ s s.heap) (a4 : Int32) (x4 : Int32) (x5 : Int32) (s0 : Int32) (s1 : Int32) (s2 : Int32) (σ : Sg) (H : Heap) (locs : List Loc) (ls : Array Slot)  (hB : Bd Γ σ s H locs) (hl : lv_has ls 9 [(0, .ref (Γ.1 0)), (1, .ref (Γ.1 150)), (2, .ref (Γ.1 151)), (4, .int x4), (5, .int x5)]) (hr : f_L_crashes_237 a4  x4 x5 s0 s1 s2 σ = some res) : WI Γ rm_L_crashes p l e s m args below meth c H locs res (F0 m 237 ls [.int s0, .int s1, .int s2, .ref (Γ.1 151)]) := by
  unfold f_L_crashes_237 at hr
  refine lv_iadd M.1 M.2.1 dL_crashes_237 ?_
  obtain ⟨g_51, hr⟩ := gd hr
  obtain ⟨σ_52, e_53, hr⟩ := wbd hr
  refine x_iast M K hB isA_151 g_51 dL_crashes_238 (fun H locs hB => ?_)
  rw [← e_53] at hB
  exact w_L_crashes_239 M K a4  x4 x5 _ _ _ _  hB (lv_sub hl [0, 1, 2, 3, 4] rfl) hr
def f_L_crashes_208 (a4 : Int32)  (x4 : Int32) (x5 : Int32) (x8 : Int32) (s0 : Int32) (s1 : Int32) (σ : Sg) : Option (Int32 × Sg) :=
if s1 < 0 ∨ 30 ≤ s1.toNatClampNeg then none else
wb (st σ 151 (s1.toNatClampNeg) s0) fun σ_46 =>
if x5 + 4 < 0 ∨ 30 ≤ (x5 + 4).toNatClampNeg then none else
if x8 = 3 then
f_L_crashes_237 a4  x4 x5 0 (σ_46 151 ((x5 + 4).toNatClampNeg)) (x5 + 4) σ_46
else
if x8 = 4 then
f_L_crashes_237 a4  x4 x5 2 (σ_46 151 ((x5 + 4).toNatClampNeg)) (x5 + 4) σ_46
else
f_L_crashes_237 a4  x4 x5 1 (σ_46 151 ((x5 + 4).toNatClampNeg)) (x5 + 4) σ_46
set_option maxHeartbeats 4000000 in
set_option maxRecDepth 100000 in
theorem w_L_crashes_208 {p : Program} {l : Launch} {e : Env} {s : State} {m : MethodId} {args : Array Value} {below : List Frame} {meth : Method} {c : Code} {Γ : GG} {res : Int32 × Sg} (M : MX RL cL_crashes 9 (some .boolean) p s m args meth c) (K : KK Γ s s.heap) (a4 : Int32) (x4 : Int32) (x5 : Int32) (x8 : Int32) (s0 : Int32) (s1 : Int32) (σ : Sg) (H : Heap) (locs : List Loc) (ls : Array Slot)  (hB : Bd Γ σ s H locs) (hl : lv_has ls 9 [(0, .ref (Γ.1 0)), (1, .ref (Γ.1 150)), (2, .ref (Γ.1 151)), (4, .int x4), (5, .int x5), (8, .int x8)]) (hr : f_L_crashes_208 a4  x4 x5 x8 s0 s1 σ = some res) : WI Γ rm_L_crashes p l e s m args below meth c H locs res (F0 m 208 ls [.int s0, .int s1, .ref (Γ.1 151)]) := by
  unfold f_L_crashes_208 at hr
  obtain ⟨g_45, hr⟩ := gd hr
  obtain ⟨σ_46, e_47, hr⟩ := wbd hr
  refine x_iast M K hB isA_151 g_45 dL_crashes_208 (fun H locs hB => ?_)
  rw [← e_47] at hB
  refine lv_aload_n M.1 M.2.1 dL_crashes_209 rfl (lv_at hl 2 rfl) ?_
  refine lv_iload M.1 M.2.1 dL_crashes_210 (lv_at hl 4 rfl) ?_
  refine lv_iconst (v := 4) M.1 M.2.1 dL_crashes_212 (by decide) ?_
  refine lv_iadd M.1 M.2.1 dL_crashes_213 ?_
  refine lv_dup2_11 M.1 M.2.1 dL_crashes_214 rfl rfl ?_
  obtain ⟨g_48, hr⟩ := gd hr
  refine x_iald M K hB isA_151 g_48 dL_crashes_215 ?_
  refine lv_iload M.1 M.2.1 dL_crashes_216 (lv_at hl 5 rfl) ?_
  refine lv_iconst (v := 3) M.1 M.2.1 dL_crashes_218 (by decide) ?_
  refine lv_icmp_ne (tgt := 226) M.1 M.2.1 dL_crashes_219 (by decide) (fun c_49 => ?_) (fun c_49 => ?_)
  · rw [if_neg c_49] at hr
    refine lv_iload M.1 M.2.1 dL_crashes_226 (lv_at hl 5 rfl) ?_
    refine lv_iconst (v := 4) M.1 M.2.1 dL_crashes_228 (by decide) ?_
    refine lv_icmp_ne (tgt := 236) M.1 M.2.1 dL_crashes_229 (by decide) (fun c_50 => ?_) (fun c_50 => ?_)
    · rw [if_neg c_50] at hr
      refine lv_iconst (v := 1) M.1 M.2.1 dL_crashes_236 (by decide) ?_
      exact w_L_crashes_237 M K a4  x4 x5 1 (σ_46 151 ((x5 + 4).toNatClampNeg)) (x5 + 4) _ _ _ _  hB (lv_sub hl [0, 1, 2, 3, 4] rfl) hr
    · rw [if_pos c_50] at hr
      refine lv_iconst (v := 2) M.1 M.2.1 dL_crashes_232 (by decide) ?_
      refine lv_goto (tgt := 237) M.1 M.2.1 dL_crashes_233 (by decide) ?_
      exact w_L_crashes_237 M K a4  x4 x5 2 (σ_46 151 ((x5 + 4).toNatClampNeg)) (x5 + 4) _ _ _ _  hB (lv_sub hl [0, 1, 2, 3, 4] rfl) hr
  · rw [if_pos c_49] at hr
    refine lv_iconst (v := 0) M.1 M.2.1 dL_crashes_222 (by decide) ?_
    refine lv_goto (tgt := 237) M.1 M.2.1 dL_crashes_223 (by decide) ?_
    exact w_L_crashes_237 M K a4  x4 x5 0 (σ_46 151 ((x5 + 4).toNatClampNeg)) (x5 + 4) _ _ _ _  hB (lv_sub hl [0, 1, 2, 3, 4] rfl) hr
def f_L_crashes_207 (a4 : Int32)  (x4 : Int32) (x5 : Int32) (x8 : Int32) (s0 : Int32) (s1 : Int32) (s2 : Int32) (σ : Sg) : Option (Int32 × Sg) :=
f_L_crashes_208 a4  x4 x5 x8 (s1 + s0) s2 σ
set_option maxHeartbeats 4000000 in
set_option maxRecDepth 100000 in
theorem w_L_crashes_207 {p : Program} {l : Launch} {e : Env} {s : State} {m : MethodId} {args : Array Value} {below : List Frame} {meth : Method} {c : Code} {Γ : GG} {res : Int32 × Sg} (M : MX RL cL_crashes 9 (some .boolean) p s m args meth c) (K : KK Γ s s.heap) (a4 : Int32) (x4 : Int32) (x5 : Int32) (x8 : Int32) (s0 : Int32) (s1 : Int32) (s2 : Int32) (σ : Sg) (H : Heap) (locs : List Loc) (ls : Array Slot)  (hB : Bd Γ σ s H locs) (hl : lv_has ls 9 [(0, .ref (Γ.1 0)), (1, .ref (Γ.1 150)), (2, .ref (Γ.1 151)), (4, .int x4), (5, .int x5), (8, .int x8)]) (hr : f_L_crashes_207 a4  x4 x5 x8 s0 s1 s2 σ = some res) : WI Γ rm_L_crashes p l e s m args below meth c H locs res (F0 m 207 ls [.int s0, .int s1, .int s2, .ref (Γ.1 151)]) := by
  unfold f_L_crashes_207 at hr
  refine lv_iadd M.1 M.2.1 dL_crashes_207 ?_
  exact w_L_crashes_208 M K a4  x4 x5 x8 (s1 + s0) s2 _ _ _ _  hB (lv_sub hl [0, 1, 2, 3, 4, 5] rfl) hr
def f_L_crashes_159 (a4 : Int32)  (x4 : Int32) (x5 : Int32) (x6 : Int32) (x8 : Int32) (s0 : Int32) (s1 : Int32) (σ : Sg) : Option (Int32 × Sg) :=
if s1 < 0 ∨ 30 ≤ s1.toNatClampNeg then none else
wb (st σ 151 (s1.toNatClampNeg) s0) fun σ_34 =>
if x5 + 2 < 0 ∨ 30 ≤ (x5 + 2).toNatClampNeg then none else
wb (st σ_34 151 ((x5 + 2).toNatClampNeg) (σ_34 150 4)) fun σ_37 =>
if x8 = 1 then
f_L_crashes_208 a4  x4 x5 x8 0 (x5 + 3) σ_37
else
cb (f_X4_task_0 x4 1 σ_37) fun v_40 σ_41 =>
if x8 = 2 then
if x6 + 2 < 0 ∨ 18 ≤ (x6 + 2).toNatClampNeg then none else
f_L_crashes_207 a4  x4 x5 x8 (σ_41 152 ((x6 + 2).toNatClampNeg)) v_40 (x5 + 3) σ_41
else
f_L_crashes_207 a4  x4 x5 x8 0 v_40 (x5 + 3) σ_41
set_option maxHeartbeats 4000000 in
set_option maxRecDepth 100000 in
theorem w_L_crashes_159 {p : Program} {l : Launch} {e : Env} {s : State} {m : MethodId} {args : Array Value} {below : List Frame} {meth : Method} {c : Code} {Γ : GG} {res : Int32 × Sg} (M : MX RL cL_crashes 9 (some .boolean) p s m args meth c) (K : KK Γ s s.heap) (a4 : Int32) (x4 : Int32) (x5 : Int32) (x6 : Int32) (x8 : Int32) (s0 : Int32) (s1 : Int32) (σ : Sg) (H : Heap) (locs : List Loc) (ls : Array Slot)  (hB : Bd Γ σ s H locs) (hl : lv_has ls 9 [(0, .ref (Γ.1 0)), (1, .ref (Γ.1 150)), (2, .ref (Γ.1 151)), (3, .ref (Γ.1 152)), (4, .int x4), (5, .int x5), (6, .int x6), (8, .int x8)]) (hr : f_L_crashes_159 a4  x4 x5 x6 x8 s0 s1 σ = some res) : WI Γ rm_L_crashes p l e s m args below meth c H locs res (F0 m 159 ls [.int s0, .int s1, .ref (Γ.1 151)]) := by
  unfold f_L_crashes_159 at hr
  obtain ⟨g_33, hr⟩ := gd hr
  obtain ⟨σ_34, e_35, hr⟩ := wbd hr
  refine x_iast M K hB isA_151 g_33 dL_crashes_159 (fun H locs hB => ?_)
  rw [← e_35] at hB
  refine lv_aload_n M.1 M.2.1 dL_crashes_160 rfl (lv_at hl 2 rfl) ?_
  refine lv_iload M.1 M.2.1 dL_crashes_161 (lv_at hl 5 rfl) ?_
  refine lv_iconst (v := 2) M.1 M.2.1 dL_crashes_163 (by decide) ?_
  refine lv_iadd M.1 M.2.1 dL_crashes_164 ?_
  refine lv_aload_n M.1 M.2.1 dL_crashes_165 rfl (lv_at hl 1 rfl) ?_
  refine lv_iconst (v := 4) M.1 M.2.1 dL_crashes_166 (by decide) ?_
  refine x_ialdL M K hB isA_150 (k := 4) (by decide) (by decide) dL_crashes_167 ?_
  obtain ⟨g_36, hr⟩ := gd hr
  obtain ⟨σ_37, e_38, hr⟩ := wbd hr
  refine x_iast M K hB isA_151 g_36 dL_crashes_168 (fun H locs hB => ?_)
  rw [← e_38] at hB
  refine lv_aload_n M.1 M.2.1 dL_crashes_169 rfl (lv_at hl 2 rfl) ?_
  refine lv_iload M.1 M.2.1 dL_crashes_170 (lv_at hl 5 rfl) ?_
  refine lv_iconst (v := 3) M.1 M.2.1 dL_crashes_172 (by decide) ?_
  refine lv_iadd M.1 M.2.1 dL_crashes_173 ?_
  refine lv_iload M.1 M.2.1 dL_crashes_174 (lv_at hl 7 rfl) ?_
  refine lv_iconst (v := 1) M.1 M.2.1 dL_crashes_176 (by decide) ?_
  refine lv_icmp_ne (tgt := 184) M.1 M.2.1 dL_crashes_177 (by decide) (fun c_39 => ?_) (fun c_39 => ?_)
  · rw [if_neg c_39] at hr
    refine lv_aload_n M.1 M.2.1 dL_crashes_184 rfl (lv_at hl 0 rfl) ?_
    refine lv_iload M.1 M.2.1 dL_crashes_185 (lv_at hl 4 rfl) ?_
    refine lv_iconst (v := 1) M.1 M.2.1 dL_crashes_187 (by decide) ?_
    obtain ⟨v_40, σ_41, h_42, hr⟩ := cbd hr
    refine x_callI (x_runV M K hB hl.1 [.int x4, .int 1] (rest := [.int (x5 + 3), .ref (Γ.1 151)]) rfl (c_X4_task l Γ x4 1  σ_37 (v_40, σ_41) h_42) cy_X4_task (x_recv K hB isK_0.2 (ent_4 isK_0.1) rfl) wd_105 ⟨rfl, rfl, Nat.le_of_ble_eq_true rfl, Nat.le_of_ble_eq_true rfl⟩ (Nat.le_of_ble_eq_true rfl) ⟨Nat.zero_le _, Nat.zero_le _⟩ dL_crashes_188) hB (fun H locs hB => ?_)
    replace hB : Bd Γ σ_41 s H locs := hB
    refine lv_iload M.1 M.2.1 dL_crashes_191 (lv_at hl 7 rfl) ?_
    refine lv_iconst (v := 2) M.1 M.2.1 dL_crashes_193 (by decide) ?_
    refine lv_icmp_ne (tgt := 206) M.1 M.2.1 dL_crashes_194 (by decide) (fun c_43 => ?_) (fun c_43 => ?_)
    · rw [if_neg c_43] at hr
      refine lv_iconst (v := 0) M.1 M.2.1 dL_crashes_206 (by decide) ?_
      exact w_L_crashes_207 M K a4  x4 x5 x8 0 v_40 (x5 + 3) _ _ _ _  hB (lv_sub hl [0, 1, 2, 4, 5, 7] rfl) hr
    · rw [if_pos c_43] at hr
      refine lv_aload_n M.1 M.2.1 dL_crashes_197 rfl (lv_at hl 3 rfl) ?_
      refine lv_iload M.1 M.2.1 dL_crashes_198 (lv_at hl 6 rfl) ?_
      refine lv_iconst (v := 2) M.1 M.2.1 dL_crashes_200 (by decide) ?_
      refine lv_iadd M.1 M.2.1 dL_crashes_201 ?_
      obtain ⟨g_44, hr⟩ := gd hr
      refine x_iald M K hB isA_152 g_44 dL_crashes_202 ?_
      refine lv_goto (tgt := 207) M.1 M.2.1 dL_crashes_203 (by decide) ?_
      exact w_L_crashes_207 M K a4  x4 x5 x8 (σ_41 152 ((x6 + 2).toNatClampNeg)) v_40 (x5 + 3) _ _ _ _  hB (lv_sub hl [0, 1, 2, 4, 5, 7] rfl) hr
  · rw [if_pos c_39] at hr
    refine lv_iconst (v := 0) M.1 M.2.1 dL_crashes_180 (by decide) ?_
    refine lv_goto (tgt := 208) M.1 M.2.1 dL_crashes_181 (by decide) ?_
    exact w_L_crashes_208 M K a4  x4 x5 x8 0 (x5 + 3) _ _ _ _  hB (lv_sub hl [0, 1, 2, 4, 5, 7] rfl) hr
def f_L_crashes_126 (a4 : Int32)  (x4 : Int32) (x5 : Int32) (x6 : Int32) (s0 : Int32) (σ : Sg) : Option (Int32 × Sg) :=
if s0 = 5 then
some (1, σ)
else
if x5 + 0 < 0 ∨ 30 ≤ (x5 + 0).toNatClampNeg then none else
wb (st σ 151 ((x5 + 0).toNatClampNeg) 1) fun σ_30 =>
if s0 = 1 then
f_L_crashes_159 a4  x4 x5 x6 s0 1 (x5 + 1) σ_30
else
f_L_crashes_159 a4  x4 x5 x6 s0 0 (x5 + 1) σ_30
set_option maxHeartbeats 4000000 in
set_option maxRecDepth 100000 in
theorem w_L_crashes_126 {p : Program} {l : Launch} {e : Env} {s : State} {m : MethodId} {args : Array Value} {below : List Frame} {meth : Method} {c : Code} {Γ : GG} {res : Int32 × Sg} (M : MX RL cL_crashes 9 (some .boolean) p s m args meth c) (K : KK Γ s s.heap) (a4 : Int32) (x4 : Int32) (x5 : Int32) (x6 : Int32) (s0 : Int32) (σ : Sg) (H : Heap) (locs : List Loc) (ls : Array Slot)  (hB : Bd Γ σ s H locs) (hl : lv_has ls 9 [(0, .ref (Γ.1 0)), (1, .ref (Γ.1 150)), (2, .ref (Γ.1 151)), (3, .ref (Γ.1 152)), (4, .int x4), (5, .int x5), (6, .int x6)]) (hr : f_L_crashes_126 a4  x4 x5 x6 s0 σ = some res) : WI Γ rm_L_crashes p l e s m args below meth c H locs res (F0 m 126 ls [.int s0]) := by
  unfold f_L_crashes_126 at hr
  refine lv_istore (lv' := [(8, .int s0), (0, .ref (Γ.1 0)), (1, .ref (Γ.1 150)), (2, .ref (Γ.1 151)), (3, .ref (Γ.1 152)), (4, .int x4), (5, .int x5), (6, .int x6)]) M.1 M.2.1 dL_crashes_126 hl (by decide) rfl (fun ls hl => ?_)
  refine lv_iload M.1 M.2.1 dL_crashes_128 (lv_at hl 0 rfl) ?_
  refine lv_iconst (v := 5) M.1 M.2.1 dL_crashes_130 (by decide) ?_
  refine lv_icmp_ne (tgt := 136) M.1 M.2.1 dL_crashes_131 (by decide) (fun c_28 => ?_) (fun c_28 => ?_)
  · rw [if_neg c_28] at hr
    refine lv_aload_n M.1 M.2.1 dL_crashes_136 rfl (lv_at hl 3 rfl) ?_
    refine lv_iload M.1 M.2.1 dL_crashes_137 (lv_at hl 6 rfl) ?_
    refine lv_iconst (v := 0) M.1 M.2.1 dL_crashes_139 (by decide) ?_
    refine lv_iadd M.1 M.2.1 dL_crashes_140 ?_
    refine lv_iconst (v := 1) M.1 M.2.1 dL_crashes_141 (by decide) ?_
    obtain ⟨g_29, hr⟩ := gd hr
    obtain ⟨σ_30, e_31, hr⟩ := wbd hr
    refine x_iast M K hB isA_151 g_29 dL_crashes_142 (fun H locs hB => ?_)
    rw [← e_31] at hB
    refine lv_aload_n M.1 M.2.1 dL_crashes_143 rfl (lv_at hl 3 rfl) ?_
    refine lv_iload M.1 M.2.1 dL_crashes_144 (lv_at hl 6 rfl) ?_
    refine lv_iconst (v := 1) M.1 M.2.1 dL_crashes_146 (by decide) ?_
    refine lv_iadd M.1 M.2.1 dL_crashes_147 ?_
    refine lv_iload M.1 M.2.1 dL_crashes_148 (lv_at hl 0 rfl) ?_
    refine lv_iconst (v := 1) M.1 M.2.1 dL_crashes_150 (by decide) ?_
    refine lv_icmp_ne (tgt := 158) M.1 M.2.1 dL_crashes_151 (by decide) (fun c_32 => ?_) (fun c_32 => ?_)
    · rw [if_neg c_32] at hr
      refine lv_iconst (v := 0) M.1 M.2.1 dL_crashes_158 (by decide) ?_
      exact w_L_crashes_159 M K a4  x4 x5 x6 s0 0 (x5 + 1) _ _ _ _  hB (lv_sub hl [1, 2, 3, 4, 5, 6, 7, 0] rfl) hr
    · rw [if_pos c_32] at hr
      refine lv_iconst (v := 1) M.1 M.2.1 dL_crashes_154 (by decide) ?_
      refine lv_goto (tgt := 159) M.1 M.2.1 dL_crashes_155 (by decide) ?_
      exact w_L_crashes_159 M K a4  x4 x5 x6 s0 1 (x5 + 1) _ _ _ _  hB (lv_sub hl [1, 2, 3, 4, 5, 6, 7, 0] rfl) hr
  · rw [if_pos c_28] at hr
    refine lv_iconst (v := 1) M.1 M.2.1 dL_crashes_134 (by decide) ?_
    exact x_zret M hB (nar_z (by decide)) (Option.some.inj hr) dL_crashes_135
def f_L_crashes_69 (a4 : Int32)  (x4 : Int32) (x5 : Int32) (x6 : Int32) (σ : Sg) : Option (Int32 × Sg) :=
cb (f_X4_task_0 x4 0 σ) fun v_14 σ_15 =>
if x5 + 0 < 0 ∨ 30 ≤ (x5 + 0).toNatClampNeg then none else
if σ_15 151 ((x5 + 0).toNatClampNeg) = 0 then
if v_14 = 0 then none else
cb (f_X4_task_0 x4 2 σ_15) fun v_20 σ_21 =>
if v_14 = 0 then none else
if (σ_15 150 4) - (σ_15 150 4) / v_14 * v_14 = v_20 - v_20 / v_14 * v_14 then
if x6 + 1 < 0 ∨ 18 ≤ (x6 + 1).toNatClampNeg then none else
if σ_21 150 4 < σ_21 152 ((x6 + 1).toNatClampNeg) then
f_L_crashes_126 a4  x4 x5 x6 0 σ_21
else
if x6 < 0 ∨ 18 ≤ x6.toNatClampNeg then none else
f_L_crashes_126 a4  x4 x5 x6 (σ_21 152 (x6.toNatClampNeg)) σ_21
else
f_L_crashes_239 a4  x4 x5 σ_21
else
f_L_crashes_239 a4  x4 x5 σ_15
set_option maxHeartbeats 4000000 in
set_option maxRecDepth 100000 in
theorem w_L_crashes_69 {p : Program} {l : Launch} {e : Env} {s : State} {m : MethodId} {args : Array Value} {below : List Frame} {meth : Method} {c : Code} {Γ : GG} {res : Int32 × Sg} (M : MX RL cL_crashes 9 (some .boolean) p s m args meth c) (K : KK Γ s s.heap) (a4 : Int32) (x4 : Int32) (x5 : Int32) (x6 : Int32) (σ : Sg) (H : Heap) (locs : List Loc) (ls : Array Slot)  (hB : Bd Γ σ s H locs) (hl : lv_has ls 9 [(0, .ref (Γ.1 0)), (1, .ref (Γ.1 150)), (2, .ref (Γ.1 151)), (3, .ref (Γ.1 152)), (4, .int x4), (5, .int x5), (6, .int x6)]) (hr : f_L_crashes_69 a4  x4 x5 x6 σ = some res) : WI Γ rm_L_crashes p l e s m args below meth c H locs res (F0 m 69 ls []) := by
  unfold f_L_crashes_69 at hr
  refine lv_aload_n M.1 M.2.1 dL_crashes_69 rfl (lv_at hl 0 rfl) ?_
  refine lv_iload M.1 M.2.1 dL_crashes_70 (lv_at hl 4 rfl) ?_
  refine lv_iconst (v := 0) M.1 M.2.1 dL_crashes_72 (by decide) ?_
  obtain ⟨v_14, σ_15, h_16, hr⟩ := cbd hr
  refine x_callI (x_runV M K hB hl.1 [.int x4, .int 0] (rest := []) rfl (c_X4_task l Γ x4 0  σ (v_14, σ_15) h_16) cy_X4_task (x_recv K hB isK_0.2 (ent_4 isK_0.1) rfl) wd_105 ⟨rfl, rfl, Nat.le_of_ble_eq_true rfl, Nat.le_of_ble_eq_true rfl⟩ (Nat.le_of_ble_eq_true rfl) ⟨Nat.zero_le _, Nat.zero_le _⟩ dL_crashes_73) hB (fun H locs hB => ?_)
  replace hB : Bd Γ σ_15 s H locs := hB
  refine lv_istore (lv' := [(7, .int v_14), (0, .ref (Γ.1 0)), (1, .ref (Γ.1 150)), (2, .ref (Γ.1 151)), (3, .ref (Γ.1 152)), (4, .int x4), (5, .int x5), (6, .int x6)]) M.1 M.2.1 dL_crashes_76 hl (by decide) rfl (fun ls hl => ?_)
  refine lv_aload_n M.1 M.2.1 dL_crashes_78 rfl (lv_at hl 3 rfl) ?_
  refine lv_iload M.1 M.2.1 dL_crashes_79 (lv_at hl 6 rfl) ?_
  refine lv_iconst (v := 0) M.1 M.2.1 dL_crashes_81 (by decide) ?_
  refine lv_iadd M.1 M.2.1 dL_crashes_82 ?_
  obtain ⟨g_17, hr⟩ := gd hr
  refine x_iald M K hB isA_151 g_17 dL_crashes_83 ?_
  refine lv_if_ne (tgt := 239) M.1 M.2.1 dL_crashes_84 (by decide) (fun c_18 => ?_) (fun c_18 => ?_)
  · rw [if_neg c_18] at hr
    exact w_L_crashes_239 M K a4  x4 x5 _ _ _ _  hB (lv_sub hl [1, 2, 3, 5, 6] rfl) hr
  · rw [if_pos c_18] at hr
    refine lv_aload_n M.1 M.2.1 dL_crashes_87 rfl (lv_at hl 2 rfl) ?_
    refine lv_iconst (v := 4) M.1 M.2.1 dL_crashes_88 (by decide) ?_
    refine x_ialdL M K hB isA_150 (k := 4) (by decide) (by decide) dL_crashes_89 ?_
    refine lv_iload M.1 M.2.1 dL_crashes_90 (lv_at hl 0 rfl) ?_
    obtain ⟨g_19, hr⟩ := gd hr
    refine lv_irem M.1 M.2.1 dL_crashes_92 g_19 ?_
    refine lv_aload_n M.1 M.2.1 dL_crashes_93 rfl (lv_at hl 1 rfl) ?_
    refine lv_iload M.1 M.2.1 dL_crashes_94 (lv_at hl 5 rfl) ?_
    refine lv_iconst (v := 2) M.1 M.2.1 dL_crashes_96 (by decide) ?_
    obtain ⟨v_20, σ_21, h_22, hr⟩ := cbd hr
    refine x_callI (x_runV M K hB hl.1 [.int x4, .int 2] (rest := [.int ((σ_15 150 4) - (σ_15 150 4) / v_14 * v_14)]) rfl (c_X4_task l Γ x4 2  σ_15 (v_20, σ_21) h_22) cy_X4_task (x_recv K hB isK_0.2 (ent_4 isK_0.1) rfl) wd_105 ⟨rfl, rfl, Nat.le_of_ble_eq_true rfl, Nat.le_of_ble_eq_true rfl⟩ (Nat.le_of_ble_eq_true rfl) ⟨Nat.zero_le _, Nat.zero_le _⟩ dL_crashes_97) hB (fun H locs hB => ?_)
    replace hB : Bd Γ σ_21 s H locs := hB
    refine lv_iload M.1 M.2.1 dL_crashes_100 (lv_at hl 0 rfl) ?_
    obtain ⟨g_23, hr⟩ := gd hr
    refine lv_irem M.1 M.2.1 dL_crashes_102 g_23 ?_
    refine lv_icmp_ne (tgt := 239) M.1 M.2.1 dL_crashes_103 (by decide) (fun c_24 => ?_) (fun c_24 => ?_)
    · rw [if_neg c_24] at hr
      exact w_L_crashes_239 M K a4  x4 x5 _ _ _ _  hB (lv_sub hl [1, 2, 3, 5, 6] rfl) hr
    · rw [if_pos c_24] at hr
      refine lv_aload_n M.1 M.2.1 dL_crashes_106 rfl (lv_at hl 2 rfl) ?_
      refine lv_iconst (v := 4) M.1 M.2.1 dL_crashes_107 (by decide) ?_
      refine x_ialdL M K hB isA_150 (k := 4) (by decide) (by decide) dL_crashes_108 ?_
      refine lv_aload_n M.1 M.2.1 dL_crashes_109 rfl (lv_at hl 4 rfl) ?_
      refine lv_iload M.1 M.2.1 dL_crashes_110 (lv_at hl 7 rfl) ?_
      refine lv_iconst (v := 1) M.1 M.2.1 dL_crashes_112 (by decide) ?_
      refine lv_iadd M.1 M.2.1 dL_crashes_113 ?_
      obtain ⟨g_25, hr⟩ := gd hr
      refine x_iald M K hB isA_152 g_25 dL_crashes_114 ?_
      refine lv_icmp_lt (tgt := 125) M.1 M.2.1 dL_crashes_115 (by decide) (fun c_26 => ?_) (fun c_26 => ?_)
      · rw [if_pos c_26] at hr
        refine lv_iconst (v := 0) M.1 M.2.1 dL_crashes_125 (by decide) ?_
        exact w_L_crashes_126 M K a4  x4 x5 x6 0 _ _ _ _  hB (lv_sub hl [1, 2, 3, 4, 5, 6, 7] rfl) hr
      · rw [if_neg c_26] at hr
        refine lv_aload_n M.1 M.2.1 dL_crashes_118 rfl (lv_at hl 4 rfl) ?_
        refine lv_iload M.1 M.2.1 dL_crashes_119 (lv_at hl 7 rfl) ?_
        obtain ⟨g_27, hr⟩ := gd hr
        refine x_iald M K hB isA_152 g_27 dL_crashes_121 ?_
        refine lv_goto (tgt := 126) M.1 M.2.1 dL_crashes_122 (by decide) ?_
        exact w_L_crashes_126 M K a4  x4 x5 x6 (σ_21 152 (x6.toNatClampNeg)) _ _ _ _  hB (lv_sub hl [1, 2, 3, 4, 5, 6, 7] rfl) hr
def f_L_crashes_68 (a4 : Int32)  (x4 : Int32) (x5 : Int32) (x6 : Int32) (s0 : Int32) (s1 : Int32) (σ : Sg) : Option (Int32 × Sg) :=
if s1 < 0 ∨ 30 ≤ s1.toNatClampNeg then none else
wb (st σ 151 (s1.toNatClampNeg) s0) fun σ_12 =>
f_L_crashes_69 a4  x4 x5 x6 σ_12
set_option maxHeartbeats 4000000 in
set_option maxRecDepth 100000 in
theorem w_L_crashes_68 {p : Program} {l : Launch} {e : Env} {s : State} {m : MethodId} {args : Array Value} {below : List Frame} {meth : Method} {c : Code} {Γ : GG} {res : Int32 × Sg} (M : MX RL cL_crashes 9 (some .boolean) p s m args meth c) (K : KK Γ s s.heap) (a4 : Int32) (x4 : Int32) (x5 : Int32) (x6 : Int32) (s0 : Int32) (s1 : Int32) (σ : Sg) (H : Heap) (locs : List Loc) (ls : Array Slot)  (hB : Bd Γ σ s H locs) (hl : lv_has ls 9 [(0, .ref (Γ.1 0)), (1, .ref (Γ.1 150)), (2, .ref (Γ.1 151)), (3, .ref (Γ.1 152)), (4, .int x4), (5, .int x5), (6, .int x6)]) (hr : f_L_crashes_68 a4  x4 x5 x6 s0 s1 σ = some res) : WI Γ rm_L_crashes p l e s m args below meth c H locs res (F0 m 68 ls [.int s0, .int s1, .ref (Γ.1 151)]) := by
  unfold f_L_crashes_68 at hr
  obtain ⟨g_11, hr⟩ := gd hr
  obtain ⟨σ_12, e_13, hr⟩ := wbd hr
  refine x_iast M K hB isA_151 g_11 dL_crashes_68 (fun H locs hB => ?_)
  rw [← e_13] at hB
  exact w_L_crashes_69 M K a4  x4 x5 x6 _ _ _ _  hB (lv_sub hl [0, 1, 2, 3, 4, 5, 6] rfl) hr
def f_L_crashes_0 (a4 : Int32)   (σ : Sg) : Option (Int32 × Sg) :=
if (10 * a4) + 0 < 0 ∨ 30 ≤ ((10 * a4) + 0).toNatClampNeg then none else
if σ 151 (((10 * a4) + 0).toNatClampNeg) = 1 then
if (10 * a4) + 1 < 0 ∨ 30 ≤ ((10 * a4) + 1).toNatClampNeg then none else
if σ 151 (((10 * a4) + 1).toNatClampNeg) = 0 then
if (10 * a4) + 3 < 0 ∨ 30 ≤ ((10 * a4) + 3).toNatClampNeg then none else
if (10 * a4) + 3 < 0 ∨ 30 ≤ ((10 * a4) + 3).toNatClampNeg then none else
wb (st σ 151 (((10 * a4) + 3).toNatClampNeg) ((σ 151 (((10 * a4) + 3).toNatClampNeg)) - 1)) fun σ_7 =>
if (10 * a4) + 3 < 0 ∨ 30 ≤ ((10 * a4) + 3).toNatClampNeg then none else
if σ_7 151 (((10 * a4) + 3).toNatClampNeg) ≤ 0 then
f_L_crashes_68 a4  a4 (10 * a4) ((9 * (σ 150 1)) + (3 * a4)) 0 ((10 * a4) + 0) σ_7
else
f_L_crashes_68 a4  a4 (10 * a4) ((9 * (σ 150 1)) + (3 * a4)) 1 ((10 * a4) + 0) σ_7
else
f_L_crashes_69 a4  a4 (10 * a4) ((9 * (σ 150 1)) + (3 * a4)) σ
else
f_L_crashes_69 a4  a4 (10 * a4) ((9 * (σ 150 1)) + (3 * a4)) σ
set_option maxHeartbeats 4000000 in
set_option maxRecDepth 100000 in
theorem w_L_crashes_0 {p : Program} {l : Launch} {e : Env} {s : State} {m : MethodId} {args : Array Value} {below : List Frame} {meth : Method} {c : Code} {Γ : GG} {res : Int32 × Sg} (M : MX RL cL_crashes 9 (some .boolean) p s m args meth c) (K : KK Γ s s.heap) (a4 : Int32)  (σ : Sg) (H : Heap) (locs : List Loc) (ls : Array Slot)  (hB : Bd Γ σ s H locs) (hl : lv_has ls 9 [(0, .ref (Γ.1 0)), (1, .ref (Γ.1 150)), (2, .ref (Γ.1 151)), (3, .ref (Γ.1 152)), (4, .int a4)]) (hr : f_L_crashes_0 a4   σ = some res) : WI Γ rm_L_crashes p l e s m args below meth c H locs res (F0 m 0 ls []) := by
  unfold f_L_crashes_0 at hr
  refine lv_bipush (v := 10) M.1 M.2.1 dL_crashes_0 (by decide) ?_
  refine lv_iload M.1 M.2.1 dL_crashes_2 (lv_at hl 4 rfl) ?_
  refine lv_imul M.1 M.2.1 dL_crashes_4 ?_
  refine lv_istore (lv' := [(5, .int (10 * a4)), (0, .ref (Γ.1 0)), (1, .ref (Γ.1 150)), (2, .ref (Γ.1 151)), (3, .ref (Γ.1 152)), (4, .int a4)]) M.1 M.2.1 dL_crashes_5 hl (by decide) rfl (fun ls hl => ?_)
  refine lv_bipush (v := 9) M.1 M.2.1 dL_crashes_7 (by decide) ?_
  refine lv_aload_n M.1 M.2.1 dL_crashes_9 rfl (lv_at hl 2 rfl) ?_
  refine lv_iconst (v := 1) M.1 M.2.1 dL_crashes_10 (by decide) ?_
  refine x_ialdL M K hB isA_150 (k := 1) (by decide) (by decide) dL_crashes_11 ?_
  refine lv_imul M.1 M.2.1 dL_crashes_12 ?_
  refine lv_iconst (v := 3) M.1 M.2.1 dL_crashes_13 (by decide) ?_
  refine lv_iload M.1 M.2.1 dL_crashes_14 (lv_at hl 5 rfl) ?_
  refine lv_imul M.1 M.2.1 dL_crashes_16 ?_
  refine lv_iadd M.1 M.2.1 dL_crashes_17 ?_
  refine lv_istore (lv' := [(6, .int ((9 * (σ 150 1)) + (3 * a4))), (5, .int (10 * a4)), (0, .ref (Γ.1 0)), (1, .ref (Γ.1 150)), (2, .ref (Γ.1 151)), (3, .ref (Γ.1 152)), (4, .int a4)]) M.1 M.2.1 dL_crashes_18 hl (by decide) rfl (fun ls hl => ?_)
  refine lv_aload_n M.1 M.2.1 dL_crashes_20 rfl (lv_at hl 4 rfl) ?_
  refine lv_iload M.1 M.2.1 dL_crashes_21 (lv_at hl 1 rfl) ?_
  refine lv_iconst (v := 0) M.1 M.2.1 dL_crashes_23 (by decide) ?_
  refine lv_iadd M.1 M.2.1 dL_crashes_24 ?_
  obtain ⟨g_1, hr⟩ := gd hr
  refine x_iald M K hB isA_151 g_1 dL_crashes_25 ?_
  refine lv_iconst (v := 1) M.1 M.2.1 dL_crashes_26 (by decide) ?_
  refine lv_icmp_ne (tgt := 69) M.1 M.2.1 dL_crashes_27 (by decide) (fun c_2 => ?_) (fun c_2 => ?_)
  · rw [if_neg c_2] at hr
    exact w_L_crashes_69 M K a4  a4 (10 * a4) ((9 * (σ 150 1)) + (3 * a4)) _ _ _ _  hB (lv_sub hl [2, 3, 4, 5, 6, 1, 0] rfl) hr
  · rw [if_pos c_2] at hr
    refine lv_aload_n M.1 M.2.1 dL_crashes_30 rfl (lv_at hl 4 rfl) ?_
    refine lv_iload M.1 M.2.1 dL_crashes_31 (lv_at hl 1 rfl) ?_
    refine lv_iconst (v := 1) M.1 M.2.1 dL_crashes_33 (by decide) ?_
    refine lv_iadd M.1 M.2.1 dL_crashes_34 ?_
    obtain ⟨g_3, hr⟩ := gd hr
    refine x_iald M K hB isA_151 g_3 dL_crashes_35 ?_
    refine lv_if_ne (tgt := 69) M.1 M.2.1 dL_crashes_36 (by decide) (fun c_4 => ?_) (fun c_4 => ?_)
    · rw [if_neg c_4] at hr
      exact w_L_crashes_69 M K a4  a4 (10 * a4) ((9 * (σ 150 1)) + (3 * a4)) _ _ _ _  hB (lv_sub hl [2, 3, 4, 5, 6, 1, 0] rfl) hr
    · rw [if_pos c_4] at hr
      refine lv_aload_n M.1 M.2.1 dL_crashes_39 rfl (lv_at hl 4 rfl) ?_
      refine lv_iload M.1 M.2.1 dL_crashes_40 (lv_at hl 1 rfl) ?_
      refine lv_iconst (v := 3) M.1 M.2.1 dL_crashes_42 (by decide) ?_
      refine lv_iadd M.1 M.2.1 dL_crashes_43 ?_
      refine lv_dup2_11 M.1 M.2.1 dL_crashes_44 rfl rfl ?_
      obtain ⟨g_5, hr⟩ := gd hr
      refine x_iald M K hB isA_151 g_5 dL_crashes_45 ?_
      refine lv_iconst (v := 1) M.1 M.2.1 dL_crashes_46 (by decide) ?_
      refine lv_isub M.1 M.2.1 dL_crashes_47 ?_
      obtain ⟨g_6, hr⟩ := gd hr
      obtain ⟨σ_7, e_8, hr⟩ := wbd hr
      refine x_iast M K hB isA_151 g_6 dL_crashes_48 (fun H locs hB => ?_)
      rw [← e_8] at hB
      refine lv_aload_n M.1 M.2.1 dL_crashes_49 rfl (lv_at hl 4 rfl) ?_
      refine lv_iload M.1 M.2.1 dL_crashes_50 (lv_at hl 1 rfl) ?_
      refine lv_iconst (v := 0) M.1 M.2.1 dL_crashes_52 (by decide) ?_
      refine lv_iadd M.1 M.2.1 dL_crashes_53 ?_
      refine lv_aload_n M.1 M.2.1 dL_crashes_54 rfl (lv_at hl 4 rfl) ?_
      refine lv_iload M.1 M.2.1 dL_crashes_55 (lv_at hl 1 rfl) ?_
      refine lv_iconst (v := 3) M.1 M.2.1 dL_crashes_57 (by decide) ?_
      refine lv_iadd M.1 M.2.1 dL_crashes_58 ?_
      obtain ⟨g_9, hr⟩ := gd hr
      refine x_iald M K hB isA_151 g_9 dL_crashes_59 ?_
      refine lv_if_le (tgt := 67) M.1 M.2.1 dL_crashes_60 (by decide) (fun c_10 => ?_) (fun c_10 => ?_)
      · rw [if_pos c_10] at hr
        refine lv_iconst (v := 0) M.1 M.2.1 dL_crashes_67 (by decide) ?_
        exact w_L_crashes_68 M K a4  a4 (10 * a4) ((9 * (σ 150 1)) + (3 * a4)) 0 ((10 * a4) + 0) _ _ _ _  hB (lv_sub hl [2, 3, 4, 5, 6, 1, 0] rfl) hr
      · rw [if_neg c_10] at hr
        refine lv_iconst (v := 1) M.1 M.2.1 dL_crashes_63 (by decide) ?_
        refine lv_goto (tgt := 68) M.1 M.2.1 dL_crashes_64 (by decide) ?_
        exact w_L_crashes_68 M K a4  a4 (10 * a4) ((9 * (σ 150 1)) + (3 * a4)) 1 ((10 * a4) + 0) _ _ _ _  hB (lv_sub hl [2, 3, 4, 5, 6, 1, 0] rfl) hr
theorem c_L_crashes (l : Launch) (Γ : GG) (a4 : Int32)  (σ : Sg) (res : Int32 × Sg) (hr : f_L_crashes_0 a4 σ = some res) : Met l yL_crashes (Cond.code yL_crashes cL_crashes 9 (some .boolean) :: gtb) rm_L_crashes (va_Pc [.ref (Γ.1 0), .ref (Γ.1 150), .ref (Γ.1 151), .ref (Γ.1 152), .int a4] (GI Γ σ)) (QI Γ res) 0 0 (AD Γ) :=
  x_metI (by decide) [.ref (Γ.1 0), .ref (Γ.1 150), .ref (Γ.1 151), .ref (Γ.1 152), .int a4] (Nat.le_of_ble_eq_true rfl) (fun p e s m args below meth c M K ls hl hB => w_L_crashes_0 M K a4 σ _ _ ls hB hl hr)
abbrev rm_L_anew : Room := { frames := 0, cells := 0, slots := 0, locals := 0 }
def f_L_anew_44  (rec_20 : Int32 → Sg → Option (Int32 × Sg)) (x2 : Int32) (s0 : Int32) (s1 : Int32) (σ : Sg) : Option (Int32 × Sg) :=
if s1 < 0 ∨ 30 ≤ s1.toNatClampNeg then none else
wb (st σ 151 (s1.toNatClampNeg) s0) fun σ_9 =>
rec_20 (x2 + 1) σ_9
set_option maxHeartbeats 4000000 in
set_option maxRecDepth 100000 in
theorem w_L_anew_44 {p : Program} {l : Launch} {e : Env} {s : State} {m : MethodId} {args : Array Value} {below : List Frame} {meth : Method} {c : Code} {Γ : GG} {res : Int32 × Sg} (M : MX RL cL_anew 3 none p s m args meth c) (K : KK Γ s s.heap)  (rec_20 : Int32 → Sg → Option (Int32 × Sg)) (ih_20 : ∀ (x2 : Int32) (σ : Sg) (H : Heap) (locs : List Loc) (ls : Array Slot) , Bd Γ σ s H locs → lv_has ls 3 [(1, .ref (Γ.1 151)), (2, .int x2)] → rec_20 x2 σ = some res → WV Γ rm_L_anew p l e s m args below meth c H locs res (F0 m 20 ls [])) (x2 : Int32) (s0 : Int32) (s1 : Int32) (σ : Sg) (H : Heap) (locs : List Loc) (ls : Array Slot)  (hB : Bd Γ σ s H locs) (hl : lv_has ls 3 [(1, .ref (Γ.1 151)), (2, .int x2)]) (hr : f_L_anew_44  rec_20 x2 s0 s1 σ = some res) : WV Γ rm_L_anew p l e s m args below meth c H locs res (F0 m 44 ls [.int s0, .int s1, .ref (Γ.1 151)]) := by
  unfold f_L_anew_44 at hr
  obtain ⟨g_8, hr⟩ := gd hr
  obtain ⟨σ_9, e_10, hr⟩ := wbd hr
  refine x_iast M K hB isA_151 g_8 dL_anew_44 (fun H locs hB => ?_)
  rw [← e_10] at hB
  refine lv_iinc (v := x2 + 1) (lv' := [(2, .int (x2 + 1)), (1, .ref (Γ.1 151))]) M.1 M.2.1 dL_anew_45 hl (k := 1) rfl rfl (by decide) rfl (fun ls hl => ?_)
  refine lv_goto (tgt := 20) M.1 M.2.1 dL_anew_48 (by decide) ?_
  exact ih_20 (x2 + 1) _ _ _ _  hB (lv_sub hl [1, 0] rfl) hr
def f_L_anew_20   : Nat → Int32 → Sg → Option (Int32 × Sg)
  | 0, _, _ => none
  | f + 1, x2, σ => if 30 ≤ x2 then
some (0, σ)
else
if 8 ≤ x2 - x2 / 10 * 10 then
if x2 < 0 ∨ 30 ≤ x2.toNatClampNeg then none else
f_L_anew_44  (f_L_anew_20   f) x2 (σ 151 (x2.toNatClampNeg)) x2 σ
else
f_L_anew_44  (f_L_anew_20   f) x2 0 x2 σ
set_option maxHeartbeats 4000000 in
set_option maxRecDepth 100000 in
theorem w_L_anew_20 {p : Program} {l : Launch} {e : Env} {s : State} {m : MethodId} {args : Array Value} {below : List Frame} {meth : Method} {c : Code} {Γ : GG} {res : Int32 × Sg} (M : MX RL cL_anew 3 none p s m args meth c) (K : KK Γ s s.heap)  : ∀ (f : Nat) (x2 : Int32) (σ : Sg) (H : Heap) (locs : List Loc) (ls : Array Slot)  (hB : Bd Γ σ s H locs) (hl : lv_has ls 3 [(1, .ref (Γ.1 151)), (2, .int x2)]) (hr : f_L_anew_20   f x2 σ = some res), WV Γ rm_L_anew p l e s m args below meth c H locs res (F0 m 20 ls []) := by
  intro f
  induction f with
  | zero => intros; rename_i hr; exact absurd hr (by rw [f_L_anew_20]; exact fun h => by cases h)
  | succ f ih_20 =>
    intro x2 σ H locs ls  hB hl hr
    rw [f_L_anew_20] at hr
    refine lv_iload_n M.1 M.2.1 dL_anew_20 rfl (lv_at hl 1 rfl) ?_
    refine lv_bipush (v := 30) M.1 M.2.1 dL_anew_21 (by decide) ?_
    refine lv_icmp_ge (tgt := 51) M.1 M.2.1 dL_anew_23 (by decide) (fun c_5 => ?_) (fun c_5 => ?_)
    · rw [if_pos c_5] at hr
      exact x_vret M hB (Option.some.inj hr) dL_anew_51
    · rw [if_neg c_5] at hr
      refine lv_aload_n M.1 M.2.1 dL_anew_26 rfl (lv_at hl 0 rfl) ?_
      refine lv_iload_n M.1 M.2.1 dL_anew_27 rfl (lv_at hl 1 rfl) ?_
      refine lv_iload_n M.1 M.2.1 dL_anew_28 rfl (lv_at hl 1 rfl) ?_
      refine lv_bipush (v := 10) M.1 M.2.1 dL_anew_29 (by decide) ?_
      refine lv_irem M.1 M.2.1 dL_anew_31 (by decide) ?_
      refine lv_bipush (v := 8) M.1 M.2.1 dL_anew_32 (by decide) ?_
      refine lv_icmp_ge (tgt := 41) M.1 M.2.1 dL_anew_34 (by decide) (fun c_6 => ?_) (fun c_6 => ?_)
      · rw [if_pos c_6] at hr
        refine lv_aload_n M.1 M.2.1 dL_anew_41 rfl (lv_at hl 0 rfl) ?_
        refine lv_iload_n M.1 M.2.1 dL_anew_42 rfl (lv_at hl 1 rfl) ?_
        obtain ⟨g_7, hr⟩ := gd hr
        refine x_iald M K hB isA_151 g_7 dL_anew_43 ?_
        exact w_L_anew_44 M K  _ ih_20 x2 (σ 151 (x2.toNatClampNeg)) x2 _ _ _ _  hB (lv_sub hl [0, 1] rfl) hr
      · rw [if_neg c_6] at hr
        refine lv_iconst (v := 0) M.1 M.2.1 dL_anew_37 (by decide) ?_
        refine lv_goto (tgt := 44) M.1 M.2.1 dL_anew_38 (by decide) ?_
        exact w_L_anew_44 M K  _ ih_20 x2 0 x2 _ _ _ _  hB (lv_sub hl [0, 1] rfl) hr
def f_L_anew_2   : Nat → Int32 → Sg → Option (Int32 × Sg)
  | 0, _, _ => none
  | f + 1, x2, σ => if 7 < x2 then
f_L_anew_20   FU 0 σ
else
if x2 < 0 ∨ 14 ≤ x2.toNatClampNeg then none else
wb (st σ 150 (x2.toNatClampNeg) 0) fun σ_3 =>
f_L_anew_2   f (x2 + 1) σ_3
set_option maxHeartbeats 4000000 in
set_option maxRecDepth 100000 in
theorem w_L_anew_2 {p : Program} {l : Launch} {e : Env} {s : State} {m : MethodId} {args : Array Value} {below : List Frame} {meth : Method} {c : Code} {Γ : GG} {res : Int32 × Sg} (M : MX RL cL_anew 3 none p s m args meth c) (K : KK Γ s s.heap)  : ∀ (f : Nat) (x2 : Int32) (σ : Sg) (H : Heap) (locs : List Loc) (ls : Array Slot)  (hB : Bd Γ σ s H locs) (hl : lv_has ls 3 [(0, .ref (Γ.1 150)), (1, .ref (Γ.1 151)), (2, .int x2)]) (hr : f_L_anew_2   f x2 σ = some res), WV Γ rm_L_anew p l e s m args below meth c H locs res (F0 m 2 ls []) := by
  intro f
  induction f with
  | zero => intros; rename_i hr; exact absurd hr (by rw [f_L_anew_2]; exact fun h => by cases h)
  | succ f ih_2 =>
    intro x2 σ H locs ls  hB hl hr
    rw [f_L_anew_2] at hr
    refine lv_iload_n M.1 M.2.1 dL_anew_2 rfl (lv_at hl 2 rfl) ?_
    refine lv_bipush (v := 7) M.1 M.2.1 dL_anew_3 (by decide) ?_
    refine lv_icmp_gt (tgt := 18) M.1 M.2.1 dL_anew_5 (by decide) (fun c_1 => ?_) (fun c_1 => ?_)
    · rw [if_pos c_1] at hr
      refine lv_iconst (v := 0) M.1 M.2.1 dL_anew_18 (by decide) ?_
      refine lv_istore_n (lv' := [(2, .int 0), (0, .ref (Γ.1 150)), (1, .ref (Γ.1 151))]) M.1 M.2.1 dL_anew_19 rfl hl (by decide) rfl (fun ls hl => ?_)
      exact w_L_anew_20 M K   FU 0 _ _ _ _  hB (lv_sub hl [2, 0] rfl) hr
    · rw [if_neg c_1] at hr
      refine lv_aload_n M.1 M.2.1 dL_anew_8 rfl (lv_at hl 0 rfl) ?_
      refine lv_iload_n M.1 M.2.1 dL_anew_9 rfl (lv_at hl 2 rfl) ?_
      refine lv_iconst (v := 0) M.1 M.2.1 dL_anew_10 (by decide) ?_
      obtain ⟨g_2, hr⟩ := gd hr
      obtain ⟨σ_3, e_4, hr⟩ := wbd hr
      refine x_iast M K hB isA_150 g_2 dL_anew_11 (fun H locs hB => ?_)
      rw [← e_4] at hB
      refine lv_iinc (v := x2 + 1) (lv' := [(2, .int (x2 + 1)), (0, .ref (Γ.1 150)), (1, .ref (Γ.1 151))]) M.1 M.2.1 dL_anew_12 hl (k := 2) rfl rfl (by decide) rfl (fun ls hl => ?_)
      refine lv_goto (tgt := 2) M.1 M.2.1 dL_anew_15 (by decide) ?_
      exact ih_2 (x2 + 1) _ _ _ _  hB (lv_sub hl [1, 2, 0] rfl) hr
def f_L_anew_0    (σ : Sg) : Option (Int32 × Sg) :=
f_L_anew_2   FU 4 σ
set_option maxHeartbeats 4000000 in
set_option maxRecDepth 100000 in
theorem w_L_anew_0 {p : Program} {l : Launch} {e : Env} {s : State} {m : MethodId} {args : Array Value} {below : List Frame} {meth : Method} {c : Code} {Γ : GG} {res : Int32 × Sg} (M : MX RL cL_anew 3 none p s m args meth c) (K : KK Γ s s.heap)   (σ : Sg) (H : Heap) (locs : List Loc) (ls : Array Slot)  (hB : Bd Γ σ s H locs) (hl : lv_has ls 3 [(0, .ref (Γ.1 150)), (1, .ref (Γ.1 151))]) (hr : f_L_anew_0    σ = some res) : WV Γ rm_L_anew p l e s m args below meth c H locs res (F0 m 0 ls []) := by
  unfold f_L_anew_0 at hr
  refine lv_iconst (v := 4) M.1 M.2.1 dL_anew_0 (by decide) ?_
  refine lv_istore_n (lv' := [(2, .int 4), (0, .ref (Γ.1 150)), (1, .ref (Γ.1 151))]) M.1 M.2.1 dL_anew_1 rfl hl (by decide) rfl (fun ls hl => ?_)
  exact w_L_anew_2 M K   FU 4 _ _ _ _  hB (lv_sub hl [1, 2, 0] rfl) hr
theorem c_L_anew (l : Launch) (Γ : GG)   (σ : Sg) (res : Int32 × Sg) (hr : f_L_anew_0  σ = some res) : Met l yL_anew (Cond.code yL_anew cL_anew 3 none :: gtb) rm_L_anew (va_Pc [.ref (Γ.1 150), .ref (Γ.1 151)] (GI Γ σ)) (QV Γ res) 0 0 (AD Γ) :=
  x_metV (by decide) [.ref (Γ.1 150), .ref (Γ.1 151)] (Nat.le_of_ble_eq_true rfl) (fun p e s m args below meth c M K ls hl hB => w_L_anew_0 M K  σ _ _ ls hB hl hr)
abbrev rm_L_reset : Room := { frames := 2, cells := 0, slots := 0, locals := 43 }
def f_L_reset_214 (a3 : Int32) (a4 : Int32) (a5 : Int32)  (s0 : Int32) (s1 : Int32) (σ : Sg) : Option (Int32 × Sg) :=
if s1 < 0 ∨ 14 ≤ s1.toNatClampNeg then none else
wb (st σ 150 (s1.toNatClampNeg) s0) fun σ_48 =>
cb (f_L_anew_0  σ_48) fun v_50 σ_51 =>
some (0, σ_51)
set_option maxHeartbeats 4000000 in
set_option maxRecDepth 100000 in
theorem w_L_reset_214 {p : Program} {l : Launch} {e : Env} {s : State} {m : MethodId} {args : Array Value} {below : List Frame} {meth : Method} {c : Code} {Γ : GG} {res : Int32 × Sg} (M : MX RL cL_reset 9 none p s m args meth c) (K : KK Γ s s.heap) (a3 : Int32) (a4 : Int32) (a5 : Int32) (s0 : Int32) (s1 : Int32) (σ : Sg) (H : Heap) (locs : List Loc) (ls : Array Slot)  (hB : Bd Γ σ s H locs) (hl : lv_has ls 9 [(1, .ref (Γ.1 150)), (2, .ref (Γ.1 151))]) (hr : f_L_reset_214 a3 a4 a5  s0 s1 σ = some res) : WV Γ rm_L_reset p l e s m args below meth c H locs res (F0 m 214 ls [.int s0, .int s1, .ref (Γ.1 150)]) := by
  unfold f_L_reset_214 at hr
  obtain ⟨g_47, hr⟩ := gd hr
  obtain ⟨σ_48, e_49, hr⟩ := wbd hr
  refine x_iast M K hB isA_150 g_47 dL_reset_214 (fun H locs hB => ?_)
  rw [← e_49] at hB
  refine lv_aload_n M.1 M.2.1 dL_reset_215 rfl (lv_at hl 0 rfl) ?_
  refine lv_aload_n M.1 M.2.1 dL_reset_216 rfl (lv_at hl 1 rfl) ?_
  obtain ⟨v_50, σ_51, h_52, hr⟩ := cbd hr
  refine x_callV (x_runS M K hB hl.1 [.ref (Γ.1 150), .ref (Γ.1 151)] (rest := []) rfl (c_L_anew l Γ   σ_48 (v_50, σ_51) h_52) cy_L_anew wd_107 ⟨rfl, rfl, Nat.le_of_ble_eq_true rfl, Nat.le_of_ble_eq_true rfl⟩ (Nat.le_of_ble_eq_true rfl) ⟨Nat.zero_le _, Nat.zero_le _⟩ dL_reset_217) hB (fun H locs hB => ?_)
  replace hB : Bd Γ σ_51 s H locs := hB
  exact x_vret M hB (Option.some.inj hr) dL_reset_220
def f_L_reset_196 (a3 : Int32) (a4 : Int32) (a5 : Int32)  (x8 : Int32) (s0 : Int32) (s1 : Int32) (σ : Sg) : Option (Int32 × Sg) :=
if s1 < 0 ∨ 14 ≤ s1.toNatClampNeg then none else
wb (st σ 150 (s1.toNatClampNeg) s0) fun σ_41 =>
if x8 = 0 then
cb (f_X4_state_0 18 σ_41) fun v_44 σ_45 =>
f_L_reset_214 a3 a4 a5  v_44 3 σ_45
else
f_L_reset_214 a3 a4 a5  0 3 σ_41
set_option maxHeartbeats 4000000 in
set_option maxRecDepth 100000 in
theorem w_L_reset_196 {p : Program} {l : Launch} {e : Env} {s : State} {m : MethodId} {args : Array Value} {below : List Frame} {meth : Method} {c : Code} {Γ : GG} {res : Int32 × Sg} (M : MX RL cL_reset 9 none p s m args meth c) (K : KK Γ s s.heap) (a3 : Int32) (a4 : Int32) (a5 : Int32) (x8 : Int32) (s0 : Int32) (s1 : Int32) (σ : Sg) (H : Heap) (locs : List Loc) (ls : Array Slot)  (hB : Bd Γ σ s H locs) (hl : lv_has ls 9 [(0, .ref (Γ.1 0)), (1, .ref (Γ.1 150)), (2, .ref (Γ.1 151)), (8, .int x8)]) (hr : f_L_reset_196 a3 a4 a5  x8 s0 s1 σ = some res) : WV Γ rm_L_reset p l e s m args below meth c H locs res (F0 m 196 ls [.int s0, .int s1, .ref (Γ.1 150)]) := by
  unfold f_L_reset_196 at hr
  obtain ⟨g_40, hr⟩ := gd hr
  obtain ⟨σ_41, e_42, hr⟩ := wbd hr
  refine x_iast M K hB isA_150 g_40 dL_reset_196 (fun H locs hB => ?_)
  rw [← e_42] at hB
  refine lv_aload_n M.1 M.2.1 dL_reset_197 rfl (lv_at hl 1 rfl) ?_
  refine lv_iconst (v := 3) M.1 M.2.1 dL_reset_198 (by decide) ?_
  refine lv_iload M.1 M.2.1 dL_reset_199 (lv_at hl 3 rfl) ?_
  refine lv_if_eq (tgt := 208) M.1 M.2.1 dL_reset_201 (by decide) (fun c_43 => ?_) (fun c_43 => ?_)
  · rw [if_pos c_43] at hr
    refine lv_aload_n M.1 M.2.1 dL_reset_208 rfl (lv_at hl 0 rfl) ?_
    refine lv_bipush (v := 18) M.1 M.2.1 dL_reset_209 (by decide) ?_
    obtain ⟨v_44, σ_45, h_46, hr⟩ := cbd hr
    refine x_callI (x_runV M K hB hl.1 [.int 18] (rest := [.int 3, .ref (Γ.1 150)]) rfl (c_X4_state l Γ 18  σ_41 (v_44, σ_45) h_46) cy_X4_state (x_recv K hB isK_0.2 (ent_4 isK_0.1) rfl) wd_106 ⟨rfl, rfl, Nat.le_of_ble_eq_true rfl, Nat.le_of_ble_eq_true rfl⟩ (Nat.le_of_ble_eq_true rfl) ⟨Nat.zero_le _, Nat.zero_le _⟩ dL_reset_211) hB (fun H locs hB => ?_)
    replace hB : Bd Γ σ_45 s H locs := hB
    exact w_L_reset_214 M K a3 a4 a5  v_44 3 _ _ _ _  hB (lv_sub hl [1, 2] rfl) hr
  · rw [if_neg c_43] at hr
    refine lv_iconst (v := 0) M.1 M.2.1 dL_reset_204 (by decide) ?_
    refine lv_goto (tgt := 214) M.1 M.2.1 dL_reset_205 (by decide) ?_
    exact w_L_reset_214 M K a3 a4 a5  0 3 _ _ _ _  hB (lv_sub hl [1, 2] rfl) hr
def f_L_reset_183 (a3 : Int32) (a4 : Int32) (a5 : Int32)  (x8 : Int32) (s0 : Int32) (s1 : Int32) (σ : Sg) : Option (Int32 × Sg) :=
if s1 < 0 ∨ 14 ≤ s1.toNatClampNeg then none else
wb (st σ 150 (s1.toNatClampNeg) s0) fun σ_37 =>
if x8 = 0 then
f_L_reset_196 a3 a4 a5  x8 0 0 σ_37
else
f_L_reset_196 a3 a4 a5  x8 2 0 σ_37
set_option maxHeartbeats 4000000 in
set_option maxRecDepth 100000 in
theorem w_L_reset_183 {p : Program} {l : Launch} {e : Env} {s : State} {m : MethodId} {args : Array Value} {below : List Frame} {meth : Method} {c : Code} {Γ : GG} {res : Int32 × Sg} (M : MX RL cL_reset 9 none p s m args meth c) (K : KK Γ s s.heap) (a3 : Int32) (a4 : Int32) (a5 : Int32) (x8 : Int32) (s0 : Int32) (s1 : Int32) (σ : Sg) (H : Heap) (locs : List Loc) (ls : Array Slot)  (hB : Bd Γ σ s H locs) (hl : lv_has ls 9 [(0, .ref (Γ.1 0)), (1, .ref (Γ.1 150)), (2, .ref (Γ.1 151)), (8, .int x8)]) (hr : f_L_reset_183 a3 a4 a5  x8 s0 s1 σ = some res) : WV Γ rm_L_reset p l e s m args below meth c H locs res (F0 m 183 ls [.int s0, .int s1, .ref (Γ.1 150)]) := by
  unfold f_L_reset_183 at hr
  obtain ⟨g_36, hr⟩ := gd hr
  obtain ⟨σ_37, e_38, hr⟩ := wbd hr
  refine x_iast M K hB isA_150 g_36 dL_reset_183 (fun H locs hB => ?_)
  rw [← e_38] at hB
  refine lv_aload_n M.1 M.2.1 dL_reset_184 rfl (lv_at hl 1 rfl) ?_
  refine lv_iconst (v := 0) M.1 M.2.1 dL_reset_185 (by decide) ?_
  refine lv_iload M.1 M.2.1 dL_reset_186 (lv_at hl 3 rfl) ?_
  refine lv_if_eq (tgt := 195) M.1 M.2.1 dL_reset_188 (by decide) (fun c_39 => ?_) (fun c_39 => ?_)
  · rw [if_pos c_39] at hr
    refine lv_iconst (v := 0) M.1 M.2.1 dL_reset_195 (by decide) ?_
    exact w_L_reset_196 M K a3 a4 a5  x8 0 0 _ _ _ _  hB (lv_sub hl [0, 1, 2, 3] rfl) hr
  · rw [if_neg c_39] at hr
    refine lv_iconst (v := 2) M.1 M.2.1 dL_reset_191 (by decide) ?_
    refine lv_goto (tgt := 196) M.1 M.2.1 dL_reset_192 (by decide) ?_
    exact w_L_reset_196 M K a3 a4 a5  x8 2 0 _ _ _ _  hB (lv_sub hl [0, 1, 2, 3] rfl) hr
def f_L_reset_168 (a3 : Int32) (a4 : Int32) (a5 : Int32)  (x7 : Int32) (x8 : Int32) (s0 : Int32) (s1 : Int32) (σ : Sg) : Option (Int32 × Sg) :=
if s1 < 0 ∨ 14 ≤ s1.toNatClampNeg then none else
wb (st σ 150 (s1.toNatClampNeg) s0) fun σ_33 =>
if x7 = 0 then
f_L_reset_183 a3 a4 a5  x8 (σ_33 150 1) 1 σ_33
else
f_L_reset_183 a3 a4 a5  x8 1 1 σ_33
set_option maxHeartbeats 4000000 in
set_option maxRecDepth 100000 in
theorem w_L_reset_168 {p : Program} {l : Launch} {e : Env} {s : State} {m : MethodId} {args : Array Value} {below : List Frame} {meth : Method} {c : Code} {Γ : GG} {res : Int32 × Sg} (M : MX RL cL_reset 9 none p s m args meth c) (K : KK Γ s s.heap) (a3 : Int32) (a4 : Int32) (a5 : Int32) (x7 : Int32) (x8 : Int32) (s0 : Int32) (s1 : Int32) (σ : Sg) (H : Heap) (locs : List Loc) (ls : Array Slot)  (hB : Bd Γ σ s H locs) (hl : lv_has ls 9 [(0, .ref (Γ.1 0)), (1, .ref (Γ.1 150)), (2, .ref (Γ.1 151)), (7, .int x7), (8, .int x8)]) (hr : f_L_reset_168 a3 a4 a5  x7 x8 s0 s1 σ = some res) : WV Γ rm_L_reset p l e s m args below meth c H locs res (F0 m 168 ls [.int s0, .int s1, .ref (Γ.1 150)]) := by
  unfold f_L_reset_168 at hr
  obtain ⟨g_32, hr⟩ := gd hr
  obtain ⟨σ_33, e_34, hr⟩ := wbd hr
  refine x_iast M K hB isA_150 g_32 dL_reset_168 (fun H locs hB => ?_)
  rw [← e_34] at hB
  refine lv_aload_n M.1 M.2.1 dL_reset_169 rfl (lv_at hl 1 rfl) ?_
  refine lv_iconst (v := 1) M.1 M.2.1 dL_reset_170 (by decide) ?_
  refine lv_iload M.1 M.2.1 dL_reset_171 (lv_at hl 3 rfl) ?_
  refine lv_if_eq (tgt := 180) M.1 M.2.1 dL_reset_173 (by decide) (fun c_35 => ?_) (fun c_35 => ?_)
  · rw [if_pos c_35] at hr
    refine lv_aload_n M.1 M.2.1 dL_reset_180 rfl (lv_at hl 1 rfl) ?_
    refine lv_iconst (v := 1) M.1 M.2.1 dL_reset_181 (by decide) ?_
    refine x_ialdL M K hB isA_150 (k := 1) (by decide) (by decide) dL_reset_182 ?_
    exact w_L_reset_183 M K a3 a4 a5  x8 (σ_33 150 1) 1 _ _ _ _  hB (lv_sub hl [0, 1, 2, 4] rfl) hr
  · rw [if_neg c_35] at hr
    refine lv_iconst (v := 1) M.1 M.2.1 dL_reset_176 (by decide) ?_
    refine lv_goto (tgt := 183) M.1 M.2.1 dL_reset_177 (by decide) ?_
    exact w_L_reset_183 M K a3 a4 a5  x8 1 1 _ _ _ _  hB (lv_sub hl [0, 1, 2, 4] rfl) hr
def f_L_reset_165 (a3 : Int32) (a4 : Int32) (a5 : Int32)  (x7 : Int32) (x8 : Int32) (s0 : Int32) (σ : Sg) : Option (Int32 × Sg) :=
f_L_reset_168 a3 a4 a5  x7 x8 (σ 150 2) s0 σ
set_option maxHeartbeats 4000000 in
set_option maxRecDepth 100000 in
theorem w_L_reset_165 {p : Program} {l : Launch} {e : Env} {s : State} {m : MethodId} {args : Array Value} {below : List Frame} {meth : Method} {c : Code} {Γ : GG} {res : Int32 × Sg} (M : MX RL cL_reset 9 none p s m args meth c) (K : KK Γ s s.heap) (a3 : Int32) (a4 : Int32) (a5 : Int32) (x7 : Int32) (x8 : Int32) (s0 : Int32) (σ : Sg) (H : Heap) (locs : List Loc) (ls : Array Slot)  (hB : Bd Γ σ s H locs) (hl : lv_has ls 9 [(0, .ref (Γ.1 0)), (1, .ref (Γ.1 150)), (2, .ref (Γ.1 151)), (7, .int x7), (8, .int x8)]) (hr : f_L_reset_165 a3 a4 a5  x7 x8 s0 σ = some res) : WV Γ rm_L_reset p l e s m args below meth c H locs res (F0 m 165 ls [.int s0, .ref (Γ.1 150)]) := by
  unfold f_L_reset_165 at hr
  refine lv_aload_n M.1 M.2.1 dL_reset_165 rfl (lv_at hl 1 rfl) ?_
  refine lv_iconst (v := 2) M.1 M.2.1 dL_reset_166 (by decide) ?_
  refine x_ialdL M K hB isA_150 (k := 2) (by decide) (by decide) dL_reset_167 ?_
  exact w_L_reset_168 M K a3 a4 a5  x7 x8 (σ 150 2) s0 _ _ _ _  hB (lv_sub hl [0, 1, 2, 3, 4] rfl) hr
def f_L_reset_147 (a3 : Int32) (a4 : Int32) (a5 : Int32)  (x7 : Int32) (s0 : Int32) (σ : Sg) : Option (Int32 × Sg) :=
if x7 = 0 then
f_L_reset_165 a3 a4 a5  x7 s0 2 σ
else
if s0 = 0 then
f_L_reset_168 a3 a4 a5  x7 s0 0 2 σ
else
f_L_reset_165 a3 a4 a5  x7 s0 2 σ
set_option maxHeartbeats 4000000 in
set_option maxRecDepth 100000 in
theorem w_L_reset_147 {p : Program} {l : Launch} {e : Env} {s : State} {m : MethodId} {args : Array Value} {below : List Frame} {meth : Method} {c : Code} {Γ : GG} {res : Int32 × Sg} (M : MX RL cL_reset 9 none p s m args meth c) (K : KK Γ s s.heap) (a3 : Int32) (a4 : Int32) (a5 : Int32) (x7 : Int32) (s0 : Int32) (σ : Sg) (H : Heap) (locs : List Loc) (ls : Array Slot)  (hB : Bd Γ σ s H locs) (hl : lv_has ls 9 [(0, .ref (Γ.1 0)), (1, .ref (Γ.1 150)), (2, .ref (Γ.1 151)), (7, .int x7)]) (hr : f_L_reset_147 a3 a4 a5  x7 s0 σ = some res) : WV Γ rm_L_reset p l e s m args below meth c H locs res (F0 m 147 ls [.int s0]) := by
  unfold f_L_reset_147 at hr
  refine lv_istore (lv' := [(8, .int s0), (0, .ref (Γ.1 0)), (1, .ref (Γ.1 150)), (2, .ref (Γ.1 151)), (7, .int x7)]) M.1 M.2.1 dL_reset_147 hl (by decide) rfl (fun ls hl => ?_)
  refine lv_aload_n M.1 M.2.1 dL_reset_149 rfl (lv_at hl 2 rfl) ?_
  refine lv_iconst (v := 2) M.1 M.2.1 dL_reset_150 (by decide) ?_
  refine lv_iload M.1 M.2.1 dL_reset_151 (lv_at hl 4 rfl) ?_
  refine lv_if_eq (tgt := 165) M.1 M.2.1 dL_reset_153 (by decide) (fun c_30 => ?_) (fun c_30 => ?_)
  · rw [if_pos c_30] at hr
    exact w_L_reset_165 M K a3 a4 a5  x7 s0 2 _ _ _ _  hB (lv_sub hl [1, 2, 3, 4, 0] rfl) hr
  · rw [if_neg c_30] at hr
    refine lv_iload M.1 M.2.1 dL_reset_156 (lv_at hl 0 rfl) ?_
    refine lv_if_ne (tgt := 165) M.1 M.2.1 dL_reset_158 (by decide) (fun c_31 => ?_) (fun c_31 => ?_)
    · rw [if_neg c_31] at hr
      exact w_L_reset_165 M K a3 a4 a5  x7 s0 2 _ _ _ _  hB (lv_sub hl [1, 2, 3, 4, 0] rfl) hr
    · rw [if_pos c_31] at hr
      refine lv_iconst (v := 0) M.1 M.2.1 dL_reset_161 (by decide) ?_
      refine lv_goto (tgt := 168) M.1 M.2.1 dL_reset_162 (by decide) ?_
      exact w_L_reset_168 M K a3 a4 a5  x7 s0 0 2 _ _ _ _  hB (lv_sub hl [1, 2, 3, 4, 0] rfl) hr
def f_L_reset_146 (a3 : Int32) (a4 : Int32) (a5 : Int32)  (x7 : Int32) (σ : Sg) : Option (Int32 × Sg) :=
f_L_reset_147 a3 a4 a5  x7 0 σ
set_option maxHeartbeats 4000000 in
set_option maxRecDepth 100000 in
theorem w_L_reset_146 {p : Program} {l : Launch} {e : Env} {s : State} {m : MethodId} {args : Array Value} {below : List Frame} {meth : Method} {c : Code} {Γ : GG} {res : Int32 × Sg} (M : MX RL cL_reset 9 none p s m args meth c) (K : KK Γ s s.heap) (a3 : Int32) (a4 : Int32) (a5 : Int32) (x7 : Int32) (σ : Sg) (H : Heap) (locs : List Loc) (ls : Array Slot)  (hB : Bd Γ σ s H locs) (hl : lv_has ls 9 [(0, .ref (Γ.1 0)), (1, .ref (Γ.1 150)), (2, .ref (Γ.1 151)), (7, .int x7)]) (hr : f_L_reset_146 a3 a4 a5  x7 σ = some res) : WV Γ rm_L_reset p l e s m args below meth c H locs res (F0 m 146 ls []) := by
  unfold f_L_reset_146 at hr
  refine lv_iconst (v := 0) M.1 M.2.1 dL_reset_146 (by decide) ?_
  exact w_L_reset_147 M K a3 a4 a5  x7 0 _ _ _ _  hB (lv_sub hl [0, 1, 2, 3] rfl) hr
def f_L_reset_128 (a3 : Int32) (a4 : Int32) (a5 : Int32)  (s0 : Int32) (σ : Sg) : Option (Int32 × Sg) :=
if s0 = 0 then
f_L_reset_146 a3 a4 a5  s0 σ
else
if σ 150 1 = 1 then
f_L_reset_147 a3 a4 a5  s0 1 σ
else
f_L_reset_146 a3 a4 a5  s0 σ
set_option maxHeartbeats 4000000 in
set_option maxRecDepth 100000 in
theorem w_L_reset_128 {p : Program} {l : Launch} {e : Env} {s : State} {m : MethodId} {args : Array Value} {below : List Frame} {meth : Method} {c : Code} {Γ : GG} {res : Int32 × Sg} (M : MX RL cL_reset 9 none p s m args meth c) (K : KK Γ s s.heap) (a3 : Int32) (a4 : Int32) (a5 : Int32) (s0 : Int32) (σ : Sg) (H : Heap) (locs : List Loc) (ls : Array Slot)  (hB : Bd Γ σ s H locs) (hl : lv_has ls 9 [(0, .ref (Γ.1 0)), (1, .ref (Γ.1 150)), (2, .ref (Γ.1 151))]) (hr : f_L_reset_128 a3 a4 a5  s0 σ = some res) : WV Γ rm_L_reset p l e s m args below meth c H locs res (F0 m 128 ls [.int s0]) := by
  unfold f_L_reset_128 at hr
  refine lv_istore (lv' := [(7, .int s0), (0, .ref (Γ.1 0)), (1, .ref (Γ.1 150)), (2, .ref (Γ.1 151))]) M.1 M.2.1 dL_reset_128 hl (by decide) rfl (fun ls hl => ?_)
  refine lv_iload M.1 M.2.1 dL_reset_130 (lv_at hl 0 rfl) ?_
  refine lv_if_eq (tgt := 146) M.1 M.2.1 dL_reset_132 (by decide) (fun c_28 => ?_) (fun c_28 => ?_)
  · rw [if_pos c_28] at hr
    exact w_L_reset_146 M K a3 a4 a5  s0 _ _ _ _  hB (lv_sub hl [1, 2, 3, 0] rfl) hr
  · rw [if_neg c_28] at hr
    refine lv_aload_n M.1 M.2.1 dL_reset_135 rfl (lv_at hl 2 rfl) ?_
    refine lv_iconst (v := 1) M.1 M.2.1 dL_reset_136 (by decide) ?_
    refine x_ialdL M K hB isA_150 (k := 1) (by decide) (by decide) dL_reset_137 ?_
    refine lv_iconst (v := 1) M.1 M.2.1 dL_reset_138 (by decide) ?_
    refine lv_icmp_ne (tgt := 146) M.1 M.2.1 dL_reset_139 (by decide) (fun c_29 => ?_) (fun c_29 => ?_)
    · rw [if_neg c_29] at hr
      exact w_L_reset_146 M K a3 a4 a5  s0 _ _ _ _  hB (lv_sub hl [1, 2, 3, 0] rfl) hr
    · rw [if_pos c_29] at hr
      refine lv_iconst (v := 1) M.1 M.2.1 dL_reset_142 (by decide) ?_
      refine lv_goto (tgt := 147) M.1 M.2.1 dL_reset_143 (by decide) ?_
      exact w_L_reset_147 M K a3 a4 a5  s0 1 _ _ _ _  hB (lv_sub hl [1, 2, 3, 0] rfl) hr
def f_L_reset_104 (a3 : Int32) (a4 : Int32) (a5 : Int32)   (σ : Sg) : Option (Int32 × Sg) :=
wb (st σ 150 2 ((σ 150 2) + 1)) fun σ_22 =>
cb (f_X4_state_0 20 σ_22) fun v_24 σ_25 =>
if σ_22 150 2 < v_24 then
f_L_reset_128 a3 a4 a5  0 σ_25
else
f_L_reset_128 a3 a4 a5  1 σ_25
set_option maxHeartbeats 4000000 in
set_option maxRecDepth 100000 in
theorem w_L_reset_104 {p : Program} {l : Launch} {e : Env} {s : State} {m : MethodId} {args : Array Value} {below : List Frame} {meth : Method} {c : Code} {Γ : GG} {res : Int32 × Sg} (M : MX RL cL_reset 9 none p s m args meth c) (K : KK Γ s s.heap) (a3 : Int32) (a4 : Int32) (a5 : Int32)  (σ : Sg) (H : Heap) (locs : List Loc) (ls : Array Slot)  (hB : Bd Γ σ s H locs) (hl : lv_has ls 9 [(0, .ref (Γ.1 0)), (1, .ref (Γ.1 150)), (2, .ref (Γ.1 151))]) (hr : f_L_reset_104 a3 a4 a5   σ = some res) : WV Γ rm_L_reset p l e s m args below meth c H locs res (F0 m 104 ls []) := by
  unfold f_L_reset_104 at hr
  refine lv_aload_n M.1 M.2.1 dL_reset_104 rfl (lv_at hl 1 rfl) ?_
  refine lv_iconst (v := 2) M.1 M.2.1 dL_reset_105 (by decide) ?_
  refine lv_dup2_11 M.1 M.2.1 dL_reset_106 rfl rfl ?_
  refine x_ialdL M K hB isA_150 (k := 2) (by decide) (by decide) dL_reset_107 ?_
  refine lv_iconst (v := 1) M.1 M.2.1 dL_reset_108 (by decide) ?_
  refine lv_iadd M.1 M.2.1 dL_reset_109 ?_
  obtain ⟨σ_22, e_23, hr⟩ := wbd hr
  refine x_iastL M K hB isA_150 (k := 2) (by decide) (by decide) dL_reset_110 (fun H locs hB => ?_)
  rw [← e_23] at hB
  refine lv_aload_n M.1 M.2.1 dL_reset_111 rfl (lv_at hl 1 rfl) ?_
  refine lv_iconst (v := 2) M.1 M.2.1 dL_reset_112 (by decide) ?_
  refine x_ialdL M K hB isA_150 (k := 2) (by decide) (by decide) dL_reset_113 ?_
  refine lv_aload_n M.1 M.2.1 dL_reset_114 rfl (lv_at hl 0 rfl) ?_
  refine lv_bipush (v := 20) M.1 M.2.1 dL_reset_115 (by decide) ?_
  obtain ⟨v_24, σ_25, h_26, hr⟩ := cbd hr
  refine x_callI (x_runV M K hB hl.1 [.int 20] (rest := [.int (σ_22 150 2)]) rfl (c_X4_state l Γ 20  σ_22 (v_24, σ_25) h_26) cy_X4_state (x_recv K hB isK_0.2 (ent_4 isK_0.1) rfl) wd_106 ⟨rfl, rfl, Nat.le_of_ble_eq_true rfl, Nat.le_of_ble_eq_true rfl⟩ (Nat.le_of_ble_eq_true rfl) ⟨Nat.zero_le _, Nat.zero_le _⟩ dL_reset_117) hB (fun H locs hB => ?_)
  replace hB : Bd Γ σ_25 s H locs := hB
  refine lv_icmp_lt (tgt := 127) M.1 M.2.1 dL_reset_120 (by decide) (fun c_27 => ?_) (fun c_27 => ?_)
  · rw [if_pos c_27] at hr
    refine lv_iconst (v := 0) M.1 M.2.1 dL_reset_127 (by decide) ?_
    exact w_L_reset_128 M K a3 a4 a5  0 _ _ _ _  hB (lv_sub hl [0, 1, 2] rfl) hr
  · rw [if_neg c_27] at hr
    refine lv_iconst (v := 1) M.1 M.2.1 dL_reset_123 (by decide) ?_
    refine lv_goto (tgt := 128) M.1 M.2.1 dL_reset_124 (by decide) ?_
    exact w_L_reset_128 M K a3 a4 a5  1 _ _ _ _  hB (lv_sub hl [0, 1, 2] rfl) hr
def f_L_reset_46 (a3 : Int32) (a4 : Int32) (a5 : Int32)  (x3 : Int32) (x5 : Int32) (x6 : Int32) (σ : Sg) : Option (Int32 × Sg) :=
wb (st σ 150 9 x3) fun σ_5 =>
wb (st σ_5 150 10 x5) fun σ_7 =>
wb (st σ_7 150 11 x6) fun σ_9 =>
wb (st σ_9 150 12 (σ_9 150 1)) fun σ_11 =>
wb (st σ_11 150 13 (σ_11 150 4)) fun σ_13 =>
wb (st σ_13 150 8 ((σ_13 150 8) + 1)) fun σ_15 =>
if x6 < 0 then
f_L_reset_104 a3 a4 a5   σ_15
else
if (10 * x6) + 9 < 0 ∨ 30 ≤ ((10 * x6) + 9).toNatClampNeg then none else
if (10 * x6) + 9 < 0 ∨ 30 ≤ ((10 * x6) + 9).toNatClampNeg then none else
wb (st σ_15 151 (((10 * x6) + 9).toNatClampNeg) ((σ_15 151 (((10 * x6) + 9).toNatClampNeg)) + 1)) fun σ_20 =>
f_L_reset_104 a3 a4 a5   σ_20
set_option maxHeartbeats 4000000 in
set_option maxRecDepth 100000 in
theorem w_L_reset_46 {p : Program} {l : Launch} {e : Env} {s : State} {m : MethodId} {args : Array Value} {below : List Frame} {meth : Method} {c : Code} {Γ : GG} {res : Int32 × Sg} (M : MX RL cL_reset 9 none p s m args meth c) (K : KK Γ s s.heap) (a3 : Int32) (a4 : Int32) (a5 : Int32) (x3 : Int32) (x5 : Int32) (x6 : Int32) (σ : Sg) (H : Heap) (locs : List Loc) (ls : Array Slot)  (hB : Bd Γ σ s H locs) (hl : lv_has ls 9 [(0, .ref (Γ.1 0)), (1, .ref (Γ.1 150)), (2, .ref (Γ.1 151)), (3, .int x3), (5, .int x5), (6, .int x6)]) (hr : f_L_reset_46 a3 a4 a5  x3 x5 x6 σ = some res) : WV Γ rm_L_reset p l e s m args below meth c H locs res (F0 m 46 ls []) := by
  unfold f_L_reset_46 at hr
  refine lv_aload_n M.1 M.2.1 dL_reset_46 rfl (lv_at hl 1 rfl) ?_
  refine lv_bipush (v := 9) M.1 M.2.1 dL_reset_47 (by decide) ?_
  refine lv_iload_n M.1 M.2.1 dL_reset_49 rfl (lv_at hl 3 rfl) ?_
  obtain ⟨σ_5, e_6, hr⟩ := wbd hr
  refine x_iastL M K hB isA_150 (k := 9) (by decide) (by decide) dL_reset_50 (fun H locs hB => ?_)
  rw [← e_6] at hB
  refine lv_aload_n M.1 M.2.1 dL_reset_51 rfl (lv_at hl 1 rfl) ?_
  refine lv_bipush (v := 10) M.1 M.2.1 dL_reset_52 (by decide) ?_
  refine lv_iload M.1 M.2.1 dL_reset_54 (lv_at hl 4 rfl) ?_
  obtain ⟨σ_7, e_8, hr⟩ := wbd hr
  refine x_iastL M K hB isA_150 (k := 10) (by decide) (by decide) dL_reset_56 (fun H locs hB => ?_)
  rw [← e_8] at hB
  refine lv_aload_n M.1 M.2.1 dL_reset_57 rfl (lv_at hl 1 rfl) ?_
  refine lv_bipush (v := 11) M.1 M.2.1 dL_reset_58 (by decide) ?_
  refine lv_iload M.1 M.2.1 dL_reset_60 (lv_at hl 5 rfl) ?_
  obtain ⟨σ_9, e_10, hr⟩ := wbd hr
  refine x_iastL M K hB isA_150 (k := 11) (by decide) (by decide) dL_reset_62 (fun H locs hB => ?_)
  rw [← e_10] at hB
  refine lv_aload_n M.1 M.2.1 dL_reset_63 rfl (lv_at hl 1 rfl) ?_
  refine lv_bipush (v := 12) M.1 M.2.1 dL_reset_64 (by decide) ?_
  refine lv_aload_n M.1 M.2.1 dL_reset_66 rfl (lv_at hl 1 rfl) ?_
  refine lv_iconst (v := 1) M.1 M.2.1 dL_reset_67 (by decide) ?_
  refine x_ialdL M K hB isA_150 (k := 1) (by decide) (by decide) dL_reset_68 ?_
  obtain ⟨σ_11, e_12, hr⟩ := wbd hr
  refine x_iastL M K hB isA_150 (k := 12) (by decide) (by decide) dL_reset_69 (fun H locs hB => ?_)
  rw [← e_12] at hB
  refine lv_aload_n M.1 M.2.1 dL_reset_70 rfl (lv_at hl 1 rfl) ?_
  refine lv_bipush (v := 13) M.1 M.2.1 dL_reset_71 (by decide) ?_
  refine lv_aload_n M.1 M.2.1 dL_reset_73 rfl (lv_at hl 1 rfl) ?_
  refine lv_iconst (v := 4) M.1 M.2.1 dL_reset_74 (by decide) ?_
  refine x_ialdL M K hB isA_150 (k := 4) (by decide) (by decide) dL_reset_75 ?_
  obtain ⟨σ_13, e_14, hr⟩ := wbd hr
  refine x_iastL M K hB isA_150 (k := 13) (by decide) (by decide) dL_reset_76 (fun H locs hB => ?_)
  rw [← e_14] at hB
  refine lv_aload_n M.1 M.2.1 dL_reset_77 rfl (lv_at hl 1 rfl) ?_
  refine lv_bipush (v := 8) M.1 M.2.1 dL_reset_78 (by decide) ?_
  refine lv_dup2_11 M.1 M.2.1 dL_reset_80 rfl rfl ?_
  refine x_ialdL M K hB isA_150 (k := 8) (by decide) (by decide) dL_reset_81 ?_
  refine lv_iconst (v := 1) M.1 M.2.1 dL_reset_82 (by decide) ?_
  refine lv_iadd M.1 M.2.1 dL_reset_83 ?_
  obtain ⟨σ_15, e_16, hr⟩ := wbd hr
  refine x_iastL M K hB isA_150 (k := 8) (by decide) (by decide) dL_reset_84 (fun H locs hB => ?_)
  rw [← e_16] at hB
  refine lv_iload M.1 M.2.1 dL_reset_85 (lv_at hl 5 rfl) ?_
  refine lv_if_lt (tgt := 104) M.1 M.2.1 dL_reset_87 (by decide) (fun c_17 => ?_) (fun c_17 => ?_)
  · rw [if_pos c_17] at hr
    exact w_L_reset_104 M K a3 a4 a5   _ _ _ _  hB (lv_sub hl [0, 1, 2] rfl) hr
  · rw [if_neg c_17] at hr
    refine lv_aload_n M.1 M.2.1 dL_reset_90 rfl (lv_at hl 2 rfl) ?_
    refine lv_bipush (v := 10) M.1 M.2.1 dL_reset_91 (by decide) ?_
    refine lv_iload M.1 M.2.1 dL_reset_93 (lv_at hl 5 rfl) ?_
    refine lv_imul M.1 M.2.1 dL_reset_95 ?_
    refine lv_bipush (v := 9) M.1 M.2.1 dL_reset_96 (by decide) ?_
    refine lv_iadd M.1 M.2.1 dL_reset_98 ?_
    refine lv_dup2_11 M.1 M.2.1 dL_reset_99 rfl rfl ?_
    obtain ⟨g_18, hr⟩ := gd hr
    refine x_iald M K hB isA_151 g_18 dL_reset_100 ?_
    refine lv_iconst (v := 1) M.1 M.2.1 dL_reset_101 (by decide) ?_
    refine lv_iadd M.1 M.2.1 dL_reset_102 ?_
    obtain ⟨g_19, hr⟩ := gd hr
    obtain ⟨σ_20, e_21, hr⟩ := wbd hr
    refine x_iast M K hB isA_151 g_19 dL_reset_103 (fun H locs hB => ?_)
    rw [← e_21] at hB
    exact w_L_reset_104 M K a3 a4 a5   _ _ _ _  hB (lv_sub hl [0, 1, 2] rfl) hr
def f_L_reset_38 (a3 : Int32) (a4 : Int32) (a5 : Int32) (rec_7 : Int32 → Int32 → Int32 → Int32 → Sg → Option (Int32 × Sg)) (x3 : Int32) (x5 : Int32) (x7 : Int32) (s0 : Int32) (σ : Sg) : Option (Int32 × Sg) :=
rec_7 x3 x5 s0 (x7 + (-1)) σ
set_option maxHeartbeats 4000000 in
set_option maxRecDepth 100000 in
theorem w_L_reset_38 {p : Program} {l : Launch} {e : Env} {s : State} {m : MethodId} {args : Array Value} {below : List Frame} {meth : Method} {c : Code} {Γ : GG} {res : Int32 × Sg} (M : MX RL cL_reset 9 none p s m args meth c) (K : KK Γ s s.heap) (a3 : Int32) (a4 : Int32) (a5 : Int32) (rec_7 : Int32 → Int32 → Int32 → Int32 → Sg → Option (Int32 × Sg)) (ih_7 : ∀ (x3 : Int32) (x5 : Int32) (x6 : Int32) (x7 : Int32) (σ : Sg) (H : Heap) (locs : List Loc) (ls : Array Slot) , Bd Γ σ s H locs → lv_has ls 9 [(0, .ref (Γ.1 0)), (1, .ref (Γ.1 150)), (2, .ref (Γ.1 151)), (3, .int x3), (5, .int x5), (6, .int x6), (7, .int x7)] → rec_7 x3 x5 x6 x7 σ = some res → WV Γ rm_L_reset p l e s m args below meth c H locs res (F0 m 7 ls [])) (x3 : Int32) (x5 : Int32) (x7 : Int32) (s0 : Int32) (σ : Sg) (H : Heap) (locs : List Loc) (ls : Array Slot)  (hB : Bd Γ σ s H locs) (hl : lv_has ls 9 [(0, .ref (Γ.1 0)), (1, .ref (Γ.1 150)), (2, .ref (Γ.1 151)), (3, .int x3), (5, .int x5), (7, .int x7)]) (hr : f_L_reset_38 a3 a4 a5 rec_7 x3 x5 x7 s0 σ = some res) : WV Γ rm_L_reset p l e s m args below meth c H locs res (F0 m 38 ls [.int s0]) := by
  unfold f_L_reset_38 at hr
  refine lv_istore (lv' := [(6, .int s0), (0, .ref (Γ.1 0)), (1, .ref (Γ.1 150)), (2, .ref (Γ.1 151)), (3, .int x3), (5, .int x5), (7, .int x7)]) M.1 M.2.1 dL_reset_38 hl (by decide) rfl (fun ls hl => ?_)
  refine lv_iinc (v := x7 + (-1)) (lv' := [(7, .int (x7 + (-1))), (6, .int s0), (0, .ref (Γ.1 0)), (1, .ref (Γ.1 150)), (2, .ref (Γ.1 151)), (3, .int x3), (5, .int x5)]) M.1 M.2.1 dL_reset_40 hl (k := 6) rfl rfl (by decide) rfl (fun ls hl => ?_)
  refine lv_goto (tgt := 7) M.1 M.2.1 dL_reset_43 (by decide) ?_
  exact ih_7 x3 x5 s0 (x7 + (-1)) _ _ _ _  hB (lv_sub hl [2, 3, 4, 5, 6, 1, 0] rfl) hr
def f_L_reset_7 (a3 : Int32) (a4 : Int32) (a5 : Int32)  : Nat → Int32 → Int32 → Int32 → Int32 → Sg → Option (Int32 × Sg)
  | 0, _, _, _, _, _ => none
  | f + 1, x3, x5, x6, x7, σ => if x7 < 0 then
f_L_reset_46 a3 a4 a5  x3 x5 x6 σ
else
if x3 = 3 then
f_L_reset_46 a3 a4 a5  x3 x5 x6 σ
else
if (10 * x7) + 7 < 0 ∨ 30 ≤ ((10 * x7) + 7).toNatClampNeg then none else
if σ 151 (((10 * x7) + 7).toNatClampNeg) = 1 then
f_L_reset_38 a3 a4 a5 (f_L_reset_7 a3 a4 a5  f) x3 x5 x7 x7 σ
else
f_L_reset_38 a3 a4 a5 (f_L_reset_7 a3 a4 a5  f) x3 x5 x7 x6 σ
set_option maxHeartbeats 4000000 in
set_option maxRecDepth 100000 in
theorem w_L_reset_7 {p : Program} {l : Launch} {e : Env} {s : State} {m : MethodId} {args : Array Value} {below : List Frame} {meth : Method} {c : Code} {Γ : GG} {res : Int32 × Sg} (M : MX RL cL_reset 9 none p s m args meth c) (K : KK Γ s s.heap) (a3 : Int32) (a4 : Int32) (a5 : Int32) : ∀ (f : Nat) (x3 : Int32) (x5 : Int32) (x6 : Int32) (x7 : Int32) (σ : Sg) (H : Heap) (locs : List Loc) (ls : Array Slot)  (hB : Bd Γ σ s H locs) (hl : lv_has ls 9 [(0, .ref (Γ.1 0)), (1, .ref (Γ.1 150)), (2, .ref (Γ.1 151)), (3, .int x3), (5, .int x5), (6, .int x6), (7, .int x7)]) (hr : f_L_reset_7 a3 a4 a5  f x3 x5 x6 x7 σ = some res), WV Γ rm_L_reset p l e s m args below meth c H locs res (F0 m 7 ls []) := by
  intro f
  induction f with
  | zero => intros; rename_i hr; exact absurd hr (by rw [f_L_reset_7]; exact fun h => by cases h)
  | succ f ih_7 =>
    intro x3 x5 x6 x7 σ H locs ls  hB hl hr
    rw [f_L_reset_7] at hr
    refine lv_iload M.1 M.2.1 dL_reset_7 (lv_at hl 6 rfl) ?_
    refine lv_if_lt (tgt := 46) M.1 M.2.1 dL_reset_9 (by decide) (fun c_1 => ?_) (fun c_1 => ?_)
    · rw [if_pos c_1] at hr
      exact w_L_reset_46 M K a3 a4 a5  x3 x5 x6 _ _ _ _  hB (lv_sub hl [0, 1, 2, 3, 4, 5] rfl) hr
    · rw [if_neg c_1] at hr
      refine lv_iload_n M.1 M.2.1 dL_reset_12 rfl (lv_at hl 3 rfl) ?_
      refine lv_iconst (v := 3) M.1 M.2.1 dL_reset_13 (by decide) ?_
      refine lv_icmp_eq (tgt := 46) M.1 M.2.1 dL_reset_14 (by decide) (fun c_2 => ?_) (fun c_2 => ?_)
      · rw [if_pos c_2] at hr
        exact w_L_reset_46 M K a3 a4 a5  x3 x5 x6 _ _ _ _  hB (lv_sub hl [0, 1, 2, 3, 4, 5] rfl) hr
      · rw [if_neg c_2] at hr
        refine lv_aload_n M.1 M.2.1 dL_reset_17 rfl (lv_at hl 2 rfl) ?_
        refine lv_bipush (v := 10) M.1 M.2.1 dL_reset_18 (by decide) ?_
        refine lv_iload M.1 M.2.1 dL_reset_20 (lv_at hl 6 rfl) ?_
        refine lv_imul M.1 M.2.1 dL_reset_22 ?_
        refine lv_bipush (v := 7) M.1 M.2.1 dL_reset_23 (by decide) ?_
        refine lv_iadd M.1 M.2.1 dL_reset_25 ?_
        obtain ⟨g_3, hr⟩ := gd hr
        refine x_iald M K hB isA_151 g_3 dL_reset_26 ?_
        refine lv_iconst (v := 1) M.1 M.2.1 dL_reset_27 (by decide) ?_
        refine lv_icmp_ne (tgt := 36) M.1 M.2.1 dL_reset_28 (by decide) (fun c_4 => ?_) (fun c_4 => ?_)
        · rw [if_neg c_4] at hr
          refine lv_iload M.1 M.2.1 dL_reset_36 (lv_at hl 5 rfl) ?_
          exact w_L_reset_38 M K a3 a4 a5 _ ih_7 x3 x5 x7 x6 _ _ _ _  hB (lv_sub hl [0, 1, 2, 3, 4, 6] rfl) hr
        · rw [if_pos c_4] at hr
          refine lv_iload M.1 M.2.1 dL_reset_31 (lv_at hl 6 rfl) ?_
          refine lv_goto (tgt := 38) M.1 M.2.1 dL_reset_33 (by decide) ?_
          exact w_L_reset_38 M K a3 a4 a5 _ ih_7 x3 x5 x7 x7 _ _ _ _  hB (lv_sub hl [0, 1, 2, 3, 4, 6] rfl) hr
def f_L_reset_0 (a3 : Int32) (a4 : Int32) (a5 : Int32)   (σ : Sg) : Option (Int32 × Sg) :=
f_L_reset_7 a3 a4 a5  FU a3 a5 a4 2 σ
set_option maxHeartbeats 4000000 in
set_option maxRecDepth 100000 in
theorem w_L_reset_0 {p : Program} {l : Launch} {e : Env} {s : State} {m : MethodId} {args : Array Value} {below : List Frame} {meth : Method} {c : Code} {Γ : GG} {res : Int32 × Sg} (M : MX RL cL_reset 9 none p s m args meth c) (K : KK Γ s s.heap) (a3 : Int32) (a4 : Int32) (a5 : Int32)  (σ : Sg) (H : Heap) (locs : List Loc) (ls : Array Slot)  (hB : Bd Γ σ s H locs) (hl : lv_has ls 9 [(0, .ref (Γ.1 0)), (1, .ref (Γ.1 150)), (2, .ref (Γ.1 151)), (3, .int a3), (4, .int a4), (5, .int a5)]) (hr : f_L_reset_0 a3 a4 a5   σ = some res) : WV Γ rm_L_reset p l e s m args below meth c H locs res (F0 m 0 ls []) := by
  unfold f_L_reset_0 at hr
  refine lv_iload M.1 M.2.1 dL_reset_0 (lv_at hl 4 rfl) ?_
  refine lv_istore (lv' := [(6, .int a4), (0, .ref (Γ.1 0)), (1, .ref (Γ.1 150)), (2, .ref (Γ.1 151)), (3, .int a3), (4, .int a4), (5, .int a5)]) M.1 M.2.1 dL_reset_2 hl (by decide) rfl (fun ls hl => ?_)
  refine lv_iconst (v := 2) M.1 M.2.1 dL_reset_4 (by decide) ?_
  refine lv_istore (lv' := [(7, .int 2), (6, .int a4), (0, .ref (Γ.1 0)), (1, .ref (Γ.1 150)), (2, .ref (Γ.1 151)), (3, .int a3), (4, .int a4), (5, .int a5)]) M.1 M.2.1 dL_reset_5 hl (by decide) rfl (fun ls hl => ?_)
  exact w_L_reset_7 M K a3 a4 a5  FU a3 a5 a4 2 _ _ _ _  hB (lv_sub hl [2, 3, 4, 5, 7, 1, 0] rfl) hr
theorem c_L_reset (l : Launch) (Γ : GG) (a3 : Int32) (a4 : Int32) (a5 : Int32)  (σ : Sg) (res : Int32 × Sg) (hr : f_L_reset_0 a3 a4 a5 σ = some res) : Met l yL_reset (Cond.code yL_reset cL_reset 9 none :: gtb) rm_L_reset (va_Pc [.ref (Γ.1 0), .ref (Γ.1 150), .ref (Γ.1 151), .int a3, .int a4, .int a5] (GI Γ σ)) (QV Γ res) 0 0 (AD Γ) :=
  x_metV (by decide) [.ref (Γ.1 0), .ref (Γ.1 150), .ref (Γ.1 151), .int a3, .int a4, .int a5] (Nat.le_of_ble_eq_true rfl) (fun p e s m args below meth c M K ls hl hB => w_L_reset_0 M K a3 a4 a5 σ _ _ ls hB hl hr)
