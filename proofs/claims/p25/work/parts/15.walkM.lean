abbrev rm_L_kicks : Room := { frames := 3, cells := 0, slots := 0, locals := 66 }
def f_L_kicks_278 (a3 : Int32)  (s0 : Int32) (σ : Sg) : Option (Int32 × Sg) :=
if s0 = 0 ∨ s0 = 1 then some (s0, σ) else none
set_option maxHeartbeats 4000000 in
set_option maxRecDepth 100000 in
theorem w_L_kicks_278 {p : Program} {l : Launch} {e : Env} {s : State} {m : MethodId} {args : Array Value} {below : List Frame} {meth : Method} {c : Code} {Γ : GG} {res : Int32 × Sg} (M : MX RL cL_kicks 8 (some .boolean) p s m args meth c) (K : KK Γ s s.heap) (a3 : Int32) (s0 : Int32) (σ : Sg) (H : Heap) (locs : List Loc) (ls : Array Slot)  (hB : Bd Γ σ s H locs) (hl : lv_has ls 8 []) (hr : f_L_kicks_278 a3  s0 σ = some res) : WI Γ rm_L_kicks p l e s m args below meth c H locs res (F0 m 278 ls [.int s0]) := by
  unfold f_L_kicks_278 at hr
  obtain ⟨g_64, hr⟩ := gd2 hr
  exact x_zret M hB (nar_z g_64) (Option.some.inj hr) dL_kicks_278
def f_L_kicks_277 (a3 : Int32)   (σ : Sg) : Option (Int32 × Sg) :=
f_L_kicks_278 a3  0 σ
set_option maxHeartbeats 4000000 in
set_option maxRecDepth 100000 in
theorem w_L_kicks_277 {p : Program} {l : Launch} {e : Env} {s : State} {m : MethodId} {args : Array Value} {below : List Frame} {meth : Method} {c : Code} {Γ : GG} {res : Int32 × Sg} (M : MX RL cL_kicks 8 (some .boolean) p s m args meth c) (K : KK Γ s s.heap) (a3 : Int32)  (σ : Sg) (H : Heap) (locs : List Loc) (ls : Array Slot)  (hB : Bd Γ σ s H locs) (hl : lv_has ls 8 []) (hr : f_L_kicks_277 a3   σ = some res) : WI Γ rm_L_kicks p l e s m args below meth c H locs res (F0 m 277 ls []) := by
  unfold f_L_kicks_277 at hr
  refine lv_iconst (v := 0) M.1 M.2.1 dL_kicks_277 (by decide) ?_
  exact w_L_kicks_278 M K a3  0 _ _ _ _  hB (lv_sub hl [] rfl) hr
def f_L_kicks_246 (a3 : Int32)  (s0 : Int32) (s1 : Int32) (s2 : Int32) (σ : Sg) : Option (Int32 × Sg) :=
if s2 < 0 ∨ 14 ≤ s2.toNatClampNeg then none else
wb (st σ 150 (s2.toNatClampNeg) (s1 + s0)) fun σ_54 =>
cb (f_X4_state_0 17 σ_54) fun v_56 σ_57 =>
if v_56 < σ_54 150 7 then
f_L_kicks_277 a3   σ_57
else
cb (f_X4_state_0 16 σ_57) fun v_60 σ_61 =>
if σ_57 150 5 < v_60 then
f_L_kicks_277 a3   σ_61
else
f_L_kicks_278 a3  1 σ_61
set_option maxHeartbeats 4000000 in
set_option maxRecDepth 100000 in
theorem w_L_kicks_246 {p : Program} {l : Launch} {e : Env} {s : State} {m : MethodId} {args : Array Value} {below : List Frame} {meth : Method} {c : Code} {Γ : GG} {res : Int32 × Sg} (M : MX RL cL_kicks 8 (some .boolean) p s m args meth c) (K : KK Γ s s.heap) (a3 : Int32) (s0 : Int32) (s1 : Int32) (s2 : Int32) (σ : Sg) (H : Heap) (locs : List Loc) (ls : Array Slot)  (hB : Bd Γ σ s H locs) (hl : lv_has ls 8 [(0, .ref (Γ.1 0)), (1, .ref (Γ.1 150))]) (hr : f_L_kicks_246 a3  s0 s1 s2 σ = some res) : WI Γ rm_L_kicks p l e s m args below meth c H locs res (F0 m 246 ls [.int s0, .int s1, .int s2, .ref (Γ.1 150)]) := by
  unfold f_L_kicks_246 at hr
  refine lv_iadd M.1 M.2.1 dL_kicks_246 ?_
  obtain ⟨g_53, hr⟩ := gd hr
  obtain ⟨σ_54, e_55, hr⟩ := wbd hr
  refine x_iast M K hB isA_150 g_53 dL_kicks_247 (fun H locs hB => ?_)
  rw [← e_55] at hB
  refine lv_aload_n M.1 M.2.1 dL_kicks_248 rfl (lv_at hl 1 rfl) ?_
  refine lv_bipush (v := 7) M.1 M.2.1 dL_kicks_249 (by decide) ?_
  refine x_ialdL M K hB isA_150 (k := 7) (by decide) (by decide) dL_kicks_251 ?_
  refine lv_aload_n M.1 M.2.1 dL_kicks_252 rfl (lv_at hl 0 rfl) ?_
  refine lv_bipush (v := 17) M.1 M.2.1 dL_kicks_253 (by decide) ?_
  obtain ⟨v_56, σ_57, h_58, hr⟩ := cbd hr
  refine x_callI (x_runV M K hB hl.1 [.int 17] (rest := [.int (σ_54 150 7)]) rfl (c_X4_state l Γ 17  σ_54 (v_56, σ_57) h_58) cy_X4_state (x_recv K hB isK_0.2 (ent_4 isK_0.1) rfl) wd_106 ⟨rfl, rfl, Nat.le_of_ble_eq_true rfl, Nat.le_of_ble_eq_true rfl⟩ (Nat.le_of_ble_eq_true rfl) ⟨Nat.zero_le _, Nat.zero_le _⟩ dL_kicks_255) hB (fun H locs hB => ?_)
  replace hB : Bd Γ σ_57 s H locs := hB
  refine lv_icmp_gt (tgt := 277) M.1 M.2.1 dL_kicks_258 (by decide) (fun c_59 => ?_) (fun c_59 => ?_)
  · rw [if_pos c_59] at hr
    exact w_L_kicks_277 M K a3   _ _ _ _  hB (lv_sub hl [] rfl) hr
  · rw [if_neg c_59] at hr
    refine lv_aload_n M.1 M.2.1 dL_kicks_261 rfl (lv_at hl 1 rfl) ?_
    refine lv_iconst (v := 5) M.1 M.2.1 dL_kicks_262 (by decide) ?_
    refine x_ialdL M K hB isA_150 (k := 5) (by decide) (by decide) dL_kicks_263 ?_
    refine lv_aload_n M.1 M.2.1 dL_kicks_264 rfl (lv_at hl 0 rfl) ?_
    refine lv_bipush (v := 16) M.1 M.2.1 dL_kicks_265 (by decide) ?_
    obtain ⟨v_60, σ_61, h_62, hr⟩ := cbd hr
    refine x_callI (x_runV M K hB hl.1 [.int 16] (rest := [.int (σ_57 150 5)]) rfl (c_X4_state l Γ 16  σ_57 (v_60, σ_61) h_62) cy_X4_state (x_recv K hB isK_0.2 (ent_4 isK_0.1) rfl) wd_106 ⟨rfl, rfl, Nat.le_of_ble_eq_true rfl, Nat.le_of_ble_eq_true rfl⟩ (Nat.le_of_ble_eq_true rfl) ⟨Nat.zero_le _, Nat.zero_le _⟩ dL_kicks_267) hB (fun H locs hB => ?_)
    replace hB : Bd Γ σ_61 s H locs := hB
    refine lv_icmp_lt (tgt := 277) M.1 M.2.1 dL_kicks_270 (by decide) (fun c_63 => ?_) (fun c_63 => ?_)
    · rw [if_pos c_63] at hr
      exact w_L_kicks_277 M K a3   _ _ _ _  hB (lv_sub hl [] rfl) hr
    · rw [if_neg c_63] at hr
      refine lv_iconst (v := 1) M.1 M.2.1 dL_kicks_273 (by decide) ?_
      refine lv_goto (tgt := 278) M.1 M.2.1 dL_kicks_274 (by decide) ?_
      exact w_L_kicks_278 M K a3  1 _ _ _ _  hB (lv_sub hl [] rfl) hr
def f_L_kicks_213 (a3 : Int32) (rec_14 : Int32 → Int32 → Int32 → Sg → Option (Int32 × Sg)) (x3 : Int32) (x4 : Int32) (x5 : Int32) (x6 : Int32) (σ : Sg) : Option (Int32 × Sg) :=
if x6 + 7 < 0 ∨ 30 ≤ (x6 + 7).toNatClampNeg then none else
rec_14 x3 (x4 + (σ 151 ((x6 + 7).toNatClampNeg))) (x5 + 1) σ
set_option maxHeartbeats 4000000 in
set_option maxRecDepth 100000 in
theorem w_L_kicks_213 {p : Program} {l : Launch} {e : Env} {s : State} {m : MethodId} {args : Array Value} {below : List Frame} {meth : Method} {c : Code} {Γ : GG} {res : Int32 × Sg} (M : MX RL cL_kicks 8 (some .boolean) p s m args meth c) (K : KK Γ s s.heap) (a3 : Int32) (rec_14 : Int32 → Int32 → Int32 → Sg → Option (Int32 × Sg)) (ih_14 : ∀ (x3 : Int32) (x4 : Int32) (x5 : Int32) (σ : Sg) (H : Heap) (locs : List Loc) (ls : Array Slot) , Bd Γ σ s H locs → lv_has ls 8 [(0, .ref (Γ.1 0)), (1, .ref (Γ.1 150)), (2, .ref (Γ.1 151)), (3, .int x3), (4, .int x4), (5, .int x5)] → rec_14 x3 x4 x5 σ = some res → WI Γ rm_L_kicks p l e s m args below meth c H locs res (F0 m 14 ls [])) (x3 : Int32) (x4 : Int32) (x5 : Int32) (x6 : Int32) (σ : Sg) (H : Heap) (locs : List Loc) (ls : Array Slot)  (hB : Bd Γ σ s H locs) (hl : lv_has ls 8 [(0, .ref (Γ.1 0)), (1, .ref (Γ.1 150)), (2, .ref (Γ.1 151)), (3, .int x3), (4, .int x4), (5, .int x5), (6, .int x6)]) (hr : f_L_kicks_213 a3 rec_14 x3 x4 x5 x6 σ = some res) : WI Γ rm_L_kicks p l e s m args below meth c H locs res (F0 m 213 ls []) := by
  unfold f_L_kicks_213 at hr
  refine lv_iload M.1 M.2.1 dL_kicks_213 (lv_at hl 4 rfl) ?_
  refine lv_aload_n M.1 M.2.1 dL_kicks_215 rfl (lv_at hl 2 rfl) ?_
  refine lv_iload M.1 M.2.1 dL_kicks_216 (lv_at hl 6 rfl) ?_
  refine lv_bipush (v := 7) M.1 M.2.1 dL_kicks_218 (by decide) ?_
  refine lv_iadd M.1 M.2.1 dL_kicks_220 ?_
  obtain ⟨g_52, hr⟩ := gd hr
  refine x_iald M K hB isA_151 g_52 dL_kicks_221 ?_
  refine lv_iadd M.1 M.2.1 dL_kicks_222 ?_
  refine lv_istore (lv' := [(4, .int (x4 + (σ 151 ((x6 + 7).toNatClampNeg)))), (0, .ref (Γ.1 0)), (1, .ref (Γ.1 150)), (2, .ref (Γ.1 151)), (3, .int x3), (5, .int x5), (6, .int x6)]) M.1 M.2.1 dL_kicks_223 hl (by decide) rfl (fun ls hl => ?_)
  refine lv_iinc (v := x5 + 1) (lv' := [(5, .int (x5 + 1)), (4, .int (x4 + (σ 151 ((x6 + 7).toNatClampNeg)))), (0, .ref (Γ.1 0)), (1, .ref (Γ.1 150)), (2, .ref (Γ.1 151)), (3, .int x3), (6, .int x6)]) M.1 M.2.1 dL_kicks_225 hl (k := 5) rfl rfl (by decide) rfl (fun ls hl => ?_)
  refine lv_goto (tgt := 14) M.1 M.2.1 dL_kicks_228 (by decide) ?_
  exact ih_14 x3 (x4 + (σ 151 ((x6 + 7).toNatClampNeg))) (x5 + 1) _ _ _ _  hB (lv_sub hl [2, 3, 4, 5, 1, 0] rfl) hr
def f_L_kicks_196 (a3 : Int32) (rec_14 : Int32 → Int32 → Int32 → Sg → Option (Int32 × Sg)) (x3 : Int32) (x4 : Int32) (x5 : Int32) (x6 : Int32) (s0 : Int32) (s1 : Int32) (s2 : Int32) (σ : Sg) : Option (Int32 × Sg) :=
if s2 < 0 ∨ 30 ≤ s2.toNatClampNeg then none else
wb (st σ 151 (s2.toNatClampNeg) (s1 + s0)) fun σ_44 =>
if x6 + 4 < 0 ∨ 30 ≤ (x6 + 4).toNatClampNeg then none else
wb (st σ_44 151 ((x6 + 4).toNatClampNeg) 0) fun σ_47 =>
if x6 + 6 < 0 ∨ 30 ≤ (x6 + 6).toNatClampNeg then none else
wb (st σ_47 151 ((x6 + 6).toNatClampNeg) 0) fun σ_50 =>
f_L_kicks_213 a3 rec_14 x3 x4 x5 x6 σ_50
set_option maxHeartbeats 4000000 in
set_option maxRecDepth 100000 in
theorem w_L_kicks_196 {p : Program} {l : Launch} {e : Env} {s : State} {m : MethodId} {args : Array Value} {below : List Frame} {meth : Method} {c : Code} {Γ : GG} {res : Int32 × Sg} (M : MX RL cL_kicks 8 (some .boolean) p s m args meth c) (K : KK Γ s s.heap) (a3 : Int32) (rec_14 : Int32 → Int32 → Int32 → Sg → Option (Int32 × Sg)) (ih_14 : ∀ (x3 : Int32) (x4 : Int32) (x5 : Int32) (σ : Sg) (H : Heap) (locs : List Loc) (ls : Array Slot) , Bd Γ σ s H locs → lv_has ls 8 [(0, .ref (Γ.1 0)), (1, .ref (Γ.1 150)), (2, .ref (Γ.1 151)), (3, .int x3), (4, .int x4), (5, .int x5)] → rec_14 x3 x4 x5 σ = some res → WI Γ rm_L_kicks p l e s m args below meth c H locs res (F0 m 14 ls [])) (x3 : Int32) (x4 : Int32) (x5 : Int32) (x6 : Int32) (s0 : Int32) (s1 : Int32) (s2 : Int32) (σ : Sg) (H : Heap) (locs : List Loc) (ls : Array Slot)  (hB : Bd Γ σ s H locs) (hl : lv_has ls 8 [(0, .ref (Γ.1 0)), (1, .ref (Γ.1 150)), (2, .ref (Γ.1 151)), (3, .int x3), (4, .int x4), (5, .int x5), (6, .int x6)]) (hr : f_L_kicks_196 a3 rec_14 x3 x4 x5 x6 s0 s1 s2 σ = some res) : WI Γ rm_L_kicks p l e s m args below meth c H locs res (F0 m 196 ls [.int s0, .int s1, .int s2, .ref (Γ.1 151)]) := by
  unfold f_L_kicks_196 at hr
  refine lv_iadd M.1 M.2.1 dL_kicks_196 ?_
  obtain ⟨g_43, hr⟩ := gd hr
  obtain ⟨σ_44, e_45, hr⟩ := wbd hr
  refine x_iast M K hB isA_151 g_43 dL_kicks_197 (fun H locs hB => ?_)
  rw [← e_45] at hB
  refine lv_aload_n M.1 M.2.1 dL_kicks_198 rfl (lv_at hl 2 rfl) ?_
  refine lv_iload M.1 M.2.1 dL_kicks_199 (lv_at hl 6 rfl) ?_
  refine lv_iconst (v := 4) M.1 M.2.1 dL_kicks_201 (by decide) ?_
  refine lv_iadd M.1 M.2.1 dL_kicks_202 ?_
  refine lv_iconst (v := 0) M.1 M.2.1 dL_kicks_203 (by decide) ?_
  obtain ⟨g_46, hr⟩ := gd hr
  obtain ⟨σ_47, e_48, hr⟩ := wbd hr
  refine x_iast M K hB isA_151 g_46 dL_kicks_204 (fun H locs hB => ?_)
  rw [← e_48] at hB
  refine lv_aload_n M.1 M.2.1 dL_kicks_205 rfl (lv_at hl 2 rfl) ?_
  refine lv_iload M.1 M.2.1 dL_kicks_206 (lv_at hl 6 rfl) ?_
  refine lv_bipush (v := 6) M.1 M.2.1 dL_kicks_208 (by decide) ?_
  refine lv_iadd M.1 M.2.1 dL_kicks_210 ?_
  refine lv_iconst (v := 0) M.1 M.2.1 dL_kicks_211 (by decide) ?_
  obtain ⟨g_49, hr⟩ := gd hr
  obtain ⟨σ_50, e_51, hr⟩ := wbd hr
  refine x_iast M K hB isA_151 g_49 dL_kicks_212 (fun H locs hB => ?_)
  rw [← e_51] at hB
  exact w_L_kicks_213 M K a3 _ ih_14 x3 x4 x5 x6 _ _ _ _  hB (lv_sub hl [0, 1, 2, 3, 4, 5, 6] rfl) hr
def f_L_kicks_177 (a3 : Int32) (rec_14 : Int32 → Int32 → Int32 → Sg → Option (Int32 × Sg)) (x3 : Int32) (x4 : Int32) (x5 : Int32) (x6 : Int32) (x7 : Int32) (s0 : Int32) (s1 : Int32) (σ : Sg) : Option (Int32 × Sg) :=
if s1 < 0 ∨ 30 ≤ s1.toNatClampNeg then none else
wb (st σ 151 (s1.toNatClampNeg) s0) fun σ_39 =>
if x6 + 8 < 0 ∨ 30 ≤ (x6 + 8).toNatClampNeg then none else
if x7 = 0 then
f_L_kicks_196 a3 rec_14 x3 x4 x5 x6 1 (σ_39 151 ((x6 + 8).toNatClampNeg)) (x6 + 8) σ_39
else
f_L_kicks_196 a3 rec_14 x3 x4 x5 x6 0 (σ_39 151 ((x6 + 8).toNatClampNeg)) (x6 + 8) σ_39
set_option maxHeartbeats 4000000 in
set_option maxRecDepth 100000 in
theorem w_L_kicks_177 {p : Program} {l : Launch} {e : Env} {s : State} {m : MethodId} {args : Array Value} {below : List Frame} {meth : Method} {c : Code} {Γ : GG} {res : Int32 × Sg} (M : MX RL cL_kicks 8 (some .boolean) p s m args meth c) (K : KK Γ s s.heap) (a3 : Int32) (rec_14 : Int32 → Int32 → Int32 → Sg → Option (Int32 × Sg)) (ih_14 : ∀ (x3 : Int32) (x4 : Int32) (x5 : Int32) (σ : Sg) (H : Heap) (locs : List Loc) (ls : Array Slot) , Bd Γ σ s H locs → lv_has ls 8 [(0, .ref (Γ.1 0)), (1, .ref (Γ.1 150)), (2, .ref (Γ.1 151)), (3, .int x3), (4, .int x4), (5, .int x5)] → rec_14 x3 x4 x5 σ = some res → WI Γ rm_L_kicks p l e s m args below meth c H locs res (F0 m 14 ls [])) (x3 : Int32) (x4 : Int32) (x5 : Int32) (x6 : Int32) (x7 : Int32) (s0 : Int32) (s1 : Int32) (σ : Sg) (H : Heap) (locs : List Loc) (ls : Array Slot)  (hB : Bd Γ σ s H locs) (hl : lv_has ls 8 [(0, .ref (Γ.1 0)), (1, .ref (Γ.1 150)), (2, .ref (Γ.1 151)), (3, .int x3), (4, .int x4), (5, .int x5), (6, .int x6), (7, .int x7)]) (hr : f_L_kicks_177 a3 rec_14 x3 x4 x5 x6 x7 s0 s1 σ = some res) : WI Γ rm_L_kicks p l e s m args below meth c H locs res (F0 m 177 ls [.int s0, .int s1, .ref (Γ.1 151)]) := by
  unfold f_L_kicks_177 at hr
  obtain ⟨g_38, hr⟩ := gd hr
  obtain ⟨σ_39, e_40, hr⟩ := wbd hr
  refine x_iast M K hB isA_151 g_38 dL_kicks_177 (fun H locs hB => ?_)
  rw [← e_40] at hB
  refine lv_aload_n M.1 M.2.1 dL_kicks_178 rfl (lv_at hl 2 rfl) ?_
  refine lv_iload M.1 M.2.1 dL_kicks_179 (lv_at hl 6 rfl) ?_
  refine lv_bipush (v := 8) M.1 M.2.1 dL_kicks_181 (by decide) ?_
  refine lv_iadd M.1 M.2.1 dL_kicks_183 ?_
  refine lv_dup2_11 M.1 M.2.1 dL_kicks_184 rfl rfl ?_
  obtain ⟨g_41, hr⟩ := gd hr
  refine x_iald M K hB isA_151 g_41 dL_kicks_185 ?_
  refine lv_iload M.1 M.2.1 dL_kicks_186 (lv_at hl 7 rfl) ?_
  refine lv_if_eq (tgt := 195) M.1 M.2.1 dL_kicks_188 (by decide) (fun c_42 => ?_) (fun c_42 => ?_)
  · rw [if_pos c_42] at hr
    refine lv_iconst (v := 1) M.1 M.2.1 dL_kicks_195 (by decide) ?_
    exact w_L_kicks_196 M K a3 _ ih_14 x3 x4 x5 x6 1 (σ_39 151 ((x6 + 8).toNatClampNeg)) (x6 + 8) _ _ _ _  hB (lv_sub hl [0, 1, 2, 3, 4, 5, 6] rfl) hr
  · rw [if_neg c_42] at hr
    refine lv_iconst (v := 0) M.1 M.2.1 dL_kicks_191 (by decide) ?_
    refine lv_goto (tgt := 196) M.1 M.2.1 dL_kicks_192 (by decide) ?_
    exact w_L_kicks_196 M K a3 _ ih_14 x3 x4 x5 x6 0 (σ_39 151 ((x6 + 8).toNatClampNeg)) (x6 + 8) _ _ _ _  hB (lv_sub hl [0, 1, 2, 3, 4, 5, 6] rfl) hr
def f_L_kicks_176 (a3 : Int32) (rec_14 : Int32 → Int32 → Int32 → Sg → Option (Int32 × Sg)) (x3 : Int32) (x4 : Int32) (x5 : Int32) (x6 : Int32) (x7 : Int32) (s0 : Int32) (σ : Sg) : Option (Int32 × Sg) :=
f_L_kicks_177 a3 rec_14 x3 x4 x5 x6 x7 0 s0 σ
set_option maxHeartbeats 4000000 in
set_option maxRecDepth 100000 in
theorem w_L_kicks_176 {p : Program} {l : Launch} {e : Env} {s : State} {m : MethodId} {args : Array Value} {below : List Frame} {meth : Method} {c : Code} {Γ : GG} {res : Int32 × Sg} (M : MX RL cL_kicks 8 (some .boolean) p s m args meth c) (K : KK Γ s s.heap) (a3 : Int32) (rec_14 : Int32 → Int32 → Int32 → Sg → Option (Int32 × Sg)) (ih_14 : ∀ (x3 : Int32) (x4 : Int32) (x5 : Int32) (σ : Sg) (H : Heap) (locs : List Loc) (ls : Array Slot) , Bd Γ σ s H locs → lv_has ls 8 [(0, .ref (Γ.1 0)), (1, .ref (Γ.1 150)), (2, .ref (Γ.1 151)), (3, .int x3), (4, .int x4), (5, .int x5)] → rec_14 x3 x4 x5 σ = some res → WI Γ rm_L_kicks p l e s m args below meth c H locs res (F0 m 14 ls [])) (x3 : Int32) (x4 : Int32) (x5 : Int32) (x6 : Int32) (x7 : Int32) (s0 : Int32) (σ : Sg) (H : Heap) (locs : List Loc) (ls : Array Slot)  (hB : Bd Γ σ s H locs) (hl : lv_has ls 8 [(0, .ref (Γ.1 0)), (1, .ref (Γ.1 150)), (2, .ref (Γ.1 151)), (3, .int x3), (4, .int x4), (5, .int x5), (6, .int x6), (7, .int x7)]) (hr : f_L_kicks_176 a3 rec_14 x3 x4 x5 x6 x7 s0 σ = some res) : WI Γ rm_L_kicks p l e s m args below meth c H locs res (F0 m 176 ls [.int s0, .ref (Γ.1 151)]) := by
  unfold f_L_kicks_176 at hr
  refine lv_iconst (v := 0) M.1 M.2.1 dL_kicks_176 (by decide) ?_
  exact w_L_kicks_177 M K a3 _ ih_14 x3 x4 x5 x6 x7 0 s0 _ _ _ _  hB (lv_sub hl [0, 1, 2, 3, 4, 5, 6, 7] rfl) hr
def f_L_kicks_143 (a3 : Int32) (rec_14 : Int32 → Int32 → Int32 → Sg → Option (Int32 × Sg)) (x3 : Int32) (x4 : Int32) (x5 : Int32) (x6 : Int32) (x7 : Int32) (s0 : Int32) (s1 : Int32) (σ : Sg) : Option (Int32 × Sg) :=
if s1 < 0 ∨ 30 ≤ s1.toNatClampNeg then none else
wb (st σ 151 (s1.toNatClampNeg) s0) fun σ_30 =>
if x7 = 0 then
if x6 + 5 < 0 ∨ 30 ≤ (x6 + 5).toNatClampNeg then none else
cb (f_X4_task_0 x5 6 σ_30) fun v_34 σ_35 =>
if σ_30 151 ((x6 + 5).toNatClampNeg) ≤ v_34 then
f_L_kicks_176 a3 rec_14 x3 x4 x5 x6 x7 (x6 + 7) σ_35
else
f_L_kicks_177 a3 rec_14 x3 x4 x5 x6 x7 1 (x6 + 7) σ_35
else
f_L_kicks_176 a3 rec_14 x3 x4 x5 x6 x7 (x6 + 7) σ_30
set_option maxHeartbeats 4000000 in
set_option maxRecDepth 100000 in
theorem w_L_kicks_143 {p : Program} {l : Launch} {e : Env} {s : State} {m : MethodId} {args : Array Value} {below : List Frame} {meth : Method} {c : Code} {Γ : GG} {res : Int32 × Sg} (M : MX RL cL_kicks 8 (some .boolean) p s m args meth c) (K : KK Γ s s.heap) (a3 : Int32) (rec_14 : Int32 → Int32 → Int32 → Sg → Option (Int32 × Sg)) (ih_14 : ∀ (x3 : Int32) (x4 : Int32) (x5 : Int32) (σ : Sg) (H : Heap) (locs : List Loc) (ls : Array Slot) , Bd Γ σ s H locs → lv_has ls 8 [(0, .ref (Γ.1 0)), (1, .ref (Γ.1 150)), (2, .ref (Γ.1 151)), (3, .int x3), (4, .int x4), (5, .int x5)] → rec_14 x3 x4 x5 σ = some res → WI Γ rm_L_kicks p l e s m args below meth c H locs res (F0 m 14 ls [])) (x3 : Int32) (x4 : Int32) (x5 : Int32) (x6 : Int32) (x7 : Int32) (s0 : Int32) (s1 : Int32) (σ : Sg) (H : Heap) (locs : List Loc) (ls : Array Slot)  (hB : Bd Γ σ s H locs) (hl : lv_has ls 8 [(0, .ref (Γ.1 0)), (1, .ref (Γ.1 150)), (2, .ref (Γ.1 151)), (3, .int x3), (4, .int x4), (5, .int x5), (6, .int x6), (7, .int x7)]) (hr : f_L_kicks_143 a3 rec_14 x3 x4 x5 x6 x7 s0 s1 σ = some res) : WI Γ rm_L_kicks p l e s m args below meth c H locs res (F0 m 143 ls [.int s0, .int s1, .ref (Γ.1 151)]) := by
  unfold f_L_kicks_143 at hr
  obtain ⟨g_29, hr⟩ := gd hr
  obtain ⟨σ_30, e_31, hr⟩ := wbd hr
  refine x_iast M K hB isA_151 g_29 dL_kicks_143 (fun H locs hB => ?_)
  rw [← e_31] at hB
  refine lv_aload_n M.1 M.2.1 dL_kicks_144 rfl (lv_at hl 2 rfl) ?_
  refine lv_iload M.1 M.2.1 dL_kicks_145 (lv_at hl 6 rfl) ?_
  refine lv_bipush (v := 7) M.1 M.2.1 dL_kicks_147 (by decide) ?_
  refine lv_iadd M.1 M.2.1 dL_kicks_149 ?_
  refine lv_iload M.1 M.2.1 dL_kicks_150 (lv_at hl 7 rfl) ?_
  refine lv_if_ne (tgt := 176) M.1 M.2.1 dL_kicks_152 (by decide) (fun c_32 => ?_) (fun c_32 => ?_)
  · rw [if_neg c_32] at hr
    exact w_L_kicks_176 M K a3 _ ih_14 x3 x4 x5 x6 x7 (x6 + 7) _ _ _ _  hB (lv_sub hl [0, 1, 2, 3, 4, 5, 6, 7] rfl) hr
  · rw [if_pos c_32] at hr
    refine lv_aload_n M.1 M.2.1 dL_kicks_155 rfl (lv_at hl 2 rfl) ?_
    refine lv_iload M.1 M.2.1 dL_kicks_156 (lv_at hl 6 rfl) ?_
    refine lv_iconst (v := 5) M.1 M.2.1 dL_kicks_158 (by decide) ?_
    refine lv_iadd M.1 M.2.1 dL_kicks_159 ?_
    obtain ⟨g_33, hr⟩ := gd hr
    refine x_iald M K hB isA_151 g_33 dL_kicks_160 ?_
    refine lv_aload_n M.1 M.2.1 dL_kicks_161 rfl (lv_at hl 0 rfl) ?_
    refine lv_iload M.1 M.2.1 dL_kicks_162 (lv_at hl 5 rfl) ?_
    refine lv_bipush (v := 6) M.1 M.2.1 dL_kicks_164 (by decide) ?_
    obtain ⟨v_34, σ_35, h_36, hr⟩ := cbd hr
    refine x_callI (x_runV M K hB hl.1 [.int x5, .int 6] (rest := [.int (σ_30 151 ((x6 + 5).toNatClampNeg)), .int (x6 + 7), .ref (Γ.1 151)]) rfl (c_X4_task l Γ x5 6  σ_30 (v_34, σ_35) h_36) cy_X4_task (x_recv K hB isK_0.2 (ent_4 isK_0.1) rfl) wd_105 ⟨rfl, rfl, Nat.le_of_ble_eq_true rfl, Nat.le_of_ble_eq_true rfl⟩ (Nat.le_of_ble_eq_true rfl) ⟨Nat.zero_le _, Nat.zero_le _⟩ dL_kicks_166) hB (fun H locs hB => ?_)
    replace hB : Bd Γ σ_35 s H locs := hB
    refine lv_icmp_le (tgt := 176) M.1 M.2.1 dL_kicks_169 (by decide) (fun c_37 => ?_) (fun c_37 => ?_)
    · rw [if_pos c_37] at hr
      exact w_L_kicks_176 M K a3 _ ih_14 x3 x4 x5 x6 x7 (x6 + 7) _ _ _ _  hB (lv_sub hl [0, 1, 2, 3, 4, 5, 6, 7] rfl) hr
    · rw [if_neg c_37] at hr
      refine lv_iconst (v := 1) M.1 M.2.1 dL_kicks_172 (by decide) ?_
      refine lv_goto (tgt := 177) M.1 M.2.1 dL_kicks_173 (by decide) ?_
      exact w_L_kicks_177 M K a3 _ ih_14 x3 x4 x5 x6 x7 1 (x6 + 7) _ _ _ _  hB (lv_sub hl [0, 1, 2, 3, 4, 5, 6, 7] rfl) hr
def f_L_kicks_99 (a3 : Int32) (rec_14 : Int32 → Int32 → Int32 → Sg → Option (Int32 × Sg)) (x3 : Int32) (x4 : Int32) (x5 : Int32) (x6 : Int32) (s0 : Int32) (σ : Sg) : Option (Int32 × Sg) :=
if s0 = 0 then
if x6 + 5 < 0 ∨ 30 ≤ (x6 + 5).toNatClampNeg then none else
f_L_kicks_143 a3 rec_14 x3 x4 x5 x6 s0 ((σ 151 ((x6 + 5).toNatClampNeg)) + 1) (x6 + 5) σ
else
if x6 + 5 < 0 ∨ 30 ≤ (x6 + 5).toNatClampNeg then none else
if σ 151 ((x6 + 5).toNatClampNeg) ≤ 0 then
f_L_kicks_143 a3 rec_14 x3 x4 x5 x6 s0 0 (x6 + 5) σ
else
if x6 + 5 < 0 ∨ 30 ≤ (x6 + 5).toNatClampNeg then none else
f_L_kicks_143 a3 rec_14 x3 x4 x5 x6 s0 ((σ 151 ((x6 + 5).toNatClampNeg)) - 1) (x6 + 5) σ
set_option maxHeartbeats 4000000 in
set_option maxRecDepth 100000 in
theorem w_L_kicks_99 {p : Program} {l : Launch} {e : Env} {s : State} {m : MethodId} {args : Array Value} {below : List Frame} {meth : Method} {c : Code} {Γ : GG} {res : Int32 × Sg} (M : MX RL cL_kicks 8 (some .boolean) p s m args meth c) (K : KK Γ s s.heap) (a3 : Int32) (rec_14 : Int32 → Int32 → Int32 → Sg → Option (Int32 × Sg)) (ih_14 : ∀ (x3 : Int32) (x4 : Int32) (x5 : Int32) (σ : Sg) (H : Heap) (locs : List Loc) (ls : Array Slot) , Bd Γ σ s H locs → lv_has ls 8 [(0, .ref (Γ.1 0)), (1, .ref (Γ.1 150)), (2, .ref (Γ.1 151)), (3, .int x3), (4, .int x4), (5, .int x5)] → rec_14 x3 x4 x5 σ = some res → WI Γ rm_L_kicks p l e s m args below meth c H locs res (F0 m 14 ls [])) (x3 : Int32) (x4 : Int32) (x5 : Int32) (x6 : Int32) (s0 : Int32) (σ : Sg) (H : Heap) (locs : List Loc) (ls : Array Slot)  (hB : Bd Γ σ s H locs) (hl : lv_has ls 8 [(0, .ref (Γ.1 0)), (1, .ref (Γ.1 150)), (2, .ref (Γ.1 151)), (3, .int x3), (4, .int x4), (5, .int x5), (6, .int x6)]) (hr : f_L_kicks_99 a3 rec_14 x3 x4 x5 x6 s0 σ = some res) : WI Γ rm_L_kicks p l e s m args below meth c H locs res (F0 m 99 ls [.int s0]) := by
  unfold f_L_kicks_99 at hr
  refine lv_istore (lv' := [(7, .int s0), (0, .ref (Γ.1 0)), (1, .ref (Γ.1 150)), (2, .ref (Γ.1 151)), (3, .int x3), (4, .int x4), (5, .int x5), (6, .int x6)]) M.1 M.2.1 dL_kicks_99 hl (by decide) rfl (fun ls hl => ?_)
  refine lv_aload_n M.1 M.2.1 dL_kicks_101 rfl (lv_at hl 3 rfl) ?_
  refine lv_iload M.1 M.2.1 dL_kicks_102 (lv_at hl 7 rfl) ?_
  refine lv_iconst (v := 5) M.1 M.2.1 dL_kicks_104 (by decide) ?_
  refine lv_iadd M.1 M.2.1 dL_kicks_105 ?_
  refine lv_iload M.1 M.2.1 dL_kicks_106 (lv_at hl 0 rfl) ?_
  refine lv_if_eq (tgt := 135) M.1 M.2.1 dL_kicks_108 (by decide) (fun c_24 => ?_) (fun c_24 => ?_)
  · rw [if_pos c_24] at hr
    refine lv_aload_n M.1 M.2.1 dL_kicks_135 rfl (lv_at hl 3 rfl) ?_
    refine lv_iload M.1 M.2.1 dL_kicks_136 (lv_at hl 7 rfl) ?_
    refine lv_iconst (v := 5) M.1 M.2.1 dL_kicks_138 (by decide) ?_
    refine lv_iadd M.1 M.2.1 dL_kicks_139 ?_
    obtain ⟨g_25, hr⟩ := gd hr
    refine x_iald M K hB isA_151 g_25 dL_kicks_140 ?_
    refine lv_iconst (v := 1) M.1 M.2.1 dL_kicks_141 (by decide) ?_
    refine lv_iadd M.1 M.2.1 dL_kicks_142 ?_
    exact w_L_kicks_143 M K a3 _ ih_14 x3 x4 x5 x6 s0 ((σ 151 ((x6 + 5).toNatClampNeg)) + 1) (x6 + 5) _ _ _ _  hB (lv_sub hl [1, 2, 3, 4, 5, 6, 7, 0] rfl) hr
  · rw [if_neg c_24] at hr
    refine lv_aload_n M.1 M.2.1 dL_kicks_111 rfl (lv_at hl 3 rfl) ?_
    refine lv_iload M.1 M.2.1 dL_kicks_112 (lv_at hl 7 rfl) ?_
    refine lv_iconst (v := 5) M.1 M.2.1 dL_kicks_114 (by decide) ?_
    refine lv_iadd M.1 M.2.1 dL_kicks_115 ?_
    obtain ⟨g_26, hr⟩ := gd hr
    refine x_iald M K hB isA_151 g_26 dL_kicks_116 ?_
    refine lv_if_le (tgt := 131) M.1 M.2.1 dL_kicks_117 (by decide) (fun c_27 => ?_) (fun c_27 => ?_)
    · rw [if_pos c_27] at hr
      refine lv_iconst (v := 0) M.1 M.2.1 dL_kicks_131 (by decide) ?_
      refine lv_goto (tgt := 143) M.1 M.2.1 dL_kicks_132 (by decide) ?_
      exact w_L_kicks_143 M K a3 _ ih_14 x3 x4 x5 x6 s0 0 (x6 + 5) _ _ _ _  hB (lv_sub hl [1, 2, 3, 4, 5, 6, 7, 0] rfl) hr
    · rw [if_neg c_27] at hr
      refine lv_aload_n M.1 M.2.1 dL_kicks_120 rfl (lv_at hl 3 rfl) ?_
      refine lv_iload M.1 M.2.1 dL_kicks_121 (lv_at hl 7 rfl) ?_
      refine lv_iconst (v := 5) M.1 M.2.1 dL_kicks_123 (by decide) ?_
      refine lv_iadd M.1 M.2.1 dL_kicks_124 ?_
      obtain ⟨g_28, hr⟩ := gd hr
      refine x_iald M K hB isA_151 g_28 dL_kicks_125 ?_
      refine lv_iconst (v := 1) M.1 M.2.1 dL_kicks_126 (by decide) ?_
      refine lv_isub M.1 M.2.1 dL_kicks_127 ?_
      refine lv_goto (tgt := 143) M.1 M.2.1 dL_kicks_128 (by decide) ?_
      exact w_L_kicks_143 M K a3 _ ih_14 x3 x4 x5 x6 s0 ((σ 151 ((x6 + 5).toNatClampNeg)) - 1) (x6 + 5) _ _ _ _  hB (lv_sub hl [1, 2, 3, 4, 5, 6, 7, 0] rfl) hr
def f_L_kicks_98 (a3 : Int32) (rec_14 : Int32 → Int32 → Int32 → Sg → Option (Int32 × Sg)) (x3 : Int32) (x4 : Int32) (x5 : Int32) (x6 : Int32) (σ : Sg) : Option (Int32 × Sg) :=
f_L_kicks_99 a3 rec_14 x3 x4 x5 x6 0 σ
set_option maxHeartbeats 4000000 in
set_option maxRecDepth 100000 in
theorem w_L_kicks_98 {p : Program} {l : Launch} {e : Env} {s : State} {m : MethodId} {args : Array Value} {below : List Frame} {meth : Method} {c : Code} {Γ : GG} {res : Int32 × Sg} (M : MX RL cL_kicks 8 (some .boolean) p s m args meth c) (K : KK Γ s s.heap) (a3 : Int32) (rec_14 : Int32 → Int32 → Int32 → Sg → Option (Int32 × Sg)) (ih_14 : ∀ (x3 : Int32) (x4 : Int32) (x5 : Int32) (σ : Sg) (H : Heap) (locs : List Loc) (ls : Array Slot) , Bd Γ σ s H locs → lv_has ls 8 [(0, .ref (Γ.1 0)), (1, .ref (Γ.1 150)), (2, .ref (Γ.1 151)), (3, .int x3), (4, .int x4), (5, .int x5)] → rec_14 x3 x4 x5 σ = some res → WI Γ rm_L_kicks p l e s m args below meth c H locs res (F0 m 14 ls [])) (x3 : Int32) (x4 : Int32) (x5 : Int32) (x6 : Int32) (σ : Sg) (H : Heap) (locs : List Loc) (ls : Array Slot)  (hB : Bd Γ σ s H locs) (hl : lv_has ls 8 [(0, .ref (Γ.1 0)), (1, .ref (Γ.1 150)), (2, .ref (Γ.1 151)), (3, .int x3), (4, .int x4), (5, .int x5), (6, .int x6)]) (hr : f_L_kicks_98 a3 rec_14 x3 x4 x5 x6 σ = some res) : WI Γ rm_L_kicks p l e s m args below meth c H locs res (F0 m 98 ls []) := by
  unfold f_L_kicks_98 at hr
  refine lv_iconst (v := 0) M.1 M.2.1 dL_kicks_98 (by decide) ?_
  exact w_L_kicks_99 M K a3 _ ih_14 x3 x4 x5 x6 0 _ _ _ _  hB (lv_sub hl [0, 1, 2, 3, 4, 5, 6] rfl) hr
def f_L_kicks_14 (a3 : Int32)  : Nat → Int32 → Int32 → Int32 → Sg → Option (Int32 × Sg)
  | 0, _, _, _, _ => none
  | f + 1, x3, x4, x5, σ => if x3 ≤ x5 then
if x4 ≤ 0 then
f_L_kicks_246 a3  0 (σ 150 7) 7 σ
else
f_L_kicks_246 a3  1 (σ 150 7) 7 σ
else
if (10 * x5) + 7 < 0 ∨ 30 ≤ ((10 * x5) + 7).toNatClampNeg then none else
if σ 151 (((10 * x5) + 7).toNatClampNeg) = 0 then
cb (f_X4_task_0 x5 3 σ) fun v_7 σ_8 =>
if v_7 = 0 then none else
if (σ 150 6) - (σ 150 6) / v_7 * v_7 = 0 then
if (10 * x5) + 4 < 0 ∨ 30 ≤ ((10 * x5) + 4).toNatClampNeg then none else
cb (f_X4_task_0 x5 4 σ_8) fun v_13 σ_14 =>
if σ_8 151 (((10 * x5) + 4).toNatClampNeg) < v_13 then
f_L_kicks_98 a3 (f_L_kicks_14 a3  f) x3 x4 x5 (10 * x5) σ_14
else
if (10 * x5) + 4 < 0 ∨ 30 ≤ ((10 * x5) + 4).toNatClampNeg then none else
cb (f_X4_task_0 x5 5 σ_14) fun v_18 σ_19 =>
if v_18 < σ_14 151 (((10 * x5) + 4).toNatClampNeg) then
f_L_kicks_98 a3 (f_L_kicks_14 a3  f) x3 x4 x5 (10 * x5) σ_19
else
if (10 * x5) + 6 < 0 ∨ 30 ≤ ((10 * x5) + 6).toNatClampNeg then none else
if σ_19 151 (((10 * x5) + 6).toNatClampNeg) = 0 then
f_L_kicks_99 a3 (f_L_kicks_14 a3  f) x3 x4 x5 (10 * x5) 1 σ_19
else
f_L_kicks_98 a3 (f_L_kicks_14 a3  f) x3 x4 x5 (10 * x5) σ_19
else
f_L_kicks_213 a3 (f_L_kicks_14 a3  f) x3 x4 x5 (10 * x5) σ_8
else
f_L_kicks_213 a3 (f_L_kicks_14 a3  f) x3 x4 x5 (10 * x5) σ
set_option maxHeartbeats 4000000 in
set_option maxRecDepth 100000 in
theorem w_L_kicks_14 {p : Program} {l : Launch} {e : Env} {s : State} {m : MethodId} {args : Array Value} {below : List Frame} {meth : Method} {c : Code} {Γ : GG} {res : Int32 × Sg} (M : MX RL cL_kicks 8 (some .boolean) p s m args meth c) (K : KK Γ s s.heap) (a3 : Int32) : ∀ (f : Nat) (x3 : Int32) (x4 : Int32) (x5 : Int32) (σ : Sg) (H : Heap) (locs : List Loc) (ls : Array Slot)  (hB : Bd Γ σ s H locs) (hl : lv_has ls 8 [(0, .ref (Γ.1 0)), (1, .ref (Γ.1 150)), (2, .ref (Γ.1 151)), (3, .int x3), (4, .int x4), (5, .int x5)]) (hr : f_L_kicks_14 a3  f x3 x4 x5 σ = some res), WI Γ rm_L_kicks p l e s m args below meth c H locs res (F0 m 14 ls []) := by
  intro f
  induction f with
  | zero => intros; rename_i hr; exact absurd hr (by rw [f_L_kicks_14]; exact fun h => by cases h)
  | succ f ih_14 =>
    intro x3 x4 x5 σ H locs ls  hB hl hr
    rw [f_L_kicks_14] at hr
    refine lv_iload M.1 M.2.1 dL_kicks_14 (lv_at hl 5 rfl) ?_
    refine lv_iload_n M.1 M.2.1 dL_kicks_16 rfl (lv_at hl 3 rfl) ?_
    refine lv_icmp_ge (tgt := 231) M.1 M.2.1 dL_kicks_17 (by decide) (fun c_3 => ?_) (fun c_3 => ?_)
    · rw [if_pos c_3] at hr
      refine lv_aload_n M.1 M.2.1 dL_kicks_231 rfl (lv_at hl 1 rfl) ?_
      refine lv_bipush (v := 7) M.1 M.2.1 dL_kicks_232 (by decide) ?_
      refine lv_dup2_11 M.1 M.2.1 dL_kicks_234 rfl rfl ?_
      refine x_ialdL M K hB isA_150 (k := 7) (by decide) (by decide) dL_kicks_235 ?_
      refine lv_iload M.1 M.2.1 dL_kicks_236 (lv_at hl 4 rfl) ?_
      refine lv_if_le (tgt := 245) M.1 M.2.1 dL_kicks_238 (by decide) (fun c_4 => ?_) (fun c_4 => ?_)
      · rw [if_pos c_4] at hr
        refine lv_iconst (v := 0) M.1 M.2.1 dL_kicks_245 (by decide) ?_
        exact w_L_kicks_246 M K a3  0 (σ 150 7) 7 _ _ _ _  hB (lv_sub hl [0, 1] rfl) hr
      · rw [if_neg c_4] at hr
        refine lv_iconst (v := 1) M.1 M.2.1 dL_kicks_241 (by decide) ?_
        refine lv_goto (tgt := 246) M.1 M.2.1 dL_kicks_242 (by decide) ?_
        exact w_L_kicks_246 M K a3  1 (σ 150 7) 7 _ _ _ _  hB (lv_sub hl [0, 1] rfl) hr
    · rw [if_neg c_3] at hr
      refine lv_bipush (v := 10) M.1 M.2.1 dL_kicks_20 (by decide) ?_
      refine lv_iload M.1 M.2.1 dL_kicks_22 (lv_at hl 5 rfl) ?_
      refine lv_imul M.1 M.2.1 dL_kicks_24 ?_
      refine lv_istore (lv' := [(6, .int (10 * x5)), (0, .ref (Γ.1 0)), (1, .ref (Γ.1 150)), (2, .ref (Γ.1 151)), (3, .int x3), (4, .int x4), (5, .int x5)]) M.1 M.2.1 dL_kicks_25 hl (by decide) rfl (fun ls hl => ?_)
      refine lv_aload_n M.1 M.2.1 dL_kicks_27 rfl (lv_at hl 3 rfl) ?_
      refine lv_iload M.1 M.2.1 dL_kicks_28 (lv_at hl 0 rfl) ?_
      refine lv_bipush (v := 7) M.1 M.2.1 dL_kicks_30 (by decide) ?_
      refine lv_iadd M.1 M.2.1 dL_kicks_32 ?_
      obtain ⟨g_5, hr⟩ := gd hr
      refine x_iald M K hB isA_151 g_5 dL_kicks_33 ?_
      refine lv_if_ne (tgt := 213) M.1 M.2.1 dL_kicks_34 (by decide) (fun c_6 => ?_) (fun c_6 => ?_)
      · rw [if_neg c_6] at hr
        exact w_L_kicks_213 M K a3 _ ih_14 x3 x4 x5 (10 * x5) _ _ _ _  hB (lv_sub hl [1, 2, 3, 4, 5, 6, 0] rfl) hr
      · rw [if_pos c_6] at hr
        refine lv_aload_n M.1 M.2.1 dL_kicks_37 rfl (lv_at hl 2 rfl) ?_
        refine lv_bipush (v := 6) M.1 M.2.1 dL_kicks_38 (by decide) ?_
        refine x_ialdL M K hB isA_150 (k := 6) (by decide) (by decide) dL_kicks_40 ?_
        refine lv_aload_n M.1 M.2.1 dL_kicks_41 rfl (lv_at hl 1 rfl) ?_
        refine lv_iload M.1 M.2.1 dL_kicks_42 (lv_at hl 6 rfl) ?_
        refine lv_iconst (v := 3) M.1 M.2.1 dL_kicks_44 (by decide) ?_
        obtain ⟨v_7, σ_8, h_9, hr⟩ := cbd hr
        refine x_callI (x_runV M K hB hl.1 [.int x5, .int 3] (rest := [.int (σ 150 6)]) rfl (c_X4_task l Γ x5 3  σ (v_7, σ_8) h_9) cy_X4_task (x_recv K hB isK_0.2 (ent_4 isK_0.1) rfl) wd_105 ⟨rfl, rfl, Nat.le_of_ble_eq_true rfl, Nat.le_of_ble_eq_true rfl⟩ (Nat.le_of_ble_eq_true rfl) ⟨Nat.zero_le _, Nat.zero_le _⟩ dL_kicks_45) hB (fun H locs hB => ?_)
        replace hB : Bd Γ σ_8 s H locs := hB
        obtain ⟨g_10, hr⟩ := gd hr
        refine lv_irem M.1 M.2.1 dL_kicks_48 g_10 ?_
        refine lv_if_ne (tgt := 213) M.1 M.2.1 dL_kicks_49 (by decide) (fun c_11 => ?_) (fun c_11 => ?_)
        · rw [if_neg c_11] at hr
          exact w_L_kicks_213 M K a3 _ ih_14 x3 x4 x5 (10 * x5) _ _ _ _  hB (lv_sub hl [1, 2, 3, 4, 5, 6, 0] rfl) hr
        · rw [if_pos c_11] at hr
          refine lv_aload_n M.1 M.2.1 dL_kicks_52 rfl (lv_at hl 3 rfl) ?_
          refine lv_iload M.1 M.2.1 dL_kicks_53 (lv_at hl 0 rfl) ?_
          refine lv_iconst (v := 4) M.1 M.2.1 dL_kicks_55 (by decide) ?_
          refine lv_iadd M.1 M.2.1 dL_kicks_56 ?_
          obtain ⟨g_12, hr⟩ := gd hr
          refine x_iald M K hB isA_151 g_12 dL_kicks_57 ?_
          refine lv_aload_n M.1 M.2.1 dL_kicks_58 rfl (lv_at hl 1 rfl) ?_
          refine lv_iload M.1 M.2.1 dL_kicks_59 (lv_at hl 6 rfl) ?_
          refine lv_iconst (v := 4) M.1 M.2.1 dL_kicks_61 (by decide) ?_
          obtain ⟨v_13, σ_14, h_15, hr⟩ := cbd hr
          refine x_callI (x_runV M K hB hl.1 [.int x5, .int 4] (rest := [.int (σ_8 151 (((10 * x5) + 4).toNatClampNeg))]) rfl (c_X4_task l Γ x5 4  σ_8 (v_13, σ_14) h_15) cy_X4_task (x_recv K hB isK_0.2 (ent_4 isK_0.1) rfl) wd_105 ⟨rfl, rfl, Nat.le_of_ble_eq_true rfl, Nat.le_of_ble_eq_true rfl⟩ (Nat.le_of_ble_eq_true rfl) ⟨Nat.zero_le _, Nat.zero_le _⟩ dL_kicks_62) hB (fun H locs hB => ?_)
          replace hB : Bd Γ σ_14 s H locs := hB
          refine lv_icmp_lt (tgt := 98) M.1 M.2.1 dL_kicks_65 (by decide) (fun c_16 => ?_) (fun c_16 => ?_)
          · rw [if_pos c_16] at hr
            exact w_L_kicks_98 M K a3 _ ih_14 x3 x4 x5 (10 * x5) _ _ _ _  hB (lv_sub hl [1, 2, 3, 4, 5, 6, 0] rfl) hr
          · rw [if_neg c_16] at hr
            refine lv_aload_n M.1 M.2.1 dL_kicks_68 rfl (lv_at hl 3 rfl) ?_
            refine lv_iload M.1 M.2.1 dL_kicks_69 (lv_at hl 0 rfl) ?_
            refine lv_iconst (v := 4) M.1 M.2.1 dL_kicks_71 (by decide) ?_
            refine lv_iadd M.1 M.2.1 dL_kicks_72 ?_
            obtain ⟨g_17, hr⟩ := gd hr
            refine x_iald M K hB isA_151 g_17 dL_kicks_73 ?_
            refine lv_aload_n M.1 M.2.1 dL_kicks_74 rfl (lv_at hl 1 rfl) ?_
            refine lv_iload M.1 M.2.1 dL_kicks_75 (lv_at hl 6 rfl) ?_
            refine lv_iconst (v := 5) M.1 M.2.1 dL_kicks_77 (by decide) ?_
            obtain ⟨v_18, σ_19, h_20, hr⟩ := cbd hr
            refine x_callI (x_runV M K hB hl.1 [.int x5, .int 5] (rest := [.int (σ_14 151 (((10 * x5) + 4).toNatClampNeg))]) rfl (c_X4_task l Γ x5 5  σ_14 (v_18, σ_19) h_20) cy_X4_task (x_recv K hB isK_0.2 (ent_4 isK_0.1) rfl) wd_105 ⟨rfl, rfl, Nat.le_of_ble_eq_true rfl, Nat.le_of_ble_eq_true rfl⟩ (Nat.le_of_ble_eq_true rfl) ⟨Nat.zero_le _, Nat.zero_le _⟩ dL_kicks_78) hB (fun H locs hB => ?_)
            replace hB : Bd Γ σ_19 s H locs := hB
            refine lv_icmp_gt (tgt := 98) M.1 M.2.1 dL_kicks_81 (by decide) (fun c_21 => ?_) (fun c_21 => ?_)
            · rw [if_pos c_21] at hr
              exact w_L_kicks_98 M K a3 _ ih_14 x3 x4 x5 (10 * x5) _ _ _ _  hB (lv_sub hl [1, 2, 3, 4, 5, 6, 0] rfl) hr
            · rw [if_neg c_21] at hr
              refine lv_aload_n M.1 M.2.1 dL_kicks_84 rfl (lv_at hl 3 rfl) ?_
              refine lv_iload M.1 M.2.1 dL_kicks_85 (lv_at hl 0 rfl) ?_
              refine lv_bipush (v := 6) M.1 M.2.1 dL_kicks_87 (by decide) ?_
              refine lv_iadd M.1 M.2.1 dL_kicks_89 ?_
              obtain ⟨g_22, hr⟩ := gd hr
              refine x_iald M K hB isA_151 g_22 dL_kicks_90 ?_
              refine lv_if_ne (tgt := 98) M.1 M.2.1 dL_kicks_91 (by decide) (fun c_23 => ?_) (fun c_23 => ?_)
              · rw [if_neg c_23] at hr
                exact w_L_kicks_98 M K a3 _ ih_14 x3 x4 x5 (10 * x5) _ _ _ _  hB (lv_sub hl [1, 2, 3, 4, 5, 6, 0] rfl) hr
              · rw [if_pos c_23] at hr
                refine lv_iconst (v := 1) M.1 M.2.1 dL_kicks_94 (by decide) ?_
                refine lv_goto (tgt := 99) M.1 M.2.1 dL_kicks_95 (by decide) ?_
                exact w_L_kicks_99 M K a3 _ ih_14 x3 x4 x5 (10 * x5) 1 _ _ _ _  hB (lv_sub hl [1, 2, 3, 4, 5, 6, 0] rfl) hr
def f_L_kicks_0 (a3 : Int32)   (σ : Sg) : Option (Int32 × Sg) :=
wb (st σ 150 6 ((σ 150 6) + 1)) fun σ_1 =>
f_L_kicks_14 a3  FU a3 0 0 σ_1
set_option maxHeartbeats 4000000 in
set_option maxRecDepth 100000 in
theorem w_L_kicks_0 {p : Program} {l : Launch} {e : Env} {s : State} {m : MethodId} {args : Array Value} {below : List Frame} {meth : Method} {c : Code} {Γ : GG} {res : Int32 × Sg} (M : MX RL cL_kicks 8 (some .boolean) p s m args meth c) (K : KK Γ s s.heap) (a3 : Int32)  (σ : Sg) (H : Heap) (locs : List Loc) (ls : Array Slot)  (hB : Bd Γ σ s H locs) (hl : lv_has ls 8 [(0, .ref (Γ.1 0)), (1, .ref (Γ.1 150)), (2, .ref (Γ.1 151)), (3, .int a3)]) (hr : f_L_kicks_0 a3   σ = some res) : WI Γ rm_L_kicks p l e s m args below meth c H locs res (F0 m 0 ls []) := by
  unfold f_L_kicks_0 at hr
  refine lv_aload_n M.1 M.2.1 dL_kicks_0 rfl (lv_at hl 1 rfl) ?_
  refine lv_bipush (v := 6) M.1 M.2.1 dL_kicks_1 (by decide) ?_
  refine lv_dup2_11 M.1 M.2.1 dL_kicks_3 rfl rfl ?_
  refine x_ialdL M K hB isA_150 (k := 6) (by decide) (by decide) dL_kicks_4 ?_
  refine lv_iconst (v := 1) M.1 M.2.1 dL_kicks_5 (by decide) ?_
  refine lv_iadd M.1 M.2.1 dL_kicks_6 ?_
  obtain ⟨σ_1, e_2, hr⟩ := wbd hr
  refine x_iastL M K hB isA_150 (k := 6) (by decide) (by decide) dL_kicks_7 (fun H locs hB => ?_)
  rw [← e_2] at hB
  refine lv_iconst (v := 0) M.1 M.2.1 dL_kicks_8 (by decide) ?_
  refine lv_istore (lv' := [(4, .int 0), (0, .ref (Γ.1 0)), (1, .ref (Γ.1 150)), (2, .ref (Γ.1 151)), (3, .int a3)]) M.1 M.2.1 dL_kicks_9 hl (by decide) rfl (fun ls hl => ?_)
  refine lv_iconst (v := 0) M.1 M.2.1 dL_kicks_11 (by decide) ?_
  refine lv_istore (lv' := [(5, .int 0), (4, .int 0), (0, .ref (Γ.1 0)), (1, .ref (Γ.1 150)), (2, .ref (Γ.1 151)), (3, .int a3)]) M.1 M.2.1 dL_kicks_12 hl (by decide) rfl (fun ls hl => ?_)
  exact w_L_kicks_14 M K a3  FU a3 0 0 _ _ _ _  hB (lv_sub hl [2, 3, 4, 5, 1, 0] rfl) hr
theorem c_L_kicks (l : Launch) (Γ : GG) (a3 : Int32)  (σ : Sg) (res : Int32 × Sg) (hr : f_L_kicks_0 a3 σ = some res) : Met l yL_kicks (Cond.code yL_kicks cL_kicks 8 (some .boolean) :: gtb) rm_L_kicks (va_Pc [.ref (Γ.1 0), .ref (Γ.1 150), .ref (Γ.1 151), .int a3] (GI Γ σ)) (QI Γ res) 0 0 (AD Γ) :=
  x_metI (by decide) [.ref (Γ.1 0), .ref (Γ.1 150), .ref (Γ.1 151), .int a3] (Nat.le_of_ble_eq_true rfl) (fun p e s m args below meth c M K ls hl hB => w_L_kicks_0 M K a3 σ _ _ ls hB hl hr)
abbrev rm_L_tick : Room := { frames := 4, cells := 0, slots := 0, locals := 94 }
def f_L_tick_220 (a4 : Int32) (a5 : Int32)   (σ : Sg) : Option (Int32 × Sg) :=
some (0, σ)
set_option maxHeartbeats 4000000 in
set_option maxRecDepth 100000 in
theorem w_L_tick_220 {p : Program} {l : Launch} {e : Env} {s : State} {m : MethodId} {args : Array Value} {below : List Frame} {meth : Method} {c : Code} {Γ : GG} {res : Int32 × Sg} (M : MX RL cL_tick 7 none p s m args meth c) (K : KK Γ s s.heap) (a4 : Int32) (a5 : Int32)  (σ : Sg) (H : Heap) (locs : List Loc) (ls : Array Slot)  (hB : Bd Γ σ s H locs) (hl : lv_has ls 7 []) (hr : f_L_tick_220 a4 a5   σ = some res) : WV Γ rm_L_tick p l e s m args below meth c H locs res (F0 m 220 ls []) := by
  unfold f_L_tick_220 at hr
  exact x_vret M hB (Option.some.inj hr) dL_tick_220
def f_L_tick_219 (a4 : Int32) (a5 : Int32)  (s0 : Int32) (s1 : Int32) (σ : Sg) : Option (Int32 × Sg) :=
if s1 < 0 ∨ 14 ≤ s1.toNatClampNeg then none else
wb (st σ 150 (s1.toNatClampNeg) s0) fun σ_55 =>
f_L_tick_220 a4 a5   σ_55
set_option maxHeartbeats 4000000 in
set_option maxRecDepth 100000 in
theorem w_L_tick_219 {p : Program} {l : Launch} {e : Env} {s : State} {m : MethodId} {args : Array Value} {below : List Frame} {meth : Method} {c : Code} {Γ : GG} {res : Int32 × Sg} (M : MX RL cL_tick 7 none p s m args meth c) (K : KK Γ s s.heap) (a4 : Int32) (a5 : Int32) (s0 : Int32) (s1 : Int32) (σ : Sg) (H : Heap) (locs : List Loc) (ls : Array Slot)  (hB : Bd Γ σ s H locs) (hl : lv_has ls 7 []) (hr : f_L_tick_219 a4 a5  s0 s1 σ = some res) : WV Γ rm_L_tick p l e s m args below meth c H locs res (F0 m 219 ls [.int s0, .int s1, .ref (Γ.1 150)]) := by
  unfold f_L_tick_219 at hr
  obtain ⟨g_54, hr⟩ := gd hr
  obtain ⟨σ_55, e_56, hr⟩ := wbd hr
  refine x_iast M K hB isA_150 g_54 dL_tick_219 (fun H locs hB => ?_)
  rw [← e_56] at hB
  exact w_L_tick_220 M K a4 a5   _ _ _ _  hB (lv_sub hl [] rfl) hr
def f_L_tick_197 (a4 : Int32) (a5 : Int32)  (s0 : Int32) (s1 : Int32) (σ : Sg) : Option (Int32 × Sg) :=
if s1 < 0 ∨ 14 ≤ s1.toNatClampNeg then none else
wb (st σ 150 (s1.toNatClampNeg) s0) fun σ_48 =>
cb (f_X4_state_0 19 σ_48) fun v_50 σ_51 =>
if σ_48 150 4 = v_50 then
f_L_tick_219 a4 a5  0 2 σ_51
else
f_L_tick_219 a4 a5  (σ_51 150 2) 2 σ_51
set_option maxHeartbeats 4000000 in
set_option maxRecDepth 100000 in
theorem w_L_tick_197 {p : Program} {l : Launch} {e : Env} {s : State} {m : MethodId} {args : Array Value} {below : List Frame} {meth : Method} {c : Code} {Γ : GG} {res : Int32 × Sg} (M : MX RL cL_tick 7 none p s m args meth c) (K : KK Γ s s.heap) (a4 : Int32) (a5 : Int32) (s0 : Int32) (s1 : Int32) (σ : Sg) (H : Heap) (locs : List Loc) (ls : Array Slot)  (hB : Bd Γ σ s H locs) (hl : lv_has ls 7 [(0, .ref (Γ.1 0)), (1, .ref (Γ.1 150))]) (hr : f_L_tick_197 a4 a5  s0 s1 σ = some res) : WV Γ rm_L_tick p l e s m args below meth c H locs res (F0 m 197 ls [.int s0, .int s1, .ref (Γ.1 150)]) := by
  unfold f_L_tick_197 at hr
  obtain ⟨g_47, hr⟩ := gd hr
  obtain ⟨σ_48, e_49, hr⟩ := wbd hr
  refine x_iast M K hB isA_150 g_47 dL_tick_197 (fun H locs hB => ?_)
  rw [← e_49] at hB
  refine lv_aload_n M.1 M.2.1 dL_tick_198 rfl (lv_at hl 1 rfl) ?_
  refine lv_iconst (v := 2) M.1 M.2.1 dL_tick_199 (by decide) ?_
  refine lv_aload_n M.1 M.2.1 dL_tick_200 rfl (lv_at hl 1 rfl) ?_
  refine lv_iconst (v := 4) M.1 M.2.1 dL_tick_201 (by decide) ?_
  refine x_ialdL M K hB isA_150 (k := 4) (by decide) (by decide) dL_tick_202 ?_
  refine lv_aload_n M.1 M.2.1 dL_tick_203 rfl (lv_at hl 0 rfl) ?_
  refine lv_bipush (v := 19) M.1 M.2.1 dL_tick_204 (by decide) ?_
  obtain ⟨v_50, σ_51, h_52, hr⟩ := cbd hr
  refine x_callI (x_runV M K hB hl.1 [.int 19] (rest := [.int (σ_48 150 4), .int 2, .ref (Γ.1 150)]) rfl (c_X4_state l Γ 19  σ_48 (v_50, σ_51) h_52) cy_X4_state (x_recv K hB isK_0.2 (ent_4 isK_0.1) rfl) wd_106 ⟨rfl, rfl, Nat.le_of_ble_eq_true rfl, Nat.le_of_ble_eq_true rfl⟩ (Nat.le_of_ble_eq_true rfl) ⟨Nat.zero_le _, Nat.zero_le _⟩ dL_tick_206) hB (fun H locs hB => ?_)
  replace hB : Bd Γ σ_51 s H locs := hB
  refine lv_icmp_ne (tgt := 216) M.1 M.2.1 dL_tick_209 (by decide) (fun c_53 => ?_) (fun c_53 => ?_)
  · rw [if_neg c_53] at hr
    refine lv_aload_n M.1 M.2.1 dL_tick_216 rfl (lv_at hl 1 rfl) ?_
    refine lv_iconst (v := 2) M.1 M.2.1 dL_tick_217 (by decide) ?_
    refine x_ialdL M K hB isA_150 (k := 2) (by decide) (by decide) dL_tick_218 ?_
    exact w_L_tick_219 M K a4 a5  (σ_51 150 2) 2 _ _ _ _  hB (lv_sub hl [] rfl) hr
  · rw [if_pos c_53] at hr
    refine lv_iconst (v := 0) M.1 M.2.1 dL_tick_212 (by decide) ?_
    refine lv_goto (tgt := 219) M.1 M.2.1 dL_tick_213 (by decide) ?_
    exact w_L_tick_219 M K a4 a5  0 2 _ _ _ _  hB (lv_sub hl [] rfl) hr
def f_L_tick_183 (a4 : Int32) (a5 : Int32)  (x6 : Int32) (σ : Sg) : Option (Int32 × Sg) :=
if x6 = 0 then
f_L_tick_197 a4 a5  (σ 150 5) 5 σ
else
f_L_tick_197 a4 a5  0 5 σ
set_option maxHeartbeats 4000000 in
set_option maxRecDepth 100000 in
theorem w_L_tick_183 {p : Program} {l : Launch} {e : Env} {s : State} {m : MethodId} {args : Array Value} {below : List Frame} {meth : Method} {c : Code} {Γ : GG} {res : Int32 × Sg} (M : MX RL cL_tick 7 none p s m args meth c) (K : KK Γ s s.heap) (a4 : Int32) (a5 : Int32) (x6 : Int32) (σ : Sg) (H : Heap) (locs : List Loc) (ls : Array Slot)  (hB : Bd Γ σ s H locs) (hl : lv_has ls 7 [(0, .ref (Γ.1 0)), (1, .ref (Γ.1 150)), (6, .int x6)]) (hr : f_L_tick_183 a4 a5  x6 σ = some res) : WV Γ rm_L_tick p l e s m args below meth c H locs res (F0 m 183 ls []) := by
  unfold f_L_tick_183 at hr
  refine lv_aload_n M.1 M.2.1 dL_tick_183 rfl (lv_at hl 1 rfl) ?_
  refine lv_iconst (v := 5) M.1 M.2.1 dL_tick_184 (by decide) ?_
  refine lv_iload M.1 M.2.1 dL_tick_185 (lv_at hl 2 rfl) ?_
  refine lv_if_eq (tgt := 194) M.1 M.2.1 dL_tick_187 (by decide) (fun c_46 => ?_) (fun c_46 => ?_)
  · rw [if_pos c_46] at hr
    refine lv_aload_n M.1 M.2.1 dL_tick_194 rfl (lv_at hl 1 rfl) ?_
    refine lv_iconst (v := 5) M.1 M.2.1 dL_tick_195 (by decide) ?_
    refine x_ialdL M K hB isA_150 (k := 5) (by decide) (by decide) dL_tick_196 ?_
    exact w_L_tick_197 M K a4 a5  (σ 150 5) 5 _ _ _ _  hB (lv_sub hl [0, 1] rfl) hr
  · rw [if_neg c_46] at hr
    refine lv_iconst (v := 0) M.1 M.2.1 dL_tick_190 (by decide) ?_
    refine lv_goto (tgt := 197) M.1 M.2.1 dL_tick_191 (by decide) ?_
    exact w_L_tick_197 M K a4 a5  0 5 _ _ _ _  hB (lv_sub hl [0, 1] rfl) hr
def f_L_tick_152 (a4 : Int32) (a5 : Int32)  (x5 : Int32) (x6 : Int32) (σ : Sg) : Option (Int32 × Sg) :=
if x6 = 0 then
cb (f_X4_state_0 14 σ) fun v_39 σ_40 =>
if σ 150 5 ≤ v_39 then
f_L_tick_183 a4 a5  x6 σ_40
else
cb (f_L_reset_0 2 (-6) x5 σ_40) fun v_43 σ_44 =>
f_L_tick_220 a4 a5   σ_44
else
f_L_tick_183 a4 a5  x6 σ
set_option maxHeartbeats 4000000 in
set_option maxRecDepth 100000 in
theorem w_L_tick_152 {p : Program} {l : Launch} {e : Env} {s : State} {m : MethodId} {args : Array Value} {below : List Frame} {meth : Method} {c : Code} {Γ : GG} {res : Int32 × Sg} (M : MX RL cL_tick 7 none p s m args meth c) (K : KK Γ s s.heap) (a4 : Int32) (a5 : Int32) (x5 : Int32) (x6 : Int32) (σ : Sg) (H : Heap) (locs : List Loc) (ls : Array Slot)  (hB : Bd Γ σ s H locs) (hl : lv_has ls 7 [(0, .ref (Γ.1 0)), (1, .ref (Γ.1 150)), (2, .ref (Γ.1 151)), (5, .int x5), (6, .int x6)]) (hr : f_L_tick_152 a4 a5  x5 x6 σ = some res) : WV Γ rm_L_tick p l e s m args below meth c H locs res (F0 m 152 ls []) := by
  unfold f_L_tick_152 at hr
  refine lv_iload M.1 M.2.1 dL_tick_152 (lv_at hl 4 rfl) ?_
  refine lv_if_ne (tgt := 183) M.1 M.2.1 dL_tick_154 (by decide) (fun c_38 => ?_) (fun c_38 => ?_)
  · rw [if_neg c_38] at hr
    exact w_L_tick_183 M K a4 a5  x6 _ _ _ _  hB (lv_sub hl [0, 1, 4] rfl) hr
  · rw [if_pos c_38] at hr
    refine lv_aload_n M.1 M.2.1 dL_tick_157 rfl (lv_at hl 1 rfl) ?_
    refine lv_iconst (v := 5) M.1 M.2.1 dL_tick_158 (by decide) ?_
    refine x_ialdL M K hB isA_150 (k := 5) (by decide) (by decide) dL_tick_159 ?_
    refine lv_aload_n M.1 M.2.1 dL_tick_160 rfl (lv_at hl 0 rfl) ?_
    refine lv_bipush (v := 14) M.1 M.2.1 dL_tick_161 (by decide) ?_
    obtain ⟨v_39, σ_40, h_41, hr⟩ := cbd hr
    refine x_callI (x_runV M K hB hl.1 [.int 14] (rest := [.int (σ 150 5)]) rfl (c_X4_state l Γ 14  σ (v_39, σ_40) h_41) cy_X4_state (x_recv K hB isK_0.2 (ent_4 isK_0.1) rfl) wd_106 ⟨rfl, rfl, Nat.le_of_ble_eq_true rfl, Nat.le_of_ble_eq_true rfl⟩ (Nat.le_of_ble_eq_true rfl) ⟨Nat.zero_le _, Nat.zero_le _⟩ dL_tick_163) hB (fun H locs hB => ?_)
    replace hB : Bd Γ σ_40 s H locs := hB
    refine lv_icmp_le (tgt := 183) M.1 M.2.1 dL_tick_166 (by decide) (fun c_42 => ?_) (fun c_42 => ?_)
    · rw [if_pos c_42] at hr
      exact w_L_tick_183 M K a4 a5  x6 _ _ _ _  hB (lv_sub hl [0, 1, 4] rfl) hr
    · rw [if_neg c_42] at hr
      refine lv_aload_n M.1 M.2.1 dL_tick_169 rfl (lv_at hl 0 rfl) ?_
      refine lv_aload_n M.1 M.2.1 dL_tick_170 rfl (lv_at hl 1 rfl) ?_
      refine lv_aload_n M.1 M.2.1 dL_tick_171 rfl (lv_at hl 2 rfl) ?_
      refine lv_iconst (v := 2) M.1 M.2.1 dL_tick_172 (by decide) ?_
      refine lv_bipush (v := (-6)) M.1 M.2.1 dL_tick_173 (by decide) ?_
      refine lv_iload M.1 M.2.1 dL_tick_175 (lv_at hl 3 rfl) ?_
      obtain ⟨v_43, σ_44, h_45, hr⟩ := cbd hr
      refine x_callV (x_runS M K hB hl.1 [.ref (Γ.1 0), .ref (Γ.1 150), .ref (Γ.1 151), .int 2, .int (-6), .int x5] (rest := []) rfl (c_L_reset l Γ 2 (-6) x5  σ_40 (v_43, σ_44) h_45) cy_L_reset wd_110 ⟨rfl, rfl, Nat.le_of_ble_eq_true rfl, Nat.le_of_ble_eq_true rfl⟩ (Nat.le_of_ble_eq_true rfl) ⟨Nat.zero_le _, Nat.zero_le _⟩ dL_tick_177) hB (fun H locs hB => ?_)
      replace hB : Bd Γ σ_44 s H locs := hB
      refine lv_goto (tgt := 220) M.1 M.2.1 dL_tick_180 (by decide) ?_
      exact w_L_tick_220 M K a4 a5   _ _ _ _  hB (lv_sub hl [] rfl) hr
def f_L_tick_119 (a4 : Int32) (a5 : Int32)  (x5 : Int32) (s0 : Int32) (σ : Sg) : Option (Int32 × Sg) :=
if s0 = 0 then
f_L_tick_152 a4 a5  x5 s0 σ
else
cb (f_X4_state_0 13 σ) fun v_31 σ_32 =>
if v_31 ≤ σ 150 5 then
f_L_tick_152 a4 a5  x5 s0 σ_32
else
cb (f_L_reset_0 1 (-6) x5 σ_32) fun v_35 σ_36 =>
f_L_tick_220 a4 a5   σ_36
set_option maxHeartbeats 4000000 in
set_option maxRecDepth 100000 in
theorem w_L_tick_119 {p : Program} {l : Launch} {e : Env} {s : State} {m : MethodId} {args : Array Value} {below : List Frame} {meth : Method} {c : Code} {Γ : GG} {res : Int32 × Sg} (M : MX RL cL_tick 7 none p s m args meth c) (K : KK Γ s s.heap) (a4 : Int32) (a5 : Int32) (x5 : Int32) (s0 : Int32) (σ : Sg) (H : Heap) (locs : List Loc) (ls : Array Slot)  (hB : Bd Γ σ s H locs) (hl : lv_has ls 7 [(0, .ref (Γ.1 0)), (1, .ref (Γ.1 150)), (2, .ref (Γ.1 151)), (5, .int x5)]) (hr : f_L_tick_119 a4 a5  x5 s0 σ = some res) : WV Γ rm_L_tick p l e s m args below meth c H locs res (F0 m 119 ls [.int s0]) := by
  unfold f_L_tick_119 at hr
  refine lv_istore (lv' := [(6, .int s0), (0, .ref (Γ.1 0)), (1, .ref (Γ.1 150)), (2, .ref (Γ.1 151)), (5, .int x5)]) M.1 M.2.1 dL_tick_119 hl (by decide) rfl (fun ls hl => ?_)
  refine lv_iload M.1 M.2.1 dL_tick_121 (lv_at hl 0 rfl) ?_
  refine lv_if_eq (tgt := 152) M.1 M.2.1 dL_tick_123 (by decide) (fun c_30 => ?_) (fun c_30 => ?_)
  · rw [if_pos c_30] at hr
    exact w_L_tick_152 M K a4 a5  x5 s0 _ _ _ _  hB (lv_sub hl [1, 2, 3, 4, 0] rfl) hr
  · rw [if_neg c_30] at hr
    refine lv_aload_n M.1 M.2.1 dL_tick_126 rfl (lv_at hl 2 rfl) ?_
    refine lv_iconst (v := 5) M.1 M.2.1 dL_tick_127 (by decide) ?_
    refine x_ialdL M K hB isA_150 (k := 5) (by decide) (by decide) dL_tick_128 ?_
    refine lv_aload_n M.1 M.2.1 dL_tick_129 rfl (lv_at hl 1 rfl) ?_
    refine lv_bipush (v := 13) M.1 M.2.1 dL_tick_130 (by decide) ?_
    obtain ⟨v_31, σ_32, h_33, hr⟩ := cbd hr
    refine x_callI (x_runV M K hB hl.1 [.int 13] (rest := [.int (σ 150 5)]) rfl (c_X4_state l Γ 13  σ (v_31, σ_32) h_33) cy_X4_state (x_recv K hB isK_0.2 (ent_4 isK_0.1) rfl) wd_106 ⟨rfl, rfl, Nat.le_of_ble_eq_true rfl, Nat.le_of_ble_eq_true rfl⟩ (Nat.le_of_ble_eq_true rfl) ⟨Nat.zero_le _, Nat.zero_le _⟩ dL_tick_132) hB (fun H locs hB => ?_)
    replace hB : Bd Γ σ_32 s H locs := hB
    refine lv_icmp_ge (tgt := 152) M.1 M.2.1 dL_tick_135 (by decide) (fun c_34 => ?_) (fun c_34 => ?_)
    · rw [if_pos c_34] at hr
      exact w_L_tick_152 M K a4 a5  x5 s0 _ _ _ _  hB (lv_sub hl [1, 2, 3, 4, 0] rfl) hr
    · rw [if_neg c_34] at hr
      refine lv_aload_n M.1 M.2.1 dL_tick_138 rfl (lv_at hl 1 rfl) ?_
      refine lv_aload_n M.1 M.2.1 dL_tick_139 rfl (lv_at hl 2 rfl) ?_
      refine lv_aload_n M.1 M.2.1 dL_tick_140 rfl (lv_at hl 3 rfl) ?_
      refine lv_iconst (v := 1) M.1 M.2.1 dL_tick_141 (by decide) ?_
      refine lv_bipush (v := (-6)) M.1 M.2.1 dL_tick_142 (by decide) ?_
      refine lv_iload M.1 M.2.1 dL_tick_144 (lv_at hl 4 rfl) ?_
      obtain ⟨v_35, σ_36, h_37, hr⟩ := cbd hr
      refine x_callV (x_runS M K hB hl.1 [.ref (Γ.1 0), .ref (Γ.1 150), .ref (Γ.1 151), .int 1, .int (-6), .int x5] (rest := []) rfl (c_L_reset l Γ 1 (-6) x5  σ_32 (v_35, σ_36) h_37) cy_L_reset wd_110 ⟨rfl, rfl, Nat.le_of_ble_eq_true rfl, Nat.le_of_ble_eq_true rfl⟩ (Nat.le_of_ble_eq_true rfl) ⟨Nat.zero_le _, Nat.zero_le _⟩ dL_tick_146) hB (fun H locs hB => ?_)
      replace hB : Bd Γ σ_36 s H locs := hB
      refine lv_goto (tgt := 220) M.1 M.2.1 dL_tick_149 (by decide) ?_
      exact w_L_tick_220 M K a4 a5   _ _ _ _  hB (lv_sub hl [] rfl) hr
def f_L_tick_118 (a4 : Int32) (a5 : Int32)  (x5 : Int32) (σ : Sg) : Option (Int32 × Sg) :=
f_L_tick_119 a4 a5  x5 0 σ
set_option maxHeartbeats 4000000 in
set_option maxRecDepth 100000 in
theorem w_L_tick_118 {p : Program} {l : Launch} {e : Env} {s : State} {m : MethodId} {args : Array Value} {below : List Frame} {meth : Method} {c : Code} {Γ : GG} {res : Int32 × Sg} (M : MX RL cL_tick 7 none p s m args meth c) (K : KK Γ s s.heap) (a4 : Int32) (a5 : Int32) (x5 : Int32) (σ : Sg) (H : Heap) (locs : List Loc) (ls : Array Slot)  (hB : Bd Γ σ s H locs) (hl : lv_has ls 7 [(0, .ref (Γ.1 0)), (1, .ref (Γ.1 150)), (2, .ref (Γ.1 151)), (5, .int x5)]) (hr : f_L_tick_118 a4 a5  x5 σ = some res) : WV Γ rm_L_tick p l e s m args below meth c H locs res (F0 m 118 ls []) := by
  unfold f_L_tick_118 at hr
  refine lv_iconst (v := 0) M.1 M.2.1 dL_tick_118 (by decide) ?_
  exact w_L_tick_119 M K a4 a5  x5 0 _ _ _ _  hB (lv_sub hl [0, 1, 2, 3] rfl) hr
def f_L_tick_53 (a4 : Int32) (a5 : Int32)  : Nat → Int32 → Int32 → Int32 → Sg → Option (Int32 × Sg)
  | 0, _, _, _, _ => none
  | f + 1, x4, x5, x6, σ => if x4 ≤ x6 then
cb (f_X4_state_0 15 σ) fun v_14 σ_15 =>
if v_14 = 0 then none else
if (σ 150 4) - (σ 150 4) / v_14 * v_14 = 0 then
cb (f_L_kicks_0 x4 σ_15) fun v_19 σ_20 =>
if v_19 = 0 then
f_L_tick_118 a4 a5  x5 σ_20
else
f_L_tick_119 a4 a5  x5 1 σ_20
else
f_L_tick_118 a4 a5  x5 σ_15
else
cb (f_L_crashes_0 x6 σ) fun v_23 σ_24 =>
if v_23 = 0 then
f_L_tick_53 a4 a5  f x4 x5 (x6 + 1) σ_24
else
cb (f_L_reset_0 3 x6 x5 σ_24) fun v_27 σ_28 =>
some (0, σ_28)
set_option maxHeartbeats 4000000 in
set_option maxRecDepth 100000 in
theorem w_L_tick_53 {p : Program} {l : Launch} {e : Env} {s : State} {m : MethodId} {args : Array Value} {below : List Frame} {meth : Method} {c : Code} {Γ : GG} {res : Int32 × Sg} (M : MX RL cL_tick 7 none p s m args meth c) (K : KK Γ s s.heap) (a4 : Int32) (a5 : Int32) : ∀ (f : Nat) (x4 : Int32) (x5 : Int32) (x6 : Int32) (σ : Sg) (H : Heap) (locs : List Loc) (ls : Array Slot)  (hB : Bd Γ σ s H locs) (hl : lv_has ls 7 [(0, .ref (Γ.1 0)), (1, .ref (Γ.1 150)), (2, .ref (Γ.1 151)), (3, .ref (Γ.1 152)), (4, .int x4), (5, .int x5), (6, .int x6)]) (hr : f_L_tick_53 a4 a5  f x4 x5 x6 σ = some res), WV Γ rm_L_tick p l e s m args below meth c H locs res (F0 m 53 ls []) := by
  intro f
  induction f with
  | zero => intros; rename_i hr; exact absurd hr (by rw [f_L_tick_53]; exact fun h => by cases h)
  | succ f ih_53 =>
    intro x4 x5 x6 σ H locs ls  hB hl hr
    rw [f_L_tick_53] at hr
    refine lv_iload M.1 M.2.1 dL_tick_53 (lv_at hl 6 rfl) ?_
    refine lv_iload M.1 M.2.1 dL_tick_55 (lv_at hl 4 rfl) ?_
    refine lv_icmp_ge (tgt := 90) M.1 M.2.1 dL_tick_57 (by decide) (fun c_13 => ?_) (fun c_13 => ?_)
    · rw [if_pos c_13] at hr
      refine lv_aload_n M.1 M.2.1 dL_tick_90 rfl (lv_at hl 1 rfl) ?_
      refine lv_iconst (v := 4) M.1 M.2.1 dL_tick_91 (by decide) ?_
      refine x_ialdL M K hB isA_150 (k := 4) (by decide) (by decide) dL_tick_92 ?_
      refine lv_aload_n M.1 M.2.1 dL_tick_93 rfl (lv_at hl 0 rfl) ?_
      refine lv_bipush (v := 15) M.1 M.2.1 dL_tick_94 (by decide) ?_
      obtain ⟨v_14, σ_15, h_16, hr⟩ := cbd hr
      refine x_callI (x_runV M K hB hl.1 [.int 15] (rest := [.int (σ 150 4)]) rfl (c_X4_state l Γ 15  σ (v_14, σ_15) h_16) cy_X4_state (x_recv K hB isK_0.2 (ent_4 isK_0.1) rfl) wd_106 ⟨rfl, rfl, Nat.le_of_ble_eq_true rfl, Nat.le_of_ble_eq_true rfl⟩ (Nat.le_of_ble_eq_true rfl) ⟨Nat.zero_le _, Nat.zero_le _⟩ dL_tick_96) hB (fun H locs hB => ?_)
      replace hB : Bd Γ σ_15 s H locs := hB
      obtain ⟨g_17, hr⟩ := gd hr
      refine lv_irem M.1 M.2.1 dL_tick_99 g_17 ?_
      refine lv_if_ne (tgt := 118) M.1 M.2.1 dL_tick_100 (by decide) (fun c_18 => ?_) (fun c_18 => ?_)
      · rw [if_neg c_18] at hr
        exact w_L_tick_118 M K a4 a5  x5 _ _ _ _  hB (lv_sub hl [0, 1, 2, 5] rfl) hr
      · rw [if_pos c_18] at hr
        refine lv_aload_n M.1 M.2.1 dL_tick_103 rfl (lv_at hl 0 rfl) ?_
        refine lv_aload_n M.1 M.2.1 dL_tick_104 rfl (lv_at hl 1 rfl) ?_
        refine lv_aload_n M.1 M.2.1 dL_tick_105 rfl (lv_at hl 2 rfl) ?_
        refine lv_iload M.1 M.2.1 dL_tick_106 (lv_at hl 4 rfl) ?_
        obtain ⟨v_19, σ_20, h_21, hr⟩ := cbd hr
        refine x_callI (x_runS M K hB hl.1 [.ref (Γ.1 0), .ref (Γ.1 150), .ref (Γ.1 151), .int x4] (rest := []) rfl (c_L_kicks l Γ x4  σ_15 (v_19, σ_20) h_21) cy_L_kicks wd_108 ⟨rfl, rfl, Nat.le_of_ble_eq_true rfl, Nat.le_of_ble_eq_true rfl⟩ (Nat.le_of_ble_eq_true rfl) ⟨Nat.zero_le _, Nat.zero_le _⟩ dL_tick_108) hB (fun H locs hB => ?_)
        replace hB : Bd Γ σ_20 s H locs := hB
        refine lv_if_eq (tgt := 118) M.1 M.2.1 dL_tick_111 (by decide) (fun c_22 => ?_) (fun c_22 => ?_)
        · rw [if_pos c_22] at hr
          exact w_L_tick_118 M K a4 a5  x5 _ _ _ _  hB (lv_sub hl [0, 1, 2, 5] rfl) hr
        · rw [if_neg c_22] at hr
          refine lv_iconst (v := 1) M.1 M.2.1 dL_tick_114 (by decide) ?_
          refine lv_goto (tgt := 119) M.1 M.2.1 dL_tick_115 (by decide) ?_
          exact w_L_tick_119 M K a4 a5  x5 1 _ _ _ _  hB (lv_sub hl [0, 1, 2, 5] rfl) hr
    · rw [if_neg c_13] at hr
      refine lv_aload_n M.1 M.2.1 dL_tick_60 rfl (lv_at hl 0 rfl) ?_
      refine lv_aload_n M.1 M.2.1 dL_tick_61 rfl (lv_at hl 1 rfl) ?_
      refine lv_aload_n M.1 M.2.1 dL_tick_62 rfl (lv_at hl 2 rfl) ?_
      refine lv_aload_n M.1 M.2.1 dL_tick_63 rfl (lv_at hl 3 rfl) ?_
      refine lv_iload M.1 M.2.1 dL_tick_64 (lv_at hl 6 rfl) ?_
      obtain ⟨v_23, σ_24, h_25, hr⟩ := cbd hr
      refine x_callI (x_runS M K hB hl.1 [.ref (Γ.1 0), .ref (Γ.1 150), .ref (Γ.1 151), .ref (Γ.1 152), .int x6] (rest := []) rfl (c_L_crashes l Γ x6  σ (v_23, σ_24) h_25) cy_L_crashes wd_109 ⟨rfl, rfl, Nat.le_of_ble_eq_true rfl, Nat.le_of_ble_eq_true rfl⟩ (Nat.le_of_ble_eq_true rfl) ⟨Nat.zero_le _, Nat.zero_le _⟩ dL_tick_66) hB (fun H locs hB => ?_)
      replace hB : Bd Γ σ_24 s H locs := hB
      refine lv_if_eq (tgt := 84) M.1 M.2.1 dL_tick_69 (by decide) (fun c_26 => ?_) (fun c_26 => ?_)
      · rw [if_pos c_26] at hr
        refine lv_iinc (v := x6 + 1) (lv' := [(6, .int (x6 + 1)), (0, .ref (Γ.1 0)), (1, .ref (Γ.1 150)), (2, .ref (Γ.1 151)), (3, .ref (Γ.1 152)), (4, .int x4), (5, .int x5)]) M.1 M.2.1 dL_tick_84 hl (k := 6) rfl rfl (by decide) rfl (fun ls hl => ?_)
        refine lv_goto (tgt := 53) M.1 M.2.1 dL_tick_87 (by decide) ?_
        exact ih_53 x4 x5 (x6 + 1) _ _ _ _  hB (lv_sub hl [1, 2, 3, 4, 5, 6, 0] rfl) hr
      · rw [if_neg c_26] at hr
        refine lv_aload_n M.1 M.2.1 dL_tick_72 rfl (lv_at hl 0 rfl) ?_
        refine lv_aload_n M.1 M.2.1 dL_tick_73 rfl (lv_at hl 1 rfl) ?_
        refine lv_aload_n M.1 M.2.1 dL_tick_74 rfl (lv_at hl 2 rfl) ?_
        refine lv_iconst (v := 3) M.1 M.2.1 dL_tick_75 (by decide) ?_
        refine lv_iload M.1 M.2.1 dL_tick_76 (lv_at hl 6 rfl) ?_
        refine lv_iload M.1 M.2.1 dL_tick_78 (lv_at hl 5 rfl) ?_
        obtain ⟨v_27, σ_28, h_29, hr⟩ := cbd hr
        refine x_callV (x_runS M K hB hl.1 [.ref (Γ.1 0), .ref (Γ.1 150), .ref (Γ.1 151), .int 3, .int x6, .int x5] (rest := []) rfl (c_L_reset l Γ 3 x6 x5  σ_24 (v_27, σ_28) h_29) cy_L_reset wd_110 ⟨rfl, rfl, Nat.le_of_ble_eq_true rfl, Nat.le_of_ble_eq_true rfl⟩ (Nat.le_of_ble_eq_true rfl) ⟨Nat.zero_le _, Nat.zero_le _⟩ dL_tick_80) hB (fun H locs hB => ?_)
        replace hB : Bd Γ σ_28 s H locs := hB
        exact x_vret M hB (Option.some.inj hr) dL_tick_83
def f_L_tick_26 (a4 : Int32) (a5 : Int32)  (s0 : Int32) (s1 : Int32) (σ : Sg) : Option (Int32 × Sg) :=
if s1 < 0 ∨ 14 ≤ s1.toNatClampNeg then none else
wb (st σ 150 (s1.toNatClampNeg) s0) fun σ_11 =>
some (0, σ_11)
set_option maxHeartbeats 4000000 in
set_option maxRecDepth 100000 in
theorem w_L_tick_26 {p : Program} {l : Launch} {e : Env} {s : State} {m : MethodId} {args : Array Value} {below : List Frame} {meth : Method} {c : Code} {Γ : GG} {res : Int32 × Sg} (M : MX RL cL_tick 7 none p s m args meth c) (K : KK Γ s s.heap) (a4 : Int32) (a5 : Int32) (s0 : Int32) (s1 : Int32) (σ : Sg) (H : Heap) (locs : List Loc) (ls : Array Slot)  (hB : Bd Γ σ s H locs) (hl : lv_has ls 7 []) (hr : f_L_tick_26 a4 a5  s0 s1 σ = some res) : WV Γ rm_L_tick p l e s m args below meth c H locs res (F0 m 26 ls [.int s0, .int s1, .ref (Γ.1 150)]) := by
  unfold f_L_tick_26 at hr
  obtain ⟨g_10, hr⟩ := gd hr
  obtain ⟨σ_11, e_12, hr⟩ := wbd hr
  refine x_iast M K hB isA_150 g_10 dL_tick_26 (fun H locs hB => ?_)
  rw [← e_12] at hB
  exact x_vret M hB (Option.some.inj hr) dL_tick_27
def f_L_tick_0 (a4 : Int32) (a5 : Int32)   (σ : Sg) : Option (Int32 × Sg) :=
if σ 150 0 = 0 then
wb (st σ 150 3 ((σ 150 3) - 1)) fun σ_7 =>
if σ_7 150 3 = 0 then
f_L_tick_26 a4 a5  1 0 σ_7
else
f_L_tick_26 a4 a5  0 0 σ_7
else
if σ 150 0 = 2 then
some (0, σ)
else
wb (st σ 150 4 ((σ 150 4) + 1)) fun σ_3 =>
wb (st σ_3 150 5 ((σ_3 150 5) + 1)) fun σ_5 =>
f_L_tick_53 a4 a5  FU a4 a5 0 σ_5
set_option maxHeartbeats 4000000 in
set_option maxRecDepth 100000 in
theorem w_L_tick_0 {p : Program} {l : Launch} {e : Env} {s : State} {m : MethodId} {args : Array Value} {below : List Frame} {meth : Method} {c : Code} {Γ : GG} {res : Int32 × Sg} (M : MX RL cL_tick 7 none p s m args meth c) (K : KK Γ s s.heap) (a4 : Int32) (a5 : Int32)  (σ : Sg) (H : Heap) (locs : List Loc) (ls : Array Slot)  (hB : Bd Γ σ s H locs) (hl : lv_has ls 7 [(0, .ref (Γ.1 0)), (1, .ref (Γ.1 150)), (2, .ref (Γ.1 151)), (3, .ref (Γ.1 152)), (4, .int a4), (5, .int a5)]) (hr : f_L_tick_0 a4 a5   σ = some res) : WV Γ rm_L_tick p l e s m args below meth c H locs res (F0 m 0 ls []) := by
  unfold f_L_tick_0 at hr
  refine lv_aload_n M.1 M.2.1 dL_tick_0 rfl (lv_at hl 1 rfl) ?_
  refine lv_iconst (v := 0) M.1 M.2.1 dL_tick_1 (by decide) ?_
  refine x_ialdL M K hB isA_150 (k := 0) (by decide) (by decide) dL_tick_2 ?_
  refine lv_if_ne (tgt := 28) M.1 M.2.1 dL_tick_3 (by decide) (fun c_1 => ?_) (fun c_1 => ?_)
  · rw [if_neg c_1] at hr
    refine lv_aload_n M.1 M.2.1 dL_tick_28 rfl (lv_at hl 1 rfl) ?_
    refine lv_iconst (v := 0) M.1 M.2.1 dL_tick_29 (by decide) ?_
    refine x_ialdL M K hB isA_150 (k := 0) (by decide) (by decide) dL_tick_30 ?_
    refine lv_iconst (v := 2) M.1 M.2.1 dL_tick_31 (by decide) ?_
    refine lv_icmp_ne (tgt := 36) M.1 M.2.1 dL_tick_32 (by decide) (fun c_2 => ?_) (fun c_2 => ?_)
    · rw [if_neg c_2] at hr
      refine lv_aload_n M.1 M.2.1 dL_tick_36 rfl (lv_at hl 1 rfl) ?_
      refine lv_iconst (v := 4) M.1 M.2.1 dL_tick_37 (by decide) ?_
      refine lv_dup2_11 M.1 M.2.1 dL_tick_38 rfl rfl ?_
      refine x_ialdL M K hB isA_150 (k := 4) (by decide) (by decide) dL_tick_39 ?_
      refine lv_iconst (v := 1) M.1 M.2.1 dL_tick_40 (by decide) ?_
      refine lv_iadd M.1 M.2.1 dL_tick_41 ?_
      obtain ⟨σ_3, e_4, hr⟩ := wbd hr
      refine x_iastL M K hB isA_150 (k := 4) (by decide) (by decide) dL_tick_42 (fun H locs hB => ?_)
      rw [← e_4] at hB
      refine lv_aload_n M.1 M.2.1 dL_tick_43 rfl (lv_at hl 1 rfl) ?_
      refine lv_iconst (v := 5) M.1 M.2.1 dL_tick_44 (by decide) ?_
      refine lv_dup2_11 M.1 M.2.1 dL_tick_45 rfl rfl ?_
      refine x_ialdL M K hB isA_150 (k := 5) (by decide) (by decide) dL_tick_46 ?_
      refine lv_iconst (v := 1) M.1 M.2.1 dL_tick_47 (by decide) ?_
      refine lv_iadd M.1 M.2.1 dL_tick_48 ?_
      obtain ⟨σ_5, e_6, hr⟩ := wbd hr
      refine x_iastL M K hB isA_150 (k := 5) (by decide) (by decide) dL_tick_49 (fun H locs hB => ?_)
      rw [← e_6] at hB
      refine lv_iconst (v := 0) M.1 M.2.1 dL_tick_50 (by decide) ?_
      refine lv_istore (lv' := [(6, .int 0), (0, .ref (Γ.1 0)), (1, .ref (Γ.1 150)), (2, .ref (Γ.1 151)), (3, .ref (Γ.1 152)), (4, .int a4), (5, .int a5)]) M.1 M.2.1 dL_tick_51 hl (by decide) rfl (fun ls hl => ?_)
      exact w_L_tick_53 M K a4 a5  FU a4 a5 0 _ _ _ _  hB (lv_sub hl [1, 2, 3, 4, 5, 6, 0] rfl) hr
    · rw [if_pos c_2] at hr
      exact x_vret M hB (Option.some.inj hr) dL_tick_35
  · rw [if_pos c_1] at hr
    refine lv_aload_n M.1 M.2.1 dL_tick_6 rfl (lv_at hl 1 rfl) ?_
    refine lv_iconst (v := 3) M.1 M.2.1 dL_tick_7 (by decide) ?_
    refine lv_dup2_11 M.1 M.2.1 dL_tick_8 rfl rfl ?_
    refine x_ialdL M K hB isA_150 (k := 3) (by decide) (by decide) dL_tick_9 ?_
    refine lv_iconst (v := 1) M.1 M.2.1 dL_tick_10 (by decide) ?_
    refine lv_isub M.1 M.2.1 dL_tick_11 ?_
    obtain ⟨σ_7, e_8, hr⟩ := wbd hr
    refine x_iastL M K hB isA_150 (k := 3) (by decide) (by decide) dL_tick_12 (fun H locs hB => ?_)
    rw [← e_8] at hB
    refine lv_aload_n M.1 M.2.1 dL_tick_13 rfl (lv_at hl 1 rfl) ?_
    refine lv_iconst (v := 0) M.1 M.2.1 dL_tick_14 (by decide) ?_
    refine lv_aload_n M.1 M.2.1 dL_tick_15 rfl (lv_at hl 1 rfl) ?_
    refine lv_iconst (v := 3) M.1 M.2.1 dL_tick_16 (by decide) ?_
    refine x_ialdL M K hB isA_150 (k := 3) (by decide) (by decide) dL_tick_17 ?_
    refine lv_if_ne (tgt := 25) M.1 M.2.1 dL_tick_18 (by decide) (fun c_9 => ?_) (fun c_9 => ?_)
    · rw [if_neg c_9] at hr
      refine lv_iconst (v := 0) M.1 M.2.1 dL_tick_25 (by decide) ?_
      exact w_L_tick_26 M K a4 a5  0 0 _ _ _ _  hB (lv_sub hl [] rfl) hr
    · rw [if_pos c_9] at hr
      refine lv_iconst (v := 1) M.1 M.2.1 dL_tick_21 (by decide) ?_
      refine lv_goto (tgt := 26) M.1 M.2.1 dL_tick_22 (by decide) ?_
      exact w_L_tick_26 M K a4 a5  1 0 _ _ _ _  hB (lv_sub hl [] rfl) hr
theorem c_L_tick (l : Launch) (Γ : GG) (a4 : Int32) (a5 : Int32)  (σ : Sg) (res : Int32 × Sg) (hr : f_L_tick_0 a4 a5 σ = some res) : Met l yL_tick (Cond.code yL_tick cL_tick 7 none :: gtb) rm_L_tick (va_Pc [.ref (Γ.1 0), .ref (Γ.1 150), .ref (Γ.1 151), .ref (Γ.1 152), .int a4, .int a5] (GI Γ σ)) (QV Γ res) 0 0 (AD Γ) :=
  x_metV (by decide) [.ref (Γ.1 0), .ref (Γ.1 150), .ref (Γ.1 151), .ref (Γ.1 152), .int a4, .int a5] (Nat.le_of_ble_eq_true rfl) (fun p e s m args below meth c M K ls hl hB => w_L_tick_0 M K a4 a5 σ _ _ ls hB hl hr)
