abbrev rm_X3_become : Room := { frames := 1, cells := 0, slots := 0, locals := 26 }
def f_X3_become_0 (q : Nat) (o0 : Nat)   (σ : Sg) : Option (Int32 × Sg) :=
wb (sr σ (q + 1) (va_cpy (σ (o0 + 1)) (σ (q + 1)) 0 0 8)) fun σ_1 =>
wb (sr σ_1 (q + 2) (va_cpy (σ_1 (o0 + 2)) (σ_1 (q + 2)) 0 0 2)) fun σ_3 =>
wb (sr σ_3 (q + 3) (va_cpy (σ_3 (o0 + 3)) (σ_3 (q + 3)) 0 0 2)) fun σ_5 =>
wb (sr σ_5 (q + 4) (va_cpy (σ_5 (o0 + 4)) (σ_5 (q + 4)) 0 0 2)) fun σ_7 =>
if σ_7 o0 4 = 0 ∨ σ_7 o0 4 = 1 then
wb (st σ_7 q 4 (σ_7 o0 4)) fun σ_10 =>
if σ_10 o0 5 = 0 ∨ σ_10 o0 5 = 1 then
wb (st σ_10 q 5 (σ_10 o0 5)) fun σ_13 =>
wb (st σ_13 q 6 (σ_13 o0 6)) fun σ_15 =>
wb (st σ_15 q 7 (σ_15 o0 7)) fun σ_17 =>
wb (st σ_17 q 8 (σ_17 o0 8)) fun σ_19 =>
wb (st σ_19 q 9 (σ_19 o0 9)) fun σ_21 =>
if σ_21 o0 10 = 0 ∨ σ_21 o0 10 = 1 then
wb (st σ_21 q 10 (σ_21 o0 10)) fun σ_24 =>
if σ_24 o0 11 = 0 ∨ σ_24 o0 11 = 1 then
wb (st σ_24 q 11 (σ_24 o0 11)) fun σ_27 =>
wb (st σ_27 q 12 (σ_27 o0 12)) fun σ_29 =>
if σ_29 o0 13 = 0 ∨ σ_29 o0 13 = 1 then
wb (st σ_29 q 13 (σ_29 o0 13)) fun σ_32 =>
wb (st σ_32 q 14 (σ_32 o0 14)) fun σ_34 =>
wb (st σ_34 q 15 (σ_34 o0 15)) fun σ_36 =>
some (0, σ_36) else none else none else none else none else none
set_option maxHeartbeats 4000000 in
set_option maxRecDepth 100000 in
theorem w_X3_become_0 {p : Program} {l : Launch} {e : Env} {s : State} {m : MethodId} {args : Array Value} {below : List Frame} {meth : Method} {c : Code} {Γ : GG} {res : Int32 × Sg} (M : MX RX3 cX3_become 2 none p s m args meth c) (K : KK Γ s s.heap) {q : Nat} (hq : isT q) {o0 : Nat} (ho0 : isT o0)  (σ : Sg) (H : Heap) (locs : List Loc) (ls : Array Slot)  (hB : Bd Γ σ s H locs) (hl : lv_has ls 2 [(0, .ref (Γ.1 q)), (1, .ref (Γ.1 o0))]) (hr : f_X3_become_0 q o0   σ = some res) : WV Γ rm_X3_become p l e s m args below meth c H locs res (F0 m 0 ls []) := by
  unfold f_X3_become_0 at hr
  refine lv_aload_n M.1 M.2.1 dX3_become_0 rfl (lv_at hl 1 rfl) ?_
  refine x_get3 M K hB (ho0.k) 0 (by decide) wd_17 (v := .ref (Γ.1 (o0 + 1))) rfl dX3_become_1 ?_
  refine lv_iconst (v := 0) M.1 M.2.1 dX3_become_4 (by decide) ?_
  refine lv_aload_n M.1 M.2.1 dX3_become_5 rfl (lv_at hl 0 rfl) ?_
  refine x_get3 M K hB (hq.k) 0 (by decide) wd_17 (v := .ref (Γ.1 (q + 1))) rfl dX3_become_6 ?_
  refine lv_iconst (v := 0) M.1 M.2.1 dX3_become_9 (by decide) ?_
  refine lv_bipush (v := 8) M.1 M.2.1 dX3_become_10 (by decide) ?_
  obtain ⟨σ_1, e_2, hr⟩ := wbd hr
  refine x_copy M K hB hl.1 (ho0.a1) (hq.a1) wd_18 wd_3 wd_4 wd_5 (by decide) (by decide) (by decide) (by decide) (by decide) (Nat.le_of_ble_eq_true rfl) (Nat.le_of_ble_eq_true rfl) dX3_become_12 (fun H locs hB => ?_)
  replace hB : Bd Γ (sr σ (q + 1) (va_cpy (σ (o0 + 1)) (σ (q + 1)) 0 0 8)) s H locs := hB
  rw [← e_2] at hB
  refine lv_aload_n M.1 M.2.1 dX3_become_15 rfl (lv_at hl 1 rfl) ?_
  refine x_get3 M K hB (ho0.k) 1 (by decide) wd_6 (v := .ref (Γ.1 (o0 + 2))) rfl dX3_become_16 ?_
  refine lv_iconst (v := 0) M.1 M.2.1 dX3_become_19 (by decide) ?_
  refine lv_aload_n M.1 M.2.1 dX3_become_20 rfl (lv_at hl 0 rfl) ?_
  refine x_get3 M K hB (hq.k) 1 (by decide) wd_6 (v := .ref (Γ.1 (q + 2))) rfl dX3_become_21 ?_
  refine lv_iconst (v := 0) M.1 M.2.1 dX3_become_24 (by decide) ?_
  refine lv_iconst (v := 2) M.1 M.2.1 dX3_become_25 (by decide) ?_
  obtain ⟨σ_3, e_4, hr⟩ := wbd hr
  refine x_copy M K hB hl.1 (ho0.a2) (hq.a2) wd_18 wd_3 wd_4 wd_5 (by decide) (by decide) (by decide) (by decide) (by decide) (Nat.le_of_ble_eq_true rfl) (Nat.le_of_ble_eq_true rfl) dX3_become_26 (fun H locs hB => ?_)
  replace hB : Bd Γ (sr σ_1 (q + 2) (va_cpy (σ_1 (o0 + 2)) (σ_1 (q + 2)) 0 0 2)) s H locs := hB
  rw [← e_4] at hB
  refine lv_aload_n M.1 M.2.1 dX3_become_29 rfl (lv_at hl 1 rfl) ?_
  refine x_get3 M K hB (ho0.k) 2 (by decide) wd_7 (v := .ref (Γ.1 (o0 + 3))) rfl dX3_become_30 ?_
  refine lv_iconst (v := 0) M.1 M.2.1 dX3_become_33 (by decide) ?_
  refine lv_aload_n M.1 M.2.1 dX3_become_34 rfl (lv_at hl 0 rfl) ?_
  refine x_get3 M K hB (hq.k) 2 (by decide) wd_7 (v := .ref (Γ.1 (q + 3))) rfl dX3_become_35 ?_
  refine lv_iconst (v := 0) M.1 M.2.1 dX3_become_38 (by decide) ?_
  refine lv_iconst (v := 2) M.1 M.2.1 dX3_become_39 (by decide) ?_
  obtain ⟨σ_5, e_6, hr⟩ := wbd hr
  refine x_copy M K hB hl.1 (ho0.a3) (hq.a3) wd_18 wd_3 wd_4 wd_5 (by decide) (by decide) (by decide) (by decide) (by decide) (Nat.le_of_ble_eq_true rfl) (Nat.le_of_ble_eq_true rfl) dX3_become_40 (fun H locs hB => ?_)
  replace hB : Bd Γ (sr σ_3 (q + 3) (va_cpy (σ_3 (o0 + 3)) (σ_3 (q + 3)) 0 0 2)) s H locs := hB
  rw [← e_6] at hB
  refine lv_aload_n M.1 M.2.1 dX3_become_43 rfl (lv_at hl 1 rfl) ?_
  refine x_get3 M K hB (ho0.k) 3 (by decide) wd_8 (v := .ref (Γ.1 (o0 + 4))) rfl dX3_become_44 ?_
  refine lv_iconst (v := 0) M.1 M.2.1 dX3_become_47 (by decide) ?_
  refine lv_aload_n M.1 M.2.1 dX3_become_48 rfl (lv_at hl 0 rfl) ?_
  refine x_get3 M K hB (hq.k) 3 (by decide) wd_8 (v := .ref (Γ.1 (q + 4))) rfl dX3_become_49 ?_
  refine lv_iconst (v := 0) M.1 M.2.1 dX3_become_52 (by decide) ?_
  refine lv_iconst (v := 2) M.1 M.2.1 dX3_become_53 (by decide) ?_
  obtain ⟨σ_7, e_8, hr⟩ := wbd hr
  refine x_copy M K hB hl.1 (ho0.a4) (hq.a4) wd_18 wd_3 wd_4 wd_5 (by decide) (by decide) (by decide) (by decide) (by decide) (Nat.le_of_ble_eq_true rfl) (Nat.le_of_ble_eq_true rfl) dX3_become_54 (fun H locs hB => ?_)
  replace hB : Bd Γ (sr σ_5 (q + 4) (va_cpy (σ_5 (o0 + 4)) (σ_5 (q + 4)) 0 0 2)) s H locs := hB
  rw [← e_8] at hB
  refine lv_aload_n M.1 M.2.1 dX3_become_57 rfl (lv_at hl 0 rfl) ?_
  refine lv_aload_n M.1 M.2.1 dX3_become_58 rfl (lv_at hl 1 rfl) ?_
  refine x_get3 M K hB (ho0.k) 4 (by decide) wd_9 (v := .int (σ_7 o0 4)) rfl dX3_become_59 ?_
  obtain ⟨g_9, hr⟩ := gd2 hr
  obtain ⟨σ_10, e_11, hr⟩ := wbd hr
  refine x_putz3 M K hB (hq.k) 4 (by decide) wd_9 g_9 dX3_become_62 (fun H locs hB => ?_)
  rw [← e_11] at hB
  refine lv_aload_n M.1 M.2.1 dX3_become_65 rfl (lv_at hl 0 rfl) ?_
  refine lv_aload_n M.1 M.2.1 dX3_become_66 rfl (lv_at hl 1 rfl) ?_
  refine x_get3 M K hB (ho0.k) 5 (by decide) wd_22 (v := .int (σ_10 o0 5)) rfl dX3_become_67 ?_
  obtain ⟨g_12, hr⟩ := gd2 hr
  obtain ⟨σ_13, e_14, hr⟩ := wbd hr
  refine x_putz3 M K hB (hq.k) 5 (by decide) wd_22 g_12 dX3_become_70 (fun H locs hB => ?_)
  rw [← e_14] at hB
  refine lv_aload_n M.1 M.2.1 dX3_become_73 rfl (lv_at hl 0 rfl) ?_
  refine lv_aload_n M.1 M.2.1 dX3_become_74 rfl (lv_at hl 1 rfl) ?_
  refine x_get3 M K hB (ho0.k) 6 (by decide) wd_23 (v := .int (σ_13 o0 6)) rfl dX3_become_75 ?_
  obtain ⟨σ_15, e_16, hr⟩ := wbd hr
  refine x_put3 M K hB (hq.k) 6 (by decide) wd_23 dX3_become_78 (fun H locs hB => ?_)
  rw [← e_16] at hB
  refine lv_aload_n M.1 M.2.1 dX3_become_81 rfl (lv_at hl 0 rfl) ?_
  refine lv_aload_n M.1 M.2.1 dX3_become_82 rfl (lv_at hl 1 rfl) ?_
  refine x_get3 M K hB (ho0.k) 7 (by decide) wd_24 (v := .int (σ_15 o0 7)) rfl dX3_become_83 ?_
  obtain ⟨σ_17, e_18, hr⟩ := wbd hr
  refine x_put3 M K hB (hq.k) 7 (by decide) wd_24 dX3_become_86 (fun H locs hB => ?_)
  rw [← e_18] at hB
  refine lv_aload_n M.1 M.2.1 dX3_become_89 rfl (lv_at hl 0 rfl) ?_
  refine lv_aload_n M.1 M.2.1 dX3_become_90 rfl (lv_at hl 1 rfl) ?_
  refine x_get3 M K hB (ho0.k) 8 (by decide) wd_10 (v := .int (σ_17 o0 8)) rfl dX3_become_91 ?_
  obtain ⟨σ_19, e_20, hr⟩ := wbd hr
  refine x_put3 M K hB (hq.k) 8 (by decide) wd_10 dX3_become_94 (fun H locs hB => ?_)
  rw [← e_20] at hB
  refine lv_aload_n M.1 M.2.1 dX3_become_97 rfl (lv_at hl 0 rfl) ?_
  refine lv_aload_n M.1 M.2.1 dX3_become_98 rfl (lv_at hl 1 rfl) ?_
  refine x_get3 M K hB (ho0.k) 9 (by decide) wd_11 (v := .int (σ_19 o0 9)) rfl dX3_become_99 ?_
  obtain ⟨σ_21, e_22, hr⟩ := wbd hr
  refine x_put3 M K hB (hq.k) 9 (by decide) wd_11 dX3_become_102 (fun H locs hB => ?_)
  rw [← e_22] at hB
  refine lv_aload_n M.1 M.2.1 dX3_become_105 rfl (lv_at hl 0 rfl) ?_
  refine lv_aload_n M.1 M.2.1 dX3_become_106 rfl (lv_at hl 1 rfl) ?_
  refine x_get3 M K hB (ho0.k) 10 (by decide) wd_12 (v := .int (σ_21 o0 10)) rfl dX3_become_107 ?_
  obtain ⟨g_23, hr⟩ := gd2 hr
  obtain ⟨σ_24, e_25, hr⟩ := wbd hr
  refine x_putz3 M K hB (hq.k) 10 (by decide) wd_12 g_23 dX3_become_110 (fun H locs hB => ?_)
  rw [← e_25] at hB
  refine lv_aload_n M.1 M.2.1 dX3_become_113 rfl (lv_at hl 0 rfl) ?_
  refine lv_aload_n M.1 M.2.1 dX3_become_114 rfl (lv_at hl 1 rfl) ?_
  refine x_get3 M K hB (ho0.k) 11 (by decide) wd_13 (v := .int (σ_24 o0 11)) rfl dX3_become_115 ?_
  obtain ⟨g_26, hr⟩ := gd2 hr
  obtain ⟨σ_27, e_28, hr⟩ := wbd hr
  refine x_putz3 M K hB (hq.k) 11 (by decide) wd_13 g_26 dX3_become_118 (fun H locs hB => ?_)
  rw [← e_28] at hB
  refine lv_aload_n M.1 M.2.1 dX3_become_121 rfl (lv_at hl 0 rfl) ?_
  refine lv_aload_n M.1 M.2.1 dX3_become_122 rfl (lv_at hl 1 rfl) ?_
  refine x_get3 M K hB (ho0.k) 12 (by decide) wd_14 (v := .int (σ_27 o0 12)) rfl dX3_become_123 ?_
  obtain ⟨σ_29, e_30, hr⟩ := wbd hr
  refine x_put3 M K hB (hq.k) 12 (by decide) wd_14 dX3_become_126 (fun H locs hB => ?_)
  rw [← e_30] at hB
  refine lv_aload_n M.1 M.2.1 dX3_become_129 rfl (lv_at hl 0 rfl) ?_
  refine lv_aload_n M.1 M.2.1 dX3_become_130 rfl (lv_at hl 1 rfl) ?_
  refine x_get3 M K hB (ho0.k) 13 (by decide) wd_15 (v := .int (σ_29 o0 13)) rfl dX3_become_131 ?_
  obtain ⟨g_31, hr⟩ := gd2 hr
  obtain ⟨σ_32, e_33, hr⟩ := wbd hr
  refine x_putz3 M K hB (hq.k) 13 (by decide) wd_15 g_31 dX3_become_134 (fun H locs hB => ?_)
  rw [← e_33] at hB
  refine lv_aload_n M.1 M.2.1 dX3_become_137 rfl (lv_at hl 0 rfl) ?_
  refine lv_aload_n M.1 M.2.1 dX3_become_138 rfl (lv_at hl 1 rfl) ?_
  refine x_get3 M K hB (ho0.k) 14 (by decide) wd_30 (v := .int (σ_32 o0 14)) rfl dX3_become_139 ?_
  obtain ⟨σ_34, e_35, hr⟩ := wbd hr
  refine x_put3 M K hB (hq.k) 14 (by decide) wd_30 dX3_become_142 (fun H locs hB => ?_)
  rw [← e_35] at hB
  refine lv_aload_n M.1 M.2.1 dX3_become_145 rfl (lv_at hl 0 rfl) ?_
  refine lv_aload_n M.1 M.2.1 dX3_become_146 rfl (lv_at hl 1 rfl) ?_
  refine x_get3 M K hB (ho0.k) 15 (by decide) wd_16 (v := .int (σ_34 o0 15)) rfl dX3_become_147 ?_
  obtain ⟨σ_36, e_37, hr⟩ := wbd hr
  refine x_put3 M K hB (hq.k) 15 (by decide) wd_16 dX3_become_150 (fun H locs hB => ?_)
  rw [← e_37] at hB
  exact x_vret M hB (Option.some.inj hr) dX3_become_153
theorem c_X3_become (l : Launch) (Γ : GG) (q : Nat) (o0 : Nat) (hq : isT q) (ho0 : isT o0) (σ : Sg) (res : Int32 × Sg) (hr : f_X3_become_0 q o0 σ = some res) : Met l yX3_become (Cond.code yX3_become cX3_become 2 none :: gtb) rm_X3_become (va_Pc [.ref (Γ.1 q), .ref (Γ.1 o0)] (GI Γ σ)) (QV Γ res) 0 0 (AD Γ) :=
  x_metV (by decide) [.ref (Γ.1 q), .ref (Γ.1 o0)] (Nat.le_of_ble_eq_true rfl) (fun p e s m args below meth c M K ls hl hB => w_X3_become_0 M K hq ho0 σ _ _ ls hB hl hr)
abbrev rm_X3_momentary : Room := { frames := 0, cells := 0, slots := 0, locals := 0 }
def f_X3_momentary_107 (q : Nat) (a0 : Int32)  (s0 : Int32) (σ : Sg) : Option (Int32 × Sg) :=
some (s0, σ)
set_option maxHeartbeats 4000000 in
set_option maxRecDepth 100000 in
theorem w_X3_momentary_107 {p : Program} {l : Launch} {e : Env} {s : State} {m : MethodId} {args : Array Value} {below : List Frame} {meth : Method} {c : Code} {Γ : GG} {res : Int32 × Sg} (M : MX RX3 cX3_momentary 2 (some .int) p s m args meth c) (K : KK Γ s s.heap) {q : Nat} (hq : isT q) (a0 : Int32) (s0 : Int32) (σ : Sg) (H : Heap) (locs : List Loc) (ls : Array Slot)  (hB : Bd Γ σ s H locs) (hl : lv_has ls 2 []) (hr : f_X3_momentary_107 q a0  s0 σ = some res) : WI Γ rm_X3_momentary p l e s m args below meth c H locs res (F0 m 107 ls [.int s0]) := by
  unfold f_X3_momentary_107 at hr
  exact x_iret M hB (Option.some.inj hr) dX3_momentary_107
def f_X3_momentary_94 (q : Nat) (a0 : Int32)  (s0 : Int32) (σ : Sg) : Option (Int32 × Sg) :=
some (s0, σ)
set_option maxHeartbeats 4000000 in
set_option maxRecDepth 100000 in
theorem w_X3_momentary_94 {p : Program} {l : Launch} {e : Env} {s : State} {m : MethodId} {args : Array Value} {below : List Frame} {meth : Method} {c : Code} {Γ : GG} {res : Int32 × Sg} (M : MX RX3 cX3_momentary 2 (some .int) p s m args meth c) (K : KK Γ s s.heap) {q : Nat} (hq : isT q) (a0 : Int32) (s0 : Int32) (σ : Sg) (H : Heap) (locs : List Loc) (ls : Array Slot)  (hB : Bd Γ σ s H locs) (hl : lv_has ls 2 []) (hr : f_X3_momentary_94 q a0  s0 σ = some res) : WI Γ rm_X3_momentary p l e s m args below meth c H locs res (F0 m 94 ls [.int s0]) := by
  unfold f_X3_momentary_94 at hr
  exact x_iret M hB (Option.some.inj hr) dX3_momentary_94
def f_X3_momentary_71 (q : Nat) (a0 : Int32)  (s0 : Int32) (σ : Sg) : Option (Int32 × Sg) :=
some (s0, σ)
set_option maxHeartbeats 4000000 in
set_option maxRecDepth 100000 in
theorem w_X3_momentary_71 {p : Program} {l : Launch} {e : Env} {s : State} {m : MethodId} {args : Array Value} {below : List Frame} {meth : Method} {c : Code} {Γ : GG} {res : Int32 × Sg} (M : MX RX3 cX3_momentary 2 (some .int) p s m args meth c) (K : KK Γ s s.heap) {q : Nat} (hq : isT q) (a0 : Int32) (s0 : Int32) (σ : Sg) (H : Heap) (locs : List Loc) (ls : Array Slot)  (hB : Bd Γ σ s H locs) (hl : lv_has ls 2 []) (hr : f_X3_momentary_71 q a0  s0 σ = some res) : WI Γ rm_X3_momentary p l e s m args below meth c H locs res (F0 m 71 ls [.int s0]) := by
  unfold f_X3_momentary_71 at hr
  exact x_iret M hB (Option.some.inj hr) dX3_momentary_71
def f_X3_momentary_70 (q : Nat) (a0 : Int32)   (σ : Sg) : Option (Int32 × Sg) :=
f_X3_momentary_71 q a0  0 σ
set_option maxHeartbeats 4000000 in
set_option maxRecDepth 100000 in
theorem w_X3_momentary_70 {p : Program} {l : Launch} {e : Env} {s : State} {m : MethodId} {args : Array Value} {below : List Frame} {meth : Method} {c : Code} {Γ : GG} {res : Int32 × Sg} (M : MX RX3 cX3_momentary 2 (some .int) p s m args meth c) (K : KK Γ s s.heap) {q : Nat} (hq : isT q) (a0 : Int32)  (σ : Sg) (H : Heap) (locs : List Loc) (ls : Array Slot)  (hB : Bd Γ σ s H locs) (hl : lv_has ls 2 []) (hr : f_X3_momentary_70 q a0   σ = some res) : WI Γ rm_X3_momentary p l e s m args below meth c H locs res (F0 m 70 ls []) := by
  unfold f_X3_momentary_70 at hr
  refine lv_iconst (v := 0) M.1 M.2.1 dX3_momentary_70 (by decide) ?_
  exact w_X3_momentary_71 M K hq a0  0 _ _ _ _  hB (lv_sub hl [] rfl) hr
def f_X3_momentary_48 (q : Nat) (a0 : Int32)  (s0 : Int32) (σ : Sg) : Option (Int32 × Sg) :=
some (s0, σ)
set_option maxHeartbeats 4000000 in
set_option maxRecDepth 100000 in
theorem w_X3_momentary_48 {p : Program} {l : Launch} {e : Env} {s : State} {m : MethodId} {args : Array Value} {below : List Frame} {meth : Method} {c : Code} {Γ : GG} {res : Int32 × Sg} (M : MX RX3 cX3_momentary 2 (some .int) p s m args meth c) (K : KK Γ s s.heap) {q : Nat} (hq : isT q) (a0 : Int32) (s0 : Int32) (σ : Sg) (H : Heap) (locs : List Loc) (ls : Array Slot)  (hB : Bd Γ σ s H locs) (hl : lv_has ls 2 []) (hr : f_X3_momentary_48 q a0  s0 σ = some res) : WI Γ rm_X3_momentary p l e s m args below meth c H locs res (F0 m 48 ls [.int s0]) := by
  unfold f_X3_momentary_48 at hr
  exact x_iret M hB (Option.some.inj hr) dX3_momentary_48
def f_X3_momentary_0 (q : Nat) (a0 : Int32)   (σ : Sg) : Option (Int32 × Sg) :=
if a0 = 8 then
if σ q 4 = 0 then
f_X3_momentary_48 q a0  0 σ
else
f_X3_momentary_48 q a0  1 σ
else
if a0 = 9 then
if σ q 4 = 0 then
f_X3_momentary_70 q a0   σ
else
if σ q 5 = 0 then
f_X3_momentary_71 q a0  (σ q 7) σ
else
f_X3_momentary_70 q a0   σ
else
if a0 = 10 then
some (σ q 8, σ)
else
if a0 = 11 then
some (σ q 9, σ)
else
if a0 = 12 then
if σ q 10 = 0 then
f_X3_momentary_94 q a0  0 σ
else
f_X3_momentary_94 q a0  1 σ
else
if σ q 11 = 0 then
f_X3_momentary_107 q a0  0 σ
else
f_X3_momentary_107 q a0  1 σ
set_option maxHeartbeats 4000000 in
set_option maxRecDepth 100000 in
theorem w_X3_momentary_0 {p : Program} {l : Launch} {e : Env} {s : State} {m : MethodId} {args : Array Value} {below : List Frame} {meth : Method} {c : Code} {Γ : GG} {res : Int32 × Sg} (M : MX RX3 cX3_momentary 2 (some .int) p s m args meth c) (K : KK Γ s s.heap) {q : Nat} (hq : isT q) (a0 : Int32)  (σ : Sg) (H : Heap) (locs : List Loc) (ls : Array Slot)  (hB : Bd Γ σ s H locs) (hl : lv_has ls 2 [(0, .ref (Γ.1 q)), (1, .int a0)]) (hr : f_X3_momentary_0 q a0   σ = some res) : WI Γ rm_X3_momentary p l e s m args below meth c H locs res (F0 m 0 ls []) := by
  unfold f_X3_momentary_0 at hr
  refine lv_iload_n M.1 M.2.1 dX3_momentary_0 rfl (lv_at hl 1 rfl) ?_
  by_cases c_1 : a0 = 8
  · rw [if_pos c_1] at hr
    have t_2 : Int32.toInt a0 = 8 := by rw [c_1]; decide
    refine lv_tableIn (off := 35) (tgt := 36) M.1 M.2.1 dX3_momentary_1 (by rw [t_2]; decide) (by rw [t_2]; decide) (by rw [t_2]; rfl) (by decide) ?_
    refine lv_aload_n M.1 M.2.1 dX3_momentary_36 rfl (lv_at hl 0 rfl) ?_
    refine x_get3 M K hB (hq.k) 4 (by decide) wd_9 (v := .int (σ q 4)) rfl dX3_momentary_37 ?_
    refine lv_if_eq (tgt := 47) M.1 M.2.1 dX3_momentary_40 (by decide) (fun c_3 => ?_) (fun c_3 => ?_)
    · rw [if_pos c_3] at hr
      refine lv_iconst (v := 0) M.1 M.2.1 dX3_momentary_47 (by decide) ?_
      exact w_X3_momentary_48 M K hq a0  0 _ _ _ _  hB (lv_sub hl [] rfl) hr
    · rw [if_neg c_3] at hr
      refine lv_iconst (v := 1) M.1 M.2.1 dX3_momentary_43 (by decide) ?_
      refine lv_goto (tgt := 48) M.1 M.2.1 dX3_momentary_44 (by decide) ?_
      exact w_X3_momentary_48 M K hq a0  1 _ _ _ _  hB (lv_sub hl [] rfl) hr
  · rw [if_neg c_1] at hr
    have t_2 : ¬ Int32.toInt a0 = 8 := lv_neT c_1 (by decide)
    by_cases c_4 : a0 = 9
    · rw [if_pos c_4] at hr
      have t_5 : Int32.toInt a0 = 9 := by rw [c_4]; decide
      refine lv_tableIn (off := 48) (tgt := 49) M.1 M.2.1 dX3_momentary_1 (by rw [t_5]; decide) (by rw [t_5]; decide) (by rw [t_5]; rfl) (by decide) ?_
      refine lv_aload_n M.1 M.2.1 dX3_momentary_49 rfl (lv_at hl 0 rfl) ?_
      refine x_get3 M K hB (hq.k) 4 (by decide) wd_9 (v := .int (σ q 4)) rfl dX3_momentary_50 ?_
      refine lv_if_eq (tgt := 70) M.1 M.2.1 dX3_momentary_53 (by decide) (fun c_6 => ?_) (fun c_6 => ?_)
      · rw [if_pos c_6] at hr
        exact w_X3_momentary_70 M K hq a0   _ _ _ _  hB (lv_sub hl [] rfl) hr
      · rw [if_neg c_6] at hr
        refine lv_aload_n M.1 M.2.1 dX3_momentary_56 rfl (lv_at hl 0 rfl) ?_
        refine x_get3 M K hB (hq.k) 5 (by decide) wd_22 (v := .int (σ q 5)) rfl dX3_momentary_57 ?_
        refine lv_if_ne (tgt := 70) M.1 M.2.1 dX3_momentary_60 (by decide) (fun c_7 => ?_) (fun c_7 => ?_)
        · rw [if_neg c_7] at hr
          exact w_X3_momentary_70 M K hq a0   _ _ _ _  hB (lv_sub hl [] rfl) hr
        · rw [if_pos c_7] at hr
          refine lv_aload_n M.1 M.2.1 dX3_momentary_63 rfl (lv_at hl 0 rfl) ?_
          refine x_get3 M K hB (hq.k) 7 (by decide) wd_24 (v := .int (σ q 7)) rfl dX3_momentary_64 ?_
          refine lv_goto (tgt := 71) M.1 M.2.1 dX3_momentary_67 (by decide) ?_
          exact w_X3_momentary_71 M K hq a0  (σ q 7) _ _ _ _  hB (lv_sub hl [] rfl) hr
    · rw [if_neg c_4] at hr
      have t_5 : ¬ Int32.toInt a0 = 9 := lv_neT c_4 (by decide)
      by_cases c_8 : a0 = 10
      · rw [if_pos c_8] at hr
        have t_9 : Int32.toInt a0 = 10 := by rw [c_8]; decide
        refine lv_tableIn (off := 71) (tgt := 72) M.1 M.2.1 dX3_momentary_1 (by rw [t_9]; decide) (by rw [t_9]; decide) (by rw [t_9]; rfl) (by decide) ?_
        refine lv_aload_n M.1 M.2.1 dX3_momentary_72 rfl (lv_at hl 0 rfl) ?_
        refine x_get3 M K hB (hq.k) 8 (by decide) wd_10 (v := .int (σ q 8)) rfl dX3_momentary_73 ?_
        exact x_iret M hB (Option.some.inj hr) dX3_momentary_76
      · rw [if_neg c_8] at hr
        have t_9 : ¬ Int32.toInt a0 = 10 := lv_neT c_8 (by decide)
        by_cases c_10 : a0 = 11
        · rw [if_pos c_10] at hr
          have t_11 : Int32.toInt a0 = 11 := by rw [c_10]; decide
          refine lv_tableIn (off := 76) (tgt := 77) M.1 M.2.1 dX3_momentary_1 (by rw [t_11]; decide) (by rw [t_11]; decide) (by rw [t_11]; rfl) (by decide) ?_
          refine lv_aload_n M.1 M.2.1 dX3_momentary_77 rfl (lv_at hl 0 rfl) ?_
          refine x_get3 M K hB (hq.k) 9 (by decide) wd_11 (v := .int (σ q 9)) rfl dX3_momentary_78 ?_
          exact x_iret M hB (Option.some.inj hr) dX3_momentary_81
        · rw [if_neg c_10] at hr
          have t_11 : ¬ Int32.toInt a0 = 11 := lv_neT c_10 (by decide)
          by_cases c_12 : a0 = 12
          · rw [if_pos c_12] at hr
            have t_13 : Int32.toInt a0 = 12 := by rw [c_12]; decide
            refine lv_tableIn (off := 81) (tgt := 82) M.1 M.2.1 dX3_momentary_1 (by rw [t_13]; decide) (by rw [t_13]; decide) (by rw [t_13]; rfl) (by decide) ?_
            refine lv_aload_n M.1 M.2.1 dX3_momentary_82 rfl (lv_at hl 0 rfl) ?_
            refine x_get3 M K hB (hq.k) 10 (by decide) wd_12 (v := .int (σ q 10)) rfl dX3_momentary_83 ?_
            refine lv_if_eq (tgt := 93) M.1 M.2.1 dX3_momentary_86 (by decide) (fun c_14 => ?_) (fun c_14 => ?_)
            · rw [if_pos c_14] at hr
              refine lv_iconst (v := 0) M.1 M.2.1 dX3_momentary_93 (by decide) ?_
              exact w_X3_momentary_94 M K hq a0  0 _ _ _ _  hB (lv_sub hl [] rfl) hr
            · rw [if_neg c_14] at hr
              refine lv_iconst (v := 1) M.1 M.2.1 dX3_momentary_89 (by decide) ?_
              refine lv_goto (tgt := 94) M.1 M.2.1 dX3_momentary_90 (by decide) ?_
              exact w_X3_momentary_94 M K hq a0  1 _ _ _ _  hB (lv_sub hl [] rfl) hr
          · rw [if_neg c_12] at hr
            have t_13 : ¬ Int32.toInt a0 = 12 := lv_neT c_12 (by decide)
            refine lv_tableOut (tgt := 95) M.1 M.2.1 dX3_momentary_1 (by omega) (by decide) ?_
            refine lv_aload_n M.1 M.2.1 dX3_momentary_95 rfl (lv_at hl 0 rfl) ?_
            refine x_get3 M K hB (hq.k) 11 (by decide) wd_13 (v := .int (σ q 11)) rfl dX3_momentary_96 ?_
            refine lv_if_eq (tgt := 106) M.1 M.2.1 dX3_momentary_99 (by decide) (fun c_15 => ?_) (fun c_15 => ?_)
            · rw [if_pos c_15] at hr
              refine lv_iconst (v := 0) M.1 M.2.1 dX3_momentary_106 (by decide) ?_
              exact w_X3_momentary_107 M K hq a0  0 _ _ _ _  hB (lv_sub hl [] rfl) hr
            · rw [if_neg c_15] at hr
              refine lv_iconst (v := 1) M.1 M.2.1 dX3_momentary_102 (by decide) ?_
              refine lv_goto (tgt := 107) M.1 M.2.1 dX3_momentary_103 (by decide) ?_
              exact w_X3_momentary_107 M K hq a0  1 _ _ _ _  hB (lv_sub hl [] rfl) hr
theorem c_X3_momentary (l : Launch) (Γ : GG) (q : Nat) (a0 : Int32) (hq : isT q) (σ : Sg) (res : Int32 × Sg) (hr : f_X3_momentary_0 q a0 σ = some res) : Met l yX3_momentary (Cond.code yX3_momentary cX3_momentary 2 (some .int) :: gtb) rm_X3_momentary (va_Pc [.ref (Γ.1 q), .int a0] (GI Γ σ)) (QI Γ res) 0 0 (AD Γ) :=
  x_metI (by decide) [.ref (Γ.1 q), .int a0] (Nat.le_of_ble_eq_true rfl) (fun p e s m args below meth c M K ls hl hB => w_X3_momentary_0 M K hq a0 σ _ _ ls hB hl hr)
abbrev rm_X0_tickBooting : Room := { frames := 1, cells := 0, slots := 0, locals := 20 }
def f_X0_tickBooting_45 (q : Nat)  : Nat → Int32 → Sg → Option (Int32 × Sg)
  | 0, _, _ => none
  | f + 1, x1, σ => if σ q 3 ≤ x1 then
some (0, σ)
else
if x1 < 0 ∨ 6 ≤ x1.toNatClampNeg then none else
cb (f_X3_beginRun_0 (q + 2 + 3 + 5 * x1.toNatClampNeg) σ) fun v_16 σ_17 =>
f_X0_tickBooting_45 q  f (x1 + 1) σ_17
set_option maxHeartbeats 4000000 in
set_option maxRecDepth 100000 in
theorem w_X0_tickBooting_45 {p : Program} {l : Launch} {e : Env} {s : State} {m : MethodId} {args : Array Value} {below : List Frame} {meth : Method} {c : Code} {Γ : GG} {res : Int32 × Sg} (M : MX RX0 cX0_tickBooting 2 none p s m args meth c) (K : KK Γ s s.heap) {q : Nat} (hq : isB q) : ∀ (f : Nat) (x1 : Int32) (σ : Sg) (H : Heap) (locs : List Loc) (ls : Array Slot)  (hB : Bd Γ σ s H locs) (hl : lv_has ls 2 [(0, .ref (Γ.1 q)), (1, .int x1)]) (hr : f_X0_tickBooting_45 q  f x1 σ = some res), WV Γ rm_X0_tickBooting p l e s m args below meth c H locs res (F0 m 45 ls []) := by
  intro f
  induction f with
  | zero => intros; rename_i hr; exact absurd hr (by rw [f_X0_tickBooting_45]; exact fun h => by cases h)
  | succ f ih_45 =>
    intro x1 σ H locs ls  hB hl hr
    rw [f_X0_tickBooting_45] at hr
    refine lv_iload_n M.1 M.2.1 dX0_tickBooting_45 rfl (lv_at hl 1 rfl) ?_
    refine lv_aload_n M.1 M.2.1 dX0_tickBooting_46 rfl (lv_at hl 0 rfl) ?_
    refine x_get0 M K hB (hq.k) 3 (by decide) wd_37 (v := .int (σ q 3)) rfl dX0_tickBooting_47 ?_
    refine lv_icmp_ge (tgt := 68) M.1 M.2.1 dX0_tickBooting_50 (by decide) (fun c_14 => ?_) (fun c_14 => ?_)
    · rw [if_pos c_14] at hr
      exact x_vret M hB (Option.some.inj hr) dX0_tickBooting_68
    · rw [if_neg c_14] at hr
      refine lv_aload_n M.1 M.2.1 dX0_tickBooting_53 rfl (lv_at hl 0 rfl) ?_
      refine x_get0 M K hB (hq.k) 1 (by decide) wd_38 (v := .ref (Γ.1 (q + 2))) rfl dX0_tickBooting_54 ?_
      refine lv_iload_n M.1 M.2.1 dX0_tickBooting_57 rfl (lv_at hl 1 rfl) ?_
      obtain ⟨g_15, hr⟩ := gd hr
      refine x_aaldT M K hB (hq.k2) g_15 dX0_tickBooting_58 ?_
      obtain ⟨v_16, σ_17, h_18, hr⟩ := cbd hr
      refine x_callV (x_runV M K hB hl.1 [] (rest := []) rfl (c_X3_beginRun l Γ (q + 2 + 3 + 5 * x1.toNatClampNeg) (isB.t hq (vp_lt g_15)) σ (v_16, σ_17) h_18) cy_X3_beginRun (x_recv K hB ((isB.t hq (vp_lt g_15)).k).2 (ent_3 ((isB.t hq (vp_lt g_15)).k).1) rfl) wd_39 ⟨rfl, rfl, Nat.le_of_ble_eq_true rfl, Nat.le_of_ble_eq_true rfl⟩ (Nat.le_of_ble_eq_true rfl) ⟨Nat.zero_le _, Nat.zero_le _⟩ dX0_tickBooting_59) hB (fun H locs hB => ?_)
      replace hB : Bd Γ σ_17 s H locs := hB
      refine lv_iinc (v := x1 + 1) (lv' := [(1, .int (x1 + 1)), (0, .ref (Γ.1 q))]) M.1 M.2.1 dX0_tickBooting_62 hl (k := 1) rfl rfl (by decide) rfl (fun ls hl => ?_)
      refine lv_goto (tgt := 45) M.1 M.2.1 dX0_tickBooting_65 (by decide) ?_
      exact ih_45 (x1 + 1) _ _ _ _  hB (lv_sub hl [1, 0] rfl) hr
def f_X0_tickBooting_0 (q : Nat)   (σ : Sg) : Option (Int32 × Sg) :=
wb (st σ q 8 ((σ q 8) - 1)) fun σ_1 =>
if σ_1 q 8 ≤ 0 then
wb (st σ_1 q 5 1) fun σ_4 =>
wb (st σ_4 q 9 0) fun σ_6 =>
wb (st σ_6 q 10 0) fun σ_8 =>
wb (st σ_8 q 11 0) fun σ_10 =>
wb (st σ_10 q 12 0) fun σ_12 =>
f_X0_tickBooting_45 q  FU 0 σ_12
else
some (0, σ_1)
set_option maxHeartbeats 4000000 in
set_option maxRecDepth 100000 in
theorem w_X0_tickBooting_0 {p : Program} {l : Launch} {e : Env} {s : State} {m : MethodId} {args : Array Value} {below : List Frame} {meth : Method} {c : Code} {Γ : GG} {res : Int32 × Sg} (M : MX RX0 cX0_tickBooting 2 none p s m args meth c) (K : KK Γ s s.heap) {q : Nat} (hq : isB q)  (σ : Sg) (H : Heap) (locs : List Loc) (ls : Array Slot)  (hB : Bd Γ σ s H locs) (hl : lv_has ls 2 [(0, .ref (Γ.1 q))]) (hr : f_X0_tickBooting_0 q   σ = some res) : WV Γ rm_X0_tickBooting p l e s m args below meth c H locs res (F0 m 0 ls []) := by
  unfold f_X0_tickBooting_0 at hr
  refine lv_aload_n M.1 M.2.1 dX0_tickBooting_0 rfl (lv_at hl 0 rfl) ?_
  refine lv_dup M.1 M.2.1 dX0_tickBooting_1 rfl ?_
  refine x_get0 M K hB (hq.k) 8 (by decide) wd_31 (v := .int (σ q 8)) rfl dX0_tickBooting_2 ?_
  refine lv_iconst (v := 1) M.1 M.2.1 dX0_tickBooting_5 (by decide) ?_
  refine lv_isub M.1 M.2.1 dX0_tickBooting_6 ?_
  obtain ⟨σ_1, e_2, hr⟩ := wbd hr
  refine x_put0 M K hB (hq.k) 8 (by decide) wd_31 dX0_tickBooting_7 (fun H locs hB => ?_)
  rw [← e_2] at hB
  refine lv_aload_n M.1 M.2.1 dX0_tickBooting_10 rfl (lv_at hl 0 rfl) ?_
  refine x_get0 M K hB (hq.k) 8 (by decide) wd_31 (v := .int (σ_1 q 8)) rfl dX0_tickBooting_11 ?_
  refine lv_if_le (tgt := 18) M.1 M.2.1 dX0_tickBooting_14 (by decide) (fun c_3 => ?_) (fun c_3 => ?_)
  · rw [if_pos c_3] at hr
    refine lv_aload_n M.1 M.2.1 dX0_tickBooting_18 rfl (lv_at hl 0 rfl) ?_
    refine lv_iconst (v := 1) M.1 M.2.1 dX0_tickBooting_19 (by decide) ?_
    obtain ⟨σ_4, e_5, hr⟩ := wbd hr
    refine x_put0 M K hB (hq.k) 5 (by decide) wd_32 dX0_tickBooting_20 (fun H locs hB => ?_)
    rw [← e_5] at hB
    refine lv_aload_n M.1 M.2.1 dX0_tickBooting_23 rfl (lv_at hl 0 rfl) ?_
    refine lv_iconst (v := 0) M.1 M.2.1 dX0_tickBooting_24 (by decide) ?_
    obtain ⟨σ_6, e_7, hr⟩ := wbd hr
    refine x_put0 M K hB (hq.k) 9 (by decide) wd_33 dX0_tickBooting_25 (fun H locs hB => ?_)
    rw [← e_7] at hB
    refine lv_aload_n M.1 M.2.1 dX0_tickBooting_28 rfl (lv_at hl 0 rfl) ?_
    refine lv_iconst (v := 0) M.1 M.2.1 dX0_tickBooting_29 (by decide) ?_
    obtain ⟨σ_8, e_9, hr⟩ := wbd hr
    refine x_put0 M K hB (hq.k) 10 (by decide) wd_34 dX0_tickBooting_30 (fun H locs hB => ?_)
    rw [← e_9] at hB
    refine lv_aload_n M.1 M.2.1 dX0_tickBooting_33 rfl (lv_at hl 0 rfl) ?_
    refine lv_iconst (v := 0) M.1 M.2.1 dX0_tickBooting_34 (by decide) ?_
    obtain ⟨σ_10, e_11, hr⟩ := wbd hr
    refine x_put0 M K hB (hq.k) 11 (by decide) wd_35 dX0_tickBooting_35 (fun H locs hB => ?_)
    rw [← e_11] at hB
    refine lv_aload_n M.1 M.2.1 dX0_tickBooting_38 rfl (lv_at hl 0 rfl) ?_
    refine lv_iconst (v := 0) M.1 M.2.1 dX0_tickBooting_39 (by decide) ?_
    obtain ⟨σ_12, e_13, hr⟩ := wbd hr
    refine x_put0 M K hB (hq.k) 12 (by decide) wd_36 dX0_tickBooting_40 (fun H locs hB => ?_)
    rw [← e_13] at hB
    refine lv_iconst (v := 0) M.1 M.2.1 dX0_tickBooting_43 (by decide) ?_
    refine lv_istore_n (lv' := [(1, .int 0), (0, .ref (Γ.1 q))]) M.1 M.2.1 dX0_tickBooting_44 rfl hl (by decide) rfl (fun ls hl => ?_)
    exact w_X0_tickBooting_45 M K hq  FU 0 _ _ _ _  hB (lv_sub hl [1, 0] rfl) hr
  · rw [if_neg c_3] at hr
    exact x_vret M hB (Option.some.inj hr) dX0_tickBooting_17
theorem c_X0_tickBooting (l : Launch) (Γ : GG) (q : Nat) (hq : isB q) (σ : Sg) (res : Int32 × Sg) (hr : f_X0_tickBooting_0 q σ = some res) : Met l yX0_tickBooting (Cond.code yX0_tickBooting cX0_tickBooting 2 none :: gtb) rm_X0_tickBooting (va_Pc [.ref (Γ.1 q)] (GI Γ σ)) (QV Γ res) 0 0 (AD Γ) :=
  x_metV (by decide) [.ref (Γ.1 q)] (Nat.le_of_ble_eq_true rfl) (fun p e s m args below meth c M K ls hl hB => w_X0_tickBooting_0 M K hq σ _ _ ls hB hl hr)
abbrev rm_X0_boot : Room := { frames := 0, cells := 0, slots := 0, locals := 0 }
def f_X0_boot_0 (q : Nat)   (σ : Sg) : Option (Int32 × Sg) :=
wb (st σ q 5 0) fun σ_1 =>
wb (st σ_1 q 8 (σ_1 (q + 1) 5)) fun σ_3 =>
some (0, σ_3)
set_option maxHeartbeats 4000000 in
set_option maxRecDepth 100000 in
theorem w_X0_boot_0 {p : Program} {l : Launch} {e : Env} {s : State} {m : MethodId} {args : Array Value} {below : List Frame} {meth : Method} {c : Code} {Γ : GG} {res : Int32 × Sg} (M : MX RX0 cX0_boot 1 none p s m args meth c) (K : KK Γ s s.heap) {q : Nat} (hq : isB q)  (σ : Sg) (H : Heap) (locs : List Loc) (ls : Array Slot)  (hB : Bd Γ σ s H locs) (hl : lv_has ls 1 [(0, .ref (Γ.1 q))]) (hr : f_X0_boot_0 q   σ = some res) : WV Γ rm_X0_boot p l e s m args below meth c H locs res (F0 m 0 ls []) := by
  unfold f_X0_boot_0 at hr
  refine lv_aload_n M.1 M.2.1 dX0_boot_0 rfl (lv_at hl 0 rfl) ?_
  refine lv_iconst (v := 0) M.1 M.2.1 dX0_boot_1 (by decide) ?_
  obtain ⟨σ_1, e_2, hr⟩ := wbd hr
  refine x_put0 M K hB (hq.k) 5 (by decide) wd_32 dX0_boot_2 (fun H locs hB => ?_)
  rw [← e_2] at hB
  refine lv_aload_n M.1 M.2.1 dX0_boot_5 rfl (lv_at hl 0 rfl) ?_
  refine lv_aload_n M.1 M.2.1 dX0_boot_6 rfl (lv_at hl 0 rfl) ?_
  refine x_get0 M K hB (hq.k) 0 (by decide) wd_40 (v := .ref (Γ.1 (q + 1))) rfl dX0_boot_7 ?_
  refine lv_iconst (v := 5) M.1 M.2.1 dX0_boot_10 (by decide) ?_
  refine x_ialdL M K hB (hq.a1) (k := 5) (by decide) (by decide) dX0_boot_11 ?_
  obtain ⟨σ_3, e_4, hr⟩ := wbd hr
  refine x_put0 M K hB (hq.k) 8 (by decide) wd_31 dX0_boot_12 (fun H locs hB => ?_)
  rw [← e_4] at hB
  exact x_vret M hB (Option.some.inj hr) dX0_boot_15
theorem c_X0_boot (l : Launch) (Γ : GG) (q : Nat) (hq : isB q) (σ : Sg) (res : Int32 × Sg) (hr : f_X0_boot_0 q σ = some res) : Met l yX0_boot (Cond.code yX0_boot cX0_boot 1 none :: gtb) rm_X0_boot (va_Pc [.ref (Γ.1 q)] (GI Γ σ)) (QV Γ res) 0 0 (AD Γ) :=
  x_metV (by decide) [.ref (Γ.1 q)] (Nat.le_of_ble_eq_true rfl) (fun p e s m args below meth c M K ls hl hB => w_X0_boot_0 M K hq σ _ _ ls hB hl hr)
abbrev rm_X0_fall : Room := { frames := 1, cells := 0, slots := 0, locals := 26 }
def f_X0_fall_110 (q : Nat) (a0 : Int32) (a1 : Int32)   (σ : Sg) : Option (Int32 × Sg) :=
cb (f_X0_boot_0 q σ) fun v_21 σ_22 =>
some (0, σ_22)
set_option maxHeartbeats 4000000 in
set_option maxRecDepth 100000 in
theorem w_X0_fall_110 {p : Program} {l : Launch} {e : Env} {s : State} {m : MethodId} {args : Array Value} {below : List Frame} {meth : Method} {c : Code} {Γ : GG} {res : Int32 × Sg} (M : MX RX0 cX0_fall 4 none p s m args meth c) (K : KK Γ s s.heap) {q : Nat} (hq : isB q) (a0 : Int32) (a1 : Int32)  (σ : Sg) (H : Heap) (locs : List Loc) (ls : Array Slot)  (hB : Bd Γ σ s H locs) (hl : lv_has ls 4 [(0, .ref (Γ.1 q))]) (hr : f_X0_fall_110 q a0 a1   σ = some res) : WV Γ rm_X0_fall p l e s m args below meth c H locs res (F0 m 110 ls []) := by
  unfold f_X0_fall_110 at hr
  refine lv_aload_n M.1 M.2.1 dX0_fall_110 rfl (lv_at hl 0 rfl) ?_
  obtain ⟨v_21, σ_22, h_23, hr⟩ := cbd hr
  refine x_callV (x_runV M K hB hl.1 [] (rest := []) rfl (c_X0_boot l Γ q hq σ (v_21, σ_22) h_23) cy_X0_boot (x_recv K hB (hq.k).2 (ent_0 (hq.k).1) rfl) wd_47 ⟨rfl, rfl, Nat.le_of_ble_eq_true rfl, Nat.le_of_ble_eq_true rfl⟩ (Nat.le_of_ble_eq_true rfl) ⟨Nat.zero_le _, Nat.zero_le _⟩ dX0_fall_111) hB (fun H locs hB => ?_)
  replace hB : Bd Γ σ_22 s H locs := hB
  exact x_vret M hB (Option.some.inj hr) dX0_fall_114
def f_X0_fall_96 (q : Nat) (a0 : Int32) (a1 : Int32)  (x3 : Int32) (σ : Sg) : Option (Int32 × Sg) :=
if x3 = 0 then
f_X0_fall_110 q a0 a1   σ
else
wb (st σ q 6 1) fun σ_17 =>
wb (st σ_17 q 7 0) fun σ_19 =>
f_X0_fall_110 q a0 a1   σ_19
set_option maxHeartbeats 4000000 in
set_option maxRecDepth 100000 in
theorem w_X0_fall_96 {p : Program} {l : Launch} {e : Env} {s : State} {m : MethodId} {args : Array Value} {below : List Frame} {meth : Method} {c : Code} {Γ : GG} {res : Int32 × Sg} (M : MX RX0 cX0_fall 4 none p s m args meth c) (K : KK Γ s s.heap) {q : Nat} (hq : isB q) (a0 : Int32) (a1 : Int32) (x3 : Int32) (σ : Sg) (H : Heap) (locs : List Loc) (ls : Array Slot)  (hB : Bd Γ σ s H locs) (hl : lv_has ls 4 [(0, .ref (Γ.1 q)), (3, .int x3)]) (hr : f_X0_fall_96 q a0 a1  x3 σ = some res) : WV Γ rm_X0_fall p l e s m args below meth c H locs res (F0 m 96 ls []) := by
  unfold f_X0_fall_96 at hr
  refine lv_iload_n M.1 M.2.1 dX0_fall_96 rfl (lv_at hl 1 rfl) ?_
  refine lv_if_eq (tgt := 110) M.1 M.2.1 dX0_fall_97 (by decide) (fun c_16 => ?_) (fun c_16 => ?_)
  · rw [if_pos c_16] at hr
    exact w_X0_fall_110 M K hq a0 a1   _ _ _ _  hB (lv_sub hl [0] rfl) hr
  · rw [if_neg c_16] at hr
    refine lv_aload_n M.1 M.2.1 dX0_fall_100 rfl (lv_at hl 0 rfl) ?_
    refine lv_iconst (v := 1) M.1 M.2.1 dX0_fall_101 (by decide) ?_
    obtain ⟨σ_17, e_18, hr⟩ := wbd hr
    refine x_put0 M K hB (hq.k) 6 (by decide) wd_43 dX0_fall_102 (fun H locs hB => ?_)
    rw [← e_18] at hB
    refine lv_aload_n M.1 M.2.1 dX0_fall_105 rfl (lv_at hl 0 rfl) ?_
    refine lv_iconst (v := 0) M.1 M.2.1 dX0_fall_106 (by decide) ?_
    obtain ⟨σ_19, e_20, hr⟩ := wbd hr
    refine x_put0 M K hB (hq.k) 7 (by decide) wd_46 dX0_fall_107 (fun H locs hB => ?_)
    rw [← e_20] at hB
    exact w_X0_fall_110 M K hq a0 a1   _ _ _ _  hB (lv_sub hl [0] rfl) hr
def f_X0_fall_77 (q : Nat) (a0 : Int32) (a1 : Int32)  (s0 : Int32) (σ : Sg) : Option (Int32 × Sg) :=
if s0 = 0 then
f_X0_fall_96 q a0 a1  s0 σ
else
if σ q 6 = 1 then
wb (st σ q 5 2) fun σ_14 =>
some (0, σ_14)
else
f_X0_fall_96 q a0 a1  s0 σ
set_option maxHeartbeats 4000000 in
set_option maxRecDepth 100000 in
theorem w_X0_fall_77 {p : Program} {l : Launch} {e : Env} {s : State} {m : MethodId} {args : Array Value} {below : List Frame} {meth : Method} {c : Code} {Γ : GG} {res : Int32 × Sg} (M : MX RX0 cX0_fall 4 none p s m args meth c) (K : KK Γ s s.heap) {q : Nat} (hq : isB q) (a0 : Int32) (a1 : Int32) (s0 : Int32) (σ : Sg) (H : Heap) (locs : List Loc) (ls : Array Slot)  (hB : Bd Γ σ s H locs) (hl : lv_has ls 4 [(0, .ref (Γ.1 q))]) (hr : f_X0_fall_77 q a0 a1  s0 σ = some res) : WV Γ rm_X0_fall p l e s m args below meth c H locs res (F0 m 77 ls [.int s0]) := by
  unfold f_X0_fall_77 at hr
  refine lv_istore_n (lv' := [(3, .int s0), (0, .ref (Γ.1 q))]) M.1 M.2.1 dX0_fall_77 rfl hl (by decide) rfl (fun ls hl => ?_)
  refine lv_iload_n M.1 M.2.1 dX0_fall_78 rfl (lv_at hl 0 rfl) ?_
  refine lv_if_eq (tgt := 96) M.1 M.2.1 dX0_fall_79 (by decide) (fun c_12 => ?_) (fun c_12 => ?_)
  · rw [if_pos c_12] at hr
    exact w_X0_fall_96 M K hq a0 a1  s0 _ _ _ _  hB (lv_sub hl [1, 0] rfl) hr
  · rw [if_neg c_12] at hr
    refine lv_aload_n M.1 M.2.1 dX0_fall_82 rfl (lv_at hl 1 rfl) ?_
    refine x_get0 M K hB (hq.k) 6 (by decide) wd_43 (v := .int (σ q 6)) rfl dX0_fall_83 ?_
    refine lv_iconst (v := 1) M.1 M.2.1 dX0_fall_86 (by decide) ?_
    refine lv_icmp_ne (tgt := 96) M.1 M.2.1 dX0_fall_87 (by decide) (fun c_13 => ?_) (fun c_13 => ?_)
    · rw [if_neg c_13] at hr
      exact w_X0_fall_96 M K hq a0 a1  s0 _ _ _ _  hB (lv_sub hl [1, 0] rfl) hr
    · rw [if_pos c_13] at hr
      refine lv_aload_n M.1 M.2.1 dX0_fall_90 rfl (lv_at hl 1 rfl) ?_
      refine lv_iconst (v := 2) M.1 M.2.1 dX0_fall_91 (by decide) ?_
      obtain ⟨σ_14, e_15, hr⟩ := wbd hr
      refine x_put0 M K hB (hq.k) 5 (by decide) wd_32 dX0_fall_92 (fun H locs hB => ?_)
      rw [← e_15] at hB
      exact x_vret M hB (Option.some.inj hr) dX0_fall_95
def f_X0_fall_48 (q : Nat) (a0 : Int32) (a1 : Int32)   (σ : Sg) : Option (Int32 × Sg) :=
wb (st σ q 7 ((σ q 7) + 1)) fun σ_9 =>
if σ_9 q 7 < σ_9 (q + 1) 7 then
f_X0_fall_77 q a0 a1  0 σ_9
else
f_X0_fall_77 q a0 a1  1 σ_9
set_option maxHeartbeats 4000000 in
set_option maxRecDepth 100000 in
theorem w_X0_fall_48 {p : Program} {l : Launch} {e : Env} {s : State} {m : MethodId} {args : Array Value} {below : List Frame} {meth : Method} {c : Code} {Γ : GG} {res : Int32 × Sg} (M : MX RX0 cX0_fall 4 none p s m args meth c) (K : KK Γ s s.heap) {q : Nat} (hq : isB q) (a0 : Int32) (a1 : Int32)  (σ : Sg) (H : Heap) (locs : List Loc) (ls : Array Slot)  (hB : Bd Γ σ s H locs) (hl : lv_has ls 4 [(0, .ref (Γ.1 q))]) (hr : f_X0_fall_48 q a0 a1   σ = some res) : WV Γ rm_X0_fall p l e s m args below meth c H locs res (F0 m 48 ls []) := by
  unfold f_X0_fall_48 at hr
  refine lv_aload_n M.1 M.2.1 dX0_fall_48 rfl (lv_at hl 0 rfl) ?_
  refine lv_dup M.1 M.2.1 dX0_fall_49 rfl ?_
  refine x_get0 M K hB (hq.k) 7 (by decide) wd_46 (v := .int (σ q 7)) rfl dX0_fall_50 ?_
  refine lv_iconst (v := 1) M.1 M.2.1 dX0_fall_53 (by decide) ?_
  refine lv_iadd M.1 M.2.1 dX0_fall_54 ?_
  obtain ⟨σ_9, e_10, hr⟩ := wbd hr
  refine x_put0 M K hB (hq.k) 7 (by decide) wd_46 dX0_fall_55 (fun H locs hB => ?_)
  rw [← e_10] at hB
  refine lv_aload_n M.1 M.2.1 dX0_fall_58 rfl (lv_at hl 0 rfl) ?_
  refine x_get0 M K hB (hq.k) 7 (by decide) wd_46 (v := .int (σ_9 q 7)) rfl dX0_fall_59 ?_
  refine lv_aload_n M.1 M.2.1 dX0_fall_62 rfl (lv_at hl 0 rfl) ?_
  refine x_get0 M K hB (hq.k) 0 (by decide) wd_40 (v := .ref (Γ.1 (q + 1))) rfl dX0_fall_63 ?_
  refine lv_bipush (v := 7) M.1 M.2.1 dX0_fall_66 (by decide) ?_
  refine x_ialdL M K hB (hq.a1) (k := 7) (by decide) (by decide) dX0_fall_68 ?_
  refine lv_icmp_lt (tgt := 76) M.1 M.2.1 dX0_fall_69 (by decide) (fun c_11 => ?_) (fun c_11 => ?_)
  · rw [if_pos c_11] at hr
    refine lv_iconst (v := 0) M.1 M.2.1 dX0_fall_76 (by decide) ?_
    exact w_X0_fall_77 M K hq a0 a1  0 _ _ _ _  hB (lv_sub hl [0] rfl) hr
  · rw [if_neg c_11] at hr
    refine lv_iconst (v := 1) M.1 M.2.1 dX0_fall_72 (by decide) ?_
    refine lv_goto (tgt := 77) M.1 M.2.1 dX0_fall_73 (by decide) ?_
    exact w_X0_fall_77 M K hq a0 a1  1 _ _ _ _  hB (lv_sub hl [0] rfl) hr
def f_X0_fall_0 (q : Nat) (a0 : Int32) (a1 : Int32)   (σ : Sg) : Option (Int32 × Sg) :=
cb (f_X1_add_0 (q + 3) a0 (σ q 4) a1 (σ q 6) (σ q 9) σ) fun v_1 σ_2 =>
if a1 < 0 then
f_X0_fall_48 q a0 a1   σ_2
else
if σ_2 q 3 ≤ a1 then
f_X0_fall_48 q a0 a1   σ_2
else
if a1 < 0 ∨ 6 ≤ a1.toNatClampNeg then none else
wb (st σ_2 (q + 2 + 3 + 5 * a1.toNatClampNeg) 15 ((σ_2 (q + 2 + 3 + 5 * a1.toNatClampNeg) 15) + 1)) fun σ_7 =>
f_X0_fall_48 q a0 a1   σ_7
set_option maxHeartbeats 4000000 in
set_option maxRecDepth 100000 in
theorem w_X0_fall_0 {p : Program} {l : Launch} {e : Env} {s : State} {m : MethodId} {args : Array Value} {below : List Frame} {meth : Method} {c : Code} {Γ : GG} {res : Int32 × Sg} (M : MX RX0 cX0_fall 4 none p s m args meth c) (K : KK Γ s s.heap) {q : Nat} (hq : isB q) (a0 : Int32) (a1 : Int32)  (σ : Sg) (H : Heap) (locs : List Loc) (ls : Array Slot)  (hB : Bd Γ σ s H locs) (hl : lv_has ls 4 [(0, .ref (Γ.1 q)), (1, .int a0), (2, .int a1)]) (hr : f_X0_fall_0 q a0 a1   σ = some res) : WV Γ rm_X0_fall p l e s m args below meth c H locs res (F0 m 0 ls []) := by
  unfold f_X0_fall_0 at hr
  refine lv_aload_n M.1 M.2.1 dX0_fall_0 rfl (lv_at hl 0 rfl) ?_
  refine x_get0 M K hB (hq.k) 2 (by decide) wd_41 (v := .ref (Γ.1 (q + 3))) rfl dX0_fall_1 ?_
  refine lv_iload_n M.1 M.2.1 dX0_fall_4 rfl (lv_at hl 1 rfl) ?_
  refine lv_aload_n M.1 M.2.1 dX0_fall_5 rfl (lv_at hl 0 rfl) ?_
  refine x_get0 M K hB (hq.k) 4 (by decide) wd_42 (v := .int (σ q 4)) rfl dX0_fall_6 ?_
  refine lv_iload_n M.1 M.2.1 dX0_fall_9 rfl (lv_at hl 2 rfl) ?_
  refine lv_aload_n M.1 M.2.1 dX0_fall_10 rfl (lv_at hl 0 rfl) ?_
  refine x_get0 M K hB (hq.k) 6 (by decide) wd_43 (v := .int (σ q 6)) rfl dX0_fall_11 ?_
  refine lv_aload_n M.1 M.2.1 dX0_fall_14 rfl (lv_at hl 0 rfl) ?_
  refine x_get0 M K hB (hq.k) 9 (by decide) wd_33 (v := .int (σ q 9)) rfl dX0_fall_15 ?_
  obtain ⟨v_1, σ_2, h_3, hr⟩ := cbd hr
  refine x_callV (x_runV M K hB hl.1 [.int a0, .int (σ q 4), .int a1, .int (σ q 6), .int (σ q 9)] (rest := []) rfl (c_X1_add l Γ (q + 3) a0 (σ q 4) a1 (σ q 6) (σ q 9) hq.bk σ (v_1, σ_2) h_3) cy_X1_add (x_recv K hB (hq.bk.k).2 (ent_1 (hq.bk.k).1) rfl) wd_44 ⟨rfl, rfl, Nat.le_of_ble_eq_true rfl, Nat.le_of_ble_eq_true rfl⟩ (Nat.le_of_ble_eq_true rfl) ⟨Nat.zero_le _, Nat.zero_le _⟩ dX0_fall_18) hB (fun H locs hB => ?_)
  replace hB : Bd Γ σ_2 s H locs := hB
  refine lv_iload_n M.1 M.2.1 dX0_fall_21 rfl (lv_at hl 2 rfl) ?_
  refine lv_if_lt (tgt := 48) M.1 M.2.1 dX0_fall_22 (by decide) (fun c_4 => ?_) (fun c_4 => ?_)
  · rw [if_pos c_4] at hr
    exact w_X0_fall_48 M K hq a0 a1   _ _ _ _  hB (lv_sub hl [0] rfl) hr
  · rw [if_neg c_4] at hr
    refine lv_iload_n M.1 M.2.1 dX0_fall_25 rfl (lv_at hl 2 rfl) ?_
    refine lv_aload_n M.1 M.2.1 dX0_fall_26 rfl (lv_at hl 0 rfl) ?_
    refine x_get0 M K hB (hq.k) 3 (by decide) wd_37 (v := .int (σ_2 q 3)) rfl dX0_fall_27 ?_
    refine lv_icmp_ge (tgt := 48) M.1 M.2.1 dX0_fall_30 (by decide) (fun c_5 => ?_) (fun c_5 => ?_)
    · rw [if_pos c_5] at hr
      exact w_X0_fall_48 M K hq a0 a1   _ _ _ _  hB (lv_sub hl [0] rfl) hr
    · rw [if_neg c_5] at hr
      refine lv_aload_n M.1 M.2.1 dX0_fall_33 rfl (lv_at hl 0 rfl) ?_
      refine x_get0 M K hB (hq.k) 1 (by decide) wd_38 (v := .ref (Γ.1 (q + 2))) rfl dX0_fall_34 ?_
      refine lv_iload_n M.1 M.2.1 dX0_fall_37 rfl (lv_at hl 2 rfl) ?_
      obtain ⟨g_6, hr⟩ := gd hr
      refine x_aaldT M K hB (hq.k2) g_6 dX0_fall_38 ?_
      refine lv_dup M.1 M.2.1 dX0_fall_39 rfl ?_
      refine x_get3 M K hB ((isB.t hq (vp_lt g_6)).k) 15 (by decide) wd_45 (v := .int (σ_2 (q + 2 + 3 + 5 * a1.toNatClampNeg) 15)) rfl dX0_fall_40 ?_
      refine lv_iconst (v := 1) M.1 M.2.1 dX0_fall_43 (by decide) ?_
      refine lv_iadd M.1 M.2.1 dX0_fall_44 ?_
      obtain ⟨σ_7, e_8, hr⟩ := wbd hr
      refine x_put3 M K hB ((isB.t hq (vp_lt g_6)).k) 15 (by decide) wd_45 dX0_fall_45 (fun H locs hB => ?_)
      rw [← e_8] at hB
      exact w_X0_fall_48 M K hq a0 a1   _ _ _ _  hB (lv_sub hl [0] rfl) hr
theorem c_X0_fall (l : Launch) (Γ : GG) (q : Nat) (a0 : Int32) (a1 : Int32) (hq : isB q) (σ : Sg) (res : Int32 × Sg) (hr : f_X0_fall_0 q a0 a1 σ = some res) : Met l yX0_fall (Cond.code yX0_fall cX0_fall 4 none :: gtb) rm_X0_fall (va_Pc [.ref (Γ.1 q), .int a0, .int a1] (GI Γ σ)) (QV Γ res) 0 0 (AD Γ) :=
  x_metV (by decide) [.ref (Γ.1 q), .int a0, .int a1] (Nat.le_of_ble_eq_true rfl) (fun p e s m args below meth c M K ls hl hB => w_X0_fall_0 M K hq a0 a1 σ _ _ ls hB hl hr)
abbrev rm_X0_lowestExpired : Room := { frames := 0, cells := 0, slots := 0, locals := 0 }
def f_X0_lowestExpired_2 (q : Nat)  : Nat → Int32 → Sg → Option (Int32 × Sg)
  | 0, _, _ => none
  | f + 1, x1, σ => if σ q 3 ≤ x1 then
some ((-6), σ)
else
if x1 < 0 ∨ 6 ≤ x1.toNatClampNeg then none else
if σ (q + 2 + 3 + 5 * x1.toNatClampNeg) 11 = 0 then
f_X0_lowestExpired_2 q  f (x1 + 1) σ
else
some (x1, σ)
set_option maxHeartbeats 4000000 in
set_option maxRecDepth 100000 in
theorem w_X0_lowestExpired_2 {p : Program} {l : Launch} {e : Env} {s : State} {m : MethodId} {args : Array Value} {below : List Frame} {meth : Method} {c : Code} {Γ : GG} {res : Int32 × Sg} (M : MX RX0 cX0_lowestExpired 2 (some .int) p s m args meth c) (K : KK Γ s s.heap) {q : Nat} (hq : isB q) : ∀ (f : Nat) (x1 : Int32) (σ : Sg) (H : Heap) (locs : List Loc) (ls : Array Slot)  (hB : Bd Γ σ s H locs) (hl : lv_has ls 2 [(0, .ref (Γ.1 q)), (1, .int x1)]) (hr : f_X0_lowestExpired_2 q  f x1 σ = some res), WI Γ rm_X0_lowestExpired p l e s m args below meth c H locs res (F0 m 2 ls []) := by
  intro f
  induction f with
  | zero => intros; rename_i hr; exact absurd hr (by rw [f_X0_lowestExpired_2]; exact fun h => by cases h)
  | succ f ih_2 =>
    intro x1 σ H locs ls  hB hl hr
    rw [f_X0_lowestExpired_2] at hr
    refine lv_iload_n M.1 M.2.1 dX0_lowestExpired_2 rfl (lv_at hl 1 rfl) ?_
    refine lv_aload_n M.1 M.2.1 dX0_lowestExpired_3 rfl (lv_at hl 0 rfl) ?_
    refine x_get0 M K hB (hq.k) 3 (by decide) wd_37 (v := .int (σ q 3)) rfl dX0_lowestExpired_4 ?_
    refine lv_icmp_ge (tgt := 30) M.1 M.2.1 dX0_lowestExpired_7 (by decide) (fun c_1 => ?_) (fun c_1 => ?_)
    · rw [if_pos c_1] at hr
      refine lv_bipush (v := (-6)) M.1 M.2.1 dX0_lowestExpired_30 (by decide) ?_
      exact x_iret M hB (Option.some.inj hr) dX0_lowestExpired_32
    · rw [if_neg c_1] at hr
      refine lv_aload_n M.1 M.2.1 dX0_lowestExpired_10 rfl (lv_at hl 0 rfl) ?_
      refine x_get0 M K hB (hq.k) 1 (by decide) wd_38 (v := .ref (Γ.1 (q + 2))) rfl dX0_lowestExpired_11 ?_
      refine lv_iload_n M.1 M.2.1 dX0_lowestExpired_14 rfl (lv_at hl 1 rfl) ?_
      obtain ⟨g_2, hr⟩ := gd hr
      refine x_aaldT M K hB (hq.k2) g_2 dX0_lowestExpired_15 ?_
      refine x_get3 M K hB ((isB.t hq (vp_lt g_2)).k) 11 (by decide) wd_48 (v := .int (σ (q + 2 + 3 + 5 * x1.toNatClampNeg) 11)) rfl dX0_lowestExpired_16 ?_
      refine lv_if_eq (tgt := 24) M.1 M.2.1 dX0_lowestExpired_19 (by decide) (fun c_3 => ?_) (fun c_3 => ?_)
      · rw [if_pos c_3] at hr
        refine lv_iinc (v := x1 + 1) (lv' := [(1, .int (x1 + 1)), (0, .ref (Γ.1 q))]) M.1 M.2.1 dX0_lowestExpired_24 hl (k := 1) rfl rfl (by decide) rfl (fun ls hl => ?_)
        refine lv_goto (tgt := 2) M.1 M.2.1 dX0_lowestExpired_27 (by decide) ?_
        exact ih_2 (x1 + 1) _ _ _ _  hB (lv_sub hl [1, 0] rfl) hr
      · rw [if_neg c_3] at hr
        refine lv_iload_n M.1 M.2.1 dX0_lowestExpired_22 rfl (lv_at hl 1 rfl) ?_
        exact x_iret M hB (Option.some.inj hr) dX0_lowestExpired_23
def f_X0_lowestExpired_0 (q : Nat)   (σ : Sg) : Option (Int32 × Sg) :=
f_X0_lowestExpired_2 q  FU 0 σ
set_option maxHeartbeats 4000000 in
set_option maxRecDepth 100000 in
theorem w_X0_lowestExpired_0 {p : Program} {l : Launch} {e : Env} {s : State} {m : MethodId} {args : Array Value} {below : List Frame} {meth : Method} {c : Code} {Γ : GG} {res : Int32 × Sg} (M : MX RX0 cX0_lowestExpired 2 (some .int) p s m args meth c) (K : KK Γ s s.heap) {q : Nat} (hq : isB q)  (σ : Sg) (H : Heap) (locs : List Loc) (ls : Array Slot)  (hB : Bd Γ σ s H locs) (hl : lv_has ls 2 [(0, .ref (Γ.1 q))]) (hr : f_X0_lowestExpired_0 q   σ = some res) : WI Γ rm_X0_lowestExpired p l e s m args below meth c H locs res (F0 m 0 ls []) := by
  unfold f_X0_lowestExpired_0 at hr
  refine lv_iconst (v := 0) M.1 M.2.1 dX0_lowestExpired_0 (by decide) ?_
  refine lv_istore_n (lv' := [(1, .int 0), (0, .ref (Γ.1 q))]) M.1 M.2.1 dX0_lowestExpired_1 rfl hl (by decide) rfl (fun ls hl => ?_)
  exact w_X0_lowestExpired_2 M K hq  FU 0 _ _ _ _  hB (lv_sub hl [1, 0] rfl) hr
theorem c_X0_lowestExpired (l : Launch) (Γ : GG) (q : Nat) (hq : isB q) (σ : Sg) (res : Int32 × Sg) (hr : f_X0_lowestExpired_0 q σ = some res) : Met l yX0_lowestExpired (Cond.code yX0_lowestExpired cX0_lowestExpired 2 (some .int) :: gtb) rm_X0_lowestExpired (va_Pc [.ref (Γ.1 q)] (GI Γ σ)) (QI Γ res) 0 0 (AD Γ) :=
  x_metI (by decide) [.ref (Γ.1 q)] (Nat.le_of_ble_eq_true rfl) (fun p e s m args below meth c M K ls hl hB => w_X0_lowestExpired_0 M K hq σ _ _ ls hB hl hr)
abbrev rm_X0_supervise : Room := { frames := 2, cells := 0, slots := 0, locals := 44 }
def f_X0_supervise_114 (q : Nat)  (s0 : Int32) (σ : Sg) : Option (Int32 × Sg) :=
if s0 = 0 ∨ s0 = 1 then some (s0, σ) else none
set_option maxHeartbeats 4000000 in
set_option maxRecDepth 100000 in
theorem w_X0_supervise_114 {p : Program} {l : Launch} {e : Env} {s : State} {m : MethodId} {args : Array Value} {below : List Frame} {meth : Method} {c : Code} {Γ : GG} {res : Int32 × Sg} (M : MX RX0 cX0_supervise 3 (some .boolean) p s m args meth c) (K : KK Γ s s.heap) {q : Nat} (hq : isB q) (s0 : Int32) (σ : Sg) (H : Heap) (locs : List Loc) (ls : Array Slot)  (hB : Bd Γ σ s H locs) (hl : lv_has ls 3 []) (hr : f_X0_supervise_114 q  s0 σ = some res) : WI Γ rm_X0_supervise p l e s m args below meth c H locs res (F0 m 114 ls [.int s0]) := by
  unfold f_X0_supervise_114 at hr
  obtain ⟨g_21, hr⟩ := gd2 hr
  exact x_zret M hB (nar_z g_21) (Option.some.inj hr) dX0_supervise_114
def f_X0_supervise_113 (q : Nat)   (σ : Sg) : Option (Int32 × Sg) :=
f_X0_supervise_114 q  0 σ
set_option maxHeartbeats 4000000 in
set_option maxRecDepth 100000 in
theorem w_X0_supervise_113 {p : Program} {l : Launch} {e : Env} {s : State} {m : MethodId} {args : Array Value} {below : List Frame} {meth : Method} {c : Code} {Γ : GG} {res : Int32 × Sg} (M : MX RX0 cX0_supervise 3 (some .boolean) p s m args meth c) (K : KK Γ s s.heap) {q : Nat} (hq : isB q)  (σ : Sg) (H : Heap) (locs : List Loc) (ls : Array Slot)  (hB : Bd Γ σ s H locs) (hl : lv_has ls 3 []) (hr : f_X0_supervise_113 q   σ = some res) : WI Γ rm_X0_supervise p l e s m args below meth c H locs res (F0 m 113 ls []) := by
  unfold f_X0_supervise_113 at hr
  refine lv_iconst (v := 0) M.1 M.2.1 dX0_supervise_113 (by decide) ?_
  exact w_X0_supervise_114 M K hq  0 _ _ _ _  hB (lv_sub hl [] rfl) hr
def f_X0_supervise_83 (q : Nat)   (σ : Sg) : Option (Int32 × Sg) :=
if σ (q + 1) 4 < σ q 12 then
f_X0_supervise_113 q   σ
else
if σ q 10 < σ (q + 1) 3 then
f_X0_supervise_113 q   σ
else
f_X0_supervise_114 q  1 σ
set_option maxHeartbeats 4000000 in
set_option maxRecDepth 100000 in
theorem w_X0_supervise_83 {p : Program} {l : Launch} {e : Env} {s : State} {m : MethodId} {args : Array Value} {below : List Frame} {meth : Method} {c : Code} {Γ : GG} {res : Int32 × Sg} (M : MX RX0 cX0_supervise 3 (some .boolean) p s m args meth c) (K : KK Γ s s.heap) {q : Nat} (hq : isB q)  (σ : Sg) (H : Heap) (locs : List Loc) (ls : Array Slot)  (hB : Bd Γ σ s H locs) (hl : lv_has ls 3 [(0, .ref (Γ.1 q))]) (hr : f_X0_supervise_83 q   σ = some res) : WI Γ rm_X0_supervise p l e s m args below meth c H locs res (F0 m 83 ls []) := by
  unfold f_X0_supervise_83 at hr
  refine lv_aload_n M.1 M.2.1 dX0_supervise_83 rfl (lv_at hl 0 rfl) ?_
  refine x_get0 M K hB (hq.k) 12 (by decide) wd_36 (v := .int (σ q 12)) rfl dX0_supervise_84 ?_
  refine lv_aload_n M.1 M.2.1 dX0_supervise_87 rfl (lv_at hl 0 rfl) ?_
  refine x_get0 M K hB (hq.k) 0 (by decide) wd_40 (v := .ref (Γ.1 (q + 1))) rfl dX0_supervise_88 ?_
  refine lv_iconst (v := 4) M.1 M.2.1 dX0_supervise_91 (by decide) ?_
  refine x_ialdL M K hB (hq.a1) (k := 4) (by decide) (by decide) dX0_supervise_92 ?_
  refine lv_icmp_gt (tgt := 113) M.1 M.2.1 dX0_supervise_93 (by decide) (fun c_19 => ?_) (fun c_19 => ?_)
  · rw [if_pos c_19] at hr
    exact w_X0_supervise_113 M K hq   _ _ _ _  hB (lv_sub hl [] rfl) hr
  · rw [if_neg c_19] at hr
    refine lv_aload_n M.1 M.2.1 dX0_supervise_96 rfl (lv_at hl 0 rfl) ?_
    refine x_get0 M K hB (hq.k) 10 (by decide) wd_34 (v := .int (σ q 10)) rfl dX0_supervise_97 ?_
    refine lv_aload_n M.1 M.2.1 dX0_supervise_100 rfl (lv_at hl 0 rfl) ?_
    refine x_get0 M K hB (hq.k) 0 (by decide) wd_40 (v := .ref (Γ.1 (q + 1))) rfl dX0_supervise_101 ?_
    refine lv_iconst (v := 3) M.1 M.2.1 dX0_supervise_104 (by decide) ?_
    refine x_ialdL M K hB (hq.a1) (k := 3) (by decide) (by decide) dX0_supervise_105 ?_
    refine lv_icmp_lt (tgt := 113) M.1 M.2.1 dX0_supervise_106 (by decide) (fun c_20 => ?_) (fun c_20 => ?_)
    · rw [if_pos c_20] at hr
      exact w_X0_supervise_113 M K hq   _ _ _ _  hB (lv_sub hl [] rfl) hr
    · rw [if_neg c_20] at hr
      refine lv_iconst (v := 1) M.1 M.2.1 dX0_supervise_109 (by decide) ?_
      refine lv_goto (tgt := 114) M.1 M.2.1 dX0_supervise_110 (by decide) ?_
      exact w_X0_supervise_114 M K hq  1 _ _ _ _  hB (lv_sub hl [] rfl) hr
def f_X0_supervise_58 (q : Nat) (rec_12 : Int32 → Sg → Option (Int32 × Sg)) (x1 : Int32) (σ : Sg) : Option (Int32 × Sg) :=
rec_12 (x1 + 1) σ
set_option maxHeartbeats 4000000 in
set_option maxRecDepth 100000 in
theorem w_X0_supervise_58 {p : Program} {l : Launch} {e : Env} {s : State} {m : MethodId} {args : Array Value} {below : List Frame} {meth : Method} {c : Code} {Γ : GG} {res : Int32 × Sg} (M : MX RX0 cX0_supervise 3 (some .boolean) p s m args meth c) (K : KK Γ s s.heap) {q : Nat} (hq : isB q) (rec_12 : Int32 → Sg → Option (Int32 × Sg)) (ih_12 : ∀ (x1 : Int32) (σ : Sg) (H : Heap) (locs : List Loc) (ls : Array Slot) , Bd Γ σ s H locs → lv_has ls 3 [(0, .ref (Γ.1 q)), (1, .int x1)] → rec_12 x1 σ = some res → WI Γ rm_X0_supervise p l e s m args below meth c H locs res (F0 m 12 ls [])) (x1 : Int32) (σ : Sg) (H : Heap) (locs : List Loc) (ls : Array Slot)  (hB : Bd Γ σ s H locs) (hl : lv_has ls 3 [(0, .ref (Γ.1 q)), (1, .int x1)]) (hr : f_X0_supervise_58 q rec_12 x1 σ = some res) : WI Γ rm_X0_supervise p l e s m args below meth c H locs res (F0 m 58 ls []) := by
  unfold f_X0_supervise_58 at hr
  refine lv_iinc (v := x1 + 1) (lv' := [(1, .int (x1 + 1)), (0, .ref (Γ.1 q))]) M.1 M.2.1 dX0_supervise_58 hl (k := 1) rfl rfl (by decide) rfl (fun ls hl => ?_)
  refine lv_goto (tgt := 12) M.1 M.2.1 dX0_supervise_61 (by decide) ?_
  exact ih_12 (x1 + 1) _ _ _ _  hB (lv_sub hl [1, 0] rfl) hr
def f_X0_supervise_12 (q : Nat)  : Nat → Int32 → Sg → Option (Int32 × Sg)
  | 0, _, _ => none
  | f + 1, x1, σ => if σ q 3 ≤ x1 then
cb (f_X0_lowestExpired_0 q σ) fun v_4 σ_5 =>
if v_4 = (-6) then
f_X0_supervise_83 q   σ_5
else
wb (st σ_5 q 12 ((σ_5 q 12) + 1)) fun σ_8 =>
f_X0_supervise_83 q   σ_8
else
if x1 < 0 ∨ 6 ≤ x1.toNatClampNeg then none else
if σ (q + 2 + 3 + 5 * x1.toNatClampNeg) 11 = 0 then
cb (f_X4_divides_0 (σ (q + 2 + 3 + 5 * x1.toNatClampNeg + 1) 3) (σ q 11) σ) fun v_12 σ_13 =>
if v_12 = 0 then
f_X0_supervise_58 q (f_X0_supervise_12 q  f) x1 σ_13
else
cb (f_X3_endCycle_0 (q + 2 + 3 + 5 * x1.toNatClampNeg) (σ_13 q 4) σ_13) fun v_16 σ_17 =>
f_X0_supervise_58 q (f_X0_supervise_12 q  f) x1 σ_17
else
f_X0_supervise_58 q (f_X0_supervise_12 q  f) x1 σ
set_option maxHeartbeats 4000000 in
set_option maxRecDepth 100000 in
theorem w_X0_supervise_12 {p : Program} {l : Launch} {e : Env} {s : State} {m : MethodId} {args : Array Value} {below : List Frame} {meth : Method} {c : Code} {Γ : GG} {res : Int32 × Sg} (M : MX RX0 cX0_supervise 3 (some .boolean) p s m args meth c) (K : KK Γ s s.heap) {q : Nat} (hq : isB q) : ∀ (f : Nat) (x1 : Int32) (σ : Sg) (H : Heap) (locs : List Loc) (ls : Array Slot)  (hB : Bd Γ σ s H locs) (hl : lv_has ls 3 [(0, .ref (Γ.1 q)), (1, .int x1)]) (hr : f_X0_supervise_12 q  f x1 σ = some res), WI Γ rm_X0_supervise p l e s m args below meth c H locs res (F0 m 12 ls []) := by
  intro f
  induction f with
  | zero => intros; rename_i hr; exact absurd hr (by rw [f_X0_supervise_12]; exact fun h => by cases h)
  | succ f ih_12 =>
    intro x1 σ H locs ls  hB hl hr
    rw [f_X0_supervise_12] at hr
    refine lv_iload_n M.1 M.2.1 dX0_supervise_12 rfl (lv_at hl 1 rfl) ?_
    refine lv_aload_n M.1 M.2.1 dX0_supervise_13 rfl (lv_at hl 0 rfl) ?_
    refine x_get0 M K hB (hq.k) 3 (by decide) wd_37 (v := .int (σ q 3)) rfl dX0_supervise_14 ?_
    refine lv_icmp_ge (tgt := 64) M.1 M.2.1 dX0_supervise_17 (by decide) (fun c_3 => ?_) (fun c_3 => ?_)
    · rw [if_pos c_3] at hr
      refine lv_aload_n M.1 M.2.1 dX0_supervise_64 rfl (lv_at hl 0 rfl) ?_
      obtain ⟨v_4, σ_5, h_6, hr⟩ := cbd hr
      refine x_callI (x_runV M K hB hl.1 [] (rest := []) rfl (c_X0_lowestExpired l Γ q hq σ (v_4, σ_5) h_6) cy_X0_lowestExpired (x_recv K hB (hq.k).2 (ent_0 (hq.k).1) rfl) wd_49 ⟨rfl, rfl, Nat.le_of_ble_eq_true rfl, Nat.le_of_ble_eq_true rfl⟩ (Nat.le_of_ble_eq_true rfl) ⟨Nat.zero_le _, Nat.zero_le _⟩ dX0_supervise_65) hB (fun H locs hB => ?_)
      replace hB : Bd Γ σ_5 s H locs := hB
      refine lv_bipush (v := (-6)) M.1 M.2.1 dX0_supervise_68 (by decide) ?_
      refine lv_icmp_eq (tgt := 83) M.1 M.2.1 dX0_supervise_70 (by decide) (fun c_7 => ?_) (fun c_7 => ?_)
      · rw [if_pos c_7] at hr
        exact w_X0_supervise_83 M K hq   _ _ _ _  hB (lv_sub hl [0] rfl) hr
      · rw [if_neg c_7] at hr
        refine lv_aload_n M.1 M.2.1 dX0_supervise_73 rfl (lv_at hl 0 rfl) ?_
        refine lv_dup M.1 M.2.1 dX0_supervise_74 rfl ?_
        refine x_get0 M K hB (hq.k) 12 (by decide) wd_36 (v := .int (σ_5 q 12)) rfl dX0_supervise_75 ?_
        refine lv_iconst (v := 1) M.1 M.2.1 dX0_supervise_78 (by decide) ?_
        refine lv_iadd M.1 M.2.1 dX0_supervise_79 ?_
        obtain ⟨σ_8, e_9, hr⟩ := wbd hr
        refine x_put0 M K hB (hq.k) 12 (by decide) wd_36 dX0_supervise_80 (fun H locs hB => ?_)
        rw [← e_9] at hB
        exact w_X0_supervise_83 M K hq   _ _ _ _  hB (lv_sub hl [0] rfl) hr
    · rw [if_neg c_3] at hr
      refine lv_aload_n M.1 M.2.1 dX0_supervise_20 rfl (lv_at hl 0 rfl) ?_
      refine x_get0 M K hB (hq.k) 1 (by decide) wd_38 (v := .ref (Γ.1 (q + 2))) rfl dX0_supervise_21 ?_
      refine lv_iload_n M.1 M.2.1 dX0_supervise_24 rfl (lv_at hl 1 rfl) ?_
      obtain ⟨g_10, hr⟩ := gd hr
      refine x_aaldT M K hB (hq.k2) g_10 dX0_supervise_25 ?_
      refine lv_astore_n (lv' := [(2, .ref (Γ.1 (q + 2 + 3 + 5 * x1.toNatClampNeg))), (0, .ref (Γ.1 q)), (1, .int x1)]) M.1 M.2.1 dX0_supervise_26 rfl hl (by decide) rfl (fun ls hl => ?_)
      refine lv_aload_n M.1 M.2.1 dX0_supervise_27 rfl (lv_at hl 0 rfl) ?_
      refine x_get3 M K hB ((isB.t hq (vp_lt g_10)).k) 11 (by decide) wd_48 (v := .int (σ (q + 2 + 3 + 5 * x1.toNatClampNeg) 11)) rfl dX0_supervise_28 ?_
      refine lv_if_ne (tgt := 58) M.1 M.2.1 dX0_supervise_31 (by decide) (fun c_11 => ?_) (fun c_11 => ?_)
      · rw [if_neg c_11] at hr
        exact w_X0_supervise_58 M K hq _ ih_12 x1 _ _ _ _  hB (lv_sub hl [1, 2] rfl) hr
      · rw [if_pos c_11] at hr
        refine lv_aload_n M.1 M.2.1 dX0_supervise_34 rfl (lv_at hl 0 rfl) ?_
        refine x_get3 M K hB ((isB.t hq (vp_lt g_10)).k) 0 (by decide) wd_50 (v := .ref (Γ.1 (q + 2 + 3 + 5 * x1.toNatClampNeg + 1))) rfl dX0_supervise_35 ?_
        refine lv_iconst (v := 3) M.1 M.2.1 dX0_supervise_38 (by decide) ?_
        refine x_ialdL M K hB ((isB.t hq (vp_lt g_10)).a1) (k := 3) (by decide) (by decide) dX0_supervise_39 ?_
        refine lv_aload_n M.1 M.2.1 dX0_supervise_40 rfl (lv_at hl 1 rfl) ?_
        refine x_get0 M K hB (hq.k) 11 (by decide) wd_35 (v := .int (σ q 11)) rfl dX0_supervise_41 ?_
        obtain ⟨v_12, σ_13, h_14, hr⟩ := cbd hr
        refine x_callI (x_runSN M K hB hl.1 [.int (σ (q + 2 + 3 + 5 * x1.toNatClampNeg + 1) 3), .int (σ q 11)] (rest := []) rfl (c_X4_divides l Γ (σ (q + 2 + 3 + 5 * x1.toNatClampNeg + 1) 3) (σ q 11)  σ (v_12, σ_13) h_14) cy_X4_divides nw_4 ⟨rfl, rfl, Nat.le_of_ble_eq_true rfl, Nat.le_of_ble_eq_true rfl⟩ (Nat.le_of_ble_eq_true rfl) ⟨Nat.zero_le _, Nat.zero_le _⟩ dX0_supervise_44) hB (fun H locs hB => ?_)
        replace hB : Bd Γ σ_13 s H locs := hB
        refine lv_if_eq (tgt := 58) M.1 M.2.1 dX0_supervise_47 (by decide) (fun c_15 => ?_) (fun c_15 => ?_)
        · rw [if_pos c_15] at hr
          exact w_X0_supervise_58 M K hq _ ih_12 x1 _ _ _ _  hB (lv_sub hl [1, 2] rfl) hr
        · rw [if_neg c_15] at hr
          refine lv_aload_n M.1 M.2.1 dX0_supervise_50 rfl (lv_at hl 0 rfl) ?_
          refine lv_aload_n M.1 M.2.1 dX0_supervise_51 rfl (lv_at hl 1 rfl) ?_
          refine x_get0 M K hB (hq.k) 4 (by decide) wd_42 (v := .int (σ_13 q 4)) rfl dX0_supervise_52 ?_
          obtain ⟨v_16, σ_17, h_18, hr⟩ := cbd hr
          refine x_callV (x_runV M K hB hl.1 [.int (σ_13 q 4)] (rest := []) rfl (c_X3_endCycle l Γ (q + 2 + 3 + 5 * x1.toNatClampNeg) (σ_13 q 4) (isB.t hq (vp_lt g_10)) σ_13 (v_16, σ_17) h_18) cy_X3_endCycle (x_recv K hB ((isB.t hq (vp_lt g_10)).k).2 (ent_3 ((isB.t hq (vp_lt g_10)).k).1) rfl) wd_51 ⟨rfl, rfl, Nat.le_of_ble_eq_true rfl, Nat.le_of_ble_eq_true rfl⟩ (Nat.le_of_ble_eq_true rfl) ⟨Nat.zero_le _, Nat.zero_le _⟩ dX0_supervise_55) hB (fun H locs hB => ?_)
          replace hB : Bd Γ σ_17 s H locs := hB
          exact w_X0_supervise_58 M K hq _ ih_12 x1 _ _ _ _  hB (lv_sub hl [1, 2] rfl) hr
def f_X0_supervise_0 (q : Nat)   (σ : Sg) : Option (Int32 × Sg) :=
wb (st σ q 11 ((σ q 11) + 1)) fun σ_1 =>
f_X0_supervise_12 q  FU 0 σ_1
set_option maxHeartbeats 4000000 in
set_option maxRecDepth 100000 in
theorem w_X0_supervise_0 {p : Program} {l : Launch} {e : Env} {s : State} {m : MethodId} {args : Array Value} {below : List Frame} {meth : Method} {c : Code} {Γ : GG} {res : Int32 × Sg} (M : MX RX0 cX0_supervise 3 (some .boolean) p s m args meth c) (K : KK Γ s s.heap) {q : Nat} (hq : isB q)  (σ : Sg) (H : Heap) (locs : List Loc) (ls : Array Slot)  (hB : Bd Γ σ s H locs) (hl : lv_has ls 3 [(0, .ref (Γ.1 q))]) (hr : f_X0_supervise_0 q   σ = some res) : WI Γ rm_X0_supervise p l e s m args below meth c H locs res (F0 m 0 ls []) := by
  unfold f_X0_supervise_0 at hr
  refine lv_aload_n M.1 M.2.1 dX0_supervise_0 rfl (lv_at hl 0 rfl) ?_
  refine lv_dup M.1 M.2.1 dX0_supervise_1 rfl ?_
  refine x_get0 M K hB (hq.k) 11 (by decide) wd_35 (v := .int (σ q 11)) rfl dX0_supervise_2 ?_
  refine lv_iconst (v := 1) M.1 M.2.1 dX0_supervise_5 (by decide) ?_
  refine lv_iadd M.1 M.2.1 dX0_supervise_6 ?_
  obtain ⟨σ_1, e_2, hr⟩ := wbd hr
  refine x_put0 M K hB (hq.k) 11 (by decide) wd_35 dX0_supervise_7 (fun H locs hB => ?_)
  rw [← e_2] at hB
  refine lv_iconst (v := 0) M.1 M.2.1 dX0_supervise_10 (by decide) ?_
  refine lv_istore_n (lv' := [(1, .int 0), (0, .ref (Γ.1 q))]) M.1 M.2.1 dX0_supervise_11 rfl hl (by decide) rfl (fun ls hl => ?_)
  exact w_X0_supervise_12 M K hq  FU 0 _ _ _ _  hB (lv_sub hl [1, 0] rfl) hr
theorem c_X0_supervise (l : Launch) (Γ : GG) (q : Nat) (hq : isB q) (σ : Sg) (res : Int32 × Sg) (hr : f_X0_supervise_0 q σ = some res) : Met l yX0_supervise (Cond.code yX0_supervise cX0_supervise 3 (some .boolean) :: gtb) rm_X0_supervise (va_Pc [.ref (Γ.1 q)] (GI Γ σ)) (QI Γ res) 0 0 (AD Γ) :=
  x_metI (by decide) [.ref (Γ.1 q)] (Nat.le_of_ble_eq_true rfl) (fun p e s m args below meth c M K ls hl hB => w_X0_supervise_0 M K hq σ _ _ ls hB hl hr)
abbrev rm_X0_watch : Room := { frames := 0, cells := 0, slots := 0, locals := 0 }
def f_X0_watch_48 (q : Nat) (a0 : Int32)  (s0 : Int32) (σ : Sg) : Option (Int32 × Sg) :=
some (s0, σ)
set_option maxHeartbeats 4000000 in
set_option maxRecDepth 100000 in
theorem w_X0_watch_48 {p : Program} {l : Launch} {e : Env} {s : State} {m : MethodId} {args : Array Value} {below : List Frame} {meth : Method} {c : Code} {Γ : GG} {res : Int32 × Sg} (M : MX RX0 cX0_watch 2 (some .int) p s m args meth c) (K : KK Γ s s.heap) {q : Nat} (hq : isB q) (a0 : Int32) (s0 : Int32) (σ : Sg) (H : Heap) (locs : List Loc) (ls : Array Slot)  (hB : Bd Γ σ s H locs) (hl : lv_has ls 2 []) (hr : f_X0_watch_48 q a0  s0 σ = some res) : WI Γ rm_X0_watch p l e s m args below meth c H locs res (F0 m 48 ls [.int s0]) := by
  unfold f_X0_watch_48 at hr
  exact x_iret M hB (Option.some.inj hr) dX0_watch_48
def f_X0_watch_19 (q : Nat) (a0 : Int32)  (x1 : Int32) (σ : Sg) : Option (Int32 × Sg) :=
if x1 = 0 then
if σ q 10 ≤ σ (q + 1) 1 then
f_X0_watch_48 q a0  0 σ
else
f_X0_watch_48 q a0  2 σ
else
wb (st σ q 10 0) fun σ_5 =>
some (0, σ_5)
set_option maxHeartbeats 4000000 in
set_option maxRecDepth 100000 in
theorem w_X0_watch_19 {p : Program} {l : Launch} {e : Env} {s : State} {m : MethodId} {args : Array Value} {below : List Frame} {meth : Method} {c : Code} {Γ : GG} {res : Int32 × Sg} (M : MX RX0 cX0_watch 2 (some .int) p s m args meth c) (K : KK Γ s s.heap) {q : Nat} (hq : isB q) (a0 : Int32) (x1 : Int32) (σ : Sg) (H : Heap) (locs : List Loc) (ls : Array Slot)  (hB : Bd Γ σ s H locs) (hl : lv_has ls 2 [(0, .ref (Γ.1 q)), (1, .int x1)]) (hr : f_X0_watch_19 q a0  x1 σ = some res) : WI Γ rm_X0_watch p l e s m args below meth c H locs res (F0 m 19 ls []) := by
  unfold f_X0_watch_19 at hr
  refine lv_iload_n M.1 M.2.1 dX0_watch_19 rfl (lv_at hl 1 rfl) ?_
  refine lv_if_eq (tgt := 30) M.1 M.2.1 dX0_watch_20 (by decide) (fun c_3 => ?_) (fun c_3 => ?_)
  · rw [if_pos c_3] at hr
    refine lv_aload_n M.1 M.2.1 dX0_watch_30 rfl (lv_at hl 0 rfl) ?_
    refine x_get0 M K hB (hq.k) 10 (by decide) wd_34 (v := .int (σ q 10)) rfl dX0_watch_31 ?_
    refine lv_aload_n M.1 M.2.1 dX0_watch_34 rfl (lv_at hl 0 rfl) ?_
    refine x_get0 M K hB (hq.k) 0 (by decide) wd_40 (v := .ref (Γ.1 (q + 1))) rfl dX0_watch_35 ?_
    refine lv_iconst (v := 1) M.1 M.2.1 dX0_watch_38 (by decide) ?_
    refine x_ialdL M K hB (hq.a1) (k := 1) (by decide) (by decide) dX0_watch_39 ?_
    refine lv_icmp_le (tgt := 47) M.1 M.2.1 dX0_watch_40 (by decide) (fun c_4 => ?_) (fun c_4 => ?_)
    · rw [if_pos c_4] at hr
      refine lv_iconst (v := 0) M.1 M.2.1 dX0_watch_47 (by decide) ?_
      exact w_X0_watch_48 M K hq a0  0 _ _ _ _  hB (lv_sub hl [] rfl) hr
    · rw [if_neg c_4] at hr
      refine lv_iconst (v := 2) M.1 M.2.1 dX0_watch_43 (by decide) ?_
      refine lv_goto (tgt := 48) M.1 M.2.1 dX0_watch_44 (by decide) ?_
      exact w_X0_watch_48 M K hq a0  2 _ _ _ _  hB (lv_sub hl [] rfl) hr
  · rw [if_neg c_3] at hr
    refine lv_aload_n M.1 M.2.1 dX0_watch_23 rfl (lv_at hl 0 rfl) ?_
    refine lv_iconst (v := 0) M.1 M.2.1 dX0_watch_24 (by decide) ?_
    obtain ⟨σ_5, e_6, hr⟩ := wbd hr
    refine x_put0 M K hB (hq.k) 10 (by decide) wd_34 dX0_watch_25 (fun H locs hB => ?_)
    rw [← e_6] at hB
    refine lv_iconst (v := 0) M.1 M.2.1 dX0_watch_28 (by decide) ?_
    exact x_iret M hB (Option.some.inj hr) dX0_watch_29
def f_X0_watch_0 (q : Nat) (a0 : Int32)   (σ : Sg) : Option (Int32 × Sg) :=
if a0 = 0 then
f_X0_watch_19 q a0  a0 σ
else
if σ (q + 1) 0 ≤ σ q 10 then
f_X0_watch_19 q a0  a0 σ
else
some (1, σ)
set_option maxHeartbeats 4000000 in
set_option maxRecDepth 100000 in
theorem w_X0_watch_0 {p : Program} {l : Launch} {e : Env} {s : State} {m : MethodId} {args : Array Value} {below : List Frame} {meth : Method} {c : Code} {Γ : GG} {res : Int32 × Sg} (M : MX RX0 cX0_watch 2 (some .int) p s m args meth c) (K : KK Γ s s.heap) {q : Nat} (hq : isB q) (a0 : Int32)  (σ : Sg) (H : Heap) (locs : List Loc) (ls : Array Slot)  (hB : Bd Γ σ s H locs) (hl : lv_has ls 2 [(0, .ref (Γ.1 q)), (1, .int a0)]) (hr : f_X0_watch_0 q a0   σ = some res) : WI Γ rm_X0_watch p l e s m args below meth c H locs res (F0 m 0 ls []) := by
  unfold f_X0_watch_0 at hr
  refine lv_iload_n M.1 M.2.1 dX0_watch_0 rfl (lv_at hl 1 rfl) ?_
  refine lv_if_eq (tgt := 19) M.1 M.2.1 dX0_watch_1 (by decide) (fun c_1 => ?_) (fun c_1 => ?_)
  · rw [if_pos c_1] at hr
    exact w_X0_watch_19 M K hq a0  a0 _ _ _ _  hB (lv_sub hl [0, 1] rfl) hr
  · rw [if_neg c_1] at hr
    refine lv_aload_n M.1 M.2.1 dX0_watch_4 rfl (lv_at hl 0 rfl) ?_
    refine x_get0 M K hB (hq.k) 10 (by decide) wd_34 (v := .int (σ q 10)) rfl dX0_watch_5 ?_
    refine lv_aload_n M.1 M.2.1 dX0_watch_8 rfl (lv_at hl 0 rfl) ?_
    refine x_get0 M K hB (hq.k) 0 (by decide) wd_40 (v := .ref (Γ.1 (q + 1))) rfl dX0_watch_9 ?_
    refine lv_iconst (v := 0) M.1 M.2.1 dX0_watch_12 (by decide) ?_
    refine x_ialdL M K hB (hq.a1) (k := 0) (by decide) (by decide) dX0_watch_13 ?_
    refine lv_icmp_ge (tgt := 19) M.1 M.2.1 dX0_watch_14 (by decide) (fun c_2 => ?_) (fun c_2 => ?_)
    · rw [if_pos c_2] at hr
      exact w_X0_watch_19 M K hq a0  a0 _ _ _ _  hB (lv_sub hl [0, 1] rfl) hr
    · rw [if_neg c_2] at hr
      refine lv_iconst (v := 1) M.1 M.2.1 dX0_watch_17 (by decide) ?_
      exact x_iret M hB (Option.some.inj hr) dX0_watch_18
theorem c_X0_watch (l : Launch) (Γ : GG) (q : Nat) (a0 : Int32) (hq : isB q) (σ : Sg) (res : Int32 × Sg) (hr : f_X0_watch_0 q a0 σ = some res) : Met l yX0_watch (Cond.code yX0_watch cX0_watch 2 (some .int) :: gtb) rm_X0_watch (va_Pc [.ref (Γ.1 q), .int a0] (GI Γ σ)) (QI Γ res) 0 0 (AD Γ) :=
  x_metI (by decide) [.ref (Γ.1 q), .int a0] (Nat.le_of_ble_eq_true rfl) (fun p e s m args below meth c M K ls hl hB => w_X0_watch_0 M K hq a0 σ _ _ ls hB hl hr)
abbrev rm_X0_tickRunning : Room := { frames := 3, cells := 0, slots := 0, locals := 66 }
def f_X0_tickRunning_133 (q : Nat)   (σ : Sg) : Option (Int32 × Sg) :=
some (0, σ)
set_option maxHeartbeats 4000000 in
set_option maxRecDepth 100000 in
theorem w_X0_tickRunning_133 {p : Program} {l : Launch} {e : Env} {s : State} {m : MethodId} {args : Array Value} {below : List Frame} {meth : Method} {c : Code} {Γ : GG} {res : Int32 × Sg} (M : MX RX0 cX0_tickRunning 3 (some .boolean) p s m args meth c) (K : KK Γ s s.heap) {q : Nat} (hq : isB q)  (σ : Sg) (H : Heap) (locs : List Loc) (ls : Array Slot)  (hB : Bd Γ σ s H locs) (hl : lv_has ls 3 []) (hr : f_X0_tickRunning_133 q   σ = some res) : WI Γ rm_X0_tickRunning p l e s m args below meth c H locs res (F0 m 133 ls []) := by
  unfold f_X0_tickRunning_133 at hr
  refine lv_iconst (v := 0) M.1 M.2.1 dX0_tickRunning_133 (by decide) ?_
  exact x_zret M hB (nar_z (by decide)) (Option.some.inj hr) dX0_tickRunning_134
def f_X0_tickRunning_92 (q : Nat)  (s0 : Int32) (σ : Sg) : Option (Int32 × Sg) :=
cb (f_X0_watch_0 q s0 σ) fun v_22 σ_23 =>
if v_22 = 0 then
if σ_23 q 9 = σ_23 (q + 1) 6 then
wb (st σ_23 q 7 0) fun σ_27 =>
f_X0_tickRunning_133 q   σ_27
else
f_X0_tickRunning_133 q   σ_23
else
cb (f_X0_lowestExpired_0 q σ_23) fun v_29 σ_30 =>
cb (f_X0_fall_0 q v_22 v_29 σ_30) fun v_32 σ_33 =>
some (1, σ_33)
set_option maxHeartbeats 4000000 in
set_option maxRecDepth 100000 in
theorem w_X0_tickRunning_92 {p : Program} {l : Launch} {e : Env} {s : State} {m : MethodId} {args : Array Value} {below : List Frame} {meth : Method} {c : Code} {Γ : GG} {res : Int32 × Sg} (M : MX RX0 cX0_tickRunning 3 (some .boolean) p s m args meth c) (K : KK Γ s s.heap) {q : Nat} (hq : isB q) (s0 : Int32) (σ : Sg) (H : Heap) (locs : List Loc) (ls : Array Slot)  (hB : Bd Γ σ s H locs) (hl : lv_has ls 3 [(0, .ref (Γ.1 q))]) (hr : f_X0_tickRunning_92 q  s0 σ = some res) : WI Γ rm_X0_tickRunning p l e s m args below meth c H locs res (F0 m 92 ls [.int s0]) := by
  unfold f_X0_tickRunning_92 at hr
  refine lv_istore_n (lv' := [(1, .int s0), (0, .ref (Γ.1 q))]) M.1 M.2.1 dX0_tickRunning_92 rfl hl (by decide) rfl (fun ls hl => ?_)
  refine lv_aload_n M.1 M.2.1 dX0_tickRunning_93 rfl (lv_at hl 1 rfl) ?_
  refine lv_iload_n M.1 M.2.1 dX0_tickRunning_94 rfl (lv_at hl 0 rfl) ?_
  obtain ⟨v_22, σ_23, h_24, hr⟩ := cbd hr
  refine x_callI (x_runV M K hB hl.1 [.int s0] (rest := []) rfl (c_X0_watch l Γ q s0 hq σ (v_22, σ_23) h_24) cy_X0_watch (x_recv K hB (hq.k).2 (ent_0 (hq.k).1) rfl) wd_55 ⟨rfl, rfl, Nat.le_of_ble_eq_true rfl, Nat.le_of_ble_eq_true rfl⟩ (Nat.le_of_ble_eq_true rfl) ⟨Nat.zero_le _, Nat.zero_le _⟩ dX0_tickRunning_95) hB (fun H locs hB => ?_)
  replace hB : Bd Γ σ_23 s H locs := hB
  refine lv_istore_n (lv' := [(2, .int v_22), (1, .int s0), (0, .ref (Γ.1 q))]) M.1 M.2.1 dX0_tickRunning_98 rfl hl (by decide) rfl (fun ls hl => ?_)
  refine lv_iload_n M.1 M.2.1 dX0_tickRunning_99 rfl (lv_at hl 0 rfl) ?_
  refine lv_if_eq (tgt := 114) M.1 M.2.1 dX0_tickRunning_100 (by decide) (fun c_25 => ?_) (fun c_25 => ?_)
  · rw [if_pos c_25] at hr
    refine lv_aload_n M.1 M.2.1 dX0_tickRunning_114 rfl (lv_at hl 2 rfl) ?_
    refine x_get0 M K hB (hq.k) 9 (by decide) wd_33 (v := .int (σ_23 q 9)) rfl dX0_tickRunning_115 ?_
    refine lv_aload_n M.1 M.2.1 dX0_tickRunning_118 rfl (lv_at hl 2 rfl) ?_
    refine x_get0 M K hB (hq.k) 0 (by decide) wd_40 (v := .ref (Γ.1 (q + 1))) rfl dX0_tickRunning_119 ?_
    refine lv_bipush (v := 6) M.1 M.2.1 dX0_tickRunning_122 (by decide) ?_
    refine x_ialdL M K hB (hq.a1) (k := 6) (by decide) (by decide) dX0_tickRunning_124 ?_
    refine lv_icmp_ne (tgt := 133) M.1 M.2.1 dX0_tickRunning_125 (by decide) (fun c_26 => ?_) (fun c_26 => ?_)
    · rw [if_neg c_26] at hr
      exact w_X0_tickRunning_133 M K hq   _ _ _ _  hB (lv_sub hl [] rfl) hr
    · rw [if_pos c_26] at hr
      refine lv_aload_n M.1 M.2.1 dX0_tickRunning_128 rfl (lv_at hl 2 rfl) ?_
      refine lv_iconst (v := 0) M.1 M.2.1 dX0_tickRunning_129 (by decide) ?_
      obtain ⟨σ_27, e_28, hr⟩ := wbd hr
      refine x_put0 M K hB (hq.k) 7 (by decide) wd_46 dX0_tickRunning_130 (fun H locs hB => ?_)
      rw [← e_28] at hB
      exact w_X0_tickRunning_133 M K hq   _ _ _ _  hB (lv_sub hl [] rfl) hr
  · rw [if_neg c_25] at hr
    refine lv_aload_n M.1 M.2.1 dX0_tickRunning_103 rfl (lv_at hl 2 rfl) ?_
    refine lv_iload_n M.1 M.2.1 dX0_tickRunning_104 rfl (lv_at hl 0 rfl) ?_
    refine lv_aload_n M.1 M.2.1 dX0_tickRunning_105 rfl (lv_at hl 2 rfl) ?_
    obtain ⟨v_29, σ_30, h_31, hr⟩ := cbd hr
    refine x_callI (x_runV M K hB hl.1 [] (rest := [.int v_22, .ref (Γ.1 q)]) rfl (c_X0_lowestExpired l Γ q hq σ_23 (v_29, σ_30) h_31) cy_X0_lowestExpired (x_recv K hB (hq.k).2 (ent_0 (hq.k).1) rfl) wd_49 ⟨rfl, rfl, Nat.le_of_ble_eq_true rfl, Nat.le_of_ble_eq_true rfl⟩ (Nat.le_of_ble_eq_true rfl) ⟨Nat.zero_le _, Nat.zero_le _⟩ dX0_tickRunning_106) hB (fun H locs hB => ?_)
    replace hB : Bd Γ σ_30 s H locs := hB
    obtain ⟨v_32, σ_33, h_34, hr⟩ := cbd hr
    refine x_callV (x_runV M K hB hl.1 [.int v_22, .int v_29] (rest := []) rfl (c_X0_fall l Γ q v_22 v_29 hq σ_30 (v_32, σ_33) h_34) cy_X0_fall (x_recv K hB (hq.k).2 (ent_0 (hq.k).1) rfl) wd_54 ⟨rfl, rfl, Nat.le_of_ble_eq_true rfl, Nat.le_of_ble_eq_true rfl⟩ (Nat.le_of_ble_eq_true rfl) ⟨Nat.zero_le _, Nat.zero_le _⟩ dX0_tickRunning_109) hB (fun H locs hB => ?_)
    replace hB : Bd Γ σ_33 s H locs := hB
    refine lv_iconst (v := 1) M.1 M.2.1 dX0_tickRunning_112 (by decide) ?_
    exact x_zret M hB (nar_z (by decide)) (Option.some.inj hr) dX0_tickRunning_113
def f_X0_tickRunning_91 (q : Nat)   (σ : Sg) : Option (Int32 × Sg) :=
f_X0_tickRunning_92 q  0 σ
set_option maxHeartbeats 4000000 in
set_option maxRecDepth 100000 in
theorem w_X0_tickRunning_91 {p : Program} {l : Launch} {e : Env} {s : State} {m : MethodId} {args : Array Value} {below : List Frame} {meth : Method} {c : Code} {Γ : GG} {res : Int32 × Sg} (M : MX RX0 cX0_tickRunning 3 (some .boolean) p s m args meth c) (K : KK Γ s s.heap) {q : Nat} (hq : isB q)  (σ : Sg) (H : Heap) (locs : List Loc) (ls : Array Slot)  (hB : Bd Γ σ s H locs) (hl : lv_has ls 3 [(0, .ref (Γ.1 q))]) (hr : f_X0_tickRunning_91 q   σ = some res) : WI Γ rm_X0_tickRunning p l e s m args below meth c H locs res (F0 m 91 ls []) := by
  unfold f_X0_tickRunning_91 at hr
  refine lv_iconst (v := 0) M.1 M.2.1 dX0_tickRunning_91 (by decide) ?_
  exact w_X0_tickRunning_92 M K hq  0 _ _ _ _  hB (lv_sub hl [0] rfl) hr
def f_X0_tickRunning_22 (q : Nat)  : Nat → Int32 → Sg → Option (Int32 × Sg)
  | 0, _, _ => none
  | f + 1, x1, σ => if σ q 3 ≤ x1 then
cb (f_X4_divides_0 (σ (q + 1) 2) (σ q 9) σ) fun v_6 σ_7 =>
if v_6 = 0 then
f_X0_tickRunning_91 q   σ_7
else
cb (f_X0_supervise_0 q σ_7) fun v_10 σ_11 =>
if v_10 = 0 then
f_X0_tickRunning_91 q   σ_11
else
f_X0_tickRunning_92 q  1 σ_11
else
if x1 < 0 ∨ 6 ≤ x1.toNatClampNeg then none else
cb (f_X3_crashesInTick_0 (q + 2 + 3 + 5 * x1.toNatClampNeg) (σ q 9) (σ q 6) σ) fun v_15 σ_16 =>
if v_15 = 0 then
f_X0_tickRunning_22 q  f (x1 + 1) σ_16
else
cb (f_X0_fall_0 q 3 x1 σ_16) fun v_19 σ_20 =>
some (1, σ_20)
set_option maxHeartbeats 4000000 in
set_option maxRecDepth 100000 in
theorem w_X0_tickRunning_22 {p : Program} {l : Launch} {e : Env} {s : State} {m : MethodId} {args : Array Value} {below : List Frame} {meth : Method} {c : Code} {Γ : GG} {res : Int32 × Sg} (M : MX RX0 cX0_tickRunning 3 (some .boolean) p s m args meth c) (K : KK Γ s s.heap) {q : Nat} (hq : isB q) : ∀ (f : Nat) (x1 : Int32) (σ : Sg) (H : Heap) (locs : List Loc) (ls : Array Slot)  (hB : Bd Γ σ s H locs) (hl : lv_has ls 3 [(0, .ref (Γ.1 q)), (1, .int x1)]) (hr : f_X0_tickRunning_22 q  f x1 σ = some res), WI Γ rm_X0_tickRunning p l e s m args below meth c H locs res (F0 m 22 ls []) := by
  intro f
  induction f with
  | zero => intros; rename_i hr; exact absurd hr (by rw [f_X0_tickRunning_22]; exact fun h => by cases h)
  | succ f ih_22 =>
    intro x1 σ H locs ls  hB hl hr
    rw [f_X0_tickRunning_22] at hr
    refine lv_iload_n M.1 M.2.1 dX0_tickRunning_22 rfl (lv_at hl 1 rfl) ?_
    refine lv_aload_n M.1 M.2.1 dX0_tickRunning_23 rfl (lv_at hl 0 rfl) ?_
    refine x_get0 M K hB (hq.k) 3 (by decide) wd_37 (v := .int (σ q 3)) rfl dX0_tickRunning_24 ?_
    refine lv_icmp_ge (tgt := 64) M.1 M.2.1 dX0_tickRunning_27 (by decide) (fun c_5 => ?_) (fun c_5 => ?_)
    · rw [if_pos c_5] at hr
      refine lv_aload_n M.1 M.2.1 dX0_tickRunning_64 rfl (lv_at hl 0 rfl) ?_
      refine x_get0 M K hB (hq.k) 0 (by decide) wd_40 (v := .ref (Γ.1 (q + 1))) rfl dX0_tickRunning_65 ?_
      refine lv_iconst (v := 2) M.1 M.2.1 dX0_tickRunning_68 (by decide) ?_
      refine x_ialdL M K hB (hq.a1) (k := 2) (by decide) (by decide) dX0_tickRunning_69 ?_
      refine lv_aload_n M.1 M.2.1 dX0_tickRunning_70 rfl (lv_at hl 0 rfl) ?_
      refine x_get0 M K hB (hq.k) 9 (by decide) wd_33 (v := .int (σ q 9)) rfl dX0_tickRunning_71 ?_
      obtain ⟨v_6, σ_7, h_8, hr⟩ := cbd hr
      refine x_callI (x_runSN M K hB hl.1 [.int (σ (q + 1) 2), .int (σ q 9)] (rest := []) rfl (c_X4_divides l Γ (σ (q + 1) 2) (σ q 9)  σ (v_6, σ_7) h_8) cy_X4_divides nw_4 ⟨rfl, rfl, Nat.le_of_ble_eq_true rfl, Nat.le_of_ble_eq_true rfl⟩ (Nat.le_of_ble_eq_true rfl) ⟨Nat.zero_le _, Nat.zero_le _⟩ dX0_tickRunning_74) hB (fun H locs hB => ?_)
      replace hB : Bd Γ σ_7 s H locs := hB
      refine lv_if_eq (tgt := 91) M.1 M.2.1 dX0_tickRunning_77 (by decide) (fun c_9 => ?_) (fun c_9 => ?_)
      · rw [if_pos c_9] at hr
        exact w_X0_tickRunning_91 M K hq   _ _ _ _  hB (lv_sub hl [0] rfl) hr
      · rw [if_neg c_9] at hr
        refine lv_aload_n M.1 M.2.1 dX0_tickRunning_80 rfl (lv_at hl 0 rfl) ?_
        obtain ⟨v_10, σ_11, h_12, hr⟩ := cbd hr
        refine x_callI (x_runV M K hB hl.1 [] (rest := []) rfl (c_X0_supervise l Γ q hq σ_7 (v_10, σ_11) h_12) cy_X0_supervise (x_recv K hB (hq.k).2 (ent_0 (hq.k).1) rfl) wd_52 ⟨rfl, rfl, Nat.le_of_ble_eq_true rfl, Nat.le_of_ble_eq_true rfl⟩ (Nat.le_of_ble_eq_true rfl) ⟨Nat.zero_le _, Nat.zero_le _⟩ dX0_tickRunning_81) hB (fun H locs hB => ?_)
        replace hB : Bd Γ σ_11 s H locs := hB
        refine lv_if_eq (tgt := 91) M.1 M.2.1 dX0_tickRunning_84 (by decide) (fun c_13 => ?_) (fun c_13 => ?_)
        · rw [if_pos c_13] at hr
          exact w_X0_tickRunning_91 M K hq   _ _ _ _  hB (lv_sub hl [0] rfl) hr
        · rw [if_neg c_13] at hr
          refine lv_iconst (v := 1) M.1 M.2.1 dX0_tickRunning_87 (by decide) ?_
          refine lv_goto (tgt := 92) M.1 M.2.1 dX0_tickRunning_88 (by decide) ?_
          exact w_X0_tickRunning_92 M K hq  1 _ _ _ _  hB (lv_sub hl [0] rfl) hr
    · rw [if_neg c_5] at hr
      refine lv_aload_n M.1 M.2.1 dX0_tickRunning_30 rfl (lv_at hl 0 rfl) ?_
      refine x_get0 M K hB (hq.k) 1 (by decide) wd_38 (v := .ref (Γ.1 (q + 2))) rfl dX0_tickRunning_31 ?_
      refine lv_iload_n M.1 M.2.1 dX0_tickRunning_34 rfl (lv_at hl 1 rfl) ?_
      obtain ⟨g_14, hr⟩ := gd hr
      refine x_aaldT M K hB (hq.k2) g_14 dX0_tickRunning_35 ?_
      refine lv_aload_n M.1 M.2.1 dX0_tickRunning_36 rfl (lv_at hl 0 rfl) ?_
      refine x_get0 M K hB (hq.k) 9 (by decide) wd_33 (v := .int (σ q 9)) rfl dX0_tickRunning_37 ?_
      refine lv_aload_n M.1 M.2.1 dX0_tickRunning_40 rfl (lv_at hl 0 rfl) ?_
      refine x_get0 M K hB (hq.k) 6 (by decide) wd_43 (v := .int (σ q 6)) rfl dX0_tickRunning_41 ?_
      obtain ⟨v_15, σ_16, h_17, hr⟩ := cbd hr
      refine x_callI (x_runV M K hB hl.1 [.int (σ q 9), .int (σ q 6)] (rest := []) rfl (c_X3_crashesInTick l Γ (q + 2 + 3 + 5 * x1.toNatClampNeg) (σ q 9) (σ q 6) (isB.t hq (vp_lt g_14)) σ (v_15, σ_16) h_17) cy_X3_crashesInTick (x_recv K hB ((isB.t hq (vp_lt g_14)).k).2 (ent_3 ((isB.t hq (vp_lt g_14)).k).1) rfl) wd_53 ⟨rfl, rfl, Nat.le_of_ble_eq_true rfl, Nat.le_of_ble_eq_true rfl⟩ (Nat.le_of_ble_eq_true rfl) ⟨Nat.zero_le _, Nat.zero_le _⟩ dX0_tickRunning_44) hB (fun H locs hB => ?_)
      replace hB : Bd Γ σ_16 s H locs := hB
      refine lv_if_eq (tgt := 58) M.1 M.2.1 dX0_tickRunning_47 (by decide) (fun c_18 => ?_) (fun c_18 => ?_)
      · rw [if_pos c_18] at hr
        refine lv_iinc (v := x1 + 1) (lv' := [(1, .int (x1 + 1)), (0, .ref (Γ.1 q))]) M.1 M.2.1 dX0_tickRunning_58 hl (k := 1) rfl rfl (by decide) rfl (fun ls hl => ?_)
        refine lv_goto (tgt := 22) M.1 M.2.1 dX0_tickRunning_61 (by decide) ?_
        exact ih_22 (x1 + 1) _ _ _ _  hB (lv_sub hl [1, 0] rfl) hr
      · rw [if_neg c_18] at hr
        refine lv_aload_n M.1 M.2.1 dX0_tickRunning_50 rfl (lv_at hl 0 rfl) ?_
        refine lv_iconst (v := 3) M.1 M.2.1 dX0_tickRunning_51 (by decide) ?_
        refine lv_iload_n M.1 M.2.1 dX0_tickRunning_52 rfl (lv_at hl 1 rfl) ?_
        obtain ⟨v_19, σ_20, h_21, hr⟩ := cbd hr
        refine x_callV (x_runV M K hB hl.1 [.int 3, .int x1] (rest := []) rfl (c_X0_fall l Γ q 3 x1 hq σ_16 (v_19, σ_20) h_21) cy_X0_fall (x_recv K hB (hq.k).2 (ent_0 (hq.k).1) rfl) wd_54 ⟨rfl, rfl, Nat.le_of_ble_eq_true rfl, Nat.le_of_ble_eq_true rfl⟩ (Nat.le_of_ble_eq_true rfl) ⟨Nat.zero_le _, Nat.zero_le _⟩ dX0_tickRunning_53) hB (fun H locs hB => ?_)
        replace hB : Bd Γ σ_20 s H locs := hB
        refine lv_iconst (v := 1) M.1 M.2.1 dX0_tickRunning_56 (by decide) ?_
        exact x_zret M hB (nar_z (by decide)) (Option.some.inj hr) dX0_tickRunning_57
def f_X0_tickRunning_0 (q : Nat)   (σ : Sg) : Option (Int32 × Sg) :=
wb (st σ q 9 ((σ q 9) + 1)) fun σ_1 =>
wb (st σ_1 q 10 ((σ_1 q 10) + 1)) fun σ_3 =>
f_X0_tickRunning_22 q  FU 0 σ_3
set_option maxHeartbeats 4000000 in
set_option maxRecDepth 100000 in
theorem w_X0_tickRunning_0 {p : Program} {l : Launch} {e : Env} {s : State} {m : MethodId} {args : Array Value} {below : List Frame} {meth : Method} {c : Code} {Γ : GG} {res : Int32 × Sg} (M : MX RX0 cX0_tickRunning 3 (some .boolean) p s m args meth c) (K : KK Γ s s.heap) {q : Nat} (hq : isB q)  (σ : Sg) (H : Heap) (locs : List Loc) (ls : Array Slot)  (hB : Bd Γ σ s H locs) (hl : lv_has ls 3 [(0, .ref (Γ.1 q))]) (hr : f_X0_tickRunning_0 q   σ = some res) : WI Γ rm_X0_tickRunning p l e s m args below meth c H locs res (F0 m 0 ls []) := by
  unfold f_X0_tickRunning_0 at hr
  refine lv_aload_n M.1 M.2.1 dX0_tickRunning_0 rfl (lv_at hl 0 rfl) ?_
  refine lv_dup M.1 M.2.1 dX0_tickRunning_1 rfl ?_
  refine x_get0 M K hB (hq.k) 9 (by decide) wd_33 (v := .int (σ q 9)) rfl dX0_tickRunning_2 ?_
  refine lv_iconst (v := 1) M.1 M.2.1 dX0_tickRunning_5 (by decide) ?_
  refine lv_iadd M.1 M.2.1 dX0_tickRunning_6 ?_
  obtain ⟨σ_1, e_2, hr⟩ := wbd hr
  refine x_put0 M K hB (hq.k) 9 (by decide) wd_33 dX0_tickRunning_7 (fun H locs hB => ?_)
  rw [← e_2] at hB
  refine lv_aload_n M.1 M.2.1 dX0_tickRunning_10 rfl (lv_at hl 0 rfl) ?_
  refine lv_dup M.1 M.2.1 dX0_tickRunning_11 rfl ?_
  refine x_get0 M K hB (hq.k) 10 (by decide) wd_34 (v := .int (σ_1 q 10)) rfl dX0_tickRunning_12 ?_
  refine lv_iconst (v := 1) M.1 M.2.1 dX0_tickRunning_15 (by decide) ?_
  refine lv_iadd M.1 M.2.1 dX0_tickRunning_16 ?_
  obtain ⟨σ_3, e_4, hr⟩ := wbd hr
  refine x_put0 M K hB (hq.k) 10 (by decide) wd_34 dX0_tickRunning_17 (fun H locs hB => ?_)
  rw [← e_4] at hB
  refine lv_iconst (v := 0) M.1 M.2.1 dX0_tickRunning_20 (by decide) ?_
  refine lv_istore_n (lv' := [(1, .int 0), (0, .ref (Γ.1 q))]) M.1 M.2.1 dX0_tickRunning_21 rfl hl (by decide) rfl (fun ls hl => ?_)
  exact w_X0_tickRunning_22 M K hq  FU 0 _ _ _ _  hB (lv_sub hl [1, 0] rfl) hr
theorem c_X0_tickRunning (l : Launch) (Γ : GG) (q : Nat) (hq : isB q) (σ : Sg) (res : Int32 × Sg) (hr : f_X0_tickRunning_0 q σ = some res) : Met l yX0_tickRunning (Cond.code yX0_tickRunning cX0_tickRunning 3 (some .boolean) :: gtb) rm_X0_tickRunning (va_Pc [.ref (Γ.1 q)] (GI Γ σ)) (QI Γ res) 0 0 (AD Γ) :=
  x_metI (by decide) [.ref (Γ.1 q)] (Nat.le_of_ble_eq_true rfl) (fun p e s m args below meth c M K ls hl hB => w_X0_tickRunning_0 M K hq σ _ _ ls hB hl hr)
