abbrev rm_X5_acting : Room := { frames := 2, cells := 0, slots := 0, locals := 43 }
def f_X5_acting_41 (a0 : Int32)  (s0 : Int32) (σ : Sg) : Option (Int32 × Sg) :=
some (s0, σ)
set_option maxHeartbeats 4000000 in
set_option maxRecDepth 100000 in
theorem w_X5_acting_41 {p : Program} {l : Launch} {e : Env} {s : State} {m : MethodId} {args : Array Value} {below : List Frame} {meth : Method} {c : Code} {Γ : GG} {res : Int32 × Sg} (M : MX RX5 cX5_acting 3 (some .int) p s m args meth c) (K : KK Γ s s.heap) (a0 : Int32) (s0 : Int32) (σ : Sg) (H : Heap) (locs : List Loc) (ls : Array Slot)  (hB : Bd Γ σ s H locs) (hl : lv_has ls 3 []) (hr : f_X5_acting_41 a0  s0 σ = some res) : WI Γ rm_X5_acting p l e s m args below meth c H locs res (F0 m 41 ls [.int s0]) := by
  unfold f_X5_acting_41 at hr
  exact x_iret M hB (Option.some.inj hr) dX5_acting_41
def f_X5_acting_0 (a0 : Int32)   (σ : Sg) : Option (Int32 × Sg) :=
cb (f_X5_of_0 a0 ((20 + (3 * (σ 151 10))) + 1) σ) fun v_1 σ_2 =>
if σ 151 13 < v_1 then
f_X5_acting_41 a0  0 σ_2
else
cb (f_X5_of_0 a0 (20 + (3 * (σ 151 10))) σ_2) fun v_5 σ_6 =>
f_X5_acting_41 a0  v_5 σ_6
set_option maxHeartbeats 4000000 in
set_option maxRecDepth 100000 in
theorem w_X5_acting_0 {p : Program} {l : Launch} {e : Env} {s : State} {m : MethodId} {args : Array Value} {below : List Frame} {meth : Method} {c : Code} {Γ : GG} {res : Int32 × Sg} (M : MX RX5 cX5_acting 3 (some .int) p s m args meth c) (K : KK Γ s s.heap) (a0 : Int32)  (σ : Sg) (H : Heap) (locs : List Loc) (ls : Array Slot)  (hB : Bd Γ σ s H locs) (hl : lv_has ls 3 [(0, .ref (Γ.1 150)), (1, .int a0)]) (hr : f_X5_acting_0 a0   σ = some res) : WI Γ rm_X5_acting p l e s m args below meth c H locs res (F0 m 0 ls []) := by
  unfold f_X5_acting_0 at hr
  refine lv_bipush (v := 20) M.1 M.2.1 dX5_acting_0 (by decide) ?_
  refine lv_iconst (v := 3) M.1 M.2.1 dX5_acting_2 (by decide) ?_
  refine lv_aload_n M.1 M.2.1 dX5_acting_3 rfl (lv_at hl 0 rfl) ?_
  refine x_get5 M K hB isK_150 0 (by decide) wd_157 (v := .ref (Γ.1 151)) rfl dX5_acting_4 ?_
  refine lv_bipush (v := 10) M.1 M.2.1 dX5_acting_7 (by decide) ?_
  refine x_ialdL M K hB isA_151 (k := 10) (by decide) (by decide) dX5_acting_9 ?_
  refine lv_imul M.1 M.2.1 dX5_acting_10 ?_
  refine lv_iadd M.1 M.2.1 dX5_acting_11 ?_
  refine lv_istore_n (lv' := [(2, .int (20 + (3 * (σ 151 10)))), (0, .ref (Γ.1 150)), (1, .int a0)]) M.1 M.2.1 dX5_acting_12 rfl hl (by decide) rfl (fun ls hl => ?_)
  refine lv_aload_n M.1 M.2.1 dX5_acting_13 rfl (lv_at hl 1 rfl) ?_
  refine x_get5 M K hB isK_150 0 (by decide) wd_157 (v := .ref (Γ.1 151)) rfl dX5_acting_14 ?_
  refine lv_bipush (v := 13) M.1 M.2.1 dX5_acting_17 (by decide) ?_
  refine x_ialdL M K hB isA_151 (k := 13) (by decide) (by decide) dX5_acting_19 ?_
  refine lv_aload_n M.1 M.2.1 dX5_acting_20 rfl (lv_at hl 1 rfl) ?_
  refine lv_iload_n M.1 M.2.1 dX5_acting_21 rfl (lv_at hl 2 rfl) ?_
  refine lv_iload_n M.1 M.2.1 dX5_acting_22 rfl (lv_at hl 0 rfl) ?_
  refine lv_iconst (v := 1) M.1 M.2.1 dX5_acting_23 (by decide) ?_
  refine lv_iadd M.1 M.2.1 dX5_acting_24 ?_
  obtain ⟨v_1, σ_2, h_3, hr⟩ := cbd hr
  refine x_callI (x_runV M K hB hl.1 [.int a0, .int ((20 + (3 * (σ 151 10))) + 1)] (rest := [.int (σ 151 13)]) rfl (c_X5_of l Γ a0 ((20 + (3 * (σ 151 10))) + 1)  σ (v_1, σ_2) h_3) cy_X5_of (x_recv K hB isK_150.2 (ent_5 isK_150.1) rfl) wd_162 ⟨rfl, rfl, Nat.le_of_ble_eq_true rfl, Nat.le_of_ble_eq_true rfl⟩ (Nat.le_of_ble_eq_true rfl) ⟨Nat.zero_le _, Nat.zero_le _⟩ dX5_acting_25) hB (fun H locs hB => ?_)
  replace hB : Bd Γ σ_2 s H locs := hB
  refine lv_icmp_lt (tgt := 40) M.1 M.2.1 dX5_acting_28 (by decide) (fun c_4 => ?_) (fun c_4 => ?_)
  · rw [if_pos c_4] at hr
    refine lv_iconst (v := 0) M.1 M.2.1 dX5_acting_40 (by decide) ?_
    exact w_X5_acting_41 M K a0  0 _ _ _ _  hB (lv_sub hl [] rfl) hr
  · rw [if_neg c_4] at hr
    refine lv_aload_n M.1 M.2.1 dX5_acting_31 rfl (lv_at hl 1 rfl) ?_
    refine lv_iload_n M.1 M.2.1 dX5_acting_32 rfl (lv_at hl 2 rfl) ?_
    refine lv_iload_n M.1 M.2.1 dX5_acting_33 rfl (lv_at hl 0 rfl) ?_
    obtain ⟨v_5, σ_6, h_7, hr⟩ := cbd hr
    refine x_callI (x_runV M K hB hl.1 [.int a0, .int (20 + (3 * (σ 151 10)))] (rest := []) rfl (c_X5_of l Γ a0 (20 + (3 * (σ 151 10)))  σ_2 (v_5, σ_6) h_7) cy_X5_of (x_recv K hB isK_150.2 (ent_5 isK_150.1) rfl) wd_162 ⟨rfl, rfl, Nat.le_of_ble_eq_true rfl, Nat.le_of_ble_eq_true rfl⟩ (Nat.le_of_ble_eq_true rfl) ⟨Nat.zero_le _, Nat.zero_le _⟩ dX5_acting_34) hB (fun H locs hB => ?_)
    replace hB : Bd Γ σ_6 s H locs := hB
    refine lv_goto (tgt := 41) M.1 M.2.1 dX5_acting_37 (by decide) ?_
    exact w_X5_acting_41 M K a0  v_5 _ _ _ _  hB (lv_sub hl [] rfl) hr
theorem c_X5_acting (l : Launch) (Γ : GG) (a0 : Int32)  (σ : Sg) (res : Int32 × Sg) (hr : f_X5_acting_0 a0 σ = some res) : Met l yX5_acting (Cond.code yX5_acting cX5_acting 3 (some .int) :: gtb) rm_X5_acting (va_Pc [.ref (Γ.1 150), .int a0] (GI Γ σ)) (QI Γ res) 0 0 (AD Γ) :=
  x_metI (by decide) [.ref (Γ.1 150), .int a0] (Nat.le_of_ble_eq_true rfl) (fun p e s m args below meth c M K ls hl hB => w_X5_acting_0 M K a0 σ _ _ ls hB hl hr)
abbrev rm_X5_beginJob : Room := { frames := 3, cells := 0, slots := 0, locals := 65 }
def f_X5_beginJob_124 (a0 : Int32)  (s0 : Int32) (s1 : Int32) (s2 : Int32) (s3 : Int32) (σ : Sg) : Option (Int32 × Sg) :=
cb (f_X5_lay_0 s3 s2 (s1 + s0) σ) fun v_30 σ_31 =>
some (0, σ_31)
set_option maxHeartbeats 4000000 in
set_option maxRecDepth 100000 in
theorem w_X5_beginJob_124 {p : Program} {l : Launch} {e : Env} {s : State} {m : MethodId} {args : Array Value} {below : List Frame} {meth : Method} {c : Code} {Γ : GG} {res : Int32 × Sg} (M : MX RX5 cX5_beginJob 3 (some .boolean) p s m args meth c) (K : KK Γ s s.heap) (a0 : Int32) (s0 : Int32) (s1 : Int32) (s2 : Int32) (s3 : Int32) (σ : Sg) (H : Heap) (locs : List Loc) (ls : Array Slot)  (hB : Bd Γ σ s H locs) (hl : lv_has ls 3 []) (hr : f_X5_beginJob_124 a0  s0 s1 s2 s3 σ = some res) : WI Γ rm_X5_beginJob p l e s m args below meth c H locs res (F0 m 124 ls [.int s0, .int s1, .int s2, .int s3, .ref (Γ.1 150)]) := by
  unfold f_X5_beginJob_124 at hr
  refine lv_iadd M.1 M.2.1 dX5_beginJob_124 ?_
  obtain ⟨v_30, σ_31, h_32, hr⟩ := cbd hr
  refine x_callV (x_runV M K hB hl.1 [.int s3, .int s2, .int (s1 + s0)] (rest := []) rfl (c_X5_lay l Γ s3 s2 (s1 + s0)  σ (v_30, σ_31) h_32) cy_X5_lay (x_recv K hB isK_150.2 (ent_5 isK_150.1) rfl) wd_159 ⟨rfl, rfl, Nat.le_of_ble_eq_true rfl, Nat.le_of_ble_eq_true rfl⟩ (Nat.le_of_ble_eq_true rfl) ⟨Nat.zero_le _, Nat.zero_le _⟩ dX5_beginJob_125) hB (fun H locs hB => ?_)
  replace hB : Bd Γ σ_31 s H locs := hB
  refine lv_iconst (v := 0) M.1 M.2.1 dX5_beginJob_128 (by decide) ?_
  exact x_zret M hB (nar_z (by decide)) (Option.some.inj hr) dX5_beginJob_129
def f_X5_beginJob_91 (a0 : Int32)  (x1 : Int32) (x2 : Int32) (s0 : Int32) (s1 : Int32) (s2 : Int32) (σ : Sg) : Option (Int32 × Sg) :=
cb (f_X5_lay_0 s2 s1 s0 σ) fun v_22 σ_23 =>
cb (f_X5_of_0 x1 12 σ_23) fun v_25 σ_26 =>
if x2 = 3 then
f_X5_beginJob_124 a0  0 v_25 12 x1 σ_26
else
if x2 = 4 then
f_X5_beginJob_124 a0  2 v_25 12 x1 σ_26
else
f_X5_beginJob_124 a0  1 v_25 12 x1 σ_26
set_option maxHeartbeats 4000000 in
set_option maxRecDepth 100000 in
theorem w_X5_beginJob_91 {p : Program} {l : Launch} {e : Env} {s : State} {m : MethodId} {args : Array Value} {below : List Frame} {meth : Method} {c : Code} {Γ : GG} {res : Int32 × Sg} (M : MX RX5 cX5_beginJob 3 (some .boolean) p s m args meth c) (K : KK Γ s s.heap) (a0 : Int32) (x1 : Int32) (x2 : Int32) (s0 : Int32) (s1 : Int32) (s2 : Int32) (σ : Sg) (H : Heap) (locs : List Loc) (ls : Array Slot)  (hB : Bd Γ σ s H locs) (hl : lv_has ls 3 [(0, .ref (Γ.1 150)), (1, .int x1), (2, .int x2)]) (hr : f_X5_beginJob_91 a0  x1 x2 s0 s1 s2 σ = some res) : WI Γ rm_X5_beginJob p l e s m args below meth c H locs res (F0 m 91 ls [.int s0, .int s1, .int s2, .ref (Γ.1 150)]) := by
  unfold f_X5_beginJob_91 at hr
  obtain ⟨v_22, σ_23, h_24, hr⟩ := cbd hr
  refine x_callV (x_runV M K hB hl.1 [.int s2, .int s1, .int s0] (rest := []) rfl (c_X5_lay l Γ s2 s1 s0  σ (v_22, σ_23) h_24) cy_X5_lay (x_recv K hB isK_150.2 (ent_5 isK_150.1) rfl) wd_159 ⟨rfl, rfl, Nat.le_of_ble_eq_true rfl, Nat.le_of_ble_eq_true rfl⟩ (Nat.le_of_ble_eq_true rfl) ⟨Nat.zero_le _, Nat.zero_le _⟩ dX5_beginJob_91) hB (fun H locs hB => ?_)
  replace hB : Bd Γ σ_23 s H locs := hB
  refine lv_aload_n M.1 M.2.1 dX5_beginJob_94 rfl (lv_at hl 0 rfl) ?_
  refine lv_iload_n M.1 M.2.1 dX5_beginJob_95 rfl (lv_at hl 1 rfl) ?_
  refine lv_bipush (v := 12) M.1 M.2.1 dX5_beginJob_96 (by decide) ?_
  refine lv_aload_n M.1 M.2.1 dX5_beginJob_98 rfl (lv_at hl 0 rfl) ?_
  refine lv_iload_n M.1 M.2.1 dX5_beginJob_99 rfl (lv_at hl 1 rfl) ?_
  refine lv_bipush (v := 12) M.1 M.2.1 dX5_beginJob_100 (by decide) ?_
  obtain ⟨v_25, σ_26, h_27, hr⟩ := cbd hr
  refine x_callI (x_runV M K hB hl.1 [.int x1, .int 12] (rest := [.int 12, .int x1, .ref (Γ.1 150)]) rfl (c_X5_of l Γ x1 12  σ_23 (v_25, σ_26) h_27) cy_X5_of (x_recv K hB isK_150.2 (ent_5 isK_150.1) rfl) wd_162 ⟨rfl, rfl, Nat.le_of_ble_eq_true rfl, Nat.le_of_ble_eq_true rfl⟩ (Nat.le_of_ble_eq_true rfl) ⟨Nat.zero_le _, Nat.zero_le _⟩ dX5_beginJob_102) hB (fun H locs hB => ?_)
  replace hB : Bd Γ σ_26 s H locs := hB
  refine lv_iload_n M.1 M.2.1 dX5_beginJob_105 rfl (lv_at hl 2 rfl) ?_
  refine lv_iconst (v := 3) M.1 M.2.1 dX5_beginJob_106 (by decide) ?_
  refine lv_icmp_ne (tgt := 114) M.1 M.2.1 dX5_beginJob_107 (by decide) (fun c_28 => ?_) (fun c_28 => ?_)
  · rw [if_neg c_28] at hr
    refine lv_iload_n M.1 M.2.1 dX5_beginJob_114 rfl (lv_at hl 2 rfl) ?_
    refine lv_iconst (v := 4) M.1 M.2.1 dX5_beginJob_115 (by decide) ?_
    refine lv_icmp_ne (tgt := 123) M.1 M.2.1 dX5_beginJob_116 (by decide) (fun c_29 => ?_) (fun c_29 => ?_)
    · rw [if_neg c_29] at hr
      refine lv_iconst (v := 1) M.1 M.2.1 dX5_beginJob_123 (by decide) ?_
      exact w_X5_beginJob_124 M K a0  1 v_25 12 x1 _ _ _ _  hB (lv_sub hl [] rfl) hr
    · rw [if_pos c_29] at hr
      refine lv_iconst (v := 2) M.1 M.2.1 dX5_beginJob_119 (by decide) ?_
      refine lv_goto (tgt := 124) M.1 M.2.1 dX5_beginJob_120 (by decide) ?_
      exact w_X5_beginJob_124 M K a0  2 v_25 12 x1 _ _ _ _  hB (lv_sub hl [] rfl) hr
  · rw [if_pos c_28] at hr
    refine lv_iconst (v := 0) M.1 M.2.1 dX5_beginJob_110 (by decide) ?_
    refine lv_goto (tgt := 124) M.1 M.2.1 dX5_beginJob_111 (by decide) ?_
    exact w_X5_beginJob_124 M K a0  0 v_25 12 x1 _ _ _ _  hB (lv_sub hl [] rfl) hr
def f_X5_beginJob_73 (a0 : Int32)  (x1 : Int32) (x2 : Int32) (s0 : Int32) (s1 : Int32) (s2 : Int32) (s3 : Int32) (σ : Sg) : Option (Int32 × Sg) :=
cb (f_X5_lay_0 s3 s2 (s1 + s0) σ) fun v_18 σ_19 =>
if x2 = 1 then
f_X5_beginJob_91 a0  x1 x2 1 11 x1 σ_19
else
f_X5_beginJob_91 a0  x1 x2 0 11 x1 σ_19
set_option maxHeartbeats 4000000 in
set_option maxRecDepth 100000 in
theorem w_X5_beginJob_73 {p : Program} {l : Launch} {e : Env} {s : State} {m : MethodId} {args : Array Value} {below : List Frame} {meth : Method} {c : Code} {Γ : GG} {res : Int32 × Sg} (M : MX RX5 cX5_beginJob 3 (some .boolean) p s m args meth c) (K : KK Γ s s.heap) (a0 : Int32) (x1 : Int32) (x2 : Int32) (s0 : Int32) (s1 : Int32) (s2 : Int32) (s3 : Int32) (σ : Sg) (H : Heap) (locs : List Loc) (ls : Array Slot)  (hB : Bd Γ σ s H locs) (hl : lv_has ls 3 [(0, .ref (Γ.1 150)), (1, .int x1), (2, .int x2)]) (hr : f_X5_beginJob_73 a0  x1 x2 s0 s1 s2 s3 σ = some res) : WI Γ rm_X5_beginJob p l e s m args below meth c H locs res (F0 m 73 ls [.int s0, .int s1, .int s2, .int s3, .ref (Γ.1 150)]) := by
  unfold f_X5_beginJob_73 at hr
  refine lv_iadd M.1 M.2.1 dX5_beginJob_73 ?_
  obtain ⟨v_18, σ_19, h_20, hr⟩ := cbd hr
  refine x_callV (x_runV M K hB hl.1 [.int s3, .int s2, .int (s1 + s0)] (rest := []) rfl (c_X5_lay l Γ s3 s2 (s1 + s0)  σ (v_18, σ_19) h_20) cy_X5_lay (x_recv K hB isK_150.2 (ent_5 isK_150.1) rfl) wd_159 ⟨rfl, rfl, Nat.le_of_ble_eq_true rfl, Nat.le_of_ble_eq_true rfl⟩ (Nat.le_of_ble_eq_true rfl) ⟨Nat.zero_le _, Nat.zero_le _⟩ dX5_beginJob_74) hB (fun H locs hB => ?_)
  replace hB : Bd Γ σ_19 s H locs := hB
  refine lv_aload_n M.1 M.2.1 dX5_beginJob_77 rfl (lv_at hl 0 rfl) ?_
  refine lv_iload_n M.1 M.2.1 dX5_beginJob_78 rfl (lv_at hl 1 rfl) ?_
  refine lv_bipush (v := 11) M.1 M.2.1 dX5_beginJob_79 (by decide) ?_
  refine lv_iload_n M.1 M.2.1 dX5_beginJob_81 rfl (lv_at hl 2 rfl) ?_
  refine lv_iconst (v := 1) M.1 M.2.1 dX5_beginJob_82 (by decide) ?_
  refine lv_icmp_ne (tgt := 90) M.1 M.2.1 dX5_beginJob_83 (by decide) (fun c_21 => ?_) (fun c_21 => ?_)
  · rw [if_neg c_21] at hr
    refine lv_iconst (v := 0) M.1 M.2.1 dX5_beginJob_90 (by decide) ?_
    exact w_X5_beginJob_91 M K a0  x1 x2 0 11 x1 _ _ _ _  hB (lv_sub hl [0, 1, 2] rfl) hr
  · rw [if_pos c_21] at hr
    refine lv_iconst (v := 1) M.1 M.2.1 dX5_beginJob_86 (by decide) ?_
    refine lv_goto (tgt := 91) M.1 M.2.1 dX5_beginJob_87 (by decide) ?_
    exact w_X5_beginJob_91 M K a0  x1 x2 1 11 x1 _ _ _ _  hB (lv_sub hl [0, 1, 2] rfl) hr
def f_X5_beginJob_0 (a0 : Int32)   (σ : Sg) : Option (Int32 × Sg) :=
cb (f_X5_acting_0 a0 σ) fun v_1 σ_2 =>
if v_1 = 5 then
some (1, σ_2)
else
cb (f_X5_lay_0 a0 8 1 σ_2) fun v_5 σ_6 =>
cb (f_X5_lay_0 a0 10 (σ_6 151 13) σ_6) fun v_8 σ_9 =>
cb (f_X5_of_0 a0 1 σ_9) fun v_11 σ_12 =>
if v_1 = 2 then
cb (f_X5_of_0 a0 ((20 + (3 * (σ_12 151 10))) + 2) σ_12) fun v_15 σ_16 =>
f_X5_beginJob_73 a0  a0 v_1 v_15 v_11 9 a0 σ_16
else
f_X5_beginJob_73 a0  a0 v_1 0 v_11 9 a0 σ_12
set_option maxHeartbeats 4000000 in
set_option maxRecDepth 100000 in
theorem w_X5_beginJob_0 {p : Program} {l : Launch} {e : Env} {s : State} {m : MethodId} {args : Array Value} {below : List Frame} {meth : Method} {c : Code} {Γ : GG} {res : Int32 × Sg} (M : MX RX5 cX5_beginJob 3 (some .boolean) p s m args meth c) (K : KK Γ s s.heap) (a0 : Int32)  (σ : Sg) (H : Heap) (locs : List Loc) (ls : Array Slot)  (hB : Bd Γ σ s H locs) (hl : lv_has ls 3 [(0, .ref (Γ.1 150)), (1, .int a0)]) (hr : f_X5_beginJob_0 a0   σ = some res) : WI Γ rm_X5_beginJob p l e s m args below meth c H locs res (F0 m 0 ls []) := by
  unfold f_X5_beginJob_0 at hr
  refine lv_aload_n M.1 M.2.1 dX5_beginJob_0 rfl (lv_at hl 0 rfl) ?_
  refine lv_iload_n M.1 M.2.1 dX5_beginJob_1 rfl (lv_at hl 1 rfl) ?_
  obtain ⟨v_1, σ_2, h_3, hr⟩ := cbd hr
  refine x_callI (x_runV M K hB hl.1 [.int a0] (rest := []) rfl (c_X5_acting l Γ a0  σ (v_1, σ_2) h_3) cy_X5_acting (x_recv K hB isK_150.2 (ent_5 isK_150.1) rfl) wd_177 ⟨rfl, rfl, Nat.le_of_ble_eq_true rfl, Nat.le_of_ble_eq_true rfl⟩ (Nat.le_of_ble_eq_true rfl) ⟨Nat.zero_le _, Nat.zero_le _⟩ dX5_beginJob_2) hB (fun H locs hB => ?_)
  replace hB : Bd Γ σ_2 s H locs := hB
  refine lv_istore_n (lv' := [(2, .int v_1), (0, .ref (Γ.1 150)), (1, .int a0)]) M.1 M.2.1 dX5_beginJob_5 rfl hl (by decide) rfl (fun ls hl => ?_)
  refine lv_iload_n M.1 M.2.1 dX5_beginJob_6 rfl (lv_at hl 0 rfl) ?_
  refine lv_iconst (v := 5) M.1 M.2.1 dX5_beginJob_7 (by decide) ?_
  refine lv_icmp_ne (tgt := 13) M.1 M.2.1 dX5_beginJob_8 (by decide) (fun c_4 => ?_) (fun c_4 => ?_)
  · rw [if_neg c_4] at hr
    refine lv_aload_n M.1 M.2.1 dX5_beginJob_13 rfl (lv_at hl 1 rfl) ?_
    refine lv_iload_n M.1 M.2.1 dX5_beginJob_14 rfl (lv_at hl 2 rfl) ?_
    refine lv_bipush (v := 8) M.1 M.2.1 dX5_beginJob_15 (by decide) ?_
    refine lv_iconst (v := 1) M.1 M.2.1 dX5_beginJob_17 (by decide) ?_
    obtain ⟨v_5, σ_6, h_7, hr⟩ := cbd hr
    refine x_callV (x_runV M K hB hl.1 [.int a0, .int 8, .int 1] (rest := []) rfl (c_X5_lay l Γ a0 8 1  σ_2 (v_5, σ_6) h_7) cy_X5_lay (x_recv K hB isK_150.2 (ent_5 isK_150.1) rfl) wd_159 ⟨rfl, rfl, Nat.le_of_ble_eq_true rfl, Nat.le_of_ble_eq_true rfl⟩ (Nat.le_of_ble_eq_true rfl) ⟨Nat.zero_le _, Nat.zero_le _⟩ dX5_beginJob_18) hB (fun H locs hB => ?_)
    replace hB : Bd Γ σ_6 s H locs := hB
    refine lv_aload_n M.1 M.2.1 dX5_beginJob_21 rfl (lv_at hl 1 rfl) ?_
    refine lv_iload_n M.1 M.2.1 dX5_beginJob_22 rfl (lv_at hl 2 rfl) ?_
    refine lv_bipush (v := 10) M.1 M.2.1 dX5_beginJob_23 (by decide) ?_
    refine lv_aload_n M.1 M.2.1 dX5_beginJob_25 rfl (lv_at hl 1 rfl) ?_
    refine x_get5 M K hB isK_150 0 (by decide) wd_157 (v := .ref (Γ.1 151)) rfl dX5_beginJob_26 ?_
    refine lv_bipush (v := 13) M.1 M.2.1 dX5_beginJob_29 (by decide) ?_
    refine x_ialdL M K hB isA_151 (k := 13) (by decide) (by decide) dX5_beginJob_31 ?_
    obtain ⟨v_8, σ_9, h_10, hr⟩ := cbd hr
    refine x_callV (x_runV M K hB hl.1 [.int a0, .int 10, .int (σ_6 151 13)] (rest := []) rfl (c_X5_lay l Γ a0 10 (σ_6 151 13)  σ_6 (v_8, σ_9) h_10) cy_X5_lay (x_recv K hB isK_150.2 (ent_5 isK_150.1) rfl) wd_159 ⟨rfl, rfl, Nat.le_of_ble_eq_true rfl, Nat.le_of_ble_eq_true rfl⟩ (Nat.le_of_ble_eq_true rfl) ⟨Nat.zero_le _, Nat.zero_le _⟩ dX5_beginJob_32) hB (fun H locs hB => ?_)
    replace hB : Bd Γ σ_9 s H locs := hB
    refine lv_aload_n M.1 M.2.1 dX5_beginJob_35 rfl (lv_at hl 1 rfl) ?_
    refine lv_iload_n M.1 M.2.1 dX5_beginJob_36 rfl (lv_at hl 2 rfl) ?_
    refine lv_bipush (v := 9) M.1 M.2.1 dX5_beginJob_37 (by decide) ?_
    refine lv_aload_n M.1 M.2.1 dX5_beginJob_39 rfl (lv_at hl 1 rfl) ?_
    refine lv_iload_n M.1 M.2.1 dX5_beginJob_40 rfl (lv_at hl 2 rfl) ?_
    refine lv_iconst (v := 1) M.1 M.2.1 dX5_beginJob_41 (by decide) ?_
    obtain ⟨v_11, σ_12, h_13, hr⟩ := cbd hr
    refine x_callI (x_runV M K hB hl.1 [.int a0, .int 1] (rest := [.int 9, .int a0, .ref (Γ.1 150)]) rfl (c_X5_of l Γ a0 1  σ_9 (v_11, σ_12) h_13) cy_X5_of (x_recv K hB isK_150.2 (ent_5 isK_150.1) rfl) wd_162 ⟨rfl, rfl, Nat.le_of_ble_eq_true rfl, Nat.le_of_ble_eq_true rfl⟩ (Nat.le_of_ble_eq_true rfl) ⟨Nat.zero_le _, Nat.zero_le _⟩ dX5_beginJob_42) hB (fun H locs hB => ?_)
    replace hB : Bd Γ σ_12 s H locs := hB
    refine lv_iload_n M.1 M.2.1 dX5_beginJob_45 rfl (lv_at hl 0 rfl) ?_
    refine lv_iconst (v := 2) M.1 M.2.1 dX5_beginJob_46 (by decide) ?_
    refine lv_icmp_ne (tgt := 72) M.1 M.2.1 dX5_beginJob_47 (by decide) (fun c_14 => ?_) (fun c_14 => ?_)
    · rw [if_neg c_14] at hr
      refine lv_iconst (v := 0) M.1 M.2.1 dX5_beginJob_72 (by decide) ?_
      exact w_X5_beginJob_73 M K a0  a0 v_1 0 v_11 9 a0 _ _ _ _  hB (lv_sub hl [1, 2, 0] rfl) hr
    · rw [if_pos c_14] at hr
      refine lv_aload_n M.1 M.2.1 dX5_beginJob_50 rfl (lv_at hl 1 rfl) ?_
      refine lv_iload_n M.1 M.2.1 dX5_beginJob_51 rfl (lv_at hl 2 rfl) ?_
      refine lv_bipush (v := 20) M.1 M.2.1 dX5_beginJob_52 (by decide) ?_
      refine lv_iconst (v := 3) M.1 M.2.1 dX5_beginJob_54 (by decide) ?_
      refine lv_aload_n M.1 M.2.1 dX5_beginJob_55 rfl (lv_at hl 1 rfl) ?_
      refine x_get5 M K hB isK_150 0 (by decide) wd_157 (v := .ref (Γ.1 151)) rfl dX5_beginJob_56 ?_
      refine lv_bipush (v := 10) M.1 M.2.1 dX5_beginJob_59 (by decide) ?_
      refine x_ialdL M K hB isA_151 (k := 10) (by decide) (by decide) dX5_beginJob_61 ?_
      refine lv_imul M.1 M.2.1 dX5_beginJob_62 ?_
      refine lv_iadd M.1 M.2.1 dX5_beginJob_63 ?_
      refine lv_iconst (v := 2) M.1 M.2.1 dX5_beginJob_64 (by decide) ?_
      refine lv_iadd M.1 M.2.1 dX5_beginJob_65 ?_
      obtain ⟨v_15, σ_16, h_17, hr⟩ := cbd hr
      refine x_callI (x_runV M K hB hl.1 [.int a0, .int ((20 + (3 * (σ_12 151 10))) + 2)] (rest := [.int v_11, .int 9, .int a0, .ref (Γ.1 150)]) rfl (c_X5_of l Γ a0 ((20 + (3 * (σ_12 151 10))) + 2)  σ_12 (v_15, σ_16) h_17) cy_X5_of (x_recv K hB isK_150.2 (ent_5 isK_150.1) rfl) wd_162 ⟨rfl, rfl, Nat.le_of_ble_eq_true rfl, Nat.le_of_ble_eq_true rfl⟩ (Nat.le_of_ble_eq_true rfl) ⟨Nat.zero_le _, Nat.zero_le _⟩ dX5_beginJob_66) hB (fun H locs hB => ?_)
      replace hB : Bd Γ σ_16 s H locs := hB
      refine lv_goto (tgt := 73) M.1 M.2.1 dX5_beginJob_69 (by decide) ?_
      exact w_X5_beginJob_73 M K a0  a0 v_1 v_15 v_11 9 a0 _ _ _ _  hB (lv_sub hl [1, 2, 0] rfl) hr
  · rw [if_pos c_4] at hr
    refine lv_iconst (v := 1) M.1 M.2.1 dX5_beginJob_11 (by decide) ?_
    exact x_zret M hB (nar_z (by decide)) (Option.some.inj hr) dX5_beginJob_12
theorem c_X5_beginJob (l : Launch) (Γ : GG) (a0 : Int32)  (σ : Sg) (res : Int32 × Sg) (hr : f_X5_beginJob_0 a0 σ = some res) : Met l yX5_beginJob (Cond.code yX5_beginJob cX5_beginJob 3 (some .boolean) :: gtb) rm_X5_beginJob (va_Pc [.ref (Γ.1 150), .int a0] (GI Γ σ)) (QI Γ res) 0 0 (AD Γ) :=
  x_metI (by decide) [.ref (Γ.1 150), .int a0] (Nat.le_of_ble_eq_true rfl) (fun p e s m args below meth c M K ls hl hB => w_X5_beginJob_0 M K a0 σ _ _ ls hB hl hr)
abbrev rm_X5_crashes : Room := { frames := 4, cells := 0, slots := 0, locals := 87 }
def f_X5_crashes_106 (a0 : Int32)   (σ : Sg) : Option (Int32 × Sg) :=
some (0, σ)
set_option maxHeartbeats 4000000 in
set_option maxRecDepth 100000 in
theorem w_X5_crashes_106 {p : Program} {l : Launch} {e : Env} {s : State} {m : MethodId} {args : Array Value} {below : List Frame} {meth : Method} {c : Code} {Γ : GG} {res : Int32 × Sg} (M : MX RX5 cX5_crashes 3 (some .boolean) p s m args meth c) (K : KK Γ s s.heap) (a0 : Int32)  (σ : Sg) (H : Heap) (locs : List Loc) (ls : Array Slot)  (hB : Bd Γ σ s H locs) (hl : lv_has ls 3 []) (hr : f_X5_crashes_106 a0   σ = some res) : WI Γ rm_X5_crashes p l e s m args below meth c H locs res (F0 m 106 ls []) := by
  unfold f_X5_crashes_106 at hr
  refine lv_iconst (v := 0) M.1 M.2.1 dX5_crashes_106 (by decide) ?_
  exact x_zret M hB (nar_z (by decide)) (Option.some.inj hr) dX5_crashes_107
def f_X5_crashes_52 (a0 : Int32)  (x1 : Int32) (σ : Sg) : Option (Int32 × Sg) :=
cb (f_X5_of_0 x1 8 σ) fun v_21 σ_22 =>
if v_21 = 1 then
cb (f_X5_of_0 x1 7 σ_22) fun v_25 σ_26 =>
if v_25 ≤ 0 then
f_X5_crashes_106 a0   σ_26
else
cb (f_X5_of_0 x1 10 σ_26) fun v_29 σ_30 =>
cb (f_X5_of_0 x1 7 σ_30) fun v_32 σ_33 =>
if (σ_26 151 13) - v_29 ≤ v_32 then
f_X5_crashes_106 a0   σ_33
else
cb (f_X5_lay_0 x1 14 1 σ_33) fun v_36 σ_37 =>
f_X5_crashes_106 a0   σ_37
else
f_X5_crashes_106 a0   σ_22
set_option maxHeartbeats 4000000 in
set_option maxRecDepth 100000 in
theorem w_X5_crashes_52 {p : Program} {l : Launch} {e : Env} {s : State} {m : MethodId} {args : Array Value} {below : List Frame} {meth : Method} {c : Code} {Γ : GG} {res : Int32 × Sg} (M : MX RX5 cX5_crashes 3 (some .boolean) p s m args meth c) (K : KK Γ s s.heap) (a0 : Int32) (x1 : Int32) (σ : Sg) (H : Heap) (locs : List Loc) (ls : Array Slot)  (hB : Bd Γ σ s H locs) (hl : lv_has ls 3 [(0, .ref (Γ.1 150)), (1, .int x1)]) (hr : f_X5_crashes_52 a0  x1 σ = some res) : WI Γ rm_X5_crashes p l e s m args below meth c H locs res (F0 m 52 ls []) := by
  unfold f_X5_crashes_52 at hr
  refine lv_aload_n M.1 M.2.1 dX5_crashes_52 rfl (lv_at hl 0 rfl) ?_
  refine lv_iload_n M.1 M.2.1 dX5_crashes_53 rfl (lv_at hl 1 rfl) ?_
  refine lv_bipush (v := 8) M.1 M.2.1 dX5_crashes_54 (by decide) ?_
  obtain ⟨v_21, σ_22, h_23, hr⟩ := cbd hr
  refine x_callI (x_runV M K hB hl.1 [.int x1, .int 8] (rest := []) rfl (c_X5_of l Γ x1 8  σ (v_21, σ_22) h_23) cy_X5_of (x_recv K hB isK_150.2 (ent_5 isK_150.1) rfl) wd_162 ⟨rfl, rfl, Nat.le_of_ble_eq_true rfl, Nat.le_of_ble_eq_true rfl⟩ (Nat.le_of_ble_eq_true rfl) ⟨Nat.zero_le _, Nat.zero_le _⟩ dX5_crashes_56) hB (fun H locs hB => ?_)
  replace hB : Bd Γ σ_22 s H locs := hB
  refine lv_iconst (v := 1) M.1 M.2.1 dX5_crashes_59 (by decide) ?_
  refine lv_icmp_ne (tgt := 106) M.1 M.2.1 dX5_crashes_60 (by decide) (fun c_24 => ?_) (fun c_24 => ?_)
  · rw [if_neg c_24] at hr
    exact w_X5_crashes_106 M K a0   _ _ _ _  hB (lv_sub hl [] rfl) hr
  · rw [if_pos c_24] at hr
    refine lv_aload_n M.1 M.2.1 dX5_crashes_63 rfl (lv_at hl 0 rfl) ?_
    refine lv_iload_n M.1 M.2.1 dX5_crashes_64 rfl (lv_at hl 1 rfl) ?_
    refine lv_bipush (v := 7) M.1 M.2.1 dX5_crashes_65 (by decide) ?_
    obtain ⟨v_25, σ_26, h_27, hr⟩ := cbd hr
    refine x_callI (x_runV M K hB hl.1 [.int x1, .int 7] (rest := []) rfl (c_X5_of l Γ x1 7  σ_22 (v_25, σ_26) h_27) cy_X5_of (x_recv K hB isK_150.2 (ent_5 isK_150.1) rfl) wd_162 ⟨rfl, rfl, Nat.le_of_ble_eq_true rfl, Nat.le_of_ble_eq_true rfl⟩ (Nat.le_of_ble_eq_true rfl) ⟨Nat.zero_le _, Nat.zero_le _⟩ dX5_crashes_67) hB (fun H locs hB => ?_)
    replace hB : Bd Γ σ_26 s H locs := hB
    refine lv_if_le (tgt := 106) M.1 M.2.1 dX5_crashes_70 (by decide) (fun c_28 => ?_) (fun c_28 => ?_)
    · rw [if_pos c_28] at hr
      exact w_X5_crashes_106 M K a0   _ _ _ _  hB (lv_sub hl [] rfl) hr
    · rw [if_neg c_28] at hr
      refine lv_aload_n M.1 M.2.1 dX5_crashes_73 rfl (lv_at hl 0 rfl) ?_
      refine x_get5 M K hB isK_150 0 (by decide) wd_157 (v := .ref (Γ.1 151)) rfl dX5_crashes_74 ?_
      refine lv_bipush (v := 13) M.1 M.2.1 dX5_crashes_77 (by decide) ?_
      refine x_ialdL M K hB isA_151 (k := 13) (by decide) (by decide) dX5_crashes_79 ?_
      refine lv_aload_n M.1 M.2.1 dX5_crashes_80 rfl (lv_at hl 0 rfl) ?_
      refine lv_iload_n M.1 M.2.1 dX5_crashes_81 rfl (lv_at hl 1 rfl) ?_
      refine lv_bipush (v := 10) M.1 M.2.1 dX5_crashes_82 (by decide) ?_
      obtain ⟨v_29, σ_30, h_31, hr⟩ := cbd hr
      refine x_callI (x_runV M K hB hl.1 [.int x1, .int 10] (rest := [.int (σ_26 151 13)]) rfl (c_X5_of l Γ x1 10  σ_26 (v_29, σ_30) h_31) cy_X5_of (x_recv K hB isK_150.2 (ent_5 isK_150.1) rfl) wd_162 ⟨rfl, rfl, Nat.le_of_ble_eq_true rfl, Nat.le_of_ble_eq_true rfl⟩ (Nat.le_of_ble_eq_true rfl) ⟨Nat.zero_le _, Nat.zero_le _⟩ dX5_crashes_84) hB (fun H locs hB => ?_)
      replace hB : Bd Γ σ_30 s H locs := hB
      refine lv_isub M.1 M.2.1 dX5_crashes_87 ?_
      refine lv_aload_n M.1 M.2.1 dX5_crashes_88 rfl (lv_at hl 0 rfl) ?_
      refine lv_iload_n M.1 M.2.1 dX5_crashes_89 rfl (lv_at hl 1 rfl) ?_
      refine lv_bipush (v := 7) M.1 M.2.1 dX5_crashes_90 (by decide) ?_
      obtain ⟨v_32, σ_33, h_34, hr⟩ := cbd hr
      refine x_callI (x_runV M K hB hl.1 [.int x1, .int 7] (rest := [.int ((σ_26 151 13) - v_29)]) rfl (c_X5_of l Γ x1 7  σ_30 (v_32, σ_33) h_34) cy_X5_of (x_recv K hB isK_150.2 (ent_5 isK_150.1) rfl) wd_162 ⟨rfl, rfl, Nat.le_of_ble_eq_true rfl, Nat.le_of_ble_eq_true rfl⟩ (Nat.le_of_ble_eq_true rfl) ⟨Nat.zero_le _, Nat.zero_le _⟩ dX5_crashes_92) hB (fun H locs hB => ?_)
      replace hB : Bd Γ σ_33 s H locs := hB
      refine lv_icmp_le (tgt := 106) M.1 M.2.1 dX5_crashes_95 (by decide) (fun c_35 => ?_) (fun c_35 => ?_)
      · rw [if_pos c_35] at hr
        exact w_X5_crashes_106 M K a0   _ _ _ _  hB (lv_sub hl [] rfl) hr
      · rw [if_neg c_35] at hr
        refine lv_aload_n M.1 M.2.1 dX5_crashes_98 rfl (lv_at hl 0 rfl) ?_
        refine lv_iload_n M.1 M.2.1 dX5_crashes_99 rfl (lv_at hl 1 rfl) ?_
        refine lv_bipush (v := 14) M.1 M.2.1 dX5_crashes_100 (by decide) ?_
        refine lv_iconst (v := 1) M.1 M.2.1 dX5_crashes_102 (by decide) ?_
        obtain ⟨v_36, σ_37, h_38, hr⟩ := cbd hr
        refine x_callV (x_runV M K hB hl.1 [.int x1, .int 14, .int 1] (rest := []) rfl (c_X5_lay l Γ x1 14 1  σ_33 (v_36, σ_37) h_38) cy_X5_lay (x_recv K hB isK_150.2 (ent_5 isK_150.1) rfl) wd_159 ⟨rfl, rfl, Nat.le_of_ble_eq_true rfl, Nat.le_of_ble_eq_true rfl⟩ (Nat.le_of_ble_eq_true rfl) ⟨Nat.zero_le _, Nat.zero_le _⟩ dX5_crashes_103) hB (fun H locs hB => ?_)
        replace hB : Bd Γ σ_37 s H locs := hB
        exact w_X5_crashes_106 M K a0   _ _ _ _  hB (lv_sub hl [] rfl) hr
def f_X5_crashes_0 (a0 : Int32)   (σ : Sg) : Option (Int32 × Sg) :=
cb (f_X5_goOnJob_0 a0 σ) fun v_1 σ_2 =>
cb (f_X5_of_0 a0 0 σ_2) fun v_4 σ_5 =>
cb (f_X5_of_0 a0 8 σ_5) fun v_7 σ_8 =>
if v_7 = 0 then
if v_4 = 0 then none else
cb (f_X5_of_0 a0 2 σ_8) fun v_12 σ_13 =>
if v_4 = 0 then none else
if (σ_8 151 13) - (σ_8 151 13) / v_4 * v_4 = v_12 - v_12 / v_4 * v_4 then
cb (f_X5_beginJob_0 a0 σ_13) fun v_17 σ_18 =>
if v_17 = 0 then
f_X5_crashes_52 a0  a0 σ_18
else
some (1, σ_18)
else
f_X5_crashes_52 a0  a0 σ_13
else
f_X5_crashes_52 a0  a0 σ_8
set_option maxHeartbeats 4000000 in
set_option maxRecDepth 100000 in
theorem w_X5_crashes_0 {p : Program} {l : Launch} {e : Env} {s : State} {m : MethodId} {args : Array Value} {below : List Frame} {meth : Method} {c : Code} {Γ : GG} {res : Int32 × Sg} (M : MX RX5 cX5_crashes 3 (some .boolean) p s m args meth c) (K : KK Γ s s.heap) (a0 : Int32)  (σ : Sg) (H : Heap) (locs : List Loc) (ls : Array Slot)  (hB : Bd Γ σ s H locs) (hl : lv_has ls 3 [(0, .ref (Γ.1 150)), (1, .int a0)]) (hr : f_X5_crashes_0 a0   σ = some res) : WI Γ rm_X5_crashes p l e s m args below meth c H locs res (F0 m 0 ls []) := by
  unfold f_X5_crashes_0 at hr
  refine lv_aload_n M.1 M.2.1 dX5_crashes_0 rfl (lv_at hl 0 rfl) ?_
  refine lv_iload_n M.1 M.2.1 dX5_crashes_1 rfl (lv_at hl 1 rfl) ?_
  obtain ⟨v_1, σ_2, h_3, hr⟩ := cbd hr
  refine x_callV (x_runV M K hB hl.1 [.int a0] (rest := []) rfl (c_X5_goOnJob l Γ a0  σ (v_1, σ_2) h_3) cy_X5_goOnJob (x_recv K hB isK_150.2 (ent_5 isK_150.1) rfl) wd_178 ⟨rfl, rfl, Nat.le_of_ble_eq_true rfl, Nat.le_of_ble_eq_true rfl⟩ (Nat.le_of_ble_eq_true rfl) ⟨Nat.zero_le _, Nat.zero_le _⟩ dX5_crashes_2) hB (fun H locs hB => ?_)
  replace hB : Bd Γ σ_2 s H locs := hB
  refine lv_aload_n M.1 M.2.1 dX5_crashes_5 rfl (lv_at hl 0 rfl) ?_
  refine lv_iload_n M.1 M.2.1 dX5_crashes_6 rfl (lv_at hl 1 rfl) ?_
  refine lv_iconst (v := 0) M.1 M.2.1 dX5_crashes_7 (by decide) ?_
  obtain ⟨v_4, σ_5, h_6, hr⟩ := cbd hr
  refine x_callI (x_runV M K hB hl.1 [.int a0, .int 0] (rest := []) rfl (c_X5_of l Γ a0 0  σ_2 (v_4, σ_5) h_6) cy_X5_of (x_recv K hB isK_150.2 (ent_5 isK_150.1) rfl) wd_162 ⟨rfl, rfl, Nat.le_of_ble_eq_true rfl, Nat.le_of_ble_eq_true rfl⟩ (Nat.le_of_ble_eq_true rfl) ⟨Nat.zero_le _, Nat.zero_le _⟩ dX5_crashes_8) hB (fun H locs hB => ?_)
  replace hB : Bd Γ σ_5 s H locs := hB
  refine lv_istore_n (lv' := [(2, .int v_4), (0, .ref (Γ.1 150)), (1, .int a0)]) M.1 M.2.1 dX5_crashes_11 rfl hl (by decide) rfl (fun ls hl => ?_)
  refine lv_aload_n M.1 M.2.1 dX5_crashes_12 rfl (lv_at hl 1 rfl) ?_
  refine lv_iload_n M.1 M.2.1 dX5_crashes_13 rfl (lv_at hl 2 rfl) ?_
  refine lv_bipush (v := 8) M.1 M.2.1 dX5_crashes_14 (by decide) ?_
  obtain ⟨v_7, σ_8, h_9, hr⟩ := cbd hr
  refine x_callI (x_runV M K hB hl.1 [.int a0, .int 8] (rest := []) rfl (c_X5_of l Γ a0 8  σ_5 (v_7, σ_8) h_9) cy_X5_of (x_recv K hB isK_150.2 (ent_5 isK_150.1) rfl) wd_162 ⟨rfl, rfl, Nat.le_of_ble_eq_true rfl, Nat.le_of_ble_eq_true rfl⟩ (Nat.le_of_ble_eq_true rfl) ⟨Nat.zero_le _, Nat.zero_le _⟩ dX5_crashes_16) hB (fun H locs hB => ?_)
  replace hB : Bd Γ σ_8 s H locs := hB
  refine lv_if_ne (tgt := 52) M.1 M.2.1 dX5_crashes_19 (by decide) (fun c_10 => ?_) (fun c_10 => ?_)
  · rw [if_neg c_10] at hr
    exact w_X5_crashes_52 M K a0  a0 _ _ _ _  hB (lv_sub hl [1, 2] rfl) hr
  · rw [if_pos c_10] at hr
    refine lv_aload_n M.1 M.2.1 dX5_crashes_22 rfl (lv_at hl 1 rfl) ?_
    refine x_get5 M K hB isK_150 0 (by decide) wd_157 (v := .ref (Γ.1 151)) rfl dX5_crashes_23 ?_
    refine lv_bipush (v := 13) M.1 M.2.1 dX5_crashes_26 (by decide) ?_
    refine x_ialdL M K hB isA_151 (k := 13) (by decide) (by decide) dX5_crashes_28 ?_
    refine lv_iload_n M.1 M.2.1 dX5_crashes_29 rfl (lv_at hl 0 rfl) ?_
    obtain ⟨g_11, hr⟩ := gd hr
    refine lv_irem M.1 M.2.1 dX5_crashes_30 g_11 ?_
    refine lv_aload_n M.1 M.2.1 dX5_crashes_31 rfl (lv_at hl 1 rfl) ?_
    refine lv_iload_n M.1 M.2.1 dX5_crashes_32 rfl (lv_at hl 2 rfl) ?_
    refine lv_iconst (v := 2) M.1 M.2.1 dX5_crashes_33 (by decide) ?_
    obtain ⟨v_12, σ_13, h_14, hr⟩ := cbd hr
    refine x_callI (x_runV M K hB hl.1 [.int a0, .int 2] (rest := [.int ((σ_8 151 13) - (σ_8 151 13) / v_4 * v_4)]) rfl (c_X5_of l Γ a0 2  σ_8 (v_12, σ_13) h_14) cy_X5_of (x_recv K hB isK_150.2 (ent_5 isK_150.1) rfl) wd_162 ⟨rfl, rfl, Nat.le_of_ble_eq_true rfl, Nat.le_of_ble_eq_true rfl⟩ (Nat.le_of_ble_eq_true rfl) ⟨Nat.zero_le _, Nat.zero_le _⟩ dX5_crashes_34) hB (fun H locs hB => ?_)
    replace hB : Bd Γ σ_13 s H locs := hB
    refine lv_iload_n M.1 M.2.1 dX5_crashes_37 rfl (lv_at hl 0 rfl) ?_
    obtain ⟨g_15, hr⟩ := gd hr
    refine lv_irem M.1 M.2.1 dX5_crashes_38 g_15 ?_
    refine lv_icmp_ne (tgt := 52) M.1 M.2.1 dX5_crashes_39 (by decide) (fun c_16 => ?_) (fun c_16 => ?_)
    · rw [if_neg c_16] at hr
      exact w_X5_crashes_52 M K a0  a0 _ _ _ _  hB (lv_sub hl [1, 2] rfl) hr
    · rw [if_pos c_16] at hr
      refine lv_aload_n M.1 M.2.1 dX5_crashes_42 rfl (lv_at hl 1 rfl) ?_
      refine lv_iload_n M.1 M.2.1 dX5_crashes_43 rfl (lv_at hl 2 rfl) ?_
      obtain ⟨v_17, σ_18, h_19, hr⟩ := cbd hr
      refine x_callI (x_runV M K hB hl.1 [.int a0] (rest := []) rfl (c_X5_beginJob l Γ a0  σ_13 (v_17, σ_18) h_19) cy_X5_beginJob (x_recv K hB isK_150.2 (ent_5 isK_150.1) rfl) wd_179 ⟨rfl, rfl, Nat.le_of_ble_eq_true rfl, Nat.le_of_ble_eq_true rfl⟩ (Nat.le_of_ble_eq_true rfl) ⟨Nat.zero_le _, Nat.zero_le _⟩ dX5_crashes_44) hB (fun H locs hB => ?_)
      replace hB : Bd Γ σ_18 s H locs := hB
      refine lv_if_eq (tgt := 52) M.1 M.2.1 dX5_crashes_47 (by decide) (fun c_20 => ?_) (fun c_20 => ?_)
      · rw [if_pos c_20] at hr
        exact w_X5_crashes_52 M K a0  a0 _ _ _ _  hB (lv_sub hl [1, 2] rfl) hr
      · rw [if_neg c_20] at hr
        refine lv_iconst (v := 1) M.1 M.2.1 dX5_crashes_50 (by decide) ?_
        exact x_zret M hB (nar_z (by decide)) (Option.some.inj hr) dX5_crashes_51
theorem c_X5_crashes (l : Launch) (Γ : GG) (a0 : Int32)  (σ : Sg) (res : Int32 × Sg) (hr : f_X5_crashes_0 a0 σ = some res) : Met l yX5_crashes (Cond.code yX5_crashes cX5_crashes 3 (some .boolean) :: gtb) rm_X5_crashes (va_Pc [.ref (Γ.1 150), .int a0] (GI Γ σ)) (QI Γ res) 0 0 (AD Γ) :=
  x_metI (by decide) [.ref (Γ.1 150), .int a0] (Nat.le_of_ble_eq_true rfl) (fun p e s m args below meth c M K ls hl hB => w_X5_crashes_0 M K a0 σ _ _ ls hB hl hr)
abbrev rm_X5_firstExpired : Room := { frames := 2, cells := 0, slots := 0, locals := 43 }
def f_X5_firstExpired_2   : Nat → Int32 → Sg → Option (Int32 × Sg)
  | 0, _, _ => none
  | f + 1, x1, σ => if σ 151 17 ≤ x1 then
some ((-6), σ)
else
cb (f_X5_of_0 x1 15 σ) fun v_2 σ_3 =>
if v_2 = 1 then
some (x1, σ_3)
else
f_X5_firstExpired_2   f (x1 + 1) σ_3
set_option maxHeartbeats 4000000 in
set_option maxRecDepth 100000 in
theorem w_X5_firstExpired_2 {p : Program} {l : Launch} {e : Env} {s : State} {m : MethodId} {args : Array Value} {below : List Frame} {meth : Method} {c : Code} {Γ : GG} {res : Int32 × Sg} (M : MX RX5 cX5_firstExpired 2 (some .int) p s m args meth c) (K : KK Γ s s.heap)  : ∀ (f : Nat) (x1 : Int32) (σ : Sg) (H : Heap) (locs : List Loc) (ls : Array Slot)  (hB : Bd Γ σ s H locs) (hl : lv_has ls 2 [(0, .ref (Γ.1 150)), (1, .int x1)]) (hr : f_X5_firstExpired_2   f x1 σ = some res), WI Γ rm_X5_firstExpired p l e s m args below meth c H locs res (F0 m 2 ls []) := by
  intro f
  induction f with
  | zero => intros; rename_i hr; exact absurd hr (by rw [f_X5_firstExpired_2]; exact fun h => by cases h)
  | succ f ih_2 =>
    intro x1 σ H locs ls  hB hl hr
    rw [f_X5_firstExpired_2] at hr
    refine lv_iload_n M.1 M.2.1 dX5_firstExpired_2 rfl (lv_at hl 1 rfl) ?_
    refine lv_aload_n M.1 M.2.1 dX5_firstExpired_3 rfl (lv_at hl 0 rfl) ?_
    refine x_get5 M K hB isK_150 0 (by decide) wd_157 (v := .ref (Γ.1 151)) rfl dX5_firstExpired_4 ?_
    refine lv_bipush (v := 17) M.1 M.2.1 dX5_firstExpired_7 (by decide) ?_
    refine x_ialdL M K hB isA_151 (k := 17) (by decide) (by decide) dX5_firstExpired_9 ?_
    refine lv_icmp_ge (tgt := 32) M.1 M.2.1 dX5_firstExpired_10 (by decide) (fun c_1 => ?_) (fun c_1 => ?_)
    · rw [if_pos c_1] at hr
      refine lv_bipush (v := (-6)) M.1 M.2.1 dX5_firstExpired_32 (by decide) ?_
      exact x_iret M hB (Option.some.inj hr) dX5_firstExpired_34
    · rw [if_neg c_1] at hr
      refine lv_aload_n M.1 M.2.1 dX5_firstExpired_13 rfl (lv_at hl 0 rfl) ?_
      refine lv_iload_n M.1 M.2.1 dX5_firstExpired_14 rfl (lv_at hl 1 rfl) ?_
      refine lv_bipush (v := 15) M.1 M.2.1 dX5_firstExpired_15 (by decide) ?_
      obtain ⟨v_2, σ_3, h_4, hr⟩ := cbd hr
      refine x_callI (x_runV M K hB hl.1 [.int x1, .int 15] (rest := []) rfl (c_X5_of l Γ x1 15  σ (v_2, σ_3) h_4) cy_X5_of (x_recv K hB isK_150.2 (ent_5 isK_150.1) rfl) wd_162 ⟨rfl, rfl, Nat.le_of_ble_eq_true rfl, Nat.le_of_ble_eq_true rfl⟩ (Nat.le_of_ble_eq_true rfl) ⟨Nat.zero_le _, Nat.zero_le _⟩ dX5_firstExpired_17) hB (fun H locs hB => ?_)
      replace hB : Bd Γ σ_3 s H locs := hB
      refine lv_iconst (v := 1) M.1 M.2.1 dX5_firstExpired_20 (by decide) ?_
      refine lv_icmp_ne (tgt := 26) M.1 M.2.1 dX5_firstExpired_21 (by decide) (fun c_5 => ?_) (fun c_5 => ?_)
      · rw [if_neg c_5] at hr
        refine lv_iinc (v := x1 + 1) (lv' := [(1, .int (x1 + 1)), (0, .ref (Γ.1 150))]) M.1 M.2.1 dX5_firstExpired_26 hl (k := 1) rfl rfl (by decide) rfl (fun ls hl => ?_)
        refine lv_goto (tgt := 2) M.1 M.2.1 dX5_firstExpired_29 (by decide) ?_
        exact ih_2 (x1 + 1) _ _ _ _  hB (lv_sub hl [1, 0] rfl) hr
      · rw [if_pos c_5] at hr
        refine lv_iload_n M.1 M.2.1 dX5_firstExpired_24 rfl (lv_at hl 1 rfl) ?_
        exact x_iret M hB (Option.some.inj hr) dX5_firstExpired_25
def f_X5_firstExpired_0    (σ : Sg) : Option (Int32 × Sg) :=
f_X5_firstExpired_2   FU 0 σ
set_option maxHeartbeats 4000000 in
set_option maxRecDepth 100000 in
theorem w_X5_firstExpired_0 {p : Program} {l : Launch} {e : Env} {s : State} {m : MethodId} {args : Array Value} {below : List Frame} {meth : Method} {c : Code} {Γ : GG} {res : Int32 × Sg} (M : MX RX5 cX5_firstExpired 2 (some .int) p s m args meth c) (K : KK Γ s s.heap)   (σ : Sg) (H : Heap) (locs : List Loc) (ls : Array Slot)  (hB : Bd Γ σ s H locs) (hl : lv_has ls 2 [(0, .ref (Γ.1 150))]) (hr : f_X5_firstExpired_0    σ = some res) : WI Γ rm_X5_firstExpired p l e s m args below meth c H locs res (F0 m 0 ls []) := by
  unfold f_X5_firstExpired_0 at hr
  refine lv_iconst (v := 0) M.1 M.2.1 dX5_firstExpired_0 (by decide) ?_
  refine lv_istore_n (lv' := [(1, .int 0), (0, .ref (Γ.1 150))]) M.1 M.2.1 dX5_firstExpired_1 rfl hl (by decide) rfl (fun ls hl => ?_)
  exact w_X5_firstExpired_2 M K   FU 0 _ _ _ _  hB (lv_sub hl [1, 0] rfl) hr
theorem c_X5_firstExpired (l : Launch) (Γ : GG)   (σ : Sg) (res : Int32 × Sg) (hr : f_X5_firstExpired_0  σ = some res) : Met l yX5_firstExpired (Cond.code yX5_firstExpired cX5_firstExpired 2 (some .int) :: gtb) rm_X5_firstExpired (va_Pc [.ref (Γ.1 150)] (GI Γ σ)) (QI Γ res) 0 0 (AD Γ) :=
  x_metI (by decide) [.ref (Γ.1 150)] (Nat.le_of_ble_eq_true rfl) (fun p e s m args below meth c M K ls hl hB => w_X5_firstExpired_0 M K  σ _ _ ls hB hl hr)
abbrev rm_X5_boot : Room := { frames := 0, cells := 0, slots := 0, locals := 0 }
def f_X5_boot_0    (σ : Sg) : Option (Int32 × Sg) :=
wb (st σ 151 9 0) fun σ_1 =>
wb (st σ_1 151 12 (σ_1 151 5)) fun σ_3 =>
some (0, σ_3)
set_option maxHeartbeats 4000000 in
set_option maxRecDepth 100000 in
theorem w_X5_boot_0 {p : Program} {l : Launch} {e : Env} {s : State} {m : MethodId} {args : Array Value} {below : List Frame} {meth : Method} {c : Code} {Γ : GG} {res : Int32 × Sg} (M : MX RX5 cX5_boot 1 none p s m args meth c) (K : KK Γ s s.heap)   (σ : Sg) (H : Heap) (locs : List Loc) (ls : Array Slot)  (hB : Bd Γ σ s H locs) (hl : lv_has ls 1 [(0, .ref (Γ.1 150))]) (hr : f_X5_boot_0    σ = some res) : WV Γ rm_X5_boot p l e s m args below meth c H locs res (F0 m 0 ls []) := by
  unfold f_X5_boot_0 at hr
  refine lv_aload_n M.1 M.2.1 dX5_boot_0 rfl (lv_at hl 0 rfl) ?_
  refine x_get5 M K hB isK_150 0 (by decide) wd_157 (v := .ref (Γ.1 151)) rfl dX5_boot_1 ?_
  refine lv_bipush (v := 9) M.1 M.2.1 dX5_boot_4 (by decide) ?_
  refine lv_iconst (v := 0) M.1 M.2.1 dX5_boot_6 (by decide) ?_
  obtain ⟨σ_1, e_2, hr⟩ := wbd hr
  refine x_iastL M K hB isA_151 (k := 9) (by decide) (by decide) dX5_boot_7 (fun H locs hB => ?_)
  rw [← e_2] at hB
  refine lv_aload_n M.1 M.2.1 dX5_boot_8 rfl (lv_at hl 0 rfl) ?_
  refine x_get5 M K hB isK_150 0 (by decide) wd_157 (v := .ref (Γ.1 151)) rfl dX5_boot_9 ?_
  refine lv_bipush (v := 12) M.1 M.2.1 dX5_boot_12 (by decide) ?_
  refine lv_aload_n M.1 M.2.1 dX5_boot_14 rfl (lv_at hl 0 rfl) ?_
  refine x_get5 M K hB isK_150 0 (by decide) wd_157 (v := .ref (Γ.1 151)) rfl dX5_boot_15 ?_
  refine lv_iconst (v := 5) M.1 M.2.1 dX5_boot_18 (by decide) ?_
  refine x_ialdL M K hB isA_151 (k := 5) (by decide) (by decide) dX5_boot_19 ?_
  obtain ⟨σ_3, e_4, hr⟩ := wbd hr
  refine x_iastL M K hB isA_151 (k := 12) (by decide) (by decide) dX5_boot_20 (fun H locs hB => ?_)
  rw [← e_4] at hB
  exact x_vret M hB (Option.some.inj hr) dX5_boot_21
theorem c_X5_boot (l : Launch) (Γ : GG)   (σ : Sg) (res : Int32 × Sg) (hr : f_X5_boot_0  σ = some res) : Met l yX5_boot (Cond.code yX5_boot cX5_boot 1 none :: gtb) rm_X5_boot (va_Pc [.ref (Γ.1 150)] (GI Γ σ)) (QV Γ res) 0 0 (AD Γ) :=
  x_metV (by decide) [.ref (Γ.1 150)] (Nat.le_of_ble_eq_true rfl) (fun p e s m args below meth c M K ls hl hB => w_X5_boot_0 M K  σ _ _ ls hB hl hr)
abbrev rm_X5_makeReset : Room := { frames := 3, cells := 0, slots := 0, locals := 64 }
def f_X5_makeReset_198 (a0 : Int32) (a1 : Int32)   (σ : Sg) : Option (Int32 × Sg) :=
some (0, σ)
set_option maxHeartbeats 4000000 in
set_option maxRecDepth 100000 in
theorem w_X5_makeReset_198 {p : Program} {l : Launch} {e : Env} {s : State} {m : MethodId} {args : Array Value} {below : List Frame} {meth : Method} {c : Code} {Γ : GG} {res : Int32 × Sg} (M : MX RX5 cX5_makeReset 5 none p s m args meth c) (K : KK Γ s s.heap) (a0 : Int32) (a1 : Int32)  (σ : Sg) (H : Heap) (locs : List Loc) (ls : Array Slot)  (hB : Bd Γ σ s H locs) (hl : lv_has ls 5 []) (hr : f_X5_makeReset_198 a0 a1   σ = some res) : WV Γ rm_X5_makeReset p l e s m args below meth c H locs res (F0 m 198 ls []) := by
  unfold f_X5_makeReset_198 at hr
  exact x_vret M hB (Option.some.inj hr) dX5_makeReset_198
def f_X5_makeReset_129 (a0 : Int32) (a1 : Int32)   (σ : Sg) : Option (Int32 × Sg) :=
wb (st σ 151 11 ((σ 151 11) + 1)) fun σ_29 =>
cb (f_X5_boot_0  σ_29) fun v_31 σ_32 =>
if σ_32 151 11 < σ_32 151 7 then
f_X5_makeReset_198 a0 a1   σ_32
else
if σ_32 151 10 = 0 then
wb (st σ_32 151 10 1) fun σ_38 =>
wb (st σ_38 151 11 0) fun σ_40 =>
f_X5_makeReset_198 a0 a1   σ_40
else
wb (st σ_32 151 9 2) fun σ_36 =>
f_X5_makeReset_198 a0 a1   σ_36
set_option maxHeartbeats 4000000 in
set_option maxRecDepth 100000 in
theorem w_X5_makeReset_129 {p : Program} {l : Launch} {e : Env} {s : State} {m : MethodId} {args : Array Value} {below : List Frame} {meth : Method} {c : Code} {Γ : GG} {res : Int32 × Sg} (M : MX RX5 cX5_makeReset 5 none p s m args meth c) (K : KK Γ s s.heap) (a0 : Int32) (a1 : Int32)  (σ : Sg) (H : Heap) (locs : List Loc) (ls : Array Slot)  (hB : Bd Γ σ s H locs) (hl : lv_has ls 5 [(0, .ref (Γ.1 150))]) (hr : f_X5_makeReset_129 a0 a1   σ = some res) : WV Γ rm_X5_makeReset p l e s m args below meth c H locs res (F0 m 129 ls []) := by
  unfold f_X5_makeReset_129 at hr
  refine lv_aload_n M.1 M.2.1 dX5_makeReset_129 rfl (lv_at hl 0 rfl) ?_
  refine x_get5 M K hB isK_150 0 (by decide) wd_157 (v := .ref (Γ.1 151)) rfl dX5_makeReset_130 ?_
  refine lv_bipush (v := 11) M.1 M.2.1 dX5_makeReset_133 (by decide) ?_
  refine lv_dup2_11 M.1 M.2.1 dX5_makeReset_135 rfl rfl ?_
  refine x_ialdL M K hB isA_151 (k := 11) (by decide) (by decide) dX5_makeReset_136 ?_
  refine lv_iconst (v := 1) M.1 M.2.1 dX5_makeReset_137 (by decide) ?_
  refine lv_iadd M.1 M.2.1 dX5_makeReset_138 ?_
  obtain ⟨σ_29, e_30, hr⟩ := wbd hr
  refine x_iastL M K hB isA_151 (k := 11) (by decide) (by decide) dX5_makeReset_139 (fun H locs hB => ?_)
  rw [← e_30] at hB
  refine lv_aload_n M.1 M.2.1 dX5_makeReset_140 rfl (lv_at hl 0 rfl) ?_
  obtain ⟨v_31, σ_32, h_33, hr⟩ := cbd hr
  refine x_callV (x_runV M K hB hl.1 [] (rest := []) rfl (c_X5_boot l Γ   σ_29 (v_31, σ_32) h_33) cy_X5_boot (x_recv K hB isK_150.2 (ent_5 isK_150.1) rfl) wd_181 ⟨rfl, rfl, Nat.le_of_ble_eq_true rfl, Nat.le_of_ble_eq_true rfl⟩ (Nat.le_of_ble_eq_true rfl) ⟨Nat.zero_le _, Nat.zero_le _⟩ dX5_makeReset_141) hB (fun H locs hB => ?_)
  replace hB : Bd Γ σ_32 s H locs := hB
  refine lv_aload_n M.1 M.2.1 dX5_makeReset_144 rfl (lv_at hl 0 rfl) ?_
  refine x_get5 M K hB isK_150 0 (by decide) wd_157 (v := .ref (Γ.1 151)) rfl dX5_makeReset_145 ?_
  refine lv_bipush (v := 11) M.1 M.2.1 dX5_makeReset_148 (by decide) ?_
  refine x_ialdL M K hB isA_151 (k := 11) (by decide) (by decide) dX5_makeReset_150 ?_
  refine lv_aload_n M.1 M.2.1 dX5_makeReset_151 rfl (lv_at hl 0 rfl) ?_
  refine x_get5 M K hB isK_150 0 (by decide) wd_157 (v := .ref (Γ.1 151)) rfl dX5_makeReset_152 ?_
  refine lv_bipush (v := 7) M.1 M.2.1 dX5_makeReset_155 (by decide) ?_
  refine x_ialdL M K hB isA_151 (k := 7) (by decide) (by decide) dX5_makeReset_157 ?_
  refine lv_icmp_lt (tgt := 198) M.1 M.2.1 dX5_makeReset_158 (by decide) (fun c_34 => ?_) (fun c_34 => ?_)
  · rw [if_pos c_34] at hr
    exact w_X5_makeReset_198 M K a0 a1   _ _ _ _  hB (lv_sub hl [] rfl) hr
  · rw [if_neg c_34] at hr
    refine lv_aload_n M.1 M.2.1 dX5_makeReset_161 rfl (lv_at hl 0 rfl) ?_
    refine x_get5 M K hB isK_150 0 (by decide) wd_157 (v := .ref (Γ.1 151)) rfl dX5_makeReset_162 ?_
    refine lv_bipush (v := 10) M.1 M.2.1 dX5_makeReset_165 (by decide) ?_
    refine x_ialdL M K hB isA_151 (k := 10) (by decide) (by decide) dX5_makeReset_167 ?_
    refine lv_if_ne (tgt := 190) M.1 M.2.1 dX5_makeReset_168 (by decide) (fun c_35 => ?_) (fun c_35 => ?_)
    · rw [if_neg c_35] at hr
      refine lv_aload_n M.1 M.2.1 dX5_makeReset_190 rfl (lv_at hl 0 rfl) ?_
      refine x_get5 M K hB isK_150 0 (by decide) wd_157 (v := .ref (Γ.1 151)) rfl dX5_makeReset_191 ?_
      refine lv_bipush (v := 9) M.1 M.2.1 dX5_makeReset_194 (by decide) ?_
      refine lv_iconst (v := 2) M.1 M.2.1 dX5_makeReset_196 (by decide) ?_
      obtain ⟨σ_36, e_37, hr⟩ := wbd hr
      refine x_iastL M K hB isA_151 (k := 9) (by decide) (by decide) dX5_makeReset_197 (fun H locs hB => ?_)
      rw [← e_37] at hB
      exact w_X5_makeReset_198 M K a0 a1   _ _ _ _  hB (lv_sub hl [] rfl) hr
    · rw [if_pos c_35] at hr
      refine lv_aload_n M.1 M.2.1 dX5_makeReset_171 rfl (lv_at hl 0 rfl) ?_
      refine x_get5 M K hB isK_150 0 (by decide) wd_157 (v := .ref (Γ.1 151)) rfl dX5_makeReset_172 ?_
      refine lv_bipush (v := 10) M.1 M.2.1 dX5_makeReset_175 (by decide) ?_
      refine lv_iconst (v := 1) M.1 M.2.1 dX5_makeReset_177 (by decide) ?_
      obtain ⟨σ_38, e_39, hr⟩ := wbd hr
      refine x_iastL M K hB isA_151 (k := 10) (by decide) (by decide) dX5_makeReset_178 (fun H locs hB => ?_)
      rw [← e_39] at hB
      refine lv_aload_n M.1 M.2.1 dX5_makeReset_179 rfl (lv_at hl 0 rfl) ?_
      refine x_get5 M K hB isK_150 0 (by decide) wd_157 (v := .ref (Γ.1 151)) rfl dX5_makeReset_180 ?_
      refine lv_bipush (v := 11) M.1 M.2.1 dX5_makeReset_183 (by decide) ?_
      refine lv_iconst (v := 0) M.1 M.2.1 dX5_makeReset_185 (by decide) ?_
      obtain ⟨σ_40, e_41, hr⟩ := wbd hr
      refine x_iastL M K hB isA_151 (k := 11) (by decide) (by decide) dX5_makeReset_186 (fun H locs hB => ?_)
      rw [← e_41] at hB
      refine lv_goto (tgt := 198) M.1 M.2.1 dX5_makeReset_187 (by decide) ?_
      exact w_X5_makeReset_198 M K a0 a1   _ _ _ _  hB (lv_sub hl [] rfl) hr
def f_X5_makeReset_13 (a0 : Int32) (a1 : Int32)  (x1 : Int32) (s0 : Int32) (σ : Sg) : Option (Int32 × Sg) :=
if 175 + (5 * ((σ 151 18) - (σ 151 18) / 16 * 16)) < 0 ∨ 255 ≤ (175 + (5 * ((σ 151 18) - (σ 151 18) / 16 * 16))).toNatClampNeg then none else
wb (st σ 151 ((175 + (5 * ((σ 151 18) - (σ 151 18) / 16 * 16))).toNatClampNeg) x1) fun σ_6 =>
if (175 + (5 * ((σ 151 18) - (σ 151 18) / 16 * 16))) + 1 < 0 ∨ 255 ≤ ((175 + (5 * ((σ 151 18) - (σ 151 18) / 16 * 16))) + 1).toNatClampNeg then none else
wb (st σ_6 151 (((175 + (5 * ((σ 151 18) - (σ 151 18) / 16 * 16))) + 1).toNatClampNeg) (σ_6 151 8)) fun σ_9 =>
if (175 + (5 * ((σ 151 18) - (σ 151 18) / 16 * 16))) + 2 < 0 ∨ 255 ≤ ((175 + (5 * ((σ 151 18) - (σ 151 18) / 16 * 16))) + 2).toNatClampNeg then none else
wb (st σ_9 151 (((175 + (5 * ((σ 151 18) - (σ 151 18) / 16 * 16))) + 2).toNatClampNeg) s0) fun σ_12 =>
if (175 + (5 * ((σ 151 18) - (σ 151 18) / 16 * 16))) + 3 < 0 ∨ 255 ≤ ((175 + (5 * ((σ 151 18) - (σ 151 18) / 16 * 16))) + 3).toNatClampNeg then none else
wb (st σ_12 151 (((175 + (5 * ((σ 151 18) - (σ 151 18) / 16 * 16))) + 3).toNatClampNeg) (σ_12 151 10)) fun σ_15 =>
if (175 + (5 * ((σ 151 18) - (σ 151 18) / 16 * 16))) + 4 < 0 ∨ 255 ≤ ((175 + (5 * ((σ 151 18) - (σ 151 18) / 16 * 16))) + 4).toNatClampNeg then none else
wb (st σ_15 151 (((175 + (5 * ((σ 151 18) - (σ 151 18) / 16 * 16))) + 4).toNatClampNeg) (σ_15 151 13)) fun σ_18 =>
wb (st σ_18 151 18 ((σ_18 151 18) + 1)) fun σ_20 =>
if s0 < 0 then
f_X5_makeReset_129 a0 a1   σ_20
else
cb (f_X5_of_0 s0 19 σ_20) fun v_23 σ_24 =>
cb (f_X5_lay_0 s0 19 (v_23 + 1) σ_24) fun v_26 σ_27 =>
f_X5_makeReset_129 a0 a1   σ_27
set_option maxHeartbeats 4000000 in
set_option maxRecDepth 100000 in
theorem w_X5_makeReset_13 {p : Program} {l : Launch} {e : Env} {s : State} {m : MethodId} {args : Array Value} {below : List Frame} {meth : Method} {c : Code} {Γ : GG} {res : Int32 × Sg} (M : MX RX5 cX5_makeReset 5 none p s m args meth c) (K : KK Γ s s.heap) (a0 : Int32) (a1 : Int32) (x1 : Int32) (s0 : Int32) (σ : Sg) (H : Heap) (locs : List Loc) (ls : Array Slot)  (hB : Bd Γ σ s H locs) (hl : lv_has ls 5 [(0, .ref (Γ.1 150)), (1, .int x1)]) (hr : f_X5_makeReset_13 a0 a1  x1 s0 σ = some res) : WV Γ rm_X5_makeReset p l e s m args below meth c H locs res (F0 m 13 ls [.int s0]) := by
  unfold f_X5_makeReset_13 at hr
  refine lv_istore_n (lv' := [(3, .int s0), (0, .ref (Γ.1 150)), (1, .int x1)]) M.1 M.2.1 dX5_makeReset_13 rfl hl (by decide) rfl (fun ls hl => ?_)
  refine lv_sipush (v := 175) M.1 M.2.1 dX5_makeReset_14 (by decide) ?_
  refine lv_iconst (v := 5) M.1 M.2.1 dX5_makeReset_17 (by decide) ?_
  refine lv_aload_n M.1 M.2.1 dX5_makeReset_18 rfl (lv_at hl 1 rfl) ?_
  refine x_get5 M K hB isK_150 0 (by decide) wd_157 (v := .ref (Γ.1 151)) rfl dX5_makeReset_19 ?_
  refine lv_bipush (v := 18) M.1 M.2.1 dX5_makeReset_22 (by decide) ?_
  refine x_ialdL M K hB isA_151 (k := 18) (by decide) (by decide) dX5_makeReset_24 ?_
  refine lv_bipush (v := 16) M.1 M.2.1 dX5_makeReset_25 (by decide) ?_
  refine lv_irem M.1 M.2.1 dX5_makeReset_27 (by decide) ?_
  refine lv_imul M.1 M.2.1 dX5_makeReset_28 ?_
  refine lv_iadd M.1 M.2.1 dX5_makeReset_29 ?_
  refine lv_istore (lv' := [(4, .int (175 + (5 * ((σ 151 18) - (σ 151 18) / 16 * 16)))), (3, .int s0), (0, .ref (Γ.1 150)), (1, .int x1)]) M.1 M.2.1 dX5_makeReset_30 hl (by decide) rfl (fun ls hl => ?_)
  refine lv_aload_n M.1 M.2.1 dX5_makeReset_32 rfl (lv_at hl 2 rfl) ?_
  refine x_get5 M K hB isK_150 0 (by decide) wd_157 (v := .ref (Γ.1 151)) rfl dX5_makeReset_33 ?_
  refine lv_iload M.1 M.2.1 dX5_makeReset_36 (lv_at hl 0 rfl) ?_
  refine lv_iload_n M.1 M.2.1 dX5_makeReset_38 rfl (lv_at hl 3 rfl) ?_
  obtain ⟨g_5, hr⟩ := gd hr
  obtain ⟨σ_6, e_7, hr⟩ := wbd hr
  refine x_iast M K hB isA_151 g_5 dX5_makeReset_39 (fun H locs hB => ?_)
  rw [← e_7] at hB
  refine lv_aload_n M.1 M.2.1 dX5_makeReset_40 rfl (lv_at hl 2 rfl) ?_
  refine x_get5 M K hB isK_150 0 (by decide) wd_157 (v := .ref (Γ.1 151)) rfl dX5_makeReset_41 ?_
  refine lv_iload M.1 M.2.1 dX5_makeReset_44 (lv_at hl 0 rfl) ?_
  refine lv_iconst (v := 1) M.1 M.2.1 dX5_makeReset_46 (by decide) ?_
  refine lv_iadd M.1 M.2.1 dX5_makeReset_47 ?_
  refine lv_aload_n M.1 M.2.1 dX5_makeReset_48 rfl (lv_at hl 2 rfl) ?_
  refine x_get5 M K hB isK_150 0 (by decide) wd_157 (v := .ref (Γ.1 151)) rfl dX5_makeReset_49 ?_
  refine lv_bipush (v := 8) M.1 M.2.1 dX5_makeReset_52 (by decide) ?_
  refine x_ialdL M K hB isA_151 (k := 8) (by decide) (by decide) dX5_makeReset_54 ?_
  obtain ⟨g_8, hr⟩ := gd hr
  obtain ⟨σ_9, e_10, hr⟩ := wbd hr
  refine x_iast M K hB isA_151 g_8 dX5_makeReset_55 (fun H locs hB => ?_)
  rw [← e_10] at hB
  refine lv_aload_n M.1 M.2.1 dX5_makeReset_56 rfl (lv_at hl 2 rfl) ?_
  refine x_get5 M K hB isK_150 0 (by decide) wd_157 (v := .ref (Γ.1 151)) rfl dX5_makeReset_57 ?_
  refine lv_iload M.1 M.2.1 dX5_makeReset_60 (lv_at hl 0 rfl) ?_
  refine lv_iconst (v := 2) M.1 M.2.1 dX5_makeReset_62 (by decide) ?_
  refine lv_iadd M.1 M.2.1 dX5_makeReset_63 ?_
  refine lv_iload_n M.1 M.2.1 dX5_makeReset_64 rfl (lv_at hl 1 rfl) ?_
  obtain ⟨g_11, hr⟩ := gd hr
  obtain ⟨σ_12, e_13, hr⟩ := wbd hr
  refine x_iast M K hB isA_151 g_11 dX5_makeReset_65 (fun H locs hB => ?_)
  rw [← e_13] at hB
  refine lv_aload_n M.1 M.2.1 dX5_makeReset_66 rfl (lv_at hl 2 rfl) ?_
  refine x_get5 M K hB isK_150 0 (by decide) wd_157 (v := .ref (Γ.1 151)) rfl dX5_makeReset_67 ?_
  refine lv_iload M.1 M.2.1 dX5_makeReset_70 (lv_at hl 0 rfl) ?_
  refine lv_iconst (v := 3) M.1 M.2.1 dX5_makeReset_72 (by decide) ?_
  refine lv_iadd M.1 M.2.1 dX5_makeReset_73 ?_
  refine lv_aload_n M.1 M.2.1 dX5_makeReset_74 rfl (lv_at hl 2 rfl) ?_
  refine x_get5 M K hB isK_150 0 (by decide) wd_157 (v := .ref (Γ.1 151)) rfl dX5_makeReset_75 ?_
  refine lv_bipush (v := 10) M.1 M.2.1 dX5_makeReset_78 (by decide) ?_
  refine x_ialdL M K hB isA_151 (k := 10) (by decide) (by decide) dX5_makeReset_80 ?_
  obtain ⟨g_14, hr⟩ := gd hr
  obtain ⟨σ_15, e_16, hr⟩ := wbd hr
  refine x_iast M K hB isA_151 g_14 dX5_makeReset_81 (fun H locs hB => ?_)
  rw [← e_16] at hB
  refine lv_aload_n M.1 M.2.1 dX5_makeReset_82 rfl (lv_at hl 2 rfl) ?_
  refine x_get5 M K hB isK_150 0 (by decide) wd_157 (v := .ref (Γ.1 151)) rfl dX5_makeReset_83 ?_
  refine lv_iload M.1 M.2.1 dX5_makeReset_86 (lv_at hl 0 rfl) ?_
  refine lv_iconst (v := 4) M.1 M.2.1 dX5_makeReset_88 (by decide) ?_
  refine lv_iadd M.1 M.2.1 dX5_makeReset_89 ?_
  refine lv_aload_n M.1 M.2.1 dX5_makeReset_90 rfl (lv_at hl 2 rfl) ?_
  refine x_get5 M K hB isK_150 0 (by decide) wd_157 (v := .ref (Γ.1 151)) rfl dX5_makeReset_91 ?_
  refine lv_bipush (v := 13) M.1 M.2.1 dX5_makeReset_94 (by decide) ?_
  refine x_ialdL M K hB isA_151 (k := 13) (by decide) (by decide) dX5_makeReset_96 ?_
  obtain ⟨g_17, hr⟩ := gd hr
  obtain ⟨σ_18, e_19, hr⟩ := wbd hr
  refine x_iast M K hB isA_151 g_17 dX5_makeReset_97 (fun H locs hB => ?_)
  rw [← e_19] at hB
  refine lv_aload_n M.1 M.2.1 dX5_makeReset_98 rfl (lv_at hl 2 rfl) ?_
  refine x_get5 M K hB isK_150 0 (by decide) wd_157 (v := .ref (Γ.1 151)) rfl dX5_makeReset_99 ?_
  refine lv_bipush (v := 18) M.1 M.2.1 dX5_makeReset_102 (by decide) ?_
  refine lv_dup2_11 M.1 M.2.1 dX5_makeReset_104 rfl rfl ?_
  refine x_ialdL M K hB isA_151 (k := 18) (by decide) (by decide) dX5_makeReset_105 ?_
  refine lv_iconst (v := 1) M.1 M.2.1 dX5_makeReset_106 (by decide) ?_
  refine lv_iadd M.1 M.2.1 dX5_makeReset_107 ?_
  obtain ⟨σ_20, e_21, hr⟩ := wbd hr
  refine x_iastL M K hB isA_151 (k := 18) (by decide) (by decide) dX5_makeReset_108 (fun H locs hB => ?_)
  rw [← e_21] at hB
  refine lv_iload_n M.1 M.2.1 dX5_makeReset_109 rfl (lv_at hl 1 rfl) ?_
  refine lv_if_lt (tgt := 129) M.1 M.2.1 dX5_makeReset_110 (by decide) (fun c_22 => ?_) (fun c_22 => ?_)
  · rw [if_pos c_22] at hr
    exact w_X5_makeReset_129 M K a0 a1   _ _ _ _  hB (lv_sub hl [2] rfl) hr
  · rw [if_neg c_22] at hr
    refine lv_aload_n M.1 M.2.1 dX5_makeReset_113 rfl (lv_at hl 2 rfl) ?_
    refine lv_iload_n M.1 M.2.1 dX5_makeReset_114 rfl (lv_at hl 1 rfl) ?_
    refine lv_bipush (v := 19) M.1 M.2.1 dX5_makeReset_115 (by decide) ?_
    refine lv_aload_n M.1 M.2.1 dX5_makeReset_117 rfl (lv_at hl 2 rfl) ?_
    refine lv_iload_n M.1 M.2.1 dX5_makeReset_118 rfl (lv_at hl 1 rfl) ?_
    refine lv_bipush (v := 19) M.1 M.2.1 dX5_makeReset_119 (by decide) ?_
    obtain ⟨v_23, σ_24, h_25, hr⟩ := cbd hr
    refine x_callI (x_runV M K hB hl.1 [.int s0, .int 19] (rest := [.int 19, .int s0, .ref (Γ.1 150)]) rfl (c_X5_of l Γ s0 19  σ_20 (v_23, σ_24) h_25) cy_X5_of (x_recv K hB isK_150.2 (ent_5 isK_150.1) rfl) wd_162 ⟨rfl, rfl, Nat.le_of_ble_eq_true rfl, Nat.le_of_ble_eq_true rfl⟩ (Nat.le_of_ble_eq_true rfl) ⟨Nat.zero_le _, Nat.zero_le _⟩ dX5_makeReset_121) hB (fun H locs hB => ?_)
    replace hB : Bd Γ σ_24 s H locs := hB
    refine lv_iconst (v := 1) M.1 M.2.1 dX5_makeReset_124 (by decide) ?_
    refine lv_iadd M.1 M.2.1 dX5_makeReset_125 ?_
    obtain ⟨v_26, σ_27, h_28, hr⟩ := cbd hr
    refine x_callV (x_runV M K hB hl.1 [.int s0, .int 19, .int (v_23 + 1)] (rest := []) rfl (c_X5_lay l Γ s0 19 (v_23 + 1)  σ_24 (v_26, σ_27) h_28) cy_X5_lay (x_recv K hB isK_150.2 (ent_5 isK_150.1) rfl) wd_159 ⟨rfl, rfl, Nat.le_of_ble_eq_true rfl, Nat.le_of_ble_eq_true rfl⟩ (Nat.le_of_ble_eq_true rfl) ⟨Nat.zero_le _, Nat.zero_le _⟩ dX5_makeReset_126) hB (fun H locs hB => ?_)
    replace hB : Bd Γ σ_27 s H locs := hB
    exact w_X5_makeReset_129 M K a0 a1   _ _ _ _  hB (lv_sub hl [2] rfl) hr
def f_X5_makeReset_0 (a0 : Int32) (a1 : Int32)   (σ : Sg) : Option (Int32 × Sg) :=
if a0 = 3 then
f_X5_makeReset_13 a0 a1  a0 a1 σ
else
cb (f_X5_firstExpired_0  σ) fun v_2 σ_3 =>
f_X5_makeReset_13 a0 a1  a0 v_2 σ_3
set_option maxHeartbeats 4000000 in
set_option maxRecDepth 100000 in
theorem w_X5_makeReset_0 {p : Program} {l : Launch} {e : Env} {s : State} {m : MethodId} {args : Array Value} {below : List Frame} {meth : Method} {c : Code} {Γ : GG} {res : Int32 × Sg} (M : MX RX5 cX5_makeReset 5 none p s m args meth c) (K : KK Γ s s.heap) (a0 : Int32) (a1 : Int32)  (σ : Sg) (H : Heap) (locs : List Loc) (ls : Array Slot)  (hB : Bd Γ σ s H locs) (hl : lv_has ls 5 [(0, .ref (Γ.1 150)), (1, .int a0), (2, .int a1)]) (hr : f_X5_makeReset_0 a0 a1   σ = some res) : WV Γ rm_X5_makeReset p l e s m args below meth c H locs res (F0 m 0 ls []) := by
  unfold f_X5_makeReset_0 at hr
  refine lv_iload_n M.1 M.2.1 dX5_makeReset_0 rfl (lv_at hl 1 rfl) ?_
  refine lv_iconst (v := 3) M.1 M.2.1 dX5_makeReset_1 (by decide) ?_
  refine lv_icmp_ne (tgt := 9) M.1 M.2.1 dX5_makeReset_2 (by decide) (fun c_1 => ?_) (fun c_1 => ?_)
  · rw [if_neg c_1] at hr
    refine lv_aload_n M.1 M.2.1 dX5_makeReset_9 rfl (lv_at hl 0 rfl) ?_
    obtain ⟨v_2, σ_3, h_4, hr⟩ := cbd hr
    refine x_callI (x_runV M K hB hl.1 [] (rest := []) rfl (c_X5_firstExpired l Γ   σ (v_2, σ_3) h_4) cy_X5_firstExpired (x_recv K hB isK_150.2 (ent_5 isK_150.1) rfl) wd_180 ⟨rfl, rfl, Nat.le_of_ble_eq_true rfl, Nat.le_of_ble_eq_true rfl⟩ (Nat.le_of_ble_eq_true rfl) ⟨Nat.zero_le _, Nat.zero_le _⟩ dX5_makeReset_10) hB (fun H locs hB => ?_)
    replace hB : Bd Γ σ_3 s H locs := hB
    exact w_X5_makeReset_13 M K a0 a1  a0 v_2 _ _ _ _  hB (lv_sub hl [0, 1] rfl) hr
  · rw [if_pos c_1] at hr
    refine lv_iload_n M.1 M.2.1 dX5_makeReset_5 rfl (lv_at hl 2 rfl) ?_
    refine lv_goto (tgt := 13) M.1 M.2.1 dX5_makeReset_6 (by decide) ?_
    exact w_X5_makeReset_13 M K a0 a1  a0 a1 _ _ _ _  hB (lv_sub hl [0, 1] rfl) hr
theorem c_X5_makeReset (l : Launch) (Γ : GG) (a0 : Int32) (a1 : Int32)  (σ : Sg) (res : Int32 × Sg) (hr : f_X5_makeReset_0 a0 a1 σ = some res) : Met l yX5_makeReset (Cond.code yX5_makeReset cX5_makeReset 5 none :: gtb) rm_X5_makeReset (va_Pc [.ref (Γ.1 150), .int a0, .int a1] (GI Γ σ)) (QV Γ res) 0 0 (AD Γ) :=
  x_metV (by decide) [.ref (Γ.1 150), .int a0, .int a1] (Nat.le_of_ble_eq_true rfl) (fun p e s m args below meth c M K ls hl hB => w_X5_makeReset_0 M K a0 a1 σ _ _ ls hB hl hr)
