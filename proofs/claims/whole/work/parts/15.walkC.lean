abbrev rm_X4_task : Room := { frames := 2, cells := 0, slots := 0, locals := 43 }
def f_X4_task_131 (a0 : Int32) (a1 : Int32)  (s0 : Int32) (σ : Sg) : Option (Int32 × Sg) :=
some (s0, σ)
set_option maxHeartbeats 4000000 in
set_option maxRecDepth 100000 in
theorem w_X4_task_131 {p : Program} {l : Launch} {e : Env} {s : State} {m : MethodId} {args : Array Value} {below : List Frame} {meth : Method} {c : Code} {Γ : GG} {res : Int32 × Sg} (M : MX RX4 cX4_task 4 (some .int) p s m args meth c) (K : KK Γ s s.heap) (a0 : Int32) (a1 : Int32) (s0 : Int32) (σ : Sg) (H : Heap) (locs : List Loc) (ls : Array Slot)  (hB : Bd Γ σ s H locs) (hl : lv_has ls 4 []) (hr : f_X4_task_131 a0 a1  s0 σ = some res) : WI Γ rm_X4_task p l e s m args below meth c H locs res (F0 m 131 ls [.int s0]) := by
  unfold f_X4_task_131 at hr
  exact x_iret M hB (Option.some.inj hr) dX4_task_131
def f_X4_task_0 (a0 : Int32) (a1 : Int32)   (σ : Sg) : Option (Int32 × Sg) :=
cb (f_X4_hasTask_0 a0 σ) fun v_1 σ_2 =>
if v_1 = 0 then
some ((-1), σ_2)
else
if a0 < 0 ∨ 6 ≤ a0.toNatClampNeg then none else
cb (f_X4_isWithin_0 a1 0 7 σ_2) fun v_6 σ_7 =>
if v_6 = 0 then
cb (f_X4_isWithin_0 a1 8 13 σ_7) fun v_10 σ_11 =>
if v_10 = 0 then
if a1 = 14 then
some (σ_11 (3 + 3 + 5 * a0.toNatClampNeg + 2) 0, σ_11)
else
if a1 = 15 then
some (σ_11 (3 + 3 + 5 * a0.toNatClampNeg + 2) 1, σ_11)
else
if a1 = 16 then
some (σ_11 (3 + 3 + 5 * a0.toNatClampNeg) 12, σ_11)
else
if a1 = 17 then
if σ_11 (3 + 3 + 5 * a0.toNatClampNeg) 13 = 0 then
f_X4_task_131 a0 a1  (-6) σ_11
else
f_X4_task_131 a0 a1  (σ_11 (3 + 3 + 5 * a0.toNatClampNeg) 14) σ_11
else
if a1 = 18 then
some (σ_11 (3 + 3 + 5 * a0.toNatClampNeg) 15, σ_11)
else
some ((-2), σ_11)
else
cb (f_X3_momentary_0 (3 + 3 + 5 * a0.toNatClampNeg) a1 σ_11) fun v_25 σ_26 =>
cb (f_X0_ifRunning_0 1 v_25 σ_26) fun v_28 σ_29 =>
some (v_28, σ_29)
else
if a1 < 0 ∨ 8 ≤ a1.toNatClampNeg then none else
some (σ_7 (3 + 3 + 5 * a0.toNatClampNeg + 1) (a1.toNatClampNeg), σ_7)
set_option maxHeartbeats 4000000 in
set_option maxRecDepth 100000 in
theorem w_X4_task_0 {p : Program} {l : Launch} {e : Env} {s : State} {m : MethodId} {args : Array Value} {below : List Frame} {meth : Method} {c : Code} {Γ : GG} {res : Int32 × Sg} (M : MX RX4 cX4_task 4 (some .int) p s m args meth c) (K : KK Γ s s.heap) (a0 : Int32) (a1 : Int32)  (σ : Sg) (H : Heap) (locs : List Loc) (ls : Array Slot)  (hB : Bd Γ σ s H locs) (hl : lv_has ls 4 [(0, .ref (Γ.1 0)), (1, .int a0), (2, .int a1)]) (hr : f_X4_task_0 a0 a1   σ = some res) : WI Γ rm_X4_task p l e s m args below meth c H locs res (F0 m 0 ls []) := by
  unfold f_X4_task_0 at hr
  refine lv_aload_n M.1 M.2.1 dX4_task_0 rfl (lv_at hl 0 rfl) ?_
  refine lv_iload_n M.1 M.2.1 dX4_task_1 rfl (lv_at hl 1 rfl) ?_
  obtain ⟨v_1, σ_2, h_3, hr⟩ := cbd hr
  refine x_callI (x_runV M K hB hl.1 [.int a0] (rest := []) rfl (c_X4_hasTask l Γ a0  σ (v_1, σ_2) h_3) cy_X4_hasTask (x_recv K hB isK_0.2 (ent_4 isK_0.1) rfl) wd_105 ⟨rfl, rfl, Nat.le_of_ble_eq_true rfl, Nat.le_of_ble_eq_true rfl⟩ (Nat.le_of_ble_eq_true rfl) ⟨Nat.zero_le _, Nat.zero_le _⟩ dX4_task_2) hB (fun H locs hB => ?_)
  replace hB : Bd Γ σ_2 s H locs := hB
  refine lv_if_ne (tgt := 10) M.1 M.2.1 dX4_task_5 (by decide) (fun c_4 => ?_) (fun c_4 => ?_)
  · rw [if_neg c_4] at hr
    refine lv_aload_n M.1 M.2.1 dX4_task_10 rfl (lv_at hl 0 rfl) ?_
    refine x_get4 M K hB isK_0 0 (by decide) wd_98 (v := .ref (Γ.1 1)) rfl dX4_task_11 ?_
    refine x_get0 M K hB (isB_1.k) 1 (by decide) wd_103 (v := .ref (Γ.1 3)) rfl dX4_task_14 ?_
    refine lv_iload_n M.1 M.2.1 dX4_task_17 rfl (lv_at hl 1 rfl) ?_
    obtain ⟨g_5, hr⟩ := gd hr
    refine x_aaldT M K hB (isB_1.k2) g_5 dX4_task_18 ?_
    refine lv_astore_n (lv' := [(3, .ref (Γ.1 (3 + 3 + 5 * a0.toNatClampNeg))), (0, .ref (Γ.1 0)), (1, .int a0), (2, .int a1)]) M.1 M.2.1 dX4_task_19 rfl hl (by decide) rfl (fun ls hl => ?_)
    refine lv_iload_n M.1 M.2.1 dX4_task_20 rfl (lv_at hl 3 rfl) ?_
    refine lv_iconst (v := 0) M.1 M.2.1 dX4_task_21 (by decide) ?_
    refine lv_bipush (v := 7) M.1 M.2.1 dX4_task_22 (by decide) ?_
    obtain ⟨v_6, σ_7, h_8, hr⟩ := cbd hr
    refine x_callI (x_runS M K hB hl.1 [.int a1, .int 0, .int 7] (rest := []) rfl (c_X4_isWithin l Γ a1 0 7  σ_2 (v_6, σ_7) h_8) cy_X4_isWithin wd_94 ⟨rfl, rfl, Nat.le_of_ble_eq_true rfl, Nat.le_of_ble_eq_true rfl⟩ (Nat.le_of_ble_eq_true rfl) ⟨Nat.zero_le _, Nat.zero_le _⟩ dX4_task_24) hB (fun H locs hB => ?_)
    replace hB : Bd Γ σ_7 s H locs := hB
    refine lv_if_eq (tgt := 37) M.1 M.2.1 dX4_task_27 (by decide) (fun c_9 => ?_) (fun c_9 => ?_)
    · rw [if_pos c_9] at hr
      refine lv_iload_n M.1 M.2.1 dX4_task_37 rfl (lv_at hl 3 rfl) ?_
      refine lv_bipush (v := 8) M.1 M.2.1 dX4_task_38 (by decide) ?_
      refine lv_bipush (v := 13) M.1 M.2.1 dX4_task_40 (by decide) ?_
      obtain ⟨v_10, σ_11, h_12, hr⟩ := cbd hr
      refine x_callI (x_runS M K hB hl.1 [.int a1, .int 8, .int 13] (rest := []) rfl (c_X4_isWithin l Γ a1 8 13  σ_7 (v_10, σ_11) h_12) cy_X4_isWithin wd_94 ⟨rfl, rfl, Nat.le_of_ble_eq_true rfl, Nat.le_of_ble_eq_true rfl⟩ (Nat.le_of_ble_eq_true rfl) ⟨Nat.zero_le _, Nat.zero_le _⟩ dX4_task_42) hB (fun H locs hB => ?_)
      replace hB : Bd Γ σ_11 s H locs := hB
      refine lv_if_eq (tgt := 61) M.1 M.2.1 dX4_task_45 (by decide) (fun c_13 => ?_) (fun c_13 => ?_)
      · rw [if_pos c_13] at hr
        refine lv_iload_n M.1 M.2.1 dX4_task_61 rfl (lv_at hl 3 rfl) ?_
        by_cases c_14 : a1 = 14
        · rw [if_pos c_14] at hr
          have t_15 : Int32.toInt a1 = 14 := by rw [c_14]; decide
          refine lv_tableIn (off := 34) (tgt := 96) M.1 M.2.1 dX4_task_62 (by rw [t_15]; decide) (by rw [t_15]; decide) (by rw [t_15]; rfl) (by decide) ?_
          refine lv_aload_n M.1 M.2.1 dX4_task_96 rfl (lv_at hl 0 rfl) ?_
          refine x_get3 M K hB ((isB.t isB_1 (vp_lt g_5)).k) 1 (by decide) wd_107 (v := .ref (Γ.1 (3 + 3 + 5 * a0.toNatClampNeg + 2))) rfl dX4_task_97 ?_
          refine lv_iconst (v := 0) M.1 M.2.1 dX4_task_100 (by decide) ?_
          refine x_ialdL M K hB ((isB.t isB_1 (vp_lt g_5)).a2) (k := 0) (by decide) (by decide) dX4_task_101 ?_
          exact x_iret M hB (Option.some.inj hr) dX4_task_102
        · rw [if_neg c_14] at hr
          have t_15 : ¬ Int32.toInt a1 = 14 := lv_neT c_14 (by decide)
          by_cases c_16 : a1 = 15
          · rw [if_pos c_16] at hr
            have t_17 : Int32.toInt a1 = 15 := by rw [c_16]; decide
            refine lv_tableIn (off := 41) (tgt := 103) M.1 M.2.1 dX4_task_62 (by rw [t_17]; decide) (by rw [t_17]; decide) (by rw [t_17]; rfl) (by decide) ?_
            refine lv_aload_n M.1 M.2.1 dX4_task_103 rfl (lv_at hl 0 rfl) ?_
            refine x_get3 M K hB ((isB.t isB_1 (vp_lt g_5)).k) 1 (by decide) wd_107 (v := .ref (Γ.1 (3 + 3 + 5 * a0.toNatClampNeg + 2))) rfl dX4_task_104 ?_
            refine lv_iconst (v := 1) M.1 M.2.1 dX4_task_107 (by decide) ?_
            refine x_ialdL M K hB ((isB.t isB_1 (vp_lt g_5)).a2) (k := 1) (by decide) (by decide) dX4_task_108 ?_
            exact x_iret M hB (Option.some.inj hr) dX4_task_109
          · rw [if_neg c_16] at hr
            have t_17 : ¬ Int32.toInt a1 = 15 := lv_neT c_16 (by decide)
            by_cases c_18 : a1 = 16
            · rw [if_pos c_18] at hr
              have t_19 : Int32.toInt a1 = 16 := by rw [c_18]; decide
              refine lv_tableIn (off := 48) (tgt := 110) M.1 M.2.1 dX4_task_62 (by rw [t_19]; decide) (by rw [t_19]; decide) (by rw [t_19]; rfl) (by decide) ?_
              refine lv_aload_n M.1 M.2.1 dX4_task_110 rfl (lv_at hl 0 rfl) ?_
              refine x_get3 M K hB ((isB.t isB_1 (vp_lt g_5)).k) 12 (by decide) wd_140 (v := .int (σ_11 (3 + 3 + 5 * a0.toNatClampNeg) 12)) rfl dX4_task_111 ?_
              exact x_iret M hB (Option.some.inj hr) dX4_task_114
            · rw [if_neg c_18] at hr
              have t_19 : ¬ Int32.toInt a1 = 16 := lv_neT c_18 (by decide)
              by_cases c_20 : a1 = 17
              · rw [if_pos c_20] at hr
                have t_21 : Int32.toInt a1 = 17 := by rw [c_20]; decide
                refine lv_tableIn (off := 53) (tgt := 115) M.1 M.2.1 dX4_task_62 (by rw [t_21]; decide) (by rw [t_21]; decide) (by rw [t_21]; rfl) (by decide) ?_
                refine lv_aload_n M.1 M.2.1 dX4_task_115 rfl (lv_at hl 0 rfl) ?_
                refine x_get3 M K hB ((isB.t isB_1 (vp_lt g_5)).k) 13 (by decide) wd_141 (v := .int (σ_11 (3 + 3 + 5 * a0.toNatClampNeg) 13)) rfl dX4_task_116 ?_
                refine lv_if_eq (tgt := 129) M.1 M.2.1 dX4_task_119 (by decide) (fun c_22 => ?_) (fun c_22 => ?_)
                · rw [if_pos c_22] at hr
                  refine lv_bipush (v := (-6)) M.1 M.2.1 dX4_task_129 (by decide) ?_
                  exact w_X4_task_131 M K a0 a1  (-6) _ _ _ _  hB (lv_sub hl [] rfl) hr
                · rw [if_neg c_22] at hr
                  refine lv_aload_n M.1 M.2.1 dX4_task_122 rfl (lv_at hl 0 rfl) ?_
                  refine x_get3 M K hB ((isB.t isB_1 (vp_lt g_5)).k) 14 (by decide) wd_142 (v := .int (σ_11 (3 + 3 + 5 * a0.toNatClampNeg) 14)) rfl dX4_task_123 ?_
                  refine lv_goto (tgt := 131) M.1 M.2.1 dX4_task_126 (by decide) ?_
                  exact w_X4_task_131 M K a0 a1  (σ_11 (3 + 3 + 5 * a0.toNatClampNeg) 14) _ _ _ _  hB (lv_sub hl [] rfl) hr
              · rw [if_neg c_20] at hr
                have t_21 : ¬ Int32.toInt a1 = 17 := lv_neT c_20 (by decide)
                by_cases c_23 : a1 = 18
                · rw [if_pos c_23] at hr
                  have t_24 : Int32.toInt a1 = 18 := by rw [c_23]; decide
                  refine lv_tableIn (off := 70) (tgt := 132) M.1 M.2.1 dX4_task_62 (by rw [t_24]; decide) (by rw [t_24]; decide) (by rw [t_24]; rfl) (by decide) ?_
                  refine lv_aload_n M.1 M.2.1 dX4_task_132 rfl (lv_at hl 0 rfl) ?_
                  refine x_get3 M K hB ((isB.t isB_1 (vp_lt g_5)).k) 15 (by decide) wd_143 (v := .int (σ_11 (3 + 3 + 5 * a0.toNatClampNeg) 15)) rfl dX4_task_133 ?_
                  exact x_iret M hB (Option.some.inj hr) dX4_task_136
                · rw [if_neg c_23] at hr
                  have t_24 : ¬ Int32.toInt a1 = 18 := lv_neT c_23 (by decide)
                  refine lv_tableOut (tgt := 137) M.1 M.2.1 dX4_task_62 (by omega) (by decide) ?_
                  refine lv_bipush (v := (-2)) M.1 M.2.1 dX4_task_137 (by decide) ?_
                  exact x_iret M hB (Option.some.inj hr) dX4_task_139
      · rw [if_neg c_13] at hr
        refine lv_aload_n M.1 M.2.1 dX4_task_48 rfl (lv_at hl 1 rfl) ?_
        refine x_get4 M K hB isK_0 0 (by decide) wd_98 (v := .ref (Γ.1 1)) rfl dX4_task_49 ?_
        refine lv_aload_n M.1 M.2.1 dX4_task_52 rfl (lv_at hl 0 rfl) ?_
        refine lv_iload_n M.1 M.2.1 dX4_task_53 rfl (lv_at hl 3 rfl) ?_
        obtain ⟨v_25, σ_26, h_27, hr⟩ := cbd hr
        refine x_callI (x_runV M K hB hl.1 [.int a1] (rest := [.ref (Γ.1 1)]) rfl (c_X3_momentary l Γ (3 + 3 + 5 * a0.toNatClampNeg) a1 (isB.t isB_1 (vp_lt g_5)) σ_11 (v_25, σ_26) h_27) cy_X3_momentary (x_recv K hB ((isB.t isB_1 (vp_lt g_5)).k).2 (ent_3 ((isB.t isB_1 (vp_lt g_5)).k).1) rfl) wd_144 ⟨rfl, rfl, Nat.le_of_ble_eq_true rfl, Nat.le_of_ble_eq_true rfl⟩ (Nat.le_of_ble_eq_true rfl) ⟨Nat.zero_le _, Nat.zero_le _⟩ dX4_task_54) hB (fun H locs hB => ?_)
        replace hB : Bd Γ σ_26 s H locs := hB
        obtain ⟨v_28, σ_29, h_30, hr⟩ := cbd hr
        refine x_callI (x_runV M K hB hl.1 [.int v_25] (rest := []) rfl (c_X0_ifRunning l Γ 1 v_25 isB_1 σ_26 (v_28, σ_29) h_30) cy_X0_ifRunning (x_recv K hB (isB_1.k).2 (ent_0 (isB_1.k).1) rfl) wd_136 ⟨rfl, rfl, Nat.le_of_ble_eq_true rfl, Nat.le_of_ble_eq_true rfl⟩ (Nat.le_of_ble_eq_true rfl) ⟨Nat.zero_le _, Nat.zero_le _⟩ dX4_task_57) hB (fun H locs hB => ?_)
        replace hB : Bd Γ σ_29 s H locs := hB
        exact x_iret M hB (Option.some.inj hr) dX4_task_60
    · rw [if_neg c_9] at hr
      refine lv_aload_n M.1 M.2.1 dX4_task_30 rfl (lv_at hl 0 rfl) ?_
      refine x_get3 M K hB ((isB.t isB_1 (vp_lt g_5)).k) 0 (by decide) wd_106 (v := .ref (Γ.1 (3 + 3 + 5 * a0.toNatClampNeg + 1))) rfl dX4_task_31 ?_
      refine lv_iload_n M.1 M.2.1 dX4_task_34 rfl (lv_at hl 3 rfl) ?_
      obtain ⟨g_31, hr⟩ := gd hr
      refine x_iald M K hB ((isB.t isB_1 (vp_lt g_5)).a1) g_31 dX4_task_35 ?_
      exact x_iret M hB (Option.some.inj hr) dX4_task_36
  · rw [if_pos c_4] at hr
    refine lv_iconst (v := (-1)) M.1 M.2.1 dX4_task_8 (by decide) ?_
    exact x_iret M hB (Option.some.inj hr) dX4_task_9
theorem c_X4_task (l : Launch) (Γ : GG) (a0 : Int32) (a1 : Int32)  (σ : Sg) (res : Int32 × Sg) (hr : f_X4_task_0 a0 a1 σ = some res) : Met l yX4_task (Cond.code yX4_task cX4_task 4 (some .int) :: gtb) rm_X4_task (va_Pc [.ref (Γ.1 0), .int a0, .int a1] (GI Γ σ)) (QI Γ res) 0 0 (AD Γ) :=
  x_metI (by decide) [.ref (Γ.1 0), .int a0, .int a1] (Nat.le_of_ble_eq_true rfl) (fun p e s m args below meth c M K ls hl hB => w_X4_task_0 M K a0 a1 σ _ _ ls hB hl hr)
abbrev rm_X4_record : Room := { frames := 2, cells := 0, slots := 0, locals := 44 }
def f_X4_record_0 (a0 : Int32) (a1 : Int32)   (σ : Sg) : Option (Int32 × Sg) :=
cb (f_X4_isWithin_0 a1 0 4 σ) fun v_1 σ_2 =>
if v_1 = 0 then
some ((-2), σ_2)
else
cb (f_X1_property_0 4 a0 a1 σ_2) fun v_5 σ_6 =>
some (v_5, σ_6)
set_option maxHeartbeats 4000000 in
set_option maxRecDepth 100000 in
theorem w_X4_record_0 {p : Program} {l : Launch} {e : Env} {s : State} {m : MethodId} {args : Array Value} {below : List Frame} {meth : Method} {c : Code} {Γ : GG} {res : Int32 × Sg} (M : MX RX4 cX4_record 3 (some .int) p s m args meth c) (K : KK Γ s s.heap) (a0 : Int32) (a1 : Int32)  (σ : Sg) (H : Heap) (locs : List Loc) (ls : Array Slot)  (hB : Bd Γ σ s H locs) (hl : lv_has ls 3 [(0, .ref (Γ.1 0)), (1, .int a0), (2, .int a1)]) (hr : f_X4_record_0 a0 a1   σ = some res) : WI Γ rm_X4_record p l e s m args below meth c H locs res (F0 m 0 ls []) := by
  unfold f_X4_record_0 at hr
  refine lv_iload_n M.1 M.2.1 dX4_record_0 rfl (lv_at hl 2 rfl) ?_
  refine lv_iconst (v := 0) M.1 M.2.1 dX4_record_1 (by decide) ?_
  refine lv_iconst (v := 4) M.1 M.2.1 dX4_record_2 (by decide) ?_
  obtain ⟨v_1, σ_2, h_3, hr⟩ := cbd hr
  refine x_callI (x_runS M K hB hl.1 [.int a1, .int 0, .int 4] (rest := []) rfl (c_X4_isWithin l Γ a1 0 4  σ (v_1, σ_2) h_3) cy_X4_isWithin wd_94 ⟨rfl, rfl, Nat.le_of_ble_eq_true rfl, Nat.le_of_ble_eq_true rfl⟩ (Nat.le_of_ble_eq_true rfl) ⟨Nat.zero_le _, Nat.zero_le _⟩ dX4_record_3) hB (fun H locs hB => ?_)
  replace hB : Bd Γ σ_2 s H locs := hB
  refine lv_if_ne (tgt := 12) M.1 M.2.1 dX4_record_6 (by decide) (fun c_4 => ?_) (fun c_4 => ?_)
  · rw [if_neg c_4] at hr
    refine lv_aload_n M.1 M.2.1 dX4_record_12 rfl (lv_at hl 0 rfl) ?_
    refine x_get4 M K hB isK_0 0 (by decide) wd_98 (v := .ref (Γ.1 1)) rfl dX4_record_13 ?_
    refine x_get0 M K hB (isB_1.k) 2 (by decide) wd_129 (v := .ref (Γ.1 4)) rfl dX4_record_16 ?_
    refine lv_iload_n M.1 M.2.1 dX4_record_19 rfl (lv_at hl 1 rfl) ?_
    refine lv_iload_n M.1 M.2.1 dX4_record_20 rfl (lv_at hl 2 rfl) ?_
    obtain ⟨v_5, σ_6, h_7, hr⟩ := cbd hr
    refine x_callI (x_runV M K hB hl.1 [.int a0, .int a1] (rest := []) rfl (c_X1_property l Γ 4 a0 a1 isB_1.bk σ_2 (v_5, σ_6) h_7) cy_X1_property (x_recv K hB (isB_1.bk.k).2 (ent_1 (isB_1.bk.k).1) rfl) wd_145 ⟨rfl, rfl, Nat.le_of_ble_eq_true rfl, Nat.le_of_ble_eq_true rfl⟩ (Nat.le_of_ble_eq_true rfl) ⟨Nat.zero_le _, Nat.zero_le _⟩ dX4_record_21) hB (fun H locs hB => ?_)
    replace hB : Bd Γ σ_6 s H locs := hB
    exact x_iret M hB (Option.some.inj hr) dX4_record_24
  · rw [if_pos c_4] at hr
    refine lv_bipush (v := (-2)) M.1 M.2.1 dX4_record_9 (by decide) ?_
    exact x_iret M hB (Option.some.inj hr) dX4_record_11
theorem c_X4_record (l : Launch) (Γ : GG) (a0 : Int32) (a1 : Int32)  (σ : Sg) (res : Int32 × Sg) (hr : f_X4_record_0 a0 a1 σ = some res) : Met l yX4_record (Cond.code yX4_record cX4_record 3 (some .int) :: gtb) rm_X4_record (va_Pc [.ref (Γ.1 0), .int a0, .int a1] (GI Γ σ)) (QI Γ res) 0 0 (AD Γ) :=
  x_metI (by decide) [.ref (Γ.1 0), .int a0, .int a1] (Nat.le_of_ble_eq_true rfl) (fun p e s m args below meth c M K ls hl hB => w_X4_record_0 M K a0 a1 σ _ _ ls hB hl hr)
abbrev rm_X4_clear : Room := { frames := 2, cells := 0, slots := 0, locals := 43 }
def f_X4_clear_0 (a0 : Int32)   (σ : Sg) : Option (Int32 × Sg) :=
cb (f_X4_hasTask_0 a0 σ) fun v_1 σ_2 =>
if v_1 = 0 then
some ((-1), σ_2)
else
if a0 < 0 ∨ 6 ≤ a0.toNatClampNeg then none else
if a0 < 0 ∨ 6 ≤ a0.toNatClampNeg then none else
cb (f_X3_clearDiagnostic_0 (3 + 3 + 5 * a0.toNatClampNeg) σ_2) fun v_7 σ_8 =>
some (σ_2 (3 + 3 + 5 * a0.toNatClampNeg) 12, σ_8)
set_option maxHeartbeats 4000000 in
set_option maxRecDepth 100000 in
theorem w_X4_clear_0 {p : Program} {l : Launch} {e : Env} {s : State} {m : MethodId} {args : Array Value} {below : List Frame} {meth : Method} {c : Code} {Γ : GG} {res : Int32 × Sg} (M : MX RX4 cX4_clear 3 (some .int) p s m args meth c) (K : KK Γ s s.heap) (a0 : Int32)  (σ : Sg) (H : Heap) (locs : List Loc) (ls : Array Slot)  (hB : Bd Γ σ s H locs) (hl : lv_has ls 3 [(0, .ref (Γ.1 0)), (1, .int a0)]) (hr : f_X4_clear_0 a0   σ = some res) : WI Γ rm_X4_clear p l e s m args below meth c H locs res (F0 m 0 ls []) := by
  unfold f_X4_clear_0 at hr
  refine lv_aload_n M.1 M.2.1 dX4_clear_0 rfl (lv_at hl 0 rfl) ?_
  refine lv_iload_n M.1 M.2.1 dX4_clear_1 rfl (lv_at hl 1 rfl) ?_
  obtain ⟨v_1, σ_2, h_3, hr⟩ := cbd hr
  refine x_callI (x_runV M K hB hl.1 [.int a0] (rest := []) rfl (c_X4_hasTask l Γ a0  σ (v_1, σ_2) h_3) cy_X4_hasTask (x_recv K hB isK_0.2 (ent_4 isK_0.1) rfl) wd_105 ⟨rfl, rfl, Nat.le_of_ble_eq_true rfl, Nat.le_of_ble_eq_true rfl⟩ (Nat.le_of_ble_eq_true rfl) ⟨Nat.zero_le _, Nat.zero_le _⟩ dX4_clear_2) hB (fun H locs hB => ?_)
  replace hB : Bd Γ σ_2 s H locs := hB
  refine lv_if_ne (tgt := 10) M.1 M.2.1 dX4_clear_5 (by decide) (fun c_4 => ?_) (fun c_4 => ?_)
  · rw [if_neg c_4] at hr
    refine lv_aload_n M.1 M.2.1 dX4_clear_10 rfl (lv_at hl 0 rfl) ?_
    refine x_get4 M K hB isK_0 0 (by decide) wd_98 (v := .ref (Γ.1 1)) rfl dX4_clear_11 ?_
    refine x_get0 M K hB (isB_1.k) 1 (by decide) wd_103 (v := .ref (Γ.1 3)) rfl dX4_clear_14 ?_
    refine lv_iload_n M.1 M.2.1 dX4_clear_17 rfl (lv_at hl 1 rfl) ?_
    obtain ⟨g_5, hr⟩ := gd hr
    refine x_aaldT M K hB (isB_1.k2) g_5 dX4_clear_18 ?_
    refine x_get3 M K hB ((isB.t isB_1 (vp_lt g_5)).k) 12 (by decide) wd_140 (v := .int (σ_2 (3 + 3 + 5 * a0.toNatClampNeg) 12)) rfl dX4_clear_19 ?_
    refine lv_istore_n (lv' := [(2, .int (σ_2 (3 + 3 + 5 * a0.toNatClampNeg) 12)), (0, .ref (Γ.1 0)), (1, .int a0)]) M.1 M.2.1 dX4_clear_22 rfl hl (by decide) rfl (fun ls hl => ?_)
    refine lv_aload_n M.1 M.2.1 dX4_clear_23 rfl (lv_at hl 1 rfl) ?_
    refine x_get4 M K hB isK_0 0 (by decide) wd_98 (v := .ref (Γ.1 1)) rfl dX4_clear_24 ?_
    refine x_get0 M K hB (isB_1.k) 1 (by decide) wd_103 (v := .ref (Γ.1 3)) rfl dX4_clear_27 ?_
    refine lv_iload_n M.1 M.2.1 dX4_clear_30 rfl (lv_at hl 2 rfl) ?_
    obtain ⟨g_6, hr⟩ := gd hr
    refine x_aaldT M K hB (isB_1.k2) g_6 dX4_clear_31 ?_
    obtain ⟨v_7, σ_8, h_9, hr⟩ := cbd hr
    refine x_callV (x_runV M K hB hl.1 [] (rest := []) rfl (c_X3_clearDiagnostic l Γ (3 + 3 + 5 * a0.toNatClampNeg) (isB.t isB_1 (vp_lt g_6)) σ_2 (v_7, σ_8) h_9) cy_X3_clearDiagnostic (x_recv K hB ((isB.t isB_1 (vp_lt g_6)).k).2 (ent_3 ((isB.t isB_1 (vp_lt g_6)).k).1) rfl) wd_146 ⟨rfl, rfl, Nat.le_of_ble_eq_true rfl, Nat.le_of_ble_eq_true rfl⟩ (Nat.le_of_ble_eq_true rfl) ⟨Nat.zero_le _, Nat.zero_le _⟩ dX4_clear_32) hB (fun H locs hB => ?_)
    replace hB : Bd Γ σ_8 s H locs := hB
    refine lv_iload_n M.1 M.2.1 dX4_clear_35 rfl (lv_at hl 0 rfl) ?_
    exact x_iret M hB (Option.some.inj hr) dX4_clear_36
  · rw [if_pos c_4] at hr
    refine lv_iconst (v := (-1)) M.1 M.2.1 dX4_clear_8 (by decide) ?_
    exact x_iret M hB (Option.some.inj hr) dX4_clear_9
theorem c_X4_clear (l : Launch) (Γ : GG) (a0 : Int32)  (σ : Sg) (res : Int32 × Sg) (hr : f_X4_clear_0 a0 σ = some res) : Met l yX4_clear (Cond.code yX4_clear cX4_clear 3 (some .int) :: gtb) rm_X4_clear (va_Pc [.ref (Γ.1 0), .int a0] (GI Γ σ)) (QI Γ res) 0 0 (AD Γ) :=
  x_metI (by decide) [.ref (Γ.1 0), .int a0] (Nat.le_of_ble_eq_true rfl) (fun p e s m args below meth c M K ls hl hB => w_X4_clear_0 M K a0 σ _ _ ls hB hl hr)
abbrev rm_X4_forecast : Room := { frames := 6, cells := 0, slots := 0, locals := 131 }
def f_X4_forecast_0 (a0 : Int32)   (σ : Sg) : Option (Int32 × Sg) :=
cb (f_X4_isWithin_0 a0 1 5000 σ) fun v_1 σ_2 =>
if v_1 = 0 then
some ((-2), σ_2)
else
cb (f_X0_become_0 36 1 σ_2) fun v_5 σ_6 =>
cb (f_X0_ticksToReset_0 36 a0 σ_6) fun v_8 σ_9 =>
some (v_8, σ_9)
set_option maxHeartbeats 4000000 in
set_option maxRecDepth 100000 in
theorem w_X4_forecast_0 {p : Program} {l : Launch} {e : Env} {s : State} {m : MethodId} {args : Array Value} {below : List Frame} {meth : Method} {c : Code} {Γ : GG} {res : Int32 × Sg} (M : MX RX4 cX4_forecast 2 (some .int) p s m args meth c) (K : KK Γ s s.heap) (a0 : Int32)  (σ : Sg) (H : Heap) (locs : List Loc) (ls : Array Slot)  (hB : Bd Γ σ s H locs) (hl : lv_has ls 2 [(0, .ref (Γ.1 0)), (1, .int a0)]) (hr : f_X4_forecast_0 a0   σ = some res) : WI Γ rm_X4_forecast p l e s m args below meth c H locs res (F0 m 0 ls []) := by
  unfold f_X4_forecast_0 at hr
  refine lv_iload_n M.1 M.2.1 dX4_forecast_0 rfl (lv_at hl 1 rfl) ?_
  refine lv_iconst (v := 1) M.1 M.2.1 dX4_forecast_1 (by decide) ?_
  refine lv_sipush (v := 5000) M.1 M.2.1 dX4_forecast_2 (by decide) ?_
  obtain ⟨v_1, σ_2, h_3, hr⟩ := cbd hr
  refine x_callI (x_runS M K hB hl.1 [.int a0, .int 1, .int 5000] (rest := []) rfl (c_X4_isWithin l Γ a0 1 5000  σ (v_1, σ_2) h_3) cy_X4_isWithin wd_94 ⟨rfl, rfl, Nat.le_of_ble_eq_true rfl, Nat.le_of_ble_eq_true rfl⟩ (Nat.le_of_ble_eq_true rfl) ⟨Nat.zero_le _, Nat.zero_le _⟩ dX4_forecast_5) hB (fun H locs hB => ?_)
  replace hB : Bd Γ σ_2 s H locs := hB
  refine lv_if_ne (tgt := 14) M.1 M.2.1 dX4_forecast_8 (by decide) (fun c_4 => ?_) (fun c_4 => ?_)
  · rw [if_neg c_4] at hr
    refine lv_aload_n M.1 M.2.1 dX4_forecast_14 rfl (lv_at hl 0 rfl) ?_
    refine x_get4 M K hB isK_0 1 (by decide) wd_147 (v := .ref (Γ.1 36)) rfl dX4_forecast_15 ?_
    refine lv_aload_n M.1 M.2.1 dX4_forecast_18 rfl (lv_at hl 0 rfl) ?_
    refine x_get4 M K hB isK_0 0 (by decide) wd_98 (v := .ref (Γ.1 1)) rfl dX4_forecast_19 ?_
    obtain ⟨v_5, σ_6, h_7, hr⟩ := cbd hr
    refine x_callV (x_runV M K hB hl.1 [.ref (Γ.1 1)] (rest := []) rfl (c_X0_become l Γ 36 1 isB_36 isB_1 σ_2 (v_5, σ_6) h_7) cy_X0_become (x_recv K hB (isB_36.k).2 (ent_0 (isB_36.k).1) rfl) wd_148 ⟨rfl, rfl, Nat.le_of_ble_eq_true rfl, Nat.le_of_ble_eq_true rfl⟩ (Nat.le_of_ble_eq_true rfl) ⟨Nat.zero_le _, Nat.zero_le _⟩ dX4_forecast_22) hB (fun H locs hB => ?_)
    replace hB : Bd Γ σ_6 s H locs := hB
    refine lv_aload_n M.1 M.2.1 dX4_forecast_25 rfl (lv_at hl 0 rfl) ?_
    refine x_get4 M K hB isK_0 1 (by decide) wd_147 (v := .ref (Γ.1 36)) rfl dX4_forecast_26 ?_
    refine lv_iload_n M.1 M.2.1 dX4_forecast_29 rfl (lv_at hl 1 rfl) ?_
    obtain ⟨v_8, σ_9, h_10, hr⟩ := cbd hr
    refine x_callI (x_runV M K hB hl.1 [.int a0] (rest := []) rfl (c_X0_ticksToReset l Γ 36 a0 isB_36 σ_6 (v_8, σ_9) h_10) cy_X0_ticksToReset (x_recv K hB (isB_36.k).2 (ent_0 (isB_36.k).1) rfl) wd_124 ⟨rfl, rfl, Nat.le_of_ble_eq_true rfl, Nat.le_of_ble_eq_true rfl⟩ (Nat.le_of_ble_eq_true rfl) ⟨Nat.zero_le _, Nat.zero_le _⟩ dX4_forecast_30) hB (fun H locs hB => ?_)
    replace hB : Bd Γ σ_9 s H locs := hB
    exact x_iret M hB (Option.some.inj hr) dX4_forecast_33
  · rw [if_pos c_4] at hr
    refine lv_bipush (v := (-2)) M.1 M.2.1 dX4_forecast_11 (by decide) ?_
    exact x_iret M hB (Option.some.inj hr) dX4_forecast_13
theorem c_X4_forecast (l : Launch) (Γ : GG) (a0 : Int32)  (σ : Sg) (res : Int32 × Sg) (hr : f_X4_forecast_0 a0 σ = some res) : Met l yX4_forecast (Cond.code yX4_forecast cX4_forecast 2 (some .int) :: gtb) rm_X4_forecast (va_Pc [.ref (Γ.1 0), .int a0] (GI Γ σ)) (QI Γ res) 0 0 (AD Γ) :=
  x_metI (by decide) [.ref (Γ.1 0), .int a0] (Nat.le_of_ble_eq_true rfl) (fun p e s m args below meth c M K ls hl hB => w_X4_forecast_0 M K a0 σ _ _ ls hB hl hr)
abbrev rm_X4_prepareTrial : Room := { frames := 3, cells := 0, slots := 0, locals := 69 }
def f_X4_prepareTrial_0    (σ : Sg) : Option (Int32 × Sg) :=
cb (f_X0_become_0 36 1 σ) fun v_1 σ_2 =>
cb (f_X0_removeFaults_0 36 σ_2) fun v_4 σ_5 =>
cb (f_X0_switchOffAndOn_0 36 σ_5) fun v_7 σ_8 =>
some (0, σ_8)
set_option maxHeartbeats 4000000 in
set_option maxRecDepth 100000 in
theorem w_X4_prepareTrial_0 {p : Program} {l : Launch} {e : Env} {s : State} {m : MethodId} {args : Array Value} {below : List Frame} {meth : Method} {c : Code} {Γ : GG} {res : Int32 × Sg} (M : MX RX4 cX4_prepareTrial 1 none p s m args meth c) (K : KK Γ s s.heap)   (σ : Sg) (H : Heap) (locs : List Loc) (ls : Array Slot)  (hB : Bd Γ σ s H locs) (hl : lv_has ls 1 [(0, .ref (Γ.1 0))]) (hr : f_X4_prepareTrial_0    σ = some res) : WV Γ rm_X4_prepareTrial p l e s m args below meth c H locs res (F0 m 0 ls []) := by
  unfold f_X4_prepareTrial_0 at hr
  refine lv_aload_n M.1 M.2.1 dX4_prepareTrial_0 rfl (lv_at hl 0 rfl) ?_
  refine x_get4 M K hB isK_0 1 (by decide) wd_147 (v := .ref (Γ.1 36)) rfl dX4_prepareTrial_1 ?_
  refine lv_aload_n M.1 M.2.1 dX4_prepareTrial_4 rfl (lv_at hl 0 rfl) ?_
  refine x_get4 M K hB isK_0 0 (by decide) wd_98 (v := .ref (Γ.1 1)) rfl dX4_prepareTrial_5 ?_
  obtain ⟨v_1, σ_2, h_3, hr⟩ := cbd hr
  refine x_callV (x_runV M K hB hl.1 [.ref (Γ.1 1)] (rest := []) rfl (c_X0_become l Γ 36 1 isB_36 isB_1 σ (v_1, σ_2) h_3) cy_X0_become (x_recv K hB (isB_36.k).2 (ent_0 (isB_36.k).1) rfl) wd_148 ⟨rfl, rfl, Nat.le_of_ble_eq_true rfl, Nat.le_of_ble_eq_true rfl⟩ (Nat.le_of_ble_eq_true rfl) ⟨Nat.zero_le _, Nat.zero_le _⟩ dX4_prepareTrial_8) hB (fun H locs hB => ?_)
  replace hB : Bd Γ σ_2 s H locs := hB
  refine lv_aload_n M.1 M.2.1 dX4_prepareTrial_11 rfl (lv_at hl 0 rfl) ?_
  refine x_get4 M K hB isK_0 1 (by decide) wd_147 (v := .ref (Γ.1 36)) rfl dX4_prepareTrial_12 ?_
  obtain ⟨v_4, σ_5, h_6, hr⟩ := cbd hr
  refine x_callV (x_runV M K hB hl.1 [] (rest := []) rfl (c_X0_removeFaults l Γ 36 isB_36 σ_2 (v_4, σ_5) h_6) cy_X0_removeFaults (x_recv K hB (isB_36.k).2 (ent_0 (isB_36.k).1) rfl) wd_149 ⟨rfl, rfl, Nat.le_of_ble_eq_true rfl, Nat.le_of_ble_eq_true rfl⟩ (Nat.le_of_ble_eq_true rfl) ⟨Nat.zero_le _, Nat.zero_le _⟩ dX4_prepareTrial_15) hB (fun H locs hB => ?_)
  replace hB : Bd Γ σ_5 s H locs := hB
  refine lv_aload_n M.1 M.2.1 dX4_prepareTrial_18 rfl (lv_at hl 0 rfl) ?_
  refine x_get4 M K hB isK_0 1 (by decide) wd_147 (v := .ref (Γ.1 36)) rfl dX4_prepareTrial_19 ?_
  obtain ⟨v_7, σ_8, h_9, hr⟩ := cbd hr
  refine x_callV (x_runV M K hB hl.1 [] (rest := []) rfl (c_X0_switchOffAndOn l Γ 36 isB_36 σ_5 (v_7, σ_8) h_9) cy_X0_switchOffAndOn (x_recv K hB (isB_36.k).2 (ent_0 (isB_36.k).1) rfl) wd_131 ⟨rfl, rfl, Nat.le_of_ble_eq_true rfl, Nat.le_of_ble_eq_true rfl⟩ (Nat.le_of_ble_eq_true rfl) ⟨Nat.zero_le _, Nat.zero_le _⟩ dX4_prepareTrial_22) hB (fun H locs hB => ?_)
  replace hB : Bd Γ σ_8 s H locs := hB
  exact x_vret M hB (Option.some.inj hr) dX4_prepareTrial_25
theorem c_X4_prepareTrial (l : Launch) (Γ : GG)   (σ : Sg) (res : Int32 × Sg) (hr : f_X4_prepareTrial_0  σ = some res) : Met l yX4_prepareTrial (Cond.code yX4_prepareTrial cX4_prepareTrial 1 none :: gtb) rm_X4_prepareTrial (va_Pc [.ref (Γ.1 0)] (GI Γ σ)) (QV Γ res) 0 0 (AD Γ) :=
  x_metV (by decide) [.ref (Γ.1 0)] (Nat.le_of_ble_eq_true rfl) (fun p e s m args below meth c M K ls hl hB => w_X4_prepareTrial_0 M K  σ _ _ ls hB hl hr)
abbrev rm_X4_worstHang : Room := { frames := 6, cells := 0, slots := 0, locals := 131 }
def f_X4_worstHang_54 (a0 : Int32) (a1 : Int32) (a2 : Int32) (a3 : Int32)  : Nat → Int32 → Int32 → Int32 → Int32 → Int32 → Int32 → Sg → Option (Int32 × Sg)
  | 0, _, _, _, _, _, _, _ => none
  | f + 1, x1, x2, x3, x4, x5, x6, σ => if x2 + x3 ≤ x6 then
some (x5, σ)
else
cb (f_X4_prepareTrial_0  σ) fun v_18 σ_19 =>
if x1 < 0 ∨ 6 ≤ x1.toNatClampNeg then none else
cb (f_X3_takeFault_0 (38 + 3 + 5 * x1.toNatClampNeg) 0 1 x6 0 σ_19) fun v_22 σ_23 =>
cb (f_X0_ticksToReset_0 36 x4 σ_23) fun v_25 σ_26 =>
if v_25 = (-6) then
some ((-6), σ_26)
else
cb (f_X1_property_0 39 ((σ_26 39 1) - 1) 4 σ_26) fun v_29 σ_30 =>
f_X4_worstHang_54 a0 a1 a2 a3  f x1 x2 x3 x4 (if x5 < v_29 - x6 then v_29 - x6 else x5) (x6 + 1) σ_30
set_option maxHeartbeats 4000000 in
set_option maxRecDepth 100000 in
theorem w_X4_worstHang_54 {p : Program} {l : Launch} {e : Env} {s : State} {m : MethodId} {args : Array Value} {below : List Frame} {meth : Method} {c : Code} {Γ : GG} {res : Int32 × Sg} (M : MX RX4 cX4_worstHang 7 (some .int) p s m args meth c) (K : KK Γ s s.heap) (a0 : Int32) (a1 : Int32) (a2 : Int32) (a3 : Int32) : ∀ (f : Nat) (x1 : Int32) (x2 : Int32) (x3 : Int32) (x4 : Int32) (x5 : Int32) (x6 : Int32) (σ : Sg) (H : Heap) (locs : List Loc) (ls : Array Slot)  (hB : Bd Γ σ s H locs) (hl : lv_has ls 7 [(0, .ref (Γ.1 0)), (1, .int x1), (2, .int x2), (3, .int x3), (4, .int x4), (5, .int x5), (6, .int x6)]) (hr : f_X4_worstHang_54 a0 a1 a2 a3  f x1 x2 x3 x4 x5 x6 σ = some res), WI Γ rm_X4_worstHang p l e s m args below meth c H locs res (F0 m 54 ls []) := by
  intro f
  induction f with
  | zero => intros; rename_i hr; exact absurd hr (by rw [f_X4_worstHang_54]; exact fun h => by cases h)
  | succ f ih_54 =>
    intro x1 x2 x3 x4 x5 x6 σ H locs ls  hB hl hr
    rw [f_X4_worstHang_54] at hr
    refine lv_iload M.1 M.2.1 dX4_worstHang_54 (lv_at hl 6 rfl) ?_
    refine lv_iload_n M.1 M.2.1 dX4_worstHang_56 rfl (lv_at hl 2 rfl) ?_
    refine lv_iload_n M.1 M.2.1 dX4_worstHang_57 rfl (lv_at hl 3 rfl) ?_
    refine lv_iadd M.1 M.2.1 dX4_worstHang_58 ?_
    refine lv_icmp_ge (tgt := 139) M.1 M.2.1 dX4_worstHang_59 (by decide) (fun c_17 => ?_) (fun c_17 => ?_)
    · rw [if_pos c_17] at hr
      refine lv_iload M.1 M.2.1 dX4_worstHang_139 (lv_at hl 5 rfl) ?_
      exact x_iret M hB (Option.some.inj hr) dX4_worstHang_141
    · rw [if_neg c_17] at hr
      refine lv_aload_n M.1 M.2.1 dX4_worstHang_62 rfl (lv_at hl 0 rfl) ?_
      obtain ⟨v_18, σ_19, h_20, hr⟩ := cbd hr
      refine x_callV (x_runV M K hB hl.1 [] (rest := []) rfl (c_X4_prepareTrial l Γ   σ (v_18, σ_19) h_20) cy_X4_prepareTrial (x_recv K hB isK_0.2 (ent_4 isK_0.1) rfl) wd_150 ⟨rfl, rfl, Nat.le_of_ble_eq_true rfl, Nat.le_of_ble_eq_true rfl⟩ (Nat.le_of_ble_eq_true rfl) ⟨Nat.zero_le _, Nat.zero_le _⟩ dX4_worstHang_63) hB (fun H locs hB => ?_)
      replace hB : Bd Γ σ_19 s H locs := hB
      refine lv_aload_n M.1 M.2.1 dX4_worstHang_66 rfl (lv_at hl 0 rfl) ?_
      refine x_get4 M K hB isK_0 1 (by decide) wd_147 (v := .ref (Γ.1 36)) rfl dX4_worstHang_67 ?_
      refine x_get0 M K hB (isB_36.k) 1 (by decide) wd_103 (v := .ref (Γ.1 38)) rfl dX4_worstHang_70 ?_
      refine lv_iload_n M.1 M.2.1 dX4_worstHang_73 rfl (lv_at hl 1 rfl) ?_
      obtain ⟨g_21, hr⟩ := gd hr
      refine x_aaldT M K hB (isB_36.k2) g_21 dX4_worstHang_74 ?_
      refine lv_iconst (v := 0) M.1 M.2.1 dX4_worstHang_75 (by decide) ?_
      refine lv_iconst (v := 1) M.1 M.2.1 dX4_worstHang_76 (by decide) ?_
      refine lv_iload M.1 M.2.1 dX4_worstHang_77 (lv_at hl 6 rfl) ?_
      refine lv_iconst (v := 0) M.1 M.2.1 dX4_worstHang_79 (by decide) ?_
      obtain ⟨v_22, σ_23, h_24, hr⟩ := cbd hr
      refine x_callV (x_runV M K hB hl.1 [.int 0, .int 1, .int x6, .int 0] (rest := []) rfl (c_X3_takeFault l Γ (38 + 3 + 5 * x1.toNatClampNeg) 0 1 x6 0 (isB.t isB_36 (vp_lt g_21)) σ_19 (v_22, σ_23) h_24) cy_X3_takeFault (x_recv K hB ((isB.t isB_36 (vp_lt g_21)).k).2 (ent_3 ((isB.t isB_36 (vp_lt g_21)).k).1) rfl) wd_108 ⟨rfl, rfl, Nat.le_of_ble_eq_true rfl, Nat.le_of_ble_eq_true rfl⟩ (Nat.le_of_ble_eq_true rfl) ⟨Nat.zero_le _, Nat.zero_le _⟩ dX4_worstHang_80) hB (fun H locs hB => ?_)
      replace hB : Bd Γ σ_23 s H locs := hB
      refine lv_aload_n M.1 M.2.1 dX4_worstHang_83 rfl (lv_at hl 0 rfl) ?_
      refine x_get4 M K hB isK_0 1 (by decide) wd_147 (v := .ref (Γ.1 36)) rfl dX4_worstHang_84 ?_
      refine lv_iload M.1 M.2.1 dX4_worstHang_87 (lv_at hl 4 rfl) ?_
      obtain ⟨v_25, σ_26, h_27, hr⟩ := cbd hr
      refine x_callI (x_runV M K hB hl.1 [.int x4] (rest := []) rfl (c_X0_ticksToReset l Γ 36 x4 isB_36 σ_23 (v_25, σ_26) h_27) cy_X0_ticksToReset (x_recv K hB (isB_36.k).2 (ent_0 (isB_36.k).1) rfl) wd_124 ⟨rfl, rfl, Nat.le_of_ble_eq_true rfl, Nat.le_of_ble_eq_true rfl⟩ (Nat.le_of_ble_eq_true rfl) ⟨Nat.zero_le _, Nat.zero_le _⟩ dX4_worstHang_89) hB (fun H locs hB => ?_)
      replace hB : Bd Γ σ_26 s H locs := hB
      refine lv_bipush (v := (-6)) M.1 M.2.1 dX4_worstHang_92 (by decide) ?_
      refine lv_icmp_ne (tgt := 100) M.1 M.2.1 dX4_worstHang_94 (by decide) (fun c_28 => ?_) (fun c_28 => ?_)
      · rw [if_neg c_28] at hr
        refine lv_iload M.1 M.2.1 dX4_worstHang_100 (lv_at hl 5 rfl) ?_
        refine lv_aload_n M.1 M.2.1 dX4_worstHang_102 rfl (lv_at hl 0 rfl) ?_
        refine x_get4 M K hB isK_0 1 (by decide) wd_147 (v := .ref (Γ.1 36)) rfl dX4_worstHang_103 ?_
        refine x_get0 M K hB (isB_36.k) 2 (by decide) wd_129 (v := .ref (Γ.1 39)) rfl dX4_worstHang_106 ?_
        refine lv_aload_n M.1 M.2.1 dX4_worstHang_109 rfl (lv_at hl 0 rfl) ?_
        refine x_get4 M K hB isK_0 1 (by decide) wd_147 (v := .ref (Γ.1 36)) rfl dX4_worstHang_110 ?_
        refine x_get0 M K hB (isB_36.k) 2 (by decide) wd_129 (v := .ref (Γ.1 39)) rfl dX4_worstHang_113 ?_
        refine x_get1 M K hB (isB_36.bk.k) 1 (by decide) wd_130 (v := .int (σ_26 39 1)) rfl dX4_worstHang_116 ?_
        refine lv_iconst (v := 1) M.1 M.2.1 dX4_worstHang_119 (by decide) ?_
        refine lv_isub M.1 M.2.1 dX4_worstHang_120 ?_
        refine lv_iconst (v := 4) M.1 M.2.1 dX4_worstHang_121 (by decide) ?_
        obtain ⟨v_29, σ_30, h_31, hr⟩ := cbd hr
        refine x_callI (x_runV M K hB hl.1 [.int ((σ_26 39 1) - 1), .int 4] (rest := [.int x5]) rfl (c_X1_property l Γ 39 ((σ_26 39 1) - 1) 4 isB_36.bk σ_26 (v_29, σ_30) h_31) cy_X1_property (x_recv K hB (isB_36.bk.k).2 (ent_1 (isB_36.bk.k).1) rfl) wd_145 ⟨rfl, rfl, Nat.le_of_ble_eq_true rfl, Nat.le_of_ble_eq_true rfl⟩ (Nat.le_of_ble_eq_true rfl) ⟨Nat.zero_le _, Nat.zero_le _⟩ dX4_worstHang_122) hB (fun H locs hB => ?_)
        replace hB : Bd Γ σ_30 s H locs := hB
        refine lv_iload M.1 M.2.1 dX4_worstHang_125 (lv_at hl 6 rfl) ?_
        refine lv_isub M.1 M.2.1 dX4_worstHang_127 ?_
        refine x_max M hl.1 wd_151 wd_6 wd_7 wd_8 (Nat.le_of_ble_eq_true rfl) (Nat.le_of_ble_eq_true rfl) (Nat.zero_le _) (Nat.zero_le _) dX4_worstHang_128 ?_
        refine lv_istore (lv' := [(5, .int (if x5 < v_29 - x6 then v_29 - x6 else x5)), (0, .ref (Γ.1 0)), (1, .int x1), (2, .int x2), (3, .int x3), (4, .int x4), (6, .int x6)]) M.1 M.2.1 dX4_worstHang_131 hl (by decide) rfl (fun ls hl => ?_)
        refine lv_iinc (v := x6 + 1) (lv' := [(6, .int (x6 + 1)), (5, .int (if x5 < v_29 - x6 then v_29 - x6 else x5)), (0, .ref (Γ.1 0)), (1, .int x1), (2, .int x2), (3, .int x3), (4, .int x4)]) M.1 M.2.1 dX4_worstHang_133 hl (k := 6) rfl rfl (by decide) rfl (fun ls hl => ?_)
        refine lv_goto (tgt := 54) M.1 M.2.1 dX4_worstHang_136 (by decide) ?_
        exact ih_54 x1 x2 x3 x4 (if x5 < v_29 - x6 then v_29 - x6 else x5) (x6 + 1) _ _ _ _  hB (lv_sub hl [2, 3, 4, 5, 6, 1, 0] rfl) hr
      · rw [if_pos c_28] at hr
        refine lv_bipush (v := (-6)) M.1 M.2.1 dX4_worstHang_97 (by decide) ?_
        exact x_iret M hB (Option.some.inj hr) dX4_worstHang_99
def f_X4_worstHang_43 (a0 : Int32) (a1 : Int32) (a2 : Int32) (a3 : Int32)   (σ : Sg) : Option (Int32 × Sg) :=
some ((-2), σ)
set_option maxHeartbeats 4000000 in
set_option maxRecDepth 100000 in
theorem w_X4_worstHang_43 {p : Program} {l : Launch} {e : Env} {s : State} {m : MethodId} {args : Array Value} {below : List Frame} {meth : Method} {c : Code} {Γ : GG} {res : Int32 × Sg} (M : MX RX4 cX4_worstHang 7 (some .int) p s m args meth c) (K : KK Γ s s.heap) (a0 : Int32) (a1 : Int32) (a2 : Int32) (a3 : Int32)  (σ : Sg) (H : Heap) (locs : List Loc) (ls : Array Slot)  (hB : Bd Γ σ s H locs) (hl : lv_has ls 7 []) (hr : f_X4_worstHang_43 a0 a1 a2 a3   σ = some res) : WI Γ rm_X4_worstHang p l e s m args below meth c H locs res (F0 m 43 ls []) := by
  unfold f_X4_worstHang_43 at hr
  refine lv_bipush (v := (-2)) M.1 M.2.1 dX4_worstHang_43 (by decide) ?_
  exact x_iret M hB (Option.some.inj hr) dX4_worstHang_45
def f_X4_worstHang_0 (a0 : Int32) (a1 : Int32) (a2 : Int32) (a3 : Int32)   (σ : Sg) : Option (Int32 × Sg) :=
cb (f_X4_hasTask_0 a0 σ) fun v_1 σ_2 =>
if v_1 = 0 then
some ((-1), σ_2)
else
cb (f_X4_isWithin_0 a1 1 4000 σ_2) fun v_5 σ_6 =>
if v_5 = 0 then
f_X4_worstHang_43 a0 a1 a2 a3   σ_6
else
cb (f_X4_isWithin_0 a2 1 60 σ_6) fun v_9 σ_10 =>
if v_9 = 0 then
f_X4_worstHang_43 a0 a1 a2 a3   σ_10
else
cb (f_X4_isWithin_0 a3 1 5000 σ_10) fun v_13 σ_14 =>
if v_13 = 0 then
f_X4_worstHang_43 a0 a1 a2 a3   σ_14
else
f_X4_worstHang_54 a0 a1 a2 a3  FU a0 a1 a2 a3 (-5000) a1 σ_14
set_option maxHeartbeats 4000000 in
set_option maxRecDepth 100000 in
theorem w_X4_worstHang_0 {p : Program} {l : Launch} {e : Env} {s : State} {m : MethodId} {args : Array Value} {below : List Frame} {meth : Method} {c : Code} {Γ : GG} {res : Int32 × Sg} (M : MX RX4 cX4_worstHang 7 (some .int) p s m args meth c) (K : KK Γ s s.heap) (a0 : Int32) (a1 : Int32) (a2 : Int32) (a3 : Int32)  (σ : Sg) (H : Heap) (locs : List Loc) (ls : Array Slot)  (hB : Bd Γ σ s H locs) (hl : lv_has ls 7 [(0, .ref (Γ.1 0)), (1, .int a0), (2, .int a1), (3, .int a2), (4, .int a3)]) (hr : f_X4_worstHang_0 a0 a1 a2 a3   σ = some res) : WI Γ rm_X4_worstHang p l e s m args below meth c H locs res (F0 m 0 ls []) := by
  unfold f_X4_worstHang_0 at hr
  refine lv_aload_n M.1 M.2.1 dX4_worstHang_0 rfl (lv_at hl 0 rfl) ?_
  refine lv_iload_n M.1 M.2.1 dX4_worstHang_1 rfl (lv_at hl 1 rfl) ?_
  obtain ⟨v_1, σ_2, h_3, hr⟩ := cbd hr
  refine x_callI (x_runV M K hB hl.1 [.int a0] (rest := []) rfl (c_X4_hasTask l Γ a0  σ (v_1, σ_2) h_3) cy_X4_hasTask (x_recv K hB isK_0.2 (ent_4 isK_0.1) rfl) wd_105 ⟨rfl, rfl, Nat.le_of_ble_eq_true rfl, Nat.le_of_ble_eq_true rfl⟩ (Nat.le_of_ble_eq_true rfl) ⟨Nat.zero_le _, Nat.zero_le _⟩ dX4_worstHang_2) hB (fun H locs hB => ?_)
  replace hB : Bd Γ σ_2 s H locs := hB
  refine lv_if_ne (tgt := 10) M.1 M.2.1 dX4_worstHang_5 (by decide) (fun c_4 => ?_) (fun c_4 => ?_)
  · rw [if_neg c_4] at hr
    refine lv_iload_n M.1 M.2.1 dX4_worstHang_10 rfl (lv_at hl 2 rfl) ?_
    refine lv_iconst (v := 1) M.1 M.2.1 dX4_worstHang_11 (by decide) ?_
    refine lv_sipush (v := 4000) M.1 M.2.1 dX4_worstHang_12 (by decide) ?_
    obtain ⟨v_5, σ_6, h_7, hr⟩ := cbd hr
    refine x_callI (x_runS M K hB hl.1 [.int a1, .int 1, .int 4000] (rest := []) rfl (c_X4_isWithin l Γ a1 1 4000  σ_2 (v_5, σ_6) h_7) cy_X4_isWithin wd_94 ⟨rfl, rfl, Nat.le_of_ble_eq_true rfl, Nat.le_of_ble_eq_true rfl⟩ (Nat.le_of_ble_eq_true rfl) ⟨Nat.zero_le _, Nat.zero_le _⟩ dX4_worstHang_15) hB (fun H locs hB => ?_)
    replace hB : Bd Γ σ_6 s H locs := hB
    refine lv_if_eq (tgt := 43) M.1 M.2.1 dX4_worstHang_18 (by decide) (fun c_8 => ?_) (fun c_8 => ?_)
    · rw [if_pos c_8] at hr
      exact w_X4_worstHang_43 M K a0 a1 a2 a3   _ _ _ _  hB (lv_sub hl [] rfl) hr
    · rw [if_neg c_8] at hr
      refine lv_iload_n M.1 M.2.1 dX4_worstHang_21 rfl (lv_at hl 3 rfl) ?_
      refine lv_iconst (v := 1) M.1 M.2.1 dX4_worstHang_22 (by decide) ?_
      refine lv_bipush (v := 60) M.1 M.2.1 dX4_worstHang_23 (by decide) ?_
      obtain ⟨v_9, σ_10, h_11, hr⟩ := cbd hr
      refine x_callI (x_runS M K hB hl.1 [.int a2, .int 1, .int 60] (rest := []) rfl (c_X4_isWithin l Γ a2 1 60  σ_6 (v_9, σ_10) h_11) cy_X4_isWithin wd_94 ⟨rfl, rfl, Nat.le_of_ble_eq_true rfl, Nat.le_of_ble_eq_true rfl⟩ (Nat.le_of_ble_eq_true rfl) ⟨Nat.zero_le _, Nat.zero_le _⟩ dX4_worstHang_25) hB (fun H locs hB => ?_)
      replace hB : Bd Γ σ_10 s H locs := hB
      refine lv_if_eq (tgt := 43) M.1 M.2.1 dX4_worstHang_28 (by decide) (fun c_12 => ?_) (fun c_12 => ?_)
      · rw [if_pos c_12] at hr
        exact w_X4_worstHang_43 M K a0 a1 a2 a3   _ _ _ _  hB (lv_sub hl [] rfl) hr
      · rw [if_neg c_12] at hr
        refine lv_iload M.1 M.2.1 dX4_worstHang_31 (lv_at hl 4 rfl) ?_
        refine lv_iconst (v := 1) M.1 M.2.1 dX4_worstHang_33 (by decide) ?_
        refine lv_sipush (v := 5000) M.1 M.2.1 dX4_worstHang_34 (by decide) ?_
        obtain ⟨v_13, σ_14, h_15, hr⟩ := cbd hr
        refine x_callI (x_runS M K hB hl.1 [.int a3, .int 1, .int 5000] (rest := []) rfl (c_X4_isWithin l Γ a3 1 5000  σ_10 (v_13, σ_14) h_15) cy_X4_isWithin wd_94 ⟨rfl, rfl, Nat.le_of_ble_eq_true rfl, Nat.le_of_ble_eq_true rfl⟩ (Nat.le_of_ble_eq_true rfl) ⟨Nat.zero_le _, Nat.zero_le _⟩ dX4_worstHang_37) hB (fun H locs hB => ?_)
        replace hB : Bd Γ σ_14 s H locs := hB
        refine lv_if_ne (tgt := 46) M.1 M.2.1 dX4_worstHang_40 (by decide) (fun c_16 => ?_) (fun c_16 => ?_)
        · rw [if_neg c_16] at hr
          refine lv_sipush (v := (-5000)) M.1 M.2.1 dX4_worstHang_46 (by decide) ?_
          refine lv_istore (lv' := [(5, .int (-5000)), (0, .ref (Γ.1 0)), (1, .int a0), (2, .int a1), (3, .int a2), (4, .int a3)]) M.1 M.2.1 dX4_worstHang_49 hl (by decide) rfl (fun ls hl => ?_)
          refine lv_iload_n M.1 M.2.1 dX4_worstHang_51 rfl (lv_at hl 3 rfl) ?_
          refine lv_istore (lv' := [(6, .int a1), (5, .int (-5000)), (0, .ref (Γ.1 0)), (1, .int a0), (2, .int a1), (3, .int a2), (4, .int a3)]) M.1 M.2.1 dX4_worstHang_52 hl (by decide) rfl (fun ls hl => ?_)
          exact w_X4_worstHang_54 M K a0 a1 a2 a3  FU a0 a1 a2 a3 (-5000) a1 _ _ _ _  hB (lv_sub hl [2, 3, 4, 5, 6, 1, 0] rfl) hr
        · rw [if_pos c_16] at hr
          exact w_X4_worstHang_43 M K a0 a1 a2 a3   _ _ _ _  hB (lv_sub hl [] rfl) hr
  · rw [if_pos c_4] at hr
    refine lv_iconst (v := (-1)) M.1 M.2.1 dX4_worstHang_8 (by decide) ?_
    exact x_iret M hB (Option.some.inj hr) dX4_worstHang_9
theorem c_X4_worstHang (l : Launch) (Γ : GG) (a0 : Int32) (a1 : Int32) (a2 : Int32) (a3 : Int32)  (σ : Sg) (res : Int32 × Sg) (hr : f_X4_worstHang_0 a0 a1 a2 a3 σ = some res) : Met l yX4_worstHang (Cond.code yX4_worstHang cX4_worstHang 7 (some .int) :: gtb) rm_X4_worstHang (va_Pc [.ref (Γ.1 0), .int a0, .int a1, .int a2, .int a3] (GI Γ σ)) (QI Γ res) 0 0 (AD Γ) :=
  x_metI (by decide) [.ref (Γ.1 0), .int a0, .int a1, .int a2, .int a3] (Nat.le_of_ble_eq_true rfl) (fun p e s m args below meth c M K ls hl hB => w_X4_worstHang_0 M K a0 a1 a2 a3 σ _ _ ls hB hl hr)
abbrev rm_X4_staysUp : Room := { frames := 6, cells := 0, slots := 0, locals := 131 }
def f_X4_staysUp_32 (a0 : Int32) (a1 : Int32)  (s0 : Int32) (σ : Sg) : Option (Int32 × Sg) :=
if s0 = 0 ∨ s0 = 1 then some (s0, σ) else none
set_option maxHeartbeats 4000000 in
set_option maxRecDepth 100000 in
theorem w_X4_staysUp_32 {p : Program} {l : Launch} {e : Env} {s : State} {m : MethodId} {args : Array Value} {below : List Frame} {meth : Method} {c : Code} {Γ : GG} {res : Int32 × Sg} (M : MX RX4 cX4_staysUp 3 (some .boolean) p s m args meth c) (K : KK Γ s s.heap) (a0 : Int32) (a1 : Int32) (s0 : Int32) (σ : Sg) (H : Heap) (locs : List Loc) (ls : Array Slot)  (hB : Bd Γ σ s H locs) (hl : lv_has ls 3 []) (hr : f_X4_staysUp_32 a0 a1  s0 σ = some res) : WI Γ rm_X4_staysUp p l e s m args below meth c H locs res (F0 m 32 ls [.int s0]) := by
  unfold f_X4_staysUp_32 at hr
  obtain ⟨g_10, hr⟩ := gd2 hr
  exact x_zret M hB (nar_z g_10) (Option.some.inj hr) dX4_staysUp_32
def f_X4_staysUp_0 (a0 : Int32) (a1 : Int32)   (σ : Sg) : Option (Int32 × Sg) :=
cb (f_X4_prepareTrial_0  σ) fun v_1 σ_2 =>
wb (st σ_2 37 3 a0) fun σ_4 =>
cb (f_X0_ticksToReset_0 36 a1 σ_4) fun v_6 σ_7 =>
if v_6 = (-6) then
f_X4_staysUp_32 a0 a1  1 σ_7
else
f_X4_staysUp_32 a0 a1  0 σ_7
set_option maxHeartbeats 4000000 in
set_option maxRecDepth 100000 in
theorem w_X4_staysUp_0 {p : Program} {l : Launch} {e : Env} {s : State} {m : MethodId} {args : Array Value} {below : List Frame} {meth : Method} {c : Code} {Γ : GG} {res : Int32 × Sg} (M : MX RX4 cX4_staysUp 3 (some .boolean) p s m args meth c) (K : KK Γ s s.heap) (a0 : Int32) (a1 : Int32)  (σ : Sg) (H : Heap) (locs : List Loc) (ls : Array Slot)  (hB : Bd Γ σ s H locs) (hl : lv_has ls 3 [(0, .ref (Γ.1 0)), (1, .int a0), (2, .int a1)]) (hr : f_X4_staysUp_0 a0 a1   σ = some res) : WI Γ rm_X4_staysUp p l e s m args below meth c H locs res (F0 m 0 ls []) := by
  unfold f_X4_staysUp_0 at hr
  refine lv_aload_n M.1 M.2.1 dX4_staysUp_0 rfl (lv_at hl 0 rfl) ?_
  obtain ⟨v_1, σ_2, h_3, hr⟩ := cbd hr
  refine x_callV (x_runV M K hB hl.1 [] (rest := []) rfl (c_X4_prepareTrial l Γ   σ (v_1, σ_2) h_3) cy_X4_prepareTrial (x_recv K hB isK_0.2 (ent_4 isK_0.1) rfl) wd_150 ⟨rfl, rfl, Nat.le_of_ble_eq_true rfl, Nat.le_of_ble_eq_true rfl⟩ (Nat.le_of_ble_eq_true rfl) ⟨Nat.zero_le _, Nat.zero_le _⟩ dX4_staysUp_1) hB (fun H locs hB => ?_)
  replace hB : Bd Γ σ_2 s H locs := hB
  refine lv_aload_n M.1 M.2.1 dX4_staysUp_4 rfl (lv_at hl 0 rfl) ?_
  refine x_get4 M K hB isK_0 1 (by decide) wd_147 (v := .ref (Γ.1 36)) rfl dX4_staysUp_5 ?_
  refine x_get0 M K hB (isB_36.k) 0 (by decide) wd_99 (v := .ref (Γ.1 37)) rfl dX4_staysUp_8 ?_
  refine lv_iconst (v := 3) M.1 M.2.1 dX4_staysUp_11 (by decide) ?_
  refine lv_iload_n M.1 M.2.1 dX4_staysUp_12 rfl (lv_at hl 1 rfl) ?_
  obtain ⟨σ_4, e_5, hr⟩ := wbd hr
  refine x_iastL M K hB (isB_36.a1) (k := 3) (by decide) (by decide) dX4_staysUp_13 (fun H locs hB => ?_)
  rw [← e_5] at hB
  refine lv_aload_n M.1 M.2.1 dX4_staysUp_14 rfl (lv_at hl 0 rfl) ?_
  refine x_get4 M K hB isK_0 1 (by decide) wd_147 (v := .ref (Γ.1 36)) rfl dX4_staysUp_15 ?_
  refine lv_iload_n M.1 M.2.1 dX4_staysUp_18 rfl (lv_at hl 2 rfl) ?_
  obtain ⟨v_6, σ_7, h_8, hr⟩ := cbd hr
  refine x_callI (x_runV M K hB hl.1 [.int a1] (rest := []) rfl (c_X0_ticksToReset l Γ 36 a1 isB_36 σ_4 (v_6, σ_7) h_8) cy_X0_ticksToReset (x_recv K hB (isB_36.k).2 (ent_0 (isB_36.k).1) rfl) wd_124 ⟨rfl, rfl, Nat.le_of_ble_eq_true rfl, Nat.le_of_ble_eq_true rfl⟩ (Nat.le_of_ble_eq_true rfl) ⟨Nat.zero_le _, Nat.zero_le _⟩ dX4_staysUp_19) hB (fun H locs hB => ?_)
  replace hB : Bd Γ σ_7 s H locs := hB
  refine lv_bipush (v := (-6)) M.1 M.2.1 dX4_staysUp_22 (by decide) ?_
  refine lv_icmp_ne (tgt := 31) M.1 M.2.1 dX4_staysUp_24 (by decide) (fun c_9 => ?_) (fun c_9 => ?_)
  · rw [if_neg c_9] at hr
    refine lv_iconst (v := 0) M.1 M.2.1 dX4_staysUp_31 (by decide) ?_
    exact w_X4_staysUp_32 M K a0 a1  0 _ _ _ _  hB (lv_sub hl [] rfl) hr
  · rw [if_pos c_9] at hr
    refine lv_iconst (v := 1) M.1 M.2.1 dX4_staysUp_27 (by decide) ?_
    refine lv_goto (tgt := 32) M.1 M.2.1 dX4_staysUp_28 (by decide) ?_
    exact w_X4_staysUp_32 M K a0 a1  1 _ _ _ _  hB (lv_sub hl [] rfl) hr
theorem c_X4_staysUp (l : Launch) (Γ : GG) (a0 : Int32) (a1 : Int32)  (σ : Sg) (res : Int32 × Sg) (hr : f_X4_staysUp_0 a0 a1 σ = some res) : Met l yX4_staysUp (Cond.code yX4_staysUp cX4_staysUp 3 (some .boolean) :: gtb) rm_X4_staysUp (va_Pc [.ref (Γ.1 0), .int a0, .int a1] (GI Γ σ)) (QI Γ res) 0 0 (AD Γ) :=
  x_metI (by decide) [.ref (Γ.1 0), .int a0, .int a1] (Nat.le_of_ble_eq_true rfl) (fun p e s m args below meth c M K ls hl hB => w_X4_staysUp_0 M K a0 a1 σ _ _ ls hB hl hr)
abbrev rm_X4_greatestKick : Room := { frames := 7, cells := 0, slots := 0, locals := 153 }
def f_X4_greatestKick_49 (a0 : Int32)  : Nat → Int32 → Int32 → Int32 → Sg → Option (Int32 × Sg)
  | 0, _, _, _, _ => none
  | f + 1, x1, x2, x3, σ => if x3 < 0 then
some ((-6), σ)
else
cb (f_X4_staysUp_0 (x3 * x2) x1 σ) fun v_11 σ_12 =>
if v_11 = 0 then
f_X4_greatestKick_49 a0  f x1 x2 (x3 + (-1)) σ_12
else
some (x3 * x2, σ_12)
set_option maxHeartbeats 4000000 in
set_option maxRecDepth 100000 in
theorem w_X4_greatestKick_49 {p : Program} {l : Launch} {e : Env} {s : State} {m : MethodId} {args : Array Value} {below : List Frame} {meth : Method} {c : Code} {Γ : GG} {res : Int32 × Sg} (M : MX RX4 cX4_greatestKick 4 (some .int) p s m args meth c) (K : KK Γ s s.heap) (a0 : Int32) : ∀ (f : Nat) (x1 : Int32) (x2 : Int32) (x3 : Int32) (σ : Sg) (H : Heap) (locs : List Loc) (ls : Array Slot)  (hB : Bd Γ σ s H locs) (hl : lv_has ls 4 [(0, .ref (Γ.1 0)), (1, .int x1), (2, .int x2), (3, .int x3)]) (hr : f_X4_greatestKick_49 a0  f x1 x2 x3 σ = some res), WI Γ rm_X4_greatestKick p l e s m args below meth c H locs res (F0 m 49 ls []) := by
  intro f
  induction f with
  | zero => intros; rename_i hr; exact absurd hr (by rw [f_X4_greatestKick_49]; exact fun h => by cases h)
  | succ f ih_49 =>
    intro x1 x2 x3 σ H locs ls  hB hl hr
    rw [f_X4_greatestKick_49] at hr
    refine lv_iload_n M.1 M.2.1 dX4_greatestKick_49 rfl (lv_at hl 3 rfl) ?_
    refine lv_if_lt (tgt := 74) M.1 M.2.1 dX4_greatestKick_50 (by decide) (fun c_10 => ?_) (fun c_10 => ?_)
    · rw [if_pos c_10] at hr
      refine lv_bipush (v := (-6)) M.1 M.2.1 dX4_greatestKick_74 (by decide) ?_
      exact x_iret M hB (Option.some.inj hr) dX4_greatestKick_76
    · rw [if_neg c_10] at hr
      refine lv_aload_n M.1 M.2.1 dX4_greatestKick_53 rfl (lv_at hl 0 rfl) ?_
      refine lv_iload_n M.1 M.2.1 dX4_greatestKick_54 rfl (lv_at hl 3 rfl) ?_
      refine lv_iload_n M.1 M.2.1 dX4_greatestKick_55 rfl (lv_at hl 2 rfl) ?_
      refine lv_imul M.1 M.2.1 dX4_greatestKick_56 ?_
      refine lv_iload_n M.1 M.2.1 dX4_greatestKick_57 rfl (lv_at hl 1 rfl) ?_
      obtain ⟨v_11, σ_12, h_13, hr⟩ := cbd hr
      refine x_callI (x_runV M K hB hl.1 [.int (x3 * x2), .int x1] (rest := []) rfl (c_X4_staysUp l Γ (x3 * x2) x1  σ (v_11, σ_12) h_13) cy_X4_staysUp (x_recv K hB isK_0.2 (ent_4 isK_0.1) rfl) wd_152 ⟨rfl, rfl, Nat.le_of_ble_eq_true rfl, Nat.le_of_ble_eq_true rfl⟩ (Nat.le_of_ble_eq_true rfl) ⟨Nat.zero_le _, Nat.zero_le _⟩ dX4_greatestKick_58) hB (fun H locs hB => ?_)
      replace hB : Bd Γ σ_12 s H locs := hB
      refine lv_if_eq (tgt := 68) M.1 M.2.1 dX4_greatestKick_61 (by decide) (fun c_14 => ?_) (fun c_14 => ?_)
      · rw [if_pos c_14] at hr
        refine lv_iinc (v := x3 + (-1)) (lv' := [(3, .int (x3 + (-1))), (0, .ref (Γ.1 0)), (1, .int x1), (2, .int x2)]) M.1 M.2.1 dX4_greatestKick_68 hl (k := 3) rfl rfl (by decide) rfl (fun ls hl => ?_)
        refine lv_goto (tgt := 49) M.1 M.2.1 dX4_greatestKick_71 (by decide) ?_
        exact ih_49 x1 x2 (x3 + (-1)) _ _ _ _  hB (lv_sub hl [1, 2, 3, 0] rfl) hr
      · rw [if_neg c_14] at hr
        refine lv_iload_n M.1 M.2.1 dX4_greatestKick_64 rfl (lv_at hl 3 rfl) ?_
        refine lv_iload_n M.1 M.2.1 dX4_greatestKick_65 rfl (lv_at hl 2 rfl) ?_
        refine lv_imul M.1 M.2.1 dX4_greatestKick_66 ?_
        exact x_iret M hB (Option.some.inj hr) dX4_greatestKick_67
def f_X4_greatestKick_0 (a0 : Int32)   (σ : Sg) : Option (Int32 × Sg) :=
cb (f_X4_isWithin_0 a0 1 1000 σ) fun v_1 σ_2 =>
if v_1 = 0 then
some ((-2), σ_2)
else
cb (f_X4_staysUp_0 2000 a0 σ_2) fun v_5 σ_6 =>
if v_5 = 0 then
if (if 1 < σ_6 2 2 then σ_6 2 2 else 1) = 0 then none else
f_X4_greatestKick_49 a0  FU a0 (if 1 < σ_6 2 2 then σ_6 2 2 else 1) (1999 / (if 1 < σ_6 2 2 then σ_6 2 2 else 1)) σ_6
else
some (2000, σ_6)
set_option maxHeartbeats 4000000 in
set_option maxRecDepth 100000 in
theorem w_X4_greatestKick_0 {p : Program} {l : Launch} {e : Env} {s : State} {m : MethodId} {args : Array Value} {below : List Frame} {meth : Method} {c : Code} {Γ : GG} {res : Int32 × Sg} (M : MX RX4 cX4_greatestKick 4 (some .int) p s m args meth c) (K : KK Γ s s.heap) (a0 : Int32)  (σ : Sg) (H : Heap) (locs : List Loc) (ls : Array Slot)  (hB : Bd Γ σ s H locs) (hl : lv_has ls 4 [(0, .ref (Γ.1 0)), (1, .int a0)]) (hr : f_X4_greatestKick_0 a0   σ = some res) : WI Γ rm_X4_greatestKick p l e s m args below meth c H locs res (F0 m 0 ls []) := by
  unfold f_X4_greatestKick_0 at hr
  refine lv_iload_n M.1 M.2.1 dX4_greatestKick_0 rfl (lv_at hl 1 rfl) ?_
  refine lv_iconst (v := 1) M.1 M.2.1 dX4_greatestKick_1 (by decide) ?_
  refine lv_sipush (v := 1000) M.1 M.2.1 dX4_greatestKick_2 (by decide) ?_
  obtain ⟨v_1, σ_2, h_3, hr⟩ := cbd hr
  refine x_callI (x_runS M K hB hl.1 [.int a0, .int 1, .int 1000] (rest := []) rfl (c_X4_isWithin l Γ a0 1 1000  σ (v_1, σ_2) h_3) cy_X4_isWithin wd_94 ⟨rfl, rfl, Nat.le_of_ble_eq_true rfl, Nat.le_of_ble_eq_true rfl⟩ (Nat.le_of_ble_eq_true rfl) ⟨Nat.zero_le _, Nat.zero_le _⟩ dX4_greatestKick_5) hB (fun H locs hB => ?_)
  replace hB : Bd Γ σ_2 s H locs := hB
  refine lv_if_ne (tgt := 14) M.1 M.2.1 dX4_greatestKick_8 (by decide) (fun c_4 => ?_) (fun c_4 => ?_)
  · rw [if_neg c_4] at hr
    refine lv_aload_n M.1 M.2.1 dX4_greatestKick_14 rfl (lv_at hl 0 rfl) ?_
    refine lv_sipush (v := 2000) M.1 M.2.1 dX4_greatestKick_15 (by decide) ?_
    refine lv_iload_n M.1 M.2.1 dX4_greatestKick_18 rfl (lv_at hl 1 rfl) ?_
    obtain ⟨v_5, σ_6, h_7, hr⟩ := cbd hr
    refine x_callI (x_runV M K hB hl.1 [.int 2000, .int a0] (rest := []) rfl (c_X4_staysUp l Γ 2000 a0  σ_2 (v_5, σ_6) h_7) cy_X4_staysUp (x_recv K hB isK_0.2 (ent_4 isK_0.1) rfl) wd_152 ⟨rfl, rfl, Nat.le_of_ble_eq_true rfl, Nat.le_of_ble_eq_true rfl⟩ (Nat.le_of_ble_eq_true rfl) ⟨Nat.zero_le _, Nat.zero_le _⟩ dX4_greatestKick_19) hB (fun H locs hB => ?_)
    replace hB : Bd Γ σ_6 s H locs := hB
    refine lv_if_eq (tgt := 29) M.1 M.2.1 dX4_greatestKick_22 (by decide) (fun c_8 => ?_) (fun c_8 => ?_)
    · rw [if_pos c_8] at hr
      refine lv_iconst (v := 1) M.1 M.2.1 dX4_greatestKick_29 (by decide) ?_
      refine lv_aload_n M.1 M.2.1 dX4_greatestKick_30 rfl (lv_at hl 0 rfl) ?_
      refine x_get4 M K hB isK_0 0 (by decide) wd_98 (v := .ref (Γ.1 1)) rfl dX4_greatestKick_31 ?_
      refine x_get0 M K hB (isB_1.k) 0 (by decide) wd_99 (v := .ref (Γ.1 2)) rfl dX4_greatestKick_34 ?_
      refine lv_iconst (v := 2) M.1 M.2.1 dX4_greatestKick_37 (by decide) ?_
      refine x_ialdL M K hB (isB_1.a1) (k := 2) (by decide) (by decide) dX4_greatestKick_38 ?_
      refine x_max M hl.1 wd_151 wd_6 wd_7 wd_8 (Nat.le_of_ble_eq_true rfl) (Nat.le_of_ble_eq_true rfl) (Nat.zero_le _) (Nat.zero_le _) dX4_greatestKick_39 ?_
      refine lv_istore_n (lv' := [(2, .int (if 1 < σ_6 2 2 then σ_6 2 2 else 1)), (0, .ref (Γ.1 0)), (1, .int a0)]) M.1 M.2.1 dX4_greatestKick_42 rfl hl (by decide) rfl (fun ls hl => ?_)
      refine lv_sipush (v := 1999) M.1 M.2.1 dX4_greatestKick_43 (by decide) ?_
      refine lv_iload_n M.1 M.2.1 dX4_greatestKick_46 rfl (lv_at hl 0 rfl) ?_
      obtain ⟨g_9, hr⟩ := gd hr
      refine lv_idiv M.1 M.2.1 dX4_greatestKick_47 g_9 ?_
      refine lv_istore_n (lv' := [(3, .int (1999 / (if 1 < σ_6 2 2 then σ_6 2 2 else 1))), (2, .int (if 1 < σ_6 2 2 then σ_6 2 2 else 1)), (0, .ref (Γ.1 0)), (1, .int a0)]) M.1 M.2.1 dX4_greatestKick_48 rfl hl (by decide) rfl (fun ls hl => ?_)
      exact w_X4_greatestKick_49 M K a0  FU a0 (if 1 < σ_6 2 2 then σ_6 2 2 else 1) (1999 / (if 1 < σ_6 2 2 then σ_6 2 2 else 1)) _ _ _ _  hB (lv_sub hl [2, 3, 1, 0] rfl) hr
    · rw [if_neg c_8] at hr
      refine lv_sipush (v := 2000) M.1 M.2.1 dX4_greatestKick_25 (by decide) ?_
      exact x_iret M hB (Option.some.inj hr) dX4_greatestKick_28
  · rw [if_pos c_4] at hr
    refine lv_bipush (v := (-2)) M.1 M.2.1 dX4_greatestKick_11 (by decide) ?_
    exact x_iret M hB (Option.some.inj hr) dX4_greatestKick_13
theorem c_X4_greatestKick (l : Launch) (Γ : GG) (a0 : Int32)  (σ : Sg) (res : Int32 × Sg) (hr : f_X4_greatestKick_0 a0 σ = some res) : Met l yX4_greatestKick (Cond.code yX4_greatestKick cX4_greatestKick 4 (some .int) :: gtb) rm_X4_greatestKick (va_Pc [.ref (Γ.1 0), .int a0] (GI Γ σ)) (QI Γ res) 0 0 (AD Γ) :=
  x_metI (by decide) [.ref (Γ.1 0), .int a0] (Nat.le_of_ble_eq_true rfl) (fun p e s m args below meth c M K ls hl hB => w_X4_greatestKick_0 M K a0 σ _ _ ls hB hl hr)
abbrev rm_X4_save : Room := { frames := 3, cells := 0, slots := 0, locals := 69 }
def f_X4_save_0 (a0 : Int32)   (σ : Sg) : Option (Int32 × Sg) :=
cb (f_X4_isWithin_0 a0 0 1 σ) fun v_1 σ_2 =>
if v_1 = 0 then
some ((-2), σ_2)
else
if a0 < 0 ∨ 2 ≤ a0.toNatClampNeg then none else
cb (f_X0_become_0 (71 + 1 + 35 * a0.toNatClampNeg) 1 σ_2) fun v_6 σ_7 =>
if a0 < 0 ∨ 2 ≤ a0.toNatClampNeg then none else
wb (st σ_7 142 (a0.toNatClampNeg) (vp_nar .boolean 1)) fun σ_10 =>
some (σ_10 1 4, σ_10)
set_option maxHeartbeats 4000000 in
set_option maxRecDepth 100000 in
theorem w_X4_save_0 {p : Program} {l : Launch} {e : Env} {s : State} {m : MethodId} {args : Array Value} {below : List Frame} {meth : Method} {c : Code} {Γ : GG} {res : Int32 × Sg} (M : MX RX4 cX4_save 2 (some .int) p s m args meth c) (K : KK Γ s s.heap) (a0 : Int32)  (σ : Sg) (H : Heap) (locs : List Loc) (ls : Array Slot)  (hB : Bd Γ σ s H locs) (hl : lv_has ls 2 [(0, .ref (Γ.1 0)), (1, .int a0)]) (hr : f_X4_save_0 a0   σ = some res) : WI Γ rm_X4_save p l e s m args below meth c H locs res (F0 m 0 ls []) := by
  unfold f_X4_save_0 at hr
  refine lv_iload_n M.1 M.2.1 dX4_save_0 rfl (lv_at hl 1 rfl) ?_
  refine lv_iconst (v := 0) M.1 M.2.1 dX4_save_1 (by decide) ?_
  refine lv_iconst (v := 1) M.1 M.2.1 dX4_save_2 (by decide) ?_
  obtain ⟨v_1, σ_2, h_3, hr⟩ := cbd hr
  refine x_callI (x_runS M K hB hl.1 [.int a0, .int 0, .int 1] (rest := []) rfl (c_X4_isWithin l Γ a0 0 1  σ (v_1, σ_2) h_3) cy_X4_isWithin wd_94 ⟨rfl, rfl, Nat.le_of_ble_eq_true rfl, Nat.le_of_ble_eq_true rfl⟩ (Nat.le_of_ble_eq_true rfl) ⟨Nat.zero_le _, Nat.zero_le _⟩ dX4_save_3) hB (fun H locs hB => ?_)
  replace hB : Bd Γ σ_2 s H locs := hB
  refine lv_if_ne (tgt := 12) M.1 M.2.1 dX4_save_6 (by decide) (fun c_4 => ?_) (fun c_4 => ?_)
  · rw [if_neg c_4] at hr
    refine lv_aload_n M.1 M.2.1 dX4_save_12 rfl (lv_at hl 0 rfl) ?_
    refine x_get4 M K hB isK_0 2 (by decide) wd_153 (v := .ref (Γ.1 71)) rfl dX4_save_13 ?_
    refine lv_iload_n M.1 M.2.1 dX4_save_16 rfl (lv_at hl 1 rfl) ?_
    obtain ⟨g_5, hr⟩ := gd hr
    refine x_aaldB M K hB isK_71 g_5 dX4_save_17 ?_
    refine lv_aload_n M.1 M.2.1 dX4_save_18 rfl (lv_at hl 0 rfl) ?_
    refine x_get4 M K hB isK_0 0 (by decide) wd_98 (v := .ref (Γ.1 1)) rfl dX4_save_19 ?_
    obtain ⟨v_6, σ_7, h_8, hr⟩ := cbd hr
    refine x_callV (x_runV M K hB hl.1 [.ref (Γ.1 1)] (rest := []) rfl (c_X0_become l Γ (71 + 1 + 35 * a0.toNatClampNeg) 1 (isB_s (vp_lt g_5)) isB_1 σ_2 (v_6, σ_7) h_8) cy_X0_become (x_recv K hB ((isB_s (vp_lt g_5)).k).2 (ent_0 ((isB_s (vp_lt g_5)).k).1) rfl) wd_148 ⟨rfl, rfl, Nat.le_of_ble_eq_true rfl, Nat.le_of_ble_eq_true rfl⟩ (Nat.le_of_ble_eq_true rfl) ⟨Nat.zero_le _, Nat.zero_le _⟩ dX4_save_22) hB (fun H locs hB => ?_)
    replace hB : Bd Γ σ_7 s H locs := hB
    refine lv_aload_n M.1 M.2.1 dX4_save_25 rfl (lv_at hl 0 rfl) ?_
    refine x_get4 M K hB isK_0 3 (by decide) wd_154 (v := .ref (Γ.1 142)) rfl dX4_save_26 ?_
    refine lv_iload_n M.1 M.2.1 dX4_save_29 rfl (lv_at hl 1 rfl) ?_
    refine lv_iconst (v := 1) M.1 M.2.1 dX4_save_30 (by decide) ?_
    obtain ⟨g_9, hr⟩ := gd hr
    obtain ⟨σ_10, e_11, hr⟩ := wbd hr
    refine x_zast M K hB isK_142 g_9 dX4_save_31 (fun H locs hB => ?_)
    rw [← e_11] at hB
    refine lv_aload_n M.1 M.2.1 dX4_save_32 rfl (lv_at hl 0 rfl) ?_
    refine x_get4 M K hB isK_0 0 (by decide) wd_98 (v := .ref (Γ.1 1)) rfl dX4_save_33 ?_
    refine x_get0 M K hB (isB_1.k) 4 (by decide) wd_121 (v := .int (σ_10 1 4)) rfl dX4_save_36 ?_
    exact x_iret M hB (Option.some.inj hr) dX4_save_39
  · rw [if_pos c_4] at hr
    refine lv_bipush (v := (-2)) M.1 M.2.1 dX4_save_9 (by decide) ?_
    exact x_iret M hB (Option.some.inj hr) dX4_save_11
theorem c_X4_save (l : Launch) (Γ : GG) (a0 : Int32)  (σ : Sg) (res : Int32 × Sg) (hr : f_X4_save_0 a0 σ = some res) : Met l yX4_save (Cond.code yX4_save cX4_save 2 (some .int) :: gtb) rm_X4_save (va_Pc [.ref (Γ.1 0), .int a0] (GI Γ σ)) (QI Γ res) 0 0 (AD Γ) :=
  x_metI (by decide) [.ref (Γ.1 0), .int a0] (Nat.le_of_ble_eq_true rfl) (fun p e s m args below meth c M K ls hl hB => w_X4_save_0 M K a0 σ _ _ ls hB hl hr)
abbrev rm_X4_restore : Room := { frames := 3, cells := 0, slots := 0, locals := 69 }
def f_X4_restore_0 (a0 : Int32)   (σ : Sg) : Option (Int32 × Sg) :=
cb (f_X4_isWithin_0 a0 0 1 σ) fun v_1 σ_2 =>
if v_1 = 0 then
some ((-2), σ_2)
else
if a0 < 0 ∨ 2 ≤ a0.toNatClampNeg then none else
if σ_2 142 (a0.toNatClampNeg) = 0 then
some ((-5), σ_2)
else
if a0 < 0 ∨ 2 ≤ a0.toNatClampNeg then none else
cb (f_X0_become_0 1 (71 + 1 + 35 * a0.toNatClampNeg) σ_2) fun v_8 σ_9 =>
some (σ_9 1 4, σ_9)
set_option maxHeartbeats 4000000 in
set_option maxRecDepth 100000 in
theorem w_X4_restore_0 {p : Program} {l : Launch} {e : Env} {s : State} {m : MethodId} {args : Array Value} {below : List Frame} {meth : Method} {c : Code} {Γ : GG} {res : Int32 × Sg} (M : MX RX4 cX4_restore 2 (some .int) p s m args meth c) (K : KK Γ s s.heap) (a0 : Int32)  (σ : Sg) (H : Heap) (locs : List Loc) (ls : Array Slot)  (hB : Bd Γ σ s H locs) (hl : lv_has ls 2 [(0, .ref (Γ.1 0)), (1, .int a0)]) (hr : f_X4_restore_0 a0   σ = some res) : WI Γ rm_X4_restore p l e s m args below meth c H locs res (F0 m 0 ls []) := by
  unfold f_X4_restore_0 at hr
  refine lv_iload_n M.1 M.2.1 dX4_restore_0 rfl (lv_at hl 1 rfl) ?_
  refine lv_iconst (v := 0) M.1 M.2.1 dX4_restore_1 (by decide) ?_
  refine lv_iconst (v := 1) M.1 M.2.1 dX4_restore_2 (by decide) ?_
  obtain ⟨v_1, σ_2, h_3, hr⟩ := cbd hr
  refine x_callI (x_runS M K hB hl.1 [.int a0, .int 0, .int 1] (rest := []) rfl (c_X4_isWithin l Γ a0 0 1  σ (v_1, σ_2) h_3) cy_X4_isWithin wd_94 ⟨rfl, rfl, Nat.le_of_ble_eq_true rfl, Nat.le_of_ble_eq_true rfl⟩ (Nat.le_of_ble_eq_true rfl) ⟨Nat.zero_le _, Nat.zero_le _⟩ dX4_restore_3) hB (fun H locs hB => ?_)
  replace hB : Bd Γ σ_2 s H locs := hB
  refine lv_if_ne (tgt := 12) M.1 M.2.1 dX4_restore_6 (by decide) (fun c_4 => ?_) (fun c_4 => ?_)
  · rw [if_neg c_4] at hr
    refine lv_aload_n M.1 M.2.1 dX4_restore_12 rfl (lv_at hl 0 rfl) ?_
    refine x_get4 M K hB isK_0 3 (by decide) wd_154 (v := .ref (Γ.1 142)) rfl dX4_restore_13 ?_
    refine lv_iload_n M.1 M.2.1 dX4_restore_16 rfl (lv_at hl 1 rfl) ?_
    obtain ⟨g_5, hr⟩ := gd hr
    refine x_zald M K hB isK_142 g_5 dX4_restore_17 ?_
    refine lv_if_ne (tgt := 24) M.1 M.2.1 dX4_restore_18 (by decide) (fun c_6 => ?_) (fun c_6 => ?_)
    · rw [if_neg c_6] at hr
      refine lv_aload_n M.1 M.2.1 dX4_restore_24 rfl (lv_at hl 0 rfl) ?_
      refine x_get4 M K hB isK_0 0 (by decide) wd_98 (v := .ref (Γ.1 1)) rfl dX4_restore_25 ?_
      refine lv_aload_n M.1 M.2.1 dX4_restore_28 rfl (lv_at hl 0 rfl) ?_
      refine x_get4 M K hB isK_0 2 (by decide) wd_153 (v := .ref (Γ.1 71)) rfl dX4_restore_29 ?_
      refine lv_iload_n M.1 M.2.1 dX4_restore_32 rfl (lv_at hl 1 rfl) ?_
      obtain ⟨g_7, hr⟩ := gd hr
      refine x_aaldB M K hB isK_71 g_7 dX4_restore_33 ?_
      obtain ⟨v_8, σ_9, h_10, hr⟩ := cbd hr
      refine x_callV (x_runV M K hB hl.1 [.ref (Γ.1 (71 + 1 + 35 * a0.toNatClampNeg))] (rest := []) rfl (c_X0_become l Γ 1 (71 + 1 + 35 * a0.toNatClampNeg) isB_1 (isB_s (vp_lt g_7)) σ_2 (v_8, σ_9) h_10) cy_X0_become (x_recv K hB (isB_1.k).2 (ent_0 (isB_1.k).1) rfl) wd_148 ⟨rfl, rfl, Nat.le_of_ble_eq_true rfl, Nat.le_of_ble_eq_true rfl⟩ (Nat.le_of_ble_eq_true rfl) ⟨Nat.zero_le _, Nat.zero_le _⟩ dX4_restore_34) hB (fun H locs hB => ?_)
      replace hB : Bd Γ σ_9 s H locs := hB
      refine lv_aload_n M.1 M.2.1 dX4_restore_37 rfl (lv_at hl 0 rfl) ?_
      refine x_get4 M K hB isK_0 0 (by decide) wd_98 (v := .ref (Γ.1 1)) rfl dX4_restore_38 ?_
      refine x_get0 M K hB (isB_1.k) 4 (by decide) wd_121 (v := .int (σ_9 1 4)) rfl dX4_restore_41 ?_
      exact x_iret M hB (Option.some.inj hr) dX4_restore_44
    · rw [if_pos c_6] at hr
      refine lv_bipush (v := (-5)) M.1 M.2.1 dX4_restore_21 (by decide) ?_
      exact x_iret M hB (Option.some.inj hr) dX4_restore_23
  · rw [if_pos c_4] at hr
    refine lv_bipush (v := (-2)) M.1 M.2.1 dX4_restore_9 (by decide) ?_
    exact x_iret M hB (Option.some.inj hr) dX4_restore_11
theorem c_X4_restore (l : Launch) (Γ : GG) (a0 : Int32)  (σ : Sg) (res : Int32 × Sg) (hr : f_X4_restore_0 a0 σ = some res) : Met l yX4_restore (Cond.code yX4_restore cX4_restore 2 (some .int) :: gtb) rm_X4_restore (va_Pc [.ref (Γ.1 0), .int a0] (GI Γ σ)) (QI Γ res) 0 0 (AD Γ) :=
  x_metI (by decide) [.ref (Γ.1 0), .int a0] (Nat.le_of_ble_eq_true rfl) (fun p e s m args below meth c M K ls hl hB => w_X4_restore_0 M K a0 σ _ _ ls hB hl hr)
