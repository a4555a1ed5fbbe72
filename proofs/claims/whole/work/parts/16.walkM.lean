abbrev rm_X5_in : Room := { frames := 0, cells := 0, slots := 0, locals := 0 }
def f_X5_in_15 (a0 : Int32) (a1 : Int32) (a2 : Int32)  (s0 : Int32) (σ : Sg) : Option (Int32 × Sg) :=
if s0 = 0 ∨ s0 = 1 then some (s0, σ) else none
set_option maxHeartbeats 4000000 in
set_option maxRecDepth 100000 in
theorem w_X5_in_15 {p : Program} {l : Launch} {e : Env} {s : State} {m : MethodId} {args : Array Value} {below : List Frame} {meth : Method} {c : Code} {Γ : GG} {res : Int32 × Sg} (M : MX RX5 cX5_in 3 (some .boolean) p s m args meth c) (K : KK Γ s s.heap) (a0 : Int32) (a1 : Int32) (a2 : Int32) (s0 : Int32) (σ : Sg) (H : Heap) (locs : List Loc) (ls : Array Slot)  (hB : Bd Γ σ s H locs) (hl : lv_has ls 3 []) (hr : f_X5_in_15 a0 a1 a2  s0 σ = some res) : WI Γ rm_X5_in p l e s m args below meth c H locs res (F0 m 15 ls [.int s0]) := by
  unfold f_X5_in_15 at hr
  obtain ⟨g_3, hr⟩ := gd2 hr
  exact x_zret M hB (nar_z g_3) (Option.some.inj hr) dX5_in_15
def f_X5_in_14 (a0 : Int32) (a1 : Int32) (a2 : Int32)   (σ : Sg) : Option (Int32 × Sg) :=
f_X5_in_15 a0 a1 a2  0 σ
set_option maxHeartbeats 4000000 in
set_option maxRecDepth 100000 in
theorem w_X5_in_14 {p : Program} {l : Launch} {e : Env} {s : State} {m : MethodId} {args : Array Value} {below : List Frame} {meth : Method} {c : Code} {Γ : GG} {res : Int32 × Sg} (M : MX RX5 cX5_in 3 (some .boolean) p s m args meth c) (K : KK Γ s s.heap) (a0 : Int32) (a1 : Int32) (a2 : Int32)  (σ : Sg) (H : Heap) (locs : List Loc) (ls : Array Slot)  (hB : Bd Γ σ s H locs) (hl : lv_has ls 3 []) (hr : f_X5_in_14 a0 a1 a2   σ = some res) : WI Γ rm_X5_in p l e s m args below meth c H locs res (F0 m 14 ls []) := by
  unfold f_X5_in_14 at hr
  refine lv_iconst (v := 0) M.1 M.2.1 dX5_in_14 (by decide) ?_
  exact w_X5_in_15 M K a0 a1 a2  0 _ _ _ _  hB (lv_sub hl [] rfl) hr
def f_X5_in_0 (a0 : Int32) (a1 : Int32) (a2 : Int32)   (σ : Sg) : Option (Int32 × Sg) :=
if a0 < a1 then
f_X5_in_14 a0 a1 a2   σ
else
if a2 < a0 then
f_X5_in_14 a0 a1 a2   σ
else
f_X5_in_15 a0 a1 a2  1 σ
set_option maxHeartbeats 4000000 in
set_option maxRecDepth 100000 in
theorem w_X5_in_0 {p : Program} {l : Launch} {e : Env} {s : State} {m : MethodId} {args : Array Value} {below : List Frame} {meth : Method} {c : Code} {Γ : GG} {res : Int32 × Sg} (M : MX RX5 cX5_in 3 (some .boolean) p s m args meth c) (K : KK Γ s s.heap) (a0 : Int32) (a1 : Int32) (a2 : Int32)  (σ : Sg) (H : Heap) (locs : List Loc) (ls : Array Slot)  (hB : Bd Γ σ s H locs) (hl : lv_has ls 3 [(0, .int a0), (1, .int a1), (2, .int a2)]) (hr : f_X5_in_0 a0 a1 a2   σ = some res) : WI Γ rm_X5_in p l e s m args below meth c H locs res (F0 m 0 ls []) := by
  unfold f_X5_in_0 at hr
  refine lv_iload_n M.1 M.2.1 dX5_in_0 rfl (lv_at hl 0 rfl) ?_
  refine lv_iload_n M.1 M.2.1 dX5_in_1 rfl (lv_at hl 1 rfl) ?_
  refine lv_icmp_lt (tgt := 14) M.1 M.2.1 dX5_in_2 (by decide) (fun c_1 => ?_) (fun c_1 => ?_)
  · rw [if_pos c_1] at hr
    exact w_X5_in_14 M K a0 a1 a2   _ _ _ _  hB (lv_sub hl [] rfl) hr
  · rw [if_neg c_1] at hr
    refine lv_iload_n M.1 M.2.1 dX5_in_5 rfl (lv_at hl 0 rfl) ?_
    refine lv_iload_n M.1 M.2.1 dX5_in_6 rfl (lv_at hl 2 rfl) ?_
    refine lv_icmp_gt (tgt := 14) M.1 M.2.1 dX5_in_7 (by decide) (fun c_2 => ?_) (fun c_2 => ?_)
    · rw [if_pos c_2] at hr
      exact w_X5_in_14 M K a0 a1 a2   _ _ _ _  hB (lv_sub hl [] rfl) hr
    · rw [if_neg c_2] at hr
      refine lv_iconst (v := 1) M.1 M.2.1 dX5_in_10 (by decide) ?_
      refine lv_goto (tgt := 15) M.1 M.2.1 dX5_in_11 (by decide) ?_
      exact w_X5_in_15 M K a0 a1 a2  1 _ _ _ _  hB (lv_sub hl [] rfl) hr
theorem c_X5_in (l : Launch) (Γ : GG) (a0 : Int32) (a1 : Int32) (a2 : Int32)  (σ : Sg) (res : Int32 × Sg) (hr : f_X5_in_0 a0 a1 a2 σ = some res) : Met l yX5_in (Cond.code yX5_in cX5_in 3 (some .boolean) :: gtb) rm_X5_in (va_Pc [.int a0, .int a1, .int a2] (GI Γ σ)) (QI Γ res) 0 0 (AD Γ) :=
  x_metI (by decide) [.int a0, .int a1, .int a2] (Nat.le_of_ble_eq_true rfl) (fun p e s m args below meth c M K ls hl hB => w_X5_in_0 M K a0 a1 a2 σ _ _ ls hB hl hr)
abbrev rm_X5_isRule : Room := { frames := 1, cells := 0, slots := 0, locals := 22 }
def f_X5_isRule_125 (a0 : Int32) (a1 : Int32)  (s0 : Int32) (σ : Sg) : Option (Int32 × Sg) :=
if s0 = 0 ∨ s0 = 1 then some (s0, σ) else none
set_option maxHeartbeats 4000000 in
set_option maxRecDepth 100000 in
theorem w_X5_isRule_125 {p : Program} {l : Launch} {e : Env} {s : State} {m : MethodId} {args : Array Value} {below : List Frame} {meth : Method} {c : Code} {Γ : GG} {res : Int32 × Sg} (M : MX RX5 cX5_isRule 2 (some .boolean) p s m args meth c) (K : KK Γ s s.heap) (a0 : Int32) (a1 : Int32) (s0 : Int32) (σ : Sg) (H : Heap) (locs : List Loc) (ls : Array Slot)  (hB : Bd Γ σ s H locs) (hl : lv_has ls 2 []) (hr : f_X5_isRule_125 a0 a1  s0 σ = some res) : WI Γ rm_X5_isRule p l e s m args below meth c H locs res (F0 m 125 ls [.int s0]) := by
  unfold f_X5_isRule_125 at hr
  obtain ⟨g_48, hr⟩ := gd2 hr
  exact x_zret M hB (nar_z g_48) (Option.some.inj hr) dX5_isRule_125
def f_X5_isRule_124 (a0 : Int32) (a1 : Int32)   (σ : Sg) : Option (Int32 × Sg) :=
f_X5_isRule_125 a0 a1  0 σ
set_option maxHeartbeats 4000000 in
set_option maxRecDepth 100000 in
theorem w_X5_isRule_124 {p : Program} {l : Launch} {e : Env} {s : State} {m : MethodId} {args : Array Value} {below : List Frame} {meth : Method} {c : Code} {Γ : GG} {res : Int32 × Sg} (M : MX RX5 cX5_isRule 2 (some .boolean) p s m args meth c) (K : KK Γ s s.heap) (a0 : Int32) (a1 : Int32)  (σ : Sg) (H : Heap) (locs : List Loc) (ls : Array Slot)  (hB : Bd Γ σ s H locs) (hl : lv_has ls 2 []) (hr : f_X5_isRule_124 a0 a1   σ = some res) : WI Γ rm_X5_isRule p l e s m args below meth c H locs res (F0 m 124 ls []) := by
  unfold f_X5_isRule_124 at hr
  refine lv_iconst (v := 0) M.1 M.2.1 dX5_isRule_124 (by decide) ?_
  exact w_X5_isRule_125 M K a0 a1  0 _ _ _ _  hB (lv_sub hl [] rfl) hr
def f_X5_isRule_0 (a0 : Int32) (a1 : Int32)   (σ : Sg) : Option (Int32 × Sg) :=
if a0 = 0 then
cb (f_X5_in_0 a1 0 1000 σ) fun v_3 σ_4 =>
if v_3 = 0 ∨ v_3 = 1 then some (v_3, σ_4) else none
else
if a0 = 1 then
cb (f_X5_in_0 a1 1 2000 σ) fun v_9 σ_10 =>
if v_9 = 0 ∨ v_9 = 1 then some (v_9, σ_10) else none
else
if a0 = 2 then
cb (f_X5_in_0 a1 1 100 σ) fun v_15 σ_16 =>
if v_15 = 0 ∨ v_15 = 1 then some (v_15, σ_16) else none
else
if a0 = 3 then
cb (f_X5_in_0 a1 0 2000 σ) fun v_21 σ_22 =>
if v_21 = 0 ∨ v_21 = 1 then some (v_21, σ_22) else none
else
if a0 = 4 then
cb (f_X5_in_0 a1 0 20 σ) fun v_27 σ_28 =>
if v_27 = 0 ∨ v_27 = 1 then some (v_27, σ_28) else none
else
if a0 = 5 then
cb (f_X5_in_0 a1 1 200 σ) fun v_33 σ_34 =>
if v_33 = 0 ∨ v_33 = 1 then some (v_33, σ_34) else none
else
if a0 = 6 then
cb (f_X5_in_0 a1 1 5000 σ) fun v_39 σ_40 =>
if v_39 = 0 ∨ v_39 = 1 then some (v_39, σ_40) else none
else
if a0 = 7 then
cb (f_X5_in_0 a1 1 5 σ) fun v_44 σ_45 =>
if v_44 = 0 then
f_X5_isRule_124 a0 a1   σ_45
else
f_X5_isRule_125 a0 a1  1 σ_45
else
f_X5_isRule_124 a0 a1   σ
set_option maxHeartbeats 4000000 in
set_option maxRecDepth 100000 in
theorem w_X5_isRule_0 {p : Program} {l : Launch} {e : Env} {s : State} {m : MethodId} {args : Array Value} {below : List Frame} {meth : Method} {c : Code} {Γ : GG} {res : Int32 × Sg} (M : MX RX5 cX5_isRule 2 (some .boolean) p s m args meth c) (K : KK Γ s s.heap) (a0 : Int32) (a1 : Int32)  (σ : Sg) (H : Heap) (locs : List Loc) (ls : Array Slot)  (hB : Bd Γ σ s H locs) (hl : lv_has ls 2 [(0, .int a0), (1, .int a1)]) (hr : f_X5_isRule_0 a0 a1   σ = some res) : WI Γ rm_X5_isRule p l e s m args below meth c H locs res (F0 m 0 ls []) := by
  unfold f_X5_isRule_0 at hr
  refine lv_iload_n M.1 M.2.1 dX5_isRule_0 rfl (lv_at hl 0 rfl) ?_
  by_cases c_1 : a0 = 0
  · rw [if_pos c_1] at hr
    have t_2 : Int32.toInt a0 = 0 := by rw [c_1]; decide
    refine lv_tableIn (off := 43) (tgt := 44) M.1 M.2.1 dX5_isRule_1 (by rw [t_2]; decide) (by rw [t_2]; decide) (by rw [t_2]; rfl) (by decide) ?_
    refine lv_iload_n M.1 M.2.1 dX5_isRule_44 rfl (lv_at hl 1 rfl) ?_
    refine lv_iconst (v := 0) M.1 M.2.1 dX5_isRule_45 (by decide) ?_
    refine lv_sipush (v := 1000) M.1 M.2.1 dX5_isRule_46 (by decide) ?_
    obtain ⟨v_3, σ_4, h_5, hr⟩ := cbd hr
    refine x_callI (x_runS M K hB hl.1 [.int a1, .int 0, .int 1000] (rest := []) rfl (c_X5_in l Γ a1 0 1000  σ (v_3, σ_4) h_5) cy_X5_in wd_155 ⟨rfl, rfl, Nat.le_of_ble_eq_true rfl, Nat.le_of_ble_eq_true rfl⟩ (Nat.le_of_ble_eq_true rfl) ⟨Nat.zero_le _, Nat.zero_le _⟩ dX5_isRule_49) hB (fun H locs hB => ?_)
    replace hB : Bd Γ σ_4 s H locs := hB
    obtain ⟨g_6, hr⟩ := gd2 hr
    exact x_zret M hB (nar_z g_6) (Option.some.inj hr) dX5_isRule_52
  · rw [if_neg c_1] at hr
    have t_2 : ¬ Int32.toInt a0 = 0 := lv_neT c_1 (by decide)
    by_cases c_7 : a0 = 1
    · rw [if_pos c_7] at hr
      have t_8 : Int32.toInt a0 = 1 := by rw [c_7]; decide
      refine lv_tableIn (off := 52) (tgt := 53) M.1 M.2.1 dX5_isRule_1 (by rw [t_8]; decide) (by rw [t_8]; decide) (by rw [t_8]; rfl) (by decide) ?_
      refine lv_iload_n M.1 M.2.1 dX5_isRule_53 rfl (lv_at hl 1 rfl) ?_
      refine lv_iconst (v := 1) M.1 M.2.1 dX5_isRule_54 (by decide) ?_
      refine lv_sipush (v := 2000) M.1 M.2.1 dX5_isRule_55 (by decide) ?_
      obtain ⟨v_9, σ_10, h_11, hr⟩ := cbd hr
      refine x_callI (x_runS M K hB hl.1 [.int a1, .int 1, .int 2000] (rest := []) rfl (c_X5_in l Γ a1 1 2000  σ (v_9, σ_10) h_11) cy_X5_in wd_155 ⟨rfl, rfl, Nat.le_of_ble_eq_true rfl, Nat.le_of_ble_eq_true rfl⟩ (Nat.le_of_ble_eq_true rfl) ⟨Nat.zero_le _, Nat.zero_le _⟩ dX5_isRule_58) hB (fun H locs hB => ?_)
      replace hB : Bd Γ σ_10 s H locs := hB
      obtain ⟨g_12, hr⟩ := gd2 hr
      exact x_zret M hB (nar_z g_12) (Option.some.inj hr) dX5_isRule_61
    · rw [if_neg c_7] at hr
      have t_8 : ¬ Int32.toInt a0 = 1 := lv_neT c_7 (by decide)
      by_cases c_13 : a0 = 2
      · rw [if_pos c_13] at hr
        have t_14 : Int32.toInt a0 = 2 := by rw [c_13]; decide
        refine lv_tableIn (off := 61) (tgt := 62) M.1 M.2.1 dX5_isRule_1 (by rw [t_14]; decide) (by rw [t_14]; decide) (by rw [t_14]; rfl) (by decide) ?_
        refine lv_iload_n M.1 M.2.1 dX5_isRule_62 rfl (lv_at hl 1 rfl) ?_
        refine lv_iconst (v := 1) M.1 M.2.1 dX5_isRule_63 (by decide) ?_
        refine lv_bipush (v := 100) M.1 M.2.1 dX5_isRule_64 (by decide) ?_
        obtain ⟨v_15, σ_16, h_17, hr⟩ := cbd hr
        refine x_callI (x_runS M K hB hl.1 [.int a1, .int 1, .int 100] (rest := []) rfl (c_X5_in l Γ a1 1 100  σ (v_15, σ_16) h_17) cy_X5_in wd_155 ⟨rfl, rfl, Nat.le_of_ble_eq_true rfl, Nat.le_of_ble_eq_true rfl⟩ (Nat.le_of_ble_eq_true rfl) ⟨Nat.zero_le _, Nat.zero_le _⟩ dX5_isRule_66) hB (fun H locs hB => ?_)
        replace hB : Bd Γ σ_16 s H locs := hB
        obtain ⟨g_18, hr⟩ := gd2 hr
        exact x_zret M hB (nar_z g_18) (Option.some.inj hr) dX5_isRule_69
      · rw [if_neg c_13] at hr
        have t_14 : ¬ Int32.toInt a0 = 2 := lv_neT c_13 (by decide)
        by_cases c_19 : a0 = 3
        · rw [if_pos c_19] at hr
          have t_20 : Int32.toInt a0 = 3 := by rw [c_19]; decide
          refine lv_tableIn (off := 69) (tgt := 70) M.1 M.2.1 dX5_isRule_1 (by rw [t_20]; decide) (by rw [t_20]; decide) (by rw [t_20]; rfl) (by decide) ?_
          refine lv_iload_n M.1 M.2.1 dX5_isRule_70 rfl (lv_at hl 1 rfl) ?_
          refine lv_iconst (v := 0) M.1 M.2.1 dX5_isRule_71 (by decide) ?_
          refine lv_sipush (v := 2000) M.1 M.2.1 dX5_isRule_72 (by decide) ?_
          obtain ⟨v_21, σ_22, h_23, hr⟩ := cbd hr
          refine x_callI (x_runS M K hB hl.1 [.int a1, .int 0, .int 2000] (rest := []) rfl (c_X5_in l Γ a1 0 2000  σ (v_21, σ_22) h_23) cy_X5_in wd_155 ⟨rfl, rfl, Nat.le_of_ble_eq_true rfl, Nat.le_of_ble_eq_true rfl⟩ (Nat.le_of_ble_eq_true rfl) ⟨Nat.zero_le _, Nat.zero_le _⟩ dX5_isRule_75) hB (fun H locs hB => ?_)
          replace hB : Bd Γ σ_22 s H locs := hB
          obtain ⟨g_24, hr⟩ := gd2 hr
          exact x_zret M hB (nar_z g_24) (Option.some.inj hr) dX5_isRule_78
        · rw [if_neg c_19] at hr
          have t_20 : ¬ Int32.toInt a0 = 3 := lv_neT c_19 (by decide)
          by_cases c_25 : a0 = 4
          · rw [if_pos c_25] at hr
            have t_26 : Int32.toInt a0 = 4 := by rw [c_25]; decide
            refine lv_tableIn (off := 78) (tgt := 79) M.1 M.2.1 dX5_isRule_1 (by rw [t_26]; decide) (by rw [t_26]; decide) (by rw [t_26]; rfl) (by decide) ?_
            refine lv_iload_n M.1 M.2.1 dX5_isRule_79 rfl (lv_at hl 1 rfl) ?_
            refine lv_iconst (v := 0) M.1 M.2.1 dX5_isRule_80 (by decide) ?_
            refine lv_bipush (v := 20) M.1 M.2.1 dX5_isRule_81 (by decide) ?_
            obtain ⟨v_27, σ_28, h_29, hr⟩ := cbd hr
            refine x_callI (x_runS M K hB hl.1 [.int a1, .int 0, .int 20] (rest := []) rfl (c_X5_in l Γ a1 0 20  σ (v_27, σ_28) h_29) cy_X5_in wd_155 ⟨rfl, rfl, Nat.le_of_ble_eq_true rfl, Nat.le_of_ble_eq_true rfl⟩ (Nat.le_of_ble_eq_true rfl) ⟨Nat.zero_le _, Nat.zero_le _⟩ dX5_isRule_83) hB (fun H locs hB => ?_)
            replace hB : Bd Γ σ_28 s H locs := hB
            obtain ⟨g_30, hr⟩ := gd2 hr
            exact x_zret M hB (nar_z g_30) (Option.some.inj hr) dX5_isRule_86
          · rw [if_neg c_25] at hr
            have t_26 : ¬ Int32.toInt a0 = 4 := lv_neT c_25 (by decide)
            by_cases c_31 : a0 = 5
            · rw [if_pos c_31] at hr
              have t_32 : Int32.toInt a0 = 5 := by rw [c_31]; decide
              refine lv_tableIn (off := 86) (tgt := 87) M.1 M.2.1 dX5_isRule_1 (by rw [t_32]; decide) (by rw [t_32]; decide) (by rw [t_32]; rfl) (by decide) ?_
              refine lv_iload_n M.1 M.2.1 dX5_isRule_87 rfl (lv_at hl 1 rfl) ?_
              refine lv_iconst (v := 1) M.1 M.2.1 dX5_isRule_88 (by decide) ?_
              refine lv_sipush (v := 200) M.1 M.2.1 dX5_isRule_89 (by decide) ?_
              obtain ⟨v_33, σ_34, h_35, hr⟩ := cbd hr
              refine x_callI (x_runS M K hB hl.1 [.int a1, .int 1, .int 200] (rest := []) rfl (c_X5_in l Γ a1 1 200  σ (v_33, σ_34) h_35) cy_X5_in wd_155 ⟨rfl, rfl, Nat.le_of_ble_eq_true rfl, Nat.le_of_ble_eq_true rfl⟩ (Nat.le_of_ble_eq_true rfl) ⟨Nat.zero_le _, Nat.zero_le _⟩ dX5_isRule_92) hB (fun H locs hB => ?_)
              replace hB : Bd Γ σ_34 s H locs := hB
              obtain ⟨g_36, hr⟩ := gd2 hr
              exact x_zret M hB (nar_z g_36) (Option.some.inj hr) dX5_isRule_95
            · rw [if_neg c_31] at hr
              have t_32 : ¬ Int32.toInt a0 = 5 := lv_neT c_31 (by decide)
              by_cases c_37 : a0 = 6
              · rw [if_pos c_37] at hr
                have t_38 : Int32.toInt a0 = 6 := by rw [c_37]; decide
                refine lv_tableIn (off := 95) (tgt := 96) M.1 M.2.1 dX5_isRule_1 (by rw [t_38]; decide) (by rw [t_38]; decide) (by rw [t_38]; rfl) (by decide) ?_
                refine lv_iload_n M.1 M.2.1 dX5_isRule_96 rfl (lv_at hl 1 rfl) ?_
                refine lv_iconst (v := 1) M.1 M.2.1 dX5_isRule_97 (by decide) ?_
                refine lv_sipush (v := 5000) M.1 M.2.1 dX5_isRule_98 (by decide) ?_
                obtain ⟨v_39, σ_40, h_41, hr⟩ := cbd hr
                refine x_callI (x_runS M K hB hl.1 [.int a1, .int 1, .int 5000] (rest := []) rfl (c_X5_in l Γ a1 1 5000  σ (v_39, σ_40) h_41) cy_X5_in wd_155 ⟨rfl, rfl, Nat.le_of_ble_eq_true rfl, Nat.le_of_ble_eq_true rfl⟩ (Nat.le_of_ble_eq_true rfl) ⟨Nat.zero_le _, Nat.zero_le _⟩ dX5_isRule_101) hB (fun H locs hB => ?_)
                replace hB : Bd Γ σ_40 s H locs := hB
                obtain ⟨g_42, hr⟩ := gd2 hr
                exact x_zret M hB (nar_z g_42) (Option.some.inj hr) dX5_isRule_104
              · rw [if_neg c_37] at hr
                have t_38 : ¬ Int32.toInt a0 = 6 := lv_neT c_37 (by decide)
                refine lv_tableOut (tgt := 105) M.1 M.2.1 dX5_isRule_1 (by omega) (by decide) ?_
                refine lv_iload_n M.1 M.2.1 dX5_isRule_105 rfl (lv_at hl 0 rfl) ?_
                refine lv_bipush (v := 7) M.1 M.2.1 dX5_isRule_106 (by decide) ?_
                refine lv_icmp_ne (tgt := 124) M.1 M.2.1 dX5_isRule_108 (by decide) (fun c_43 => ?_) (fun c_43 => ?_)
                · rw [if_neg c_43] at hr
                  exact w_X5_isRule_124 M K a0 a1   _ _ _ _  hB (lv_sub hl [] rfl) hr
                · rw [if_pos c_43] at hr
                  refine lv_iload_n M.1 M.2.1 dX5_isRule_111 rfl (lv_at hl 1 rfl) ?_
                  refine lv_iconst (v := 1) M.1 M.2.1 dX5_isRule_112 (by decide) ?_
                  refine lv_iconst (v := 5) M.1 M.2.1 dX5_isRule_113 (by decide) ?_
                  obtain ⟨v_44, σ_45, h_46, hr⟩ := cbd hr
                  refine x_callI (x_runS M K hB hl.1 [.int a1, .int 1, .int 5] (rest := []) rfl (c_X5_in l Γ a1 1 5  σ (v_44, σ_45) h_46) cy_X5_in wd_155 ⟨rfl, rfl, Nat.le_of_ble_eq_true rfl, Nat.le_of_ble_eq_true rfl⟩ (Nat.le_of_ble_eq_true rfl) ⟨Nat.zero_le _, Nat.zero_le _⟩ dX5_isRule_114) hB (fun H locs hB => ?_)
                  replace hB : Bd Γ σ_45 s H locs := hB
                  refine lv_if_eq (tgt := 124) M.1 M.2.1 dX5_isRule_117 (by decide) (fun c_47 => ?_) (fun c_47 => ?_)
                  · rw [if_pos c_47] at hr
                    exact w_X5_isRule_124 M K a0 a1   _ _ _ _  hB (lv_sub hl [] rfl) hr
                  · rw [if_neg c_47] at hr
                    refine lv_iconst (v := 1) M.1 M.2.1 dX5_isRule_120 (by decide) ?_
                    refine lv_goto (tgt := 125) M.1 M.2.1 dX5_isRule_121 (by decide) ?_
                    exact w_X5_isRule_125 M K a0 a1  1 _ _ _ _  hB (lv_sub hl [] rfl) hr
theorem c_X5_isRule (l : Launch) (Γ : GG) (a0 : Int32) (a1 : Int32)  (σ : Sg) (res : Int32 × Sg) (hr : f_X5_isRule_0 a0 a1 σ = some res) : Met l yX5_isRule (Cond.code yX5_isRule cX5_isRule 2 (some .boolean) :: gtb) rm_X5_isRule (va_Pc [.int a0, .int a1] (GI Γ σ)) (QI Γ res) 0 0 (AD Γ) :=
  x_metI (by decide) [.int a0, .int a1] (Nat.le_of_ble_eq_true rfl) (fun p e s m args below meth c M K ls hl hB => w_X5_isRule_0 M K a0 a1 σ _ _ ls hB hl hr)
abbrev rm_X5_rule : Room := { frames := 2, cells := 0, slots := 0, locals := 43 }
def f_X5_rule_0 (a0 : Int32) (a1 : Int32)   (σ : Sg) : Option (Int32 × Sg) :=
cb (f_X5_isRule_0 a0 a1 σ) fun v_1 σ_2 =>
if v_1 = 0 then
some ((-2), σ_2)
else
if a0 < 0 ∨ 255 ≤ a0.toNatClampNeg then none else
if a0 < 0 ∨ 255 ≤ a0.toNatClampNeg then none else
wb (st σ_2 151 (a0.toNatClampNeg) a1) fun σ_7 =>
some (σ_2 151 (a0.toNatClampNeg), σ_7)
set_option maxHeartbeats 4000000 in
set_option maxRecDepth 100000 in
theorem w_X5_rule_0 {p : Program} {l : Launch} {e : Env} {s : State} {m : MethodId} {args : Array Value} {below : List Frame} {meth : Method} {c : Code} {Γ : GG} {res : Int32 × Sg} (M : MX RX5 cX5_rule 4 (some .int) p s m args meth c) (K : KK Γ s s.heap) (a0 : Int32) (a1 : Int32)  (σ : Sg) (H : Heap) (locs : List Loc) (ls : Array Slot)  (hB : Bd Γ σ s H locs) (hl : lv_has ls 4 [(0, .ref (Γ.1 150)), (1, .int a0), (2, .int a1)]) (hr : f_X5_rule_0 a0 a1   σ = some res) : WI Γ rm_X5_rule p l e s m args below meth c H locs res (F0 m 0 ls []) := by
  unfold f_X5_rule_0 at hr
  refine lv_iload_n M.1 M.2.1 dX5_rule_0 rfl (lv_at hl 1 rfl) ?_
  refine lv_iload_n M.1 M.2.1 dX5_rule_1 rfl (lv_at hl 2 rfl) ?_
  obtain ⟨v_1, σ_2, h_3, hr⟩ := cbd hr
  refine x_callI (x_runS M K hB hl.1 [.int a0, .int a1] (rest := []) rfl (c_X5_isRule l Γ a0 a1  σ (v_1, σ_2) h_3) cy_X5_isRule wd_156 ⟨rfl, rfl, Nat.le_of_ble_eq_true rfl, Nat.le_of_ble_eq_true rfl⟩ (Nat.le_of_ble_eq_true rfl) ⟨Nat.zero_le _, Nat.zero_le _⟩ dX5_rule_2) hB (fun H locs hB => ?_)
  replace hB : Bd Γ σ_2 s H locs := hB
  refine lv_if_ne (tgt := 11) M.1 M.2.1 dX5_rule_5 (by decide) (fun c_4 => ?_) (fun c_4 => ?_)
  · rw [if_neg c_4] at hr
    refine lv_aload_n M.1 M.2.1 dX5_rule_11 rfl (lv_at hl 0 rfl) ?_
    refine x_get5 M K hB isK_150 0 (by decide) wd_157 (v := .ref (Γ.1 151)) rfl dX5_rule_12 ?_
    refine lv_iload_n M.1 M.2.1 dX5_rule_15 rfl (lv_at hl 1 rfl) ?_
    obtain ⟨g_5, hr⟩ := gd hr
    refine x_iald M K hB isA_151 g_5 dX5_rule_16 ?_
    refine lv_istore_n (lv' := [(3, .int (σ_2 151 (a0.toNatClampNeg))), (0, .ref (Γ.1 150)), (1, .int a0), (2, .int a1)]) M.1 M.2.1 dX5_rule_17 rfl hl (by decide) rfl (fun ls hl => ?_)
    refine lv_aload_n M.1 M.2.1 dX5_rule_18 rfl (lv_at hl 1 rfl) ?_
    refine x_get5 M K hB isK_150 0 (by decide) wd_157 (v := .ref (Γ.1 151)) rfl dX5_rule_19 ?_
    refine lv_iload_n M.1 M.2.1 dX5_rule_22 rfl (lv_at hl 2 rfl) ?_
    refine lv_iload_n M.1 M.2.1 dX5_rule_23 rfl (lv_at hl 3 rfl) ?_
    obtain ⟨g_6, hr⟩ := gd hr
    obtain ⟨σ_7, e_8, hr⟩ := wbd hr
    refine x_iast M K hB isA_151 g_6 dX5_rule_24 (fun H locs hB => ?_)
    rw [← e_8] at hB
    refine lv_iload_n M.1 M.2.1 dX5_rule_25 rfl (lv_at hl 0 rfl) ?_
    exact x_iret M hB (Option.some.inj hr) dX5_rule_26
  · rw [if_pos c_4] at hr
    refine lv_bipush (v := (-2)) M.1 M.2.1 dX5_rule_8 (by decide) ?_
    exact x_iret M hB (Option.some.inj hr) dX5_rule_10
theorem c_X5_rule (l : Launch) (Γ : GG) (a0 : Int32) (a1 : Int32)  (σ : Sg) (res : Int32 × Sg) (hr : f_X5_rule_0 a0 a1 σ = some res) : Met l yX5_rule (Cond.code yX5_rule cX5_rule 4 (some .int) :: gtb) rm_X5_rule (va_Pc [.ref (Γ.1 150), .int a0, .int a1] (GI Γ σ)) (QI Γ res) 0 0 (AD Γ) :=
  x_metI (by decide) [.ref (Γ.1 150), .int a0, .int a1] (Nat.le_of_ble_eq_true rfl) (fun p e s m args below meth c M K ls hl hB => w_X5_rule_0 M K a0 a1 σ _ _ ls hB hl hr)
abbrev rm_X5_place : Room := { frames := 0, cells := 0, slots := 0, locals := 0 }
def f_X5_place_0 (a0 : Int32) (a1 : Int32)   (σ : Sg) : Option (Int32 × Sg) :=
some ((19 + (26 * a0)) + a1, σ)
set_option maxHeartbeats 4000000 in
set_option maxRecDepth 100000 in
theorem w_X5_place_0 {p : Program} {l : Launch} {e : Env} {s : State} {m : MethodId} {args : Array Value} {below : List Frame} {meth : Method} {c : Code} {Γ : GG} {res : Int32 × Sg} (M : MX RX5 cX5_place 2 (some .int) p s m args meth c) (K : KK Γ s s.heap) (a0 : Int32) (a1 : Int32)  (σ : Sg) (H : Heap) (locs : List Loc) (ls : Array Slot)  (hB : Bd Γ σ s H locs) (hl : lv_has ls 2 [(0, .int a0), (1, .int a1)]) (hr : f_X5_place_0 a0 a1   σ = some res) : WI Γ rm_X5_place p l e s m args below meth c H locs res (F0 m 0 ls []) := by
  unfold f_X5_place_0 at hr
  refine lv_bipush (v := 19) M.1 M.2.1 dX5_place_0 (by decide) ?_
  refine lv_bipush (v := 26) M.1 M.2.1 dX5_place_2 (by decide) ?_
  refine lv_iload_n M.1 M.2.1 dX5_place_4 rfl (lv_at hl 0 rfl) ?_
  refine lv_imul M.1 M.2.1 dX5_place_5 ?_
  refine lv_iadd M.1 M.2.1 dX5_place_6 ?_
  refine lv_iload_n M.1 M.2.1 dX5_place_7 rfl (lv_at hl 1 rfl) ?_
  refine lv_iadd M.1 M.2.1 dX5_place_8 ?_
  exact x_iret M hB (Option.some.inj hr) dX5_place_9
theorem c_X5_place (l : Launch) (Γ : GG) (a0 : Int32) (a1 : Int32)  (σ : Sg) (res : Int32 × Sg) (hr : f_X5_place_0 a0 a1 σ = some res) : Met l yX5_place (Cond.code yX5_place cX5_place 2 (some .int) :: gtb) rm_X5_place (va_Pc [.int a0, .int a1] (GI Γ σ)) (QI Γ res) 0 0 (AD Γ) :=
  x_metI (by decide) [.int a0, .int a1] (Nat.le_of_ble_eq_true rfl) (fun p e s m args below meth c M K ls hl hB => w_X5_place_0 M K a0 a1 σ _ _ ls hB hl hr)
abbrev rm_X5_lay : Room := { frames := 1, cells := 0, slots := 0, locals := 21 }
def f_X5_lay_0 (a0 : Int32) (a1 : Int32) (a2 : Int32)   (σ : Sg) : Option (Int32 × Sg) :=
cb (f_X5_place_0 a0 a1 σ) fun v_1 σ_2 =>
if v_1 < 0 ∨ 255 ≤ v_1.toNatClampNeg then none else
wb (st σ_2 151 (v_1.toNatClampNeg) a2) fun σ_5 =>
some (0, σ_5)
set_option maxHeartbeats 4000000 in
set_option maxRecDepth 100000 in
theorem w_X5_lay_0 {p : Program} {l : Launch} {e : Env} {s : State} {m : MethodId} {args : Array Value} {below : List Frame} {meth : Method} {c : Code} {Γ : GG} {res : Int32 × Sg} (M : MX RX5 cX5_lay 4 none p s m args meth c) (K : KK Γ s s.heap) (a0 : Int32) (a1 : Int32) (a2 : Int32)  (σ : Sg) (H : Heap) (locs : List Loc) (ls : Array Slot)  (hB : Bd Γ σ s H locs) (hl : lv_has ls 4 [(0, .ref (Γ.1 150)), (1, .int a0), (2, .int a1), (3, .int a2)]) (hr : f_X5_lay_0 a0 a1 a2   σ = some res) : WV Γ rm_X5_lay p l e s m args below meth c H locs res (F0 m 0 ls []) := by
  unfold f_X5_lay_0 at hr
  refine lv_aload_n M.1 M.2.1 dX5_lay_0 rfl (lv_at hl 0 rfl) ?_
  refine x_get5 M K hB isK_150 0 (by decide) wd_157 (v := .ref (Γ.1 151)) rfl dX5_lay_1 ?_
  refine lv_iload_n M.1 M.2.1 dX5_lay_4 rfl (lv_at hl 1 rfl) ?_
  refine lv_iload_n M.1 M.2.1 dX5_lay_5 rfl (lv_at hl 2 rfl) ?_
  obtain ⟨v_1, σ_2, h_3, hr⟩ := cbd hr
  refine x_callI (x_runS M K hB hl.1 [.int a0, .int a1] (rest := [.ref (Γ.1 151)]) rfl (c_X5_place l Γ a0 a1  σ (v_1, σ_2) h_3) cy_X5_place wd_158 ⟨rfl, rfl, Nat.le_of_ble_eq_true rfl, Nat.le_of_ble_eq_true rfl⟩ (Nat.le_of_ble_eq_true rfl) ⟨Nat.zero_le _, Nat.zero_le _⟩ dX5_lay_6) hB (fun H locs hB => ?_)
  replace hB : Bd Γ σ_2 s H locs := hB
  refine lv_iload_n M.1 M.2.1 dX5_lay_9 rfl (lv_at hl 3 rfl) ?_
  obtain ⟨g_4, hr⟩ := gd hr
  obtain ⟨σ_5, e_6, hr⟩ := wbd hr
  refine x_iast M K hB isA_151 g_4 dX5_lay_10 (fun H locs hB => ?_)
  rw [← e_6] at hB
  exact x_vret M hB (Option.some.inj hr) dX5_lay_11
theorem c_X5_lay (l : Launch) (Γ : GG) (a0 : Int32) (a1 : Int32) (a2 : Int32)  (σ : Sg) (res : Int32 × Sg) (hr : f_X5_lay_0 a0 a1 a2 σ = some res) : Met l yX5_lay (Cond.code yX5_lay cX5_lay 4 none :: gtb) rm_X5_lay (va_Pc [.ref (Γ.1 150), .int a0, .int a1, .int a2] (GI Γ σ)) (QV Γ res) 0 0 (AD Γ) :=
  x_metV (by decide) [.ref (Γ.1 150), .int a0, .int a1, .int a2] (Nat.le_of_ble_eq_true rfl) (fun p e s m args below meth c M K ls hl hB => w_X5_lay_0 M K a0 a1 a2 σ _ _ ls hB hl hr)
abbrev rm_X5_addTask : Room := { frames := 2, cells := 0, slots := 0, locals := 44 }
def f_X5_addTask_22 (a0 : Int32) (a1 : Int32)   (σ : Sg) : Option (Int32 × Sg) :=
some ((-2), σ)
set_option maxHeartbeats 4000000 in
set_option maxRecDepth 100000 in
theorem w_X5_addTask_22 {p : Program} {l : Launch} {e : Env} {s : State} {m : MethodId} {args : Array Value} {below : List Frame} {meth : Method} {c : Code} {Γ : GG} {res : Int32 × Sg} (M : MX RX5 cX5_addTask 4 (some .int) p s m args meth c) (K : KK Γ s s.heap) (a0 : Int32) (a1 : Int32)  (σ : Sg) (H : Heap) (locs : List Loc) (ls : Array Slot)  (hB : Bd Γ σ s H locs) (hl : lv_has ls 4 []) (hr : f_X5_addTask_22 a0 a1   σ = some res) : WI Γ rm_X5_addTask p l e s m args below meth c H locs res (F0 m 22 ls []) := by
  unfold f_X5_addTask_22 at hr
  refine lv_bipush (v := (-2)) M.1 M.2.1 dX5_addTask_22 (by decide) ?_
  exact x_iret M hB (Option.some.inj hr) dX5_addTask_24
def f_X5_addTask_0 (a0 : Int32) (a1 : Int32)   (σ : Sg) : Option (Int32 × Sg) :=
cb (f_X5_in_0 a0 1 200 σ) fun v_1 σ_2 =>
if v_1 = 0 then
f_X5_addTask_22 a0 a1   σ_2
else
cb (f_X5_in_0 a1 1 200 σ_2) fun v_5 σ_6 =>
if v_5 = 0 then
f_X5_addTask_22 a0 a1   σ_6
else
if σ_6 151 17 = 6 then
some ((-4), σ_6)
else
wb (st σ_6 151 17 ((σ_6 151 17) + 1)) fun σ_10 =>
cb (f_X5_lay_0 (σ_6 151 17) 0 a0 σ_10) fun v_12 σ_13 =>
cb (f_X5_lay_0 (σ_6 151 17) 1 a1 σ_13) fun v_15 σ_16 =>
cb (f_X5_lay_0 (σ_6 151 17) 3 1 σ_16) fun v_18 σ_19 =>
cb (f_X5_lay_0 (σ_6 151 17) 4 1 σ_19) fun v_21 σ_22 =>
cb (f_X5_lay_0 (σ_6 151 17) 5 50 σ_22) fun v_24 σ_25 =>
cb (f_X5_lay_0 (σ_6 151 17) 6 1 σ_25) fun v_27 σ_28 =>
some (σ_6 151 17, σ_28)
set_option maxHeartbeats 4000000 in
set_option maxRecDepth 100000 in
theorem w_X5_addTask_0 {p : Program} {l : Launch} {e : Env} {s : State} {m : MethodId} {args : Array Value} {below : List Frame} {meth : Method} {c : Code} {Γ : GG} {res : Int32 × Sg} (M : MX RX5 cX5_addTask 4 (some .int) p s m args meth c) (K : KK Γ s s.heap) (a0 : Int32) (a1 : Int32)  (σ : Sg) (H : Heap) (locs : List Loc) (ls : Array Slot)  (hB : Bd Γ σ s H locs) (hl : lv_has ls 4 [(0, .ref (Γ.1 150)), (1, .int a0), (2, .int a1)]) (hr : f_X5_addTask_0 a0 a1   σ = some res) : WI Γ rm_X5_addTask p l e s m args below meth c H locs res (F0 m 0 ls []) := by
  unfold f_X5_addTask_0 at hr
  refine lv_iload_n M.1 M.2.1 dX5_addTask_0 rfl (lv_at hl 1 rfl) ?_
  refine lv_iconst (v := 1) M.1 M.2.1 dX5_addTask_1 (by decide) ?_
  refine lv_sipush (v := 200) M.1 M.2.1 dX5_addTask_2 (by decide) ?_
  obtain ⟨v_1, σ_2, h_3, hr⟩ := cbd hr
  refine x_callI (x_runS M K hB hl.1 [.int a0, .int 1, .int 200] (rest := []) rfl (c_X5_in l Γ a0 1 200  σ (v_1, σ_2) h_3) cy_X5_in wd_155 ⟨rfl, rfl, Nat.le_of_ble_eq_true rfl, Nat.le_of_ble_eq_true rfl⟩ (Nat.le_of_ble_eq_true rfl) ⟨Nat.zero_le _, Nat.zero_le _⟩ dX5_addTask_5) hB (fun H locs hB => ?_)
  replace hB : Bd Γ σ_2 s H locs := hB
  refine lv_if_eq (tgt := 22) M.1 M.2.1 dX5_addTask_8 (by decide) (fun c_4 => ?_) (fun c_4 => ?_)
  · rw [if_pos c_4] at hr
    exact w_X5_addTask_22 M K a0 a1   _ _ _ _  hB (lv_sub hl [] rfl) hr
  · rw [if_neg c_4] at hr
    refine lv_iload_n M.1 M.2.1 dX5_addTask_11 rfl (lv_at hl 2 rfl) ?_
    refine lv_iconst (v := 1) M.1 M.2.1 dX5_addTask_12 (by decide) ?_
    refine lv_sipush (v := 200) M.1 M.2.1 dX5_addTask_13 (by decide) ?_
    obtain ⟨v_5, σ_6, h_7, hr⟩ := cbd hr
    refine x_callI (x_runS M K hB hl.1 [.int a1, .int 1, .int 200] (rest := []) rfl (c_X5_in l Γ a1 1 200  σ_2 (v_5, σ_6) h_7) cy_X5_in wd_155 ⟨rfl, rfl, Nat.le_of_ble_eq_true rfl, Nat.le_of_ble_eq_true rfl⟩ (Nat.le_of_ble_eq_true rfl) ⟨Nat.zero_le _, Nat.zero_le _⟩ dX5_addTask_16) hB (fun H locs hB => ?_)
    replace hB : Bd Γ σ_6 s H locs := hB
    refine lv_if_ne (tgt := 25) M.1 M.2.1 dX5_addTask_19 (by decide) (fun c_8 => ?_) (fun c_8 => ?_)
    · rw [if_neg c_8] at hr
      refine lv_aload_n M.1 M.2.1 dX5_addTask_25 rfl (lv_at hl 0 rfl) ?_
      refine x_get5 M K hB isK_150 0 (by decide) wd_157 (v := .ref (Γ.1 151)) rfl dX5_addTask_26 ?_
      refine lv_bipush (v := 17) M.1 M.2.1 dX5_addTask_29 (by decide) ?_
      refine x_ialdL M K hB isA_151 (k := 17) (by decide) (by decide) dX5_addTask_31 ?_
      refine lv_bipush (v := 6) M.1 M.2.1 dX5_addTask_32 (by decide) ?_
      refine lv_icmp_ne (tgt := 40) M.1 M.2.1 dX5_addTask_34 (by decide) (fun c_9 => ?_) (fun c_9 => ?_)
      · rw [if_neg c_9] at hr
        refine lv_aload_n M.1 M.2.1 dX5_addTask_40 rfl (lv_at hl 0 rfl) ?_
        refine x_get5 M K hB isK_150 0 (by decide) wd_157 (v := .ref (Γ.1 151)) rfl dX5_addTask_41 ?_
        refine lv_bipush (v := 17) M.1 M.2.1 dX5_addTask_44 (by decide) ?_
        refine x_ialdL M K hB isA_151 (k := 17) (by decide) (by decide) dX5_addTask_46 ?_
        refine lv_istore_n (lv' := [(3, .int (σ_6 151 17)), (0, .ref (Γ.1 150)), (1, .int a0), (2, .int a1)]) M.1 M.2.1 dX5_addTask_47 rfl hl (by decide) rfl (fun ls hl => ?_)
        refine lv_aload_n M.1 M.2.1 dX5_addTask_48 rfl (lv_at hl 1 rfl) ?_
        refine x_get5 M K hB isK_150 0 (by decide) wd_157 (v := .ref (Γ.1 151)) rfl dX5_addTask_49 ?_
        refine lv_bipush (v := 17) M.1 M.2.1 dX5_addTask_52 (by decide) ?_
        refine lv_dup2_11 M.1 M.2.1 dX5_addTask_54 rfl rfl ?_
        refine x_ialdL M K hB isA_151 (k := 17) (by decide) (by decide) dX5_addTask_55 ?_
        refine lv_iconst (v := 1) M.1 M.2.1 dX5_addTask_56 (by decide) ?_
        refine lv_iadd M.1 M.2.1 dX5_addTask_57 ?_
        obtain ⟨σ_10, e_11, hr⟩ := wbd hr
        refine x_iastL M K hB isA_151 (k := 17) (by decide) (by decide) dX5_addTask_58 (fun H locs hB => ?_)
        rw [← e_11] at hB
        refine lv_aload_n M.1 M.2.1 dX5_addTask_59 rfl (lv_at hl 1 rfl) ?_
        refine lv_iload_n M.1 M.2.1 dX5_addTask_60 rfl (lv_at hl 0 rfl) ?_
        refine lv_iconst (v := 0) M.1 M.2.1 dX5_addTask_61 (by decide) ?_
        refine lv_iload_n M.1 M.2.1 dX5_addTask_62 rfl (lv_at hl 2 rfl) ?_
        obtain ⟨v_12, σ_13, h_14, hr⟩ := cbd hr
        refine x_callV (x_runV M K hB hl.1 [.int (σ_6 151 17), .int 0, .int a0] (rest := []) rfl (c_X5_lay l Γ (σ_6 151 17) 0 a0  σ_10 (v_12, σ_13) h_14) cy_X5_lay (x_recv K hB isK_150.2 (ent_5 isK_150.1) rfl) wd_159 ⟨rfl, rfl, Nat.le_of_ble_eq_true rfl, Nat.le_of_ble_eq_true rfl⟩ (Nat.le_of_ble_eq_true rfl) ⟨Nat.zero_le _, Nat.zero_le _⟩ dX5_addTask_63) hB (fun H locs hB => ?_)
        replace hB : Bd Γ σ_13 s H locs := hB
        refine lv_aload_n M.1 M.2.1 dX5_addTask_66 rfl (lv_at hl 1 rfl) ?_
        refine lv_iload_n M.1 M.2.1 dX5_addTask_67 rfl (lv_at hl 0 rfl) ?_
        refine lv_iconst (v := 1) M.1 M.2.1 dX5_addTask_68 (by decide) ?_
        refine lv_iload_n M.1 M.2.1 dX5_addTask_69 rfl (lv_at hl 3 rfl) ?_
        obtain ⟨v_15, σ_16, h_17, hr⟩ := cbd hr
        refine x_callV (x_runV M K hB hl.1 [.int (σ_6 151 17), .int 1, .int a1] (rest := []) rfl (c_X5_lay l Γ (σ_6 151 17) 1 a1  σ_13 (v_15, σ_16) h_17) cy_X5_lay (x_recv K hB isK_150.2 (ent_5 isK_150.1) rfl) wd_159 ⟨rfl, rfl, Nat.le_of_ble_eq_true rfl, Nat.le_of_ble_eq_true rfl⟩ (Nat.le_of_ble_eq_true rfl) ⟨Nat.zero_le _, Nat.zero_le _⟩ dX5_addTask_70) hB (fun H locs hB => ?_)
        replace hB : Bd Γ σ_16 s H locs := hB
        refine lv_aload_n M.1 M.2.1 dX5_addTask_73 rfl (lv_at hl 1 rfl) ?_
        refine lv_iload_n M.1 M.2.1 dX5_addTask_74 rfl (lv_at hl 0 rfl) ?_
        refine lv_iconst (v := 3) M.1 M.2.1 dX5_addTask_75 (by decide) ?_
        refine lv_iconst (v := 1) M.1 M.2.1 dX5_addTask_76 (by decide) ?_
        obtain ⟨v_18, σ_19, h_20, hr⟩ := cbd hr
        refine x_callV (x_runV M K hB hl.1 [.int (σ_6 151 17), .int 3, .int 1] (rest := []) rfl (c_X5_lay l Γ (σ_6 151 17) 3 1  σ_16 (v_18, σ_19) h_20) cy_X5_lay (x_recv K hB isK_150.2 (ent_5 isK_150.1) rfl) wd_159 ⟨rfl, rfl, Nat.le_of_ble_eq_true rfl, Nat.le_of_ble_eq_true rfl⟩ (Nat.le_of_ble_eq_true rfl) ⟨Nat.zero_le _, Nat.zero_le _⟩ dX5_addTask_77) hB (fun H locs hB => ?_)
        replace hB : Bd Γ σ_19 s H locs := hB
        refine lv_aload_n M.1 M.2.1 dX5_addTask_80 rfl (lv_at hl 1 rfl) ?_
        refine lv_iload_n M.1 M.2.1 dX5_addTask_81 rfl (lv_at hl 0 rfl) ?_
        refine lv_iconst (v := 4) M.1 M.2.1 dX5_addTask_82 (by decide) ?_
        refine lv_iconst (v := 1) M.1 M.2.1 dX5_addTask_83 (by decide) ?_
        obtain ⟨v_21, σ_22, h_23, hr⟩ := cbd hr
        refine x_callV (x_runV M K hB hl.1 [.int (σ_6 151 17), .int 4, .int 1] (rest := []) rfl (c_X5_lay l Γ (σ_6 151 17) 4 1  σ_19 (v_21, σ_22) h_23) cy_X5_lay (x_recv K hB isK_150.2 (ent_5 isK_150.1) rfl) wd_159 ⟨rfl, rfl, Nat.le_of_ble_eq_true rfl, Nat.le_of_ble_eq_true rfl⟩ (Nat.le_of_ble_eq_true rfl) ⟨Nat.zero_le _, Nat.zero_le _⟩ dX5_addTask_84) hB (fun H locs hB => ?_)
        replace hB : Bd Γ σ_22 s H locs := hB
        refine lv_aload_n M.1 M.2.1 dX5_addTask_87 rfl (lv_at hl 1 rfl) ?_
        refine lv_iload_n M.1 M.2.1 dX5_addTask_88 rfl (lv_at hl 0 rfl) ?_
        refine lv_iconst (v := 5) M.1 M.2.1 dX5_addTask_89 (by decide) ?_
        refine lv_bipush (v := 50) M.1 M.2.1 dX5_addTask_90 (by decide) ?_
        obtain ⟨v_24, σ_25, h_26, hr⟩ := cbd hr
        refine x_callV (x_runV M K hB hl.1 [.int (σ_6 151 17), .int 5, .int 50] (rest := []) rfl (c_X5_lay l Γ (σ_6 151 17) 5 50  σ_22 (v_24, σ_25) h_26) cy_X5_lay (x_recv K hB isK_150.2 (ent_5 isK_150.1) rfl) wd_159 ⟨rfl, rfl, Nat.le_of_ble_eq_true rfl, Nat.le_of_ble_eq_true rfl⟩ (Nat.le_of_ble_eq_true rfl) ⟨Nat.zero_le _, Nat.zero_le _⟩ dX5_addTask_92) hB (fun H locs hB => ?_)
        replace hB : Bd Γ σ_25 s H locs := hB
        refine lv_aload_n M.1 M.2.1 dX5_addTask_95 rfl (lv_at hl 1 rfl) ?_
        refine lv_iload_n M.1 M.2.1 dX5_addTask_96 rfl (lv_at hl 0 rfl) ?_
        refine lv_bipush (v := 6) M.1 M.2.1 dX5_addTask_97 (by decide) ?_
        refine lv_iconst (v := 1) M.1 M.2.1 dX5_addTask_99 (by decide) ?_
        obtain ⟨v_27, σ_28, h_29, hr⟩ := cbd hr
        refine x_callV (x_runV M K hB hl.1 [.int (σ_6 151 17), .int 6, .int 1] (rest := []) rfl (c_X5_lay l Γ (σ_6 151 17) 6 1  σ_25 (v_27, σ_28) h_29) cy_X5_lay (x_recv K hB isK_150.2 (ent_5 isK_150.1) rfl) wd_159 ⟨rfl, rfl, Nat.le_of_ble_eq_true rfl, Nat.le_of_ble_eq_true rfl⟩ (Nat.le_of_ble_eq_true rfl) ⟨Nat.zero_le _, Nat.zero_le _⟩ dX5_addTask_100) hB (fun H locs hB => ?_)
        replace hB : Bd Γ σ_28 s H locs := hB
        refine lv_iload_n M.1 M.2.1 dX5_addTask_103 rfl (lv_at hl 0 rfl) ?_
        exact x_iret M hB (Option.some.inj hr) dX5_addTask_104
      · rw [if_pos c_9] at hr
        refine lv_bipush (v := (-4)) M.1 M.2.1 dX5_addTask_37 (by decide) ?_
        exact x_iret M hB (Option.some.inj hr) dX5_addTask_39
    · rw [if_pos c_8] at hr
      exact w_X5_addTask_22 M K a0 a1   _ _ _ _  hB (lv_sub hl [] rfl) hr
theorem c_X5_addTask (l : Launch) (Γ : GG) (a0 : Int32) (a1 : Int32)  (σ : Sg) (res : Int32 × Sg) (hr : f_X5_addTask_0 a0 a1 σ = some res) : Met l yX5_addTask (Cond.code yX5_addTask cX5_addTask 4 (some .int) :: gtb) rm_X5_addTask (va_Pc [.ref (Γ.1 150), .int a0, .int a1] (GI Γ σ)) (QI Γ res) 0 0 (AD Γ) :=
  x_metI (by decide) [.ref (Γ.1 150), .int a0, .int a1] (Nat.le_of_ble_eq_true rfl) (fun p e s m args below meth c M K ls hl hB => w_X5_addTask_0 M K a0 a1 σ _ _ ls hB hl hr)
abbrev rm_X5_isTask : Room := { frames := 1, cells := 0, slots := 0, locals := 22 }
def f_X5_isTask_0 (a0 : Int32)   (σ : Sg) : Option (Int32 × Sg) :=
cb (f_X5_in_0 a0 0 ((σ 151 17) - 1) σ) fun v_1 σ_2 =>
if v_1 = 0 ∨ v_1 = 1 then some (v_1, σ_2) else none
set_option maxHeartbeats 4000000 in
set_option maxRecDepth 100000 in
theorem w_X5_isTask_0 {p : Program} {l : Launch} {e : Env} {s : State} {m : MethodId} {args : Array Value} {below : List Frame} {meth : Method} {c : Code} {Γ : GG} {res : Int32 × Sg} (M : MX RX5 cX5_isTask 2 (some .boolean) p s m args meth c) (K : KK Γ s s.heap) (a0 : Int32)  (σ : Sg) (H : Heap) (locs : List Loc) (ls : Array Slot)  (hB : Bd Γ σ s H locs) (hl : lv_has ls 2 [(0, .ref (Γ.1 150)), (1, .int a0)]) (hr : f_X5_isTask_0 a0   σ = some res) : WI Γ rm_X5_isTask p l e s m args below meth c H locs res (F0 m 0 ls []) := by
  unfold f_X5_isTask_0 at hr
  refine lv_iload_n M.1 M.2.1 dX5_isTask_0 rfl (lv_at hl 1 rfl) ?_
  refine lv_iconst (v := 0) M.1 M.2.1 dX5_isTask_1 (by decide) ?_
  refine lv_aload_n M.1 M.2.1 dX5_isTask_2 rfl (lv_at hl 0 rfl) ?_
  refine x_get5 M K hB isK_150 0 (by decide) wd_157 (v := .ref (Γ.1 151)) rfl dX5_isTask_3 ?_
  refine lv_bipush (v := 17) M.1 M.2.1 dX5_isTask_6 (by decide) ?_
  refine x_ialdL M K hB isA_151 (k := 17) (by decide) (by decide) dX5_isTask_8 ?_
  refine lv_iconst (v := 1) M.1 M.2.1 dX5_isTask_9 (by decide) ?_
  refine lv_isub M.1 M.2.1 dX5_isTask_10 ?_
  obtain ⟨v_1, σ_2, h_3, hr⟩ := cbd hr
  refine x_callI (x_runS M K hB hl.1 [.int a0, .int 0, .int ((σ 151 17) - 1)] (rest := []) rfl (c_X5_in l Γ a0 0 ((σ 151 17) - 1)  σ (v_1, σ_2) h_3) cy_X5_in wd_155 ⟨rfl, rfl, Nat.le_of_ble_eq_true rfl, Nat.le_of_ble_eq_true rfl⟩ (Nat.le_of_ble_eq_true rfl) ⟨Nat.zero_le _, Nat.zero_le _⟩ dX5_isTask_11) hB (fun H locs hB => ?_)
  replace hB : Bd Γ σ_2 s H locs := hB
  obtain ⟨g_4, hr⟩ := gd2 hr
  exact x_zret M hB (nar_z g_4) (Option.some.inj hr) dX5_isTask_14
theorem c_X5_isTask (l : Launch) (Γ : GG) (a0 : Int32)  (σ : Sg) (res : Int32 × Sg) (hr : f_X5_isTask_0 a0 σ = some res) : Met l yX5_isTask (Cond.code yX5_isTask cX5_isTask 2 (some .boolean) :: gtb) rm_X5_isTask (va_Pc [.ref (Γ.1 150), .int a0] (GI Γ σ)) (QI Γ res) 0 0 (AD Γ) :=
  x_metI (by decide) [.ref (Γ.1 150), .int a0] (Nat.le_of_ble_eq_true rfl) (fun p e s m args below meth c M K ls hl hB => w_X5_isTask_0 M K a0 σ _ _ ls hB hl hr)
abbrev rm_X5_isSetting : Room := { frames := 1, cells := 0, slots := 0, locals := 22 }
def f_X5_isSetting_108 (a0 : Int32) (a1 : Int32)  (s0 : Int32) (σ : Sg) : Option (Int32 × Sg) :=
if s0 = 0 ∨ s0 = 1 then some (s0, σ) else none
set_option maxHeartbeats 4000000 in
set_option maxRecDepth 100000 in
theorem w_X5_isSetting_108 {p : Program} {l : Launch} {e : Env} {s : State} {m : MethodId} {args : Array Value} {below : List Frame} {meth : Method} {c : Code} {Γ : GG} {res : Int32 × Sg} (M : MX RX5 cX5_isSetting 2 (some .boolean) p s m args meth c) (K : KK Γ s s.heap) (a0 : Int32) (a1 : Int32) (s0 : Int32) (σ : Sg) (H : Heap) (locs : List Loc) (ls : Array Slot)  (hB : Bd Γ σ s H locs) (hl : lv_has ls 2 []) (hr : f_X5_isSetting_108 a0 a1  s0 σ = some res) : WI Γ rm_X5_isSetting p l e s m args below meth c H locs res (F0 m 108 ls [.int s0]) := by
  unfold f_X5_isSetting_108 at hr
  obtain ⟨g_48, hr⟩ := gd2 hr
  exact x_zret M hB (nar_z g_48) (Option.some.inj hr) dX5_isSetting_108
def f_X5_isSetting_107 (a0 : Int32) (a1 : Int32)   (σ : Sg) : Option (Int32 × Sg) :=
f_X5_isSetting_108 a0 a1  0 σ
set_option maxHeartbeats 4000000 in
set_option maxRecDepth 100000 in
theorem w_X5_isSetting_107 {p : Program} {l : Launch} {e : Env} {s : State} {m : MethodId} {args : Array Value} {below : List Frame} {meth : Method} {c : Code} {Γ : GG} {res : Int32 × Sg} (M : MX RX5 cX5_isSetting 2 (some .boolean) p s m args meth c) (K : KK Γ s s.heap) (a0 : Int32) (a1 : Int32)  (σ : Sg) (H : Heap) (locs : List Loc) (ls : Array Slot)  (hB : Bd Γ σ s H locs) (hl : lv_has ls 2 []) (hr : f_X5_isSetting_107 a0 a1   σ = some res) : WI Γ rm_X5_isSetting p l e s m args below meth c H locs res (F0 m 107 ls []) := by
  unfold f_X5_isSetting_107 at hr
  refine lv_iconst (v := 0) M.1 M.2.1 dX5_isSetting_107 (by decide) ?_
  exact w_X5_isSetting_108 M K a0 a1  0 _ _ _ _  hB (lv_sub hl [] rfl) hr
def f_X5_isSetting_0 (a0 : Int32) (a1 : Int32)   (σ : Sg) : Option (Int32 × Sg) :=
if a0 = 0 then
cb (f_X5_in_0 a1 1 200 σ) fun v_3 σ_4 =>
if v_3 = 0 ∨ v_3 = 1 then some (v_3, σ_4) else none
else
if a0 = 1 then
cb (f_X5_in_0 a1 1 200 σ) fun v_9 σ_10 =>
if v_9 = 0 ∨ v_9 = 1 then some (v_9, σ_10) else none
else
if a0 = 2 then
cb (f_X5_in_0 a1 0 199 σ) fun v_15 σ_16 =>
if v_15 = 0 ∨ v_15 = 1 then some (v_15, σ_16) else none
else
if a0 = 3 then
cb (f_X5_in_0 a1 1 20 σ) fun v_21 σ_22 =>
if v_21 = 0 ∨ v_21 = 1 then some (v_21, σ_22) else none
else
if a0 = 4 then
cb (f_X5_in_0 a1 0 50 σ) fun v_27 σ_28 =>
if v_27 = 0 ∨ v_27 = 1 then some (v_27, σ_28) else none
else
if a0 = 5 then
cb (f_X5_in_0 a1 0 50 σ) fun v_33 σ_34 =>
if v_33 = 0 ∨ v_33 = 1 then some (v_33, σ_34) else none
else
if a0 = 6 then
cb (f_X5_in_0 a1 0 10 σ) fun v_39 σ_40 =>
if v_39 = 0 ∨ v_39 = 1 then some (v_39, σ_40) else none
else
if a0 = 7 then
cb (f_X5_in_0 a1 0 500 σ) fun v_44 σ_45 =>
if v_44 = 0 then
f_X5_isSetting_107 a0 a1   σ_45
else
f_X5_isSetting_108 a0 a1  1 σ_45
else
f_X5_isSetting_107 a0 a1   σ
set_option maxHeartbeats 4000000 in
set_option maxRecDepth 100000 in
theorem w_X5_isSetting_0 {p : Program} {l : Launch} {e : Env} {s : State} {m : MethodId} {args : Array Value} {below : List Frame} {meth : Method} {c : Code} {Γ : GG} {res : Int32 × Sg} (M : MX RX5 cX5_isSetting 2 (some .boolean) p s m args meth c) (K : KK Γ s s.heap) (a0 : Int32) (a1 : Int32)  (σ : Sg) (H : Heap) (locs : List Loc) (ls : Array Slot)  (hB : Bd Γ σ s H locs) (hl : lv_has ls 2 [(0, .int a0), (1, .int a1)]) (hr : f_X5_isSetting_0 a0 a1   σ = some res) : WI Γ rm_X5_isSetting p l e s m args below meth c H locs res (F0 m 0 ls []) := by
  unfold f_X5_isSetting_0 at hr
  refine lv_iload_n M.1 M.2.1 dX5_isSetting_0 rfl (lv_at hl 0 rfl) ?_
  by_cases c_1 : a0 = 0
  · rw [if_pos c_1] at hr
    have t_2 : Int32.toInt a0 = 0 := by rw [c_1]; decide
    refine lv_tableIn (off := 43) (tgt := 44) M.1 M.2.1 dX5_isSetting_1 (by rw [t_2]; decide) (by rw [t_2]; decide) (by rw [t_2]; rfl) (by decide) ?_
    refine lv_iload_n M.1 M.2.1 dX5_isSetting_44 rfl (lv_at hl 1 rfl) ?_
    refine lv_iconst (v := 1) M.1 M.2.1 dX5_isSetting_45 (by decide) ?_
    refine lv_sipush (v := 200) M.1 M.2.1 dX5_isSetting_46 (by decide) ?_
    obtain ⟨v_3, σ_4, h_5, hr⟩ := cbd hr
    refine x_callI (x_runS M K hB hl.1 [.int a1, .int 1, .int 200] (rest := []) rfl (c_X5_in l Γ a1 1 200  σ (v_3, σ_4) h_5) cy_X5_in wd_155 ⟨rfl, rfl, Nat.le_of_ble_eq_true rfl, Nat.le_of_ble_eq_true rfl⟩ (Nat.le_of_ble_eq_true rfl) ⟨Nat.zero_le _, Nat.zero_le _⟩ dX5_isSetting_49) hB (fun H locs hB => ?_)
    replace hB : Bd Γ σ_4 s H locs := hB
    obtain ⟨g_6, hr⟩ := gd2 hr
    exact x_zret M hB (nar_z g_6) (Option.some.inj hr) dX5_isSetting_52
  · rw [if_neg c_1] at hr
    have t_2 : ¬ Int32.toInt a0 = 0 := lv_neT c_1 (by decide)
    by_cases c_7 : a0 = 1
    · rw [if_pos c_7] at hr
      have t_8 : Int32.toInt a0 = 1 := by rw [c_7]; decide
      refine lv_tableIn (off := 43) (tgt := 44) M.1 M.2.1 dX5_isSetting_1 (by rw [t_8]; decide) (by rw [t_8]; decide) (by rw [t_8]; rfl) (by decide) ?_
      refine lv_iload_n M.1 M.2.1 dX5_isSetting_44 rfl (lv_at hl 1 rfl) ?_
      refine lv_iconst (v := 1) M.1 M.2.1 dX5_isSetting_45 (by decide) ?_
      refine lv_sipush (v := 200) M.1 M.2.1 dX5_isSetting_46 (by decide) ?_
      obtain ⟨v_9, σ_10, h_11, hr⟩ := cbd hr
      refine x_callI (x_runS M K hB hl.1 [.int a1, .int 1, .int 200] (rest := []) rfl (c_X5_in l Γ a1 1 200  σ (v_9, σ_10) h_11) cy_X5_in wd_155 ⟨rfl, rfl, Nat.le_of_ble_eq_true rfl, Nat.le_of_ble_eq_true rfl⟩ (Nat.le_of_ble_eq_true rfl) ⟨Nat.zero_le _, Nat.zero_le _⟩ dX5_isSetting_49) hB (fun H locs hB => ?_)
      replace hB : Bd Γ σ_10 s H locs := hB
      obtain ⟨g_12, hr⟩ := gd2 hr
      exact x_zret M hB (nar_z g_12) (Option.some.inj hr) dX5_isSetting_52
    · rw [if_neg c_7] at hr
      have t_8 : ¬ Int32.toInt a0 = 1 := lv_neT c_7 (by decide)
      by_cases c_13 : a0 = 2
      · rw [if_pos c_13] at hr
        have t_14 : Int32.toInt a0 = 2 := by rw [c_13]; decide
        refine lv_tableIn (off := 52) (tgt := 53) M.1 M.2.1 dX5_isSetting_1 (by rw [t_14]; decide) (by rw [t_14]; decide) (by rw [t_14]; rfl) (by decide) ?_
        refine lv_iload_n M.1 M.2.1 dX5_isSetting_53 rfl (lv_at hl 1 rfl) ?_
        refine lv_iconst (v := 0) M.1 M.2.1 dX5_isSetting_54 (by decide) ?_
        refine lv_sipush (v := 199) M.1 M.2.1 dX5_isSetting_55 (by decide) ?_
        obtain ⟨v_15, σ_16, h_17, hr⟩ := cbd hr
        refine x_callI (x_runS M K hB hl.1 [.int a1, .int 0, .int 199] (rest := []) rfl (c_X5_in l Γ a1 0 199  σ (v_15, σ_16) h_17) cy_X5_in wd_155 ⟨rfl, rfl, Nat.le_of_ble_eq_true rfl, Nat.le_of_ble_eq_true rfl⟩ (Nat.le_of_ble_eq_true rfl) ⟨Nat.zero_le _, Nat.zero_le _⟩ dX5_isSetting_58) hB (fun H locs hB => ?_)
        replace hB : Bd Γ σ_16 s H locs := hB
        obtain ⟨g_18, hr⟩ := gd2 hr
        exact x_zret M hB (nar_z g_18) (Option.some.inj hr) dX5_isSetting_61
      · rw [if_neg c_13] at hr
        have t_14 : ¬ Int32.toInt a0 = 2 := lv_neT c_13 (by decide)
        by_cases c_19 : a0 = 3
        · rw [if_pos c_19] at hr
          have t_20 : Int32.toInt a0 = 3 := by rw [c_19]; decide
          refine lv_tableIn (off := 61) (tgt := 62) M.1 M.2.1 dX5_isSetting_1 (by rw [t_20]; decide) (by rw [t_20]; decide) (by rw [t_20]; rfl) (by decide) ?_
          refine lv_iload_n M.1 M.2.1 dX5_isSetting_62 rfl (lv_at hl 1 rfl) ?_
          refine lv_iconst (v := 1) M.1 M.2.1 dX5_isSetting_63 (by decide) ?_
          refine lv_bipush (v := 20) M.1 M.2.1 dX5_isSetting_64 (by decide) ?_
          obtain ⟨v_21, σ_22, h_23, hr⟩ := cbd hr
          refine x_callI (x_runS M K hB hl.1 [.int a1, .int 1, .int 20] (rest := []) rfl (c_X5_in l Γ a1 1 20  σ (v_21, σ_22) h_23) cy_X5_in wd_155 ⟨rfl, rfl, Nat.le_of_ble_eq_true rfl, Nat.le_of_ble_eq_true rfl⟩ (Nat.le_of_ble_eq_true rfl) ⟨Nat.zero_le _, Nat.zero_le _⟩ dX5_isSetting_66) hB (fun H locs hB => ?_)
          replace hB : Bd Γ σ_22 s H locs := hB
          obtain ⟨g_24, hr⟩ := gd2 hr
          exact x_zret M hB (nar_z g_24) (Option.some.inj hr) dX5_isSetting_69
        · rw [if_neg c_19] at hr
          have t_20 : ¬ Int32.toInt a0 = 3 := lv_neT c_19 (by decide)
          by_cases c_25 : a0 = 4
          · rw [if_pos c_25] at hr
            have t_26 : Int32.toInt a0 = 4 := by rw [c_25]; decide
            refine lv_tableIn (off := 69) (tgt := 70) M.1 M.2.1 dX5_isSetting_1 (by rw [t_26]; decide) (by rw [t_26]; decide) (by rw [t_26]; rfl) (by decide) ?_
            refine lv_iload_n M.1 M.2.1 dX5_isSetting_70 rfl (lv_at hl 1 rfl) ?_
            refine lv_iconst (v := 0) M.1 M.2.1 dX5_isSetting_71 (by decide) ?_
            refine lv_bipush (v := 50) M.1 M.2.1 dX5_isSetting_72 (by decide) ?_
            obtain ⟨v_27, σ_28, h_29, hr⟩ := cbd hr
            refine x_callI (x_runS M K hB hl.1 [.int a1, .int 0, .int 50] (rest := []) rfl (c_X5_in l Γ a1 0 50  σ (v_27, σ_28) h_29) cy_X5_in wd_155 ⟨rfl, rfl, Nat.le_of_ble_eq_true rfl, Nat.le_of_ble_eq_true rfl⟩ (Nat.le_of_ble_eq_true rfl) ⟨Nat.zero_le _, Nat.zero_le _⟩ dX5_isSetting_74) hB (fun H locs hB => ?_)
            replace hB : Bd Γ σ_28 s H locs := hB
            obtain ⟨g_30, hr⟩ := gd2 hr
            exact x_zret M hB (nar_z g_30) (Option.some.inj hr) dX5_isSetting_77
          · rw [if_neg c_25] at hr
            have t_26 : ¬ Int32.toInt a0 = 4 := lv_neT c_25 (by decide)
            by_cases c_31 : a0 = 5
            · rw [if_pos c_31] at hr
              have t_32 : Int32.toInt a0 = 5 := by rw [c_31]; decide
              refine lv_tableIn (off := 69) (tgt := 70) M.1 M.2.1 dX5_isSetting_1 (by rw [t_32]; decide) (by rw [t_32]; decide) (by rw [t_32]; rfl) (by decide) ?_
              refine lv_iload_n M.1 M.2.1 dX5_isSetting_70 rfl (lv_at hl 1 rfl) ?_
              refine lv_iconst (v := 0) M.1 M.2.1 dX5_isSetting_71 (by decide) ?_
              refine lv_bipush (v := 50) M.1 M.2.1 dX5_isSetting_72 (by decide) ?_
              obtain ⟨v_33, σ_34, h_35, hr⟩ := cbd hr
              refine x_callI (x_runS M K hB hl.1 [.int a1, .int 0, .int 50] (rest := []) rfl (c_X5_in l Γ a1 0 50  σ (v_33, σ_34) h_35) cy_X5_in wd_155 ⟨rfl, rfl, Nat.le_of_ble_eq_true rfl, Nat.le_of_ble_eq_true rfl⟩ (Nat.le_of_ble_eq_true rfl) ⟨Nat.zero_le _, Nat.zero_le _⟩ dX5_isSetting_74) hB (fun H locs hB => ?_)
              replace hB : Bd Γ σ_34 s H locs := hB
              obtain ⟨g_36, hr⟩ := gd2 hr
              exact x_zret M hB (nar_z g_36) (Option.some.inj hr) dX5_isSetting_77
            · rw [if_neg c_31] at hr
              have t_32 : ¬ Int32.toInt a0 = 5 := lv_neT c_31 (by decide)
              by_cases c_37 : a0 = 6
              · rw [if_pos c_37] at hr
                have t_38 : Int32.toInt a0 = 6 := by rw [c_37]; decide
                refine lv_tableIn (off := 77) (tgt := 78) M.1 M.2.1 dX5_isSetting_1 (by rw [t_38]; decide) (by rw [t_38]; decide) (by rw [t_38]; rfl) (by decide) ?_
                refine lv_iload_n M.1 M.2.1 dX5_isSetting_78 rfl (lv_at hl 1 rfl) ?_
                refine lv_iconst (v := 0) M.1 M.2.1 dX5_isSetting_79 (by decide) ?_
                refine lv_bipush (v := 10) M.1 M.2.1 dX5_isSetting_80 (by decide) ?_
                obtain ⟨v_39, σ_40, h_41, hr⟩ := cbd hr
                refine x_callI (x_runS M K hB hl.1 [.int a1, .int 0, .int 10] (rest := []) rfl (c_X5_in l Γ a1 0 10  σ (v_39, σ_40) h_41) cy_X5_in wd_155 ⟨rfl, rfl, Nat.le_of_ble_eq_true rfl, Nat.le_of_ble_eq_true rfl⟩ (Nat.le_of_ble_eq_true rfl) ⟨Nat.zero_le _, Nat.zero_le _⟩ dX5_isSetting_82) hB (fun H locs hB => ?_)
                replace hB : Bd Γ σ_40 s H locs := hB
                obtain ⟨g_42, hr⟩ := gd2 hr
                exact x_zret M hB (nar_z g_42) (Option.some.inj hr) dX5_isSetting_85
              · rw [if_neg c_37] at hr
                have t_38 : ¬ Int32.toInt a0 = 6 := lv_neT c_37 (by decide)
                refine lv_tableOut (tgt := 86) M.1 M.2.1 dX5_isSetting_1 (by omega) (by decide) ?_
                refine lv_iload_n M.1 M.2.1 dX5_isSetting_86 rfl (lv_at hl 0 rfl) ?_
                refine lv_bipush (v := 7) M.1 M.2.1 dX5_isSetting_87 (by decide) ?_
                refine lv_icmp_ne (tgt := 107) M.1 M.2.1 dX5_isSetting_89 (by decide) (fun c_43 => ?_) (fun c_43 => ?_)
                · rw [if_neg c_43] at hr
                  exact w_X5_isSetting_107 M K a0 a1   _ _ _ _  hB (lv_sub hl [] rfl) hr
                · rw [if_pos c_43] at hr
                  refine lv_iload_n M.1 M.2.1 dX5_isSetting_92 rfl (lv_at hl 1 rfl) ?_
                  refine lv_iconst (v := 0) M.1 M.2.1 dX5_isSetting_93 (by decide) ?_
                  refine lv_sipush (v := 500) M.1 M.2.1 dX5_isSetting_94 (by decide) ?_
                  obtain ⟨v_44, σ_45, h_46, hr⟩ := cbd hr
                  refine x_callI (x_runS M K hB hl.1 [.int a1, .int 0, .int 500] (rest := []) rfl (c_X5_in l Γ a1 0 500  σ (v_44, σ_45) h_46) cy_X5_in wd_155 ⟨rfl, rfl, Nat.le_of_ble_eq_true rfl, Nat.le_of_ble_eq_true rfl⟩ (Nat.le_of_ble_eq_true rfl) ⟨Nat.zero_le _, Nat.zero_le _⟩ dX5_isSetting_97) hB (fun H locs hB => ?_)
                  replace hB : Bd Γ σ_45 s H locs := hB
                  refine lv_if_eq (tgt := 107) M.1 M.2.1 dX5_isSetting_100 (by decide) (fun c_47 => ?_) (fun c_47 => ?_)
                  · rw [if_pos c_47] at hr
                    exact w_X5_isSetting_107 M K a0 a1   _ _ _ _  hB (lv_sub hl [] rfl) hr
                  · rw [if_neg c_47] at hr
                    refine lv_iconst (v := 1) M.1 M.2.1 dX5_isSetting_103 (by decide) ?_
                    refine lv_goto (tgt := 108) M.1 M.2.1 dX5_isSetting_104 (by decide) ?_
                    exact w_X5_isSetting_108 M K a0 a1  1 _ _ _ _  hB (lv_sub hl [] rfl) hr
theorem c_X5_isSetting (l : Launch) (Γ : GG) (a0 : Int32) (a1 : Int32)  (σ : Sg) (res : Int32 × Sg) (hr : f_X5_isSetting_0 a0 a1 σ = some res) : Met l yX5_isSetting (Cond.code yX5_isSetting cX5_isSetting 2 (some .boolean) :: gtb) rm_X5_isSetting (va_Pc [.int a0, .int a1] (GI Γ σ)) (QI Γ res) 0 0 (AD Γ) :=
  x_metI (by decide) [.int a0, .int a1] (Nat.le_of_ble_eq_true rfl) (fun p e s m args below meth c M K ls hl hB => w_X5_isSetting_0 M K a0 a1 σ _ _ ls hB hl hr)
abbrev rm_X5_of : Room := { frames := 1, cells := 0, slots := 0, locals := 21 }
def f_X5_of_0 (a0 : Int32) (a1 : Int32)   (σ : Sg) : Option (Int32 × Sg) :=
cb (f_X5_place_0 a0 a1 σ) fun v_1 σ_2 =>
if v_1 < 0 ∨ 255 ≤ v_1.toNatClampNeg then none else
some (σ_2 151 (v_1.toNatClampNeg), σ_2)
set_option maxHeartbeats 4000000 in
set_option maxRecDepth 100000 in
theorem w_X5_of_0 {p : Program} {l : Launch} {e : Env} {s : State} {m : MethodId} {args : Array Value} {below : List Frame} {meth : Method} {c : Code} {Γ : GG} {res : Int32 × Sg} (M : MX RX5 cX5_of 3 (some .int) p s m args meth c) (K : KK Γ s s.heap) (a0 : Int32) (a1 : Int32)  (σ : Sg) (H : Heap) (locs : List Loc) (ls : Array Slot)  (hB : Bd Γ σ s H locs) (hl : lv_has ls 3 [(0, .ref (Γ.1 150)), (1, .int a0), (2, .int a1)]) (hr : f_X5_of_0 a0 a1   σ = some res) : WI Γ rm_X5_of p l e s m args below meth c H locs res (F0 m 0 ls []) := by
  unfold f_X5_of_0 at hr
  refine lv_aload_n M.1 M.2.1 dX5_of_0 rfl (lv_at hl 0 rfl) ?_
  refine x_get5 M K hB isK_150 0 (by decide) wd_157 (v := .ref (Γ.1 151)) rfl dX5_of_1 ?_
  refine lv_iload_n M.1 M.2.1 dX5_of_4 rfl (lv_at hl 1 rfl) ?_
  refine lv_iload_n M.1 M.2.1 dX5_of_5 rfl (lv_at hl 2 rfl) ?_
  obtain ⟨v_1, σ_2, h_3, hr⟩ := cbd hr
  refine x_callI (x_runS M K hB hl.1 [.int a0, .int a1] (rest := [.ref (Γ.1 151)]) rfl (c_X5_place l Γ a0 a1  σ (v_1, σ_2) h_3) cy_X5_place wd_158 ⟨rfl, rfl, Nat.le_of_ble_eq_true rfl, Nat.le_of_ble_eq_true rfl⟩ (Nat.le_of_ble_eq_true rfl) ⟨Nat.zero_le _, Nat.zero_le _⟩ dX5_of_6) hB (fun H locs hB => ?_)
  replace hB : Bd Γ σ_2 s H locs := hB
  obtain ⟨g_4, hr⟩ := gd hr
  refine x_iald M K hB isA_151 g_4 dX5_of_9 ?_
  exact x_iret M hB (Option.some.inj hr) dX5_of_10
theorem c_X5_of (l : Launch) (Γ : GG) (a0 : Int32) (a1 : Int32)  (σ : Sg) (res : Int32 × Sg) (hr : f_X5_of_0 a0 a1 σ = some res) : Met l yX5_of (Cond.code yX5_of cX5_of 3 (some .int) :: gtb) rm_X5_of (va_Pc [.ref (Γ.1 150), .int a0, .int a1] (GI Γ σ)) (QI Γ res) 0 0 (AD Γ) :=
  x_metI (by decide) [.ref (Γ.1 150), .int a0, .int a1] (Nat.le_of_ble_eq_true rfl) (fun p e s m args below meth c M K ls hl hB => w_X5_of_0 M K a0 a1 σ _ _ ls hB hl hr)
abbrev rm_X5_set : Room := { frames := 2, cells := 0, slots := 0, locals := 44 }
def f_X5_set_0 (a0 : Int32) (a1 : Int32) (a2 : Int32)   (σ : Sg) : Option (Int32 × Sg) :=
cb (f_X5_isTask_0 a0 σ) fun v_1 σ_2 =>
if v_1 = 0 then
some ((-1), σ_2)
else
cb (f_X5_isSetting_0 a1 a2 σ_2) fun v_5 σ_6 =>
if v_5 = 0 then
some ((-2), σ_6)
else
cb (f_X5_of_0 a0 a1 σ_6) fun v_9 σ_10 =>
cb (f_X5_lay_0 a0 a1 a2 σ_10) fun v_12 σ_13 =>
some (v_9, σ_13)
set_option maxHeartbeats 4000000 in
set_option maxRecDepth 100000 in
theorem w_X5_set_0 {p : Program} {l : Launch} {e : Env} {s : State} {m : MethodId} {args : Array Value} {below : List Frame} {meth : Method} {c : Code} {Γ : GG} {res : Int32 × Sg} (M : MX RX5 cX5_set 5 (some .int) p s m args meth c) (K : KK Γ s s.heap) (a0 : Int32) (a1 : Int32) (a2 : Int32)  (σ : Sg) (H : Heap) (locs : List Loc) (ls : Array Slot)  (hB : Bd Γ σ s H locs) (hl : lv_has ls 5 [(0, .ref (Γ.1 150)), (1, .int a0), (2, .int a1), (3, .int a2)]) (hr : f_X5_set_0 a0 a1 a2   σ = some res) : WI Γ rm_X5_set p l e s m args below meth c H locs res (F0 m 0 ls []) := by
  unfold f_X5_set_0 at hr
  refine lv_aload_n M.1 M.2.1 dX5_set_0 rfl (lv_at hl 0 rfl) ?_
  refine lv_iload_n M.1 M.2.1 dX5_set_1 rfl (lv_at hl 1 rfl) ?_
  obtain ⟨v_1, σ_2, h_3, hr⟩ := cbd hr
  refine x_callI (x_runV M K hB hl.1 [.int a0] (rest := []) rfl (c_X5_isTask l Γ a0  σ (v_1, σ_2) h_3) cy_X5_isTask (x_recv K hB isK_150.2 (ent_5 isK_150.1) rfl) wd_160 ⟨rfl, rfl, Nat.le_of_ble_eq_true rfl, Nat.le_of_ble_eq_true rfl⟩ (Nat.le_of_ble_eq_true rfl) ⟨Nat.zero_le _, Nat.zero_le _⟩ dX5_set_2) hB (fun H locs hB => ?_)
  replace hB : Bd Γ σ_2 s H locs := hB
  refine lv_if_ne (tgt := 10) M.1 M.2.1 dX5_set_5 (by decide) (fun c_4 => ?_) (fun c_4 => ?_)
  · rw [if_neg c_4] at hr
    refine lv_iload_n M.1 M.2.1 dX5_set_10 rfl (lv_at hl 2 rfl) ?_
    refine lv_iload_n M.1 M.2.1 dX5_set_11 rfl (lv_at hl 3 rfl) ?_
    obtain ⟨v_5, σ_6, h_7, hr⟩ := cbd hr
    refine x_callI (x_runS M K hB hl.1 [.int a1, .int a2] (rest := []) rfl (c_X5_isSetting l Γ a1 a2  σ_2 (v_5, σ_6) h_7) cy_X5_isSetting wd_161 ⟨rfl, rfl, Nat.le_of_ble_eq_true rfl, Nat.le_of_ble_eq_true rfl⟩ (Nat.le_of_ble_eq_true rfl) ⟨Nat.zero_le _, Nat.zero_le _⟩ dX5_set_12) hB (fun H locs hB => ?_)
    replace hB : Bd Γ σ_6 s H locs := hB
    refine lv_if_ne (tgt := 21) M.1 M.2.1 dX5_set_15 (by decide) (fun c_8 => ?_) (fun c_8 => ?_)
    · rw [if_neg c_8] at hr
      refine lv_aload_n M.1 M.2.1 dX5_set_21 rfl (lv_at hl 0 rfl) ?_
      refine lv_iload_n M.1 M.2.1 dX5_set_22 rfl (lv_at hl 1 rfl) ?_
      refine lv_iload_n M.1 M.2.1 dX5_set_23 rfl (lv_at hl 2 rfl) ?_
      obtain ⟨v_9, σ_10, h_11, hr⟩ := cbd hr
      refine x_callI (x_runV M K hB hl.1 [.int a0, .int a1] (rest := []) rfl (c_X5_of l Γ a0 a1  σ_6 (v_9, σ_10) h_11) cy_X5_of (x_recv K hB isK_150.2 (ent_5 isK_150.1) rfl) wd_162 ⟨rfl, rfl, Nat.le_of_ble_eq_true rfl, Nat.le_of_ble_eq_true rfl⟩ (Nat.le_of_ble_eq_true rfl) ⟨Nat.zero_le _, Nat.zero_le _⟩ dX5_set_24) hB (fun H locs hB => ?_)
      replace hB : Bd Γ σ_10 s H locs := hB
      refine lv_istore (lv' := [(4, .int v_9), (0, .ref (Γ.1 150)), (1, .int a0), (2, .int a1), (3, .int a2)]) M.1 M.2.1 dX5_set_27 hl (by decide) rfl (fun ls hl => ?_)
      refine lv_aload_n M.1 M.2.1 dX5_set_29 rfl (lv_at hl 1 rfl) ?_
      refine lv_iload_n M.1 M.2.1 dX5_set_30 rfl (lv_at hl 2 rfl) ?_
      refine lv_iload_n M.1 M.2.1 dX5_set_31 rfl (lv_at hl 3 rfl) ?_
      refine lv_iload_n M.1 M.2.1 dX5_set_32 rfl (lv_at hl 4 rfl) ?_
      obtain ⟨v_12, σ_13, h_14, hr⟩ := cbd hr
      refine x_callV (x_runV M K hB hl.1 [.int a0, .int a1, .int a2] (rest := []) rfl (c_X5_lay l Γ a0 a1 a2  σ_10 (v_12, σ_13) h_14) cy_X5_lay (x_recv K hB isK_150.2 (ent_5 isK_150.1) rfl) wd_159 ⟨rfl, rfl, Nat.le_of_ble_eq_true rfl, Nat.le_of_ble_eq_true rfl⟩ (Nat.le_of_ble_eq_true rfl) ⟨Nat.zero_le _, Nat.zero_le _⟩ dX5_set_33) hB (fun H locs hB => ?_)
      replace hB : Bd Γ σ_13 s H locs := hB
      refine lv_iload M.1 M.2.1 dX5_set_36 (lv_at hl 0 rfl) ?_
      exact x_iret M hB (Option.some.inj hr) dX5_set_38
    · rw [if_pos c_8] at hr
      refine lv_bipush (v := (-2)) M.1 M.2.1 dX5_set_18 (by decide) ?_
      exact x_iret M hB (Option.some.inj hr) dX5_set_20
  · rw [if_pos c_4] at hr
    refine lv_iconst (v := (-1)) M.1 M.2.1 dX5_set_8 (by decide) ?_
    exact x_iret M hB (Option.some.inj hr) dX5_set_9
theorem c_X5_set (l : Launch) (Γ : GG) (a0 : Int32) (a1 : Int32) (a2 : Int32)  (σ : Sg) (res : Int32 × Sg) (hr : f_X5_set_0 a0 a1 a2 σ = some res) : Met l yX5_set (Cond.code yX5_set cX5_set 5 (some .int) :: gtb) rm_X5_set (va_Pc [.ref (Γ.1 150), .int a0, .int a1, .int a2] (GI Γ σ)) (QI Γ res) 0 0 (AD Γ) :=
  x_metI (by decide) [.ref (Γ.1 150), .int a0, .int a1, .int a2] (Nat.le_of_ble_eq_true rfl) (fun p e s m args below meth c M K ls hl hB => w_X5_set_0 M K a0 a1 a2 σ _ _ ls hB hl hr)
abbrev rm_X5_layFault : Room := { frames := 2, cells := 0, slots := 0, locals := 44 }
def f_X5_layFault_0 (a0 : Int32) (a1 : Int32) (a2 : Int32) (a3 : Int32) (a4 : Int32)   (σ : Sg) : Option (Int32 × Sg) :=
cb (f_X5_lay_0 a1 (20 + (3 * a0)) a2 σ) fun v_1 σ_2 =>
cb (f_X5_lay_0 a1 ((20 + (3 * a0)) + 1) a3 σ_2) fun v_4 σ_5 =>
cb (f_X5_lay_0 a1 ((20 + (3 * a0)) + 2) a4 σ_5) fun v_7 σ_8 =>
some (0, σ_8)
set_option maxHeartbeats 4000000 in
set_option maxRecDepth 100000 in
theorem w_X5_layFault_0 {p : Program} {l : Launch} {e : Env} {s : State} {m : MethodId} {args : Array Value} {below : List Frame} {meth : Method} {c : Code} {Γ : GG} {res : Int32 × Sg} (M : MX RX5 cX5_layFault 6 none p s m args meth c) (K : KK Γ s s.heap) (a0 : Int32) (a1 : Int32) (a2 : Int32) (a3 : Int32) (a4 : Int32)  (σ : Sg) (H : Heap) (locs : List Loc) (ls : Array Slot)  (hB : Bd Γ σ s H locs) (hl : lv_has ls 6 [(0, .ref (Γ.1 150)), (1, .int a0), (2, .int a1), (3, .int a2), (4, .int a3), (5, .int a4)]) (hr : f_X5_layFault_0 a0 a1 a2 a3 a4   σ = some res) : WV Γ rm_X5_layFault p l e s m args below meth c H locs res (F0 m 0 ls []) := by
  unfold f_X5_layFault_0 at hr
  refine lv_aload_n M.1 M.2.1 dX5_layFault_0 rfl (lv_at hl 0 rfl) ?_
  refine lv_iload_n M.1 M.2.1 dX5_layFault_1 rfl (lv_at hl 2 rfl) ?_
  refine lv_bipush (v := 20) M.1 M.2.1 dX5_layFault_2 (by decide) ?_
  refine lv_iconst (v := 3) M.1 M.2.1 dX5_layFault_4 (by decide) ?_
  refine lv_iload_n M.1 M.2.1 dX5_layFault_5 rfl (lv_at hl 1 rfl) ?_
  refine lv_imul M.1 M.2.1 dX5_layFault_6 ?_
  refine lv_iadd M.1 M.2.1 dX5_layFault_7 ?_
  refine lv_iload_n M.1 M.2.1 dX5_layFault_8 rfl (lv_at hl 3 rfl) ?_
  obtain ⟨v_1, σ_2, h_3, hr⟩ := cbd hr
  refine x_callV (x_runV M K hB hl.1 [.int a1, .int (20 + (3 * a0)), .int a2] (rest := []) rfl (c_X5_lay l Γ a1 (20 + (3 * a0)) a2  σ (v_1, σ_2) h_3) cy_X5_lay (x_recv K hB isK_150.2 (ent_5 isK_150.1) rfl) wd_159 ⟨rfl, rfl, Nat.le_of_ble_eq_true rfl, Nat.le_of_ble_eq_true rfl⟩ (Nat.le_of_ble_eq_true rfl) ⟨Nat.zero_le _, Nat.zero_le _⟩ dX5_layFault_9) hB (fun H locs hB => ?_)
  replace hB : Bd Γ σ_2 s H locs := hB
  refine lv_aload_n M.1 M.2.1 dX5_layFault_12 rfl (lv_at hl 0 rfl) ?_
  refine lv_iload_n M.1 M.2.1 dX5_layFault_13 rfl (lv_at hl 2 rfl) ?_
  refine lv_bipush (v := 20) M.1 M.2.1 dX5_layFault_14 (by decide) ?_
  refine lv_iconst (v := 3) M.1 M.2.1 dX5_layFault_16 (by decide) ?_
  refine lv_iload_n M.1 M.2.1 dX5_layFault_17 rfl (lv_at hl 1 rfl) ?_
  refine lv_imul M.1 M.2.1 dX5_layFault_18 ?_
  refine lv_iadd M.1 M.2.1 dX5_layFault_19 ?_
  refine lv_iconst (v := 1) M.1 M.2.1 dX5_layFault_20 (by decide) ?_
  refine lv_iadd M.1 M.2.1 dX5_layFault_21 ?_
  refine lv_iload M.1 M.2.1 dX5_layFault_22 (lv_at hl 4 rfl) ?_
  obtain ⟨v_4, σ_5, h_6, hr⟩ := cbd hr
  refine x_callV (x_runV M K hB hl.1 [.int a1, .int ((20 + (3 * a0)) + 1), .int a3] (rest := []) rfl (c_X5_lay l Γ a1 ((20 + (3 * a0)) + 1) a3  σ_2 (v_4, σ_5) h_6) cy_X5_lay (x_recv K hB isK_150.2 (ent_5 isK_150.1) rfl) wd_159 ⟨rfl, rfl, Nat.le_of_ble_eq_true rfl, Nat.le_of_ble_eq_true rfl⟩ (Nat.le_of_ble_eq_true rfl) ⟨Nat.zero_le _, Nat.zero_le _⟩ dX5_layFault_24) hB (fun H locs hB => ?_)
  replace hB : Bd Γ σ_5 s H locs := hB
  refine lv_aload_n M.1 M.2.1 dX5_layFault_27 rfl (lv_at hl 0 rfl) ?_
  refine lv_iload_n M.1 M.2.1 dX5_layFault_28 rfl (lv_at hl 2 rfl) ?_
  refine lv_bipush (v := 20) M.1 M.2.1 dX5_layFault_29 (by decide) ?_
  refine lv_iconst (v := 3) M.1 M.2.1 dX5_layFault_31 (by decide) ?_
  refine lv_iload_n M.1 M.2.1 dX5_layFault_32 rfl (lv_at hl 1 rfl) ?_
  refine lv_imul M.1 M.2.1 dX5_layFault_33 ?_
  refine lv_iadd M.1 M.2.1 dX5_layFault_34 ?_
  refine lv_iconst (v := 2) M.1 M.2.1 dX5_layFault_35 (by decide) ?_
  refine lv_iadd M.1 M.2.1 dX5_layFault_36 ?_
  refine lv_iload M.1 M.2.1 dX5_layFault_37 (lv_at hl 5 rfl) ?_
  obtain ⟨v_7, σ_8, h_9, hr⟩ := cbd hr
  refine x_callV (x_runV M K hB hl.1 [.int a1, .int ((20 + (3 * a0)) + 2), .int a4] (rest := []) rfl (c_X5_lay l Γ a1 ((20 + (3 * a0)) + 2) a4  σ_5 (v_7, σ_8) h_9) cy_X5_lay (x_recv K hB isK_150.2 (ent_5 isK_150.1) rfl) wd_159 ⟨rfl, rfl, Nat.le_of_ble_eq_true rfl, Nat.le_of_ble_eq_true rfl⟩ (Nat.le_of_ble_eq_true rfl) ⟨Nat.zero_le _, Nat.zero_le _⟩ dX5_layFault_39) hB (fun H locs hB => ?_)
  replace hB : Bd Γ σ_8 s H locs := hB
  exact x_vret M hB (Option.some.inj hr) dX5_layFault_42
theorem c_X5_layFault (l : Launch) (Γ : GG) (a0 : Int32) (a1 : Int32) (a2 : Int32) (a3 : Int32) (a4 : Int32)  (σ : Sg) (res : Int32 × Sg) (hr : f_X5_layFault_0 a0 a1 a2 a3 a4 σ = some res) : Met l yX5_layFault (Cond.code yX5_layFault cX5_layFault 6 none :: gtb) rm_X5_layFault (va_Pc [.ref (Γ.1 150), .int a0, .int a1, .int a2, .int a3, .int a4] (GI Γ σ)) (QV Γ res) 0 0 (AD Γ) :=
  x_metV (by decide) [.ref (Γ.1 150), .int a0, .int a1, .int a2, .int a3, .int a4] (Nat.le_of_ble_eq_true rfl) (fun p e s m args below meth c M K ls hl hB => w_X5_layFault_0 M K a0 a1 a2 a3 a4 σ _ _ ls hB hl hr)
abbrev rm_X5_putFault : Room := { frames := 3, cells := 0, slots := 0, locals := 69 }
def f_X5_putFault_52 (a0 : Int32) (a1 : Int32) (a2 : Int32) (a3 : Int32) (a4 : Int32)   (σ : Sg) : Option (Int32 × Sg) :=
some ((-2), σ)
set_option maxHeartbeats 4000000 in
set_option maxRecDepth 100000 in
theorem w_X5_putFault_52 {p : Program} {l : Launch} {e : Env} {s : State} {m : MethodId} {args : Array Value} {below : List Frame} {meth : Method} {c : Code} {Γ : GG} {res : Int32 × Sg} (M : MX RX5 cX5_putFault 7 (some .int) p s m args meth c) (K : KK Γ s s.heap) (a0 : Int32) (a1 : Int32) (a2 : Int32) (a3 : Int32) (a4 : Int32)  (σ : Sg) (H : Heap) (locs : List Loc) (ls : Array Slot)  (hB : Bd Γ σ s H locs) (hl : lv_has ls 7 []) (hr : f_X5_putFault_52 a0 a1 a2 a3 a4   σ = some res) : WI Γ rm_X5_putFault p l e s m args below meth c H locs res (F0 m 52 ls []) := by
  unfold f_X5_putFault_52 at hr
  refine lv_bipush (v := (-2)) M.1 M.2.1 dX5_putFault_52 (by decide) ?_
  exact x_iret M hB (Option.some.inj hr) dX5_putFault_54
def f_X5_putFault_17 (a0 : Int32) (a1 : Int32) (a2 : Int32) (a3 : Int32) (a4 : Int32)   (σ : Sg) : Option (Int32 × Sg) :=
some ((-1), σ)
set_option maxHeartbeats 4000000 in
set_option maxRecDepth 100000 in
theorem w_X5_putFault_17 {p : Program} {l : Launch} {e : Env} {s : State} {m : MethodId} {args : Array Value} {below : List Frame} {meth : Method} {c : Code} {Γ : GG} {res : Int32 × Sg} (M : MX RX5 cX5_putFault 7 (some .int) p s m args meth c) (K : KK Γ s s.heap) (a0 : Int32) (a1 : Int32) (a2 : Int32) (a3 : Int32) (a4 : Int32)  (σ : Sg) (H : Heap) (locs : List Loc) (ls : Array Slot)  (hB : Bd Γ σ s H locs) (hl : lv_has ls 7 []) (hr : f_X5_putFault_17 a0 a1 a2 a3 a4   σ = some res) : WI Γ rm_X5_putFault p l e s m args below meth c H locs res (F0 m 17 ls []) := by
  unfold f_X5_putFault_17 at hr
  refine lv_iconst (v := (-1)) M.1 M.2.1 dX5_putFault_17 (by decide) ?_
  exact x_iret M hB (Option.some.inj hr) dX5_putFault_18
def f_X5_putFault_0 (a0 : Int32) (a1 : Int32) (a2 : Int32) (a3 : Int32) (a4 : Int32)   (σ : Sg) : Option (Int32 × Sg) :=
cb (f_X5_in_0 a0 0 1 σ) fun v_1 σ_2 =>
if v_1 = 0 then
f_X5_putFault_17 a0 a1 a2 a3 a4   σ_2
else
cb (f_X5_isTask_0 a1 σ_2) fun v_5 σ_6 =>
if v_5 = 0 then
f_X5_putFault_17 a0 a1 a2 a3 a4   σ_6
else
cb (f_X5_in_0 a2 0 5 σ_6) fun v_9 σ_10 =>
if v_9 = 0 then
f_X5_putFault_52 a0 a1 a2 a3 a4   σ_10
else
cb (f_X5_in_0 a3 0 5000 σ_10) fun v_13 σ_14 =>
if v_13 = 0 then
f_X5_putFault_52 a0 a1 a2 a3 a4   σ_14
else
cb (f_X5_in_0 a4 0 500 σ_14) fun v_17 σ_18 =>
if v_17 = 0 then
f_X5_putFault_52 a0 a1 a2 a3 a4   σ_18
else
cb (f_X5_of_0 a1 (20 + (3 * a0)) σ_18) fun v_21 σ_22 =>
cb (f_X5_layFault_0 a0 a1 a2 a3 a4 σ_22) fun v_24 σ_25 =>
some (v_21, σ_25)
set_option maxHeartbeats 4000000 in
set_option maxRecDepth 100000 in
theorem w_X5_putFault_0 {p : Program} {l : Launch} {e : Env} {s : State} {m : MethodId} {args : Array Value} {below : List Frame} {meth : Method} {c : Code} {Γ : GG} {res : Int32 × Sg} (M : MX RX5 cX5_putFault 7 (some .int) p s m args meth c) (K : KK Γ s s.heap) (a0 : Int32) (a1 : Int32) (a2 : Int32) (a3 : Int32) (a4 : Int32)  (σ : Sg) (H : Heap) (locs : List Loc) (ls : Array Slot)  (hB : Bd Γ σ s H locs) (hl : lv_has ls 7 [(0, .ref (Γ.1 150)), (1, .int a0), (2, .int a1), (3, .int a2), (4, .int a3), (5, .int a4)]) (hr : f_X5_putFault_0 a0 a1 a2 a3 a4   σ = some res) : WI Γ rm_X5_putFault p l e s m args below meth c H locs res (F0 m 0 ls []) := by
  unfold f_X5_putFault_0 at hr
  refine lv_iload_n M.1 M.2.1 dX5_putFault_0 rfl (lv_at hl 1 rfl) ?_
  refine lv_iconst (v := 0) M.1 M.2.1 dX5_putFault_1 (by decide) ?_
  refine lv_iconst (v := 1) M.1 M.2.1 dX5_putFault_2 (by decide) ?_
  obtain ⟨v_1, σ_2, h_3, hr⟩ := cbd hr
  refine x_callI (x_runS M K hB hl.1 [.int a0, .int 0, .int 1] (rest := []) rfl (c_X5_in l Γ a0 0 1  σ (v_1, σ_2) h_3) cy_X5_in wd_155 ⟨rfl, rfl, Nat.le_of_ble_eq_true rfl, Nat.le_of_ble_eq_true rfl⟩ (Nat.le_of_ble_eq_true rfl) ⟨Nat.zero_le _, Nat.zero_le _⟩ dX5_putFault_3) hB (fun H locs hB => ?_)
  replace hB : Bd Γ σ_2 s H locs := hB
  refine lv_if_eq (tgt := 17) M.1 M.2.1 dX5_putFault_6 (by decide) (fun c_4 => ?_) (fun c_4 => ?_)
  · rw [if_pos c_4] at hr
    exact w_X5_putFault_17 M K a0 a1 a2 a3 a4   _ _ _ _  hB (lv_sub hl [] rfl) hr
  · rw [if_neg c_4] at hr
    refine lv_aload_n M.1 M.2.1 dX5_putFault_9 rfl (lv_at hl 0 rfl) ?_
    refine lv_iload_n M.1 M.2.1 dX5_putFault_10 rfl (lv_at hl 2 rfl) ?_
    obtain ⟨v_5, σ_6, h_7, hr⟩ := cbd hr
    refine x_callI (x_runV M K hB hl.1 [.int a1] (rest := []) rfl (c_X5_isTask l Γ a1  σ_2 (v_5, σ_6) h_7) cy_X5_isTask (x_recv K hB isK_150.2 (ent_5 isK_150.1) rfl) wd_160 ⟨rfl, rfl, Nat.le_of_ble_eq_true rfl, Nat.le_of_ble_eq_true rfl⟩ (Nat.le_of_ble_eq_true rfl) ⟨Nat.zero_le _, Nat.zero_le _⟩ dX5_putFault_11) hB (fun H locs hB => ?_)
    replace hB : Bd Γ σ_6 s H locs := hB
    refine lv_if_ne (tgt := 19) M.1 M.2.1 dX5_putFault_14 (by decide) (fun c_8 => ?_) (fun c_8 => ?_)
    · rw [if_neg c_8] at hr
      refine lv_iload_n M.1 M.2.1 dX5_putFault_19 rfl (lv_at hl 3 rfl) ?_
      refine lv_iconst (v := 0) M.1 M.2.1 dX5_putFault_20 (by decide) ?_
      refine lv_iconst (v := 5) M.1 M.2.1 dX5_putFault_21 (by decide) ?_
      obtain ⟨v_9, σ_10, h_11, hr⟩ := cbd hr
      refine x_callI (x_runS M K hB hl.1 [.int a2, .int 0, .int 5] (rest := []) rfl (c_X5_in l Γ a2 0 5  σ_6 (v_9, σ_10) h_11) cy_X5_in wd_155 ⟨rfl, rfl, Nat.le_of_ble_eq_true rfl, Nat.le_of_ble_eq_true rfl⟩ (Nat.le_of_ble_eq_true rfl) ⟨Nat.zero_le _, Nat.zero_le _⟩ dX5_putFault_22) hB (fun H locs hB => ?_)
      replace hB : Bd Γ σ_10 s H locs := hB
      refine lv_if_eq (tgt := 52) M.1 M.2.1 dX5_putFault_25 (by decide) (fun c_12 => ?_) (fun c_12 => ?_)
      · rw [if_pos c_12] at hr
        exact w_X5_putFault_52 M K a0 a1 a2 a3 a4   _ _ _ _  hB (lv_sub hl [] rfl) hr
      · rw [if_neg c_12] at hr
        refine lv_iload M.1 M.2.1 dX5_putFault_28 (lv_at hl 4 rfl) ?_
        refine lv_iconst (v := 0) M.1 M.2.1 dX5_putFault_30 (by decide) ?_
        refine lv_sipush (v := 5000) M.1 M.2.1 dX5_putFault_31 (by decide) ?_
        obtain ⟨v_13, σ_14, h_15, hr⟩ := cbd hr
        refine x_callI (x_runS M K hB hl.1 [.int a3, .int 0, .int 5000] (rest := []) rfl (c_X5_in l Γ a3 0 5000  σ_10 (v_13, σ_14) h_15) cy_X5_in wd_155 ⟨rfl, rfl, Nat.le_of_ble_eq_true rfl, Nat.le_of_ble_eq_true rfl⟩ (Nat.le_of_ble_eq_true rfl) ⟨Nat.zero_le _, Nat.zero_le _⟩ dX5_putFault_34) hB (fun H locs hB => ?_)
        replace hB : Bd Γ σ_14 s H locs := hB
        refine lv_if_eq (tgt := 52) M.1 M.2.1 dX5_putFault_37 (by decide) (fun c_16 => ?_) (fun c_16 => ?_)
        · rw [if_pos c_16] at hr
          exact w_X5_putFault_52 M K a0 a1 a2 a3 a4   _ _ _ _  hB (lv_sub hl [] rfl) hr
        · rw [if_neg c_16] at hr
          refine lv_iload M.1 M.2.1 dX5_putFault_40 (lv_at hl 5 rfl) ?_
          refine lv_iconst (v := 0) M.1 M.2.1 dX5_putFault_42 (by decide) ?_
          refine lv_sipush (v := 500) M.1 M.2.1 dX5_putFault_43 (by decide) ?_
          obtain ⟨v_17, σ_18, h_19, hr⟩ := cbd hr
          refine x_callI (x_runS M K hB hl.1 [.int a4, .int 0, .int 500] (rest := []) rfl (c_X5_in l Γ a4 0 500  σ_14 (v_17, σ_18) h_19) cy_X5_in wd_155 ⟨rfl, rfl, Nat.le_of_ble_eq_true rfl, Nat.le_of_ble_eq_true rfl⟩ (Nat.le_of_ble_eq_true rfl) ⟨Nat.zero_le _, Nat.zero_le _⟩ dX5_putFault_46) hB (fun H locs hB => ?_)
          replace hB : Bd Γ σ_18 s H locs := hB
          refine lv_if_ne (tgt := 55) M.1 M.2.1 dX5_putFault_49 (by decide) (fun c_20 => ?_) (fun c_20 => ?_)
          · rw [if_neg c_20] at hr
            refine lv_aload_n M.1 M.2.1 dX5_putFault_55 rfl (lv_at hl 0 rfl) ?_
            refine lv_iload_n M.1 M.2.1 dX5_putFault_56 rfl (lv_at hl 2 rfl) ?_
            refine lv_bipush (v := 20) M.1 M.2.1 dX5_putFault_57 (by decide) ?_
            refine lv_iconst (v := 3) M.1 M.2.1 dX5_putFault_59 (by decide) ?_
            refine lv_iload_n M.1 M.2.1 dX5_putFault_60 rfl (lv_at hl 1 rfl) ?_
            refine lv_imul M.1 M.2.1 dX5_putFault_61 ?_
            refine lv_iadd M.1 M.2.1 dX5_putFault_62 ?_
            obtain ⟨v_21, σ_22, h_23, hr⟩ := cbd hr
            refine x_callI (x_runV M K hB hl.1 [.int a1, .int (20 + (3 * a0))] (rest := []) rfl (c_X5_of l Γ a1 (20 + (3 * a0))  σ_18 (v_21, σ_22) h_23) cy_X5_of (x_recv K hB isK_150.2 (ent_5 isK_150.1) rfl) wd_162 ⟨rfl, rfl, Nat.le_of_ble_eq_true rfl, Nat.le_of_ble_eq_true rfl⟩ (Nat.le_of_ble_eq_true rfl) ⟨Nat.zero_le _, Nat.zero_le _⟩ dX5_putFault_63) hB (fun H locs hB => ?_)
            replace hB : Bd Γ σ_22 s H locs := hB
            refine lv_istore (lv' := [(6, .int v_21), (0, .ref (Γ.1 150)), (1, .int a0), (2, .int a1), (3, .int a2), (4, .int a3), (5, .int a4)]) M.1 M.2.1 dX5_putFault_66 hl (by decide) rfl (fun ls hl => ?_)
            refine lv_aload_n M.1 M.2.1 dX5_putFault_68 rfl (lv_at hl 1 rfl) ?_
            refine lv_iload_n M.1 M.2.1 dX5_putFault_69 rfl (lv_at hl 2 rfl) ?_
            refine lv_iload_n M.1 M.2.1 dX5_putFault_70 rfl (lv_at hl 3 rfl) ?_
            refine lv_iload_n M.1 M.2.1 dX5_putFault_71 rfl (lv_at hl 4 rfl) ?_
            refine lv_iload M.1 M.2.1 dX5_putFault_72 (lv_at hl 5 rfl) ?_
            refine lv_iload M.1 M.2.1 dX5_putFault_74 (lv_at hl 6 rfl) ?_
            obtain ⟨v_24, σ_25, h_26, hr⟩ := cbd hr
            refine x_callV (x_runV M K hB hl.1 [.int a0, .int a1, .int a2, .int a3, .int a4] (rest := []) rfl (c_X5_layFault l Γ a0 a1 a2 a3 a4  σ_22 (v_24, σ_25) h_26) cy_X5_layFault (x_recv K hB isK_150.2 (ent_5 isK_150.1) rfl) wd_163 ⟨rfl, rfl, Nat.le_of_ble_eq_true rfl, Nat.le_of_ble_eq_true rfl⟩ (Nat.le_of_ble_eq_true rfl) ⟨Nat.zero_le _, Nat.zero_le _⟩ dX5_putFault_76) hB (fun H locs hB => ?_)
            replace hB : Bd Γ σ_25 s H locs := hB
            refine lv_iload M.1 M.2.1 dX5_putFault_79 (lv_at hl 0 rfl) ?_
            exact x_iret M hB (Option.some.inj hr) dX5_putFault_81
          · rw [if_pos c_20] at hr
            exact w_X5_putFault_52 M K a0 a1 a2 a3 a4   _ _ _ _  hB (lv_sub hl [] rfl) hr
    · rw [if_pos c_8] at hr
      exact w_X5_putFault_17 M K a0 a1 a2 a3 a4   _ _ _ _  hB (lv_sub hl [] rfl) hr
theorem c_X5_putFault (l : Launch) (Γ : GG) (a0 : Int32) (a1 : Int32) (a2 : Int32) (a3 : Int32) (a4 : Int32)  (σ : Sg) (res : Int32 × Sg) (hr : f_X5_putFault_0 a0 a1 a2 a3 a4 σ = some res) : Met l yX5_putFault (Cond.code yX5_putFault cX5_putFault 7 (some .int) :: gtb) rm_X5_putFault (va_Pc [.ref (Γ.1 150), .int a0, .int a1, .int a2, .int a3, .int a4] (GI Γ σ)) (QI Γ res) 0 0 (AD Γ) :=
  x_metI (by decide) [.ref (Γ.1 150), .int a0, .int a1, .int a2, .int a3, .int a4] (Nat.le_of_ble_eq_true rfl) (fun p e s m args below meth c M K ls hl hB => w_X5_putFault_0 M K a0 a1 a2 a3 a4 σ _ _ ls hB hl hr)
abbrev rm_X5_put : Room := { frames := 1, cells := 0, slots := 0, locals := 22 }
def f_X5_put_86 (a0 : Int64)  : Nat → Int64 → Int32 → Int32 → Sg → Option (Int32 × Sg)
  | 0, _, _, _, _ => none
  | f + 1, x1, x3, x6, σ => if x3 ≤ x6 then
wb (st σ 150 5 ((σ 150 5) + x3)) fun σ_11 =>
some (σ_11 150 5, σ_11)
else
if (σ 150 5) + x6 < 0 ∨ 60 ≤ ((σ 150 5) + x6).toNatClampNeg then none else
wb (st σ 155 (((σ 150 5) + x6).toNatClampNeg) (((x1 >>> ((8 * ((x3 - 1) - x6)).toInt64 &&& 63)) &&& 255).toInt32)) fun σ_14 =>
f_X5_put_86 a0  f x1 x3 (x6 + 1) σ_14
set_option maxHeartbeats 4000000 in
set_option maxRecDepth 100000 in
theorem w_X5_put_86 {p : Program} {l : Launch} {e : Env} {s : State} {m : MethodId} {args : Array Value} {below : List Frame} {meth : Method} {c : Code} {Γ : GG} {res : Int32 × Sg} (M : MX RX5 cX5_put 7 (some .int) p s m args meth c) (K : KK Γ s s.heap) (a0 : Int64) : ∀ (f : Nat) (x1 : Int64) (x3 : Int32) (x6 : Int32) (σ : Sg) (H : Heap) (locs : List Loc) (ls : Array Slot)  (hB : Bd Γ σ s H locs) (hl : lv_has ls 7 [(0, .ref (Γ.1 150)), (1, .long x1), (3, .int x3), (6, .int x6)]) (hr : f_X5_put_86 a0  f x1 x3 x6 σ = some res), WI Γ rm_X5_put p l e s m args below meth c H locs res (F0 m 86 ls []) := by
  intro f
  induction f with
  | zero => intros; rename_i hr; exact absurd hr (by rw [f_X5_put_86]; exact fun h => by cases h)
  | succ f ih_86 =>
    intro x1 x3 x6 σ H locs ls  hB hl hr
    rw [f_X5_put_86] at hr
    refine lv_iload M.1 M.2.1 dX5_put_86 (lv_at hl 3 rfl) ?_
    refine lv_iload_n M.1 M.2.1 dX5_put_88 rfl (lv_at hl 2 rfl) ?_
    refine lv_icmp_ge (tgt := 126) M.1 M.2.1 dX5_put_89 (by decide) (fun c_10 => ?_) (fun c_10 => ?_)
    · rw [if_pos c_10] at hr
      refine lv_aload_n M.1 M.2.1 dX5_put_126 rfl (lv_at hl 0 rfl) ?_
      refine lv_dup M.1 M.2.1 dX5_put_127 rfl ?_
      refine x_get5 M K hB isK_150 5 (by decide) wd_165 (v := .int (σ 150 5)) rfl dX5_put_128 ?_
      refine lv_iload_n M.1 M.2.1 dX5_put_131 rfl (lv_at hl 2 rfl) ?_
      refine lv_iadd M.1 M.2.1 dX5_put_132 ?_
      obtain ⟨σ_11, e_12, hr⟩ := wbd hr
      refine x_put5 M K hB isK_150 5 (by decide) wd_165 dX5_put_133 (fun H locs hB => ?_)
      rw [← e_12] at hB
      refine lv_aload_n M.1 M.2.1 dX5_put_136 rfl (lv_at hl 0 rfl) ?_
      refine x_get5 M K hB isK_150 5 (by decide) wd_165 (v := .int (σ_11 150 5)) rfl dX5_put_137 ?_
      exact x_iret M hB (Option.some.inj hr) dX5_put_140
    · rw [if_neg c_10] at hr
      refine lv_aload_n M.1 M.2.1 dX5_put_92 rfl (lv_at hl 0 rfl) ?_
      refine x_get5 M K hB isK_150 4 (by decide) wd_166 (v := .ref (Γ.1 155)) rfl dX5_put_93 ?_
      refine lv_aload_n M.1 M.2.1 dX5_put_96 rfl (lv_at hl 0 rfl) ?_
      refine x_get5 M K hB isK_150 5 (by decide) wd_165 (v := .int (σ 150 5)) rfl dX5_put_97 ?_
      refine lv_iload M.1 M.2.1 dX5_put_100 (lv_at hl 3 rfl) ?_
      refine lv_iadd M.1 M.2.1 dX5_put_102 ?_
      refine lv_lload_n M.1 M.2.1 dX5_put_103 rfl (lv_at hl 1 rfl) ?_
      refine lv_bipush (v := 8) M.1 M.2.1 dX5_put_104 (by decide) ?_
      refine lv_iload_n M.1 M.2.1 dX5_put_106 rfl (lv_at hl 2 rfl) ?_
      refine lv_iconst (v := 1) M.1 M.2.1 dX5_put_107 (by decide) ?_
      refine lv_isub M.1 M.2.1 dX5_put_108 ?_
      refine lv_iload M.1 M.2.1 dX5_put_109 (lv_at hl 3 rfl) ?_
      refine lv_isub M.1 M.2.1 dX5_put_111 ?_
      refine lv_imul M.1 M.2.1 dX5_put_112 ?_
      refine lv_lshr (v := x1 >>> ((8 * ((x3 - 1) - x6)).toInt64 &&& 63)) M.1 M.2.1 dX5_put_113 rfl ?_
      refine x_ldc2 (v := 255) M wd_164 dX5_put_114 ?_
      refine lv_land M.1 M.2.1 dX5_put_117 ?_
      refine lv_l2i (v := ((x1 >>> ((8 * ((x3 - 1) - x6)).toInt64 &&& 63)) &&& 255).toInt32) M.1 M.2.1 dX5_put_118 rfl ?_
      obtain ⟨g_13, hr⟩ := gd hr
      obtain ⟨σ_14, e_15, hr⟩ := wbd hr
      refine x_iast M K hB isA_155 g_13 dX5_put_119 (fun H locs hB => ?_)
      rw [← e_15] at hB
      refine lv_iinc (v := x6 + 1) (lv' := [(6, .int (x6 + 1)), (0, .ref (Γ.1 150)), (1, .long x1), (3, .int x3)]) M.1 M.2.1 dX5_put_120 hl (k := 3) rfl rfl (by decide) rfl (fun ls hl => ?_)
      refine lv_goto (tgt := 86) M.1 M.2.1 dX5_put_123 (by decide) ?_
      exact ih_86 x1 x3 (x6 + 1) _ _ _ _  hB (lv_sub hl [1, 2, 3, 0] rfl) hr
def f_X5_put_66 (a0 : Int64)   (σ : Sg) : Option (Int32 × Sg) :=
some ((-2), σ)
set_option maxHeartbeats 4000000 in
set_option maxRecDepth 100000 in
theorem w_X5_put_66 {p : Program} {l : Launch} {e : Env} {s : State} {m : MethodId} {args : Array Value} {below : List Frame} {meth : Method} {c : Code} {Γ : GG} {res : Int32 × Sg} (M : MX RX5 cX5_put 7 (some .int) p s m args meth c) (K : KK Γ s s.heap) (a0 : Int64)  (σ : Sg) (H : Heap) (locs : List Loc) (ls : Array Slot)  (hB : Bd Γ σ s H locs) (hl : lv_has ls 7 []) (hr : f_X5_put_66 a0   σ = some res) : WI Γ rm_X5_put p l e s m args below meth c H locs res (F0 m 66 ls []) := by
  unfold f_X5_put_66 at hr
  refine lv_bipush (v := (-2)) M.1 M.2.1 dX5_put_66 (by decide) ?_
  exact x_iret M hB (Option.some.inj hr) dX5_put_68
def f_X5_put_55 (a0 : Int64)  (x1 : Int64) (x3 : Int32) (x4 : Int64) (σ : Sg) : Option (Int32 × Sg) :=
if x3 = 0 then
f_X5_put_66 a0   σ
else
if lg_cmp x4 0 = 0 then
if (σ 150 5) + x3 ≤ 60 then
f_X5_put_86 a0  FU x1 x3 0 σ
else
some ((-4), σ)
else
f_X5_put_66 a0   σ
set_option maxHeartbeats 4000000 in
set_option maxRecDepth 100000 in
theorem w_X5_put_55 {p : Program} {l : Launch} {e : Env} {s : State} {m : MethodId} {args : Array Value} {below : List Frame} {meth : Method} {c : Code} {Γ : GG} {res : Int32 × Sg} (M : MX RX5 cX5_put 7 (some .int) p s m args meth c) (K : KK Γ s s.heap) (a0 : Int64) (x1 : Int64) (x3 : Int32) (x4 : Int64) (σ : Sg) (H : Heap) (locs : List Loc) (ls : Array Slot)  (hB : Bd Γ σ s H locs) (hl : lv_has ls 7 [(0, .ref (Γ.1 150)), (1, .long x1), (3, .int x3), (4, .long x4)]) (hr : f_X5_put_55 a0  x1 x3 x4 σ = some res) : WI Γ rm_X5_put p l e s m args below meth c H locs res (F0 m 55 ls []) := by
  unfold f_X5_put_55 at hr
  refine lv_iload_n M.1 M.2.1 dX5_put_55 rfl (lv_at hl 2 rfl) ?_
  refine lv_if_eq (tgt := 66) M.1 M.2.1 dX5_put_56 (by decide) (fun c_7 => ?_) (fun c_7 => ?_)
  · rw [if_pos c_7] at hr
    exact w_X5_put_66 M K a0   _ _ _ _  hB (lv_sub hl [] rfl) hr
  · rw [if_neg c_7] at hr
    refine lv_lload M.1 M.2.1 dX5_put_59 (lv_at hl 3 rfl) ?_
    refine lv_lconst (v := 0) M.1 M.2.1 dX5_put_61 (by decide) ?_
    refine W.lcmp M.1 M.2.1 dX5_put_62 ?_
    refine lv_if_eq (tgt := 69) M.1 M.2.1 dX5_put_63 (by decide) (fun c_8 => ?_) (fun c_8 => ?_)
    · rw [if_pos c_8] at hr
      refine lv_aload_n M.1 M.2.1 dX5_put_69 rfl (lv_at hl 0 rfl) ?_
      refine x_get5 M K hB isK_150 5 (by decide) wd_165 (v := .int (σ 150 5)) rfl dX5_put_70 ?_
      refine lv_iload_n M.1 M.2.1 dX5_put_73 rfl (lv_at hl 2 rfl) ?_
      refine lv_iadd M.1 M.2.1 dX5_put_74 ?_
      refine lv_bipush (v := 60) M.1 M.2.1 dX5_put_75 (by decide) ?_
      refine lv_icmp_le (tgt := 83) M.1 M.2.1 dX5_put_77 (by decide) (fun c_9 => ?_) (fun c_9 => ?_)
      · rw [if_pos c_9] at hr
        refine lv_iconst (v := 0) M.1 M.2.1 dX5_put_83 (by decide) ?_
        refine lv_istore (lv' := [(6, .int 0), (0, .ref (Γ.1 150)), (1, .long x1), (3, .int x3), (4, .long x4)]) M.1 M.2.1 dX5_put_84 hl (by decide) rfl (fun ls hl => ?_)
        exact w_X5_put_86 M K a0  FU x1 x3 0 _ _ _ _  hB (lv_sub hl [1, 2, 3, 0] rfl) hr
      · rw [if_neg c_9] at hr
        refine lv_bipush (v := (-4)) M.1 M.2.1 dX5_put_80 (by decide) ?_
        exact x_iret M hB (Option.some.inj hr) dX5_put_82
    · rw [if_neg c_8] at hr
      exact w_X5_put_66 M K a0   _ _ _ _  hB (lv_sub hl [] rfl) hr
def f_X5_put_5 (a0 : Int64)  : Nat → Int64 → Int32 → Int64 → Sg → Option (Int32 × Sg)
  | 0, _, _, _, _ => none
  | f + 1, x1, x3, x4, σ => if 8 ≤ x3 then
f_X5_put_55 a0  x1 x3 x4 σ
else
if lg_cmp (x4 &&& 255) 0 = 0 then
f_X5_put_55 a0  x1 x3 x4 σ
else
cb (f_X5_in_0 ((x4 &&& 255).toInt32) 33 126 σ) fun v_3 σ_4 =>
if v_3 = 0 then
some ((-2), σ_4)
else
f_X5_put_5 a0  f x1 (x3 + 1) ((x4.toUInt64 >>> ((8 : Int32).toInt64.toUInt64 &&& Int64.toUInt64 63)).toInt64) σ_4
set_option maxHeartbeats 4000000 in
set_option maxRecDepth 100000 in
theorem w_X5_put_5 {p : Program} {l : Launch} {e : Env} {s : State} {m : MethodId} {args : Array Value} {below : List Frame} {meth : Method} {c : Code} {Γ : GG} {res : Int32 × Sg} (M : MX RX5 cX5_put 7 (some .int) p s m args meth c) (K : KK Γ s s.heap) (a0 : Int64) : ∀ (f : Nat) (x1 : Int64) (x3 : Int32) (x4 : Int64) (σ : Sg) (H : Heap) (locs : List Loc) (ls : Array Slot)  (hB : Bd Γ σ s H locs) (hl : lv_has ls 7 [(0, .ref (Γ.1 150)), (1, .long x1), (3, .int x3), (4, .long x4)]) (hr : f_X5_put_5 a0  f x1 x3 x4 σ = some res), WI Γ rm_X5_put p l e s m args below meth c H locs res (F0 m 5 ls []) := by
  intro f
  induction f with
  | zero => intros; rename_i hr; exact absurd hr (by rw [f_X5_put_5]; exact fun h => by cases h)
  | succ f ih_5 =>
    intro x1 x3 x4 σ H locs ls  hB hl hr
    rw [f_X5_put_5] at hr
    refine lv_iload_n M.1 M.2.1 dX5_put_5 rfl (lv_at hl 2 rfl) ?_
    refine lv_bipush (v := 8) M.1 M.2.1 dX5_put_6 (by decide) ?_
    refine lv_icmp_ge (tgt := 55) M.1 M.2.1 dX5_put_8 (by decide) (fun c_1 => ?_) (fun c_1 => ?_)
    · rw [if_pos c_1] at hr
      exact w_X5_put_55 M K a0  x1 x3 x4 _ _ _ _  hB (lv_sub hl [0, 1, 2, 3] rfl) hr
    · rw [if_neg c_1] at hr
      refine lv_lload M.1 M.2.1 dX5_put_11 (lv_at hl 3 rfl) ?_
      refine x_ldc2 (v := 255) M wd_164 dX5_put_13 ?_
      refine lv_land M.1 M.2.1 dX5_put_16 ?_
      refine lv_lconst (v := 0) M.1 M.2.1 dX5_put_17 (by decide) ?_
      refine W.lcmp M.1 M.2.1 dX5_put_18 ?_
      refine lv_if_eq (tgt := 55) M.1 M.2.1 dX5_put_19 (by decide) (fun c_2 => ?_) (fun c_2 => ?_)
      · rw [if_pos c_2] at hr
        exact w_X5_put_55 M K a0  x1 x3 x4 _ _ _ _  hB (lv_sub hl [0, 1, 2, 3] rfl) hr
      · rw [if_neg c_2] at hr
        refine lv_lload M.1 M.2.1 dX5_put_22 (lv_at hl 3 rfl) ?_
        refine x_ldc2 (v := 255) M wd_164 dX5_put_24 ?_
        refine lv_land M.1 M.2.1 dX5_put_27 ?_
        refine lv_l2i (v := (x4 &&& 255).toInt32) M.1 M.2.1 dX5_put_28 rfl ?_
        refine lv_bipush (v := 33) M.1 M.2.1 dX5_put_29 (by decide) ?_
        refine lv_bipush (v := 126) M.1 M.2.1 dX5_put_31 (by decide) ?_
        obtain ⟨v_3, σ_4, h_5, hr⟩ := cbd hr
        refine x_callI (x_runS M K hB hl.1 [.int ((x4 &&& 255).toInt32), .int 33, .int 126] (rest := []) rfl (c_X5_in l Γ ((x4 &&& 255).toInt32) 33 126  σ (v_3, σ_4) h_5) cy_X5_in wd_155 ⟨rfl, rfl, Nat.le_of_ble_eq_true rfl, Nat.le_of_ble_eq_true rfl⟩ (Nat.le_of_ble_eq_true rfl) ⟨Nat.zero_le _, Nat.zero_le _⟩ dX5_put_33) hB (fun H locs hB => ?_)
        replace hB : Bd Γ σ_4 s H locs := hB
        refine lv_if_ne (tgt := 42) M.1 M.2.1 dX5_put_36 (by decide) (fun c_6 => ?_) (fun c_6 => ?_)
        · rw [if_neg c_6] at hr
          refine lv_iinc (v := x3 + 1) (lv' := [(3, .int (x3 + 1)), (0, .ref (Γ.1 150)), (1, .long x1), (4, .long x4)]) M.1 M.2.1 dX5_put_42 hl (k := 2) rfl rfl (by decide) rfl (fun ls hl => ?_)
          refine lv_lload M.1 M.2.1 dX5_put_45 (lv_at hl 3 rfl) ?_
          refine lv_bipush (v := 8) M.1 M.2.1 dX5_put_47 (by decide) ?_
          refine lv_lushr (v := (x4.toUInt64 >>> ((8 : Int32).toInt64.toUInt64 &&& Int64.toUInt64 63)).toInt64) M.1 M.2.1 dX5_put_49 rfl ?_
          refine lv_lstore (lv' := [(4, .long ((x4.toUInt64 >>> ((8 : Int32).toInt64.toUInt64 &&& Int64.toUInt64 63)).toInt64)), (3, .int (x3 + 1)), (0, .ref (Γ.1 150)), (1, .long x1)]) M.1 M.2.1 dX5_put_50 hl (by decide) rfl (fun ls hl => ?_)
          refine lv_goto (tgt := 5) M.1 M.2.1 dX5_put_52 (by decide) ?_
          exact ih_5 x1 (x3 + 1) ((x4.toUInt64 >>> ((8 : Int32).toInt64.toUInt64 &&& Int64.toUInt64 63)).toInt64) _ _ _ _  hB (lv_sub hl [2, 3, 1, 0] rfl) hr
        · rw [if_pos c_6] at hr
          refine lv_bipush (v := (-2)) M.1 M.2.1 dX5_put_39 (by decide) ?_
          exact x_iret M hB (Option.some.inj hr) dX5_put_41
def f_X5_put_0 (a0 : Int64)   (σ : Sg) : Option (Int32 × Sg) :=
f_X5_put_5 a0  FU a0 0 a0 σ
set_option maxHeartbeats 4000000 in
set_option maxRecDepth 100000 in
theorem w_X5_put_0 {p : Program} {l : Launch} {e : Env} {s : State} {m : MethodId} {args : Array Value} {below : List Frame} {meth : Method} {c : Code} {Γ : GG} {res : Int32 × Sg} (M : MX RX5 cX5_put 7 (some .int) p s m args meth c) (K : KK Γ s s.heap) (a0 : Int64)  (σ : Sg) (H : Heap) (locs : List Loc) (ls : Array Slot)  (hB : Bd Γ σ s H locs) (hl : lv_has ls 7 [(0, .ref (Γ.1 150)), (1, .long a0)]) (hr : f_X5_put_0 a0   σ = some res) : WI Γ rm_X5_put p l e s m args below meth c H locs res (F0 m 0 ls []) := by
  unfold f_X5_put_0 at hr
  refine lv_iconst (v := 0) M.1 M.2.1 dX5_put_0 (by decide) ?_
  refine lv_istore_n (lv' := [(3, .int 0), (0, .ref (Γ.1 150)), (1, .long a0)]) M.1 M.2.1 dX5_put_1 rfl hl (by decide) rfl (fun ls hl => ?_)
  refine lv_lload_n M.1 M.2.1 dX5_put_2 rfl (lv_at hl 2 rfl) ?_
  refine lv_lstore (lv' := [(4, .long a0), (3, .int 0), (0, .ref (Γ.1 150)), (1, .long a0)]) M.1 M.2.1 dX5_put_3 hl (by decide) rfl (fun ls hl => ?_)
  exact w_X5_put_5 M K a0  FU a0 0 a0 _ _ _ _  hB (lv_sub hl [2, 3, 1, 0] rfl) hr
theorem c_X5_put (l : Launch) (Γ : GG) (a0 : Int64)  (σ : Sg) (res : Int32 × Sg) (hr : f_X5_put_0 a0 σ = some res) : Met l yX5_put (Cond.code yX5_put cX5_put 7 (some .int) :: gtb) rm_X5_put (va_Pc [.ref (Γ.1 150), .long a0] (GI Γ σ)) (QI Γ res) 0 0 (AD Γ) :=
  x_metI (by decide) [.ref (Γ.1 150), .long a0] (Nat.le_of_ble_eq_true rfl) (fun p e s m args below meth c M K ls hl hB => w_X5_put_0 M K a0 σ _ _ ls hB hl hr)
abbrev rm_X5_wipe : Room := { frames := 0, cells := 0, slots := 0, locals := 0 }
def f_X5_wipe_0    (σ : Sg) : Option (Int32 × Sg) :=
wb (st σ 150 5 0) fun σ_1 =>
some (σ 150 5, σ_1)
set_option maxHeartbeats 4000000 in
set_option maxRecDepth 100000 in
theorem w_X5_wipe_0 {p : Program} {l : Launch} {e : Env} {s : State} {m : MethodId} {args : Array Value} {below : List Frame} {meth : Method} {c : Code} {Γ : GG} {res : Int32 × Sg} (M : MX RX5 cX5_wipe 2 (some .int) p s m args meth c) (K : KK Γ s s.heap)   (σ : Sg) (H : Heap) (locs : List Loc) (ls : Array Slot)  (hB : Bd Γ σ s H locs) (hl : lv_has ls 2 [(0, .ref (Γ.1 150))]) (hr : f_X5_wipe_0    σ = some res) : WI Γ rm_X5_wipe p l e s m args below meth c H locs res (F0 m 0 ls []) := by
  unfold f_X5_wipe_0 at hr
  refine lv_aload_n M.1 M.2.1 dX5_wipe_0 rfl (lv_at hl 0 rfl) ?_
  refine x_get5 M K hB isK_150 5 (by decide) wd_165 (v := .int (σ 150 5)) rfl dX5_wipe_1 ?_
  refine lv_istore_n (lv' := [(1, .int (σ 150 5)), (0, .ref (Γ.1 150))]) M.1 M.2.1 dX5_wipe_4 rfl hl (by decide) rfl (fun ls hl => ?_)
  refine lv_aload_n M.1 M.2.1 dX5_wipe_5 rfl (lv_at hl 1 rfl) ?_
  refine lv_iconst (v := 0) M.1 M.2.1 dX5_wipe_6 (by decide) ?_
  obtain ⟨σ_1, e_2, hr⟩ := wbd hr
  refine x_put5 M K hB isK_150 5 (by decide) wd_165 dX5_wipe_7 (fun H locs hB => ?_)
  rw [← e_2] at hB
  refine lv_iload_n M.1 M.2.1 dX5_wipe_10 rfl (lv_at hl 0 rfl) ?_
  exact x_iret M hB (Option.some.inj hr) dX5_wipe_11
theorem c_X5_wipe (l : Launch) (Γ : GG)   (σ : Sg) (res : Int32 × Sg) (hr : f_X5_wipe_0  σ = some res) : Met l yX5_wipe (Cond.code yX5_wipe cX5_wipe 2 (some .int) :: gtb) rm_X5_wipe (va_Pc [.ref (Γ.1 150)] (GI Γ σ)) (QI Γ res) 0 0 (AD Γ) :=
  x_metI (by decide) [.ref (Γ.1 150)] (Nat.le_of_ble_eq_true rfl) (fun p e s m args below meth c M K ls hl hB => w_X5_wipe_0 M K  σ _ _ ls hB hl hr)
abbrev rm_X5_next : Room := { frames := 0, cells := 0, slots := 0, locals := 0 }
def f_X5_next_24   (s0 : Int32) (σ : Sg) : Option (Int32 × Sg) :=
some (s0, σ)
set_option maxHeartbeats 4000000 in
set_option maxRecDepth 100000 in
theorem w_X5_next_24 {p : Program} {l : Launch} {e : Env} {s : State} {m : MethodId} {args : Array Value} {below : List Frame} {meth : Method} {c : Code} {Γ : GG} {res : Int32 × Sg} (M : MX RX5 cX5_next 1 (some .int) p s m args meth c) (K : KK Γ s s.heap)  (s0 : Int32) (σ : Sg) (H : Heap) (locs : List Loc) (ls : Array Slot)  (hB : Bd Γ σ s H locs) (hl : lv_has ls 1 []) (hr : f_X5_next_24   s0 σ = some res) : WI Γ rm_X5_next p l e s m args below meth c H locs res (F0 m 24 ls [.int s0]) := by
  unfold f_X5_next_24 at hr
  exact x_iret M hB (Option.some.inj hr) dX5_next_24
def f_X5_next_0    (σ : Sg) : Option (Int32 × Sg) :=
if σ 150 5 ≤ σ 150 6 then
f_X5_next_24   0 σ
else
if σ 150 6 < 0 ∨ 60 ≤ (σ 150 6).toNatClampNeg then none else
f_X5_next_24   (σ 155 ((σ 150 6).toNatClampNeg)) σ
set_option maxHeartbeats 4000000 in
set_option maxRecDepth 100000 in
theorem w_X5_next_0 {p : Program} {l : Launch} {e : Env} {s : State} {m : MethodId} {args : Array Value} {below : List Frame} {meth : Method} {c : Code} {Γ : GG} {res : Int32 × Sg} (M : MX RX5 cX5_next 1 (some .int) p s m args meth c) (K : KK Γ s s.heap)   (σ : Sg) (H : Heap) (locs : List Loc) (ls : Array Slot)  (hB : Bd Γ σ s H locs) (hl : lv_has ls 1 [(0, .ref (Γ.1 150))]) (hr : f_X5_next_0    σ = some res) : WI Γ rm_X5_next p l e s m args below meth c H locs res (F0 m 0 ls []) := by
  unfold f_X5_next_0 at hr
  refine lv_aload_n M.1 M.2.1 dX5_next_0 rfl (lv_at hl 0 rfl) ?_
  refine x_get5 M K hB isK_150 6 (by decide) wd_167 (v := .int (σ 150 6)) rfl dX5_next_1 ?_
  refine lv_aload_n M.1 M.2.1 dX5_next_4 rfl (lv_at hl 0 rfl) ?_
  refine x_get5 M K hB isK_150 5 (by decide) wd_165 (v := .int (σ 150 5)) rfl dX5_next_5 ?_
  refine lv_icmp_ge (tgt := 23) M.1 M.2.1 dX5_next_8 (by decide) (fun c_1 => ?_) (fun c_1 => ?_)
  · rw [if_pos c_1] at hr
    refine lv_iconst (v := 0) M.1 M.2.1 dX5_next_23 (by decide) ?_
    exact w_X5_next_24 M K   0 _ _ _ _  hB (lv_sub hl [] rfl) hr
  · rw [if_neg c_1] at hr
    refine lv_aload_n M.1 M.2.1 dX5_next_11 rfl (lv_at hl 0 rfl) ?_
    refine x_get5 M K hB isK_150 4 (by decide) wd_166 (v := .ref (Γ.1 155)) rfl dX5_next_12 ?_
    refine lv_aload_n M.1 M.2.1 dX5_next_15 rfl (lv_at hl 0 rfl) ?_
    refine x_get5 M K hB isK_150 6 (by decide) wd_167 (v := .int (σ 150 6)) rfl dX5_next_16 ?_
    obtain ⟨g_2, hr⟩ := gd hr
    refine x_iald M K hB isA_155 g_2 dX5_next_19 ?_
    refine lv_goto (tgt := 24) M.1 M.2.1 dX5_next_20 (by decide) ?_
    exact w_X5_next_24 M K   (σ 155 ((σ 150 6).toNatClampNeg)) _ _ _ _  hB (lv_sub hl [] rfl) hr
theorem c_X5_next (l : Launch) (Γ : GG)   (σ : Sg) (res : Int32 × Sg) (hr : f_X5_next_0  σ = some res) : Met l yX5_next (Cond.code yX5_next cX5_next 1 (some .int) :: gtb) rm_X5_next (va_Pc [.ref (Γ.1 150)] (GI Γ σ)) (QI Γ res) 0 0 (AD Γ) :=
  x_metI (by decide) [.ref (Γ.1 150)] (Nat.le_of_ble_eq_true rfl) (fun p e s m args below meth c M K ls hl hB => w_X5_next_0 M K  σ _ _ ls hB hl hr)
