abbrev rm_X5_kindOf : Room := { frames := 0, cells := 0, slots := 0, locals := 0 }
def f_X5_kindOf_90 (a0 : Int32)  (s0 : Int32) (σ : Sg) : Option (Int32 × Sg) :=
some (s0, σ)
set_option maxHeartbeats 4000000 in
set_option maxRecDepth 100000 in
theorem w_X5_kindOf_90 {p : Program} {l : Launch} {e : Env} {s : State} {m : MethodId} {args : Array Value} {below : List Frame} {meth : Method} {c : Code} {Γ : GG} {res : Int32 × Sg} (M : MX RX5 cX5_kindOf 1 (some .int) p s m args meth c) (K : KK Γ s s.heap) (a0 : Int32) (s0 : Int32) (σ : Sg) (H : Heap) (locs : List Loc) (ls : Array Slot)  (hB : Bd Γ σ s H locs) (hl : lv_has ls 1 []) (hr : f_X5_kindOf_90 a0  s0 σ = some res) : WI Γ rm_X5_kindOf p l e s m args below meth c H locs res (F0 m 90 ls [.int s0]) := by
  unfold f_X5_kindOf_90 at hr
  exact x_iret M hB (Option.some.inj hr) dX5_kindOf_90
def f_X5_kindOf_0 (a0 : Int32)   (σ : Sg) : Option (Int32 × Sg) :=
if a0 = 104 then
some (1, σ)
else
if a0 = 105 then
if a0 = 99 then
f_X5_kindOf_90 a0  5 σ
else
f_X5_kindOf_90 a0  (-6) σ
else
if a0 = 106 then
if a0 = 99 then
f_X5_kindOf_90 a0  5 σ
else
f_X5_kindOf_90 a0  (-6) σ
else
if a0 = 107 then
some (3, σ)
else
if a0 = 108 then
if a0 = 99 then
f_X5_kindOf_90 a0  5 σ
else
f_X5_kindOf_90 a0  (-6) σ
else
if a0 = 109 then
if a0 = 99 then
f_X5_kindOf_90 a0  5 σ
else
f_X5_kindOf_90 a0  (-6) σ
else
if a0 = 110 then
some (0, σ)
else
if a0 = 111 then
if a0 = 99 then
f_X5_kindOf_90 a0  5 σ
else
f_X5_kindOf_90 a0  (-6) σ
else
if a0 = 112 then
if a0 = 99 then
f_X5_kindOf_90 a0  5 σ
else
f_X5_kindOf_90 a0  (-6) σ
else
if a0 = 113 then
if a0 = 99 then
f_X5_kindOf_90 a0  5 σ
else
f_X5_kindOf_90 a0  (-6) σ
else
if a0 = 114 then
if a0 = 99 then
f_X5_kindOf_90 a0  5 σ
else
f_X5_kindOf_90 a0  (-6) σ
else
if a0 = 115 then
some (2, σ)
else
if a0 = 116 then
some (4, σ)
else
if a0 = 99 then
f_X5_kindOf_90 a0  5 σ
else
f_X5_kindOf_90 a0  (-6) σ
set_option maxHeartbeats 4000000 in
set_option maxRecDepth 100000 in
theorem w_X5_kindOf_0 {p : Program} {l : Launch} {e : Env} {s : State} {m : MethodId} {args : Array Value} {below : List Frame} {meth : Method} {c : Code} {Γ : GG} {res : Int32 × Sg} (M : MX RX5 cX5_kindOf 1 (some .int) p s m args meth c) (K : KK Γ s s.heap) (a0 : Int32)  (σ : Sg) (H : Heap) (locs : List Loc) (ls : Array Slot)  (hB : Bd Γ σ s H locs) (hl : lv_has ls 1 [(0, .int a0)]) (hr : f_X5_kindOf_0 a0   σ = some res) : WI Γ rm_X5_kindOf p l e s m args below meth c H locs res (F0 m 0 ls []) := by
  unfold f_X5_kindOf_0 at hr
  refine lv_iload_n M.1 M.2.1 dX5_kindOf_0 rfl (lv_at hl 0 rfl) ?_
  by_cases c_1 : a0 = 104
  · rw [if_pos c_1] at hr
    have t_2 : Int32.toInt a0 = 104 := by rw [c_1]; decide
    refine lv_tableIn (off := 69) (tgt := 70) M.1 M.2.1 dX5_kindOf_1 (by rw [t_2]; decide) (by rw [t_2]; decide) (by rw [t_2]; rfl) (by decide) ?_
    refine lv_iconst (v := 1) M.1 M.2.1 dX5_kindOf_70 (by decide) ?_
    exact x_iret M hB (Option.some.inj hr) dX5_kindOf_71
  · rw [if_neg c_1] at hr
    have t_2 : ¬ Int32.toInt a0 = 104 := lv_neT c_1 (by decide)
    by_cases c_3 : a0 = 105
    · rw [if_pos c_3] at hr
      have t_4 : Int32.toInt a0 = 105 := by rw [c_3]; decide
      refine lv_tableIn (off := 77) (tgt := 78) M.1 M.2.1 dX5_kindOf_1 (by rw [t_4]; decide) (by rw [t_4]; decide) (by rw [t_4]; rfl) (by decide) ?_
      refine lv_iload_n M.1 M.2.1 dX5_kindOf_78 rfl (lv_at hl 0 rfl) ?_
      refine lv_bipush (v := 99) M.1 M.2.1 dX5_kindOf_79 (by decide) ?_
      refine lv_icmp_ne (tgt := 88) M.1 M.2.1 dX5_kindOf_81 (by decide) (fun c_5 => ?_) (fun c_5 => ?_)
      · rw [if_neg c_5] at hr
        refine lv_bipush (v := (-6)) M.1 M.2.1 dX5_kindOf_88 (by decide) ?_
        exact w_X5_kindOf_90 M K a0  (-6) _ _ _ _  hB (lv_sub hl [] rfl) hr
      · rw [if_pos c_5] at hr
        refine lv_iconst (v := 5) M.1 M.2.1 dX5_kindOf_84 (by decide) ?_
        refine lv_goto (tgt := 90) M.1 M.2.1 dX5_kindOf_85 (by decide) ?_
        exact w_X5_kindOf_90 M K a0  5 _ _ _ _  hB (lv_sub hl [] rfl) hr
    · rw [if_neg c_3] at hr
      have t_4 : ¬ Int32.toInt a0 = 105 := lv_neT c_3 (by decide)
      by_cases c_6 : a0 = 106
      · rw [if_pos c_6] at hr
        have t_7 : Int32.toInt a0 = 106 := by rw [c_6]; decide
        refine lv_tableIn (off := 77) (tgt := 78) M.1 M.2.1 dX5_kindOf_1 (by rw [t_7]; decide) (by rw [t_7]; decide) (by rw [t_7]; rfl) (by decide) ?_
        refine lv_iload_n M.1 M.2.1 dX5_kindOf_78 rfl (lv_at hl 0 rfl) ?_
        refine lv_bipush (v := 99) M.1 M.2.1 dX5_kindOf_79 (by decide) ?_
        refine lv_icmp_ne (tgt := 88) M.1 M.2.1 dX5_kindOf_81 (by decide) (fun c_8 => ?_) (fun c_8 => ?_)
        · rw [if_neg c_8] at hr
          refine lv_bipush (v := (-6)) M.1 M.2.1 dX5_kindOf_88 (by decide) ?_
          exact w_X5_kindOf_90 M K a0  (-6) _ _ _ _  hB (lv_sub hl [] rfl) hr
        · rw [if_pos c_8] at hr
          refine lv_iconst (v := 5) M.1 M.2.1 dX5_kindOf_84 (by decide) ?_
          refine lv_goto (tgt := 90) M.1 M.2.1 dX5_kindOf_85 (by decide) ?_
          exact w_X5_kindOf_90 M K a0  5 _ _ _ _  hB (lv_sub hl [] rfl) hr
      · rw [if_neg c_6] at hr
        have t_7 : ¬ Int32.toInt a0 = 106 := lv_neT c_6 (by decide)
        by_cases c_9 : a0 = 107
        · rw [if_pos c_9] at hr
          have t_10 : Int32.toInt a0 = 107 := by rw [c_9]; decide
          refine lv_tableIn (off := 73) (tgt := 74) M.1 M.2.1 dX5_kindOf_1 (by rw [t_10]; decide) (by rw [t_10]; decide) (by rw [t_10]; rfl) (by decide) ?_
          refine lv_iconst (v := 3) M.1 M.2.1 dX5_kindOf_74 (by decide) ?_
          exact x_iret M hB (Option.some.inj hr) dX5_kindOf_75
        · rw [if_neg c_9] at hr
          have t_10 : ¬ Int32.toInt a0 = 107 := lv_neT c_9 (by decide)
          by_cases c_11 : a0 = 108
          · rw [if_pos c_11] at hr
            have t_12 : Int32.toInt a0 = 108 := by rw [c_11]; decide
            refine lv_tableIn (off := 77) (tgt := 78) M.1 M.2.1 dX5_kindOf_1 (by rw [t_12]; decide) (by rw [t_12]; decide) (by rw [t_12]; rfl) (by decide) ?_
            refine lv_iload_n M.1 M.2.1 dX5_kindOf_78 rfl (lv_at hl 0 rfl) ?_
            refine lv_bipush (v := 99) M.1 M.2.1 dX5_kindOf_79 (by decide) ?_
            refine lv_icmp_ne (tgt := 88) M.1 M.2.1 dX5_kindOf_81 (by decide) (fun c_13 => ?_) (fun c_13 => ?_)
            · rw [if_neg c_13] at hr
              refine lv_bipush (v := (-6)) M.1 M.2.1 dX5_kindOf_88 (by decide) ?_
              exact w_X5_kindOf_90 M K a0  (-6) _ _ _ _  hB (lv_sub hl [] rfl) hr
            · rw [if_pos c_13] at hr
              refine lv_iconst (v := 5) M.1 M.2.1 dX5_kindOf_84 (by decide) ?_
              refine lv_goto (tgt := 90) M.1 M.2.1 dX5_kindOf_85 (by decide) ?_
              exact w_X5_kindOf_90 M K a0  5 _ _ _ _  hB (lv_sub hl [] rfl) hr
          · rw [if_neg c_11] at hr
            have t_12 : ¬ Int32.toInt a0 = 108 := lv_neT c_11 (by decide)
            by_cases c_14 : a0 = 109
            · rw [if_pos c_14] at hr
              have t_15 : Int32.toInt a0 = 109 := by rw [c_14]; decide
              refine lv_tableIn (off := 77) (tgt := 78) M.1 M.2.1 dX5_kindOf_1 (by rw [t_15]; decide) (by rw [t_15]; decide) (by rw [t_15]; rfl) (by decide) ?_
              refine lv_iload_n M.1 M.2.1 dX5_kindOf_78 rfl (lv_at hl 0 rfl) ?_
              refine lv_bipush (v := 99) M.1 M.2.1 dX5_kindOf_79 (by decide) ?_
              refine lv_icmp_ne (tgt := 88) M.1 M.2.1 dX5_kindOf_81 (by decide) (fun c_16 => ?_) (fun c_16 => ?_)
              · rw [if_neg c_16] at hr
                refine lv_bipush (v := (-6)) M.1 M.2.1 dX5_kindOf_88 (by decide) ?_
                exact w_X5_kindOf_90 M K a0  (-6) _ _ _ _  hB (lv_sub hl [] rfl) hr
              · rw [if_pos c_16] at hr
                refine lv_iconst (v := 5) M.1 M.2.1 dX5_kindOf_84 (by decide) ?_
                refine lv_goto (tgt := 90) M.1 M.2.1 dX5_kindOf_85 (by decide) ?_
                exact w_X5_kindOf_90 M K a0  5 _ _ _ _  hB (lv_sub hl [] rfl) hr
            · rw [if_neg c_14] at hr
              have t_15 : ¬ Int32.toInt a0 = 109 := lv_neT c_14 (by decide)
              by_cases c_17 : a0 = 110
              · rw [if_pos c_17] at hr
                have t_18 : Int32.toInt a0 = 110 := by rw [c_17]; decide
                refine lv_tableIn (off := 67) (tgt := 68) M.1 M.2.1 dX5_kindOf_1 (by rw [t_18]; decide) (by rw [t_18]; decide) (by rw [t_18]; rfl) (by decide) ?_
                refine lv_iconst (v := 0) M.1 M.2.1 dX5_kindOf_68 (by decide) ?_
                exact x_iret M hB (Option.some.inj hr) dX5_kindOf_69
              · rw [if_neg c_17] at hr
                have t_18 : ¬ Int32.toInt a0 = 110 := lv_neT c_17 (by decide)
                by_cases c_19 : a0 = 111
                · rw [if_pos c_19] at hr
                  have t_20 : Int32.toInt a0 = 111 := by rw [c_19]; decide
                  refine lv_tableIn (off := 77) (tgt := 78) M.1 M.2.1 dX5_kindOf_1 (by rw [t_20]; decide) (by rw [t_20]; decide) (by rw [t_20]; rfl) (by decide) ?_
                  refine lv_iload_n M.1 M.2.1 dX5_kindOf_78 rfl (lv_at hl 0 rfl) ?_
                  refine lv_bipush (v := 99) M.1 M.2.1 dX5_kindOf_79 (by decide) ?_
                  refine lv_icmp_ne (tgt := 88) M.1 M.2.1 dX5_kindOf_81 (by decide) (fun c_21 => ?_) (fun c_21 => ?_)
                  · rw [if_neg c_21] at hr
                    refine lv_bipush (v := (-6)) M.1 M.2.1 dX5_kindOf_88 (by decide) ?_
                    exact w_X5_kindOf_90 M K a0  (-6) _ _ _ _  hB (lv_sub hl [] rfl) hr
                  · rw [if_pos c_21] at hr
                    refine lv_iconst (v := 5) M.1 M.2.1 dX5_kindOf_84 (by decide) ?_
                    refine lv_goto (tgt := 90) M.1 M.2.1 dX5_kindOf_85 (by decide) ?_
                    exact w_X5_kindOf_90 M K a0  5 _ _ _ _  hB (lv_sub hl [] rfl) hr
                · rw [if_neg c_19] at hr
                  have t_20 : ¬ Int32.toInt a0 = 111 := lv_neT c_19 (by decide)
                  by_cases c_22 : a0 = 112
                  · rw [if_pos c_22] at hr
                    have t_23 : Int32.toInt a0 = 112 := by rw [c_22]; decide
                    refine lv_tableIn (off := 77) (tgt := 78) M.1 M.2.1 dX5_kindOf_1 (by rw [t_23]; decide) (by rw [t_23]; decide) (by rw [t_23]; rfl) (by decide) ?_
                    refine lv_iload_n M.1 M.2.1 dX5_kindOf_78 rfl (lv_at hl 0 rfl) ?_
                    refine lv_bipush (v := 99) M.1 M.2.1 dX5_kindOf_79 (by decide) ?_
                    refine lv_icmp_ne (tgt := 88) M.1 M.2.1 dX5_kindOf_81 (by decide) (fun c_24 => ?_) (fun c_24 => ?_)
                    · rw [if_neg c_24] at hr
                      refine lv_bipush (v := (-6)) M.1 M.2.1 dX5_kindOf_88 (by decide) ?_
                      exact w_X5_kindOf_90 M K a0  (-6) _ _ _ _  hB (lv_sub hl [] rfl) hr
                    · rw [if_pos c_24] at hr
                      refine lv_iconst (v := 5) M.1 M.2.1 dX5_kindOf_84 (by decide) ?_
                      refine lv_goto (tgt := 90) M.1 M.2.1 dX5_kindOf_85 (by decide) ?_
                      exact w_X5_kindOf_90 M K a0  5 _ _ _ _  hB (lv_sub hl [] rfl) hr
                  · rw [if_neg c_22] at hr
                    have t_23 : ¬ Int32.toInt a0 = 112 := lv_neT c_22 (by decide)
                    by_cases c_25 : a0 = 113
                    · rw [if_pos c_25] at hr
                      have t_26 : Int32.toInt a0 = 113 := by rw [c_25]; decide
                      refine lv_tableIn (off := 77) (tgt := 78) M.1 M.2.1 dX5_kindOf_1 (by rw [t_26]; decide) (by rw [t_26]; decide) (by rw [t_26]; rfl) (by decide) ?_
                      refine lv_iload_n M.1 M.2.1 dX5_kindOf_78 rfl (lv_at hl 0 rfl) ?_
                      refine lv_bipush (v := 99) M.1 M.2.1 dX5_kindOf_79 (by decide) ?_
                      refine lv_icmp_ne (tgt := 88) M.1 M.2.1 dX5_kindOf_81 (by decide) (fun c_27 => ?_) (fun c_27 => ?_)
                      · rw [if_neg c_27] at hr
                        refine lv_bipush (v := (-6)) M.1 M.2.1 dX5_kindOf_88 (by decide) ?_
                        exact w_X5_kindOf_90 M K a0  (-6) _ _ _ _  hB (lv_sub hl [] rfl) hr
                      · rw [if_pos c_27] at hr
                        refine lv_iconst (v := 5) M.1 M.2.1 dX5_kindOf_84 (by decide) ?_
                        refine lv_goto (tgt := 90) M.1 M.2.1 dX5_kindOf_85 (by decide) ?_
                        exact w_X5_kindOf_90 M K a0  5 _ _ _ _  hB (lv_sub hl [] rfl) hr
                    · rw [if_neg c_25] at hr
                      have t_26 : ¬ Int32.toInt a0 = 113 := lv_neT c_25 (by decide)
                      by_cases c_28 : a0 = 114
                      · rw [if_pos c_28] at hr
                        have t_29 : Int32.toInt a0 = 114 := by rw [c_28]; decide
                        refine lv_tableIn (off := 77) (tgt := 78) M.1 M.2.1 dX5_kindOf_1 (by rw [t_29]; decide) (by rw [t_29]; decide) (by rw [t_29]; rfl) (by decide) ?_
                        refine lv_iload_n M.1 M.2.1 dX5_kindOf_78 rfl (lv_at hl 0 rfl) ?_
                        refine lv_bipush (v := 99) M.1 M.2.1 dX5_kindOf_79 (by decide) ?_
                        refine lv_icmp_ne (tgt := 88) M.1 M.2.1 dX5_kindOf_81 (by decide) (fun c_30 => ?_) (fun c_30 => ?_)
                        · rw [if_neg c_30] at hr
                          refine lv_bipush (v := (-6)) M.1 M.2.1 dX5_kindOf_88 (by decide) ?_
                          exact w_X5_kindOf_90 M K a0  (-6) _ _ _ _  hB (lv_sub hl [] rfl) hr
                        · rw [if_pos c_30] at hr
                          refine lv_iconst (v := 5) M.1 M.2.1 dX5_kindOf_84 (by decide) ?_
                          refine lv_goto (tgt := 90) M.1 M.2.1 dX5_kindOf_85 (by decide) ?_
                          exact w_X5_kindOf_90 M K a0  5 _ _ _ _  hB (lv_sub hl [] rfl) hr
                      · rw [if_neg c_28] at hr
                        have t_29 : ¬ Int32.toInt a0 = 114 := lv_neT c_28 (by decide)
                        by_cases c_31 : a0 = 115
                        · rw [if_pos c_31] at hr
                          have t_32 : Int32.toInt a0 = 115 := by rw [c_31]; decide
                          refine lv_tableIn (off := 71) (tgt := 72) M.1 M.2.1 dX5_kindOf_1 (by rw [t_32]; decide) (by rw [t_32]; decide) (by rw [t_32]; rfl) (by decide) ?_
                          refine lv_iconst (v := 2) M.1 M.2.1 dX5_kindOf_72 (by decide) ?_
                          exact x_iret M hB (Option.some.inj hr) dX5_kindOf_73
                        · rw [if_neg c_31] at hr
                          have t_32 : ¬ Int32.toInt a0 = 115 := lv_neT c_31 (by decide)
                          by_cases c_33 : a0 = 116
                          · rw [if_pos c_33] at hr
                            have t_34 : Int32.toInt a0 = 116 := by rw [c_33]; decide
                            refine lv_tableIn (off := 75) (tgt := 76) M.1 M.2.1 dX5_kindOf_1 (by rw [t_34]; decide) (by rw [t_34]; decide) (by rw [t_34]; rfl) (by decide) ?_
                            refine lv_iconst (v := 4) M.1 M.2.1 dX5_kindOf_76 (by decide) ?_
                            exact x_iret M hB (Option.some.inj hr) dX5_kindOf_77
                          · rw [if_neg c_33] at hr
                            have t_34 : ¬ Int32.toInt a0 = 116 := lv_neT c_33 (by decide)
                            refine lv_tableOut (tgt := 78) M.1 M.2.1 dX5_kindOf_1 (by omega) (by decide) ?_
                            refine lv_iload_n M.1 M.2.1 dX5_kindOf_78 rfl (lv_at hl 0 rfl) ?_
                            refine lv_bipush (v := 99) M.1 M.2.1 dX5_kindOf_79 (by decide) ?_
                            refine lv_icmp_ne (tgt := 88) M.1 M.2.1 dX5_kindOf_81 (by decide) (fun c_35 => ?_) (fun c_35 => ?_)
                            · rw [if_neg c_35] at hr
                              refine lv_bipush (v := (-6)) M.1 M.2.1 dX5_kindOf_88 (by decide) ?_
                              exact w_X5_kindOf_90 M K a0  (-6) _ _ _ _  hB (lv_sub hl [] rfl) hr
                            · rw [if_pos c_35] at hr
                              refine lv_iconst (v := 5) M.1 M.2.1 dX5_kindOf_84 (by decide) ?_
                              refine lv_goto (tgt := 90) M.1 M.2.1 dX5_kindOf_85 (by decide) ?_
                              exact w_X5_kindOf_90 M K a0  5 _ _ _ _  hB (lv_sub hl [] rfl) hr
theorem c_X5_kindOf (l : Launch) (Γ : GG) (a0 : Int32)  (σ : Sg) (res : Int32 × Sg) (hr : f_X5_kindOf_0 a0 σ = some res) : Met l yX5_kindOf (Cond.code yX5_kindOf cX5_kindOf 1 (some .int) :: gtb) rm_X5_kindOf (va_Pc [.int a0] (GI Γ σ)) (QI Γ res) 0 0 (AD Γ) :=
  x_metI (by decide) [.int a0] (Nat.le_of_ble_eq_true rfl) (fun p e s m args below meth c M K ls hl hB => w_X5_kindOf_0 M K a0 σ _ _ ls hB hl hr)
abbrev rm_X5_takes : Room := { frames := 1, cells := 0, slots := 0, locals := 20 }
def f_X5_takes_15 (a0 : Int32)   (σ : Sg) : Option (Int32 × Sg) :=
some (0, σ)
set_option maxHeartbeats 4000000 in
set_option maxRecDepth 100000 in
theorem w_X5_takes_15 {p : Program} {l : Launch} {e : Env} {s : State} {m : MethodId} {args : Array Value} {below : List Frame} {meth : Method} {c : Code} {Γ : GG} {res : Int32 × Sg} (M : MX RX5 cX5_takes 2 (some .boolean) p s m args meth c) (K : KK Γ s s.heap) (a0 : Int32)  (σ : Sg) (H : Heap) (locs : List Loc) (ls : Array Slot)  (hB : Bd Γ σ s H locs) (hl : lv_has ls 2 []) (hr : f_X5_takes_15 a0   σ = some res) : WI Γ rm_X5_takes p l e s m args below meth c H locs res (F0 m 15 ls []) := by
  unfold f_X5_takes_15 at hr
  refine lv_iconst (v := 0) M.1 M.2.1 dX5_takes_15 (by decide) ?_
  exact x_zret M hB (nar_z (by decide)) (Option.some.inj hr) dX5_takes_16
def f_X5_takes_0 (a0 : Int32)   (σ : Sg) : Option (Int32 × Sg) :=
if σ 150 7 = 0 then
cb (f_X5_next_0  σ) fun v_2 σ_3 =>
if v_2 = a0 then
wb (st σ_3 150 6 ((σ_3 150 6) + 1)) fun σ_6 =>
some (1, σ_6)
else
f_X5_takes_15 a0   σ_3
else
f_X5_takes_15 a0   σ
set_option maxHeartbeats 4000000 in
set_option maxRecDepth 100000 in
theorem w_X5_takes_0 {p : Program} {l : Launch} {e : Env} {s : State} {m : MethodId} {args : Array Value} {below : List Frame} {meth : Method} {c : Code} {Γ : GG} {res : Int32 × Sg} (M : MX RX5 cX5_takes 2 (some .boolean) p s m args meth c) (K : KK Γ s s.heap) (a0 : Int32)  (σ : Sg) (H : Heap) (locs : List Loc) (ls : Array Slot)  (hB : Bd Γ σ s H locs) (hl : lv_has ls 2 [(0, .ref (Γ.1 150)), (1, .int a0)]) (hr : f_X5_takes_0 a0   σ = some res) : WI Γ rm_X5_takes p l e s m args below meth c H locs res (F0 m 0 ls []) := by
  unfold f_X5_takes_0 at hr
  refine lv_aload_n M.1 M.2.1 dX5_takes_0 rfl (lv_at hl 0 rfl) ?_
  refine x_get5 M K hB isK_150 7 (by decide) wd_168 (v := .int (σ 150 7)) rfl dX5_takes_1 ?_
  refine lv_if_ne (tgt := 15) M.1 M.2.1 dX5_takes_4 (by decide) (fun c_1 => ?_) (fun c_1 => ?_)
  · rw [if_neg c_1] at hr
    exact w_X5_takes_15 M K a0   _ _ _ _  hB (lv_sub hl [] rfl) hr
  · rw [if_pos c_1] at hr
    refine lv_aload_n M.1 M.2.1 dX5_takes_7 rfl (lv_at hl 0 rfl) ?_
    obtain ⟨v_2, σ_3, h_4, hr⟩ := cbd hr
    refine x_callI (x_runV M K hB hl.1 [] (rest := []) rfl (c_X5_next l Γ   σ (v_2, σ_3) h_4) cy_X5_next (x_recv K hB isK_150.2 (ent_5 isK_150.1) rfl) wd_169 ⟨rfl, rfl, Nat.le_of_ble_eq_true rfl, Nat.le_of_ble_eq_true rfl⟩ (Nat.le_of_ble_eq_true rfl) ⟨Nat.zero_le _, Nat.zero_le _⟩ dX5_takes_8) hB (fun H locs hB => ?_)
    replace hB : Bd Γ σ_3 s H locs := hB
    refine lv_iload_n M.1 M.2.1 dX5_takes_11 rfl (lv_at hl 1 rfl) ?_
    refine lv_icmp_eq (tgt := 17) M.1 M.2.1 dX5_takes_12 (by decide) (fun c_5 => ?_) (fun c_5 => ?_)
    · rw [if_pos c_5] at hr
      refine lv_aload_n M.1 M.2.1 dX5_takes_17 rfl (lv_at hl 0 rfl) ?_
      refine lv_dup M.1 M.2.1 dX5_takes_18 rfl ?_
      refine x_get5 M K hB isK_150 6 (by decide) wd_167 (v := .int (σ_3 150 6)) rfl dX5_takes_19 ?_
      refine lv_iconst (v := 1) M.1 M.2.1 dX5_takes_22 (by decide) ?_
      refine lv_iadd M.1 M.2.1 dX5_takes_23 ?_
      obtain ⟨σ_6, e_7, hr⟩ := wbd hr
      refine x_put5 M K hB isK_150 6 (by decide) wd_167 dX5_takes_24 (fun H locs hB => ?_)
      rw [← e_7] at hB
      refine lv_iconst (v := 1) M.1 M.2.1 dX5_takes_27 (by decide) ?_
      exact x_zret M hB (nar_z (by decide)) (Option.some.inj hr) dX5_takes_28
    · rw [if_neg c_5] at hr
      exact w_X5_takes_15 M K a0   _ _ _ _  hB (lv_sub hl [] rfl) hr
theorem c_X5_takes (l : Launch) (Γ : GG) (a0 : Int32)  (σ : Sg) (res : Int32 × Sg) (hr : f_X5_takes_0 a0 σ = some res) : Met l yX5_takes (Cond.code yX5_takes cX5_takes 2 (some .boolean) :: gtb) rm_X5_takes (va_Pc [.ref (Γ.1 150), .int a0] (GI Γ σ)) (QI Γ res) 0 0 (AD Γ) :=
  x_metI (by decide) [.ref (Γ.1 150), .int a0] (Nat.le_of_ble_eq_true rfl) (fun p e s m args below meth c M K ls hl hB => w_X5_takes_0 M K a0 σ _ _ ls hB hl hr)
abbrev rm_X5_readNumber : Room := { frames := 1, cells := 0, slots := 0, locals := 22 }
def f_X5_readNumber_106 (a0 : Int32)  (x2 : Int32) (σ : Sg) : Option (Int32 × Sg) :=
some (x2, σ)
set_option maxHeartbeats 4000000 in
set_option maxRecDepth 100000 in
theorem w_X5_readNumber_106 {p : Program} {l : Launch} {e : Env} {s : State} {m : MethodId} {args : Array Value} {below : List Frame} {meth : Method} {c : Code} {Γ : GG} {res : Int32 × Sg} (M : MX RX5 cX5_readNumber 3 (some .int) p s m args meth c) (K : KK Γ s s.heap) (a0 : Int32) (x2 : Int32) (σ : Sg) (H : Heap) (locs : List Loc) (ls : Array Slot)  (hB : Bd Γ σ s H locs) (hl : lv_has ls 3 [(2, .int x2)]) (hr : f_X5_readNumber_106 a0  x2 σ = some res) : WI Γ rm_X5_readNumber p l e s m args below meth c H locs res (F0 m 106 ls []) := by
  unfold f_X5_readNumber_106 at hr
  refine lv_iload_n M.1 M.2.1 dX5_readNumber_106 rfl (lv_at hl 0 rfl) ?_
  exact x_iret M hB (Option.some.inj hr) dX5_readNumber_107
def f_X5_readNumber_46 (a0 : Int32)  : Nat → Int32 → Int32 → Sg → Option (Int32 × Sg)
  | 0, _, _, _ => none
  | f + 1, x1, x2, σ => if x2 ≤ 0 then
f_X5_readNumber_106 a0  x2 σ
else
cb (f_X5_next_0  σ) fun v_15 σ_16 =>
cb (f_X5_in_0 v_15 48 57 σ_16) fun v_18 σ_19 =>
if v_18 = 0 then
f_X5_readNumber_106 a0  x2 σ_19
else
cb (f_X5_next_0  σ_19) fun v_22 σ_23 =>
if x1 < ((10 * x2) + v_22) - 48 then
f_X5_readNumber_106 a0  x2 σ_23
else
cb (f_X5_next_0  σ_23) fun v_26 σ_27 =>
wb (st σ_27 150 6 ((σ_27 150 6) + 1)) fun σ_29 =>
f_X5_readNumber_46 a0  f x1 (((10 * x2) + v_26) - 48) σ_29
set_option maxHeartbeats 4000000 in
set_option maxRecDepth 100000 in
theorem w_X5_readNumber_46 {p : Program} {l : Launch} {e : Env} {s : State} {m : MethodId} {args : Array Value} {below : List Frame} {meth : Method} {c : Code} {Γ : GG} {res : Int32 × Sg} (M : MX RX5 cX5_readNumber 3 (some .int) p s m args meth c) (K : KK Γ s s.heap) (a0 : Int32) : ∀ (f : Nat) (x1 : Int32) (x2 : Int32) (σ : Sg) (H : Heap) (locs : List Loc) (ls : Array Slot)  (hB : Bd Γ σ s H locs) (hl : lv_has ls 3 [(0, .ref (Γ.1 150)), (1, .int x1), (2, .int x2)]) (hr : f_X5_readNumber_46 a0  f x1 x2 σ = some res), WI Γ rm_X5_readNumber p l e s m args below meth c H locs res (F0 m 46 ls []) := by
  intro f
  induction f with
  | zero => intros; rename_i hr; exact absurd hr (by rw [f_X5_readNumber_46]; exact fun h => by cases h)
  | succ f ih_46 =>
    intro x1 x2 σ H locs ls  hB hl hr
    rw [f_X5_readNumber_46] at hr
    refine lv_iload_n M.1 M.2.1 dX5_readNumber_46 rfl (lv_at hl 2 rfl) ?_
    refine lv_if_le (tgt := 106) M.1 M.2.1 dX5_readNumber_47 (by decide) (fun c_14 => ?_) (fun c_14 => ?_)
    · rw [if_pos c_14] at hr
      exact w_X5_readNumber_106 M K a0  x2 _ _ _ _  hB (lv_sub hl [2] rfl) hr
    · rw [if_neg c_14] at hr
      refine lv_aload_n M.1 M.2.1 dX5_readNumber_50 rfl (lv_at hl 0 rfl) ?_
      obtain ⟨v_15, σ_16, h_17, hr⟩ := cbd hr
      refine x_callI (x_runV M K hB hl.1 [] (rest := []) rfl (c_X5_next l Γ   σ (v_15, σ_16) h_17) cy_X5_next (x_recv K hB isK_150.2 (ent_5 isK_150.1) rfl) wd_169 ⟨rfl, rfl, Nat.le_of_ble_eq_true rfl, Nat.le_of_ble_eq_true rfl⟩ (Nat.le_of_ble_eq_true rfl) ⟨Nat.zero_le _, Nat.zero_le _⟩ dX5_readNumber_51) hB (fun H locs hB => ?_)
      replace hB : Bd Γ σ_16 s H locs := hB
      refine lv_bipush (v := 48) M.1 M.2.1 dX5_readNumber_54 (by decide) ?_
      refine lv_bipush (v := 57) M.1 M.2.1 dX5_readNumber_56 (by decide) ?_
      obtain ⟨v_18, σ_19, h_20, hr⟩ := cbd hr
      refine x_callI (x_runS M K hB hl.1 [.int v_15, .int 48, .int 57] (rest := []) rfl (c_X5_in l Γ v_15 48 57  σ_16 (v_18, σ_19) h_20) cy_X5_in wd_155 ⟨rfl, rfl, Nat.le_of_ble_eq_true rfl, Nat.le_of_ble_eq_true rfl⟩ (Nat.le_of_ble_eq_true rfl) ⟨Nat.zero_le _, Nat.zero_le _⟩ dX5_readNumber_58) hB (fun H locs hB => ?_)
      replace hB : Bd Γ σ_19 s H locs := hB
      refine lv_if_eq (tgt := 106) M.1 M.2.1 dX5_readNumber_61 (by decide) (fun c_21 => ?_) (fun c_21 => ?_)
      · rw [if_pos c_21] at hr
        exact w_X5_readNumber_106 M K a0  x2 _ _ _ _  hB (lv_sub hl [2] rfl) hr
      · rw [if_neg c_21] at hr
        refine lv_bipush (v := 10) M.1 M.2.1 dX5_readNumber_64 (by decide) ?_
        refine lv_iload_n M.1 M.2.1 dX5_readNumber_66 rfl (lv_at hl 2 rfl) ?_
        refine lv_imul M.1 M.2.1 dX5_readNumber_67 ?_
        refine lv_aload_n M.1 M.2.1 dX5_readNumber_68 rfl (lv_at hl 0 rfl) ?_
        obtain ⟨v_22, σ_23, h_24, hr⟩ := cbd hr
        refine x_callI (x_runV M K hB hl.1 [] (rest := [.int (10 * x2)]) rfl (c_X5_next l Γ   σ_19 (v_22, σ_23) h_24) cy_X5_next (x_recv K hB isK_150.2 (ent_5 isK_150.1) rfl) wd_169 ⟨rfl, rfl, Nat.le_of_ble_eq_true rfl, Nat.le_of_ble_eq_true rfl⟩ (Nat.le_of_ble_eq_true rfl) ⟨Nat.zero_le _, Nat.zero_le _⟩ dX5_readNumber_69) hB (fun H locs hB => ?_)
        replace hB : Bd Γ σ_23 s H locs := hB
        refine lv_iadd M.1 M.2.1 dX5_readNumber_72 ?_
        refine lv_bipush (v := 48) M.1 M.2.1 dX5_readNumber_73 (by decide) ?_
        refine lv_isub M.1 M.2.1 dX5_readNumber_75 ?_
        refine lv_iload_n M.1 M.2.1 dX5_readNumber_76 rfl (lv_at hl 1 rfl) ?_
        refine lv_icmp_gt (tgt := 106) M.1 M.2.1 dX5_readNumber_77 (by decide) (fun c_25 => ?_) (fun c_25 => ?_)
        · rw [if_pos c_25] at hr
          exact w_X5_readNumber_106 M K a0  x2 _ _ _ _  hB (lv_sub hl [2] rfl) hr
        · rw [if_neg c_25] at hr
          refine lv_bipush (v := 10) M.1 M.2.1 dX5_readNumber_80 (by decide) ?_
          refine lv_iload_n M.1 M.2.1 dX5_readNumber_82 rfl (lv_at hl 2 rfl) ?_
          refine lv_imul M.1 M.2.1 dX5_readNumber_83 ?_
          refine lv_aload_n M.1 M.2.1 dX5_readNumber_84 rfl (lv_at hl 0 rfl) ?_
          obtain ⟨v_26, σ_27, h_28, hr⟩ := cbd hr
          refine x_callI (x_runV M K hB hl.1 [] (rest := [.int (10 * x2)]) rfl (c_X5_next l Γ   σ_23 (v_26, σ_27) h_28) cy_X5_next (x_recv K hB isK_150.2 (ent_5 isK_150.1) rfl) wd_169 ⟨rfl, rfl, Nat.le_of_ble_eq_true rfl, Nat.le_of_ble_eq_true rfl⟩ (Nat.le_of_ble_eq_true rfl) ⟨Nat.zero_le _, Nat.zero_le _⟩ dX5_readNumber_85) hB (fun H locs hB => ?_)
          replace hB : Bd Γ σ_27 s H locs := hB
          refine lv_iadd M.1 M.2.1 dX5_readNumber_88 ?_
          refine lv_bipush (v := 48) M.1 M.2.1 dX5_readNumber_89 (by decide) ?_
          refine lv_isub M.1 M.2.1 dX5_readNumber_91 ?_
          refine lv_istore_n (lv' := [(2, .int (((10 * x2) + v_26) - 48)), (0, .ref (Γ.1 150)), (1, .int x1)]) M.1 M.2.1 dX5_readNumber_92 rfl hl (by decide) rfl (fun ls hl => ?_)
          refine lv_aload_n M.1 M.2.1 dX5_readNumber_93 rfl (lv_at hl 1 rfl) ?_
          refine lv_dup M.1 M.2.1 dX5_readNumber_94 rfl ?_
          refine x_get5 M K hB isK_150 6 (by decide) wd_167 (v := .int (σ_27 150 6)) rfl dX5_readNumber_95 ?_
          refine lv_iconst (v := 1) M.1 M.2.1 dX5_readNumber_98 (by decide) ?_
          refine lv_iadd M.1 M.2.1 dX5_readNumber_99 ?_
          obtain ⟨σ_29, e_30, hr⟩ := wbd hr
          refine x_put5 M K hB isK_150 6 (by decide) wd_167 dX5_readNumber_100 (fun H locs hB => ?_)
          rw [← e_30] at hB
          refine lv_goto (tgt := 46) M.1 M.2.1 dX5_readNumber_103 (by decide) ?_
          exact ih_46 x1 (((10 * x2) + v_26) - 48) _ _ _ _  hB (lv_sub hl [1, 2, 0] rfl) hr
def f_X5_readNumber_21 (a0 : Int32)   (σ : Sg) : Option (Int32 × Sg) :=
wb (st σ 150 7 1) fun σ_31 =>
some (0, σ_31)
set_option maxHeartbeats 4000000 in
set_option maxRecDepth 100000 in
theorem w_X5_readNumber_21 {p : Program} {l : Launch} {e : Env} {s : State} {m : MethodId} {args : Array Value} {below : List Frame} {meth : Method} {c : Code} {Γ : GG} {res : Int32 × Sg} (M : MX RX5 cX5_readNumber 3 (some .int) p s m args meth c) (K : KK Γ s s.heap) (a0 : Int32)  (σ : Sg) (H : Heap) (locs : List Loc) (ls : Array Slot)  (hB : Bd Γ σ s H locs) (hl : lv_has ls 3 [(0, .ref (Γ.1 150))]) (hr : f_X5_readNumber_21 a0   σ = some res) : WI Γ rm_X5_readNumber p l e s m args below meth c H locs res (F0 m 21 ls []) := by
  unfold f_X5_readNumber_21 at hr
  refine lv_aload_n M.1 M.2.1 dX5_readNumber_21 rfl (lv_at hl 0 rfl) ?_
  refine lv_iconst (v := 1) M.1 M.2.1 dX5_readNumber_22 (by decide) ?_
  obtain ⟨σ_31, e_32, hr⟩ := wbd hr
  refine x_putz5 M K hB isK_150 7 (by decide) wd_168 (by decide) dX5_readNumber_23 (fun H locs hB => ?_)
  rw [← e_32] at hB
  refine lv_iconst (v := 0) M.1 M.2.1 dX5_readNumber_26 (by decide) ?_
  exact x_iret M hB (Option.some.inj hr) dX5_readNumber_27
def f_X5_readNumber_0 (a0 : Int32)   (σ : Sg) : Option (Int32 × Sg) :=
if σ 150 7 = 0 then
cb (f_X5_next_0  σ) fun v_2 σ_3 =>
cb (f_X5_in_0 v_2 48 57 σ_3) fun v_5 σ_6 =>
if v_5 = 0 then
f_X5_readNumber_21 a0   σ_6
else
cb (f_X5_next_0  σ_6) fun v_9 σ_10 =>
wb (st σ_10 150 6 ((σ_10 150 6) + 1)) fun σ_12 =>
f_X5_readNumber_46 a0  FU a0 (v_9 - 48) σ_12
else
f_X5_readNumber_21 a0   σ
set_option maxHeartbeats 4000000 in
set_option maxRecDepth 100000 in
theorem w_X5_readNumber_0 {p : Program} {l : Launch} {e : Env} {s : State} {m : MethodId} {args : Array Value} {below : List Frame} {meth : Method} {c : Code} {Γ : GG} {res : Int32 × Sg} (M : MX RX5 cX5_readNumber 3 (some .int) p s m args meth c) (K : KK Γ s s.heap) (a0 : Int32)  (σ : Sg) (H : Heap) (locs : List Loc) (ls : Array Slot)  (hB : Bd Γ σ s H locs) (hl : lv_has ls 3 [(0, .ref (Γ.1 150)), (1, .int a0)]) (hr : f_X5_readNumber_0 a0   σ = some res) : WI Γ rm_X5_readNumber p l e s m args below meth c H locs res (F0 m 0 ls []) := by
  unfold f_X5_readNumber_0 at hr
  refine lv_aload_n M.1 M.2.1 dX5_readNumber_0 rfl (lv_at hl 0 rfl) ?_
  refine x_get5 M K hB isK_150 7 (by decide) wd_168 (v := .int (σ 150 7)) rfl dX5_readNumber_1 ?_
  refine lv_if_ne (tgt := 21) M.1 M.2.1 dX5_readNumber_4 (by decide) (fun c_1 => ?_) (fun c_1 => ?_)
  · rw [if_neg c_1] at hr
    exact w_X5_readNumber_21 M K a0   _ _ _ _  hB (lv_sub hl [0] rfl) hr
  · rw [if_pos c_1] at hr
    refine lv_aload_n M.1 M.2.1 dX5_readNumber_7 rfl (lv_at hl 0 rfl) ?_
    obtain ⟨v_2, σ_3, h_4, hr⟩ := cbd hr
    refine x_callI (x_runV M K hB hl.1 [] (rest := []) rfl (c_X5_next l Γ   σ (v_2, σ_3) h_4) cy_X5_next (x_recv K hB isK_150.2 (ent_5 isK_150.1) rfl) wd_169 ⟨rfl, rfl, Nat.le_of_ble_eq_true rfl, Nat.le_of_ble_eq_true rfl⟩ (Nat.le_of_ble_eq_true rfl) ⟨Nat.zero_le _, Nat.zero_le _⟩ dX5_readNumber_8) hB (fun H locs hB => ?_)
    replace hB : Bd Γ σ_3 s H locs := hB
    refine lv_bipush (v := 48) M.1 M.2.1 dX5_readNumber_11 (by decide) ?_
    refine lv_bipush (v := 57) M.1 M.2.1 dX5_readNumber_13 (by decide) ?_
    obtain ⟨v_5, σ_6, h_7, hr⟩ := cbd hr
    refine x_callI (x_runS M K hB hl.1 [.int v_2, .int 48, .int 57] (rest := []) rfl (c_X5_in l Γ v_2 48 57  σ_3 (v_5, σ_6) h_7) cy_X5_in wd_155 ⟨rfl, rfl, Nat.le_of_ble_eq_true rfl, Nat.le_of_ble_eq_true rfl⟩ (Nat.le_of_ble_eq_true rfl) ⟨Nat.zero_le _, Nat.zero_le _⟩ dX5_readNumber_15) hB (fun H locs hB => ?_)
    replace hB : Bd Γ σ_6 s H locs := hB
    refine lv_if_ne (tgt := 28) M.1 M.2.1 dX5_readNumber_18 (by decide) (fun c_8 => ?_) (fun c_8 => ?_)
    · rw [if_neg c_8] at hr
      refine lv_aload_n M.1 M.2.1 dX5_readNumber_28 rfl (lv_at hl 0 rfl) ?_
      obtain ⟨v_9, σ_10, h_11, hr⟩ := cbd hr
      refine x_callI (x_runV M K hB hl.1 [] (rest := []) rfl (c_X5_next l Γ   σ_6 (v_9, σ_10) h_11) cy_X5_next (x_recv K hB isK_150.2 (ent_5 isK_150.1) rfl) wd_169 ⟨rfl, rfl, Nat.le_of_ble_eq_true rfl, Nat.le_of_ble_eq_true rfl⟩ (Nat.le_of_ble_eq_true rfl) ⟨Nat.zero_le _, Nat.zero_le _⟩ dX5_readNumber_29) hB (fun H locs hB => ?_)
      replace hB : Bd Γ σ_10 s H locs := hB
      refine lv_bipush (v := 48) M.1 M.2.1 dX5_readNumber_32 (by decide) ?_
      refine lv_isub M.1 M.2.1 dX5_readNumber_34 ?_
      refine lv_istore_n (lv' := [(2, .int (v_9 - 48)), (0, .ref (Γ.1 150)), (1, .int a0)]) M.1 M.2.1 dX5_readNumber_35 rfl hl (by decide) rfl (fun ls hl => ?_)
      refine lv_aload_n M.1 M.2.1 dX5_readNumber_36 rfl (lv_at hl 1 rfl) ?_
      refine lv_dup M.1 M.2.1 dX5_readNumber_37 rfl ?_
      refine x_get5 M K hB isK_150 6 (by decide) wd_167 (v := .int (σ_10 150 6)) rfl dX5_readNumber_38 ?_
      refine lv_iconst (v := 1) M.1 M.2.1 dX5_readNumber_41 (by decide) ?_
      refine lv_iadd M.1 M.2.1 dX5_readNumber_42 ?_
      obtain ⟨σ_12, e_13, hr⟩ := wbd hr
      refine x_put5 M K hB isK_150 6 (by decide) wd_167 dX5_readNumber_43 (fun H locs hB => ?_)
      rw [← e_13] at hB
      exact w_X5_readNumber_46 M K a0  FU a0 (v_9 - 48) _ _ _ _  hB (lv_sub hl [1, 2, 0] rfl) hr
    · rw [if_pos c_8] at hr
      exact w_X5_readNumber_21 M K a0   _ _ _ _  hB (lv_sub hl [0] rfl) hr
theorem c_X5_readNumber (l : Launch) (Γ : GG) (a0 : Int32)  (σ : Sg) (res : Int32 × Sg) (hr : f_X5_readNumber_0 a0 σ = some res) : Met l yX5_readNumber (Cond.code yX5_readNumber cX5_readNumber 3 (some .int) :: gtb) rm_X5_readNumber (va_Pc [.ref (Γ.1 150), .int a0] (GI Γ σ)) (QI Γ res) 0 0 (AD Γ) :=
  x_metI (by decide) [.ref (Γ.1 150), .int a0] (Nat.le_of_ble_eq_true rfl) (fun p e s m args below meth c M K ls hl hB => w_X5_readNumber_0 M K a0 σ _ _ ls hB hl hr)
abbrev rm_X5_readFault : Room := { frames := 2, cells := 0, slots := 0, locals := 44 }
def f_X5_readFault_188   (s0 : Int32) (s1 : Int32) (σ : Sg) : Option (Int32 × Sg) :=
if s1 < 0 ∨ 155 ≤ s1.toNatClampNeg then none else
wb (st σ 156 (s1.toNatClampNeg) s0) fun σ_59 =>
wb (st σ_59 150 9 ((σ_59 150 9) + 1)) fun σ_61 =>
some (0, σ_61)
set_option maxHeartbeats 4000000 in
set_option maxRecDepth 100000 in
theorem w_X5_readFault_188 {p : Program} {l : Launch} {e : Env} {s : State} {m : MethodId} {args : Array Value} {below : List Frame} {meth : Method} {c : Code} {Γ : GG} {res : Int32 × Sg} (M : MX RX5 cX5_readFault 2 none p s m args meth c) (K : KK Γ s s.heap)  (s0 : Int32) (s1 : Int32) (σ : Sg) (H : Heap) (locs : List Loc) (ls : Array Slot)  (hB : Bd Γ σ s H locs) (hl : lv_has ls 2 [(0, .ref (Γ.1 150))]) (hr : f_X5_readFault_188   s0 s1 σ = some res) : WV Γ rm_X5_readFault p l e s m args below meth c H locs res (F0 m 188 ls [.int s0, .int s1, .ref (Γ.1 156)]) := by
  unfold f_X5_readFault_188 at hr
  obtain ⟨g_58, hr⟩ := gd hr
  obtain ⟨σ_59, e_60, hr⟩ := wbd hr
  refine x_iast M K hB isA_156 g_58 dX5_readFault_188 (fun H locs hB => ?_)
  rw [← e_60] at hB
  refine lv_aload_n M.1 M.2.1 dX5_readFault_189 rfl (lv_at hl 0 rfl) ?_
  refine lv_dup M.1 M.2.1 dX5_readFault_190 rfl ?_
  refine x_get5 M K hB isK_150 9 (by decide) wd_170 (v := .int (σ_59 150 9)) rfl dX5_readFault_191 ?_
  refine lv_iconst (v := 1) M.1 M.2.1 dX5_readFault_194 (by decide) ?_
  refine lv_iadd M.1 M.2.1 dX5_readFault_195 ?_
  obtain ⟨σ_61, e_62, hr⟩ := wbd hr
  refine x_put5 M K hB isK_150 9 (by decide) wd_170 dX5_readFault_196 (fun H locs hB => ?_)
  rw [← e_62] at hB
  exact x_vret M hB (Option.some.inj hr) dX5_readFault_199
def f_X5_readFault_166   (x1 : Int32) (s0 : Int32) (s1 : Int32) (σ : Sg) : Option (Int32 × Sg) :=
if s1 < 0 ∨ 155 ≤ s1.toNatClampNeg then none else
wb (st σ 156 (s1.toNatClampNeg) s0) fun σ_52 =>
cb (f_X5_takes_0 33 σ_52) fun v_54 σ_55 =>
if v_54 = 0 then
f_X5_readFault_188   0 (x1 + 4) σ_55
else
f_X5_readFault_188   1 (x1 + 4) σ_55
set_option maxHeartbeats 4000000 in
set_option maxRecDepth 100000 in
theorem w_X5_readFault_166 {p : Program} {l : Launch} {e : Env} {s : State} {m : MethodId} {args : Array Value} {below : List Frame} {meth : Method} {c : Code} {Γ : GG} {res : Int32 × Sg} (M : MX RX5 cX5_readFault 2 none p s m args meth c) (K : KK Γ s s.heap)  (x1 : Int32) (s0 : Int32) (s1 : Int32) (σ : Sg) (H : Heap) (locs : List Loc) (ls : Array Slot)  (hB : Bd Γ σ s H locs) (hl : lv_has ls 2 [(0, .ref (Γ.1 150)), (1, .int x1)]) (hr : f_X5_readFault_166   x1 s0 s1 σ = some res) : WV Γ rm_X5_readFault p l e s m args below meth c H locs res (F0 m 166 ls [.int s0, .int s1, .ref (Γ.1 156)]) := by
  unfold f_X5_readFault_166 at hr
  obtain ⟨g_51, hr⟩ := gd hr
  obtain ⟨σ_52, e_53, hr⟩ := wbd hr
  refine x_iast M K hB isA_156 g_51 dX5_readFault_166 (fun H locs hB => ?_)
  rw [← e_53] at hB
  refine lv_aload_n M.1 M.2.1 dX5_readFault_167 rfl (lv_at hl 0 rfl) ?_
  refine x_get5 M K hB isK_150 8 (by decide) wd_171 (v := .ref (Γ.1 156)) rfl dX5_readFault_168 ?_
  refine lv_iload_n M.1 M.2.1 dX5_readFault_171 rfl (lv_at hl 1 rfl) ?_
  refine lv_iconst (v := 4) M.1 M.2.1 dX5_readFault_172 (by decide) ?_
  refine lv_iadd M.1 M.2.1 dX5_readFault_173 ?_
  refine lv_aload_n M.1 M.2.1 dX5_readFault_174 rfl (lv_at hl 0 rfl) ?_
  refine lv_bipush (v := 33) M.1 M.2.1 dX5_readFault_175 (by decide) ?_
  obtain ⟨v_54, σ_55, h_56, hr⟩ := cbd hr
  refine x_callI (x_runV M K hB hl.1 [.int 33] (rest := [.int (x1 + 4), .ref (Γ.1 156)]) rfl (c_X5_takes l Γ 33  σ_52 (v_54, σ_55) h_56) cy_X5_takes (x_recv K hB isK_150.2 (ent_5 isK_150.1) rfl) wd_173 ⟨rfl, rfl, Nat.le_of_ble_eq_true rfl, Nat.le_of_ble_eq_true rfl⟩ (Nat.le_of_ble_eq_true rfl) ⟨Nat.zero_le _, Nat.zero_le _⟩ dX5_readFault_177) hB (fun H locs hB => ?_)
  replace hB : Bd Γ σ_55 s H locs := hB
  refine lv_if_eq (tgt := 187) M.1 M.2.1 dX5_readFault_180 (by decide) (fun c_57 => ?_) (fun c_57 => ?_)
  · rw [if_pos c_57] at hr
    refine lv_iconst (v := 0) M.1 M.2.1 dX5_readFault_187 (by decide) ?_
    exact w_X5_readFault_188 M K   0 (x1 + 4) _ _ _ _  hB (lv_sub hl [0] rfl) hr
  · rw [if_neg c_57] at hr
    refine lv_iconst (v := 1) M.1 M.2.1 dX5_readFault_183 (by decide) ?_
    refine lv_goto (tgt := 188) M.1 M.2.1 dX5_readFault_184 (by decide) ?_
    exact w_X5_readFault_188 M K   1 (x1 + 4) _ _ _ _  hB (lv_sub hl [0] rfl) hr
def f_X5_readFault_138   (x1 : Int32) (s0 : Int32) (s1 : Int32) (σ : Sg) : Option (Int32 × Sg) :=
if s1 < 0 ∨ 155 ≤ s1.toNatClampNeg then none else
wb (st σ 156 (s1.toNatClampNeg) s0) fun σ_42 =>
cb (f_X5_takes_0 42 σ_42) fun v_44 σ_45 =>
if v_44 = 0 then
f_X5_readFault_166   x1 0 (x1 + 3) σ_45
else
cb (f_X5_readNumber_0 500 σ_45) fun v_48 σ_49 =>
f_X5_readFault_166   x1 v_48 (x1 + 3) σ_49
set_option maxHeartbeats 4000000 in
set_option maxRecDepth 100000 in
theorem w_X5_readFault_138 {p : Program} {l : Launch} {e : Env} {s : State} {m : MethodId} {args : Array Value} {below : List Frame} {meth : Method} {c : Code} {Γ : GG} {res : Int32 × Sg} (M : MX RX5 cX5_readFault 2 none p s m args meth c) (K : KK Γ s s.heap)  (x1 : Int32) (s0 : Int32) (s1 : Int32) (σ : Sg) (H : Heap) (locs : List Loc) (ls : Array Slot)  (hB : Bd Γ σ s H locs) (hl : lv_has ls 2 [(0, .ref (Γ.1 150)), (1, .int x1)]) (hr : f_X5_readFault_138   x1 s0 s1 σ = some res) : WV Γ rm_X5_readFault p l e s m args below meth c H locs res (F0 m 138 ls [.int s0, .int s1, .ref (Γ.1 156)]) := by
  unfold f_X5_readFault_138 at hr
  obtain ⟨g_41, hr⟩ := gd hr
  obtain ⟨σ_42, e_43, hr⟩ := wbd hr
  refine x_iast M K hB isA_156 g_41 dX5_readFault_138 (fun H locs hB => ?_)
  rw [← e_43] at hB
  refine lv_aload_n M.1 M.2.1 dX5_readFault_139 rfl (lv_at hl 0 rfl) ?_
  refine x_get5 M K hB isK_150 8 (by decide) wd_171 (v := .ref (Γ.1 156)) rfl dX5_readFault_140 ?_
  refine lv_iload_n M.1 M.2.1 dX5_readFault_143 rfl (lv_at hl 1 rfl) ?_
  refine lv_iconst (v := 3) M.1 M.2.1 dX5_readFault_144 (by decide) ?_
  refine lv_iadd M.1 M.2.1 dX5_readFault_145 ?_
  refine lv_aload_n M.1 M.2.1 dX5_readFault_146 rfl (lv_at hl 0 rfl) ?_
  refine lv_bipush (v := 42) M.1 M.2.1 dX5_readFault_147 (by decide) ?_
  obtain ⟨v_44, σ_45, h_46, hr⟩ := cbd hr
  refine x_callI (x_runV M K hB hl.1 [.int 42] (rest := [.int (x1 + 3), .ref (Γ.1 156)]) rfl (c_X5_takes l Γ 42  σ_42 (v_44, σ_45) h_46) cy_X5_takes (x_recv K hB isK_150.2 (ent_5 isK_150.1) rfl) wd_173 ⟨rfl, rfl, Nat.le_of_ble_eq_true rfl, Nat.le_of_ble_eq_true rfl⟩ (Nat.le_of_ble_eq_true rfl) ⟨Nat.zero_le _, Nat.zero_le _⟩ dX5_readFault_149) hB (fun H locs hB => ?_)
  replace hB : Bd Γ σ_45 s H locs := hB
  refine lv_if_eq (tgt := 165) M.1 M.2.1 dX5_readFault_152 (by decide) (fun c_47 => ?_) (fun c_47 => ?_)
  · rw [if_pos c_47] at hr
    refine lv_iconst (v := 0) M.1 M.2.1 dX5_readFault_165 (by decide) ?_
    exact w_X5_readFault_166 M K   x1 0 (x1 + 3) _ _ _ _  hB (lv_sub hl [0, 1] rfl) hr
  · rw [if_neg c_47] at hr
    refine lv_aload_n M.1 M.2.1 dX5_readFault_155 rfl (lv_at hl 0 rfl) ?_
    refine lv_sipush (v := 500) M.1 M.2.1 dX5_readFault_156 (by decide) ?_
    obtain ⟨v_48, σ_49, h_50, hr⟩ := cbd hr
    refine x_callI (x_runV M K hB hl.1 [.int 500] (rest := [.int (x1 + 3), .ref (Γ.1 156)]) rfl (c_X5_readNumber l Γ 500  σ_45 (v_48, σ_49) h_50) cy_X5_readNumber (x_recv K hB isK_150.2 (ent_5 isK_150.1) rfl) wd_174 ⟨rfl, rfl, Nat.le_of_ble_eq_true rfl, Nat.le_of_ble_eq_true rfl⟩ (Nat.le_of_ble_eq_true rfl) ⟨Nat.zero_le _, Nat.zero_le _⟩ dX5_readFault_159) hB (fun H locs hB => ?_)
    replace hB : Bd Γ σ_49 s H locs := hB
    refine lv_goto (tgt := 166) M.1 M.2.1 dX5_readFault_162 (by decide) ?_
    exact w_X5_readFault_166 M K   x1 v_48 (x1 + 3) _ _ _ _  hB (lv_sub hl [0, 1] rfl) hr
def f_X5_readFault_80    (σ : Sg) : Option (Int32 × Sg) :=
wb (st σ 150 7 1) fun σ_63 =>
some (0, σ_63)
set_option maxHeartbeats 4000000 in
set_option maxRecDepth 100000 in
theorem w_X5_readFault_80 {p : Program} {l : Launch} {e : Env} {s : State} {m : MethodId} {args : Array Value} {below : List Frame} {meth : Method} {c : Code} {Γ : GG} {res : Int32 × Sg} (M : MX RX5 cX5_readFault 2 none p s m args meth c) (K : KK Γ s s.heap)   (σ : Sg) (H : Heap) (locs : List Loc) (ls : Array Slot)  (hB : Bd Γ σ s H locs) (hl : lv_has ls 2 [(0, .ref (Γ.1 150))]) (hr : f_X5_readFault_80    σ = some res) : WV Γ rm_X5_readFault p l e s m args below meth c H locs res (F0 m 80 ls []) := by
  unfold f_X5_readFault_80 at hr
  refine lv_aload_n M.1 M.2.1 dX5_readFault_80 rfl (lv_at hl 0 rfl) ?_
  refine lv_iconst (v := 1) M.1 M.2.1 dX5_readFault_81 (by decide) ?_
  obtain ⟨σ_63, e_64, hr⟩ := wbd hr
  refine x_putz5 M K hB isK_150 7 (by decide) wd_168 (by decide) dX5_readFault_82 (fun H locs hB => ?_)
  rw [← e_64] at hB
  exact x_vret M hB (Option.some.inj hr) dX5_readFault_85
def f_X5_readFault_55   (x1 : Int32) (s0 : Int32) (s1 : Int32) (σ : Sg) : Option (Int32 × Sg) :=
wb (st σ 150 6 (s1 + s0)) fun σ_16 =>
if σ_16 150 7 = 0 then
cb (f_X5_next_0  σ_16) fun v_19 σ_20 =>
cb (f_X5_in_0 v_19 48 53 σ_20) fun v_22 σ_23 =>
if v_22 = 0 then
f_X5_readFault_80    σ_23
else
cb (f_X5_next_0  σ_23) fun v_26 σ_27 =>
if x1 + 1 < 0 ∨ 155 ≤ (x1 + 1).toNatClampNeg then none else
wb (st σ_27 156 ((x1 + 1).toNatClampNeg) (v_26 - 48)) fun σ_30 =>
wb (st σ_30 150 6 ((σ_30 150 6) + 1)) fun σ_32 =>
cb (f_X5_takes_0 64 σ_32) fun v_34 σ_35 =>
if v_34 = 0 then
f_X5_readFault_138   x1 0 (x1 + 2) σ_35
else
cb (f_X5_readNumber_0 5000 σ_35) fun v_38 σ_39 =>
f_X5_readFault_138   x1 v_38 (x1 + 2) σ_39
else
f_X5_readFault_80    σ_16
set_option maxHeartbeats 4000000 in
set_option maxRecDepth 100000 in
theorem w_X5_readFault_55 {p : Program} {l : Launch} {e : Env} {s : State} {m : MethodId} {args : Array Value} {below : List Frame} {meth : Method} {c : Code} {Γ : GG} {res : Int32 × Sg} (M : MX RX5 cX5_readFault 2 none p s m args meth c) (K : KK Γ s s.heap)  (x1 : Int32) (s0 : Int32) (s1 : Int32) (σ : Sg) (H : Heap) (locs : List Loc) (ls : Array Slot)  (hB : Bd Γ σ s H locs) (hl : lv_has ls 2 [(0, .ref (Γ.1 150)), (1, .int x1)]) (hr : f_X5_readFault_55   x1 s0 s1 σ = some res) : WV Γ rm_X5_readFault p l e s m args below meth c H locs res (F0 m 55 ls [.int s0, .int s1, .ref (Γ.1 150)]) := by
  unfold f_X5_readFault_55 at hr
  refine lv_iadd M.1 M.2.1 dX5_readFault_55 ?_
  obtain ⟨σ_16, e_17, hr⟩ := wbd hr
  refine x_put5 M K hB isK_150 6 (by decide) wd_167 dX5_readFault_56 (fun H locs hB => ?_)
  rw [← e_17] at hB
  refine lv_aload_n M.1 M.2.1 dX5_readFault_59 rfl (lv_at hl 0 rfl) ?_
  refine x_get5 M K hB isK_150 7 (by decide) wd_168 (v := .int (σ_16 150 7)) rfl dX5_readFault_60 ?_
  refine lv_if_ne (tgt := 80) M.1 M.2.1 dX5_readFault_63 (by decide) (fun c_18 => ?_) (fun c_18 => ?_)
  · rw [if_neg c_18] at hr
    exact w_X5_readFault_80 M K    _ _ _ _  hB (lv_sub hl [0] rfl) hr
  · rw [if_pos c_18] at hr
    refine lv_aload_n M.1 M.2.1 dX5_readFault_66 rfl (lv_at hl 0 rfl) ?_
    obtain ⟨v_19, σ_20, h_21, hr⟩ := cbd hr
    refine x_callI (x_runV M K hB hl.1 [] (rest := []) rfl (c_X5_next l Γ   σ_16 (v_19, σ_20) h_21) cy_X5_next (x_recv K hB isK_150.2 (ent_5 isK_150.1) rfl) wd_169 ⟨rfl, rfl, Nat.le_of_ble_eq_true rfl, Nat.le_of_ble_eq_true rfl⟩ (Nat.le_of_ble_eq_true rfl) ⟨Nat.zero_le _, Nat.zero_le _⟩ dX5_readFault_67) hB (fun H locs hB => ?_)
    replace hB : Bd Γ σ_20 s H locs := hB
    refine lv_bipush (v := 48) M.1 M.2.1 dX5_readFault_70 (by decide) ?_
    refine lv_bipush (v := 53) M.1 M.2.1 dX5_readFault_72 (by decide) ?_
    obtain ⟨v_22, σ_23, h_24, hr⟩ := cbd hr
    refine x_callI (x_runS M K hB hl.1 [.int v_19, .int 48, .int 53] (rest := []) rfl (c_X5_in l Γ v_19 48 53  σ_20 (v_22, σ_23) h_24) cy_X5_in wd_155 ⟨rfl, rfl, Nat.le_of_ble_eq_true rfl, Nat.le_of_ble_eq_true rfl⟩ (Nat.le_of_ble_eq_true rfl) ⟨Nat.zero_le _, Nat.zero_le _⟩ dX5_readFault_74) hB (fun H locs hB => ?_)
    replace hB : Bd Γ σ_23 s H locs := hB
    refine lv_if_ne (tgt := 86) M.1 M.2.1 dX5_readFault_77 (by decide) (fun c_25 => ?_) (fun c_25 => ?_)
    · rw [if_neg c_25] at hr
      refine lv_aload_n M.1 M.2.1 dX5_readFault_86 rfl (lv_at hl 0 rfl) ?_
      refine x_get5 M K hB isK_150 8 (by decide) wd_171 (v := .ref (Γ.1 156)) rfl dX5_readFault_87 ?_
      refine lv_iload_n M.1 M.2.1 dX5_readFault_90 rfl (lv_at hl 1 rfl) ?_
      refine lv_iconst (v := 1) M.1 M.2.1 dX5_readFault_91 (by decide) ?_
      refine lv_iadd M.1 M.2.1 dX5_readFault_92 ?_
      refine lv_aload_n M.1 M.2.1 dX5_readFault_93 rfl (lv_at hl 0 rfl) ?_
      obtain ⟨v_26, σ_27, h_28, hr⟩ := cbd hr
      refine x_callI (x_runV M K hB hl.1 [] (rest := [.int (x1 + 1), .ref (Γ.1 156)]) rfl (c_X5_next l Γ   σ_23 (v_26, σ_27) h_28) cy_X5_next (x_recv K hB isK_150.2 (ent_5 isK_150.1) rfl) wd_169 ⟨rfl, rfl, Nat.le_of_ble_eq_true rfl, Nat.le_of_ble_eq_true rfl⟩ (Nat.le_of_ble_eq_true rfl) ⟨Nat.zero_le _, Nat.zero_le _⟩ dX5_readFault_94) hB (fun H locs hB => ?_)
      replace hB : Bd Γ σ_27 s H locs := hB
      refine lv_bipush (v := 48) M.1 M.2.1 dX5_readFault_97 (by decide) ?_
      refine lv_isub M.1 M.2.1 dX5_readFault_99 ?_
      obtain ⟨g_29, hr⟩ := gd hr
      obtain ⟨σ_30, e_31, hr⟩ := wbd hr
      refine x_iast M K hB isA_156 g_29 dX5_readFault_100 (fun H locs hB => ?_)
      rw [← e_31] at hB
      refine lv_aload_n M.1 M.2.1 dX5_readFault_101 rfl (lv_at hl 0 rfl) ?_
      refine lv_dup M.1 M.2.1 dX5_readFault_102 rfl ?_
      refine x_get5 M K hB isK_150 6 (by decide) wd_167 (v := .int (σ_30 150 6)) rfl dX5_readFault_103 ?_
      refine lv_iconst (v := 1) M.1 M.2.1 dX5_readFault_106 (by decide) ?_
      refine lv_iadd M.1 M.2.1 dX5_readFault_107 ?_
      obtain ⟨σ_32, e_33, hr⟩ := wbd hr
      refine x_put5 M K hB isK_150 6 (by decide) wd_167 dX5_readFault_108 (fun H locs hB => ?_)
      rw [← e_33] at hB
      refine lv_aload_n M.1 M.2.1 dX5_readFault_111 rfl (lv_at hl 0 rfl) ?_
      refine x_get5 M K hB isK_150 8 (by decide) wd_171 (v := .ref (Γ.1 156)) rfl dX5_readFault_112 ?_
      refine lv_iload_n M.1 M.2.1 dX5_readFault_115 rfl (lv_at hl 1 rfl) ?_
      refine lv_iconst (v := 2) M.1 M.2.1 dX5_readFault_116 (by decide) ?_
      refine lv_iadd M.1 M.2.1 dX5_readFault_117 ?_
      refine lv_aload_n M.1 M.2.1 dX5_readFault_118 rfl (lv_at hl 0 rfl) ?_
      refine lv_bipush (v := 64) M.1 M.2.1 dX5_readFault_119 (by decide) ?_
      obtain ⟨v_34, σ_35, h_36, hr⟩ := cbd hr
      refine x_callI (x_runV M K hB hl.1 [.int 64] (rest := [.int (x1 + 2), .ref (Γ.1 156)]) rfl (c_X5_takes l Γ 64  σ_32 (v_34, σ_35) h_36) cy_X5_takes (x_recv K hB isK_150.2 (ent_5 isK_150.1) rfl) wd_173 ⟨rfl, rfl, Nat.le_of_ble_eq_true rfl, Nat.le_of_ble_eq_true rfl⟩ (Nat.le_of_ble_eq_true rfl) ⟨Nat.zero_le _, Nat.zero_le _⟩ dX5_readFault_121) hB (fun H locs hB => ?_)
      replace hB : Bd Γ σ_35 s H locs := hB
      refine lv_if_eq (tgt := 137) M.1 M.2.1 dX5_readFault_124 (by decide) (fun c_37 => ?_) (fun c_37 => ?_)
      · rw [if_pos c_37] at hr
        refine lv_iconst (v := 0) M.1 M.2.1 dX5_readFault_137 (by decide) ?_
        exact w_X5_readFault_138 M K   x1 0 (x1 + 2) _ _ _ _  hB (lv_sub hl [0, 1] rfl) hr
      · rw [if_neg c_37] at hr
        refine lv_aload_n M.1 M.2.1 dX5_readFault_127 rfl (lv_at hl 0 rfl) ?_
        refine lv_sipush (v := 5000) M.1 M.2.1 dX5_readFault_128 (by decide) ?_
        obtain ⟨v_38, σ_39, h_40, hr⟩ := cbd hr
        refine x_callI (x_runV M K hB hl.1 [.int 5000] (rest := [.int (x1 + 2), .ref (Γ.1 156)]) rfl (c_X5_readNumber l Γ 5000  σ_35 (v_38, σ_39) h_40) cy_X5_readNumber (x_recv K hB isK_150.2 (ent_5 isK_150.1) rfl) wd_174 ⟨rfl, rfl, Nat.le_of_ble_eq_true rfl, Nat.le_of_ble_eq_true rfl⟩ (Nat.le_of_ble_eq_true rfl) ⟨Nat.zero_le _, Nat.zero_le _⟩ dX5_readFault_131) hB (fun H locs hB => ?_)
        replace hB : Bd Γ σ_39 s H locs := hB
        refine lv_goto (tgt := 138) M.1 M.2.1 dX5_readFault_134 (by decide) ?_
        exact w_X5_readFault_138 M K   x1 v_38 (x1 + 2) _ _ _ _  hB (lv_sub hl [0, 1] rfl) hr
    · rw [if_pos c_25] at hr
      exact w_X5_readFault_80 M K    _ _ _ _  hB (lv_sub hl [0] rfl) hr
def f_X5_readFault_35   (x1 : Int32) (s0 : Int32) (σ : Sg) : Option (Int32 × Sg) :=
if s0 = 0 ∨ s0 = 1 then
wb (st σ 150 7 s0) fun σ_13 =>
if σ_13 150 7 = 0 then
f_X5_readFault_55   x1 1 (σ_13 150 6) σ_13
else
f_X5_readFault_55   x1 0 (σ_13 150 6) σ_13 else none
set_option maxHeartbeats 4000000 in
set_option maxRecDepth 100000 in
theorem w_X5_readFault_35 {p : Program} {l : Launch} {e : Env} {s : State} {m : MethodId} {args : Array Value} {below : List Frame} {meth : Method} {c : Code} {Γ : GG} {res : Int32 × Sg} (M : MX RX5 cX5_readFault 2 none p s m args meth c) (K : KK Γ s s.heap)  (x1 : Int32) (s0 : Int32) (σ : Sg) (H : Heap) (locs : List Loc) (ls : Array Slot)  (hB : Bd Γ σ s H locs) (hl : lv_has ls 2 [(0, .ref (Γ.1 150)), (1, .int x1)]) (hr : f_X5_readFault_35   x1 s0 σ = some res) : WV Γ rm_X5_readFault p l e s m args below meth c H locs res (F0 m 35 ls [.int s0, .ref (Γ.1 150)]) := by
  unfold f_X5_readFault_35 at hr
  obtain ⟨g_12, hr⟩ := gd2 hr
  obtain ⟨σ_13, e_14, hr⟩ := wbd hr
  refine x_putz5 M K hB isK_150 7 (by decide) wd_168 g_12 dX5_readFault_35 (fun H locs hB => ?_)
  rw [← e_14] at hB
  refine lv_aload_n M.1 M.2.1 dX5_readFault_38 rfl (lv_at hl 0 rfl) ?_
  refine lv_dup M.1 M.2.1 dX5_readFault_39 rfl ?_
  refine x_get5 M K hB isK_150 6 (by decide) wd_167 (v := .int (σ_13 150 6)) rfl dX5_readFault_40 ?_
  refine lv_aload_n M.1 M.2.1 dX5_readFault_43 rfl (lv_at hl 0 rfl) ?_
  refine x_get5 M K hB isK_150 7 (by decide) wd_168 (v := .int (σ_13 150 7)) rfl dX5_readFault_44 ?_
  refine lv_if_eq (tgt := 54) M.1 M.2.1 dX5_readFault_47 (by decide) (fun c_15 => ?_) (fun c_15 => ?_)
  · rw [if_pos c_15] at hr
    refine lv_iconst (v := 1) M.1 M.2.1 dX5_readFault_54 (by decide) ?_
    exact w_X5_readFault_55 M K   x1 1 (σ_13 150 6) _ _ _ _  hB (lv_sub hl [0, 1] rfl) hr
  · rw [if_neg c_15] at hr
    refine lv_iconst (v := 0) M.1 M.2.1 dX5_readFault_50 (by decide) ?_
    refine lv_goto (tgt := 55) M.1 M.2.1 dX5_readFault_51 (by decide) ?_
    exact w_X5_readFault_55 M K   x1 0 (σ_13 150 6) _ _ _ _  hB (lv_sub hl [0, 1] rfl) hr
def f_X5_readFault_0    (σ : Sg) : Option (Int32 × Sg) :=
cb (f_X5_next_0  σ) fun v_1 σ_2 =>
cb (f_X5_kindOf_0 v_1 σ_2) fun v_4 σ_5 =>
if 5 * (σ 150 9) < 0 ∨ 155 ≤ (5 * (σ 150 9)).toNatClampNeg then none else
wb (st σ_5 156 ((5 * (σ 150 9)).toNatClampNeg) v_4) fun σ_8 =>
if 5 * (σ 150 9) < 0 ∨ 155 ≤ (5 * (σ 150 9)).toNatClampNeg then none else
if 0 ≤ σ_8 156 ((5 * (σ 150 9)).toNatClampNeg) then
f_X5_readFault_35   (5 * (σ 150 9)) 0 σ_8
else
f_X5_readFault_35   (5 * (σ 150 9)) 1 σ_8
set_option maxHeartbeats 4000000 in
set_option maxRecDepth 100000 in
theorem w_X5_readFault_0 {p : Program} {l : Launch} {e : Env} {s : State} {m : MethodId} {args : Array Value} {below : List Frame} {meth : Method} {c : Code} {Γ : GG} {res : Int32 × Sg} (M : MX RX5 cX5_readFault 2 none p s m args meth c) (K : KK Γ s s.heap)   (σ : Sg) (H : Heap) (locs : List Loc) (ls : Array Slot)  (hB : Bd Γ σ s H locs) (hl : lv_has ls 2 [(0, .ref (Γ.1 150))]) (hr : f_X5_readFault_0    σ = some res) : WV Γ rm_X5_readFault p l e s m args below meth c H locs res (F0 m 0 ls []) := by
  unfold f_X5_readFault_0 at hr
  refine lv_iconst (v := 5) M.1 M.2.1 dX5_readFault_0 (by decide) ?_
  refine lv_aload_n M.1 M.2.1 dX5_readFault_1 rfl (lv_at hl 0 rfl) ?_
  refine x_get5 M K hB isK_150 9 (by decide) wd_170 (v := .int (σ 150 9)) rfl dX5_readFault_2 ?_
  refine lv_imul M.1 M.2.1 dX5_readFault_5 ?_
  refine lv_istore_n (lv' := [(1, .int (5 * (σ 150 9))), (0, .ref (Γ.1 150))]) M.1 M.2.1 dX5_readFault_6 rfl hl (by decide) rfl (fun ls hl => ?_)
  refine lv_aload_n M.1 M.2.1 dX5_readFault_7 rfl (lv_at hl 1 rfl) ?_
  refine x_get5 M K hB isK_150 8 (by decide) wd_171 (v := .ref (Γ.1 156)) rfl dX5_readFault_8 ?_
  refine lv_iload_n M.1 M.2.1 dX5_readFault_11 rfl (lv_at hl 0 rfl) ?_
  refine lv_aload_n M.1 M.2.1 dX5_readFault_12 rfl (lv_at hl 1 rfl) ?_
  obtain ⟨v_1, σ_2, h_3, hr⟩ := cbd hr
  refine x_callI (x_runV M K hB hl.1 [] (rest := [.int (5 * (σ 150 9)), .ref (Γ.1 156)]) rfl (c_X5_next l Γ   σ (v_1, σ_2) h_3) cy_X5_next (x_recv K hB isK_150.2 (ent_5 isK_150.1) rfl) wd_169 ⟨rfl, rfl, Nat.le_of_ble_eq_true rfl, Nat.le_of_ble_eq_true rfl⟩ (Nat.le_of_ble_eq_true rfl) ⟨Nat.zero_le _, Nat.zero_le _⟩ dX5_readFault_13) hB (fun H locs hB => ?_)
  replace hB : Bd Γ σ_2 s H locs := hB
  obtain ⟨v_4, σ_5, h_6, hr⟩ := cbd hr
  refine x_callI (x_runS M K hB hl.1 [.int v_1] (rest := [.int (5 * (σ 150 9)), .ref (Γ.1 156)]) rfl (c_X5_kindOf l Γ v_1  σ_2 (v_4, σ_5) h_6) cy_X5_kindOf wd_172 ⟨rfl, rfl, Nat.le_of_ble_eq_true rfl, Nat.le_of_ble_eq_true rfl⟩ (Nat.le_of_ble_eq_true rfl) ⟨Nat.zero_le _, Nat.zero_le _⟩ dX5_readFault_16) hB (fun H locs hB => ?_)
  replace hB : Bd Γ σ_5 s H locs := hB
  obtain ⟨g_7, hr⟩ := gd hr
  obtain ⟨σ_8, e_9, hr⟩ := wbd hr
  refine x_iast M K hB isA_156 g_7 dX5_readFault_19 (fun H locs hB => ?_)
  rw [← e_9] at hB
  refine lv_aload_n M.1 M.2.1 dX5_readFault_20 rfl (lv_at hl 1 rfl) ?_
  refine lv_aload_n M.1 M.2.1 dX5_readFault_21 rfl (lv_at hl 1 rfl) ?_
  refine x_get5 M K hB isK_150 8 (by decide) wd_171 (v := .ref (Γ.1 156)) rfl dX5_readFault_22 ?_
  refine lv_iload_n M.1 M.2.1 dX5_readFault_25 rfl (lv_at hl 0 rfl) ?_
  obtain ⟨g_10, hr⟩ := gd hr
  refine x_iald M K hB isA_156 g_10 dX5_readFault_26 ?_
  refine lv_if_ge (tgt := 34) M.1 M.2.1 dX5_readFault_27 (by decide) (fun c_11 => ?_) (fun c_11 => ?_)
  · rw [if_pos c_11] at hr
    refine lv_iconst (v := 0) M.1 M.2.1 dX5_readFault_34 (by decide) ?_
    exact w_X5_readFault_35 M K   (5 * (σ 150 9)) 0 _ _ _ _  hB (lv_sub hl [1, 0] rfl) hr
  · rw [if_neg c_11] at hr
    refine lv_iconst (v := 1) M.1 M.2.1 dX5_readFault_30 (by decide) ?_
    refine lv_goto (tgt := 35) M.1 M.2.1 dX5_readFault_31 (by decide) ?_
    exact w_X5_readFault_35 M K   (5 * (σ 150 9)) 1 _ _ _ _  hB (lv_sub hl [1, 0] rfl) hr
theorem c_X5_readFault (l : Launch) (Γ : GG)   (σ : Sg) (res : Int32 × Sg) (hr : f_X5_readFault_0  σ = some res) : Met l yX5_readFault (Cond.code yX5_readFault cX5_readFault 2 none :: gtb) rm_X5_readFault (va_Pc [.ref (Γ.1 150)] (GI Γ σ)) (QV Γ res) 0 0 (AD Γ) :=
  x_metV (by decide) [.ref (Γ.1 150)] (Nat.le_of_ble_eq_true rfl) (fun p e s m args below meth c M K ls hl hB => w_X5_readFault_0 M K  σ _ _ ls hB hl hr)
abbrev rm_X5_position : Room := { frames := 3, cells := 0, slots := 0, locals := 65 }
def f_X5_position_62   (s0 : Int32) (σ : Sg) : Option (Int32 × Sg) :=
some (s0, σ)
set_option maxHeartbeats 4000000 in
set_option maxRecDepth 100000 in
theorem w_X5_position_62 {p : Program} {l : Launch} {e : Env} {s : State} {m : MethodId} {args : Array Value} {below : List Frame} {meth : Method} {c : Code} {Γ : GG} {res : Int32 × Sg} (M : MX RX5 cX5_position 1 (some .int) p s m args meth c) (K : KK Γ s s.heap)  (s0 : Int32) (σ : Sg) (H : Heap) (locs : List Loc) (ls : Array Slot)  (hB : Bd Γ σ s H locs) (hl : lv_has ls 1 []) (hr : f_X5_position_62   s0 σ = some res) : WI Γ rm_X5_position p l e s m args below meth c H locs res (F0 m 62 ls [.int s0]) := by
  unfold f_X5_position_62 at hr
  exact x_iret M hB (Option.some.inj hr) dX5_position_62
def f_X5_position_53    (σ : Sg) : Option (Int32 × Sg) :=
f_X5_position_62   (σ 150 6) σ
set_option maxHeartbeats 4000000 in
set_option maxRecDepth 100000 in
theorem w_X5_position_53 {p : Program} {l : Launch} {e : Env} {s : State} {m : MethodId} {args : Array Value} {below : List Frame} {meth : Method} {c : Code} {Γ : GG} {res : Int32 × Sg} (M : MX RX5 cX5_position 1 (some .int) p s m args meth c) (K : KK Γ s s.heap)   (σ : Sg) (H : Heap) (locs : List Loc) (ls : Array Slot)  (hB : Bd Γ σ s H locs) (hl : lv_has ls 1 [(0, .ref (Γ.1 150))]) (hr : f_X5_position_53    σ = some res) : WI Γ rm_X5_position p l e s m args below meth c H locs res (F0 m 53 ls []) := by
  unfold f_X5_position_53 at hr
  refine lv_aload_n M.1 M.2.1 dX5_position_53 rfl (lv_at hl 0 rfl) ?_
  refine x_get5 M K hB isK_150 6 (by decide) wd_167 (v := .int (σ 150 6)) rfl dX5_position_54 ?_
  refine lv_goto (tgt := 62) M.1 M.2.1 dX5_position_57 (by decide) ?_
  exact w_X5_position_62 M K   (σ 150 6) _ _ _ _  hB (lv_sub hl [] rfl) hr
def f_X5_position_19   : Nat → Sg → Option (Int32 × Sg)
  | 0, _ => none
  | f + 1, σ => cb (f_X5_takes_0 44 σ) fun v_10 σ_11 =>
if v_10 = 0 then
if σ_11 150 7 = 0 then
if σ_11 150 5 ≤ σ_11 150 6 then
f_X5_position_62   (-6) σ_11
else
f_X5_position_53    σ_11
else
f_X5_position_53    σ_11
else
cb (f_X5_readFault_0  σ_11) fun v_16 σ_17 =>
f_X5_position_19   f  σ_17
set_option maxHeartbeats 4000000 in
set_option maxRecDepth 100000 in
theorem w_X5_position_19 {p : Program} {l : Launch} {e : Env} {s : State} {m : MethodId} {args : Array Value} {below : List Frame} {meth : Method} {c : Code} {Γ : GG} {res : Int32 × Sg} (M : MX RX5 cX5_position 1 (some .int) p s m args meth c) (K : KK Γ s s.heap)  : ∀ (f : Nat)  (σ : Sg) (H : Heap) (locs : List Loc) (ls : Array Slot)  (hB : Bd Γ σ s H locs) (hl : lv_has ls 1 [(0, .ref (Γ.1 150))]) (hr : f_X5_position_19   f  σ = some res), WI Γ rm_X5_position p l e s m args below meth c H locs res (F0 m 19 ls []) := by
  intro f
  induction f with
  | zero => intros; rename_i hr; exact absurd hr (by rw [f_X5_position_19]; exact fun h => by cases h)
  | succ f ih_19 =>
    intro  σ H locs ls  hB hl hr
    rw [f_X5_position_19] at hr
    refine lv_aload_n M.1 M.2.1 dX5_position_19 rfl (lv_at hl 0 rfl) ?_
    refine lv_bipush (v := 44) M.1 M.2.1 dX5_position_20 (by decide) ?_
    obtain ⟨v_10, σ_11, h_12, hr⟩ := cbd hr
    refine x_callI (x_runV M K hB hl.1 [.int 44] (rest := []) rfl (c_X5_takes l Γ 44  σ (v_10, σ_11) h_12) cy_X5_takes (x_recv K hB isK_150.2 (ent_5 isK_150.1) rfl) wd_173 ⟨rfl, rfl, Nat.le_of_ble_eq_true rfl, Nat.le_of_ble_eq_true rfl⟩ (Nat.le_of_ble_eq_true rfl) ⟨Nat.zero_le _, Nat.zero_le _⟩ dX5_position_22) hB (fun H locs hB => ?_)
    replace hB : Bd Γ σ_11 s H locs := hB
    refine lv_if_eq (tgt := 35) M.1 M.2.1 dX5_position_25 (by decide) (fun c_13 => ?_) (fun c_13 => ?_)
    · rw [if_pos c_13] at hr
      refine lv_aload_n M.1 M.2.1 dX5_position_35 rfl (lv_at hl 0 rfl) ?_
      refine x_get5 M K hB isK_150 7 (by decide) wd_168 (v := .int (σ_11 150 7)) rfl dX5_position_36 ?_
      refine lv_if_ne (tgt := 53) M.1 M.2.1 dX5_position_39 (by decide) (fun c_14 => ?_) (fun c_14 => ?_)
      · rw [if_neg c_14] at hr
        exact w_X5_position_53 M K    _ _ _ _  hB (lv_sub hl [0] rfl) hr
      · rw [if_pos c_14] at hr
        refine lv_aload_n M.1 M.2.1 dX5_position_42 rfl (lv_at hl 0 rfl) ?_
        refine x_get5 M K hB isK_150 6 (by decide) wd_167 (v := .int (σ_11 150 6)) rfl dX5_position_43 ?_
        refine lv_aload_n M.1 M.2.1 dX5_position_46 rfl (lv_at hl 0 rfl) ?_
        refine x_get5 M K hB isK_150 5 (by decide) wd_165 (v := .int (σ_11 150 5)) rfl dX5_position_47 ?_
        refine lv_icmp_ge (tgt := 60) M.1 M.2.1 dX5_position_50 (by decide) (fun c_15 => ?_) (fun c_15 => ?_)
        · rw [if_pos c_15] at hr
          refine lv_bipush (v := (-6)) M.1 M.2.1 dX5_position_60 (by decide) ?_
          exact w_X5_position_62 M K   (-6) _ _ _ _  hB (lv_sub hl [] rfl) hr
        · rw [if_neg c_15] at hr
          exact w_X5_position_53 M K    _ _ _ _  hB (lv_sub hl [0] rfl) hr
    · rw [if_neg c_13] at hr
      refine lv_aload_n M.1 M.2.1 dX5_position_28 rfl (lv_at hl 0 rfl) ?_
      obtain ⟨v_16, σ_17, h_18, hr⟩ := cbd hr
      refine x_callV (x_runV M K hB hl.1 [] (rest := []) rfl (c_X5_readFault l Γ   σ_11 (v_16, σ_17) h_18) cy_X5_readFault (x_recv K hB isK_150.2 (ent_5 isK_150.1) rfl) wd_175 ⟨rfl, rfl, Nat.le_of_ble_eq_true rfl, Nat.le_of_ble_eq_true rfl⟩ (Nat.le_of_ble_eq_true rfl) ⟨Nat.zero_le _, Nat.zero_le _⟩ dX5_position_29) hB (fun H locs hB => ?_)
      replace hB : Bd Γ σ_17 s H locs := hB
      refine lv_goto (tgt := 19) M.1 M.2.1 dX5_position_32 (by decide) ?_
      exact ih_19  _ _ _ _  hB (lv_sub hl [0] rfl) hr
def f_X5_position_0    (σ : Sg) : Option (Int32 × Sg) :=
wb (st σ 150 6 0) fun σ_1 =>
wb (st σ_1 150 7 0) fun σ_3 =>
wb (st σ_3 150 9 0) fun σ_5 =>
cb (f_X5_readFault_0  σ_5) fun v_7 σ_8 =>
f_X5_position_19   FU  σ_8
set_option maxHeartbeats 4000000 in
set_option maxRecDepth 100000 in
theorem w_X5_position_0 {p : Program} {l : Launch} {e : Env} {s : State} {m : MethodId} {args : Array Value} {below : List Frame} {meth : Method} {c : Code} {Γ : GG} {res : Int32 × Sg} (M : MX RX5 cX5_position 1 (some .int) p s m args meth c) (K : KK Γ s s.heap)   (σ : Sg) (H : Heap) (locs : List Loc) (ls : Array Slot)  (hB : Bd Γ σ s H locs) (hl : lv_has ls 1 [(0, .ref (Γ.1 150))]) (hr : f_X5_position_0    σ = some res) : WI Γ rm_X5_position p l e s m args below meth c H locs res (F0 m 0 ls []) := by
  unfold f_X5_position_0 at hr
  refine lv_aload_n M.1 M.2.1 dX5_position_0 rfl (lv_at hl 0 rfl) ?_
  refine lv_iconst (v := 0) M.1 M.2.1 dX5_position_1 (by decide) ?_
  obtain ⟨σ_1, e_2, hr⟩ := wbd hr
  refine x_put5 M K hB isK_150 6 (by decide) wd_167 dX5_position_2 (fun H locs hB => ?_)
  rw [← e_2] at hB
  refine lv_aload_n M.1 M.2.1 dX5_position_5 rfl (lv_at hl 0 rfl) ?_
  refine lv_iconst (v := 0) M.1 M.2.1 dX5_position_6 (by decide) ?_
  obtain ⟨σ_3, e_4, hr⟩ := wbd hr
  refine x_putz5 M K hB isK_150 7 (by decide) wd_168 (by decide) dX5_position_7 (fun H locs hB => ?_)
  rw [← e_4] at hB
  refine lv_aload_n M.1 M.2.1 dX5_position_10 rfl (lv_at hl 0 rfl) ?_
  refine lv_iconst (v := 0) M.1 M.2.1 dX5_position_11 (by decide) ?_
  obtain ⟨σ_5, e_6, hr⟩ := wbd hr
  refine x_put5 M K hB isK_150 9 (by decide) wd_170 dX5_position_12 (fun H locs hB => ?_)
  rw [← e_6] at hB
  refine lv_aload_n M.1 M.2.1 dX5_position_15 rfl (lv_at hl 0 rfl) ?_
  obtain ⟨v_7, σ_8, h_9, hr⟩ := cbd hr
  refine x_callV (x_runV M K hB hl.1 [] (rest := []) rfl (c_X5_readFault l Γ   σ_5 (v_7, σ_8) h_9) cy_X5_readFault (x_recv K hB isK_150.2 (ent_5 isK_150.1) rfl) wd_175 ⟨rfl, rfl, Nat.le_of_ble_eq_true rfl, Nat.le_of_ble_eq_true rfl⟩ (Nat.le_of_ble_eq_true rfl) ⟨Nat.zero_le _, Nat.zero_le _⟩ dX5_position_16) hB (fun H locs hB => ?_)
  replace hB : Bd Γ σ_8 s H locs := hB
  exact w_X5_position_19 M K   FU  _ _ _ _  hB (lv_sub hl [0] rfl) hr
theorem c_X5_position (l : Launch) (Γ : GG)   (σ : Sg) (res : Int32 × Sg) (hr : f_X5_position_0  σ = some res) : Met l yX5_position (Cond.code yX5_position cX5_position 1 (some .int) :: gtb) rm_X5_position (va_Pc [.ref (Γ.1 150)] (GI Γ σ)) (QI Γ res) 0 0 (AD Γ) :=
  x_metI (by decide) [.ref (Γ.1 150)] (Nat.le_of_ble_eq_true rfl) (fun p e s m args below meth c M K ls hl hB => w_X5_position_0 M K  σ _ _ ls hB hl hr)
abbrev rm_X5_load : Room := { frames := 4, cells := 0, slots := 0, locals := 85 }
def f_X5_load_65   : Nat → Int32 → Sg → Option (Int32 × Sg)
  | 0, _, _ => none
  | f + 1, x2, σ => if σ 150 9 ≤ x2 then
wb (st σ 150 5 0) fun σ_14 =>
some (σ_14 150 9, σ_14)
else
if (5 * x2) + 4 < 0 ∨ 155 ≤ ((5 * x2) + 4).toNatClampNeg then none else
if (5 * x2) + 1 < 0 ∨ 155 ≤ ((5 * x2) + 1).toNatClampNeg then none else
if 5 * x2 < 0 ∨ 155 ≤ (5 * x2).toNatClampNeg then none else
if (5 * x2) + 2 < 0 ∨ 155 ≤ ((5 * x2) + 2).toNatClampNeg then none else
if (5 * x2) + 3 < 0 ∨ 155 ≤ ((5 * x2) + 3).toNatClampNeg then none else
cb (f_X5_layFault_0 (σ 156 (((5 * x2) + 4).toNatClampNeg)) (σ 156 (((5 * x2) + 1).toNatClampNeg)) (σ 156 ((5 * x2).toNatClampNeg)) (σ 156 (((5 * x2) + 2).toNatClampNeg)) (σ 156 (((5 * x2) + 3).toNatClampNeg)) σ) fun v_21 σ_22 =>
f_X5_load_65   f (x2 + 1) σ_22
set_option maxHeartbeats 4000000 in
set_option maxRecDepth 100000 in
theorem w_X5_load_65 {p : Program} {l : Launch} {e : Env} {s : State} {m : MethodId} {args : Array Value} {below : List Frame} {meth : Method} {c : Code} {Γ : GG} {res : Int32 × Sg} (M : MX RX5 cX5_load 3 (some .int) p s m args meth c) (K : KK Γ s s.heap)  : ∀ (f : Nat) (x2 : Int32) (σ : Sg) (H : Heap) (locs : List Loc) (ls : Array Slot)  (hB : Bd Γ σ s H locs) (hl : lv_has ls 3 [(0, .ref (Γ.1 150)), (2, .int x2)]) (hr : f_X5_load_65   f x2 σ = some res), WI Γ rm_X5_load p l e s m args below meth c H locs res (F0 m 65 ls []) := by
  intro f
  induction f with
  | zero => intros; rename_i hr; exact absurd hr (by rw [f_X5_load_65]; exact fun h => by cases h)
  | succ f ih_65 =>
    intro x2 σ H locs ls  hB hl hr
    rw [f_X5_load_65] at hr
    refine lv_iload_n M.1 M.2.1 dX5_load_65 rfl (lv_at hl 1 rfl) ?_
    refine lv_aload_n M.1 M.2.1 dX5_load_66 rfl (lv_at hl 0 rfl) ?_
    refine x_get5 M K hB isK_150 9 (by decide) wd_170 (v := .int (σ 150 9)) rfl dX5_load_67 ?_
    refine lv_icmp_ge (tgt := 131) M.1 M.2.1 dX5_load_70 (by decide) (fun c_13 => ?_) (fun c_13 => ?_)
    · rw [if_pos c_13] at hr
      refine lv_aload_n M.1 M.2.1 dX5_load_131 rfl (lv_at hl 0 rfl) ?_
      refine lv_iconst (v := 0) M.1 M.2.1 dX5_load_132 (by decide) ?_
      obtain ⟨σ_14, e_15, hr⟩ := wbd hr
      refine x_put5 M K hB isK_150 5 (by decide) wd_165 dX5_load_133 (fun H locs hB => ?_)
      rw [← e_15] at hB
      refine lv_aload_n M.1 M.2.1 dX5_load_136 rfl (lv_at hl 0 rfl) ?_
      refine x_get5 M K hB isK_150 9 (by decide) wd_170 (v := .int (σ_14 150 9)) rfl dX5_load_137 ?_
      exact x_iret M hB (Option.some.inj hr) dX5_load_140
    · rw [if_neg c_13] at hr
      refine lv_aload_n M.1 M.2.1 dX5_load_73 rfl (lv_at hl 0 rfl) ?_
      refine lv_aload_n M.1 M.2.1 dX5_load_74 rfl (lv_at hl 0 rfl) ?_
      refine x_get5 M K hB isK_150 8 (by decide) wd_171 (v := .ref (Γ.1 156)) rfl dX5_load_75 ?_
      refine lv_iconst (v := 5) M.1 M.2.1 dX5_load_78 (by decide) ?_
      refine lv_iload_n M.1 M.2.1 dX5_load_79 rfl (lv_at hl 1 rfl) ?_
      refine lv_imul M.1 M.2.1 dX5_load_80 ?_
      refine lv_iconst (v := 4) M.1 M.2.1 dX5_load_81 (by decide) ?_
      refine lv_iadd M.1 M.2.1 dX5_load_82 ?_
      obtain ⟨g_16, hr⟩ := gd hr
      refine x_iald M K hB isA_156 g_16 dX5_load_83 ?_
      refine lv_aload_n M.1 M.2.1 dX5_load_84 rfl (lv_at hl 0 rfl) ?_
      refine x_get5 M K hB isK_150 8 (by decide) wd_171 (v := .ref (Γ.1 156)) rfl dX5_load_85 ?_
      refine lv_iconst (v := 5) M.1 M.2.1 dX5_load_88 (by decide) ?_
      refine lv_iload_n M.1 M.2.1 dX5_load_89 rfl (lv_at hl 1 rfl) ?_
      refine lv_imul M.1 M.2.1 dX5_load_90 ?_
      refine lv_iconst (v := 1) M.1 M.2.1 dX5_load_91 (by decide) ?_
      refine lv_iadd M.1 M.2.1 dX5_load_92 ?_
      obtain ⟨g_17, hr⟩ := gd hr
      refine x_iald M K hB isA_156 g_17 dX5_load_93 ?_
      refine lv_aload_n M.1 M.2.1 dX5_load_94 rfl (lv_at hl 0 rfl) ?_
      refine x_get5 M K hB isK_150 8 (by decide) wd_171 (v := .ref (Γ.1 156)) rfl dX5_load_95 ?_
      refine lv_iconst (v := 5) M.1 M.2.1 dX5_load_98 (by decide) ?_
      refine lv_iload_n M.1 M.2.1 dX5_load_99 rfl (lv_at hl 1 rfl) ?_
      refine lv_imul M.1 M.2.1 dX5_load_100 ?_
      obtain ⟨g_18, hr⟩ := gd hr
      refine x_iald M K hB isA_156 g_18 dX5_load_101 ?_
      refine lv_aload_n M.1 M.2.1 dX5_load_102 rfl (lv_at hl 0 rfl) ?_
      refine x_get5 M K hB isK_150 8 (by decide) wd_171 (v := .ref (Γ.1 156)) rfl dX5_load_103 ?_
      refine lv_iconst (v := 5) M.1 M.2.1 dX5_load_106 (by decide) ?_
      refine lv_iload_n M.1 M.2.1 dX5_load_107 rfl (lv_at hl 1 rfl) ?_
      refine lv_imul M.1 M.2.1 dX5_load_108 ?_
      refine lv_iconst (v := 2) M.1 M.2.1 dX5_load_109 (by decide) ?_
      refine lv_iadd M.1 M.2.1 dX5_load_110 ?_
      obtain ⟨g_19, hr⟩ := gd hr
      refine x_iald M K hB isA_156 g_19 dX5_load_111 ?_
      refine lv_aload_n M.1 M.2.1 dX5_load_112 rfl (lv_at hl 0 rfl) ?_
      refine x_get5 M K hB isK_150 8 (by decide) wd_171 (v := .ref (Γ.1 156)) rfl dX5_load_113 ?_
      refine lv_iconst (v := 5) M.1 M.2.1 dX5_load_116 (by decide) ?_
      refine lv_iload_n M.1 M.2.1 dX5_load_117 rfl (lv_at hl 1 rfl) ?_
      refine lv_imul M.1 M.2.1 dX5_load_118 ?_
      refine lv_iconst (v := 3) M.1 M.2.1 dX5_load_119 (by decide) ?_
      refine lv_iadd M.1 M.2.1 dX5_load_120 ?_
      obtain ⟨g_20, hr⟩ := gd hr
      refine x_iald M K hB isA_156 g_20 dX5_load_121 ?_
      obtain ⟨v_21, σ_22, h_23, hr⟩ := cbd hr
      refine x_callV (x_runV M K hB hl.1 [.int (σ 156 (((5 * x2) + 4).toNatClampNeg)), .int (σ 156 (((5 * x2) + 1).toNatClampNeg)), .int (σ 156 ((5 * x2).toNatClampNeg)), .int (σ 156 (((5 * x2) + 2).toNatClampNeg)), .int (σ 156 (((5 * x2) + 3).toNatClampNeg))] (rest := []) rfl (c_X5_layFault l Γ (σ 156 (((5 * x2) + 4).toNatClampNeg)) (σ 156 (((5 * x2) + 1).toNatClampNeg)) (σ 156 ((5 * x2).toNatClampNeg)) (σ 156 (((5 * x2) + 2).toNatClampNeg)) (σ 156 (((5 * x2) + 3).toNatClampNeg))  σ (v_21, σ_22) h_23) cy_X5_layFault (x_recv K hB isK_150.2 (ent_5 isK_150.1) rfl) wd_163 ⟨rfl, rfl, Nat.le_of_ble_eq_true rfl, Nat.le_of_ble_eq_true rfl⟩ (Nat.le_of_ble_eq_true rfl) ⟨Nat.zero_le _, Nat.zero_le _⟩ dX5_load_122) hB (fun H locs hB => ?_)
      replace hB : Bd Γ σ_22 s H locs := hB
      refine lv_iinc (v := x2 + 1) (lv' := [(2, .int (x2 + 1)), (0, .ref (Γ.1 150))]) M.1 M.2.1 dX5_load_125 hl (k := 1) rfl rfl (by decide) rfl (fun ls hl => ?_)
      refine lv_goto (tgt := 65) M.1 M.2.1 dX5_load_128 (by decide) ?_
      exact ih_65 (x2 + 1) _ _ _ _  hB (lv_sub hl [1, 0] rfl) hr
def f_X5_load_50  (rec_16 : Int32 → Int32 → Sg → Option (Int32 × Sg)) (x2 : Int32) (s0 : Int32) (σ : Sg) : Option (Int32 × Sg) :=
rec_16 s0 (x2 + 1) σ
set_option maxHeartbeats 4000000 in
set_option maxRecDepth 100000 in
theorem w_X5_load_50 {p : Program} {l : Launch} {e : Env} {s : State} {m : MethodId} {args : Array Value} {below : List Frame} {meth : Method} {c : Code} {Γ : GG} {res : Int32 × Sg} (M : MX RX5 cX5_load 3 (some .int) p s m args meth c) (K : KK Γ s s.heap)  (rec_16 : Int32 → Int32 → Sg → Option (Int32 × Sg)) (ih_16 : ∀ (x1 : Int32) (x2 : Int32) (σ : Sg) (H : Heap) (locs : List Loc) (ls : Array Slot) , Bd Γ σ s H locs → lv_has ls 3 [(0, .ref (Γ.1 150)), (1, .int x1), (2, .int x2)] → rec_16 x1 x2 σ = some res → WI Γ rm_X5_load p l e s m args below meth c H locs res (F0 m 16 ls [])) (x2 : Int32) (s0 : Int32) (σ : Sg) (H : Heap) (locs : List Loc) (ls : Array Slot)  (hB : Bd Γ σ s H locs) (hl : lv_has ls 3 [(0, .ref (Γ.1 150)), (2, .int x2)]) (hr : f_X5_load_50  rec_16 x2 s0 σ = some res) : WI Γ rm_X5_load p l e s m args below meth c H locs res (F0 m 50 ls [.int s0]) := by
  unfold f_X5_load_50 at hr
  refine lv_istore_n (lv' := [(1, .int s0), (0, .ref (Γ.1 150)), (2, .int x2)]) M.1 M.2.1 dX5_load_50 rfl hl (by decide) rfl (fun ls hl => ?_)
  refine lv_iinc (v := x2 + 1) (lv' := [(2, .int (x2 + 1)), (1, .int s0), (0, .ref (Γ.1 150))]) M.1 M.2.1 dX5_load_51 hl (k := 2) rfl rfl (by decide) rfl (fun ls hl => ?_)
  refine lv_goto (tgt := 16) M.1 M.2.1 dX5_load_54 (by decide) ?_
  exact ih_16 s0 (x2 + 1) _ _ _ _  hB (lv_sub hl [2, 1, 0] rfl) hr
def f_X5_load_49  (rec_16 : Int32 → Int32 → Sg → Option (Int32 × Sg)) (x2 : Int32) (σ : Sg) : Option (Int32 × Sg) :=
f_X5_load_50  rec_16 x2 0 σ
set_option maxHeartbeats 4000000 in
set_option maxRecDepth 100000 in
theorem w_X5_load_49 {p : Program} {l : Launch} {e : Env} {s : State} {m : MethodId} {args : Array Value} {below : List Frame} {meth : Method} {c : Code} {Γ : GG} {res : Int32 × Sg} (M : MX RX5 cX5_load 3 (some .int) p s m args meth c) (K : KK Γ s s.heap)  (rec_16 : Int32 → Int32 → Sg → Option (Int32 × Sg)) (ih_16 : ∀ (x1 : Int32) (x2 : Int32) (σ : Sg) (H : Heap) (locs : List Loc) (ls : Array Slot) , Bd Γ σ s H locs → lv_has ls 3 [(0, .ref (Γ.1 150)), (1, .int x1), (2, .int x2)] → rec_16 x1 x2 σ = some res → WI Γ rm_X5_load p l e s m args below meth c H locs res (F0 m 16 ls [])) (x2 : Int32) (σ : Sg) (H : Heap) (locs : List Loc) (ls : Array Slot)  (hB : Bd Γ σ s H locs) (hl : lv_has ls 3 [(0, .ref (Γ.1 150)), (2, .int x2)]) (hr : f_X5_load_49  rec_16 x2 σ = some res) : WI Γ rm_X5_load p l e s m args below meth c H locs res (F0 m 49 ls []) := by
  unfold f_X5_load_49 at hr
  refine lv_iconst (v := 0) M.1 M.2.1 dX5_load_49 (by decide) ?_
  exact w_X5_load_50 M K  _ ih_16 x2 0 _ _ _ _  hB (lv_sub hl [0, 1] rfl) hr
def f_X5_load_16   : Nat → Int32 → Int32 → Sg → Option (Int32 × Sg)
  | 0, _, _, _ => none
  | f + 1, x1, x2, σ => if σ 150 9 ≤ x2 then
if x1 = 0 then
some ((-1), σ)
else
f_X5_load_65   FU 0 σ
else
if x1 = 0 then
f_X5_load_49  (f_X5_load_16   f) x2 σ
else
if (5 * x2) + 1 < 0 ∨ 155 ≤ ((5 * x2) + 1).toNatClampNeg then none else
cb (f_X5_isTask_0 (σ 156 (((5 * x2) + 1).toNatClampNeg)) σ) fun v_9 σ_10 =>
if v_9 = 0 then
f_X5_load_49  (f_X5_load_16   f) x2 σ_10
else
f_X5_load_50  (f_X5_load_16   f) x2 1 σ_10
set_option maxHeartbeats 4000000 in
set_option maxRecDepth 100000 in
theorem w_X5_load_16 {p : Program} {l : Launch} {e : Env} {s : State} {m : MethodId} {args : Array Value} {below : List Frame} {meth : Method} {c : Code} {Γ : GG} {res : Int32 × Sg} (M : MX RX5 cX5_load 3 (some .int) p s m args meth c) (K : KK Γ s s.heap)  : ∀ (f : Nat) (x1 : Int32) (x2 : Int32) (σ : Sg) (H : Heap) (locs : List Loc) (ls : Array Slot)  (hB : Bd Γ σ s H locs) (hl : lv_has ls 3 [(0, .ref (Γ.1 150)), (1, .int x1), (2, .int x2)]) (hr : f_X5_load_16   f x1 x2 σ = some res), WI Γ rm_X5_load p l e s m args below meth c H locs res (F0 m 16 ls []) := by
  intro f
  induction f with
  | zero => intros; rename_i hr; exact absurd hr (by rw [f_X5_load_16]; exact fun h => by cases h)
  | succ f ih_16 =>
    intro x1 x2 σ H locs ls  hB hl hr
    rw [f_X5_load_16] at hr
    refine lv_iload_n M.1 M.2.1 dX5_load_16 rfl (lv_at hl 2 rfl) ?_
    refine lv_aload_n M.1 M.2.1 dX5_load_17 rfl (lv_at hl 0 rfl) ?_
    refine x_get5 M K hB isK_150 9 (by decide) wd_170 (v := .int (σ 150 9)) rfl dX5_load_18 ?_
    refine lv_icmp_ge (tgt := 57) M.1 M.2.1 dX5_load_21 (by decide) (fun c_5 => ?_) (fun c_5 => ?_)
    · rw [if_pos c_5] at hr
      refine lv_iload_n M.1 M.2.1 dX5_load_57 rfl (lv_at hl 1 rfl) ?_
      refine lv_if_ne (tgt := 63) M.1 M.2.1 dX5_load_58 (by decide) (fun c_6 => ?_) (fun c_6 => ?_)
      · rw [if_neg c_6] at hr
        refine lv_iconst (v := 0) M.1 M.2.1 dX5_load_63 (by decide) ?_
        refine lv_istore_n (lv' := [(2, .int 0), (0, .ref (Γ.1 150)), (1, .int x1)]) M.1 M.2.1 dX5_load_64 rfl hl (by decide) rfl (fun ls hl => ?_)
        exact w_X5_load_65 M K   FU 0 _ _ _ _  hB (lv_sub hl [1, 0] rfl) hr
      · rw [if_pos c_6] at hr
        refine lv_iconst (v := (-1)) M.1 M.2.1 dX5_load_61 (by decide) ?_
        exact x_iret M hB (Option.some.inj hr) dX5_load_62
    · rw [if_neg c_5] at hr
      refine lv_iload_n M.1 M.2.1 dX5_load_24 rfl (lv_at hl 1 rfl) ?_
      refine lv_if_eq (tgt := 49) M.1 M.2.1 dX5_load_25 (by decide) (fun c_7 => ?_) (fun c_7 => ?_)
      · rw [if_pos c_7] at hr
        exact w_X5_load_49 M K  _ ih_16 x2 _ _ _ _  hB (lv_sub hl [0, 2] rfl) hr
      · rw [if_neg c_7] at hr
        refine lv_aload_n M.1 M.2.1 dX5_load_28 rfl (lv_at hl 0 rfl) ?_
        refine lv_aload_n M.1 M.2.1 dX5_load_29 rfl (lv_at hl 0 rfl) ?_
        refine x_get5 M K hB isK_150 8 (by decide) wd_171 (v := .ref (Γ.1 156)) rfl dX5_load_30 ?_
        refine lv_iconst (v := 5) M.1 M.2.1 dX5_load_33 (by decide) ?_
        refine lv_iload_n M.1 M.2.1 dX5_load_34 rfl (lv_at hl 2 rfl) ?_
        refine lv_imul M.1 M.2.1 dX5_load_35 ?_
        refine lv_iconst (v := 1) M.1 M.2.1 dX5_load_36 (by decide) ?_
        refine lv_iadd M.1 M.2.1 dX5_load_37 ?_
        obtain ⟨g_8, hr⟩ := gd hr
        refine x_iald M K hB isA_156 g_8 dX5_load_38 ?_
        obtain ⟨v_9, σ_10, h_11, hr⟩ := cbd hr
        refine x_callI (x_runV M K hB hl.1 [.int (σ 156 (((5 * x2) + 1).toNatClampNeg))] (rest := []) rfl (c_X5_isTask l Γ (σ 156 (((5 * x2) + 1).toNatClampNeg))  σ (v_9, σ_10) h_11) cy_X5_isTask (x_recv K hB isK_150.2 (ent_5 isK_150.1) rfl) wd_160 ⟨rfl, rfl, Nat.le_of_ble_eq_true rfl, Nat.le_of_ble_eq_true rfl⟩ (Nat.le_of_ble_eq_true rfl) ⟨Nat.zero_le _, Nat.zero_le _⟩ dX5_load_39) hB (fun H locs hB => ?_)
        replace hB : Bd Γ σ_10 s H locs := hB
        refine lv_if_eq (tgt := 49) M.1 M.2.1 dX5_load_42 (by decide) (fun c_12 => ?_) (fun c_12 => ?_)
        · rw [if_pos c_12] at hr
          exact w_X5_load_49 M K  _ ih_16 x2 _ _ _ _  hB (lv_sub hl [0, 2] rfl) hr
        · rw [if_neg c_12] at hr
          refine lv_iconst (v := 1) M.1 M.2.1 dX5_load_45 (by decide) ?_
          refine lv_goto (tgt := 50) M.1 M.2.1 dX5_load_46 (by decide) ?_
          exact w_X5_load_50 M K  _ ih_16 x2 1 _ _ _ _  hB (lv_sub hl [0, 2] rfl) hr
def f_X5_load_0    (σ : Sg) : Option (Int32 × Sg) :=
cb (f_X5_position_0  σ) fun v_1 σ_2 =>
if v_1 = (-6) then
f_X5_load_16   FU 1 0 σ_2
else
some ((-3), σ_2)
set_option maxHeartbeats 4000000 in
set_option maxRecDepth 100000 in
theorem w_X5_load_0 {p : Program} {l : Launch} {e : Env} {s : State} {m : MethodId} {args : Array Value} {below : List Frame} {meth : Method} {c : Code} {Γ : GG} {res : Int32 × Sg} (M : MX RX5 cX5_load 3 (some .int) p s m args meth c) (K : KK Γ s s.heap)   (σ : Sg) (H : Heap) (locs : List Loc) (ls : Array Slot)  (hB : Bd Γ σ s H locs) (hl : lv_has ls 3 [(0, .ref (Γ.1 150))]) (hr : f_X5_load_0    σ = some res) : WI Γ rm_X5_load p l e s m args below meth c H locs res (F0 m 0 ls []) := by
  unfold f_X5_load_0 at hr
  refine lv_aload_n M.1 M.2.1 dX5_load_0 rfl (lv_at hl 0 rfl) ?_
  obtain ⟨v_1, σ_2, h_3, hr⟩ := cbd hr
  refine x_callI (x_runV M K hB hl.1 [] (rest := []) rfl (c_X5_position l Γ   σ (v_1, σ_2) h_3) cy_X5_position (x_recv K hB isK_150.2 (ent_5 isK_150.1) rfl) wd_176 ⟨rfl, rfl, Nat.le_of_ble_eq_true rfl, Nat.le_of_ble_eq_true rfl⟩ (Nat.le_of_ble_eq_true rfl) ⟨Nat.zero_le _, Nat.zero_le _⟩ dX5_load_1) hB (fun H locs hB => ?_)
  replace hB : Bd Γ σ_2 s H locs := hB
  refine lv_bipush (v := (-6)) M.1 M.2.1 dX5_load_4 (by decide) ?_
  refine lv_icmp_eq (tgt := 12) M.1 M.2.1 dX5_load_6 (by decide) (fun c_4 => ?_) (fun c_4 => ?_)
  · rw [if_pos c_4] at hr
    refine lv_iconst (v := 1) M.1 M.2.1 dX5_load_12 (by decide) ?_
    refine lv_istore_n (lv' := [(1, .int 1), (0, .ref (Γ.1 150))]) M.1 M.2.1 dX5_load_13 rfl hl (by decide) rfl (fun ls hl => ?_)
    refine lv_iconst (v := 0) M.1 M.2.1 dX5_load_14 (by decide) ?_
    refine lv_istore_n (lv' := [(2, .int 0), (1, .int 1), (0, .ref (Γ.1 150))]) M.1 M.2.1 dX5_load_15 rfl hl (by decide) rfl (fun ls hl => ?_)
    exact w_X5_load_16 M K   FU 1 0 _ _ _ _  hB (lv_sub hl [2, 1, 0] rfl) hr
  · rw [if_neg c_4] at hr
    refine lv_bipush (v := (-3)) M.1 M.2.1 dX5_load_9 (by decide) ?_
    exact x_iret M hB (Option.some.inj hr) dX5_load_11
theorem c_X5_load (l : Launch) (Γ : GG)   (σ : Sg) (res : Int32 × Sg) (hr : f_X5_load_0  σ = some res) : Met l yX5_load (Cond.code yX5_load cX5_load 3 (some .int) :: gtb) rm_X5_load (va_Pc [.ref (Γ.1 150)] (GI Γ σ)) (QI Γ res) 0 0 (AD Γ) :=
  x_metI (by decide) [.ref (Γ.1 150)] (Nat.le_of_ble_eq_true rfl) (fun p e s m args below meth c M K ls hl hB => w_X5_load_0 M K  σ _ _ ls hB hl hr)
abbrev rm_X5_beginToRun : Room := { frames := 2, cells := 0, slots := 0, locals := 44 }
def f_X5_beginToRun_56  (rec_42 : Int32 → Sg → Option (Int32 × Sg)) : Nat → Int32 → Int32 → Sg → Option (Int32 × Sg)
  | 0, _, _, _ => none
  | f + 1, x1, x2, σ => if 15 < x2 then
rec_42 (x1 + 1) σ
else
cb (f_X5_lay_0 x1 x2 0 σ) fun v_13 σ_14 =>
f_X5_beginToRun_56  rec_42 f x1 (x2 + 1) σ_14
set_option maxHeartbeats 4000000 in
set_option maxRecDepth 100000 in
theorem w_X5_beginToRun_56 {p : Program} {l : Launch} {e : Env} {s : State} {m : MethodId} {args : Array Value} {below : List Frame} {meth : Method} {c : Code} {Γ : GG} {res : Int32 × Sg} (M : MX RX5 cX5_beginToRun 3 none p s m args meth c) (K : KK Γ s s.heap)  (rec_42 : Int32 → Sg → Option (Int32 × Sg)) (ih_42 : ∀ (x1 : Int32) (σ : Sg) (H : Heap) (locs : List Loc) (ls : Array Slot) , Bd Γ σ s H locs → lv_has ls 3 [(0, .ref (Γ.1 150)), (1, .int x1)] → rec_42 x1 σ = some res → WV Γ rm_X5_beginToRun p l e s m args below meth c H locs res (F0 m 42 ls [])) : ∀ (f : Nat) (x1 : Int32) (x2 : Int32) (σ : Sg) (H : Heap) (locs : List Loc) (ls : Array Slot)  (hB : Bd Γ σ s H locs) (hl : lv_has ls 3 [(0, .ref (Γ.1 150)), (1, .int x1), (2, .int x2)]) (hr : f_X5_beginToRun_56  rec_42 f x1 x2 σ = some res), WV Γ rm_X5_beginToRun p l e s m args below meth c H locs res (F0 m 56 ls []) := by
  intro f
  induction f with
  | zero => intros; rename_i hr; exact absurd hr (by rw [f_X5_beginToRun_56]; exact fun h => by cases h)
  | succ f ih_56 =>
    intro x1 x2 σ H locs ls  hB hl hr
    rw [f_X5_beginToRun_56] at hr
    refine lv_iload_n M.1 M.2.1 dX5_beginToRun_56 rfl (lv_at hl 2 rfl) ?_
    refine lv_bipush (v := 15) M.1 M.2.1 dX5_beginToRun_57 (by decide) ?_
    refine lv_icmp_gt (tgt := 75) M.1 M.2.1 dX5_beginToRun_59 (by decide) (fun c_12 => ?_) (fun c_12 => ?_)
    · rw [if_pos c_12] at hr
      refine lv_iinc (v := x1 + 1) (lv' := [(1, .int (x1 + 1)), (0, .ref (Γ.1 150)), (2, .int x2)]) M.1 M.2.1 dX5_beginToRun_75 hl (k := 1) rfl rfl (by decide) rfl (fun ls hl => ?_)
      refine lv_goto (tgt := 42) M.1 M.2.1 dX5_beginToRun_78 (by decide) ?_
      exact ih_42 (x1 + 1) _ _ _ _  hB (lv_sub hl [1, 0] rfl) hr
    · rw [if_neg c_12] at hr
      refine lv_aload_n M.1 M.2.1 dX5_beginToRun_62 rfl (lv_at hl 0 rfl) ?_
      refine lv_iload_n M.1 M.2.1 dX5_beginToRun_63 rfl (lv_at hl 1 rfl) ?_
      refine lv_iload_n M.1 M.2.1 dX5_beginToRun_64 rfl (lv_at hl 2 rfl) ?_
      refine lv_iconst (v := 0) M.1 M.2.1 dX5_beginToRun_65 (by decide) ?_
      obtain ⟨v_13, σ_14, h_15, hr⟩ := cbd hr
      refine x_callV (x_runV M K hB hl.1 [.int x1, .int x2, .int 0] (rest := []) rfl (c_X5_lay l Γ x1 x2 0  σ (v_13, σ_14) h_15) cy_X5_lay (x_recv K hB isK_150.2 (ent_5 isK_150.1) rfl) wd_159 ⟨rfl, rfl, Nat.le_of_ble_eq_true rfl, Nat.le_of_ble_eq_true rfl⟩ (Nat.le_of_ble_eq_true rfl) ⟨Nat.zero_le _, Nat.zero_le _⟩ dX5_beginToRun_66) hB (fun H locs hB => ?_)
      replace hB : Bd Γ σ_14 s H locs := hB
      refine lv_iinc (v := x2 + 1) (lv' := [(2, .int (x2 + 1)), (0, .ref (Γ.1 150)), (1, .int x1)]) M.1 M.2.1 dX5_beginToRun_69 hl (k := 2) rfl rfl (by decide) rfl (fun ls hl => ?_)
      refine lv_goto (tgt := 56) M.1 M.2.1 dX5_beginToRun_72 (by decide) ?_
      exact ih_56 x1 (x2 + 1) _ _ _ _  hB (lv_sub hl [1, 2, 0] rfl) hr
def f_X5_beginToRun_42   : Nat → Int32 → Sg → Option (Int32 × Sg)
  | 0, _, _ => none
  | f + 1, x1, σ => if σ 151 17 ≤ x1 then
some (0, σ)
else
f_X5_beginToRun_56  (f_X5_beginToRun_42   f) FU x1 8 σ
set_option maxHeartbeats 4000000 in
set_option maxRecDepth 100000 in
theorem w_X5_beginToRun_42 {p : Program} {l : Launch} {e : Env} {s : State} {m : MethodId} {args : Array Value} {below : List Frame} {meth : Method} {c : Code} {Γ : GG} {res : Int32 × Sg} (M : MX RX5 cX5_beginToRun 3 none p s m args meth c) (K : KK Γ s s.heap)  : ∀ (f : Nat) (x1 : Int32) (σ : Sg) (H : Heap) (locs : List Loc) (ls : Array Slot)  (hB : Bd Γ σ s H locs) (hl : lv_has ls 3 [(0, .ref (Γ.1 150)), (1, .int x1)]) (hr : f_X5_beginToRun_42   f x1 σ = some res), WV Γ rm_X5_beginToRun p l e s m args below meth c H locs res (F0 m 42 ls []) := by
  intro f
  induction f with
  | zero => intros; rename_i hr; exact absurd hr (by rw [f_X5_beginToRun_42]; exact fun h => by cases h)
  | succ f ih_42 =>
    intro x1 σ H locs ls  hB hl hr
    rw [f_X5_beginToRun_42] at hr
    refine lv_iload_n M.1 M.2.1 dX5_beginToRun_42 rfl (lv_at hl 1 rfl) ?_
    refine lv_aload_n M.1 M.2.1 dX5_beginToRun_43 rfl (lv_at hl 0 rfl) ?_
    refine x_get5 M K hB isK_150 0 (by decide) wd_157 (v := .ref (Γ.1 151)) rfl dX5_beginToRun_44 ?_
    refine lv_bipush (v := 17) M.1 M.2.1 dX5_beginToRun_47 (by decide) ?_
    refine x_ialdL M K hB isA_151 (k := 17) (by decide) (by decide) dX5_beginToRun_49 ?_
    refine lv_icmp_ge (tgt := 81) M.1 M.2.1 dX5_beginToRun_50 (by decide) (fun c_11 => ?_) (fun c_11 => ?_)
    · rw [if_pos c_11] at hr
      exact x_vret M hB (Option.some.inj hr) dX5_beginToRun_81
    · rw [if_neg c_11] at hr
      refine lv_bipush (v := 8) M.1 M.2.1 dX5_beginToRun_53 (by decide) ?_
      refine lv_istore_n (lv' := [(2, .int 8), (0, .ref (Γ.1 150)), (1, .int x1)]) M.1 M.2.1 dX5_beginToRun_55 rfl hl (by decide) rfl (fun ls hl => ?_)
      exact w_X5_beginToRun_56 M K  _ ih_42 FU x1 8 _ _ _ _  hB (lv_sub hl [1, 2, 0] rfl) hr
def f_X5_beginToRun_0    (σ : Sg) : Option (Int32 × Sg) :=
wb (st σ 151 9 1) fun σ_1 =>
wb (st σ_1 151 13 0) fun σ_3 =>
wb (st σ_3 151 14 0) fun σ_5 =>
wb (st σ_5 151 15 0) fun σ_7 =>
wb (st σ_7 151 16 0) fun σ_9 =>
f_X5_beginToRun_42   FU 0 σ_9
set_option maxHeartbeats 4000000 in
set_option maxRecDepth 100000 in
theorem w_X5_beginToRun_0 {p : Program} {l : Launch} {e : Env} {s : State} {m : MethodId} {args : Array Value} {below : List Frame} {meth : Method} {c : Code} {Γ : GG} {res : Int32 × Sg} (M : MX RX5 cX5_beginToRun 3 none p s m args meth c) (K : KK Γ s s.heap)   (σ : Sg) (H : Heap) (locs : List Loc) (ls : Array Slot)  (hB : Bd Γ σ s H locs) (hl : lv_has ls 3 [(0, .ref (Γ.1 150))]) (hr : f_X5_beginToRun_0    σ = some res) : WV Γ rm_X5_beginToRun p l e s m args below meth c H locs res (F0 m 0 ls []) := by
  unfold f_X5_beginToRun_0 at hr
  refine lv_aload_n M.1 M.2.1 dX5_beginToRun_0 rfl (lv_at hl 0 rfl) ?_
  refine x_get5 M K hB isK_150 0 (by decide) wd_157 (v := .ref (Γ.1 151)) rfl dX5_beginToRun_1 ?_
  refine lv_bipush (v := 9) M.1 M.2.1 dX5_beginToRun_4 (by decide) ?_
  refine lv_iconst (v := 1) M.1 M.2.1 dX5_beginToRun_6 (by decide) ?_
  obtain ⟨σ_1, e_2, hr⟩ := wbd hr
  refine x_iastL M K hB isA_151 (k := 9) (by decide) (by decide) dX5_beginToRun_7 (fun H locs hB => ?_)
  rw [← e_2] at hB
  refine lv_aload_n M.1 M.2.1 dX5_beginToRun_8 rfl (lv_at hl 0 rfl) ?_
  refine x_get5 M K hB isK_150 0 (by decide) wd_157 (v := .ref (Γ.1 151)) rfl dX5_beginToRun_9 ?_
  refine lv_bipush (v := 13) M.1 M.2.1 dX5_beginToRun_12 (by decide) ?_
  refine lv_iconst (v := 0) M.1 M.2.1 dX5_beginToRun_14 (by decide) ?_
  obtain ⟨σ_3, e_4, hr⟩ := wbd hr
  refine x_iastL M K hB isA_151 (k := 13) (by decide) (by decide) dX5_beginToRun_15 (fun H locs hB => ?_)
  rw [← e_4] at hB
  refine lv_aload_n M.1 M.2.1 dX5_beginToRun_16 rfl (lv_at hl 0 rfl) ?_
  refine x_get5 M K hB isK_150 0 (by decide) wd_157 (v := .ref (Γ.1 151)) rfl dX5_beginToRun_17 ?_
  refine lv_bipush (v := 14) M.1 M.2.1 dX5_beginToRun_20 (by decide) ?_
  refine lv_iconst (v := 0) M.1 M.2.1 dX5_beginToRun_22 (by decide) ?_
  obtain ⟨σ_5, e_6, hr⟩ := wbd hr
  refine x_iastL M K hB isA_151 (k := 14) (by decide) (by decide) dX5_beginToRun_23 (fun H locs hB => ?_)
  rw [← e_6] at hB
  refine lv_aload_n M.1 M.2.1 dX5_beginToRun_24 rfl (lv_at hl 0 rfl) ?_
  refine x_get5 M K hB isK_150 0 (by decide) wd_157 (v := .ref (Γ.1 151)) rfl dX5_beginToRun_25 ?_
  refine lv_bipush (v := 15) M.1 M.2.1 dX5_beginToRun_28 (by decide) ?_
  refine lv_iconst (v := 0) M.1 M.2.1 dX5_beginToRun_30 (by decide) ?_
  obtain ⟨σ_7, e_8, hr⟩ := wbd hr
  refine x_iastL M K hB isA_151 (k := 15) (by decide) (by decide) dX5_beginToRun_31 (fun H locs hB => ?_)
  rw [← e_8] at hB
  refine lv_aload_n M.1 M.2.1 dX5_beginToRun_32 rfl (lv_at hl 0 rfl) ?_
  refine x_get5 M K hB isK_150 0 (by decide) wd_157 (v := .ref (Γ.1 151)) rfl dX5_beginToRun_33 ?_
  refine lv_bipush (v := 16) M.1 M.2.1 dX5_beginToRun_36 (by decide) ?_
  refine lv_iconst (v := 0) M.1 M.2.1 dX5_beginToRun_38 (by decide) ?_
  obtain ⟨σ_9, e_10, hr⟩ := wbd hr
  refine x_iastL M K hB isA_151 (k := 16) (by decide) (by decide) dX5_beginToRun_39 (fun H locs hB => ?_)
  rw [← e_10] at hB
  refine lv_iconst (v := 0) M.1 M.2.1 dX5_beginToRun_40 (by decide) ?_
  refine lv_istore_n (lv' := [(1, .int 0), (0, .ref (Γ.1 150))]) M.1 M.2.1 dX5_beginToRun_41 rfl hl (by decide) rfl (fun ls hl => ?_)
  exact w_X5_beginToRun_42 M K   FU 0 _ _ _ _  hB (lv_sub hl [1, 0] rfl) hr
theorem c_X5_beginToRun (l : Launch) (Γ : GG)   (σ : Sg) (res : Int32 × Sg) (hr : f_X5_beginToRun_0  σ = some res) : Met l yX5_beginToRun (Cond.code yX5_beginToRun cX5_beginToRun 3 none :: gtb) rm_X5_beginToRun (va_Pc [.ref (Γ.1 150)] (GI Γ σ)) (QV Γ res) 0 0 (AD Γ) :=
  x_metV (by decide) [.ref (Γ.1 150)] (Nat.le_of_ble_eq_true rfl) (fun p e s m args below meth c M K ls hl hB => w_X5_beginToRun_0 M K  σ _ _ ls hB hl hr)
abbrev rm_X5_goOnJob : Room := { frames := 2, cells := 0, slots := 0, locals := 44 }
def f_X5_goOnJob_59 (a0 : Int32)   (σ : Sg) : Option (Int32 × Sg) :=
some (0, σ)
set_option maxHeartbeats 4000000 in
set_option maxRecDepth 100000 in
theorem w_X5_goOnJob_59 {p : Program} {l : Launch} {e : Env} {s : State} {m : MethodId} {args : Array Value} {below : List Frame} {meth : Method} {c : Code} {Γ : GG} {res : Int32 × Sg} (M : MX RX5 cX5_goOnJob 2 none p s m args meth c) (K : KK Γ s s.heap) (a0 : Int32)  (σ : Sg) (H : Heap) (locs : List Loc) (ls : Array Slot)  (hB : Bd Γ σ s H locs) (hl : lv_has ls 2 []) (hr : f_X5_goOnJob_59 a0   σ = some res) : WV Γ rm_X5_goOnJob p l e s m args below meth c H locs res (F0 m 59 ls []) := by
  unfold f_X5_goOnJob_59 at hr
  exact x_vret M hB (Option.some.inj hr) dX5_goOnJob_59
def f_X5_goOnJob_56 (a0 : Int32)  (s0 : Int32) (s1 : Int32) (s2 : Int32) (σ : Sg) : Option (Int32 × Sg) :=
cb (f_X5_lay_0 s2 s1 s0 σ) fun v_19 σ_20 =>
f_X5_goOnJob_59 a0   σ_20
set_option maxHeartbeats 4000000 in
set_option maxRecDepth 100000 in
theorem w_X5_goOnJob_56 {p : Program} {l : Launch} {e : Env} {s : State} {m : MethodId} {args : Array Value} {below : List Frame} {meth : Method} {c : Code} {Γ : GG} {res : Int32 × Sg} (M : MX RX5 cX5_goOnJob 2 none p s m args meth c) (K : KK Γ s s.heap) (a0 : Int32) (s0 : Int32) (s1 : Int32) (s2 : Int32) (σ : Sg) (H : Heap) (locs : List Loc) (ls : Array Slot)  (hB : Bd Γ σ s H locs) (hl : lv_has ls 2 []) (hr : f_X5_goOnJob_56 a0  s0 s1 s2 σ = some res) : WV Γ rm_X5_goOnJob p l e s m args below meth c H locs res (F0 m 56 ls [.int s0, .int s1, .int s2, .ref (Γ.1 150)]) := by
  unfold f_X5_goOnJob_56 at hr
  obtain ⟨v_19, σ_20, h_21, hr⟩ := cbd hr
  refine x_callV (x_runV M K hB hl.1 [.int s2, .int s1, .int s0] (rest := []) rfl (c_X5_lay l Γ s2 s1 s0  σ (v_19, σ_20) h_21) cy_X5_lay (x_recv K hB isK_150.2 (ent_5 isK_150.1) rfl) wd_159 ⟨rfl, rfl, Nat.le_of_ble_eq_true rfl, Nat.le_of_ble_eq_true rfl⟩ (Nat.le_of_ble_eq_true rfl) ⟨Nat.zero_le _, Nat.zero_le _⟩ dX5_goOnJob_56) hB (fun H locs hB => ?_)
  replace hB : Bd Γ σ_20 s H locs := hB
  exact w_X5_goOnJob_59 M K a0   _ _ _ _  hB (lv_sub hl [] rfl) hr
def f_X5_goOnJob_0 (a0 : Int32)   (σ : Sg) : Option (Int32 × Sg) :=
cb (f_X5_of_0 a0 8 σ) fun v_1 σ_2 =>
if v_1 = 1 then
cb (f_X5_of_0 a0 11 σ_2) fun v_5 σ_6 =>
if v_5 = 0 then
cb (f_X5_of_0 a0 9 σ_6) fun v_9 σ_10 =>
cb (f_X5_lay_0 a0 9 (v_9 - 1) σ_10) fun v_12 σ_13 =>
cb (f_X5_of_0 a0 9 σ_13) fun v_15 σ_16 =>
if v_15 ≤ 0 then
f_X5_goOnJob_56 a0  0 8 a0 σ_16
else
f_X5_goOnJob_56 a0  1 8 a0 σ_16
else
f_X5_goOnJob_59 a0   σ_6
else
f_X5_goOnJob_59 a0   σ_2
set_option maxHeartbeats 4000000 in
set_option maxRecDepth 100000 in
theorem w_X5_goOnJob_0 {p : Program} {l : Launch} {e : Env} {s : State} {m : MethodId} {args : Array Value} {below : List Frame} {meth : Method} {c : Code} {Γ : GG} {res : Int32 × Sg} (M : MX RX5 cX5_goOnJob 2 none p s m args meth c) (K : KK Γ s s.heap) (a0 : Int32)  (σ : Sg) (H : Heap) (locs : List Loc) (ls : Array Slot)  (hB : Bd Γ σ s H locs) (hl : lv_has ls 2 [(0, .ref (Γ.1 150)), (1, .int a0)]) (hr : f_X5_goOnJob_0 a0   σ = some res) : WV Γ rm_X5_goOnJob p l e s m args below meth c H locs res (F0 m 0 ls []) := by
  unfold f_X5_goOnJob_0 at hr
  refine lv_aload_n M.1 M.2.1 dX5_goOnJob_0 rfl (lv_at hl 0 rfl) ?_
  refine lv_iload_n M.1 M.2.1 dX5_goOnJob_1 rfl (lv_at hl 1 rfl) ?_
  refine lv_bipush (v := 8) M.1 M.2.1 dX5_goOnJob_2 (by decide) ?_
  obtain ⟨v_1, σ_2, h_3, hr⟩ := cbd hr
  refine x_callI (x_runV M K hB hl.1 [.int a0, .int 8] (rest := []) rfl (c_X5_of l Γ a0 8  σ (v_1, σ_2) h_3) cy_X5_of (x_recv K hB isK_150.2 (ent_5 isK_150.1) rfl) wd_162 ⟨rfl, rfl, Nat.le_of_ble_eq_true rfl, Nat.le_of_ble_eq_true rfl⟩ (Nat.le_of_ble_eq_true rfl) ⟨Nat.zero_le _, Nat.zero_le _⟩ dX5_goOnJob_4) hB (fun H locs hB => ?_)
  replace hB : Bd Γ σ_2 s H locs := hB
  refine lv_iconst (v := 1) M.1 M.2.1 dX5_goOnJob_7 (by decide) ?_
  refine lv_icmp_ne (tgt := 59) M.1 M.2.1 dX5_goOnJob_8 (by decide) (fun c_4 => ?_) (fun c_4 => ?_)
  · rw [if_neg c_4] at hr
    exact w_X5_goOnJob_59 M K a0   _ _ _ _  hB (lv_sub hl [] rfl) hr
  · rw [if_pos c_4] at hr
    refine lv_aload_n M.1 M.2.1 dX5_goOnJob_11 rfl (lv_at hl 0 rfl) ?_
    refine lv_iload_n M.1 M.2.1 dX5_goOnJob_12 rfl (lv_at hl 1 rfl) ?_
    refine lv_bipush (v := 11) M.1 M.2.1 dX5_goOnJob_13 (by decide) ?_
    obtain ⟨v_5, σ_6, h_7, hr⟩ := cbd hr
    refine x_callI (x_runV M K hB hl.1 [.int a0, .int 11] (rest := []) rfl (c_X5_of l Γ a0 11  σ_2 (v_5, σ_6) h_7) cy_X5_of (x_recv K hB isK_150.2 (ent_5 isK_150.1) rfl) wd_162 ⟨rfl, rfl, Nat.le_of_ble_eq_true rfl, Nat.le_of_ble_eq_true rfl⟩ (Nat.le_of_ble_eq_true rfl) ⟨Nat.zero_le _, Nat.zero_le _⟩ dX5_goOnJob_15) hB (fun H locs hB => ?_)
    replace hB : Bd Γ σ_6 s H locs := hB
    refine lv_if_ne (tgt := 59) M.1 M.2.1 dX5_goOnJob_18 (by decide) (fun c_8 => ?_) (fun c_8 => ?_)
    · rw [if_neg c_8] at hr
      exact w_X5_goOnJob_59 M K a0   _ _ _ _  hB (lv_sub hl [] rfl) hr
    · rw [if_pos c_8] at hr
      refine lv_aload_n M.1 M.2.1 dX5_goOnJob_21 rfl (lv_at hl 0 rfl) ?_
      refine lv_iload_n M.1 M.2.1 dX5_goOnJob_22 rfl (lv_at hl 1 rfl) ?_
      refine lv_bipush (v := 9) M.1 M.2.1 dX5_goOnJob_23 (by decide) ?_
      refine lv_aload_n M.1 M.2.1 dX5_goOnJob_25 rfl (lv_at hl 0 rfl) ?_
      refine lv_iload_n M.1 M.2.1 dX5_goOnJob_26 rfl (lv_at hl 1 rfl) ?_
      refine lv_bipush (v := 9) M.1 M.2.1 dX5_goOnJob_27 (by decide) ?_
      obtain ⟨v_9, σ_10, h_11, hr⟩ := cbd hr
      refine x_callI (x_runV M K hB hl.1 [.int a0, .int 9] (rest := [.int 9, .int a0, .ref (Γ.1 150)]) rfl (c_X5_of l Γ a0 9  σ_6 (v_9, σ_10) h_11) cy_X5_of (x_recv K hB isK_150.2 (ent_5 isK_150.1) rfl) wd_162 ⟨rfl, rfl, Nat.le_of_ble_eq_true rfl, Nat.le_of_ble_eq_true rfl⟩ (Nat.le_of_ble_eq_true rfl) ⟨Nat.zero_le _, Nat.zero_le _⟩ dX5_goOnJob_29) hB (fun H locs hB => ?_)
      replace hB : Bd Γ σ_10 s H locs := hB
      refine lv_iconst (v := 1) M.1 M.2.1 dX5_goOnJob_32 (by decide) ?_
      refine lv_isub M.1 M.2.1 dX5_goOnJob_33 ?_
      obtain ⟨v_12, σ_13, h_14, hr⟩ := cbd hr
      refine x_callV (x_runV M K hB hl.1 [.int a0, .int 9, .int (v_9 - 1)] (rest := []) rfl (c_X5_lay l Γ a0 9 (v_9 - 1)  σ_10 (v_12, σ_13) h_14) cy_X5_lay (x_recv K hB isK_150.2 (ent_5 isK_150.1) rfl) wd_159 ⟨rfl, rfl, Nat.le_of_ble_eq_true rfl, Nat.le_of_ble_eq_true rfl⟩ (Nat.le_of_ble_eq_true rfl) ⟨Nat.zero_le _, Nat.zero_le _⟩ dX5_goOnJob_34) hB (fun H locs hB => ?_)
      replace hB : Bd Γ σ_13 s H locs := hB
      refine lv_aload_n M.1 M.2.1 dX5_goOnJob_37 rfl (lv_at hl 0 rfl) ?_
      refine lv_iload_n M.1 M.2.1 dX5_goOnJob_38 rfl (lv_at hl 1 rfl) ?_
      refine lv_bipush (v := 8) M.1 M.2.1 dX5_goOnJob_39 (by decide) ?_
      refine lv_aload_n M.1 M.2.1 dX5_goOnJob_41 rfl (lv_at hl 0 rfl) ?_
      refine lv_iload_n M.1 M.2.1 dX5_goOnJob_42 rfl (lv_at hl 1 rfl) ?_
      refine lv_bipush (v := 9) M.1 M.2.1 dX5_goOnJob_43 (by decide) ?_
      obtain ⟨v_15, σ_16, h_17, hr⟩ := cbd hr
      refine x_callI (x_runV M K hB hl.1 [.int a0, .int 9] (rest := [.int 8, .int a0, .ref (Γ.1 150)]) rfl (c_X5_of l Γ a0 9  σ_13 (v_15, σ_16) h_17) cy_X5_of (x_recv K hB isK_150.2 (ent_5 isK_150.1) rfl) wd_162 ⟨rfl, rfl, Nat.le_of_ble_eq_true rfl, Nat.le_of_ble_eq_true rfl⟩ (Nat.le_of_ble_eq_true rfl) ⟨Nat.zero_le _, Nat.zero_le _⟩ dX5_goOnJob_45) hB (fun H locs hB => ?_)
      replace hB : Bd Γ σ_16 s H locs := hB
      refine lv_if_le (tgt := 55) M.1 M.2.1 dX5_goOnJob_48 (by decide) (fun c_18 => ?_) (fun c_18 => ?_)
      · rw [if_pos c_18] at hr
        refine lv_iconst (v := 0) M.1 M.2.1 dX5_goOnJob_55 (by decide) ?_
        exact w_X5_goOnJob_56 M K a0  0 8 a0 _ _ _ _  hB (lv_sub hl [] rfl) hr
      · rw [if_neg c_18] at hr
        refine lv_iconst (v := 1) M.1 M.2.1 dX5_goOnJob_51 (by decide) ?_
        refine lv_goto (tgt := 56) M.1 M.2.1 dX5_goOnJob_52 (by decide) ?_
        exact w_X5_goOnJob_56 M K a0  1 8 a0 _ _ _ _  hB (lv_sub hl [] rfl) hr
theorem c_X5_goOnJob (l : Launch) (Γ : GG) (a0 : Int32)  (σ : Sg) (res : Int32 × Sg) (hr : f_X5_goOnJob_0 a0 σ = some res) : Met l yX5_goOnJob (Cond.code yX5_goOnJob cX5_goOnJob 2 none :: gtb) rm_X5_goOnJob (va_Pc [.ref (Γ.1 150), .int a0] (GI Γ σ)) (QV Γ res) 0 0 (AD Γ) :=
  x_metV (by decide) [.ref (Γ.1 150), .int a0] (Nat.le_of_ble_eq_true rfl) (fun p e s m args below meth c M K ls hl hB => w_X5_goOnJob_0 M K a0 σ _ _ ls hB hl hr)
