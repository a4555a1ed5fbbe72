abbrev rm_X4_state : Room := { frames := 1, cells := 0, slots := 0, locals := 22 }
def f_X4_state_145 (a0 : Int32)  (s0 : Int32) (σ : Sg) : Option (Int32 × Sg) :=
some (s0, σ)
set_option maxHeartbeats 4000000 in
set_option maxRecDepth 100000 in
theorem w_X4_state_145 {p : Program} {l : Launch} {e : Env} {s : State} {m : MethodId} {args : Array Value} {below : List Frame} {meth : Method} {c : Code} {Γ : GG} {res : Int32 × Sg} (M : MX RX4 cX4_state 2 (some .int) p s m args meth c) (K : KK Γ s s.heap) (a0 : Int32) (s0 : Int32) (σ : Sg) (H : Heap) (locs : List Loc) (ls : Array Slot)  (hB : Bd Γ σ s H locs) (hl : lv_has ls 2 []) (hr : f_X4_state_145 a0  s0 σ = some res) : WI Γ rm_X4_state p l e s m args below meth c H locs res (F0 m 145 ls [.int s0]) := by
  unfold f_X4_state_145 at hr
  exact x_iret M hB (Option.some.inj hr) dX4_state_145
def f_X4_state_0 (a0 : Int32)   (σ : Sg) : Option (Int32 × Sg) :=
cb (f_X4_isWithin_0 a0 13 20 σ) fun v_1 σ_2 =>
if v_1 = 0 then
if a0 = 0 then
some (σ_2 1 4, σ_2)
else
if a0 = 1 then
some (σ_2 1 5, σ_2)
else
if a0 = 2 then
some (σ_2 1 6, σ_2)
else
if a0 = 3 then
some (σ_2 1 7, σ_2)
else
if a0 = 4 then
if σ_2 1 5 = 0 then
f_X4_state_145 a0  (σ_2 1 8) σ_2
else
f_X4_state_145 a0  0 σ_2
else
if a0 = 5 then
cb (f_X0_ifRunning_0 1 (σ_2 1 9) σ_2) fun v_18 σ_19 =>
some (v_18, σ_19)
else
if a0 = 6 then
cb (f_X0_ifRunning_0 1 (σ_2 1 10) σ_2) fun v_23 σ_24 =>
some (v_23, σ_24)
else
if a0 = 7 then
cb (f_X0_ifRunning_0 1 (σ_2 1 11) σ_2) fun v_28 σ_29 =>
some (v_28, σ_29)
else
if a0 = 8 then
cb (f_X0_ifRunning_0 1 (σ_2 1 12) σ_2) fun v_33 σ_34 =>
some (v_33, σ_34)
else
if a0 = 9 then
some (σ_2 4 1, σ_2)
else
if a0 = 10 then
some (σ_2 1 3, σ_2)
else
if a0 = 11 then
cb (f_X0_expiredSet_0 1 σ_2) fun v_42 σ_43 =>
cb (f_X0_ifRunning_0 1 v_42 σ_43) fun v_45 σ_46 =>
some (v_45, σ_46)
else
if a0 = 12 then
some (σ_2 143 1, σ_2)
else
some ((-2), σ_2)
else
if a0 - 13 < 0 ∨ 8 ≤ (a0 - 13).toNatClampNeg then none else
some (σ_2 2 ((a0 - 13).toNatClampNeg), σ_2)
set_option maxHeartbeats 4000000 in
set_option maxRecDepth 100000 in
theorem w_X4_state_0 {p : Program} {l : Launch} {e : Env} {s : State} {m : MethodId} {args : Array Value} {below : List Frame} {meth : Method} {c : Code} {Γ : GG} {res : Int32 × Sg} (M : MX RX4 cX4_state 2 (some .int) p s m args meth c) (K : KK Γ s s.heap) (a0 : Int32)  (σ : Sg) (H : Heap) (locs : List Loc) (ls : Array Slot)  (hB : Bd Γ σ s H locs) (hl : lv_has ls 2 [(0, .ref (Γ.1 0)), (1, .int a0)]) (hr : f_X4_state_0 a0   σ = some res) : WI Γ rm_X4_state p l e s m args below meth c H locs res (F0 m 0 ls []) := by
  unfold f_X4_state_0 at hr
  refine lv_iload_n M.1 M.2.1 dX4_state_0 rfl (lv_at hl 1 rfl) ?_
  refine lv_bipush (v := 13) M.1 M.2.1 dX4_state_1 (by decide) ?_
  refine lv_bipush (v := 20) M.1 M.2.1 dX4_state_3 (by decide) ?_
  obtain ⟨v_1, σ_2, h_3, hr⟩ := cbd hr
  refine x_callI (x_runS M K hB hl.1 [.int a0, .int 13, .int 20] (rest := []) rfl (c_X4_isWithin l Γ a0 13 20  σ (v_1, σ_2) h_3) cy_X4_isWithin wd_62 ⟨rfl, rfl, Nat.le_of_ble_eq_true rfl, Nat.le_of_ble_eq_true rfl⟩ (Nat.le_of_ble_eq_true rfl) ⟨Nat.zero_le _, Nat.zero_le _⟩ dX4_state_5) hB (fun H locs hB => ?_)
  replace hB : Bd Γ σ_2 s H locs := hB
  refine lv_if_eq (tgt := 24) M.1 M.2.1 dX4_state_8 (by decide) (fun c_4 => ?_) (fun c_4 => ?_)
  · rw [if_pos c_4] at hr
    refine lv_iload_n M.1 M.2.1 dX4_state_24 rfl (lv_at hl 1 rfl) ?_
    by_cases c_5 : a0 = 0
    · rw [if_pos c_5] at hr
      have t_6 : Int32.toInt a0 = 0 := by rw [c_5]; decide
      refine lv_tableIn (off := 67) (tgt := 92) M.1 M.2.1 dX4_state_25 (by rw [t_6]; decide) (by rw [t_6]; decide) (by rw [t_6]; rfl) (by decide) ?_
      refine lv_aload_n M.1 M.2.1 dX4_state_92 rfl (lv_at hl 0 rfl) ?_
      refine x_get4 M K hB isK_0 0 (by decide) wd_66 (v := .ref (Γ.1 1)) rfl dX4_state_93 ?_
      refine x_get0 M K hB (isB_1.k) 4 (by decide) wd_77 (v := .int (σ_2 1 4)) rfl dX4_state_96 ?_
      exact x_iret M hB (Option.some.inj hr) dX4_state_99
    · rw [if_neg c_5] at hr
      have t_6 : ¬ Int32.toInt a0 = 0 := lv_neT c_5 (by decide)
      by_cases c_7 : a0 = 1
      · rw [if_pos c_7] at hr
        have t_8 : Int32.toInt a0 = 1 := by rw [c_7]; decide
        refine lv_tableIn (off := 75) (tgt := 100) M.1 M.2.1 dX4_state_25 (by rw [t_8]; decide) (by rw [t_8]; decide) (by rw [t_8]; rfl) (by decide) ?_
        refine lv_aload_n M.1 M.2.1 dX4_state_100 rfl (lv_at hl 0 rfl) ?_
        refine x_get4 M K hB isK_0 0 (by decide) wd_66 (v := .ref (Γ.1 1)) rfl dX4_state_101 ?_
        refine x_get0 M K hB (isB_1.k) 5 (by decide) wd_80 (v := .int (σ_2 1 5)) rfl dX4_state_104 ?_
        exact x_iret M hB (Option.some.inj hr) dX4_state_107
      · rw [if_neg c_7] at hr
        have t_8 : ¬ Int32.toInt a0 = 1 := lv_neT c_7 (by decide)
        by_cases c_9 : a0 = 2
        · rw [if_pos c_9] at hr
          have t_10 : Int32.toInt a0 = 2 := by rw [c_9]; decide
          refine lv_tableIn (off := 83) (tgt := 108) M.1 M.2.1 dX4_state_25 (by rw [t_10]; decide) (by rw [t_10]; decide) (by rw [t_10]; rfl) (by decide) ?_
          refine lv_aload_n M.1 M.2.1 dX4_state_108 rfl (lv_at hl 0 rfl) ?_
          refine x_get4 M K hB isK_0 0 (by decide) wd_66 (v := .ref (Γ.1 1)) rfl dX4_state_109 ?_
          refine x_get0 M K hB (isB_1.k) 6 (by decide) wd_82 (v := .int (σ_2 1 6)) rfl dX4_state_112 ?_
          exact x_iret M hB (Option.some.inj hr) dX4_state_115
        · rw [if_neg c_9] at hr
          have t_10 : ¬ Int32.toInt a0 = 2 := lv_neT c_9 (by decide)
          by_cases c_11 : a0 = 3
          · rw [if_pos c_11] at hr
            have t_12 : Int32.toInt a0 = 3 := by rw [c_11]; decide
            refine lv_tableIn (off := 91) (tgt := 116) M.1 M.2.1 dX4_state_25 (by rw [t_12]; decide) (by rw [t_12]; decide) (by rw [t_12]; rfl) (by decide) ?_
            refine lv_aload_n M.1 M.2.1 dX4_state_116 rfl (lv_at hl 0 rfl) ?_
            refine x_get4 M K hB isK_0 0 (by decide) wd_66 (v := .ref (Γ.1 1)) rfl dX4_state_117 ?_
            refine x_get0 M K hB (isB_1.k) 7 (by decide) wd_83 (v := .int (σ_2 1 7)) rfl dX4_state_120 ?_
            exact x_iret M hB (Option.some.inj hr) dX4_state_123
          · rw [if_neg c_11] at hr
            have t_12 : ¬ Int32.toInt a0 = 3 := lv_neT c_11 (by decide)
            by_cases c_13 : a0 = 4
            · rw [if_pos c_13] at hr
              have t_14 : Int32.toInt a0 = 4 := by rw [c_13]; decide
              refine lv_tableIn (off := 99) (tgt := 124) M.1 M.2.1 dX4_state_25 (by rw [t_14]; decide) (by rw [t_14]; decide) (by rw [t_14]; rfl) (by decide) ?_
              refine lv_aload_n M.1 M.2.1 dX4_state_124 rfl (lv_at hl 0 rfl) ?_
              refine x_get4 M K hB isK_0 0 (by decide) wd_66 (v := .ref (Γ.1 1)) rfl dX4_state_125 ?_
              refine x_get0 M K hB (isB_1.k) 5 (by decide) wd_80 (v := .int (σ_2 1 5)) rfl dX4_state_128 ?_
              refine lv_if_ne (tgt := 144) M.1 M.2.1 dX4_state_131 (by decide) (fun c_15 => ?_) (fun c_15 => ?_)
              · rw [if_neg c_15] at hr
                refine lv_iconst (v := 0) M.1 M.2.1 dX4_state_144 (by decide) ?_
                exact w_X4_state_145 M K a0  0 _ _ _ _  hB (lv_sub hl [] rfl) hr
              · rw [if_pos c_15] at hr
                refine lv_aload_n M.1 M.2.1 dX4_state_134 rfl (lv_at hl 0 rfl) ?_
                refine x_get4 M K hB isK_0 0 (by decide) wd_66 (v := .ref (Γ.1 1)) rfl dX4_state_135 ?_
                refine x_get0 M K hB (isB_1.k) 8 (by decide) wd_84 (v := .int (σ_2 1 8)) rfl dX4_state_138 ?_
                refine lv_goto (tgt := 145) M.1 M.2.1 dX4_state_141 (by decide) ?_
                exact w_X4_state_145 M K a0  (σ_2 1 8) _ _ _ _  hB (lv_sub hl [] rfl) hr
            · rw [if_neg c_13] at hr
              have t_14 : ¬ Int32.toInt a0 = 4 := lv_neT c_13 (by decide)
              by_cases c_16 : a0 = 5
              · rw [if_pos c_16] at hr
                have t_17 : Int32.toInt a0 = 5 := by rw [c_16]; decide
                refine lv_tableIn (off := 121) (tgt := 146) M.1 M.2.1 dX4_state_25 (by rw [t_17]; decide) (by rw [t_17]; decide) (by rw [t_17]; rfl) (by decide) ?_
                refine lv_aload_n M.1 M.2.1 dX4_state_146 rfl (lv_at hl 0 rfl) ?_
                refine x_get4 M K hB isK_0 0 (by decide) wd_66 (v := .ref (Γ.1 1)) rfl dX4_state_147 ?_
                refine lv_aload_n M.1 M.2.1 dX4_state_150 rfl (lv_at hl 0 rfl) ?_
                refine x_get4 M K hB isK_0 0 (by decide) wd_66 (v := .ref (Γ.1 1)) rfl dX4_state_151 ?_
                refine x_get0 M K hB (isB_1.k) 9 (by decide) wd_85 (v := .int (σ_2 1 9)) rfl dX4_state_154 ?_
                obtain ⟨v_18, σ_19, h_20, hr⟩ := cbd hr
                refine x_callI (x_runV M K hB hl.1 [.int (σ_2 1 9)] (rest := []) rfl (c_X0_ifRunning l Γ 1 (σ_2 1 9) isB_1 σ_2 (v_18, σ_19) h_20) cy_X0_ifRunning (x_recv K hB (isB_1.k).2 (ent_0 (isB_1.k).1) rfl) wd_86 ⟨rfl, rfl, Nat.le_of_ble_eq_true rfl, Nat.le_of_ble_eq_true rfl⟩ (Nat.le_of_ble_eq_true rfl) ⟨Nat.zero_le _, Nat.zero_le _⟩ dX4_state_157) hB (fun H locs hB => ?_)
                replace hB : Bd Γ σ_19 s H locs := hB
                exact x_iret M hB (Option.some.inj hr) dX4_state_160
              · rw [if_neg c_16] at hr
                have t_17 : ¬ Int32.toInt a0 = 5 := lv_neT c_16 (by decide)
                by_cases c_21 : a0 = 6
                · rw [if_pos c_21] at hr
                  have t_22 : Int32.toInt a0 = 6 := by rw [c_21]; decide
                  refine lv_tableIn (off := 136) (tgt := 161) M.1 M.2.1 dX4_state_25 (by rw [t_22]; decide) (by rw [t_22]; decide) (by rw [t_22]; rfl) (by decide) ?_
                  refine lv_aload_n M.1 M.2.1 dX4_state_161 rfl (lv_at hl 0 rfl) ?_
                  refine x_get4 M K hB isK_0 0 (by decide) wd_66 (v := .ref (Γ.1 1)) rfl dX4_state_162 ?_
                  refine lv_aload_n M.1 M.2.1 dX4_state_165 rfl (lv_at hl 0 rfl) ?_
                  refine x_get4 M K hB isK_0 0 (by decide) wd_66 (v := .ref (Γ.1 1)) rfl dX4_state_166 ?_
                  refine x_get0 M K hB (isB_1.k) 10 (by decide) wd_87 (v := .int (σ_2 1 10)) rfl dX4_state_169 ?_
                  obtain ⟨v_23, σ_24, h_25, hr⟩ := cbd hr
                  refine x_callI (x_runV M K hB hl.1 [.int (σ_2 1 10)] (rest := []) rfl (c_X0_ifRunning l Γ 1 (σ_2 1 10) isB_1 σ_2 (v_23, σ_24) h_25) cy_X0_ifRunning (x_recv K hB (isB_1.k).2 (ent_0 (isB_1.k).1) rfl) wd_86 ⟨rfl, rfl, Nat.le_of_ble_eq_true rfl, Nat.le_of_ble_eq_true rfl⟩ (Nat.le_of_ble_eq_true rfl) ⟨Nat.zero_le _, Nat.zero_le _⟩ dX4_state_172) hB (fun H locs hB => ?_)
                  replace hB : Bd Γ σ_24 s H locs := hB
                  exact x_iret M hB (Option.some.inj hr) dX4_state_175
                · rw [if_neg c_21] at hr
                  have t_22 : ¬ Int32.toInt a0 = 6 := lv_neT c_21 (by decide)
                  by_cases c_26 : a0 = 7
                  · rw [if_pos c_26] at hr
                    have t_27 : Int32.toInt a0 = 7 := by rw [c_26]; decide
                    refine lv_tableIn (off := 151) (tgt := 176) M.1 M.2.1 dX4_state_25 (by rw [t_27]; decide) (by rw [t_27]; decide) (by rw [t_27]; rfl) (by decide) ?_
                    refine lv_aload_n M.1 M.2.1 dX4_state_176 rfl (lv_at hl 0 rfl) ?_
                    refine x_get4 M K hB isK_0 0 (by decide) wd_66 (v := .ref (Γ.1 1)) rfl dX4_state_177 ?_
                    refine lv_aload_n M.1 M.2.1 dX4_state_180 rfl (lv_at hl 0 rfl) ?_
                    refine x_get4 M K hB isK_0 0 (by decide) wd_66 (v := .ref (Γ.1 1)) rfl dX4_state_181 ?_
                    refine x_get0 M K hB (isB_1.k) 11 (by decide) wd_88 (v := .int (σ_2 1 11)) rfl dX4_state_184 ?_
                    obtain ⟨v_28, σ_29, h_30, hr⟩ := cbd hr
                    refine x_callI (x_runV M K hB hl.1 [.int (σ_2 1 11)] (rest := []) rfl (c_X0_ifRunning l Γ 1 (σ_2 1 11) isB_1 σ_2 (v_28, σ_29) h_30) cy_X0_ifRunning (x_recv K hB (isB_1.k).2 (ent_0 (isB_1.k).1) rfl) wd_86 ⟨rfl, rfl, Nat.le_of_ble_eq_true rfl, Nat.le_of_ble_eq_true rfl⟩ (Nat.le_of_ble_eq_true rfl) ⟨Nat.zero_le _, Nat.zero_le _⟩ dX4_state_187) hB (fun H locs hB => ?_)
                    replace hB : Bd Γ σ_29 s H locs := hB
                    exact x_iret M hB (Option.some.inj hr) dX4_state_190
                  · rw [if_neg c_26] at hr
                    have t_27 : ¬ Int32.toInt a0 = 7 := lv_neT c_26 (by decide)
                    by_cases c_31 : a0 = 8
                    · rw [if_pos c_31] at hr
                      have t_32 : Int32.toInt a0 = 8 := by rw [c_31]; decide
                      refine lv_tableIn (off := 166) (tgt := 191) M.1 M.2.1 dX4_state_25 (by rw [t_32]; decide) (by rw [t_32]; decide) (by rw [t_32]; rfl) (by decide) ?_
                      refine lv_aload_n M.1 M.2.1 dX4_state_191 rfl (lv_at hl 0 rfl) ?_
                      refine x_get4 M K hB isK_0 0 (by decide) wd_66 (v := .ref (Γ.1 1)) rfl dX4_state_192 ?_
                      refine lv_aload_n M.1 M.2.1 dX4_state_195 rfl (lv_at hl 0 rfl) ?_
                      refine x_get4 M K hB isK_0 0 (by decide) wd_66 (v := .ref (Γ.1 1)) rfl dX4_state_196 ?_
                      refine x_get0 M K hB (isB_1.k) 12 (by decide) wd_89 (v := .int (σ_2 1 12)) rfl dX4_state_199 ?_
                      obtain ⟨v_33, σ_34, h_35, hr⟩ := cbd hr
                      refine x_callI (x_runV M K hB hl.1 [.int (σ_2 1 12)] (rest := []) rfl (c_X0_ifRunning l Γ 1 (σ_2 1 12) isB_1 σ_2 (v_33, σ_34) h_35) cy_X0_ifRunning (x_recv K hB (isB_1.k).2 (ent_0 (isB_1.k).1) rfl) wd_86 ⟨rfl, rfl, Nat.le_of_ble_eq_true rfl, Nat.le_of_ble_eq_true rfl⟩ (Nat.le_of_ble_eq_true rfl) ⟨Nat.zero_le _, Nat.zero_le _⟩ dX4_state_202) hB (fun H locs hB => ?_)
                      replace hB : Bd Γ σ_34 s H locs := hB
                      exact x_iret M hB (Option.some.inj hr) dX4_state_205
                    · rw [if_neg c_31] at hr
                      have t_32 : ¬ Int32.toInt a0 = 8 := lv_neT c_31 (by decide)
                      by_cases c_36 : a0 = 9
                      · rw [if_pos c_36] at hr
                        have t_37 : Int32.toInt a0 = 9 := by rw [c_36]; decide
                        refine lv_tableIn (off := 181) (tgt := 206) M.1 M.2.1 dX4_state_25 (by rw [t_37]; decide) (by rw [t_37]; decide) (by rw [t_37]; rfl) (by decide) ?_
                        refine lv_aload_n M.1 M.2.1 dX4_state_206 rfl (lv_at hl 0 rfl) ?_
                        refine x_get4 M K hB isK_0 0 (by decide) wd_66 (v := .ref (Γ.1 1)) rfl dX4_state_207 ?_
                        refine x_get0 M K hB (isB_1.k) 2 (by decide) wd_90 (v := .ref (Γ.1 4)) rfl dX4_state_210 ?_
                        refine x_get1 M K hB (isB_1.bk.k) 1 (by decide) wd_91 (v := .int (σ_2 4 1)) rfl dX4_state_213 ?_
                        exact x_iret M hB (Option.some.inj hr) dX4_state_216
                      · rw [if_neg c_36] at hr
                        have t_37 : ¬ Int32.toInt a0 = 9 := lv_neT c_36 (by decide)
                        by_cases c_38 : a0 = 10
                        · rw [if_pos c_38] at hr
                          have t_39 : Int32.toInt a0 = 10 := by rw [c_38]; decide
                          refine lv_tableIn (off := 192) (tgt := 217) M.1 M.2.1 dX4_state_25 (by rw [t_39]; decide) (by rw [t_39]; decide) (by rw [t_39]; rfl) (by decide) ?_
                          refine lv_aload_n M.1 M.2.1 dX4_state_217 rfl (lv_at hl 0 rfl) ?_
                          refine x_get4 M K hB isK_0 0 (by decide) wd_66 (v := .ref (Γ.1 1)) rfl dX4_state_218 ?_
                          refine x_get0 M K hB (isB_1.k) 3 (by decide) wd_70 (v := .int (σ_2 1 3)) rfl dX4_state_221 ?_
                          exact x_iret M hB (Option.some.inj hr) dX4_state_224
                        · rw [if_neg c_38] at hr
                          have t_39 : ¬ Int32.toInt a0 = 10 := lv_neT c_38 (by decide)
                          by_cases c_40 : a0 = 11
                          · rw [if_pos c_40] at hr
                            have t_41 : Int32.toInt a0 = 11 := by rw [c_40]; decide
                            refine lv_tableIn (off := 200) (tgt := 225) M.1 M.2.1 dX4_state_25 (by rw [t_41]; decide) (by rw [t_41]; decide) (by rw [t_41]; rfl) (by decide) ?_
                            refine lv_aload_n M.1 M.2.1 dX4_state_225 rfl (lv_at hl 0 rfl) ?_
                            refine x_get4 M K hB isK_0 0 (by decide) wd_66 (v := .ref (Γ.1 1)) rfl dX4_state_226 ?_
                            refine lv_aload_n M.1 M.2.1 dX4_state_229 rfl (lv_at hl 0 rfl) ?_
                            refine x_get4 M K hB isK_0 0 (by decide) wd_66 (v := .ref (Γ.1 1)) rfl dX4_state_230 ?_
                            obtain ⟨v_42, σ_43, h_44, hr⟩ := cbd hr
                            refine x_callI (x_runV M K hB hl.1 [] (rest := [.ref (Γ.1 1)]) rfl (c_X0_expiredSet l Γ 1 isB_1 σ_2 (v_42, σ_43) h_44) cy_X0_expiredSet (x_recv K hB (isB_1.k).2 (ent_0 (isB_1.k).1) rfl) wd_92 ⟨rfl, rfl, Nat.le_of_ble_eq_true rfl, Nat.le_of_ble_eq_true rfl⟩ (Nat.le_of_ble_eq_true rfl) ⟨Nat.zero_le _, Nat.zero_le _⟩ dX4_state_233) hB (fun H locs hB => ?_)
                            replace hB : Bd Γ σ_43 s H locs := hB
                            obtain ⟨v_45, σ_46, h_47, hr⟩ := cbd hr
                            refine x_callI (x_runV M K hB hl.1 [.int v_42] (rest := []) rfl (c_X0_ifRunning l Γ 1 v_42 isB_1 σ_43 (v_45, σ_46) h_47) cy_X0_ifRunning (x_recv K hB (isB_1.k).2 (ent_0 (isB_1.k).1) rfl) wd_86 ⟨rfl, rfl, Nat.le_of_ble_eq_true rfl, Nat.le_of_ble_eq_true rfl⟩ (Nat.le_of_ble_eq_true rfl) ⟨Nat.zero_le _, Nat.zero_le _⟩ dX4_state_236) hB (fun H locs hB => ?_)
                            replace hB : Bd Γ σ_46 s H locs := hB
                            exact x_iret M hB (Option.some.inj hr) dX4_state_239
                          · rw [if_neg c_40] at hr
                            have t_41 : ¬ Int32.toInt a0 = 11 := lv_neT c_40 (by decide)
                            by_cases c_48 : a0 = 12
                            · rw [if_pos c_48] at hr
                              have t_49 : Int32.toInt a0 = 12 := by rw [c_48]; decide
                              refine lv_tableIn (off := 215) (tgt := 240) M.1 M.2.1 dX4_state_25 (by rw [t_49]; decide) (by rw [t_49]; decide) (by rw [t_49]; rfl) (by decide) ?_
                              refine lv_aload_n M.1 M.2.1 dX4_state_240 rfl (lv_at hl 0 rfl) ?_
                              refine x_get4 M K hB isK_0 4 (by decide) wd_93 (v := .ref (Γ.1 143)) rfl dX4_state_241 ?_
                              refine x_get2 M K hB isK_143 1 (by decide) wd_94 (v := .int (σ_2 143 1)) rfl dX4_state_244 ?_
                              exact x_iret M hB (Option.some.inj hr) dX4_state_247
                            · rw [if_neg c_48] at hr
                              have t_49 : ¬ Int32.toInt a0 = 12 := lv_neT c_48 (by decide)
                              refine lv_tableOut (tgt := 248) M.1 M.2.1 dX4_state_25 (by omega) (by decide) ?_
                              refine lv_bipush (v := (-2)) M.1 M.2.1 dX4_state_248 (by decide) ?_
                              exact x_iret M hB (Option.some.inj hr) dX4_state_250
  · rw [if_neg c_4] at hr
    refine lv_aload_n M.1 M.2.1 dX4_state_11 rfl (lv_at hl 0 rfl) ?_
    refine x_get4 M K hB isK_0 0 (by decide) wd_66 (v := .ref (Γ.1 1)) rfl dX4_state_12 ?_
    refine x_get0 M K hB (isB_1.k) 0 (by decide) wd_67 (v := .ref (Γ.1 2)) rfl dX4_state_15 ?_
    refine lv_iload_n M.1 M.2.1 dX4_state_18 rfl (lv_at hl 1 rfl) ?_
    refine lv_bipush (v := 13) M.1 M.2.1 dX4_state_19 (by decide) ?_
    refine lv_isub M.1 M.2.1 dX4_state_21 ?_
    obtain ⟨g_50, hr⟩ := gd hr
    refine x_iald M K hB (isB_1.a1) g_50 dX4_state_22 ?_
    exact x_iret M hB (Option.some.inj hr) dX4_state_23
theorem c_X4_state (l : Launch) (Γ : GG) (a0 : Int32)  (σ : Sg) (res : Int32 × Sg) (hr : f_X4_state_0 a0 σ = some res) : Met l yX4_state (Cond.code yX4_state cX4_state 2 (some .int) :: gtb) rm_X4_state (va_Pc [.ref (Γ.1 0), .int a0] (GI Γ σ)) (QI Γ res) 0 0 (AD Γ) :=
  x_metI (by decide) [.ref (Γ.1 0), .int a0] (Nat.le_of_ble_eq_true rfl) (fun p e s m args below meth c M K ls hl hB => w_X4_state_0 M K a0 σ _ _ ls hB hl hr)
abbrev rm_X4_forecast : Room := { frames := 6, cells := 0, slots := 0, locals := 131 }
def f_X4_forecast_0 (a0 : Int32)   (σ : Sg) : Option (Int32 × Sg) :=
cb (f_X4_isWithin_0 a0 1 5000 σ) fun v_1 σ_2 =>
if v_1 = 0 then
some ((-2), σ_2)
else
cb (f_X0_become_0 36 1 σ_2) fun v_5 σ_6 =>
cb (f_X0_ticksToReset_0 36 a0 σ_6) fun v_8 σ_9 =>
some (v_8, σ_9)
set_option maxHeartbeats 4000000 in
set_option maxRecDepth 100000 in
theorem w_X4_forecast_0 {p : Program} {l : Launch} {e : Env} {s : State} {m : MethodId} {args : Array Value} {below : List Frame} {meth : Method} {c : Code} {Γ : GG} {res : Int32 × Sg} (M : MX RX4 cX4_forecast 2 (some .int) p s m args meth c) (K : KK Γ s s.heap) (a0 : Int32)  (σ : Sg) (H : Heap) (locs : List Loc) (ls : Array Slot)  (hB : Bd Γ σ s H locs) (hl : lv_has ls 2 [(0, .ref (Γ.1 0)), (1, .int a0)]) (hr : f_X4_forecast_0 a0   σ = some res) : WI Γ rm_X4_forecast p l e s m args below meth c H locs res (F0 m 0 ls []) := by
  unfold f_X4_forecast_0 at hr
  refine lv_iload_n M.1 M.2.1 dX4_forecast_0 rfl (lv_at hl 1 rfl) ?_
  refine lv_iconst (v := 1) M.1 M.2.1 dX4_forecast_1 (by decide) ?_
  refine lv_sipush (v := 5000) M.1 M.2.1 dX4_forecast_2 (by decide) ?_
  obtain ⟨v_1, σ_2, h_3, hr⟩ := cbd hr
  refine x_callI (x_runS M K hB hl.1 [.int a0, .int 1, .int 5000] (rest := []) rfl (c_X4_isWithin l Γ a0 1 5000  σ (v_1, σ_2) h_3) cy_X4_isWithin wd_62 ⟨rfl, rfl, Nat.le_of_ble_eq_true rfl, Nat.le_of_ble_eq_true rfl⟩ (Nat.le_of_ble_eq_true rfl) ⟨Nat.zero_le _, Nat.zero_le _⟩ dX4_forecast_5) hB (fun H locs hB => ?_)
  replace hB : Bd Γ σ_2 s H locs := hB
  refine lv_if_ne (tgt := 14) M.1 M.2.1 dX4_forecast_8 (by decide) (fun c_4 => ?_) (fun c_4 => ?_)
  · rw [if_neg c_4] at hr
    refine lv_aload_n M.1 M.2.1 dX4_forecast_14 rfl (lv_at hl 0 rfl) ?_
    refine x_get4 M K hB isK_0 1 (by decide) wd_95 (v := .ref (Γ.1 36)) rfl dX4_forecast_15 ?_
    refine lv_aload_n M.1 M.2.1 dX4_forecast_18 rfl (lv_at hl 0 rfl) ?_
    refine x_get4 M K hB isK_0 0 (by decide) wd_66 (v := .ref (Γ.1 1)) rfl dX4_forecast_19 ?_
    obtain ⟨v_5, σ_6, h_7, hr⟩ := cbd hr
    refine x_callV (x_runV M K hB hl.1 [.ref (Γ.1 1)] (rest := []) rfl (c_X0_become l Γ 36 1 isB_36 isB_1 σ_2 (v_5, σ_6) h_7) cy_X0_become (x_recv K hB (isB_36.k).2 (ent_0 (isB_36.k).1) rfl) wd_96 ⟨rfl, rfl, Nat.le_of_ble_eq_true rfl, Nat.le_of_ble_eq_true rfl⟩ (Nat.le_of_ble_eq_true rfl) ⟨Nat.zero_le _, Nat.zero_le _⟩ dX4_forecast_22) hB (fun H locs hB => ?_)
    replace hB : Bd Γ σ_6 s H locs := hB
    refine lv_aload_n M.1 M.2.1 dX4_forecast_25 rfl (lv_at hl 0 rfl) ?_
    refine x_get4 M K hB isK_0 1 (by decide) wd_95 (v := .ref (Γ.1 36)) rfl dX4_forecast_26 ?_
    refine lv_iload_n M.1 M.2.1 dX4_forecast_29 rfl (lv_at hl 1 rfl) ?_
    obtain ⟨v_8, σ_9, h_10, hr⟩ := cbd hr
    refine x_callI (x_runV M K hB hl.1 [.int a0] (rest := []) rfl (c_X0_ticksToReset l Γ 36 a0 isB_36 σ_6 (v_8, σ_9) h_10) cy_X0_ticksToReset (x_recv K hB (isB_36.k).2 (ent_0 (isB_36.k).1) rfl) wd_97 ⟨rfl, rfl, Nat.le_of_ble_eq_true rfl, Nat.le_of_ble_eq_true rfl⟩ (Nat.le_of_ble_eq_true rfl) ⟨Nat.zero_le _, Nat.zero_le _⟩ dX4_forecast_30) hB (fun H locs hB => ?_)
    replace hB : Bd Γ σ_9 s H locs := hB
    exact x_iret M hB (Option.some.inj hr) dX4_forecast_33
  · rw [if_pos c_4] at hr
    refine lv_bipush (v := (-2)) M.1 M.2.1 dX4_forecast_11 (by decide) ?_
    exact x_iret M hB (Option.some.inj hr) dX4_forecast_13
theorem c_X4_forecast (l : Launch) (Γ : GG) (a0 : Int32)  (σ : Sg) (res : Int32 × Sg) (hr : f_X4_forecast_0 a0 σ = some res) : Met l yX4_forecast (Cond.code yX4_forecast cX4_forecast 2 (some .int) :: gtb) rm_X4_forecast (va_Pc [.ref (Γ.1 0), .int a0] (GI Γ σ)) (QI Γ res) 0 0 (AD Γ) :=
  x_metI (by decide) [.ref (Γ.1 0), .int a0] (Nat.le_of_ble_eq_true rfl) (fun p e s m args below meth c M K ls hl hB => w_X4_forecast_0 M K a0 σ _ _ ls hB hl hr)
abbrev rm_X4_task : Room := { frames := 2, cells := 0, slots := 0, locals := 43 }
def f_X4_task_131 (a0 : Int32) (a1 : Int32)  (s0 : Int32) (σ : Sg) : Option (Int32 × Sg) :=
some (s0, σ)
set_option maxHeartbeats 4000000 in
set_option maxRecDepth 100000 in
theorem w_X4_task_131 {p : Program} {l : Launch} {e : Env} {s : State} {m : MethodId} {args : Array Value} {below : List Frame} {meth : Method} {c : Code} {Γ : GG} {res : Int32 × Sg} (M : MX RX4 cX4_task 4 (some .int) p s m args meth c) (K : KK Γ s s.heap) (a0 : Int32) (a1 : Int32) (s0 : Int32) (σ : Sg) (H : Heap) (locs : List Loc) (ls : Array Slot)  (hB : Bd Γ σ s H locs) (hl : lv_has ls 4 []) (hr : f_X4_task_131 a0 a1  s0 σ = some res) : WI Γ rm_X4_task p l e s m args below meth c H locs res (F0 m 131 ls [.int s0]) := by
  unfold f_X4_task_131 at hr
  exact x_iret M hB (Option.some.inj hr) dX4_task_131
def f_X4_task_0 (a0 : Int32) (a1 : Int32)   (σ : Sg) : Option (Int32 × Sg) :=
cb (f_X4_hasTask_0 a0 σ) fun v_1 σ_2 =>
if v_1 = 0 then
some ((-1), σ_2)
else
if a0 < 0 ∨ 6 ≤ a0.toNatClampNeg then none else
cb (f_X4_isWithin_0 a1 0 7 σ_2) fun v_6 σ_7 =>
if v_6 = 0 then
cb (f_X4_isWithin_0 a1 8 13 σ_7) fun v_10 σ_11 =>
if v_10 = 0 then
if a1 = 14 then
some (σ_11 (3 + 3 + 5 * a0.toNatClampNeg + 2) 0, σ_11)
else
if a1 = 15 then
some (σ_11 (3 + 3 + 5 * a0.toNatClampNeg + 2) 1, σ_11)
else
if a1 = 16 then
some (σ_11 (3 + 3 + 5 * a0.toNatClampNeg) 12, σ_11)
else
if a1 = 17 then
if σ_11 (3 + 3 + 5 * a0.toNatClampNeg) 13 = 0 then
f_X4_task_131 a0 a1  (-6) σ_11
else
f_X4_task_131 a0 a1  (σ_11 (3 + 3 + 5 * a0.toNatClampNeg) 14) σ_11
else
if a1 = 18 then
some (σ_11 (3 + 3 + 5 * a0.toNatClampNeg) 15, σ_11)
else
some ((-2), σ_11)
else
cb (f_X3_momentary_0 (3 + 3 + 5 * a0.toNatClampNeg) a1 σ_11) fun v_25 σ_26 =>
cb (f_X0_ifRunning_0 1 v_25 σ_26) fun v_28 σ_29 =>
some (v_28, σ_29)
else
if a1 < 0 ∨ 8 ≤ a1.toNatClampNeg then none else
some (σ_7 (3 + 3 + 5 * a0.toNatClampNeg + 1) (a1.toNatClampNeg), σ_7)
set_option maxHeartbeats 4000000 in
set_option maxRecDepth 100000 in
theorem w_X4_task_0 {p : Program} {l : Launch} {e : Env} {s : State} {m : MethodId} {args : Array Value} {below : List Frame} {meth : Method} {c : Code} {Γ : GG} {res : Int32 × Sg} (M : MX RX4 cX4_task 4 (some .int) p s m args meth c) (K : KK Γ s s.heap) (a0 : Int32) (a1 : Int32)  (σ : Sg) (H : Heap) (locs : List Loc) (ls : Array Slot)  (hB : Bd Γ σ s H locs) (hl : lv_has ls 4 [(0, .ref (Γ.1 0)), (1, .int a0), (2, .int a1)]) (hr : f_X4_task_0 a0 a1   σ = some res) : WI Γ rm_X4_task p l e s m args below meth c H locs res (F0 m 0 ls []) := by
  unfold f_X4_task_0 at hr
  refine lv_aload_n M.1 M.2.1 dX4_task_0 rfl (lv_at hl 0 rfl) ?_
  refine lv_iload_n M.1 M.2.1 dX4_task_1 rfl (lv_at hl 1 rfl) ?_
  obtain ⟨v_1, σ_2, h_3, hr⟩ := cbd hr
  refine x_callI (x_runV M K hB hl.1 [.int a0] (rest := []) rfl (c_X4_hasTask l Γ a0  σ (v_1, σ_2) h_3) cy_X4_hasTask (x_recv K hB isK_0.2 (ent_4 isK_0.1) rfl) wd_73 ⟨rfl, rfl, Nat.le_of_ble_eq_true rfl, Nat.le_of_ble_eq_true rfl⟩ (Nat.le_of_ble_eq_true rfl) ⟨Nat.zero_le _, Nat.zero_le _⟩ dX4_task_2) hB (fun H locs hB => ?_)
  replace hB : Bd Γ σ_2 s H locs := hB
  refine lv_if_ne (tgt := 10) M.1 M.2.1 dX4_task_5 (by decide) (fun c_4 => ?_) (fun c_4 => ?_)
  · rw [if_neg c_4] at hr
    refine lv_aload_n M.1 M.2.1 dX4_task_10 rfl (lv_at hl 0 rfl) ?_
    refine x_get4 M K hB isK_0 0 (by decide) wd_66 (v := .ref (Γ.1 1)) rfl dX4_task_11 ?_
    refine x_get0 M K hB (isB_1.k) 1 (by decide) wd_71 (v := .ref (Γ.1 3)) rfl dX4_task_14 ?_
    refine lv_iload_n M.1 M.2.1 dX4_task_17 rfl (lv_at hl 1 rfl) ?_
    obtain ⟨g_5, hr⟩ := gd hr
    refine x_aaldT M K hB (isB_1.k2) g_5 dX4_task_18 ?_
    refine lv_astore_n (lv' := [(3, .ref (Γ.1 (3 + 3 + 5 * a0.toNatClampNeg))), (0, .ref (Γ.1 0)), (1, .int a0), (2, .int a1)]) M.1 M.2.1 dX4_task_19 rfl hl (by decide) rfl (fun ls hl => ?_)
    refine lv_iload_n M.1 M.2.1 dX4_task_20 rfl (lv_at hl 3 rfl) ?_
    refine lv_iconst (v := 0) M.1 M.2.1 dX4_task_21 (by decide) ?_
    refine lv_bipush (v := 7) M.1 M.2.1 dX4_task_22 (by decide) ?_
    obtain ⟨v_6, σ_7, h_8, hr⟩ := cbd hr
    refine x_callI (x_runS M K hB hl.1 [.int a1, .int 0, .int 7] (rest := []) rfl (c_X4_isWithin l Γ a1 0 7  σ_2 (v_6, σ_7) h_8) cy_X4_isWithin wd_62 ⟨rfl, rfl, Nat.le_of_ble_eq_true rfl, Nat.le_of_ble_eq_true rfl⟩ (Nat.le_of_ble_eq_true rfl) ⟨Nat.zero_le _, Nat.zero_le _⟩ dX4_task_24) hB (fun H locs hB => ?_)
    replace hB : Bd Γ σ_7 s H locs := hB
    refine lv_if_eq (tgt := 37) M.1 M.2.1 dX4_task_27 (by decide) (fun c_9 => ?_) (fun c_9 => ?_)
    · rw [if_pos c_9] at hr
      refine lv_iload_n M.1 M.2.1 dX4_task_37 rfl (lv_at hl 3 rfl) ?_
      refine lv_bipush (v := 8) M.1 M.2.1 dX4_task_38 (by decide) ?_
      refine lv_bipush (v := 13) M.1 M.2.1 dX4_task_40 (by decide) ?_
      obtain ⟨v_10, σ_11, h_12, hr⟩ := cbd hr
      refine x_callI (x_runS M K hB hl.1 [.int a1, .int 8, .int 13] (rest := []) rfl (c_X4_isWithin l Γ a1 8 13  σ_7 (v_10, σ_11) h_12) cy_X4_isWithin wd_62 ⟨rfl, rfl, Nat.le_of_ble_eq_true rfl, Nat.le_of_ble_eq_true rfl⟩ (Nat.le_of_ble_eq_true rfl) ⟨Nat.zero_le _, Nat.zero_le _⟩ dX4_task_42) hB (fun H locs hB => ?_)
      replace hB : Bd Γ σ_11 s H locs := hB
      refine lv_if_eq (tgt := 61) M.1 M.2.1 dX4_task_45 (by decide) (fun c_13 => ?_) (fun c_13 => ?_)
      · rw [if_pos c_13] at hr
        refine lv_iload_n M.1 M.2.1 dX4_task_61 rfl (lv_at hl 3 rfl) ?_
        by_cases c_14 : a1 = 14
        · rw [if_pos c_14] at hr
          have t_15 : Int32.toInt a1 = 14 := by rw [c_14]; decide
          refine lv_tableIn (off := 34) (tgt := 96) M.1 M.2.1 dX4_task_62 (by rw [t_15]; decide) (by rw [t_15]; decide) (by rw [t_15]; rfl) (by decide) ?_
          refine lv_aload_n M.1 M.2.1 dX4_task_96 rfl (lv_at hl 0 rfl) ?_
          refine x_get3 M K hB ((isB.t isB_1 (vp_lt g_5)).k) 1 (by decide) wd_75 (v := .ref (Γ.1 (3 + 3 + 5 * a0.toNatClampNeg + 2))) rfl dX4_task_97 ?_
          refine lv_iconst (v := 0) M.1 M.2.1 dX4_task_100 (by decide) ?_
          refine x_ialdL M K hB ((isB.t isB_1 (vp_lt g_5)).a2) (k := 0) (by decide) (by decide) dX4_task_101 ?_
          exact x_iret M hB (Option.some.inj hr) dX4_task_102
        · rw [if_neg c_14] at hr
          have t_15 : ¬ Int32.toInt a1 = 14 := lv_neT c_14 (by decide)
          by_cases c_16 : a1 = 15
          · rw [if_pos c_16] at hr
            have t_17 : Int32.toInt a1 = 15 := by rw [c_16]; decide
            refine lv_tableIn (off := 41) (tgt := 103) M.1 M.2.1 dX4_task_62 (by rw [t_17]; decide) (by rw [t_17]; decide) (by rw [t_17]; rfl) (by decide) ?_
            refine lv_aload_n M.1 M.2.1 dX4_task_103 rfl (lv_at hl 0 rfl) ?_
            refine x_get3 M K hB ((isB.t isB_1 (vp_lt g_5)).k) 1 (by decide) wd_75 (v := .ref (Γ.1 (3 + 3 + 5 * a0.toNatClampNeg + 2))) rfl dX4_task_104 ?_
            refine lv_iconst (v := 1) M.1 M.2.1 dX4_task_107 (by decide) ?_
            refine x_ialdL M K hB ((isB.t isB_1 (vp_lt g_5)).a2) (k := 1) (by decide) (by decide) dX4_task_108 ?_
            exact x_iret M hB (Option.some.inj hr) dX4_task_109
          · rw [if_neg c_16] at hr
            have t_17 : ¬ Int32.toInt a1 = 15 := lv_neT c_16 (by decide)
            by_cases c_18 : a1 = 16
            · rw [if_pos c_18] at hr
              have t_19 : Int32.toInt a1 = 16 := by rw [c_18]; decide
              refine lv_tableIn (off := 48) (tgt := 110) M.1 M.2.1 dX4_task_62 (by rw [t_19]; decide) (by rw [t_19]; decide) (by rw [t_19]; rfl) (by decide) ?_
              refine lv_aload_n M.1 M.2.1 dX4_task_110 rfl (lv_at hl 0 rfl) ?_
              refine x_get3 M K hB ((isB.t isB_1 (vp_lt g_5)).k) 12 (by decide) wd_98 (v := .int (σ_11 (3 + 3 + 5 * a0.toNatClampNeg) 12)) rfl dX4_task_111 ?_
              exact x_iret M hB (Option.some.inj hr) dX4_task_114
            · rw [if_neg c_18] at hr
              have t_19 : ¬ Int32.toInt a1 = 16 := lv_neT c_18 (by decide)
              by_cases c_20 : a1 = 17
              · rw [if_pos c_20] at hr
                have t_21 : Int32.toInt a1 = 17 := by rw [c_20]; decide
                refine lv_tableIn (off := 53) (tgt := 115) M.1 M.2.1 dX4_task_62 (by rw [t_21]; decide) (by rw [t_21]; decide) (by rw [t_21]; rfl) (by decide) ?_
                refine lv_aload_n M.1 M.2.1 dX4_task_115 rfl (lv_at hl 0 rfl) ?_
                refine x_get3 M K hB ((isB.t isB_1 (vp_lt g_5)).k) 13 (by decide) wd_99 (v := .int (σ_11 (3 + 3 + 5 * a0.toNatClampNeg) 13)) rfl dX4_task_116 ?_
                refine lv_if_eq (tgt := 129) M.1 M.2.1 dX4_task_119 (by decide) (fun c_22 => ?_) (fun c_22 => ?_)
                · rw [if_pos c_22] at hr
                  refine lv_bipush (v := (-6)) M.1 M.2.1 dX4_task_129 (by decide) ?_
                  exact w_X4_task_131 M K a0 a1  (-6) _ _ _ _  hB (lv_sub hl [] rfl) hr
                · rw [if_neg c_22] at hr
                  refine lv_aload_n M.1 M.2.1 dX4_task_122 rfl (lv_at hl 0 rfl) ?_
                  refine x_get3 M K hB ((isB.t isB_1 (vp_lt g_5)).k) 14 (by decide) wd_100 (v := .int (σ_11 (3 + 3 + 5 * a0.toNatClampNeg) 14)) rfl dX4_task_123 ?_
                  refine lv_goto (tgt := 131) M.1 M.2.1 dX4_task_126 (by decide) ?_
                  exact w_X4_task_131 M K a0 a1  (σ_11 (3 + 3 + 5 * a0.toNatClampNeg) 14) _ _ _ _  hB (lv_sub hl [] rfl) hr
              · rw [if_neg c_20] at hr
                have t_21 : ¬ Int32.toInt a1 = 17 := lv_neT c_20 (by decide)
                by_cases c_23 : a1 = 18
                · rw [if_pos c_23] at hr
                  have t_24 : Int32.toInt a1 = 18 := by rw [c_23]; decide
                  refine lv_tableIn (off := 70) (tgt := 132) M.1 M.2.1 dX4_task_62 (by rw [t_24]; decide) (by rw [t_24]; decide) (by rw [t_24]; rfl) (by decide) ?_
                  refine lv_aload_n M.1 M.2.1 dX4_task_132 rfl (lv_at hl 0 rfl) ?_
                  refine x_get3 M K hB ((isB.t isB_1 (vp_lt g_5)).k) 15 (by decide) wd_101 (v := .int (σ_11 (3 + 3 + 5 * a0.toNatClampNeg) 15)) rfl dX4_task_133 ?_
                  exact x_iret M hB (Option.some.inj hr) dX4_task_136
                · rw [if_neg c_23] at hr
                  have t_24 : ¬ Int32.toInt a1 = 18 := lv_neT c_23 (by decide)
                  refine lv_tableOut (tgt := 137) M.1 M.2.1 dX4_task_62 (by omega) (by decide) ?_
                  refine lv_bipush (v := (-2)) M.1 M.2.1 dX4_task_137 (by decide) ?_
                  exact x_iret M hB (Option.some.inj hr) dX4_task_139
      · rw [if_neg c_13] at hr
        refine lv_aload_n M.1 M.2.1 dX4_task_48 rfl (lv_at hl 1 rfl) ?_
        refine x_get4 M K hB isK_0 0 (by decide) wd_66 (v := .ref (Γ.1 1)) rfl dX4_task_49 ?_
        refine lv_aload_n M.1 M.2.1 dX4_task_52 rfl (lv_at hl 0 rfl) ?_
        refine lv_iload_n M.1 M.2.1 dX4_task_53 rfl (lv_at hl 3 rfl) ?_
        obtain ⟨v_25, σ_26, h_27, hr⟩ := cbd hr
        refine x_callI (x_runV M K hB hl.1 [.int a1] (rest := [.ref (Γ.1 1)]) rfl (c_X3_momentary l Γ (3 + 3 + 5 * a0.toNatClampNeg) a1 (isB.t isB_1 (vp_lt g_5)) σ_11 (v_25, σ_26) h_27) cy_X3_momentary (x_recv K hB ((isB.t isB_1 (vp_lt g_5)).k).2 (ent_3 ((isB.t isB_1 (vp_lt g_5)).k).1) rfl) wd_102 ⟨rfl, rfl, Nat.le_of_ble_eq_true rfl, Nat.le_of_ble_eq_true rfl⟩ (Nat.le_of_ble_eq_true rfl) ⟨Nat.zero_le _, Nat.zero_le _⟩ dX4_task_54) hB (fun H locs hB => ?_)
        replace hB : Bd Γ σ_26 s H locs := hB
        obtain ⟨v_28, σ_29, h_30, hr⟩ := cbd hr
        refine x_callI (x_runV M K hB hl.1 [.int v_25] (rest := []) rfl (c_X0_ifRunning l Γ 1 v_25 isB_1 σ_26 (v_28, σ_29) h_30) cy_X0_ifRunning (x_recv K hB (isB_1.k).2 (ent_0 (isB_1.k).1) rfl) wd_86 ⟨rfl, rfl, Nat.le_of_ble_eq_true rfl, Nat.le_of_ble_eq_true rfl⟩ (Nat.le_of_ble_eq_true rfl) ⟨Nat.zero_le _, Nat.zero_le _⟩ dX4_task_57) hB (fun H locs hB => ?_)
        replace hB : Bd Γ σ_29 s H locs := hB
        exact x_iret M hB (Option.some.inj hr) dX4_task_60
    · rw [if_neg c_9] at hr
      refine lv_aload_n M.1 M.2.1 dX4_task_30 rfl (lv_at hl 0 rfl) ?_
      refine x_get3 M K hB ((isB.t isB_1 (vp_lt g_5)).k) 0 (by decide) wd_74 (v := .ref (Γ.1 (3 + 3 + 5 * a0.toNatClampNeg + 1))) rfl dX4_task_31 ?_
      refine lv_iload_n M.1 M.2.1 dX4_task_34 rfl (lv_at hl 3 rfl) ?_
      obtain ⟨g_31, hr⟩ := gd hr
      refine x_iald M K hB ((isB.t isB_1 (vp_lt g_5)).a1) g_31 dX4_task_35 ?_
      exact x_iret M hB (Option.some.inj hr) dX4_task_36
  · rw [if_pos c_4] at hr
    refine lv_iconst (v := (-1)) M.1 M.2.1 dX4_task_8 (by decide) ?_
    exact x_iret M hB (Option.some.inj hr) dX4_task_9
theorem c_X4_task (l : Launch) (Γ : GG) (a0 : Int32) (a1 : Int32)  (σ : Sg) (res : Int32 × Sg) (hr : f_X4_task_0 a0 a1 σ = some res) : Met l yX4_task (Cond.code yX4_task cX4_task 4 (some .int) :: gtb) rm_X4_task (va_Pc [.ref (Γ.1 0), .int a0, .int a1] (GI Γ σ)) (QI Γ res) 0 0 (AD Γ) :=
  x_metI (by decide) [.ref (Γ.1 0), .int a0, .int a1] (Nat.le_of_ble_eq_true rfl) (fun p e s m args below meth c M K ls hl hB => w_X4_task_0 M K a0 a1 σ _ _ ls hB hl hr)
abbrev rm_X4_record : Room := { frames := 2, cells := 0, slots := 0, locals := 44 }
def f_X4_record_0 (a0 : Int32) (a1 : Int32)   (σ : Sg) : Option (Int32 × Sg) :=
cb (f_X4_isWithin_0 a1 0 4 σ) fun v_1 σ_2 =>
if v_1 = 0 then
some ((-2), σ_2)
else
cb (f_X1_property_0 4 a0 a1 σ_2) fun v_5 σ_6 =>
some (v_5, σ_6)
set_option maxHeartbeats 4000000 in
set_option maxRecDepth 100000 in
theorem w_X4_record_0 {p : Program} {l : Launch} {e : Env} {s : State} {m : MethodId} {args : Array Value} {below : List Frame} {meth : Method} {c : Code} {Γ : GG} {res : Int32 × Sg} (M : MX RX4 cX4_record 3 (some .int) p s m args meth c) (K : KK Γ s s.heap) (a0 : Int32) (a1 : Int32)  (σ : Sg) (H : Heap) (locs : List Loc) (ls : Array Slot)  (hB : Bd Γ σ s H locs) (hl : lv_has ls 3 [(0, .ref (Γ.1 0)), (1, .int a0), (2, .int a1)]) (hr : f_X4_record_0 a0 a1   σ = some res) : WI Γ rm_X4_record p l e s m args below meth c H locs res (F0 m 0 ls []) := by
  unfold f_X4_record_0 at hr
  refine lv_iload_n M.1 M.2.1 dX4_record_0 rfl (lv_at hl 2 rfl) ?_
  refine lv_iconst (v := 0) M.1 M.2.1 dX4_record_1 (by decide) ?_
  refine lv_iconst (v := 4) M.1 M.2.1 dX4_record_2 (by decide) ?_
  obtain ⟨v_1, σ_2, h_3, hr⟩ := cbd hr
  refine x_callI (x_runS M K hB hl.1 [.int a1, .int 0, .int 4] (rest := []) rfl (c_X4_isWithin l Γ a1 0 4  σ (v_1, σ_2) h_3) cy_X4_isWithin wd_62 ⟨rfl, rfl, Nat.le_of_ble_eq_true rfl, Nat.le_of_ble_eq_true rfl⟩ (Nat.le_of_ble_eq_true rfl) ⟨Nat.zero_le _, Nat.zero_le _⟩ dX4_record_3) hB (fun H locs hB => ?_)
  replace hB : Bd Γ σ_2 s H locs := hB
  refine lv_if_ne (tgt := 12) M.1 M.2.1 dX4_record_6 (by decide) (fun c_4 => ?_) (fun c_4 => ?_)
  · rw [if_neg c_4] at hr
    refine lv_aload_n M.1 M.2.1 dX4_record_12 rfl (lv_at hl 0 rfl) ?_
    refine x_get4 M K hB isK_0 0 (by decide) wd_66 (v := .ref (Γ.1 1)) rfl dX4_record_13 ?_
    refine x_get0 M K hB (isB_1.k) 2 (by decide) wd_90 (v := .ref (Γ.1 4)) rfl dX4_record_16 ?_
    refine lv_iload_n M.1 M.2.1 dX4_record_19 rfl (lv_at hl 1 rfl) ?_
    refine lv_iload_n M.1 M.2.1 dX4_record_20 rfl (lv_at hl 2 rfl) ?_
    obtain ⟨v_5, σ_6, h_7, hr⟩ := cbd hr
    refine x_callI (x_runV M K hB hl.1 [.int a0, .int a1] (rest := []) rfl (c_X1_property l Γ 4 a0 a1 isB_1.bk σ_2 (v_5, σ_6) h_7) cy_X1_property (x_recv K hB (isB_1.bk.k).2 (ent_1 (isB_1.bk.k).1) rfl) wd_103 ⟨rfl, rfl, Nat.le_of_ble_eq_true rfl, Nat.le_of_ble_eq_true rfl⟩ (Nat.le_of_ble_eq_true rfl) ⟨Nat.zero_le _, Nat.zero_le _⟩ dX4_record_21) hB (fun H locs hB => ?_)
    replace hB : Bd Γ σ_6 s H locs := hB
    exact x_iret M hB (Option.some.inj hr) dX4_record_24
  · rw [if_pos c_4] at hr
    refine lv_bipush (v := (-2)) M.1 M.2.1 dX4_record_9 (by decide) ?_
    exact x_iret M hB (Option.some.inj hr) dX4_record_11
theorem c_X4_record (l : Launch) (Γ : GG) (a0 : Int32) (a1 : Int32)  (σ : Sg) (res : Int32 × Sg) (hr : f_X4_record_0 a0 a1 σ = some res) : Met l yX4_record (Cond.code yX4_record cX4_record 3 (some .int) :: gtb) rm_X4_record (va_Pc [.ref (Γ.1 0), .int a0, .int a1] (GI Γ σ)) (QI Γ res) 0 0 (AD Γ) :=
  x_metI (by decide) [.ref (Γ.1 0), .int a0, .int a1] (Nat.le_of_ble_eq_true rfl) (fun p e s m args below meth c M K ls hl hB => w_X4_record_0 M K a0 a1 σ _ _ ls hB hl hr)
