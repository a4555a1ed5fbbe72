abbrev rm_L_isTold : Room := { frames := 3, cells := 0, slots := 0, locals := 66 }
def f_L_isTold_432 (a3 : Int32)  (s0 : Int32) (σ : Sg) : Option (Int32 × Sg) :=
if s0 = 0 ∨ s0 = 1 then some (s0, σ) else none
set_option maxHeartbeats 4000000 in
set_option maxRecDepth 100000 in
theorem w_L_isTold_432 {p : Program} {l : Launch} {e : Env} {s : State} {m : MethodId} {args : Array Value} {below : List Frame} {meth : Method} {c : Code} {Γ : GG} {res : Int32 × Sg} (M : MX RL cL_isTold 7 (some .boolean) p s m args meth c) (K : KK Γ s s.heap) (a3 : Int32) (s0 : Int32) (σ : Sg) (H : Heap) (locs : List Loc) (ls : Array Slot)  (hB : Bd Γ σ s H locs) (hl : lv_has ls 7 []) (hr : f_L_isTold_432 a3  s0 σ = some res) : WI Γ rm_L_isTold p l e s m args below meth c H locs res (F0 m 432 ls [.int s0]) := by
  unfold f_L_isTold_432 at hr
  obtain ⟨g_112, hr⟩ := gd2 hr
  exact x_zret M hB (nar_z g_112) (Option.some.inj hr) dL_isTold_432
def f_L_isTold_431 (a3 : Int32)   (σ : Sg) : Option (Int32 × Sg) :=
f_L_isTold_432 a3  0 σ
set_option maxHeartbeats 4000000 in
set_option maxRecDepth 100000 in
theorem w_L_isTold_431 {p : Program} {l : Launch} {e : Env} {s : State} {m : MethodId} {args : Array Value} {below : List Frame} {meth : Method} {c : Code} {Γ : GG} {res : Int32 × Sg} (M : MX RL cL_isTold 7 (some .boolean) p s m args meth c) (K : KK Γ s s.heap) (a3 : Int32)  (σ : Sg) (H : Heap) (locs : List Loc) (ls : Array Slot)  (hB : Bd Γ σ s H locs) (hl : lv_has ls 7 []) (hr : f_L_isTold_431 a3   σ = some res) : WI Γ rm_L_isTold p l e s m args below meth c H locs res (F0 m 431 ls []) := by
  unfold f_L_isTold_431 at hr
  refine lv_iconst (v := 0) M.1 M.2.1 dL_isTold_431 (by decide) ?_
  exact w_L_isTold_432 M K a3  0 _ _ _ _  hB (lv_sub hl [] rfl) hr
def f_L_isTold_310 (a3 : Int32)  (x4 : Int32) (σ : Sg) : Option (Int32 × Sg) :=
cb (f_X4_state_0 1 σ) fun v_72 σ_73 =>
if v_72 = σ_73 150 0 then
cb (f_X4_state_0 2 σ_73) fun v_76 σ_77 =>
if v_76 = σ_77 150 1 then
cb (f_X4_state_0 3 σ_77) fun v_80 σ_81 =>
if v_80 = σ_81 150 2 then
cb (f_X4_state_0 4 σ_81) fun v_84 σ_85 =>
if v_84 = σ_85 150 3 then
cb (f_X4_state_0 5 σ_85) fun v_88 σ_89 =>
if v_88 = σ_89 150 4 then
cb (f_X4_state_0 6 σ_89) fun v_92 σ_93 =>
if v_92 = σ_93 150 5 then
cb (f_X4_state_0 7 σ_93) fun v_96 σ_97 =>
if v_96 = σ_97 150 6 then
cb (f_X4_state_0 8 σ_97) fun v_100 σ_101 =>
if v_100 = σ_101 150 7 then
cb (f_X4_state_0 9 σ_101) fun v_104 σ_105 =>
if v_104 = σ_105 150 8 then
cb (f_X4_state_0 11 σ_105) fun v_108 σ_109 =>
if v_108 = x4 then
f_L_isTold_432 a3  1 σ_109
else
f_L_isTold_431 a3   σ_109
else
f_L_isTold_431 a3   σ_105
else
f_L_isTold_431 a3   σ_101
else
f_L_isTold_431 a3   σ_97
else
f_L_isTold_431 a3   σ_93
else
f_L_isTold_431 a3   σ_89
else
f_L_isTold_431 a3   σ_85
else
f_L_isTold_431 a3   σ_81
else
f_L_isTold_431 a3   σ_77
else
f_L_isTold_431 a3   σ_73
set_option maxHeartbeats 4000000 in
set_option maxRecDepth 100000 in
theorem w_L_isTold_310 {p : Program} {l : Launch} {e : Env} {s : State} {m : MethodId} {args : Array Value} {below : List Frame} {meth : Method} {c : Code} {Γ : GG} {res : Int32 × Sg} (M : MX RL cL_isTold 7 (some .boolean) p s m args meth c) (K : KK Γ s s.heap) (a3 : Int32) (x4 : Int32) (σ : Sg) (H : Heap) (locs : List Loc) (ls : Array Slot)  (hB : Bd Γ σ s H locs) (hl : lv_has ls 7 [(0, .ref (Γ.1 0)), (1, .ref (Γ.1 150)), (4, .int x4)]) (hr : f_L_isTold_310 a3  x4 σ = some res) : WI Γ rm_L_isTold p l e s m args below meth c H locs res (F0 m 310 ls []) := by
  unfold f_L_isTold_310 at hr
  refine lv_aload_n M.1 M.2.1 dL_isTold_310 rfl (lv_at hl 0 rfl) ?_
  refine lv_iconst (v := 1) M.1 M.2.1 dL_isTold_311 (by decide) ?_
  obtain ⟨v_72, σ_73, h_74, hr⟩ := cbd hr
  refine x_callI (x_runV M K hB hl.1 [.int 1] (rest := []) rfl (c_X4_state l Γ 1  σ (v_72, σ_73) h_74) cy_X4_state (x_recv K hB isK_0.2 (ent_4 isK_0.1) rfl) wd_106 ⟨rfl, rfl, Nat.le_of_ble_eq_true rfl, Nat.le_of_ble_eq_true rfl⟩ (Nat.le_of_ble_eq_true rfl) ⟨Nat.zero_le _, Nat.zero_le _⟩ dL_isTold_312) hB (fun H locs hB => ?_)
  replace hB : Bd Γ σ_73 s H locs := hB
  refine lv_aload_n M.1 M.2.1 dL_isTold_315 rfl (lv_at hl 1 rfl) ?_
  refine lv_iconst (v := 0) M.1 M.2.1 dL_isTold_316 (by decide) ?_
  refine x_ialdL M K hB isA_150 (k := 0) (by decide) (by decide) dL_isTold_317 ?_
  refine lv_icmp_ne (tgt := 431) M.1 M.2.1 dL_isTold_318 (by decide) (fun c_75 => ?_) (fun c_75 => ?_)
  · rw [if_neg c_75] at hr
    exact w_L_isTold_431 M K a3   _ _ _ _  hB (lv_sub hl [] rfl) hr
  · rw [if_pos c_75] at hr
    refine lv_aload_n M.1 M.2.1 dL_isTold_321 rfl (lv_at hl 0 rfl) ?_
    refine lv_iconst (v := 2) M.1 M.2.1 dL_isTold_322 (by decide) ?_
    obtain ⟨v_76, σ_77, h_78, hr⟩ := cbd hr
    refine x_callI (x_runV M K hB hl.1 [.int 2] (rest := []) rfl (c_X4_state l Γ 2  σ_73 (v_76, σ_77) h_78) cy_X4_state (x_recv K hB isK_0.2 (ent_4 isK_0.1) rfl) wd_106 ⟨rfl, rfl, Nat.le_of_ble_eq_true rfl, Nat.le_of_ble_eq_true rfl⟩ (Nat.le_of_ble_eq_true rfl) ⟨Nat.zero_le _, Nat.zero_le _⟩ dL_isTold_323) hB (fun H locs hB => ?_)
    replace hB : Bd Γ σ_77 s H locs := hB
    refine lv_aload_n M.1 M.2.1 dL_isTold_326 rfl (lv_at hl 1 rfl) ?_
    refine lv_iconst (v := 1) M.1 M.2.1 dL_isTold_327 (by decide) ?_
    refine x_ialdL M K hB isA_150 (k := 1) (by decide) (by decide) dL_isTold_328 ?_
    refine lv_icmp_ne (tgt := 431) M.1 M.2.1 dL_isTold_329 (by decide) (fun c_79 => ?_) (fun c_79 => ?_)
    · rw [if_neg c_79] at hr
      exact w_L_isTold_431 M K a3   _ _ _ _  hB (lv_sub hl [] rfl) hr
    · rw [if_pos c_79] at hr
      refine lv_aload_n M.1 M.2.1 dL_isTold_332 rfl (lv_at hl 0 rfl) ?_
      refine lv_iconst (v := 3) M.1 M.2.1 dL_isTold_333 (by decide) ?_
      obtain ⟨v_80, σ_81, h_82, hr⟩ := cbd hr
      refine x_callI (x_runV M K hB hl.1 [.int 3] (rest := []) rfl (c_X4_state l Γ 3  σ_77 (v_80, σ_81) h_82) cy_X4_state (x_recv K hB isK_0.2 (ent_4 isK_0.1) rfl) wd_106 ⟨rfl, rfl, Nat.le_of_ble_eq_true rfl, Nat.le_of_ble_eq_true rfl⟩ (Nat.le_of_ble_eq_true rfl) ⟨Nat.zero_le _, Nat.zero_le _⟩ dL_isTold_334) hB (fun H locs hB => ?_)
      replace hB : Bd Γ σ_81 s H locs := hB
      refine lv_aload_n M.1 M.2.1 dL_isTold_337 rfl (lv_at hl 1 rfl) ?_
      refine lv_iconst (v := 2) M.1 M.2.1 dL_isTold_338 (by decide) ?_
      refine x_ialdL M K hB isA_150 (k := 2) (by decide) (by decide) dL_isTold_339 ?_
      refine lv_icmp_ne (tgt := 431) M.1 M.2.1 dL_isTold_340 (by decide) (fun c_83 => ?_) (fun c_83 => ?_)
      · rw [if_neg c_83] at hr
        exact w_L_isTold_431 M K a3   _ _ _ _  hB (lv_sub hl [] rfl) hr
      · rw [if_pos c_83] at hr
        refine lv_aload_n M.1 M.2.1 dL_isTold_343 rfl (lv_at hl 0 rfl) ?_
        refine lv_iconst (v := 4) M.1 M.2.1 dL_isTold_344 (by decide) ?_
        obtain ⟨v_84, σ_85, h_86, hr⟩ := cbd hr
        refine x_callI (x_runV M K hB hl.1 [.int 4] (rest := []) rfl (c_X4_state l Γ 4  σ_81 (v_84, σ_85) h_86) cy_X4_state (x_recv K hB isK_0.2 (ent_4 isK_0.1) rfl) wd_106 ⟨rfl, rfl, Nat.le_of_ble_eq_true rfl, Nat.le_of_ble_eq_true rfl⟩ (Nat.le_of_ble_eq_true rfl) ⟨Nat.zero_le _, Nat.zero_le _⟩ dL_isTold_345) hB (fun H locs hB => ?_)
        replace hB : Bd Γ σ_85 s H locs := hB
        refine lv_aload_n M.1 M.2.1 dL_isTold_348 rfl (lv_at hl 1 rfl) ?_
        refine lv_iconst (v := 3) M.1 M.2.1 dL_isTold_349 (by decide) ?_
        refine x_ialdL M K hB isA_150 (k := 3) (by decide) (by decide) dL_isTold_350 ?_
        refine lv_icmp_ne (tgt := 431) M.1 M.2.1 dL_isTold_351 (by decide) (fun c_87 => ?_) (fun c_87 => ?_)
        · rw [if_neg c_87] at hr
          exact w_L_isTold_431 M K a3   _ _ _ _  hB (lv_sub hl [] rfl) hr
        · rw [if_pos c_87] at hr
          refine lv_aload_n M.1 M.2.1 dL_isTold_354 rfl (lv_at hl 0 rfl) ?_
          refine lv_iconst (v := 5) M.1 M.2.1 dL_isTold_355 (by decide) ?_
          obtain ⟨v_88, σ_89, h_90, hr⟩ := cbd hr
          refine x_callI (x_runV M K hB hl.1 [.int 5] (rest := []) rfl (c_X4_state l Γ 5  σ_85 (v_88, σ_89) h_90) cy_X4_state (x_recv K hB isK_0.2 (ent_4 isK_0.1) rfl) wd_106 ⟨rfl, rfl, Nat.le_of_ble_eq_true rfl, Nat.le_of_ble_eq_true rfl⟩ (Nat.le_of_ble_eq_true rfl) ⟨Nat.zero_le _, Nat.zero_le _⟩ dL_isTold_356) hB (fun H locs hB => ?_)
          replace hB : Bd Γ σ_89 s H locs := hB
          refine lv_aload_n M.1 M.2.1 dL_isTold_359 rfl (lv_at hl 1 rfl) ?_
          refine lv_iconst (v := 4) M.1 M.2.1 dL_isTold_360 (by decide) ?_
          refine x_ialdL M K hB isA_150 (k := 4) (by decide) (by decide) dL_isTold_361 ?_
          refine lv_icmp_ne (tgt := 431) M.1 M.2.1 dL_isTold_362 (by decide) (fun c_91 => ?_) (fun c_91 => ?_)
          · rw [if_neg c_91] at hr
            exact w_L_isTold_431 M K a3   _ _ _ _  hB (lv_sub hl [] rfl) hr
          · rw [if_pos c_91] at hr
            refine lv_aload_n M.1 M.2.1 dL_isTold_365 rfl (lv_at hl 0 rfl) ?_
            refine lv_bipush (v := 6) M.1 M.2.1 dL_isTold_366 (by decide) ?_
            obtain ⟨v_92, σ_93, h_94, hr⟩ := cbd hr
            refine x_callI (x_runV M K hB hl.1 [.int 6] (rest := []) rfl (c_X4_state l Γ 6  σ_89 (v_92, σ_93) h_94) cy_X4_state (x_recv K hB isK_0.2 (ent_4 isK_0.1) rfl) wd_106 ⟨rfl, rfl, Nat.le_of_ble_eq_true rfl, Nat.le_of_ble_eq_true rfl⟩ (Nat.le_of_ble_eq_true rfl) ⟨Nat.zero_le _, Nat.zero_le _⟩ dL_isTold_368) hB (fun H locs hB => ?_)
            replace hB : Bd Γ σ_93 s H locs := hB
            refine lv_aload_n M.1 M.2.1 dL_isTold_371 rfl (lv_at hl 1 rfl) ?_
            refine lv_iconst (v := 5) M.1 M.2.1 dL_isTold_372 (by decide) ?_
            refine x_ialdL M K hB isA_150 (k := 5) (by decide) (by decide) dL_isTold_373 ?_
            refine lv_icmp_ne (tgt := 431) M.1 M.2.1 dL_isTold_374 (by decide) (fun c_95 => ?_) (fun c_95 => ?_)
            · rw [if_neg c_95] at hr
              exact w_L_isTold_431 M K a3   _ _ _ _  hB (lv_sub hl [] rfl) hr
            · rw [if_pos c_95] at hr
              refine lv_aload_n M.1 M.2.1 dL_isTold_377 rfl (lv_at hl 0 rfl) ?_
              refine lv_bipush (v := 7) M.1 M.2.1 dL_isTold_378 (by decide) ?_
              obtain ⟨v_96, σ_97, h_98, hr⟩ := cbd hr
              refine x_callI (x_runV M K hB hl.1 [.int 7] (rest := []) rfl (c_X4_state l Γ 7  σ_93 (v_96, σ_97) h_98) cy_X4_state (x_recv K hB isK_0.2 (ent_4 isK_0.1) rfl) wd_106 ⟨rfl, rfl, Nat.le_of_ble_eq_true rfl, Nat.le_of_ble_eq_true rfl⟩ (Nat.le_of_ble_eq_true rfl) ⟨Nat.zero_le _, Nat.zero_le _⟩ dL_isTold_380) hB (fun H locs hB => ?_)
              replace hB : Bd Γ σ_97 s H locs := hB
              refine lv_aload_n M.1 M.2.1 dL_isTold_383 rfl (lv_at hl 1 rfl) ?_
              refine lv_bipush (v := 6) M.1 M.2.1 dL_isTold_384 (by decide) ?_
              refine x_ialdL M K hB isA_150 (k := 6) (by decide) (by decide) dL_isTold_386 ?_
              refine lv_icmp_ne (tgt := 431) M.1 M.2.1 dL_isTold_387 (by decide) (fun c_99 => ?_) (fun c_99 => ?_)
              · rw [if_neg c_99] at hr
                exact w_L_isTold_431 M K a3   _ _ _ _  hB (lv_sub hl [] rfl) hr
              · rw [if_pos c_99] at hr
                refine lv_aload_n M.1 M.2.1 dL_isTold_390 rfl (lv_at hl 0 rfl) ?_
                refine lv_bipush (v := 8) M.1 M.2.1 dL_isTold_391 (by decide) ?_
                obtain ⟨v_100, σ_101, h_102, hr⟩ := cbd hr
                refine x_callI (x_runV M K hB hl.1 [.int 8] (rest := []) rfl (c_X4_state l Γ 8  σ_97 (v_100, σ_101) h_102) cy_X4_state (x_recv K hB isK_0.2 (ent_4 isK_0.1) rfl) wd_106 ⟨rfl, rfl, Nat.le_of_ble_eq_true rfl, Nat.le_of_ble_eq_true rfl⟩ (Nat.le_of_ble_eq_true rfl) ⟨Nat.zero_le _, Nat.zero_le _⟩ dL_isTold_393) hB (fun H locs hB => ?_)
                replace hB : Bd Γ σ_101 s H locs := hB
                refine lv_aload_n M.1 M.2.1 dL_isTold_396 rfl (lv_at hl 1 rfl) ?_
                refine lv_bipush (v := 7) M.1 M.2.1 dL_isTold_397 (by decide) ?_
                refine x_ialdL M K hB isA_150 (k := 7) (by decide) (by decide) dL_isTold_399 ?_
                refine lv_icmp_ne (tgt := 431) M.1 M.2.1 dL_isTold_400 (by decide) (fun c_103 => ?_) (fun c_103 => ?_)
                · rw [if_neg c_103] at hr
                  exact w_L_isTold_431 M K a3   _ _ _ _  hB (lv_sub hl [] rfl) hr
                · rw [if_pos c_103] at hr
                  refine lv_aload_n M.1 M.2.1 dL_isTold_403 rfl (lv_at hl 0 rfl) ?_
                  refine lv_bipush (v := 9) M.1 M.2.1 dL_isTold_404 (by decide) ?_
                  obtain ⟨v_104, σ_105, h_106, hr⟩ := cbd hr
                  refine x_callI (x_runV M K hB hl.1 [.int 9] (rest := []) rfl (c_X4_state l Γ 9  σ_101 (v_104, σ_105) h_106) cy_X4_state (x_recv K hB isK_0.2 (ent_4 isK_0.1) rfl) wd_106 ⟨rfl, rfl, Nat.le_of_ble_eq_true rfl, Nat.le_of_ble_eq_true rfl⟩ (Nat.le_of_ble_eq_true rfl) ⟨Nat.zero_le _, Nat.zero_le _⟩ dL_isTold_406) hB (fun H locs hB => ?_)
                  replace hB : Bd Γ σ_105 s H locs := hB
                  refine lv_aload_n M.1 M.2.1 dL_isTold_409 rfl (lv_at hl 1 rfl) ?_
                  refine lv_bipush (v := 8) M.1 M.2.1 dL_isTold_410 (by decide) ?_
                  refine x_ialdL M K hB isA_150 (k := 8) (by decide) (by decide) dL_isTold_412 ?_
                  refine lv_icmp_ne (tgt := 431) M.1 M.2.1 dL_isTold_413 (by decide) (fun c_107 => ?_) (fun c_107 => ?_)
                  · rw [if_neg c_107] at hr
                    exact w_L_isTold_431 M K a3   _ _ _ _  hB (lv_sub hl [] rfl) hr
                  · rw [if_pos c_107] at hr
                    refine lv_aload_n M.1 M.2.1 dL_isTold_416 rfl (lv_at hl 0 rfl) ?_
                    refine lv_bipush (v := 11) M.1 M.2.1 dL_isTold_417 (by decide) ?_
                    obtain ⟨v_108, σ_109, h_110, hr⟩ := cbd hr
                    refine x_callI (x_runV M K hB hl.1 [.int 11] (rest := []) rfl (c_X4_state l Γ 11  σ_105 (v_108, σ_109) h_110) cy_X4_state (x_recv K hB isK_0.2 (ent_4 isK_0.1) rfl) wd_106 ⟨rfl, rfl, Nat.le_of_ble_eq_true rfl, Nat.le_of_ble_eq_true rfl⟩ (Nat.le_of_ble_eq_true rfl) ⟨Nat.zero_le _, Nat.zero_le _⟩ dL_isTold_419) hB (fun H locs hB => ?_)
                    replace hB : Bd Γ σ_109 s H locs := hB
                    refine lv_iload M.1 M.2.1 dL_isTold_422 (lv_at hl 2 rfl) ?_
                    refine lv_icmp_ne (tgt := 431) M.1 M.2.1 dL_isTold_424 (by decide) (fun c_111 => ?_) (fun c_111 => ?_)
                    · rw [if_neg c_111] at hr
                      exact w_L_isTold_431 M K a3   _ _ _ _  hB (lv_sub hl [] rfl) hr
                    · rw [if_pos c_111] at hr
                      refine lv_iconst (v := 1) M.1 M.2.1 dL_isTold_427 (by decide) ?_
                      refine lv_goto (tgt := 432) M.1 M.2.1 dL_isTold_428 (by decide) ?_
                      exact w_L_isTold_432 M K a3  1 _ _ _ _  hB (lv_sub hl [] rfl) hr
def f_L_isTold_308 (a3 : Int32)   (σ : Sg) : Option (Int32 × Sg) :=
some (0, σ)
set_option maxHeartbeats 4000000 in
set_option maxRecDepth 100000 in
theorem w_L_isTold_308 {p : Program} {l : Launch} {e : Env} {s : State} {m : MethodId} {args : Array Value} {below : List Frame} {meth : Method} {c : Code} {Γ : GG} {res : Int32 × Sg} (M : MX RL cL_isTold 7 (some .boolean) p s m args meth c) (K : KK Γ s s.heap) (a3 : Int32)  (σ : Sg) (H : Heap) (locs : List Loc) (ls : Array Slot)  (hB : Bd Γ σ s H locs) (hl : lv_has ls 7 []) (hr : f_L_isTold_308 a3   σ = some res) : WI Γ rm_L_isTold p l e s m args below meth c H locs res (F0 m 308 ls []) := by
  unfold f_L_isTold_308 at hr
  refine lv_iconst (v := 0) M.1 M.2.1 dL_isTold_308 (by decide) ?_
  exact x_zret M hB (nar_z (by decide)) (Option.some.inj hr) dL_isTold_309
def f_L_isTold_217 (a3 : Int32)   (σ : Sg) : Option (Int32 × Sg) :=
some (0, σ)
set_option maxHeartbeats 4000000 in
set_option maxRecDepth 100000 in
theorem w_L_isTold_217 {p : Program} {l : Launch} {e : Env} {s : State} {m : MethodId} {args : Array Value} {below : List Frame} {meth : Method} {c : Code} {Γ : GG} {res : Int32 × Sg} (M : MX RL cL_isTold 7 (some .boolean) p s m args meth c) (K : KK Γ s s.heap) (a3 : Int32)  (σ : Sg) (H : Heap) (locs : List Loc) (ls : Array Slot)  (hB : Bd Γ σ s H locs) (hl : lv_has ls 7 []) (hr : f_L_isTold_217 a3   σ = some res) : WI Γ rm_L_isTold p l e s m args below meth c H locs res (F0 m 217 ls []) := by
  unfold f_L_isTold_217 at hr
  refine lv_iconst (v := 0) M.1 M.2.1 dL_isTold_217 (by decide) ?_
  exact x_zret M hB (nar_z (by decide)) (Option.some.inj hr) dL_isTold_218
def f_L_isTold_214 (a3 : Int32) (rec_6 : Int32 → Int32 → Int32 → Sg → Option (Int32 × Sg)) (x3 : Int32) (x4 : Int32) (x5 : Int32) (s0 : Int32) (s1 : Int32) (σ : Sg) : Option (Int32 × Sg) :=
if s1 = s0 then
rec_6 x3 x4 (x5 + 1) σ
else
f_L_isTold_217 a3   σ
set_option maxHeartbeats 4000000 in
set_option maxRecDepth 100000 in
theorem w_L_isTold_214 {p : Program} {l : Launch} {e : Env} {s : State} {m : MethodId} {args : Array Value} {below : List Frame} {meth : Method} {c : Code} {Γ : GG} {res : Int32 × Sg} (M : MX RL cL_isTold 7 (some .boolean) p s m args meth c) (K : KK Γ s s.heap) (a3 : Int32) (rec_6 : Int32 → Int32 → Int32 → Sg → Option (Int32 × Sg)) (ih_6 : ∀ (x3 : Int32) (x4 : Int32) (x5 : Int32) (σ : Sg) (H : Heap) (locs : List Loc) (ls : Array Slot) , Bd Γ σ s H locs → lv_has ls 7 [(0, .ref (Γ.1 0)), (1, .ref (Γ.1 150)), (2, .ref (Γ.1 151)), (3, .int x3), (4, .int x4), (5, .int x5)] → rec_6 x3 x4 x5 σ = some res → WI Γ rm_L_isTold p l e s m args below meth c H locs res (F0 m 6 ls [])) (x3 : Int32) (x4 : Int32) (x5 : Int32) (s0 : Int32) (s1 : Int32) (σ : Sg) (H : Heap) (locs : List Loc) (ls : Array Slot)  (hB : Bd Γ σ s H locs) (hl : lv_has ls 7 [(0, .ref (Γ.1 0)), (1, .ref (Γ.1 150)), (2, .ref (Γ.1 151)), (3, .int x3), (4, .int x4), (5, .int x5)]) (hr : f_L_isTold_214 a3 rec_6 x3 x4 x5 s0 s1 σ = some res) : WI Γ rm_L_isTold p l e s m args below meth c H locs res (F0 m 214 ls [.int s0, .int s1]) := by
  unfold f_L_isTold_214 at hr
  refine lv_icmp_eq (tgt := 219) M.1 M.2.1 dL_isTold_214 (by decide) (fun c_71 => ?_) (fun c_71 => ?_)
  · rw [if_pos c_71] at hr
    refine lv_iinc (v := x5 + 1) (lv' := [(5, .int (x5 + 1)), (0, .ref (Γ.1 0)), (1, .ref (Γ.1 150)), (2, .ref (Γ.1 151)), (3, .int x3), (4, .int x4)]) M.1 M.2.1 dL_isTold_219 hl (k := 5) rfl rfl (by decide) rfl (fun ls hl => ?_)
    refine lv_goto (tgt := 6) M.1 M.2.1 dL_isTold_222 (by decide) ?_
    exact ih_6 x3 x4 (x5 + 1) _ _ _ _  hB (lv_sub hl [1, 2, 3, 4, 5, 0] rfl) hr
  · rw [if_neg c_71] at hr
    exact w_L_isTold_217 M K a3   _ _ _ _  hB (lv_sub hl [] rfl) hr
def f_L_isTold_199 (a3 : Int32) (rec_6 : Int32 → Int32 → Int32 → Sg → Option (Int32 × Sg)) (x3 : Int32) (x4 : Int32) (x5 : Int32) (x6 : Int32) (s0 : Int32) (σ : Sg) : Option (Int32 × Sg) :=
if x6 + 8 < 0 ∨ 30 ≤ (x6 + 8).toNatClampNeg then none else
if σ 151 ((x6 + 8).toNatClampNeg) = 0 then
f_L_isTold_214 a3 rec_6 x3 x4 x5 1 s0 σ
else
f_L_isTold_214 a3 rec_6 x3 x4 x5 0 s0 σ
set_option maxHeartbeats 4000000 in
set_option maxRecDepth 100000 in
theorem w_L_isTold_199 {p : Program} {l : Launch} {e : Env} {s : State} {m : MethodId} {args : Array Value} {below : List Frame} {meth : Method} {c : Code} {Γ : GG} {res : Int32 × Sg} (M : MX RL cL_isTold 7 (some .boolean) p s m args meth c) (K : KK Γ s s.heap) (a3 : Int32) (rec_6 : Int32 → Int32 → Int32 → Sg → Option (Int32 × Sg)) (ih_6 : ∀ (x3 : Int32) (x4 : Int32) (x5 : Int32) (σ : Sg) (H : Heap) (locs : List Loc) (ls : Array Slot) , Bd Γ σ s H locs → lv_has ls 7 [(0, .ref (Γ.1 0)), (1, .ref (Γ.1 150)), (2, .ref (Γ.1 151)), (3, .int x3), (4, .int x4), (5, .int x5)] → rec_6 x3 x4 x5 σ = some res → WI Γ rm_L_isTold p l e s m args below meth c H locs res (F0 m 6 ls [])) (x3 : Int32) (x4 : Int32) (x5 : Int32) (x6 : Int32) (s0 : Int32) (σ : Sg) (H : Heap) (locs : List Loc) (ls : Array Slot)  (hB : Bd Γ σ s H locs) (hl : lv_has ls 7 [(0, .ref (Γ.1 0)), (1, .ref (Γ.1 150)), (2, .ref (Γ.1 151)), (3, .int x3), (4, .int x4), (5, .int x5), (6, .int x6)]) (hr : f_L_isTold_199 a3 rec_6 x3 x4 x5 x6 s0 σ = some res) : WI Γ rm_L_isTold p l e s m args below meth c H locs res (F0 m 199 ls [.int s0]) := by
  unfold f_L_isTold_199 at hr
  refine lv_aload_n M.1 M.2.1 dL_isTold_199 rfl (lv_at hl 2 rfl) ?_
  refine lv_iload M.1 M.2.1 dL_isTold_200 (lv_at hl 6 rfl) ?_
  refine lv_bipush (v := 8) M.1 M.2.1 dL_isTold_202 (by decide) ?_
  refine lv_iadd M.1 M.2.1 dL_isTold_204 ?_
  obtain ⟨g_69, hr⟩ := gd hr
  refine x_iald M K hB isA_151 g_69 dL_isTold_205 ?_
  refine lv_if_ne (tgt := 213) M.1 M.2.1 dL_isTold_206 (by decide) (fun c_70 => ?_) (fun c_70 => ?_)
  · rw [if_neg c_70] at hr
    refine lv_iconst (v := 0) M.1 M.2.1 dL_isTold_213 (by decide) ?_
    exact w_L_isTold_214 M K a3 _ ih_6 x3 x4 x5 0 s0 _ _ _ _  hB (lv_sub hl [0, 1, 2, 3, 4, 5] rfl) hr
  · rw [if_pos c_70] at hr
    refine lv_iconst (v := 1) M.1 M.2.1 dL_isTold_209 (by decide) ?_
    refine lv_goto (tgt := 214) M.1 M.2.1 dL_isTold_210 (by decide) ?_
    exact w_L_isTold_214 M K a3 _ ih_6 x3 x4 x5 1 s0 _ _ _ _  hB (lv_sub hl [0, 1, 2, 3, 4, 5] rfl) hr
def f_L_isTold_6 (a3 : Int32)  : Nat → Int32 → Int32 → Int32 → Sg → Option (Int32 × Sg)
  | 0, _, _, _, _ => none
  | f + 1, x3, x4, x5, σ => if x3 ≤ x5 then
if (σ 150 8) - 1 < 0 then
f_L_isTold_310 a3  x4 σ
else
cb (f_X4_record_0 ((σ 150 8) - 1) 0 σ) fun v_3 σ_4 =>
if v_3 = σ_4 150 9 then
cb (f_X4_record_0 ((σ 150 8) - 1) 1 σ_4) fun v_7 σ_8 =>
if v_7 = σ_8 150 10 then
cb (f_X4_record_0 ((σ 150 8) - 1) 2 σ_8) fun v_11 σ_12 =>
if v_11 = σ_12 150 11 then
cb (f_X4_record_0 ((σ 150 8) - 1) 3 σ_12) fun v_15 σ_16 =>
if v_15 = σ_16 150 12 then
cb (f_X4_record_0 ((σ 150 8) - 1) 4 σ_16) fun v_19 σ_20 =>
if v_19 = σ_20 150 13 then
f_L_isTold_310 a3  x4 σ_20
else
f_L_isTold_308 a3   σ_20
else
f_L_isTold_308 a3   σ_16
else
f_L_isTold_308 a3   σ_12
else
f_L_isTold_308 a3   σ_8
else
f_L_isTold_308 a3   σ_4
else
if (10 * x5) + 7 < 0 ∨ 30 ≤ ((10 * x5) + 7).toNatClampNeg then none else
cb (f_X4_task_0 x5 8 σ) fun v_24 σ_25 =>
if (10 * x5) + 0 < 0 ∨ 30 ≤ ((10 * x5) + 0).toNatClampNeg then none else
if v_24 = σ_25 151 (((10 * x5) + 0).toNatClampNeg) then
cb (f_X4_task_0 x5 9 σ_25) fun v_29 σ_30 =>
if (10 * x5) + 3 < 0 ∨ 30 ≤ ((10 * x5) + 3).toNatClampNeg then none else
if (10 * x5) + 1 < 0 ∨ 30 ≤ ((10 * x5) + 1).toNatClampNeg then none else
if v_29 = (σ_30 151 (((10 * x5) + 3).toNatClampNeg)) * (1 - (σ_30 151 (((10 * x5) + 1).toNatClampNeg))) then
cb (f_X4_task_0 x5 10 σ_30) fun v_35 σ_36 =>
if (10 * x5) + 4 < 0 ∨ 30 ≤ ((10 * x5) + 4).toNatClampNeg then none else
if v_35 = σ_36 151 (((10 * x5) + 4).toNatClampNeg) then
cb (f_X4_task_0 x5 11 σ_36) fun v_40 σ_41 =>
if (10 * x5) + 5 < 0 ∨ 30 ≤ ((10 * x5) + 5).toNatClampNeg then none else
if v_40 = σ_41 151 (((10 * x5) + 5).toNatClampNeg) then
cb (f_X4_task_0 x5 12 σ_41) fun v_45 σ_46 =>
if (10 * x5) + 6 < 0 ∨ 30 ≤ ((10 * x5) + 6).toNatClampNeg then none else
if v_45 = σ_46 151 (((10 * x5) + 6).toNatClampNeg) then
cb (f_X4_task_0 x5 13 σ_46) fun v_50 σ_51 =>
if (10 * x5) + 7 < 0 ∨ 30 ≤ ((10 * x5) + 7).toNatClampNeg then none else
if v_50 = σ_51 151 (((10 * x5) + 7).toNatClampNeg) then
cb (f_X4_task_0 x5 16 σ_51) fun v_55 σ_56 =>
if (10 * x5) + 8 < 0 ∨ 30 ≤ ((10 * x5) + 8).toNatClampNeg then none else
if v_55 = σ_56 151 (((10 * x5) + 8).toNatClampNeg) then
cb (f_X4_task_0 x5 18 σ_56) fun v_60 σ_61 =>
if (10 * x5) + 9 < 0 ∨ 30 ≤ ((10 * x5) + 9).toNatClampNeg then none else
if v_60 = σ_61 151 (((10 * x5) + 9).toNatClampNeg) then
cb (f_X4_task_0 x5 17 σ_61) fun v_65 σ_66 =>
if 0 ≤ v_65 then
f_L_isTold_199 a3 (f_L_isTold_6 a3  f) x3 (x4 ||| ((σ 151 (((10 * x5) + 7).toNatClampNeg)) <<< (x5 &&& 31))) x5 (10 * x5) 0 σ_66
else
f_L_isTold_199 a3 (f_L_isTold_6 a3  f) x3 (x4 ||| ((σ 151 (((10 * x5) + 7).toNatClampNeg)) <<< (x5 &&& 31))) x5 (10 * x5) 1 σ_66
else
f_L_isTold_217 a3   σ_61
else
f_L_isTold_217 a3   σ_56
else
f_L_isTold_217 a3   σ_51
else
f_L_isTold_217 a3   σ_46
else
f_L_isTold_217 a3   σ_41
else
f_L_isTold_217 a3   σ_36
else
f_L_isTold_217 a3   σ_30
else
f_L_isTold_217 a3   σ_25
set_option maxHeartbeats 4000000 in
set_option maxRecDepth 100000 in
theorem w_L_isTold_6 {p : Program} {l : Launch} {e : Env} {s : State} {m : MethodId} {args : Array Value} {below : List Frame} {meth : Method} {c : Code} {Γ : GG} {res : Int32 × Sg} (M : MX RL cL_isTold 7 (some .boolean) p s m args meth c) (K : KK Γ s s.heap) (a3 : Int32) : ∀ (f : Nat) (x3 : Int32) (x4 : Int32) (x5 : Int32) (σ : Sg) (H : Heap) (locs : List Loc) (ls : Array Slot)  (hB : Bd Γ σ s H locs) (hl : lv_has ls 7 [(0, .ref (Γ.1 0)), (1, .ref (Γ.1 150)), (2, .ref (Γ.1 151)), (3, .int x3), (4, .int x4), (5, .int x5)]) (hr : f_L_isTold_6 a3  f x3 x4 x5 σ = some res), WI Γ rm_L_isTold p l e s m args below meth c H locs res (F0 m 6 ls []) := by
  intro f
  induction f with
  | zero => intros; rename_i hr; exact absurd hr (by rw [f_L_isTold_6]; exact fun h => by cases h)
  | succ f ih_6 =>
    intro x3 x4 x5 σ H locs ls  hB hl hr
    rw [f_L_isTold_6] at hr
    refine lv_iload M.1 M.2.1 dL_isTold_6 (lv_at hl 5 rfl) ?_
    refine lv_iload_n M.1 M.2.1 dL_isTold_8 rfl (lv_at hl 3 rfl) ?_
    refine lv_icmp_ge (tgt := 225) M.1 M.2.1 dL_isTold_9 (by decide) (fun c_1 => ?_) (fun c_1 => ?_)
    · rw [if_pos c_1] at hr
      refine lv_aload_n M.1 M.2.1 dL_isTold_225 rfl (lv_at hl 1 rfl) ?_
      refine lv_bipush (v := 8) M.1 M.2.1 dL_isTold_226 (by decide) ?_
      refine x_ialdL M K hB isA_150 (k := 8) (by decide) (by decide) dL_isTold_228 ?_
      refine lv_iconst (v := 1) M.1 M.2.1 dL_isTold_229 (by decide) ?_
      refine lv_isub M.1 M.2.1 dL_isTold_230 ?_
      refine lv_istore (lv' := [(5, .int ((σ 150 8) - 1)), (0, .ref (Γ.1 0)), (1, .ref (Γ.1 150)), (2, .ref (Γ.1 151)), (3, .int x3), (4, .int x4)]) M.1 M.2.1 dL_isTold_231 hl (by decide) rfl (fun ls hl => ?_)
      refine lv_iload M.1 M.2.1 dL_isTold_233 (lv_at hl 0 rfl) ?_
      refine lv_if_lt (tgt := 310) M.1 M.2.1 dL_isTold_235 (by decide) (fun c_2 => ?_) (fun c_2 => ?_)
      · rw [if_pos c_2] at hr
        exact w_L_isTold_310 M K a3  x4 _ _ _ _  hB (lv_sub hl [1, 2, 5] rfl) hr
      · rw [if_neg c_2] at hr
        refine lv_aload_n M.1 M.2.1 dL_isTold_238 rfl (lv_at hl 1 rfl) ?_
        refine lv_iload M.1 M.2.1 dL_isTold_239 (lv_at hl 0 rfl) ?_
        refine lv_iconst (v := 0) M.1 M.2.1 dL_isTold_241 (by decide) ?_
        obtain ⟨v_3, σ_4, h_5, hr⟩ := cbd hr
        refine x_callI (x_runV M K hB hl.1 [.int ((σ 150 8) - 1), .int 0] (rest := []) rfl (c_X4_record l Γ ((σ 150 8) - 1) 0  σ (v_3, σ_4) h_5) cy_X4_record (x_recv K hB isK_0.2 (ent_4 isK_0.1) rfl) wd_111 ⟨rfl, rfl, Nat.le_of_ble_eq_true rfl, Nat.le_of_ble_eq_true rfl⟩ (Nat.le_of_ble_eq_true rfl) ⟨Nat.zero_le _, Nat.zero_le _⟩ dL_isTold_242) hB (fun H locs hB => ?_)
        replace hB : Bd Γ σ_4 s H locs := hB
        refine lv_aload_n M.1 M.2.1 dL_isTold_245 rfl (lv_at hl 2 rfl) ?_
        refine lv_bipush (v := 9) M.1 M.2.1 dL_isTold_246 (by decide) ?_
        refine x_ialdL M K hB isA_150 (k := 9) (by decide) (by decide) dL_isTold_248 ?_
        refine lv_icmp_ne (tgt := 308) M.1 M.2.1 dL_isTold_249 (by decide) (fun c_6 => ?_) (fun c_6 => ?_)
        · rw [if_neg c_6] at hr
          exact w_L_isTold_308 M K a3   _ _ _ _  hB (lv_sub hl [] rfl) hr
        · rw [if_pos c_6] at hr
          refine lv_aload_n M.1 M.2.1 dL_isTold_252 rfl (lv_at hl 1 rfl) ?_
          refine lv_iload M.1 M.2.1 dL_isTold_253 (lv_at hl 0 rfl) ?_
          refine lv_iconst (v := 1) M.1 M.2.1 dL_isTold_255 (by decide) ?_
          obtain ⟨v_7, σ_8, h_9, hr⟩ := cbd hr
          refine x_callI (x_runV M K hB hl.1 [.int ((σ 150 8) - 1), .int 1] (rest := []) rfl (c_X4_record l Γ ((σ 150 8) - 1) 1  σ_4 (v_7, σ_8) h_9) cy_X4_record (x_recv K hB isK_0.2 (ent_4 isK_0.1) rfl) wd_111 ⟨rfl, rfl, Nat.le_of_ble_eq_true rfl, Nat.le_of_ble_eq_true rfl⟩ (Nat.le_of_ble_eq_true rfl) ⟨Nat.zero_le _, Nat.zero_le _⟩ dL_isTold_256) hB (fun H locs hB => ?_)
          replace hB : Bd Γ σ_8 s H locs := hB
          refine lv_aload_n M.1 M.2.1 dL_isTold_259 rfl (lv_at hl 2 rfl) ?_
          refine lv_bipush (v := 10) M.1 M.2.1 dL_isTold_260 (by decide) ?_
          refine x_ialdL M K hB isA_150 (k := 10) (by decide) (by decide) dL_isTold_262 ?_
          refine lv_icmp_ne (tgt := 308) M.1 M.2.1 dL_isTold_263 (by decide) (fun c_10 => ?_) (fun c_10 => ?_)
          · rw [if_neg c_10] at hr
            exact w_L_isTold_308 M K a3   _ _ _ _  hB (lv_sub hl [] rfl) hr
          · rw [if_pos c_10] at hr
            refine lv_aload_n M.1 M.2.1 dL_isTold_266 rfl (lv_at hl 1 rfl) ?_
            refine lv_iload M.1 M.2.1 dL_isTold_267 (lv_at hl 0 rfl) ?_
            refine lv_iconst (v := 2) M.1 M.2.1 dL_isTold_269 (by decide) ?_
            obtain ⟨v_11, σ_12, h_13, hr⟩ := cbd hr
            refine x_callI (x_runV M K hB hl.1 [.int ((σ 150 8) - 1), .int 2] (rest := []) rfl (c_X4_record l Γ ((σ 150 8) - 1) 2  σ_8 (v_11, σ_12) h_13) cy_X4_record (x_recv K hB isK_0.2 (ent_4 isK_0.1) rfl) wd_111 ⟨rfl, rfl, Nat.le_of_ble_eq_true rfl, Nat.le_of_ble_eq_true rfl⟩ (Nat.le_of_ble_eq_true rfl) ⟨Nat.zero_le _, Nat.zero_le _⟩ dL_isTold_270) hB (fun H locs hB => ?_)
            replace hB : Bd Γ σ_12 s H locs := hB
            refine lv_aload_n M.1 M.2.1 dL_isTold_273 rfl (lv_at hl 2 rfl) ?_
            refine lv_bipush (v := 11) M.1 M.2.1 dL_isTold_274 (by decide) ?_
            refine x_ialdL M K hB isA_150 (k := 11) (by decide) (by decide) dL_isTold_276 ?_
            refine lv_icmp_ne (tgt := 308) M.1 M.2.1 dL_isTold_277 (by decide) (fun c_14 => ?_) (fun c_14 => ?_)
            · rw [if_neg c_14] at hr
              exact w_L_isTold_308 M K a3   _ _ _ _  hB (lv_sub hl [] rfl) hr
            · rw [if_pos c_14] at hr
              refine lv_aload_n M.1 M.2.1 dL_isTold_280 rfl (lv_at hl 1 rfl) ?_
              refine lv_iload M.1 M.2.1 dL_isTold_281 (lv_at hl 0 rfl) ?_
              refine lv_iconst (v := 3) M.1 M.2.1 dL_isTold_283 (by decide) ?_
              obtain ⟨v_15, σ_16, h_17, hr⟩ := cbd hr
              refine x_callI (x_runV M K hB hl.1 [.int ((σ 150 8) - 1), .int 3] (rest := []) rfl (c_X4_record l Γ ((σ 150 8) - 1) 3  σ_12 (v_15, σ_16) h_17) cy_X4_record (x_recv K hB isK_0.2 (ent_4 isK_0.1) rfl) wd_111 ⟨rfl, rfl, Nat.le_of_ble_eq_true rfl, Nat.le_of_ble_eq_true rfl⟩ (Nat.le_of_ble_eq_true rfl) ⟨Nat.zero_le _, Nat.zero_le _⟩ dL_isTold_284) hB (fun H locs hB => ?_)
              replace hB : Bd Γ σ_16 s H locs := hB
              refine lv_aload_n M.1 M.2.1 dL_isTold_287 rfl (lv_at hl 2 rfl) ?_
              refine lv_bipush (v := 12) M.1 M.2.1 dL_isTold_288 (by decide) ?_
              refine x_ialdL M K hB isA_150 (k := 12) (by decide) (by decide) dL_isTold_290 ?_
              refine lv_icmp_ne (tgt := 308) M.1 M.2.1 dL_isTold_291 (by decide) (fun c_18 => ?_) (fun c_18 => ?_)
              · rw [if_neg c_18] at hr
                exact w_L_isTold_308 M K a3   _ _ _ _  hB (lv_sub hl [] rfl) hr
              · rw [if_pos c_18] at hr
                refine lv_aload_n M.1 M.2.1 dL_isTold_294 rfl (lv_at hl 1 rfl) ?_
                refine lv_iload M.1 M.2.1 dL_isTold_295 (lv_at hl 0 rfl) ?_
                refine lv_iconst (v := 4) M.1 M.2.1 dL_isTold_297 (by decide) ?_
                obtain ⟨v_19, σ_20, h_21, hr⟩ := cbd hr
                refine x_callI (x_runV M K hB hl.1 [.int ((σ 150 8) - 1), .int 4] (rest := []) rfl (c_X4_record l Γ ((σ 150 8) - 1) 4  σ_16 (v_19, σ_20) h_21) cy_X4_record (x_recv K hB isK_0.2 (ent_4 isK_0.1) rfl) wd_111 ⟨rfl, rfl, Nat.le_of_ble_eq_true rfl, Nat.le_of_ble_eq_true rfl⟩ (Nat.le_of_ble_eq_true rfl) ⟨Nat.zero_le _, Nat.zero_le _⟩ dL_isTold_298) hB (fun H locs hB => ?_)
                replace hB : Bd Γ σ_20 s H locs := hB
                refine lv_aload_n M.1 M.2.1 dL_isTold_301 rfl (lv_at hl 2 rfl) ?_
                refine lv_bipush (v := 13) M.1 M.2.1 dL_isTold_302 (by decide) ?_
                refine x_ialdL M K hB isA_150 (k := 13) (by decide) (by decide) dL_isTold_304 ?_
                refine lv_icmp_eq (tgt := 310) M.1 M.2.1 dL_isTold_305 (by decide) (fun c_22 => ?_) (fun c_22 => ?_)
                · rw [if_pos c_22] at hr
                  exact w_L_isTold_310 M K a3  x4 _ _ _ _  hB (lv_sub hl [1, 2, 5] rfl) hr
                · rw [if_neg c_22] at hr
                  exact w_L_isTold_308 M K a3   _ _ _ _  hB (lv_sub hl [] rfl) hr
    · rw [if_neg c_1] at hr
      refine lv_bipush (v := 10) M.1 M.2.1 dL_isTold_12 (by decide) ?_
      refine lv_iload M.1 M.2.1 dL_isTold_14 (lv_at hl 5 rfl) ?_
      refine lv_imul M.1 M.2.1 dL_isTold_16 ?_
      refine lv_istore (lv' := [(6, .int (10 * x5)), (0, .ref (Γ.1 0)), (1, .ref (Γ.1 150)), (2, .ref (Γ.1 151)), (3, .int x3), (4, .int x4), (5, .int x5)]) M.1 M.2.1 dL_isTold_17 hl (by decide) rfl (fun ls hl => ?_)
      refine lv_iload M.1 M.2.1 dL_isTold_19 (lv_at hl 5 rfl) ?_
      refine lv_aload_n M.1 M.2.1 dL_isTold_21 rfl (lv_at hl 3 rfl) ?_
      refine lv_iload M.1 M.2.1 dL_isTold_22 (lv_at hl 0 rfl) ?_
      refine lv_bipush (v := 7) M.1 M.2.1 dL_isTold_24 (by decide) ?_
      refine lv_iadd M.1 M.2.1 dL_isTold_26 ?_
      obtain ⟨g_23, hr⟩ := gd hr
      refine x_iald M K hB isA_151 g_23 dL_isTold_27 ?_
      refine lv_iload M.1 M.2.1 dL_isTold_28 (lv_at hl 6 rfl) ?_
      refine lv_ishl M.1 M.2.1 dL_isTold_30 ?_
      refine lv_ior M.1 M.2.1 dL_isTold_31 ?_
      refine lv_istore (lv' := [(4, .int (x4 ||| ((σ 151 (((10 * x5) + 7).toNatClampNeg)) <<< (x5 &&& 31)))), (6, .int (10 * x5)), (0, .ref (Γ.1 0)), (1, .ref (Γ.1 150)), (2, .ref (Γ.1 151)), (3, .int x3), (5, .int x5)]) M.1 M.2.1 dL_isTold_32 hl (by decide) rfl (fun ls hl => ?_)
      refine lv_aload_n M.1 M.2.1 dL_isTold_34 rfl (lv_at hl 2 rfl) ?_
      refine lv_iload M.1 M.2.1 dL_isTold_35 (lv_at hl 6 rfl) ?_
      refine lv_bipush (v := 8) M.1 M.2.1 dL_isTold_37 (by decide) ?_
      obtain ⟨v_24, σ_25, h_26, hr⟩ := cbd hr
      refine x_callI (x_runV M K hB hl.1 [.int x5, .int 8] (rest := []) rfl (c_X4_task l Γ x5 8  σ (v_24, σ_25) h_26) cy_X4_task (x_recv K hB isK_0.2 (ent_4 isK_0.1) rfl) wd_105 ⟨rfl, rfl, Nat.le_of_ble_eq_true rfl, Nat.le_of_ble_eq_true rfl⟩ (Nat.le_of_ble_eq_true rfl) ⟨Nat.zero_le _, Nat.zero_le _⟩ dL_isTold_39) hB (fun H locs hB => ?_)
      replace hB : Bd Γ σ_25 s H locs := hB
      refine lv_aload_n M.1 M.2.1 dL_isTold_42 rfl (lv_at hl 4 rfl) ?_
      refine lv_iload M.1 M.2.1 dL_isTold_43 (lv_at hl 1 rfl) ?_
      refine lv_iconst (v := 0) M.1 M.2.1 dL_isTold_45 (by decide) ?_
      refine lv_iadd M.1 M.2.1 dL_isTold_46 ?_
      obtain ⟨g_27, hr⟩ := gd hr
      refine x_iald M K hB isA_151 g_27 dL_isTold_47 ?_
      refine lv_icmp_ne (tgt := 217) M.1 M.2.1 dL_isTold_48 (by decide) (fun c_28 => ?_) (fun c_28 => ?_)
      · rw [if_neg c_28] at hr
        exact w_L_isTold_217 M K a3   _ _ _ _  hB (lv_sub hl [] rfl) hr
      · rw [if_pos c_28] at hr
        refine lv_aload_n M.1 M.2.1 dL_isTold_51 rfl (lv_at hl 2 rfl) ?_
        refine lv_iload M.1 M.2.1 dL_isTold_52 (lv_at hl 6 rfl) ?_
        refine lv_bipush (v := 9) M.1 M.2.1 dL_isTold_54 (by decide) ?_
        obtain ⟨v_29, σ_30, h_31, hr⟩ := cbd hr
        refine x_callI (x_runV M K hB hl.1 [.int x5, .int 9] (rest := []) rfl (c_X4_task l Γ x5 9  σ_25 (v_29, σ_30) h_31) cy_X4_task (x_recv K hB isK_0.2 (ent_4 isK_0.1) rfl) wd_105 ⟨rfl, rfl, Nat.le_of_ble_eq_true rfl, Nat.le_of_ble_eq_true rfl⟩ (Nat.le_of_ble_eq_true rfl) ⟨Nat.zero_le _, Nat.zero_le _⟩ dL_isTold_56) hB (fun H locs hB => ?_)
        replace hB : Bd Γ σ_30 s H locs := hB
        refine lv_aload_n M.1 M.2.1 dL_isTold_59 rfl (lv_at hl 4 rfl) ?_
        refine lv_iload M.1 M.2.1 dL_isTold_60 (lv_at hl 1 rfl) ?_
        refine lv_iconst (v := 3) M.1 M.2.1 dL_isTold_62 (by decide) ?_
        refine lv_iadd M.1 M.2.1 dL_isTold_63 ?_
        obtain ⟨g_32, hr⟩ := gd hr
        refine x_iald M K hB isA_151 g_32 dL_isTold_64 ?_
        refine lv_iconst (v := 1) M.1 M.2.1 dL_isTold_65 (by decide) ?_
        refine lv_aload_n M.1 M.2.1 dL_isTold_66 rfl (lv_at hl 4 rfl) ?_
        refine lv_iload M.1 M.2.1 dL_isTold_67 (lv_at hl 1 rfl) ?_
        refine lv_iconst (v := 1) M.1 M.2.1 dL_isTold_69 (by decide) ?_
        refine lv_iadd M.1 M.2.1 dL_isTold_70 ?_
        obtain ⟨g_33, hr⟩ := gd hr
        refine x_iald M K hB isA_151 g_33 dL_isTold_71 ?_
        refine lv_isub M.1 M.2.1 dL_isTold_72 ?_
        refine lv_imul M.1 M.2.1 dL_isTold_73 ?_
        refine lv_icmp_ne (tgt := 217) M.1 M.2.1 dL_isTold_74 (by decide) (fun c_34 => ?_) (fun c_34 => ?_)
        · rw [if_neg c_34] at hr
          exact w_L_isTold_217 M K a3   _ _ _ _  hB (lv_sub hl [] rfl) hr
        · rw [if_pos c_34] at hr
          refine lv_aload_n M.1 M.2.1 dL_isTold_77 rfl (lv_at hl 2 rfl) ?_
          refine lv_iload M.1 M.2.1 dL_isTold_78 (lv_at hl 6 rfl) ?_
          refine lv_bipush (v := 10) M.1 M.2.1 dL_isTold_80 (by decide) ?_
          obtain ⟨v_35, σ_36, h_37, hr⟩ := cbd hr
          refine x_callI (x_runV M K hB hl.1 [.int x5, .int 10] (rest := []) rfl (c_X4_task l Γ x5 10  σ_30 (v_35, σ_36) h_37) cy_X4_task (x_recv K hB isK_0.2 (ent_4 isK_0.1) rfl) wd_105 ⟨rfl, rfl, Nat.le_of_ble_eq_true rfl, Nat.le_of_ble_eq_true rfl⟩ (Nat.le_of_ble_eq_true rfl) ⟨Nat.zero_le _, Nat.zero_le _⟩ dL_isTold_82) hB (fun H locs hB => ?_)
          replace hB : Bd Γ σ_36 s H locs := hB
          refine lv_aload_n M.1 M.2.1 dL_isTold_85 rfl (lv_at hl 4 rfl) ?_
          refine lv_iload M.1 M.2.1 dL_isTold_86 (lv_at hl 1 rfl) ?_
          refine lv_iconst (v := 4) M.1 M.2.1 dL_isTold_88 (by decide) ?_
          refine lv_iadd M.1 M.2.1 dL_isTold_89 ?_
          obtain ⟨g_38, hr⟩ := gd hr
          refine x_iald M K hB isA_151 g_38 dL_isTold_90 ?_
          refine lv_icmp_ne (tgt := 217) M.1 M.2.1 dL_isTold_91 (by decide) (fun c_39 => ?_) (fun c_39 => ?_)
          · rw [if_neg c_39] at hr
            exact w_L_isTold_217 M K a3   _ _ _ _  hB (lv_sub hl [] rfl) hr
          · rw [if_pos c_39] at hr
            refine lv_aload_n M.1 M.2.1 dL_isTold_94 rfl (lv_at hl 2 rfl) ?_
            refine lv_iload M.1 M.2.1 dL_isTold_95 (lv_at hl 6 rfl) ?_
            refine lv_bipush (v := 11) M.1 M.2.1 dL_isTold_97 (by decide) ?_
            obtain ⟨v_40, σ_41, h_42, hr⟩ := cbd hr
            refine x_callI (x_runV M K hB hl.1 [.int x5, .int 11] (rest := []) rfl (c_X4_task l Γ x5 11  σ_36 (v_40, σ_41) h_42) cy_X4_task (x_recv K hB isK_0.2 (ent_4 isK_0.1) rfl) wd_105 ⟨rfl, rfl, Nat.le_of_ble_eq_true rfl, Nat.le_of_ble_eq_true rfl⟩ (Nat.le_of_ble_eq_true rfl) ⟨Nat.zero_le _, Nat.zero_le _⟩ dL_isTold_99) hB (fun H locs hB => ?_)
            replace hB : Bd Γ σ_41 s H locs := hB
            refine lv_aload_n M.1 M.2.1 dL_isTold_102 rfl (lv_at hl 4 rfl) ?_
            refine lv_iload M.1 M.2.1 dL_isTold_103 (lv_at hl 1 rfl) ?_
            refine lv_iconst (v := 5) M.1 M.2.1 dL_isTold_105 (by decide) ?_
            refine lv_iadd M.1 M.2.1 dL_isTold_106 ?_
            obtain ⟨g_43, hr⟩ := gd hr
            refine x_iald M K hB isA_151 g_43 dL_isTold_107 ?_
            refine lv_icmp_ne (tgt := 217) M.1 M.2.1 dL_isTold_108 (by decide) (fun c_44 => ?_) (fun c_44 => ?_)
            · rw [if_neg c_44] at hr
              exact w_L_isTold_217 M K a3   _ _ _ _  hB (lv_sub hl [] rfl) hr
            · rw [if_pos c_44] at hr
              refine lv_aload_n M.1 M.2.1 dL_isTold_111 rfl (lv_at hl 2 rfl) ?_
              refine lv_iload M.1 M.2.1 dL_isTold_112 (lv_at hl 6 rfl) ?_
              refine lv_bipush (v := 12) M.1 M.2.1 dL_isTold_114 (by decide) ?_
              obtain ⟨v_45, σ_46, h_47, hr⟩ := cbd hr
              refine x_callI (x_runV M K hB hl.1 [.int x5, .int 12] (rest := []) rfl (c_X4_task l Γ x5 12  σ_41 (v_45, σ_46) h_47) cy_X4_task (x_recv K hB isK_0.2 (ent_4 isK_0.1) rfl) wd_105 ⟨rfl, rfl, Nat.le_of_ble_eq_true rfl, Nat.le_of_ble_eq_true rfl⟩ (Nat.le_of_ble_eq_true rfl) ⟨Nat.zero_le _, Nat.zero_le _⟩ dL_isTold_116) hB (fun H locs hB => ?_)
              replace hB : Bd Γ σ_46 s H locs := hB
              refine lv_aload_n M.1 M.2.1 dL_isTold_119 rfl (lv_at hl 4 rfl) ?_
              refine lv_iload M.1 M.2.1 dL_isTold_120 (lv_at hl 1 rfl) ?_
              refine lv_bipush (v := 6) M.1 M.2.1 dL_isTold_122 (by decide) ?_
              refine lv_iadd M.1 M.2.1 dL_isTold_124 ?_
              obtain ⟨g_48, hr⟩ := gd hr
              refine x_iald M K hB isA_151 g_48 dL_isTold_125 ?_
              refine lv_icmp_ne (tgt := 217) M.1 M.2.1 dL_isTold_126 (by decide) (fun c_49 => ?_) (fun c_49 => ?_)
              · rw [if_neg c_49] at hr
                exact w_L_isTold_217 M K a3   _ _ _ _  hB (lv_sub hl [] rfl) hr
              · rw [if_pos c_49] at hr
                refine lv_aload_n M.1 M.2.1 dL_isTold_129 rfl (lv_at hl 2 rfl) ?_
                refine lv_iload M.1 M.2.1 dL_isTold_130 (lv_at hl 6 rfl) ?_
                refine lv_bipush (v := 13) M.1 M.2.1 dL_isTold_132 (by decide) ?_
                obtain ⟨v_50, σ_51, h_52, hr⟩ := cbd hr
                refine x_callI (x_runV M K hB hl.1 [.int x5, .int 13] (rest := []) rfl (c_X4_task l Γ x5 13  σ_46 (v_50, σ_51) h_52) cy_X4_task (x_recv K hB isK_0.2 (ent_4 isK_0.1) rfl) wd_105 ⟨rfl, rfl, Nat.le_of_ble_eq_true rfl, Nat.le_of_ble_eq_true rfl⟩ (Nat.le_of_ble_eq_true rfl) ⟨Nat.zero_le _, Nat.zero_le _⟩ dL_isTold_134) hB (fun H locs hB => ?_)
                replace hB : Bd Γ σ_51 s H locs := hB
                refine lv_aload_n M.1 M.2.1 dL_isTold_137 rfl (lv_at hl 4 rfl) ?_
                refine lv_iload M.1 M.2.1 dL_isTold_138 (lv_at hl 1 rfl) ?_
                refine lv_bipush (v := 7) M.1 M.2.1 dL_isTold_140 (by decide) ?_
                refine lv_iadd M.1 M.2.1 dL_isTold_142 ?_
                obtain ⟨g_53, hr⟩ := gd hr
                refine x_iald M K hB isA_151 g_53 dL_isTold_143 ?_
                refine lv_icmp_ne (tgt := 217) M.1 M.2.1 dL_isTold_144 (by decide) (fun c_54 => ?_) (fun c_54 => ?_)
                · rw [if_neg c_54] at hr
                  exact w_L_isTold_217 M K a3   _ _ _ _  hB (lv_sub hl [] rfl) hr
                · rw [if_pos c_54] at hr
                  refine lv_aload_n M.1 M.2.1 dL_isTold_147 rfl (lv_at hl 2 rfl) ?_
                  refine lv_iload M.1 M.2.1 dL_isTold_148 (lv_at hl 6 rfl) ?_
                  refine lv_bipush (v := 16) M.1 M.2.1 dL_isTold_150 (by decide) ?_
                  obtain ⟨v_55, σ_56, h_57, hr⟩ := cbd hr
                  refine x_callI (x_runV M K hB hl.1 [.int x5, .int 16] (rest := []) rfl (c_X4_task l Γ x5 16  σ_51 (v_55, σ_56) h_57) cy_X4_task (x_recv K hB isK_0.2 (ent_4 isK_0.1) rfl) wd_105 ⟨rfl, rfl, Nat.le_of_ble_eq_true rfl, Nat.le_of_ble_eq_true rfl⟩ (Nat.le_of_ble_eq_true rfl) ⟨Nat.zero_le _, Nat.zero_le _⟩ dL_isTold_152) hB (fun H locs hB => ?_)
                  replace hB : Bd Γ σ_56 s H locs := hB
                  refine lv_aload_n M.1 M.2.1 dL_isTold_155 rfl (lv_at hl 4 rfl) ?_
                  refine lv_iload M.1 M.2.1 dL_isTold_156 (lv_at hl 1 rfl) ?_
                  refine lv_bipush (v := 8) M.1 M.2.1 dL_isTold_158 (by decide) ?_
                  refine lv_iadd M.1 M.2.1 dL_isTold_160 ?_
                  obtain ⟨g_58, hr⟩ := gd hr
                  refine x_iald M K hB isA_151 g_58 dL_isTold_161 ?_
                  refine lv_icmp_ne (tgt := 217) M.1 M.2.1 dL_isTold_162 (by decide) (fun c_59 => ?_) (fun c_59 => ?_)
                  · rw [if_neg c_59] at hr
                    exact w_L_isTold_217 M K a3   _ _ _ _  hB (lv_sub hl [] rfl) hr
                  · rw [if_pos c_59] at hr
                    refine lv_aload_n M.1 M.2.1 dL_isTold_165 rfl (lv_at hl 2 rfl) ?_
                    refine lv_iload M.1 M.2.1 dL_isTold_166 (lv_at hl 6 rfl) ?_
                    refine lv_bipush (v := 18) M.1 M.2.1 dL_isTold_168 (by decide) ?_
                    obtain ⟨v_60, σ_61, h_62, hr⟩ := cbd hr
                    refine x_callI (x_runV M K hB hl.1 [.int x5, .int 18] (rest := []) rfl (c_X4_task l Γ x5 18  σ_56 (v_60, σ_61) h_62) cy_X4_task (x_recv K hB isK_0.2 (ent_4 isK_0.1) rfl) wd_105 ⟨rfl, rfl, Nat.le_of_ble_eq_true rfl, Nat.le_of_ble_eq_true rfl⟩ (Nat.le_of_ble_eq_true rfl) ⟨Nat.zero_le _, Nat.zero_le _⟩ dL_isTold_170) hB (fun H locs hB => ?_)
                    replace hB : Bd Γ σ_61 s H locs := hB
                    refine lv_aload_n M.1 M.2.1 dL_isTold_173 rfl (lv_at hl 4 rfl) ?_
                    refine lv_iload M.1 M.2.1 dL_isTold_174 (lv_at hl 1 rfl) ?_
                    refine lv_bipush (v := 9) M.1 M.2.1 dL_isTold_176 (by decide) ?_
                    refine lv_iadd M.1 M.2.1 dL_isTold_178 ?_
                    obtain ⟨g_63, hr⟩ := gd hr
                    refine x_iald M K hB isA_151 g_63 dL_isTold_179 ?_
                    refine lv_icmp_ne (tgt := 217) M.1 M.2.1 dL_isTold_180 (by decide) (fun c_64 => ?_) (fun c_64 => ?_)
                    · rw [if_neg c_64] at hr
                      exact w_L_isTold_217 M K a3   _ _ _ _  hB (lv_sub hl [] rfl) hr
                    · rw [if_pos c_64] at hr
                      refine lv_aload_n M.1 M.2.1 dL_isTold_183 rfl (lv_at hl 2 rfl) ?_
                      refine lv_iload M.1 M.2.1 dL_isTold_184 (lv_at hl 6 rfl) ?_
                      refine lv_bipush (v := 17) M.1 M.2.1 dL_isTold_186 (by decide) ?_
                      obtain ⟨v_65, σ_66, h_67, hr⟩ := cbd hr
                      refine x_callI (x_runV M K hB hl.1 [.int x5, .int 17] (rest := []) rfl (c_X4_task l Γ x5 17  σ_61 (v_65, σ_66) h_67) cy_X4_task (x_recv K hB isK_0.2 (ent_4 isK_0.1) rfl) wd_105 ⟨rfl, rfl, Nat.le_of_ble_eq_true rfl, Nat.le_of_ble_eq_true rfl⟩ (Nat.le_of_ble_eq_true rfl) ⟨Nat.zero_le _, Nat.zero_le _⟩ dL_isTold_188) hB (fun H locs hB => ?_)
                      replace hB : Bd Γ σ_66 s H locs := hB
                      refine lv_if_ge (tgt := 198) M.1 M.2.1 dL_isTold_191 (by decide) (fun c_68 => ?_) (fun c_68 => ?_)
                      · rw [if_pos c_68] at hr
                        refine lv_iconst (v := 0) M.1 M.2.1 dL_isTold_198 (by decide) ?_
                        exact w_L_isTold_199 M K a3 _ ih_6 x3 (x4 ||| ((σ 151 (((10 * x5) + 7).toNatClampNeg)) <<< (x5 &&& 31))) x5 (10 * x5) 0 _ _ _ _  hB (lv_sub hl [2, 3, 4, 5, 0, 6, 1] rfl) hr
                      · rw [if_neg c_68] at hr
                        refine lv_iconst (v := 1) M.1 M.2.1 dL_isTold_194 (by decide) ?_
                        refine lv_goto (tgt := 199) M.1 M.2.1 dL_isTold_195 (by decide) ?_
                        exact w_L_isTold_199 M K a3 _ ih_6 x3 (x4 ||| ((σ 151 (((10 * x5) + 7).toNatClampNeg)) <<< (x5 &&& 31))) x5 (10 * x5) 1 _ _ _ _  hB (lv_sub hl [2, 3, 4, 5, 0, 6, 1] rfl) hr
def f_L_isTold_0 (a3 : Int32)   (σ : Sg) : Option (Int32 × Sg) :=
f_L_isTold_6 a3  FU a3 0 0 σ
set_option maxHeartbeats 4000000 in
set_option maxRecDepth 100000 in
theorem w_L_isTold_0 {p : Program} {l : Launch} {e : Env} {s : State} {m : MethodId} {args : Array Value} {below : List Frame} {meth : Method} {c : Code} {Γ : GG} {res : Int32 × Sg} (M : MX RL cL_isTold 7 (some .boolean) p s m args meth c) (K : KK Γ s s.heap) (a3 : Int32)  (σ : Sg) (H : Heap) (locs : List Loc) (ls : Array Slot)  (hB : Bd Γ σ s H locs) (hl : lv_has ls 7 [(0, .ref (Γ.1 0)), (1, .ref (Γ.1 150)), (2, .ref (Γ.1 151)), (3, .int a3)]) (hr : f_L_isTold_0 a3   σ = some res) : WI Γ rm_L_isTold p l e s m args below meth c H locs res (F0 m 0 ls []) := by
  unfold f_L_isTold_0 at hr
  refine lv_iconst (v := 0) M.1 M.2.1 dL_isTold_0 (by decide) ?_
  refine lv_istore (lv' := [(4, .int 0), (0, .ref (Γ.1 0)), (1, .ref (Γ.1 150)), (2, .ref (Γ.1 151)), (3, .int a3)]) M.1 M.2.1 dL_isTold_1 hl (by decide) rfl (fun ls hl => ?_)
  refine lv_iconst (v := 0) M.1 M.2.1 dL_isTold_3 (by decide) ?_
  refine lv_istore (lv' := [(5, .int 0), (4, .int 0), (0, .ref (Γ.1 0)), (1, .ref (Γ.1 150)), (2, .ref (Γ.1 151)), (3, .int a3)]) M.1 M.2.1 dL_isTold_4 hl (by decide) rfl (fun ls hl => ?_)
  exact w_L_isTold_6 M K a3  FU a3 0 0 _ _ _ _  hB (lv_sub hl [2, 3, 4, 5, 1, 0] rfl) hr
theorem c_L_isTold (l : Launch) (Γ : GG) (a3 : Int32)  (σ : Sg) (res : Int32 × Sg) (hr : f_L_isTold_0 a3 σ = some res) : Met l yL_isTold (Cond.code yL_isTold cL_isTold 7 (some .boolean) :: gtb) rm_L_isTold (va_Pc [.ref (Γ.1 0), .ref (Γ.1 150), .ref (Γ.1 151), .int a3] (GI Γ σ)) (QI Γ res) 0 0 (AD Γ) :=
  x_metI (by decide) [.ref (Γ.1 0), .ref (Γ.1 150), .ref (Γ.1 151), .int a3] (Nat.le_of_ble_eq_true rfl) (fun p e s m args below meth c M K ls hl hB => w_L_isTold_0 M K a3 σ _ _ ls hB hl hr)
