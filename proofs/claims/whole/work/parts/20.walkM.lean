abbrev rm_X5_kick : Room := { frames := 4, cells := 0, slots := 0, locals := 88 }
def f_X5_kick_50   (x1 : Int32) (σ : Sg) : Option (Int32 × Sg) :=
some (x1, σ)
set_option maxHeartbeats 4000000 in
set_option maxRecDepth 100000 in
theorem w_X5_kick_50 {p : Program} {l : Launch} {e : Env} {s : State} {m : MethodId} {args : Array Value} {below : List Frame} {meth : Method} {c : Code} {Γ : GG} {res : Int32 × Sg} (M : MX RX5 cX5_kick 2 (some .int) p s m args meth c) (K : KK Γ s s.heap)  (x1 : Int32) (σ : Sg) (H : Heap) (locs : List Loc) (ls : Array Slot)  (hB : Bd Γ σ s H locs) (hl : lv_has ls 2 [(1, .int x1)]) (hr : f_X5_kick_50   x1 σ = some res) : WI Γ rm_X5_kick p l e s m args below meth c H locs res (F0 m 50 ls []) := by
  unfold f_X5_kick_50 at hr
  refine lv_iload_n M.1 M.2.1 dX5_kick_50 rfl (lv_at hl 0 rfl) ?_
  exact x_iret M hB (Option.some.inj hr) dX5_kick_51
def f_X5_kick_0    (σ : Sg) : Option (Int32 × Sg) :=
if σ 151 9 = 1 then
if σ 151 0 ≤ σ 151 14 then
wb (st σ 151 14 0) fun σ_3 =>
f_X5_kick_50   (σ 151 14) σ_3
else
cb (f_X5_makeReset_0 1 (-6) σ) fun v_5 σ_6 =>
f_X5_kick_50   (σ 151 14) σ_6
else
some ((-5), σ)
set_option maxHeartbeats 4000000 in
set_option maxRecDepth 100000 in
theorem w_X5_kick_0 {p : Program} {l : Launch} {e : Env} {s : State} {m : MethodId} {args : Array Value} {below : List Frame} {meth : Method} {c : Code} {Γ : GG} {res : Int32 × Sg} (M : MX RX5 cX5_kick 2 (some .int) p s m args meth c) (K : KK Γ s s.heap)   (σ : Sg) (H : Heap) (locs : List Loc) (ls : Array Slot)  (hB : Bd Γ σ s H locs) (hl : lv_has ls 2 [(0, .ref (Γ.1 150))]) (hr : f_X5_kick_0    σ = some res) : WI Γ rm_X5_kick p l e s m args below meth c H locs res (F0 m 0 ls []) := by
  unfold f_X5_kick_0 at hr
  refine lv_aload_n M.1 M.2.1 dX5_kick_0 rfl (lv_at hl 0 rfl) ?_
  refine x_get5 M K hB isK_150 0 (by decide) wd_157 (v := .ref (Γ.1 151)) rfl dX5_kick_1 ?_
  refine lv_bipush (v := 9) M.1 M.2.1 dX5_kick_4 (by decide) ?_
  refine x_ialdL M K hB isA_151 (k := 9) (by decide) (by decide) dX5_kick_6 ?_
  refine lv_iconst (v := 1) M.1 M.2.1 dX5_kick_7 (by decide) ?_
  refine lv_icmp_eq (tgt := 14) M.1 M.2.1 dX5_kick_8 (by decide) (fun c_1 => ?_) (fun c_1 => ?_)
  · rw [if_pos c_1] at hr
    refine lv_aload_n M.1 M.2.1 dX5_kick_14 rfl (lv_at hl 0 rfl) ?_
    refine x_get5 M K hB isK_150 0 (by decide) wd_157 (v := .ref (Γ.1 151)) rfl dX5_kick_15 ?_
    refine lv_bipush (v := 14) M.1 M.2.1 dX5_kick_18 (by decide) ?_
    refine x_ialdL M K hB isA_151 (k := 14) (by decide) (by decide) dX5_kick_20 ?_
    refine lv_istore_n (lv' := [(1, .int (σ 151 14)), (0, .ref (Γ.1 150))]) M.1 M.2.1 dX5_kick_21 rfl hl (by decide) rfl (fun ls hl => ?_)
    refine lv_iload_n M.1 M.2.1 dX5_kick_22 rfl (lv_at hl 0 rfl) ?_
    refine lv_aload_n M.1 M.2.1 dX5_kick_23 rfl (lv_at hl 1 rfl) ?_
    refine x_get5 M K hB isK_150 0 (by decide) wd_157 (v := .ref (Γ.1 151)) rfl dX5_kick_24 ?_
    refine lv_iconst (v := 0) M.1 M.2.1 dX5_kick_27 (by decide) ?_
    refine x_ialdL M K hB isA_151 (k := 0) (by decide) (by decide) dX5_kick_28 ?_
    refine lv_icmp_ge (tgt := 42) M.1 M.2.1 dX5_kick_29 (by decide) (fun c_2 => ?_) (fun c_2 => ?_)
    · rw [if_pos c_2] at hr
      refine lv_aload_n M.1 M.2.1 dX5_kick_42 rfl (lv_at hl 1 rfl) ?_
      refine x_get5 M K hB isK_150 0 (by decide) wd_157 (v := .ref (Γ.1 151)) rfl dX5_kick_43 ?_
      refine lv_bipush (v := 14) M.1 M.2.1 dX5_kick_46 (by decide) ?_
      refine lv_iconst (v := 0) M.1 M.2.1 dX5_kick_48 (by decide) ?_
      obtain ⟨σ_3, e_4, hr⟩ := wbd hr
      refine x_iastL M K hB isA_151 (k := 14) (by decide) (by decide) dX5_kick_49 (fun H locs hB => ?_)
      rw [← e_4] at hB
      exact w_X5_kick_50 M K   (σ 151 14) _ _ _ _  hB (lv_sub hl [0] rfl) hr
    · rw [if_neg c_2] at hr
      refine lv_aload_n M.1 M.2.1 dX5_kick_32 rfl (lv_at hl 1 rfl) ?_
      refine lv_iconst (v := 1) M.1 M.2.1 dX5_kick_33 (by decide) ?_
      refine lv_bipush (v := (-6)) M.1 M.2.1 dX5_kick_34 (by decide) ?_
      obtain ⟨v_5, σ_6, h_7, hr⟩ := cbd hr
      refine x_callV (x_runV M K hB hl.1 [.int 1, .int (-6)] (rest := []) rfl (c_X5_makeReset l Γ 1 (-6)  σ (v_5, σ_6) h_7) cy_X5_makeReset (x_recv K hB isK_150.2 (ent_5 isK_150.1) rfl) wd_185 ⟨rfl, rfl, Nat.le_of_ble_eq_true rfl, Nat.le_of_ble_eq_true rfl⟩ (Nat.le_of_ble_eq_true rfl) ⟨Nat.zero_le _, Nat.zero_le _⟩ dX5_kick_36) hB (fun H locs hB => ?_)
      replace hB : Bd Γ σ_6 s H locs := hB
      refine lv_goto (tgt := 50) M.1 M.2.1 dX5_kick_39 (by decide) ?_
      exact w_X5_kick_50 M K   (σ 151 14) _ _ _ _  hB (lv_sub hl [0] rfl) hr
  · rw [if_neg c_1] at hr
    refine lv_bipush (v := (-5)) M.1 M.2.1 dX5_kick_11 (by decide) ?_
    exact x_iret M hB (Option.some.inj hr) dX5_kick_13
theorem c_X5_kick (l : Launch) (Γ : GG)   (σ : Sg) (res : Int32 × Sg) (hr : f_X5_kick_0  σ = some res) : Met l yX5_kick (Cond.code yX5_kick cX5_kick 2 (some .int) :: gtb) rm_X5_kick (va_Pc [.ref (Γ.1 150)] (GI Γ σ)) (QI Γ res) 0 0 (AD Γ) :=
  x_metI (by decide) [.ref (Γ.1 150)] (Nat.le_of_ble_eq_true rfl) (fun p e s m args below meth c M K ls hl hB => w_X5_kick_0 M K  σ _ _ ls hB hl hr)
abbrev rm_X5_reset : Room := { frames := 4, cells := 0, slots := 0, locals := 88 }
def f_X5_reset_0    (σ : Sg) : Option (Int32 × Sg) :=
if σ 151 9 = 1 then
cb (f_X5_makeReset_0 4 (-6) σ) fun v_2 σ_3 =>
some ((σ_3 151 18) - 1, σ_3)
else
some ((-5), σ)
set_option maxHeartbeats 4000000 in
set_option maxRecDepth 100000 in
theorem w_X5_reset_0 {p : Program} {l : Launch} {e : Env} {s : State} {m : MethodId} {args : Array Value} {below : List Frame} {meth : Method} {c : Code} {Γ : GG} {res : Int32 × Sg} (M : MX RX5 cX5_reset 1 (some .int) p s m args meth c) (K : KK Γ s s.heap)   (σ : Sg) (H : Heap) (locs : List Loc) (ls : Array Slot)  (hB : Bd Γ σ s H locs) (hl : lv_has ls 1 [(0, .ref (Γ.1 150))]) (hr : f_X5_reset_0    σ = some res) : WI Γ rm_X5_reset p l e s m args below meth c H locs res (F0 m 0 ls []) := by
  unfold f_X5_reset_0 at hr
  refine lv_aload_n M.1 M.2.1 dX5_reset_0 rfl (lv_at hl 0 rfl) ?_
  refine x_get5 M K hB isK_150 0 (by decide) wd_157 (v := .ref (Γ.1 151)) rfl dX5_reset_1 ?_
  refine lv_bipush (v := 9) M.1 M.2.1 dX5_reset_4 (by decide) ?_
  refine x_ialdL M K hB isA_151 (k := 9) (by decide) (by decide) dX5_reset_6 ?_
  refine lv_iconst (v := 1) M.1 M.2.1 dX5_reset_7 (by decide) ?_
  refine lv_icmp_eq (tgt := 14) M.1 M.2.1 dX5_reset_8 (by decide) (fun c_1 => ?_) (fun c_1 => ?_)
  · rw [if_pos c_1] at hr
    refine lv_aload_n M.1 M.2.1 dX5_reset_14 rfl (lv_at hl 0 rfl) ?_
    refine lv_iconst (v := 4) M.1 M.2.1 dX5_reset_15 (by decide) ?_
    refine lv_bipush (v := (-6)) M.1 M.2.1 dX5_reset_16 (by decide) ?_
    obtain ⟨v_2, σ_3, h_4, hr⟩ := cbd hr
    refine x_callV (x_runV M K hB hl.1 [.int 4, .int (-6)] (rest := []) rfl (c_X5_makeReset l Γ 4 (-6)  σ (v_2, σ_3) h_4) cy_X5_makeReset (x_recv K hB isK_150.2 (ent_5 isK_150.1) rfl) wd_185 ⟨rfl, rfl, Nat.le_of_ble_eq_true rfl, Nat.le_of_ble_eq_true rfl⟩ (Nat.le_of_ble_eq_true rfl) ⟨Nat.zero_le _, Nat.zero_le _⟩ dX5_reset_18) hB (fun H locs hB => ?_)
    replace hB : Bd Γ σ_3 s H locs := hB
    refine lv_aload_n M.1 M.2.1 dX5_reset_21 rfl (lv_at hl 0 rfl) ?_
    refine x_get5 M K hB isK_150 0 (by decide) wd_157 (v := .ref (Γ.1 151)) rfl dX5_reset_22 ?_
    refine lv_bipush (v := 18) M.1 M.2.1 dX5_reset_25 (by decide) ?_
    refine x_ialdL M K hB isA_151 (k := 18) (by decide) (by decide) dX5_reset_27 ?_
    refine lv_iconst (v := 1) M.1 M.2.1 dX5_reset_28 (by decide) ?_
    refine lv_isub M.1 M.2.1 dX5_reset_29 ?_
    exact x_iret M hB (Option.some.inj hr) dX5_reset_30
  · rw [if_neg c_1] at hr
    refine lv_bipush (v := (-5)) M.1 M.2.1 dX5_reset_11 (by decide) ?_
    exact x_iret M hB (Option.some.inj hr) dX5_reset_13
theorem c_X5_reset (l : Launch) (Γ : GG)   (σ : Sg) (res : Int32 × Sg) (hr : f_X5_reset_0  σ = some res) : Met l yX5_reset (Cond.code yX5_reset cX5_reset 1 (some .int) :: gtb) rm_X5_reset (va_Pc [.ref (Γ.1 150)] (GI Γ σ)) (QI Γ res) 0 0 (AD Γ) :=
  x_metI (by decide) [.ref (Γ.1 150)] (Nat.le_of_ble_eq_true rfl) (fun p e s m args below meth c M K ls hl hB => w_X5_reset_0 M K  σ _ _ ls hB hl hr)
abbrev rm_X5_switchOn : Room := { frames := 1, cells := 0, slots := 0, locals := 20 }
def f_X5_switchOn_0    (σ : Sg) : Option (Int32 × Sg) :=
cb (f_X5_boot_0  σ) fun v_1 σ_2 =>
wb (st σ_2 151 10 0) fun σ_4 =>
wb (st σ_4 151 11 0) fun σ_6 =>
some (0, σ_6)
set_option maxHeartbeats 4000000 in
set_option maxRecDepth 100000 in
theorem w_X5_switchOn_0 {p : Program} {l : Launch} {e : Env} {s : State} {m : MethodId} {args : Array Value} {below : List Frame} {meth : Method} {c : Code} {Γ : GG} {res : Int32 × Sg} (M : MX RX5 cX5_switchOn 1 none p s m args meth c) (K : KK Γ s s.heap)   (σ : Sg) (H : Heap) (locs : List Loc) (ls : Array Slot)  (hB : Bd Γ σ s H locs) (hl : lv_has ls 1 [(0, .ref (Γ.1 150))]) (hr : f_X5_switchOn_0    σ = some res) : WV Γ rm_X5_switchOn p l e s m args below meth c H locs res (F0 m 0 ls []) := by
  unfold f_X5_switchOn_0 at hr
  refine lv_aload_n M.1 M.2.1 dX5_switchOn_0 rfl (lv_at hl 0 rfl) ?_
  obtain ⟨v_1, σ_2, h_3, hr⟩ := cbd hr
  refine x_callV (x_runV M K hB hl.1 [] (rest := []) rfl (c_X5_boot l Γ   σ (v_1, σ_2) h_3) cy_X5_boot (x_recv K hB isK_150.2 (ent_5 isK_150.1) rfl) wd_181 ⟨rfl, rfl, Nat.le_of_ble_eq_true rfl, Nat.le_of_ble_eq_true rfl⟩ (Nat.le_of_ble_eq_true rfl) ⟨Nat.zero_le _, Nat.zero_le _⟩ dX5_switchOn_1) hB (fun H locs hB => ?_)
  replace hB : Bd Γ σ_2 s H locs := hB
  refine lv_aload_n M.1 M.2.1 dX5_switchOn_4 rfl (lv_at hl 0 rfl) ?_
  refine x_get5 M K hB isK_150 0 (by decide) wd_157 (v := .ref (Γ.1 151)) rfl dX5_switchOn_5 ?_
  refine lv_bipush (v := 10) M.1 M.2.1 dX5_switchOn_8 (by decide) ?_
  refine lv_iconst (v := 0) M.1 M.2.1 dX5_switchOn_10 (by decide) ?_
  obtain ⟨σ_4, e_5, hr⟩ := wbd hr
  refine x_iastL M K hB isA_151 (k := 10) (by decide) (by decide) dX5_switchOn_11 (fun H locs hB => ?_)
  rw [← e_5] at hB
  refine lv_aload_n M.1 M.2.1 dX5_switchOn_12 rfl (lv_at hl 0 rfl) ?_
  refine x_get5 M K hB isK_150 0 (by decide) wd_157 (v := .ref (Γ.1 151)) rfl dX5_switchOn_13 ?_
  refine lv_bipush (v := 11) M.1 M.2.1 dX5_switchOn_16 (by decide) ?_
  refine lv_iconst (v := 0) M.1 M.2.1 dX5_switchOn_18 (by decide) ?_
  obtain ⟨σ_6, e_7, hr⟩ := wbd hr
  refine x_iastL M K hB isA_151 (k := 11) (by decide) (by decide) dX5_switchOn_19 (fun H locs hB => ?_)
  rw [← e_7] at hB
  exact x_vret M hB (Option.some.inj hr) dX5_switchOn_20
theorem c_X5_switchOn (l : Launch) (Γ : GG)   (σ : Sg) (res : Int32 × Sg) (hr : f_X5_switchOn_0  σ = some res) : Met l yX5_switchOn (Cond.code yX5_switchOn cX5_switchOn 1 none :: gtb) rm_X5_switchOn (va_Pc [.ref (Γ.1 150)] (GI Γ σ)) (QV Γ res) 0 0 (AD Γ) :=
  x_metV (by decide) [.ref (Γ.1 150)] (Nat.le_of_ble_eq_true rfl) (fun p e s m args below meth c M K ls hl hB => w_X5_switchOn_0 M K  σ _ _ ls hB hl hr)
abbrev rm_X5_powerCycle : Room := { frames := 2, cells := 0, slots := 0, locals := 40 }
def f_X5_powerCycle_0    (σ : Sg) : Option (Int32 × Sg) :=
cb (f_X5_switchOn_0  σ) fun v_1 σ_2 =>
some (σ 151 9, σ_2)
set_option maxHeartbeats 4000000 in
set_option maxRecDepth 100000 in
theorem w_X5_powerCycle_0 {p : Program} {l : Launch} {e : Env} {s : State} {m : MethodId} {args : Array Value} {below : List Frame} {meth : Method} {c : Code} {Γ : GG} {res : Int32 × Sg} (M : MX RX5 cX5_powerCycle 2 (some .int) p s m args meth c) (K : KK Γ s s.heap)   (σ : Sg) (H : Heap) (locs : List Loc) (ls : Array Slot)  (hB : Bd Γ σ s H locs) (hl : lv_has ls 2 [(0, .ref (Γ.1 150))]) (hr : f_X5_powerCycle_0    σ = some res) : WI Γ rm_X5_powerCycle p l e s m args below meth c H locs res (F0 m 0 ls []) := by
  unfold f_X5_powerCycle_0 at hr
  refine lv_aload_n M.1 M.2.1 dX5_powerCycle_0 rfl (lv_at hl 0 rfl) ?_
  refine x_get5 M K hB isK_150 0 (by decide) wd_157 (v := .ref (Γ.1 151)) rfl dX5_powerCycle_1 ?_
  refine lv_bipush (v := 9) M.1 M.2.1 dX5_powerCycle_4 (by decide) ?_
  refine x_ialdL M K hB isA_151 (k := 9) (by decide) (by decide) dX5_powerCycle_6 ?_
  refine lv_istore_n (lv' := [(1, .int (σ 151 9)), (0, .ref (Γ.1 150))]) M.1 M.2.1 dX5_powerCycle_7 rfl hl (by decide) rfl (fun ls hl => ?_)
  refine lv_aload_n M.1 M.2.1 dX5_powerCycle_8 rfl (lv_at hl 1 rfl) ?_
  obtain ⟨v_1, σ_2, h_3, hr⟩ := cbd hr
  refine x_callV (x_runV M K hB hl.1 [] (rest := []) rfl (c_X5_switchOn l Γ   σ (v_1, σ_2) h_3) cy_X5_switchOn (x_recv K hB isK_150.2 (ent_5 isK_150.1) rfl) wd_191 ⟨rfl, rfl, Nat.le_of_ble_eq_true rfl, Nat.le_of_ble_eq_true rfl⟩ (Nat.le_of_ble_eq_true rfl) ⟨Nat.zero_le _, Nat.zero_le _⟩ dX5_powerCycle_9) hB (fun H locs hB => ?_)
  replace hB : Bd Γ σ_2 s H locs := hB
  refine lv_iload_n M.1 M.2.1 dX5_powerCycle_12 rfl (lv_at hl 0 rfl) ?_
  exact x_iret M hB (Option.some.inj hr) dX5_powerCycle_13
theorem c_X5_powerCycle (l : Launch) (Γ : GG)   (σ : Sg) (res : Int32 × Sg) (hr : f_X5_powerCycle_0  σ = some res) : Met l yX5_powerCycle (Cond.code yX5_powerCycle cX5_powerCycle 2 (some .int) :: gtb) rm_X5_powerCycle (va_Pc [.ref (Γ.1 150)] (GI Γ σ)) (QI Γ res) 0 0 (AD Γ) :=
  x_metI (by decide) [.ref (Γ.1 150)] (Nat.le_of_ble_eq_true rfl) (fun p e s m args below meth c M K ls hl hB => w_X5_powerCycle_0 M K  σ _ _ ls hB hl hr)
abbrev rm_X5_expiredSet : Room := { frames := 2, cells := 0, slots := 0, locals := 43 }
def f_X5_expiredSet_34  (rec_4 : Int32 → Int32 → Sg → Option (Int32 × Sg)) (x2 : Int32) (s0 : Int32) (s1 : Int32) (σ : Sg) : Option (Int32 × Sg) :=
rec_4 (s1 ||| s0) (x2 + 1) σ
set_option maxHeartbeats 4000000 in
set_option maxRecDepth 100000 in
theorem w_X5_expiredSet_34 {p : Program} {l : Launch} {e : Env} {s : State} {m : MethodId} {args : Array Value} {below : List Frame} {meth : Method} {c : Code} {Γ : GG} {res : Int32 × Sg} (M : MX RX5 cX5_expiredSet 3 (some .int) p s m args meth c) (K : KK Γ s s.heap)  (rec_4 : Int32 → Int32 → Sg → Option (Int32 × Sg)) (ih_4 : ∀ (x1 : Int32) (x2 : Int32) (σ : Sg) (H : Heap) (locs : List Loc) (ls : Array Slot) , Bd Γ σ s H locs → lv_has ls 3 [(0, .ref (Γ.1 150)), (1, .int x1), (2, .int x2)] → rec_4 x1 x2 σ = some res → WI Γ rm_X5_expiredSet p l e s m args below meth c H locs res (F0 m 4 ls [])) (x2 : Int32) (s0 : Int32) (s1 : Int32) (σ : Sg) (H : Heap) (locs : List Loc) (ls : Array Slot)  (hB : Bd Γ σ s H locs) (hl : lv_has ls 3 [(0, .ref (Γ.1 150)), (2, .int x2)]) (hr : f_X5_expiredSet_34  rec_4 x2 s0 s1 σ = some res) : WI Γ rm_X5_expiredSet p l e s m args below meth c H locs res (F0 m 34 ls [.int s0, .int s1]) := by
  unfold f_X5_expiredSet_34 at hr
  refine lv_ior M.1 M.2.1 dX5_expiredSet_34 ?_
  refine lv_istore_n (lv' := [(1, .int (s1 ||| s0)), (0, .ref (Γ.1 150)), (2, .int x2)]) M.1 M.2.1 dX5_expiredSet_35 rfl hl (by decide) rfl (fun ls hl => ?_)
  refine lv_iinc (v := x2 + 1) (lv' := [(2, .int (x2 + 1)), (1, .int (s1 ||| s0)), (0, .ref (Γ.1 150))]) M.1 M.2.1 dX5_expiredSet_36 hl (k := 2) rfl rfl (by decide) rfl (fun ls hl => ?_)
  refine lv_goto (tgt := 4) M.1 M.2.1 dX5_expiredSet_39 (by decide) ?_
  exact ih_4 (s1 ||| s0) (x2 + 1) _ _ _ _  hB (lv_sub hl [2, 1, 0] rfl) hr
def f_X5_expiredSet_4   : Nat → Int32 → Int32 → Sg → Option (Int32 × Sg)
  | 0, _, _, _ => none
  | f + 1, x1, x2, σ => if σ 151 17 ≤ x2 then
some (x1, σ)
else
cb (f_X5_of_0 x2 15 σ) fun v_2 σ_3 =>
if v_2 = 1 then
f_X5_expiredSet_34  (f_X5_expiredSet_4   f) x2 (1 <<< (x2 &&& 31)) x1 σ_3
else
f_X5_expiredSet_34  (f_X5_expiredSet_4   f) x2 0 x1 σ_3
set_option maxHeartbeats 4000000 in
set_option maxRecDepth 100000 in
theorem w_X5_expiredSet_4 {p : Program} {l : Launch} {e : Env} {s : State} {m : MethodId} {args : Array Value} {below : List Frame} {meth : Method} {c : Code} {Γ : GG} {res : Int32 × Sg} (M : MX RX5 cX5_expiredSet 3 (some .int) p s m args meth c) (K : KK Γ s s.heap)  : ∀ (f : Nat) (x1 : Int32) (x2 : Int32) (σ : Sg) (H : Heap) (locs : List Loc) (ls : Array Slot)  (hB : Bd Γ σ s H locs) (hl : lv_has ls 3 [(0, .ref (Γ.1 150)), (1, .int x1), (2, .int x2)]) (hr : f_X5_expiredSet_4   f x1 x2 σ = some res), WI Γ rm_X5_expiredSet p l e s m args below meth c H locs res (F0 m 4 ls []) := by
  intro f
  induction f with
  | zero => intros; rename_i hr; exact absurd hr (by rw [f_X5_expiredSet_4]; exact fun h => by cases h)
  | succ f ih_4 =>
    intro x1 x2 σ H locs ls  hB hl hr
    rw [f_X5_expiredSet_4] at hr
    refine lv_iload_n M.1 M.2.1 dX5_expiredSet_4 rfl (lv_at hl 2 rfl) ?_
    refine lv_aload_n M.1 M.2.1 dX5_expiredSet_5 rfl (lv_at hl 0 rfl) ?_
    refine x_get5 M K hB isK_150 0 (by decide) wd_157 (v := .ref (Γ.1 151)) rfl dX5_expiredSet_6 ?_
    refine lv_bipush (v := 17) M.1 M.2.1 dX5_expiredSet_9 (by decide) ?_
    refine x_ialdL M K hB isA_151 (k := 17) (by decide) (by decide) dX5_expiredSet_11 ?_
    refine lv_icmp_ge (tgt := 42) M.1 M.2.1 dX5_expiredSet_12 (by decide) (fun c_1 => ?_) (fun c_1 => ?_)
    · rw [if_pos c_1] at hr
      refine lv_iload_n M.1 M.2.1 dX5_expiredSet_42 rfl (lv_at hl 1 rfl) ?_
      exact x_iret M hB (Option.some.inj hr) dX5_expiredSet_43
    · rw [if_neg c_1] at hr
      refine lv_iload_n M.1 M.2.1 dX5_expiredSet_15 rfl (lv_at hl 1 rfl) ?_
      refine lv_aload_n M.1 M.2.1 dX5_expiredSet_16 rfl (lv_at hl 0 rfl) ?_
      refine lv_iload_n M.1 M.2.1 dX5_expiredSet_17 rfl (lv_at hl 2 rfl) ?_
      refine lv_bipush (v := 15) M.1 M.2.1 dX5_expiredSet_18 (by decide) ?_
      obtain ⟨v_2, σ_3, h_4, hr⟩ := cbd hr
      refine x_callI (x_runV M K hB hl.1 [.int x2, .int 15] (rest := [.int x1]) rfl (c_X5_of l Γ x2 15  σ (v_2, σ_3) h_4) cy_X5_of (x_recv K hB isK_150.2 (ent_5 isK_150.1) rfl) wd_162 ⟨rfl, rfl, Nat.le_of_ble_eq_true rfl, Nat.le_of_ble_eq_true rfl⟩ (Nat.le_of_ble_eq_true rfl) ⟨Nat.zero_le _, Nat.zero_le _⟩ dX5_expiredSet_20) hB (fun H locs hB => ?_)
      replace hB : Bd Γ σ_3 s H locs := hB
      refine lv_iconst (v := 1) M.1 M.2.1 dX5_expiredSet_23 (by decide) ?_
      refine lv_icmp_ne (tgt := 33) M.1 M.2.1 dX5_expiredSet_24 (by decide) (fun c_5 => ?_) (fun c_5 => ?_)
      · rw [if_neg c_5] at hr
        refine lv_iconst (v := 0) M.1 M.2.1 dX5_expiredSet_33 (by decide) ?_
        exact w_X5_expiredSet_34 M K  _ ih_4 x2 0 x1 _ _ _ _  hB (lv_sub hl [0, 2] rfl) hr
      · rw [if_pos c_5] at hr
        refine lv_iconst (v := 1) M.1 M.2.1 dX5_expiredSet_27 (by decide) ?_
        refine lv_iload_n M.1 M.2.1 dX5_expiredSet_28 rfl (lv_at hl 2 rfl) ?_
        refine lv_ishl M.1 M.2.1 dX5_expiredSet_29 ?_
        refine lv_goto (tgt := 34) M.1 M.2.1 dX5_expiredSet_30 (by decide) ?_
        exact w_X5_expiredSet_34 M K  _ ih_4 x2 (1 <<< (x2 &&& 31)) x1 _ _ _ _  hB (lv_sub hl [0, 2] rfl) hr
def f_X5_expiredSet_0    (σ : Sg) : Option (Int32 × Sg) :=
f_X5_expiredSet_4   FU 0 0 σ
set_option maxHeartbeats 4000000 in
set_option maxRecDepth 100000 in
theorem w_X5_expiredSet_0 {p : Program} {l : Launch} {e : Env} {s : State} {m : MethodId} {args : Array Value} {below : List Frame} {meth : Method} {c : Code} {Γ : GG} {res : Int32 × Sg} (M : MX RX5 cX5_expiredSet 3 (some .int) p s m args meth c) (K : KK Γ s s.heap)   (σ : Sg) (H : Heap) (locs : List Loc) (ls : Array Slot)  (hB : Bd Γ σ s H locs) (hl : lv_has ls 3 [(0, .ref (Γ.1 150))]) (hr : f_X5_expiredSet_0    σ = some res) : WI Γ rm_X5_expiredSet p l e s m args below meth c H locs res (F0 m 0 ls []) := by
  unfold f_X5_expiredSet_0 at hr
  refine lv_iconst (v := 0) M.1 M.2.1 dX5_expiredSet_0 (by decide) ?_
  refine lv_istore_n (lv' := [(1, .int 0), (0, .ref (Γ.1 150))]) M.1 M.2.1 dX5_expiredSet_1 rfl hl (by decide) rfl (fun ls hl => ?_)
  refine lv_iconst (v := 0) M.1 M.2.1 dX5_expiredSet_2 (by decide) ?_
  refine lv_istore_n (lv' := [(2, .int 0), (1, .int 0), (0, .ref (Γ.1 150))]) M.1 M.2.1 dX5_expiredSet_3 rfl hl (by decide) rfl (fun ls hl => ?_)
  exact w_X5_expiredSet_4 M K   FU 0 0 _ _ _ _  hB (lv_sub hl [2, 1, 0] rfl) hr
theorem c_X5_expiredSet (l : Launch) (Γ : GG)   (σ : Sg) (res : Int32 × Sg) (hr : f_X5_expiredSet_0  σ = some res) : Met l yX5_expiredSet (Cond.code yX5_expiredSet cX5_expiredSet 3 (some .int) :: gtb) rm_X5_expiredSet (va_Pc [.ref (Γ.1 150)] (GI Γ σ)) (QI Γ res) 0 0 (AD Γ) :=
  x_metI (by decide) [.ref (Γ.1 150)] (Nat.le_of_ble_eq_true rfl) (fun p e s m args below meth c M K ls hl hB => w_X5_expiredSet_0 M K  σ _ _ ls hB hl hr)
abbrev rm_X5_state : Room := { frames := 3, cells := 0, slots := 0, locals := 65 }
def f_X5_state_184 (a0 : Int32)  (s0 : Int32) (σ : Sg) : Option (Int32 × Sg) :=
some (s0, σ)
set_option maxHeartbeats 4000000 in
set_option maxRecDepth 100000 in
theorem w_X5_state_184 {p : Program} {l : Launch} {e : Env} {s : State} {m : MethodId} {args : Array Value} {below : List Frame} {meth : Method} {c : Code} {Γ : GG} {res : Int32 × Sg} (M : MX RX5 cX5_state 3 (some .int) p s m args meth c) (K : KK Γ s s.heap) (a0 : Int32) (s0 : Int32) (σ : Sg) (H : Heap) (locs : List Loc) (ls : Array Slot)  (hB : Bd Γ σ s H locs) (hl : lv_has ls 3 []) (hr : f_X5_state_184 a0  s0 σ = some res) : WI Γ rm_X5_state p l e s m args below meth c H locs res (F0 m 184 ls [.int s0]) := by
  unfold f_X5_state_184 at hr
  exact x_iret M hB (Option.some.inj hr) dX5_state_184
def f_X5_state_155 (a0 : Int32)  (s0 : Int32) (σ : Sg) : Option (Int32 × Sg) :=
some (s0, σ)
set_option maxHeartbeats 4000000 in
set_option maxRecDepth 100000 in
theorem w_X5_state_155 {p : Program} {l : Launch} {e : Env} {s : State} {m : MethodId} {args : Array Value} {below : List Frame} {meth : Method} {c : Code} {Γ : GG} {res : Int32 × Sg} (M : MX RX5 cX5_state 3 (some .int) p s m args meth c) (K : KK Γ s s.heap) (a0 : Int32) (s0 : Int32) (σ : Sg) (H : Heap) (locs : List Loc) (ls : Array Slot)  (hB : Bd Γ σ s H locs) (hl : lv_has ls 3 []) (hr : f_X5_state_155 a0  s0 σ = some res) : WI Γ rm_X5_state p l e s m args below meth c H locs res (F0 m 155 ls [.int s0]) := by
  unfold f_X5_state_155 at hr
  exact x_iret M hB (Option.some.inj hr) dX5_state_155
def f_X5_state_135 (a0 : Int32)  (s0 : Int32) (σ : Sg) : Option (Int32 × Sg) :=
some (s0, σ)
set_option maxHeartbeats 4000000 in
set_option maxRecDepth 100000 in
theorem w_X5_state_135 {p : Program} {l : Launch} {e : Env} {s : State} {m : MethodId} {args : Array Value} {below : List Frame} {meth : Method} {c : Code} {Γ : GG} {res : Int32 × Sg} (M : MX RX5 cX5_state 3 (some .int) p s m args meth c) (K : KK Γ s s.heap) (a0 : Int32) (s0 : Int32) (σ : Sg) (H : Heap) (locs : List Loc) (ls : Array Slot)  (hB : Bd Γ σ s H locs) (hl : lv_has ls 3 []) (hr : f_X5_state_135 a0  s0 σ = some res) : WI Γ rm_X5_state p l e s m args below meth c H locs res (F0 m 135 ls [.int s0]) := by
  unfold f_X5_state_135 at hr
  exact x_iret M hB (Option.some.inj hr) dX5_state_135
def f_X5_state_16 (a0 : Int32)  (x1 : Int32) (s0 : Int32) (σ : Sg) : Option (Int32 × Sg) :=
cb (f_X5_in_0 x1 13 20 σ) fun v_2 σ_3 =>
if v_2 = 0 then
if x1 = 0 then
if 8 + x1 < 0 ∨ 255 ≤ (8 + x1).toNatClampNeg then none else
some (σ_3 151 ((8 + x1).toNatClampNeg), σ_3)
else
if x1 = 1 then
if 8 + x1 < 0 ∨ 255 ≤ (8 + x1).toNatClampNeg then none else
some (σ_3 151 ((8 + x1).toNatClampNeg), σ_3)
else
if x1 = 2 then
if 8 + x1 < 0 ∨ 255 ≤ (8 + x1).toNatClampNeg then none else
some (σ_3 151 ((8 + x1).toNatClampNeg), σ_3)
else
if x1 = 3 then
if 8 + x1 < 0 ∨ 255 ≤ (8 + x1).toNatClampNeg then none else
some (σ_3 151 ((8 + x1).toNatClampNeg), σ_3)
else
if x1 = 4 then
if σ_3 151 9 = 0 then
f_X5_state_135 a0  (σ_3 151 12) σ_3
else
f_X5_state_135 a0  0 σ_3
else
if x1 = 5 then
if s0 = 0 then
f_X5_state_155 a0  0 σ_3
else
if (13 + x1) - 5 < 0 ∨ 255 ≤ ((13 + x1) - 5).toNatClampNeg then none else
f_X5_state_155 a0  (σ_3 151 (((13 + x1) - 5).toNatClampNeg)) σ_3
else
if x1 = 6 then
if s0 = 0 then
f_X5_state_155 a0  0 σ_3
else
if (13 + x1) - 5 < 0 ∨ 255 ≤ ((13 + x1) - 5).toNatClampNeg then none else
f_X5_state_155 a0  (σ_3 151 (((13 + x1) - 5).toNatClampNeg)) σ_3
else
if x1 = 7 then
if s0 = 0 then
f_X5_state_155 a0  0 σ_3
else
if (13 + x1) - 5 < 0 ∨ 255 ≤ ((13 + x1) - 5).toNatClampNeg then none else
f_X5_state_155 a0  (σ_3 151 (((13 + x1) - 5).toNatClampNeg)) σ_3
else
if x1 = 8 then
if s0 = 0 then
f_X5_state_155 a0  0 σ_3
else
if (13 + x1) - 5 < 0 ∨ 255 ≤ ((13 + x1) - 5).toNatClampNeg then none else
f_X5_state_155 a0  (σ_3 151 (((13 + x1) - 5).toNatClampNeg)) σ_3
else
if x1 = 9 then
some (σ_3 151 18, σ_3)
else
if x1 = 10 then
some (σ_3 151 17, σ_3)
else
if x1 = 11 then
if s0 = 0 then
f_X5_state_184 a0  0 σ_3
else
cb (f_X5_expiredSet_0  σ_3) fun v_44 σ_45 =>
f_X5_state_184 a0  v_44 σ_45
else
if x1 = 12 then
some (σ_3 150 5, σ_3)
else
some ((-2), σ_3)
else
if x1 - 13 < 0 ∨ 255 ≤ (x1 - 13).toNatClampNeg then none else
some (σ_3 151 ((x1 - 13).toNatClampNeg), σ_3)
set_option maxHeartbeats 4000000 in
set_option maxRecDepth 100000 in
theorem w_X5_state_16 {p : Program} {l : Launch} {e : Env} {s : State} {m : MethodId} {args : Array Value} {below : List Frame} {meth : Method} {c : Code} {Γ : GG} {res : Int32 × Sg} (M : MX RX5 cX5_state 3 (some .int) p s m args meth c) (K : KK Γ s s.heap) (a0 : Int32) (x1 : Int32) (s0 : Int32) (σ : Sg) (H : Heap) (locs : List Loc) (ls : Array Slot)  (hB : Bd Γ σ s H locs) (hl : lv_has ls 3 [(0, .ref (Γ.1 150)), (1, .int x1)]) (hr : f_X5_state_16 a0  x1 s0 σ = some res) : WI Γ rm_X5_state p l e s m args below meth c H locs res (F0 m 16 ls [.int s0]) := by
  unfold f_X5_state_16 at hr
  refine lv_istore_n (lv' := [(2, .int s0), (0, .ref (Γ.1 150)), (1, .int x1)]) M.1 M.2.1 dX5_state_16 rfl hl (by decide) rfl (fun ls hl => ?_)
  refine lv_iload_n M.1 M.2.1 dX5_state_17 rfl (lv_at hl 2 rfl) ?_
  refine lv_bipush (v := 13) M.1 M.2.1 dX5_state_18 (by decide) ?_
  refine lv_bipush (v := 20) M.1 M.2.1 dX5_state_20 (by decide) ?_
  obtain ⟨v_2, σ_3, h_4, hr⟩ := cbd hr
  refine x_callI (x_runS M K hB hl.1 [.int x1, .int 13, .int 20] (rest := []) rfl (c_X5_in l Γ x1 13 20  σ (v_2, σ_3) h_4) cy_X5_in wd_155 ⟨rfl, rfl, Nat.le_of_ble_eq_true rfl, Nat.le_of_ble_eq_true rfl⟩ (Nat.le_of_ble_eq_true rfl) ⟨Nat.zero_le _, Nat.zero_le _⟩ dX5_state_22) hB (fun H locs hB => ?_)
  replace hB : Bd Γ σ_3 s H locs := hB
  refine lv_if_eq (tgt := 38) M.1 M.2.1 dX5_state_25 (by decide) (fun c_5 => ?_) (fun c_5 => ?_)
  · rw [if_pos c_5] at hr
    refine lv_iload_n M.1 M.2.1 dX5_state_38 rfl (lv_at hl 2 rfl) ?_
    by_cases c_6 : x1 = 0
    · rw [if_pos c_6] at hr
      have t_7 : Int32.toInt x1 = 0 := by rw [c_6]; decide
      refine lv_tableIn (off := 65) (tgt := 104) M.1 M.2.1 dX5_state_39 (by rw [t_7]; decide) (by rw [t_7]; decide) (by rw [t_7]; rfl) (by decide) ?_
      refine lv_aload_n M.1 M.2.1 dX5_state_104 rfl (lv_at hl 1 rfl) ?_
      refine x_get5 M K hB isK_150 0 (by decide) wd_157 (v := .ref (Γ.1 151)) rfl dX5_state_105 ?_
      refine lv_bipush (v := 8) M.1 M.2.1 dX5_state_108 (by decide) ?_
      refine lv_iload_n M.1 M.2.1 dX5_state_110 rfl (lv_at hl 2 rfl) ?_
      refine lv_iadd M.1 M.2.1 dX5_state_111 ?_
      obtain ⟨g_8, hr⟩ := gd hr
      refine x_iald M K hB isA_151 g_8 dX5_state_112 ?_
      exact x_iret M hB (Option.some.inj hr) dX5_state_113
    · rw [if_neg c_6] at hr
      have t_7 : ¬ Int32.toInt x1 = 0 := lv_neT c_6 (by decide)
      by_cases c_9 : x1 = 1
      · rw [if_pos c_9] at hr
        have t_10 : Int32.toInt x1 = 1 := by rw [c_9]; decide
        refine lv_tableIn (off := 65) (tgt := 104) M.1 M.2.1 dX5_state_39 (by rw [t_10]; decide) (by rw [t_10]; decide) (by rw [t_10]; rfl) (by decide) ?_
        refine lv_aload_n M.1 M.2.1 dX5_state_104 rfl (lv_at hl 1 rfl) ?_
        refine x_get5 M K hB isK_150 0 (by decide) wd_157 (v := .ref (Γ.1 151)) rfl dX5_state_105 ?_
        refine lv_bipush (v := 8) M.1 M.2.1 dX5_state_108 (by decide) ?_
        refine lv_iload_n M.1 M.2.1 dX5_state_110 rfl (lv_at hl 2 rfl) ?_
        refine lv_iadd M.1 M.2.1 dX5_state_111 ?_
        obtain ⟨g_11, hr⟩ := gd hr
        refine x_iald M K hB isA_151 g_11 dX5_state_112 ?_
        exact x_iret M hB (Option.some.inj hr) dX5_state_113
      · rw [if_neg c_9] at hr
        have t_10 : ¬ Int32.toInt x1 = 1 := lv_neT c_9 (by decide)
        by_cases c_12 : x1 = 2
        · rw [if_pos c_12] at hr
          have t_13 : Int32.toInt x1 = 2 := by rw [c_12]; decide
          refine lv_tableIn (off := 65) (tgt := 104) M.1 M.2.1 dX5_state_39 (by rw [t_13]; decide) (by rw [t_13]; decide) (by rw [t_13]; rfl) (by decide) ?_
          refine lv_aload_n M.1 M.2.1 dX5_state_104 rfl (lv_at hl 1 rfl) ?_
          refine x_get5 M K hB isK_150 0 (by decide) wd_157 (v := .ref (Γ.1 151)) rfl dX5_state_105 ?_
          refine lv_bipush (v := 8) M.1 M.2.1 dX5_state_108 (by decide) ?_
          refine lv_iload_n M.1 M.2.1 dX5_state_110 rfl (lv_at hl 2 rfl) ?_
          refine lv_iadd M.1 M.2.1 dX5_state_111 ?_
          obtain ⟨g_14, hr⟩ := gd hr
          refine x_iald M K hB isA_151 g_14 dX5_state_112 ?_
          exact x_iret M hB (Option.some.inj hr) dX5_state_113
        · rw [if_neg c_12] at hr
          have t_13 : ¬ Int32.toInt x1 = 2 := lv_neT c_12 (by decide)
          by_cases c_15 : x1 = 3
          · rw [if_pos c_15] at hr
            have t_16 : Int32.toInt x1 = 3 := by rw [c_15]; decide
            refine lv_tableIn (off := 65) (tgt := 104) M.1 M.2.1 dX5_state_39 (by rw [t_16]; decide) (by rw [t_16]; decide) (by rw [t_16]; rfl) (by decide) ?_
            refine lv_aload_n M.1 M.2.1 dX5_state_104 rfl (lv_at hl 1 rfl) ?_
            refine x_get5 M K hB isK_150 0 (by decide) wd_157 (v := .ref (Γ.1 151)) rfl dX5_state_105 ?_
            refine lv_bipush (v := 8) M.1 M.2.1 dX5_state_108 (by decide) ?_
            refine lv_iload_n M.1 M.2.1 dX5_state_110 rfl (lv_at hl 2 rfl) ?_
            refine lv_iadd M.1 M.2.1 dX5_state_111 ?_
            obtain ⟨g_17, hr⟩ := gd hr
            refine x_iald M K hB isA_151 g_17 dX5_state_112 ?_
            exact x_iret M hB (Option.some.inj hr) dX5_state_113
          · rw [if_neg c_15] at hr
            have t_16 : ¬ Int32.toInt x1 = 3 := lv_neT c_15 (by decide)
            by_cases c_18 : x1 = 4
            · rw [if_pos c_18] at hr
              have t_19 : Int32.toInt x1 = 4 := by rw [c_18]; decide
              refine lv_tableIn (off := 75) (tgt := 114) M.1 M.2.1 dX5_state_39 (by rw [t_19]; decide) (by rw [t_19]; decide) (by rw [t_19]; rfl) (by decide) ?_
              refine lv_aload_n M.1 M.2.1 dX5_state_114 rfl (lv_at hl 1 rfl) ?_
              refine x_get5 M K hB isK_150 0 (by decide) wd_157 (v := .ref (Γ.1 151)) rfl dX5_state_115 ?_
              refine lv_bipush (v := 9) M.1 M.2.1 dX5_state_118 (by decide) ?_
              refine x_ialdL M K hB isA_151 (k := 9) (by decide) (by decide) dX5_state_120 ?_
              refine lv_if_ne (tgt := 134) M.1 M.2.1 dX5_state_121 (by decide) (fun c_20 => ?_) (fun c_20 => ?_)
              · rw [if_neg c_20] at hr
                refine lv_iconst (v := 0) M.1 M.2.1 dX5_state_134 (by decide) ?_
                exact w_X5_state_135 M K a0  0 _ _ _ _  hB (lv_sub hl [] rfl) hr
              · rw [if_pos c_20] at hr
                refine lv_aload_n M.1 M.2.1 dX5_state_124 rfl (lv_at hl 1 rfl) ?_
                refine x_get5 M K hB isK_150 0 (by decide) wd_157 (v := .ref (Γ.1 151)) rfl dX5_state_125 ?_
                refine lv_bipush (v := 12) M.1 M.2.1 dX5_state_128 (by decide) ?_
                refine x_ialdL M K hB isA_151 (k := 12) (by decide) (by decide) dX5_state_130 ?_
                refine lv_goto (tgt := 135) M.1 M.2.1 dX5_state_131 (by decide) ?_
                exact w_X5_state_135 M K a0  (σ_3 151 12) _ _ _ _  hB (lv_sub hl [] rfl) hr
            · rw [if_neg c_18] at hr
              have t_19 : ¬ Int32.toInt x1 = 4 := lv_neT c_18 (by decide)
              by_cases c_21 : x1 = 5
              · rw [if_pos c_21] at hr
                have t_22 : Int32.toInt x1 = 5 := by rw [c_21]; decide
                refine lv_tableIn (off := 97) (tgt := 136) M.1 M.2.1 dX5_state_39 (by rw [t_22]; decide) (by rw [t_22]; decide) (by rw [t_22]; rfl) (by decide) ?_
                refine lv_iload_n M.1 M.2.1 dX5_state_136 rfl (lv_at hl 0 rfl) ?_
                refine lv_if_eq (tgt := 154) M.1 M.2.1 dX5_state_137 (by decide) (fun c_23 => ?_) (fun c_23 => ?_)
                · rw [if_pos c_23] at hr
                  refine lv_iconst (v := 0) M.1 M.2.1 dX5_state_154 (by decide) ?_
                  exact w_X5_state_155 M K a0  0 _ _ _ _  hB (lv_sub hl [] rfl) hr
                · rw [if_neg c_23] at hr
                  refine lv_aload_n M.1 M.2.1 dX5_state_140 rfl (lv_at hl 1 rfl) ?_
                  refine x_get5 M K hB isK_150 0 (by decide) wd_157 (v := .ref (Γ.1 151)) rfl dX5_state_141 ?_
                  refine lv_bipush (v := 13) M.1 M.2.1 dX5_state_144 (by decide) ?_
                  refine lv_iload_n M.1 M.2.1 dX5_state_146 rfl (lv_at hl 2 rfl) ?_
                  refine lv_iadd M.1 M.2.1 dX5_state_147 ?_
                  refine lv_iconst (v := 5) M.1 M.2.1 dX5_state_148 (by decide) ?_
                  refine lv_isub M.1 M.2.1 dX5_state_149 ?_
                  obtain ⟨g_24, hr⟩ := gd hr
                  refine x_iald M K hB isA_151 g_24 dX5_state_150 ?_
                  refine lv_goto (tgt := 155) M.1 M.2.1 dX5_state_151 (by decide) ?_
                  exact w_X5_state_155 M K a0  (σ_3 151 (((13 + x1) - 5).toNatClampNeg)) _ _ _ _  hB (lv_sub hl [] rfl) hr
              · rw [if_neg c_21] at hr
                have t_22 : ¬ Int32.toInt x1 = 5 := lv_neT c_21 (by decide)
                by_cases c_25 : x1 = 6
                · rw [if_pos c_25] at hr
                  have t_26 : Int32.toInt x1 = 6 := by rw [c_25]; decide
                  refine lv_tableIn (off := 97) (tgt := 136) M.1 M.2.1 dX5_state_39 (by rw [t_26]; decide) (by rw [t_26]; decide) (by rw [t_26]; rfl) (by decide) ?_
                  refine lv_iload_n M.1 M.2.1 dX5_state_136 rfl (lv_at hl 0 rfl) ?_
                  refine lv_if_eq (tgt := 154) M.1 M.2.1 dX5_state_137 (by decide) (fun c_27 => ?_) (fun c_27 => ?_)
                  · rw [if_pos c_27] at hr
                    refine lv_iconst (v := 0) M.1 M.2.1 dX5_state_154 (by decide) ?_
                    exact w_X5_state_155 M K a0  0 _ _ _ _  hB (lv_sub hl [] rfl) hr
                  · rw [if_neg c_27] at hr
                    refine lv_aload_n M.1 M.2.1 dX5_state_140 rfl (lv_at hl 1 rfl) ?_
                    refine x_get5 M K hB isK_150 0 (by decide) wd_157 (v := .ref (Γ.1 151)) rfl dX5_state_141 ?_
                    refine lv_bipush (v := 13) M.1 M.2.1 dX5_state_144 (by decide) ?_
                    refine lv_iload_n M.1 M.2.1 dX5_state_146 rfl (lv_at hl 2 rfl) ?_
                    refine lv_iadd M.1 M.2.1 dX5_state_147 ?_
                    refine lv_iconst (v := 5) M.1 M.2.1 dX5_state_148 (by decide) ?_
                    refine lv_isub M.1 M.2.1 dX5_state_149 ?_
                    obtain ⟨g_28, hr⟩ := gd hr
                    refine x_iald M K hB isA_151 g_28 dX5_state_150 ?_
                    refine lv_goto (tgt := 155) M.1 M.2.1 dX5_state_151 (by decide) ?_
                    exact w_X5_state_155 M K a0  (σ_3 151 (((13 + x1) - 5).toNatClampNeg)) _ _ _ _  hB (lv_sub hl [] rfl) hr
                · rw [if_neg c_25] at hr
                  have t_26 : ¬ Int32.toInt x1 = 6 := lv_neT c_25 (by decide)
                  by_cases c_29 : x1 = 7
                  · rw [if_pos c_29] at hr
                    have t_30 : Int32.toInt x1 = 7 := by rw [c_29]; decide
                    refine lv_tableIn (off := 97) (tgt := 136) M.1 M.2.1 dX5_state_39 (by rw [t_30]; decide) (by rw [t_30]; decide) (by rw [t_30]; rfl) (by decide) ?_
                    refine lv_iload_n M.1 M.2.1 dX5_state_136 rfl (lv_at hl 0 rfl) ?_
                    refine lv_if_eq (tgt := 154) M.1 M.2.1 dX5_state_137 (by decide) (fun c_31 => ?_) (fun c_31 => ?_)
                    · rw [if_pos c_31] at hr
                      refine lv_iconst (v := 0) M.1 M.2.1 dX5_state_154 (by decide) ?_
                      exact w_X5_state_155 M K a0  0 _ _ _ _  hB (lv_sub hl [] rfl) hr
                    · rw [if_neg c_31] at hr
                      refine lv_aload_n M.1 M.2.1 dX5_state_140 rfl (lv_at hl 1 rfl) ?_
                      refine x_get5 M K hB isK_150 0 (by decide) wd_157 (v := .ref (Γ.1 151)) rfl dX5_state_141 ?_
                      refine lv_bipush (v := 13) M.1 M.2.1 dX5_state_144 (by decide) ?_
                      refine lv_iload_n M.1 M.2.1 dX5_state_146 rfl (lv_at hl 2 rfl) ?_
                      refine lv_iadd M.1 M.2.1 dX5_state_147 ?_
                      refine lv_iconst (v := 5) M.1 M.2.1 dX5_state_148 (by decide) ?_
                      refine lv_isub M.1 M.2.1 dX5_state_149 ?_
                      obtain ⟨g_32, hr⟩ := gd hr
                      refine x_iald M K hB isA_151 g_32 dX5_state_150 ?_
                      refine lv_goto (tgt := 155) M.1 M.2.1 dX5_state_151 (by decide) ?_
                      exact w_X5_state_155 M K a0  (σ_3 151 (((13 + x1) - 5).toNatClampNeg)) _ _ _ _  hB (lv_sub hl [] rfl) hr
                  · rw [if_neg c_29] at hr
                    have t_30 : ¬ Int32.toInt x1 = 7 := lv_neT c_29 (by decide)
                    by_cases c_33 : x1 = 8
                    · rw [if_pos c_33] at hr
                      have t_34 : Int32.toInt x1 = 8 := by rw [c_33]; decide
                      refine lv_tableIn (off := 97) (tgt := 136) M.1 M.2.1 dX5_state_39 (by rw [t_34]; decide) (by rw [t_34]; decide) (by rw [t_34]; rfl) (by decide) ?_
                      refine lv_iload_n M.1 M.2.1 dX5_state_136 rfl (lv_at hl 0 rfl) ?_
                      refine lv_if_eq (tgt := 154) M.1 M.2.1 dX5_state_137 (by decide) (fun c_35 => ?_) (fun c_35 => ?_)
                      · rw [if_pos c_35] at hr
                        refine lv_iconst (v := 0) M.1 M.2.1 dX5_state_154 (by decide) ?_
                        exact w_X5_state_155 M K a0  0 _ _ _ _  hB (lv_sub hl [] rfl) hr
                      · rw [if_neg c_35] at hr
                        refine lv_aload_n M.1 M.2.1 dX5_state_140 rfl (lv_at hl 1 rfl) ?_
                        refine x_get5 M K hB isK_150 0 (by decide) wd_157 (v := .ref (Γ.1 151)) rfl dX5_state_141 ?_
                        refine lv_bipush (v := 13) M.1 M.2.1 dX5_state_144 (by decide) ?_
                        refine lv_iload_n M.1 M.2.1 dX5_state_146 rfl (lv_at hl 2 rfl) ?_
                        refine lv_iadd M.1 M.2.1 dX5_state_147 ?_
                        refine lv_iconst (v := 5) M.1 M.2.1 dX5_state_148 (by decide) ?_
                        refine lv_isub M.1 M.2.1 dX5_state_149 ?_
                        obtain ⟨g_36, hr⟩ := gd hr
                        refine x_iald M K hB isA_151 g_36 dX5_state_150 ?_
                        refine lv_goto (tgt := 155) M.1 M.2.1 dX5_state_151 (by decide) ?_
                        exact w_X5_state_155 M K a0  (σ_3 151 (((13 + x1) - 5).toNatClampNeg)) _ _ _ _  hB (lv_sub hl [] rfl) hr
                    · rw [if_neg c_33] at hr
                      have t_34 : ¬ Int32.toInt x1 = 8 := lv_neT c_33 (by decide)
                      by_cases c_37 : x1 = 9
                      · rw [if_pos c_37] at hr
                        have t_38 : Int32.toInt x1 = 9 := by rw [c_37]; decide
                        refine lv_tableIn (off := 117) (tgt := 156) M.1 M.2.1 dX5_state_39 (by rw [t_38]; decide) (by rw [t_38]; decide) (by rw [t_38]; rfl) (by decide) ?_
                        refine lv_aload_n M.1 M.2.1 dX5_state_156 rfl (lv_at hl 1 rfl) ?_
                        refine x_get5 M K hB isK_150 0 (by decide) wd_157 (v := .ref (Γ.1 151)) rfl dX5_state_157 ?_
                        refine lv_bipush (v := 18) M.1 M.2.1 dX5_state_160 (by decide) ?_
                        refine x_ialdL M K hB isA_151 (k := 18) (by decide) (by decide) dX5_state_162 ?_
                        exact x_iret M hB (Option.some.inj hr) dX5_state_163
                      · rw [if_neg c_37] at hr
                        have t_38 : ¬ Int32.toInt x1 = 9 := lv_neT c_37 (by decide)
                        by_cases c_39 : x1 = 10
                        · rw [if_pos c_39] at hr
                          have t_40 : Int32.toInt x1 = 10 := by rw [c_39]; decide
                          refine lv_tableIn (off := 125) (tgt := 164) M.1 M.2.1 dX5_state_39 (by rw [t_40]; decide) (by rw [t_40]; decide) (by rw [t_40]; rfl) (by decide) ?_
                          refine lv_aload_n M.1 M.2.1 dX5_state_164 rfl (lv_at hl 1 rfl) ?_
                          refine x_get5 M K hB isK_150 0 (by decide) wd_157 (v := .ref (Γ.1 151)) rfl dX5_state_165 ?_
                          refine lv_bipush (v := 17) M.1 M.2.1 dX5_state_168 (by decide) ?_
                          refine x_ialdL M K hB isA_151 (k := 17) (by decide) (by decide) dX5_state_170 ?_
                          exact x_iret M hB (Option.some.inj hr) dX5_state_171
                        · rw [if_neg c_39] at hr
                          have t_40 : ¬ Int32.toInt x1 = 10 := lv_neT c_39 (by decide)
                          by_cases c_41 : x1 = 11
                          · rw [if_pos c_41] at hr
                            have t_42 : Int32.toInt x1 = 11 := by rw [c_41]; decide
                            refine lv_tableIn (off := 133) (tgt := 172) M.1 M.2.1 dX5_state_39 (by rw [t_42]; decide) (by rw [t_42]; decide) (by rw [t_42]; rfl) (by decide) ?_
                            refine lv_iload_n M.1 M.2.1 dX5_state_172 rfl (lv_at hl 0 rfl) ?_
                            refine lv_if_eq (tgt := 183) M.1 M.2.1 dX5_state_173 (by decide) (fun c_43 => ?_) (fun c_43 => ?_)
                            · rw [if_pos c_43] at hr
                              refine lv_iconst (v := 0) M.1 M.2.1 dX5_state_183 (by decide) ?_
                              exact w_X5_state_184 M K a0  0 _ _ _ _  hB (lv_sub hl [] rfl) hr
                            · rw [if_neg c_43] at hr
                              refine lv_aload_n M.1 M.2.1 dX5_state_176 rfl (lv_at hl 1 rfl) ?_
                              obtain ⟨v_44, σ_45, h_46, hr⟩ := cbd hr
                              refine x_callI (x_runV M K hB hl.1 [] (rest := []) rfl (c_X5_expiredSet l Γ   σ_3 (v_44, σ_45) h_46) cy_X5_expiredSet (x_recv K hB isK_150.2 (ent_5 isK_150.1) rfl) wd_192 ⟨rfl, rfl, Nat.le_of_ble_eq_true rfl, Nat.le_of_ble_eq_true rfl⟩ (Nat.le_of_ble_eq_true rfl) ⟨Nat.zero_le _, Nat.zero_le _⟩ dX5_state_177) hB (fun H locs hB => ?_)
                              replace hB : Bd Γ σ_45 s H locs := hB
                              refine lv_goto (tgt := 184) M.1 M.2.1 dX5_state_180 (by decide) ?_
                              exact w_X5_state_184 M K a0  v_44 _ _ _ _  hB (lv_sub hl [] rfl) hr
                          · rw [if_neg c_41] at hr
                            have t_42 : ¬ Int32.toInt x1 = 11 := lv_neT c_41 (by decide)
                            by_cases c_47 : x1 = 12
                            · rw [if_pos c_47] at hr
                              have t_48 : Int32.toInt x1 = 12 := by rw [c_47]; decide
                              refine lv_tableIn (off := 146) (tgt := 185) M.1 M.2.1 dX5_state_39 (by rw [t_48]; decide) (by rw [t_48]; decide) (by rw [t_48]; rfl) (by decide) ?_
                              refine lv_aload_n M.1 M.2.1 dX5_state_185 rfl (lv_at hl 1 rfl) ?_
                              refine x_get5 M K hB isK_150 5 (by decide) wd_165 (v := .int (σ_3 150 5)) rfl dX5_state_186 ?_
                              exact x_iret M hB (Option.some.inj hr) dX5_state_189
                            · rw [if_neg c_47] at hr
                              have t_48 : ¬ Int32.toInt x1 = 12 := lv_neT c_47 (by decide)
                              refine lv_tableOut (tgt := 190) M.1 M.2.1 dX5_state_39 (by omega) (by decide) ?_
                              refine lv_bipush (v := (-2)) M.1 M.2.1 dX5_state_190 (by decide) ?_
                              exact x_iret M hB (Option.some.inj hr) dX5_state_192
  · rw [if_neg c_5] at hr
    refine lv_aload_n M.1 M.2.1 dX5_state_28 rfl (lv_at hl 1 rfl) ?_
    refine x_get5 M K hB isK_150 0 (by decide) wd_157 (v := .ref (Γ.1 151)) rfl dX5_state_29 ?_
    refine lv_iload_n M.1 M.2.1 dX5_state_32 rfl (lv_at hl 2 rfl) ?_
    refine lv_bipush (v := 13) M.1 M.2.1 dX5_state_33 (by decide) ?_
    refine lv_isub M.1 M.2.1 dX5_state_35 ?_
    obtain ⟨g_49, hr⟩ := gd hr
    refine x_iald M K hB isA_151 g_49 dX5_state_36 ?_
    exact x_iret M hB (Option.some.inj hr) dX5_state_37
def f_X5_state_0 (a0 : Int32)   (σ : Sg) : Option (Int32 × Sg) :=
if σ 151 9 = 1 then
f_X5_state_16 a0  a0 1 σ
else
f_X5_state_16 a0  a0 0 σ
set_option maxHeartbeats 4000000 in
set_option maxRecDepth 100000 in
theorem w_X5_state_0 {p : Program} {l : Launch} {e : Env} {s : State} {m : MethodId} {args : Array Value} {below : List Frame} {meth : Method} {c : Code} {Γ : GG} {res : Int32 × Sg} (M : MX RX5 cX5_state 3 (some .int) p s m args meth c) (K : KK Γ s s.heap) (a0 : Int32)  (σ : Sg) (H : Heap) (locs : List Loc) (ls : Array Slot)  (hB : Bd Γ σ s H locs) (hl : lv_has ls 3 [(0, .ref (Γ.1 150)), (1, .int a0)]) (hr : f_X5_state_0 a0   σ = some res) : WI Γ rm_X5_state p l e s m args below meth c H locs res (F0 m 0 ls []) := by
  unfold f_X5_state_0 at hr
  refine lv_aload_n M.1 M.2.1 dX5_state_0 rfl (lv_at hl 0 rfl) ?_
  refine x_get5 M K hB isK_150 0 (by decide) wd_157 (v := .ref (Γ.1 151)) rfl dX5_state_1 ?_
  refine lv_bipush (v := 9) M.1 M.2.1 dX5_state_4 (by decide) ?_
  refine x_ialdL M K hB isA_151 (k := 9) (by decide) (by decide) dX5_state_6 ?_
  refine lv_iconst (v := 1) M.1 M.2.1 dX5_state_7 (by decide) ?_
  refine lv_icmp_ne (tgt := 15) M.1 M.2.1 dX5_state_8 (by decide) (fun c_1 => ?_) (fun c_1 => ?_)
  · rw [if_neg c_1] at hr
    refine lv_iconst (v := 0) M.1 M.2.1 dX5_state_15 (by decide) ?_
    exact w_X5_state_16 M K a0  a0 0 _ _ _ _  hB (lv_sub hl [0, 1] rfl) hr
  · rw [if_pos c_1] at hr
    refine lv_iconst (v := 1) M.1 M.2.1 dX5_state_11 (by decide) ?_
    refine lv_goto (tgt := 16) M.1 M.2.1 dX5_state_12 (by decide) ?_
    exact w_X5_state_16 M K a0  a0 1 _ _ _ _  hB (lv_sub hl [0, 1] rfl) hr
theorem c_X5_state (l : Launch) (Γ : GG) (a0 : Int32)  (σ : Sg) (res : Int32 × Sg) (hr : f_X5_state_0 a0 σ = some res) : Met l yX5_state (Cond.code yX5_state cX5_state 3 (some .int) :: gtb) rm_X5_state (va_Pc [.ref (Γ.1 150), .int a0] (GI Γ σ)) (QI Γ res) 0 0 (AD Γ) :=
  x_metI (by decide) [.ref (Γ.1 150), .int a0] (Nat.le_of_ble_eq_true rfl) (fun p e s m args below meth c M K ls hl hB => w_X5_state_0 M K a0 σ _ _ ls hB hl hr)
abbrev rm_X5_ofJob : Room := { frames := 2, cells := 0, slots := 0, locals := 43 }
def f_X5_ofJob_76 (a0 : Int32) (a1 : Int32)  (s0 : Int32) (σ : Sg) : Option (Int32 × Sg) :=
some (s0, σ)
set_option maxHeartbeats 4000000 in
set_option maxRecDepth 100000 in
theorem w_X5_ofJob_76 {p : Program} {l : Launch} {e : Env} {s : State} {m : MethodId} {args : Array Value} {below : List Frame} {meth : Method} {c : Code} {Γ : GG} {res : Int32 × Sg} (M : MX RX5 cX5_ofJob 3 (some .int) p s m args meth c) (K : KK Γ s s.heap) (a0 : Int32) (a1 : Int32) (s0 : Int32) (σ : Sg) (H : Heap) (locs : List Loc) (ls : Array Slot)  (hB : Bd Γ σ s H locs) (hl : lv_has ls 3 []) (hr : f_X5_ofJob_76 a0 a1  s0 σ = some res) : WI Γ rm_X5_ofJob p l e s m args below meth c H locs res (F0 m 76 ls [.int s0]) := by
  unfold f_X5_ofJob_76 at hr
  exact x_iret M hB (Option.some.inj hr) dX5_ofJob_76
def f_X5_ofJob_75 (a0 : Int32) (a1 : Int32)   (σ : Sg) : Option (Int32 × Sg) :=
f_X5_ofJob_76 a0 a1  0 σ
set_option maxHeartbeats 4000000 in
set_option maxRecDepth 100000 in
theorem w_X5_ofJob_75 {p : Program} {l : Launch} {e : Env} {s : State} {m : MethodId} {args : Array Value} {below : List Frame} {meth : Method} {c : Code} {Γ : GG} {res : Int32 × Sg} (M : MX RX5 cX5_ofJob 3 (some .int) p s m args meth c) (K : KK Γ s s.heap) (a0 : Int32) (a1 : Int32)  (σ : Sg) (H : Heap) (locs : List Loc) (ls : Array Slot)  (hB : Bd Γ σ s H locs) (hl : lv_has ls 3 []) (hr : f_X5_ofJob_75 a0 a1   σ = some res) : WI Γ rm_X5_ofJob p l e s m args below meth c H locs res (F0 m 75 ls []) := by
  unfold f_X5_ofJob_75 at hr
  refine lv_iconst (v := 0) M.1 M.2.1 dX5_ofJob_75 (by decide) ?_
  exact w_X5_ofJob_76 M K a0 a1  0 _ _ _ _  hB (lv_sub hl [] rfl) hr
def f_X5_ofJob_0 (a0 : Int32) (a1 : Int32)   (σ : Sg) : Option (Int32 × Sg) :=
if a1 = 8 then
cb (f_X5_of_0 a0 8 σ) fun v_3 σ_4 =>
some (v_3, σ_4)
else
if a1 = 9 then
cb (f_X5_of_0 a0 8 σ) fun v_8 σ_9 =>
if v_8 = 1 then
cb (f_X5_of_0 a0 11 σ_9) fun v_12 σ_13 =>
if v_12 = 0 then
cb (f_X5_of_0 a0 9 σ_13) fun v_16 σ_17 =>
f_X5_ofJob_76 a0 a1  v_16 σ_17
else
f_X5_ofJob_75 a0 a1   σ_13
else
f_X5_ofJob_75 a0 a1   σ_9
else
if a1 = 10 then
cb (f_X5_of_0 a0 12 σ) fun v_21 σ_22 =>
some (v_21, σ_22)
else
if a1 = 11 then
cb (f_X5_of_0 a0 13 σ) fun v_26 σ_27 =>
some (v_26, σ_27)
else
if a1 = 12 then
cb (f_X5_of_0 a0 14 σ) fun v_31 σ_32 =>
some (v_31, σ_32)
else
cb (f_X5_of_0 a0 15 σ) fun v_34 σ_35 =>
some (v_34, σ_35)
set_option maxHeartbeats 4000000 in
set_option maxRecDepth 100000 in
theorem w_X5_ofJob_0 {p : Program} {l : Launch} {e : Env} {s : State} {m : MethodId} {args : Array Value} {below : List Frame} {meth : Method} {c : Code} {Γ : GG} {res : Int32 × Sg} (M : MX RX5 cX5_ofJob 3 (some .int) p s m args meth c) (K : KK Γ s s.heap) (a0 : Int32) (a1 : Int32)  (σ : Sg) (H : Heap) (locs : List Loc) (ls : Array Slot)  (hB : Bd Γ σ s H locs) (hl : lv_has ls 3 [(0, .ref (Γ.1 150)), (1, .int a0), (2, .int a1)]) (hr : f_X5_ofJob_0 a0 a1   σ = some res) : WI Γ rm_X5_ofJob p l e s m args below meth c H locs res (F0 m 0 ls []) := by
  unfold f_X5_ofJob_0 at hr
  refine lv_iload_n M.1 M.2.1 dX5_ofJob_0 rfl (lv_at hl 2 rfl) ?_
  by_cases c_1 : a1 = 8
  · rw [if_pos c_1] at hr
    have t_2 : Int32.toInt a1 = 8 := by rw [c_1]; decide
    refine lv_tableIn (off := 35) (tgt := 36) M.1 M.2.1 dX5_ofJob_1 (by rw [t_2]; decide) (by rw [t_2]; decide) (by rw [t_2]; rfl) (by decide) ?_
    refine lv_aload_n M.1 M.2.1 dX5_ofJob_36 rfl (lv_at hl 0 rfl) ?_
    refine lv_iload_n M.1 M.2.1 dX5_ofJob_37 rfl (lv_at hl 1 rfl) ?_
    refine lv_bipush (v := 8) M.1 M.2.1 dX5_ofJob_38 (by decide) ?_
    obtain ⟨v_3, σ_4, h_5, hr⟩ := cbd hr
    refine x_callI (x_runV M K hB hl.1 [.int a0, .int 8] (rest := []) rfl (c_X5_of l Γ a0 8  σ (v_3, σ_4) h_5) cy_X5_of (x_recv K hB isK_150.2 (ent_5 isK_150.1) rfl) wd_162 ⟨rfl, rfl, Nat.le_of_ble_eq_true rfl, Nat.le_of_ble_eq_true rfl⟩ (Nat.le_of_ble_eq_true rfl) ⟨Nat.zero_le _, Nat.zero_le _⟩ dX5_ofJob_40) hB (fun H locs hB => ?_)
    replace hB : Bd Γ σ_4 s H locs := hB
    exact x_iret M hB (Option.some.inj hr) dX5_ofJob_43
  · rw [if_neg c_1] at hr
    have t_2 : ¬ Int32.toInt a1 = 8 := lv_neT c_1 (by decide)
    by_cases c_6 : a1 = 9
    · rw [if_pos c_6] at hr
      have t_7 : Int32.toInt a1 = 9 := by rw [c_6]; decide
      refine lv_tableIn (off := 43) (tgt := 44) M.1 M.2.1 dX5_ofJob_1 (by rw [t_7]; decide) (by rw [t_7]; decide) (by rw [t_7]; rfl) (by decide) ?_
      refine lv_aload_n M.1 M.2.1 dX5_ofJob_44 rfl (lv_at hl 0 rfl) ?_
      refine lv_iload_n M.1 M.2.1 dX5_ofJob_45 rfl (lv_at hl 1 rfl) ?_
      refine lv_bipush (v := 8) M.1 M.2.1 dX5_ofJob_46 (by decide) ?_
      obtain ⟨v_8, σ_9, h_10, hr⟩ := cbd hr
      refine x_callI (x_runV M K hB hl.1 [.int a0, .int 8] (rest := []) rfl (c_X5_of l Γ a0 8  σ (v_8, σ_9) h_10) cy_X5_of (x_recv K hB isK_150.2 (ent_5 isK_150.1) rfl) wd_162 ⟨rfl, rfl, Nat.le_of_ble_eq_true rfl, Nat.le_of_ble_eq_true rfl⟩ (Nat.le_of_ble_eq_true rfl) ⟨Nat.zero_le _, Nat.zero_le _⟩ dX5_ofJob_48) hB (fun H locs hB => ?_)
      replace hB : Bd Γ σ_9 s H locs := hB
      refine lv_iconst (v := 1) M.1 M.2.1 dX5_ofJob_51 (by decide) ?_
      refine lv_icmp_ne (tgt := 75) M.1 M.2.1 dX5_ofJob_52 (by decide) (fun c_11 => ?_) (fun c_11 => ?_)
      · rw [if_neg c_11] at hr
        exact w_X5_ofJob_75 M K a0 a1   _ _ _ _  hB (lv_sub hl [] rfl) hr
      · rw [if_pos c_11] at hr
        refine lv_aload_n M.1 M.2.1 dX5_ofJob_55 rfl (lv_at hl 0 rfl) ?_
        refine lv_iload_n M.1 M.2.1 dX5_ofJob_56 rfl (lv_at hl 1 rfl) ?_
        refine lv_bipush (v := 11) M.1 M.2.1 dX5_ofJob_57 (by decide) ?_
        obtain ⟨v_12, σ_13, h_14, hr⟩ := cbd hr
        refine x_callI (x_runV M K hB hl.1 [.int a0, .int 11] (rest := []) rfl (c_X5_of l Γ a0 11  σ_9 (v_12, σ_13) h_14) cy_X5_of (x_recv K hB isK_150.2 (ent_5 isK_150.1) rfl) wd_162 ⟨rfl, rfl, Nat.le_of_ble_eq_true rfl, Nat.le_of_ble_eq_true rfl⟩ (Nat.le_of_ble_eq_true rfl) ⟨Nat.zero_le _, Nat.zero_le _⟩ dX5_ofJob_59) hB (fun H locs hB => ?_)
        replace hB : Bd Γ σ_13 s H locs := hB
        refine lv_if_ne (tgt := 75) M.1 M.2.1 dX5_ofJob_62 (by decide) (fun c_15 => ?_) (fun c_15 => ?_)
        · rw [if_neg c_15] at hr
          exact w_X5_ofJob_75 M K a0 a1   _ _ _ _  hB (lv_sub hl [] rfl) hr
        · rw [if_pos c_15] at hr
          refine lv_aload_n M.1 M.2.1 dX5_ofJob_65 rfl (lv_at hl 0 rfl) ?_
          refine lv_iload_n M.1 M.2.1 dX5_ofJob_66 rfl (lv_at hl 1 rfl) ?_
          refine lv_bipush (v := 9) M.1 M.2.1 dX5_ofJob_67 (by decide) ?_
          obtain ⟨v_16, σ_17, h_18, hr⟩ := cbd hr
          refine x_callI (x_runV M K hB hl.1 [.int a0, .int 9] (rest := []) rfl (c_X5_of l Γ a0 9  σ_13 (v_16, σ_17) h_18) cy_X5_of (x_recv K hB isK_150.2 (ent_5 isK_150.1) rfl) wd_162 ⟨rfl, rfl, Nat.le_of_ble_eq_true rfl, Nat.le_of_ble_eq_true rfl⟩ (Nat.le_of_ble_eq_true rfl) ⟨Nat.zero_le _, Nat.zero_le _⟩ dX5_ofJob_69) hB (fun H locs hB => ?_)
          replace hB : Bd Γ σ_17 s H locs := hB
          refine lv_goto (tgt := 76) M.1 M.2.1 dX5_ofJob_72 (by decide) ?_
          exact w_X5_ofJob_76 M K a0 a1  v_16 _ _ _ _  hB (lv_sub hl [] rfl) hr
    · rw [if_neg c_6] at hr
      have t_7 : ¬ Int32.toInt a1 = 9 := lv_neT c_6 (by decide)
      by_cases c_19 : a1 = 10
      · rw [if_pos c_19] at hr
        have t_20 : Int32.toInt a1 = 10 := by rw [c_19]; decide
        refine lv_tableIn (off := 76) (tgt := 77) M.1 M.2.1 dX5_ofJob_1 (by rw [t_20]; decide) (by rw [t_20]; decide) (by rw [t_20]; rfl) (by decide) ?_
        refine lv_aload_n M.1 M.2.1 dX5_ofJob_77 rfl (lv_at hl 0 rfl) ?_
        refine lv_iload_n M.1 M.2.1 dX5_ofJob_78 rfl (lv_at hl 1 rfl) ?_
        refine lv_bipush (v := 12) M.1 M.2.1 dX5_ofJob_79 (by decide) ?_
        obtain ⟨v_21, σ_22, h_23, hr⟩ := cbd hr
        refine x_callI (x_runV M K hB hl.1 [.int a0, .int 12] (rest := []) rfl (c_X5_of l Γ a0 12  σ (v_21, σ_22) h_23) cy_X5_of (x_recv K hB isK_150.2 (ent_5 isK_150.1) rfl) wd_162 ⟨rfl, rfl, Nat.le_of_ble_eq_true rfl, Nat.le_of_ble_eq_true rfl⟩ (Nat.le_of_ble_eq_true rfl) ⟨Nat.zero_le _, Nat.zero_le _⟩ dX5_ofJob_81) hB (fun H locs hB => ?_)
        replace hB : Bd Γ σ_22 s H locs := hB
        exact x_iret M hB (Option.some.inj hr) dX5_ofJob_84
      · rw [if_neg c_19] at hr
        have t_20 : ¬ Int32.toInt a1 = 10 := lv_neT c_19 (by decide)
        by_cases c_24 : a1 = 11
        · rw [if_pos c_24] at hr
          have t_25 : Int32.toInt a1 = 11 := by rw [c_24]; decide
          refine lv_tableIn (off := 84) (tgt := 85) M.1 M.2.1 dX5_ofJob_1 (by rw [t_25]; decide) (by rw [t_25]; decide) (by rw [t_25]; rfl) (by decide) ?_
          refine lv_aload_n M.1 M.2.1 dX5_ofJob_85 rfl (lv_at hl 0 rfl) ?_
          refine lv_iload_n M.1 M.2.1 dX5_ofJob_86 rfl (lv_at hl 1 rfl) ?_
          refine lv_bipush (v := 13) M.1 M.2.1 dX5_ofJob_87 (by decide) ?_
          obtain ⟨v_26, σ_27, h_28, hr⟩ := cbd hr
          refine x_callI (x_runV M K hB hl.1 [.int a0, .int 13] (rest := []) rfl (c_X5_of l Γ a0 13  σ (v_26, σ_27) h_28) cy_X5_of (x_recv K hB isK_150.2 (ent_5 isK_150.1) rfl) wd_162 ⟨rfl, rfl, Nat.le_of_ble_eq_true rfl, Nat.le_of_ble_eq_true rfl⟩ (Nat.le_of_ble_eq_true rfl) ⟨Nat.zero_le _, Nat.zero_le _⟩ dX5_ofJob_89) hB (fun H locs hB => ?_)
          replace hB : Bd Γ σ_27 s H locs := hB
          exact x_iret M hB (Option.some.inj hr) dX5_ofJob_92
        · rw [if_neg c_24] at hr
          have t_25 : ¬ Int32.toInt a1 = 11 := lv_neT c_24 (by decide)
          by_cases c_29 : a1 = 12
          · rw [if_pos c_29] at hr
            have t_30 : Int32.toInt a1 = 12 := by rw [c_29]; decide
            refine lv_tableIn (off := 92) (tgt := 93) M.1 M.2.1 dX5_ofJob_1 (by rw [t_30]; decide) (by rw [t_30]; decide) (by rw [t_30]; rfl) (by decide) ?_
            refine lv_aload_n M.1 M.2.1 dX5_ofJob_93 rfl (lv_at hl 0 rfl) ?_
            refine lv_iload_n M.1 M.2.1 dX5_ofJob_94 rfl (lv_at hl 1 rfl) ?_
            refine lv_bipush (v := 14) M.1 M.2.1 dX5_ofJob_95 (by decide) ?_
            obtain ⟨v_31, σ_32, h_33, hr⟩ := cbd hr
            refine x_callI (x_runV M K hB hl.1 [.int a0, .int 14] (rest := []) rfl (c_X5_of l Γ a0 14  σ (v_31, σ_32) h_33) cy_X5_of (x_recv K hB isK_150.2 (ent_5 isK_150.1) rfl) wd_162 ⟨rfl, rfl, Nat.le_of_ble_eq_true rfl, Nat.le_of_ble_eq_true rfl⟩ (Nat.le_of_ble_eq_true rfl) ⟨Nat.zero_le _, Nat.zero_le _⟩ dX5_ofJob_97) hB (fun H locs hB => ?_)
            replace hB : Bd Γ σ_32 s H locs := hB
            exact x_iret M hB (Option.some.inj hr) dX5_ofJob_100
          · rw [if_neg c_29] at hr
            have t_30 : ¬ Int32.toInt a1 = 12 := lv_neT c_29 (by decide)
            refine lv_tableOut (tgt := 101) M.1 M.2.1 dX5_ofJob_1 (by omega) (by decide) ?_
            refine lv_aload_n M.1 M.2.1 dX5_ofJob_101 rfl (lv_at hl 0 rfl) ?_
            refine lv_iload_n M.1 M.2.1 dX5_ofJob_102 rfl (lv_at hl 1 rfl) ?_
            refine lv_bipush (v := 15) M.1 M.2.1 dX5_ofJob_103 (by decide) ?_
            obtain ⟨v_34, σ_35, h_36, hr⟩ := cbd hr
            refine x_callI (x_runV M K hB hl.1 [.int a0, .int 15] (rest := []) rfl (c_X5_of l Γ a0 15  σ (v_34, σ_35) h_36) cy_X5_of (x_recv K hB isK_150.2 (ent_5 isK_150.1) rfl) wd_162 ⟨rfl, rfl, Nat.le_of_ble_eq_true rfl, Nat.le_of_ble_eq_true rfl⟩ (Nat.le_of_ble_eq_true rfl) ⟨Nat.zero_le _, Nat.zero_le _⟩ dX5_ofJob_105) hB (fun H locs hB => ?_)
            replace hB : Bd Γ σ_35 s H locs := hB
            exact x_iret M hB (Option.some.inj hr) dX5_ofJob_108
theorem c_X5_ofJob (l : Launch) (Γ : GG) (a0 : Int32) (a1 : Int32)  (σ : Sg) (res : Int32 × Sg) (hr : f_X5_ofJob_0 a0 a1 σ = some res) : Met l yX5_ofJob (Cond.code yX5_ofJob cX5_ofJob 3 (some .int) :: gtb) rm_X5_ofJob (va_Pc [.ref (Γ.1 150), .int a0, .int a1] (GI Γ σ)) (QI Γ res) 0 0 (AD Γ) :=
  x_metI (by decide) [.ref (Γ.1 150), .int a0, .int a1] (Nat.le_of_ble_eq_true rfl) (fun p e s m args below meth c M K ls hl hB => w_X5_ofJob_0 M K a0 a1 σ _ _ ls hB hl hr)
abbrev rm_X5_task : Room := { frames := 3, cells := 0, slots := 0, locals := 65 }
def f_X5_task_143 (a0 : Int32) (a1 : Int32)  (s0 : Int32) (σ : Sg) : Option (Int32 × Sg) :=
some (s0, σ)
set_option maxHeartbeats 4000000 in
set_option maxRecDepth 100000 in
theorem w_X5_task_143 {p : Program} {l : Launch} {e : Env} {s : State} {m : MethodId} {args : Array Value} {below : List Frame} {meth : Method} {c : Code} {Γ : GG} {res : Int32 × Sg} (M : MX RX5 cX5_task 3 (some .int) p s m args meth c) (K : KK Γ s s.heap) (a0 : Int32) (a1 : Int32) (s0 : Int32) (σ : Sg) (H : Heap) (locs : List Loc) (ls : Array Slot)  (hB : Bd Γ σ s H locs) (hl : lv_has ls 3 []) (hr : f_X5_task_143 a0 a1  s0 σ = some res) : WI Γ rm_X5_task p l e s m args below meth c H locs res (F0 m 143 ls [.int s0]) := by
  unfold f_X5_task_143 at hr
  exact x_iret M hB (Option.some.inj hr) dX5_task_143
def f_X5_task_59 (a0 : Int32) (a1 : Int32)  (s0 : Int32) (σ : Sg) : Option (Int32 × Sg) :=
some (s0, σ)
set_option maxHeartbeats 4000000 in
set_option maxRecDepth 100000 in
theorem w_X5_task_59 {p : Program} {l : Launch} {e : Env} {s : State} {m : MethodId} {args : Array Value} {below : List Frame} {meth : Method} {c : Code} {Γ : GG} {res : Int32 × Sg} (M : MX RX5 cX5_task 3 (some .int) p s m args meth c) (K : KK Γ s s.heap) (a0 : Int32) (a1 : Int32) (s0 : Int32) (σ : Sg) (H : Heap) (locs : List Loc) (ls : Array Slot)  (hB : Bd Γ σ s H locs) (hl : lv_has ls 3 []) (hr : f_X5_task_59 a0 a1  s0 σ = some res) : WI Γ rm_X5_task p l e s m args below meth c H locs res (F0 m 59 ls [.int s0]) := by
  unfold f_X5_task_59 at hr
  exact x_iret M hB (Option.some.inj hr) dX5_task_59
def f_X5_task_0 (a0 : Int32) (a1 : Int32)   (σ : Sg) : Option (Int32 × Sg) :=
cb (f_X5_isTask_0 a0 σ) fun v_1 σ_2 =>
if v_1 = 0 then
some ((-1), σ_2)
else
cb (f_X5_in_0 a1 0 7 σ_2) fun v_5 σ_6 =>
if v_5 = 0 then
cb (f_X5_in_0 a1 8 13 σ_6) fun v_9 σ_10 =>
if v_9 = 0 then
if a1 = 14 then
cb (f_X5_of_0 a0 20 σ_10) fun v_15 σ_16 =>
some (v_15, σ_16)
else
if a1 = 15 then
cb (f_X5_of_0 a0 23 σ_10) fun v_20 σ_21 =>
some (v_20, σ_21)
else
if a1 = 16 then
cb (f_X5_of_0 a0 16 σ_10) fun v_25 σ_26 =>
some (v_25, σ_26)
else
if a1 = 17 then
cb (f_X5_of_0 a0 17 σ_10) fun v_30 σ_31 =>
if v_30 = 1 then
cb (f_X5_of_0 a0 18 σ_31) fun v_34 σ_35 =>
f_X5_task_143 a0 a1  v_34 σ_35
else
f_X5_task_143 a0 a1  (-6) σ_31
else
if a1 = 18 then
cb (f_X5_of_0 a0 19 σ_10) fun v_39 σ_40 =>
some (v_39, σ_40)
else
some ((-2), σ_10)
else
if σ_10 151 9 = 1 then
cb (f_X5_ofJob_0 a0 a1 σ_10) fun v_43 σ_44 =>
f_X5_task_59 a0 a1  v_43 σ_44
else
f_X5_task_59 a0 a1  0 σ_10
else
cb (f_X5_of_0 a0 a1 σ_6) fun v_46 σ_47 =>
some (v_46, σ_47)
set_option maxHeartbeats 4000000 in
set_option maxRecDepth 100000 in
theorem w_X5_task_0 {p : Program} {l : Launch} {e : Env} {s : State} {m : MethodId} {args : Array Value} {below : List Frame} {meth : Method} {c : Code} {Γ : GG} {res : Int32 × Sg} (M : MX RX5 cX5_task 3 (some .int) p s m args meth c) (K : KK Γ s s.heap) (a0 : Int32) (a1 : Int32)  (σ : Sg) (H : Heap) (locs : List Loc) (ls : Array Slot)  (hB : Bd Γ σ s H locs) (hl : lv_has ls 3 [(0, .ref (Γ.1 150)), (1, .int a0), (2, .int a1)]) (hr : f_X5_task_0 a0 a1   σ = some res) : WI Γ rm_X5_task p l e s m args below meth c H locs res (F0 m 0 ls []) := by
  unfold f_X5_task_0 at hr
  refine lv_aload_n M.1 M.2.1 dX5_task_0 rfl (lv_at hl 0 rfl) ?_
  refine lv_iload_n M.1 M.2.1 dX5_task_1 rfl (lv_at hl 1 rfl) ?_
  obtain ⟨v_1, σ_2, h_3, hr⟩ := cbd hr
  refine x_callI (x_runV M K hB hl.1 [.int a0] (rest := []) rfl (c_X5_isTask l Γ a0  σ (v_1, σ_2) h_3) cy_X5_isTask (x_recv K hB isK_150.2 (ent_5 isK_150.1) rfl) wd_160 ⟨rfl, rfl, Nat.le_of_ble_eq_true rfl, Nat.le_of_ble_eq_true rfl⟩ (Nat.le_of_ble_eq_true rfl) ⟨Nat.zero_le _, Nat.zero_le _⟩ dX5_task_2) hB (fun H locs hB => ?_)
  replace hB : Bd Γ σ_2 s H locs := hB
  refine lv_if_ne (tgt := 10) M.1 M.2.1 dX5_task_5 (by decide) (fun c_4 => ?_) (fun c_4 => ?_)
  · rw [if_neg c_4] at hr
    refine lv_iload_n M.1 M.2.1 dX5_task_10 rfl (lv_at hl 2 rfl) ?_
    refine lv_iconst (v := 0) M.1 M.2.1 dX5_task_11 (by decide) ?_
    refine lv_bipush (v := 7) M.1 M.2.1 dX5_task_12 (by decide) ?_
    obtain ⟨v_5, σ_6, h_7, hr⟩ := cbd hr
    refine x_callI (x_runS M K hB hl.1 [.int a1, .int 0, .int 7] (rest := []) rfl (c_X5_in l Γ a1 0 7  σ_2 (v_5, σ_6) h_7) cy_X5_in wd_155 ⟨rfl, rfl, Nat.le_of_ble_eq_true rfl, Nat.le_of_ble_eq_true rfl⟩ (Nat.le_of_ble_eq_true rfl) ⟨Nat.zero_le _, Nat.zero_le _⟩ dX5_task_14) hB (fun H locs hB => ?_)
    replace hB : Bd Γ σ_6 s H locs := hB
    refine lv_if_eq (tgt := 27) M.1 M.2.1 dX5_task_17 (by decide) (fun c_8 => ?_) (fun c_8 => ?_)
    · rw [if_pos c_8] at hr
      refine lv_iload_n M.1 M.2.1 dX5_task_27 rfl (lv_at hl 2 rfl) ?_
      refine lv_bipush (v := 8) M.1 M.2.1 dX5_task_28 (by decide) ?_
      refine lv_bipush (v := 13) M.1 M.2.1 dX5_task_30 (by decide) ?_
      obtain ⟨v_9, σ_10, h_11, hr⟩ := cbd hr
      refine x_callI (x_runS M K hB hl.1 [.int a1, .int 8, .int 13] (rest := []) rfl (c_X5_in l Γ a1 8 13  σ_6 (v_9, σ_10) h_11) cy_X5_in wd_155 ⟨rfl, rfl, Nat.le_of_ble_eq_true rfl, Nat.le_of_ble_eq_true rfl⟩ (Nat.le_of_ble_eq_true rfl) ⟨Nat.zero_le _, Nat.zero_le _⟩ dX5_task_32) hB (fun H locs hB => ?_)
      replace hB : Bd Γ σ_10 s H locs := hB
      refine lv_if_eq (tgt := 60) M.1 M.2.1 dX5_task_35 (by decide) (fun c_12 => ?_) (fun c_12 => ?_)
      · rw [if_pos c_12] at hr
        refine lv_iload_n M.1 M.2.1 dX5_task_60 rfl (lv_at hl 2 rfl) ?_
        by_cases c_13 : a1 = 14
        · rw [if_pos c_13] at hr
          have t_14 : Int32.toInt a1 = 14 := by rw [c_13]; decide
          refine lv_tableIn (off := 35) (tgt := 96) M.1 M.2.1 dX5_task_61 (by rw [t_14]; decide) (by rw [t_14]; decide) (by rw [t_14]; rfl) (by decide) ?_
          refine lv_aload_n M.1 M.2.1 dX5_task_96 rfl (lv_at hl 0 rfl) ?_
          refine lv_iload_n M.1 M.2.1 dX5_task_97 rfl (lv_at hl 1 rfl) ?_
          refine lv_bipush (v := 20) M.1 M.2.1 dX5_task_98 (by decide) ?_
          obtain ⟨v_15, σ_16, h_17, hr⟩ := cbd hr
          refine x_callI (x_runV M K hB hl.1 [.int a0, .int 20] (rest := []) rfl (c_X5_of l Γ a0 20  σ_10 (v_15, σ_16) h_17) cy_X5_of (x_recv K hB isK_150.2 (ent_5 isK_150.1) rfl) wd_162 ⟨rfl, rfl, Nat.le_of_ble_eq_true rfl, Nat.le_of_ble_eq_true rfl⟩ (Nat.le_of_ble_eq_true rfl) ⟨Nat.zero_le _, Nat.zero_le _⟩ dX5_task_100) hB (fun H locs hB => ?_)
          replace hB : Bd Γ σ_16 s H locs := hB
          exact x_iret M hB (Option.some.inj hr) dX5_task_103
        · rw [if_neg c_13] at hr
          have t_14 : ¬ Int32.toInt a1 = 14 := lv_neT c_13 (by decide)
          by_cases c_18 : a1 = 15
          · rw [if_pos c_18] at hr
            have t_19 : Int32.toInt a1 = 15 := by rw [c_18]; decide
            refine lv_tableIn (off := 43) (tgt := 104) M.1 M.2.1 dX5_task_61 (by rw [t_19]; decide) (by rw [t_19]; decide) (by rw [t_19]; rfl) (by decide) ?_
            refine lv_aload_n M.1 M.2.1 dX5_task_104 rfl (lv_at hl 0 rfl) ?_
            refine lv_iload_n M.1 M.2.1 dX5_task_105 rfl (lv_at hl 1 rfl) ?_
            refine lv_bipush (v := 23) M.1 M.2.1 dX5_task_106 (by decide) ?_
            obtain ⟨v_20, σ_21, h_22, hr⟩ := cbd hr
            refine x_callI (x_runV M K hB hl.1 [.int a0, .int 23] (rest := []) rfl (c_X5_of l Γ a0 23  σ_10 (v_20, σ_21) h_22) cy_X5_of (x_recv K hB isK_150.2 (ent_5 isK_150.1) rfl) wd_162 ⟨rfl, rfl, Nat.le_of_ble_eq_true rfl, Nat.le_of_ble_eq_true rfl⟩ (Nat.le_of_ble_eq_true rfl) ⟨Nat.zero_le _, Nat.zero_le _⟩ dX5_task_108) hB (fun H locs hB => ?_)
            replace hB : Bd Γ σ_21 s H locs := hB
            exact x_iret M hB (Option.some.inj hr) dX5_task_111
          · rw [if_neg c_18] at hr
            have t_19 : ¬ Int32.toInt a1 = 15 := lv_neT c_18 (by decide)
            by_cases c_23 : a1 = 16
            · rw [if_pos c_23] at hr
              have t_24 : Int32.toInt a1 = 16 := by rw [c_23]; decide
              refine lv_tableIn (off := 51) (tgt := 112) M.1 M.2.1 dX5_task_61 (by rw [t_24]; decide) (by rw [t_24]; decide) (by rw [t_24]; rfl) (by decide) ?_
              refine lv_aload_n M.1 M.2.1 dX5_task_112 rfl (lv_at hl 0 rfl) ?_
              refine lv_iload_n M.1 M.2.1 dX5_task_113 rfl (lv_at hl 1 rfl) ?_
              refine lv_bipush (v := 16) M.1 M.2.1 dX5_task_114 (by decide) ?_
              obtain ⟨v_25, σ_26, h_27, hr⟩ := cbd hr
              refine x_callI (x_runV M K hB hl.1 [.int a0, .int 16] (rest := []) rfl (c_X5_of l Γ a0 16  σ_10 (v_25, σ_26) h_27) cy_X5_of (x_recv K hB isK_150.2 (ent_5 isK_150.1) rfl) wd_162 ⟨rfl, rfl, Nat.le_of_ble_eq_true rfl, Nat.le_of_ble_eq_true rfl⟩ (Nat.le_of_ble_eq_true rfl) ⟨Nat.zero_le _, Nat.zero_le _⟩ dX5_task_116) hB (fun H locs hB => ?_)
              replace hB : Bd Γ σ_26 s H locs := hB
              exact x_iret M hB (Option.some.inj hr) dX5_task_119
            · rw [if_neg c_23] at hr
              have t_24 : ¬ Int32.toInt a1 = 16 := lv_neT c_23 (by decide)
              by_cases c_28 : a1 = 17
              · rw [if_pos c_28] at hr
                have t_29 : Int32.toInt a1 = 17 := by rw [c_28]; decide
                refine lv_tableIn (off := 59) (tgt := 120) M.1 M.2.1 dX5_task_61 (by rw [t_29]; decide) (by rw [t_29]; decide) (by rw [t_29]; rfl) (by decide) ?_
                refine lv_aload_n M.1 M.2.1 dX5_task_120 rfl (lv_at hl 0 rfl) ?_
                refine lv_iload_n M.1 M.2.1 dX5_task_121 rfl (lv_at hl 1 rfl) ?_
                refine lv_bipush (v := 17) M.1 M.2.1 dX5_task_122 (by decide) ?_
                obtain ⟨v_30, σ_31, h_32, hr⟩ := cbd hr
                refine x_callI (x_runV M K hB hl.1 [.int a0, .int 17] (rest := []) rfl (c_X5_of l Γ a0 17  σ_10 (v_30, σ_31) h_32) cy_X5_of (x_recv K hB isK_150.2 (ent_5 isK_150.1) rfl) wd_162 ⟨rfl, rfl, Nat.le_of_ble_eq_true rfl, Nat.le_of_ble_eq_true rfl⟩ (Nat.le_of_ble_eq_true rfl) ⟨Nat.zero_le _, Nat.zero_le _⟩ dX5_task_124) hB (fun H locs hB => ?_)
                replace hB : Bd Γ σ_31 s H locs := hB
                refine lv_iconst (v := 1) M.1 M.2.1 dX5_task_127 (by decide) ?_
                refine lv_icmp_ne (tgt := 141) M.1 M.2.1 dX5_task_128 (by decide) (fun c_33 => ?_) (fun c_33 => ?_)
                · rw [if_neg c_33] at hr
                  refine lv_bipush (v := (-6)) M.1 M.2.1 dX5_task_141 (by decide) ?_
                  exact w_X5_task_143 M K a0 a1  (-6) _ _ _ _  hB (lv_sub hl [] rfl) hr
                · rw [if_pos c_33] at hr
                  refine lv_aload_n M.1 M.2.1 dX5_task_131 rfl (lv_at hl 0 rfl) ?_
                  refine lv_iload_n M.1 M.2.1 dX5_task_132 rfl (lv_at hl 1 rfl) ?_
                  refine lv_bipush (v := 18) M.1 M.2.1 dX5_task_133 (by decide) ?_
                  obtain ⟨v_34, σ_35, h_36, hr⟩ := cbd hr
                  refine x_callI (x_runV M K hB hl.1 [.int a0, .int 18] (rest := []) rfl (c_X5_of l Γ a0 18  σ_31 (v_34, σ_35) h_36) cy_X5_of (x_recv K hB isK_150.2 (ent_5 isK_150.1) rfl) wd_162 ⟨rfl, rfl, Nat.le_of_ble_eq_true rfl, Nat.le_of_ble_eq_true rfl⟩ (Nat.le_of_ble_eq_true rfl) ⟨Nat.zero_le _, Nat.zero_le _⟩ dX5_task_135) hB (fun H locs hB => ?_)
                  replace hB : Bd Γ σ_35 s H locs := hB
                  refine lv_goto (tgt := 143) M.1 M.2.1 dX5_task_138 (by decide) ?_
                  exact w_X5_task_143 M K a0 a1  v_34 _ _ _ _  hB (lv_sub hl [] rfl) hr
              · rw [if_neg c_28] at hr
                have t_29 : ¬ Int32.toInt a1 = 17 := lv_neT c_28 (by decide)
                by_cases c_37 : a1 = 18
                · rw [if_pos c_37] at hr
                  have t_38 : Int32.toInt a1 = 18 := by rw [c_37]; decide
                  refine lv_tableIn (off := 83) (tgt := 144) M.1 M.2.1 dX5_task_61 (by rw [t_38]; decide) (by rw [t_38]; decide) (by rw [t_38]; rfl) (by decide) ?_
                  refine lv_aload_n M.1 M.2.1 dX5_task_144 rfl (lv_at hl 0 rfl) ?_
                  refine lv_iload_n M.1 M.2.1 dX5_task_145 rfl (lv_at hl 1 rfl) ?_
                  refine lv_bipush (v := 19) M.1 M.2.1 dX5_task_146 (by decide) ?_
                  obtain ⟨v_39, σ_40, h_41, hr⟩ := cbd hr
                  refine x_callI (x_runV M K hB hl.1 [.int a0, .int 19] (rest := []) rfl (c_X5_of l Γ a0 19  σ_10 (v_39, σ_40) h_41) cy_X5_of (x_recv K hB isK_150.2 (ent_5 isK_150.1) rfl) wd_162 ⟨rfl, rfl, Nat.le_of_ble_eq_true rfl, Nat.le_of_ble_eq_true rfl⟩ (Nat.le_of_ble_eq_true rfl) ⟨Nat.zero_le _, Nat.zero_le _⟩ dX5_task_148) hB (fun H locs hB => ?_)
                  replace hB : Bd Γ σ_40 s H locs := hB
                  exact x_iret M hB (Option.some.inj hr) dX5_task_151
                · rw [if_neg c_37] at hr
                  have t_38 : ¬ Int32.toInt a1 = 18 := lv_neT c_37 (by decide)
                  refine lv_tableOut (tgt := 152) M.1 M.2.1 dX5_task_61 (by omega) (by decide) ?_
                  refine lv_bipush (v := (-2)) M.1 M.2.1 dX5_task_152 (by decide) ?_
                  exact x_iret M hB (Option.some.inj hr) dX5_task_154
      · rw [if_neg c_12] at hr
        refine lv_aload_n M.1 M.2.1 dX5_task_38 rfl (lv_at hl 0 rfl) ?_
        refine x_get5 M K hB isK_150 0 (by decide) wd_157 (v := .ref (Γ.1 151)) rfl dX5_task_39 ?_
        refine lv_bipush (v := 9) M.1 M.2.1 dX5_task_42 (by decide) ?_
        refine x_ialdL M K hB isA_151 (k := 9) (by decide) (by decide) dX5_task_44 ?_
        refine lv_iconst (v := 1) M.1 M.2.1 dX5_task_45 (by decide) ?_
        refine lv_icmp_ne (tgt := 58) M.1 M.2.1 dX5_task_46 (by decide) (fun c_42 => ?_) (fun c_42 => ?_)
        · rw [if_neg c_42] at hr
          refine lv_iconst (v := 0) M.1 M.2.1 dX5_task_58 (by decide) ?_
          exact w_X5_task_59 M K a0 a1  0 _ _ _ _  hB (lv_sub hl [] rfl) hr
        · rw [if_pos c_42] at hr
          refine lv_aload_n M.1 M.2.1 dX5_task_49 rfl (lv_at hl 0 rfl) ?_
          refine lv_iload_n M.1 M.2.1 dX5_task_50 rfl (lv_at hl 1 rfl) ?_
          refine lv_iload_n M.1 M.2.1 dX5_task_51 rfl (lv_at hl 2 rfl) ?_
          obtain ⟨v_43, σ_44, h_45, hr⟩ := cbd hr
          refine x_callI (x_runV M K hB hl.1 [.int a0, .int a1] (rest := []) rfl (c_X5_ofJob l Γ a0 a1  σ_10 (v_43, σ_44) h_45) cy_X5_ofJob (x_recv K hB isK_150.2 (ent_5 isK_150.1) rfl) wd_193 ⟨rfl, rfl, Nat.le_of_ble_eq_true rfl, Nat.le_of_ble_eq_true rfl⟩ (Nat.le_of_ble_eq_true rfl) ⟨Nat.zero_le _, Nat.zero_le _⟩ dX5_task_52) hB (fun H locs hB => ?_)
          replace hB : Bd Γ σ_44 s H locs := hB
          refine lv_goto (tgt := 59) M.1 M.2.1 dX5_task_55 (by decide) ?_
          exact w_X5_task_59 M K a0 a1  v_43 _ _ _ _  hB (lv_sub hl [] rfl) hr
    · rw [if_neg c_8] at hr
      refine lv_aload_n M.1 M.2.1 dX5_task_20 rfl (lv_at hl 0 rfl) ?_
      refine lv_iload_n M.1 M.2.1 dX5_task_21 rfl (lv_at hl 1 rfl) ?_
      refine lv_iload_n M.1 M.2.1 dX5_task_22 rfl (lv_at hl 2 rfl) ?_
      obtain ⟨v_46, σ_47, h_48, hr⟩ := cbd hr
      refine x_callI (x_runV M K hB hl.1 [.int a0, .int a1] (rest := []) rfl (c_X5_of l Γ a0 a1  σ_6 (v_46, σ_47) h_48) cy_X5_of (x_recv K hB isK_150.2 (ent_5 isK_150.1) rfl) wd_162 ⟨rfl, rfl, Nat.le_of_ble_eq_true rfl, Nat.le_of_ble_eq_true rfl⟩ (Nat.le_of_ble_eq_true rfl) ⟨Nat.zero_le _, Nat.zero_le _⟩ dX5_task_23) hB (fun H locs hB => ?_)
      replace hB : Bd Γ σ_47 s H locs := hB
      exact x_iret M hB (Option.some.inj hr) dX5_task_26
  · rw [if_pos c_4] at hr
    refine lv_iconst (v := (-1)) M.1 M.2.1 dX5_task_8 (by decide) ?_
    exact x_iret M hB (Option.some.inj hr) dX5_task_9
theorem c_X5_task (l : Launch) (Γ : GG) (a0 : Int32) (a1 : Int32)  (σ : Sg) (res : Int32 × Sg) (hr : f_X5_task_0 a0 a1 σ = some res) : Met l yX5_task (Cond.code yX5_task cX5_task 3 (some .int) :: gtb) rm_X5_task (va_Pc [.ref (Γ.1 150), .int a0, .int a1] (GI Γ σ)) (QI Γ res) 0 0 (AD Γ) :=
  x_metI (by decide) [.ref (Γ.1 150), .int a0, .int a1] (Nat.le_of_ble_eq_true rfl) (fun p e s m args below meth c M K ls hl hB => w_X5_task_0 M K a0 a1 σ _ _ ls hB hl hr)
abbrev rm_X5_record : Room := { frames := 1, cells := 0, slots := 0, locals := 22 }
def f_X5_record_43 (a0 : Int32) (a1 : Int32)   (σ : Sg) : Option (Int32 × Sg) :=
some ((-6), σ)
set_option maxHeartbeats 4000000 in
set_option maxRecDepth 100000 in
theorem w_X5_record_43 {p : Program} {l : Launch} {e : Env} {s : State} {m : MethodId} {args : Array Value} {below : List Frame} {meth : Method} {c : Code} {Γ : GG} {res : Int32 × Sg} (M : MX RX5 cX5_record 3 (some .int) p s m args meth c) (K : KK Γ s s.heap) (a0 : Int32) (a1 : Int32)  (σ : Sg) (H : Heap) (locs : List Loc) (ls : Array Slot)  (hB : Bd Γ σ s H locs) (hl : lv_has ls 3 []) (hr : f_X5_record_43 a0 a1   σ = some res) : WI Γ rm_X5_record p l e s m args below meth c H locs res (F0 m 43 ls []) := by
  unfold f_X5_record_43 at hr
  refine lv_bipush (v := (-6)) M.1 M.2.1 dX5_record_43 (by decide) ?_
  exact x_iret M hB (Option.some.inj hr) dX5_record_45
def f_X5_record_0 (a0 : Int32) (a1 : Int32)   (σ : Sg) : Option (Int32 × Sg) :=
cb (f_X5_in_0 a1 0 4 σ) fun v_1 σ_2 =>
if v_1 = 0 then
some ((-2), σ_2)
else
cb (f_X5_in_0 a0 0 ((σ_2 151 18) - 1) σ_2) fun v_5 σ_6 =>
if v_5 = 0 then
f_X5_record_43 a0 a1   σ_6
else
if (σ_6 151 18) - 16 ≤ a0 then
if (175 + (5 * (a0 - a0 / 16 * 16))) + a1 < 0 ∨ 255 ≤ ((175 + (5 * (a0 - a0 / 16 * 16))) + a1).toNatClampNeg then none else
some (σ_6 151 (((175 + (5 * (a0 - a0 / 16 * 16))) + a1).toNatClampNeg), σ_6)
else
f_X5_record_43 a0 a1   σ_6
set_option maxHeartbeats 4000000 in
set_option maxRecDepth 100000 in
theorem w_X5_record_0 {p : Program} {l : Launch} {e : Env} {s : State} {m : MethodId} {args : Array Value} {below : List Frame} {meth : Method} {c : Code} {Γ : GG} {res : Int32 × Sg} (M : MX RX5 cX5_record 3 (some .int) p s m args meth c) (K : KK Γ s s.heap) (a0 : Int32) (a1 : Int32)  (σ : Sg) (H : Heap) (locs : List Loc) (ls : Array Slot)  (hB : Bd Γ σ s H locs) (hl : lv_has ls 3 [(0, .ref (Γ.1 150)), (1, .int a0), (2, .int a1)]) (hr : f_X5_record_0 a0 a1   σ = some res) : WI Γ rm_X5_record p l e s m args below meth c H locs res (F0 m 0 ls []) := by
  unfold f_X5_record_0 at hr
  refine lv_iload_n M.1 M.2.1 dX5_record_0 rfl (lv_at hl 2 rfl) ?_
  refine lv_iconst (v := 0) M.1 M.2.1 dX5_record_1 (by decide) ?_
  refine lv_iconst (v := 4) M.1 M.2.1 dX5_record_2 (by decide) ?_
  obtain ⟨v_1, σ_2, h_3, hr⟩ := cbd hr
  refine x_callI (x_runS M K hB hl.1 [.int a1, .int 0, .int 4] (rest := []) rfl (c_X5_in l Γ a1 0 4  σ (v_1, σ_2) h_3) cy_X5_in wd_155 ⟨rfl, rfl, Nat.le_of_ble_eq_true rfl, Nat.le_of_ble_eq_true rfl⟩ (Nat.le_of_ble_eq_true rfl) ⟨Nat.zero_le _, Nat.zero_le _⟩ dX5_record_3) hB (fun H locs hB => ?_)
  replace hB : Bd Γ σ_2 s H locs := hB
  refine lv_if_ne (tgt := 12) M.1 M.2.1 dX5_record_6 (by decide) (fun c_4 => ?_) (fun c_4 => ?_)
  · rw [if_neg c_4] at hr
    refine lv_iload_n M.1 M.2.1 dX5_record_12 rfl (lv_at hl 1 rfl) ?_
    refine lv_iconst (v := 0) M.1 M.2.1 dX5_record_13 (by decide) ?_
    refine lv_aload_n M.1 M.2.1 dX5_record_14 rfl (lv_at hl 0 rfl) ?_
    refine x_get5 M K hB isK_150 0 (by decide) wd_157 (v := .ref (Γ.1 151)) rfl dX5_record_15 ?_
    refine lv_bipush (v := 18) M.1 M.2.1 dX5_record_18 (by decide) ?_
    refine x_ialdL M K hB isA_151 (k := 18) (by decide) (by decide) dX5_record_20 ?_
    refine lv_iconst (v := 1) M.1 M.2.1 dX5_record_21 (by decide) ?_
    refine lv_isub M.1 M.2.1 dX5_record_22 ?_
    obtain ⟨v_5, σ_6, h_7, hr⟩ := cbd hr
    refine x_callI (x_runS M K hB hl.1 [.int a0, .int 0, .int ((σ_2 151 18) - 1)] (rest := []) rfl (c_X5_in l Γ a0 0 ((σ_2 151 18) - 1)  σ_2 (v_5, σ_6) h_7) cy_X5_in wd_155 ⟨rfl, rfl, Nat.le_of_ble_eq_true rfl, Nat.le_of_ble_eq_true rfl⟩ (Nat.le_of_ble_eq_true rfl) ⟨Nat.zero_le _, Nat.zero_le _⟩ dX5_record_23) hB (fun H locs hB => ?_)
    replace hB : Bd Γ σ_6 s H locs := hB
    refine lv_if_eq (tgt := 43) M.1 M.2.1 dX5_record_26 (by decide) (fun c_8 => ?_) (fun c_8 => ?_)
    · rw [if_pos c_8] at hr
      exact w_X5_record_43 M K a0 a1   _ _ _ _  hB (lv_sub hl [] rfl) hr
    · rw [if_neg c_8] at hr
      refine lv_iload_n M.1 M.2.1 dX5_record_29 rfl (lv_at hl 1 rfl) ?_
      refine lv_aload_n M.1 M.2.1 dX5_record_30 rfl (lv_at hl 0 rfl) ?_
      refine x_get5 M K hB isK_150 0 (by decide) wd_157 (v := .ref (Γ.1 151)) rfl dX5_record_31 ?_
      refine lv_bipush (v := 18) M.1 M.2.1 dX5_record_34 (by decide) ?_
      refine x_ialdL M K hB isA_151 (k := 18) (by decide) (by decide) dX5_record_36 ?_
      refine lv_bipush (v := 16) M.1 M.2.1 dX5_record_37 (by decide) ?_
      refine lv_isub M.1 M.2.1 dX5_record_39 ?_
      refine lv_icmp_ge (tgt := 46) M.1 M.2.1 dX5_record_40 (by decide) (fun c_9 => ?_) (fun c_9 => ?_)
      · rw [if_pos c_9] at hr
        refine lv_aload_n M.1 M.2.1 dX5_record_46 rfl (lv_at hl 0 rfl) ?_
        refine x_get5 M K hB isK_150 0 (by decide) wd_157 (v := .ref (Γ.1 151)) rfl dX5_record_47 ?_
        refine lv_sipush (v := 175) M.1 M.2.1 dX5_record_50 (by decide) ?_
        refine lv_iconst (v := 5) M.1 M.2.1 dX5_record_53 (by decide) ?_
        refine lv_iload_n M.1 M.2.1 dX5_record_54 rfl (lv_at hl 1 rfl) ?_
        refine lv_bipush (v := 16) M.1 M.2.1 dX5_record_55 (by decide) ?_
        refine lv_irem M.1 M.2.1 dX5_record_57 (by decide) ?_
        refine lv_imul M.1 M.2.1 dX5_record_58 ?_
        refine lv_iadd M.1 M.2.1 dX5_record_59 ?_
        refine lv_iload_n M.1 M.2.1 dX5_record_60 rfl (lv_at hl 2 rfl) ?_
        refine lv_iadd M.1 M.2.1 dX5_record_61 ?_
        obtain ⟨g_10, hr⟩ := gd hr
        refine x_iald M K hB isA_151 g_10 dX5_record_62 ?_
        exact x_iret M hB (Option.some.inj hr) dX5_record_63
      · rw [if_neg c_9] at hr
        exact w_X5_record_43 M K a0 a1   _ _ _ _  hB (lv_sub hl [] rfl) hr
  · rw [if_pos c_4] at hr
    refine lv_bipush (v := (-2)) M.1 M.2.1 dX5_record_9 (by decide) ?_
    exact x_iret M hB (Option.some.inj hr) dX5_record_11
theorem c_X5_record (l : Launch) (Γ : GG) (a0 : Int32) (a1 : Int32)  (σ : Sg) (res : Int32 × Sg) (hr : f_X5_record_0 a0 a1 σ = some res) : Met l yX5_record (Cond.code yX5_record cX5_record 3 (some .int) :: gtb) rm_X5_record (va_Pc [.ref (Γ.1 150), .int a0, .int a1] (GI Γ σ)) (QI Γ res) 0 0 (AD Γ) :=
  x_metI (by decide) [.ref (Γ.1 150), .int a0, .int a1] (Nat.le_of_ble_eq_true rfl) (fun p e s m args below meth c M K ls hl hB => w_X5_record_0 M K a0 a1 σ _ _ ls hB hl hr)
abbrev rm_X5_clear : Room := { frames := 2, cells := 0, slots := 0, locals := 44 }
def f_X5_clear_0 (a0 : Int32)   (σ : Sg) : Option (Int32 × Sg) :=
cb (f_X5_isTask_0 a0 σ) fun v_1 σ_2 =>
if v_1 = 0 then
some ((-1), σ_2)
else
cb (f_X5_of_0 a0 16 σ_2) fun v_5 σ_6 =>
cb (f_X5_lay_0 a0 16 0 σ_6) fun v_8 σ_9 =>
cb (f_X5_lay_0 a0 17 0 σ_9) fun v_11 σ_12 =>
cb (f_X5_lay_0 a0 19 0 σ_12) fun v_14 σ_15 =>
some (v_5, σ_15)
set_option maxHeartbeats 4000000 in
set_option maxRecDepth 100000 in
theorem w_X5_clear_0 {p : Program} {l : Launch} {e : Env} {s : State} {m : MethodId} {args : Array Value} {below : List Frame} {meth : Method} {c : Code} {Γ : GG} {res : Int32 × Sg} (M : MX RX5 cX5_clear 3 (some .int) p s m args meth c) (K : KK Γ s s.heap) (a0 : Int32)  (σ : Sg) (H : Heap) (locs : List Loc) (ls : Array Slot)  (hB : Bd Γ σ s H locs) (hl : lv_has ls 3 [(0, .ref (Γ.1 150)), (1, .int a0)]) (hr : f_X5_clear_0 a0   σ = some res) : WI Γ rm_X5_clear p l e s m args below meth c H locs res (F0 m 0 ls []) := by
  unfold f_X5_clear_0 at hr
  refine lv_aload_n M.1 M.2.1 dX5_clear_0 rfl (lv_at hl 0 rfl) ?_
  refine lv_iload_n M.1 M.2.1 dX5_clear_1 rfl (lv_at hl 1 rfl) ?_
  obtain ⟨v_1, σ_2, h_3, hr⟩ := cbd hr
  refine x_callI (x_runV M K hB hl.1 [.int a0] (rest := []) rfl (c_X5_isTask l Γ a0  σ (v_1, σ_2) h_3) cy_X5_isTask (x_recv K hB isK_150.2 (ent_5 isK_150.1) rfl) wd_160 ⟨rfl, rfl, Nat.le_of_ble_eq_true rfl, Nat.le_of_ble_eq_true rfl⟩ (Nat.le_of_ble_eq_true rfl) ⟨Nat.zero_le _, Nat.zero_le _⟩ dX5_clear_2) hB (fun H locs hB => ?_)
  replace hB : Bd Γ σ_2 s H locs := hB
  refine lv_if_ne (tgt := 10) M.1 M.2.1 dX5_clear_5 (by decide) (fun c_4 => ?_) (fun c_4 => ?_)
  · rw [if_neg c_4] at hr
    refine lv_aload_n M.1 M.2.1 dX5_clear_10 rfl (lv_at hl 0 rfl) ?_
    refine lv_iload_n M.1 M.2.1 dX5_clear_11 rfl (lv_at hl 1 rfl) ?_
    refine lv_bipush (v := 16) M.1 M.2.1 dX5_clear_12 (by decide) ?_
    obtain ⟨v_5, σ_6, h_7, hr⟩ := cbd hr
    refine x_callI (x_runV M K hB hl.1 [.int a0, .int 16] (rest := []) rfl (c_X5_of l Γ a0 16  σ_2 (v_5, σ_6) h_7) cy_X5_of (x_recv K hB isK_150.2 (ent_5 isK_150.1) rfl) wd_162 ⟨rfl, rfl, Nat.le_of_ble_eq_true rfl, Nat.le_of_ble_eq_true rfl⟩ (Nat.le_of_ble_eq_true rfl) ⟨Nat.zero_le _, Nat.zero_le _⟩ dX5_clear_14) hB (fun H locs hB => ?_)
    replace hB : Bd Γ σ_6 s H locs := hB
    refine lv_istore_n (lv' := [(2, .int v_5), (0, .ref (Γ.1 150)), (1, .int a0)]) M.1 M.2.1 dX5_clear_17 rfl hl (by decide) rfl (fun ls hl => ?_)
    refine lv_aload_n M.1 M.2.1 dX5_clear_18 rfl (lv_at hl 1 rfl) ?_
    refine lv_iload_n M.1 M.2.1 dX5_clear_19 rfl (lv_at hl 2 rfl) ?_
    refine lv_bipush (v := 16) M.1 M.2.1 dX5_clear_20 (by decide) ?_
    refine lv_iconst (v := 0) M.1 M.2.1 dX5_clear_22 (by decide) ?_
    obtain ⟨v_8, σ_9, h_10, hr⟩ := cbd hr
    refine x_callV (x_runV M K hB hl.1 [.int a0, .int 16, .int 0] (rest := []) rfl (c_X5_lay l Γ a0 16 0  σ_6 (v_8, σ_9) h_10) cy_X5_lay (x_recv K hB isK_150.2 (ent_5 isK_150.1) rfl) wd_159 ⟨rfl, rfl, Nat.le_of_ble_eq_true rfl, Nat.le_of_ble_eq_true rfl⟩ (Nat.le_of_ble_eq_true rfl) ⟨Nat.zero_le _, Nat.zero_le _⟩ dX5_clear_23) hB (fun H locs hB => ?_)
    replace hB : Bd Γ σ_9 s H locs := hB
    refine lv_aload_n M.1 M.2.1 dX5_clear_26 rfl (lv_at hl 1 rfl) ?_
    refine lv_iload_n M.1 M.2.1 dX5_clear_27 rfl (lv_at hl 2 rfl) ?_
    refine lv_bipush (v := 17) M.1 M.2.1 dX5_clear_28 (by decide) ?_
    refine lv_iconst (v := 0) M.1 M.2.1 dX5_clear_30 (by decide) ?_
    obtain ⟨v_11, σ_12, h_13, hr⟩ := cbd hr
    refine x_callV (x_runV M K hB hl.1 [.int a0, .int 17, .int 0] (rest := []) rfl (c_X5_lay l Γ a0 17 0  σ_9 (v_11, σ_12) h_13) cy_X5_lay (x_recv K hB isK_150.2 (ent_5 isK_150.1) rfl) wd_159 ⟨rfl, rfl, Nat.le_of_ble_eq_true rfl, Nat.le_of_ble_eq_true rfl⟩ (Nat.le_of_ble_eq_true rfl) ⟨Nat.zero_le _, Nat.zero_le _⟩ dX5_clear_31) hB (fun H locs hB => ?_)
    replace hB : Bd Γ σ_12 s H locs := hB
    refine lv_aload_n M.1 M.2.1 dX5_clear_34 rfl (lv_at hl 1 rfl) ?_
    refine lv_iload_n M.1 M.2.1 dX5_clear_35 rfl (lv_at hl 2 rfl) ?_
    refine lv_bipush (v := 19) M.1 M.2.1 dX5_clear_36 (by decide) ?_
    refine lv_iconst (v := 0) M.1 M.2.1 dX5_clear_38 (by decide) ?_
    obtain ⟨v_14, σ_15, h_16, hr⟩ := cbd hr
    refine x_callV (x_runV M K hB hl.1 [.int a0, .int 19, .int 0] (rest := []) rfl (c_X5_lay l Γ a0 19 0  σ_12 (v_14, σ_15) h_16) cy_X5_lay (x_recv K hB isK_150.2 (ent_5 isK_150.1) rfl) wd_159 ⟨rfl, rfl, Nat.le_of_ble_eq_true rfl, Nat.le_of_ble_eq_true rfl⟩ (Nat.le_of_ble_eq_true rfl) ⟨Nat.zero_le _, Nat.zero_le _⟩ dX5_clear_39) hB (fun H locs hB => ?_)
    replace hB : Bd Γ σ_15 s H locs := hB
    refine lv_iload_n M.1 M.2.1 dX5_clear_42 rfl (lv_at hl 0 rfl) ?_
    exact x_iret M hB (Option.some.inj hr) dX5_clear_43
  · rw [if_pos c_4] at hr
    refine lv_iconst (v := (-1)) M.1 M.2.1 dX5_clear_8 (by decide) ?_
    exact x_iret M hB (Option.some.inj hr) dX5_clear_9
theorem c_X5_clear (l : Launch) (Γ : GG) (a0 : Int32)  (σ : Sg) (res : Int32 × Sg) (hr : f_X5_clear_0 a0 σ = some res) : Met l yX5_clear (Cond.code yX5_clear cX5_clear 3 (some .int) :: gtb) rm_X5_clear (va_Pc [.ref (Γ.1 150), .int a0] (GI Γ σ)) (QI Γ res) 0 0 (AD Γ) :=
  x_metI (by decide) [.ref (Γ.1 150), .int a0] (Nat.le_of_ble_eq_true rfl) (fun p e s m args below meth c M K ls hl hB => w_X5_clear_0 M K a0 σ _ _ ls hB hl hr)
abbrev rm_X5_putAside : Room := { frames := 0, cells := 0, slots := 0, locals := 0 }
def f_X5_putAside_2   : Nat → Int32 → Sg → Option (Int32 × Sg)
  | 0, _, _ => none
  | f + 1, x1, σ => if 255 ≤ x1 then
some (0, σ)
else
if x1 < 0 ∨ 255 ≤ x1.toNatClampNeg then none else
if x1 < 0 ∨ 255 ≤ x1.toNatClampNeg then none else
wb (st σ 152 (x1.toNatClampNeg) (σ 151 (x1.toNatClampNeg))) fun σ_4 =>
f_X5_putAside_2   f (x1 + 1) σ_4
set_option maxHeartbeats 4000000 in
set_option maxRecDepth 100000 in
theorem w_X5_putAside_2 {p : Program} {l : Launch} {e : Env} {s : State} {m : MethodId} {args : Array Value} {below : List Frame} {meth : Method} {c : Code} {Γ : GG} {res : Int32 × Sg} (M : MX RX5 cX5_putAside 2 none p s m args meth c) (K : KK Γ s s.heap)  : ∀ (f : Nat) (x1 : Int32) (σ : Sg) (H : Heap) (locs : List Loc) (ls : Array Slot)  (hB : Bd Γ σ s H locs) (hl : lv_has ls 2 [(0, .ref (Γ.1 150)), (1, .int x1)]) (hr : f_X5_putAside_2   f x1 σ = some res), WV Γ rm_X5_putAside p l e s m args below meth c H locs res (F0 m 2 ls []) := by
  intro f
  induction f with
  | zero => intros; rename_i hr; exact absurd hr (by rw [f_X5_putAside_2]; exact fun h => by cases h)
  | succ f ih_2 =>
    intro x1 σ H locs ls  hB hl hr
    rw [f_X5_putAside_2] at hr
    refine lv_iload_n M.1 M.2.1 dX5_putAside_2 rfl (lv_at hl 1 rfl) ?_
    refine lv_sipush (v := 255) M.1 M.2.1 dX5_putAside_3 (by decide) ?_
    refine lv_icmp_ge (tgt := 27) M.1 M.2.1 dX5_putAside_6 (by decide) (fun c_1 => ?_) (fun c_1 => ?_)
    · rw [if_pos c_1] at hr
      exact x_vret M hB (Option.some.inj hr) dX5_putAside_27
    · rw [if_neg c_1] at hr
      refine lv_aload_n M.1 M.2.1 dX5_putAside_9 rfl (lv_at hl 0 rfl) ?_
      refine x_get5 M K hB isK_150 1 (by decide) wd_194 (v := .ref (Γ.1 152)) rfl dX5_putAside_10 ?_
      refine lv_iload_n M.1 M.2.1 dX5_putAside_13 rfl (lv_at hl 1 rfl) ?_
      refine lv_aload_n M.1 M.2.1 dX5_putAside_14 rfl (lv_at hl 0 rfl) ?_
      refine x_get5 M K hB isK_150 0 (by decide) wd_157 (v := .ref (Γ.1 151)) rfl dX5_putAside_15 ?_
      refine lv_iload_n M.1 M.2.1 dX5_putAside_18 rfl (lv_at hl 1 rfl) ?_
      obtain ⟨g_2, hr⟩ := gd hr
      refine x_iald M K hB isA_151 g_2 dX5_putAside_19 ?_
      obtain ⟨g_3, hr⟩ := gd hr
      obtain ⟨σ_4, e_5, hr⟩ := wbd hr
      refine x_iast M K hB isA_152 g_3 dX5_putAside_20 (fun H locs hB => ?_)
      rw [← e_5] at hB
      refine lv_iinc (v := x1 + 1) (lv' := [(1, .int (x1 + 1)), (0, .ref (Γ.1 150))]) M.1 M.2.1 dX5_putAside_21 hl (k := 1) rfl rfl (by decide) rfl (fun ls hl => ?_)
      refine lv_goto (tgt := 2) M.1 M.2.1 dX5_putAside_24 (by decide) ?_
      exact ih_2 (x1 + 1) _ _ _ _  hB (lv_sub hl [1, 0] rfl) hr
def f_X5_putAside_0    (σ : Sg) : Option (Int32 × Sg) :=
f_X5_putAside_2   FU 0 σ
set_option maxHeartbeats 4000000 in
set_option maxRecDepth 100000 in
theorem w_X5_putAside_0 {p : Program} {l : Launch} {e : Env} {s : State} {m : MethodId} {args : Array Value} {below : List Frame} {meth : Method} {c : Code} {Γ : GG} {res : Int32 × Sg} (M : MX RX5 cX5_putAside 2 none p s m args meth c) (K : KK Γ s s.heap)   (σ : Sg) (H : Heap) (locs : List Loc) (ls : Array Slot)  (hB : Bd Γ σ s H locs) (hl : lv_has ls 2 [(0, .ref (Γ.1 150))]) (hr : f_X5_putAside_0    σ = some res) : WV Γ rm_X5_putAside p l e s m args below meth c H locs res (F0 m 0 ls []) := by
  unfold f_X5_putAside_0 at hr
  refine lv_iconst (v := 0) M.1 M.2.1 dX5_putAside_0 (by decide) ?_
  refine lv_istore_n (lv' := [(1, .int 0), (0, .ref (Γ.1 150))]) M.1 M.2.1 dX5_putAside_1 rfl hl (by decide) rfl (fun ls hl => ?_)
  exact w_X5_putAside_2 M K   FU 0 _ _ _ _  hB (lv_sub hl [1, 0] rfl) hr
theorem c_X5_putAside (l : Launch) (Γ : GG)   (σ : Sg) (res : Int32 × Sg) (hr : f_X5_putAside_0  σ = some res) : Met l yX5_putAside (Cond.code yX5_putAside cX5_putAside 2 none :: gtb) rm_X5_putAside (va_Pc [.ref (Γ.1 150)] (GI Γ σ)) (QV Γ res) 0 0 (AD Γ) :=
  x_metV (by decide) [.ref (Γ.1 150)] (Nat.le_of_ble_eq_true rfl) (fun p e s m args below meth c M K ls hl hB => w_X5_putAside_0 M K  σ _ _ ls hB hl hr)
abbrev rm_X5_putBack : Room := { frames := 0, cells := 0, slots := 0, locals := 0 }
def f_X5_putBack_2   : Nat → Int32 → Sg → Option (Int32 × Sg)
  | 0, _, _ => none
  | f + 1, x1, σ => if 255 ≤ x1 then
some (0, σ)
else
if x1 < 0 ∨ 255 ≤ x1.toNatClampNeg then none else
if x1 < 0 ∨ 255 ≤ x1.toNatClampNeg then none else
wb (st σ 151 (x1.toNatClampNeg) (σ 152 (x1.toNatClampNeg))) fun σ_4 =>
f_X5_putBack_2   f (x1 + 1) σ_4
set_option maxHeartbeats 4000000 in
set_option maxRecDepth 100000 in
theorem w_X5_putBack_2 {p : Program} {l : Launch} {e : Env} {s : State} {m : MethodId} {args : Array Value} {below : List Frame} {meth : Method} {c : Code} {Γ : GG} {res : Int32 × Sg} (M : MX RX5 cX5_putBack 2 none p s m args meth c) (K : KK Γ s s.heap)  : ∀ (f : Nat) (x1 : Int32) (σ : Sg) (H : Heap) (locs : List Loc) (ls : Array Slot)  (hB : Bd Γ σ s H locs) (hl : lv_has ls 2 [(0, .ref (Γ.1 150)), (1, .int x1)]) (hr : f_X5_putBack_2   f x1 σ = some res), WV Γ rm_X5_putBack p l e s m args below meth c H locs res (F0 m 2 ls []) := by
  intro f
  induction f with
  | zero => intros; rename_i hr; exact absurd hr (by rw [f_X5_putBack_2]; exact fun h => by cases h)
  | succ f ih_2 =>
    intro x1 σ H locs ls  hB hl hr
    rw [f_X5_putBack_2] at hr
    refine lv_iload_n M.1 M.2.1 dX5_putBack_2 rfl (lv_at hl 1 rfl) ?_
    refine lv_sipush (v := 255) M.1 M.2.1 dX5_putBack_3 (by decide) ?_
    refine lv_icmp_ge (tgt := 27) M.1 M.2.1 dX5_putBack_6 (by decide) (fun c_1 => ?_) (fun c_1 => ?_)
    · rw [if_pos c_1] at hr
      exact x_vret M hB (Option.some.inj hr) dX5_putBack_27
    · rw [if_neg c_1] at hr
      refine lv_aload_n M.1 M.2.1 dX5_putBack_9 rfl (lv_at hl 0 rfl) ?_
      refine x_get5 M K hB isK_150 0 (by decide) wd_157 (v := .ref (Γ.1 151)) rfl dX5_putBack_10 ?_
      refine lv_iload_n M.1 M.2.1 dX5_putBack_13 rfl (lv_at hl 1 rfl) ?_
      refine lv_aload_n M.1 M.2.1 dX5_putBack_14 rfl (lv_at hl 0 rfl) ?_
      refine x_get5 M K hB isK_150 1 (by decide) wd_194 (v := .ref (Γ.1 152)) rfl dX5_putBack_15 ?_
      refine lv_iload_n M.1 M.2.1 dX5_putBack_18 rfl (lv_at hl 1 rfl) ?_
      obtain ⟨g_2, hr⟩ := gd hr
      refine x_iald M K hB isA_152 g_2 dX5_putBack_19 ?_
      obtain ⟨g_3, hr⟩ := gd hr
      obtain ⟨σ_4, e_5, hr⟩ := wbd hr
      refine x_iast M K hB isA_151 g_3 dX5_putBack_20 (fun H locs hB => ?_)
      rw [← e_5] at hB
      refine lv_iinc (v := x1 + 1) (lv' := [(1, .int (x1 + 1)), (0, .ref (Γ.1 150))]) M.1 M.2.1 dX5_putBack_21 hl (k := 1) rfl rfl (by decide) rfl (fun ls hl => ?_)
      refine lv_goto (tgt := 2) M.1 M.2.1 dX5_putBack_24 (by decide) ?_
      exact ih_2 (x1 + 1) _ _ _ _  hB (lv_sub hl [1, 0] rfl) hr
def f_X5_putBack_0    (σ : Sg) : Option (Int32 × Sg) :=
f_X5_putBack_2   FU 0 σ
set_option maxHeartbeats 4000000 in
set_option maxRecDepth 100000 in
theorem w_X5_putBack_0 {p : Program} {l : Launch} {e : Env} {s : State} {m : MethodId} {args : Array Value} {below : List Frame} {meth : Method} {c : Code} {Γ : GG} {res : Int32 × Sg} (M : MX RX5 cX5_putBack 2 none p s m args meth c) (K : KK Γ s s.heap)   (σ : Sg) (H : Heap) (locs : List Loc) (ls : Array Slot)  (hB : Bd Γ σ s H locs) (hl : lv_has ls 2 [(0, .ref (Γ.1 150))]) (hr : f_X5_putBack_0    σ = some res) : WV Γ rm_X5_putBack p l e s m args below meth c H locs res (F0 m 0 ls []) := by
  unfold f_X5_putBack_0 at hr
  refine lv_iconst (v := 0) M.1 M.2.1 dX5_putBack_0 (by decide) ?_
  refine lv_istore_n (lv' := [(1, .int 0), (0, .ref (Γ.1 150))]) M.1 M.2.1 dX5_putBack_1 rfl hl (by decide) rfl (fun ls hl => ?_)
  exact w_X5_putBack_2 M K   FU 0 _ _ _ _  hB (lv_sub hl [1, 0] rfl) hr
theorem c_X5_putBack (l : Launch) (Γ : GG)   (σ : Sg) (res : Int32 × Sg) (hr : f_X5_putBack_0  σ = some res) : Met l yX5_putBack (Cond.code yX5_putBack cX5_putBack 2 none :: gtb) rm_X5_putBack (va_Pc [.ref (Γ.1 150)] (GI Γ σ)) (QV Γ res) 0 0 (AD Γ) :=
  x_metV (by decide) [.ref (Γ.1 150)] (Nat.le_of_ble_eq_true rfl) (fun p e s m args below meth c M K ls hl hB => w_X5_putBack_0 M K  σ _ _ ls hB hl hr)
abbrev rm_X5_forecast : Room := { frames := 8, cells := 0, slots := 0, locals := 173 }
def f_X5_forecast_0 (a0 : Int32)   (σ : Sg) : Option (Int32 × Sg) :=
cb (f_X5_in_0 a0 1 5000 σ) fun v_1 σ_2 =>
if v_1 = 0 then
some ((-2), σ_2)
else
cb (f_X5_putAside_0  σ_2) fun v_5 σ_6 =>
cb (f_X5_tickOfReset_0 a0 σ_6) fun v_8 σ_9 =>
cb (f_X5_putBack_0  σ_9) fun v_11 σ_12 =>
some (v_8, σ_12)
set_option maxHeartbeats 4000000 in
set_option maxRecDepth 100000 in
theorem w_X5_forecast_0 {p : Program} {l : Launch} {e : Env} {s : State} {m : MethodId} {args : Array Value} {below : List Frame} {meth : Method} {c : Code} {Γ : GG} {res : Int32 × Sg} (M : MX RX5 cX5_forecast 3 (some .int) p s m args meth c) (K : KK Γ s s.heap) (a0 : Int32)  (σ : Sg) (H : Heap) (locs : List Loc) (ls : Array Slot)  (hB : Bd Γ σ s H locs) (hl : lv_has ls 3 [(0, .ref (Γ.1 150)), (1, .int a0)]) (hr : f_X5_forecast_0 a0   σ = some res) : WI Γ rm_X5_forecast p l e s m args below meth c H locs res (F0 m 0 ls []) := by
  unfold f_X5_forecast_0 at hr
  refine lv_iload_n M.1 M.2.1 dX5_forecast_0 rfl (lv_at hl 1 rfl) ?_
  refine lv_iconst (v := 1) M.1 M.2.1 dX5_forecast_1 (by decide) ?_
  refine lv_sipush (v := 5000) M.1 M.2.1 dX5_forecast_2 (by decide) ?_
  obtain ⟨v_1, σ_2, h_3, hr⟩ := cbd hr
  refine x_callI (x_runS M K hB hl.1 [.int a0, .int 1, .int 5000] (rest := []) rfl (c_X5_in l Γ a0 1 5000  σ (v_1, σ_2) h_3) cy_X5_in wd_155 ⟨rfl, rfl, Nat.le_of_ble_eq_true rfl, Nat.le_of_ble_eq_true rfl⟩ (Nat.le_of_ble_eq_true rfl) ⟨Nat.zero_le _, Nat.zero_le _⟩ dX5_forecast_5) hB (fun H locs hB => ?_)
  replace hB : Bd Γ σ_2 s H locs := hB
  refine lv_if_ne (tgt := 14) M.1 M.2.1 dX5_forecast_8 (by decide) (fun c_4 => ?_) (fun c_4 => ?_)
  · rw [if_neg c_4] at hr
    refine lv_aload_n M.1 M.2.1 dX5_forecast_14 rfl (lv_at hl 0 rfl) ?_
    obtain ⟨v_5, σ_6, h_7, hr⟩ := cbd hr
    refine x_callV (x_runV M K hB hl.1 [] (rest := []) rfl (c_X5_putAside l Γ   σ_2 (v_5, σ_6) h_7) cy_X5_putAside (x_recv K hB isK_150.2 (ent_5 isK_150.1) rfl) wd_195 ⟨rfl, rfl, Nat.le_of_ble_eq_true rfl, Nat.le_of_ble_eq_true rfl⟩ (Nat.le_of_ble_eq_true rfl) ⟨Nat.zero_le _, Nat.zero_le _⟩ dX5_forecast_15) hB (fun H locs hB => ?_)
    replace hB : Bd Γ σ_6 s H locs := hB
    refine lv_aload_n M.1 M.2.1 dX5_forecast_18 rfl (lv_at hl 0 rfl) ?_
    refine lv_iload_n M.1 M.2.1 dX5_forecast_19 rfl (lv_at hl 1 rfl) ?_
    obtain ⟨v_8, σ_9, h_10, hr⟩ := cbd hr
    refine x_callI (x_runV M K hB hl.1 [.int a0] (rest := []) rfl (c_X5_tickOfReset l Γ a0  σ_6 (v_8, σ_9) h_10) cy_X5_tickOfReset (x_recv K hB isK_150.2 (ent_5 isK_150.1) rfl) wd_190 ⟨rfl, rfl, Nat.le_of_ble_eq_true rfl, Nat.le_of_ble_eq_true rfl⟩ (Nat.le_of_ble_eq_true rfl) ⟨Nat.zero_le _, Nat.zero_le _⟩ dX5_forecast_20) hB (fun H locs hB => ?_)
    replace hB : Bd Γ σ_9 s H locs := hB
    refine lv_istore_n (lv' := [(2, .int v_8), (0, .ref (Γ.1 150)), (1, .int a0)]) M.1 M.2.1 dX5_forecast_23 rfl hl (by decide) rfl (fun ls hl => ?_)
    refine lv_aload_n M.1 M.2.1 dX5_forecast_24 rfl (lv_at hl 1 rfl) ?_
    obtain ⟨v_11, σ_12, h_13, hr⟩ := cbd hr
    refine x_callV (x_runV M K hB hl.1 [] (rest := []) rfl (c_X5_putBack l Γ   σ_9 (v_11, σ_12) h_13) cy_X5_putBack (x_recv K hB isK_150.2 (ent_5 isK_150.1) rfl) wd_196 ⟨rfl, rfl, Nat.le_of_ble_eq_true rfl, Nat.le_of_ble_eq_true rfl⟩ (Nat.le_of_ble_eq_true rfl) ⟨Nat.zero_le _, Nat.zero_le _⟩ dX5_forecast_25) hB (fun H locs hB => ?_)
    replace hB : Bd Γ σ_12 s H locs := hB
    refine lv_iload_n M.1 M.2.1 dX5_forecast_28 rfl (lv_at hl 0 rfl) ?_
    exact x_iret M hB (Option.some.inj hr) dX5_forecast_29
  · rw [if_pos c_4] at hr
    refine lv_bipush (v := (-2)) M.1 M.2.1 dX5_forecast_11 (by decide) ?_
    exact x_iret M hB (Option.some.inj hr) dX5_forecast_13
theorem c_X5_forecast (l : Launch) (Γ : GG) (a0 : Int32)  (σ : Sg) (res : Int32 × Sg) (hr : f_X5_forecast_0 a0 σ = some res) : Met l yX5_forecast (Cond.code yX5_forecast cX5_forecast 3 (some .int) :: gtb) rm_X5_forecast (va_Pc [.ref (Γ.1 150), .int a0] (GI Γ σ)) (QI Γ res) 0 0 (AD Γ) :=
  x_metI (by decide) [.ref (Γ.1 150), .int a0] (Nat.le_of_ble_eq_true rfl) (fun p e s m args below meth c M K ls hl hB => w_X5_forecast_0 M K a0 σ _ _ ls hB hl hr)
