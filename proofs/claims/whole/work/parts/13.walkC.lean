abbrev rm_X2_accept : Room := { frames := 1, cells := 0, slots := 0, locals := 20 }
def f_X2_accept_0 (a0 : Int32)   (σ : Sg) : Option (Int32 × Sg) :=
cb (f_X2_sign_0  σ) fun v_1 σ_2 =>
if v_1 = a0 then
wb (st σ_2 143 2 ((σ_2 143 2) + 1)) fun σ_5 =>
some (1, σ_5)
else
some (0, σ_2)
set_option maxHeartbeats 4000000 in
set_option maxRecDepth 100000 in
theorem w_X2_accept_0 {p : Program} {l : Launch} {e : Env} {s : State} {m : MethodId} {args : Array Value} {below : List Frame} {meth : Method} {c : Code} {Γ : GG} {res : Int32 × Sg} (M : MX RX2 cX2_accept 2 (some .boolean) p s m args meth c) (K : KK Γ s s.heap) (a0 : Int32)  (σ : Sg) (H : Heap) (locs : List Loc) (ls : Array Slot)  (hB : Bd Γ σ s H locs) (hl : lv_has ls 2 [(0, .ref (Γ.1 143)), (1, .int a0)]) (hr : f_X2_accept_0 a0   σ = some res) : WI Γ rm_X2_accept p l e s m args below meth c H locs res (F0 m 0 ls []) := by
  unfold f_X2_accept_0 at hr
  refine lv_aload_n M.1 M.2.1 dX2_accept_0 rfl (lv_at hl 0 rfl) ?_
  obtain ⟨v_1, σ_2, h_3, hr⟩ := cbd hr
  refine x_callI (x_runV M K hB hl.1 [] (rest := []) rfl (c_X2_sign l Γ   σ (v_1, σ_2) h_3) cy_X2_sign (x_recv K hB isK_143.2 (ent_2 isK_143.1) rfl) wd_81 ⟨rfl, rfl, Nat.le_of_ble_eq_true rfl, Nat.le_of_ble_eq_true rfl⟩ (Nat.le_of_ble_eq_true rfl) ⟨Nat.zero_le _, Nat.zero_le _⟩ dX2_accept_1) hB (fun H locs hB => ?_)
  replace hB : Bd Γ σ_2 s H locs := hB
  refine lv_iload_n M.1 M.2.1 dX2_accept_4 rfl (lv_at hl 1 rfl) ?_
  refine lv_icmp_eq (tgt := 10) M.1 M.2.1 dX2_accept_5 (by decide) (fun c_4 => ?_) (fun c_4 => ?_)
  · rw [if_pos c_4] at hr
    refine lv_aload_n M.1 M.2.1 dX2_accept_10 rfl (lv_at hl 0 rfl) ?_
    refine lv_dup M.1 M.2.1 dX2_accept_11 rfl ?_
    refine x_get2 M K hB isK_143 2 (by decide) wd_80 (v := .int (σ_2 143 2)) rfl dX2_accept_12 ?_
    refine lv_iconst (v := 1) M.1 M.2.1 dX2_accept_15 (by decide) ?_
    refine lv_iadd M.1 M.2.1 dX2_accept_16 ?_
    obtain ⟨σ_5, e_6, hr⟩ := wbd hr
    refine x_put2 M K hB isK_143 2 (by decide) wd_80 dX2_accept_17 (fun H locs hB => ?_)
    rw [← e_6] at hB
    refine lv_iconst (v := 1) M.1 M.2.1 dX2_accept_20 (by decide) ?_
    exact x_zret M hB (nar_z (by decide)) (Option.some.inj hr) dX2_accept_21
  · rw [if_neg c_4] at hr
    refine lv_iconst (v := 0) M.1 M.2.1 dX2_accept_8 (by decide) ?_
    exact x_zret M hB (nar_z (by decide)) (Option.some.inj hr) dX2_accept_9
theorem c_X2_accept (l : Launch) (Γ : GG) (a0 : Int32)  (σ : Sg) (res : Int32 × Sg) (hr : f_X2_accept_0 a0 σ = some res) : Met l yX2_accept (Cond.code yX2_accept cX2_accept 2 (some .boolean) :: gtb) rm_X2_accept (va_Pc [.ref (Γ.1 143), .int a0] (GI Γ σ)) (QI Γ res) 0 0 (AD Γ) :=
  x_metI (by decide) [.ref (Γ.1 143), .int a0] (Nat.le_of_ble_eq_true rfl) (fun p e s m args below meth c M K ls hl hB => w_X2_accept_0 M K a0 σ _ _ ls hB hl hr)
abbrev rm_X2_readNumber : Room := { frames := 2, cells := 0, slots := 0, locals := 41 }
def f_X2_readNumber_55 (a0 : Int32)  (x2 : Int32) (σ : Sg) : Option (Int32 × Sg) :=
some (x2, σ)
set_option maxHeartbeats 4000000 in
set_option maxRecDepth 100000 in
theorem w_X2_readNumber_55 {p : Program} {l : Launch} {e : Env} {s : State} {m : MethodId} {args : Array Value} {below : List Frame} {meth : Method} {c : Code} {Γ : GG} {res : Int32 × Sg} (M : MX RX2 cX2_readNumber 5 (some .int) p s m args meth c) (K : KK Γ s s.heap) (a0 : Int32) (x2 : Int32) (σ : Sg) (H : Heap) (locs : List Loc) (ls : Array Slot)  (hB : Bd Γ σ s H locs) (hl : lv_has ls 5 [(2, .int x2)]) (hr : f_X2_readNumber_55 a0  x2 σ = some res) : WI Γ rm_X2_readNumber p l e s m args below meth c H locs res (F0 m 55 ls []) := by
  unfold f_X2_readNumber_55 at hr
  refine lv_iload_n M.1 M.2.1 dX2_readNumber_55 rfl (lv_at hl 0 rfl) ?_
  exact x_iret M hB (Option.some.inj hr) dX2_readNumber_56
def f_X2_readNumber_23 (a0 : Int32)  : Nat → Int32 → Int32 → Int32 → Sg → Option (Int32 × Sg)
  | 0, _, _, _, _ => none
  | f + 1, x1, x2, x3, σ => if 60 ≤ x3 then
some (x2, σ)
else
cb (f_X2_digit_0  σ) fun v_8 σ_9 =>
if v_8 < 0 then
f_X2_readNumber_55 a0  x2 σ_9
else
if x2 = 0 then
f_X2_readNumber_55 a0  x2 σ_9
else
if (x2 * 10) + v_8 ≤ x1 then
wb (st σ_9 143 2 ((σ_9 143 2) + 1)) fun σ_14 =>
f_X2_readNumber_23 a0  f x1 ((x2 * 10) + v_8) (x3 + 1) σ_14
else
f_X2_readNumber_55 a0  x2 σ_9
set_option maxHeartbeats 4000000 in
set_option maxRecDepth 100000 in
theorem w_X2_readNumber_23 {p : Program} {l : Launch} {e : Env} {s : State} {m : MethodId} {args : Array Value} {below : List Frame} {meth : Method} {c : Code} {Γ : GG} {res : Int32 × Sg} (M : MX RX2 cX2_readNumber 5 (some .int) p s m args meth c) (K : KK Γ s s.heap) (a0 : Int32) : ∀ (f : Nat) (x1 : Int32) (x2 : Int32) (x3 : Int32) (σ : Sg) (H : Heap) (locs : List Loc) (ls : Array Slot)  (hB : Bd Γ σ s H locs) (hl : lv_has ls 5 [(0, .ref (Γ.1 143)), (1, .int x1), (2, .int x2), (3, .int x3)]) (hr : f_X2_readNumber_23 a0  f x1 x2 x3 σ = some res), WI Γ rm_X2_readNumber p l e s m args below meth c H locs res (F0 m 23 ls []) := by
  intro f
  induction f with
  | zero => intros; rename_i hr; exact absurd hr (by rw [f_X2_readNumber_23]; exact fun h => by cases h)
  | succ f ih_23 =>
    intro x1 x2 x3 σ H locs ls  hB hl hr
    rw [f_X2_readNumber_23] at hr
    refine lv_iload_n M.1 M.2.1 dX2_readNumber_23 rfl (lv_at hl 3 rfl) ?_
    refine lv_bipush (v := 60) M.1 M.2.1 dX2_readNumber_24 (by decide) ?_
    refine lv_icmp_ge (tgt := 81) M.1 M.2.1 dX2_readNumber_26 (by decide) (fun c_7 => ?_) (fun c_7 => ?_)
    · rw [if_pos c_7] at hr
      refine lv_iload_n M.1 M.2.1 dX2_readNumber_81 rfl (lv_at hl 2 rfl) ?_
      exact x_iret M hB (Option.some.inj hr) dX2_readNumber_82
    · rw [if_neg c_7] at hr
      refine lv_aload_n M.1 M.2.1 dX2_readNumber_29 rfl (lv_at hl 0 rfl) ?_
      obtain ⟨v_8, σ_9, h_10, hr⟩ := cbd hr
      refine x_callI (x_runV M K hB hl.1 [] (rest := []) rfl (c_X2_digit l Γ   σ (v_8, σ_9) h_10) cy_X2_digit (x_recv K hB isK_143.2 (ent_2 isK_143.1) rfl) wd_82 ⟨rfl, rfl, Nat.le_of_ble_eq_true rfl, Nat.le_of_ble_eq_true rfl⟩ (Nat.le_of_ble_eq_true rfl) ⟨Nat.zero_le _, Nat.zero_le _⟩ dX2_readNumber_30) hB (fun H locs hB => ?_)
      replace hB : Bd Γ σ_9 s H locs := hB
      refine lv_istore (lv' := [(4, .int v_8), (0, .ref (Γ.1 143)), (1, .int x1), (2, .int x2), (3, .int x3)]) M.1 M.2.1 dX2_readNumber_33 hl (by decide) rfl (fun ls hl => ?_)
      refine lv_iload M.1 M.2.1 dX2_readNumber_35 (lv_at hl 0 rfl) ?_
      refine lv_if_lt (tgt := 55) M.1 M.2.1 dX2_readNumber_37 (by decide) (fun c_11 => ?_) (fun c_11 => ?_)
      · rw [if_pos c_11] at hr
        exact w_X2_readNumber_55 M K a0  x2 _ _ _ _  hB (lv_sub hl [3] rfl) hr
      · rw [if_neg c_11] at hr
        refine lv_iload_n M.1 M.2.1 dX2_readNumber_40 rfl (lv_at hl 3 rfl) ?_
        refine lv_if_eq (tgt := 55) M.1 M.2.1 dX2_readNumber_41 (by decide) (fun c_12 => ?_) (fun c_12 => ?_)
        · rw [if_pos c_12] at hr
          exact w_X2_readNumber_55 M K a0  x2 _ _ _ _  hB (lv_sub hl [3] rfl) hr
        · rw [if_neg c_12] at hr
          refine lv_iload_n M.1 M.2.1 dX2_readNumber_44 rfl (lv_at hl 3 rfl) ?_
          refine lv_bipush (v := 10) M.1 M.2.1 dX2_readNumber_45 (by decide) ?_
          refine lv_imul M.1 M.2.1 dX2_readNumber_47 ?_
          refine lv_iload M.1 M.2.1 dX2_readNumber_48 (lv_at hl 0 rfl) ?_
          refine lv_iadd M.1 M.2.1 dX2_readNumber_50 ?_
          refine lv_iload_n M.1 M.2.1 dX2_readNumber_51 rfl (lv_at hl 2 rfl) ?_
          refine lv_icmp_le (tgt := 57) M.1 M.2.1 dX2_readNumber_52 (by decide) (fun c_13 => ?_) (fun c_13 => ?_)
          · rw [if_pos c_13] at hr
            refine lv_iload_n M.1 M.2.1 dX2_readNumber_57 rfl (lv_at hl 3 rfl) ?_
            refine lv_bipush (v := 10) M.1 M.2.1 dX2_readNumber_58 (by decide) ?_
            refine lv_imul M.1 M.2.1 dX2_readNumber_60 ?_
            refine lv_iload M.1 M.2.1 dX2_readNumber_61 (lv_at hl 0 rfl) ?_
            refine lv_iadd M.1 M.2.1 dX2_readNumber_63 ?_
            refine lv_istore_n (lv' := [(2, .int ((x2 * 10) + v_8)), (4, .int v_8), (0, .ref (Γ.1 143)), (1, .int x1), (3, .int x3)]) M.1 M.2.1 dX2_readNumber_64 rfl hl (by decide) rfl (fun ls hl => ?_)
            refine lv_aload_n M.1 M.2.1 dX2_readNumber_65 rfl (lv_at hl 2 rfl) ?_
            refine lv_dup M.1 M.2.1 dX2_readNumber_66 rfl ?_
            refine x_get2 M K hB isK_143 2 (by decide) wd_80 (v := .int (σ_9 143 2)) rfl dX2_readNumber_67 ?_
            refine lv_iconst (v := 1) M.1 M.2.1 dX2_readNumber_70 (by decide) ?_
            refine lv_iadd M.1 M.2.1 dX2_readNumber_71 ?_
            obtain ⟨σ_14, e_15, hr⟩ := wbd hr
            refine x_put2 M K hB isK_143 2 (by decide) wd_80 dX2_readNumber_72 (fun H locs hB => ?_)
            rw [← e_15] at hB
            refine lv_iinc (v := x3 + 1) (lv' := [(3, .int (x3 + 1)), (2, .int ((x2 * 10) + v_8)), (4, .int v_8), (0, .ref (Γ.1 143)), (1, .int x1)]) M.1 M.2.1 dX2_readNumber_75 hl (k := 4) rfl rfl (by decide) rfl (fun ls hl => ?_)
            refine lv_goto (tgt := 23) M.1 M.2.1 dX2_readNumber_78 (by decide) ?_
            exact ih_23 x1 ((x2 * 10) + v_8) (x3 + 1) _ _ _ _  hB (lv_sub hl [3, 4, 1, 0] rfl) hr
          · rw [if_neg c_13] at hr
            exact w_X2_readNumber_55 M K a0  x2 _ _ _ _  hB (lv_sub hl [3] rfl) hr
def f_X2_readNumber_0 (a0 : Int32)   (σ : Sg) : Option (Int32 × Sg) :=
cb (f_X2_digit_0  σ) fun v_1 σ_2 =>
if 0 ≤ v_1 then
wb (st σ_2 143 2 ((σ_2 143 2) + 1)) fun σ_5 =>
f_X2_readNumber_23 a0  FU a0 v_1 0 σ_5
else
some ((-1), σ_2)
set_option maxHeartbeats 4000000 in
set_option maxRecDepth 100000 in
theorem w_X2_readNumber_0 {p : Program} {l : Launch} {e : Env} {s : State} {m : MethodId} {args : Array Value} {below : List Frame} {meth : Method} {c : Code} {Γ : GG} {res : Int32 × Sg} (M : MX RX2 cX2_readNumber 5 (some .int) p s m args meth c) (K : KK Γ s s.heap) (a0 : Int32)  (σ : Sg) (H : Heap) (locs : List Loc) (ls : Array Slot)  (hB : Bd Γ σ s H locs) (hl : lv_has ls 5 [(0, .ref (Γ.1 143)), (1, .int a0)]) (hr : f_X2_readNumber_0 a0   σ = some res) : WI Γ rm_X2_readNumber p l e s m args below meth c H locs res (F0 m 0 ls []) := by
  unfold f_X2_readNumber_0 at hr
  refine lv_aload_n M.1 M.2.1 dX2_readNumber_0 rfl (lv_at hl 0 rfl) ?_
  obtain ⟨v_1, σ_2, h_3, hr⟩ := cbd hr
  refine x_callI (x_runV M K hB hl.1 [] (rest := []) rfl (c_X2_digit l Γ   σ (v_1, σ_2) h_3) cy_X2_digit (x_recv K hB isK_143.2 (ent_2 isK_143.1) rfl) wd_82 ⟨rfl, rfl, Nat.le_of_ble_eq_true rfl, Nat.le_of_ble_eq_true rfl⟩ (Nat.le_of_ble_eq_true rfl) ⟨Nat.zero_le _, Nat.zero_le _⟩ dX2_readNumber_1) hB (fun H locs hB => ?_)
  replace hB : Bd Γ σ_2 s H locs := hB
  refine lv_istore_n (lv' := [(2, .int v_1), (0, .ref (Γ.1 143)), (1, .int a0)]) M.1 M.2.1 dX2_readNumber_4 rfl hl (by decide) rfl (fun ls hl => ?_)
  refine lv_iload_n M.1 M.2.1 dX2_readNumber_5 rfl (lv_at hl 0 rfl) ?_
  refine lv_if_ge (tgt := 11) M.1 M.2.1 dX2_readNumber_6 (by decide) (fun c_4 => ?_) (fun c_4 => ?_)
  · rw [if_pos c_4] at hr
    refine lv_aload_n M.1 M.2.1 dX2_readNumber_11 rfl (lv_at hl 1 rfl) ?_
    refine lv_dup M.1 M.2.1 dX2_readNumber_12 rfl ?_
    refine x_get2 M K hB isK_143 2 (by decide) wd_80 (v := .int (σ_2 143 2)) rfl dX2_readNumber_13 ?_
    refine lv_iconst (v := 1) M.1 M.2.1 dX2_readNumber_16 (by decide) ?_
    refine lv_iadd M.1 M.2.1 dX2_readNumber_17 ?_
    obtain ⟨σ_5, e_6, hr⟩ := wbd hr
    refine x_put2 M K hB isK_143 2 (by decide) wd_80 dX2_readNumber_18 (fun H locs hB => ?_)
    rw [← e_6] at hB
    refine lv_iconst (v := 0) M.1 M.2.1 dX2_readNumber_21 (by decide) ?_
    refine lv_istore_n (lv' := [(3, .int 0), (2, .int v_1), (0, .ref (Γ.1 143)), (1, .int a0)]) M.1 M.2.1 dX2_readNumber_22 rfl hl (by decide) rfl (fun ls hl => ?_)
    exact w_X2_readNumber_23 M K a0  FU a0 v_1 0 _ _ _ _  hB (lv_sub hl [2, 3, 1, 0] rfl) hr
  · rw [if_neg c_4] at hr
    refine lv_iconst (v := (-1)) M.1 M.2.1 dX2_readNumber_9 (by decide) ?_
    exact x_iret M hB (Option.some.inj hr) dX2_readNumber_10
theorem c_X2_readNumber (l : Launch) (Γ : GG) (a0 : Int32)  (σ : Sg) (res : Int32 × Sg) (hr : f_X2_readNumber_0 a0 σ = some res) : Met l yX2_readNumber (Cond.code yX2_readNumber cX2_readNumber 5 (some .int) :: gtb) rm_X2_readNumber (va_Pc [.ref (Γ.1 143), .int a0] (GI Γ σ)) (QI Γ res) 0 0 (AD Γ) :=
  x_metI (by decide) [.ref (Γ.1 143), .int a0] (Nat.le_of_ble_eq_true rfl) (fun p e s m args below meth c M K ls hl hB => w_X2_readNumber_0 M K a0 σ _ _ ls hB hl hr)
abbrev rm_X2_keepFault : Room := { frames := 0, cells := 0, slots := 0, locals := 0 }
def f_X2_keepFault_0 (a0 : Int32) (a1 : Int32) (a2 : Int32) (a3 : Int32) (a4 : Int32)   (σ : Sg) : Option (Int32 × Sg) :=
if σ 143 3 < 20 then
if σ 143 3 < 0 ∨ 20 ≤ (σ 143 3).toNatClampNeg then none else
wb (st σ 149 ((σ 143 3).toNatClampNeg) a0) fun σ_3 =>
if σ_3 143 3 < 0 ∨ 20 ≤ (σ_3 143 3).toNatClampNeg then none else
wb (st σ_3 146 ((σ_3 143 3).toNatClampNeg) a1) fun σ_6 =>
if σ_6 143 3 < 0 ∨ 20 ≤ (σ_6 143 3).toNatClampNeg then none else
wb (st σ_6 145 ((σ_6 143 3).toNatClampNeg) a2) fun σ_9 =>
if σ_9 143 3 < 0 ∨ 20 ≤ (σ_9 143 3).toNatClampNeg then none else
wb (st σ_9 147 ((σ_9 143 3).toNatClampNeg) a3) fun σ_12 =>
if σ_12 143 3 < 0 ∨ 20 ≤ (σ_12 143 3).toNatClampNeg then none else
wb (st σ_12 148 ((σ_12 143 3).toNatClampNeg) a4) fun σ_15 =>
wb (st σ_15 143 3 ((σ_15 143 3) + 1)) fun σ_17 =>
some (0, σ_17)
else
some (0, σ)
set_option maxHeartbeats 4000000 in
set_option maxRecDepth 100000 in
theorem w_X2_keepFault_0 {p : Program} {l : Launch} {e : Env} {s : State} {m : MethodId} {args : Array Value} {below : List Frame} {meth : Method} {c : Code} {Γ : GG} {res : Int32 × Sg} (M : MX RX2 cX2_keepFault 6 none p s m args meth c) (K : KK Γ s s.heap) (a0 : Int32) (a1 : Int32) (a2 : Int32) (a3 : Int32) (a4 : Int32)  (σ : Sg) (H : Heap) (locs : List Loc) (ls : Array Slot)  (hB : Bd Γ σ s H locs) (hl : lv_has ls 6 [(0, .ref (Γ.1 143)), (1, .int a0), (2, .int a1), (3, .int a2), (4, .int a3), (5, .int a4)]) (hr : f_X2_keepFault_0 a0 a1 a2 a3 a4   σ = some res) : WV Γ rm_X2_keepFault p l e s m args below meth c H locs res (F0 m 0 ls []) := by
  unfold f_X2_keepFault_0 at hr
  refine lv_aload_n M.1 M.2.1 dX2_keepFault_0 rfl (lv_at hl 0 rfl) ?_
  refine x_get2 M K hB isK_143 3 (by decide) wd_83 (v := .int (σ 143 3)) rfl dX2_keepFault_1 ?_
  refine lv_bipush (v := 20) M.1 M.2.1 dX2_keepFault_4 (by decide) ?_
  refine lv_icmp_lt (tgt := 10) M.1 M.2.1 dX2_keepFault_6 (by decide) (fun c_1 => ?_) (fun c_1 => ?_)
  · rw [if_pos c_1] at hr
    refine lv_aload_n M.1 M.2.1 dX2_keepFault_10 rfl (lv_at hl 0 rfl) ?_
    refine x_get2 M K hB isK_143 8 (by decide) wd_84 (v := .ref (Γ.1 149)) rfl dX2_keepFault_11 ?_
    refine lv_aload_n M.1 M.2.1 dX2_keepFault_14 rfl (lv_at hl 0 rfl) ?_
    refine x_get2 M K hB isK_143 3 (by decide) wd_83 (v := .int (σ 143 3)) rfl dX2_keepFault_15 ?_
    refine lv_iload_n M.1 M.2.1 dX2_keepFault_18 rfl (lv_at hl 1 rfl) ?_
    obtain ⟨g_2, hr⟩ := gd hr
    obtain ⟨σ_3, e_4, hr⟩ := wbd hr
    refine x_iast M K hB isA_149 g_2 dX2_keepFault_19 (fun H locs hB => ?_)
    rw [← e_4] at hB
    refine lv_aload_n M.1 M.2.1 dX2_keepFault_20 rfl (lv_at hl 0 rfl) ?_
    refine x_get2 M K hB isK_143 5 (by decide) wd_85 (v := .ref (Γ.1 146)) rfl dX2_keepFault_21 ?_
    refine lv_aload_n M.1 M.2.1 dX2_keepFault_24 rfl (lv_at hl 0 rfl) ?_
    refine x_get2 M K hB isK_143 3 (by decide) wd_83 (v := .int (σ_3 143 3)) rfl dX2_keepFault_25 ?_
    refine lv_iload_n M.1 M.2.1 dX2_keepFault_28 rfl (lv_at hl 2 rfl) ?_
    obtain ⟨g_5, hr⟩ := gd hr
    obtain ⟨σ_6, e_7, hr⟩ := wbd hr
    refine x_iast M K hB isA_146 g_5 dX2_keepFault_29 (fun H locs hB => ?_)
    rw [← e_7] at hB
    refine lv_aload_n M.1 M.2.1 dX2_keepFault_30 rfl (lv_at hl 0 rfl) ?_
    refine x_get2 M K hB isK_143 4 (by decide) wd_86 (v := .ref (Γ.1 145)) rfl dX2_keepFault_31 ?_
    refine lv_aload_n M.1 M.2.1 dX2_keepFault_34 rfl (lv_at hl 0 rfl) ?_
    refine x_get2 M K hB isK_143 3 (by decide) wd_83 (v := .int (σ_6 143 3)) rfl dX2_keepFault_35 ?_
    refine lv_iload_n M.1 M.2.1 dX2_keepFault_38 rfl (lv_at hl 3 rfl) ?_
    obtain ⟨g_8, hr⟩ := gd hr
    obtain ⟨σ_9, e_10, hr⟩ := wbd hr
    refine x_iast M K hB isA_145 g_8 dX2_keepFault_39 (fun H locs hB => ?_)
    rw [← e_10] at hB
    refine lv_aload_n M.1 M.2.1 dX2_keepFault_40 rfl (lv_at hl 0 rfl) ?_
    refine x_get2 M K hB isK_143 6 (by decide) wd_87 (v := .ref (Γ.1 147)) rfl dX2_keepFault_41 ?_
    refine lv_aload_n M.1 M.2.1 dX2_keepFault_44 rfl (lv_at hl 0 rfl) ?_
    refine x_get2 M K hB isK_143 3 (by decide) wd_83 (v := .int (σ_9 143 3)) rfl dX2_keepFault_45 ?_
    refine lv_iload M.1 M.2.1 dX2_keepFault_48 (lv_at hl 4 rfl) ?_
    obtain ⟨g_11, hr⟩ := gd hr
    obtain ⟨σ_12, e_13, hr⟩ := wbd hr
    refine x_iast M K hB isA_147 g_11 dX2_keepFault_50 (fun H locs hB => ?_)
    rw [← e_13] at hB
    refine lv_aload_n M.1 M.2.1 dX2_keepFault_51 rfl (lv_at hl 0 rfl) ?_
    refine x_get2 M K hB isK_143 7 (by decide) wd_88 (v := .ref (Γ.1 148)) rfl dX2_keepFault_52 ?_
    refine lv_aload_n M.1 M.2.1 dX2_keepFault_55 rfl (lv_at hl 0 rfl) ?_
    refine x_get2 M K hB isK_143 3 (by decide) wd_83 (v := .int (σ_12 143 3)) rfl dX2_keepFault_56 ?_
    refine lv_iload M.1 M.2.1 dX2_keepFault_59 (lv_at hl 5 rfl) ?_
    obtain ⟨g_14, hr⟩ := gd hr
    obtain ⟨σ_15, e_16, hr⟩ := wbd hr
    refine x_iast M K hB isA_148 g_14 dX2_keepFault_61 (fun H locs hB => ?_)
    rw [← e_16] at hB
    refine lv_aload_n M.1 M.2.1 dX2_keepFault_62 rfl (lv_at hl 0 rfl) ?_
    refine lv_dup M.1 M.2.1 dX2_keepFault_63 rfl ?_
    refine x_get2 M K hB isK_143 3 (by decide) wd_83 (v := .int (σ_15 143 3)) rfl dX2_keepFault_64 ?_
    refine lv_iconst (v := 1) M.1 M.2.1 dX2_keepFault_67 (by decide) ?_
    refine lv_iadd M.1 M.2.1 dX2_keepFault_68 ?_
    obtain ⟨σ_17, e_18, hr⟩ := wbd hr
    refine x_put2 M K hB isK_143 3 (by decide) wd_83 dX2_keepFault_69 (fun H locs hB => ?_)
    rw [← e_18] at hB
    exact x_vret M hB (Option.some.inj hr) dX2_keepFault_72
  · rw [if_neg c_1] at hr
    exact x_vret M hB (Option.some.inj hr) dX2_keepFault_9
theorem c_X2_keepFault (l : Launch) (Γ : GG) (a0 : Int32) (a1 : Int32) (a2 : Int32) (a3 : Int32) (a4 : Int32)  (σ : Sg) (res : Int32 × Sg) (hr : f_X2_keepFault_0 a0 a1 a2 a3 a4 σ = some res) : Met l yX2_keepFault (Cond.code yX2_keepFault cX2_keepFault 6 none :: gtb) rm_X2_keepFault (va_Pc [.ref (Γ.1 143), .int a0, .int a1, .int a2, .int a3, .int a4] (GI Γ σ)) (QV Γ res) 0 0 (AD Γ) :=
  x_metV (by decide) [.ref (Γ.1 143), .int a0, .int a1, .int a2, .int a3, .int a4] (Nat.le_of_ble_eq_true rfl) (fun p e s m args below meth c M K ls hl hB => w_X2_keepFault_0 M K a0 a1 a2 a3 a4 σ _ _ ls hB hl hr)
abbrev rm_X2_readFault : Room := { frames := 4, cells := 0, slots := 0, locals := 91 }
def f_X2_readFault_123   (x1 : Int32) (x2 : Int32) (x3 : Int32) (x4 : Int32) (s0 : Int32) (σ : Sg) : Option (Int32 × Sg) :=
cb (f_X2_keepFault_0 s0 x2 x1 x3 x4 σ) fun v_39 σ_40 =>
some (1, σ_40)
set_option maxHeartbeats 4000000 in
set_option maxRecDepth 100000 in
theorem w_X2_readFault_123 {p : Program} {l : Launch} {e : Env} {s : State} {m : MethodId} {args : Array Value} {below : List Frame} {meth : Method} {c : Code} {Γ : GG} {res : Int32 × Sg} (M : MX RX2 cX2_readFault 5 (some .boolean) p s m args meth c) (K : KK Γ s s.heap)  (x1 : Int32) (x2 : Int32) (x3 : Int32) (x4 : Int32) (s0 : Int32) (σ : Sg) (H : Heap) (locs : List Loc) (ls : Array Slot)  (hB : Bd Γ σ s H locs) (hl : lv_has ls 5 [(1, .int x1), (2, .int x2), (3, .int x3), (4, .int x4)]) (hr : f_X2_readFault_123   x1 x2 x3 x4 s0 σ = some res) : WI Γ rm_X2_readFault p l e s m args below meth c H locs res (F0 m 123 ls [.int s0, .ref (Γ.1 143)]) := by
  unfold f_X2_readFault_123 at hr
  refine lv_iload_n M.1 M.2.1 dX2_readFault_123 rfl (lv_at hl 1 rfl) ?_
  refine lv_iload_n M.1 M.2.1 dX2_readFault_124 rfl (lv_at hl 0 rfl) ?_
  refine lv_iload_n M.1 M.2.1 dX2_readFault_125 rfl (lv_at hl 2 rfl) ?_
  refine lv_iload M.1 M.2.1 dX2_readFault_126 (lv_at hl 3 rfl) ?_
  obtain ⟨v_39, σ_40, h_41, hr⟩ := cbd hr
  refine x_callV (x_runV M K hB hl.1 [.int s0, .int x2, .int x1, .int x3, .int x4] (rest := []) rfl (c_X2_keepFault l Γ s0 x2 x1 x3 x4  σ (v_39, σ_40) h_41) cy_X2_keepFault (x_recv K hB isK_143.2 (ent_2 isK_143.1) rfl) wd_92 ⟨rfl, rfl, Nat.le_of_ble_eq_true rfl, Nat.le_of_ble_eq_true rfl⟩ (Nat.le_of_ble_eq_true rfl) ⟨Nat.zero_le _, Nat.zero_le _⟩ dX2_readFault_128) hB (fun H locs hB => ?_)
  replace hB : Bd Γ σ_40 s H locs := hB
  refine lv_iconst (v := 1) M.1 M.2.1 dX2_readFault_131 (by decide) ?_
  exact x_zret M hB (nar_z (by decide)) (Option.some.inj hr) dX2_readFault_132
def f_X2_readFault_99   (x1 : Int32) (x2 : Int32) (x3 : Int32) (s0 : Int32) (σ : Sg) : Option (Int32 × Sg) :=
if 0 ≤ s0 then
cb (f_X2_accept_0 33 σ) fun v_35 σ_36 =>
if v_35 = 0 then
f_X2_readFault_123   x1 x2 x3 s0 0 σ_36
else
f_X2_readFault_123   x1 x2 x3 s0 1 σ_36
else
some (0, σ)
set_option maxHeartbeats 4000000 in
set_option maxRecDepth 100000 in
theorem w_X2_readFault_99 {p : Program} {l : Launch} {e : Env} {s : State} {m : MethodId} {args : Array Value} {below : List Frame} {meth : Method} {c : Code} {Γ : GG} {res : Int32 × Sg} (M : MX RX2 cX2_readFault 5 (some .boolean) p s m args meth c) (K : KK Γ s s.heap)  (x1 : Int32) (x2 : Int32) (x3 : Int32) (s0 : Int32) (σ : Sg) (H : Heap) (locs : List Loc) (ls : Array Slot)  (hB : Bd Γ σ s H locs) (hl : lv_has ls 5 [(0, .ref (Γ.1 143)), (1, .int x1), (2, .int x2), (3, .int x3)]) (hr : f_X2_readFault_99   x1 x2 x3 s0 σ = some res) : WI Γ rm_X2_readFault p l e s m args below meth c H locs res (F0 m 99 ls [.int s0]) := by
  unfold f_X2_readFault_99 at hr
  refine lv_istore (lv' := [(4, .int s0), (0, .ref (Γ.1 143)), (1, .int x1), (2, .int x2), (3, .int x3)]) M.1 M.2.1 dX2_readFault_99 hl (by decide) rfl (fun ls hl => ?_)
  refine lv_iload M.1 M.2.1 dX2_readFault_101 (lv_at hl 0 rfl) ?_
  refine lv_if_ge (tgt := 108) M.1 M.2.1 dX2_readFault_103 (by decide) (fun c_34 => ?_) (fun c_34 => ?_)
  · rw [if_pos c_34] at hr
    refine lv_aload_n M.1 M.2.1 dX2_readFault_108 rfl (lv_at hl 1 rfl) ?_
    refine lv_aload_n M.1 M.2.1 dX2_readFault_109 rfl (lv_at hl 1 rfl) ?_
    refine lv_bipush (v := 33) M.1 M.2.1 dX2_readFault_110 (by decide) ?_
    obtain ⟨v_35, σ_36, h_37, hr⟩ := cbd hr
    refine x_callI (x_runV M K hB hl.1 [.int 33] (rest := [.ref (Γ.1 143)]) rfl (c_X2_accept l Γ 33  σ (v_35, σ_36) h_37) cy_X2_accept (x_recv K hB isK_143.2 (ent_2 isK_143.1) rfl) wd_90 ⟨rfl, rfl, Nat.le_of_ble_eq_true rfl, Nat.le_of_ble_eq_true rfl⟩ (Nat.le_of_ble_eq_true rfl) ⟨Nat.zero_le _, Nat.zero_le _⟩ dX2_readFault_112) hB (fun H locs hB => ?_)
    replace hB : Bd Γ σ_36 s H locs := hB
    refine lv_if_eq (tgt := 122) M.1 M.2.1 dX2_readFault_115 (by decide) (fun c_38 => ?_) (fun c_38 => ?_)
    · rw [if_pos c_38] at hr
      refine lv_iconst (v := 0) M.1 M.2.1 dX2_readFault_122 (by decide) ?_
      exact w_X2_readFault_123 M K   x1 x2 x3 s0 0 _ _ _ _  hB (lv_sub hl [2, 3, 4, 0] rfl) hr
    · rw [if_neg c_38] at hr
      refine lv_iconst (v := 1) M.1 M.2.1 dX2_readFault_118 (by decide) ?_
      refine lv_goto (tgt := 123) M.1 M.2.1 dX2_readFault_119 (by decide) ?_
      exact w_X2_readFault_123 M K   x1 x2 x3 s0 1 _ _ _ _  hB (lv_sub hl [2, 3, 4, 0] rfl) hr
  · rw [if_neg c_34] at hr
    refine lv_iconst (v := 0) M.1 M.2.1 dX2_readFault_106 (by decide) ?_
    exact x_zret M hB (nar_z (by decide)) (Option.some.inj hr) dX2_readFault_107
def f_X2_readFault_72   (x1 : Int32) (x2 : Int32) (s0 : Int32) (σ : Sg) : Option (Int32 × Sg) :=
if 0 ≤ s0 then
cb (f_X2_accept_0 42 σ) fun v_27 σ_28 =>
if v_27 = 0 then
f_X2_readFault_99   x1 x2 s0 0 σ_28
else
cb (f_X2_readNumber_0 500 σ_28) fun v_31 σ_32 =>
f_X2_readFault_99   x1 x2 s0 v_31 σ_32
else
some (0, σ)
set_option maxHeartbeats 4000000 in
set_option maxRecDepth 100000 in
theorem w_X2_readFault_72 {p : Program} {l : Launch} {e : Env} {s : State} {m : MethodId} {args : Array Value} {below : List Frame} {meth : Method} {c : Code} {Γ : GG} {res : Int32 × Sg} (M : MX RX2 cX2_readFault 5 (some .boolean) p s m args meth c) (K : KK Γ s s.heap)  (x1 : Int32) (x2 : Int32) (s0 : Int32) (σ : Sg) (H : Heap) (locs : List Loc) (ls : Array Slot)  (hB : Bd Γ σ s H locs) (hl : lv_has ls 5 [(0, .ref (Γ.1 143)), (1, .int x1), (2, .int x2)]) (hr : f_X2_readFault_72   x1 x2 s0 σ = some res) : WI Γ rm_X2_readFault p l e s m args below meth c H locs res (F0 m 72 ls [.int s0]) := by
  unfold f_X2_readFault_72 at hr
  refine lv_istore_n (lv' := [(3, .int s0), (0, .ref (Γ.1 143)), (1, .int x1), (2, .int x2)]) M.1 M.2.1 dX2_readFault_72 rfl hl (by decide) rfl (fun ls hl => ?_)
  refine lv_iload_n M.1 M.2.1 dX2_readFault_73 rfl (lv_at hl 0 rfl) ?_
  refine lv_if_ge (tgt := 79) M.1 M.2.1 dX2_readFault_74 (by decide) (fun c_26 => ?_) (fun c_26 => ?_)
  · rw [if_pos c_26] at hr
    refine lv_aload_n M.1 M.2.1 dX2_readFault_79 rfl (lv_at hl 1 rfl) ?_
    refine lv_bipush (v := 42) M.1 M.2.1 dX2_readFault_80 (by decide) ?_
    obtain ⟨v_27, σ_28, h_29, hr⟩ := cbd hr
    refine x_callI (x_runV M K hB hl.1 [.int 42] (rest := []) rfl (c_X2_accept l Γ 42  σ (v_27, σ_28) h_29) cy_X2_accept (x_recv K hB isK_143.2 (ent_2 isK_143.1) rfl) wd_90 ⟨rfl, rfl, Nat.le_of_ble_eq_true rfl, Nat.le_of_ble_eq_true rfl⟩ (Nat.le_of_ble_eq_true rfl) ⟨Nat.zero_le _, Nat.zero_le _⟩ dX2_readFault_82) hB (fun H locs hB => ?_)
    replace hB : Bd Γ σ_28 s H locs := hB
    refine lv_if_eq (tgt := 98) M.1 M.2.1 dX2_readFault_85 (by decide) (fun c_30 => ?_) (fun c_30 => ?_)
    · rw [if_pos c_30] at hr
      refine lv_iconst (v := 0) M.1 M.2.1 dX2_readFault_98 (by decide) ?_
      exact w_X2_readFault_99 M K   x1 x2 s0 0 _ _ _ _  hB (lv_sub hl [1, 2, 3, 0] rfl) hr
    · rw [if_neg c_30] at hr
      refine lv_aload_n M.1 M.2.1 dX2_readFault_88 rfl (lv_at hl 1 rfl) ?_
      refine lv_sipush (v := 500) M.1 M.2.1 dX2_readFault_89 (by decide) ?_
      obtain ⟨v_31, σ_32, h_33, hr⟩ := cbd hr
      refine x_callI (x_runV M K hB hl.1 [.int 500] (rest := []) rfl (c_X2_readNumber l Γ 500  σ_28 (v_31, σ_32) h_33) cy_X2_readNumber (x_recv K hB isK_143.2 (ent_2 isK_143.1) rfl) wd_91 ⟨rfl, rfl, Nat.le_of_ble_eq_true rfl, Nat.le_of_ble_eq_true rfl⟩ (Nat.le_of_ble_eq_true rfl) ⟨Nat.zero_le _, Nat.zero_le _⟩ dX2_readFault_92) hB (fun H locs hB => ?_)
      replace hB : Bd Γ σ_32 s H locs := hB
      refine lv_goto (tgt := 99) M.1 M.2.1 dX2_readFault_95 (by decide) ?_
      exact w_X2_readFault_99 M K   x1 x2 s0 v_31 _ _ _ _  hB (lv_sub hl [1, 2, 3, 0] rfl) hr
  · rw [if_neg c_26] at hr
    refine lv_iconst (v := 0) M.1 M.2.1 dX2_readFault_77 (by decide) ?_
    exact x_zret M hB (nar_z (by decide)) (Option.some.inj hr) dX2_readFault_78
def f_X2_readFault_0    (σ : Sg) : Option (Int32 × Sg) :=
cb (f_X2_sign_0  σ) fun v_1 σ_2 =>
cb (f_J0_indexOf_0f7a4_0 v_1 σ_2) fun v_4 σ_5 =>
if 0 ≤ v_4 then
wb (st σ_5 143 2 ((σ_5 143 2) + 1)) fun σ_8 =>
cb (f_X2_digit_0  σ_8) fun v_10 σ_11 =>
cb (f_X4_isWithin_0 v_10 0 5 σ_11) fun v_13 σ_14 =>
if v_13 = 0 then
some (0, σ_14)
else
wb (st σ_14 143 2 ((σ_14 143 2) + 1)) fun σ_17 =>
cb (f_X2_accept_0 64 σ_17) fun v_19 σ_20 =>
if v_19 = 0 then
f_X2_readFault_72   v_4 v_10 0 σ_20
else
cb (f_X2_readNumber_0 5000 σ_20) fun v_23 σ_24 =>
f_X2_readFault_72   v_4 v_10 v_23 σ_24
else
some (0, σ_5)
set_option maxHeartbeats 4000000 in
set_option maxRecDepth 100000 in
theorem w_X2_readFault_0 {p : Program} {l : Launch} {e : Env} {s : State} {m : MethodId} {args : Array Value} {below : List Frame} {meth : Method} {c : Code} {Γ : GG} {res : Int32 × Sg} (M : MX RX2 cX2_readFault 5 (some .boolean) p s m args meth c) (K : KK Γ s s.heap)   (σ : Sg) (H : Heap) (locs : List Loc) (ls : Array Slot)  (hB : Bd Γ σ s H locs) (hl : lv_has ls 5 [(0, .ref (Γ.1 143))]) (hr : f_X2_readFault_0    σ = some res) : WI Γ rm_X2_readFault p l e s m args below meth c H locs res (F0 m 0 ls []) := by
  unfold f_X2_readFault_0 at hr
  refine va_ldcS M.1 M.2.1 M.2.2.2.1 K.2.2.2.1.1 dX2_readFault_0 ?_
  refine lv_aload_n M.1 M.2.1 dX2_readFault_2 rfl (lv_at hl 0 rfl) ?_
  obtain ⟨v_1, σ_2, h_3, hr⟩ := cbd hr
  refine x_callI (x_runV M K hB hl.1 [] (rest := [.ref (gS Γ 6)]) rfl (c_X2_sign l Γ   σ (v_1, σ_2) h_3) cy_X2_sign (x_recv K hB isK_143.2 (ent_2 isK_143.1) rfl) wd_81 ⟨rfl, rfl, Nat.le_of_ble_eq_true rfl, Nat.le_of_ble_eq_true rfl⟩ (Nat.le_of_ble_eq_true rfl) ⟨Nat.zero_le _, Nat.zero_le _⟩ dX2_readFault_3) hB (fun H locs hB => ?_)
  replace hB : Bd Γ σ_2 s H locs := hB
  obtain ⟨v_4, σ_5, h_6, hr⟩ := cbd hr
  refine x_callI (x_runV M K hB hl.1 [.int v_1] (rest := []) rfl (c_J0_indexOf_0f7a4 l Γ v_1  σ_2 (v_4, σ_5) h_6) cy_J0_indexOf_0f7a4 (vk_recv (i := 0) (adK := fun _ => gS Γ 6) K.2.2.2.1.2.1 (by decide) hB.2) wd_89 ⟨rfl, rfl, Nat.le_of_ble_eq_true rfl, Nat.le_of_ble_eq_true rfl⟩ (Nat.le_of_ble_eq_true rfl) ⟨Nat.zero_le _, Nat.zero_le _⟩ dX2_readFault_6) hB (fun H locs hB => ?_)
  replace hB : Bd Γ σ_5 s H locs := hB
  refine lv_istore_n (lv' := [(1, .int v_4), (0, .ref (Γ.1 143))]) M.1 M.2.1 dX2_readFault_9 rfl hl (by decide) rfl (fun ls hl => ?_)
  refine lv_iload_n M.1 M.2.1 dX2_readFault_10 rfl (lv_at hl 0 rfl) ?_
  refine lv_if_ge (tgt := 16) M.1 M.2.1 dX2_readFault_11 (by decide) (fun c_7 => ?_) (fun c_7 => ?_)
  · rw [if_pos c_7] at hr
    refine lv_aload_n M.1 M.2.1 dX2_readFault_16 rfl (lv_at hl 1 rfl) ?_
    refine lv_dup M.1 M.2.1 dX2_readFault_17 rfl ?_
    refine x_get2 M K hB isK_143 2 (by decide) wd_80 (v := .int (σ_5 143 2)) rfl dX2_readFault_18 ?_
    refine lv_iconst (v := 1) M.1 M.2.1 dX2_readFault_21 (by decide) ?_
    refine lv_iadd M.1 M.2.1 dX2_readFault_22 ?_
    obtain ⟨σ_8, e_9, hr⟩ := wbd hr
    refine x_put2 M K hB isK_143 2 (by decide) wd_80 dX2_readFault_23 (fun H locs hB => ?_)
    rw [← e_9] at hB
    refine lv_aload_n M.1 M.2.1 dX2_readFault_26 rfl (lv_at hl 1 rfl) ?_
    obtain ⟨v_10, σ_11, h_12, hr⟩ := cbd hr
    refine x_callI (x_runV M K hB hl.1 [] (rest := []) rfl (c_X2_digit l Γ   σ_8 (v_10, σ_11) h_12) cy_X2_digit (x_recv K hB isK_143.2 (ent_2 isK_143.1) rfl) wd_82 ⟨rfl, rfl, Nat.le_of_ble_eq_true rfl, Nat.le_of_ble_eq_true rfl⟩ (Nat.le_of_ble_eq_true rfl) ⟨Nat.zero_le _, Nat.zero_le _⟩ dX2_readFault_27) hB (fun H locs hB => ?_)
    replace hB : Bd Γ σ_11 s H locs := hB
    refine lv_istore_n (lv' := [(2, .int v_10), (1, .int v_4), (0, .ref (Γ.1 143))]) M.1 M.2.1 dX2_readFault_30 rfl hl (by decide) rfl (fun ls hl => ?_)
    refine lv_iload_n M.1 M.2.1 dX2_readFault_31 rfl (lv_at hl 0 rfl) ?_
    refine lv_iconst (v := 0) M.1 M.2.1 dX2_readFault_32 (by decide) ?_
    refine lv_iconst (v := 5) M.1 M.2.1 dX2_readFault_33 (by decide) ?_
    obtain ⟨v_13, σ_14, h_15, hr⟩ := cbd hr
    refine x_callI (x_runSN M K hB hl.1 [.int v_10, .int 0, .int 5] (rest := []) rfl (c_X4_isWithin l Γ v_10 0 5  σ_11 (v_13, σ_14) h_15) cy_X4_isWithin nw_5 ⟨rfl, rfl, Nat.le_of_ble_eq_true rfl, Nat.le_of_ble_eq_true rfl⟩ (Nat.le_of_ble_eq_true rfl) ⟨Nat.zero_le _, Nat.zero_le _⟩ dX2_readFault_34) hB (fun H locs hB => ?_)
    replace hB : Bd Γ σ_14 s H locs := hB
    refine lv_if_ne (tgt := 42) M.1 M.2.1 dX2_readFault_37 (by decide) (fun c_16 => ?_) (fun c_16 => ?_)
    · rw [if_neg c_16] at hr
      refine lv_aload_n M.1 M.2.1 dX2_readFault_42 rfl (lv_at hl 2 rfl) ?_
      refine lv_dup M.1 M.2.1 dX2_readFault_43 rfl ?_
      refine x_get2 M K hB isK_143 2 (by decide) wd_80 (v := .int (σ_14 143 2)) rfl dX2_readFault_44 ?_
      refine lv_iconst (v := 1) M.1 M.2.1 dX2_readFault_47 (by decide) ?_
      refine lv_iadd M.1 M.2.1 dX2_readFault_48 ?_
      obtain ⟨σ_17, e_18, hr⟩ := wbd hr
      refine x_put2 M K hB isK_143 2 (by decide) wd_80 dX2_readFault_49 (fun H locs hB => ?_)
      rw [← e_18] at hB
      refine lv_aload_n M.1 M.2.1 dX2_readFault_52 rfl (lv_at hl 2 rfl) ?_
      refine lv_bipush (v := 64) M.1 M.2.1 dX2_readFault_53 (by decide) ?_
      obtain ⟨v_19, σ_20, h_21, hr⟩ := cbd hr
      refine x_callI (x_runV M K hB hl.1 [.int 64] (rest := []) rfl (c_X2_accept l Γ 64  σ_17 (v_19, σ_20) h_21) cy_X2_accept (x_recv K hB isK_143.2 (ent_2 isK_143.1) rfl) wd_90 ⟨rfl, rfl, Nat.le_of_ble_eq_true rfl, Nat.le_of_ble_eq_true rfl⟩ (Nat.le_of_ble_eq_true rfl) ⟨Nat.zero_le _, Nat.zero_le _⟩ dX2_readFault_55) hB (fun H locs hB => ?_)
      replace hB : Bd Γ σ_20 s H locs := hB
      refine lv_if_eq (tgt := 71) M.1 M.2.1 dX2_readFault_58 (by decide) (fun c_22 => ?_) (fun c_22 => ?_)
      · rw [if_pos c_22] at hr
        refine lv_iconst (v := 0) M.1 M.2.1 dX2_readFault_71 (by decide) ?_
        exact w_X2_readFault_72 M K   v_4 v_10 0 _ _ _ _  hB (lv_sub hl [2, 1, 0] rfl) hr
      · rw [if_neg c_22] at hr
        refine lv_aload_n M.1 M.2.1 dX2_readFault_61 rfl (lv_at hl 2 rfl) ?_
        refine lv_sipush (v := 5000) M.1 M.2.1 dX2_readFault_62 (by decide) ?_
        obtain ⟨v_23, σ_24, h_25, hr⟩ := cbd hr
        refine x_callI (x_runV M K hB hl.1 [.int 5000] (rest := []) rfl (c_X2_readNumber l Γ 5000  σ_20 (v_23, σ_24) h_25) cy_X2_readNumber (x_recv K hB isK_143.2 (ent_2 isK_143.1) rfl) wd_91 ⟨rfl, rfl, Nat.le_of_ble_eq_true rfl, Nat.le_of_ble_eq_true rfl⟩ (Nat.le_of_ble_eq_true rfl) ⟨Nat.zero_le _, Nat.zero_le _⟩ dX2_readFault_65) hB (fun H locs hB => ?_)
        replace hB : Bd Γ σ_24 s H locs := hB
        refine lv_goto (tgt := 72) M.1 M.2.1 dX2_readFault_68 (by decide) ?_
        exact w_X2_readFault_72 M K   v_4 v_10 v_23 _ _ _ _  hB (lv_sub hl [2, 1, 0] rfl) hr
    · rw [if_pos c_16] at hr
      refine lv_iconst (v := 0) M.1 M.2.1 dX2_readFault_40 (by decide) ?_
      exact x_zret M hB (nar_z (by decide)) (Option.some.inj hr) dX2_readFault_41
  · rw [if_neg c_7] at hr
    refine lv_iconst (v := 0) M.1 M.2.1 dX2_readFault_14 (by decide) ?_
    exact x_zret M hB (nar_z (by decide)) (Option.some.inj hr) dX2_readFault_15
theorem c_X2_readFault (l : Launch) (Γ : GG)   (σ : Sg) (res : Int32 × Sg) (hr : f_X2_readFault_0  σ = some res) : Met l yX2_readFault (Cond.code yX2_readFault cX2_readFault 5 (some .boolean) :: gtb) rm_X2_readFault (va_Pc [.ref (Γ.1 143)] (GI Γ σ)) (QI Γ res) 0 0 (AD Γ) :=
  x_metI (by decide) [.ref (Γ.1 143)] (Nat.le_of_ble_eq_true rfl) (fun p e s m args below meth c M K ls hl hB => w_X2_readFault_0 M K  σ _ _ ls hB hl hr)
abbrev rm_X2_readFaults : Room := { frames := 5, cells := 0, slots := 0, locals := 115 }
def f_X2_readFaults_71   (s0 : Int32) (σ : Sg) : Option (Int32 × Sg) :=
some (s0, σ)
set_option maxHeartbeats 4000000 in
set_option maxRecDepth 100000 in
theorem w_X2_readFaults_71 {p : Program} {l : Launch} {e : Env} {s : State} {m : MethodId} {args : Array Value} {below : List Frame} {meth : Method} {c : Code} {Γ : GG} {res : Int32 × Sg} (M : MX RX2 cX2_readFaults 3 (some .int) p s m args meth c) (K : KK Γ s s.heap)  (s0 : Int32) (σ : Sg) (H : Heap) (locs : List Loc) (ls : Array Slot)  (hB : Bd Γ σ s H locs) (hl : lv_has ls 3 []) (hr : f_X2_readFaults_71   s0 σ = some res) : WI Γ rm_X2_readFaults p l e s m args below meth c H locs res (F0 m 71 ls [.int s0]) := by
  unfold f_X2_readFaults_71 at hr
  exact x_iret M hB (Option.some.inj hr) dX2_readFaults_71
def f_X2_readFaults_67    (σ : Sg) : Option (Int32 × Sg) :=
f_X2_readFaults_71   (σ 143 2) σ
set_option maxHeartbeats 4000000 in
set_option maxRecDepth 100000 in
theorem w_X2_readFaults_67 {p : Program} {l : Launch} {e : Env} {s : State} {m : MethodId} {args : Array Value} {below : List Frame} {meth : Method} {c : Code} {Γ : GG} {res : Int32 × Sg} (M : MX RX2 cX2_readFaults 3 (some .int) p s m args meth c) (K : KK Γ s s.heap)   (σ : Sg) (H : Heap) (locs : List Loc) (ls : Array Slot)  (hB : Bd Γ σ s H locs) (hl : lv_has ls 3 [(0, .ref (Γ.1 143))]) (hr : f_X2_readFaults_67    σ = some res) : WI Γ rm_X2_readFaults p l e s m args below meth c H locs res (F0 m 67 ls []) := by
  unfold f_X2_readFaults_67 at hr
  refine lv_aload_n M.1 M.2.1 dX2_readFaults_67 rfl (lv_at hl 0 rfl) ?_
  refine x_get2 M K hB isK_143 2 (by decide) wd_80 (v := .int (σ 143 2)) rfl dX2_readFaults_68 ?_
  exact w_X2_readFaults_71 M K   (σ 143 2) _ _ _ _  hB (lv_sub hl [] rfl) hr
def f_X2_readFaults_47   (x1 : Int32) (σ : Sg) : Option (Int32 × Sg) :=
if x1 = 0 then
f_X2_readFaults_67    σ
else
if σ 143 2 = σ 143 1 then
f_X2_readFaults_71   (-6) σ
else
f_X2_readFaults_67    σ
set_option maxHeartbeats 4000000 in
set_option maxRecDepth 100000 in
theorem w_X2_readFaults_47 {p : Program} {l : Launch} {e : Env} {s : State} {m : MethodId} {args : Array Value} {below : List Frame} {meth : Method} {c : Code} {Γ : GG} {res : Int32 × Sg} (M : MX RX2 cX2_readFaults 3 (some .int) p s m args meth c) (K : KK Γ s s.heap)  (x1 : Int32) (σ : Sg) (H : Heap) (locs : List Loc) (ls : Array Slot)  (hB : Bd Γ σ s H locs) (hl : lv_has ls 3 [(0, .ref (Γ.1 143)), (1, .int x1)]) (hr : f_X2_readFaults_47   x1 σ = some res) : WI Γ rm_X2_readFaults p l e s m args below meth c H locs res (F0 m 47 ls []) := by
  unfold f_X2_readFaults_47 at hr
  refine lv_iload_n M.1 M.2.1 dX2_readFaults_47 rfl (lv_at hl 1 rfl) ?_
  refine lv_if_eq (tgt := 67) M.1 M.2.1 dX2_readFaults_48 (by decide) (fun c_17 => ?_) (fun c_17 => ?_)
  · rw [if_pos c_17] at hr
    exact w_X2_readFaults_67 M K    _ _ _ _  hB (lv_sub hl [0] rfl) hr
  · rw [if_neg c_17] at hr
    refine lv_aload_n M.1 M.2.1 dX2_readFaults_51 rfl (lv_at hl 0 rfl) ?_
    refine x_get2 M K hB isK_143 2 (by decide) wd_80 (v := .int (σ 143 2)) rfl dX2_readFaults_52 ?_
    refine lv_aload_n M.1 M.2.1 dX2_readFaults_55 rfl (lv_at hl 0 rfl) ?_
    refine x_get2 M K hB isK_143 1 (by decide) wd_77 (v := .int (σ 143 1)) rfl dX2_readFaults_56 ?_
    refine lv_icmp_ne (tgt := 67) M.1 M.2.1 dX2_readFaults_59 (by decide) (fun c_18 => ?_) (fun c_18 => ?_)
    · rw [if_neg c_18] at hr
      exact w_X2_readFaults_67 M K    _ _ _ _  hB (lv_sub hl [0] rfl) hr
    · rw [if_pos c_18] at hr
      refine lv_bipush (v := (-6)) M.1 M.2.1 dX2_readFaults_62 (by decide) ?_
      refine lv_goto (tgt := 71) M.1 M.2.1 dX2_readFaults_64 (by decide) ?_
      exact w_X2_readFaults_71 M K   (-6) _ _ _ _  hB (lv_sub hl [] rfl) hr
def f_X2_readFaults_17   : Nat → Int32 → Int32 → Sg → Option (Int32 × Sg)
  | 0, _, _, _ => none
  | f + 1, x1, x2, σ => if 20 ≤ x2 then
f_X2_readFaults_47   x1 σ
else
if x1 = 0 then
f_X2_readFaults_47   x1 σ
else
cb (f_X2_accept_0 44 σ) fun v_10 σ_11 =>
if v_10 = 0 then
f_X2_readFaults_47   x1 σ_11
else
cb (f_X2_readFault_0  σ_11) fun v_14 σ_15 =>
f_X2_readFaults_17   f v_14 (x2 + 1) σ_15
set_option maxHeartbeats 4000000 in
set_option maxRecDepth 100000 in
theorem w_X2_readFaults_17 {p : Program} {l : Launch} {e : Env} {s : State} {m : MethodId} {args : Array Value} {below : List Frame} {meth : Method} {c : Code} {Γ : GG} {res : Int32 × Sg} (M : MX RX2 cX2_readFaults 3 (some .int) p s m args meth c) (K : KK Γ s s.heap)  : ∀ (f : Nat) (x1 : Int32) (x2 : Int32) (σ : Sg) (H : Heap) (locs : List Loc) (ls : Array Slot)  (hB : Bd Γ σ s H locs) (hl : lv_has ls 3 [(0, .ref (Γ.1 143)), (1, .int x1), (2, .int x2)]) (hr : f_X2_readFaults_17   f x1 x2 σ = some res), WI Γ rm_X2_readFaults p l e s m args below meth c H locs res (F0 m 17 ls []) := by
  intro f
  induction f with
  | zero => intros; rename_i hr; exact absurd hr (by rw [f_X2_readFaults_17]; exact fun h => by cases h)
  | succ f ih_17 =>
    intro x1 x2 σ H locs ls  hB hl hr
    rw [f_X2_readFaults_17] at hr
    refine lv_iload_n M.1 M.2.1 dX2_readFaults_17 rfl (lv_at hl 2 rfl) ?_
    refine lv_bipush (v := 20) M.1 M.2.1 dX2_readFaults_18 (by decide) ?_
    refine lv_icmp_ge (tgt := 47) M.1 M.2.1 dX2_readFaults_20 (by decide) (fun c_8 => ?_) (fun c_8 => ?_)
    · rw [if_pos c_8] at hr
      exact w_X2_readFaults_47 M K   x1 _ _ _ _  hB (lv_sub hl [0, 1] rfl) hr
    · rw [if_neg c_8] at hr
      refine lv_iload_n M.1 M.2.1 dX2_readFaults_23 rfl (lv_at hl 1 rfl) ?_
      refine lv_if_eq (tgt := 47) M.1 M.2.1 dX2_readFaults_24 (by decide) (fun c_9 => ?_) (fun c_9 => ?_)
      · rw [if_pos c_9] at hr
        exact w_X2_readFaults_47 M K   x1 _ _ _ _  hB (lv_sub hl [0, 1] rfl) hr
      · rw [if_neg c_9] at hr
        refine lv_aload_n M.1 M.2.1 dX2_readFaults_27 rfl (lv_at hl 0 rfl) ?_
        refine lv_bipush (v := 44) M.1 M.2.1 dX2_readFaults_28 (by decide) ?_
        obtain ⟨v_10, σ_11, h_12, hr⟩ := cbd hr
        refine x_callI (x_runV M K hB hl.1 [.int 44] (rest := []) rfl (c_X2_accept l Γ 44  σ (v_10, σ_11) h_12) cy_X2_accept (x_recv K hB isK_143.2 (ent_2 isK_143.1) rfl) wd_90 ⟨rfl, rfl, Nat.le_of_ble_eq_true rfl, Nat.le_of_ble_eq_true rfl⟩ (Nat.le_of_ble_eq_true rfl) ⟨Nat.zero_le _, Nat.zero_le _⟩ dX2_readFaults_30) hB (fun H locs hB => ?_)
        replace hB : Bd Γ σ_11 s H locs := hB
        refine lv_if_eq (tgt := 47) M.1 M.2.1 dX2_readFaults_33 (by decide) (fun c_13 => ?_) (fun c_13 => ?_)
        · rw [if_pos c_13] at hr
          exact w_X2_readFaults_47 M K   x1 _ _ _ _  hB (lv_sub hl [0, 1] rfl) hr
        · rw [if_neg c_13] at hr
          refine lv_aload_n M.1 M.2.1 dX2_readFaults_36 rfl (lv_at hl 0 rfl) ?_
          obtain ⟨v_14, σ_15, h_16, hr⟩ := cbd hr
          refine x_callI (x_runV M K hB hl.1 [] (rest := []) rfl (c_X2_readFault l Γ   σ_11 (v_14, σ_15) h_16) cy_X2_readFault (x_recv K hB isK_143.2 (ent_2 isK_143.1) rfl) wd_93 ⟨rfl, rfl, Nat.le_of_ble_eq_true rfl, Nat.le_of_ble_eq_true rfl⟩ (Nat.le_of_ble_eq_true rfl) ⟨Nat.zero_le _, Nat.zero_le _⟩ dX2_readFaults_37) hB (fun H locs hB => ?_)
          replace hB : Bd Γ σ_15 s H locs := hB
          refine lv_istore_n (lv' := [(1, .int v_14), (0, .ref (Γ.1 143)), (2, .int x2)]) M.1 M.2.1 dX2_readFaults_40 rfl hl (by decide) rfl (fun ls hl => ?_)
          refine lv_iinc (v := x2 + 1) (lv' := [(2, .int (x2 + 1)), (1, .int v_14), (0, .ref (Γ.1 143))]) M.1 M.2.1 dX2_readFaults_41 hl (k := 2) rfl rfl (by decide) rfl (fun ls hl => ?_)
          refine lv_goto (tgt := 17) M.1 M.2.1 dX2_readFaults_44 (by decide) ?_
          exact ih_17 v_14 (x2 + 1) _ _ _ _  hB (lv_sub hl [2, 1, 0] rfl) hr
def f_X2_readFaults_0    (σ : Sg) : Option (Int32 × Sg) :=
wb (st σ 143 2 0) fun σ_1 =>
wb (st σ_1 143 3 0) fun σ_3 =>
cb (f_X2_readFault_0  σ_3) fun v_5 σ_6 =>
f_X2_readFaults_17   FU v_5 0 σ_6
set_option maxHeartbeats 4000000 in
set_option maxRecDepth 100000 in
theorem w_X2_readFaults_0 {p : Program} {l : Launch} {e : Env} {s : State} {m : MethodId} {args : Array Value} {below : List Frame} {meth : Method} {c : Code} {Γ : GG} {res : Int32 × Sg} (M : MX RX2 cX2_readFaults 3 (some .int) p s m args meth c) (K : KK Γ s s.heap)   (σ : Sg) (H : Heap) (locs : List Loc) (ls : Array Slot)  (hB : Bd Γ σ s H locs) (hl : lv_has ls 3 [(0, .ref (Γ.1 143))]) (hr : f_X2_readFaults_0    σ = some res) : WI Γ rm_X2_readFaults p l e s m args below meth c H locs res (F0 m 0 ls []) := by
  unfold f_X2_readFaults_0 at hr
  refine lv_aload_n M.1 M.2.1 dX2_readFaults_0 rfl (lv_at hl 0 rfl) ?_
  refine lv_iconst (v := 0) M.1 M.2.1 dX2_readFaults_1 (by decide) ?_
  obtain ⟨σ_1, e_2, hr⟩ := wbd hr
  refine x_put2 M K hB isK_143 2 (by decide) wd_80 dX2_readFaults_2 (fun H locs hB => ?_)
  rw [← e_2] at hB
  refine lv_aload_n M.1 M.2.1 dX2_readFaults_5 rfl (lv_at hl 0 rfl) ?_
  refine lv_iconst (v := 0) M.1 M.2.1 dX2_readFaults_6 (by decide) ?_
  obtain ⟨σ_3, e_4, hr⟩ := wbd hr
  refine x_put2 M K hB isK_143 3 (by decide) wd_83 dX2_readFaults_7 (fun H locs hB => ?_)
  rw [← e_4] at hB
  refine lv_aload_n M.1 M.2.1 dX2_readFaults_10 rfl (lv_at hl 0 rfl) ?_
  obtain ⟨v_5, σ_6, h_7, hr⟩ := cbd hr
  refine x_callI (x_runV M K hB hl.1 [] (rest := []) rfl (c_X2_readFault l Γ   σ_3 (v_5, σ_6) h_7) cy_X2_readFault (x_recv K hB isK_143.2 (ent_2 isK_143.1) rfl) wd_93 ⟨rfl, rfl, Nat.le_of_ble_eq_true rfl, Nat.le_of_ble_eq_true rfl⟩ (Nat.le_of_ble_eq_true rfl) ⟨Nat.zero_le _, Nat.zero_le _⟩ dX2_readFaults_11) hB (fun H locs hB => ?_)
  replace hB : Bd Γ σ_6 s H locs := hB
  refine lv_istore_n (lv' := [(1, .int v_5), (0, .ref (Γ.1 143))]) M.1 M.2.1 dX2_readFaults_14 rfl hl (by decide) rfl (fun ls hl => ?_)
  refine lv_iconst (v := 0) M.1 M.2.1 dX2_readFaults_15 (by decide) ?_
  refine lv_istore_n (lv' := [(2, .int 0), (1, .int v_5), (0, .ref (Γ.1 143))]) M.1 M.2.1 dX2_readFaults_16 rfl hl (by decide) rfl (fun ls hl => ?_)
  exact w_X2_readFaults_17 M K   FU v_5 0 _ _ _ _  hB (lv_sub hl [2, 1, 0] rfl) hr
theorem c_X2_readFaults (l : Launch) (Γ : GG)   (σ : Sg) (res : Int32 × Sg) (hr : f_X2_readFaults_0  σ = some res) : Met l yX2_readFaults (Cond.code yX2_readFaults cX2_readFaults 3 (some .int) :: gtb) rm_X2_readFaults (va_Pc [.ref (Γ.1 143)] (GI Γ σ)) (QI Γ res) 0 0 (AD Γ) :=
  x_metI (by decide) [.ref (Γ.1 143)] (Nat.le_of_ble_eq_true rfl) (fun p e s m args below meth c M K ls hl hB => w_X2_readFaults_0 M K  σ _ _ ls hB hl hr)
abbrev rm_X4_isAllowed : Room := { frames := 1, cells := 0, slots := 0, locals := 22 }
def f_X4_isAllowed_34 (a0 : Int32) (a1 : Int32) (t2 : Nat) (t3 : Nat)  (s0 : Int32) (σ : Sg) : Option (Int32 × Sg) :=
if s0 = 0 ∨ s0 = 1 then some (s0, σ) else none
set_option maxHeartbeats 4000000 in
set_option maxRecDepth 100000 in
theorem w_X4_isAllowed_34 {p : Program} {l : Launch} {e : Env} {s : State} {m : MethodId} {args : Array Value} {below : List Frame} {meth : Method} {c : Code} {Γ : GG} {res : Int32 × Sg} (M : MX RX4 cX4_isAllowed 4 (some .boolean) p s m args meth c) (K : KK Γ s s.heap) (a0 : Int32) (a1 : Int32) {t2 : Nat} (ht2 : t2 < 6) {t3 : Nat} (ht3 : t3 < 6) (s0 : Int32) (σ : Sg) (H : Heap) (locs : List Loc) (ls : Array Slot)  (hB : Bd Γ σ s H locs) (hl : lv_has ls 4 []) (hr : f_X4_isAllowed_34 a0 a1 t2 t3  s0 σ = some res) : WI Γ rm_X4_isAllowed p l e s m args below meth c H locs res (F0 m 34 ls [.int s0]) := by
  unfold f_X4_isAllowed_34 at hr
  obtain ⟨g_10, hr⟩ := gd2 hr
  exact x_zret M hB (nar_z g_10) (Option.some.inj hr) dX4_isAllowed_34
def f_X4_isAllowed_33 (a0 : Int32) (a1 : Int32) (t2 : Nat) (t3 : Nat)   (σ : Sg) : Option (Int32 × Sg) :=
f_X4_isAllowed_34 a0 a1 t2 t3  0 σ
set_option maxHeartbeats 4000000 in
set_option maxRecDepth 100000 in
theorem w_X4_isAllowed_33 {p : Program} {l : Launch} {e : Env} {s : State} {m : MethodId} {args : Array Value} {below : List Frame} {meth : Method} {c : Code} {Γ : GG} {res : Int32 × Sg} (M : MX RX4 cX4_isAllowed 4 (some .boolean) p s m args meth c) (K : KK Γ s s.heap) (a0 : Int32) (a1 : Int32) {t2 : Nat} (ht2 : t2 < 6) {t3 : Nat} (ht3 : t3 < 6)  (σ : Sg) (H : Heap) (locs : List Loc) (ls : Array Slot)  (hB : Bd Γ σ s H locs) (hl : lv_has ls 4 []) (hr : f_X4_isAllowed_33 a0 a1 t2 t3   σ = some res) : WI Γ rm_X4_isAllowed p l e s m args below meth c H locs res (F0 m 33 ls []) := by
  unfold f_X4_isAllowed_33 at hr
  refine lv_iconst (v := 0) M.1 M.2.1 dX4_isAllowed_33 (by decide) ?_
  exact w_X4_isAllowed_34 M K a0 a1 ht2 ht3  0 _ _ _ _  hB (lv_sub hl [] rfl) hr
def f_X4_isAllowed_0 (a0 : Int32) (a1 : Int32) (t2 : Nat) (t3 : Nat)   (σ : Sg) : Option (Int32 × Sg) :=
if a0 < 0 then
f_X4_isAllowed_33 a0 a1 t2 t3   σ
else
if 8 ≤ a0 then
f_X4_isAllowed_33 a0 a1 t2 t3   σ
else
if 8 ≤ a0 then
f_X4_isAllowed_33 a0 a1 t2 t3   σ
else
if a0 < 0 ∨ 8 ≤ a0.toNatClampNeg then none else
if a0 < 0 ∨ 8 ≤ a0.toNatClampNeg then none else
cb (f_X4_isWithin_0 a1 (tb t2 (a0.toNatClampNeg)) (tb t3 (a0.toNatClampNeg)) σ) fun v_6 σ_7 =>
if v_6 = 0 then
f_X4_isAllowed_33 a0 a1 t2 t3   σ_7
else
f_X4_isAllowed_34 a0 a1 t2 t3  1 σ_7
set_option maxHeartbeats 4000000 in
set_option maxRecDepth 100000 in
theorem w_X4_isAllowed_0 {p : Program} {l : Launch} {e : Env} {s : State} {m : MethodId} {args : Array Value} {below : List Frame} {meth : Method} {c : Code} {Γ : GG} {res : Int32 × Sg} (M : MX RX4 cX4_isAllowed 4 (some .boolean) p s m args meth c) (K : KK Γ s s.heap) (a0 : Int32) (a1 : Int32) {t2 : Nat} (ht2 : t2 < 6) {t3 : Nat} (ht3 : t3 < 6)  (σ : Sg) (H : Heap) (locs : List Loc) (ls : Array Slot)  (hB : Bd Γ σ s H locs) (hl : lv_has ls 4 [(0, .int a0), (1, .int a1), (2, .ref (gS Γ t2)), (3, .ref (gS Γ t3))]) (hr : f_X4_isAllowed_0 a0 a1 t2 t3   σ = some res) : WI Γ rm_X4_isAllowed p l e s m args below meth c H locs res (F0 m 0 ls []) := by
  unfold f_X4_isAllowed_0 at hr
  refine lv_iload_n M.1 M.2.1 dX4_isAllowed_0 rfl (lv_at hl 0 rfl) ?_
  refine lv_if_lt (tgt := 33) M.1 M.2.1 dX4_isAllowed_1 (by decide) (fun c_1 => ?_) (fun c_1 => ?_)
  · rw [if_pos c_1] at hr
    exact w_X4_isAllowed_33 M K a0 a1 ht2 ht3   _ _ _ _  hB (lv_sub hl [] rfl) hr
  · rw [if_neg c_1] at hr
    refine lv_iload_n M.1 M.2.1 dX4_isAllowed_4 rfl (lv_at hl 0 rfl) ?_
    refine lv_aload_n M.1 M.2.1 dX4_isAllowed_5 rfl (lv_at hl 2 rfl) ?_
    refine x_tlen M K hB ht2 dX4_isAllowed_6 ?_
    refine lv_icmp_ge (tgt := 33) M.1 M.2.1 dX4_isAllowed_7 (by decide) (fun c_2 => ?_) (fun c_2 => ?_)
    · rw [if_pos c_2] at hr
      exact w_X4_isAllowed_33 M K a0 a1 ht2 ht3   _ _ _ _  hB (lv_sub hl [] rfl) hr
    · rw [if_neg c_2] at hr
      refine lv_iload_n M.1 M.2.1 dX4_isAllowed_10 rfl (lv_at hl 0 rfl) ?_
      refine lv_aload_n M.1 M.2.1 dX4_isAllowed_11 rfl (lv_at hl 3 rfl) ?_
      refine x_tlen M K hB ht3 dX4_isAllowed_12 ?_
      refine lv_icmp_ge (tgt := 33) M.1 M.2.1 dX4_isAllowed_13 (by decide) (fun c_3 => ?_) (fun c_3 => ?_)
      · rw [if_pos c_3] at hr
        exact w_X4_isAllowed_33 M K a0 a1 ht2 ht3   _ _ _ _  hB (lv_sub hl [] rfl) hr
      · rw [if_neg c_3] at hr
        refine lv_iload_n M.1 M.2.1 dX4_isAllowed_16 rfl (lv_at hl 1 rfl) ?_
        refine lv_aload_n M.1 M.2.1 dX4_isAllowed_17 rfl (lv_at hl 2 rfl) ?_
        refine lv_iload_n M.1 M.2.1 dX4_isAllowed_18 rfl (lv_at hl 0 rfl) ?_
        obtain ⟨g_4, hr⟩ := gd hr
        refine x_ti M K hB ht2 g_4 dX4_isAllowed_19 ?_
        refine lv_aload_n M.1 M.2.1 dX4_isAllowed_20 rfl (lv_at hl 3 rfl) ?_
        refine lv_iload_n M.1 M.2.1 dX4_isAllowed_21 rfl (lv_at hl 0 rfl) ?_
        obtain ⟨g_5, hr⟩ := gd hr
        refine x_ti M K hB ht3 g_5 dX4_isAllowed_22 ?_
        obtain ⟨v_6, σ_7, h_8, hr⟩ := cbd hr
        refine x_callI (x_runS M K hB hl.1 [.int a1, .int (tb t2 (a0.toNatClampNeg)), .int (tb t3 (a0.toNatClampNeg))] (rest := []) rfl (c_X4_isWithin l Γ a1 (tb t2 (a0.toNatClampNeg)) (tb t3 (a0.toNatClampNeg))  σ (v_6, σ_7) h_8) cy_X4_isWithin wd_94 ⟨rfl, rfl, Nat.le_of_ble_eq_true rfl, Nat.le_of_ble_eq_true rfl⟩ (Nat.le_of_ble_eq_true rfl) ⟨Nat.zero_le _, Nat.zero_le _⟩ dX4_isAllowed_23) hB (fun H locs hB => ?_)
        replace hB : Bd Γ σ_7 s H locs := hB
        refine lv_if_eq (tgt := 33) M.1 M.2.1 dX4_isAllowed_26 (by decide) (fun c_9 => ?_) (fun c_9 => ?_)
        · rw [if_pos c_9] at hr
          exact w_X4_isAllowed_33 M K a0 a1 ht2 ht3   _ _ _ _  hB (lv_sub hl [] rfl) hr
        · rw [if_neg c_9] at hr
          refine lv_iconst (v := 1) M.1 M.2.1 dX4_isAllowed_29 (by decide) ?_
          refine lv_goto (tgt := 34) M.1 M.2.1 dX4_isAllowed_30 (by decide) ?_
          exact w_X4_isAllowed_34 M K a0 a1 ht2 ht3  1 _ _ _ _  hB (lv_sub hl [] rfl) hr
theorem c_X4_isAllowed (l : Launch) (Γ : GG) (a0 : Int32) (a1 : Int32) (t2 : Nat) (t3 : Nat) (ht2 : t2 < 6) (ht3 : t3 < 6) (σ : Sg) (res : Int32 × Sg) (hr : f_X4_isAllowed_0 a0 a1 t2 t3 σ = some res) : Met l yX4_isAllowed (Cond.code yX4_isAllowed cX4_isAllowed 4 (some .boolean) :: gtb) rm_X4_isAllowed (va_Pc [.int a0, .int a1, .ref (gS Γ t2), .ref (gS Γ t3)] (GI Γ σ)) (QI Γ res) 0 0 (AD Γ) :=
  x_metI (by decide) [.int a0, .int a1, .ref (gS Γ t2), .ref (gS Γ t3)] (Nat.le_of_ble_eq_true rfl) (fun p e s m args below meth c M K ls hl hB => w_X4_isAllowed_0 M K a0 a1 ht2 ht3 σ _ _ ls hB hl hr)
abbrev rm_X4_rule : Room := { frames := 2, cells := 0, slots := 0, locals := 45 }
def f_X4_rule_0 (a0 : Int32) (a1 : Int32)   (σ : Sg) : Option (Int32 × Sg) :=
cb (f_X4_isAllowed_0 a0 a1 0 1 σ) fun v_1 σ_2 =>
if v_1 = 0 then
some ((-2), σ_2)
else
if a0 < 0 ∨ 8 ≤ a0.toNatClampNeg then none else
if a0 < 0 ∨ 8 ≤ a0.toNatClampNeg then none else
wb (st σ_2 2 (a0.toNatClampNeg) a1) fun σ_7 =>
some (σ_2 2 (a0.toNatClampNeg), σ_7)
set_option maxHeartbeats 4000000 in
set_option maxRecDepth 100000 in
theorem w_X4_rule_0 {p : Program} {l : Launch} {e : Env} {s : State} {m : MethodId} {args : Array Value} {below : List Frame} {meth : Method} {c : Code} {Γ : GG} {res : Int32 × Sg} (M : MX RX4 cX4_rule 4 (some .int) p s m args meth c) (K : KK Γ s s.heap) (a0 : Int32) (a1 : Int32)  (σ : Sg) (H : Heap) (locs : List Loc) (ls : Array Slot)  (hB : Bd Γ σ s H locs) (hl : lv_has ls 4 [(0, .ref (Γ.1 0)), (1, .int a0), (2, .int a1)]) (hr : f_X4_rule_0 a0 a1   σ = some res) : WI Γ rm_X4_rule p l e s m args below meth c H locs res (F0 m 0 ls []) := by
  unfold f_X4_rule_0 at hr
  refine lv_iload_n M.1 M.2.1 dX4_rule_0 rfl (lv_at hl 1 rfl) ?_
  refine lv_iload_n M.1 M.2.1 dX4_rule_1 rfl (lv_at hl 2 rfl) ?_
  refine x_gets M K hB 0 (by decide) wd_95 dX4_rule_2 ?_
  refine x_gets M K hB 1 (by decide) wd_96 dX4_rule_5 ?_
  obtain ⟨v_1, σ_2, h_3, hr⟩ := cbd hr
  refine x_callI (x_runS M K hB hl.1 [.int a0, .int a1, .ref (gS Γ 0), .ref (gS Γ 1)] (rest := []) rfl (c_X4_isAllowed l Γ a0 a1 0 1 (by decide : 0 < 6) (by decide : 1 < 6) σ (v_1, σ_2) h_3) cy_X4_isAllowed wd_97 ⟨rfl, rfl, Nat.le_of_ble_eq_true rfl, Nat.le_of_ble_eq_true rfl⟩ (Nat.le_of_ble_eq_true rfl) ⟨Nat.zero_le _, Nat.zero_le _⟩ dX4_rule_8) hB (fun H locs hB => ?_)
  replace hB : Bd Γ σ_2 s H locs := hB
  refine lv_if_ne (tgt := 17) M.1 M.2.1 dX4_rule_11 (by decide) (fun c_4 => ?_) (fun c_4 => ?_)
  · rw [if_neg c_4] at hr
    refine lv_aload_n M.1 M.2.1 dX4_rule_17 rfl (lv_at hl 0 rfl) ?_
    refine x_get4 M K hB isK_0 0 (by decide) wd_98 (v := .ref (Γ.1 1)) rfl dX4_rule_18 ?_
    refine x_get0 M K hB (isB_1.k) 0 (by decide) wd_99 (v := .ref (Γ.1 2)) rfl dX4_rule_21 ?_
    refine lv_iload_n M.1 M.2.1 dX4_rule_24 rfl (lv_at hl 1 rfl) ?_
    obtain ⟨g_5, hr⟩ := gd hr
    refine x_iald M K hB (isB_1.a1) g_5 dX4_rule_25 ?_
    refine lv_istore_n (lv' := [(3, .int (σ_2 2 (a0.toNatClampNeg))), (0, .ref (Γ.1 0)), (1, .int a0), (2, .int a1)]) M.1 M.2.1 dX4_rule_26 rfl hl (by decide) rfl (fun ls hl => ?_)
    refine lv_aload_n M.1 M.2.1 dX4_rule_27 rfl (lv_at hl 1 rfl) ?_
    refine x_get4 M K hB isK_0 0 (by decide) wd_98 (v := .ref (Γ.1 1)) rfl dX4_rule_28 ?_
    refine x_get0 M K hB (isB_1.k) 0 (by decide) wd_99 (v := .ref (Γ.1 2)) rfl dX4_rule_31 ?_
    refine lv_iload_n M.1 M.2.1 dX4_rule_34 rfl (lv_at hl 2 rfl) ?_
    refine lv_iload_n M.1 M.2.1 dX4_rule_35 rfl (lv_at hl 3 rfl) ?_
    obtain ⟨g_6, hr⟩ := gd hr
    obtain ⟨σ_7, e_8, hr⟩ := wbd hr
    refine x_iast M K hB (isB_1.a1) g_6 dX4_rule_36 (fun H locs hB => ?_)
    rw [← e_8] at hB
    refine lv_iload_n M.1 M.2.1 dX4_rule_37 rfl (lv_at hl 0 rfl) ?_
    exact x_iret M hB (Option.some.inj hr) dX4_rule_38
  · rw [if_pos c_4] at hr
    refine lv_bipush (v := (-2)) M.1 M.2.1 dX4_rule_14 (by decide) ?_
    exact x_iret M hB (Option.some.inj hr) dX4_rule_16
theorem c_X4_rule (l : Launch) (Γ : GG) (a0 : Int32) (a1 : Int32)  (σ : Sg) (res : Int32 × Sg) (hr : f_X4_rule_0 a0 a1 σ = some res) : Met l yX4_rule (Cond.code yX4_rule cX4_rule 4 (some .int) :: gtb) rm_X4_rule (va_Pc [.ref (Γ.1 0), .int a0, .int a1] (GI Γ σ)) (QI Γ res) 0 0 (AD Γ) :=
  x_metI (by decide) [.ref (Γ.1 0), .int a0, .int a1] (Nat.le_of_ble_eq_true rfl) (fun p e s m args below meth c M K ls hl hB => w_X4_rule_0 M K a0 a1 σ _ _ ls hB hl hr)
abbrev rm_X4_addTask : Room := { frames := 2, cells := 0, slots := 0, locals := 49 }
def f_X4_addTask_28 (a0 : Int32) (a1 : Int32)   (σ : Sg) : Option (Int32 × Sg) :=
some ((-2), σ)
set_option maxHeartbeats 4000000 in
set_option maxRecDepth 100000 in
theorem w_X4_addTask_28 {p : Program} {l : Launch} {e : Env} {s : State} {m : MethodId} {args : Array Value} {below : List Frame} {meth : Method} {c : Code} {Γ : GG} {res : Int32 × Sg} (M : MX RX4 cX4_addTask 4 (some .int) p s m args meth c) (K : KK Γ s s.heap) (a0 : Int32) (a1 : Int32)  (σ : Sg) (H : Heap) (locs : List Loc) (ls : Array Slot)  (hB : Bd Γ σ s H locs) (hl : lv_has ls 4 []) (hr : f_X4_addTask_28 a0 a1   σ = some res) : WI Γ rm_X4_addTask p l e s m args below meth c H locs res (F0 m 28 ls []) := by
  unfold f_X4_addTask_28 at hr
  refine lv_bipush (v := (-2)) M.1 M.2.1 dX4_addTask_28 (by decide) ?_
  exact x_iret M hB (Option.some.inj hr) dX4_addTask_30
def f_X4_addTask_0 (a0 : Int32) (a1 : Int32)   (σ : Sg) : Option (Int32 × Sg) :=
cb (f_X4_isAllowed_0 0 a0 3 4 σ) fun v_1 σ_2 =>
if v_1 = 0 then
f_X4_addTask_28 a0 a1   σ_2
else
cb (f_X4_isAllowed_0 1 a1 3 4 σ_2) fun v_5 σ_6 =>
if v_5 = 0 then
f_X4_addTask_28 a0 a1   σ_6
else
if σ_6 1 3 < 6 then
if σ_6 1 3 < 0 ∨ 6 ≤ (σ_6 1 3).toNatClampNeg then none else
cb (f_X3_becomeNew_0 (3 + 3 + 5 * (σ_6 1 3).toNatClampNeg) a0 a1 σ_6) fun v_11 σ_12 =>
wb (st σ_12 1 3 ((σ_12 1 3) + 1)) fun σ_14 =>
some (σ_6 1 3, σ_14)
else
some ((-4), σ_6)
set_option maxHeartbeats 4000000 in
set_option maxRecDepth 100000 in
theorem w_X4_addTask_0 {p : Program} {l : Launch} {e : Env} {s : State} {m : MethodId} {args : Array Value} {below : List Frame} {meth : Method} {c : Code} {Γ : GG} {res : Int32 × Sg} (M : MX RX4 cX4_addTask 4 (some .int) p s m args meth c) (K : KK Γ s s.heap) (a0 : Int32) (a1 : Int32)  (σ : Sg) (H : Heap) (locs : List Loc) (ls : Array Slot)  (hB : Bd Γ σ s H locs) (hl : lv_has ls 4 [(0, .ref (Γ.1 0)), (1, .int a0), (2, .int a1)]) (hr : f_X4_addTask_0 a0 a1   σ = some res) : WI Γ rm_X4_addTask p l e s m args below meth c H locs res (F0 m 0 ls []) := by
  unfold f_X4_addTask_0 at hr
  refine lv_iconst (v := 0) M.1 M.2.1 dX4_addTask_0 (by decide) ?_
  refine lv_iload_n M.1 M.2.1 dX4_addTask_1 rfl (lv_at hl 1 rfl) ?_
  refine x_gets M K hB 3 (by decide) wd_100 dX4_addTask_2 ?_
  refine x_gets M K hB 4 (by decide) wd_101 dX4_addTask_5 ?_
  obtain ⟨v_1, σ_2, h_3, hr⟩ := cbd hr
  refine x_callI (x_runS M K hB hl.1 [.int 0, .int a0, .ref (gS Γ 3), .ref (gS Γ 4)] (rest := []) rfl (c_X4_isAllowed l Γ 0 a0 3 4 (by decide : 3 < 6) (by decide : 4 < 6) σ (v_1, σ_2) h_3) cy_X4_isAllowed wd_97 ⟨rfl, rfl, Nat.le_of_ble_eq_true rfl, Nat.le_of_ble_eq_true rfl⟩ (Nat.le_of_ble_eq_true rfl) ⟨Nat.zero_le _, Nat.zero_le _⟩ dX4_addTask_8) hB (fun H locs hB => ?_)
  replace hB : Bd Γ σ_2 s H locs := hB
  refine lv_if_eq (tgt := 28) M.1 M.2.1 dX4_addTask_11 (by decide) (fun c_4 => ?_) (fun c_4 => ?_)
  · rw [if_pos c_4] at hr
    exact w_X4_addTask_28 M K a0 a1   _ _ _ _  hB (lv_sub hl [] rfl) hr
  · rw [if_neg c_4] at hr
    refine lv_iconst (v := 1) M.1 M.2.1 dX4_addTask_14 (by decide) ?_
    refine lv_iload_n M.1 M.2.1 dX4_addTask_15 rfl (lv_at hl 2 rfl) ?_
    refine x_gets M K hB 3 (by decide) wd_100 dX4_addTask_16 ?_
    refine x_gets M K hB 4 (by decide) wd_101 dX4_addTask_19 ?_
    obtain ⟨v_5, σ_6, h_7, hr⟩ := cbd hr
    refine x_callI (x_runS M K hB hl.1 [.int 1, .int a1, .ref (gS Γ 3), .ref (gS Γ 4)] (rest := []) rfl (c_X4_isAllowed l Γ 1 a1 3 4 (by decide : 3 < 6) (by decide : 4 < 6) σ_2 (v_5, σ_6) h_7) cy_X4_isAllowed wd_97 ⟨rfl, rfl, Nat.le_of_ble_eq_true rfl, Nat.le_of_ble_eq_true rfl⟩ (Nat.le_of_ble_eq_true rfl) ⟨Nat.zero_le _, Nat.zero_le _⟩ dX4_addTask_22) hB (fun H locs hB => ?_)
    replace hB : Bd Γ σ_6 s H locs := hB
    refine lv_if_ne (tgt := 31) M.1 M.2.1 dX4_addTask_25 (by decide) (fun c_8 => ?_) (fun c_8 => ?_)
    · rw [if_neg c_8] at hr
      refine lv_aload_n M.1 M.2.1 dX4_addTask_31 rfl (lv_at hl 0 rfl) ?_
      refine x_get4 M K hB isK_0 0 (by decide) wd_98 (v := .ref (Γ.1 1)) rfl dX4_addTask_32 ?_
      refine x_get0 M K hB (isB_1.k) 3 (by decide) wd_102 (v := .int (σ_6 1 3)) rfl dX4_addTask_35 ?_
      refine lv_bipush (v := 6) M.1 M.2.1 dX4_addTask_38 (by decide) ?_
      refine lv_icmp_lt (tgt := 46) M.1 M.2.1 dX4_addTask_40 (by decide) (fun c_9 => ?_) (fun c_9 => ?_)
      · rw [if_pos c_9] at hr
        refine lv_aload_n M.1 M.2.1 dX4_addTask_46 rfl (lv_at hl 0 rfl) ?_
        refine x_get4 M K hB isK_0 0 (by decide) wd_98 (v := .ref (Γ.1 1)) rfl dX4_addTask_47 ?_
        refine x_get0 M K hB (isB_1.k) 3 (by decide) wd_102 (v := .int (σ_6 1 3)) rfl dX4_addTask_50 ?_
        refine lv_istore_n (lv' := [(3, .int (σ_6 1 3)), (0, .ref (Γ.1 0)), (1, .int a0), (2, .int a1)]) M.1 M.2.1 dX4_addTask_53 rfl hl (by decide) rfl (fun ls hl => ?_)
        refine lv_aload_n M.1 M.2.1 dX4_addTask_54 rfl (lv_at hl 1 rfl) ?_
        refine x_get4 M K hB isK_0 0 (by decide) wd_98 (v := .ref (Γ.1 1)) rfl dX4_addTask_55 ?_
        refine x_get0 M K hB (isB_1.k) 1 (by decide) wd_103 (v := .ref (Γ.1 3)) rfl dX4_addTask_58 ?_
        refine lv_iload_n M.1 M.2.1 dX4_addTask_61 rfl (lv_at hl 0 rfl) ?_
        obtain ⟨g_10, hr⟩ := gd hr
        refine x_aaldT M K hB (isB_1.k2) g_10 dX4_addTask_62 ?_
        refine lv_iload_n M.1 M.2.1 dX4_addTask_63 rfl (lv_at hl 2 rfl) ?_
        refine lv_iload_n M.1 M.2.1 dX4_addTask_64 rfl (lv_at hl 3 rfl) ?_
        obtain ⟨v_11, σ_12, h_13, hr⟩ := cbd hr
        refine x_callV (x_runV M K hB hl.1 [.int a0, .int a1] (rest := []) rfl (c_X3_becomeNew l Γ (3 + 3 + 5 * (σ_6 1 3).toNatClampNeg) a0 a1 (isB.t isB_1 (vp_lt g_10)) σ_6 (v_11, σ_12) h_13) cy_X3_becomeNew (x_recv K hB ((isB.t isB_1 (vp_lt g_10)).k).2 (ent_3 ((isB.t isB_1 (vp_lt g_10)).k).1) rfl) wd_104 ⟨rfl, rfl, Nat.le_of_ble_eq_true rfl, Nat.le_of_ble_eq_true rfl⟩ (Nat.le_of_ble_eq_true rfl) ⟨Nat.zero_le _, Nat.zero_le _⟩ dX4_addTask_65) hB (fun H locs hB => ?_)
        replace hB : Bd Γ σ_12 s H locs := hB
        refine lv_aload_n M.1 M.2.1 dX4_addTask_68 rfl (lv_at hl 1 rfl) ?_
        refine x_get4 M K hB isK_0 0 (by decide) wd_98 (v := .ref (Γ.1 1)) rfl dX4_addTask_69 ?_
        refine lv_dup M.1 M.2.1 dX4_addTask_72 rfl ?_
        refine x_get0 M K hB (isB_1.k) 3 (by decide) wd_102 (v := .int (σ_12 1 3)) rfl dX4_addTask_73 ?_
        refine lv_iconst (v := 1) M.1 M.2.1 dX4_addTask_76 (by decide) ?_
        refine lv_iadd M.1 M.2.1 dX4_addTask_77 ?_
        obtain ⟨σ_14, e_15, hr⟩ := wbd hr
        refine x_put0 M K hB (isB_1.k) 3 (by decide) wd_102 dX4_addTask_78 (fun H locs hB => ?_)
        rw [← e_15] at hB
        refine lv_iload_n M.1 M.2.1 dX4_addTask_81 rfl (lv_at hl 0 rfl) ?_
        exact x_iret M hB (Option.some.inj hr) dX4_addTask_82
      · rw [if_neg c_9] at hr
        refine lv_bipush (v := (-4)) M.1 M.2.1 dX4_addTask_43 (by decide) ?_
        exact x_iret M hB (Option.some.inj hr) dX4_addTask_45
    · rw [if_pos c_8] at hr
      exact w_X4_addTask_28 M K a0 a1   _ _ _ _  hB (lv_sub hl [] rfl) hr
theorem c_X4_addTask (l : Launch) (Γ : GG) (a0 : Int32) (a1 : Int32)  (σ : Sg) (res : Int32 × Sg) (hr : f_X4_addTask_0 a0 a1 σ = some res) : Met l yX4_addTask (Cond.code yX4_addTask cX4_addTask 4 (some .int) :: gtb) rm_X4_addTask (va_Pc [.ref (Γ.1 0), .int a0, .int a1] (GI Γ σ)) (QI Γ res) 0 0 (AD Γ) :=
  x_metI (by decide) [.ref (Γ.1 0), .int a0, .int a1] (Nat.le_of_ble_eq_true rfl) (fun p e s m args below meth c M K ls hl hB => w_X4_addTask_0 M K a0 a1 σ _ _ ls hB hl hr)
abbrev rm_X4_hasTask : Room := { frames := 1, cells := 0, slots := 0, locals := 22 }
def f_X4_hasTask_0 (a0 : Int32)   (σ : Sg) : Option (Int32 × Sg) :=
cb (f_X4_isWithin_0 a0 0 ((σ 1 3) - 1) σ) fun v_1 σ_2 =>
if v_1 = 0 ∨ v_1 = 1 then some (v_1, σ_2) else none
set_option maxHeartbeats 4000000 in
set_option maxRecDepth 100000 in
theorem w_X4_hasTask_0 {p : Program} {l : Launch} {e : Env} {s : State} {m : MethodId} {args : Array Value} {below : List Frame} {meth : Method} {c : Code} {Γ : GG} {res : Int32 × Sg} (M : MX RX4 cX4_hasTask 2 (some .boolean) p s m args meth c) (K : KK Γ s s.heap) (a0 : Int32)  (σ : Sg) (H : Heap) (locs : List Loc) (ls : Array Slot)  (hB : Bd Γ σ s H locs) (hl : lv_has ls 2 [(0, .ref (Γ.1 0)), (1, .int a0)]) (hr : f_X4_hasTask_0 a0   σ = some res) : WI Γ rm_X4_hasTask p l e s m args below meth c H locs res (F0 m 0 ls []) := by
  unfold f_X4_hasTask_0 at hr
  refine lv_iload_n M.1 M.2.1 dX4_hasTask_0 rfl (lv_at hl 1 rfl) ?_
  refine lv_iconst (v := 0) M.1 M.2.1 dX4_hasTask_1 (by decide) ?_
  refine lv_aload_n M.1 M.2.1 dX4_hasTask_2 rfl (lv_at hl 0 rfl) ?_
  refine x_get4 M K hB isK_0 0 (by decide) wd_98 (v := .ref (Γ.1 1)) rfl dX4_hasTask_3 ?_
  refine x_get0 M K hB (isB_1.k) 3 (by decide) wd_102 (v := .int (σ 1 3)) rfl dX4_hasTask_6 ?_
  refine lv_iconst (v := 1) M.1 M.2.1 dX4_hasTask_9 (by decide) ?_
  refine lv_isub M.1 M.2.1 dX4_hasTask_10 ?_
  obtain ⟨v_1, σ_2, h_3, hr⟩ := cbd hr
  refine x_callI (x_runS M K hB hl.1 [.int a0, .int 0, .int ((σ 1 3) - 1)] (rest := []) rfl (c_X4_isWithin l Γ a0 0 ((σ 1 3) - 1)  σ (v_1, σ_2) h_3) cy_X4_isWithin wd_94 ⟨rfl, rfl, Nat.le_of_ble_eq_true rfl, Nat.le_of_ble_eq_true rfl⟩ (Nat.le_of_ble_eq_true rfl) ⟨Nat.zero_le _, Nat.zero_le _⟩ dX4_hasTask_11) hB (fun H locs hB => ?_)
  replace hB : Bd Γ σ_2 s H locs := hB
  obtain ⟨g_4, hr⟩ := gd2 hr
  exact x_zret M hB (nar_z g_4) (Option.some.inj hr) dX4_hasTask_14
theorem c_X4_hasTask (l : Launch) (Γ : GG) (a0 : Int32)  (σ : Sg) (res : Int32 × Sg) (hr : f_X4_hasTask_0 a0 σ = some res) : Met l yX4_hasTask (Cond.code yX4_hasTask cX4_hasTask 2 (some .boolean) :: gtb) rm_X4_hasTask (va_Pc [.ref (Γ.1 0), .int a0] (GI Γ σ)) (QI Γ res) 0 0 (AD Γ) :=
  x_metI (by decide) [.ref (Γ.1 0), .int a0] (Nat.le_of_ble_eq_true rfl) (fun p e s m args below meth c M K ls hl hB => w_X4_hasTask_0 M K a0 σ _ _ ls hB hl hr)
abbrev rm_X4_set : Room := { frames := 2, cells := 0, slots := 0, locals := 45 }
def f_X4_set_0 (a0 : Int32) (a1 : Int32) (a2 : Int32)   (σ : Sg) : Option (Int32 × Sg) :=
cb (f_X4_hasTask_0 a0 σ) fun v_1 σ_2 =>
if v_1 = 0 then
some ((-1), σ_2)
else
cb (f_X4_isAllowed_0 a1 a2 3 4 σ_2) fun v_5 σ_6 =>
if v_5 = 0 then
some ((-2), σ_6)
else
if a0 < 0 ∨ 6 ≤ a0.toNatClampNeg then none else
if a1 < 0 ∨ 8 ≤ a1.toNatClampNeg then none else
if a1 < 0 ∨ 8 ≤ a1.toNatClampNeg then none else
wb (st σ_6 (3 + 3 + 5 * a0.toNatClampNeg + 1) (a1.toNatClampNeg) a2) fun σ_12 =>
some (σ_6 (3 + 3 + 5 * a0.toNatClampNeg + 1) (a1.toNatClampNeg), σ_12)
set_option maxHeartbeats 4000000 in
set_option maxRecDepth 100000 in
theorem w_X4_set_0 {p : Program} {l : Launch} {e : Env} {s : State} {m : MethodId} {args : Array Value} {below : List Frame} {meth : Method} {c : Code} {Γ : GG} {res : Int32 × Sg} (M : MX RX4 cX4_set 6 (some .int) p s m args meth c) (K : KK Γ s s.heap) (a0 : Int32) (a1 : Int32) (a2 : Int32)  (σ : Sg) (H : Heap) (locs : List Loc) (ls : Array Slot)  (hB : Bd Γ σ s H locs) (hl : lv_has ls 6 [(0, .ref (Γ.1 0)), (1, .int a0), (2, .int a1), (3, .int a2)]) (hr : f_X4_set_0 a0 a1 a2   σ = some res) : WI Γ rm_X4_set p l e s m args below meth c H locs res (F0 m 0 ls []) := by
  unfold f_X4_set_0 at hr
  refine lv_aload_n M.1 M.2.1 dX4_set_0 rfl (lv_at hl 0 rfl) ?_
  refine lv_iload_n M.1 M.2.1 dX4_set_1 rfl (lv_at hl 1 rfl) ?_
  obtain ⟨v_1, σ_2, h_3, hr⟩ := cbd hr
  refine x_callI (x_runV M K hB hl.1 [.int a0] (rest := []) rfl (c_X4_hasTask l Γ a0  σ (v_1, σ_2) h_3) cy_X4_hasTask (x_recv K hB isK_0.2 (ent_4 isK_0.1) rfl) wd_105 ⟨rfl, rfl, Nat.le_of_ble_eq_true rfl, Nat.le_of_ble_eq_true rfl⟩ (Nat.le_of_ble_eq_true rfl) ⟨Nat.zero_le _, Nat.zero_le _⟩ dX4_set_2) hB (fun H locs hB => ?_)
  replace hB : Bd Γ σ_2 s H locs := hB
  refine lv_if_ne (tgt := 10) M.1 M.2.1 dX4_set_5 (by decide) (fun c_4 => ?_) (fun c_4 => ?_)
  · rw [if_neg c_4] at hr
    refine lv_iload_n M.1 M.2.1 dX4_set_10 rfl (lv_at hl 2 rfl) ?_
    refine lv_iload_n M.1 M.2.1 dX4_set_11 rfl (lv_at hl 3 rfl) ?_
    refine x_gets M K hB 3 (by decide) wd_100 dX4_set_12 ?_
    refine x_gets M K hB 4 (by decide) wd_101 dX4_set_15 ?_
    obtain ⟨v_5, σ_6, h_7, hr⟩ := cbd hr
    refine x_callI (x_runS M K hB hl.1 [.int a1, .int a2, .ref (gS Γ 3), .ref (gS Γ 4)] (rest := []) rfl (c_X4_isAllowed l Γ a1 a2 3 4 (by decide : 3 < 6) (by decide : 4 < 6) σ_2 (v_5, σ_6) h_7) cy_X4_isAllowed wd_97 ⟨rfl, rfl, Nat.le_of_ble_eq_true rfl, Nat.le_of_ble_eq_true rfl⟩ (Nat.le_of_ble_eq_true rfl) ⟨Nat.zero_le _, Nat.zero_le _⟩ dX4_set_18) hB (fun H locs hB => ?_)
    replace hB : Bd Γ σ_6 s H locs := hB
    refine lv_if_ne (tgt := 27) M.1 M.2.1 dX4_set_21 (by decide) (fun c_8 => ?_) (fun c_8 => ?_)
    · rw [if_neg c_8] at hr
      refine lv_aload_n M.1 M.2.1 dX4_set_27 rfl (lv_at hl 0 rfl) ?_
      refine x_get4 M K hB isK_0 0 (by decide) wd_98 (v := .ref (Γ.1 1)) rfl dX4_set_28 ?_
      refine x_get0 M K hB (isB_1.k) 1 (by decide) wd_103 (v := .ref (Γ.1 3)) rfl dX4_set_31 ?_
      refine lv_iload_n M.1 M.2.1 dX4_set_34 rfl (lv_at hl 1 rfl) ?_
      obtain ⟨g_9, hr⟩ := gd hr
      refine x_aaldT M K hB (isB_1.k2) g_9 dX4_set_35 ?_
      refine x_get3 M K hB ((isB.t isB_1 (vp_lt g_9)).k) 0 (by decide) wd_106 (v := .ref (Γ.1 (3 + 3 + 5 * a0.toNatClampNeg + 1))) rfl dX4_set_36 ?_
      refine lv_astore (lv' := [(4, .ref (Γ.1 (3 + 3 + 5 * a0.toNatClampNeg + 1))), (0, .ref (Γ.1 0)), (1, .int a0), (2, .int a1), (3, .int a2)]) M.1 M.2.1 dX4_set_39 hl (by decide) rfl (fun ls hl => ?_)
      refine lv_aload M.1 M.2.1 dX4_set_41 (lv_at hl 0 rfl) ?_
      refine lv_iload_n M.1 M.2.1 dX4_set_43 rfl (lv_at hl 3 rfl) ?_
      obtain ⟨g_10, hr⟩ := gd hr
      refine x_iald M K hB ((isB.t isB_1 (vp_lt g_9)).a1) g_10 dX4_set_44 ?_
      refine lv_istore (lv' := [(5, .int (σ_6 (3 + 3 + 5 * a0.toNatClampNeg + 1) (a1.toNatClampNeg))), (4, .ref (Γ.1 (3 + 3 + 5 * a0.toNatClampNeg + 1))), (0, .ref (Γ.1 0)), (1, .int a0), (2, .int a1), (3, .int a2)]) M.1 M.2.1 dX4_set_45 hl (by decide) rfl (fun ls hl => ?_)
      refine lv_aload M.1 M.2.1 dX4_set_47 (lv_at hl 1 rfl) ?_
      refine lv_iload_n M.1 M.2.1 dX4_set_49 rfl (lv_at hl 4 rfl) ?_
      refine lv_iload_n M.1 M.2.1 dX4_set_50 rfl (lv_at hl 5 rfl) ?_
      obtain ⟨g_11, hr⟩ := gd hr
      obtain ⟨σ_12, e_13, hr⟩ := wbd hr
      refine x_iast M K hB ((isB.t isB_1 (vp_lt g_9)).a1) g_11 dX4_set_51 (fun H locs hB => ?_)
      rw [← e_13] at hB
      refine lv_iload M.1 M.2.1 dX4_set_52 (lv_at hl 0 rfl) ?_
      exact x_iret M hB (Option.some.inj hr) dX4_set_54
    · rw [if_pos c_8] at hr
      refine lv_bipush (v := (-2)) M.1 M.2.1 dX4_set_24 (by decide) ?_
      exact x_iret M hB (Option.some.inj hr) dX4_set_26
  · rw [if_pos c_4] at hr
    refine lv_iconst (v := (-1)) M.1 M.2.1 dX4_set_8 (by decide) ?_
    exact x_iret M hB (Option.some.inj hr) dX4_set_9
theorem c_X4_set (l : Launch) (Γ : GG) (a0 : Int32) (a1 : Int32) (a2 : Int32)  (σ : Sg) (res : Int32 × Sg) (hr : f_X4_set_0 a0 a1 a2 σ = some res) : Met l yX4_set (Cond.code yX4_set cX4_set 6 (some .int) :: gtb) rm_X4_set (va_Pc [.ref (Γ.1 0), .int a0, .int a1, .int a2] (GI Γ σ)) (QI Γ res) 0 0 (AD Γ) :=
  x_metI (by decide) [.ref (Γ.1 0), .int a0, .int a1, .int a2] (Nat.le_of_ble_eq_true rfl) (fun p e s m args below meth c M K ls hl hB => w_X4_set_0 M K a0 a1 a2 σ _ _ ls hB hl hr)
abbrev rm_X4_putFault : Room := { frames := 2, cells := 0, slots := 0, locals := 43 }
def f_X4_putFault_52 (a0 : Int32) (a1 : Int32) (a2 : Int32) (a3 : Int32) (a4 : Int32)   (σ : Sg) : Option (Int32 × Sg) :=
some ((-2), σ)
set_option maxHeartbeats 4000000 in
set_option maxRecDepth 100000 in
theorem w_X4_putFault_52 {p : Program} {l : Launch} {e : Env} {s : State} {m : MethodId} {args : Array Value} {below : List Frame} {meth : Method} {c : Code} {Γ : GG} {res : Int32 × Sg} (M : MX RX4 cX4_putFault 7 (some .int) p s m args meth c) (K : KK Γ s s.heap) (a0 : Int32) (a1 : Int32) (a2 : Int32) (a3 : Int32) (a4 : Int32)  (σ : Sg) (H : Heap) (locs : List Loc) (ls : Array Slot)  (hB : Bd Γ σ s H locs) (hl : lv_has ls 7 []) (hr : f_X4_putFault_52 a0 a1 a2 a3 a4   σ = some res) : WI Γ rm_X4_putFault p l e s m args below meth c H locs res (F0 m 52 ls []) := by
  unfold f_X4_putFault_52 at hr
  refine lv_bipush (v := (-2)) M.1 M.2.1 dX4_putFault_52 (by decide) ?_
  exact x_iret M hB (Option.some.inj hr) dX4_putFault_54
def f_X4_putFault_17 (a0 : Int32) (a1 : Int32) (a2 : Int32) (a3 : Int32) (a4 : Int32)   (σ : Sg) : Option (Int32 × Sg) :=
some ((-1), σ)
set_option maxHeartbeats 4000000 in
set_option maxRecDepth 100000 in
theorem w_X4_putFault_17 {p : Program} {l : Launch} {e : Env} {s : State} {m : MethodId} {args : Array Value} {below : List Frame} {meth : Method} {c : Code} {Γ : GG} {res : Int32 × Sg} (M : MX RX4 cX4_putFault 7 (some .int) p s m args meth c) (K : KK Γ s s.heap) (a0 : Int32) (a1 : Int32) (a2 : Int32) (a3 : Int32) (a4 : Int32)  (σ : Sg) (H : Heap) (locs : List Loc) (ls : Array Slot)  (hB : Bd Γ σ s H locs) (hl : lv_has ls 7 []) (hr : f_X4_putFault_17 a0 a1 a2 a3 a4   σ = some res) : WI Γ rm_X4_putFault p l e s m args below meth c H locs res (F0 m 17 ls []) := by
  unfold f_X4_putFault_17 at hr
  refine lv_iconst (v := (-1)) M.1 M.2.1 dX4_putFault_17 (by decide) ?_
  exact x_iret M hB (Option.some.inj hr) dX4_putFault_18
def f_X4_putFault_0 (a0 : Int32) (a1 : Int32) (a2 : Int32) (a3 : Int32) (a4 : Int32)   (σ : Sg) : Option (Int32 × Sg) :=
cb (f_X4_isWithin_0 a0 0 1 σ) fun v_1 σ_2 =>
if v_1 = 0 then
f_X4_putFault_17 a0 a1 a2 a3 a4   σ_2
else
cb (f_X4_hasTask_0 a1 σ_2) fun v_5 σ_6 =>
if v_5 = 0 then
f_X4_putFault_17 a0 a1 a2 a3 a4   σ_6
else
cb (f_X4_isWithin_0 a2 0 5 σ_6) fun v_9 σ_10 =>
if v_9 = 0 then
f_X4_putFault_52 a0 a1 a2 a3 a4   σ_10
else
cb (f_X4_isWithin_0 a3 0 5000 σ_10) fun v_13 σ_14 =>
if v_13 = 0 then
f_X4_putFault_52 a0 a1 a2 a3 a4   σ_14
else
cb (f_X4_isWithin_0 a4 0 500 σ_14) fun v_17 σ_18 =>
if v_17 = 0 then
f_X4_putFault_52 a0 a1 a2 a3 a4   σ_18
else
if a1 < 0 ∨ 6 ≤ a1.toNatClampNeg then none else
if a0 < 0 ∨ 2 ≤ a0.toNatClampNeg then none else
if a1 < 0 ∨ 6 ≤ a1.toNatClampNeg then none else
cb (f_X3_takeFault_0 (3 + 3 + 5 * a1.toNatClampNeg) a0 a2 a3 a4 σ_18) fun v_24 σ_25 =>
some (σ_18 (3 + 3 + 5 * a1.toNatClampNeg + 2) (a0.toNatClampNeg), σ_25)
set_option maxHeartbeats 4000000 in
set_option maxRecDepth 100000 in
theorem w_X4_putFault_0 {p : Program} {l : Launch} {e : Env} {s : State} {m : MethodId} {args : Array Value} {below : List Frame} {meth : Method} {c : Code} {Γ : GG} {res : Int32 × Sg} (M : MX RX4 cX4_putFault 7 (some .int) p s m args meth c) (K : KK Γ s s.heap) (a0 : Int32) (a1 : Int32) (a2 : Int32) (a3 : Int32) (a4 : Int32)  (σ : Sg) (H : Heap) (locs : List Loc) (ls : Array Slot)  (hB : Bd Γ σ s H locs) (hl : lv_has ls 7 [(0, .ref (Γ.1 0)), (1, .int a0), (2, .int a1), (3, .int a2), (4, .int a3), (5, .int a4)]) (hr : f_X4_putFault_0 a0 a1 a2 a3 a4   σ = some res) : WI Γ rm_X4_putFault p l e s m args below meth c H locs res (F0 m 0 ls []) := by
  unfold f_X4_putFault_0 at hr
  refine lv_iload_n M.1 M.2.1 dX4_putFault_0 rfl (lv_at hl 1 rfl) ?_
  refine lv_iconst (v := 0) M.1 M.2.1 dX4_putFault_1 (by decide) ?_
  refine lv_iconst (v := 1) M.1 M.2.1 dX4_putFault_2 (by decide) ?_
  obtain ⟨v_1, σ_2, h_3, hr⟩ := cbd hr
  refine x_callI (x_runS M K hB hl.1 [.int a0, .int 0, .int 1] (rest := []) rfl (c_X4_isWithin l Γ a0 0 1  σ (v_1, σ_2) h_3) cy_X4_isWithin wd_94 ⟨rfl, rfl, Nat.le_of_ble_eq_true rfl, Nat.le_of_ble_eq_true rfl⟩ (Nat.le_of_ble_eq_true rfl) ⟨Nat.zero_le _, Nat.zero_le _⟩ dX4_putFault_3) hB (fun H locs hB => ?_)
  replace hB : Bd Γ σ_2 s H locs := hB
  refine lv_if_eq (tgt := 17) M.1 M.2.1 dX4_putFault_6 (by decide) (fun c_4 => ?_) (fun c_4 => ?_)
  · rw [if_pos c_4] at hr
    exact w_X4_putFault_17 M K a0 a1 a2 a3 a4   _ _ _ _  hB (lv_sub hl [] rfl) hr
  · rw [if_neg c_4] at hr
    refine lv_aload_n M.1 M.2.1 dX4_putFault_9 rfl (lv_at hl 0 rfl) ?_
    refine lv_iload_n M.1 M.2.1 dX4_putFault_10 rfl (lv_at hl 2 rfl) ?_
    obtain ⟨v_5, σ_6, h_7, hr⟩ := cbd hr
    refine x_callI (x_runV M K hB hl.1 [.int a1] (rest := []) rfl (c_X4_hasTask l Γ a1  σ_2 (v_5, σ_6) h_7) cy_X4_hasTask (x_recv K hB isK_0.2 (ent_4 isK_0.1) rfl) wd_105 ⟨rfl, rfl, Nat.le_of_ble_eq_true rfl, Nat.le_of_ble_eq_true rfl⟩ (Nat.le_of_ble_eq_true rfl) ⟨Nat.zero_le _, Nat.zero_le _⟩ dX4_putFault_11) hB (fun H locs hB => ?_)
    replace hB : Bd Γ σ_6 s H locs := hB
    refine lv_if_ne (tgt := 19) M.1 M.2.1 dX4_putFault_14 (by decide) (fun c_8 => ?_) (fun c_8 => ?_)
    · rw [if_neg c_8] at hr
      refine lv_iload_n M.1 M.2.1 dX4_putFault_19 rfl (lv_at hl 3 rfl) ?_
      refine lv_iconst (v := 0) M.1 M.2.1 dX4_putFault_20 (by decide) ?_
      refine lv_iconst (v := 5) M.1 M.2.1 dX4_putFault_21 (by decide) ?_
      obtain ⟨v_9, σ_10, h_11, hr⟩ := cbd hr
      refine x_callI (x_runS M K hB hl.1 [.int a2, .int 0, .int 5] (rest := []) rfl (c_X4_isWithin l Γ a2 0 5  σ_6 (v_9, σ_10) h_11) cy_X4_isWithin wd_94 ⟨rfl, rfl, Nat.le_of_ble_eq_true rfl, Nat.le_of_ble_eq_true rfl⟩ (Nat.le_of_ble_eq_true rfl) ⟨Nat.zero_le _, Nat.zero_le _⟩ dX4_putFault_22) hB (fun H locs hB => ?_)
      replace hB : Bd Γ σ_10 s H locs := hB
      refine lv_if_eq (tgt := 52) M.1 M.2.1 dX4_putFault_25 (by decide) (fun c_12 => ?_) (fun c_12 => ?_)
      · rw [if_pos c_12] at hr
        exact w_X4_putFault_52 M K a0 a1 a2 a3 a4   _ _ _ _  hB (lv_sub hl [] rfl) hr
      · rw [if_neg c_12] at hr
        refine lv_iload M.1 M.2.1 dX4_putFault_28 (lv_at hl 4 rfl) ?_
        refine lv_iconst (v := 0) M.1 M.2.1 dX4_putFault_30 (by decide) ?_
        refine lv_sipush (v := 5000) M.1 M.2.1 dX4_putFault_31 (by decide) ?_
        obtain ⟨v_13, σ_14, h_15, hr⟩ := cbd hr
        refine x_callI (x_runS M K hB hl.1 [.int a3, .int 0, .int 5000] (rest := []) rfl (c_X4_isWithin l Γ a3 0 5000  σ_10 (v_13, σ_14) h_15) cy_X4_isWithin wd_94 ⟨rfl, rfl, Nat.le_of_ble_eq_true rfl, Nat.le_of_ble_eq_true rfl⟩ (Nat.le_of_ble_eq_true rfl) ⟨Nat.zero_le _, Nat.zero_le _⟩ dX4_putFault_34) hB (fun H locs hB => ?_)
        replace hB : Bd Γ σ_14 s H locs := hB
        refine lv_if_eq (tgt := 52) M.1 M.2.1 dX4_putFault_37 (by decide) (fun c_16 => ?_) (fun c_16 => ?_)
        · rw [if_pos c_16] at hr
          exact w_X4_putFault_52 M K a0 a1 a2 a3 a4   _ _ _ _  hB (lv_sub hl [] rfl) hr
        · rw [if_neg c_16] at hr
          refine lv_iload M.1 M.2.1 dX4_putFault_40 (lv_at hl 5 rfl) ?_
          refine lv_iconst (v := 0) M.1 M.2.1 dX4_putFault_42 (by decide) ?_
          refine lv_sipush (v := 500) M.1 M.2.1 dX4_putFault_43 (by decide) ?_
          obtain ⟨v_17, σ_18, h_19, hr⟩ := cbd hr
          refine x_callI (x_runS M K hB hl.1 [.int a4, .int 0, .int 500] (rest := []) rfl (c_X4_isWithin l Γ a4 0 500  σ_14 (v_17, σ_18) h_19) cy_X4_isWithin wd_94 ⟨rfl, rfl, Nat.le_of_ble_eq_true rfl, Nat.le_of_ble_eq_true rfl⟩ (Nat.le_of_ble_eq_true rfl) ⟨Nat.zero_le _, Nat.zero_le _⟩ dX4_putFault_46) hB (fun H locs hB => ?_)
          replace hB : Bd Γ σ_18 s H locs := hB
          refine lv_if_ne (tgt := 55) M.1 M.2.1 dX4_putFault_49 (by decide) (fun c_20 => ?_) (fun c_20 => ?_)
          · rw [if_neg c_20] at hr
            refine lv_aload_n M.1 M.2.1 dX4_putFault_55 rfl (lv_at hl 0 rfl) ?_
            refine x_get4 M K hB isK_0 0 (by decide) wd_98 (v := .ref (Γ.1 1)) rfl dX4_putFault_56 ?_
            refine x_get0 M K hB (isB_1.k) 1 (by decide) wd_103 (v := .ref (Γ.1 3)) rfl dX4_putFault_59 ?_
            refine lv_iload_n M.1 M.2.1 dX4_putFault_62 rfl (lv_at hl 2 rfl) ?_
            obtain ⟨g_21, hr⟩ := gd hr
            refine x_aaldT M K hB (isB_1.k2) g_21 dX4_putFault_63 ?_
            refine x_get3 M K hB ((isB.t isB_1 (vp_lt g_21)).k) 1 (by decide) wd_107 (v := .ref (Γ.1 (3 + 3 + 5 * a1.toNatClampNeg + 2))) rfl dX4_putFault_64 ?_
            refine lv_iload_n M.1 M.2.1 dX4_putFault_67 rfl (lv_at hl 1 rfl) ?_
            obtain ⟨g_22, hr⟩ := gd hr
            refine x_iald M K hB ((isB.t isB_1 (vp_lt g_21)).a2) g_22 dX4_putFault_68 ?_
            refine lv_istore (lv' := [(6, .int (σ_18 (3 + 3 + 5 * a1.toNatClampNeg + 2) (a0.toNatClampNeg))), (0, .ref (Γ.1 0)), (1, .int a0), (2, .int a1), (3, .int a2), (4, .int a3), (5, .int a4)]) M.1 M.2.1 dX4_putFault_69 hl (by decide) rfl (fun ls hl => ?_)
            refine lv_aload_n M.1 M.2.1 dX4_putFault_71 rfl (lv_at hl 1 rfl) ?_
            refine x_get4 M K hB isK_0 0 (by decide) wd_98 (v := .ref (Γ.1 1)) rfl dX4_putFault_72 ?_
            refine x_get0 M K hB (isB_1.k) 1 (by decide) wd_103 (v := .ref (Γ.1 3)) rfl dX4_putFault_75 ?_
            refine lv_iload_n M.1 M.2.1 dX4_putFault_78 rfl (lv_at hl 3 rfl) ?_
            obtain ⟨g_23, hr⟩ := gd hr
            refine x_aaldT M K hB (isB_1.k2) g_23 dX4_putFault_79 ?_
            refine lv_iload_n M.1 M.2.1 dX4_putFault_80 rfl (lv_at hl 2 rfl) ?_
            refine lv_iload_n M.1 M.2.1 dX4_putFault_81 rfl (lv_at hl 4 rfl) ?_
            refine lv_iload M.1 M.2.1 dX4_putFault_82 (lv_at hl 5 rfl) ?_
            refine lv_iload M.1 M.2.1 dX4_putFault_84 (lv_at hl 6 rfl) ?_
            obtain ⟨v_24, σ_25, h_26, hr⟩ := cbd hr
            refine x_callV (x_runV M K hB hl.1 [.int a0, .int a2, .int a3, .int a4] (rest := []) rfl (c_X3_takeFault l Γ (3 + 3 + 5 * a1.toNatClampNeg) a0 a2 a3 a4 (isB.t isB_1 (vp_lt g_23)) σ_18 (v_24, σ_25) h_26) cy_X3_takeFault (x_recv K hB ((isB.t isB_1 (vp_lt g_23)).k).2 (ent_3 ((isB.t isB_1 (vp_lt g_23)).k).1) rfl) wd_108 ⟨rfl, rfl, Nat.le_of_ble_eq_true rfl, Nat.le_of_ble_eq_true rfl⟩ (Nat.le_of_ble_eq_true rfl) ⟨Nat.zero_le _, Nat.zero_le _⟩ dX4_putFault_86) hB (fun H locs hB => ?_)
            replace hB : Bd Γ σ_25 s H locs := hB
            refine lv_iload M.1 M.2.1 dX4_putFault_89 (lv_at hl 0 rfl) ?_
            exact x_iret M hB (Option.some.inj hr) dX4_putFault_91
          · rw [if_pos c_20] at hr
            exact w_X4_putFault_52 M K a0 a1 a2 a3 a4   _ _ _ _  hB (lv_sub hl [] rfl) hr
    · rw [if_pos c_8] at hr
      exact w_X4_putFault_17 M K a0 a1 a2 a3 a4   _ _ _ _  hB (lv_sub hl [] rfl) hr
theorem c_X4_putFault (l : Launch) (Γ : GG) (a0 : Int32) (a1 : Int32) (a2 : Int32) (a3 : Int32) (a4 : Int32)  (σ : Sg) (res : Int32 × Sg) (hr : f_X4_putFault_0 a0 a1 a2 a3 a4 σ = some res) : Met l yX4_putFault (Cond.code yX4_putFault cX4_putFault 7 (some .int) :: gtb) rm_X4_putFault (va_Pc [.ref (Γ.1 0), .int a0, .int a1, .int a2, .int a3, .int a4] (GI Γ σ)) (QI Γ res) 0 0 (AD Γ) :=
  x_metI (by decide) [.ref (Γ.1 0), .int a0, .int a1, .int a2, .int a3, .int a4] (Nat.le_of_ble_eq_true rfl) (fun p e s m args below meth c M K ls hl hB => w_X4_putFault_0 M K a0 a1 a2 a3 a4 σ _ _ ls hB hl hr)
