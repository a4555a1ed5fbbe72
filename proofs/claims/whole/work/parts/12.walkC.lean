abbrev rm_X0_supervise : Room := { frames := 2, cells := 0, slots := 0, locals := 44 }
def f_X0_supervise_114 (q : Nat)  (s0 : Int32) (σ : Sg) : Option (Int32 × Sg) :=
if s0 = 0 ∨ s0 = 1 then some (s0, σ) else none
set_option maxHeartbeats 4000000 in
set_option maxRecDepth 100000 in
theorem w_X0_supervise_114 {p : Program} {l : Launch} {e : Env} {s : State} {m : MethodId} {args : Array Value} {below : List Frame} {meth : Method} {c : Code} {Γ : GG} {res : Int32 × Sg} (M : MX RX0 cX0_supervise 3 (some .boolean) p s m args meth c) (K : KK Γ s s.heap) {q : Nat} (hq : isB q) (s0 : Int32) (σ : Sg) (H : Heap) (locs : List Loc) (ls : Array Slot)  (hB : Bd Γ σ s H locs) (hl : lv_has ls 3 []) (hr : f_X0_supervise_114 q  s0 σ = some res) : WI Γ rm_X0_supervise p l e s m args below meth c H locs res (F0 m 114 ls [.int s0]) := by
  unfold f_X0_supervise_114 at hr
  obtain ⟨g_21, hr⟩ := gd2 hr
  exact x_zret M hB (nar_z g_21) (Option.some.inj hr) dX0_supervise_114
def f_X0_supervise_113 (q : Nat)   (σ : Sg) : Option (Int32 × Sg) :=
f_X0_supervise_114 q  0 σ
set_option maxHeartbeats 4000000 in
set_option maxRecDepth 100000 in
theorem w_X0_supervise_113 {p : Program} {l : Launch} {e : Env} {s : State} {m : MethodId} {args : Array Value} {below : List Frame} {meth : Method} {c : Code} {Γ : GG} {res : Int32 × Sg} (M : MX RX0 cX0_supervise 3 (some .boolean) p s m args meth c) (K : KK Γ s s.heap) {q : Nat} (hq : isB q)  (σ : Sg) (H : Heap) (locs : List Loc) (ls : Array Slot)  (hB : Bd Γ σ s H locs) (hl : lv_has ls 3 []) (hr : f_X0_supervise_113 q   σ = some res) : WI Γ rm_X0_supervise p l e s m args below meth c H locs res (F0 m 113 ls []) := by
  unfold f_X0_supervise_113 at hr
  refine lv_iconst (v := 0) M.1 M.2.1 dX0_supervise_113 (by decide) ?_
  exact w_X0_supervise_114 M K hq  0 _ _ _ _  hB (lv_sub hl [] rfl) hr
def f_X0_supervise_83 (q : Nat)   (σ : Sg) : Option (Int32 × Sg) :=
if σ (q + 1) 4 < σ q 12 then
f_X0_supervise_113 q   σ
else
if σ q 10 < σ (q + 1) 3 then
f_X0_supervise_113 q   σ
else
f_X0_supervise_114 q  1 σ
set_option maxHeartbeats 4000000 in
set_option maxRecDepth 100000 in
theorem w_X0_supervise_83 {p : Program} {l : Launch} {e : Env} {s : State} {m : MethodId} {args : Array Value} {below : List Frame} {meth : Method} {c : Code} {Γ : GG} {res : Int32 × Sg} (M : MX RX0 cX0_supervise 3 (some .boolean) p s m args meth c) (K : KK Γ s s.heap) {q : Nat} (hq : isB q)  (σ : Sg) (H : Heap) (locs : List Loc) (ls : Array Slot)  (hB : Bd Γ σ s H locs) (hl : lv_has ls 3 [(0, .ref (Γ.1 q))]) (hr : f_X0_supervise_83 q   σ = some res) : WI Γ rm_X0_supervise p l e s m args below meth c H locs res (F0 m 83 ls []) := by
  unfold f_X0_supervise_83 at hr
  refine lv_aload_n M.1 M.2.1 dX0_supervise_83 rfl (lv_at hl 0 rfl) ?_
  refine x_get0 M K hB (hq.k) 12 (by decide) wd_50 (v := .int (σ q 12)) rfl dX0_supervise_84 ?_
  refine lv_aload_n M.1 M.2.1 dX0_supervise_87 rfl (lv_at hl 0 rfl) ?_
  refine x_get0 M K hB (hq.k) 0 (by decide) wd_54 (v := .ref (Γ.1 (q + 1))) rfl dX0_supervise_88 ?_
  refine lv_iconst (v := 4) M.1 M.2.1 dX0_supervise_91 (by decide) ?_
  refine x_ialdL M K hB (hq.a1) (k := 4) (by decide) (by decide) dX0_supervise_92 ?_
  refine lv_icmp_gt (tgt := 113) M.1 M.2.1 dX0_supervise_93 (by decide) (fun c_19 => ?_) (fun c_19 => ?_)
  · rw [if_pos c_19] at hr
    exact w_X0_supervise_113 M K hq   _ _ _ _  hB (lv_sub hl [] rfl) hr
  · rw [if_neg c_19] at hr
    refine lv_aload_n M.1 M.2.1 dX0_supervise_96 rfl (lv_at hl 0 rfl) ?_
    refine x_get0 M K hB (hq.k) 10 (by decide) wd_48 (v := .int (σ q 10)) rfl dX0_supervise_97 ?_
    refine lv_aload_n M.1 M.2.1 dX0_supervise_100 rfl (lv_at hl 0 rfl) ?_
    refine x_get0 M K hB (hq.k) 0 (by decide) wd_54 (v := .ref (Γ.1 (q + 1))) rfl dX0_supervise_101 ?_
    refine lv_iconst (v := 3) M.1 M.2.1 dX0_supervise_104 (by decide) ?_
    refine x_ialdL M K hB (hq.a1) (k := 3) (by decide) (by decide) dX0_supervise_105 ?_
    refine lv_icmp_lt (tgt := 113) M.1 M.2.1 dX0_supervise_106 (by decide) (fun c_20 => ?_) (fun c_20 => ?_)
    · rw [if_pos c_20] at hr
      exact w_X0_supervise_113 M K hq   _ _ _ _  hB (lv_sub hl [] rfl) hr
    · rw [if_neg c_20] at hr
      refine lv_iconst (v := 1) M.1 M.2.1 dX0_supervise_109 (by decide) ?_
      refine lv_goto (tgt := 114) M.1 M.2.1 dX0_supervise_110 (by decide) ?_
      exact w_X0_supervise_114 M K hq  1 _ _ _ _  hB (lv_sub hl [] rfl) hr
def f_X0_supervise_58 (q : Nat) (rec_12 : Int32 → Sg → Option (Int32 × Sg)) (x1 : Int32) (σ : Sg) : Option (Int32 × Sg) :=
rec_12 (x1 + 1) σ
set_option maxHeartbeats 4000000 in
set_option maxRecDepth 100000 in
theorem w_X0_supervise_58 {p : Program} {l : Launch} {e : Env} {s : State} {m : MethodId} {args : Array Value} {below : List Frame} {meth : Method} {c : Code} {Γ : GG} {res : Int32 × Sg} (M : MX RX0 cX0_supervise 3 (some .boolean) p s m args meth c) (K : KK Γ s s.heap) {q : Nat} (hq : isB q) (rec_12 : Int32 → Sg → Option (Int32 × Sg)) (ih_12 : ∀ (x1 : Int32) (σ : Sg) (H : Heap) (locs : List Loc) (ls : Array Slot) , Bd Γ σ s H locs → lv_has ls 3 [(0, .ref (Γ.1 q)), (1, .int x1)] → rec_12 x1 σ = some res → WI Γ rm_X0_supervise p l e s m args below meth c H locs res (F0 m 12 ls [])) (x1 : Int32) (σ : Sg) (H : Heap) (locs : List Loc) (ls : Array Slot)  (hB : Bd Γ σ s H locs) (hl : lv_has ls 3 [(0, .ref (Γ.1 q)), (1, .int x1)]) (hr : f_X0_supervise_58 q rec_12 x1 σ = some res) : WI Γ rm_X0_supervise p l e s m args below meth c H locs res (F0 m 58 ls []) := by
  unfold f_X0_supervise_58 at hr
  refine lv_iinc (v := x1 + 1) (lv' := [(1, .int (x1 + 1)), (0, .ref (Γ.1 q))]) M.1 M.2.1 dX0_supervise_58 hl (k := 1) rfl rfl (by decide) rfl (fun ls hl => ?_)
  refine lv_goto (tgt := 12) M.1 M.2.1 dX0_supervise_61 (by decide) ?_
  exact ih_12 (x1 + 1) _ _ _ _  hB (lv_sub hl [1, 0] rfl) hr
def f_X0_supervise_12 (q : Nat)  : Nat → Int32 → Sg → Option (Int32 × Sg)
  | 0, _, _ => none
  | f + 1, x1, σ => if σ q 3 ≤ x1 then
cb (f_X0_lowestExpired_0 q σ) fun v_4 σ_5 =>
if v_4 = (-6) then
f_X0_supervise_83 q   σ_5
else
wb (st σ_5 q 12 ((σ_5 q 12) + 1)) fun σ_8 =>
f_X0_supervise_83 q   σ_8
else
if x1 < 0 ∨ 6 ≤ x1.toNatClampNeg then none else
if σ (q + 2 + 3 + 5 * x1.toNatClampNeg) 11 = 0 then
cb (f_X4_divides_0 (σ (q + 2 + 3 + 5 * x1.toNatClampNeg + 1) 3) (σ q 11) σ) fun v_12 σ_13 =>
if v_12 = 0 then
f_X0_supervise_58 q (f_X0_supervise_12 q  f) x1 σ_13
else
cb (f_X3_endCycle_0 (q + 2 + 3 + 5 * x1.toNatClampNeg) (σ_13 q 4) σ_13) fun v_16 σ_17 =>
f_X0_supervise_58 q (f_X0_supervise_12 q  f) x1 σ_17
else
f_X0_supervise_58 q (f_X0_supervise_12 q  f) x1 σ
set_option maxHeartbeats 4000000 in
set_option maxRecDepth 100000 in
theorem w_X0_supervise_12 {p : Program} {l : Launch} {e : Env} {s : State} {m : MethodId} {args : Array Value} {below : List Frame} {meth : Method} {c : Code} {Γ : GG} {res : Int32 × Sg} (M : MX RX0 cX0_supervise 3 (some .boolean) p s m args meth c) (K : KK Γ s s.heap) {q : Nat} (hq : isB q) : ∀ (f : Nat) (x1 : Int32) (σ : Sg) (H : Heap) (locs : List Loc) (ls : Array Slot)  (hB : Bd Γ σ s H locs) (hl : lv_has ls 3 [(0, .ref (Γ.1 q)), (1, .int x1)]) (hr : f_X0_supervise_12 q  f x1 σ = some res), WI Γ rm_X0_supervise p l e s m args below meth c H locs res (F0 m 12 ls []) := by
  intro f
  induction f with
  | zero => intros; rename_i hr; exact absurd hr (by rw [f_X0_supervise_12]; exact fun h => by cases h)
  | succ f ih_12 =>
    intro x1 σ H locs ls  hB hl hr
    rw [f_X0_supervise_12] at hr
    refine lv_iload_n M.1 M.2.1 dX0_supervise_12 rfl (lv_at hl 1 rfl) ?_
    refine lv_aload_n M.1 M.2.1 dX0_supervise_13 rfl (lv_at hl 0 rfl) ?_
    refine x_get0 M K hB (hq.k) 3 (by decide) wd_51 (v := .int (σ q 3)) rfl dX0_supervise_14 ?_
    refine lv_icmp_ge (tgt := 64) M.1 M.2.1 dX0_supervise_17 (by decide) (fun c_3 => ?_) (fun c_3 => ?_)
    · rw [if_pos c_3] at hr
      refine lv_aload_n M.1 M.2.1 dX0_supervise_64 rfl (lv_at hl 0 rfl) ?_
      obtain ⟨v_4, σ_5, h_6, hr⟩ := cbd hr
      refine x_callI (x_runV M K hB hl.1 [] (rest := []) rfl (c_X0_lowestExpired l Γ q hq σ (v_4, σ_5) h_6) cy_X0_lowestExpired (x_recv K hB (hq.k).2 (ent_0 (hq.k).1) rfl) wd_63 ⟨rfl, rfl, Nat.le_of_ble_eq_true rfl, Nat.le_of_ble_eq_true rfl⟩ (Nat.le_of_ble_eq_true rfl) ⟨Nat.zero_le _, Nat.zero_le _⟩ dX0_supervise_65) hB (fun H locs hB => ?_)
      replace hB : Bd Γ σ_5 s H locs := hB
      refine lv_bipush (v := (-6)) M.1 M.2.1 dX0_supervise_68 (by decide) ?_
      refine lv_icmp_eq (tgt := 83) M.1 M.2.1 dX0_supervise_70 (by decide) (fun c_7 => ?_) (fun c_7 => ?_)
      · rw [if_pos c_7] at hr
        exact w_X0_supervise_83 M K hq   _ _ _ _  hB (lv_sub hl [0] rfl) hr
      · rw [if_neg c_7] at hr
        refine lv_aload_n M.1 M.2.1 dX0_supervise_73 rfl (lv_at hl 0 rfl) ?_
        refine lv_dup M.1 M.2.1 dX0_supervise_74 rfl ?_
        refine x_get0 M K hB (hq.k) 12 (by decide) wd_50 (v := .int (σ_5 q 12)) rfl dX0_supervise_75 ?_
        refine lv_iconst (v := 1) M.1 M.2.1 dX0_supervise_78 (by decide) ?_
        refine lv_iadd M.1 M.2.1 dX0_supervise_79 ?_
        obtain ⟨σ_8, e_9, hr⟩ := wbd hr
        refine x_put0 M K hB (hq.k) 12 (by decide) wd_50 dX0_supervise_80 (fun H locs hB => ?_)
        rw [← e_9] at hB
        exact w_X0_supervise_83 M K hq   _ _ _ _  hB (lv_sub hl [0] rfl) hr
    · rw [if_neg c_3] at hr
      refine lv_aload_n M.1 M.2.1 dX0_supervise_20 rfl (lv_at hl 0 rfl) ?_
      refine x_get0 M K hB (hq.k) 1 (by decide) wd_52 (v := .ref (Γ.1 (q + 2))) rfl dX0_supervise_21 ?_
      refine lv_iload_n M.1 M.2.1 dX0_supervise_24 rfl (lv_at hl 1 rfl) ?_
      obtain ⟨g_10, hr⟩ := gd hr
      refine x_aaldT M K hB (hq.k2) g_10 dX0_supervise_25 ?_
      refine lv_astore_n (lv' := [(2, .ref (Γ.1 (q + 2 + 3 + 5 * x1.toNatClampNeg))), (0, .ref (Γ.1 q)), (1, .int x1)]) M.1 M.2.1 dX0_supervise_26 rfl hl (by decide) rfl (fun ls hl => ?_)
      refine lv_aload_n M.1 M.2.1 dX0_supervise_27 rfl (lv_at hl 0 rfl) ?_
      refine x_get3 M K hB ((isB.t hq (vp_lt g_10)).k) 11 (by decide) wd_62 (v := .int (σ (q + 2 + 3 + 5 * x1.toNatClampNeg) 11)) rfl dX0_supervise_28 ?_
      refine lv_if_ne (tgt := 58) M.1 M.2.1 dX0_supervise_31 (by decide) (fun c_11 => ?_) (fun c_11 => ?_)
      · rw [if_neg c_11] at hr
        exact w_X0_supervise_58 M K hq _ ih_12 x1 _ _ _ _  hB (lv_sub hl [1, 2] rfl) hr
      · rw [if_pos c_11] at hr
        refine lv_aload_n M.1 M.2.1 dX0_supervise_34 rfl (lv_at hl 0 rfl) ?_
        refine x_get3 M K hB ((isB.t hq (vp_lt g_10)).k) 0 (by decide) wd_64 (v := .ref (Γ.1 (q + 2 + 3 + 5 * x1.toNatClampNeg + 1))) rfl dX0_supervise_35 ?_
        refine lv_iconst (v := 3) M.1 M.2.1 dX0_supervise_38 (by decide) ?_
        refine x_ialdL M K hB ((isB.t hq (vp_lt g_10)).a1) (k := 3) (by decide) (by decide) dX0_supervise_39 ?_
        refine lv_aload_n M.1 M.2.1 dX0_supervise_40 rfl (lv_at hl 1 rfl) ?_
        refine x_get0 M K hB (hq.k) 11 (by decide) wd_49 (v := .int (σ q 11)) rfl dX0_supervise_41 ?_
        obtain ⟨v_12, σ_13, h_14, hr⟩ := cbd hr
        refine x_callI (x_runSN M K hB hl.1 [.int (σ (q + 2 + 3 + 5 * x1.toNatClampNeg + 1) 3), .int (σ q 11)] (rest := []) rfl (c_X4_divides l Γ (σ (q + 2 + 3 + 5 * x1.toNatClampNeg + 1) 3) (σ q 11)  σ (v_12, σ_13) h_14) cy_X4_divides nw_4 ⟨rfl, rfl, Nat.le_of_ble_eq_true rfl, Nat.le_of_ble_eq_true rfl⟩ (Nat.le_of_ble_eq_true rfl) ⟨Nat.zero_le _, Nat.zero_le _⟩ dX0_supervise_44) hB (fun H locs hB => ?_)
        replace hB : Bd Γ σ_13 s H locs := hB
        refine lv_if_eq (tgt := 58) M.1 M.2.1 dX0_supervise_47 (by decide) (fun c_15 => ?_) (fun c_15 => ?_)
        · rw [if_pos c_15] at hr
          exact w_X0_supervise_58 M K hq _ ih_12 x1 _ _ _ _  hB (lv_sub hl [1, 2] rfl) hr
        · rw [if_neg c_15] at hr
          refine lv_aload_n M.1 M.2.1 dX0_supervise_50 rfl (lv_at hl 0 rfl) ?_
          refine lv_aload_n M.1 M.2.1 dX0_supervise_51 rfl (lv_at hl 1 rfl) ?_
          refine x_get0 M K hB (hq.k) 4 (by decide) wd_56 (v := .int (σ_13 q 4)) rfl dX0_supervise_52 ?_
          obtain ⟨v_16, σ_17, h_18, hr⟩ := cbd hr
          refine x_callV (x_runV M K hB hl.1 [.int (σ_13 q 4)] (rest := []) rfl (c_X3_endCycle l Γ (q + 2 + 3 + 5 * x1.toNatClampNeg) (σ_13 q 4) (isB.t hq (vp_lt g_10)) σ_13 (v_16, σ_17) h_18) cy_X3_endCycle (x_recv K hB ((isB.t hq (vp_lt g_10)).k).2 (ent_3 ((isB.t hq (vp_lt g_10)).k).1) rfl) wd_65 ⟨rfl, rfl, Nat.le_of_ble_eq_true rfl, Nat.le_of_ble_eq_true rfl⟩ (Nat.le_of_ble_eq_true rfl) ⟨Nat.zero_le _, Nat.zero_le _⟩ dX0_supervise_55) hB (fun H locs hB => ?_)
          replace hB : Bd Γ σ_17 s H locs := hB
          exact w_X0_supervise_58 M K hq _ ih_12 x1 _ _ _ _  hB (lv_sub hl [1, 2] rfl) hr
def f_X0_supervise_0 (q : Nat)   (σ : Sg) : Option (Int32 × Sg) :=
wb (st σ q 11 ((σ q 11) + 1)) fun σ_1 =>
f_X0_supervise_12 q  FU 0 σ_1
set_option maxHeartbeats 4000000 in
set_option maxRecDepth 100000 in
theorem w_X0_supervise_0 {p : Program} {l : Launch} {e : Env} {s : State} {m : MethodId} {args : Array Value} {below : List Frame} {meth : Method} {c : Code} {Γ : GG} {res : Int32 × Sg} (M : MX RX0 cX0_supervise 3 (some .boolean) p s m args meth c) (K : KK Γ s s.heap) {q : Nat} (hq : isB q)  (σ : Sg) (H : Heap) (locs : List Loc) (ls : Array Slot)  (hB : Bd Γ σ s H locs) (hl : lv_has ls 3 [(0, .ref (Γ.1 q))]) (hr : f_X0_supervise_0 q   σ = some res) : WI Γ rm_X0_supervise p l e s m args below meth c H locs res (F0 m 0 ls []) := by
  unfold f_X0_supervise_0 at hr
  refine lv_aload_n M.1 M.2.1 dX0_supervise_0 rfl (lv_at hl 0 rfl) ?_
  refine lv_dup M.1 M.2.1 dX0_supervise_1 rfl ?_
  refine x_get0 M K hB (hq.k) 11 (by decide) wd_49 (v := .int (σ q 11)) rfl dX0_supervise_2 ?_
  refine lv_iconst (v := 1) M.1 M.2.1 dX0_supervise_5 (by decide) ?_
  refine lv_iadd M.1 M.2.1 dX0_supervise_6 ?_
  obtain ⟨σ_1, e_2, hr⟩ := wbd hr
  refine x_put0 M K hB (hq.k) 11 (by decide) wd_49 dX0_supervise_7 (fun H locs hB => ?_)
  rw [← e_2] at hB
  refine lv_iconst (v := 0) M.1 M.2.1 dX0_supervise_10 (by decide) ?_
  refine lv_istore_n (lv' := [(1, .int 0), (0, .ref (Γ.1 q))]) M.1 M.2.1 dX0_supervise_11 rfl hl (by decide) rfl (fun ls hl => ?_)
  exact w_X0_supervise_12 M K hq  FU 0 _ _ _ _  hB (lv_sub hl [1, 0] rfl) hr
theorem c_X0_supervise (l : Launch) (Γ : GG) (q : Nat) (hq : isB q) (σ : Sg) (res : Int32 × Sg) (hr : f_X0_supervise_0 q σ = some res) : Met l yX0_supervise (Cond.code yX0_supervise cX0_supervise 3 (some .boolean) :: gtb) rm_X0_supervise (va_Pc [.ref (Γ.1 q)] (GI Γ σ)) (QI Γ res) 0 0 (AD Γ) :=
  x_metI (by decide) [.ref (Γ.1 q)] (Nat.le_of_ble_eq_true rfl) (fun p e s m args below meth c M K ls hl hB => w_X0_supervise_0 M K hq σ _ _ ls hB hl hr)
abbrev rm_X0_watch : Room := { frames := 0, cells := 0, slots := 0, locals := 0 }
def f_X0_watch_48 (q : Nat) (a0 : Int32)  (s0 : Int32) (σ : Sg) : Option (Int32 × Sg) :=
some (s0, σ)
set_option maxHeartbeats 4000000 in
set_option maxRecDepth 100000 in
theorem w_X0_watch_48 {p : Program} {l : Launch} {e : Env} {s : State} {m : MethodId} {args : Array Value} {below : List Frame} {meth : Method} {c : Code} {Γ : GG} {res : Int32 × Sg} (M : MX RX0 cX0_watch 2 (some .int) p s m args meth c) (K : KK Γ s s.heap) {q : Nat} (hq : isB q) (a0 : Int32) (s0 : Int32) (σ : Sg) (H : Heap) (locs : List Loc) (ls : Array Slot)  (hB : Bd Γ σ s H locs) (hl : lv_has ls 2 []) (hr : f_X0_watch_48 q a0  s0 σ = some res) : WI Γ rm_X0_watch p l e s m args below meth c H locs res (F0 m 48 ls [.int s0]) := by
  unfold f_X0_watch_48 at hr
  exact x_iret M hB (Option.some.inj hr) dX0_watch_48
def f_X0_watch_19 (q : Nat) (a0 : Int32)  (x1 : Int32) (σ : Sg) : Option (Int32 × Sg) :=
if x1 = 0 then
if σ q 10 ≤ σ (q + 1) 1 then
f_X0_watch_48 q a0  0 σ
else
f_X0_watch_48 q a0  2 σ
else
wb (st σ q 10 0) fun σ_5 =>
some (0, σ_5)
set_option maxHeartbeats 4000000 in
set_option maxRecDepth 100000 in
theorem w_X0_watch_19 {p : Program} {l : Launch} {e : Env} {s : State} {m : MethodId} {args : Array Value} {below : List Frame} {meth : Method} {c : Code} {Γ : GG} {res : Int32 × Sg} (M : MX RX0 cX0_watch 2 (some .int) p s m args meth c) (K : KK Γ s s.heap) {q : Nat} (hq : isB q) (a0 : Int32) (x1 : Int32) (σ : Sg) (H : Heap) (locs : List Loc) (ls : Array Slot)  (hB : Bd Γ σ s H locs) (hl : lv_has ls 2 [(0, .ref (Γ.1 q)), (1, .int x1)]) (hr : f_X0_watch_19 q a0  x1 σ = some res) : WI Γ rm_X0_watch p l e s m args below meth c H locs res (F0 m 19 ls []) := by
  unfold f_X0_watch_19 at hr
  refine lv_iload_n M.1 M.2.1 dX0_watch_19 rfl (lv_at hl 1 rfl) ?_
  refine lv_if_eq (tgt := 30) M.1 M.2.1 dX0_watch_20 (by decide) (fun c_3 => ?_) (fun c_3 => ?_)
  · rw [if_pos c_3] at hr
    refine lv_aload_n M.1 M.2.1 dX0_watch_30 rfl (lv_at hl 0 rfl) ?_
    refine x_get0 M K hB (hq.k) 10 (by decide) wd_48 (v := .int (σ q 10)) rfl dX0_watch_31 ?_
    refine lv_aload_n M.1 M.2.1 dX0_watch_34 rfl (lv_at hl 0 rfl) ?_
    refine x_get0 M K hB (hq.k) 0 (by decide) wd_54 (v := .ref (Γ.1 (q + 1))) rfl dX0_watch_35 ?_
    refine lv_iconst (v := 1) M.1 M.2.1 dX0_watch_38 (by decide) ?_
    refine x_ialdL M K hB (hq.a1) (k := 1) (by decide) (by decide) dX0_watch_39 ?_
    refine lv_icmp_le (tgt := 47) M.1 M.2.1 dX0_watch_40 (by decide) (fun c_4 => ?_) (fun c_4 => ?_)
    · rw [if_pos c_4] at hr
      refine lv_iconst (v := 0) M.1 M.2.1 dX0_watch_47 (by decide) ?_
      exact w_X0_watch_48 M K hq a0  0 _ _ _ _  hB (lv_sub hl [] rfl) hr
    · rw [if_neg c_4] at hr
      refine lv_iconst (v := 2) M.1 M.2.1 dX0_watch_43 (by decide) ?_
      refine lv_goto (tgt := 48) M.1 M.2.1 dX0_watch_44 (by decide) ?_
      exact w_X0_watch_48 M K hq a0  2 _ _ _ _  hB (lv_sub hl [] rfl) hr
  · rw [if_neg c_3] at hr
    refine lv_aload_n M.1 M.2.1 dX0_watch_23 rfl (lv_at hl 0 rfl) ?_
    refine lv_iconst (v := 0) M.1 M.2.1 dX0_watch_24 (by decide) ?_
    obtain ⟨σ_5, e_6, hr⟩ := wbd hr
    refine x_put0 M K hB (hq.k) 10 (by decide) wd_48 dX0_watch_25 (fun H locs hB => ?_)
    rw [← e_6] at hB
    refine lv_iconst (v := 0) M.1 M.2.1 dX0_watch_28 (by decide) ?_
    exact x_iret M hB (Option.some.inj hr) dX0_watch_29
def f_X0_watch_0 (q : Nat) (a0 : Int32)   (σ : Sg) : Option (Int32 × Sg) :=
if a0 = 0 then
f_X0_watch_19 q a0  a0 σ
else
if σ (q + 1) 0 ≤ σ q 10 then
f_X0_watch_19 q a0  a0 σ
else
some (1, σ)
set_option maxHeartbeats 4000000 in
set_option maxRecDepth 100000 in
theorem w_X0_watch_0 {p : Program} {l : Launch} {e : Env} {s : State} {m : MethodId} {args : Array Value} {below : List Frame} {meth : Method} {c : Code} {Γ : GG} {res : Int32 × Sg} (M : MX RX0 cX0_watch 2 (some .int) p s m args meth c) (K : KK Γ s s.heap) {q : Nat} (hq : isB q) (a0 : Int32)  (σ : Sg) (H : Heap) (locs : List Loc) (ls : Array Slot)  (hB : Bd Γ σ s H locs) (hl : lv_has ls 2 [(0, .ref (Γ.1 q)), (1, .int a0)]) (hr : f_X0_watch_0 q a0   σ = some res) : WI Γ rm_X0_watch p l e s m args below meth c H locs res (F0 m 0 ls []) := by
  unfold f_X0_watch_0 at hr
  refine lv_iload_n M.1 M.2.1 dX0_watch_0 rfl (lv_at hl 1 rfl) ?_
  refine lv_if_eq (tgt := 19) M.1 M.2.1 dX0_watch_1 (by decide) (fun c_1 => ?_) (fun c_1 => ?_)
  · rw [if_pos c_1] at hr
    exact w_X0_watch_19 M K hq a0  a0 _ _ _ _  hB (lv_sub hl [0, 1] rfl) hr
  · rw [if_neg c_1] at hr
    refine lv_aload_n M.1 M.2.1 dX0_watch_4 rfl (lv_at hl 0 rfl) ?_
    refine x_get0 M K hB (hq.k) 10 (by decide) wd_48 (v := .int (σ q 10)) rfl dX0_watch_5 ?_
    refine lv_aload_n M.1 M.2.1 dX0_watch_8 rfl (lv_at hl 0 rfl) ?_
    refine x_get0 M K hB (hq.k) 0 (by decide) wd_54 (v := .ref (Γ.1 (q + 1))) rfl dX0_watch_9 ?_
    refine lv_iconst (v := 0) M.1 M.2.1 dX0_watch_12 (by decide) ?_
    refine x_ialdL M K hB (hq.a1) (k := 0) (by decide) (by decide) dX0_watch_13 ?_
    refine lv_icmp_ge (tgt := 19) M.1 M.2.1 dX0_watch_14 (by decide) (fun c_2 => ?_) (fun c_2 => ?_)
    · rw [if_pos c_2] at hr
      exact w_X0_watch_19 M K hq a0  a0 _ _ _ _  hB (lv_sub hl [0, 1] rfl) hr
    · rw [if_neg c_2] at hr
      refine lv_iconst (v := 1) M.1 M.2.1 dX0_watch_17 (by decide) ?_
      exact x_iret M hB (Option.some.inj hr) dX0_watch_18
theorem c_X0_watch (l : Launch) (Γ : GG) (q : Nat) (a0 : Int32) (hq : isB q) (σ : Sg) (res : Int32 × Sg) (hr : f_X0_watch_0 q a0 σ = some res) : Met l yX0_watch (Cond.code yX0_watch cX0_watch 2 (some .int) :: gtb) rm_X0_watch (va_Pc [.ref (Γ.1 q), .int a0] (GI Γ σ)) (QI Γ res) 0 0 (AD Γ) :=
  x_metI (by decide) [.ref (Γ.1 q), .int a0] (Nat.le_of_ble_eq_true rfl) (fun p e s m args below meth c M K ls hl hB => w_X0_watch_0 M K hq a0 σ _ _ ls hB hl hr)
abbrev rm_X0_tickRunning : Room := { frames := 3, cells := 0, slots := 0, locals := 66 }
def f_X0_tickRunning_133 (q : Nat)   (σ : Sg) : Option (Int32 × Sg) :=
some (0, σ)
set_option maxHeartbeats 4000000 in
set_option maxRecDepth 100000 in
theorem w_X0_tickRunning_133 {p : Program} {l : Launch} {e : Env} {s : State} {m : MethodId} {args : Array Value} {below : List Frame} {meth : Method} {c : Code} {Γ : GG} {res : Int32 × Sg} (M : MX RX0 cX0_tickRunning 3 (some .boolean) p s m args meth c) (K : KK Γ s s.heap) {q : Nat} (hq : isB q)  (σ : Sg) (H : Heap) (locs : List Loc) (ls : Array Slot)  (hB : Bd Γ σ s H locs) (hl : lv_has ls 3 []) (hr : f_X0_tickRunning_133 q   σ = some res) : WI Γ rm_X0_tickRunning p l e s m args below meth c H locs res (F0 m 133 ls []) := by
  unfold f_X0_tickRunning_133 at hr
  refine lv_iconst (v := 0) M.1 M.2.1 dX0_tickRunning_133 (by decide) ?_
  exact x_zret M hB (nar_z (by decide)) (Option.some.inj hr) dX0_tickRunning_134
def f_X0_tickRunning_92 (q : Nat)  (s0 : Int32) (σ : Sg) : Option (Int32 × Sg) :=
cb (f_X0_watch_0 q s0 σ) fun v_22 σ_23 =>
if v_22 = 0 then
if σ_23 q 9 = σ_23 (q + 1) 6 then
wb (st σ_23 q 7 0) fun σ_27 =>
f_X0_tickRunning_133 q   σ_27
else
f_X0_tickRunning_133 q   σ_23
else
cb (f_X0_lowestExpired_0 q σ_23) fun v_29 σ_30 =>
cb (f_X0_fall_0 q v_22 v_29 σ_30) fun v_32 σ_33 =>
some (1, σ_33)
set_option maxHeartbeats 4000000 in
set_option maxRecDepth 100000 in
theorem w_X0_tickRunning_92 {p : Program} {l : Launch} {e : Env} {s : State} {m : MethodId} {args : Array Value} {below : List Frame} {meth : Method} {c : Code} {Γ : GG} {res : Int32 × Sg} (M : MX RX0 cX0_tickRunning 3 (some .boolean) p s m args meth c) (K : KK Γ s s.heap) {q : Nat} (hq : isB q) (s0 : Int32) (σ : Sg) (H : Heap) (locs : List Loc) (ls : Array Slot)  (hB : Bd Γ σ s H locs) (hl : lv_has ls 3 [(0, .ref (Γ.1 q))]) (hr : f_X0_tickRunning_92 q  s0 σ = some res) : WI Γ rm_X0_tickRunning p l e s m args below meth c H locs res (F0 m 92 ls [.int s0]) := by
  unfold f_X0_tickRunning_92 at hr
  refine lv_istore_n (lv' := [(1, .int s0), (0, .ref (Γ.1 q))]) M.1 M.2.1 dX0_tickRunning_92 rfl hl (by decide) rfl (fun ls hl => ?_)
  refine lv_aload_n M.1 M.2.1 dX0_tickRunning_93 rfl (lv_at hl 1 rfl) ?_
  refine lv_iload_n M.1 M.2.1 dX0_tickRunning_94 rfl (lv_at hl 0 rfl) ?_
  obtain ⟨v_22, σ_23, h_24, hr⟩ := cbd hr
  refine x_callI (x_runV M K hB hl.1 [.int s0] (rest := []) rfl (c_X0_watch l Γ q s0 hq σ (v_22, σ_23) h_24) cy_X0_watch (x_recv K hB (hq.k).2 (ent_0 (hq.k).1) rfl) wd_69 ⟨rfl, rfl, Nat.le_of_ble_eq_true rfl, Nat.le_of_ble_eq_true rfl⟩ (Nat.le_of_ble_eq_true rfl) ⟨Nat.zero_le _, Nat.zero_le _⟩ dX0_tickRunning_95) hB (fun H locs hB => ?_)
  replace hB : Bd Γ σ_23 s H locs := hB
  refine lv_istore_n (lv' := [(2, .int v_22), (1, .int s0), (0, .ref (Γ.1 q))]) M.1 M.2.1 dX0_tickRunning_98 rfl hl (by decide) rfl (fun ls hl => ?_)
  refine lv_iload_n M.1 M.2.1 dX0_tickRunning_99 rfl (lv_at hl 0 rfl) ?_
  refine lv_if_eq (tgt := 114) M.1 M.2.1 dX0_tickRunning_100 (by decide) (fun c_25 => ?_) (fun c_25 => ?_)
  · rw [if_pos c_25] at hr
    refine lv_aload_n M.1 M.2.1 dX0_tickRunning_114 rfl (lv_at hl 2 rfl) ?_
    refine x_get0 M K hB (hq.k) 9 (by decide) wd_47 (v := .int (σ_23 q 9)) rfl dX0_tickRunning_115 ?_
    refine lv_aload_n M.1 M.2.1 dX0_tickRunning_118 rfl (lv_at hl 2 rfl) ?_
    refine x_get0 M K hB (hq.k) 0 (by decide) wd_54 (v := .ref (Γ.1 (q + 1))) rfl dX0_tickRunning_119 ?_
    refine lv_bipush (v := 6) M.1 M.2.1 dX0_tickRunning_122 (by decide) ?_
    refine x_ialdL M K hB (hq.a1) (k := 6) (by decide) (by decide) dX0_tickRunning_124 ?_
    refine lv_icmp_ne (tgt := 133) M.1 M.2.1 dX0_tickRunning_125 (by decide) (fun c_26 => ?_) (fun c_26 => ?_)
    · rw [if_neg c_26] at hr
      exact w_X0_tickRunning_133 M K hq   _ _ _ _  hB (lv_sub hl [] rfl) hr
    · rw [if_pos c_26] at hr
      refine lv_aload_n M.1 M.2.1 dX0_tickRunning_128 rfl (lv_at hl 2 rfl) ?_
      refine lv_iconst (v := 0) M.1 M.2.1 dX0_tickRunning_129 (by decide) ?_
      obtain ⟨σ_27, e_28, hr⟩ := wbd hr
      refine x_put0 M K hB (hq.k) 7 (by decide) wd_60 dX0_tickRunning_130 (fun H locs hB => ?_)
      rw [← e_28] at hB
      exact w_X0_tickRunning_133 M K hq   _ _ _ _  hB (lv_sub hl [] rfl) hr
  · rw [if_neg c_25] at hr
    refine lv_aload_n M.1 M.2.1 dX0_tickRunning_103 rfl (lv_at hl 2 rfl) ?_
    refine lv_iload_n M.1 M.2.1 dX0_tickRunning_104 rfl (lv_at hl 0 rfl) ?_
    refine lv_aload_n M.1 M.2.1 dX0_tickRunning_105 rfl (lv_at hl 2 rfl) ?_
    obtain ⟨v_29, σ_30, h_31, hr⟩ := cbd hr
    refine x_callI (x_runV M K hB hl.1 [] (rest := [.int v_22, .ref (Γ.1 q)]) rfl (c_X0_lowestExpired l Γ q hq σ_23 (v_29, σ_30) h_31) cy_X0_lowestExpired (x_recv K hB (hq.k).2 (ent_0 (hq.k).1) rfl) wd_63 ⟨rfl, rfl, Nat.le_of_ble_eq_true rfl, Nat.le_of_ble_eq_true rfl⟩ (Nat.le_of_ble_eq_true rfl) ⟨Nat.zero_le _, Nat.zero_le _⟩ dX0_tickRunning_106) hB (fun H locs hB => ?_)
    replace hB : Bd Γ σ_30 s H locs := hB
    obtain ⟨v_32, σ_33, h_34, hr⟩ := cbd hr
    refine x_callV (x_runV M K hB hl.1 [.int v_22, .int v_29] (rest := []) rfl (c_X0_fall l Γ q v_22 v_29 hq σ_30 (v_32, σ_33) h_34) cy_X0_fall (x_recv K hB (hq.k).2 (ent_0 (hq.k).1) rfl) wd_68 ⟨rfl, rfl, Nat.le_of_ble_eq_true rfl, Nat.le_of_ble_eq_true rfl⟩ (Nat.le_of_ble_eq_true rfl) ⟨Nat.zero_le _, Nat.zero_le _⟩ dX0_tickRunning_109) hB (fun H locs hB => ?_)
    replace hB : Bd Γ σ_33 s H locs := hB
    refine lv_iconst (v := 1) M.1 M.2.1 dX0_tickRunning_112 (by decide) ?_
    exact x_zret M hB (nar_z (by decide)) (Option.some.inj hr) dX0_tickRunning_113
def f_X0_tickRunning_91 (q : Nat)   (σ : Sg) : Option (Int32 × Sg) :=
f_X0_tickRunning_92 q  0 σ
set_option maxHeartbeats 4000000 in
set_option maxRecDepth 100000 in
theorem w_X0_tickRunning_91 {p : Program} {l : Launch} {e : Env} {s : State} {m : MethodId} {args : Array Value} {below : List Frame} {meth : Method} {c : Code} {Γ : GG} {res : Int32 × Sg} (M : MX RX0 cX0_tickRunning 3 (some .boolean) p s m args meth c) (K : KK Γ s s.heap) {q : Nat} (hq : isB q)  (σ : Sg) (H : Heap) (locs : List Loc) (ls : Array Slot)  (hB : Bd Γ σ s H locs) (hl : lv_has ls 3 [(0, .ref (Γ.1 q))]) (hr : f_X0_tickRunning_91 q   σ = some res) : WI Γ rm_X0_tickRunning p l e s m args below meth c H locs res (F0 m 91 ls []) := by
  unfold f_X0_tickRunning_91 at hr
  refine lv_iconst (v := 0) M.1 M.2.1 dX0_tickRunning_91 (by decide) ?_
  exact w_X0_tickRunning_92 M K hq  0 _ _ _ _  hB (lv_sub hl [0] rfl) hr
def f_X0_tickRunning_22 (q : Nat)  : Nat → Int32 → Sg → Option (Int32 × Sg)
  | 0, _, _ => none
  | f + 1, x1, σ => if σ q 3 ≤ x1 then
cb (f_X4_divides_0 (σ (q + 1) 2) (σ q 9) σ) fun v_6 σ_7 =>
if v_6 = 0 then
f_X0_tickRunning_91 q   σ_7
else
cb (f_X0_supervise_0 q σ_7) fun v_10 σ_11 =>
if v_10 = 0 then
f_X0_tickRunning_91 q   σ_11
else
f_X0_tickRunning_92 q  1 σ_11
else
if x1 < 0 ∨ 6 ≤ x1.toNatClampNeg then none else
cb (f_X3_crashesInTick_0 (q + 2 + 3 + 5 * x1.toNatClampNeg) (σ q 9) (σ q 6) σ) fun v_15 σ_16 =>
if v_15 = 0 then
f_X0_tickRunning_22 q  f (x1 + 1) σ_16
else
cb (f_X0_fall_0 q 3 x1 σ_16) fun v_19 σ_20 =>
some (1, σ_20)
set_option maxHeartbeats 4000000 in
set_option maxRecDepth 100000 in
theorem w_X0_tickRunning_22 {p : Program} {l : Launch} {e : Env} {s : State} {m : MethodId} {args : Array Value} {below : List Frame} {meth : Method} {c : Code} {Γ : GG} {res : Int32 × Sg} (M : MX RX0 cX0_tickRunning 3 (some .boolean) p s m args meth c) (K : KK Γ s s.heap) {q : Nat} (hq : isB q) : ∀ (f : Nat) (x1 : Int32) (σ : Sg) (H : Heap) (locs : List Loc) (ls : Array Slot)  (hB : Bd Γ σ s H locs) (hl : lv_has ls 3 [(0, .ref (Γ.1 q)), (1, .int x1)]) (hr : f_X0_tickRunning_22 q  f x1 σ = some res), WI Γ rm_X0_tickRunning p l e s m args below meth c H locs res (F0 m 22 ls []) := by
  intro f
  induction f with
  | zero => intros; rename_i hr; exact absurd hr (by rw [f_X0_tickRunning_22]; exact fun h => by cases h)
  | succ f ih_22 =>
    intro x1 σ H locs ls  hB hl hr
    rw [f_X0_tickRunning_22] at hr
    refine lv_iload_n M.1 M.2.1 dX0_tickRunning_22 rfl (lv_at hl 1 rfl) ?_
    refine lv_aload_n M.1 M.2.1 dX0_tickRunning_23 rfl (lv_at hl 0 rfl) ?_
    refine x_get0 M K hB (hq.k) 3 (by decide) wd_51 (v := .int (σ q 3)) rfl dX0_tickRunning_24 ?_
    refine lv_icmp_ge (tgt := 64) M.1 M.2.1 dX0_tickRunning_27 (by decide) (fun c_5 => ?_) (fun c_5 => ?_)
    · rw [if_pos c_5] at hr
      refine lv_aload_n M.1 M.2.1 dX0_tickRunning_64 rfl (lv_at hl 0 rfl) ?_
      refine x_get0 M K hB (hq.k) 0 (by decide) wd_54 (v := .ref (Γ.1 (q + 1))) rfl dX0_tickRunning_65 ?_
      refine lv_iconst (v := 2) M.1 M.2.1 dX0_tickRunning_68 (by decide) ?_
      refine x_ialdL M K hB (hq.a1) (k := 2) (by decide) (by decide) dX0_tickRunning_69 ?_
      refine lv_aload_n M.1 M.2.1 dX0_tickRunning_70 rfl (lv_at hl 0 rfl) ?_
      refine x_get0 M K hB (hq.k) 9 (by decide) wd_47 (v := .int (σ q 9)) rfl dX0_tickRunning_71 ?_
      obtain ⟨v_6, σ_7, h_8, hr⟩ := cbd hr
      refine x_callI (x_runSN M K hB hl.1 [.int (σ (q + 1) 2), .int (σ q 9)] (rest := []) rfl (c_X4_divides l Γ (σ (q + 1) 2) (σ q 9)  σ (v_6, σ_7) h_8) cy_X4_divides nw_4 ⟨rfl, rfl, Nat.le_of_ble_eq_true rfl, Nat.le_of_ble_eq_true rfl⟩ (Nat.le_of_ble_eq_true rfl) ⟨Nat.zero_le _, Nat.zero_le _⟩ dX0_tickRunning_74) hB (fun H locs hB => ?_)
      replace hB : Bd Γ σ_7 s H locs := hB
      refine lv_if_eq (tgt := 91) M.1 M.2.1 dX0_tickRunning_77 (by decide) (fun c_9 => ?_) (fun c_9 => ?_)
      · rw [if_pos c_9] at hr
        exact w_X0_tickRunning_91 M K hq   _ _ _ _  hB (lv_sub hl [0] rfl) hr
      · rw [if_neg c_9] at hr
        refine lv_aload_n M.1 M.2.1 dX0_tickRunning_80 rfl (lv_at hl 0 rfl) ?_
        obtain ⟨v_10, σ_11, h_12, hr⟩ := cbd hr
        refine x_callI (x_runV M K hB hl.1 [] (rest := []) rfl (c_X0_supervise l Γ q hq σ_7 (v_10, σ_11) h_12) cy_X0_supervise (x_recv K hB (hq.k).2 (ent_0 (hq.k).1) rfl) wd_66 ⟨rfl, rfl, Nat.le_of_ble_eq_true rfl, Nat.le_of_ble_eq_true rfl⟩ (Nat.le_of_ble_eq_true rfl) ⟨Nat.zero_le _, Nat.zero_le _⟩ dX0_tickRunning_81) hB (fun H locs hB => ?_)
        replace hB : Bd Γ σ_11 s H locs := hB
        refine lv_if_eq (tgt := 91) M.1 M.2.1 dX0_tickRunning_84 (by decide) (fun c_13 => ?_) (fun c_13 => ?_)
        · rw [if_pos c_13] at hr
          exact w_X0_tickRunning_91 M K hq   _ _ _ _  hB (lv_sub hl [0] rfl) hr
        · rw [if_neg c_13] at hr
          refine lv_iconst (v := 1) M.1 M.2.1 dX0_tickRunning_87 (by decide) ?_
          refine lv_goto (tgt := 92) M.1 M.2.1 dX0_tickRunning_88 (by decide) ?_
          exact w_X0_tickRunning_92 M K hq  1 _ _ _ _  hB (lv_sub hl [0] rfl) hr
    · rw [if_neg c_5] at hr
      refine lv_aload_n M.1 M.2.1 dX0_tickRunning_30 rfl (lv_at hl 0 rfl) ?_
      refine x_get0 M K hB (hq.k) 1 (by decide) wd_52 (v := .ref (Γ.1 (q + 2))) rfl dX0_tickRunning_31 ?_
      refine lv_iload_n M.1 M.2.1 dX0_tickRunning_34 rfl (lv_at hl 1 rfl) ?_
      obtain ⟨g_14, hr⟩ := gd hr
      refine x_aaldT M K hB (hq.k2) g_14 dX0_tickRunning_35 ?_
      refine lv_aload_n M.1 M.2.1 dX0_tickRunning_36 rfl (lv_at hl 0 rfl) ?_
      refine x_get0 M K hB (hq.k) 9 (by decide) wd_47 (v := .int (σ q 9)) rfl dX0_tickRunning_37 ?_
      refine lv_aload_n M.1 M.2.1 dX0_tickRunning_40 rfl (lv_at hl 0 rfl) ?_
      refine x_get0 M K hB (hq.k) 6 (by decide) wd_57 (v := .int (σ q 6)) rfl dX0_tickRunning_41 ?_
      obtain ⟨v_15, σ_16, h_17, hr⟩ := cbd hr
      refine x_callI (x_runV M K hB hl.1 [.int (σ q 9), .int (σ q 6)] (rest := []) rfl (c_X3_crashesInTick l Γ (q + 2 + 3 + 5 * x1.toNatClampNeg) (σ q 9) (σ q 6) (isB.t hq (vp_lt g_14)) σ (v_15, σ_16) h_17) cy_X3_crashesInTick (x_recv K hB ((isB.t hq (vp_lt g_14)).k).2 (ent_3 ((isB.t hq (vp_lt g_14)).k).1) rfl) wd_67 ⟨rfl, rfl, Nat.le_of_ble_eq_true rfl, Nat.le_of_ble_eq_true rfl⟩ (Nat.le_of_ble_eq_true rfl) ⟨Nat.zero_le _, Nat.zero_le _⟩ dX0_tickRunning_44) hB (fun H locs hB => ?_)
      replace hB : Bd Γ σ_16 s H locs := hB
      refine lv_if_eq (tgt := 58) M.1 M.2.1 dX0_tickRunning_47 (by decide) (fun c_18 => ?_) (fun c_18 => ?_)
      · rw [if_pos c_18] at hr
        refine lv_iinc (v := x1 + 1) (lv' := [(1, .int (x1 + 1)), (0, .ref (Γ.1 q))]) M.1 M.2.1 dX0_tickRunning_58 hl (k := 1) rfl rfl (by decide) rfl (fun ls hl => ?_)
        refine lv_goto (tgt := 22) M.1 M.2.1 dX0_tickRunning_61 (by decide) ?_
        exact ih_22 (x1 + 1) _ _ _ _  hB (lv_sub hl [1, 0] rfl) hr
      · rw [if_neg c_18] at hr
        refine lv_aload_n M.1 M.2.1 dX0_tickRunning_50 rfl (lv_at hl 0 rfl) ?_
        refine lv_iconst (v := 3) M.1 M.2.1 dX0_tickRunning_51 (by decide) ?_
        refine lv_iload_n M.1 M.2.1 dX0_tickRunning_52 rfl (lv_at hl 1 rfl) ?_
        obtain ⟨v_19, σ_20, h_21, hr⟩ := cbd hr
        refine x_callV (x_runV M K hB hl.1 [.int 3, .int x1] (rest := []) rfl (c_X0_fall l Γ q 3 x1 hq σ_16 (v_19, σ_20) h_21) cy_X0_fall (x_recv K hB (hq.k).2 (ent_0 (hq.k).1) rfl) wd_68 ⟨rfl, rfl, Nat.le_of_ble_eq_true rfl, Nat.le_of_ble_eq_true rfl⟩ (Nat.le_of_ble_eq_true rfl) ⟨Nat.zero_le _, Nat.zero_le _⟩ dX0_tickRunning_53) hB (fun H locs hB => ?_)
        replace hB : Bd Γ σ_20 s H locs := hB
        refine lv_iconst (v := 1) M.1 M.2.1 dX0_tickRunning_56 (by decide) ?_
        exact x_zret M hB (nar_z (by decide)) (Option.some.inj hr) dX0_tickRunning_57
def f_X0_tickRunning_0 (q : Nat)   (σ : Sg) : Option (Int32 × Sg) :=
wb (st σ q 9 ((σ q 9) + 1)) fun σ_1 =>
wb (st σ_1 q 10 ((σ_1 q 10) + 1)) fun σ_3 =>
f_X0_tickRunning_22 q  FU 0 σ_3
set_option maxHeartbeats 4000000 in
set_option maxRecDepth 100000 in
theorem w_X0_tickRunning_0 {p : Program} {l : Launch} {e : Env} {s : State} {m : MethodId} {args : Array Value} {below : List Frame} {meth : Method} {c : Code} {Γ : GG} {res : Int32 × Sg} (M : MX RX0 cX0_tickRunning 3 (some .boolean) p s m args meth c) (K : KK Γ s s.heap) {q : Nat} (hq : isB q)  (σ : Sg) (H : Heap) (locs : List Loc) (ls : Array Slot)  (hB : Bd Γ σ s H locs) (hl : lv_has ls 3 [(0, .ref (Γ.1 q))]) (hr : f_X0_tickRunning_0 q   σ = some res) : WI Γ rm_X0_tickRunning p l e s m args below meth c H locs res (F0 m 0 ls []) := by
  unfold f_X0_tickRunning_0 at hr
  refine lv_aload_n M.1 M.2.1 dX0_tickRunning_0 rfl (lv_at hl 0 rfl) ?_
  refine lv_dup M.1 M.2.1 dX0_tickRunning_1 rfl ?_
  refine x_get0 M K hB (hq.k) 9 (by decide) wd_47 (v := .int (σ q 9)) rfl dX0_tickRunning_2 ?_
  refine lv_iconst (v := 1) M.1 M.2.1 dX0_tickRunning_5 (by decide) ?_
  refine lv_iadd M.1 M.2.1 dX0_tickRunning_6 ?_
  obtain ⟨σ_1, e_2, hr⟩ := wbd hr
  refine x_put0 M K hB (hq.k) 9 (by decide) wd_47 dX0_tickRunning_7 (fun H locs hB => ?_)
  rw [← e_2] at hB
  refine lv_aload_n M.1 M.2.1 dX0_tickRunning_10 rfl (lv_at hl 0 rfl) ?_
  refine lv_dup M.1 M.2.1 dX0_tickRunning_11 rfl ?_
  refine x_get0 M K hB (hq.k) 10 (by decide) wd_48 (v := .int (σ_1 q 10)) rfl dX0_tickRunning_12 ?_
  refine lv_iconst (v := 1) M.1 M.2.1 dX0_tickRunning_15 (by decide) ?_
  refine lv_iadd M.1 M.2.1 dX0_tickRunning_16 ?_
  obtain ⟨σ_3, e_4, hr⟩ := wbd hr
  refine x_put0 M K hB (hq.k) 10 (by decide) wd_48 dX0_tickRunning_17 (fun H locs hB => ?_)
  rw [← e_4] at hB
  refine lv_iconst (v := 0) M.1 M.2.1 dX0_tickRunning_20 (by decide) ?_
  refine lv_istore_n (lv' := [(1, .int 0), (0, .ref (Γ.1 q))]) M.1 M.2.1 dX0_tickRunning_21 rfl hl (by decide) rfl (fun ls hl => ?_)
  exact w_X0_tickRunning_22 M K hq  FU 0 _ _ _ _  hB (lv_sub hl [1, 0] rfl) hr
theorem c_X0_tickRunning (l : Launch) (Γ : GG) (q : Nat) (hq : isB q) (σ : Sg) (res : Int32 × Sg) (hr : f_X0_tickRunning_0 q σ = some res) : Met l yX0_tickRunning (Cond.code yX0_tickRunning cX0_tickRunning 3 (some .boolean) :: gtb) rm_X0_tickRunning (va_Pc [.ref (Γ.1 q)] (GI Γ σ)) (QI Γ res) 0 0 (AD Γ) :=
  x_metI (by decide) [.ref (Γ.1 q)] (Nat.le_of_ble_eq_true rfl) (fun p e s m args below meth c M K ls hl hB => w_X0_tickRunning_0 M K hq σ _ _ ls hB hl hr)
abbrev rm_X0_tick : Room := { frames := 4, cells := 0, slots := 0, locals := 88 }
def f_X0_tick_29 (q : Nat)  (x1 : Int32) (σ : Sg) : Option (Int32 × Sg) :=
wb (st σ q 4 ((σ q 4) + 1)) fun σ_9 =>
if x1 = 0 ∨ x1 = 1 then some (x1, σ_9) else none
set_option maxHeartbeats 4000000 in
set_option maxRecDepth 100000 in
theorem w_X0_tick_29 {p : Program} {l : Launch} {e : Env} {s : State} {m : MethodId} {args : Array Value} {below : List Frame} {meth : Method} {c : Code} {Γ : GG} {res : Int32 × Sg} (M : MX RX0 cX0_tick 2 (some .boolean) p s m args meth c) (K : KK Γ s s.heap) {q : Nat} (hq : isB q) (x1 : Int32) (σ : Sg) (H : Heap) (locs : List Loc) (ls : Array Slot)  (hB : Bd Γ σ s H locs) (hl : lv_has ls 2 [(0, .ref (Γ.1 q)), (1, .int x1)]) (hr : f_X0_tick_29 q  x1 σ = some res) : WI Γ rm_X0_tick p l e s m args below meth c H locs res (F0 m 29 ls []) := by
  unfold f_X0_tick_29 at hr
  refine lv_aload_n M.1 M.2.1 dX0_tick_29 rfl (lv_at hl 0 rfl) ?_
  refine lv_dup M.1 M.2.1 dX0_tick_30 rfl ?_
  refine x_get0 M K hB (hq.k) 4 (by decide) wd_56 (v := .int (σ q 4)) rfl dX0_tick_31 ?_
  refine lv_iconst (v := 1) M.1 M.2.1 dX0_tick_34 (by decide) ?_
  refine lv_iadd M.1 M.2.1 dX0_tick_35 ?_
  obtain ⟨σ_9, e_10, hr⟩ := wbd hr
  refine x_put0 M K hB (hq.k) 4 (by decide) wd_56 dX0_tick_36 (fun H locs hB => ?_)
  rw [← e_10] at hB
  refine lv_iload_n M.1 M.2.1 dX0_tick_39 rfl (lv_at hl 1 rfl) ?_
  obtain ⟨g_11, hr⟩ := gd2 hr
  exact x_zret M hB (nar_z g_11) (Option.some.inj hr) dX0_tick_40
def f_X0_tick_0 (q : Nat)   (σ : Sg) : Option (Int32 × Sg) :=
if σ q 5 = 0 then
cb (f_X0_tickBooting_0 q σ) fun v_6 σ_7 =>
f_X0_tick_29 q  0 σ_7
else
if σ q 5 = 1 then
cb (f_X0_tickRunning_0 q σ) fun v_3 σ_4 =>
f_X0_tick_29 q  v_3 σ_4
else
f_X0_tick_29 q  0 σ
set_option maxHeartbeats 4000000 in
set_option maxRecDepth 100000 in
theorem w_X0_tick_0 {p : Program} {l : Launch} {e : Env} {s : State} {m : MethodId} {args : Array Value} {below : List Frame} {meth : Method} {c : Code} {Γ : GG} {res : Int32 × Sg} (M : MX RX0 cX0_tick 2 (some .boolean) p s m args meth c) (K : KK Γ s s.heap) {q : Nat} (hq : isB q)  (σ : Sg) (H : Heap) (locs : List Loc) (ls : Array Slot)  (hB : Bd Γ σ s H locs) (hl : lv_has ls 2 [(0, .ref (Γ.1 q))]) (hr : f_X0_tick_0 q   σ = some res) : WI Γ rm_X0_tick p l e s m args below meth c H locs res (F0 m 0 ls []) := by
  unfold f_X0_tick_0 at hr
  refine lv_iconst (v := 0) M.1 M.2.1 dX0_tick_0 (by decide) ?_
  refine lv_istore_n (lv' := [(1, .int 0), (0, .ref (Γ.1 q))]) M.1 M.2.1 dX0_tick_1 rfl hl (by decide) rfl (fun ls hl => ?_)
  refine lv_aload_n M.1 M.2.1 dX0_tick_2 rfl (lv_at hl 1 rfl) ?_
  refine x_get0 M K hB (hq.k) 5 (by decide) wd_46 (v := .int (σ q 5)) rfl dX0_tick_3 ?_
  refine lv_if_ne (tgt := 16) M.1 M.2.1 dX0_tick_6 (by decide) (fun c_1 => ?_) (fun c_1 => ?_)
  · rw [if_neg c_1] at hr
    refine lv_aload_n M.1 M.2.1 dX0_tick_16 rfl (lv_at hl 1 rfl) ?_
    refine x_get0 M K hB (hq.k) 5 (by decide) wd_46 (v := .int (σ q 5)) rfl dX0_tick_17 ?_
    refine lv_iconst (v := 1) M.1 M.2.1 dX0_tick_20 (by decide) ?_
    refine lv_icmp_ne (tgt := 29) M.1 M.2.1 dX0_tick_21 (by decide) (fun c_2 => ?_) (fun c_2 => ?_)
    · rw [if_neg c_2] at hr
      exact w_X0_tick_29 M K hq  0 _ _ _ _  hB (lv_sub hl [1, 0] rfl) hr
    · rw [if_pos c_2] at hr
      refine lv_aload_n M.1 M.2.1 dX0_tick_24 rfl (lv_at hl 1 rfl) ?_
      obtain ⟨v_3, σ_4, h_5, hr⟩ := cbd hr
      refine x_callI (x_runV M K hB hl.1 [] (rest := []) rfl (c_X0_tickRunning l Γ q hq σ (v_3, σ_4) h_5) cy_X0_tickRunning (x_recv K hB (hq.k).2 (ent_0 (hq.k).1) rfl) wd_70 ⟨rfl, rfl, Nat.le_of_ble_eq_true rfl, Nat.le_of_ble_eq_true rfl⟩ (Nat.le_of_ble_eq_true rfl) ⟨Nat.zero_le _, Nat.zero_le _⟩ dX0_tick_25) hB (fun H locs hB => ?_)
      replace hB : Bd Γ σ_4 s H locs := hB
      refine lv_istore_n (lv' := [(1, .int v_3), (0, .ref (Γ.1 q))]) M.1 M.2.1 dX0_tick_28 rfl hl (by decide) rfl (fun ls hl => ?_)
      exact w_X0_tick_29 M K hq  v_3 _ _ _ _  hB (lv_sub hl [1, 0] rfl) hr
  · rw [if_pos c_1] at hr
    refine lv_aload_n M.1 M.2.1 dX0_tick_9 rfl (lv_at hl 1 rfl) ?_
    obtain ⟨v_6, σ_7, h_8, hr⟩ := cbd hr
    refine x_callV (x_runV M K hB hl.1 [] (rest := []) rfl (c_X0_tickBooting l Γ q hq σ (v_6, σ_7) h_8) cy_X0_tickBooting (x_recv K hB (hq.k).2 (ent_0 (hq.k).1) rfl) wd_71 ⟨rfl, rfl, Nat.le_of_ble_eq_true rfl, Nat.le_of_ble_eq_true rfl⟩ (Nat.le_of_ble_eq_true rfl) ⟨Nat.zero_le _, Nat.zero_le _⟩ dX0_tick_10) hB (fun H locs hB => ?_)
    replace hB : Bd Γ σ_7 s H locs := hB
    refine lv_goto (tgt := 29) M.1 M.2.1 dX0_tick_13 (by decide) ?_
    exact w_X0_tick_29 M K hq  0 _ _ _ _  hB (lv_sub hl [1, 0] rfl) hr
theorem c_X0_tick (l : Launch) (Γ : GG) (q : Nat) (hq : isB q) (σ : Sg) (res : Int32 × Sg) (hr : f_X0_tick_0 q σ = some res) : Met l yX0_tick (Cond.code yX0_tick cX0_tick 2 (some .boolean) :: gtb) rm_X0_tick (va_Pc [.ref (Γ.1 q)] (GI Γ σ)) (QI Γ res) 0 0 (AD Γ) :=
  x_metI (by decide) [.ref (Γ.1 q)] (Nat.le_of_ble_eq_true rfl) (fun p e s m args below meth c M K ls hl hB => w_X0_tick_0 M K hq σ _ _ ls hB hl hr)
abbrev rm_X0_ticksToReset : Room := { frames := 5, cells := 0, slots := 0, locals := 109 }
def f_X0_ticksToReset_2 (q : Nat) (a0 : Int32)  : Nat → Int32 → Int32 → Sg → Option (Int32 × Sg)
  | 0, _, _, _ => none
  | f + 1, x1, x2, σ => if x1 < x2 then
some ((-6), σ)
else
cb (f_X0_tick_0 q σ) fun v_2 σ_3 =>
if v_2 = 0 then
f_X0_ticksToReset_2 q a0  f x1 (x2 + 1) σ_3
else
some (x2, σ_3)
set_option maxHeartbeats 4000000 in
set_option maxRecDepth 100000 in
theorem w_X0_ticksToReset_2 {p : Program} {l : Launch} {e : Env} {s : State} {m : MethodId} {args : Array Value} {below : List Frame} {meth : Method} {c : Code} {Γ : GG} {res : Int32 × Sg} (M : MX RX0 cX0_ticksToReset 3 (some .int) p s m args meth c) (K : KK Γ s s.heap) {q : Nat} (hq : isB q) (a0 : Int32) : ∀ (f : Nat) (x1 : Int32) (x2 : Int32) (σ : Sg) (H : Heap) (locs : List Loc) (ls : Array Slot)  (hB : Bd Γ σ s H locs) (hl : lv_has ls 3 [(0, .ref (Γ.1 q)), (1, .int x1), (2, .int x2)]) (hr : f_X0_ticksToReset_2 q a0  f x1 x2 σ = some res), WI Γ rm_X0_ticksToReset p l e s m args below meth c H locs res (F0 m 2 ls []) := by
  intro f
  induction f with
  | zero => intros; rename_i hr; exact absurd hr (by rw [f_X0_ticksToReset_2]; exact fun h => by cases h)
  | succ f ih_2 =>
    intro x1 x2 σ H locs ls  hB hl hr
    rw [f_X0_ticksToReset_2] at hr
    refine lv_iload_n M.1 M.2.1 dX0_ticksToReset_2 rfl (lv_at hl 2 rfl) ?_
    refine lv_iload_n M.1 M.2.1 dX0_ticksToReset_3 rfl (lv_at hl 1 rfl) ?_
    refine lv_icmp_gt (tgt := 22) M.1 M.2.1 dX0_ticksToReset_4 (by decide) (fun c_1 => ?_) (fun c_1 => ?_)
    · rw [if_pos c_1] at hr
      refine lv_bipush (v := (-6)) M.1 M.2.1 dX0_ticksToReset_22 (by decide) ?_
      exact x_iret M hB (Option.some.inj hr) dX0_ticksToReset_24
    · rw [if_neg c_1] at hr
      refine lv_aload_n M.1 M.2.1 dX0_ticksToReset_7 rfl (lv_at hl 0 rfl) ?_
      obtain ⟨v_2, σ_3, h_4, hr⟩ := cbd hr
      refine x_callI (x_runV M K hB hl.1 [] (rest := []) rfl (c_X0_tick l Γ q hq σ (v_2, σ_3) h_4) cy_X0_tick (x_recv K hB (hq.k).2 (ent_0 (hq.k).1) rfl) wd_72 ⟨rfl, rfl, Nat.le_of_ble_eq_true rfl, Nat.le_of_ble_eq_true rfl⟩ (Nat.le_of_ble_eq_true rfl) ⟨Nat.zero_le _, Nat.zero_le _⟩ dX0_ticksToReset_8) hB (fun H locs hB => ?_)
      replace hB : Bd Γ σ_3 s H locs := hB
      refine lv_if_eq (tgt := 16) M.1 M.2.1 dX0_ticksToReset_11 (by decide) (fun c_5 => ?_) (fun c_5 => ?_)
      · rw [if_pos c_5] at hr
        refine lv_iinc (v := x2 + 1) (lv' := [(2, .int (x2 + 1)), (0, .ref (Γ.1 q)), (1, .int x1)]) M.1 M.2.1 dX0_ticksToReset_16 hl (k := 2) rfl rfl (by decide) rfl (fun ls hl => ?_)
        refine lv_goto (tgt := 2) M.1 M.2.1 dX0_ticksToReset_19 (by decide) ?_
        exact ih_2 x1 (x2 + 1) _ _ _ _  hB (lv_sub hl [1, 2, 0] rfl) hr
      · rw [if_neg c_5] at hr
        refine lv_iload_n M.1 M.2.1 dX0_ticksToReset_14 rfl (lv_at hl 2 rfl) ?_
        exact x_iret M hB (Option.some.inj hr) dX0_ticksToReset_15
def f_X0_ticksToReset_0 (q : Nat) (a0 : Int32)   (σ : Sg) : Option (Int32 × Sg) :=
f_X0_ticksToReset_2 q a0  FU a0 1 σ
set_option maxHeartbeats 4000000 in
set_option maxRecDepth 100000 in
theorem w_X0_ticksToReset_0 {p : Program} {l : Launch} {e : Env} {s : State} {m : MethodId} {args : Array Value} {below : List Frame} {meth : Method} {c : Code} {Γ : GG} {res : Int32 × Sg} (M : MX RX0 cX0_ticksToReset 3 (some .int) p s m args meth c) (K : KK Γ s s.heap) {q : Nat} (hq : isB q) (a0 : Int32)  (σ : Sg) (H : Heap) (locs : List Loc) (ls : Array Slot)  (hB : Bd Γ σ s H locs) (hl : lv_has ls 3 [(0, .ref (Γ.1 q)), (1, .int a0)]) (hr : f_X0_ticksToReset_0 q a0   σ = some res) : WI Γ rm_X0_ticksToReset p l e s m args below meth c H locs res (F0 m 0 ls []) := by
  unfold f_X0_ticksToReset_0 at hr
  refine lv_iconst (v := 1) M.1 M.2.1 dX0_ticksToReset_0 (by decide) ?_
  refine lv_istore_n (lv' := [(2, .int 1), (0, .ref (Γ.1 q)), (1, .int a0)]) M.1 M.2.1 dX0_ticksToReset_1 rfl hl (by decide) rfl (fun ls hl => ?_)
  exact w_X0_ticksToReset_2 M K hq a0  FU a0 1 _ _ _ _  hB (lv_sub hl [1, 2, 0] rfl) hr
theorem c_X0_ticksToReset (l : Launch) (Γ : GG) (q : Nat) (a0 : Int32) (hq : isB q) (σ : Sg) (res : Int32 × Sg) (hr : f_X0_ticksToReset_0 q a0 σ = some res) : Met l yX0_ticksToReset (Cond.code yX0_ticksToReset cX0_ticksToReset 3 (some .int) :: gtb) rm_X0_ticksToReset (va_Pc [.ref (Γ.1 q), .int a0] (GI Γ σ)) (QI Γ res) 0 0 (AD Γ) :=
  x_metI (by decide) [.ref (Γ.1 q), .int a0] (Nat.le_of_ble_eq_true rfl) (fun p e s m args below meth c M K ls hl hB => w_X0_ticksToReset_0 M K hq a0 σ _ _ ls hB hl hr)
abbrev rm_X0_switchOffAndOn : Room := { frames := 1, cells := 0, slots := 0, locals := 20 }
def f_X0_switchOffAndOn_0 (q : Nat)   (σ : Sg) : Option (Int32 × Sg) :=
wb (st σ q 6 0) fun σ_1 =>
wb (st σ_1 q 7 0) fun σ_3 =>
cb (f_X0_boot_0 q σ_3) fun v_5 σ_6 =>
some (0, σ_6)
set_option maxHeartbeats 4000000 in
set_option maxRecDepth 100000 in
theorem w_X0_switchOffAndOn_0 {p : Program} {l : Launch} {e : Env} {s : State} {m : MethodId} {args : Array Value} {below : List Frame} {meth : Method} {c : Code} {Γ : GG} {res : Int32 × Sg} (M : MX RX0 cX0_switchOffAndOn 1 none p s m args meth c) (K : KK Γ s s.heap) {q : Nat} (hq : isB q)  (σ : Sg) (H : Heap) (locs : List Loc) (ls : Array Slot)  (hB : Bd Γ σ s H locs) (hl : lv_has ls 1 [(0, .ref (Γ.1 q))]) (hr : f_X0_switchOffAndOn_0 q   σ = some res) : WV Γ rm_X0_switchOffAndOn p l e s m args below meth c H locs res (F0 m 0 ls []) := by
  unfold f_X0_switchOffAndOn_0 at hr
  refine lv_aload_n M.1 M.2.1 dX0_switchOffAndOn_0 rfl (lv_at hl 0 rfl) ?_
  refine lv_iconst (v := 0) M.1 M.2.1 dX0_switchOffAndOn_1 (by decide) ?_
  obtain ⟨σ_1, e_2, hr⟩ := wbd hr
  refine x_put0 M K hB (hq.k) 6 (by decide) wd_57 dX0_switchOffAndOn_2 (fun H locs hB => ?_)
  rw [← e_2] at hB
  refine lv_aload_n M.1 M.2.1 dX0_switchOffAndOn_5 rfl (lv_at hl 0 rfl) ?_
  refine lv_iconst (v := 0) M.1 M.2.1 dX0_switchOffAndOn_6 (by decide) ?_
  obtain ⟨σ_3, e_4, hr⟩ := wbd hr
  refine x_put0 M K hB (hq.k) 7 (by decide) wd_60 dX0_switchOffAndOn_7 (fun H locs hB => ?_)
  rw [← e_4] at hB
  refine lv_aload_n M.1 M.2.1 dX0_switchOffAndOn_10 rfl (lv_at hl 0 rfl) ?_
  obtain ⟨v_5, σ_6, h_7, hr⟩ := cbd hr
  refine x_callV (x_runV M K hB hl.1 [] (rest := []) rfl (c_X0_boot l Γ q hq σ_3 (v_5, σ_6) h_7) cy_X0_boot (x_recv K hB (hq.k).2 (ent_0 (hq.k).1) rfl) wd_61 ⟨rfl, rfl, Nat.le_of_ble_eq_true rfl, Nat.le_of_ble_eq_true rfl⟩ (Nat.le_of_ble_eq_true rfl) ⟨Nat.zero_le _, Nat.zero_le _⟩ dX0_switchOffAndOn_11) hB (fun H locs hB => ?_)
  replace hB : Bd Γ σ_6 s H locs := hB
  exact x_vret M hB (Option.some.inj hr) dX0_switchOffAndOn_14
theorem c_X0_switchOffAndOn (l : Launch) (Γ : GG) (q : Nat) (hq : isB q) (σ : Sg) (res : Int32 × Sg) (hr : f_X0_switchOffAndOn_0 q σ = some res) : Met l yX0_switchOffAndOn (Cond.code yX0_switchOffAndOn cX0_switchOffAndOn 1 none :: gtb) rm_X0_switchOffAndOn (va_Pc [.ref (Γ.1 q)] (GI Γ σ)) (QV Γ res) 0 0 (AD Γ) :=
  x_metV (by decide) [.ref (Γ.1 q)] (Nat.le_of_ble_eq_true rfl) (fun p e s m args below meth c M K ls hl hB => w_X0_switchOffAndOn_0 M K hq σ _ _ ls hB hl hr)
abbrev rm_X0_ifRunning : Room := { frames := 0, cells := 0, slots := 0, locals := 0 }
def f_X0_ifRunning_13 (q : Nat) (a0 : Int32)  (s0 : Int32) (σ : Sg) : Option (Int32 × Sg) :=
some (s0, σ)
set_option maxHeartbeats 4000000 in
set_option maxRecDepth 100000 in
theorem w_X0_ifRunning_13 {p : Program} {l : Launch} {e : Env} {s : State} {m : MethodId} {args : Array Value} {below : List Frame} {meth : Method} {c : Code} {Γ : GG} {res : Int32 × Sg} (M : MX RX0 cX0_ifRunning 2 (some .int) p s m args meth c) (K : KK Γ s s.heap) {q : Nat} (hq : isB q) (a0 : Int32) (s0 : Int32) (σ : Sg) (H : Heap) (locs : List Loc) (ls : Array Slot)  (hB : Bd Γ σ s H locs) (hl : lv_has ls 2 []) (hr : f_X0_ifRunning_13 q a0  s0 σ = some res) : WI Γ rm_X0_ifRunning p l e s m args below meth c H locs res (F0 m 13 ls [.int s0]) := by
  unfold f_X0_ifRunning_13 at hr
  exact x_iret M hB (Option.some.inj hr) dX0_ifRunning_13
def f_X0_ifRunning_0 (q : Nat) (a0 : Int32)   (σ : Sg) : Option (Int32 × Sg) :=
if σ q 5 = 1 then
f_X0_ifRunning_13 q a0  a0 σ
else
f_X0_ifRunning_13 q a0  0 σ
set_option maxHeartbeats 4000000 in
set_option maxRecDepth 100000 in
theorem w_X0_ifRunning_0 {p : Program} {l : Launch} {e : Env} {s : State} {m : MethodId} {args : Array Value} {below : List Frame} {meth : Method} {c : Code} {Γ : GG} {res : Int32 × Sg} (M : MX RX0 cX0_ifRunning 2 (some .int) p s m args meth c) (K : KK Γ s s.heap) {q : Nat} (hq : isB q) (a0 : Int32)  (σ : Sg) (H : Heap) (locs : List Loc) (ls : Array Slot)  (hB : Bd Γ σ s H locs) (hl : lv_has ls 2 [(0, .ref (Γ.1 q)), (1, .int a0)]) (hr : f_X0_ifRunning_0 q a0   σ = some res) : WI Γ rm_X0_ifRunning p l e s m args below meth c H locs res (F0 m 0 ls []) := by
  unfold f_X0_ifRunning_0 at hr
  refine lv_aload_n M.1 M.2.1 dX0_ifRunning_0 rfl (lv_at hl 0 rfl) ?_
  refine x_get0 M K hB (hq.k) 5 (by decide) wd_46 (v := .int (σ q 5)) rfl dX0_ifRunning_1 ?_
  refine lv_iconst (v := 1) M.1 M.2.1 dX0_ifRunning_4 (by decide) ?_
  refine lv_icmp_ne (tgt := 12) M.1 M.2.1 dX0_ifRunning_5 (by decide) (fun c_1 => ?_) (fun c_1 => ?_)
  · rw [if_neg c_1] at hr
    refine lv_iconst (v := 0) M.1 M.2.1 dX0_ifRunning_12 (by decide) ?_
    exact w_X0_ifRunning_13 M K hq a0  0 _ _ _ _  hB (lv_sub hl [] rfl) hr
  · rw [if_pos c_1] at hr
    refine lv_iload_n M.1 M.2.1 dX0_ifRunning_8 rfl (lv_at hl 1 rfl) ?_
    refine lv_goto (tgt := 13) M.1 M.2.1 dX0_ifRunning_9 (by decide) ?_
    exact w_X0_ifRunning_13 M K hq a0  a0 _ _ _ _  hB (lv_sub hl [] rfl) hr
theorem c_X0_ifRunning (l : Launch) (Γ : GG) (q : Nat) (a0 : Int32) (hq : isB q) (σ : Sg) (res : Int32 × Sg) (hr : f_X0_ifRunning_0 q a0 σ = some res) : Met l yX0_ifRunning (Cond.code yX0_ifRunning cX0_ifRunning 2 (some .int) :: gtb) rm_X0_ifRunning (va_Pc [.ref (Γ.1 q), .int a0] (GI Γ σ)) (QI Γ res) 0 0 (AD Γ) :=
  x_metI (by decide) [.ref (Γ.1 q), .int a0] (Nat.le_of_ble_eq_true rfl) (fun p e s m args below meth c M K ls hl hB => w_X0_ifRunning_0 M K hq a0 σ _ _ ls hB hl hr)
abbrev rm_X0_expiredSet : Room := { frames := 0, cells := 0, slots := 0, locals := 0 }
def f_X0_expiredSet_30 (q : Nat) (rec_4 : Int32 → Int32 → Sg → Option (Int32 × Sg)) (x1 : Int32) (x2 : Int32) (σ : Sg) : Option (Int32 × Sg) :=
rec_4 x1 (x2 + 1) σ
set_option maxHeartbeats 4000000 in
set_option maxRecDepth 100000 in
theorem w_X0_expiredSet_30 {p : Program} {l : Launch} {e : Env} {s : State} {m : MethodId} {args : Array Value} {below : List Frame} {meth : Method} {c : Code} {Γ : GG} {res : Int32 × Sg} (M : MX RX0 cX0_expiredSet 3 (some .int) p s m args meth c) (K : KK Γ s s.heap) {q : Nat} (hq : isB q) (rec_4 : Int32 → Int32 → Sg → Option (Int32 × Sg)) (ih_4 : ∀ (x1 : Int32) (x2 : Int32) (σ : Sg) (H : Heap) (locs : List Loc) (ls : Array Slot) , Bd Γ σ s H locs → lv_has ls 3 [(0, .ref (Γ.1 q)), (1, .int x1), (2, .int x2)] → rec_4 x1 x2 σ = some res → WI Γ rm_X0_expiredSet p l e s m args below meth c H locs res (F0 m 4 ls [])) (x1 : Int32) (x2 : Int32) (σ : Sg) (H : Heap) (locs : List Loc) (ls : Array Slot)  (hB : Bd Γ σ s H locs) (hl : lv_has ls 3 [(0, .ref (Γ.1 q)), (1, .int x1), (2, .int x2)]) (hr : f_X0_expiredSet_30 q rec_4 x1 x2 σ = some res) : WI Γ rm_X0_expiredSet p l e s m args below meth c H locs res (F0 m 30 ls []) := by
  unfold f_X0_expiredSet_30 at hr
  refine lv_iinc (v := x2 + 1) (lv' := [(2, .int (x2 + 1)), (0, .ref (Γ.1 q)), (1, .int x1)]) M.1 M.2.1 dX0_expiredSet_30 hl (k := 2) rfl rfl (by decide) rfl (fun ls hl => ?_)
  refine lv_goto (tgt := 4) M.1 M.2.1 dX0_expiredSet_33 (by decide) ?_
  exact ih_4 x1 (x2 + 1) _ _ _ _  hB (lv_sub hl [1, 2, 0] rfl) hr
def f_X0_expiredSet_4 (q : Nat)  : Nat → Int32 → Int32 → Sg → Option (Int32 × Sg)
  | 0, _, _, _ => none
  | f + 1, x1, x2, σ => if σ q 3 ≤ x2 then
some (x1, σ)
else
if x2 < 0 ∨ 6 ≤ x2.toNatClampNeg then none else
if σ (q + 2 + 3 + 5 * x2.toNatClampNeg) 11 = 0 then
f_X0_expiredSet_30 q (f_X0_expiredSet_4 q  f) x1 x2 σ
else
f_X0_expiredSet_30 q (f_X0_expiredSet_4 q  f) (x1 ||| (1 <<< (x2 &&& 31))) x2 σ
set_option maxHeartbeats 4000000 in
set_option maxRecDepth 100000 in
theorem w_X0_expiredSet_4 {p : Program} {l : Launch} {e : Env} {s : State} {m : MethodId} {args : Array Value} {below : List Frame} {meth : Method} {c : Code} {Γ : GG} {res : Int32 × Sg} (M : MX RX0 cX0_expiredSet 3 (some .int) p s m args meth c) (K : KK Γ s s.heap) {q : Nat} (hq : isB q) : ∀ (f : Nat) (x1 : Int32) (x2 : Int32) (σ : Sg) (H : Heap) (locs : List Loc) (ls : Array Slot)  (hB : Bd Γ σ s H locs) (hl : lv_has ls 3 [(0, .ref (Γ.1 q)), (1, .int x1), (2, .int x2)]) (hr : f_X0_expiredSet_4 q  f x1 x2 σ = some res), WI Γ rm_X0_expiredSet p l e s m args below meth c H locs res (F0 m 4 ls []) := by
  intro f
  induction f with
  | zero => intros; rename_i hr; exact absurd hr (by rw [f_X0_expiredSet_4]; exact fun h => by cases h)
  | succ f ih_4 =>
    intro x1 x2 σ H locs ls  hB hl hr
    rw [f_X0_expiredSet_4] at hr
    refine lv_iload_n M.1 M.2.1 dX0_expiredSet_4 rfl (lv_at hl 2 rfl) ?_
    refine lv_aload_n M.1 M.2.1 dX0_expiredSet_5 rfl (lv_at hl 0 rfl) ?_
    refine x_get0 M K hB (hq.k) 3 (by decide) wd_51 (v := .int (σ q 3)) rfl dX0_expiredSet_6 ?_
    refine lv_icmp_ge (tgt := 36) M.1 M.2.1 dX0_expiredSet_9 (by decide) (fun c_1 => ?_) (fun c_1 => ?_)
    · rw [if_pos c_1] at hr
      refine lv_iload_n M.1 M.2.1 dX0_expiredSet_36 rfl (lv_at hl 1 rfl) ?_
      exact x_iret M hB (Option.some.inj hr) dX0_expiredSet_37
    · rw [if_neg c_1] at hr
      refine lv_aload_n M.1 M.2.1 dX0_expiredSet_12 rfl (lv_at hl 0 rfl) ?_
      refine x_get0 M K hB (hq.k) 1 (by decide) wd_52 (v := .ref (Γ.1 (q + 2))) rfl dX0_expiredSet_13 ?_
      refine lv_iload_n M.1 M.2.1 dX0_expiredSet_16 rfl (lv_at hl 2 rfl) ?_
      obtain ⟨g_2, hr⟩ := gd hr
      refine x_aaldT M K hB (hq.k2) g_2 dX0_expiredSet_17 ?_
      refine x_get3 M K hB ((isB.t hq (vp_lt g_2)).k) 11 (by decide) wd_62 (v := .int (σ (q + 2 + 3 + 5 * x2.toNatClampNeg) 11)) rfl dX0_expiredSet_18 ?_
      refine lv_if_eq (tgt := 30) M.1 M.2.1 dX0_expiredSet_21 (by decide) (fun c_3 => ?_) (fun c_3 => ?_)
      · rw [if_pos c_3] at hr
        exact w_X0_expiredSet_30 M K hq _ ih_4 x1 x2 _ _ _ _  hB (lv_sub hl [0, 1, 2] rfl) hr
      · rw [if_neg c_3] at hr
        refine lv_iload_n M.1 M.2.1 dX0_expiredSet_24 rfl (lv_at hl 1 rfl) ?_
        refine lv_iconst (v := 1) M.1 M.2.1 dX0_expiredSet_25 (by decide) ?_
        refine lv_iload_n M.1 M.2.1 dX0_expiredSet_26 rfl (lv_at hl 2 rfl) ?_
        refine lv_ishl M.1 M.2.1 dX0_expiredSet_27 ?_
        refine lv_ior M.1 M.2.1 dX0_expiredSet_28 ?_
        refine lv_istore_n (lv' := [(1, .int (x1 ||| (1 <<< (x2 &&& 31)))), (0, .ref (Γ.1 q)), (2, .int x2)]) M.1 M.2.1 dX0_expiredSet_29 rfl hl (by decide) rfl (fun ls hl => ?_)
        exact w_X0_expiredSet_30 M K hq _ ih_4 (x1 ||| (1 <<< (x2 &&& 31))) x2 _ _ _ _  hB (lv_sub hl [1, 0, 2] rfl) hr
def f_X0_expiredSet_0 (q : Nat)   (σ : Sg) : Option (Int32 × Sg) :=
f_X0_expiredSet_4 q  FU 0 0 σ
set_option maxHeartbeats 4000000 in
set_option maxRecDepth 100000 in
theorem w_X0_expiredSet_0 {p : Program} {l : Launch} {e : Env} {s : State} {m : MethodId} {args : Array Value} {below : List Frame} {meth : Method} {c : Code} {Γ : GG} {res : Int32 × Sg} (M : MX RX0 cX0_expiredSet 3 (some .int) p s m args meth c) (K : KK Γ s s.heap) {q : Nat} (hq : isB q)  (σ : Sg) (H : Heap) (locs : List Loc) (ls : Array Slot)  (hB : Bd Γ σ s H locs) (hl : lv_has ls 3 [(0, .ref (Γ.1 q))]) (hr : f_X0_expiredSet_0 q   σ = some res) : WI Γ rm_X0_expiredSet p l e s m args below meth c H locs res (F0 m 0 ls []) := by
  unfold f_X0_expiredSet_0 at hr
  refine lv_iconst (v := 0) M.1 M.2.1 dX0_expiredSet_0 (by decide) ?_
  refine lv_istore_n (lv' := [(1, .int 0), (0, .ref (Γ.1 q))]) M.1 M.2.1 dX0_expiredSet_1 rfl hl (by decide) rfl (fun ls hl => ?_)
  refine lv_iconst (v := 0) M.1 M.2.1 dX0_expiredSet_2 (by decide) ?_
  refine lv_istore_n (lv' := [(2, .int 0), (1, .int 0), (0, .ref (Γ.1 q))]) M.1 M.2.1 dX0_expiredSet_3 rfl hl (by decide) rfl (fun ls hl => ?_)
  exact w_X0_expiredSet_4 M K hq  FU 0 0 _ _ _ _  hB (lv_sub hl [2, 1, 0] rfl) hr
theorem c_X0_expiredSet (l : Launch) (Γ : GG) (q : Nat) (hq : isB q) (σ : Sg) (res : Int32 × Sg) (hr : f_X0_expiredSet_0 q σ = some res) : Met l yX0_expiredSet (Cond.code yX0_expiredSet cX0_expiredSet 3 (some .int) :: gtb) rm_X0_expiredSet (va_Pc [.ref (Γ.1 q)] (GI Γ σ)) (QI Γ res) 0 0 (AD Γ) :=
  x_metI (by decide) [.ref (Γ.1 q)] (Nat.le_of_ble_eq_true rfl) (fun p e s m args below meth c M K ls hl hB => w_X0_expiredSet_0 M K hq σ _ _ ls hB hl hr)
abbrev rm_X0_become : Room := { frames := 2, cells := 0, slots := 0, locals := 47 }
def f_X0_become_17 (q : Nat) (o0 : Nat)  : Nat → Int32 → Sg → Option (Int32 × Sg)
  | 0, _, _ => none
  | f + 1, x2, σ => if σ o0 3 ≤ x2 then
cb (f_X1_become_0 (q + 3) (o0 + 3) σ) fun v_4 σ_5 =>
wb (st σ_5 q 3 (σ_5 o0 3)) fun σ_7 =>
wb (st σ_7 q 4 (σ_7 o0 4)) fun σ_9 =>
wb (st σ_9 q 5 (σ_9 o0 5)) fun σ_11 =>
wb (st σ_11 q 6 (σ_11 o0 6)) fun σ_13 =>
wb (st σ_13 q 7 (σ_13 o0 7)) fun σ_15 =>
wb (st σ_15 q 8 (σ_15 o0 8)) fun σ_17 =>
wb (st σ_17 q 9 (σ_17 o0 9)) fun σ_19 =>
wb (st σ_19 q 10 (σ_19 o0 10)) fun σ_21 =>
wb (st σ_21 q 11 (σ_21 o0 11)) fun σ_23 =>
wb (st σ_23 q 12 (σ_23 o0 12)) fun σ_25 =>
some (0, σ_25)
else
if x2 < 0 ∨ 6 ≤ x2.toNatClampNeg then none else
if x2 < 0 ∨ 6 ≤ x2.toNatClampNeg then none else
cb (f_X3_become_0 (q + 2 + 3 + 5 * x2.toNatClampNeg) (o0 + 2 + 3 + 5 * x2.toNatClampNeg) σ) fun v_29 σ_30 =>
f_X0_become_17 q o0  f (x2 + 1) σ_30
set_option maxHeartbeats 4000000 in
set_option maxRecDepth 100000 in
theorem w_X0_become_17 {p : Program} {l : Launch} {e : Env} {s : State} {m : MethodId} {args : Array Value} {below : List Frame} {meth : Method} {c : Code} {Γ : GG} {res : Int32 × Sg} (M : MX RX0 cX0_become 3 none p s m args meth c) (K : KK Γ s s.heap) {q : Nat} (hq : isB q) {o0 : Nat} (ho0 : isB o0) : ∀ (f : Nat) (x2 : Int32) (σ : Sg) (H : Heap) (locs : List Loc) (ls : Array Slot)  (hB : Bd Γ σ s H locs) (hl : lv_has ls 3 [(0, .ref (Γ.1 q)), (1, .ref (Γ.1 o0)), (2, .int x2)]) (hr : f_X0_become_17 q o0  f x2 σ = some res), WV Γ rm_X0_become p l e s m args below meth c H locs res (F0 m 17 ls []) := by
  intro f
  induction f with
  | zero => intros; rename_i hr; exact absurd hr (by rw [f_X0_become_17]; exact fun h => by cases h)
  | succ f ih_17 =>
    intro x2 σ H locs ls  hB hl hr
    rw [f_X0_become_17] at hr
    refine lv_iload_n M.1 M.2.1 dX0_become_17 rfl (lv_at hl 2 rfl) ?_
    refine lv_aload_n M.1 M.2.1 dX0_become_18 rfl (lv_at hl 1 rfl) ?_
    refine x_get0 M K hB (ho0.k) 3 (by decide) wd_51 (v := .int (σ o0 3)) rfl dX0_become_19 ?_
    refine lv_icmp_ge (tgt := 46) M.1 M.2.1 dX0_become_22 (by decide) (fun c_3 => ?_) (fun c_3 => ?_)
    · rw [if_pos c_3] at hr
      refine lv_aload_n M.1 M.2.1 dX0_become_46 rfl (lv_at hl 0 rfl) ?_
      refine x_get0 M K hB (hq.k) 2 (by decide) wd_55 (v := .ref (Γ.1 (q + 3))) rfl dX0_become_47 ?_
      refine lv_aload_n M.1 M.2.1 dX0_become_50 rfl (lv_at hl 1 rfl) ?_
      refine x_get0 M K hB (ho0.k) 2 (by decide) wd_55 (v := .ref (Γ.1 (o0 + 3))) rfl dX0_become_51 ?_
      obtain ⟨v_4, σ_5, h_6, hr⟩ := cbd hr
      refine x_callV (x_runV M K hB hl.1 [.ref (Γ.1 (o0 + 3))] (rest := []) rfl (c_X1_become l Γ (q + 3) (o0 + 3) hq.bk ho0.bk σ (v_4, σ_5) h_6) cy_X1_become (x_recv K hB (hq.bk.k).2 (ent_1 (hq.bk.k).1) rfl) wd_74 ⟨rfl, rfl, Nat.le_of_ble_eq_true rfl, Nat.le_of_ble_eq_true rfl⟩ (Nat.le_of_ble_eq_true rfl) ⟨Nat.zero_le _, Nat.zero_le _⟩ dX0_become_54) hB (fun H locs hB => ?_)
      replace hB : Bd Γ σ_5 s H locs := hB
      refine lv_aload_n M.1 M.2.1 dX0_become_57 rfl (lv_at hl 0 rfl) ?_
      refine lv_aload_n M.1 M.2.1 dX0_become_58 rfl (lv_at hl 1 rfl) ?_
      refine x_get0 M K hB (ho0.k) 3 (by decide) wd_51 (v := .int (σ_5 o0 3)) rfl dX0_become_59 ?_
      obtain ⟨σ_7, e_8, hr⟩ := wbd hr
      refine x_put0 M K hB (hq.k) 3 (by decide) wd_51 dX0_become_62 (fun H locs hB => ?_)
      rw [← e_8] at hB
      refine lv_aload_n M.1 M.2.1 dX0_become_65 rfl (lv_at hl 0 rfl) ?_
      refine lv_aload_n M.1 M.2.1 dX0_become_66 rfl (lv_at hl 1 rfl) ?_
      refine x_get0 M K hB (ho0.k) 4 (by decide) wd_56 (v := .int (σ_7 o0 4)) rfl dX0_become_67 ?_
      obtain ⟨σ_9, e_10, hr⟩ := wbd hr
      refine x_put0 M K hB (hq.k) 4 (by decide) wd_56 dX0_become_70 (fun H locs hB => ?_)
      rw [← e_10] at hB
      refine lv_aload_n M.1 M.2.1 dX0_become_73 rfl (lv_at hl 0 rfl) ?_
      refine lv_aload_n M.1 M.2.1 dX0_become_74 rfl (lv_at hl 1 rfl) ?_
      refine x_get0 M K hB (ho0.k) 5 (by decide) wd_46 (v := .int (σ_9 o0 5)) rfl dX0_become_75 ?_
      obtain ⟨σ_11, e_12, hr⟩ := wbd hr
      refine x_put0 M K hB (hq.k) 5 (by decide) wd_46 dX0_become_78 (fun H locs hB => ?_)
      rw [← e_12] at hB
      refine lv_aload_n M.1 M.2.1 dX0_become_81 rfl (lv_at hl 0 rfl) ?_
      refine lv_aload_n M.1 M.2.1 dX0_become_82 rfl (lv_at hl 1 rfl) ?_
      refine x_get0 M K hB (ho0.k) 6 (by decide) wd_57 (v := .int (σ_11 o0 6)) rfl dX0_become_83 ?_
      obtain ⟨σ_13, e_14, hr⟩ := wbd hr
      refine x_put0 M K hB (hq.k) 6 (by decide) wd_57 dX0_become_86 (fun H locs hB => ?_)
      rw [← e_14] at hB
      refine lv_aload_n M.1 M.2.1 dX0_become_89 rfl (lv_at hl 0 rfl) ?_
      refine lv_aload_n M.1 M.2.1 dX0_become_90 rfl (lv_at hl 1 rfl) ?_
      refine x_get0 M K hB (ho0.k) 7 (by decide) wd_60 (v := .int (σ_13 o0 7)) rfl dX0_become_91 ?_
      obtain ⟨σ_15, e_16, hr⟩ := wbd hr
      refine x_put0 M K hB (hq.k) 7 (by decide) wd_60 dX0_become_94 (fun H locs hB => ?_)
      rw [← e_16] at hB
      refine lv_aload_n M.1 M.2.1 dX0_become_97 rfl (lv_at hl 0 rfl) ?_
      refine lv_aload_n M.1 M.2.1 dX0_become_98 rfl (lv_at hl 1 rfl) ?_
      refine x_get0 M K hB (ho0.k) 8 (by decide) wd_45 (v := .int (σ_15 o0 8)) rfl dX0_become_99 ?_
      obtain ⟨σ_17, e_18, hr⟩ := wbd hr
      refine x_put0 M K hB (hq.k) 8 (by decide) wd_45 dX0_become_102 (fun H locs hB => ?_)
      rw [← e_18] at hB
      refine lv_aload_n M.1 M.2.1 dX0_become_105 rfl (lv_at hl 0 rfl) ?_
      refine lv_aload_n M.1 M.2.1 dX0_become_106 rfl (lv_at hl 1 rfl) ?_
      refine x_get0 M K hB (ho0.k) 9 (by decide) wd_47 (v := .int (σ_17 o0 9)) rfl dX0_become_107 ?_
      obtain ⟨σ_19, e_20, hr⟩ := wbd hr
      refine x_put0 M K hB (hq.k) 9 (by decide) wd_47 dX0_become_110 (fun H locs hB => ?_)
      rw [← e_20] at hB
      refine lv_aload_n M.1 M.2.1 dX0_become_113 rfl (lv_at hl 0 rfl) ?_
      refine lv_aload_n M.1 M.2.1 dX0_become_114 rfl (lv_at hl 1 rfl) ?_
      refine x_get0 M K hB (ho0.k) 10 (by decide) wd_48 (v := .int (σ_19 o0 10)) rfl dX0_become_115 ?_
      obtain ⟨σ_21, e_22, hr⟩ := wbd hr
      refine x_put0 M K hB (hq.k) 10 (by decide) wd_48 dX0_become_118 (fun H locs hB => ?_)
      rw [← e_22] at hB
      refine lv_aload_n M.1 M.2.1 dX0_become_121 rfl (lv_at hl 0 rfl) ?_
      refine lv_aload_n M.1 M.2.1 dX0_become_122 rfl (lv_at hl 1 rfl) ?_
      refine x_get0 M K hB (ho0.k) 11 (by decide) wd_49 (v := .int (σ_21 o0 11)) rfl dX0_become_123 ?_
      obtain ⟨σ_23, e_24, hr⟩ := wbd hr
      refine x_put0 M K hB (hq.k) 11 (by decide) wd_49 dX0_become_126 (fun H locs hB => ?_)
      rw [← e_24] at hB
      refine lv_aload_n M.1 M.2.1 dX0_become_129 rfl (lv_at hl 0 rfl) ?_
      refine lv_aload_n M.1 M.2.1 dX0_become_130 rfl (lv_at hl 1 rfl) ?_
      refine x_get0 M K hB (ho0.k) 12 (by decide) wd_50 (v := .int (σ_23 o0 12)) rfl dX0_become_131 ?_
      obtain ⟨σ_25, e_26, hr⟩ := wbd hr
      refine x_put0 M K hB (hq.k) 12 (by decide) wd_50 dX0_become_134 (fun H locs hB => ?_)
      rw [← e_26] at hB
      exact x_vret M hB (Option.some.inj hr) dX0_become_137
    · rw [if_neg c_3] at hr
      refine lv_aload_n M.1 M.2.1 dX0_become_25 rfl (lv_at hl 0 rfl) ?_
      refine x_get0 M K hB (hq.k) 1 (by decide) wd_52 (v := .ref (Γ.1 (q + 2))) rfl dX0_become_26 ?_
      refine lv_iload_n M.1 M.2.1 dX0_become_29 rfl (lv_at hl 2 rfl) ?_
      obtain ⟨g_27, hr⟩ := gd hr
      refine x_aaldT M K hB (hq.k2) g_27 dX0_become_30 ?_
      refine lv_aload_n M.1 M.2.1 dX0_become_31 rfl (lv_at hl 1 rfl) ?_
      refine x_get0 M K hB (ho0.k) 1 (by decide) wd_52 (v := .ref (Γ.1 (o0 + 2))) rfl dX0_become_32 ?_
      refine lv_iload_n M.1 M.2.1 dX0_become_35 rfl (lv_at hl 2 rfl) ?_
      obtain ⟨g_28, hr⟩ := gd hr
      refine x_aaldT M K hB (ho0.k2) g_28 dX0_become_36 ?_
      obtain ⟨v_29, σ_30, h_31, hr⟩ := cbd hr
      refine x_callV (x_runV M K hB hl.1 [.ref (Γ.1 (o0 + 2 + 3 + 5 * x2.toNatClampNeg))] (rest := []) rfl (c_X3_become l Γ (q + 2 + 3 + 5 * x2.toNatClampNeg) (o0 + 2 + 3 + 5 * x2.toNatClampNeg) (isB.t hq (vp_lt g_27)) (isB.t ho0 (vp_lt g_28)) σ (v_29, σ_30) h_31) cy_X3_become (x_recv K hB ((isB.t hq (vp_lt g_27)).k).2 (ent_3 ((isB.t hq (vp_lt g_27)).k).1) rfl) wd_75 ⟨rfl, rfl, Nat.le_of_ble_eq_true rfl, Nat.le_of_ble_eq_true rfl⟩ (Nat.le_of_ble_eq_true rfl) ⟨Nat.zero_le _, Nat.zero_le _⟩ dX0_become_37) hB (fun H locs hB => ?_)
      replace hB : Bd Γ σ_30 s H locs := hB
      refine lv_iinc (v := x2 + 1) (lv' := [(2, .int (x2 + 1)), (0, .ref (Γ.1 q)), (1, .ref (Γ.1 o0))]) M.1 M.2.1 dX0_become_40 hl (k := 2) rfl rfl (by decide) rfl (fun ls hl => ?_)
      refine lv_goto (tgt := 17) M.1 M.2.1 dX0_become_43 (by decide) ?_
      exact ih_17 (x2 + 1) _ _ _ _  hB (lv_sub hl [1, 2, 0] rfl) hr
def f_X0_become_0 (q : Nat) (o0 : Nat)   (σ : Sg) : Option (Int32 × Sg) :=
wb (sr σ (q + 1) (va_cpy (σ (o0 + 1)) (σ (q + 1)) 0 0 8)) fun σ_1 =>
f_X0_become_17 q o0  FU 0 σ_1
set_option maxHeartbeats 4000000 in
set_option maxRecDepth 100000 in
theorem w_X0_become_0 {p : Program} {l : Launch} {e : Env} {s : State} {m : MethodId} {args : Array Value} {below : List Frame} {meth : Method} {c : Code} {Γ : GG} {res : Int32 × Sg} (M : MX RX0 cX0_become 3 none p s m args meth c) (K : KK Γ s s.heap) {q : Nat} (hq : isB q) {o0 : Nat} (ho0 : isB o0)  (σ : Sg) (H : Heap) (locs : List Loc) (ls : Array Slot)  (hB : Bd Γ σ s H locs) (hl : lv_has ls 3 [(0, .ref (Γ.1 q)), (1, .ref (Γ.1 o0))]) (hr : f_X0_become_0 q o0   σ = some res) : WV Γ rm_X0_become p l e s m args below meth c H locs res (F0 m 0 ls []) := by
  unfold f_X0_become_0 at hr
  refine lv_aload_n M.1 M.2.1 dX0_become_0 rfl (lv_at hl 1 rfl) ?_
  refine x_get0 M K hB (ho0.k) 0 (by decide) wd_54 (v := .ref (Γ.1 (o0 + 1))) rfl dX0_become_1 ?_
  refine lv_iconst (v := 0) M.1 M.2.1 dX0_become_4 (by decide) ?_
  refine lv_aload_n M.1 M.2.1 dX0_become_5 rfl (lv_at hl 0 rfl) ?_
  refine x_get0 M K hB (hq.k) 0 (by decide) wd_54 (v := .ref (Γ.1 (q + 1))) rfl dX0_become_6 ?_
  refine lv_iconst (v := 0) M.1 M.2.1 dX0_become_9 (by decide) ?_
  refine lv_bipush (v := 8) M.1 M.2.1 dX0_become_10 (by decide) ?_
  obtain ⟨σ_1, e_2, hr⟩ := wbd hr
  refine x_copy M K hB hl.1 (ho0.a1) (hq.a1) wd_73 wd_20 wd_21 wd_22 (by decide) (by decide) (by decide) (by decide) (by decide) (Nat.le_of_ble_eq_true rfl) (Nat.le_of_ble_eq_true rfl) dX0_become_12 (fun H locs hB => ?_)
  replace hB : Bd Γ (sr σ (q + 1) (va_cpy (σ (o0 + 1)) (σ (q + 1)) 0 0 8)) s H locs := hB
  rw [← e_2] at hB
  refine lv_iconst (v := 0) M.1 M.2.1 dX0_become_15 (by decide) ?_
  refine lv_istore_n (lv' := [(2, .int 0), (0, .ref (Γ.1 q)), (1, .ref (Γ.1 o0))]) M.1 M.2.1 dX0_become_16 rfl hl (by decide) rfl (fun ls hl => ?_)
  exact w_X0_become_17 M K hq ho0  FU 0 _ _ _ _  hB (lv_sub hl [1, 2, 0] rfl) hr
theorem c_X0_become (l : Launch) (Γ : GG) (q : Nat) (o0 : Nat) (hq : isB q) (ho0 : isB o0) (σ : Sg) (res : Int32 × Sg) (hr : f_X0_become_0 q o0 σ = some res) : Met l yX0_become (Cond.code yX0_become cX0_become 3 none :: gtb) rm_X0_become (va_Pc [.ref (Γ.1 q), .ref (Γ.1 o0)] (GI Γ σ)) (QV Γ res) 0 0 (AD Γ) :=
  x_metV (by decide) [.ref (Γ.1 q), .ref (Γ.1 o0)] (Nat.le_of_ble_eq_true rfl) (fun p e s m args below meth c M K ls hl hB => w_X0_become_0 M K hq ho0 σ _ _ ls hB hl hr)
abbrev rm_X0_removeFaults : Room := { frames := 1, cells := 0, slots := 0, locals := 24 }
def f_X0_removeFaults_12 (q : Nat) (rec_2 : Int32 → Sg → Option (Int32 × Sg)) : Nat → Int32 → Int32 → Sg → Option (Int32 × Sg)
  | 0, _, _, _ => none
  | f + 1, x1, x2, σ => if 2 ≤ x2 then
rec_2 (x1 + 1) σ
else
if x1 < 0 ∨ 6 ≤ x1.toNatClampNeg then none else
cb (f_X3_takeFault_0 (q + 2 + 3 + 5 * x1.toNatClampNeg) x2 0 0 0 σ) fun v_4 σ_5 =>
f_X0_removeFaults_12 q rec_2 f x1 (x2 + 1) σ_5
set_option maxHeartbeats 4000000 in
set_option maxRecDepth 100000 in
theorem w_X0_removeFaults_12 {p : Program} {l : Launch} {e : Env} {s : State} {m : MethodId} {args : Array Value} {below : List Frame} {meth : Method} {c : Code} {Γ : GG} {res : Int32 × Sg} (M : MX RX0 cX0_removeFaults 3 none p s m args meth c) (K : KK Γ s s.heap) {q : Nat} (hq : isB q) (rec_2 : Int32 → Sg → Option (Int32 × Sg)) (ih_2 : ∀ (x1 : Int32) (σ : Sg) (H : Heap) (locs : List Loc) (ls : Array Slot) , Bd Γ σ s H locs → lv_has ls 3 [(0, .ref (Γ.1 q)), (1, .int x1)] → rec_2 x1 σ = some res → WV Γ rm_X0_removeFaults p l e s m args below meth c H locs res (F0 m 2 ls [])) : ∀ (f : Nat) (x1 : Int32) (x2 : Int32) (σ : Sg) (H : Heap) (locs : List Loc) (ls : Array Slot)  (hB : Bd Γ σ s H locs) (hl : lv_has ls 3 [(0, .ref (Γ.1 q)), (1, .int x1), (2, .int x2)]) (hr : f_X0_removeFaults_12 q rec_2 f x1 x2 σ = some res), WV Γ rm_X0_removeFaults p l e s m args below meth c H locs res (F0 m 12 ls []) := by
  intro f
  induction f with
  | zero => intros; rename_i hr; exact absurd hr (by rw [f_X0_removeFaults_12]; exact fun h => by cases h)
  | succ f ih_12 =>
    intro x1 x2 σ H locs ls  hB hl hr
    rw [f_X0_removeFaults_12] at hr
    refine lv_iload_n M.1 M.2.1 dX0_removeFaults_12 rfl (lv_at hl 2 rfl) ?_
    refine lv_iconst (v := 2) M.1 M.2.1 dX0_removeFaults_13 (by decide) ?_
    refine lv_icmp_ge (tgt := 36) M.1 M.2.1 dX0_removeFaults_14 (by decide) (fun c_2 => ?_) (fun c_2 => ?_)
    · rw [if_pos c_2] at hr
      refine lv_iinc (v := x1 + 1) (lv' := [(1, .int (x1 + 1)), (0, .ref (Γ.1 q)), (2, .int x2)]) M.1 M.2.1 dX0_removeFaults_36 hl (k := 1) rfl rfl (by decide) rfl (fun ls hl => ?_)
      refine lv_goto (tgt := 2) M.1 M.2.1 dX0_removeFaults_39 (by decide) ?_
      exact ih_2 (x1 + 1) _ _ _ _  hB (lv_sub hl [1, 0] rfl) hr
    · rw [if_neg c_2] at hr
      refine lv_aload_n M.1 M.2.1 dX0_removeFaults_17 rfl (lv_at hl 0 rfl) ?_
      refine x_get0 M K hB (hq.k) 1 (by decide) wd_52 (v := .ref (Γ.1 (q + 2))) rfl dX0_removeFaults_18 ?_
      refine lv_iload_n M.1 M.2.1 dX0_removeFaults_21 rfl (lv_at hl 1 rfl) ?_
      obtain ⟨g_3, hr⟩ := gd hr
      refine x_aaldT M K hB (hq.k2) g_3 dX0_removeFaults_22 ?_
      refine lv_iload_n M.1 M.2.1 dX0_removeFaults_23 rfl (lv_at hl 2 rfl) ?_
      refine lv_iconst (v := 0) M.1 M.2.1 dX0_removeFaults_24 (by decide) ?_
      refine lv_iconst (v := 0) M.1 M.2.1 dX0_removeFaults_25 (by decide) ?_
      refine lv_iconst (v := 0) M.1 M.2.1 dX0_removeFaults_26 (by decide) ?_
      obtain ⟨v_4, σ_5, h_6, hr⟩ := cbd hr
      refine x_callV (x_runV M K hB hl.1 [.int x2, .int 0, .int 0, .int 0] (rest := []) rfl (c_X3_takeFault l Γ (q + 2 + 3 + 5 * x1.toNatClampNeg) x2 0 0 0 (isB.t hq (vp_lt g_3)) σ (v_4, σ_5) h_6) cy_X3_takeFault (x_recv K hB ((isB.t hq (vp_lt g_3)).k).2 (ent_3 ((isB.t hq (vp_lt g_3)).k).1) rfl) wd_76 ⟨rfl, rfl, Nat.le_of_ble_eq_true rfl, Nat.le_of_ble_eq_true rfl⟩ (Nat.le_of_ble_eq_true rfl) ⟨Nat.zero_le _, Nat.zero_le _⟩ dX0_removeFaults_27) hB (fun H locs hB => ?_)
      replace hB : Bd Γ σ_5 s H locs := hB
      refine lv_iinc (v := x2 + 1) (lv' := [(2, .int (x2 + 1)), (0, .ref (Γ.1 q)), (1, .int x1)]) M.1 M.2.1 dX0_removeFaults_30 hl (k := 2) rfl rfl (by decide) rfl (fun ls hl => ?_)
      refine lv_goto (tgt := 12) M.1 M.2.1 dX0_removeFaults_33 (by decide) ?_
      exact ih_12 x1 (x2 + 1) _ _ _ _  hB (lv_sub hl [1, 2, 0] rfl) hr
def f_X0_removeFaults_2 (q : Nat)  : Nat → Int32 → Sg → Option (Int32 × Sg)
  | 0, _, _ => none
  | f + 1, x1, σ => if σ q 3 ≤ x1 then
some (0, σ)
else
f_X0_removeFaults_12 q (f_X0_removeFaults_2 q  f) FU x1 0 σ
set_option maxHeartbeats 4000000 in
set_option maxRecDepth 100000 in
theorem w_X0_removeFaults_2 {p : Program} {l : Launch} {e : Env} {s : State} {m : MethodId} {args : Array Value} {below : List Frame} {meth : Method} {c : Code} {Γ : GG} {res : Int32 × Sg} (M : MX RX0 cX0_removeFaults 3 none p s m args meth c) (K : KK Γ s s.heap) {q : Nat} (hq : isB q) : ∀ (f : Nat) (x1 : Int32) (σ : Sg) (H : Heap) (locs : List Loc) (ls : Array Slot)  (hB : Bd Γ σ s H locs) (hl : lv_has ls 3 [(0, .ref (Γ.1 q)), (1, .int x1)]) (hr : f_X0_removeFaults_2 q  f x1 σ = some res), WV Γ rm_X0_removeFaults p l e s m args below meth c H locs res (F0 m 2 ls []) := by
  intro f
  induction f with
  | zero => intros; rename_i hr; exact absurd hr (by rw [f_X0_removeFaults_2]; exact fun h => by cases h)
  | succ f ih_2 =>
    intro x1 σ H locs ls  hB hl hr
    rw [f_X0_removeFaults_2] at hr
    refine lv_iload_n M.1 M.2.1 dX0_removeFaults_2 rfl (lv_at hl 1 rfl) ?_
    refine lv_aload_n M.1 M.2.1 dX0_removeFaults_3 rfl (lv_at hl 0 rfl) ?_
    refine x_get0 M K hB (hq.k) 3 (by decide) wd_51 (v := .int (σ q 3)) rfl dX0_removeFaults_4 ?_
    refine lv_icmp_ge (tgt := 42) M.1 M.2.1 dX0_removeFaults_7 (by decide) (fun c_1 => ?_) (fun c_1 => ?_)
    · rw [if_pos c_1] at hr
      exact x_vret M hB (Option.some.inj hr) dX0_removeFaults_42
    · rw [if_neg c_1] at hr
      refine lv_iconst (v := 0) M.1 M.2.1 dX0_removeFaults_10 (by decide) ?_
      refine lv_istore_n (lv' := [(2, .int 0), (0, .ref (Γ.1 q)), (1, .int x1)]) M.1 M.2.1 dX0_removeFaults_11 rfl hl (by decide) rfl (fun ls hl => ?_)
      exact w_X0_removeFaults_12 M K hq _ ih_2 FU x1 0 _ _ _ _  hB (lv_sub hl [1, 2, 0] rfl) hr
def f_X0_removeFaults_0 (q : Nat)   (σ : Sg) : Option (Int32 × Sg) :=
f_X0_removeFaults_2 q  FU 0 σ
set_option maxHeartbeats 4000000 in
set_option maxRecDepth 100000 in
theorem w_X0_removeFaults_0 {p : Program} {l : Launch} {e : Env} {s : State} {m : MethodId} {args : Array Value} {below : List Frame} {meth : Method} {c : Code} {Γ : GG} {res : Int32 × Sg} (M : MX RX0 cX0_removeFaults 3 none p s m args meth c) (K : KK Γ s s.heap) {q : Nat} (hq : isB q)  (σ : Sg) (H : Heap) (locs : List Loc) (ls : Array Slot)  (hB : Bd Γ σ s H locs) (hl : lv_has ls 3 [(0, .ref (Γ.1 q))]) (hr : f_X0_removeFaults_0 q   σ = some res) : WV Γ rm_X0_removeFaults p l e s m args below meth c H locs res (F0 m 0 ls []) := by
  unfold f_X0_removeFaults_0 at hr
  refine lv_iconst (v := 0) M.1 M.2.1 dX0_removeFaults_0 (by decide) ?_
  refine lv_istore_n (lv' := [(1, .int 0), (0, .ref (Γ.1 q))]) M.1 M.2.1 dX0_removeFaults_1 rfl hl (by decide) rfl (fun ls hl => ?_)
  exact w_X0_removeFaults_2 M K hq  FU 0 _ _ _ _  hB (lv_sub hl [1, 0] rfl) hr
theorem c_X0_removeFaults (l : Launch) (Γ : GG) (q : Nat) (hq : isB q) (σ : Sg) (res : Int32 × Sg) (hr : f_X0_removeFaults_0 q σ = some res) : Met l yX0_removeFaults (Cond.code yX0_removeFaults cX0_removeFaults 3 none :: gtb) rm_X0_removeFaults (va_Pc [.ref (Γ.1 q)] (GI Γ σ)) (QV Γ res) 0 0 (AD Γ) :=
  x_metV (by decide) [.ref (Γ.1 q)] (Nat.le_of_ble_eq_true rfl) (fun p e s m args below meth c M K ls hl hB => w_X0_removeFaults_0 M K hq σ _ _ ls hB hl hr)
abbrev rm_X2_append : Room := { frames := 0, cells := 0, slots := 0, locals := 0 }
def f_X2_append_57 (a0 : Int64) (a1 : Int32)   (σ : Sg) : Option (Int32 × Sg) :=
some (0, σ)
set_option maxHeartbeats 4000000 in
set_option maxRecDepth 100000 in
theorem w_X2_append_57 {p : Program} {l : Launch} {e : Env} {s : State} {m : MethodId} {args : Array Value} {below : List Frame} {meth : Method} {c : Code} {Γ : GG} {res : Int32 × Sg} (M : MX RX2 cX2_append 5 none p s m args meth c) (K : KK Γ s s.heap) (a0 : Int64) (a1 : Int32)  (σ : Sg) (H : Heap) (locs : List Loc) (ls : Array Slot)  (hB : Bd Γ σ s H locs) (hl : lv_has ls 5 []) (hr : f_X2_append_57 a0 a1   σ = some res) : WV Γ rm_X2_append p l e s m args below meth c H locs res (F0 m 57 ls []) := by
  unfold f_X2_append_57 at hr
  exact x_vret M hB (Option.some.inj hr) dX2_append_57
def f_X2_append_5 (a0 : Int64) (a1 : Int32)  : Nat → Int64 → Int32 → Sg → Option (Int32 × Sg)
  | 0, _, _, _ => none
  | f + 1, x1, x4, σ => if x4 < 0 then
f_X2_append_57 a0 a1   σ
else
if 60 ≤ σ 143 1 then
f_X2_append_57 a0 a1   σ
else
if σ 143 1 < 0 ∨ 60 ≤ (σ 143 1).toNatClampNeg then none else
wb (st σ 144 ((σ 143 1).toNatClampNeg) (vp_nar .char ((((((x1.toUInt64 >>> ((8 * x4).toInt64.toUInt64 &&& Int64.toUInt64 63)).toInt64) &&& 255).toInt32).toUInt32 % 65536).toInt32))) fun σ_4 =>
wb (st σ_4 143 1 ((σ_4 143 1) + 1)) fun σ_6 =>
f_X2_append_5 a0 a1  f x1 (x4 + (-1)) σ_6
set_option maxHeartbeats 4000000 in
set_option maxRecDepth 100000 in
theorem w_X2_append_5 {p : Program} {l : Launch} {e : Env} {s : State} {m : MethodId} {args : Array Value} {below : List Frame} {meth : Method} {c : Code} {Γ : GG} {res : Int32 × Sg} (M : MX RX2 cX2_append 5 none p s m args meth c) (K : KK Γ s s.heap) (a0 : Int64) (a1 : Int32) : ∀ (f : Nat) (x1 : Int64) (x4 : Int32) (σ : Sg) (H : Heap) (locs : List Loc) (ls : Array Slot)  (hB : Bd Γ σ s H locs) (hl : lv_has ls 5 [(0, .ref (Γ.1 143)), (1, .long x1), (4, .int x4)]) (hr : f_X2_append_5 a0 a1  f x1 x4 σ = some res), WV Γ rm_X2_append p l e s m args below meth c H locs res (F0 m 5 ls []) := by
  intro f
  induction f with
  | zero => intros; rename_i hr; exact absurd hr (by rw [f_X2_append_5]; exact fun h => by cases h)
  | succ f ih_5 =>
    intro x1 x4 σ H locs ls  hB hl hr
    rw [f_X2_append_5] at hr
    refine lv_iload M.1 M.2.1 dX2_append_5 (lv_at hl 2 rfl) ?_
    refine lv_if_lt (tgt := 57) M.1 M.2.1 dX2_append_7 (by decide) (fun c_1 => ?_) (fun c_1 => ?_)
    · rw [if_pos c_1] at hr
      exact w_X2_append_57 M K a0 a1   _ _ _ _  hB (lv_sub hl [] rfl) hr
    · rw [if_neg c_1] at hr
      refine lv_aload_n M.1 M.2.1 dX2_append_10 rfl (lv_at hl 0 rfl) ?_
      refine x_get2 M K hB isK_143 1 (by decide) wd_77 (v := .int (σ 143 1)) rfl dX2_append_11 ?_
      refine lv_bipush (v := 60) M.1 M.2.1 dX2_append_14 (by decide) ?_
      refine lv_icmp_ge (tgt := 57) M.1 M.2.1 dX2_append_16 (by decide) (fun c_2 => ?_) (fun c_2 => ?_)
      · rw [if_pos c_2] at hr
        exact w_X2_append_57 M K a0 a1   _ _ _ _  hB (lv_sub hl [] rfl) hr
      · rw [if_neg c_2] at hr
        refine lv_aload_n M.1 M.2.1 dX2_append_19 rfl (lv_at hl 0 rfl) ?_
        refine x_get2 M K hB isK_143 0 (by decide) wd_78 (v := .ref (Γ.1 144)) rfl dX2_append_20 ?_
        refine lv_aload_n M.1 M.2.1 dX2_append_23 rfl (lv_at hl 0 rfl) ?_
        refine x_get2 M K hB isK_143 1 (by decide) wd_77 (v := .int (σ 143 1)) rfl dX2_append_24 ?_
        refine lv_lload_n M.1 M.2.1 dX2_append_27 rfl (lv_at hl 1 rfl) ?_
        refine lv_bipush (v := 8) M.1 M.2.1 dX2_append_28 (by decide) ?_
        refine lv_iload M.1 M.2.1 dX2_append_30 (lv_at hl 2 rfl) ?_
        refine lv_imul M.1 M.2.1 dX2_append_32 ?_
        refine lv_lushr (v := (x1.toUInt64 >>> ((8 * x4).toInt64.toUInt64 &&& Int64.toUInt64 63)).toInt64) M.1 M.2.1 dX2_append_33 rfl ?_
        refine x_ldc2 (v := 255) M wd_79 dX2_append_34 ?_
        refine lv_land M.1 M.2.1 dX2_append_37 ?_
        refine lv_l2i (v := (((x1.toUInt64 >>> ((8 * x4).toInt64.toUInt64 &&& Int64.toUInt64 63)).toInt64) &&& 255).toInt32) M.1 M.2.1 dX2_append_38 rfl ?_
        refine lv_i2c (v := (((((x1.toUInt64 >>> ((8 * x4).toInt64.toUInt64 &&& Int64.toUInt64 63)).toInt64) &&& 255).toInt32).toUInt32 % 65536).toInt32) M.1 M.2.1 dX2_append_39 rfl ?_
        obtain ⟨g_3, hr⟩ := gd hr
        obtain ⟨σ_4, e_5, hr⟩ := wbd hr
        refine x_cast M K hB isK_144 g_3 dX2_append_40 (fun H locs hB => ?_)
        rw [← e_5] at hB
        refine lv_aload_n M.1 M.2.1 dX2_append_41 rfl (lv_at hl 0 rfl) ?_
        refine lv_dup M.1 M.2.1 dX2_append_42 rfl ?_
        refine x_get2 M K hB isK_143 1 (by decide) wd_77 (v := .int (σ_4 143 1)) rfl dX2_append_43 ?_
        refine lv_iconst (v := 1) M.1 M.2.1 dX2_append_46 (by decide) ?_
        refine lv_iadd M.1 M.2.1 dX2_append_47 ?_
        obtain ⟨σ_6, e_7, hr⟩ := wbd hr
        refine x_put2 M K hB isK_143 1 (by decide) wd_77 dX2_append_48 (fun H locs hB => ?_)
        rw [← e_7] at hB
        refine lv_iinc (v := x4 + (-1)) (lv' := [(4, .int (x4 + (-1))), (0, .ref (Γ.1 143)), (1, .long x1)]) M.1 M.2.1 dX2_append_51 hl (k := 2) rfl rfl (by decide) rfl (fun ls hl => ?_)
        refine lv_goto (tgt := 5) M.1 M.2.1 dX2_append_54 (by decide) ?_
        exact ih_5 x1 (x4 + (-1)) _ _ _ _  hB (lv_sub hl [1, 2, 0] rfl) hr
def f_X2_append_0 (a0 : Int64) (a1 : Int32)   (σ : Sg) : Option (Int32 × Sg) :=
f_X2_append_5 a0 a1  FU a0 (a1 - 1) σ
set_option maxHeartbeats 4000000 in
set_option maxRecDepth 100000 in
theorem w_X2_append_0 {p : Program} {l : Launch} {e : Env} {s : State} {m : MethodId} {args : Array Value} {below : List Frame} {meth : Method} {c : Code} {Γ : GG} {res : Int32 × Sg} (M : MX RX2 cX2_append 5 none p s m args meth c) (K : KK Γ s s.heap) (a0 : Int64) (a1 : Int32)  (σ : Sg) (H : Heap) (locs : List Loc) (ls : Array Slot)  (hB : Bd Γ σ s H locs) (hl : lv_has ls 5 [(0, .ref (Γ.1 143)), (1, .long a0), (3, .int a1)]) (hr : f_X2_append_0 a0 a1   σ = some res) : WV Γ rm_X2_append p l e s m args below meth c H locs res (F0 m 0 ls []) := by
  unfold f_X2_append_0 at hr
  refine lv_iload_n M.1 M.2.1 dX2_append_0 rfl (lv_at hl 2 rfl) ?_
  refine lv_iconst (v := 1) M.1 M.2.1 dX2_append_1 (by decide) ?_
  refine lv_isub M.1 M.2.1 dX2_append_2 ?_
  refine lv_istore (lv' := [(4, .int (a1 - 1)), (0, .ref (Γ.1 143)), (1, .long a0), (3, .int a1)]) M.1 M.2.1 dX2_append_3 hl (by decide) rfl (fun ls hl => ?_)
  exact w_X2_append_5 M K a0 a1  FU a0 (a1 - 1) _ _ _ _  hB (lv_sub hl [1, 2, 0] rfl) hr
theorem c_X2_append (l : Launch) (Γ : GG) (a0 : Int64) (a1 : Int32)  (σ : Sg) (res : Int32 × Sg) (hr : f_X2_append_0 a0 a1 σ = some res) : Met l yX2_append (Cond.code yX2_append cX2_append 5 none :: gtb) rm_X2_append (va_Pc [.ref (Γ.1 143), .long a0, .int a1] (GI Γ σ)) (QV Γ res) 0 0 (AD Γ) :=
  x_metV (by decide) [.ref (Γ.1 143), .long a0, .int a1] (Nat.le_of_ble_eq_true rfl) (fun p e s m args below meth c M K ls hl hB => w_X2_append_0 M K a0 a1 σ _ _ ls hB hl hr)
abbrev rm_X2_sign : Room := { frames := 0, cells := 0, slots := 0, locals := 0 }
def f_X2_sign_40   (s0 : Int32) (σ : Sg) : Option (Int32 × Sg) :=
if (s0.toUInt32 % 65536).toInt32 = s0 then some (s0, σ) else none
set_option maxHeartbeats 4000000 in
set_option maxRecDepth 100000 in
theorem w_X2_sign_40 {p : Program} {l : Launch} {e : Env} {s : State} {m : MethodId} {args : Array Value} {below : List Frame} {meth : Method} {c : Code} {Γ : GG} {res : Int32 × Sg} (M : MX RX2 cX2_sign 1 (some .char) p s m args meth c) (K : KK Γ s s.heap)  (s0 : Int32) (σ : Sg) (H : Heap) (locs : List Loc) (ls : Array Slot)  (hB : Bd Γ σ s H locs) (hl : lv_has ls 1 []) (hr : f_X2_sign_40   s0 σ = some res) : WI Γ rm_X2_sign p l e s m args below meth c H locs res (F0 m 40 ls [.int s0]) := by
  unfold f_X2_sign_40 at hr
  obtain ⟨g_5, hr⟩ := gd2 hr
  exact x_zret M hB (nar_c g_5) (Option.some.inj hr) dX2_sign_40
def f_X2_sign_39    (σ : Sg) : Option (Int32 × Sg) :=
f_X2_sign_40   0 σ
set_option maxHeartbeats 4000000 in
set_option maxRecDepth 100000 in
theorem w_X2_sign_39 {p : Program} {l : Launch} {e : Env} {s : State} {m : MethodId} {args : Array Value} {below : List Frame} {meth : Method} {c : Code} {Γ : GG} {res : Int32 × Sg} (M : MX RX2 cX2_sign 1 (some .char) p s m args meth c) (K : KK Γ s s.heap)   (σ : Sg) (H : Heap) (locs : List Loc) (ls : Array Slot)  (hB : Bd Γ σ s H locs) (hl : lv_has ls 1 []) (hr : f_X2_sign_39    σ = some res) : WI Γ rm_X2_sign p l e s m args below meth c H locs res (F0 m 39 ls []) := by
  unfold f_X2_sign_39 at hr
  refine lv_iconst (v := 0) M.1 M.2.1 dX2_sign_39 (by decide) ?_
  exact w_X2_sign_40 M K   0 _ _ _ _  hB (lv_sub hl [] rfl) hr
def f_X2_sign_0    (σ : Sg) : Option (Int32 × Sg) :=
if σ 143 2 < 0 then
f_X2_sign_39    σ
else
if σ 143 1 ≤ σ 143 2 then
f_X2_sign_39    σ
else
if 60 ≤ σ 143 2 then
f_X2_sign_39    σ
else
if σ 143 2 < 0 ∨ 60 ≤ (σ 143 2).toNatClampNeg then none else
f_X2_sign_40   (σ 144 ((σ 143 2).toNatClampNeg)) σ
set_option maxHeartbeats 4000000 in
set_option maxRecDepth 100000 in
theorem w_X2_sign_0 {p : Program} {l : Launch} {e : Env} {s : State} {m : MethodId} {args : Array Value} {below : List Frame} {meth : Method} {c : Code} {Γ : GG} {res : Int32 × Sg} (M : MX RX2 cX2_sign 1 (some .char) p s m args meth c) (K : KK Γ s s.heap)   (σ : Sg) (H : Heap) (locs : List Loc) (ls : Array Slot)  (hB : Bd Γ σ s H locs) (hl : lv_has ls 1 [(0, .ref (Γ.1 143))]) (hr : f_X2_sign_0    σ = some res) : WI Γ rm_X2_sign p l e s m args below meth c H locs res (F0 m 0 ls []) := by
  unfold f_X2_sign_0 at hr
  refine lv_aload_n M.1 M.2.1 dX2_sign_0 rfl (lv_at hl 0 rfl) ?_
  refine x_get2 M K hB isK_143 2 (by decide) wd_80 (v := .int (σ 143 2)) rfl dX2_sign_1 ?_
  refine lv_if_lt (tgt := 39) M.1 M.2.1 dX2_sign_4 (by decide) (fun c_1 => ?_) (fun c_1 => ?_)
  · rw [if_pos c_1] at hr
    exact w_X2_sign_39 M K    _ _ _ _  hB (lv_sub hl [] rfl) hr
  · rw [if_neg c_1] at hr
    refine lv_aload_n M.1 M.2.1 dX2_sign_7 rfl (lv_at hl 0 rfl) ?_
    refine x_get2 M K hB isK_143 2 (by decide) wd_80 (v := .int (σ 143 2)) rfl dX2_sign_8 ?_
    refine lv_aload_n M.1 M.2.1 dX2_sign_11 rfl (lv_at hl 0 rfl) ?_
    refine x_get2 M K hB isK_143 1 (by decide) wd_77 (v := .int (σ 143 1)) rfl dX2_sign_12 ?_
    refine lv_icmp_ge (tgt := 39) M.1 M.2.1 dX2_sign_15 (by decide) (fun c_2 => ?_) (fun c_2 => ?_)
    · rw [if_pos c_2] at hr
      exact w_X2_sign_39 M K    _ _ _ _  hB (lv_sub hl [] rfl) hr
    · rw [if_neg c_2] at hr
      refine lv_aload_n M.1 M.2.1 dX2_sign_18 rfl (lv_at hl 0 rfl) ?_
      refine x_get2 M K hB isK_143 2 (by decide) wd_80 (v := .int (σ 143 2)) rfl dX2_sign_19 ?_
      refine lv_bipush (v := 60) M.1 M.2.1 dX2_sign_22 (by decide) ?_
      refine lv_icmp_ge (tgt := 39) M.1 M.2.1 dX2_sign_24 (by decide) (fun c_3 => ?_) (fun c_3 => ?_)
      · rw [if_pos c_3] at hr
        exact w_X2_sign_39 M K    _ _ _ _  hB (lv_sub hl [] rfl) hr
      · rw [if_neg c_3] at hr
        refine lv_aload_n M.1 M.2.1 dX2_sign_27 rfl (lv_at hl 0 rfl) ?_
        refine x_get2 M K hB isK_143 0 (by decide) wd_78 (v := .ref (Γ.1 144)) rfl dX2_sign_28 ?_
        refine lv_aload_n M.1 M.2.1 dX2_sign_31 rfl (lv_at hl 0 rfl) ?_
        refine x_get2 M K hB isK_143 2 (by decide) wd_80 (v := .int (σ 143 2)) rfl dX2_sign_32 ?_
        obtain ⟨g_4, hr⟩ := gd hr
        refine x_cald M K hB isK_144 g_4 dX2_sign_35 ?_
        refine lv_goto (tgt := 40) M.1 M.2.1 dX2_sign_36 (by decide) ?_
        exact w_X2_sign_40 M K   (σ 144 ((σ 143 2).toNatClampNeg)) _ _ _ _  hB (lv_sub hl [] rfl) hr
theorem c_X2_sign (l : Launch) (Γ : GG)   (σ : Sg) (res : Int32 × Sg) (hr : f_X2_sign_0  σ = some res) : Met l yX2_sign (Cond.code yX2_sign cX2_sign 1 (some .char) :: gtb) rm_X2_sign (va_Pc [.ref (Γ.1 143)] (GI Γ σ)) (QI Γ res) 0 0 (AD Γ) :=
  x_metI (by decide) [.ref (Γ.1 143)] (Nat.le_of_ble_eq_true rfl) (fun p e s m args below meth c M K ls hl hB => w_X2_sign_0 M K  σ _ _ ls hB hl hr)
abbrev rm_X2_digit : Room := { frames := 1, cells := 0, slots := 0, locals := 20 }
def f_X2_digit_25   (s0 : Int32) (σ : Sg) : Option (Int32 × Sg) :=
some (s0, σ)
set_option maxHeartbeats 4000000 in
set_option maxRecDepth 100000 in
theorem w_X2_digit_25 {p : Program} {l : Launch} {e : Env} {s : State} {m : MethodId} {args : Array Value} {below : List Frame} {meth : Method} {c : Code} {Γ : GG} {res : Int32 × Sg} (M : MX RX2 cX2_digit 2 (some .int) p s m args meth c) (K : KK Γ s s.heap)  (s0 : Int32) (σ : Sg) (H : Heap) (locs : List Loc) (ls : Array Slot)  (hB : Bd Γ σ s H locs) (hl : lv_has ls 2 []) (hr : f_X2_digit_25   s0 σ = some res) : WI Γ rm_X2_digit p l e s m args below meth c H locs res (F0 m 25 ls [.int s0]) := by
  unfold f_X2_digit_25 at hr
  exact x_iret M hB (Option.some.inj hr) dX2_digit_25
def f_X2_digit_24    (σ : Sg) : Option (Int32 × Sg) :=
f_X2_digit_25   (-1) σ
set_option maxHeartbeats 4000000 in
set_option maxRecDepth 100000 in
theorem w_X2_digit_24 {p : Program} {l : Launch} {e : Env} {s : State} {m : MethodId} {args : Array Value} {below : List Frame} {meth : Method} {c : Code} {Γ : GG} {res : Int32 × Sg} (M : MX RX2 cX2_digit 2 (some .int) p s m args meth c) (K : KK Γ s s.heap)   (σ : Sg) (H : Heap) (locs : List Loc) (ls : Array Slot)  (hB : Bd Γ σ s H locs) (hl : lv_has ls 2 []) (hr : f_X2_digit_24    σ = some res) : WI Γ rm_X2_digit p l e s m args below meth c H locs res (F0 m 24 ls []) := by
  unfold f_X2_digit_24 at hr
  refine lv_iconst (v := (-1)) M.1 M.2.1 dX2_digit_24 (by decide) ?_
  exact w_X2_digit_25 M K   (-1) _ _ _ _  hB (lv_sub hl [] rfl) hr
def f_X2_digit_0    (σ : Sg) : Option (Int32 × Sg) :=
cb (f_X2_sign_0  σ) fun v_1 σ_2 =>
if v_1 < 48 then
f_X2_digit_24    σ_2
else
if 57 < v_1 then
f_X2_digit_24    σ_2
else
f_X2_digit_25   (v_1 - 48) σ_2
set_option maxHeartbeats 4000000 in
set_option maxRecDepth 100000 in
theorem w_X2_digit_0 {p : Program} {l : Launch} {e : Env} {s : State} {m : MethodId} {args : Array Value} {below : List Frame} {meth : Method} {c : Code} {Γ : GG} {res : Int32 × Sg} (M : MX RX2 cX2_digit 2 (some .int) p s m args meth c) (K : KK Γ s s.heap)   (σ : Sg) (H : Heap) (locs : List Loc) (ls : Array Slot)  (hB : Bd Γ σ s H locs) (hl : lv_has ls 2 [(0, .ref (Γ.1 143))]) (hr : f_X2_digit_0    σ = some res) : WI Γ rm_X2_digit p l e s m args below meth c H locs res (F0 m 0 ls []) := by
  unfold f_X2_digit_0 at hr
  refine lv_aload_n M.1 M.2.1 dX2_digit_0 rfl (lv_at hl 0 rfl) ?_
  obtain ⟨v_1, σ_2, h_3, hr⟩ := cbd hr
  refine x_callI (x_runV M K hB hl.1 [] (rest := []) rfl (c_X2_sign l Γ   σ (v_1, σ_2) h_3) cy_X2_sign (x_recv K hB isK_143.2 (ent_2 isK_143.1) rfl) wd_81 ⟨rfl, rfl, Nat.le_of_ble_eq_true rfl, Nat.le_of_ble_eq_true rfl⟩ (Nat.le_of_ble_eq_true rfl) ⟨Nat.zero_le _, Nat.zero_le _⟩ dX2_digit_1) hB (fun H locs hB => ?_)
  replace hB : Bd Γ σ_2 s H locs := hB
  refine lv_istore_n (lv' := [(1, .int v_1), (0, .ref (Γ.1 143))]) M.1 M.2.1 dX2_digit_4 rfl hl (by decide) rfl (fun ls hl => ?_)
  refine lv_iload_n M.1 M.2.1 dX2_digit_5 rfl (lv_at hl 0 rfl) ?_
  refine lv_bipush (v := 48) M.1 M.2.1 dX2_digit_6 (by decide) ?_
  refine lv_icmp_lt (tgt := 24) M.1 M.2.1 dX2_digit_8 (by decide) (fun c_4 => ?_) (fun c_4 => ?_)
  · rw [if_pos c_4] at hr
    exact w_X2_digit_24 M K    _ _ _ _  hB (lv_sub hl [] rfl) hr
  · rw [if_neg c_4] at hr
    refine lv_iload_n M.1 M.2.1 dX2_digit_11 rfl (lv_at hl 0 rfl) ?_
    refine lv_bipush (v := 57) M.1 M.2.1 dX2_digit_12 (by decide) ?_
    refine lv_icmp_gt (tgt := 24) M.1 M.2.1 dX2_digit_14 (by decide) (fun c_5 => ?_) (fun c_5 => ?_)
    · rw [if_pos c_5] at hr
      exact w_X2_digit_24 M K    _ _ _ _  hB (lv_sub hl [] rfl) hr
    · rw [if_neg c_5] at hr
      refine lv_iload_n M.1 M.2.1 dX2_digit_17 rfl (lv_at hl 0 rfl) ?_
      refine lv_bipush (v := 48) M.1 M.2.1 dX2_digit_18 (by decide) ?_
      refine lv_isub M.1 M.2.1 dX2_digit_20 ?_
      refine lv_goto (tgt := 25) M.1 M.2.1 dX2_digit_21 (by decide) ?_
      exact w_X2_digit_25 M K   (v_1 - 48) _ _ _ _  hB (lv_sub hl [] rfl) hr
theorem c_X2_digit (l : Launch) (Γ : GG)   (σ : Sg) (res : Int32 × Sg) (hr : f_X2_digit_0  σ = some res) : Met l yX2_digit (Cond.code yX2_digit cX2_digit 2 (some .int) :: gtb) rm_X2_digit (va_Pc [.ref (Γ.1 143)] (GI Γ σ)) (QI Γ res) 0 0 (AD Γ) :=
  x_metI (by decide) [.ref (Γ.1 143)] (Nat.le_of_ble_eq_true rfl) (fun p e s m args below meth c M K ls hl hB => w_X2_digit_0 M K  σ _ _ ls hB hl hr)
