theorem vd_40 : Cond.methodLink RX0 3 Lib.objectInit ∈ gtb := gtb_of (List.mem_append_right _ (List.mem_of_getElem? (i := 21) (by decide +kernel))) (by decide +kernel)
theorem vd_41 : Cond.methodLink RX0 13 ⟨"[I", "clone", "()Ljava/lang/Object;"⟩ ∈ gtb := gtb_of (List.mem_append_right _ (List.mem_of_getElem? (i := 24) (by decide +kernel))) (by decide +kernel)
theorem vd_42 : Cond.classLink RX0 14 "[I" ∈ gtb := gtb_of (List.mem_append_right _ (List.mem_of_getElem? (i := 30) (by decide +kernel))) (by decide +kernel)
theorem vd_43 : Cond.fieldLink RX0 18 RX0 "rules" "[I" ∈ gtb := gtb_of (List.mem_append_right _ (List.mem_of_getElem? (i := 115) (by decide +kernel))) (by decide +kernel)
theorem vd_44 : Cond.classLink RX0 23 RX3 ∈ gtb := gtb_of (List.mem_append_right _ (List.mem_of_getElem? (i := 31) (by decide +kernel))) (by decide +kernel)
theorem vd_45 : Cond.fieldLink RX0 25 RX0 "tasks" "[LWatchdogBoard$Task;" ∈ gtb := gtb_of (List.mem_append_right _ (List.mem_of_getElem? (i := 117) (by decide +kernel))) (by decide +kernel)
theorem vd_46 : Cond.classLink RX0 29 RX1 ∈ gtb := gtb_of (List.mem_append_right _ (List.mem_of_getElem? (i := 33) (by decide +kernel))) (by decide +kernel)
theorem vd_47 : Cond.instantiable RX1 2 ∈ gtb := gtb_of (List.mem_append_right _ (List.mem_of_getElem? (i := 34) (by decide +kernel))) (by decide +kernel)
theorem vd_48 : Cond.initialized RX1 ∈ gtb := gtb_of (List.mem_append_right _ (List.mem_of_getElem? (i := 3) (by decide +kernel))) (by decide +kernel)
theorem vd_49 : Cond.code yX1_init cX1_init 1 none ∈ gtb := gtb_of (List.mem_append_right _ (List.mem_of_getElem? (i := 37) (by decide +kernel))) (by decide +kernel)
theorem vd_50 : Cond.instanceMethod yX1_init ∈ gtb := gtb_of (List.mem_append_right _ (List.mem_of_getElem? (i := 36) (by decide +kernel))) (by decide +kernel)
theorem vd_51 : Cond.fieldLink RX0 32 RX0 "book" "LWatchdogBoard$Book;" ∈ gtb := gtb_of (List.mem_append_right _ (List.mem_of_getElem? (i := 119) (by decide +kernel))) (by decide +kernel)
theorem vd_52 : Cond.fieldLink RX0 36 RX0 "taskCount" "I" ∈ gtb := gtb_of (List.mem_append_right _ (List.mem_of_getElem? (i := 121) (by decide +kernel))) (by decide +kernel)
theorem vd_53 : Cond.fieldLink RX0 40 RX0 "time" "I" ∈ gtb := gtb_of (List.mem_append_right _ (List.mem_of_getElem? (i := 123) (by decide +kernel))) (by decide +kernel)
theorem vd_54 : Cond.fieldLink RX0 43 RX0 "mode" "I" ∈ gtb := gtb_of (List.mem_append_right _ (List.mem_of_getElem? (i := 125) (by decide +kernel))) (by decide +kernel)
theorem vd_55 : Cond.fieldLink RX0 46 RX0 "image" "I" ∈ gtb := gtb_of (List.mem_append_right _ (List.mem_of_getElem? (i := 127) (by decide +kernel))) (by decide +kernel)
theorem vd_56 : Cond.fieldLink RX0 49 RX0 "attempts" "I" ∈ gtb := gtb_of (List.mem_append_right _ (List.mem_of_getElem? (i := 129) (by decide +kernel))) (by decide +kernel)
theorem vd_57 : Cond.fieldLink RX0 52 RX0 "bootLeft" "I" ∈ gtb := gtb_of (List.mem_append_right _ (List.mem_of_getElem? (i := 131) (by decide +kernel))) (by decide +kernel)
theorem vd_58 : Cond.fieldLink RX0 55 RX0 "u" "I" ∈ gtb := gtb_of (List.mem_append_right _ (List.mem_of_getElem? (i := 133) (by decide +kernel))) (by decide +kernel)
theorem vd_59 : Cond.fieldLink RX0 58 RX0 "elapsed" "I" ∈ gtb := gtb_of (List.mem_append_right _ (List.mem_of_getElem? (i := 135) (by decide +kernel))) (by decide +kernel)
theorem vd_60 : Cond.fieldLink RX0 61 RX0 "runs" "I" ∈ gtb := gtb_of (List.mem_append_right _ (List.mem_of_getElem? (i := 137) (by decide +kernel))) (by decide +kernel)
theorem vd_61 : Cond.fieldLink RX0 64 RX0 "expiredRuns" "I" ∈ gtb := gtb_of (List.mem_append_right _ (List.mem_of_getElem? (i := 139) (by decide +kernel))) (by decide +kernel)
theorem vd_62 : Cond.instantiable RX3 16 ∈ gtb := gtb_of (List.mem_append_right _ (List.mem_of_getElem? (i := 48) (by decide +kernel))) (by decide +kernel)
theorem vd_63 : Cond.initialized RX3 ∈ gtb := gtb_of (List.mem_append_right _ (List.mem_of_getElem? (i := 4) (by decide +kernel))) (by decide +kernel)
theorem vd_64 : Cond.code yX3_init cX3_init 1 none ∈ gtb := gtb_of (List.mem_append_right _ (List.mem_of_getElem? (i := 51) (by decide +kernel))) (by decide +kernel)
theorem vd_65 : Cond.instanceMethod yX3_init ∈ gtb := gtb_of (List.mem_append_right _ (List.mem_of_getElem? (i := 50) (by decide +kernel))) (by decide +kernel)
theorem nv_1 : Cond.fieldLinkNest RX0 9 RX4 (sn 2) "[I" RX4 ∈ ntb := by decide +kernel
theorem nv_2 : Cond.methodLinkNest RX0 31 yX1_init RX4 ∈ ntb := by decide +kernel
theorem nv_3 : Cond.methodLinkNest RX0 67 yX3_init RX4 ∈ ntb := by decide +kernel
/-! the constructor of Board -/
def B5 (Γ : GG) (h0 : Nat) (u : Nat × Nat × Nat × Nat) (f : Nat → Option Nat) : va_W := [(h0, .inr (0, [.ref u.1, .ref u.2.1, .ref u.2.2.1, .int 0, .int 0, .int 0, .int 0, .int 0, .int (tb 2 5), .int 0, .int 0, .int 0, .int 0])), (u.1, .inl (gA Γ 0, 8, .inl (tb 2))), (u.2.1, .inl (gA Γ 4, 6, .inr (.inr (.inr (.inr (f)))))), (u.2.2.1, .inr (1, [.ref u.2.2.2, .int 0])), (u.2.2.2, .inl (gA Γ 0, 80, .inl (fun _ => 0)))]
abbrev TU := Nat → Nat × Nat × Nat × Nat × Nat
def TT (Γ : GG) (i : Nat) (tt : TU) : va_W := (List.range i).flatMap (fun j => sg_X3_init Γ (tt j).1 (tt j).2)
def tf (i : Nat) (tt : TU) : Nat → Option Nat := fun k => if k < i then some (tt k).1 else none
def tad (i : Nat) (tt : TU) (q : Nat) (u : Nat × Nat × Nat × Nat) : TU := fun j => if j = i then (q, u) else tt j
theorem TT_ad (Γ : GG) (i : Nat) (tt : TU) (q : Nat) (u : Nat × Nat × Nat × Nat) : TT Γ (i + 1) (tad i tt q u) = TT Γ i tt ++ sg_X3_init Γ q u := by
  unfold TT
  rw [List.range_succ, List.flatMap_append]
  congr 1
  · rw [List.flatMap_def, List.flatMap_def]
    congr 1
    apply List.map_congr_left
    intro j hj
    have hji : ¬ j = i := by have := List.mem_range.mp hj; omega
    simp only [tad, hji, if_false]
  · simp [tad]
theorem tf_ad (i : Nat) (tt : TU) (q : Nat) (u : Nat × Nat × Nat × Nat) : va_up (tf i tt) i (some q) = tf (i + 1) (tad i tt q u) := by
  funext k
  simp only [va_up, tf, tad]
  by_cases h : k = i
  · subst h; rw [if_pos rfl, if_pos (by omega), if_pos rfl]
  · rw [if_neg h, if_neg h]
    by_cases h2 : k < i
    · rw [if_pos h2, if_pos (by omega)]
    · rw [if_neg h2, if_neg (by omega)]
def sg_X0_init (Γ : GG) (h0 : Nat) (u : (Nat × Nat × Nat × Nat) × TU) : va_W := B5 Γ h0 u.1 (tf 6 u.2) ++ TT Γ 6 u.2
set_option maxHeartbeats 4000000 in
set_option maxRecDepth 100000 in
theorem lp_X0_init {l : Launch} {Γ : GG} {base : Nat} {ws : va_W} {h0 : Nat} {p : Program} {e : Env} {s : State} {m : MethodId} {args : Array Value} {below : List Frame} {meth : Method} {c : Code} {R : Room} (hR : R = { frames := 3, cells := 34, slots := 276, locals := 64 }) (M : MX RX0 cX0_init 2 none p s m args meth c) (hin : meth.name = "<init>") (K : KN Γ base s s.heap) (hb0 : base ≤ s.heap.size) (u : Nat × Nat × Nat × Nat) : ∀ (d i : Nat) (tt : TU) (H : Heap) (locs : List Loc) (ls : Array Slot), i + d = 6 → Nb Γ base (ws ++ (B5 Γ h0 u (tf i tt) ++ TT Γ i tt)) s H locs → lv_has ls 2 [(1, .int (nI i)), (0, .ref h0)] → W p l e R s m args below meth c H locs (4 + 5 * i) (96 + 30 * i) (MQ below (QN Γ base ws (sg_X0_init Γ h0)) args s 34 276 (Ab base)) (F0 m 93 ls [])
  | 0, i, tt, H, locs, ls, h, hB, hl => by
    obtain rfl : i = 6 := by omega
    refine lv_iload_n M.1 M.2.1 dX0_init_93 rfl (lv_at hl 0 rfl) ?_
    refine lv_bipush (v := 6) M.1 M.2.1 dX0_init_94 (by decide) ?_
    refine lv_icmp_ge (tgt := 118) M.1 M.2.1 dX0_init_96 (by decide) (fun _ => ?_) (fun h => ?_)
    · exact n_vret (seg := sg_X0_init Γ h0) (u, tt) M hB dX0_init_118
    · exact absurd (show (6 : Int32) ≤ nI 6 by decide) h
  | d + 1, i, tt, H, locs, ls, h, hB, hl => by
    have hi : i < 6 := by omega
    have hcl : (nI i).toNatClampNeg = i := nI_clamp (by omega)
    refine lv_iload_n M.1 M.2.1 dX0_init_93 rfl (lv_at hl 0 rfl) ?_
    refine lv_bipush (v := 6) M.1 M.2.1 dX0_init_94 (by decide) ?_
    refine lv_icmp_ge (tgt := 118) M.1 M.2.1 dX0_init_96 (by decide) (fun h => ?_) (fun _ => ?_)
    · exact absurd h (by rw [show (6 : Int32) = nI 6 from rfl]; exact nI_ge hi (by decide))
    refine lv_aload_n M.1 M.2.1 dX0_init_99 rfl (lv_at hl 1 rfl) ?_
    refine n_get (ci := 0) (C := RX0) (T := TX0) (N := 13) (v := .ref u.2.1) M K hB in_X0 0 rfl rfl 1 (by decide) rfl vd_45 rfl dX0_init_100 ?_
    refine lv_iload_n M.1 M.2.1 dX0_init_103 rfl (lv_at hl 0 rfl) ?_
    refine n_new (ci := 3) (C := RX3) (T := TX3) (N := 16) (fs := [.null, .null, .null, .null, .int 0, .int 0, .int 0, .int 0, .int 0, .int 0, .int 0, .int 0, .int 0, .int 0, .int 0, .int 0]) M K hb0 hB in_X3 tyX3 tyX3_ok vd_44 vd_62 vd_63 rfl (by decide) (by subst hR; show 4 + 5 * i + 1 ≤ 34; omega) (by subst hR; show 96 + 30 * i + 16 ≤ 276; omega) dX0_init_104 (fun q H hB => ?_)
    refine lv_dup M.1 M.2.1 dX0_init_107 rfl ?_
    have hB : Nb Γ base ((ws ++ (B5 Γ h0 u (tf i tt) ++ TT Γ i tt)) ++ [(q, .inr (3, [.null, .null, .null, .null, .int 0, .int 0, .int 0, .int 0, .int 0, .int 0, .int 0, .int 0, .int 0, .int 0, .int 0, .int 0]))]) s H locs := by rw [List.append_assoc]; exact hB
    refine n_callI (y := yX3_init) (index := 67) (ci := 3) (h0 := q) M K hb0 hB hl.1 (c_X3_init l Γ base _ q) vd_64 vd_65 vd_63 rfl ⟨by decide, by decide, by decide +kernel⟩ (Or.inr ⟨_, nv_3⟩) rfl rfl ⟨by subst hR; exact Nat.le_of_ble_eq_true rfl, by subst hR; exact Nat.le_of_ble_eq_true rfl⟩ (Nat.le_of_ble_eq_true rfl) ⟨by subst hR; show 4 + 5 * i + 1 + 4 ≤ 34; omega, by subst hR; show 96 + 30 * i + 16 + 14 ≤ 276; omega⟩ dX0_init_108 (fun u108 H locs hB => ?_)
    have hB : Nb Γ base (ws ++ ((B5 Γ h0 u (tf i tt) ++ TT Γ i tt) ++ sg_X3_init Γ q u108)) s H locs := by rw [← List.append_assoc]; exact hB
    refine n_astq (i := 2) (qk := (B5 Γ h0 u (tf i tt) ++ TT Γ i tt).length + 0) (n := 6) (t0 := 4) (ci := 3) (f := tf i tt) (r := (RX3, TX3, 16)) M K hB rfl rfl (ap_at rfl) rfl (vp_in_nI hi (by decide)) dX0_init_111 (fun H locs hB => ?_)
    rw [hcl] at hB
    have hB : Nb Γ base (ws ++ (B5 Γ h0 u (va_up (tf i tt) i (some q)) ++ (TT Γ i tt ++ sg_X3_init Γ q u108))) s H locs := hB
    rw [tf_ad i tt q u108, ← TT_ad] at hB
    refine lv_iinc (v := nI i + 1) (lv' := [(1, .int (nI i + 1)), (0, .ref h0)]) M.1 M.2.1 dX0_init_112 hl (k := 0) rfl rfl (by decide) rfl (fun ls hl => ?_)
    refine lv_goto (tgt := 93) M.1 M.2.1 dX0_init_115 (by decide) ?_
    rw [nI_1] at hl
    rw [show 4 + 5 * i + 1 + 4 = 4 + 5 * (i + 1) by omega, show 96 + 30 * i + 16 + 14 = 96 + 30 * (i + 1) by omega]
    exact lp_X0_init hR M hin K hb0 u d (i + 1) (tad i tt q u108) H locs ls (by omega) hB hl
set_option maxHeartbeats 4000000 in
set_option maxRecDepth 100000 in
theorem c_X0_init (l : Launch) (Γ : GG) (base : Nat) (ws : va_W) (h0 : Nat) : Met l yX0_init (Cond.code yX0_init cX0_init 2 none :: gtb) { frames := 3, cells := 34, slots := 276, locals := 64 } (va_Pc [.ref h0] (NC Γ base ws h0 0 [.null, .null, .null, .int 0, .int 0, .int 0, .int 0, .int 0, .int 0, .int 0, .int 0, .int 0, .int 0])) (QN Γ base ws (sg_X0_init Γ h0)) 34 276 (Ab base) := by
  refine n_met (by decide) rfl (Nat.le_of_ble_eq_true rfl) ?_
  intro p e s m args below meth c M hin K hb0 ls hl hB
  refine lv_aload_n M.1 M.2.1 dX0_init_0 rfl (lv_at hl 0 rfl) ?_
  refine n_obj M hl.1 vd_40 vd_1 vd_2 dX0_init_1 (Nat.le_of_ble_eq_true rfl) (Nat.le_of_ble_eq_true rfl) ?_
  refine lv_aload_n M.1 M.2.1 dX0_init_4 rfl (lv_at hl 0 rfl) ?_
  refine n_gets (k := 2) (by decide) M K hB nv_1 dX0_init_5 ?_
  refine n_clone (k := 2) (by decide) M hl.1 K hb0 hB vd_41 vd_4 vd_5 vd_6 vd_7 (Nat.le_of_ble_eq_true rfl) (Nat.le_of_ble_eq_true rfl) (Nat.le_of_ble_eq_true rfl) (Nat.le_of_ble_eq_true rfl) dX0_init_8 (fun q8 H hB => ?_)
  have hB : Nb Γ base (ws ++ [(h0, .inr (0, [.null, .null, .null, .int 0, .int 0, .int 0, .int 0, .int 0, .int 0, .int 0, .int 0, .int 0, .int 0])), (q8, .inl (gA Γ 0, 8, .inl (tb 2)))]) s _ _ := hB
  refine n_cast (i := 1) M K hB rfl vd_42 dX0_init_11 ?_
  refine n_put (ci := 0) (C := RX0) (T := TX0) (N := 13) (v := .ref q8) M K hB in_X0 tyX0 tyX0_ok nmX0 0 rfl rfl 0 (by decide) rfl (Or.inr ⟨rfl, hin, rfl⟩) vd_43 rfl rfl (Nat.le_of_ble_eq_true rfl) dX0_init_14 (fun H locs hB => ?_)
  have hB : Nb Γ base (ws ++ [(h0, .inr (0, [.ref q8, .null, .null, .int 0, .int 0, .int 0, .int 0, .int 0, .int 0, .int 0, .int 0, .int 0, .int 0])), (q8, .inl (gA Γ 0, 8, .inl (tb 2)))]) s _ _ := hB
  refine lv_aload_n M.1 M.2.1 dX0_init_17 rfl (lv_at hl 0 rfl) ?_
  refine lv_bipush (v := 6) M.1 M.2.1 dX0_init_18 (by decide) ?_
  refine n_newq (C := RX3) 4 M K hb0 hB vd_44 K.2.2.1.2.2 rfl (N' := 6) (by decide) (by decide) (by decide) (Nat.le_of_ble_eq_true rfl) (Nat.le_of_ble_eq_true rfl) dX0_init_20 (fun q20 H hB => ?_)
  have hB : Nb Γ base (ws ++ [(h0, .inr (0, [.ref q8, .null, .null, .int 0, .int 0, .int 0, .int 0, .int 0, .int 0, .int 0, .int 0, .int 0, .int 0])), (q8, .inl (gA Γ 0, 8, .inl (tb 2))), (q20, .inl (gA Γ 4, 6, .inr (.inr (.inr (.inr (fun _ => none))))))]) s _ _ := hB
  refine n_put (ci := 0) (C := RX0) (T := TX0) (N := 13) (v := .ref q20) M K hB in_X0 tyX0 tyX0_ok nmX0 0 rfl rfl 1 (by decide) rfl (Or.inr ⟨rfl, hin, rfl⟩) vd_45 rfl rfl (Nat.le_of_ble_eq_true rfl) dX0_init_23 (fun H locs hB => ?_)
  have hB : Nb Γ base (ws ++ [(h0, .inr (0, [.ref q8, .ref q20, .null, .int 0, .int 0, .int 0, .int 0, .int 0, .int 0, .int 0, .int 0, .int 0, .int 0])), (q8, .inl (gA Γ 0, 8, .inl (tb 2))), (q20, .inl (gA Γ 4, 6, .inr (.inr (.inr (.inr (fun _ => none))))))]) s _ _ := hB
  refine lv_aload_n M.1 M.2.1 dX0_init_26 rfl (lv_at hl 0 rfl) ?_
  refine n_new (ci := 1) (C := RX1) (T := TX1) (N := 2) (fs := [.null, .int 0]) M K hb0 hB in_X1 tyX1 tyX1_ok vd_46 vd_47 vd_48 rfl (by decide) (Nat.le_of_ble_eq_true rfl) (Nat.le_of_ble_eq_true rfl) dX0_init_27 (fun q27 H hB => ?_)
  refine lv_dup M.1 M.2.1 dX0_init_30 rfl ?_
  have hB : Nb Γ base ((ws ++ [(h0, .inr (0, [.ref q8, .ref q20, .null, .int 0, .int 0, .int 0, .int 0, .int 0, .int 0, .int 0, .int 0, .int 0, .int 0])), (q8, .inl (gA Γ 0, 8, .inl (tb 2))), (q20, .inl (gA Γ 4, 6, .inr (.inr (.inr (.inr (fun _ => none))))))]) ++ [(q27, .inr (1, [.null, .int 0]))]) s H locs := by rw [List.append_assoc]; exact hB
  refine n_callI (y := yX1_init) (index := 31) (ci := 1) (h0 := q27) M K hb0 hB hl.1 (c_X1_init l Γ base _ q27) vd_49 vd_50 vd_48 rfl ⟨by decide, by decide, by decide +kernel⟩ (Or.inr ⟨_, nv_2⟩) rfl rfl ⟨(Nat.le_of_ble_eq_true rfl), (Nat.le_of_ble_eq_true rfl)⟩ (Nat.le_of_ble_eq_true rfl) ⟨(Nat.le_of_ble_eq_true rfl), (Nat.le_of_ble_eq_true rfl)⟩ dX0_init_31 (fun u31 H locs hB => ?_)
  have hB : Nb Γ base (ws ++ [(h0, .inr (0, [.ref q8, .ref q20, .null, .int 0, .int 0, .int 0, .int 0, .int 0, .int 0, .int 0, .int 0, .int 0, .int 0])), (q8, .inl (gA Γ 0, 8, .inl (tb 2))), (q20, .inl (gA Γ 4, 6, .inr (.inr (.inr (.inr (fun _ => none)))))), (q27, .inr (1, [.ref u31, .int 0])), (u31, .inl (gA Γ 0, 80, .inl (fun _ => 0)))]) s H locs := by rw [List.append_assoc] at hB; exact hB
  refine n_put (ci := 0) (C := RX0) (T := TX0) (N := 13) (v := .ref q27) M K hB in_X0 tyX0 tyX0_ok nmX0 0 rfl rfl 2 (by decide) rfl (Or.inr ⟨rfl, hin, rfl⟩) vd_51 rfl rfl (Nat.le_of_ble_eq_true rfl) dX0_init_34 (fun H locs hB => ?_)
  have hB : Nb Γ base (ws ++ [(h0, .inr (0, [.ref q8, .ref q20, .ref q27, .int 0, .int 0, .int 0, .int 0, .int 0, .int 0, .int 0, .int 0, .int 0, .int 0])), (q8, .inl (gA Γ 0, 8, .inl (tb 2))), (q20, .inl (gA Γ 4, 6, .inr (.inr (.inr (.inr (fun _ => none)))))), (q27, .inr (1, [.ref u31, .int 0])), (u31, .inl (gA Γ 0, 80, .inl (fun _ => 0)))]) s _ _ := hB
  refine lv_aload_n M.1 M.2.1 dX0_init_37 rfl (lv_at hl 0 rfl) ?_
  refine lv_iconst (v := 0) M.1 M.2.1 dX0_init_38 (by decide) ?_
  refine n_put (ci := 0) (C := RX0) (T := TX0) (N := 13) (v := .int 0) M K hB in_X0 tyX0 tyX0_ok nmX0 0 rfl rfl 3 (by decide) rfl (Or.inl rfl) vd_52 rfl rfl (Nat.le_of_ble_eq_true rfl) dX0_init_39 (fun H locs hB => ?_)
  have hB : Nb Γ base (ws ++ [(h0, .inr (0, [.ref q8, .ref q20, .ref q27, .int 0, .int 0, .int 0, .int 0, .int 0, .int 0, .int 0, .int 0, .int 0, .int 0])), (q8, .inl (gA Γ 0, 8, .inl (tb 2))), (q20, .inl (gA Γ 4, 6, .inr (.inr (.inr (.inr (fun _ => none)))))), (q27, .inr (1, [.ref u31, .int 0])), (u31, .inl (gA Γ 0, 80, .inl (fun _ => 0)))]) s _ _ := hB
  refine lv_aload_n M.1 M.2.1 dX0_init_42 rfl (lv_at hl 0 rfl) ?_
  refine lv_iconst (v := 0) M.1 M.2.1 dX0_init_43 (by decide) ?_
  refine n_put (ci := 0) (C := RX0) (T := TX0) (N := 13) (v := .int 0) M K hB in_X0 tyX0 tyX0_ok nmX0 0 rfl rfl 4 (by decide) rfl (Or.inl rfl) vd_53 rfl rfl (Nat.le_of_ble_eq_true rfl) dX0_init_44 (fun H locs hB => ?_)
  have hB : Nb Γ base (ws ++ [(h0, .inr (0, [.ref q8, .ref q20, .ref q27, .int 0, .int 0, .int 0, .int 0, .int 0, .int 0, .int 0, .int 0, .int 0, .int 0])), (q8, .inl (gA Γ 0, 8, .inl (tb 2))), (q20, .inl (gA Γ 4, 6, .inr (.inr (.inr (.inr (fun _ => none)))))), (q27, .inr (1, [.ref u31, .int 0])), (u31, .inl (gA Γ 0, 80, .inl (fun _ => 0)))]) s _ _ := hB
  refine lv_aload_n M.1 M.2.1 dX0_init_47 rfl (lv_at hl 0 rfl) ?_
  refine lv_iconst (v := 0) M.1 M.2.1 dX0_init_48 (by decide) ?_
  refine n_put (ci := 0) (C := RX0) (T := TX0) (N := 13) (v := .int 0) M K hB in_X0 tyX0 tyX0_ok nmX0 0 rfl rfl 5 (by decide) rfl (Or.inl rfl) vd_54 rfl rfl (Nat.le_of_ble_eq_true rfl) dX0_init_49 (fun H locs hB => ?_)
  have hB : Nb Γ base (ws ++ [(h0, .inr (0, [.ref q8, .ref q20, .ref q27, .int 0, .int 0, .int 0, .int 0, .int 0, .int 0, .int 0, .int 0, .int 0, .int 0])), (q8, .inl (gA Γ 0, 8, .inl (tb 2))), (q20, .inl (gA Γ 4, 6, .inr (.inr (.inr (.inr (fun _ => none)))))), (q27, .inr (1, [.ref u31, .int 0])), (u31, .inl (gA Γ 0, 80, .inl (fun _ => 0)))]) s _ _ := hB
  refine lv_aload_n M.1 M.2.1 dX0_init_52 rfl (lv_at hl 0 rfl) ?_
  refine lv_iconst (v := 0) M.1 M.2.1 dX0_init_53 (by decide) ?_
  refine n_put (ci := 0) (C := RX0) (T := TX0) (N := 13) (v := .int 0) M K hB in_X0 tyX0 tyX0_ok nmX0 0 rfl rfl 6 (by decide) rfl (Or.inl rfl) vd_55 rfl rfl (Nat.le_of_ble_eq_true rfl) dX0_init_54 (fun H locs hB => ?_)
  have hB : Nb Γ base (ws ++ [(h0, .inr (0, [.ref q8, .ref q20, .ref q27, .int 0, .int 0, .int 0, .int 0, .int 0, .int 0, .int 0, .int 0, .int 0, .int 0])), (q8, .inl (gA Γ 0, 8, .inl (tb 2))), (q20, .inl (gA Γ 4, 6, .inr (.inr (.inr (.inr (fun _ => none)))))), (q27, .inr (1, [.ref u31, .int 0])), (u31, .inl (gA Γ 0, 80, .inl (fun _ => 0)))]) s _ _ := hB
  refine lv_aload_n M.1 M.2.1 dX0_init_57 rfl (lv_at hl 0 rfl) ?_
  refine lv_iconst (v := 0) M.1 M.2.1 dX0_init_58 (by decide) ?_
  refine n_put (ci := 0) (C := RX0) (T := TX0) (N := 13) (v := .int 0) M K hB in_X0 tyX0 tyX0_ok nmX0 0 rfl rfl 7 (by decide) rfl (Or.inl rfl) vd_56 rfl rfl (Nat.le_of_ble_eq_true rfl) dX0_init_59 (fun H locs hB => ?_)
  have hB : Nb Γ base (ws ++ [(h0, .inr (0, [.ref q8, .ref q20, .ref q27, .int 0, .int 0, .int 0, .int 0, .int 0, .int 0, .int 0, .int 0, .int 0, .int 0])), (q8, .inl (gA Γ 0, 8, .inl (tb 2))), (q20, .inl (gA Γ 4, 6, .inr (.inr (.inr (.inr (fun _ => none)))))), (q27, .inr (1, [.ref u31, .int 0])), (u31, .inl (gA Γ 0, 80, .inl (fun _ => 0)))]) s _ _ := hB
  refine lv_aload_n M.1 M.2.1 dX0_init_62 rfl (lv_at hl 0 rfl) ?_
  refine n_gets (k := 2) (by decide) M K hB nv_1 dX0_init_63 ?_
  refine lv_iconst (v := 5) M.1 M.2.1 dX0_init_66 (by decide) ?_
  refine n_ti (k := 2) (by decide) M K hB (i := 5) (by unfold vp_in; decide) dX0_init_67 ?_
  refine n_put (ci := 0) (C := RX0) (T := TX0) (N := 13) (v := .int (tb 2 5)) M K hB in_X0 tyX0 tyX0_ok nmX0 0 rfl rfl 8 (by decide) rfl (Or.inl rfl) vd_57 rfl rfl (Nat.le_of_ble_eq_true rfl) dX0_init_68 (fun H locs hB => ?_)
  have hB : Nb Γ base (ws ++ [(h0, .inr (0, [.ref q8, .ref q20, .ref q27, .int 0, .int 0, .int 0, .int 0, .int 0, .int (tb 2 5), .int 0, .int 0, .int 0, .int 0])), (q8, .inl (gA Γ 0, 8, .inl (tb 2))), (q20, .inl (gA Γ 4, 6, .inr (.inr (.inr (.inr (fun _ => none)))))), (q27, .inr (1, [.ref u31, .int 0])), (u31, .inl (gA Γ 0, 80, .inl (fun _ => 0)))]) s _ _ := hB
  refine lv_aload_n M.1 M.2.1 dX0_init_71 rfl (lv_at hl 0 rfl) ?_
  refine lv_iconst (v := 0) M.1 M.2.1 dX0_init_72 (by decide) ?_
  refine n_put (ci := 0) (C := RX0) (T := TX0) (N := 13) (v := .int 0) M K hB in_X0 tyX0 tyX0_ok nmX0 0 rfl rfl 9 (by decide) rfl (Or.inl rfl) vd_58 rfl rfl (Nat.le_of_ble_eq_true rfl) dX0_init_73 (fun H locs hB => ?_)
  have hB : Nb Γ base (ws ++ [(h0, .inr (0, [.ref q8, .ref q20, .ref q27, .int 0, .int 0, .int 0, .int 0, .int 0, .int (tb 2 5), .int 0, .int 0, .int 0, .int 0])), (q8, .inl (gA Γ 0, 8, .inl (tb 2))), (q20, .inl (gA Γ 4, 6, .inr (.inr (.inr (.inr (fun _ => none)))))), (q27, .inr (1, [.ref u31, .int 0])), (u31, .inl (gA Γ 0, 80, .inl (fun _ => 0)))]) s _ _ := hB
  refine lv_aload_n M.1 M.2.1 dX0_init_76 rfl (lv_at hl 0 rfl) ?_
  refine lv_iconst (v := 0) M.1 M.2.1 dX0_init_77 (by decide) ?_
  refine n_put (ci := 0) (C := RX0) (T := TX0) (N := 13) (v := .int 0) M K hB in_X0 tyX0 tyX0_ok nmX0 0 rfl rfl 10 (by decide) rfl (Or.inl rfl) vd_59 rfl rfl (Nat.le_of_ble_eq_true rfl) dX0_init_78 (fun H locs hB => ?_)
  have hB : Nb Γ base (ws ++ [(h0, .inr (0, [.ref q8, .ref q20, .ref q27, .int 0, .int 0, .int 0, .int 0, .int 0, .int (tb 2 5), .int 0, .int 0, .int 0, .int 0])), (q8, .inl (gA Γ 0, 8, .inl (tb 2))), (q20, .inl (gA Γ 4, 6, .inr (.inr (.inr (.inr (fun _ => none)))))), (q27, .inr (1, [.ref u31, .int 0])), (u31, .inl (gA Γ 0, 80, .inl (fun _ => 0)))]) s _ _ := hB
  refine lv_aload_n M.1 M.2.1 dX0_init_81 rfl (lv_at hl 0 rfl) ?_
  refine lv_iconst (v := 0) M.1 M.2.1 dX0_init_82 (by decide) ?_
  refine n_put (ci := 0) (C := RX0) (T := TX0) (N := 13) (v := .int 0) M K hB in_X0 tyX0 tyX0_ok nmX0 0 rfl rfl 11 (by decide) rfl (Or.inl rfl) vd_60 rfl rfl (Nat.le_of_ble_eq_true rfl) dX0_init_83 (fun H locs hB => ?_)
  have hB : Nb Γ base (ws ++ [(h0, .inr (0, [.ref q8, .ref q20, .ref q27, .int 0, .int 0, .int 0, .int 0, .int 0, .int (tb 2 5), .int 0, .int 0, .int 0, .int 0])), (q8, .inl (gA Γ 0, 8, .inl (tb 2))), (q20, .inl (gA Γ 4, 6, .inr (.inr (.inr (.inr (fun _ => none)))))), (q27, .inr (1, [.ref u31, .int 0])), (u31, .inl (gA Γ 0, 80, .inl (fun _ => 0)))]) s _ _ := hB
  refine lv_aload_n M.1 M.2.1 dX0_init_86 rfl (lv_at hl 0 rfl) ?_
  refine lv_iconst (v := 0) M.1 M.2.1 dX0_init_87 (by decide) ?_
  refine n_put (ci := 0) (C := RX0) (T := TX0) (N := 13) (v := .int 0) M K hB in_X0 tyX0 tyX0_ok nmX0 0 rfl rfl 12 (by decide) rfl (Or.inl rfl) vd_61 rfl rfl (Nat.le_of_ble_eq_true rfl) dX0_init_88 (fun H locs hB => ?_)
  have hB : Nb Γ base (ws ++ [(h0, .inr (0, [.ref q8, .ref q20, .ref q27, .int 0, .int 0, .int 0, .int 0, .int 0, .int (tb 2 5), .int 0, .int 0, .int 0, .int 0])), (q8, .inl (gA Γ 0, 8, .inl (tb 2))), (q20, .inl (gA Γ 4, 6, .inr (.inr (.inr (.inr (fun _ => none)))))), (q27, .inr (1, [.ref u31, .int 0])), (u31, .inl (gA Γ 0, 80, .inl (fun _ => 0)))]) s _ _ := hB
  refine lv_iconst (v := 0) M.1 M.2.1 dX0_init_91 (by decide) ?_
  refine lv_istore_n (lv' := [(1, .int 0), (0, .ref h0)]) M.1 M.2.1 dX0_init_92 rfl hl (by decide) rfl (fun ls hl => ?_)
  have hB : Nb Γ base (ws ++ (B5 Γ h0 (q8, q20, q27, u31) (tf 0 (fun _ => (0, 0, 0, 0, 0))) ++ TT Γ 0 (fun _ => (0, 0, 0, 0, 0)))) s _ _ := hB
  exact lp_X0_init rfl M hin K hb0 (q8, q20, q27, u31) 6 0 _ _ _ ls rfl hB hl
