/-! the law: its loop, its entry, the claim -/
theorem le_0 : Cond.classLink R_law 7 RX4 ∈ gtb := gtb_of (List.mem_append_right _ (List.mem_of_getElem? (i := 14) (by decide +kernel))) (by decide +kernel)
theorem le_1 : Cond.instantiable RX4 5 ∈ gtb := gtb_of (List.mem_append_right _ (List.mem_of_getElem? (i := 15) (by decide +kernel))) (by decide +kernel)
theorem le_2 : Cond.initialized RX4 ∈ gtb := gtb_of (List.mem_append_right _ (List.mem_of_getElem? (i := 1) (by decide +kernel))) (by decide +kernel)
theorem le_3 : Cond.code yX4_init cX4_init 2 none ∈ gtb := gtb_of (List.mem_append_right _ (List.mem_of_getElem? (i := 18) (by decide +kernel))) (by decide +kernel)
theorem le_4 : Cond.instanceMethod yX4_init ∈ gtb := gtb_of (List.mem_append_right _ (List.mem_of_getElem? (i := 17) (by decide +kernel))) (by decide +kernel)
theorem le_5 : Cond.methodLink R_law 9 yX4_init ∈ gtb := gtb_of (List.mem_append_right _ (List.mem_of_getElem? (i := 16) (by decide +kernel))) (by decide +kernel)
theorem le_6 : Cond.classLink R_law 10 RX5 ∈ gtb := gtb_of (List.mem_append_right _ (List.mem_of_getElem? (i := 599) (by decide +kernel))) (by decide +kernel)
theorem le_7 : Cond.instantiable RX5 10 ∈ gtb := gtb_of (List.mem_append_right _ (List.mem_of_getElem? (i := 600) (by decide +kernel))) (by decide +kernel)
theorem le_8 : Cond.initialized RX5 ∈ gtb := gtb_of (List.mem_append_right _ (List.mem_of_getElem? (i := 6) (by decide +kernel))) (by decide +kernel)
theorem le_9 : Cond.code yX5_init cX5_init 1 none ∈ gtb := gtb_of (List.mem_append_right _ (List.mem_of_getElem? (i := 603) (by decide +kernel))) (by decide +kernel)
theorem le_10 : Cond.instanceMethod yX5_init ∈ gtb := gtb_of (List.mem_append_right _ (List.mem_of_getElem? (i := 602) (by decide +kernel))) (by decide +kernel)
theorem le_11 : Cond.methodLink R_law 12 yX5_init ∈ gtb := gtb_of (List.mem_append_right _ (List.mem_of_getElem? (i := 601) (by decide +kernel))) (by decide +kernel)
/-! THE CLAIM OUT OF ONE WALK OF THE LAW'S BODY. Your part is whole_start (and what it stands on); all else here is the same for every law, but numbers. -/
def lw_P (b : Addr) (xs : List Int32) (args : Array Value) (s : State) : Prop := args = #[.ref b] ∧ s.IntsAt b xs ∧ xs.length ≤ 3072 ∧ (Jvm.Cond.and given_1 narrow_1).before args s = true
def lw_Q (_ : Array Value) (s : State) (o : Outcome) (t : State) : Prop := o = .returned (some (.int 1)) ∧ Framed s o t [] 600000 7302249
def lw_Z (below : List Frame) (a : Array Value) (s : State) : State → Prop := fun t => ∃ o, t.status = .running ∧ Ended t below o ∧ lw_Q a s o t
/-- the law's own end, with 1 on the stack, nothing written that was there before, its room as the claim has it -/
theorem lw_ret {p : Program} {l : Launch} {e : Env} {s : State} {m : MethodId} {below : List Frame} {meth : Method} {c : Code} {b : Nat} (hx : p.tables.exec = Jvm.exec) (hb : c.code = code) (hr : meth.sig.returnType = ret) (hlocks : meth.locks = false) {pc : Nat} {H : Heap} {ls : Array Slot} (hdg : decode code pc = .ok (.ireturn, 1)) : W p l e room_1 s m #[Value.ref b] below meth c H [] 600000 7302249 (lw_Z below #[Value.ref b] s) (F0 m pc ls [.int 1]) := by
  intro T hT X
  obtain ⟨fs, hret, hrun, hended, hW, hframe⟩ := X.leave (v := some (.int 1)) (hlocks := hlocks) (fun h => by rw [hr] at h; cases h)
  have hmeth' : T.vm.method? m = some meth := X.method'
  refine ⟨T.setFrames fs, ?_, .returned (some (.int 1)), hrun, hended, rfl, ⟨_, rfl⟩, hW, hframe⟩
  jvm_step X.here [X.here.top, hx, hb, hdg, hmeth', hr, ret, narrow_b1]
  (try refine ⟨rfl, ?_⟩); (try refine ⟨rfl, ?_⟩)
  first | (intro acts; rw [hret _ acts rfl rfl rfl]) | rw [hret _ _ rfl rfl rfl]
  exact Steps.refl _
/-- what holds at the law's entry: the machine, the code, the tables' words (any of lw_tbl by 'hts w (by decide +kernel)'), the script of L ints xs at the cell b, what the Statement gives of the start (any of its parts by flat_of_before) -/
def lw_At (p : Program) (s : State) (m : MethodId) (meth : Method) (c : Code) (b L : Nat) (xs : Nat → Int32) : Prop :=
  p.tables.exec = Jvm.exec ∧ c.code = code ∧ meth.sig.returnType = ret ∧ c.maxLocals = 4 ∧ s.vm.findClass R_law = some m.cls ∧ (∀ w ∈ lw_tbl, w.before #[Value.ref b] s = true) ∧ va_X b L xs s s.heap ∧ b < s.heap.size ∧ meth.locks = false ∧ (Jvm.Cond.and given_1 narrow_1).before #[Value.ref b] s = true
set_option maxHeartbeats 4000000 in
set_option maxRecDepth 100000 in
/-- THE LAW'S LOOP: at its head the class and the reference agree -/
theorem lw_loop {p : Program} {l : Launch} {e : Env} {s : State} {m : MethodId} {below : List Frame} {meth : Method} {c : Code} {Γ : GG} {b L : Nat} {xs : Nat → Int32} (hL : L ≤ 3072) (M : MX R_law cL_law 4 ret p s m #[Value.ref b] meth c) (K : KK Γ s s.heap) (hX : va_X b L xs s s.heap) (hbl : b < s.heap.size) (hAB : ∀ q, AD Γ q → Ab s.heap.size q) :
    ∀ (n i : Nat), i ≤ L → L + 1 ≤ i + n → ∀ (σ : Sg) (H : Heap) (locs : List Loc), INV σ → Bd Γ σ s H locs → ∀ (ls : Array Slot), lv_has ls 4 [(0, .ref b), (1, .ref (Γ.1 0)), (2, .ref (Γ.1 150)), (3, .int (nI i))] → W p l e room_1 s m #[Value.ref b] below meth c H locs 157 2581 (lw_Z below #[Value.ref b] s) (F0 m 18 ls []) := by
  have hbA : ¬ AD Γ b := fun h => absurd (hAB b h) (Nat.not_le.mpr hbl)
  have hx := M.1
  have hb := M.2.1
  intro n
  induction n with
  | zero =>
    intro i h1 h2
    exact absurd h2 (by omega)
  | succ n ih =>
    intro i hi hin σ H locs hI hB ls hl
    refine lv_iload_n hx hb dL_law_18 rfl (lv_at hl 3 rfl) ?_
    refine lv_aload_n hx hb dL_law_19 rfl (lv_at hl 0 rfl) ?_
    refine va_slen hx hb hX hbl hbA hB.2 dL_law_20 ?_
    refine lv_bipush (v := 6) hx hb dL_law_21 (by decide) ?_
    refine lv_isub hx hb dL_law_23 ?_
    refine lv_icmp_gt (tgt := 748) hx hb dL_law_24 (by decide) (fun _ => ?_) (fun hg => ?_)
    · refine lv_iconst (v := 1) hx hb dL_law_748 (by decide) ?_
      refine va_forget (fun q hq => hAB _ (hB.2.2.2 q hq)) ?_
      refine W.widen (k := 600000) (n := 7302249) (Nat.le_of_ble_eq_true rfl) (Nat.le_of_ble_eq_true rfl) ?_
      exact lw_ret hx hb M.2.2.2.2.2.1 M.2.2.2.2.2.2 dL_law_749
    · have hi6 : i + 6 ≤ L := gt6 (by omega) hL hg
      have nxt : ∀ (σ' : Sg) (H' : Heap) (locs' : List Loc), INV σ' → Bd Γ σ' s H' locs' → W p l e room_1 s m #[Value.ref b] below meth c H' locs' 157 2581 (lw_Z below #[Value.ref b] s) (F0 m 742 ls []) := by
        intro σ' H' locs' hI' hB'
        refine lv_iinc (v := nI (i + 6)) (lv' := [(3, .int (nI (i + 6))), (0, .ref b), (1, .ref (Γ.1 0)), (2, .ref (Γ.1 150))]) hx hb dL_law_742 hl (k := 3) rfl (nI_add i 6) (by decide) rfl (fun ls hl => ?_)
        refine lv_goto (tgt := 18) hx hb dL_law_745 (by decide) ?_
        exact ih (i + 6) hi6 (by omega) σ' H' locs' hI' hB' ls (lv_sub hl [1, 2, 3, 0] rfl)
      refine lv_aload_n hx hb dL_law_27 rfl (lv_at hl 0 rfl) ?_
      refine lv_iload_n hx hb dL_law_28 rfl (lv_at hl 3 rfl) ?_
      refine va_sld hx hb hX hbl hbA hB.2 (show vp_in (nI i) L from vp_in_nI (by omega) (by omega)) dL_law_29 ?_
      refine lv_bipush (v := 31) hx hb dL_law_30 (by decide) ?_
      refine lv_iand hx hb dL_law_32 ?_
      obtain ⟨j, hj, ex⟩ := pk_andE (xs (nI i).toNatClampNeg) (m := 31) 5 (by decide)
      rw [ex]
      by_cases h22 : j < 22
      · match j, h22, ex with
        | 0, hj, ex => exact lv_tableIn (x := nI 0) (off := 103) (tgt := 136) hx hb dL_law_33 (by decide) (by decide) (by decide) (by decide) (lw_c0 M K hX hbl hbA hi6 hL hB hI hl nxt)
        | 1, hj, ex => exact lv_tableIn (x := nI 1) (off := 136) (tgt := 169) hx hb dL_law_33 (by decide) (by decide) (by decide) (by decide) (lw_c1 M K hX hbl hbA hi6 hL hB hI hl nxt)
        | 2, hj, ex => exact lv_tableIn (x := nI 2) (off := 169) (tgt := 202) hx hb dL_law_33 (by decide) (by decide) (by decide) (by decide) (lw_c2 M K hX hbl hbA hi6 hL hB hI hl nxt)
        | 3, hj, ex => exact lv_tableIn (x := nI 3) (off := 212) (tgt := 245) hx hb dL_law_33 (by decide) (by decide) (by decide) (by decide) (lw_c3 M K hX hbl hbA hi6 hL hB hI hl nxt)
        | 4, hj, ex => exact lv_tableIn (x := nI 4) (off := 275) (tgt := 308) hx hb dL_law_33 (by decide) (by decide) (by decide) (by decide) (lw_c4 M K hX hbl hbA hi6 hL hB hI hl nxt)
        | 5, hj, ex => exact lv_tableIn (x := nI 5) (off := 328) (tgt := 361) hx hb dL_law_33 (by decide) (by decide) (by decide) (by decide) (lw_c5 M K hX hbl hbA hi6 hL hB hI hl nxt)
        | 6, hj, ex => exact lv_tableIn (x := nI 6) (off := 341) (tgt := 374) hx hb dL_law_33 (by decide) (by decide) (by decide) (by decide) (lw_c6 M K hX hbl hbA hi6 hL hB hI hl nxt)
        | 7, hj, ex => exact lv_tableIn (x := nI 7) (off := 354) (tgt := 387) hx hb dL_law_33 (by decide) (by decide) (by decide) (by decide) (lw_c7 M K hX hbl hbA hi6 hL hB hI hl nxt)
        | 8, hj, ex => exact lv_tableIn (x := nI 8) (off := 367) (tgt := 400) hx hb dL_law_33 (by decide) (by decide) (by decide) (by decide) (lw_c8 M K hX hbl hbA hi6 hL hB hI hl nxt)
        | 9, hj, ex => exact lv_tableIn (x := nI 9) (off := 390) (tgt := 423) hx hb dL_law_33 (by decide) (by decide) (by decide) (by decide) (lw_c9 M K hX hbl hbA hi6 hL hB hI hl nxt)
        | 10, hj, ex => exact lv_tableIn (x := nI 10) (off := 413) (tgt := 446) hx hb dL_law_33 (by decide) (by decide) (by decide) (by decide) (lw_c10 M K hX hbl hbA hi6 hL hB hI hl nxt)
        | 11, hj, ex => exact lv_tableIn (x := nI 11) (off := 426) (tgt := 459) hx hb dL_law_33 (by decide) (by decide) (by decide) (by decide) (lw_c11 M K hX hbl hbA hi6 hL hB hI hl nxt)
        | 12, hj, ex => exact lv_tableIn (x := nI 12) (off := 439) (tgt := 472) hx hb dL_law_33 (by decide) (by decide) (by decide) (by decide) (lw_c12 M K hX hbl hbA hi6 hL hB hI hl nxt)
        | 13, hj, ex => exact lv_tableIn (x := nI 13) (off := 452) (tgt := 485) hx hb dL_law_33 (by decide) (by decide) (by decide) (by decide) (lw_c13 M K hX hbl hbA hi6 hL hB hI hl nxt)
        | 14, hj, ex => exact lv_tableIn (x := nI 14) (off := 475) (tgt := 508) hx hb dL_law_33 (by decide) (by decide) (by decide) (by decide) (lw_c14 M K hX hbl hbA hi6 hL hB hI hl nxt)
        | 15, hj, ex => exact lv_tableIn (x := nI 15) (off := 508) (tgt := 541) hx hb dL_law_33 (by decide) (by decide) (by decide) (by decide) (lw_c15 M K hX hbl hbA hi6 hL hB hI hl nxt)
        | 16, hj, ex => exact lv_tableIn (x := nI 16) (off := 541) (tgt := 574) hx hb dL_law_33 (by decide) (by decide) (by decide) (by decide) (lw_c16 M K hX hbl hbA hi6 hL hB hI hl nxt)
        | 17, hj, ex => exact lv_tableIn (x := nI 17) (off := 564) (tgt := 597) hx hb dL_law_33 (by decide) (by decide) (by decide) (by decide) (lw_c17 M K hX hbl hbA hi6 hL hB hI hl nxt)
        | 18, hj, ex => exact lv_tableIn (x := nI 18) (off := 587) (tgt := 620) hx hb dL_law_33 (by decide) (by decide) (by decide) (by decide) (lw_c18 M K hX hbl hbA hi6 hL hB hI hl nxt)
        | 19, hj, ex => exact lv_tableIn (x := nI 19) (off := 640) (tgt := 673) hx hb dL_law_33 (by decide) (by decide) (by decide) (by decide) (lw_c19 M K hX hbl hbA hi6 hL hB hI hl nxt)
        | 20, hj, ex => exact lv_tableIn (x := nI 20) (off := 663) (tgt := 696) hx hb dL_law_33 (by decide) (by decide) (by decide) (by decide) (lw_c20 M K hX hbl hbA hi6 hL hB hI hl nxt)
        | 21, hj, ex => exact lv_tableIn (x := nI 21) (off := 686) (tgt := 719) hx hb dL_law_33 (by decide) (by decide) (by decide) (by decide) (lw_c21 M K hX hbl hbA hi6 hL hB hI hl nxt)
        | j + 22, hj, ex => exact absurd hj (by omega)
      · refine lv_tableOut (tgt := 742) hx hb dL_law_33 (Or.inr ?_) (by decide) (nxt σ H locs hI hB)
        rw [nI_toInt (by omega)]
        omega
set_option maxHeartbeats 4000000 in
set_option maxRecDepth 100000 in
/-- THE LAW, from its entry -/
theorem whole_start {p : Program} {e : Env} {s : State} {m : MethodId} {below : List Frame} {meth : Method} {c : Code} (l : Launch) (hflags : l.flags = flags0) {b L : Nat} {xs : Nat → Int32} (hL : L ≤ 3072) (C0 : lw_At p s m meth c b L xs) : W p l e room_1 s m #[Value.ref b] below meth c s.heap [] 0 0 (lw_Z below #[Value.ref b] s) (entryFrame m ([Value.ref b] : List Value).toArray 4) := by
  obtain ⟨hx, hb, hr, hml, hown, hts, hX, hbl, hlocks, hgv⟩ := C0
  obtain ⟨Γ, S⟩ := st_all (flat_of_before gvn hgv) hts
  have M : MX R_law cL_law 4 ret p s m #[Value.ref b] meth c := ⟨hx, hb, hml, hown, fun w hw => hts w (List.mem_filter.mp hw).1, hr, hlocks⟩
  have K := S.1
  have hl := lv_entry ([.ref b]) (n := 4) (Nat.le_of_ble_eq_true rfl)
  rw [lg_entry_eq]
  generalize (lg_sl ([.ref b]) ++ List.replicate (4 - (lg_sl ([.ref b])).length) Slot.unset).toArray = ls at hl ⊢
  have hl : lv_has ls 4 [(0, .ref b)] := hl
  have hB : Nb Γ s.heap.size ([] ++ []) s s.heap [] := ⟨fun k q h => by simp at h, ⟨fun i j p q h => by simp at h, fun k q h => by simp at h⟩, va_S.rf⟩
  refine n_new (ci := 4) (C := RX4) (T := TX4) (N := 5) (fs := [.null, .null, .null, .null, .null]) M K (Nat.le_refl _) hB in_X4 tyX4 tyX4_ok le_0 le_1 le_2 rfl (by decide) (Nat.le_of_ble_eq_true rfl) (Nat.le_of_ble_eq_true rfl) dL_law_0 (fun x0 H hB => ?_)
  refine lv_dup hx hb dL_law_3 rfl ?_
  refine n_callI (y := yX4_init) (index := 9) (ci := 4) (h0 := x0) (ws := []) M K (Nat.le_refl _) hB hl.1 (c_X4_init l Γ s.heap.size [] x0) le_3 le_4 le_2 rfl ⟨by decide, by decide, by decide +kernel⟩ (Or.inl le_5) rfl rfl ⟨(Nat.le_of_ble_eq_true rfl), (Nat.le_of_ble_eq_true rfl)⟩ (Nat.le_of_ble_eq_true rfl) ⟨(Nat.le_of_ble_eq_true rfl), (Nat.le_of_ble_eq_true rfl)⟩ dL_law_4 (fun u H locs hB => ?_)
  refine lv_astore_n (lv' := [(1, .ref x0), (0, .ref b)]) hx hb dL_law_7 rfl hl (by decide) rfl (fun ls hl => ?_)
  refine n_new (ci := 5) (C := RX5) (T := TX5) (N := 10) (fs := [.null, .null, .null, .null, .null, .int 0, .int 0, .int 0, .null, .int 0]) M K (Nat.le_refl _) hB in_X5 tyX5 tyX5_ok le_6 le_7 le_8 rfl (by decide) (Nat.le_of_ble_eq_true rfl) (Nat.le_of_ble_eq_true rfl) dL_law_8 (fun m0 H hB => ?_)
  refine lv_dup hx hb dL_law_11 rfl ?_
  refine n_callI (y := yX5_init) (index := 12) (ci := 5) (h0 := m0) (ws := sg_X4_init Γ x0 u) M K (Nat.le_refl _) hB hl.1 (c_X5_init l Γ s.heap.size _ m0) le_9 le_10 le_8 rfl ⟨by decide, by decide, by decide +kernel⟩ (Or.inl le_11) rfl rfl ⟨(Nat.le_of_ble_eq_true rfl), (Nat.le_of_ble_eq_true rfl)⟩ (Nat.le_of_ble_eq_true rfl) ⟨(Nat.le_of_ble_eq_true rfl), (Nat.le_of_ble_eq_true rfl)⟩ dL_law_12 (fun v H locs hB => ?_)
  refine lv_astore_n (lv' := [(2, .ref m0), (1, .ref x0), (0, .ref b)]) hx hb dL_law_15 rfl hl (by decide) rfl (fun ls hl => ?_)
  refine lv_iconst (v := 0) hx hb dL_law_16 (by decide) ?_
  refine lv_istore_n (lv' := [(3, .int 0), (2, .ref m0), (1, .ref x0), (0, .ref b)]) hx hb dL_law_17 rfl hl (by decide) rfl (fun ls hl => ?_)
  have hB : Nb Γ s.heap.size (WL Γ x0 m0 u v) s H locs := hB
  obtain ⟨inj, hge⟩ := fresh_D hB.2.1
  have hAB := AD_of hge
  have hP := fresh_P hB.1
  refine va_forget (fun q hq => hB.2.2.2.2 q hq) ?_
  refine W.widen (k := 157) (n := 2581) (Nat.le_of_ble_eq_true rfl) (Nat.le_of_ble_eq_true rfl) ?_
  refine lw_loop (Γ := ΓA Γ x0 m0 u v) hL M (ks_kk S inj hAB) hX hbl hAB (L + 1) 0 (Nat.zero_le _) (by omega) σ0 H [] INV0 ⟨hP, hB.2.2.1, fun q h1 h2 => hB.2.2.2.1 q h1 (Nat.not_le.mpr h1), fun q h => by cases h⟩ ls ?_
  have hl2 := lv_sub (l' := [(0, .ref b), (1, .ref x0), (2, .ref m0), (3, .int 0)]) hl [3, 2, 1, 0] rfl
  exact hl2
set_option maxHeartbeats 4000000 in
theorem lw_walk (l : Launch) (hflags : l.flags = flags0) (b : Addr) (xs : List Int32) : MetFree l x (headSpec (Jvm.Cond.code x code maxLocals ret :: tables_1) room_1) (lw_P b xs) (fun _ _ _ _ _ => True) lw_Q := by
  refine MetFree.of_bodyS (code := code) (maxLocals := maxLocals) (ret := ret) (by decide) ?_ ?_
  · intro args s m h hn
    obtain ⟨meth, c, h1, h2, h3, h4, h5, h6, -, -⟩ := Cond.code_spec hn (atoms_spec (ws := Jvm.Cond.code x code maxLocals ret :: tables_1) h _ List.mem_cons_self)
    exact ⟨meth, c, h1, h2, h3, h4, h5, h6⟩
  · intro p e s m args below meth c s₁ B hml0 hP _
    obtain ⟨rfl, hx, hbd, hgv⟩ := hP
    obtain ⟨scr, harrAt, hlist, hof, hsmall⟩ := hx
    obtain ⟨hcb, hkn, -, -⟩ := State.arrayAt?_spec harrAt
    have hown : s.vm.findClass R_law = some m.cls := findClass_of_methodNamed B.named
    have hts0 : ∀ c ∈ (Jvm.Cond.code x code maxLocals ret :: tables_1), c.before #[Value.ref b] s = true := atoms_spec (ws := Jvm.Cond.code x code maxLocals ret :: tables_1) B.pre
    have hts : ∀ w ∈ lw_tbl, w.before #[Value.ref b] s = true := k2_hts_sels lw_privs (fun w hw => hts0 w (List.mem_cons_of_mem _ hw)) lw_privs_ok
    have hml : c.maxLocals = 4 := B.maxLocals_eq (hts0 _ List.mem_cons_self)
    have X₀ : Stand p l e room_1 s m #[Value.ref b] below meth c s₁ [] 0 0 := Stand.of_body B
    have hh0 : s₁.heap = s.heap := by rw [B.state]; rfl
    have hsz : scr.slots.size = xs.length := by rw [← Array.length_toList, hlist, List.length_map]
    have hval : ∀ j : Nat, j < xs.length → scr.slots[j]? = some (.int (xs.getD j 0)) := fun j hj => by
      rw [← Array.getElem?_toList, hlist]
      simp [hj]
    have hbl : b < s.heap.size := (Array.getElem?_eq_some_iff.mp hcb).1
    have hX : va_X b xs.length (fun j => xs.getD j 0) s s.heap := ⟨scr, hcb, hof, hkn, hsz, hval⟩
    have K : W p l e room_1 s m #[Value.ref b] below meth c s₁.heap [] 0 0 (lw_Z below #[Value.ref b] s) (entryFrame m ([Value.ref b] : List Value).toArray 4) := by
      rw [hh0]
      exact whole_start l hflags hbd ⟨B.exec, B.bytes, B.returns, hml, hown, hts, hX, hbl, B.notSynchronized, hgv⟩
    obtain ⟨t, a1, o, b1, b2, b3⟩ := K s₁ rfl X₀
    exact ⟨t, o, a1, b1, b2, b3⟩
theorem lw_pre_spec {args : Array Value} {s : State} (h : (Jvm.Cond.and given_1 narrow_1).before args s = true) (hr : rest_1_c.before args s = true) : ∃ (b : Addr) (xs : List Int32), lw_P b xs args s := by
  have hs := flat_of_before _ h
  have hq := flat_of_before _ hr
  have hc : (Cond.count 1).before args s = true := hs _ (by decide +kernel)
  have harr : (Cond.arrayOf (.arg 0) .int).before args s = true := hs _ (by decide +kernel)
  have hle : (Cond.le (.length (.arg 0)) (.int 3072)).before args s = true := hs _ (by decide +kernel)
  have hlen : (Cond.isInt (.length (.arg 0))).before args s = true := hq _ (by decide +kernel)
  have hall : (Cond.all (.arg 0) (.isInt (.elem (.arg 0) (.index 0)))).before args s = true := hq _ (by decide +kernel)
  obtain ⟨b, xs, hb, hx⟩ := State.ints_of_pre rfl harr hlen hall
  have hsm : xs.length < 2 ^ 31 := hx.choose_spec.2.2.2
  have hev : (Term.length (.arg 0)).eval args s none [] s = some (.int xs.length.toInt32) := hx.length_eval hb
  have hv := Cond.le_ints hev (show (Term.int 3072).eval args s none [] s = some (.int 3072) from rfl)
  have hd : xs.length.toInt32 ≤ 3072 := by
    simpa [Cond.before, Cond.holds, hv] using hle
  have hN : xs.length ≤ 3072 := (Int32.ofNat_le_ofNat hsm (by decide)).mp (show Int32.ofNat xs.length ≤ Int32.ofNat 3072 from hd)
  exact ⟨b, xs, Cond.one_arg hc (show args[0]? = some (.ref b) from hb), hx, hN, h⟩
theorem lw_comes (l : Launch) (hflags : l.flags = flags0) : Comes l x (Jvm.Cond.code x code maxLocals ret :: tables_1) room_1 (fun tb e args s => Calls_1 tb e args s ∧ rest_1 tb e args s ∧ Pre_1 tb e args s)
    (fun _ _ args s o t => lw_Q args s o t) := by
  intro p e ha hc hk s m args below hf hfit hheap happ hpre
  obtain ⟨b, xs, hP⟩ := lw_pre_spec hpre.2.2 hpre.2.1
  obtain ⟨k, o, h1, h2, h3, hQ⟩ := lw_walk l hflags b xs p e ha hc hk s m args below hf ((Spec.applies_iff_loose hf).mp happ).1 hP trivial
  exact ⟨k, o, h1, h2, h3, hQ⟩
theorem lw_frame {s t : State} {o : Outcome} {args : Array Value} (h : Framed s o t [] 600000 7302249) :
    Framed s o t (fieldLocs frame_1_writes args s ++ arrayLocs frame_1_arrays args s ++ staticLocs frame_1_statics s) 600000 7302249 := h
theorem lw_limb (L : Cond) (hL : ∀ (args : Array Value) (s t : State), L.after args s (.returned (some (.int 1))) t = true) :
    ArmFor flags0 classFile x code maxLocals ret World_1 tables_1 room_1 Calls_1 rest_1 Pre_1
      (fun tb e a s o t => postC L tb e a s o t ∧ Framed s o t (fieldLocs frame_1_writes a s ++ arrayLocs frame_1_arrays a s ++ staticLocs frame_1_statics s) 600000 7302249) := by
  intro l hflags _ _ p e ha hc hk s m args below hf hfit hheap happ hpre
  obtain ⟨k, o, h1, h2, h3, rfl, hF⟩ := lw_comes l hflags p e ha hc hk s m args below hf hfit hheap happ hpre
  exact ⟨k, _, h1, h2, h3, hL args s _, lw_frame hF⟩
theorem i_vc : Claimed_1_1 ∧ Claimed_1_2 := ⟨lw_limb limb_1_1 (fun args s t => by simp [limb_1_1, Cond.after, Cond.holds, Cond.value]), lw_limb limb_1_2 (fun args s t => Cond.after_iff.mpr (by
  first | (rw [show limb_1_2 = Cond.eq .result (.int 1) from rfl, Cond.eq_ints (x := 1) (y := 1) rfl rfl]; simp; done) | (simp [limb_1_2, Cond.value, Term.eval]; done)))⟩

