/-! cell, ahead of the law's arrays; the start's facts against the fresh world -/
def NoA : Nat → Prop := fun _ => False
def GI0 (Γ : GG) (U : State) : Prop := va_T .int (gS Γ 6) (gX Γ).1 (fun j => .int ((gX Γ).2 j)) NoA U U.heap
abbrev Q0 (v : Int32) : Array Value → State → Outcome → State → Prop := va_Qi (fun (r : Int32) (_ : Unit) => r = v) (fun _ _ => True) NoA
set_option maxHeartbeats 4000000 in
set_option maxRecDepth 100000 in
theorem w0_28 {p : Program} {l : Launch} {e : Env} {s : State} {m : MethodId} {args : Array Value} {below : List Frame} {meth : Method} {c : Code} (M : MX RL cL_cell 3 (some .int) p s m args meth c) (D : SD) (a1 a2 x2 s0 : Int32) (σ : Sg) (ls : Array Slot) (hl : lv_has ls 3 [(2, .int x2)]) {v : Int32} {τ : Sg} (hr : f_L_cell_28 D a1 a2 x2 s0 σ = some (v, τ)) : W p l e rm_L_cell s m args below meth c s.heap [] 0 0 (MQ below (Q0 v) args s 0 0 NoA) (F0 m 28 ls [.int s0]) := by
  unfold f_L_cell_28 at hr
  refine lv_iload_n M.1 M.2.1 dL_cell_28 rfl (lv_at hl 0 rfl) ?_
  obtain ⟨g_4, hr⟩ := gd hr
  refine lv_irem M.1 M.2.1 dL_cell_29 g_4 ?_
  obtain ⟨hv, -⟩ := Prod.mk.inj (Option.some.inj hr)
  subst hv
  exact W.iret (v := _) M.1 M.2.1 M.2.2.2.2.2.1 (fun t ht hW => ⟨⟨_, (), rfl, rfl, trivial⟩, va_S.rf.F ht⟩) (fun _ h => by cases h) dL_cell_30 (hlocks := M.2.2.2.2.2.2)
set_option maxHeartbeats 4000000 in
set_option maxRecDepth 100000 in
theorem w0_0 {p : Program} {l : Launch} {e : Env} {s : State} {m : MethodId} {args : Array Value} {below : List Frame} {meth : Method} {c : Code} {Γ : GG} (M : MX RL cL_cell 3 (some .int) p s m args meth c) {D : SD} (K0 : va_T .int (gS Γ 6) D.1 (fun j => .int (D.2 j)) NoA s s.heap) (a1 a2 : Int32) (σ : Sg) (ls : Array Slot) (hl : lv_has ls 3 [(0, .ref (gS Γ 6)), (1, .int a1), (2, .int a2)]) {v : Int32} {τ : Sg} (hr : f_L_cell_0 D a1 a2 σ = some (v, τ)) : W p l e rm_L_cell s m args below meth c s.heap [] 0 0 (MQ below (Q0 v) args s 0 0 NoA) (F0 m 0 ls []) := by
  unfold f_L_cell_0 at hr
  refine lv_aload_n M.1 M.2.1 dL_cell_0 rfl (lv_at hl 0 rfl) ?_
  refine va_tlen M.1 M.2.1 K0 va_S.rf rfl dL_cell_1 ?_
  refine lv_if_ne (tgt := 14) M.1 M.2.1 dL_cell_2 (by decide) (fun c_1 => ?_) (fun c_1 => ?_)
  · rw [if_neg c_1] at hr
    refine lv_aload_n M.1 M.2.1 dL_cell_14 rfl (lv_at hl 0 rfl) ?_
    refine lv_iload_n M.1 M.2.1 dL_cell_15 rfl (lv_at hl 1 rfl) ?_
    refine lv_aload_n M.1 M.2.1 dL_cell_16 rfl (lv_at hl 0 rfl) ?_
    refine va_tlen M.1 M.2.1 K0 va_S.rf rfl dL_cell_17 ?_
    obtain ⟨g_2, hr⟩ := gd hr
    refine lv_irem M.1 M.2.1 dL_cell_18 g_2 ?_
    obtain ⟨g_3, hr⟩ := gd hr
    refine va_ti M.1 M.2.1 K0 va_S.rf g_3 rfl dL_cell_19 ?_
    refine lv_iload_n M.1 M.2.1 dL_cell_20 rfl (lv_at hl 1 rfl) ?_
    refine lv_bipush (v := 7) M.1 M.2.1 dL_cell_21 (by decide) ?_
    refine lv_irem M.1 M.2.1 dL_cell_23 (by decide) ?_
    refine lv_ishr M.1 M.2.1 dL_cell_24 ?_
    refine x_ldc (v := 4194303) M wd_104 dL_cell_25 ?_
    refine lv_iand M.1 M.2.1 dL_cell_27 ?_
    exact w0_28 M D a1 a2 a2 (((D.2 ((a1 - a1 / (Int32.ofNat D.1) * (Int32.ofNat D.1)).toNatClampNeg)) >>> ((a1 - a1 / 7 * 7) &&& 31)) &&& 4194303) _ _ (lv_sub hl [2] rfl) hr
  · rw [if_pos c_1] at hr
    refine lv_iload_n M.1 M.2.1 dL_cell_5 rfl (lv_at hl 1 rfl) ?_
    refine lv_bipush (v := 37) M.1 M.2.1 dL_cell_6 (by decide) ?_
    refine lv_imul M.1 M.2.1 dL_cell_8 ?_
    refine lv_iconst (v := 5) M.1 M.2.1 dL_cell_9 (by decide) ?_
    refine lv_iadd M.1 M.2.1 dL_cell_10 ?_
    refine lv_goto (tgt := 28) M.1 M.2.1 dL_cell_11 (by decide) ?_
    exact w0_28 M D a1 a2 a2 ((a1 * 37) + 5) _ _ (lv_sub hl [2] rfl) hr
theorem c0_cell (l : Launch) (Γ : GG) (a1 a2 : Int32) (σ τ : Sg) (v : Int32) (hr : f_L_cell_0 (gX Γ) a1 a2 σ = some (v, τ)) : Met l yL_cell (Cond.code yL_cell cL_cell 3 (some .int) :: gtb) rm_L_cell (va_Pc [.ref (gS Γ 6), .int a1, .int a2] (GI0 Γ)) (Q0 v) 0 0 NoA := by
  refine Met.ofW (cc := cL_cell) (maxL := 3) (ret := some .int) (by decide) rfl ?_
  intro p e s m args below meth c s₁ B hml hv
  obtain ⟨rfl, hK⟩ := hv
  have hts := atoms_spec (ws := Cond.code yL_cell cL_cell 3 (some .int) :: gtb) B.pre
  have hl := lv_entry [.ref (gS Γ 6), .int a1, .int a2] (n := 3) (Nat.le_of_ble_eq_true rfl)
  rw [lg_entry_eq]
  exact w0_0 (Γ := Γ) ⟨B.exec, B.bytes, hml, findClass_of_methodNamed B.named, fun w hw => hts w (List.mem_cons_of_mem _ hw), B.returns, B.notSynchronized⟩ hK a1 a2 σ _ hl hr
theorem n_cell {p : Program} {l : Launch} {e : Env} {R : Room} {s : State} {m : MethodId} {args : Array Value} {below : List Frame} {meth : Method} {c : Code} {H : Heap} {locs : List Loc} {cells slots : Nat} {Q : State → Prop} {cc : ByteArray} {pc : Nat} {ls : Array Slot} {rest : List Value} {Γ : GG} {base : Nat} {ws : va_W} {nL index : Nat} {ret : Option FieldType} {sa : Nat} (e6 : gS Γ 6 = sa) (M : MX RL cc nL ret p s m args meth c) (hT : va_T .int (gS Γ 6) (gX Γ).1 (fun j => .int ((gX Γ).2 j)) (Ab base) s s.heap) (hB : Nb Γ base ws s H locs) (hls : ls.size = nL) {a1 a2 v : Int32} {σ τ : Sg} (hr : f_L_cell_0 (gX Γ) a1 a2 σ = some (v, τ)) (hlink : Cond.methodLink RL index yL_cell ∈ gtb) (hR : RF rm_L_cell R 3) (hcat : (rest.map fun v => v.category).sum ≤ 8) (hf : cells ≤ R.cells ∧ slots ≤ R.slots) (hdg : decode cc pc = .ok (.invokestatic index, 3))
    (kk : ∀ (H1 : Heap) (locs1 : List Loc), Nb Γ base ws s H1 locs1 → W p l e R s m args below meth c H1 locs1 cells slots Q (F0 m (pc + 3) ls (.int v :: rest))) : W p l e R s m args below meth c H locs cells slots Q (F0 m pc ls (.int a2 :: .int a1 :: .ref sa :: rest)) := by
  subst e6
  obtain ⟨hx, hb, hml, hown, hts, -⟩ := M
  obtain ⟨h1, h2, h4, h5, h6, h7⟩ := cy_L_cell
  have hpre : PreS s H (va_Pc [.ref (gS Γ 6), .int a1, .int a2] (GI0 Γ)) [.ref (gS Γ 6), .int a1, .int a2] := ⟨fun a U g mk q => ⟨q.1, va_T.moved (u := U) (U := U.calling g mk a) (Vm.Alike.refl _) q.2⟩, fun U hU hW => ⟨rfl, by
    show va_T .int (gS Γ 6) (gX Γ).1 (fun j => .int ((gX Γ).2 j)) NoA U U.heap
    rw [hU]
    exact ((va_T.moved hW.alike hT).kept hB.2.2.2.1).narrow (fun q h => h.elim)⟩⟩
  have run : va_Run p l e R s m args below meth c H locs cells slots 0 0 (F0 m pc ls (.int a2 :: .int a1 :: .ref (gS Γ 6) :: rest)) rest (Q0 v [Value.ref (gS Γ 6), Value.int a1, Value.int a2].toArray) NoA :=
    va_runS (Ts := gtb) (own := RL) (As := [.ref (gS Γ 6), .int a1, .int a2]) ⟨hx, hb, hml, hown, hts⟩ (c0_cell l Γ a1 a2 σ τ v hr) ⟨callB_of 3 hts (gtb_in h1) rfl hR.1 hR.2.1 (hts _ h4) (hts _ hlink) ⟨h5, h6, h7⟩ hR.2.2, hts _ h2⟩ hpre rfl rfl hls rfl (lv_room hcat) hdg hf
  refine va_calli run hB.2.2 (fun q _ h => h.elim) (fun q h => h.elim) (fun r u t H1 locs1 ht hvm hw hP hz1 hk1 hS => ?_)
  subst hw
  exact kk H1 locs1 ⟨hB.1.kept (fun k q hk => hk1 _ ((hB.1 k q hk).lt) (fun h => h)), hB.2.1, hS⟩
theorem ks_kk {Γ : GG} {s : State} {x : Nat} {u : UX4} {v : UX5} (h : KS Γ s) (h1 : ∀ i j, i < 153 → j < 153 → (ΓA Γ x u v).1 i = (ΓA Γ x u v).1 j → i = j) (hAB : ∀ q, AD (ΓA Γ x u v) q → Ab s.heap.size q) : KK (ΓA Γ x u v) s s.heap :=
  ⟨h.1.1, h.1.2.1, fun k hk => ⟨(h.2.1 k hk).1.narrow hAB, (h.2.1 k hk).2.narrow hAB⟩, va_T.narrow h.2.2 hAB, h1⟩
theorem AD_of {Γ : GG} {base : Nat} (h : ∀ k, k < 153 → base ≤ Γ.1 k) : ∀ q, AD Γ q → Ab base q := fun q ⟨k, hk, e⟩ => by rw [e]; exact h k hk
