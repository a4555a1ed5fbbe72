/-! constructors: the frame of their contracts -/
def NC (Γ : GG) (base : Nat) (ws : va_W) (h0 ci : Nat) (dfl : List Value) (U : State) : Prop := base ≤ U.heap.size ∧ va_P (gD Γ) classes (ws ++ [(h0, .inr (ci, dfl))]) U.heap ∧ va_D (Ab base) (ws ++ [(h0, .inr (ci, dfl))]) ∧ KN Γ base U U.heap
abbrev QN {S : Type} (Γ : GG) (base : Nat) (ws : va_W) (seg : S → va_W) : Array Value → State → Outcome → State → Prop := va_Qv (fun (_ : S) => True) (fun u t => va_P (gD Γ) classes (ws ++ seg u) t.heap ∧ va_D (Ab base) (ws ++ seg u)) (Ab base)
theorem n_met {y : MethodName} {cc : ByteArray} {n : Nat} {rm : Room} {l : Launch} {Γ : GG} {base : Nat} {ws : va_W} {S : Type} {seg : S → va_W} {mc ms h0 ci : Nat} {dfl : List Value} (hy : plainName y.cls = true) (hnm : y.name = "<init>") (hav : (lg_sl [Value.ref h0]).length ≤ n) (h : ∀ (p : Program) (e : Env) (s : State) (m : MethodId) (args : Array Value) (below : List Frame) (meth : Method) (c : Code), MX y.cls cc n none p s m args meth c → meth.name = "<init>" → KN Γ base s s.heap → base ≤ s.heap.size → ∀ ls : Array Slot, lv_has ls n [(0, .ref h0)] → Nb Γ base (ws ++ [(h0, .inr (ci, dfl))]) s s.heap [] → W p l e rm s m args below meth c s.heap [] 0 0 (MQ below (QN Γ base ws seg) args s mc ms (Ab base)) (F0 m 0 ls [])) : Met l y (Cond.code y cc n none :: gtb) rm (va_Pc [.ref h0] (NC Γ base ws h0 ci dfl)) (QN Γ base ws seg) mc ms (Ab base) := by
  refine Met.ofW (cc := cc) (maxL := n) (ret := none) hy rfl ?_
  intro p e s m args below meth c s₁ B hml hv
  obtain ⟨rfl, hb, hP, hD, hK⟩ := hv
  have hts := atoms_spec (ws := Cond.code y cc n none :: gtb) B.pre
  have hl := lv_entry [Value.ref h0] hav
  rw [lg_entry_eq]
  exact h p e s m _ below meth c ⟨B.exec, B.bytes, hml, findClass_of_methodNamed B.named, fun w hw => hts w (List.mem_cons_of_mem _ hw), B.returns, B.notSynchronized⟩ ((name_of_methodNamed B.named B.method).1.trans hnm) hK hb _ hl ⟨hP, hD, va_S.rf⟩
section NX
variable {p : Program} {l : Launch} {e : Env} {R : Room} {s : State} {m : MethodId} {args : Array Value} {below : List Frame} {meth : Method} {c : Code} {H : Heap} {locs : List Loc} {cells slots : Nat} {Q : State → Prop}
variable {cc : ByteArray} {pc : Nat} {ls : Array Slot} {rest : List Value} {Γ : GG} {base : Nat} {ws L : va_W} {own : String} {nL : Nat} {ret : Option FieldType}
theorem n_vret {S : Type} {seg : S → va_W} (u : S) (M : MX own cc nL none p s m args meth c) (hB : Nb Γ base (ws ++ seg u) s H locs) (hdg : decode cc pc = .ok (.return_, 1)) : W p l e R s m args below meth c H locs cells slots (MQ below (QN Γ base ws seg) args s cells slots (Ab base)) (F0 m pc ls []) :=
  W.vret M.1 M.2.1 M.2.2.2.2.2.1 (fun t ht hW => ⟨⟨u, rfl, trivial, by rw [ht]; exact hB.1, hB.2.1⟩, hB.2.2.F ht⟩) hB.2.2.2.2 hdg (hlocks := M.2.2.2.2.2.2)
theorem n_callI {y : MethodName} {b2 : ByteArray} {n2 index mc ms h0 ci : Nat} {rm2 : Room} {S : Type} {seg : S → va_W} {dfl : List Value} (M : MX own cc nL ret p s m args meth c) (K : KN Γ base s s.heap) (hb0 : base ≤ s.heap.size) (hB : Nb Γ base (ws ++ [(h0, .inr (ci, dfl))]) s H locs) (hls : ls.size = nL) (hM : Met l y (Cond.code y b2 n2 none :: gtb) rm2 (va_Pc [.ref h0] (NC Γ base ws h0 ci dfl)) (QN Γ base ws seg) mc ms (Ab base)) (hcode : Cond.code y b2 n2 none ∈ gtb) (hinst : Cond.instanceMethod y ∈ gtb) (hini : Cond.initialized y.cls ∈ gtb) (hy1 : y.name = "<init>") (hd : y.cls ≠ "java/lang/invoke/MethodHandle" ∧ y.cls ≠ "java/lang/invoke/VarHandle" ∧ (parseMethodDescriptor y.desc).map (fun d => d.parameters.length) = some 0) (hlink : Cond.methodLink own index y ∈ gtb ∨ ∃ host, Cond.methodLinkNest own index y host ∈ ntb) (hrc : rm2.cells = mc) (hrs : rm2.slots = ms) (hR : rm2.frames + 1 ≤ R.frames ∧ 8 + (n2 + 11) + rm2.locals ≤ R.locals) (hcat : (rest.map fun v => v.category).sum ≤ 8) (hf : cells + mc ≤ R.cells ∧ slots + ms ≤ R.slots) (hdg : decode cc pc = .ok (.invokespecial index, 3))
    (kk : ∀ (u : S) (H1 : Heap) (locs1 : List Loc), Nb Γ base (ws ++ seg u) s H1 locs1 → W p l e R s m args below meth c H1 locs1 (cells + mc) (slots + ms) Q (F0 m (pc + 3) ls rest)) : W p l e R s m args below meth c H locs cells slots Q (F0 m pc ls (.ref h0 :: rest)) := by
  obtain ⟨hx, hb, hml, hown, hts, -⟩ := M
  have hpre : PreS s H (va_Pc [.ref h0] (NC Γ base ws h0 ci dfl)) [.ref h0] := ⟨fun a U g mk q => ⟨q.1, q.2.1, q.2.2.1, q.2.2.2.1, KN.same (u := U) (U := U.calling g mk a) rfl q.2.2.2.2⟩, fun U hU hW => ⟨rfl, by rw [hU]; exact Nat.le_trans hb0 hB.2.2.1, by rw [hU]; exact hB.1, hB.2.1, by rw [hU]; exact (KN.warm hW K).kept hB.2.2.2.1⟩⟩
  have run : va_Run p l e R s m args below meth c H locs cells slots mc ms (F0 m pc ls (.ref h0 :: rest)) rest (QN Γ base ws seg [Value.ref h0].toArray) (Ab base) := by
    rcases hlink with hlink | ⟨host, hlink⟩
    · exact va_runI (As := []) (Ts := gtb) (own := own) ⟨hx, hb, hml, hown, hts⟩ hM (cwI 0 hts (gtb_in hcode) rfl hrc hrs (hts _ hini) (hts _ hlink) (hts _ hinst) hy1 hd hR) hpre rfl rfl hls rfl (lv_room hcat) hdg hf
    · exact va_runIN (As := []) (Ts := gtb) (own := own) (host := host) ⟨hx, hb, hml, hown, hts⟩ hM ⟨va_cnB 0 hts (gtb_in hcode) rfl hrc hrs (K.2.1 _ hlink) (hts _ hini) hd hR, hy1, hts _ hinst⟩ hpre rfl rfl hls rfl (lv_room hcat) hdg hf
  refine va_callv run hB.2.2 (fun q _ h => h) (fun q h => h) (fun u t H1 locs1 ht hvm hw hP hz1 hk1 hS => ?_)
  rw [ht] at hP
  exact kk u H1 locs1 ⟨hP.1, hP.2, hS⟩
theorem n_gets {k index : Nat} {host : String} (hk : k = 2 ∨ k = 5) (M : MX own cc nL ret p s m args meth c) (K : KN Γ base s s.heap) (hB : Nb Γ base ws s H locs) (hlink : Cond.fieldLinkNest own index RX4 (sn k) "[I" host ∈ ntb) (hdg : decode cc pc = .ok (.getstatic index, 3))
    (kk : W p l e R s m args below meth c H locs cells slots Q (F0 m (pc + 3) ls (.ref (gS Γ k) :: rest))) : W p l e R s m args below meth c H locs cells slots Q (F0 m pc ls rest) :=
  va_getsN M.1 M.2.1 (K.2.2.2 k hk).1 hB.2.2 M.2.2.2.1 (va_Nw.use rfl (K.2.1 _ hlink)) (fun x h => h) hdg kk
theorem n_ti {k : Nat} (hk : k = 2 ∨ k = 5) (M : MX own cc nL ret p s m args meth c) (K : KN Γ base s s.heap) (hB : Nb Γ base ws s H locs) {i : Int32} (hin : vp_in i 8) (hdg : decode cc pc = .ok (.iaload, 1))
    (kk : W p l e R s m args below meth c H locs cells slots Q (F0 m (pc + 1) ls (.int (tb k i.toNatClampNeg) :: rest))) : W p l e R s m args below meth c H locs cells slots Q (F0 m pc ls (.int i :: .ref (gS Γ k) :: rest)) :=
  va_ti M.1 M.2.1 (K.2.2.2 k hk).2.1 hB.2.2 hin rfl hdg kk
theorem n_cast {i index a : Nat} {x : vp_A} (M : MX own cc nL ret p s m args meth c) (K : KN Γ base s s.heap) (hB : Nb Γ base (ws ++ L) s H locs) (he : L[i]? = some (a, .inl (gA Γ 0, x))) (hlink : Cond.classLink own index "[I" ∈ gtb) (hdg : decode cc pc = .ok (.checkcast index, 3))
    (kk : W p l e R s m args below meth c H locs cells slots Q (F0 m (pc + 3) ls (.ref a :: rest))) : W p l e R s m args below meth c H locs cells slots Q (F0 m pc ls (.ref a :: rest)) :=
  va_castA (D := gD Γ) (cl := classes) M.1 M.2.1 M.2.2.2.1 (M.2.2.2.2.1 _ hlink) hB.1 (ws.length + i) (ap_at he) (K.1.2 0 _ rfl).2 hdg kk
theorem n_iast {i n a : Nat} {f : Nat → Int32} (M : MX own cc nL ret p s m args meth c) (K : KN Γ base s s.heap) (hB : Nb Γ base (ws ++ L) s H locs) (he : L[i]? = some (a, .inl (gA Γ 0, n, .inl f))) {j x : Int32} (hin : vp_in j n) (hdg : decode cc pc = .ok (.iastore, 1))
    (kk : ∀ (H1 : Heap) (locs1 : List Loc), Nb Γ base (ws ++ L.set i (a, .inl (gA Γ 0, n, .inl (upd f j.toNatClampNeg x)))) s H1 locs1 → W p l e R s m args below meth c H1 locs1 cells slots Q (F0 m (pc + 1) ls rest)) : W p l e R s m args below meth c H locs cells slots Q (F0 m pc ls (.int x :: .int j :: .ref a :: rest)) := by
  refine va_iast (D := gD Γ) (cl := classes) (tys := gtys Γ) (A := Ab base) M.1 M.2.1 K.1 hB.1 hB.2.1 hB.2.2 (ws.length + i) 0 (ap_at he) rfl hin hdg (fun H1 locs1 h1 h2 h3 => ?_)
  rw [ap_set] at h1 h2
  exact kk H1 locs1 ⟨h1, h2, h3⟩
theorem n_astq {i qk n a v t0 ci : Nat} {f : Nat → Option Nat} {r : vw_C} {vs : List Value} (M : MX own cc nL ret p s m args meth c) (K : KN Γ base s s.heap) (hB : Nb Γ base (ws ++ L) s H locs) (he : L[i]? = some (a, .inl (gA Γ t0, n, .inr (.inr (.inr (.inr f)))))) (ht : (gtys Γ)[t0]? = some (gA Γ t0, .object r.1)) (hv : L[qk]? = some (v, .inr (ci, vs))) (hc : classes[ci]? = some r) {j : Int32} (hin : vp_in j n) (hdg : decode cc pc = .ok (.aastore, 1))
    (kk : ∀ (H1 : Heap) (locs1 : List Loc), Nb Γ base (ws ++ L.set i (a, .inl (gA Γ t0, n, .inr (.inr (.inr (.inr (va_up f j.toNatClampNeg (some v)))))))) s H1 locs1 → W p l e R s m args below meth c H1 locs1 cells slots Q (F0 m (pc + 1) ls rest)) : W p l e R s m args below meth c H locs cells slots Q (F0 m pc ls (.ref v :: .int j :: .ref a :: rest)) := by
  refine va_astq (D := gD Γ) (cl := classes) (tys := gtys Γ) (A := Ab base) M.1 M.2.1 K.1 hB.1 hB.2.1 hB.2.2 (ws.length + i) t0 (ws.length + qk) ci (ap_at he) ht (ap_at hv) hc hin hdg (fun H1 locs1 h1 h2 h3 => ?_)
  rw [ap_set] at h1 h2
  exact kk H1 locs1 ⟨h1, h2, h3⟩
end NX
theorem vd_0 : Cond.methodLink RX3 3 Lib.objectInit ∈ gtb := gtb_of (List.mem_append_right _ (List.mem_of_getElem? (i := 52) (by decide +kernel))) (by decide +kernel)
theorem vd_1 : Cond.instanceMethod Lib.objectInit ∈ gtb := gtb_of (List.mem_append_right _ (List.mem_of_getElem? (i := 14) (by decide +kernel))) (by decide +kernel)
theorem vd_2 : Cond.code Lib.objectInit ⟨#[0xb1]⟩ 1 none ∈ gtb := gtb_of (List.mem_append_right _ (List.mem_of_getElem? (i := 15) (by decide +kernel))) (by decide +kernel)
theorem vd_3 : Cond.methodLink RX3 13 ⟨"[I", "clone", "()Ljava/lang/Object;"⟩ ∈ gtb := gtb_of (List.mem_append_right _ (List.mem_of_getElem? (i := 55) (by decide +kernel))) (by decide +kernel)
theorem vd_4 : Cond.sameMethod "[I" "java/lang/Object" "clone" "()Ljava/lang/Object;" ∈ gtb := gtb_of (List.mem_append_right _ (List.mem_of_getElem? (i := 25) (by decide +kernel))) (by decide +kernel)
theorem vd_5 : Cond.native ⟨"java/lang/Object", "clone", "()Ljava/lang/Object;"⟩ ∈ gtb := gtb_of (List.mem_append_right _ (List.mem_of_getElem? (i := 26) (by decide +kernel))) (by decide +kernel)
theorem vd_6 : Cond.instanceMethod ⟨"java/lang/Object", "clone", "()Ljava/lang/Object;"⟩ ∈ gtb := gtb_of (List.mem_append_right _ (List.mem_of_getElem? (i := 27) (by decide +kernel))) (by decide +kernel)
theorem vd_7 : Cond.selects "[I" ⟨"[I", "clone", "()Ljava/lang/Object;"⟩ ⟨"java/lang/Object", "clone", "()Ljava/lang/Object;"⟩ ∈ gtb := gtb_of (List.mem_append_right _ (List.mem_of_getElem? (i := 28) (by decide +kernel))) (by decide +kernel)
theorem vd_8 : Cond.classLink RX3 14 "[I" ∈ gtb := gtb_of (List.mem_append_right _ (List.mem_of_getElem? (i := 56) (by decide +kernel))) (by decide +kernel)
theorem vd_9 : Cond.fieldLink RX3 18 RX3 "settings" "[I" ∈ gtb := gtb_of (List.mem_append_right _ (List.mem_of_getElem? (i := 57) (by decide +kernel))) (by decide +kernel)
theorem vd_10 : Cond.arrayClass .int ∈ gtb := gtb_of (List.mem_append_right _ (List.mem_of_getElem? (i := 47) (by decide +kernel))) (by decide +kernel)
theorem vd_11 : Cond.fieldLink RX3 23 RX3 "faultKinds" "[I" ∈ gtb := gtb_of (List.mem_append_right _ (List.mem_of_getElem? (i := 60) (by decide +kernel))) (by decide +kernel)
theorem vd_12 : Cond.fieldLink RX3 26 RX3 "faultStarts" "[I" ∈ gtb := gtb_of (List.mem_append_right _ (List.mem_of_getElem? (i := 62) (by decide +kernel))) (by decide +kernel)
theorem vd_13 : Cond.fieldLink RX3 29 RX3 "faultAmounts" "[I" ∈ gtb := gtb_of (List.mem_append_right _ (List.mem_of_getElem? (i := 63) (by decide +kernel))) (by decide +kernel)
theorem vd_14 : Cond.fieldLink RX3 32 RX3 "hasJob" "Z" ∈ gtb := gtb_of (List.mem_append_right _ (List.mem_of_getElem? (i := 64) (by decide +kernel))) (by decide +kernel)
theorem vd_15 : Cond.fieldLink RX3 36 RX3 "hangs" "Z" ∈ gtb := gtb_of (List.mem_append_right _ (List.mem_of_getElem? (i := 65) (by decide +kernel))) (by decide +kernel)
theorem vd_16 : Cond.fieldLink RX3 39 RX3 "begin" "I" ∈ gtb := gtb_of (List.mem_append_right _ (List.mem_of_getElem? (i := 66) (by decide +kernel))) (by decide +kernel)
theorem vd_17 : Cond.fieldLink RX3 43 RX3 "left" "I" ∈ gtb := gtb_of (List.mem_append_right _ (List.mem_of_getElem? (i := 67) (by decide +kernel))) (by decide +kernel)
theorem vd_18 : Cond.fieldLink RX3 46 RX3 "alive" "I" ∈ gtb := gtb_of (List.mem_append_right _ (List.mem_of_getElem? (i := 68) (by decide +kernel))) (by decide +kernel)
theorem vd_19 : Cond.fieldLink RX3 49 RX3 "failures" "I" ∈ gtb := gtb_of (List.mem_append_right _ (List.mem_of_getElem? (i := 69) (by decide +kernel))) (by decide +kernel)
theorem vd_20 : Cond.fieldLink RX3 52 RX3 "isLate" "Z" ∈ gtb := gtb_of (List.mem_append_right _ (List.mem_of_getElem? (i := 70) (by decide +kernel))) (by decide +kernel)
theorem vd_21 : Cond.fieldLink RX3 55 RX3 "isExpired" "Z" ∈ gtb := gtb_of (List.mem_append_right _ (List.mem_of_getElem? (i := 71) (by decide +kernel))) (by decide +kernel)
theorem vd_22 : Cond.fieldLink RX3 58 RX3 "badCycles" "I" ∈ gtb := gtb_of (List.mem_append_right _ (List.mem_of_getElem? (i := 73) (by decide +kernel))) (by decide +kernel)
theorem vd_23 : Cond.fieldLink RX3 61 RX3 "isLatched" "Z" ∈ gtb := gtb_of (List.mem_append_right _ (List.mem_of_getElem? (i := 75) (by decide +kernel))) (by decide +kernel)
theorem vd_24 : Cond.fieldLink RX3 64 RX3 "latchTime" "I" ∈ gtb := gtb_of (List.mem_append_right _ (List.mem_of_getElem? (i := 77) (by decide +kernel))) (by decide +kernel)
theorem vd_25 : Cond.fieldLink RX3 67 RX3 "resets" "I" ∈ gtb := gtb_of (List.mem_append_right _ (List.mem_of_getElem? (i := 79) (by decide +kernel))) (by decide +kernel)
theorem vd_26 : Cond.methodLink RX1 3 Lib.objectInit ∈ gtb := gtb_of (List.mem_append_right _ (List.mem_of_getElem? (i := 38) (by decide +kernel))) (by decide +kernel)
theorem vd_27 : Cond.fieldLink RX1 9 RX1 "cells" "[I" ∈ gtb := gtb_of (List.mem_append_right _ (List.mem_of_getElem? (i := 39) (by decide +kernel))) (by decide +kernel)
theorem vd_28 : Cond.fieldLink RX1 15 RX1 "count" "I" ∈ gtb := gtb_of (List.mem_append_right _ (List.mem_of_getElem? (i := 40) (by decide +kernel))) (by decide +kernel)
theorem vd_29 : Cond.methodLink RX2 3 Lib.objectInit ∈ gtb := gtb_of (List.mem_append_right _ (List.mem_of_getElem? (i := 174) (by decide +kernel))) (by decide +kernel)
theorem vd_30 : Cond.arrayClass .char ∈ gtb := gtb_of (List.mem_append_right _ (List.mem_of_getElem? (i := 205) (by decide +kernel))) (by decide +kernel)
theorem vd_31 : Cond.fieldLink RX2 9 RX2 "signs" "[C" ∈ gtb := gtb_of (List.mem_append_right _ (List.mem_of_getElem? (i := 175) (by decide +kernel))) (by decide +kernel)
theorem vd_32 : Cond.fieldLink RX2 15 RX2 "length" "I" ∈ gtb := gtb_of (List.mem_append_right _ (List.mem_of_getElem? (i := 176) (by decide +kernel))) (by decide +kernel)
theorem vd_33 : Cond.fieldLink RX2 19 RX2 "at" "I" ∈ gtb := gtb_of (List.mem_append_right _ (List.mem_of_getElem? (i := 178) (by decide +kernel))) (by decide +kernel)
theorem vd_34 : Cond.fieldLink RX2 22 RX2 "found" "I" ∈ gtb := gtb_of (List.mem_append_right _ (List.mem_of_getElem? (i := 179) (by decide +kernel))) (by decide +kernel)
theorem vd_35 : Cond.fieldLink RX2 25 RX2 "faultKinds" "[I" ∈ gtb := gtb_of (List.mem_append_right _ (List.mem_of_getElem? (i := 180) (by decide +kernel))) (by decide +kernel)
theorem vd_36 : Cond.fieldLink RX2 29 RX2 "faultTasks" "[I" ∈ gtb := gtb_of (List.mem_append_right _ (List.mem_of_getElem? (i := 181) (by decide +kernel))) (by decide +kernel)
theorem vd_37 : Cond.fieldLink RX2 32 RX2 "faultStarts" "[I" ∈ gtb := gtb_of (List.mem_append_right _ (List.mem_of_getElem? (i := 182) (by decide +kernel))) (by decide +kernel)
theorem vd_38 : Cond.fieldLink RX2 35 RX2 "faultAmounts" "[I" ∈ gtb := gtb_of (List.mem_append_right _ (List.mem_of_getElem? (i := 183) (by decide +kernel))) (by decide +kernel)
theorem vd_39 : Cond.fieldLink RX2 38 RX2 "faultImages" "[I" ∈ gtb := gtb_of (List.mem_append_right _ (List.mem_of_getElem? (i := 184) (by decide +kernel))) (by decide +kernel)
theorem nv_0 : Cond.fieldLinkNest RX3 9 RX4 (sn 5) "[I" RX4 ∈ ntb := by decide +kernel
def sg_X3_init (Γ : GG) (h0 : Nat) (u : Nat × Nat × Nat × Nat) : va_W := [(h0, .inr (3, [.ref u.1, .ref u.2.1, .ref u.2.2.1, .ref u.2.2.2, .int 0, .int 0, .int 0, .int 0, .int 0, .int 0, .int 0, .int 0, .int 0, .int 0, .int 0, .int 0])), (u.1, .inl (gA Γ 0, 8, .inl (tb 5))), (u.2.1, .inl (gA Γ 0, 2, .inl (fun _ => 0))), (u.2.2.1, .inl (gA Γ 0, 2, .inl (fun _ => 0))), (u.2.2.2, .inl (gA Γ 0, 2, .inl (fun _ => 0)))]
set_option maxHeartbeats 4000000 in
set_option maxRecDepth 100000 in
theorem c_X3_init (l : Launch) (Γ : GG) (base : Nat) (ws : va_W) (h0 : Nat) : Met l yX3_init (Cond.code yX3_init cX3_init 1 none :: gtb) { frames := 1, cells := 4, slots := 14, locals := 22 } (va_Pc [.ref h0] (NC Γ base ws h0 3 [.null, .null, .null, .null, .int 0, .int 0, .int 0, .int 0, .int 0, .int 0, .int 0, .int 0, .int 0, .int 0, .int 0, .int 0])) (QN Γ base ws (sg_X3_init Γ h0)) 4 14 (Ab base) := by
  refine n_met (by decide) rfl (Nat.le_of_ble_eq_true rfl) ?_
  intro p e s m args below meth c M hin K hb0 ls hl hB
  refine lv_aload_n M.1 M.2.1 dX3_init_0 rfl (lv_at hl 0 rfl) ?_
  refine n_obj M hl.1 vd_0 vd_1 vd_2 dX3_init_1 (Nat.le_of_ble_eq_true rfl) (Nat.le_of_ble_eq_true rfl) ?_
  refine lv_aload_n M.1 M.2.1 dX3_init_4 rfl (lv_at hl 0 rfl) ?_
  refine n_gets (k := 5) (by decide) M K hB nv_0 dX3_init_5 ?_
  refine n_clone (k := 5) (by decide) M hl.1 K hb0 hB vd_3 vd_4 vd_5 vd_6 vd_7 (Nat.le_of_ble_eq_true rfl) (Nat.le_of_ble_eq_true rfl) (Nat.le_of_ble_eq_true rfl) (Nat.le_of_ble_eq_true rfl) dX3_init_8 (fun q8 H hB => ?_)
  have hB : Nb Γ base (ws ++ [(h0, .inr (3, [.null, .null, .null, .null, .int 0, .int 0, .int 0, .int 0, .int 0, .int 0, .int 0, .int 0, .int 0, .int 0, .int 0, .int 0])), (q8, .inl (gA Γ 0, 8, .inl (tb 5)))]) s _ _ := hB
  refine n_cast (i := 1) M K hB rfl vd_8 dX3_init_11 ?_
  refine n_put (ci := 3) (C := RX3) (T := TX3) (N := 16) (v := .ref q8) M K hB in_X3 tyX3 tyX3_ok nmX3 0 rfl rfl 0 (by decide) rfl (Or.inr ⟨rfl, hin, rfl⟩) vd_9 rfl rfl (Nat.le_of_ble_eq_true rfl) dX3_init_14 (fun H locs hB => ?_)
  have hB : Nb Γ base (ws ++ [(h0, .inr (3, [.ref q8, .null, .null, .null, .int 0, .int 0, .int 0, .int 0, .int 0, .int 0, .int 0, .int 0, .int 0, .int 0, .int 0, .int 0])), (q8, .inl (gA Γ 0, 8, .inl (tb 5)))]) s _ _ := hB
  refine lv_aload_n M.1 M.2.1 dX3_init_17 rfl (lv_at hl 0 rfl) ?_
  refine lv_iconst (v := 2) M.1 M.2.1 dX3_init_18 (by decide) ?_
  refine n_newa (atype := .int) (ty := .int) 0 rfl (fun U cA h => h) M K hb0 hB vd_10 rfl (fun cA => rfl) (by decide) (N' := 2) (by decide) (by decide) (Nat.le_of_ble_eq_true rfl) (Nat.le_of_ble_eq_true rfl) dX3_init_19 (fun q19 H hB => ?_)
  have hB : Nb Γ base (ws ++ [(h0, .inr (3, [.ref q8, .null, .null, .null, .int 0, .int 0, .int 0, .int 0, .int 0, .int 0, .int 0, .int 0, .int 0, .int 0, .int 0, .int 0])), (q8, .inl (gA Γ 0, 8, .inl (tb 5))), (q19, .inl (gA Γ 0, 2, .inl (fun _ => 0)))]) s _ _ := hB
  refine n_put (ci := 3) (C := RX3) (T := TX3) (N := 16) (v := .ref q19) M K hB in_X3 tyX3 tyX3_ok nmX3 0 rfl rfl 1 (by decide) rfl (Or.inr ⟨rfl, hin, rfl⟩) vd_11 rfl rfl (Nat.le_of_ble_eq_true rfl) dX3_init_21 (fun H locs hB => ?_)
  have hB : Nb Γ base (ws ++ [(h0, .inr (3, [.ref q8, .ref q19, .null, .null, .int 0, .int 0, .int 0, .int 0, .int 0, .int 0, .int 0, .int 0, .int 0, .int 0, .int 0, .int 0])), (q8, .inl (gA Γ 0, 8, .inl (tb 5))), (q19, .inl (gA Γ 0, 2, .inl (fun _ => 0)))]) s _ _ := hB
  refine lv_aload_n M.1 M.2.1 dX3_init_24 rfl (lv_at hl 0 rfl) ?_
  refine lv_iconst (v := 2) M.1 M.2.1 dX3_init_25 (by decide) ?_
  refine n_newa (atype := .int) (ty := .int) 0 rfl (fun U cA h => h) M K hb0 hB vd_10 rfl (fun cA => rfl) (by decide) (N' := 2) (by decide) (by decide) (Nat.le_of_ble_eq_true rfl) (Nat.le_of_ble_eq_true rfl) dX3_init_26 (fun q26 H hB => ?_)
  have hB : Nb Γ base (ws ++ [(h0, .inr (3, [.ref q8, .ref q19, .null, .null, .int 0, .int 0, .int 0, .int 0, .int 0, .int 0, .int 0, .int 0, .int 0, .int 0, .int 0, .int 0])), (q8, .inl (gA Γ 0, 8, .inl (tb 5))), (q19, .inl (gA Γ 0, 2, .inl (fun _ => 0))), (q26, .inl (gA Γ 0, 2, .inl (fun _ => 0)))]) s _ _ := hB
  refine n_put (ci := 3) (C := RX3) (T := TX3) (N := 16) (v := .ref q26) M K hB in_X3 tyX3 tyX3_ok nmX3 0 rfl rfl 2 (by decide) rfl (Or.inr ⟨rfl, hin, rfl⟩) vd_12 rfl rfl (Nat.le_of_ble_eq_true rfl) dX3_init_28 (fun H locs hB => ?_)
  have hB : Nb Γ base (ws ++ [(h0, .inr (3, [.ref q8, .ref q19, .ref q26, .null, .int 0, .int 0, .int 0, .int 0, .int 0, .int 0, .int 0, .int 0, .int 0, .int 0, .int 0, .int 0])), (q8, .inl (gA Γ 0, 8, .inl (tb 5))), (q19, .inl (gA Γ 0, 2, .inl (fun _ => 0))), (q26, .inl (gA Γ 0, 2, .inl (fun _ => 0)))]) s _ _ := hB
  refine lv_aload_n M.1 M.2.1 dX3_init_31 rfl (lv_at hl 0 rfl) ?_
  refine lv_iconst (v := 2) M.1 M.2.1 dX3_init_32 (by decide) ?_
  refine n_newa (atype := .int) (ty := .int) 0 rfl (fun U cA h => h) M K hb0 hB vd_10 rfl (fun cA => rfl) (by decide) (N' := 2) (by decide) (by decide) (Nat.le_of_ble_eq_true rfl) (Nat.le_of_ble_eq_true rfl) dX3_init_33 (fun q33 H hB => ?_)
  have hB : Nb Γ base (ws ++ [(h0, .inr (3, [.ref q8, .ref q19, .ref q26, .null, .int 0, .int 0, .int 0, .int 0, .int 0, .int 0, .int 0, .int 0, .int 0, .int 0, .int 0, .int 0])), (q8, .inl (gA Γ 0, 8, .inl (tb 5))), (q19, .inl (gA Γ 0, 2, .inl (fun _ => 0))), (q26, .inl (gA Γ 0, 2, .inl (fun _ => 0))), (q33, .inl (gA Γ 0, 2, .inl (fun _ => 0)))]) s _ _ := hB
  refine n_put (ci := 3) (C := RX3) (T := TX3) (N := 16) (v := .ref q33) M K hB in_X3 tyX3 tyX3_ok nmX3 0 rfl rfl 3 (by decide) rfl (Or.inr ⟨rfl, hin, rfl⟩) vd_13 rfl rfl (Nat.le_of_ble_eq_true rfl) dX3_init_35 (fun H locs hB => ?_)
  have hB : Nb Γ base (ws ++ [(h0, .inr (3, [.ref q8, .ref q19, .ref q26, .ref q33, .int 0, .int 0, .int 0, .int 0, .int 0, .int 0, .int 0, .int 0, .int 0, .int 0, .int 0, .int 0])), (q8, .inl (gA Γ 0, 8, .inl (tb 5))), (q19, .inl (gA Γ 0, 2, .inl (fun _ => 0))), (q26, .inl (gA Γ 0, 2, .inl (fun _ => 0))), (q33, .inl (gA Γ 0, 2, .inl (fun _ => 0)))]) s _ _ := hB
  refine lv_aload_n M.1 M.2.1 dX3_init_38 rfl (lv_at hl 0 rfl) ?_
  refine lv_iconst (v := 0) M.1 M.2.1 dX3_init_39 (by decide) ?_
  refine n_put (ci := 3) (C := RX3) (T := TX3) (N := 16) (v := .int 0) M K hB in_X3 tyX3 tyX3_ok nmX3 0 rfl rfl 4 (by decide) rfl (Or.inl rfl) vd_14 rfl rfl (Nat.le_of_ble_eq_true rfl) dX3_init_40 (fun H locs hB => ?_)
  have hB : Nb Γ base (ws ++ [(h0, .inr (3, [.ref q8, .ref q19, .ref q26, .ref q33, .int 0, .int 0, .int 0, .int 0, .int 0, .int 0, .int 0, .int 0, .int 0, .int 0, .int 0, .int 0])), (q8, .inl (gA Γ 0, 8, .inl (tb 5))), (q19, .inl (gA Γ 0, 2, .inl (fun _ => 0))), (q26, .inl (gA Γ 0, 2, .inl (fun _ => 0))), (q33, .inl (gA Γ 0, 2, .inl (fun _ => 0)))]) s _ _ := hB
  refine lv_aload_n M.1 M.2.1 dX3_init_43 rfl (lv_at hl 0 rfl) ?_
  refine lv_iconst (v := 0) M.1 M.2.1 dX3_init_44 (by decide) ?_
  refine n_put (ci := 3) (C := RX3) (T := TX3) (N := 16) (v := .int 0) M K hB in_X3 tyX3 tyX3_ok nmX3 0 rfl rfl 5 (by decide) rfl (Or.inl rfl) vd_15 rfl rfl (Nat.le_of_ble_eq_true rfl) dX3_init_45 (fun H locs hB => ?_)
  have hB : Nb Γ base (ws ++ [(h0, .inr (3, [.ref q8, .ref q19, .ref q26, .ref q33, .int 0, .int 0, .int 0, .int 0, .int 0, .int 0, .int 0, .int 0, .int 0, .int 0, .int 0, .int 0])), (q8, .inl (gA Γ 0, 8, .inl (tb 5))), (q19, .inl (gA Γ 0, 2, .inl (fun _ => 0))), (q26, .inl (gA Γ 0, 2, .inl (fun _ => 0))), (q33, .inl (gA Γ 0, 2, .inl (fun _ => 0)))]) s _ _ := hB
  refine lv_aload_n M.1 M.2.1 dX3_init_48 rfl (lv_at hl 0 rfl) ?_
  refine lv_iconst (v := 0) M.1 M.2.1 dX3_init_49 (by decide) ?_
  refine n_put (ci := 3) (C := RX3) (T := TX3) (N := 16) (v := .int 0) M K hB in_X3 tyX3 tyX3_ok nmX3 0 rfl rfl 6 (by decide) rfl (Or.inl rfl) vd_16 rfl rfl (Nat.le_of_ble_eq_true rfl) dX3_init_50 (fun H locs hB => ?_)
  have hB : Nb Γ base (ws ++ [(h0, .inr (3, [.ref q8, .ref q19, .ref q26, .ref q33, .int 0, .int 0, .int 0, .int 0, .int 0, .int 0, .int 0, .int 0, .int 0, .int 0, .int 0, .int 0])), (q8, .inl (gA Γ 0, 8, .inl (tb 5))), (q19, .inl (gA Γ 0, 2, .inl (fun _ => 0))), (q26, .inl (gA Γ 0, 2, .inl (fun _ => 0))), (q33, .inl (gA Γ 0, 2, .inl (fun _ => 0)))]) s _ _ := hB
  refine lv_aload_n M.1 M.2.1 dX3_init_53 rfl (lv_at hl 0 rfl) ?_
  refine lv_iconst (v := 0) M.1 M.2.1 dX3_init_54 (by decide) ?_
  refine n_put (ci := 3) (C := RX3) (T := TX3) (N := 16) (v := .int 0) M K hB in_X3 tyX3 tyX3_ok nmX3 0 rfl rfl 7 (by decide) rfl (Or.inl rfl) vd_17 rfl rfl (Nat.le_of_ble_eq_true rfl) dX3_init_55 (fun H locs hB => ?_)
  have hB : Nb Γ base (ws ++ [(h0, .inr (3, [.ref q8, .ref q19, .ref q26, .ref q33, .int 0, .int 0, .int 0, .int 0, .int 0, .int 0, .int 0, .int 0, .int 0, .int 0, .int 0, .int 0])), (q8, .inl (gA Γ 0, 8, .inl (tb 5))), (q19, .inl (gA Γ 0, 2, .inl (fun _ => 0))), (q26, .inl (gA Γ 0, 2, .inl (fun _ => 0))), (q33, .inl (gA Γ 0, 2, .inl (fun _ => 0)))]) s _ _ := hB
  refine lv_aload_n M.1 M.2.1 dX3_init_58 rfl (lv_at hl 0 rfl) ?_
  refine lv_iconst (v := 0) M.1 M.2.1 dX3_init_59 (by decide) ?_
  refine n_put (ci := 3) (C := RX3) (T := TX3) (N := 16) (v := .int 0) M K hB in_X3 tyX3 tyX3_ok nmX3 0 rfl rfl 8 (by decide) rfl (Or.inl rfl) vd_18 rfl rfl (Nat.le_of_ble_eq_true rfl) dX3_init_60 (fun H locs hB => ?_)
  have hB : Nb Γ base (ws ++ [(h0, .inr (3, [.ref q8, .ref q19, .ref q26, .ref q33, .int 0, .int 0, .int 0, .int 0, .int 0, .int 0, .int 0, .int 0, .int 0, .int 0, .int 0, .int 0])), (q8, .inl (gA Γ 0, 8, .inl (tb 5))), (q19, .inl (gA Γ 0, 2, .inl (fun _ => 0))), (q26, .inl (gA Γ 0, 2, .inl (fun _ => 0))), (q33, .inl (gA Γ 0, 2, .inl (fun _ => 0)))]) s _ _ := hB
  refine lv_aload_n M.1 M.2.1 dX3_init_63 rfl (lv_at hl 0 rfl) ?_
  refine lv_iconst (v := 0) M.1 M.2.1 dX3_init_64 (by decide) ?_
  refine n_put (ci := 3) (C := RX3) (T := TX3) (N := 16) (v := .int 0) M K hB in_X3 tyX3 tyX3_ok nmX3 0 rfl rfl 9 (by decide) rfl (Or.inl rfl) vd_19 rfl rfl (Nat.le_of_ble_eq_true rfl) dX3_init_65 (fun H locs hB => ?_)
  have hB : Nb Γ base (ws ++ [(h0, .inr (3, [.ref q8, .ref q19, .ref q26, .ref q33, .int 0, .int 0, .int 0, .int 0, .int 0, .int 0, .int 0, .int 0, .int 0, .int 0, .int 0, .int 0])), (q8, .inl (gA Γ 0, 8, .inl (tb 5))), (q19, .inl (gA Γ 0, 2, .inl (fun _ => 0))), (q26, .inl (gA Γ 0, 2, .inl (fun _ => 0))), (q33, .inl (gA Γ 0, 2, .inl (fun _ => 0)))]) s _ _ := hB
  refine lv_aload_n M.1 M.2.1 dX3_init_68 rfl (lv_at hl 0 rfl) ?_
  refine lv_iconst (v := 0) M.1 M.2.1 dX3_init_69 (by decide) ?_
  refine n_put (ci := 3) (C := RX3) (T := TX3) (N := 16) (v := .int 0) M K hB in_X3 tyX3 tyX3_ok nmX3 0 rfl rfl 10 (by decide) rfl (Or.inl rfl) vd_20 rfl rfl (Nat.le_of_ble_eq_true rfl) dX3_init_70 (fun H locs hB => ?_)
  have hB : Nb Γ base (ws ++ [(h0, .inr (3, [.ref q8, .ref q19, .ref q26, .ref q33, .int 0, .int 0, .int 0, .int 0, .int 0, .int 0, .int 0, .int 0, .int 0, .int 0, .int 0, .int 0])), (q8, .inl (gA Γ 0, 8, .inl (tb 5))), (q19, .inl (gA Γ 0, 2, .inl (fun _ => 0))), (q26, .inl (gA Γ 0, 2, .inl (fun _ => 0))), (q33, .inl (gA Γ 0, 2, .inl (fun _ => 0)))]) s _ _ := hB
  refine lv_aload_n M.1 M.2.1 dX3_init_73 rfl (lv_at hl 0 rfl) ?_
  refine lv_iconst (v := 0) M.1 M.2.1 dX3_init_74 (by decide) ?_
  refine n_put (ci := 3) (C := RX3) (T := TX3) (N := 16) (v := .int 0) M K hB in_X3 tyX3 tyX3_ok nmX3 0 rfl rfl 11 (by decide) rfl (Or.inl rfl) vd_21 rfl rfl (Nat.le_of_ble_eq_true rfl) dX3_init_75 (fun H locs hB => ?_)
  have hB : Nb Γ base (ws ++ [(h0, .inr (3, [.ref q8, .ref q19, .ref q26, .ref q33, .int 0, .int 0, .int 0, .int 0, .int 0, .int 0, .int 0, .int 0, .int 0, .int 0, .int 0, .int 0])), (q8, .inl (gA Γ 0, 8, .inl (tb 5))), (q19, .inl (gA Γ 0, 2, .inl (fun _ => 0))), (q26, .inl (gA Γ 0, 2, .inl (fun _ => 0))), (q33, .inl (gA Γ 0, 2, .inl (fun _ => 0)))]) s _ _ := hB
  refine lv_aload_n M.1 M.2.1 dX3_init_78 rfl (lv_at hl 0 rfl) ?_
  refine lv_iconst (v := 0) M.1 M.2.1 dX3_init_79 (by decide) ?_
  refine n_put (ci := 3) (C := RX3) (T := TX3) (N := 16) (v := .int 0) M K hB in_X3 tyX3 tyX3_ok nmX3 0 rfl rfl 12 (by decide) rfl (Or.inl rfl) vd_22 rfl rfl (Nat.le_of_ble_eq_true rfl) dX3_init_80 (fun H locs hB => ?_)
  have hB : Nb Γ base (ws ++ [(h0, .inr (3, [.ref q8, .ref q19, .ref q26, .ref q33, .int 0, .int 0, .int 0, .int 0, .int 0, .int 0, .int 0, .int 0, .int 0, .int 0, .int 0, .int 0])), (q8, .inl (gA Γ 0, 8, .inl (tb 5))), (q19, .inl (gA Γ 0, 2, .inl (fun _ => 0))), (q26, .inl (gA Γ 0, 2, .inl (fun _ => 0))), (q33, .inl (gA Γ 0, 2, .inl (fun _ => 0)))]) s _ _ := hB
  refine lv_aload_n M.1 M.2.1 dX3_init_83 rfl (lv_at hl 0 rfl) ?_
  refine lv_iconst (v := 0) M.1 M.2.1 dX3_init_84 (by decide) ?_
  refine n_put (ci := 3) (C := RX3) (T := TX3) (N := 16) (v := .int 0) M K hB in_X3 tyX3 tyX3_ok nmX3 0 rfl rfl 13 (by decide) rfl (Or.inl rfl) vd_23 rfl rfl (Nat.le_of_ble_eq_true rfl) dX3_init_85 (fun H locs hB => ?_)
  have hB : Nb Γ base (ws ++ [(h0, .inr (3, [.ref q8, .ref q19, .ref q26, .ref q33, .int 0, .int 0, .int 0, .int 0, .int 0, .int 0, .int 0, .int 0, .int 0, .int 0, .int 0, .int 0])), (q8, .inl (gA Γ 0, 8, .inl (tb 5))), (q19, .inl (gA Γ 0, 2, .inl (fun _ => 0))), (q26, .inl (gA Γ 0, 2, .inl (fun _ => 0))), (q33, .inl (gA Γ 0, 2, .inl (fun _ => 0)))]) s _ _ := hB
  refine lv_aload_n M.1 M.2.1 dX3_init_88 rfl (lv_at hl 0 rfl) ?_
  refine lv_iconst (v := 0) M.1 M.2.1 dX3_init_89 (by decide) ?_
  refine n_put (ci := 3) (C := RX3) (T := TX3) (N := 16) (v := .int 0) M K hB in_X3 tyX3 tyX3_ok nmX3 0 rfl rfl 14 (by decide) rfl (Or.inl rfl) vd_24 rfl rfl (Nat.le_of_ble_eq_true rfl) dX3_init_90 (fun H locs hB => ?_)
  have hB : Nb Γ base (ws ++ [(h0, .inr (3, [.ref q8, .ref q19, .ref q26, .ref q33, .int 0, .int 0, .int 0, .int 0, .int 0, .int 0, .int 0, .int 0, .int 0, .int 0, .int 0, .int 0])), (q8, .inl (gA Γ 0, 8, .inl (tb 5))), (q19, .inl (gA Γ 0, 2, .inl (fun _ => 0))), (q26, .inl (gA Γ 0, 2, .inl (fun _ => 0))), (q33, .inl (gA Γ 0, 2, .inl (fun _ => 0)))]) s _ _ := hB
  refine lv_aload_n M.1 M.2.1 dX3_init_93 rfl (lv_at hl 0 rfl) ?_
  refine lv_iconst (v := 0) M.1 M.2.1 dX3_init_94 (by decide) ?_
  refine n_put (ci := 3) (C := RX3) (T := TX3) (N := 16) (v := .int 0) M K hB in_X3 tyX3 tyX3_ok nmX3 0 rfl rfl 15 (by decide) rfl (Or.inl rfl) vd_25 rfl rfl (Nat.le_of_ble_eq_true rfl) dX3_init_95 (fun H locs hB => ?_)
  have hB : Nb Γ base (ws ++ [(h0, .inr (3, [.ref q8, .ref q19, .ref q26, .ref q33, .int 0, .int 0, .int 0, .int 0, .int 0, .int 0, .int 0, .int 0, .int 0, .int 0, .int 0, .int 0])), (q8, .inl (gA Γ 0, 8, .inl (tb 5))), (q19, .inl (gA Γ 0, 2, .inl (fun _ => 0))), (q26, .inl (gA Γ 0, 2, .inl (fun _ => 0))), (q33, .inl (gA Γ 0, 2, .inl (fun _ => 0)))]) s _ _ := hB
  exact n_vret (seg := sg_X3_init Γ h0) (q8, q19, q26, q33) M hB dX3_init_98
def sg_X1_init (Γ : GG) (h0 : Nat) (u : Nat) : va_W := [(h0, .inr (1, [.ref u, .int 0])), (u, .inl (gA Γ 0, 80, .inl (fun _ => 0)))]
set_option maxHeartbeats 4000000 in
set_option maxRecDepth 100000 in
theorem c_X1_init (l : Launch) (Γ : GG) (base : Nat) (ws : va_W) (h0 : Nat) : Met l yX1_init (Cond.code yX1_init cX1_init 1 none :: gtb) { frames := 1, cells := 1, slots := 80, locals := 22 } (va_Pc [.ref h0] (NC Γ base ws h0 1 [.null, .int 0])) (QN Γ base ws (sg_X1_init Γ h0)) 1 80 (Ab base) := by
  refine n_met (by decide) rfl (Nat.le_of_ble_eq_true rfl) ?_
  intro p e s m args below meth c M hin K hb0 ls hl hB
  refine lv_aload_n M.1 M.2.1 dX1_init_0 rfl (lv_at hl 0 rfl) ?_
  refine n_obj M hl.1 vd_26 vd_1 vd_2 dX1_init_1 (Nat.le_of_ble_eq_true rfl) (Nat.le_of_ble_eq_true rfl) ?_
  refine lv_aload_n M.1 M.2.1 dX1_init_4 rfl (lv_at hl 0 rfl) ?_
  refine lv_bipush (v := 80) M.1 M.2.1 dX1_init_5 (by decide) ?_
  refine n_newa (atype := .int) (ty := .int) 0 rfl (fun U cA h => h) M K hb0 hB vd_10 rfl (fun cA => rfl) (by decide) (N' := 80) (by decide) (by decide) (Nat.le_of_ble_eq_true rfl) (Nat.le_of_ble_eq_true rfl) dX1_init_7 (fun q7 H hB => ?_)
  have hB : Nb Γ base (ws ++ [(h0, .inr (1, [.null, .int 0])), (q7, .inl (gA Γ 0, 80, .inl (fun _ => 0)))]) s _ _ := hB
  refine n_put (ci := 1) (C := RX1) (T := TX1) (N := 2) (v := .ref q7) M K hB in_X1 tyX1 tyX1_ok nmX1 0 rfl rfl 0 (by decide) rfl (Or.inr ⟨rfl, hin, rfl⟩) vd_27 rfl rfl (Nat.le_of_ble_eq_true rfl) dX1_init_9 (fun H locs hB => ?_)
  have hB : Nb Γ base (ws ++ [(h0, .inr (1, [.ref q7, .int 0])), (q7, .inl (gA Γ 0, 80, .inl (fun _ => 0)))]) s _ _ := hB
  refine lv_aload_n M.1 M.2.1 dX1_init_12 rfl (lv_at hl 0 rfl) ?_
  refine lv_iconst (v := 0) M.1 M.2.1 dX1_init_13 (by decide) ?_
  refine n_put (ci := 1) (C := RX1) (T := TX1) (N := 2) (v := .int 0) M K hB in_X1 tyX1 tyX1_ok nmX1 0 rfl rfl 1 (by decide) rfl (Or.inl rfl) vd_28 rfl rfl (Nat.le_of_ble_eq_true rfl) dX1_init_14 (fun H locs hB => ?_)
  have hB : Nb Γ base (ws ++ [(h0, .inr (1, [.ref q7, .int 0])), (q7, .inl (gA Γ 0, 80, .inl (fun _ => 0)))]) s _ _ := hB
  exact n_vret (seg := sg_X1_init Γ h0) q7 M hB dX1_init_17
def sg_X2_init (Γ : GG) (h0 : Nat) (u : Nat × Nat × Nat × Nat × Nat × Nat) : va_W := [(h0, .inr (2, [.ref u.1, .int 0, .int 0, .int 0, .ref u.2.1, .ref u.2.2.1, .ref u.2.2.2.1, .ref u.2.2.2.2.1, .ref u.2.2.2.2.2])), (u.1, .inl (gA Γ 1, 60, .inl (fun _ => 0))), (u.2.1, .inl (gA Γ 0, 20, .inl (fun _ => 0))), (u.2.2.1, .inl (gA Γ 0, 20, .inl (fun _ => 0))), (u.2.2.2.1, .inl (gA Γ 0, 20, .inl (fun _ => 0))), (u.2.2.2.2.1, .inl (gA Γ 0, 20, .inl (fun _ => 0))), (u.2.2.2.2.2, .inl (gA Γ 0, 20, .inl (fun _ => 0)))]
set_option maxHeartbeats 4000000 in
set_option maxRecDepth 100000 in
theorem c_X2_init (l : Launch) (Γ : GG) (base : Nat) (ws : va_W) (h0 : Nat) : Met l yX2_init (Cond.code yX2_init cX2_init 1 none :: gtb) { frames := 1, cells := 6, slots := 160, locals := 22 } (va_Pc [.ref h0] (NC Γ base ws h0 2 [.null, .int 0, .int 0, .int 0, .null, .null, .null, .null, .null])) (QN Γ base ws (sg_X2_init Γ h0)) 6 160 (Ab base) := by
  refine n_met (by decide) rfl (Nat.le_of_ble_eq_true rfl) ?_
  intro p e s m args below meth c M hin K hb0 ls hl hB
  refine lv_aload_n M.1 M.2.1 dX2_init_0 rfl (lv_at hl 0 rfl) ?_
  refine n_obj M hl.1 vd_29 vd_1 vd_2 dX2_init_1 (Nat.le_of_ble_eq_true rfl) (Nat.le_of_ble_eq_true rfl) ?_
  refine lv_aload_n M.1 M.2.1 dX2_init_4 rfl (lv_at hl 0 rfl) ?_
  refine lv_bipush (v := 60) M.1 M.2.1 dX2_init_5 (by decide) ?_
  refine n_newa (atype := .char) (ty := .char) 1 rfl (fun U cA h => h) M K hb0 hB vd_30 rfl (fun cA => rfl) (by decide) (N' := 60) (by decide) (by decide) (Nat.le_of_ble_eq_true rfl) (Nat.le_of_ble_eq_true rfl) dX2_init_7 (fun q7 H hB => ?_)
  have hB : Nb Γ base (ws ++ [(h0, .inr (2, [.null, .int 0, .int 0, .int 0, .null, .null, .null, .null, .null])), (q7, .inl (gA Γ 1, 60, .inl (fun _ => 0)))]) s _ _ := hB
  refine n_put (ci := 2) (C := RX2) (T := TX2) (N := 9) (v := .ref q7) M K hB in_X2 tyX2 tyX2_ok nmX2 0 rfl rfl 0 (by decide) rfl (Or.inr ⟨rfl, hin, rfl⟩) vd_31 rfl rfl (Nat.le_of_ble_eq_true rfl) dX2_init_9 (fun H locs hB => ?_)
  have hB : Nb Γ base (ws ++ [(h0, .inr (2, [.ref q7, .int 0, .int 0, .int 0, .null, .null, .null, .null, .null])), (q7, .inl (gA Γ 1, 60, .inl (fun _ => 0)))]) s _ _ := hB
  refine lv_aload_n M.1 M.2.1 dX2_init_12 rfl (lv_at hl 0 rfl) ?_
  refine lv_iconst (v := 0) M.1 M.2.1 dX2_init_13 (by decide) ?_
  refine n_put (ci := 2) (C := RX2) (T := TX2) (N := 9) (v := .int 0) M K hB in_X2 tyX2 tyX2_ok nmX2 0 rfl rfl 1 (by decide) rfl (Or.inl rfl) vd_32 rfl rfl (Nat.le_of_ble_eq_true rfl) dX2_init_14 (fun H locs hB => ?_)
  have hB : Nb Γ base (ws ++ [(h0, .inr (2, [.ref q7, .int 0, .int 0, .int 0, .null, .null, .null, .null, .null])), (q7, .inl (gA Γ 1, 60, .inl (fun _ => 0)))]) s _ _ := hB
  refine lv_aload_n M.1 M.2.1 dX2_init_17 rfl (lv_at hl 0 rfl) ?_
  refine lv_iconst (v := 0) M.1 M.2.1 dX2_init_18 (by decide) ?_
  refine n_put (ci := 2) (C := RX2) (T := TX2) (N := 9) (v := .int 0) M K hB in_X2 tyX2 tyX2_ok nmX2 0 rfl rfl 2 (by decide) rfl (Or.inl rfl) vd_33 rfl rfl (Nat.le_of_ble_eq_true rfl) dX2_init_19 (fun H locs hB => ?_)
  have hB : Nb Γ base (ws ++ [(h0, .inr (2, [.ref q7, .int 0, .int 0, .int 0, .null, .null, .null, .null, .null])), (q7, .inl (gA Γ 1, 60, .inl (fun _ => 0)))]) s _ _ := hB
  refine lv_aload_n M.1 M.2.1 dX2_init_22 rfl (lv_at hl 0 rfl) ?_
  refine lv_iconst (v := 0) M.1 M.2.1 dX2_init_23 (by decide) ?_
  refine n_put (ci := 2) (C := RX2) (T := TX2) (N := 9) (v := .int 0) M K hB in_X2 tyX2 tyX2_ok nmX2 0 rfl rfl 3 (by decide) rfl (Or.inl rfl) vd_34 rfl rfl (Nat.le_of_ble_eq_true rfl) dX2_init_24 (fun H locs hB => ?_)
  have hB : Nb Γ base (ws ++ [(h0, .inr (2, [.ref q7, .int 0, .int 0, .int 0, .null, .null, .null, .null, .null])), (q7, .inl (gA Γ 1, 60, .inl (fun _ => 0)))]) s _ _ := hB
  refine lv_aload_n M.1 M.2.1 dX2_init_27 rfl (lv_at hl 0 rfl) ?_
  refine lv_bipush (v := 20) M.1 M.2.1 dX2_init_28 (by decide) ?_
  refine n_newa (atype := .int) (ty := .int) 0 rfl (fun U cA h => h) M K hb0 hB vd_10 rfl (fun cA => rfl) (by decide) (N' := 20) (by decide) (by decide) (Nat.le_of_ble_eq_true rfl) (Nat.le_of_ble_eq_true rfl) dX2_init_30 (fun q30 H hB => ?_)
  have hB : Nb Γ base (ws ++ [(h0, .inr (2, [.ref q7, .int 0, .int 0, .int 0, .null, .null, .null, .null, .null])), (q7, .inl (gA Γ 1, 60, .inl (fun _ => 0))), (q30, .inl (gA Γ 0, 20, .inl (fun _ => 0)))]) s _ _ := hB
  refine n_put (ci := 2) (C := RX2) (T := TX2) (N := 9) (v := .ref q30) M K hB in_X2 tyX2 tyX2_ok nmX2 0 rfl rfl 4 (by decide) rfl (Or.inr ⟨rfl, hin, rfl⟩) vd_35 rfl rfl (Nat.le_of_ble_eq_true rfl) dX2_init_32 (fun H locs hB => ?_)
  have hB : Nb Γ base (ws ++ [(h0, .inr (2, [.ref q7, .int 0, .int 0, .int 0, .ref q30, .null, .null, .null, .null])), (q7, .inl (gA Γ 1, 60, .inl (fun _ => 0))), (q30, .inl (gA Γ 0, 20, .inl (fun _ => 0)))]) s _ _ := hB
  refine lv_aload_n M.1 M.2.1 dX2_init_35 rfl (lv_at hl 0 rfl) ?_
  refine lv_bipush (v := 20) M.1 M.2.1 dX2_init_36 (by decide) ?_
  refine n_newa (atype := .int) (ty := .int) 0 rfl (fun U cA h => h) M K hb0 hB vd_10 rfl (fun cA => rfl) (by decide) (N' := 20) (by decide) (by decide) (Nat.le_of_ble_eq_true rfl) (Nat.le_of_ble_eq_true rfl) dX2_init_38 (fun q38 H hB => ?_)
  have hB : Nb Γ base (ws ++ [(h0, .inr (2, [.ref q7, .int 0, .int 0, .int 0, .ref q30, .null, .null, .null, .null])), (q7, .inl (gA Γ 1, 60, .inl (fun _ => 0))), (q30, .inl (gA Γ 0, 20, .inl (fun _ => 0))), (q38, .inl (gA Γ 0, 20, .inl (fun _ => 0)))]) s _ _ := hB
  refine n_put (ci := 2) (C := RX2) (T := TX2) (N := 9) (v := .ref q38) M K hB in_X2 tyX2 tyX2_ok nmX2 0 rfl rfl 5 (by decide) rfl (Or.inr ⟨rfl, hin, rfl⟩) vd_36 rfl rfl (Nat.le_of_ble_eq_true rfl) dX2_init_40 (fun H locs hB => ?_)
  have hB : Nb Γ base (ws ++ [(h0, .inr (2, [.ref q7, .int 0, .int 0, .int 0, .ref q30, .ref q38, .null, .null, .null])), (q7, .inl (gA Γ 1, 60, .inl (fun _ => 0))), (q30, .inl (gA Γ 0, 20, .inl (fun _ => 0))), (q38, .inl (gA Γ 0, 20, .inl (fun _ => 0)))]) s _ _ := hB
  refine lv_aload_n M.1 M.2.1 dX2_init_43 rfl (lv_at hl 0 rfl) ?_
  refine lv_bipush (v := 20) M.1 M.2.1 dX2_init_44 (by decide) ?_
  refine n_newa (atype := .int) (ty := .int) 0 rfl (fun U cA h => h) M K hb0 hB vd_10 rfl (fun cA => rfl) (by decide) (N' := 20) (by decide) (by decide) (Nat.le_of_ble_eq_true rfl) (Nat.le_of_ble_eq_true rfl) dX2_init_46 (fun q46 H hB => ?_)
  have hB : Nb Γ base (ws ++ [(h0, .inr (2, [.ref q7, .int 0, .int 0, .int 0, .ref q30, .ref q38, .null, .null, .null])), (q7, .inl (gA Γ 1, 60, .inl (fun _ => 0))), (q30, .inl (gA Γ 0, 20, .inl (fun _ => 0))), (q38, .inl (gA Γ 0, 20, .inl (fun _ => 0))), (q46, .inl (gA Γ 0, 20, .inl (fun _ => 0)))]) s _ _ := hB
  refine n_put (ci := 2) (C := RX2) (T := TX2) (N := 9) (v := .ref q46) M K hB in_X2 tyX2 tyX2_ok nmX2 0 rfl rfl 6 (by decide) rfl (Or.inr ⟨rfl, hin, rfl⟩) vd_37 rfl rfl (Nat.le_of_ble_eq_true rfl) dX2_init_48 (fun H locs hB => ?_)
  have hB : Nb Γ base (ws ++ [(h0, .inr (2, [.ref q7, .int 0, .int 0, .int 0, .ref q30, .ref q38, .ref q46, .null, .null])), (q7, .inl (gA Γ 1, 60, .inl (fun _ => 0))), (q30, .inl (gA Γ 0, 20, .inl (fun _ => 0))), (q38, .inl (gA Γ 0, 20, .inl (fun _ => 0))), (q46, .inl (gA Γ 0, 20, .inl (fun _ => 0)))]) s _ _ := hB
  refine lv_aload_n M.1 M.2.1 dX2_init_51 rfl (lv_at hl 0 rfl) ?_
  refine lv_bipush (v := 20) M.1 M.2.1 dX2_init_52 (by decide) ?_
  refine n_newa (atype := .int) (ty := .int) 0 rfl (fun U cA h => h) M K hb0 hB vd_10 rfl (fun cA => rfl) (by decide) (N' := 20) (by decide) (by decide) (Nat.le_of_ble_eq_true rfl) (Nat.le_of_ble_eq_true rfl) dX2_init_54 (fun q54 H hB => ?_)
  have hB : Nb Γ base (ws ++ [(h0, .inr (2, [.ref q7, .int 0, .int 0, .int 0, .ref q30, .ref q38, .ref q46, .null, .null])), (q7, .inl (gA Γ 1, 60, .inl (fun _ => 0))), (q30, .inl (gA Γ 0, 20, .inl (fun _ => 0))), (q38, .inl (gA Γ 0, 20, .inl (fun _ => 0))), (q46, .inl (gA Γ 0, 20, .inl (fun _ => 0))), (q54, .inl (gA Γ 0, 20, .inl (fun _ => 0)))]) s _ _ := hB
  refine n_put (ci := 2) (C := RX2) (T := TX2) (N := 9) (v := .ref q54) M K hB in_X2 tyX2 tyX2_ok nmX2 0 rfl rfl 7 (by decide) rfl (Or.inr ⟨rfl, hin, rfl⟩) vd_38 rfl rfl (Nat.le_of_ble_eq_true rfl) dX2_init_56 (fun H locs hB => ?_)
  have hB : Nb Γ base (ws ++ [(h0, .inr (2, [.ref q7, .int 0, .int 0, .int 0, .ref q30, .ref q38, .ref q46, .ref q54, .null])), (q7, .inl (gA Γ 1, 60, .inl (fun _ => 0))), (q30, .inl (gA Γ 0, 20, .inl (fun _ => 0))), (q38, .inl (gA Γ 0, 20, .inl (fun _ => 0))), (q46, .inl (gA Γ 0, 20, .inl (fun _ => 0))), (q54, .inl (gA Γ 0, 20, .inl (fun _ => 0)))]) s _ _ := hB
  refine lv_aload_n M.1 M.2.1 dX2_init_59 rfl (lv_at hl 0 rfl) ?_
  refine lv_bipush (v := 20) M.1 M.2.1 dX2_init_60 (by decide) ?_
  refine n_newa (atype := .int) (ty := .int) 0 rfl (fun U cA h => h) M K hb0 hB vd_10 rfl (fun cA => rfl) (by decide) (N' := 20) (by decide) (by decide) (Nat.le_of_ble_eq_true rfl) (Nat.le_of_ble_eq_true rfl) dX2_init_62 (fun q62 H hB => ?_)
  have hB : Nb Γ base (ws ++ [(h0, .inr (2, [.ref q7, .int 0, .int 0, .int 0, .ref q30, .ref q38, .ref q46, .ref q54, .null])), (q7, .inl (gA Γ 1, 60, .inl (fun _ => 0))), (q30, .inl (gA Γ 0, 20, .inl (fun _ => 0))), (q38, .inl (gA Γ 0, 20, .inl (fun _ => 0))), (q46, .inl (gA Γ 0, 20, .inl (fun _ => 0))), (q54, .inl (gA Γ 0, 20, .inl (fun _ => 0))), (q62, .inl (gA Γ 0, 20, .inl (fun _ => 0)))]) s _ _ := hB
  refine n_put (ci := 2) (C := RX2) (T := TX2) (N := 9) (v := .ref q62) M K hB in_X2 tyX2 tyX2_ok nmX2 0 rfl rfl 8 (by decide) rfl (Or.inr ⟨rfl, hin, rfl⟩) vd_39 rfl rfl (Nat.le_of_ble_eq_true rfl) dX2_init_64 (fun H locs hB => ?_)
  have hB : Nb Γ base (ws ++ [(h0, .inr (2, [.ref q7, .int 0, .int 0, .int 0, .ref q30, .ref q38, .ref q46, .ref q54, .ref q62])), (q7, .inl (gA Γ 1, 60, .inl (fun _ => 0))), (q30, .inl (gA Γ 0, 20, .inl (fun _ => 0))), (q38, .inl (gA Γ 0, 20, .inl (fun _ => 0))), (q46, .inl (gA Γ 0, 20, .inl (fun _ => 0))), (q54, .inl (gA Γ 0, 20, .inl (fun _ => 0))), (q62, .inl (gA Γ 0, 20, .inl (fun _ => 0)))]) s _ _ := hB
  exact n_vret (seg := sg_X2_init Γ h0) (q7, q30, q38, q46, q54, q62) M hB dX2_init_67
