/-! ROWS over the picture -/
section RW
variable {p : Program} {l : Launch} {e : Env} {R : Room} {s : State} {m : MethodId} {args : Array Value} {below : List Frame} {meth : Method} {c : Code} {H : Heap} {locs : List Loc} {cells slots : Nat} {Q : State → Prop}
variable {cc : ByteArray} {pc : Nat} {ls : Array Slot} {rest : List Value} {Γ : GG} {σ : Sg} {own : String} {nL : Nat} {ret : Option FieldType}
theorem x_get {q ci N : Nat} {C : String} {T : u_T} {fs : List Value} (M : MX own cc nL ret p s m args meth c) (K : KK Γ s s.heap) (hB : Bd Γ σ s H locs) (hq : q < 153) (he : ent Γ σ q = .inr (ci, fs)) (hc : classes[ci]? = some (C, T, N)) (hin : ∀ w ∈ u_ws C T N, w ∈ gtb) {index : Nat} (k : Nat) (hk : k < N) (hC : (T k).1 = C) (hlink : Cond.fieldLink own index C (T k).2.1 (T k).2.2.1 ∈ gtb) {v : Value} (hv : fs[k]? = some v) (hdg : decode cc pc = .ok (.getfield index, 3))
    (kk : W p l e R s m args below meth c H locs cells slots Q (F0 m (pc + 3) ls (v :: rest))) : W p l e R s m args below meth c H locs cells slots Q (F0 m pc ls (.ref (Γ.1 q) :: rest)) := by
  obtain ⟨hx, hb, hml, hown, hts, -⟩ := M
  exact va_get (D := gD Γ) (cl := classes) (tys := gtys Γ) (ws := pic Γ σ) (C := C) (T := T) (N := N) (ci := ci) hx hb hts hin hown K.1 hB.1 q (by rw [pic_get hq, he]) hc k hk (hts _ hlink) (fun x h => by rw [hC] at h; exact h) hv hdg kk
theorem x_put {q ci N : Nat} {C : String} {T : u_T} {fs : List Value} {σ' : Sg} (M : MX own cc nL ret p s m args meth c) (K : KK Γ s s.heap) (hB : Bd Γ σ s H locs) (hq : q < 153) (he : ent Γ σ q = .inr (ci, fs)) (hc : classes[ci]? = some (C, T, N)) (hin : ∀ w ∈ u_ws C T N, w ∈ gtb) (ty0 : Nat → FieldType) (hty : ∀ k, k < N → parseFieldDescriptor (T k).2.2.1 = some (ty0 k)) (hnm : ∀ a, a < N → ∀ b, b < N → a ≠ b → (T a).2.1 ≠ (T b).2.1) {index : Nat} (k : Nat) (hk : k < N) (hC : (T k).1 = C) (hfin : (T k).2.2.2 = false) (hlink : Cond.fieldLink own index C (T k).2.1 (T k).2.2.1 ∈ gtb) {v : Value} (hn : narrow (ty0 k) v = v) (hfit : fits (ty0 k) v = true) (hl : k < fs.length) (ho : ∀ a, a ≠ q → σ' a = σ a) (he' : ent Γ σ' q = .inr (ci, fs.set k v)) (hdg : decode cc pc = .ok (.putfield index, 3))
    (kk : ∀ (H1 : Heap) (locs1 : List Loc), Bd Γ σ' s H1 locs1 → W p l e R s m args below meth c H1 locs1 cells slots Q (F0 m (pc + 3) ls rest)) : W p l e R s m args below meth c H locs cells slots Q (F0 m pc ls (v :: .ref (Γ.1 q) :: rest)) := by
  obtain ⟨hx, hb, hml, hown, hts, -⟩ := M
  refine va_put (D := gD Γ) (cl := classes) (tys := gtys Γ) (ws := pic Γ σ) (A := AD Γ) (C := C) (T := T) (N := N) (ci := ci) hx hb hts hin ty0 hty hnm hown K.1 hB.1 (pic_D K.2.2.2.2 σ) hB.2 q (by rw [pic_get hq, he]) hc k hk (hts _ hlink) (fun x h => by rw [hC] at h; exact h) hfin (hty k hk) hn hfit hl hdg (fun H1 locs1 h1 _ h3 => ?_)
  rw [pic_set ho he'] at h1
  exact kk H1 locs1 ⟨h1, h3⟩
theorem x_iald {q n : Nat} (M : MX own cc nL ret p s m args meth c) (K : KK Γ s s.heap) (hB : Bd Γ σ s H locs) (hq : isA n q) {i : Int32} (hin : vp_in i n) (hdg : decode cc pc = .ok (.iaload, 1))
    (kk : W p l e R s m args below meth c H locs cells slots Q (F0 m (pc + 1) ls (.int (σ q i.toNatClampNeg) :: rest))) : W p l e R s m args below meth c H locs cells slots Q (F0 m pc ls (.int i :: .ref (Γ.1 q) :: rest)) :=
  va_iald (D := gD Γ) (cl := classes) (tys := gtys Γ) (ws := pic Γ σ) M.1 M.2.1 K.1 hB.1 q 0 (by rw [pic_get hq.2.1, ent_6 hq.1, hq.2.2]) rfl hin hdg kk
theorem x_iast {q n : Nat} (M : MX own cc nL ret p s m args meth c) (K : KK Γ s s.heap) (hB : Bd Γ σ s H locs) (hq : isA n q) {i x : Int32} (hin : vp_in i n) (hdg : decode cc pc = .ok (.iastore, 1))
    (kk : ∀ (H1 : Heap) (locs1 : List Loc), Bd Γ (st σ q i.toNatClampNeg x) s H1 locs1 → W p l e R s m args below meth c H1 locs1 cells slots Q (F0 m (pc + 1) ls rest)) : W p l e R s m args below meth c H locs cells slots Q (F0 m pc ls (.int x :: .int i :: .ref (Γ.1 q) :: rest)) := by
  refine va_iast (D := gD Γ) (cl := classes) (tys := gtys Γ) (ws := pic Γ σ) (A := AD Γ) M.1 M.2.1 K.1 hB.1 (pic_D K.2.2.2.2 σ) hB.2 q 0 (by rw [pic_get hq.2.1, ent_6 hq.1, hq.2.2]) rfl hin hdg (fun H1 locs1 h1 _ h3 => ?_)
  rw [pic_set (σ' := st σ q i.toNatClampNeg x) (fun a h => st_o a h) (by rw [ent_6 hq.1, hq.2.2, st_q])] at h1
  exact kk H1 locs1 ⟨h1, h3⟩
theorem x_cald {q : Nat} (M : MX own cc nL ret p s m args meth c) (K : KK Γ s s.heap) (hB : Bd Γ σ s H locs) (hq : isK 7 q) {i : Int32} (hin : vp_in i (ln q)) (hdg : decode cc pc = .ok (.caload, 1))
    (kk : W p l e R s m args below meth c H locs cells slots Q (F0 m (pc + 1) ls (.int (σ q i.toNatClampNeg) :: rest))) : W p l e R s m args below meth c H locs cells slots Q (F0 m pc ls (.int i :: .ref (Γ.1 q) :: rest)) :=
  va_cald (D := gD Γ) (cl := classes) (tys := gtys Γ) (ws := pic Γ σ) M.1 M.2.1 K.1 hB.1 q 1 (by rw [pic_get hq.2, ent_7 hq.1]) rfl hin hdg kk
theorem x_cast {q : Nat} (M : MX own cc nL ret p s m args meth c) (K : KK Γ s s.heap) (hB : Bd Γ σ s H locs) (hq : isK 7 q) {i x : Int32} (hin : vp_in i (ln q)) (hdg : decode cc pc = .ok (.castore, 1))
    (kk : ∀ (H1 : Heap) (locs1 : List Loc), Bd Γ (st σ q i.toNatClampNeg (vp_nar .char x)) s H1 locs1 → W p l e R s m args below meth c H1 locs1 cells slots Q (F0 m (pc + 1) ls rest)) : W p l e R s m args below meth c H locs cells slots Q (F0 m pc ls (.int x :: .int i :: .ref (Γ.1 q) :: rest)) := by
  refine va_cast (D := gD Γ) (cl := classes) (tys := gtys Γ) (ws := pic Γ σ) (A := AD Γ) M.1 M.2.1 K.1 hB.1 (pic_D K.2.2.2.2 σ) hB.2 q 1 (by rw [pic_get hq.2, ent_7 hq.1]) rfl hin hdg (fun H1 locs1 h1 _ h3 => ?_)
  rw [pic_set (σ' := st σ q i.toNatClampNeg (vp_nar .char x)) (fun a h => st_o a h) (by rw [ent_7 hq.1, st_q])] at h1
  exact kk H1 locs1 ⟨h1, h3⟩
theorem x_zald {q : Nat} (M : MX own cc nL ret p s m args meth c) (K : KK Γ s s.heap) (hB : Bd Γ σ s H locs) (hq : isK 8 q) {i : Int32} (hin : vp_in i (ln q)) (hdg : decode cc pc = .ok (.baload, 1))
    (kk : W p l e R s m args below meth c H locs cells slots Q (F0 m (pc + 1) ls (.int (σ q i.toNatClampNeg) :: rest))) : W p l e R s m args below meth c H locs cells slots Q (F0 m pc ls (.int i :: .ref (Γ.1 q) :: rest)) :=
  va_zald (D := gD Γ) (cl := classes) (tys := gtys Γ) (ws := pic Γ σ) M.1 M.2.1 K.1 hB.1 q 2 (by rw [pic_get hq.2, ent_8 hq.1]) rfl hin hdg kk
theorem x_zast {q : Nat} (M : MX own cc nL ret p s m args meth c) (K : KK Γ s s.heap) (hB : Bd Γ σ s H locs) (hq : isK 8 q) {i x : Int32} (hin : vp_in i (ln q)) (hdg : decode cc pc = .ok (.bastore, 1))
    (kk : ∀ (H1 : Heap) (locs1 : List Loc), Bd Γ (st σ q i.toNatClampNeg (vp_nar .boolean x)) s H1 locs1 → W p l e R s m args below meth c H1 locs1 cells slots Q (F0 m (pc + 1) ls rest)) : W p l e R s m args below meth c H locs cells slots Q (F0 m pc ls (.int x :: .int i :: .ref (Γ.1 q) :: rest)) := by
  refine va_zast (D := gD Γ) (cl := classes) (tys := gtys Γ) (ws := pic Γ σ) (A := AD Γ) M.1 M.2.1 K.1 hB.1 (pic_D K.2.2.2.2 σ) hB.2 q 2 (by rw [pic_get hq.2, ent_8 hq.1]) rfl hin hdg (fun H1 locs1 h1 _ h3 => ?_)
  rw [pic_set (σ' := st σ q i.toNatClampNeg (vp_nar .boolean x)) (fun a h => st_o a h) (by rw [ent_8 hq.1, st_q])] at h1
  exact kk H1 locs1 ⟨h1, h3⟩
theorem x_alen {q n : Nat} (M : MX own cc nL ret p s m args meth c) (K : KK Γ s s.heap) (hB : Bd Γ σ s H locs) (hq : isA n q) {v : Int32} (hv : Int32.ofNat n = v) (hdg : decode cc pc = .ok (.arraylength, 1))
    (kk : W p l e R s m args below meth c H locs cells slots Q (F0 m (pc + 1) ls (.int v :: rest))) : W p l e R s m args below meth c H locs cells slots Q (F0 m pc ls (.ref (Γ.1 q) :: rest)) :=
  va_alen (D := gD Γ) (cl := classes) (tys := gtys Γ) (ws := pic Γ σ) (x := (n, .inl (σ q))) M.1 M.2.1 K.1 hB.1 q 0 (by rw [pic_get hq.2.1, ent_6 hq.1, hq.2.2]) (ty := .int) rfl hv hdg kk
theorem x_aaldT {q : Nat} (M : MX own cc nL ret p s m args meth c) (K : KK Γ s s.heap) (hB : Bd Γ σ s H locs) (hq : isK 10 q) {i : Int32} (hin : vp_in i 6) (hdg : decode cc pc = .ok (.aaload, 1))
    (kk : W p l e R s m args below meth c H locs cells slots Q (F0 m (pc + 1) ls (.ref (Γ.1 (q + 3 + 5 * i.toNatClampNeg)) :: rest))) : W p l e R s m args below meth c H locs cells slots Q (F0 m pc ls (.int i :: .ref (Γ.1 q) :: rest)) :=
  va_aldq (D := gD Γ) (cl := classes) (tys := gtys Γ) (ws := pic Γ σ) (f := fun k => some (Γ.1 (q + 3 + 5 * k))) M.1 M.2.1 K.1 hB.1 q 4 (by rw [pic_get hq.2, ent_10 hq.1]) rfl hin hdg kk
theorem x_aaldB {q : Nat} (M : MX own cc nL ret p s m args meth c) (K : KK Γ s s.heap) (hB : Bd Γ σ s H locs) (hq : isK 9 q) {i : Int32} (hin : vp_in i 2) (hdg : decode cc pc = .ok (.aaload, 1))
    (kk : W p l e R s m args below meth c H locs cells slots Q (F0 m (pc + 1) ls (.ref (Γ.1 (q + 1 + 35 * i.toNatClampNeg)) :: rest))) : W p l e R s m args below meth c H locs cells slots Q (F0 m pc ls (.int i :: .ref (Γ.1 q) :: rest)) :=
  va_aldq (D := gD Γ) (cl := classes) (tys := gtys Γ) (ws := pic Γ σ) (f := fun k => some (Γ.1 (q + 1 + 35 * k))) M.1 M.2.1 K.1 hB.1 q 3 (by rw [pic_get hq.2, ent_9 hq.1]) rfl hin hdg kk
theorem x_copy {q0 q1 n0 n1 : Nat} (M : MX own cc nL ret p s m args meth c) (K : KK Γ s s.heap) (hB : Bd Γ σ s H locs) (hls : ls.size = nL) (hq0 : isA n0 q0) (hq1 : isA n1 q1) {index : Nat} (hlink : Cond.methodLink own index arraycopyName ∈ gtb) (hnat : Cond.native arraycopyName ∈ gtb) (hstat : Cond.static arraycopyName ∈ gtb) (hini : Cond.initialized "java/lang/System" ∈ gtb)
    {sp dp n : Int32} (h1 : ¬ sp < 0) (h2 : ¬ dp < 0) (h3 : ¬ n < 0) (h4 : sp.toNatClampNeg + n.toNatClampNeg ≤ n0) (h5 : dp.toNatClampNeg + n.toNatClampNeg ≤ n1)
    (hframes : 1 ≤ R.frames) (hlocals : (rest.map fun v => v.category).sum + (nativeFrameWords "java/lang/System" "arraycopy" 5 + 11) ≤ R.locals) (hdg : decode cc pc = .ok (.invokestatic index, 3))
    (kk : ∀ (H1 : Heap) (locs1 : List Loc), Bd Γ (sr σ q1 (va_cpy (σ q0) (σ q1) sp.toNatClampNeg dp.toNatClampNeg n.toNatClampNeg)) s H1 locs1 → W p l e R s m args below meth c H1 locs1 cells slots Q (F0 m (pc + 3) ls rest)) : W p l e R s m args below meth c H locs cells slots Q (F0 m pc ls (.int n :: .int dp :: .ref (Γ.1 q1) :: .int sp :: .ref (Γ.1 q0) :: rest)) := by
  obtain ⟨hx, hb, hml, hown, hts, -⟩ := M
  refine va_copyi (D := gD Γ) (cl := classes) (tys := gtys Γ) (ws := pic Γ σ) (A := AD Γ) (ty := .int) hx hb (hml.trans hls.symm) hown (hts _ hlink) (hts _ hnat) (hts _ hstat) (hts _ hini) K.1 hB.1 (pic_D K.2.2.2.2 σ) hB.2 q0 q1 0 0 (by rw [pic_get hq0.2.1, ent_6 hq0.1, hq0.2.2]) (by rw [pic_get hq1.2.1, ent_6 hq1.1, hq1.2.2]) rfl rfl rfl h1 h2 h3 h4 h5 (fun _ _ => rfl) hframes hlocals hdg (fun H1 locs1 g1 _ g3 => ?_)
  rw [pic_set (σ' := sr σ q1 (va_cpy (σ q0) (σ q1) sp.toNatClampNeg dp.toNatClampNeg n.toNatClampNeg)) (fun a h => sr_o a h) (by rw [ent_6 hq1.1, hq1.2.2]; simp [sr])] at g1
  exact kk H1 locs1 ⟨g1, g3⟩
theorem x_gets {index : Nat} (M : MX own cc nL ret p s m args meth c) (K : KK Γ s s.heap) (hB : Bd Γ σ s H locs) (k : Nat) (hk : k < 6) (hlink : Cond.fieldLink own index RX4 (sn k) "[I" ∈ gtb) (hdg : decode cc pc = .ok (.getstatic index, 3))
    (kk : W p l e R s m args below meth c H locs cells slots Q (F0 m (pc + 3) ls (.ref (gS Γ k) :: rest))) : W p l e R s m args below meth c H locs cells slots Q (F0 m pc ls rest) :=
  va_gets M.1 M.2.1 (K.2.2.1 k hk).1 hB.2 M.2.2.2.1 (M.2.2.2.2.1 _ hlink) (fun x h => h) hdg kk
theorem x_ti (M : MX own cc nL ret p s m args meth c) (K : KK Γ s s.heap) (hB : Bd Γ σ s H locs) {k : Nat} (hk : k < 6) {i : Int32} (hin : vp_in i 8) (hdg : decode cc pc = .ok (.iaload, 1))
    (kk : W p l e R s m args below meth c H locs cells slots Q (F0 m (pc + 1) ls (.int (tb k i.toNatClampNeg) :: rest))) : W p l e R s m args below meth c H locs cells slots Q (F0 m pc ls (.int i :: .ref (gS Γ k) :: rest)) :=
  va_ti M.1 M.2.1 (K.2.2.1 k hk).2 hB.2 hin rfl hdg kk
theorem x_tlen (M : MX own cc nL ret p s m args meth c) (K : KK Γ s s.heap) (hB : Bd Γ σ s H locs) {k : Nat} (hk : k < 6) (hdg : decode cc pc = .ok (.arraylength, 1))
    (kk : W p l e R s m args below meth c H locs cells slots Q (F0 m (pc + 1) ls (.int 8 :: rest))) : W p l e R s m args below meth c H locs cells slots Q (F0 m pc ls (.ref (gS Γ k) :: rest)) :=
  va_tlen M.1 M.2.1 (K.2.2.1 k hk).2 hB.2 rfl hdg kk
theorem x_max {index : Nat} (M : MX own cc nL ret p s m args meth c) (hls : ls.size = nL) (hlink : Cond.methodLink own index Lib.Math.max.name ∈ gtb) (hstat : Cond.static Lib.Math.max.name ∈ gtb) (hini : Cond.initialized "java/lang/Math" ∈ gtb) (hcode : Cond.code Lib.Math.max.name Lib.Math.max.code 2 (some .int) ∈ gtb)
    (hframes : 1 ≤ R.frames) (hlocals : (rest.map fun v => v.category).sum + 13 ≤ R.locals) (hc : cells ≤ R.cells) (hs : slots ≤ R.slots) {x y : Int32} (hdg : decode cc pc = .ok (.invokestatic index, 3))
    (kk : W p l e R s m args below meth c H locs cells slots Q (F0 m (pc + 3) ls (.int (if x < y then y else x) :: rest))) : W p l e R s m args below meth c H locs cells slots Q (F0 m pc ls (.int y :: .int x :: rest)) := by
  obtain ⟨hx, hb, hml, hown, hts, -⟩ := M
  exact va_mmax hx hb (hml.trans hls.symm) hown (hts _ hlink) (hts _ hstat) (hts _ hini) (hts _ hcode) hframes hlocals hc hs hdg kk
theorem x_ldc {index : Nat} {v : Int32} (M : MX own cc nL ret p s m args meth c) (hc : Cond.constant own index v ∈ gtb) (hdg : decode cc pc = .ok (.ldc index, 2)) (kk : W p l e R s m args below meth c H locs cells slots Q (F0 m (pc + 2) ls (.int v :: rest))) : W p l e R s m args below meth c H locs cells slots Q (F0 m pc ls rest) :=
  lv_ldc M.1 M.2.1 M.2.2.2.1 (M.2.2.2.2.1 _ hc) hdg kk
theorem x_ldc2 {index : Nat} {v : Int64} (M : MX own cc nL ret p s m args meth c) (hc : Cond.constantLong own index v ∈ gtb) (hdg : decode cc pc = .ok (.ldc2_w index, 3)) (kk : W p l e R s m args below meth c H locs cells slots Q (F0 m (pc + 3) ls (.long v :: rest))) : W p l e R s m args below meth c H locs cells slots Q (F0 m pc ls rest) :=
  lv_ldc2 M.1 M.2.1 M.2.2.2.1 (M.2.2.2.2.1 _ hc) hdg kk
/-- what the tables say of a method that is called: virtual, static -/
def CYv (y : MethodName) (b : ByteArray) (n : Nat) (r : Option FieldType) (np : Nat) : Prop := Cond.code y b n r ∈ gtb ∧ Cond.instanceMethod y ∈ gtb ∧ Cond.selects y.cls y y ∈ gtb ∧ Cond.initialized y.cls ∈ gtb ∧ y.cls ≠ "java/lang/invoke/MethodHandle" ∧ y.cls ≠ "java/lang/invoke/VarHandle" ∧ (parseMethodDescriptor y.desc).map (fun d => d.parameters.length) = some np
def CYs (y : MethodName) (b : ByteArray) (n : Nat) (r : Option FieldType) (np : Nat) : Prop := Cond.code y b n r ∈ gtb ∧ Cond.static y ∈ gtb ∧ Cond.initialized y.cls ∈ gtb ∧ y.cls ≠ "java/lang/invoke/MethodHandle" ∧ y.cls ≠ "java/lang/invoke/VarHandle" ∧ (parseMethodDescriptor y.desc).map (fun d => d.parameters.length) = some np
/-- a callee's room fits the caller's -/
def RF (rm2 R : Room) (n2 : Nat) : Prop := rm2.cells = 0 ∧ rm2.slots = 0 ∧ rm2.frames + 1 ≤ R.frames ∧ 8 + (n2 + 11) + rm2.locals ≤ R.locals
theorem GI_blind {av : List Value} : FrameBlind (va_Pc av (GI Γ σ)) := fun a U g mk q => ⟨q.1, q.2.1, KK.same (u := U) (U := U.calling g mk a) rfl q.2.2⟩
theorem GI_of (K : KK Γ s s.heap) (hB : Bd Γ σ s H locs) {U : State} (hU : U.heap = H) (hW : s.WarmedH U.vm) : GI Γ σ U := ⟨by rw [hU]; exact hB.1, by rw [hU]; exact (KK.warm hW K).kept hB.2.2.1⟩
theorem x_recv {q ci N : Nat} {C : String} {T : u_T} {fs : List Value} (K : KK Γ s s.heap) (hB : Bd Γ σ s H locs) (hq : q < 153) (he : ent Γ σ q = .inr (ci, fs)) (hc : classes[ci]? = some (C, T, N)) : ∃ cell : Cell, H[Γ.1 q]? = some cell ∧ cell.vm.isStatics = false ∧ s.vm.findClass C = some cell.cls :=
  va_recv (q := (C, T, N)) K.1 hB.1 hc (q0 := q) (by rw [pic_get hq, he])
variable {y : MethodName} {b2 : ByteArray} {n2 np : Nat} {r2 : Option FieldType} {rm2 : Room} {index q ci : Nat} {res : Int32 × Sg} {stk : List Value}
theorem x_runV {adr : Nat} {Qc : Array Value → State → Outcome → State → Prop} (M : MX own cc nL ret p s m args meth c) (K : KK Γ s s.heap) (hB : Bd Γ σ s H locs) (hls : ls.size = nL) (As : List Value) {rest : List Value} (hst : stk = As.reverse ++ .ref (adr) :: rest) (hM : Met l y (Cond.code y b2 n2 r2 :: gtb) rm2 (va_Pc (.ref (adr) :: As) (GI Γ σ)) Qc 0 0 (AD Γ)) (hy : CYv y b2 n2 r2 As.length)
    (hrv : ∃ cell : Cell, H[adr]? = some cell ∧ cell.vm.isStatics = false ∧ s.vm.findClass y.cls = some cell.cls) (hlink : Cond.methodLink own index y ∈ gtb) (hR : RF rm2 R n2) (hcat : (rest.map fun v => v.category).sum ≤ 8) (hf : cells ≤ R.cells ∧ slots ≤ R.slots) (hdg : decode cc pc = .ok (.invokevirtual index, 3)) :
    va_Run p l e R s m args below meth c H locs cells slots 0 0 (F0 m pc ls stk) rest (Qc (Value.ref (adr) :: As).toArray) (AD Γ) := by
  subst hst
  obtain ⟨hx, hb, hml, hown, hts, -⟩ := M
  obtain ⟨h1, h2, h3, h4, h5, h6, h7⟩ := hy
  exact va_runV (Ts := gtb) (own := own) (C := y.cls) ⟨hx, hb, hml, hown, hts⟩ hM ⟨callB_of As.length hts (gtb_in h1) rfl hR.1 hR.2.1 (hts _ h4) (hts _ hlink) ⟨h5, h6, h7⟩ hR.2.2, hts _ h2, hts _ h3⟩ ⟨GI_blind, hrv, fun U hU hW => ⟨rfl, GI_of K hB hU hW⟩⟩ rfl rfl hls rfl (lv_room hcat) hdg hf
theorem x_runS {Qc : Array Value → State → Outcome → State → Prop} (M : MX own cc nL ret p s m args meth c) (K : KK Γ s s.heap) (hB : Bd Γ σ s H locs) (hls : ls.size = nL) (As : List Value) {rest : List Value} (hst : stk = As.reverse ++ rest) (hM : Met l y (Cond.code y b2 n2 r2 :: gtb) rm2 (va_Pc As (GI Γ σ)) Qc 0 0 (AD Γ)) (hy : CYs y b2 n2 r2 As.length)
    (hlink : Cond.methodLink own index y ∈ gtb) (hR : RF rm2 R n2) (hcat : (rest.map fun v => v.category).sum ≤ 8) (hf : cells ≤ R.cells ∧ slots ≤ R.slots) (hdg : decode cc pc = .ok (.invokestatic index, 3)) :
    va_Run p l e R s m args below meth c H locs cells slots 0 0 (F0 m pc ls stk) rest (Qc As.toArray) (AD Γ) := by
  subst hst
  obtain ⟨hx, hb, hml, hown, hts, -⟩ := M
  obtain ⟨h1, h2, h4, h5, h6, h7⟩ := hy
  exact va_runS (Ts := gtb) (own := own) ⟨hx, hb, hml, hown, hts⟩ hM ⟨callB_of As.length hts (gtb_in h1) rfl hR.1 hR.2.1 (hts _ h4) (hts _ hlink) ⟨h5, h6, h7⟩ hR.2.2, hts _ h2⟩ ⟨GI_blind, fun U hU hW => ⟨rfl, GI_of K hB hU hW⟩⟩ rfl rfl hls rfl (lv_room hcat) hdg hf
theorem x_runSN {host : String} {Qc : Array Value → State → Outcome → State → Prop} (M : MX own cc nL ret p s m args meth c) (K : KK Γ s s.heap) (hB : Bd Γ σ s H locs) (hls : ls.size = nL) (As : List Value) {rest : List Value} (hst : stk = As.reverse ++ rest) (hM : Met l y (Cond.code y b2 n2 r2 :: gtb) rm2 (va_Pc As (GI Γ σ)) Qc 0 0 (AD Γ)) (hy : CYs y b2 n2 r2 As.length)
    (hlink : Cond.methodLinkNest own index y host ∈ ntb) (hR : RF rm2 R n2) (hcat : (rest.map fun v => v.category).sum ≤ 8) (hf : cells ≤ R.cells ∧ slots ≤ R.slots) (hdg : decode cc pc = .ok (.invokestatic index, 3)) :
    va_Run p l e R s m args below meth c H locs cells slots 0 0 (F0 m pc ls stk) rest (Qc As.toArray) (AD Γ) := by
  subst hst
  obtain ⟨hx, hb, hml, hown, hts, -⟩ := M
  obtain ⟨h1, h2, h4, h5, h6, h7⟩ := hy
  exact va_runSN (Ts := gtb) (own := own) (host := host) ⟨hx, hb, hml, hown, hts⟩ hM ⟨va_cnB As.length hts (gtb_in h1) rfl hR.1 hR.2.1 (K.2.1 _ hlink) (hts _ h4) ⟨h5, h6, h7⟩ hR.2.2, hts _ h2, trivial⟩ ⟨GI_blind, fun U hU hW => ⟨rfl, GI_of K hB hU hW⟩⟩ rfl rfl hls rfl (lv_room hcat) hdg hf
theorem x_callI {a : Array Value} {st0 : List Value} (hr : va_Run p l e R s m args below meth c H locs cells slots 0 0 (F0 m pc ls st0) rest (QI Γ res a) (AD Γ)) (hB : Bd Γ σ s H locs)
    (kk : ∀ (H1 : Heap) (locs1 : List Loc), Bd Γ res.2 s H1 locs1 → W p l e R s m args below meth c H1 locs1 cells slots Q (F0 m (pc + 3) ls (.int res.1 :: rest))) : W p l e R s m args below meth c H locs cells slots Q (F0 m pc ls st0) := by
  refine va_calli hr hB.2 (fun q _ h => h) (fun q h => h) (fun r u t H1 locs1 ht hvm hw hP hz1 hk1 hS => ?_)
  obtain ⟨rfl, rfl⟩ := hw
  rw [ht] at hP
  exact kk H1 locs1 ⟨hP, hS⟩
theorem x_callV {a : Array Value} {st0 : List Value} (hr : va_Run p l e R s m args below meth c H locs cells slots 0 0 (F0 m pc ls st0) rest (QV Γ res a) (AD Γ)) (hB : Bd Γ σ s H locs)
    (kk : ∀ (H1 : Heap) (locs1 : List Loc), Bd Γ res.2 s H1 locs1 → W p l e R s m args below meth c H1 locs1 cells slots Q (F0 m (pc + 3) ls rest)) : W p l e R s m args below meth c H locs cells slots Q (F0 m pc ls st0) := by
  refine va_callv hr hB.2 (fun q _ h => h) (fun q h => h) (fun u t H1 locs1 ht hvm hw hP hz1 hk1 hS => ?_)
  subst hw
  rw [ht] at hP
  exact kk H1 locs1 ⟨hP, hS⟩
theorem x_iret {v : Int32} {rm : Room} (M : MX own cc nL (some .int) p s m args meth c) (hB : Bd Γ σ s H locs) (hr : (v, σ) = res) (hdg : decode cc pc = .ok (.ireturn, 1)) : WI Γ rm p l e s m args below meth c H locs res (F0 m pc ls [.int v]) := by
  subst hr
  exact W.iret (v := v) M.1 M.2.1 M.2.2.2.2.2.1 (fun t ht hW => ⟨⟨v, σ, rfl, ⟨rfl, rfl⟩, by show va_P _ _ _ t.heap; rw [ht]; exact hB.1⟩, hB.2.F ht⟩) hB.2.2.2 hdg (hlocks := M.2.2.2.2.2.2)
theorem x_zret {v : Int32} {rm : Room} {ty : FieldType} (M : MX own cc nL (some ty) p s m args meth c) (hB : Bd Γ σ s H locs) (hn : narrow ty (.int v) = .int v) (hr : (v, σ) = res) (hdg : decode cc pc = .ok (.ireturn, 1)) : WI Γ rm p l e s m args below meth c H locs res (F0 m pc ls [.int v]) := by
  subst hr
  exact W.zret (v := v) M.1 M.2.1 M.2.2.2.2.2.1 hn (fun t ht hW => ⟨⟨v, σ, rfl, ⟨rfl, rfl⟩, by show va_P _ _ _ t.heap; rw [ht]; exact hB.1⟩, hB.2.F ht⟩) hB.2.2.2 hdg (hlocks := M.2.2.2.2.2.2)
theorem x_vret {rm : Room} (M : MX own cc nL none p s m args meth c) (hB : Bd Γ σ s H locs) (hr : (0, σ) = res) (hdg : decode cc pc = .ok (.return_, 1)) : WV Γ rm p l e s m args below meth c H locs res (F0 m pc ls []) := by
  subst hr
  exact W.vret M.1 M.2.1 M.2.2.2.2.2.1 (fun t ht hW => ⟨⟨σ, rfl, rfl, by show va_P _ _ _ t.heap; rw [ht]; exact hB.1⟩, hB.2.F ht⟩) hB.2.2.2 hdg (hlocks := M.2.2.2.2.2.2)
end RW
theorem nar_z {v : Int32} (h : v = 0 ∨ v = 1) : narrow .boolean (.int v) = .int v := by rcases h with rfl | rfl <;> rfl
theorem fit_z {v : Int32} (h : v = 0 ∨ v = 1) : fits .boolean (.int v) = true := by rcases h with rfl | rfl <;> rfl
section MT
variable {y : MethodName} {cc : ByteArray} {n : Nat} {ret : Option FieldType} {rm : Room} {Γ : GG} {σ : Sg} {res : Int32 × Sg} {l : Launch}
theorem x_metI (hy : plainName y.cls = true) (av : List Value) (hav : (lg_sl av).length ≤ n) (h : ∀ (p : Program) (e : Env) (s : State) (m : MethodId) (args : Array Value) (below : List Frame) (meth : Method) (c : Code), MX y.cls cc n ret p s m args meth c → KK Γ s s.heap → ∀ ls : Array Slot, lv_has ls n (lv_args 0 av) → Bd Γ σ s s.heap [] → WI Γ rm p l e s m args below meth c s.heap [] res (F0 m 0 ls [])) : Met l y (Cond.code y cc n ret :: gtb) rm (va_Pc av (GI Γ σ)) (QI Γ res) 0 0 (AD Γ) := by
  refine Met.ofW (cc := cc) (maxL := n) (ret := ret) hy rfl ?_
  intro p e s m args below meth c s₁ B hml hv
  obtain ⟨rfl, hP, hK⟩ := hv
  have hts := atoms_spec (ws := Cond.code y cc n ret :: gtb) B.pre
  have hl := lv_entry av hav
  rw [lg_entry_eq]
  exact h p e s m _ below meth c ⟨B.exec, B.bytes, hml, findClass_of_methodNamed B.named, fun w hw => hts w (List.mem_cons_of_mem _ hw), B.returns, B.notSynchronized⟩ hK _ hl ⟨hP, va_S.rf⟩
theorem x_metV (hy : plainName y.cls = true) (av : List Value) (hav : (lg_sl av).length ≤ n) (h : ∀ (p : Program) (e : Env) (s : State) (m : MethodId) (args : Array Value) (below : List Frame) (meth : Method) (c : Code), MX y.cls cc n ret p s m args meth c → KK Γ s s.heap → ∀ ls : Array Slot, lv_has ls n (lv_args 0 av) → Bd Γ σ s s.heap [] → WV Γ rm p l e s m args below meth c s.heap [] res (F0 m 0 ls [])) : Met l y (Cond.code y cc n ret :: gtb) rm (va_Pc av (GI Γ σ)) (QV Γ res) 0 0 (AD Γ) := by
  refine Met.ofW (cc := cc) (maxL := n) (ret := ret) hy rfl ?_
  intro p e s m args below meth c s₁ B hml hv
  obtain ⟨rfl, hP, hK⟩ := hv
  have hts := atoms_spec (ws := Cond.code y cc n ret :: gtb) B.pre
  have hl := lv_entry av hav
  rw [lg_entry_eq]
  exact h p e s m _ below meth c ⟨B.exec, B.bytes, hml, findClass_of_methodNamed B.named, fun w hw => hts w (List.mem_cons_of_mem _ hw), B.returns, B.notSynchronized⟩ hK _ hl ⟨hP, va_S.rf⟩
end MT
section RK
variable {p : Program} {l : Launch} {e : Env} {R : Room} {s : State} {m : MethodId} {args : Array Value} {below : List Frame} {meth : Method} {c : Code} {H : Heap} {locs : List Loc} {cells slots : Nat} {Q : State → Prop}
variable {cc : ByteArray} {pc : Nat} {ls : Array Slot} {rest : List Value} {Γ : GG} {σ : Sg} {own : String} {nL : Nat} {ret : Option FieldType} {q index : Nat}
theorem own_X0 : ∀ k, k < 13 → (TX0 k).1 = RX0 := by decide +kernel
theorem x_get0 (M : MX own cc nL ret p s m args meth c) (K : KK Γ s s.heap) (hB : Bd Γ σ s H locs) (hq : isK 0 q) (k : Nat) (hk : k < 13) (hlink : Cond.fieldLink own index RX0 (TX0 k).2.1 (TX0 k).2.2.1 ∈ gtb) {v : Value} (hv : (fs0 Γ σ q)[k]? = some v) (hdg : decode cc pc = .ok (.getfield index, 3)) (kk : W p l e R s m args below meth c H locs cells slots Q (F0 m (pc + 3) ls (v :: rest))) : W p l e R s m args below meth c H locs cells slots Q (F0 m pc ls (.ref (Γ.1 q) :: rest)) :=
  x_get M K hB hq.2 (ent_0 hq.1) rfl in_X0 k hk (own_X0 k hk) hlink hv hdg kk
theorem x_put0 (M : MX own cc nL ret p s m args meth c) (K : KK Γ s s.heap) (hB : Bd Γ σ s H locs) (hq : isK 0 q) (k : Nat) (hk : k = 3 ∨ k = 4 ∨ k = 5 ∨ k = 6 ∨ k = 7 ∨ k = 8 ∨ k = 9 ∨ k = 10 ∨ k = 11 ∨ k = 12) (hlink : Cond.fieldLink own index RX0 (TX0 k).2.1 (TX0 k).2.2.1 ∈ gtb) {x : Int32} (hdg : decode cc pc = .ok (.putfield index, 3))
    (kk : ∀ (H1 : Heap) (locs1 : List Loc), Bd Γ (st σ q k x) s H1 locs1 → W p l e R s m args below meth c H1 locs1 cells slots Q (F0 m (pc + 3) ls rest)) : W p l e R s m args below meth c H locs cells slots Q (F0 m pc ls (.int x :: .ref (Γ.1 q) :: rest)) := by
  have hk0 : k < 13 := by omega
  have hty : tyX0 k = .int := by rcases hk with rfl | rfl | rfl | rfl | rfl | rfl | rfl | rfl | rfl | rfl <;> rfl
  refine x_put (v := .int x) (σ' := st σ q k x) M K hB hq.2 (ent_0 hq.1) rfl in_X0 tyX0 tyX0_ok nmX0 k hk0 (own_X0 k hk0) (by rcases hk with rfl | rfl | rfl | rfl | rfl | rfl | rfl | rfl | rfl | rfl <;> rfl) hlink (by rw [hty]; rfl) (by rw [hty]; rfl) (by simp [fs0]; omega) (fun a h => st_o a h) (by rw [ent_0 hq.1, fs0_set (by omega)]) hdg kk
theorem own_X1 : ∀ k, k < 2 → (TX1 k).1 = RX1 := by decide +kernel
theorem x_get1 (M : MX own cc nL ret p s m args meth c) (K : KK Γ s s.heap) (hB : Bd Γ σ s H locs) (hq : isK 1 q) (k : Nat) (hk : k < 2) (hlink : Cond.fieldLink own index RX1 (TX1 k).2.1 (TX1 k).2.2.1 ∈ gtb) {v : Value} (hv : (fs1 Γ σ q)[k]? = some v) (hdg : decode cc pc = .ok (.getfield index, 3)) (kk : W p l e R s m args below meth c H locs cells slots Q (F0 m (pc + 3) ls (v :: rest))) : W p l e R s m args below meth c H locs cells slots Q (F0 m pc ls (.ref (Γ.1 q) :: rest)) :=
  x_get M K hB hq.2 (ent_1 hq.1) rfl in_X1 k hk (own_X1 k hk) hlink hv hdg kk
theorem x_put1 (M : MX own cc nL ret p s m args meth c) (K : KK Γ s s.heap) (hB : Bd Γ σ s H locs) (hq : isK 1 q) (k : Nat) (hk : k = 1) (hlink : Cond.fieldLink own index RX1 (TX1 k).2.1 (TX1 k).2.2.1 ∈ gtb) {x : Int32} (hdg : decode cc pc = .ok (.putfield index, 3))
    (kk : ∀ (H1 : Heap) (locs1 : List Loc), Bd Γ (st σ q k x) s H1 locs1 → W p l e R s m args below meth c H1 locs1 cells slots Q (F0 m (pc + 3) ls rest)) : W p l e R s m args below meth c H locs cells slots Q (F0 m pc ls (.int x :: .ref (Γ.1 q) :: rest)) := by
  have hk0 : k < 2 := by omega
  have hty : tyX1 k = .int := by subst hk; rfl
  refine x_put (v := .int x) (σ' := st σ q k x) M K hB hq.2 (ent_1 hq.1) rfl in_X1 tyX1 tyX1_ok nmX1 k hk0 (own_X1 k hk0) (by subst hk; rfl) hlink (by rw [hty]; rfl) (by rw [hty]; rfl) (by simp [fs1]; omega) (fun a h => st_o a h) (by rw [ent_1 hq.1, fs1_set (by omega)]) hdg kk
theorem own_X2 : ∀ k, k < 9 → (TX2 k).1 = RX2 := by decide +kernel
theorem x_get2 (M : MX own cc nL ret p s m args meth c) (K : KK Γ s s.heap) (hB : Bd Γ σ s H locs) (hq : isK 2 q) (k : Nat) (hk : k < 9) (hlink : Cond.fieldLink own index RX2 (TX2 k).2.1 (TX2 k).2.2.1 ∈ gtb) {v : Value} (hv : (fs2 Γ σ q)[k]? = some v) (hdg : decode cc pc = .ok (.getfield index, 3)) (kk : W p l e R s m args below meth c H locs cells slots Q (F0 m (pc + 3) ls (v :: rest))) : W p l e R s m args below meth c H locs cells slots Q (F0 m pc ls (.ref (Γ.1 q) :: rest)) :=
  x_get M K hB hq.2 (ent_2 hq.1) rfl in_X2 k hk (own_X2 k hk) hlink hv hdg kk
theorem x_put2 (M : MX own cc nL ret p s m args meth c) (K : KK Γ s s.heap) (hB : Bd Γ σ s H locs) (hq : isK 2 q) (k : Nat) (hk : k = 1 ∨ k = 2 ∨ k = 3) (hlink : Cond.fieldLink own index RX2 (TX2 k).2.1 (TX2 k).2.2.1 ∈ gtb) {x : Int32} (hdg : decode cc pc = .ok (.putfield index, 3))
    (kk : ∀ (H1 : Heap) (locs1 : List Loc), Bd Γ (st σ q k x) s H1 locs1 → W p l e R s m args below meth c H1 locs1 cells slots Q (F0 m (pc + 3) ls rest)) : W p l e R s m args below meth c H locs cells slots Q (F0 m pc ls (.int x :: .ref (Γ.1 q) :: rest)) := by
  have hk0 : k < 9 := by omega
  have hty : tyX2 k = .int := by rcases hk with rfl | rfl | rfl <;> rfl
  refine x_put (v := .int x) (σ' := st σ q k x) M K hB hq.2 (ent_2 hq.1) rfl in_X2 tyX2 tyX2_ok nmX2 k hk0 (own_X2 k hk0) (by rcases hk with rfl | rfl | rfl <;> rfl) hlink (by rw [hty]; rfl) (by rw [hty]; rfl) (by simp [fs2]; omega) (fun a h => st_o a h) (by rw [ent_2 hq.1, fs2_set (by omega)]) hdg kk
theorem own_X3 : ∀ k, k < 16 → (TX3 k).1 = RX3 := by decide +kernel
theorem x_get3 (M : MX own cc nL ret p s m args meth c) (K : KK Γ s s.heap) (hB : Bd Γ σ s H locs) (hq : isK 3 q) (k : Nat) (hk : k < 16) (hlink : Cond.fieldLink own index RX3 (TX3 k).2.1 (TX3 k).2.2.1 ∈ gtb) {v : Value} (hv : (fs3 Γ σ q)[k]? = some v) (hdg : decode cc pc = .ok (.getfield index, 3)) (kk : W p l e R s m args below meth c H locs cells slots Q (F0 m (pc + 3) ls (v :: rest))) : W p l e R s m args below meth c H locs cells slots Q (F0 m pc ls (.ref (Γ.1 q) :: rest)) :=
  x_get M K hB hq.2 (ent_3 hq.1) rfl in_X3 k hk (own_X3 k hk) hlink hv hdg kk
theorem x_put3 (M : MX own cc nL ret p s m args meth c) (K : KK Γ s s.heap) (hB : Bd Γ σ s H locs) (hq : isK 3 q) (k : Nat) (hk : k = 6 ∨ k = 7 ∨ k = 8 ∨ k = 9 ∨ k = 12 ∨ k = 14 ∨ k = 15) (hlink : Cond.fieldLink own index RX3 (TX3 k).2.1 (TX3 k).2.2.1 ∈ gtb) {x : Int32} (hdg : decode cc pc = .ok (.putfield index, 3))
    (kk : ∀ (H1 : Heap) (locs1 : List Loc), Bd Γ (st σ q k x) s H1 locs1 → W p l e R s m args below meth c H1 locs1 cells slots Q (F0 m (pc + 3) ls rest)) : W p l e R s m args below meth c H locs cells slots Q (F0 m pc ls (.int x :: .ref (Γ.1 q) :: rest)) := by
  have hk0 : k < 16 := by omega
  have hty : tyX3 k = .int := by rcases hk with rfl | rfl | rfl | rfl | rfl | rfl | rfl <;> rfl
  refine x_put (v := .int x) (σ' := st σ q k x) M K hB hq.2 (ent_3 hq.1) rfl in_X3 tyX3 tyX3_ok nmX3 k hk0 (own_X3 k hk0) (by rcases hk with rfl | rfl | rfl | rfl | rfl | rfl | rfl <;> rfl) hlink (by rw [hty]; rfl) (by rw [hty]; rfl) (by simp [fs3]; omega) (fun a h => st_o a h) (by rw [ent_3 hq.1, fs3_set (by omega)]) hdg kk
theorem x_putz3 (M : MX own cc nL ret p s m args meth c) (K : KK Γ s s.heap) (hB : Bd Γ σ s H locs) (hq : isK 3 q) (k : Nat) (hk : k = 4 ∨ k = 5 ∨ k = 10 ∨ k = 11 ∨ k = 13) (hlink : Cond.fieldLink own index RX3 (TX3 k).2.1 (TX3 k).2.2.1 ∈ gtb) {x : Int32} (hx : x = 0 ∨ x = 1) (hdg : decode cc pc = .ok (.putfield index, 3))
    (kk : ∀ (H1 : Heap) (locs1 : List Loc), Bd Γ (st σ q k x) s H1 locs1 → W p l e R s m args below meth c H1 locs1 cells slots Q (F0 m (pc + 3) ls rest)) : W p l e R s m args below meth c H locs cells slots Q (F0 m pc ls (.int x :: .ref (Γ.1 q) :: rest)) := by
  have hk0 : k < 16 := by omega
  have hty : tyX3 k = .boolean := by rcases hk with rfl | rfl | rfl | rfl | rfl <;> rfl
  refine x_put (v := .int x) (σ' := st σ q k x) M K hB hq.2 (ent_3 hq.1) rfl in_X3 tyX3 tyX3_ok nmX3 k hk0 (own_X3 k hk0) (by rcases hk with rfl | rfl | rfl | rfl | rfl <;> rfl) hlink (by rw [hty]; exact nar_z hx) (by rw [hty]; exact fit_z hx) (by simp [fs3]; omega) (fun a h => st_o a h) (by rw [ent_3 hq.1, fs3_set (by omega)]) hdg kk
theorem own_X4 : ∀ k, k < 5 → (TX4 k).1 = RX4 := by decide +kernel
theorem x_get4 (M : MX own cc nL ret p s m args meth c) (K : KK Γ s s.heap) (hB : Bd Γ σ s H locs) (hq : isK 4 q) (k : Nat) (hk : k < 5) (hlink : Cond.fieldLink own index RX4 (TX4 k).2.1 (TX4 k).2.2.1 ∈ gtb) {v : Value} (hv : (fs4 Γ σ q)[k]? = some v) (hdg : decode cc pc = .ok (.getfield index, 3)) (kk : W p l e R s m args below meth c H locs cells slots Q (F0 m (pc + 3) ls (v :: rest))) : W p l e R s m args below meth c H locs cells slots Q (F0 m pc ls (.ref (Γ.1 q) :: rest)) :=
  x_get M K hB hq.2 (ent_4 hq.1) rfl in_X4 k hk (own_X4 k hk) hlink hv hdg kk
end RK
