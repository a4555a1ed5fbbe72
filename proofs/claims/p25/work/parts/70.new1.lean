/-! NEW OBJECTS: rows over a world with any beginning -/
def Ab (base : Nat) : Nat → Prop := fun q => base ≤ q
def SX (Γ : GG) (k base : Nat) (H : Heap) : Prop := ∃ cell : Cell, H[gS Γ k]? = some cell ∧ cell.cls = gA Γ 0 ∧ (∀ k, cell.vm ≠ .statics k) ∧ cell.vm ≠ .unknown ∧ cell.slots = (vp_cell (gA Γ 0) (8, .inl (tb k))).slots ∧ ¬ Ab base (gS Γ k)
def KN (Γ : GG) (base : Nat) (U : State) (H : Heap) : Prop := va_K (gD Γ) classes (gtys Γ) U ∧ (∀ w ∈ ntb, va_Nw w U) ∧ (va_Nw (.castable "[I" "java/lang/Cloneable") U ∧ va_AO RX0 U ∧ va_AO RX3 U) ∧ ∀ k, (k = 2 ∨ k = 5) → va_Z RX4 (sn k) "[I" (.ref (gS Γ k)) (Ab base) U H ∧ va_T .int (gS Γ k) 8 (fun j => .int (tb k j)) (Ab base) U H ∧ SX Γ k base H
theorem SX.kept {Γ : GG} {k base : Nat} {H H1 : Heap} (h : SX Γ k base H) (hq : ∀ a : Nat, a < H.size → ¬ Ab base a → H1[a]? = H[a]?) : SX Γ k base H1 := by
  obtain ⟨cell, h1, h2⟩ := h
  exact ⟨cell, by rw [hq _ (Array.getElem?_eq_some_iff.mp h1).1 h2.2.2.2.2]; exact h1, h2⟩
theorem KN.kept {Γ : GG} {base : Nat} {U : State} {H H1 : Heap} (h : KN Γ base U H) (hq : ∀ a : Nat, a < H.size → ¬ Ab base a → H1[a]? = H[a]?) : KN Γ base U H1 :=
  ⟨h.1, h.2.1, h.2.2.1, fun k hk => ⟨(h.2.2.2 k hk).1.kept hq, (h.2.2.2 k hk).2.1.kept hq, (h.2.2.2 k hk).2.2.kept hq⟩⟩
theorem KN.warm {Γ : GG} {base : Nat} {s U : State} {H : Heap} (hW : s.WarmedH U.vm) (h : KN Γ base s H) : KN Γ base U H := by
  refine ⟨va_K.moved hW.alike h.1, fun w hw => ?_, ⟨va_Nw.warmC hW h.2.2.1.1, va_AO.moved hW.alike h.2.2.1.2.1, va_AO.moved hW.alike h.2.2.1.2.2⟩, fun k hk => ⟨va_Z.moved hW.alike (h.2.2.2 k hk).1, va_T.moved hW.alike (h.2.2.2 k hk).2.1, (h.2.2.2 k hk).2.2⟩⟩
  have h1 := h.2.1 w hw
  rcases ntb_tab hw with ⟨a, i, x, h', rfl⟩ | ⟨a, i, b, n, d, h', rfl⟩
  · exact va_Nw.warmM hW h1
  · exact va_Nw.warmF hW h1
theorem KN.same {Γ : GG} {base : Nat} {u U : State} {H : Heap} (hv : U.vm = u.vm) (h : KN Γ base u H) : KN Γ base U H := by
  have ha : u.vm.Alike U.vm := by rw [hv]; exact Vm.Alike.refl _
  refine ⟨va_K.moved ha h.1, fun w hw => ?_, ⟨va_Nw.same rfl hv.symm h.2.2.1.1, va_AO.moved ha h.2.2.1.2.1, va_AO.moved ha h.2.2.1.2.2⟩, fun k hk => ⟨va_Z.moved ha (h.2.2.2 k hk).1, va_T.moved ha (h.2.2.2 k hk).2.1, (h.2.2.2 k hk).2.2⟩⟩
  have h1 := h.2.1 w hw
  rcases ntb_tab hw with ⟨a, i, x, h', rfl⟩ | ⟨a, i, b, n, d, h', rfl⟩
  · exact va_Nw.same rfl hv.symm h1
  · exact va_Nw.same rfl hv.symm h1
def Nb (Γ : GG) (base : Nat) (ws : va_W) (s : State) (H : Heap) (locs : List Loc) : Prop := va_P (gD Γ) classes ws H ∧ va_D (Ab base) ws ∧ va_S (Ab base) s.heap H locs
theorem ap_at {ws L : va_W} {i : Nat} {x : Nat × va_E} (h : L[i]? = some x) : (ws ++ L)[ws.length + i]? = some x := by
  rw [List.getElem?_append_right (by omega), Nat.add_sub_cancel_left]; exact h
theorem ap_set (ws L : va_W) (i : Nat) (x : Nat × va_E) : (ws ++ L).set (ws.length + i) x = ws ++ L.set i x := by
  rw [List.set_append_right _ _ (by omega), Nat.add_sub_cancel_left]
section NW
variable {p : Program} {l : Launch} {e : Env} {R : Room} {s : State} {m : MethodId} {args : Array Value} {below : List Frame} {meth : Method} {c : Code} {H : Heap} {locs : List Loc} {cells slots : Nat} {Q : State → Prop}
variable {cc : ByteArray} {pc : Nat} {ls : Array Slot} {rest : List Value} {Γ : GG} {base : Nat} {ws L : va_W} {own : String} {nL : Nat} {ret : Option FieldType}
theorem n_newa {atype : ArrayType} {ty : FieldType} (t0 : Nat) (hty : newarray.typeOf atype = ty) (hr : ∀ (U : State) (cA : ClassId), va_RA U cA ty → U.vm.findClass ("[" ++ ty.toString) = some cA) (M : MX own cc nL ret p s m args meth c) (K : KN Γ base s s.heap) (hb0 : base ≤ s.heap.size) (hB : Nb Γ base (ws ++ L) s H locs) (harr : Cond.arrayClass ty ∈ gtb) (ht : (gtys Γ)[t0]? = some (gA Γ t0, ty)) {n : Int32} {N' : Nat} (ha : ∀ cA : ClassId, vp_cell cA (N', .inl (fun _ => 0)) = arrV cA N' (fun _ => defaultValue ty)) (hn : ¬ n < 0) (hN : n.toNatClampNeg = N') (hbytes : N' * componentBytes ty ≤ 536870912) (hcells : cells + 1 ≤ R.cells) (hslots : slots + N' ≤ R.slots) (hdg : decode cc pc = .ok (.newarray atype, 2))
    (kk : ∀ (q : Nat) (H1 : Heap), Nb Γ base (ws ++ (L ++ [(q, .inl (gA Γ t0, N', .inl (fun _ => 0)))])) s H1 locs → W p l e R s m args below meth c H1 locs (cells + 1) (slots + N') Q (F0 m (pc + 2) ls (.ref q :: rest))) : W p l e R s m args below meth c H locs cells slots Q (F0 m pc ls (.int n :: rest)) := by
  obtain ⟨hx, hb, hml, hown, hts, -⟩ := M
  refine va_newa (D := gD Γ) (cl := classes) (tys := gtys Γ) (a0 := (N', .inl (fun _ => 0))) hx hb (hts _ (hty ▸ harr)) hty K.1 hB.1 hB.2.1 hB.2.2 (fun q h => Nat.le_trans hb0 h) ha hn hN hbytes hcells hslots hdg (fun q cA H1 k1 h1 h2 h3 => ?_)
  have e1 := hr s _ (K.1.2 t0 _ ht).2
  have e2 := hr s _ (k1.2 (gtys Γ).length (cA, ty) (by rw [List.getElem?_append_right (Nat.le_refl _)]; simp)).2
  have e3 : cA = gA Γ t0 := Option.some.inj (e2.symm.trans e1)
  subst e3
  rw [List.append_assoc] at h1 h2
  exact kk q H1 ⟨h1, h2, h3⟩
theorem n_newq {C : String} (t0 : Nat) (M : MX own cc nL ret p s m args meth c) (K : KN Γ base s s.heap) (hb0 : base ≤ s.heap.size) (hB : Nb Γ base (ws ++ L) s H locs) {index : Nat} (hcl : Cond.classLink own index C ∈ gtb) (hov : va_AO C s) (ht : (gtys Γ)[t0]? = some (gA Γ t0, .object C)) {n : Int32} {N' : Nat} (hn : ¬ n < 0) (hN : n.toNatClampNeg = N') (hbytes : N' * 4 ≤ 536870912) (hcells : cells + 1 ≤ R.cells) (hslots : slots + N' ≤ R.slots) (hdg : decode cc pc = .ok (.anewarray index, 3))
    (kk : ∀ (q : Nat) (H1 : Heap), Nb Γ base (ws ++ (L ++ [(q, .inl (gA Γ t0, N', .inr (.inr (.inr (.inr (fun _ => none))))))])) s H1 locs → W p l e R s m args below meth c H1 locs (cells + 1) (slots + N') Q (F0 m (pc + 3) ls (.ref q :: rest))) : W p l e R s m args below meth c H locs cells slots Q (F0 m pc ls (.int n :: rest)) := by
  obtain ⟨hx, hb, hml, hown, hts, -⟩ := M
  refine va_newq (D := gD Γ) (cl := classes) (tys := gtys Γ) (C := C) hx hb hown (hts _ hcl) hov K.1 hB.1 hB.2.1 hB.2.2 (fun q h => Nat.le_trans hb0 h) hn hN hbytes hcells hslots hdg (fun q cA H1 k1 h1 h2 h3 => ?_)
  obtain ⟨-, -, -, -, -, e1⟩ := (K.1.2 t0 _ ht).2
  obtain ⟨-, -, -, -, -, e2⟩ := (k1.2 (gtys Γ).length (cA, .object C) (by rw [List.getElem?_append_right (Nat.le_refl _)]; simp)).2
  have e3 : cA = gA Γ t0 := Option.some.inj (e2.symm.trans e1)
  subst e3
  rw [List.append_assoc] at h1 h2
  exact kk q H1 ⟨h1, h2, h3⟩
theorem n_new {C : String} {T : u_T} {N ci index : Nat} {fs : List Value} (M : MX own cc nL ret p s m args meth c) (K : KN Γ base s s.heap) (hb0 : base ≤ s.heap.size) (hB : Nb Γ base (ws ++ L) s H locs) (hin : ∀ w ∈ u_ws C T N, w ∈ gtb) (ty0 : Nat → FieldType) (hty : ∀ k, k < N → parseFieldDescriptor (T k).2.2.1 = some (ty0 k)) (hcl : Cond.classLink own index C ∈ gtb) (hinst : Cond.instantiable C N ∈ gtb) (hini : Cond.initialized C ∈ gtb) (hc : classes[ci]? = some (C, T, N)) (hfs : ∀ j, j < N → defaultValue (ty0 j) = vp_V fs j) (hcells : cells + 1 ≤ R.cells) (hslots : slots + N ≤ R.slots) (hdg : decode cc pc = .ok (.new index, 3))
    (kk : ∀ (q : Nat) (H1 : Heap), Nb Γ base (ws ++ (L ++ [(q, .inr (ci, fs))])) s H1 locs → W p l e R s m args below meth c H1 locs (cells + 1) (slots + N) Q (F0 m (pc + 3) ls (.ref q :: rest))) : W p l e R s m args below meth c H locs cells slots Q (F0 m pc ls rest) := by
  obtain ⟨hx, hb, hml, hown, hts, -⟩ := M
  refine va_new (D := gD Γ) (cl := classes) (tys := gtys Γ) (ci := ci) (C := C) (T := T) (N := N) hx hb hts hin ty0 hty hown (hts _ hcl) (hts _ hinst) (hts _ hini) K.1 hB.1 hB.2.1 hB.2.2 (fun q h => Nat.le_trans hb0 h) hc hfs hcells hslots hdg (fun q H1 h1 h2 h3 => ?_)
  rw [List.append_assoc] at h1 h2
  exact kk q H1 ⟨h1, h2, h3⟩
theorem n_put {C : String} {T : u_T} {N ci index a : Nat} {fs : List Value} (M : MX own cc nL ret p s m args meth c) (K : KN Γ base s s.heap) (hB : Nb Γ base (ws ++ L) s H locs) (hin : ∀ w ∈ u_ws C T N, w ∈ gtb) (ty0 : Nat → FieldType) (hty : ∀ k, k < N → parseFieldDescriptor (T k).2.2.1 = some (ty0 k)) (hnm : ∀ a, a < N → ∀ b, b < N → a ≠ b → (T a).2.1 ≠ (T b).2.1) (i : Nat) (he : L[i]? = some (a, .inr (ci, fs))) (hc : classes[ci]? = some (C, T, N)) (k : Nat) (hk : k < N) (hC : (T k).1 = C) (hfin : (T k).2.2.2 = false ∨ ((T k).2.2.2 = true ∧ meth.name = "<init>" ∧ C = own)) (hlink : Cond.fieldLink own index C (T k).2.1 (T k).2.2.1 ∈ gtb) {v : Value} (hn : narrow (ty0 k) v = v) (hfit : fits (ty0 k) v = true) (hl : k < fs.length) (hdg : decode cc pc = .ok (.putfield index, 3))
    (kk : ∀ (H1 : Heap) (locs1 : List Loc), Nb Γ base (ws ++ L.set i (a, .inr (ci, fs.set k v))) s H1 locs1 → W p l e R s m args below meth c H1 locs1 cells slots Q (F0 m (pc + 3) ls rest)) : W p l e R s m args below meth c H locs cells slots Q (F0 m pc ls (v :: .ref a :: rest)) := by
  obtain ⟨hx, hb, hml, hown, hts, -⟩ := M
  rcases hfin with hfin | ⟨hfin, hi, hco⟩
  · refine va_put (D := gD Γ) (cl := classes) (tys := gtys Γ) (A := Ab base) (C := C) (T := T) (N := N) (ci := ci) hx hb hts hin ty0 hty hnm hown K.1 hB.1 hB.2.1 hB.2.2 (ws.length + i) (ap_at he) hc k hk (hts _ hlink) (fun x h => by rw [hC] at h; exact h) hfin (hty k hk) hn hfit hl hdg (fun H1 locs1 h1 h2 h3 => ?_)
    rw [ap_set] at h1 h2
    exact kk H1 locs1 ⟨h1, h2, h3⟩
  · refine va_putF (D := gD Γ) (cl := classes) (tys := gtys Γ) (A := Ab base) (C := C) (T := T) (N := N) (ci := ci) hx hb hts hin ty0 hty hnm hown K.1 hB.1 hB.2.1 hB.2.2 (ws.length + i) (ap_at he) hc k hk (hts _ hlink) (fun x h => by rw [hC] at h; exact h) hfin hi (hC.trans hco) (hty k hk) hn hfit hl hdg (fun H1 locs1 h1 h2 h3 => ?_)
    rw [ap_set] at h1 h2
    exact kk H1 locs1 ⟨h1, h2, h3⟩
theorem n_get {C : String} {T : u_T} {N ci index a : Nat} {fs : List Value} (M : MX own cc nL ret p s m args meth c) (K : KN Γ base s s.heap) (hB : Nb Γ base (ws ++ L) s H locs) (hin : ∀ w ∈ u_ws C T N, w ∈ gtb) (i : Nat) (he : L[i]? = some (a, .inr (ci, fs))) (hc : classes[ci]? = some (C, T, N)) (k : Nat) (hk : k < N) (hC : (T k).1 = C) (hlink : Cond.fieldLink own index C (T k).2.1 (T k).2.2.1 ∈ gtb) {v : Value} (hv : fs[k]? = some v) (hdg : decode cc pc = .ok (.getfield index, 3))
    (kk : W p l e R s m args below meth c H locs cells slots Q (F0 m (pc + 3) ls (v :: rest))) : W p l e R s m args below meth c H locs cells slots Q (F0 m pc ls (.ref a :: rest)) := by
  obtain ⟨hx, hb, hml, hown, hts, -⟩ := M
  exact va_get (D := gD Γ) (cl := classes) (tys := gtys Γ) (C := C) (T := T) (N := N) (ci := ci) hx hb hts hin hown K.1 hB.1 (ws.length + i) (ap_at he) hc k hk (hts _ hlink) (fun x h => by rw [hC] at h; exact h) hv hdg kk
theorem n_obj (M : MX own cc nL ret p s m args meth c) (hls : ls.size = nL) {a : Nat} {index : Nat} (hlink : Cond.methodLink own index Lib.objectInit ∈ gtb) (hinst : Cond.instanceMethod Lib.objectInit ∈ gtb) (hcode : Cond.code Lib.objectInit ⟨#[0xb1]⟩ 1 none ∈ gtb) (hdg : decode cc pc = .ok (.invokespecial index, 3)) (hframes : 1 ≤ R.frames) (hlocals : (rest.map fun v => v.category).sum + 12 ≤ R.locals)
    (kk : W p l e R s m args below meth c H locs cells slots Q (F0 m (pc + 3) ls rest)) : W p l e R s m args below meth c H locs cells slots Q (F0 m pc ls (.ref a :: rest)) := by
  obtain ⟨hx, hb, hml, hown, hts, -⟩ := M
  refine W.objInit hx hb hown (hts _ hlink) (hts _ hinst) (hts _ hcode) (g := F0 m pc ls (.ref a :: rest)) rfl (by rw [hml]; exact hls) rfl hdg hframes (by show 2 * 0 + _ + 12 ≤ _; omega) ?_
  exact W.eq (g2 := F0 m (pc + 3) ls rest) rfl kk
/-- a static table is cloned -/
theorem n_clone {k index : Nat} (hk : k = 2 ∨ k = 5) (M : MX own cc nL ret p s m args meth c) (hls : ls.size = nL) (K : KN Γ base s s.heap) (hb0 : base ≤ s.heap.size) (hB : Nb Γ base (ws ++ L) s H locs) (hlink : Cond.methodLink own index ⟨"[I", "clone", "()Ljava/lang/Object;"⟩ ∈ gtb) (hsame : Cond.sameMethod "[I" "java/lang/Object" "clone" "()Ljava/lang/Object;" ∈ gtb) (hnat : Cond.native ⟨"java/lang/Object", "clone", "()Ljava/lang/Object;"⟩ ∈ gtb) (hinst : Cond.instanceMethod ⟨"java/lang/Object", "clone", "()Ljava/lang/Object;"⟩ ∈ gtb) (hsel : Cond.selects "[I" ⟨"[I", "clone", "()Ljava/lang/Object;"⟩ ⟨"java/lang/Object", "clone", "()Ljava/lang/Object;"⟩ ∈ gtb) (hframes : 1 ≤ R.frames) (hlocals : (rest.map fun v => v.category).sum + 14 ≤ R.locals) (hcells : cells + 1 ≤ R.cells) (hslots : slots + 8 ≤ R.slots) (hdg : decode cc pc = .ok (.invokevirtual index, 3))
    (kk : ∀ (q : Nat) (H1 : Heap), Nb Γ base (ws ++ (L ++ [(q, .inl (gA Γ 0, 8, .inl (tb k)))])) s H1 locs → W p l e R s m args below meth c H1 locs (cells + 1) (slots + 8) Q (F0 m (pc + 3) ls (.ref q :: rest))) : W p l e R s m args below meth c H locs cells slots Q (F0 m pc ls (.ref (gS Γ k) :: rest)) := by
  obtain ⟨hx, hb, hml, hown, hts, -⟩ := M
  obtain ⟨cell, g1, g2, g3, g4, g5, g6⟩ := ((K.2.2.2 k hk).2.2).kept hB.2.2.2.1
  have hnm : s.vm.findClass "[I" = some (gA Γ 0) := (K.1.2 0 _ rfl).2
  obtain ⟨c0, t0, f1, f2, f3⟩ := Cond.castable_spec (va_Nw.use (A := args) rfl K.2.2.1.1)
  cases hnm.symm.trans f1
  have hsz : cell.slots.size = 8 := by rw [g5]; exact arrV_size _ _ _
  have hcE : ({ cls := cell.cls, slots := cell.slots } : Cell) = vp_cell (gA Γ 0) (8, .inl (tb k)) := by rw [g2, g5]; rfl
  intro T hT X
  obtain ⟨-, kA, hkA, comp, hkind⟩ := State.isArrayOf_alike X.warmed.alike ((K.1.2 0 _ rfl).1 0 (fun _ => .null))
  obtain ⟨-, kS, hkS, compS, hkindS⟩ := (K.1.2 0 _ rfl).1 0 (fun _ => .null)
  obtain ⟨vm', X', st⟩ := X.cloneArray hx hown (hts _ hlink) (hts _ hsame) (hts _ hnat) (hts _ hinst) (hts _ hsel) (a := gS Γ k) (cell := cell) (by rw [hT]; exact g1) g3 g4 (by rw [g2]; exact hnm) f2 (by rw [g2]; exact f3)
    (fun i v hv => by
      rw [g2]
      have hk' : T.vm.classes[gA Γ 0]? = some kA := hkA
      have hv2 : v = .int (tb k i) := by
        rw [g5] at hv
        have hi : i < 8 := by
          have := (Array.getElem?_eq_some_iff.mp hv).1
          rwa [show (vp_cell (gA Γ 0) (8, .inl (tb k))).slots.size = 8 from arrV_size _ _ _] at this
        have : (vp_cell (gA Γ 0) (8, .inl (tb k))).slots[i]? = some (.int (tb k i)) := by
          show (Array.ofFn _)[i]? = _
          simp [hi]
        rw [this] at hv
        exact (Option.some.inj hv).symm
      subst hv2
      simp [State.fitsSlot, State.slotType?, hk', hkind, fits])
    (g := F0 m pc ls (.ref (gS Γ k) :: rest)) rfl (by rw [hml]; exact hls) rfl (by rw [hb]; exact hdg) hframes (by show 2 * 0 + _ + 14 ≤ _; omega) hcells (by rw [hsz]; exact hslots) (hloader := by rw [g2]; exact Vm.clonesLoader_of_array hkS hkindS)
  rw [hcE, hsz] at X'
  generalize hH1 : H.push (vp_cell (gA Γ 0) (8, .inl (tb k))) = H1
  have z1 : H1.size = H.size + 1 := by rw [← hH1, Array.size_push]
  have e1 : H1[H.size]? = some (vp_cell (gA Γ 0) (8, .inl (tb k))) := by rw [← hH1, Array.getElem?_push_size]
  have o1 : ∀ q : Nat, q < H.size → H1[q]? = H[q]? := fun q hq => by rw [← hH1, Array.getElem?_push, if_neg (Nat.ne_of_lt hq)]
  have hB2 : Nb Γ base (ws ++ (L ++ [(H.size, .inl (gA Γ 0, 8, .inl (tb k)))])) s H1 locs := by
    refine ⟨?_, ?_, Nat.le_trans hB.2.2.1 (by omega), fun x h1 h2 => (o1 x (Nat.lt_of_lt_of_le h1 hB.2.2.1)).trans (hB.2.2.2.1 x h1 h2), hB.2.2.2.2⟩
    · rw [← List.append_assoc]
      refine (hB.1.kept (fun k x hx => o1 x.1 ((hB.1 k x hx).lt))).app (fun k x hx => ?_)
      have hz : k < 1 := (List.getElem?_eq_some_iff.mp hx).1
      rw [show k = 0 by omega] at hx
      cases hx
      exact e1
    · rw [← List.append_assoc]
      exact hB.2.1.push hB.1 rfl (Nat.le_trans hb0 hB.2.2.1)
  obtain ⟨t, b1, b2⟩ := kk H.size H1 hB2 _ (by rw [← hH1, ← hT, ← hcE]; simp [State.pushCell]) X'
  refine ⟨t, st t ?_, b2⟩
  rw [hT, hcE]
  exact b1
end NW
