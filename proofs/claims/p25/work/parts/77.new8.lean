/-! what holds at the start: classes, arrays, statics, the String constant, together -/
def mkG (c0 c1 c2 c3 c4 : ClassId) (i0 i1 i2 i3 i4 : Nat → Nat) (a0 a1 a2 a3 a4 : ClassId) (s0 s1 s2 s3 s4 s5 s6 : Nat) (X : SD) : GG := (fun _ => 0, (fun k => match k with | 0 => c0 | 1 => c1 | 2 => c2 | 3 => c3 | _ => c4), (fun k => match k with | 0 => i0 | 1 => i1 | 2 => i2 | 3 => i3 | _ => i4), (fun k => match k with | 0 => a0 | 1 => a1 | 2 => a2 | 3 => a3 | _ => a4), (fun k => match k with | 0 => s0 | 1 => s1 | 2 => s2 | 3 => s3 | 4 => s4 | 5 => s5 | _ => s6), X)
def SKA (Γ : GG) (A : Nat → Prop) (U : State) (H : Heap) : Prop := va_T .int (gS Γ 6) (gX Γ).1 (fun j => .int ((gX Γ).2 j)) A U H
def KS (Γ : GG) (s : State) : Prop := KN Γ s.heap.size s s.heap ∧ (∀ k, k < 6 → va_Z RX4 (sn k) "[I" (.ref (gS Γ k)) (Ab s.heap.size) s s.heap ∧ va_T .int (gS Γ k) 8 (fun j => .int (tb k j)) (Ab s.heap.size) s s.heap) ∧ SKA Γ (Ab s.heap.size) s s.heap
theorem sx_of {s : State} {t base : Nat} {f : Nat → Int32} {cA : ClassId} (hT : va_T .int t 8 (fun j => .int (f j)) (Ab base) s s.heap) (hc : ∃ cell : Cell, s.heap[t]? = some cell ∧ cell.slots.size = 8 ∧ cell.vm.isStatics = false ∧ s.vm.findClass "[I" = some cell.cls) (hA : s.vm.findClass "[I" = some cA) : ∃ cell : Cell, s.heap[t]? = some cell ∧ cell.cls = cA ∧ (∀ k, cell.vm ≠ .statics k) ∧ cell.vm ≠ .unknown ∧ cell.slots = (vp_cell cA (8, .inl f)).slots ∧ ¬ Ab base t := by
  obtain ⟨cell, h1, h2, h3, h4⟩ := hc
  obtain ⟨cell', g1, g2, g3, g4, g5, g6, g7⟩ := hT
  cases h1.symm.trans g1
  refine ⟨cell, h1, Option.some.inj (h4.symm.trans hA), fun k h => by rw [h] at h3; exact absurd h3 (by simp [VmData.isStatics]), g3, ?_, g7⟩
  apply Array.ext_getElem?
  intro j
  by_cases hj : j < 8
  · rw [g6 j hj]
    show _ = (Array.ofFn _)[j]?
    simp [hj]
  · rw [Array.getElem?_eq_none (by omega)]
    show _ = (Array.ofFn _)[j]?
    rw [Array.getElem?_eq_none (by simp; omega)]
set_option maxHeartbeats 4000000 in
set_option maxRecDepth 100000 in
theorem st_all {args : Array Value} {s : State} (hs : ∀ c ∈ flatC gvn, c.before args s = true) (hts : ∀ w ∈ lw_tbl, w.before args s = true)  {b L : Nat} {xs : Nat → Int32} (hX : va_X b L xs s s.heap) (hbl : b < s.heap.size) : ∃ Γ : GG, KS Γ s ∧ gS Γ 6 = b ∧ gX Γ = (L, xs) := by
  have hA : ∀ a : Nat, a < s.heap.size → ¬ Ab s.heap.size a := fun a h => Nat.not_le.mpr h
  have hg : ∀ w ∈ gtb, w.before args s = true := fun w hw => hts w (List.mem_filter.mp hw).1
  obtain ⟨c0, i0, k0⟩ := u_known (C := RX0) (T := TX0) (N := 13) (n := 13) hg in_X0 (hts _ (List.mem_append_right _ (List.mem_of_getElem? (i := 17) (by decide +kernel))))
  obtain ⟨c1, i1, k1⟩ := u_known (C := RX1) (T := TX1) (N := 2) (n := 2) hg in_X1 (hts _ (List.mem_append_right _ (List.mem_of_getElem? (i := 34) (by decide +kernel))))
  obtain ⟨c2, i2, k2⟩ := u_known (C := RX2) (T := TX2) (N := 9) (n := 9) hg in_X2 (hts _ (List.mem_append_right _ (List.mem_of_getElem? (i := 170) (by decide +kernel))))
  obtain ⟨c3, i3, k3⟩ := u_known (C := RX3) (T := TX3) (N := 16) (n := 16) hg in_X3 (hts _ (List.mem_append_right _ (List.mem_of_getElem? (i := 48) (by decide +kernel))))
  obtain ⟨c4, i4, k4⟩ := u_known (C := RX4) (T := TX4) (N := 5) (n := 5) hg in_X4 (hts _ (List.mem_append_right _ (List.mem_of_getElem? (i := 9) (by decide +kernel))))
  obtain ⟨a0, ka0, co0, p0, q0, r0⟩ := Cond.arrayClass_spec (args := args) (first := s) (o := none) (s := s) (idx := []) (hts (Cond.arrayClass .int) (List.mem_append_right _ (List.mem_of_getElem? (i := 47) (by decide +kernel))))
  obtain ⟨a1, ka1, co1, p1, q1, r1⟩ := Cond.arrayClass_spec (args := args) (first := s) (o := none) (s := s) (idx := []) (hts (Cond.arrayClass .char) (List.mem_append_right _ (List.mem_of_getElem? (i := 205) (by decide +kernel))))
  obtain ⟨a2, ka2, co2, p2, q2, r2⟩ := Cond.arrayClass_spec (args := args) (first := s) (o := none) (s := s) (idx := []) (hts (Cond.arrayClass .boolean) (List.mem_append_right _ (List.mem_of_getElem? (i := 204) (by decide +kernel))))
  obtain ⟨co3, a3, ka3, w3, z3, q3, r3, p3⟩ := Cond.arrayOver_spec (args := args) (first := s) (o := none) (s := s) (idx := []) (hts (Cond.arrayOver (.object RX0)) (List.mem_append_right _ (List.mem_of_getElem? (i := 168) (by decide +kernel))))
  obtain ⟨co4, a4, ka4, w4, z4, q4, r4, p4⟩ := Cond.arrayOver_spec (args := args) (first := s) (o := none) (s := s) (idx := []) (hts (Cond.arrayOver (.object RX3)) (List.mem_append_right _ (List.mem_of_getElem? (i := 32) (by decide +kernel))))
  obtain ⟨s0, e0, f0, g0⟩ := st_0 hs hts
  obtain ⟨s1, e1, f1, g1⟩ := st_1 hs hts
  obtain ⟨s2, e2, f2, g2⟩ := st_2 hs hts
  obtain ⟨s3, e3, f3, g3⟩ := st_3 hs hts
  obtain ⟨s4, e4, f4, g4⟩ := st_4 hs hts
  obtain ⟨s5, e5, f5, g5⟩ := st_5 hs hts
  have hS : va_T .int b L (fun j => .int (xs j)) (Ab s.heap.size) s s.heap := by
    obtain ⟨scr, h1, h2, h3, h4, h5⟩ := hX
    exact ⟨scr, h1, h2, h3, by omega, by rw [h4], h5, hA b hbl⟩
  obtain ⟨Γ, hΓ⟩ : ∃ Γ : GG, Γ = mkG c0 c1 c2 c3 c4 i0 i1 i2 i3 i4 a0 a1 a2 a3 a4 s0 s1 s2 s3 s4 s5 b (L, xs) := ⟨_, rfl⟩
  refine ⟨Γ, ?_⟩
  rw [hΓ]
  have ar : ∀ (cA : ClassId) (kA : Class) (comp : ClassId) (ty : FieldType), s.vm.classes[cA]? = some kA → kA.kind = .array comp ty → ArrOfT s cA ty := fun cA kA comp ty h1 h2 n z => ⟨fun k h => (by cases h), kA, h1, comp, h2⟩
  have hK : va_K (gD (mkG c0 c1 c2 c3 c4 i0 i1 i2 i3 i4 a0 a1 a2 a3 a4 s0 s1 s2 s3 s4 s5 b (L, xs))) classes (gtys (mkG c0 c1 c2 c3 c4 i0 i1 i2 i3 i4 a0 a1 a2 a3 a4 s0 s1 s2 s3 s4 s5 b (L, xs))) s := by
    refine ⟨fun k q hq => ?_, fun k q hq => ?_⟩
    · match k, hq with
      | 0, hq => cases hq; exact k0
      | 1, hq => cases hq; exact k1
      | 2, hq => cases hq; exact k2
      | 3, hq => cases hq; exact k3
      | 4, hq => cases hq; exact k4
      | k + 5, hq => simp [classes] at hq
    · match k, hq with
      | 0, hq => cases hq; exact ⟨ar _ _ _ _ q0 r0, p0⟩
      | 1, hq => cases hq; exact ⟨ar _ _ _ _ q1 r1, p1⟩
      | 2, hq => cases hq; exact ⟨ar _ _ _ _ q2 r2, p2⟩
      | 3, hq => cases hq; exact ⟨ar _ _ _ _ q3 r3, ka3, co3, q3, r3, w3, p3⟩
      | 4, hq => cases hq; exact ⟨ar _ _ _ _ q4 r4, ka4, co4, q4, r4, w4, p4⟩
      | k + 5, hq => simp [gtys] at hq
  refine ⟨⟨⟨hK, fun w hw => va_Nw.of ?_ (hts w (List.mem_filter.mp hw).1), ⟨va_Nw.of rfl (hts (Cond.castable "[I" "java/lang/Cloneable") (List.mem_append_right _ (List.mem_of_getElem? (i := 29) (by decide +kernel)))), va_AO.of (hts _ (List.mem_append_right _ (List.mem_of_getElem? (i := 168) (by decide +kernel)))), va_AO.of (hts _ (List.mem_append_right _ (List.mem_of_getElem? (i := 32) (by decide +kernel))))⟩, fun k hk => ?_⟩, fun k hk => ?_, hS⟩, rfl, rfl⟩
  · rcases ntb_tab hw with ⟨a, i, x, h', rfl⟩ | ⟨a, i, b, n, d, h', rfl⟩ <;> rfl
  · rcases hk with rfl | rfl
    · exact ⟨e2, f2, sx_of f2 g2 p0⟩
    · exact ⟨e5, f5, sx_of f5 g5 p0⟩
  · match k, hk with
    | 0, _ => exact ⟨e0, f0⟩
    | 1, _ => exact ⟨e1, f1⟩
    | 2, _ => exact ⟨e2, f2⟩
    | 3, _ => exact ⟨e3, f3⟩
    | 4, _ => exact ⟨e4, f4⟩
    | 5, _ => exact ⟨e5, f5⟩
    | k + 6, h => exact absurd h (by omega)
