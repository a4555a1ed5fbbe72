/-! what holds at the start: classes, arrays, statics, the String constant, together -/
def mkG (c0 c1 c2 c3 c4 c5 : ClassId) (i0 i1 i2 i3 i4 i5 : Nat → Nat) (a0 a1 a2 a3 a4 : ClassId) (s0 s1 s2 s3 s4 s5 s6 s7 : Nat) : GG := (fun _ => 0, (fun k => match k with | 0 => c0 | 1 => c1 | 2 => c2 | 3 => c3 | 4 => c4 | _ => c5), (fun k => match k with | 0 => i0 | 1 => i1 | 2 => i2 | 3 => i3 | 4 => i4 | _ => i5), (fun k => match k with | 0 => a0 | 1 => a1 | 2 => a2 | 3 => a3 | _ => a4), (fun k => match k with | 0 => s0 | 1 => s1 | 2 => s2 | 3 => s3 | 4 => s4 | 5 => s5 | 6 => s6 | _ => s7))
def SKA (Γ : GG) (A : Nat → Prop) (U : State) (H : Heap) : Prop := vk_R RX2 51 "nhsktc" (gS Γ 6) U ∧ vk_S 1 [6] [[110, 104, 115, 107, 116, 99]] (fun _ => gS Γ 6) (fun _ => gS Γ 7) A U H ∧ va_Z "java/lang/String" "COMPACT_STRINGS" "Z" (.int 1) A U H ∧ va_Zq "jdk/internal/util/Preconditions" "SIOOBE_FORMATTER" "Ljava/util/function/BiFunction;" A U H
def KS (Γ : GG) (s : State) : Prop := KN Γ s.heap.size s s.heap ∧ (∀ k, k < 6 → va_Z RX4 (sn k) "[I" (.ref (gS Γ k)) (Ab s.heap.size) s s.heap ∧ va_T .int (gS Γ k) 8 (fun j => .int (tb k j)) (Ab s.heap.size) s s.heap) ∧ SKA Γ (Ab s.heap.size) s s.heap
theorem sx_of {s : State} {t base : Nat} {f : Nat → Int32} {cA : ClassId} (hT : va_T .int t 8 (fun j => .int (f j)) (Ab base) s s.heap) (hc : ∃ cell : Cell, s.heap[t]? = some cell ∧ cell.slots.size = 8 ∧ cell.vm.isStatics = false ∧ s.vm.findClass "[I" = some cell.cls) (hA : s.vm.findClass "[I" = some cA) : ∃ cell : Cell, s.heap[t]? = some cell ∧ cell.cls = cA ∧ (∀ k, cell.vm ≠ .statics k) ∧ cell.vm ≠ .unknown ∧ cell.slots = (vp_cell cA (8, .inl f)).slots ∧ ¬ Ab base t := by
  obtain ⟨cell, h1, h2, h3, h4⟩ := hc
  obtain ⟨cell', g1, g2, g3, g4, g5, g6, g7⟩ := hT
  cases h1.symm.trans g1
  refine ⟨cell, h1, Option.some.inj (h4.symm.trans hA), fun k h => by rw [h] at h3; exact absurd h3 (by simp [VmData.isStatics]), g3, ?_, g7⟩
  apply Array.ext_getElem?
  intro j
  by_cases hj : j < 8
  · rw [g6 j hj]
    show _ = (Array.ofFn _)[j]?
    simp [hj]
  · rw [Array.getElem?_eq_none (by omega)]
    show _ = (Array.ofFn _)[j]?
    rw [Array.getElem?_eq_none (by simp; omega)]
set_option maxHeartbeats 4000000 in
set_option maxRecDepth 100000 in
theorem st_str {args : Array Value} {s : State} (hs : ∀ c ∈ flatC gvn, c.before args s = true) (hts : ∀ w ∈ lw_tbl, w.before args s = true) : ∃ a b : Nat, vk_R RX2 51 "nhsktc" a s ∧ vk_S 1 [6] [[110, 104, 115, 107, 116, 99]] (fun _ => a) (fun _ => b) (Ab s.heap.size) s s.heap := by
  have hA : ∀ a : Nat, a < s.heap.size → ¬ Ab s.heap.size a := fun a h => Nat.not_le.mpr h
  have z0 : (Cond.exactly (.string "WatchdogBoard$Pad" 51) "java/lang/String").before args s = true := hs _ (by decide +kernel)
  have z1 : (Cond.eq (.field (.string "WatchdogBoard$Pad" 51) "java/lang/String" "coder" "B") (.int 0)).before args s = true := hs _ (by decide +kernel)
  have z2 : (Cond.arrayOf (.field (.string "WatchdogBoard$Pad" 51) "java/lang/String" "value" "[B") .byte).before args s = true := hs _ (by decide +kernel)
  have z3 : (Cond.eq (.length (.field (.string "WatchdogBoard$Pad" 51) "java/lang/String" "value" "[B")) (.int 6)).before args s = true := hs _ (by decide +kernel)
  have y0 : (Cond.eq (.elem (.field (.string "WatchdogBoard$Pad" 51) "java/lang/String" "value" "[B") (.int 0)) (.int 110)).before args s = true := hs _ (by decide +kernel)
  have y1 : (Cond.eq (.elem (.field (.string "WatchdogBoard$Pad" 51) "java/lang/String" "value" "[B") (.int 1)) (.int 104)).before args s = true := hs _ (by decide +kernel)
  have y2 : (Cond.eq (.elem (.field (.string "WatchdogBoard$Pad" 51) "java/lang/String" "value" "[B") (.int 2)) (.int 115)).before args s = true := hs _ (by decide +kernel)
  have y3 : (Cond.eq (.elem (.field (.string "WatchdogBoard$Pad" 51) "java/lang/String" "value" "[B") (.int 3)) (.int 107)).before args s = true := hs _ (by decide +kernel)
  have y4 : (Cond.eq (.elem (.field (.string "WatchdogBoard$Pad" 51) "java/lang/String" "value" "[B") (.int 4)) (.int 116)).before args s = true := hs _ (by decide +kernel)
  have y5 : (Cond.eq (.elem (.field (.string "WatchdogBoard$Pad" 51) "java/lang/String" "value" "[B") (.int 5)) (.int 99)).before args s = true := hs _ (by decide +kernel)
  have hN : ∀ i : Nat, i < 1 → [6].getD i 0 < 2 ^ 31 := fun i hi => by
    match i, hi with
    | 0, _ => decide
    | i + 1, h => exact absurd h (by omega)
  have hel : ∀ i : Nat, i < 1 → ∀ j : Nat, j < [6].getD i 0 → (Cond.eq (.elem (.field (.string "WatchdogBoard$Pad" 51) "java/lang/String" "value" "[B") (.int (Int32.ofNat j))) (.int (([[110, 104, 115, 107, 116, 99]] : List (List Int32)).getD i [] |>.getD j 0))).before args s = true := fun i hi j hj => by
    match i, hi, j, hj with
    | 0, _, 0, _ => exact y0
    | 0, _, 1, _ => exact y1
    | 0, _, 2, _ => exact y2
    | 0, _, 3, _ => exact y3
    | 0, _, 4, _ => exact y4
    | 0, _, 5, _ => exact y5
    | 0, _, j + 6, h => exact absurd (show j + 6 < 6 from h) (by omega)
    | i + 1, h, _, _ => exact absurd h (by omega)
  have hle : ∀ i : Nat, i < 1 → (Cond.eq (.length (.field (.string "WatchdogBoard$Pad" 51) "java/lang/String" "value" "[B")) (.int (Int32.ofNat ([6].getD i 0)))).before args s = true := fun i hi => by
    match i, hi with
    | 0, _ => exact z3
    | i + 1, h => exact absurd h (by omega)
  obtain ⟨aK, aV, h1, h2⟩ := vk_Sof (args := args) (s := s) (N := 1) (tm := fun _ => (.string "WatchdogBoard$Pad" 51)) (len := [6]) (byt := [[110, 104, 115, 107, 116, 99]]) (A := Ab s.heap.size) hN (fun _ _ => z0) (fun _ _ => z1) (fun _ _ => z2) hle hel (fun i j hi hj h => absurd (show i = j by omega) h) hA
  have w0 : (Cond.stringRef RX2 51 "nhsktc").before args s = true := hts _ (List.mem_append_right _ (List.mem_of_getElem? (i := 317) (by decide +kernel)))
  refine ⟨aK 0, aV 0, vk_R.of w0 (h2 0 (by decide)), ⟨fun i hi => ?_, fun i j hi hj _ => by omega⟩⟩
  obtain rfl : i = 0 := by omega
  exact h1.1 0 (by decide)
set_option maxHeartbeats 4000000 in
set_option maxRecDepth 100000 in
theorem st_all {args : Array Value} {s : State} (hs : ∀ c ∈ flatC gvn, c.before args s = true) (hts : ∀ w ∈ lw_tbl, w.before args s = true) : ∃ Γ : GG, KS Γ s := by
  have hA : ∀ a : Nat, a < s.heap.size → ¬ Ab s.heap.size a := fun a h => Nat.not_le.mpr h
  have hg : ∀ w ∈ gtb, w.before args s = true := fun w hw => hts w (List.mem_filter.mp hw).1
  obtain ⟨c0, i0, k0⟩ := u_known (C := RX0) (T := TX0) (N := 13) (n := 13) hg in_X0 (hts _ (List.mem_append_right _ (List.mem_of_getElem? (i := 23) (by decide +kernel))))
  obtain ⟨c1, i1, k1⟩ := u_known (C := RX1) (T := TX1) (N := 2) (n := 2) hg in_X1 (hts _ (List.mem_append_right _ (List.mem_of_getElem? (i := 40) (by decide +kernel))))
  obtain ⟨c2, i2, k2⟩ := u_known (C := RX2) (T := TX2) (N := 9) (n := 9) hg in_X2 (hts _ (List.mem_append_right _ (List.mem_of_getElem? (i := 176) (by decide +kernel))))
  obtain ⟨c3, i3, k3⟩ := u_known (C := RX3) (T := TX3) (N := 16) (n := 16) hg in_X3 (hts _ (List.mem_append_right _ (List.mem_of_getElem? (i := 54) (by decide +kernel))))
  obtain ⟨c4, i4, k4⟩ := u_known (C := RX4) (T := TX4) (N := 5) (n := 5) hg in_X4 (hts _ (List.mem_append_right _ (List.mem_of_getElem? (i := 15) (by decide +kernel))))
  obtain ⟨c5, i5, k5⟩ := u_known (C := RX5) (T := TX5) (N := 10) (n := 10) hg in_X5 (hts _ (List.mem_append_right _ (List.mem_of_getElem? (i := 600) (by decide +kernel))))
  obtain ⟨a0, ka0, co0, p0, q0, r0⟩ := Cond.arrayClass_spec (args := args) (first := s) (o := none) (s := s) (idx := []) (hts (Cond.arrayClass .int) (List.mem_append_right _ (List.mem_of_getElem? (i := 53) (by decide +kernel))))
  obtain ⟨a1, ka1, co1, p1, q1, r1⟩ := Cond.arrayClass_spec (args := args) (first := s) (o := none) (s := s) (idx := []) (hts (Cond.arrayClass .char) (List.mem_append_right _ (List.mem_of_getElem? (i := 217) (by decide +kernel))))
  obtain ⟨a2, ka2, co2, p2, q2, r2⟩ := Cond.arrayClass_spec (args := args) (first := s) (o := none) (s := s) (idx := []) (hts (Cond.arrayClass .boolean) (List.mem_append_right _ (List.mem_of_getElem? (i := 216) (by decide +kernel))))
  obtain ⟨co3, a3, ka3, w3, z3, q3, r3, p3⟩ := Cond.arrayOver_spec (args := args) (first := s) (o := none) (s := s) (idx := []) (hts (Cond.arrayOver (.object RX0)) (List.mem_append_right _ (List.mem_of_getElem? (i := 174) (by decide +kernel))))
  obtain ⟨co4, a4, ka4, w4, z4, q4, r4, p4⟩ := Cond.arrayOver_spec (args := args) (first := s) (o := none) (s := s) (idx := []) (hts (Cond.arrayOver (.object RX3)) (List.mem_append_right _ (List.mem_of_getElem? (i := 38) (by decide +kernel))))
  obtain ⟨s0, e0, f0, g0⟩ := st_0 hs hts
  obtain ⟨s1, e1, f1, g1⟩ := st_1 hs hts
  obtain ⟨s2, e2, f2, g2⟩ := st_2 hs hts
  obtain ⟨s3, e3, f3, g3⟩ := st_3 hs hts
  obtain ⟨s4, e4, f4, g4⟩ := st_4 hs hts
  obtain ⟨s5, e5, f5, g5⟩ := st_5 hs hts
  obtain ⟨s6, s7, vr, vs⟩ := st_str hs hts
  obtain ⟨Γ, hΓ⟩ : ∃ Γ : GG, Γ = mkG c0 c1 c2 c3 c4 c5 i0 i1 i2 i3 i4 i5 a0 a1 a2 a3 a4 s0 s1 s2 s3 s4 s5 s6 s7 := ⟨_, rfl⟩
  refine ⟨Γ, ?_⟩
  rw [hΓ]
  have ar : ∀ (cA : ClassId) (kA : Class) (comp : ClassId) (ty : FieldType), s.vm.classes[cA]? = some kA → kA.kind = .array comp ty → ArrOfT s cA ty := fun cA kA comp ty h1 h2 n z => ⟨fun k h => (by cases h), kA, h1, comp, h2⟩
  have hK : va_K (gD (mkG c0 c1 c2 c3 c4 c5 i0 i1 i2 i3 i4 i5 a0 a1 a2 a3 a4 s0 s1 s2 s3 s4 s5 s6 s7)) classes (gtys (mkG c0 c1 c2 c3 c4 c5 i0 i1 i2 i3 i4 i5 a0 a1 a2 a3 a4 s0 s1 s2 s3 s4 s5 s6 s7)) s := by
    refine ⟨fun k q hq => ?_, fun k q hq => ?_⟩
    · match k, hq with
      | 0, hq => cases hq; exact k0
      | 1, hq => cases hq; exact k1
      | 2, hq => cases hq; exact k2
      | 3, hq => cases hq; exact k3
      | 4, hq => cases hq; exact k4
      | 5, hq => cases hq; exact k5
      | k + 6, hq => simp [classes] at hq
    · match k, hq with
      | 0, hq => cases hq; exact ⟨ar _ _ _ _ q0 r0, p0⟩
      | 1, hq => cases hq; exact ⟨ar _ _ _ _ q1 r1, p1⟩
      | 2, hq => cases hq; exact ⟨ar _ _ _ _ q2 r2, p2⟩
      | 3, hq => cases hq; exact ⟨ar _ _ _ _ q3 r3, ka3, co3, q3, r3, w3, p3⟩
      | 4, hq => cases hq; exact ⟨ar _ _ _ _ q4 r4, ka4, co4, q4, r4, w4, p4⟩
      | k + 5, hq => simp [gtys] at hq
  refine ⟨⟨hK, fun w hw => va_Nw.of ?_ (hts w (List.mem_filter.mp hw).1), ⟨va_Nw.of rfl (hts (Cond.castable "[I" "java/lang/Cloneable") (List.mem_append_right _ (List.mem_of_getElem? (i := 35) (by decide +kernel)))), va_AO.of (hts _ (List.mem_append_right _ (List.mem_of_getElem? (i := 174) (by decide +kernel)))), va_AO.of (hts _ (List.mem_append_right _ (List.mem_of_getElem? (i := 38) (by decide +kernel))))⟩, fun k hk => ?_⟩, fun k hk => ?_, vr, vs, va_Zof (hts _ (List.mem_append_right _ (List.mem_of_getElem? (i := 335) (by decide +kernel)))) (hts _ (List.mem_append_right _ (List.mem_of_getElem? (i := 8) (by decide +kernel)))) (Cond.eq_int (hs (Cond.eq (.static "java/lang/String" "COMPACT_STRINGS" "Z") (.int 1)) (by decide +kernel)) rfl) hA, va_Zqof (hts _ (List.mem_append_right _ (List.mem_of_getElem? (i := 378) (by decide +kernel)))) (hts _ (List.mem_append_right _ (List.mem_of_getElem? (i := 12) (by decide +kernel)))) (hs (Cond.isRef (.static "jdk/internal/util/Preconditions" "SIOOBE_FORMATTER" "Ljava/util/function/BiFunction;")) (by decide +kernel)) hA⟩
  · rcases ntb_tab hw with ⟨a, i, x, h', rfl⟩ | ⟨a, i, b, n, d, h', rfl⟩ <;> rfl
  · rcases hk with rfl | rfl
    · exact ⟨e2, f2, sx_of f2 g2 p0⟩
    · exact ⟨e5, f5, sx_of f5 g5 p0⟩
  · match k, hk with
    | 0, _ => exact ⟨e0, f0⟩
    | 1, _ => exact ⟨e1, f1⟩
    | 2, _ => exact ⟨e2, f2⟩
    | 3, _ => exact ⟨e3, f3⟩
    | 4, _ => exact ⟨e4, f4⟩
    | 5, _ => exact ⟨e5, f5⟩
    | k + 6, h => exact absurd h (by omega)
