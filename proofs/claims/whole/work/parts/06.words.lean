/-! the block functions' forms -/
def FU : Nat := 100000
def cb {β : Type} (x : Option (Int32 × Sg)) (f : Int32 → Sg → Option β) : Option β := match x with
  | none => none
  | some r => f r.1 r.2
def wb {β : Type} (x : Sg) (f : Sg → Option β) : Option β := f x
theorem gd {α : Type} {P : Prop} [Decidable P] {a : Option α} {r : α} (h : (if P then none else a) = some r) : ¬ P ∧ a = some r := by
  by_cases hp : P
  · rw [if_pos hp] at h; cases h
  · rw [if_neg hp] at h; exact ⟨hp, h⟩
theorem gd2 {α : Type} {P : Prop} [Decidable P] {a : Option α} {r : α} (h : (if P then a else none) = some r) : P ∧ a = some r := by
  by_cases hp : P
  · rw [if_pos hp] at h; exact ⟨hp, h⟩
  · rw [if_neg hp] at h; cases h
theorem cbd {β : Type} {x : Option (Int32 × Sg)} {f : Int32 → Sg → Option β} {r : β} (h : cb x f = some r) : ∃ (v : Int32) (σ : Sg), x = some (v, σ) ∧ f v σ = some r := by
  cases x with
  | none => cases h
  | some q => exact ⟨q.1, q.2, rfl, h⟩
theorem wbd {β : Type} {x : Sg} {f : Sg → Option β} {r : β} (h : wb x f = some r) : ∃ σ : Sg, σ = x ∧ f σ = some r := ⟨x, rfl, h⟩
theorem nar_c {v : Int32} (h : (v.toUInt32 % 65536).toInt32 = v) : narrow .char (.int v) = .int v := by
  rw [← h]; exact pk_nc _
theorem vp_lt {i : Int32} {n : Nat} (h : ¬ (i < 0 ∨ n ≤ i.toNatClampNeg)) : i.toNatClampNeg < n := Nat.not_le.mp fun q => h (Or.inr q)
def isBk (q : Nat) : Prop := kd q = 1 ∧ q < 156 ∧ kd (q + 1) = 6 ∧ ln (q + 1) = 80
theorem isBk.k {q : Nat} (h : isBk q) : isK 1 q := ⟨h.1, by have := h.2.1; omega⟩
theorem isBk.a {q : Nat} (h : isBk q) : isA 80 (q + 1) := ⟨h.2.2.1, by have := h.2.1; omega, h.2.2.2⟩
theorem isB.bk {q : Nat} (h : isB q) : isBk (q + 3) := by rcases h with rfl | rfl | rfl | rfl <;> (unfold isBk; decide)
theorem isB_1 : isB 1 := Or.inl rfl
theorem isB_36 : isB 36 := Or.inr (Or.inl rfl)
theorem isB_s {k : Nat} (h : k < 2) : isB (71 + 1 + 35 * k) := by
  have h2 : k = 0 ∨ k = 1 := by omega
  rcases h2 with rfl | rfl
  · exact Or.inr (Or.inr (Or.inl rfl))
  · exact Or.inr (Or.inr (Or.inr rfl))
theorem isK_0 : isK 4 0 := ⟨by decide, by decide⟩
theorem isK_71 : isK 9 71 := ⟨by decide, by decide⟩
theorem isK_142 : isK 8 142 := ⟨by decide, by decide⟩
theorem isK_143 : isK 2 143 := ⟨by decide, by decide⟩
theorem isK_144 : isK 7 144 := ⟨by decide, by decide⟩
theorem isK_150 : isK 5 150 := ⟨by decide, by decide⟩
theorem isK_154 : isK 8 154 := ⟨by decide, by decide⟩
theorem isA_145 : isA 20 145 := ⟨by decide, by decide, by decide⟩
theorem isA_146 : isA 20 146 := ⟨by decide, by decide, by decide⟩
theorem isA_147 : isA 20 147 := ⟨by decide, by decide, by decide⟩
theorem isA_148 : isA 20 148 := ⟨by decide, by decide, by decide⟩
theorem isA_149 : isA 20 149 := ⟨by decide, by decide, by decide⟩
theorem isA_151 : isA 255 151 := ⟨by decide, by decide, by decide⟩
theorem isA_152 : isA 255 152 := ⟨by decide, by decide, by decide⟩
theorem isA_153 : isA 510 153 := ⟨by decide, by decide, by decide⟩
theorem isA_155 : isA 60 155 := ⟨by decide, by decide, by decide⟩
theorem isA_156 : isA 155 156 := ⟨by decide, by decide, by decide⟩
section RL
variable {p : Program} {l : Launch} {e : Env} {R : Room} {s : State} {m : MethodId} {args : Array Value} {below : List Frame} {meth : Method} {c : Code} {H : Heap} {locs : List Loc} {cells slots : Nat} {Q : State → Prop}
variable {cc : ByteArray} {pc : Nat} {ls : Array Slot} {rest : List Value} {Γ : GG} {σ : Sg} {own : String} {nL : Nat} {ret : Option FieldType}
theorem x_ialdL {q n : Nat} (M : MX own cc nL ret p s m args meth c) (K : KK Γ s s.heap) (hB : Bd Γ σ s H locs) (hq : isA n q) {i : Int32} {k : Nat} (hk : i.toNatClampNeg = k) (hin : ¬ (i < 0 ∨ n ≤ i.toNatClampNeg)) (hdg : decode cc pc = .ok (.iaload, 1))
    (kk : W p l e R s m args below meth c H locs cells slots Q (F0 m (pc + 1) ls (.int (σ q k) :: rest))) : W p l e R s m args below meth c H locs cells slots Q (F0 m pc ls (.int i :: .ref (Γ.1 q) :: rest)) := by
  subst hk; exact x_iald M K hB hq hin hdg kk
theorem x_caldL {q : Nat} (M : MX own cc nL ret p s m args meth c) (K : KK Γ s s.heap) (hB : Bd Γ σ s H locs) (hq : isK 7 q) {i : Int32} {k : Nat} (hk : i.toNatClampNeg = k) (hin : ¬ (i < 0 ∨ (ln q) ≤ i.toNatClampNeg)) (hdg : decode cc pc = .ok (.caload, 1))
    (kk : W p l e R s m args below meth c H locs cells slots Q (F0 m (pc + 1) ls (.int (σ q k) :: rest))) : W p l e R s m args below meth c H locs cells slots Q (F0 m pc ls (.int i :: .ref (Γ.1 q) :: rest)) := by
  subst hk; exact x_cald M K hB hq hin hdg kk
theorem x_zaldL {q : Nat} (M : MX own cc nL ret p s m args meth c) (K : KK Γ s s.heap) (hB : Bd Γ σ s H locs) (hq : isK 8 q) {i : Int32} {k : Nat} (hk : i.toNatClampNeg = k) (hin : ¬ (i < 0 ∨ (ln q) ≤ i.toNatClampNeg)) (hdg : decode cc pc = .ok (.baload, 1))
    (kk : W p l e R s m args below meth c H locs cells slots Q (F0 m (pc + 1) ls (.int (σ q k) :: rest))) : W p l e R s m args below meth c H locs cells slots Q (F0 m pc ls (.int i :: .ref (Γ.1 q) :: rest)) := by
  subst hk; exact x_zald M K hB hq hin hdg kk
theorem x_aaldTL {q : Nat} (M : MX own cc nL ret p s m args meth c) (K : KK Γ s s.heap) (hB : Bd Γ σ s H locs) (hq : isK 10 q) {i : Int32} {k : Nat} (hk : i.toNatClampNeg = k) (hin : ¬ (i < 0 ∨ 6 ≤ i.toNatClampNeg)) (hdg : decode cc pc = .ok (.aaload, 1))
    (kk : W p l e R s m args below meth c H locs cells slots Q (F0 m (pc + 1) ls (.ref (Γ.1 (q + 3 + 5 * k)) :: rest))) : W p l e R s m args below meth c H locs cells slots Q (F0 m pc ls (.int i :: .ref (Γ.1 q) :: rest)) := by
  subst hk; exact x_aaldT M K hB hq hin hdg kk
theorem x_aaldBL {q : Nat} (M : MX own cc nL ret p s m args meth c) (K : KK Γ s s.heap) (hB : Bd Γ σ s H locs) (hq : isK 9 q) {i : Int32} {k : Nat} (hk : i.toNatClampNeg = k) (hin : ¬ (i < 0 ∨ 2 ≤ i.toNatClampNeg)) (hdg : decode cc pc = .ok (.aaload, 1))
    (kk : W p l e R s m args below meth c H locs cells slots Q (F0 m (pc + 1) ls (.ref (Γ.1 (q + 1 + 35 * k)) :: rest))) : W p l e R s m args below meth c H locs cells slots Q (F0 m pc ls (.int i :: .ref (Γ.1 q) :: rest)) := by
  subst hk; exact x_aaldB M K hB hq hin hdg kk
theorem x_iastL {q n : Nat} (M : MX own cc nL ret p s m args meth c) (K : KK Γ s s.heap) (hB : Bd Γ σ s H locs) (hq : isA n q) {i x : Int32} {k : Nat} (hk : i.toNatClampNeg = k) (hin : ¬ (i < 0 ∨ n ≤ i.toNatClampNeg)) (hdg : decode cc pc = .ok (.iastore, 1))
    (kk : ∀ (H1 : Heap) (locs1 : List Loc), Bd Γ (st σ q k x) s H1 locs1 → W p l e R s m args below meth c H1 locs1 cells slots Q (F0 m (pc + 1) ls rest)) : W p l e R s m args below meth c H locs cells slots Q (F0 m pc ls (.int x :: .int i :: .ref (Γ.1 q) :: rest)) := by
  subst hk; exact x_iast M K hB hq hin hdg kk
theorem x_tiL (M : MX own cc nL ret p s m args meth c) (K : KK Γ s s.heap) (hB : Bd Γ σ s H locs) {t : Nat} (ht : t < 6) {i : Int32} {k : Nat} (hk : i.toNatClampNeg = k) (hin : ¬ (i < 0 ∨ 8 ≤ i.toNatClampNeg)) (hdg : decode cc pc = .ok (.iaload, 1))
    (kk : W p l e R s m args below meth c H locs cells slots Q (F0 m (pc + 1) ls (.int (tb t k) :: rest))) : W p l e R s m args below meth c H locs cells slots Q (F0 m pc ls (.int i :: .ref (gS Γ t) :: rest)) := by
  subst hk; exact x_ti M K hB ht hin hdg kk
theorem x_getsN {index : Nat} {host : String} (M : MX own cc nL ret p s m args meth c) (K : KK Γ s s.heap) (hB : Bd Γ σ s H locs) (k : Nat) (hk : k < 6) (hlink : Cond.fieldLinkNest own index RX4 (sn k) "[I" host ∈ ntb) (hdg : decode cc pc = .ok (.getstatic index, 3))
    (kk : W p l e R s m args below meth c H locs cells slots Q (F0 m (pc + 3) ls (.ref (gS Γ k) :: rest))) : W p l e R s m args below meth c H locs cells slots Q (F0 m pc ls rest) :=
  va_getsN M.1 M.2.1 (K.2.2.1 k hk).1 hB.2 M.2.2.2.1 (va_Nw.use rfl (K.2.1 _ hlink)) (fun x h => h) hdg kk
theorem x_copyT {q1 n1 t : Nat} (M : MX own cc nL ret p s m args meth c) (K : KK Γ s s.heap) (hB : Bd Γ σ s H locs) (hls : ls.size = nL) (ht : t < 6) (hq1 : isA n1 q1) {index : Nat} (hlink : Cond.methodLink own index arraycopyName ∈ gtb) (hnat : Cond.native arraycopyName ∈ gtb) (hstat : Cond.static arraycopyName ∈ gtb) (hini : Cond.initialized "java/lang/System" ∈ gtb)
    {sp dp n : Int32} (h1 : ¬ sp < 0) (h2 : ¬ dp < 0) (h3 : ¬ n < 0) (h4 : sp.toNatClampNeg + n.toNatClampNeg ≤ 8) (h5 : dp.toNatClampNeg + n.toNatClampNeg ≤ n1)
    (hframes : 1 ≤ R.frames) (hlocals : (rest.map fun v => v.category).sum + (nativeFrameWords "java/lang/System" "arraycopy" 5 + 11) ≤ R.locals) (hdg : decode cc pc = .ok (.invokestatic index, 3))
    (kk : ∀ (H1 : Heap) (locs1 : List Loc), Bd Γ (sr σ q1 (va_cpy (tb t) (σ q1) sp.toNatClampNeg dp.toNatClampNeg n.toNatClampNeg)) s H1 locs1 → W p l e R s m args below meth c H1 locs1 cells slots Q (F0 m (pc + 3) ls rest)) : W p l e R s m args below meth c H locs cells slots Q (F0 m pc ls (.int n :: .int dp :: .ref (Γ.1 q1) :: .int sp :: .ref (gS Γ t) :: rest)) := by
  have nn : ∀ z : Int32, ¬ z < 0 → z.toInt = (z.toNatClampNeg : Int) := by
    intro z hz
    have hz0 : (0 : Int) ≤ z.toInt := by
      have := Int32.not_lt.mp hz
      simpa using Int32.le_iff_toInt_le.mp this
    show z.toInt = ((z.toInt.toNat : Nat) : Int)
    omega
  obtain ⟨hexec, hb, hml, hown, hts, -⟩ := M
  have hS := hB.2
  have hX := (K.2.2.1 t ht).2
  have hA1 : (pic Γ σ)[q1]? = some (Γ.1 q1, .inl (gA Γ 0, n1, .inl (σ q1))) := by rw [pic_get hq1.2.1, ent_6 hq1.1, hq1.2.2]
  intro T hT X
  obtain ⟨scr, hs1, hs2, hs3, hs4, -, hs5, hs7⟩ := hX
  have hc0 : H[gS Γ t]? = some scr := by rw [hS.2.1 _ (Array.getElem?_eq_some_iff.mp hs1).1 hs7]; exact hs1
  have hc1 : H[Γ.1 q1]? = some (vp_cell (gA Γ 0) (n1, .inl (σ q1))) := hB.1 q1 _ hA1
  obtain ⟨hs6, k0, hk0, cm0, hkk0⟩ := hs2
  obtain ⟨-, k1, hk1, cm1, hkk1⟩ := (K.1.2 0 (gA Γ 0, .int) rfl).1 n1 (fun j => .int (σ q1 j))
  obtain ⟨vm', X', step⟩ := X.arraycopy hexec hown (hts _ hlink) (hts _ hnat) (hts _ hstat) (hts _ hini) (src := gS Γ t) (dst := Γ.1 q1) (cs := scr) (cd := vp_cell (gA Γ 0) (n1, .inl (σ q1))) (srcPos := sp) (destPos := dp) (n := n) (by rw [hT]; exact hc0) (by rw [hT]; exact hc1)
    hs6 (fun _ h => by cases h) hs3 (fun h => by cases h) hk0 hk1 hkk0 hkk1 (by simp [refKind]) h1 h2 h3
    (by rw [nn sp h1, nn n h3]; omega)
    (by rw [nn dp h2, nn n h3]; show ¬ _ > ((arrV (gA Γ 0) n1 (fun j => .int (σ q1 j))).slots.size : Int); rw [arrV_size]; omega)
    (fun vm₁ _ i hi => by
      have e : scr.slots.getD (sp.toNatClampNeg + i) .null = .int (tb t (sp.toNatClampNeg + i)) := by
        rw [Array.getD_eq_getD_getElem?, hs5 _ (by omega)]
        rfl
      refine ⟨?_, ?_⟩
      · rw [e]
        rfl
      · rw [e]
        exact trivial)
    (g := F0 m pc ls (.int n :: .int dp :: .ref (Γ.1 q1) :: .int sp :: .ref (gS Γ t) :: rest)) rfl (by rw [hml, hls]) (rest := rest) rfl (by rw [hb]; exact hdg) hframes (by show 2 * 0 + _ + _ ≤ _; omega)
  have e1 : copied scr (vp_cell (gA Γ 0) (n1, .inl (σ q1))) sp dp n = vp_cell (gA Γ 0) (n1, .inl (va_cpy (tb t) (σ q1) sp.toNatClampNeg dp.toNatClampNeg n.toNatClampNeg)) := va_copiedX (fun z => .int z) scr (gA Γ 0) (tb t) (σ q1) hs5 h4
  rw [e1] at X' step
  have hl : Γ.1 q1 < H.size := (Array.getElem?_eq_some_iff.mp hc1).1
  have hheap : ((T.setVm vm').setCell (Γ.1 q1) (vp_cell (gA Γ 0) (n1, .inl (va_cpy (tb t) (σ q1) sp.toNatClampNeg dp.toNatClampNeg n.toNatClampNeg)))).heap = H.setIfInBounds (Γ.1 q1) (vp_cell (gA Γ 0) (n1, .inl (va_cpy (tb t) (σ q1) sp.toNatClampNeg dp.toNatClampNeg n.toNatClampNeg))) := by rw [← hT]; rfl
  have oq : ∀ q : Nat, q ≠ Γ.1 q1 → (H.setIfInBounds (Γ.1 q1) (vp_cell (gA Γ 0) (n1, .inl (va_cpy (tb t) (σ q1) sp.toNatClampNeg dp.toNatClampNeg n.toNatClampNeg))))[q]? = H[q]? := fun q hq => by simp [Array.getElem?_setIfInBounds, Ne.symm hq]
  have hAD : AD Γ (Γ.1 q1) := ⟨q1, hq1.2.1, rfl⟩
  have hP2 := hB.1.set (pic_D K.2.2.2.2 σ) hA1 (show va_at (gD Γ) classes (Γ.1 q1, .inl (gA Γ 0, n1, .inl (va_cpy (tb t) (σ q1) sp.toNatClampNeg dp.toNatClampNeg n.toNatClampNeg))) (H.setIfInBounds (Γ.1 q1) _) from (show (H.setIfInBounds (Γ.1 q1) _)[Γ.1 q1]? = some _ by simp [Array.getElem?_setIfInBounds, hl])) oq
  rw [pic_set (σ' := sr σ q1 (va_cpy (tb t) (σ q1) sp.toNatClampNeg dp.toNatClampNeg n.toNatClampNeg)) (fun a h => sr_o a h) (by rw [ent_6 hq1.1, hq1.2.2]; simp [sr])] at hP2
  obtain ⟨t2, a1, b1⟩ := kk _ _ ⟨hP2, ⟨by simp; exact hS.1, fun q g1 g2 => by
      rw [oq q (fun e => g2 (by rw [e]; exact hAD))]
      exact hS.2.1 q g1 g2, fun q hq => by
      rcases List.mem_append.mp hq with h | h
      · exact hS.2.2 q h
      · obtain ⟨z, -, hz⟩ := List.mem_map.mp h
        rw [← hz]
        exact hAD⟩⟩ _ hheap X'
  exact ⟨t2, step t2 a1, b1⟩
end RL

theorem wd_0 : Cond.methodLink RX4 75 yX4_isWithin ∈ gtb := gtb_of (by decide +kernel) (by decide +kernel)
theorem wd_1 : Cond.fieldLink RX3 23 RX3 "faultKinds" "[I" ∈ gtb := gtb_of (by decide +kernel) (by decide +kernel)
theorem wd_2 : Cond.fieldLink RX3 26 RX3 "faultStarts" "[I" ∈ gtb := gtb_of (by decide +kernel) (by decide +kernel)
theorem wd_3 : Cond.fieldLink RX3 29 RX3 "faultAmounts" "[I" ∈ gtb := gtb_of (by decide +kernel) (by decide +kernel)
theorem wd_4 : Cond.fieldLink RX3 32 RX3 "hasJob" "Z" ∈ gtb := gtb_of (by decide +kernel) (by decide +kernel)
theorem wd_5 : Cond.fieldLink RX3 46 RX3 "alive" "I" ∈ gtb := gtb_of (by decide +kernel) (by decide +kernel)
theorem wd_6 : Cond.fieldLink RX3 49 RX3 "failures" "I" ∈ gtb := gtb_of (by decide +kernel) (by decide +kernel)
theorem wd_7 : Cond.fieldLink RX3 52 RX3 "isLate" "Z" ∈ gtb := gtb_of (by decide +kernel) (by decide +kernel)
theorem wd_8 : Cond.fieldLink RX3 55 RX3 "isExpired" "Z" ∈ gtb := gtb_of (by decide +kernel) (by decide +kernel)
theorem wd_9 : Cond.fieldLink RX3 58 RX3 "badCycles" "I" ∈ gtb := gtb_of (by decide +kernel) (by decide +kernel)
theorem wd_10 : Cond.fieldLink RX3 61 RX3 "isLatched" "Z" ∈ gtb := gtb_of (by decide +kernel) (by decide +kernel)
theorem wd_11 : Cond.fieldLink RX3 67 RX3 "resets" "I" ∈ gtb := gtb_of (by decide +kernel) (by decide +kernel)
theorem wd_12 : Cond.fieldLink RX3 36 RX3 "hangs" "Z" ∈ gtb := gtb_of (by decide +kernel) (by decide +kernel)
theorem wd_13 : Cond.fieldLink RX3 43 RX3 "left" "I" ∈ gtb := gtb_of (by decide +kernel) (by decide +kernel)
theorem wd_14 : Cond.fieldLink RX3 39 RX3 "begin" "I" ∈ gtb := gtb_of (by decide +kernel) (by decide +kernel)
theorem wd_15 : Cond.fieldLink RX3 18 RX3 "settings" "[I" ∈ gtb := gtb_of (by decide +kernel) (by decide +kernel)
theorem wd_16 : Cond.methodLink RX3 90 yX3_crashesAtBegin ∈ gtb := gtb_of (by decide +kernel) (by decide +kernel)
theorem wd_17 : Cond.methodLink RX3 97 Lib.Math.max.name ∈ gtb := gtb_of (by decide +kernel) (by decide +kernel)
theorem wd_18 : Cond.static Lib.Math.max.name ∈ gtb := gtb_of (by decide +kernel) (by decide +kernel)
theorem wd_19 : Cond.initialized "java/lang/Math" ∈ gtb := gtb_of (by decide +kernel) (by decide +kernel)
theorem wd_20 : Cond.code Lib.Math.max.name Lib.Math.max.code 2 (some .int) ∈ gtb := gtb_of (by decide +kernel) (by decide +kernel)
theorem wd_21 : Cond.fieldLink RX3 64 RX3 "latchTime" "I" ∈ gtb := gtb_of (by decide +kernel) (by decide +kernel)
theorem wd_22 : Cond.methodLink RX3 70 arraycopyName ∈ gtb := gtb_of (by decide +kernel) (by decide +kernel)
theorem wd_23 : Cond.native arraycopyName ∈ gtb := gtb_of (by decide +kernel) (by decide +kernel)
theorem wd_24 : Cond.static arraycopyName ∈ gtb := gtb_of (by decide +kernel) (by decide +kernel)
theorem wd_25 : Cond.initialized "java/lang/System" ∈ gtb := gtb_of (by decide +kernel) (by decide +kernel)
theorem wd_26 : Cond.methodLink RX3 80 yX3_beginRun ∈ gtb := gtb_of (by decide +kernel) (by decide +kernel)
theorem wd_27 : Cond.methodLink RX3 83 yX3_clearDiagnostic ∈ gtb := gtb_of (by decide +kernel) (by decide +kernel)
theorem wd_28 : Cond.methodLink RX3 76 yX3_takeFault ∈ gtb := gtb_of (by decide +kernel) (by decide +kernel)
theorem nw_0 : Cond.methodLinkNest RX3 86 yX4_divides "WatchdogBoard" ∈ ntb := by decide +kernel
theorem nw_1 : Cond.methodLinkNest RX3 93 yX4_isWithin "WatchdogBoard" ∈ ntb := by decide +kernel
theorem nw_2 : Cond.fieldLinkNest RX3 9 RX4 "SETTING_FIRST" "[I" "WatchdogBoard" ∈ ntb := by decide +kernel
theorem cy_X4_isWithin : CYs yX4_isWithin cX4_isWithin 3 (some .boolean) 3 := ⟨gtb_of (by decide +kernel) (by decide +kernel), gtb_of (by decide +kernel) (by decide +kernel), gtb_of (by decide +kernel) (by decide +kernel), by decide, by decide, by decide⟩
theorem cy_X4_divides : CYs yX4_divides cX4_divides 2 (some .boolean) 2 := ⟨gtb_of (by decide +kernel) (by decide +kernel), gtb_of (by decide +kernel) (by decide +kernel), gtb_of (by decide +kernel) (by decide +kernel), by decide, by decide, by decide⟩
theorem cy_X3_crashesAtBegin : CYv yX3_crashesAtBegin cX3_crashesAtBegin 5 (some .boolean) 2 := ⟨gtb_of (by decide +kernel) (by decide +kernel), gtb_of (by decide +kernel) (by decide +kernel), gtb_of (by decide +kernel) (by decide +kernel), gtb_of (by decide +kernel) (by decide +kernel), by decide, by decide, by decide⟩
theorem cy_X3_beginRun : CYv yX3_beginRun cX3_beginRun 1 none 0 := ⟨gtb_of (by decide +kernel) (by decide +kernel), gtb_of (by decide +kernel) (by decide +kernel), gtb_of (by decide +kernel) (by decide +kernel), gtb_of (by decide +kernel) (by decide +kernel), by decide, by decide, by decide⟩
theorem cy_X3_clearDiagnostic : CYv yX3_clearDiagnostic cX3_clearDiagnostic 1 none 0 := ⟨gtb_of (by decide +kernel) (by decide +kernel), gtb_of (by decide +kernel) (by decide +kernel), gtb_of (by decide +kernel) (by decide +kernel), gtb_of (by decide +kernel) (by decide +kernel), by decide, by decide, by decide⟩
theorem cy_X3_takeFault : CYv yX3_takeFault cX3_takeFault 5 none 4 := ⟨gtb_of (by decide +kernel) (by decide +kernel), gtb_of (by decide +kernel) (by decide +kernel), gtb_of (by decide +kernel) (by decide +kernel), gtb_of (by decide +kernel) (by decide +kernel), by decide, by decide, by decide⟩
