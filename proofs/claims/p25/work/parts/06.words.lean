/-! the block functions' forms -/
def FU : Nat := 100000
def cb {β : Type} (x : Option (Int32 × Sg)) (f : Int32 → Sg → Option β) : Option β := match x with
  | none => none
  | some r => f r.1 r.2
def wb {β : Type} (x : Sg) (f : Sg → Option β) : Option β := f x
theorem gd {α : Type} {P : Prop} [Decidable P] {a : Option α} {r : α} (h : (if P then none else a) = some r) : ¬ P ∧ a = some r := by
  by_cases hp : P
  · rw [if_pos hp] at h; cases h
  · rw [if_neg hp] at h; exact ⟨hp, h⟩
theorem gd2 {α : Type} {P : Prop} [Decidable P] {a : Option α} {r : α} (h : (if P then a else none) = some r) : P ∧ a = some r := by
  by_cases hp : P
  · rw [if_pos hp] at h; exact ⟨hp, h⟩
  · rw [if_neg hp] at h; cases h
theorem cbd {β : Type} {x : Option (Int32 × Sg)} {f : Int32 → Sg → Option β} {r : β} (h : cb x f = some r) : ∃ (v : Int32) (σ : Sg), x = some (v, σ) ∧ f v σ = some r := by
  cases x with
  | none => cases h
  | some q => exact ⟨q.1, q.2, rfl, h⟩
theorem wbd {β : Type} {x : Sg} {f : Sg → Option β} {r : β} (h : wb x f = some r) : ∃ σ : Sg, σ = x ∧ f σ = some r := ⟨x, rfl, h⟩
theorem nar_c {v : Int32} (h : (v.toUInt32 % 65536).toInt32 = v) : narrow .char (.int v) = .int v := by
  rw [← h]; exact pk_nc _
theorem nar_b {v : Int32} (h : v = 0 ∨ v = 1) : narrow .byte (.int v) = .int v := by rcases h with rfl | rfl <;> rfl
theorem vp_lt {i : Int32} {n : Nat} (h : ¬ (i < 0 ∨ n ≤ i.toNatClampNeg)) : i.toNatClampNeg < n := Nat.not_le.mp fun q => h (Or.inr q)
def isBk (q : Nat) : Prop := kd q = 1 ∧ q < 152 ∧ kd (q + 1) = 6 ∧ ln (q + 1) = 80
theorem isBk.k {q : Nat} (h : isBk q) : isK 1 q := ⟨h.1, by have := h.2.1; omega⟩
theorem isBk.a {q : Nat} (h : isBk q) : isA 80 (q + 1) := ⟨h.2.2.1, by have := h.2.1; omega, h.2.2.2⟩
theorem isB.bk {q : Nat} (h : isB q) : isBk (q + 3) := by rcases h with rfl | rfl | rfl | rfl <;> (unfold isBk; decide)
theorem isB_1 : isB 1 := Or.inl rfl
theorem isB_36 : isB 36 := Or.inr (Or.inl rfl)
theorem isB_s {k : Nat} (h : k < 2) : isB (71 + 1 + 35 * k) := by
  have h2 : k = 0 ∨ k = 1 := by omega
  rcases h2 with rfl | rfl
  · exact Or.inr (Or.inr (Or.inl rfl))
  · exact Or.inr (Or.inr (Or.inr rfl))
theorem isK_0 : isK 4 0 := ⟨by decide, by decide⟩
theorem isK_71 : isK 9 71 := ⟨by decide, by decide⟩
theorem isK_142 : isK 8 142 := ⟨by decide, by decide⟩
theorem isK_143 : isK 2 143 := ⟨by decide, by decide⟩
theorem isK_144 : isK 7 144 := ⟨by decide, by decide⟩
theorem isA_145 : isA 20 145 := ⟨by decide, by decide, by decide⟩
theorem isA_146 : isA 20 146 := ⟨by decide, by decide, by decide⟩
theorem isA_147 : isA 20 147 := ⟨by decide, by decide, by decide⟩
theorem isA_148 : isA 20 148 := ⟨by decide, by decide, by decide⟩
theorem isA_149 : isA 20 149 := ⟨by decide, by decide, by decide⟩
theorem isA_150 : isA 14 150 := ⟨by decide, by decide, by decide⟩
theorem isA_151 : isA 30 151 := ⟨by decide, by decide, by decide⟩
theorem isA_152 : isA 18 152 := ⟨by decide, by decide, by decide⟩
section RL
variable {p : Program} {l : Launch} {e : Env} {R : Room} {s : State} {m : MethodId} {args : Array Value} {below : List Frame} {meth : Method} {c : Code} {H : Heap} {locs : List Loc} {cells slots : Nat} {Q : State → Prop}
variable {cc : ByteArray} {pc : Nat} {ls : Array Slot} {rest : List Value} {Γ : GG} {σ : Sg} {own : String} {nL : Nat} {ret : Option FieldType}
theorem x_ialdL {q n : Nat} (M : MX own cc nL ret p s m args meth c) (K : KK Γ s s.heap) (hB : Bd Γ σ s H locs) (hq : isA n q) {i : Int32} {k : Nat} (hk : i.toNatClampNeg = k) (hin : ¬ (i < 0 ∨ n ≤ i.toNatClampNeg)) (hdg : decode cc pc = .ok (.iaload, 1))
    (kk : W p l e R s m args below meth c H locs cells slots Q (F0 m (pc + 1) ls (.int (σ q k) :: rest))) : W p l e R s m args below meth c H locs cells slots Q (F0 m pc ls (.int i :: .ref (Γ.1 q) :: rest)) := by
  subst hk; exact x_iald M K hB hq hin hdg kk
theorem x_caldL {q : Nat} (M : MX own cc nL ret p s m args meth c) (K : KK Γ s s.heap) (hB : Bd Γ σ s H locs) (hq : isK 7 q) {i : Int32} {k : Nat} (hk : i.toNatClampNeg = k) (hin : ¬ (i < 0 ∨ (ln q) ≤ i.toNatClampNeg)) (hdg : decode cc pc = .ok (.caload, 1))
    (kk : W p l e R s m args below meth c H locs cells slots Q (F0 m (pc + 1) ls (.int (σ q k) :: rest))) : W p l e R s m args below meth c H locs cells slots Q (F0 m pc ls (.int i :: .ref (Γ.1 q) :: rest)) := by
  subst hk; exact x_cald M K hB hq hin hdg kk
theorem x_zaldL {q : Nat} (M : MX own cc nL ret p s m args meth c) (K : KK Γ s s.heap) (hB : Bd Γ σ s H locs) (hq : isK 8 q) {i : Int32} {k : Nat} (hk : i.toNatClampNeg = k) (hin : ¬ (i < 0 ∨ (ln q) ≤ i.toNatClampNeg)) (hdg : decode cc pc = .ok (.baload, 1))
    (kk : W p l e R s m args below meth c H locs cells slots Q (F0 m (pc + 1) ls (.int (σ q k) :: rest))) : W p l e R s m args below meth c H locs cells slots Q (F0 m pc ls (.int i :: .ref (Γ.1 q) :: rest)) := by
  subst hk; exact x_zald M K hB hq hin hdg kk
theorem x_aaldTL {q : Nat} (M : MX own cc nL ret p s m args meth c) (K : KK Γ s s.heap) (hB : Bd Γ σ s H locs) (hq : isK 10 q) {i : Int32} {k : Nat} (hk : i.toNatClampNeg = k) (hin : ¬ (i < 0 ∨ 6 ≤ i.toNatClampNeg)) (hdg : decode cc pc = .ok (.aaload, 1))
    (kk : W p l e R s m args below meth c H locs cells slots Q (F0 m (pc + 1) ls (.ref (Γ.1 (q + 3 + 5 * k)) :: rest))) : W p l e R s m args below meth c H locs cells slots Q (F0 m pc ls (.int i :: .ref (Γ.1 q) :: rest)) := by
  subst hk; exact x_aaldT M K hB hq hin hdg kk
theorem x_aaldBL {q : Nat} (M : MX own cc nL ret p s m args meth c) (K : KK Γ s s.heap) (hB : Bd Γ σ s H locs) (hq : isK 9 q) {i : Int32} {k : Nat} (hk : i.toNatClampNeg = k) (hin : ¬ (i < 0 ∨ 2 ≤ i.toNatClampNeg)) (hdg : decode cc pc = .ok (.aaload, 1))
    (kk : W p l e R s m args below meth c H locs cells slots Q (F0 m (pc + 1) ls (.ref (Γ.1 (q + 1 + 35 * k)) :: rest))) : W p l e R s m args below meth c H locs cells slots Q (F0 m pc ls (.int i :: .ref (Γ.1 q) :: rest)) := by
  subst hk; exact x_aaldB M K hB hq hin hdg kk
theorem x_iastL {q n : Nat} (M : MX own cc nL ret p s m args meth c) (K : KK Γ s s.heap) (hB : Bd Γ σ s H locs) (hq : isA n q) {i x : Int32} {k : Nat} (hk : i.toNatClampNeg = k) (hin : ¬ (i < 0 ∨ n ≤ i.toNatClampNeg)) (hdg : decode cc pc = .ok (.iastore, 1))
    (kk : ∀ (H1 : Heap) (locs1 : List Loc), Bd Γ (st σ q k x) s H1 locs1 → W p l e R s m args below meth c H1 locs1 cells slots Q (F0 m (pc + 1) ls rest)) : W p l e R s m args below meth c H locs cells slots Q (F0 m pc ls (.int x :: .int i :: .ref (Γ.1 q) :: rest)) := by
  subst hk; exact x_iast M K hB hq hin hdg kk
theorem x_tiL (M : MX own cc nL ret p s m args meth c) (K : KK Γ s s.heap) (hB : Bd Γ σ s H locs) {t : Nat} (ht : t < 6) {i : Int32} {k : Nat} (hk : i.toNatClampNeg = k) (hin : ¬ (i < 0 ∨ 8 ≤ i.toNatClampNeg)) (hdg : decode cc pc = .ok (.iaload, 1))
    (kk : W p l e R s m args below meth c H locs cells slots Q (F0 m (pc + 1) ls (.int (tb t k) :: rest))) : W p l e R s m args below meth c H locs cells slots Q (F0 m pc ls (.int i :: .ref (gS Γ t) :: rest)) := by
  subst hk; exact x_ti M K hB ht hin hdg kk
theorem x_getsN {index : Nat} {host : String} (M : MX own cc nL ret p s m args meth c) (K : KK Γ s s.heap) (hB : Bd Γ σ s H locs) (k : Nat) (hk : k < 6) (hlink : Cond.fieldLinkNest own index RX4 (sn k) "[I" host ∈ ntb) (hdg : decode cc pc = .ok (.getstatic index, 3))
    (kk : W p l e R s m args below meth c H locs cells slots Q (F0 m (pc + 3) ls (.ref (gS Γ k) :: rest))) : W p l e R s m args below meth c H locs cells slots Q (F0 m pc ls rest) :=
  va_getsN M.1 M.2.1 (K.2.2.1 k hk).1 hB.2 M.2.2.2.1 (va_Nw.use rfl (K.2.1 _ hlink)) (fun x h => h) hdg kk
theorem x_copyT {q1 n1 t : Nat} (M : MX own cc nL ret p s m args meth c) (K : KK Γ s s.heap) (hB : Bd Γ σ s H locs) (hls : ls.size = nL) (ht : t < 6) (hq1 : isA n1 q1) {index : Nat} (hlink : Cond.methodLink own index arraycopyName ∈ gtb) (hnat : Cond.native arraycopyName ∈ gtb) (hstat : Cond.static arraycopyName ∈ gtb) (hini : Cond.initialized "java/lang/System" ∈ gtb)
    {sp dp n : Int32} (h1 : ¬ sp < 0) (h2 : ¬ dp < 0) (h3 : ¬ n < 0) (h4 : sp.toNatClampNeg + n.toNatClampNeg ≤ 8) (h5 : dp.toNatClampNeg + n.toNatClampNeg ≤ n1)
    (hframes : 1 ≤ R.frames) (hlocals : (rest.map fun v => v.category).sum + (nativeFrameWords "java/lang/System" "arraycopy" 5 + 11) ≤ R.locals) (hdg : decode cc pc = .ok (.invokestatic index, 3))
    (kk : ∀ (H1 : Heap) (locs1 : List Loc), Bd Γ (sr σ q1 (va_cpy (tb t) (σ q1) sp.toNatClampNeg dp.toNatClampNeg n.toNatClampNeg)) s H1 locs1 → W p l e R s m args below meth c H1 locs1 cells slots Q (F0 m (pc + 3) ls rest)) : W p l e R s m args below meth c H locs cells slots Q (F0 m pc ls (.int n :: .int dp :: .ref (Γ.1 q1) :: .int sp :: .ref (gS Γ t) :: rest)) := by
  have nn : ∀ z : Int32, ¬ z < 0 → z.toInt = (z.toNatClampNeg : Int) := by
    intro z hz
    have hz0 : (0 : Int) ≤ z.toInt := by
      have := Int32.not_lt.mp hz
      simpa using Int32.le_iff_toInt_le.mp this
    show z.toInt = ((z.toInt.toNat : Nat) : Int)
    omega
  obtain ⟨hexec, hb, hml, hown, hts, -⟩ := M
  have hS := hB.2
  have hX := (K.2.2.1 t ht).2
  have hA1 : (pic Γ σ)[q1]? = some (Γ.1 q1, .inl (gA Γ 0, n1, .inl (σ q1))) := by rw [pic_get hq1.2.1, ent_6 hq1.1, hq1.2.2]
  intro T hT X
  obtain ⟨scr, hs1, hs2, hs3, hs4, -, hs5, hs7⟩ := hX
  have hc0 : H[gS Γ t]? = some scr := by rw [hS.2.1 _ (Array.getElem?_eq_some_iff.mp hs1).1 hs7]; exact hs1
  have hc1 : H[Γ.1 q1]? = some (vp_cell (gA Γ 0) (n1, .inl (σ q1))) := hB.1 q1 _ hA1
  obtain ⟨hs6, k0, hk0, cm0, hkk0⟩ := hs2
  obtain ⟨-, k1, hk1, cm1, hkk1⟩ := (K.1.2 0 (gA Γ 0, .int) rfl).1 n1 (fun j => .int (σ q1 j))
  obtain ⟨vm', X', step⟩ := X.arraycopy hexec hown (hts _ hlink) (hts _ hnat) (hts _ hstat) (hts _ hini) (src := gS Γ t) (dst := Γ.1 q1) (cs := scr) (cd := vp_cell (gA Γ 0) (n1, .inl (σ q1))) (srcPos := sp) (destPos := dp) (n := n) (by rw [hT]; exact hc0) (by rw [hT]; exact hc1)
    hs6 (fun _ h => by cases h) hs3 (fun h => by cases h) hk0 hk1 hkk0 hkk1 (by simp [refKind]) h1 h2 h3
    (by rw [nn sp h1, nn n h3]; omega)
    (by rw [nn dp h2, nn n h3]; show ¬ _ > ((arrV (gA Γ 0) n1 (fun j => .int (σ q1 j))).slots.size : Int); rw [arrV_size]; omega)
    (fun vm₁ _ i hi => by
      have e : scr.slots.getD (sp.toNatClampNeg + i) .null = .int (tb t (sp.toNatClampNeg + i)) := by
        rw [Array.getD_eq_getD_getElem?, hs5 _ (by omega)]
        rfl
      refine ⟨?_, ?_⟩
      · rw [e]
        rfl
      · rw [e]
        exact trivial)
    (g := F0 m pc ls (.int n :: .int dp :: .ref (Γ.1 q1) :: .int sp :: .ref (gS Γ t) :: rest)) rfl (by rw [hml, hls]) (rest := rest) rfl (by rw [hb]; exact hdg) hframes (by show 2 * 0 + _ + _ ≤ _; omega)
  have e1 : copied scr (vp_cell (gA Γ 0) (n1, .inl (σ q1))) sp dp n = vp_cell (gA Γ 0) (n1, .inl (va_cpy (tb t) (σ q1) sp.toNatClampNeg dp.toNatClampNeg n.toNatClampNeg)) := va_copiedX (fun z => .int z) scr (gA Γ 0) (tb t) (σ q1) hs5 h4
  rw [e1] at X' step
  have hl : Γ.1 q1 < H.size := (Array.getElem?_eq_some_iff.mp hc1).1
  have hheap : ((T.setVm vm').setCell (Γ.1 q1) (vp_cell (gA Γ 0) (n1, .inl (va_cpy (tb t) (σ q1) sp.toNatClampNeg dp.toNatClampNeg n.toNatClampNeg)))).heap = H.setIfInBounds (Γ.1 q1) (vp_cell (gA Γ 0) (n1, .inl (va_cpy (tb t) (σ q1) sp.toNatClampNeg dp.toNatClampNeg n.toNatClampNeg))) := by rw [← hT]; rfl
  have oq : ∀ q : Nat, q ≠ Γ.1 q1 → (H.setIfInBounds (Γ.1 q1) (vp_cell (gA Γ 0) (n1, .inl (va_cpy (tb t) (σ q1) sp.toNatClampNeg dp.toNatClampNeg n.toNatClampNeg))))[q]? = H[q]? := fun q hq => by simp [Array.getElem?_setIfInBounds, Ne.symm hq]
  have hAD : AD Γ (Γ.1 q1) := ⟨q1, hq1.2.1, rfl⟩
  have hP2 := hB.1.set (pic_D K.2.2.2.2 σ) hA1 (show va_at (gD Γ) classes (Γ.1 q1, .inl (gA Γ 0, n1, .inl (va_cpy (tb t) (σ q1) sp.toNatClampNeg dp.toNatClampNeg n.toNatClampNeg))) (H.setIfInBounds (Γ.1 q1) _) from (show (H.setIfInBounds (Γ.1 q1) _)[Γ.1 q1]? = some _ by simp [Array.getElem?_setIfInBounds, hl])) oq
  rw [pic_set (σ' := sr σ q1 (va_cpy (tb t) (σ q1) sp.toNatClampNeg dp.toNatClampNeg n.toNatClampNeg)) (fun a h => sr_o a h) (by rw [ent_6 hq1.1, hq1.2.2]; simp [sr])] at hP2
  obtain ⟨t2, a1, b1⟩ := kk _ _ ⟨hP2, ⟨by simp; exact hS.1, fun q g1 g2 => by
      rw [oq q (fun e => g2 (by rw [e]; exact hAD))]
      exact hS.2.1 q g1 g2, fun q hq => by
      rcases List.mem_append.mp hq with h | h
      · exact hS.2.2 q h
      · obtain ⟨z, -, hz⟩ := List.mem_map.mp h
        rw [← hz]
        exact hAD⟩⟩ _ hheap X'
  exact ⟨t2, step t2 a1, b1⟩
theorem x_min {index : Nat} (M : MX own cc nL ret p s m args meth c) (hls : ls.size = nL) (hlink : Cond.methodLink own index Lib.Math.min.name ∈ gtb) (hstat : Cond.static Lib.Math.min.name ∈ gtb) (hini : Cond.initialized "java/lang/Math" ∈ gtb) (hcode : Cond.code Lib.Math.min.name Lib.Math.min.code 2 (some .int) ∈ gtb)
    (hframes : 1 ≤ R.frames) (hlocals : (rest.map fun v => v.category).sum + 13 ≤ R.locals) (hc : cells ≤ R.cells) (hs : slots ≤ R.slots) {x y : Int32} (hdg : decode cc pc = .ok (.invokestatic index, 3))
    (kk : W p l e R s m args below meth c H locs cells slots Q (F0 m (pc + 3) ls (.int (if y < x then y else x) :: rest))) : W p l e R s m args below meth c H locs cells slots Q (F0 m pc ls (.int y :: .int x :: rest)) := by
  obtain ⟨hx, hb, hml, hown, hts, -⟩ := M
  exact va_mmin hx hb (hml.trans hls.symm) hown (hts _ hlink) (hts _ hstat) (hts _ hini) (hts _ hcode) hframes hlocals hc hs hdg kk
/-- the script -/
theorem x_slen {D : SD} (M : MX own cc nL ret p s m args meth c) (K : KK Γ s s.heap) (hB : Bd Γ σ s H locs) (hD : gX Γ = D) (hdg : decode cc pc = .ok (.arraylength, 1))
    (kk : W p l e R s m args below meth c H locs cells slots Q (F0 m (pc + 1) ls (.int (Int32.ofNat D.1) :: rest))) : W p l e R s m args below meth c H locs cells slots Q (F0 m pc ls (.ref (gS Γ 6) :: rest)) := by
  subst hD; exact va_tlen M.1 M.2.1 K.2.2.2.1 hB.2 rfl hdg kk
theorem x_sld {D : SD} (M : MX own cc nL ret p s m args meth c) (K : KK Γ s s.heap) (hB : Bd Γ σ s H locs) (hD : gX Γ = D) {i : Int32} (hin : ¬ (i < 0 ∨ D.1 ≤ i.toNatClampNeg)) (hdg : decode cc pc = .ok (.iaload, 1))
    (kk : W p l e R s m args below meth c H locs cells slots Q (F0 m (pc + 1) ls (.int (D.2 i.toNatClampNeg) :: rest))) : W p l e R s m args below meth c H locs cells slots Q (F0 m pc ls (.int i :: .ref (gS Γ 6) :: rest)) := by
  subst hD; exact va_ti M.1 M.2.1 K.2.2.2.1 hB.2 hin rfl hdg kk
end RL
/-- the law's own body: any room so far, any end -/
abbrev WLw (cells slots : Nat) (Q : State → Prop) (Γ : GG) (rm : Room) (p : Program) (l : Launch) (e : Env) (s : State) (m : MethodId) (args : Array Value) (below : List Frame) (meth : Method) (c : Code) (H : Heap) (locs : List Loc) (res : Int32 × Sg) (g : JFrame) : Prop := W p l e rm s m args below meth c H locs cells slots Q g
def RT (Γ : GG) (p : Program) (l : Launch) (e : Env) (s : State) (m : MethodId) (args : Array Value) (below : List Frame) (meth : Method) (c : Code) (cells slots : Nat) (Q : State → Prop) (res : Int32 × Sg) : Prop := ∀ (pc : Nat) (ls : Array Slot) (H : Heap) (locs : List Loc) (v : Int32) (σ : Sg), (v, σ) = res → decode cL_law pc = .ok (.ireturn, 1) → Bd Γ σ s H locs → W p l e room_1 s m args below meth c H locs cells slots Q (F0 m pc ls [.int v])

theorem wd_0 : Cond.fieldLink RX1 15 RX1 "count" "I" ∈ gtb := gtb_of (List.mem_append_right _ (List.mem_of_getElem? (i := 40) (by decide +kernel))) (by decide +kernel)
theorem wd_1 : Cond.fieldLink RX1 9 RX1 "cells" "[I" ∈ gtb := gtb_of (List.mem_append_right _ (List.mem_of_getElem? (i := 39) (by decide +kernel))) (by decide +kernel)
theorem wd_2 : Cond.methodLink RX1 23 arraycopyName ∈ gtb := gtb_of (List.mem_append_right _ (List.mem_of_getElem? (i := 375) (by decide +kernel))) (by decide +kernel)
theorem wd_3 : Cond.native arraycopyName ∈ gtb := gtb_of (List.mem_append_right _ (List.mem_of_getElem? (i := 250) (by decide +kernel))) (by decide +kernel)
theorem wd_4 : Cond.static arraycopyName ∈ gtb := gtb_of (List.mem_append_right _ (List.mem_of_getElem? (i := 249) (by decide +kernel))) (by decide +kernel)
theorem wd_5 : Cond.initialized "java/lang/System" ∈ gtb := gtb_of (List.mem_append_right _ (List.mem_of_getElem? (i := 6) (by decide +kernel))) (by decide +kernel)
theorem wd_6 : Cond.fieldLink RX3 23 RX3 "faultKinds" "[I" ∈ gtb := gtb_of (List.mem_append_right _ (List.mem_of_getElem? (i := 60) (by decide +kernel))) (by decide +kernel)
theorem wd_7 : Cond.fieldLink RX3 26 RX3 "faultStarts" "[I" ∈ gtb := gtb_of (List.mem_append_right _ (List.mem_of_getElem? (i := 62) (by decide +kernel))) (by decide +kernel)
theorem wd_8 : Cond.fieldLink RX3 29 RX3 "faultAmounts" "[I" ∈ gtb := gtb_of (List.mem_append_right _ (List.mem_of_getElem? (i := 63) (by decide +kernel))) (by decide +kernel)
theorem wd_9 : Cond.fieldLink RX3 32 RX3 "hasJob" "Z" ∈ gtb := gtb_of (List.mem_append_right _ (List.mem_of_getElem? (i := 64) (by decide +kernel))) (by decide +kernel)
theorem wd_10 : Cond.fieldLink RX3 46 RX3 "alive" "I" ∈ gtb := gtb_of (List.mem_append_right _ (List.mem_of_getElem? (i := 68) (by decide +kernel))) (by decide +kernel)
theorem wd_11 : Cond.fieldLink RX3 49 RX3 "failures" "I" ∈ gtb := gtb_of (List.mem_append_right _ (List.mem_of_getElem? (i := 69) (by decide +kernel))) (by decide +kernel)
theorem wd_12 : Cond.fieldLink RX3 52 RX3 "isLate" "Z" ∈ gtb := gtb_of (List.mem_append_right _ (List.mem_of_getElem? (i := 70) (by decide +kernel))) (by decide +kernel)
theorem wd_13 : Cond.fieldLink RX3 55 RX3 "isExpired" "Z" ∈ gtb := gtb_of (List.mem_append_right _ (List.mem_of_getElem? (i := 71) (by decide +kernel))) (by decide +kernel)
theorem wd_14 : Cond.fieldLink RX3 58 RX3 "badCycles" "I" ∈ gtb := gtb_of (List.mem_append_right _ (List.mem_of_getElem? (i := 73) (by decide +kernel))) (by decide +kernel)
theorem wd_15 : Cond.fieldLink RX3 61 RX3 "isLatched" "Z" ∈ gtb := gtb_of (List.mem_append_right _ (List.mem_of_getElem? (i := 75) (by decide +kernel))) (by decide +kernel)
theorem wd_16 : Cond.fieldLink RX3 67 RX3 "resets" "I" ∈ gtb := gtb_of (List.mem_append_right _ (List.mem_of_getElem? (i := 79) (by decide +kernel))) (by decide +kernel)
theorem wd_17 : Cond.fieldLink RX3 18 RX3 "settings" "[I" ∈ gtb := gtb_of (List.mem_append_right _ (List.mem_of_getElem? (i := 57) (by decide +kernel))) (by decide +kernel)
theorem wd_18 : Cond.methodLink RX3 70 arraycopyName ∈ gtb := gtb_of (List.mem_append_right _ (List.mem_of_getElem? (i := 248) (by decide +kernel))) (by decide +kernel)
theorem wd_19 : Cond.methodLink RX3 80 yX3_beginRun ∈ gtb := gtb_of (List.mem_append_right _ (List.mem_of_getElem? (i := 255) (by decide +kernel))) (by decide +kernel)
theorem wd_20 : Cond.methodLink RX3 83 yX3_clearDiagnostic ∈ gtb := gtb_of (List.mem_append_right _ (List.mem_of_getElem? (i := 259) (by decide +kernel))) (by decide +kernel)
theorem wd_21 : Cond.methodLink RX3 76 yX3_takeFault ∈ gtb := gtb_of (List.mem_append_right _ (List.mem_of_getElem? (i := 251) (by decide +kernel))) (by decide +kernel)
theorem wd_22 : Cond.fieldLink RX3 36 RX3 "hangs" "Z" ∈ gtb := gtb_of (List.mem_append_right _ (List.mem_of_getElem? (i := 65) (by decide +kernel))) (by decide +kernel)
theorem wd_23 : Cond.fieldLink RX3 39 RX3 "begin" "I" ∈ gtb := gtb_of (List.mem_append_right _ (List.mem_of_getElem? (i := 66) (by decide +kernel))) (by decide +kernel)
theorem wd_24 : Cond.fieldLink RX3 43 RX3 "left" "I" ∈ gtb := gtb_of (List.mem_append_right _ (List.mem_of_getElem? (i := 67) (by decide +kernel))) (by decide +kernel)
theorem wd_25 : Cond.methodLink RX3 90 yX3_crashesAtBegin ∈ gtb := gtb_of (List.mem_append_right _ (List.mem_of_getElem? (i := 301) (by decide +kernel))) (by decide +kernel)
theorem wd_26 : Cond.methodLink RX3 97 Lib.Math.max.name ∈ gtb := gtb_of (List.mem_append_right _ (List.mem_of_getElem? (i := 327) (by decide +kernel))) (by decide +kernel)
theorem wd_27 : Cond.static Lib.Math.max.name ∈ gtb := gtb_of (List.mem_append_right _ (List.mem_of_getElem? (i := 328) (by decide +kernel))) (by decide +kernel)
theorem wd_28 : Cond.initialized "java/lang/Math" ∈ gtb := gtb_of (List.mem_append_right _ (List.mem_of_getElem? (i := 7) (by decide +kernel))) (by decide +kernel)
theorem wd_29 : Cond.code Lib.Math.max.name Lib.Math.max.code 2 (some .int) ∈ gtb := gtb_of (List.mem_append_right _ (List.mem_of_getElem? (i := 329) (by decide +kernel))) (by decide +kernel)
theorem wd_30 : Cond.fieldLink RX3 64 RX3 "latchTime" "I" ∈ gtb := gtb_of (List.mem_append_right _ (List.mem_of_getElem? (i := 77) (by decide +kernel))) (by decide +kernel)
theorem wd_31 : Cond.fieldLink RX0 52 RX0 "bootLeft" "I" ∈ gtb := gtb_of (List.mem_append_right _ (List.mem_of_getElem? (i := 131) (by decide +kernel))) (by decide +kernel)
theorem wd_32 : Cond.fieldLink RX0 43 RX0 "mode" "I" ∈ gtb := gtb_of (List.mem_append_right _ (List.mem_of_getElem? (i := 125) (by decide +kernel))) (by decide +kernel)
theorem wd_33 : Cond.fieldLink RX0 55 RX0 "u" "I" ∈ gtb := gtb_of (List.mem_append_right _ (List.mem_of_getElem? (i := 133) (by decide +kernel))) (by decide +kernel)
theorem wd_34 : Cond.fieldLink RX0 58 RX0 "elapsed" "I" ∈ gtb := gtb_of (List.mem_append_right _ (List.mem_of_getElem? (i := 135) (by decide +kernel))) (by decide +kernel)
theorem wd_35 : Cond.fieldLink RX0 61 RX0 "runs" "I" ∈ gtb := gtb_of (List.mem_append_right _ (List.mem_of_getElem? (i := 137) (by decide +kernel))) (by decide +kernel)
theorem wd_36 : Cond.fieldLink RX0 64 RX0 "expiredRuns" "I" ∈ gtb := gtb_of (List.mem_append_right _ (List.mem_of_getElem? (i := 139) (by decide +kernel))) (by decide +kernel)
theorem wd_37 : Cond.fieldLink RX0 36 RX0 "taskCount" "I" ∈ gtb := gtb_of (List.mem_append_right _ (List.mem_of_getElem? (i := 121) (by decide +kernel))) (by decide +kernel)
theorem wd_38 : Cond.fieldLink RX0 25 RX0 "tasks" "[LWatchdogBoard$Task;" ∈ gtb := gtb_of (List.mem_append_right _ (List.mem_of_getElem? (i := 117) (by decide +kernel))) (by decide +kernel)
theorem wd_39 : Cond.methodLink RX0 102 yX3_beginRun ∈ gtb := gtb_of (List.mem_append_right _ (List.mem_of_getElem? (i := 289) (by decide +kernel))) (by decide +kernel)
theorem wd_40 : Cond.fieldLink RX0 18 RX0 "rules" "[I" ∈ gtb := gtb_of (List.mem_append_right _ (List.mem_of_getElem? (i := 115) (by decide +kernel))) (by decide +kernel)
theorem wd_41 : Cond.fieldLink RX0 32 RX0 "book" "LWatchdogBoard$Book;" ∈ gtb := gtb_of (List.mem_append_right _ (List.mem_of_getElem? (i := 119) (by decide +kernel))) (by decide +kernel)
theorem wd_42 : Cond.fieldLink RX0 40 RX0 "time" "I" ∈ gtb := gtb_of (List.mem_append_right _ (List.mem_of_getElem? (i := 123) (by decide +kernel))) (by decide +kernel)
theorem wd_43 : Cond.fieldLink RX0 46 RX0 "image" "I" ∈ gtb := gtb_of (List.mem_append_right _ (List.mem_of_getElem? (i := 127) (by decide +kernel))) (by decide +kernel)
theorem wd_44 : Cond.methodLink RX0 134 yX1_add ∈ gtb := gtb_of (List.mem_append_right _ (List.mem_of_getElem? (i := 309) (by decide +kernel))) (by decide +kernel)
theorem wd_45 : Cond.fieldLink RX0 138 RX3 "resets" "I" ∈ gtb := gtb_of (List.mem_append_right _ (List.mem_of_getElem? (i := 80) (by decide +kernel))) (by decide +kernel)
theorem wd_46 : Cond.fieldLink RX0 49 RX0 "attempts" "I" ∈ gtb := gtb_of (List.mem_append_right _ (List.mem_of_getElem? (i := 129) (by decide +kernel))) (by decide +kernel)
theorem wd_47 : Cond.methodLink RX0 85 yX0_boot ∈ gtb := gtb_of (List.mem_append_right _ (List.mem_of_getElem? (i := 313) (by decide +kernel))) (by decide +kernel)
theorem wd_48 : Cond.fieldLink RX0 88 RX3 "isExpired" "Z" ∈ gtb := gtb_of (List.mem_append_right _ (List.mem_of_getElem? (i := 72) (by decide +kernel))) (by decide +kernel)
theorem wd_49 : Cond.methodLink RX0 123 yX0_lowestExpired ∈ gtb := gtb_of (List.mem_append_right _ (List.mem_of_getElem? (i := 330) (by decide +kernel))) (by decide +kernel)
theorem wd_50 : Cond.fieldLink RX0 127 RX3 "settings" "[I" ∈ gtb := gtb_of (List.mem_append_right _ (List.mem_of_getElem? (i := 59) (by decide +kernel))) (by decide +kernel)
theorem wd_51 : Cond.methodLink RX0 130 yX3_endCycle ∈ gtb := gtb_of (List.mem_append_right _ (List.mem_of_getElem? (i := 322) (by decide +kernel))) (by decide +kernel)
theorem wd_52 : Cond.methodLink RX0 116 yX0_supervise ∈ gtb := gtb_of (List.mem_append_right _ (List.mem_of_getElem? (i := 318) (by decide +kernel))) (by decide +kernel)
theorem wd_53 : Cond.methodLink RX0 105 yX3_crashesInTick ∈ gtb := gtb_of (List.mem_append_right _ (List.mem_of_getElem? (i := 294) (by decide +kernel))) (by decide +kernel)
theorem wd_54 : Cond.methodLink RX0 109 yX0_fall ∈ gtb := gtb_of (List.mem_append_right _ (List.mem_of_getElem? (i := 305) (by decide +kernel))) (by decide +kernel)
theorem wd_55 : Cond.methodLink RX0 119 yX0_watch ∈ gtb := gtb_of (List.mem_append_right _ (List.mem_of_getElem? (i := 334) (by decide +kernel))) (by decide +kernel)
theorem wd_56 : Cond.methodLink RX0 99 yX0_tickRunning ∈ gtb := gtb_of (List.mem_append_right _ (List.mem_of_getElem? (i := 290) (by decide +kernel))) (by decide +kernel)
theorem wd_57 : Cond.methodLink RX0 96 yX0_tickBooting ∈ gtb := gtb_of (List.mem_append_right _ (List.mem_of_getElem? (i := 285) (by decide +kernel))) (by decide +kernel)
theorem wd_58 : Cond.methodLink RX0 68 arraycopyName ∈ gtb := gtb_of (List.mem_append_right _ (List.mem_of_getElem? (i := 366) (by decide +kernel))) (by decide +kernel)
theorem wd_59 : Cond.methodLink RX0 78 yX1_become ∈ gtb := gtb_of (List.mem_append_right _ (List.mem_of_getElem? (i := 371) (by decide +kernel))) (by decide +kernel)
theorem wd_60 : Cond.methodLink RX0 74 yX3_become ∈ gtb := gtb_of (List.mem_append_right _ (List.mem_of_getElem? (i := 367) (by decide +kernel))) (by decide +kernel)
theorem wd_61 : Cond.methodLink RX0 92 yX0_tick ∈ gtb := gtb_of (List.mem_append_right _ (List.mem_of_getElem? (i := 380) (by decide +kernel))) (by decide +kernel)
theorem wd_62 : Cond.methodLink RX4 75 yX4_isWithin ∈ gtb := gtb_of (List.mem_append_right _ (List.mem_of_getElem? (i := 233) (by decide +kernel))) (by decide +kernel)
theorem wd_63 : Cond.fieldLink RX4 34 RX4 "RULE_LOWEST" "[I" ∈ gtb := gtb_of (List.mem_append_right _ (List.mem_of_getElem? (i := 226) (by decide +kernel))) (by decide +kernel)
theorem wd_64 : Cond.fieldLink RX4 38 RX4 "RULE_GREATEST" "[I" ∈ gtb := gtb_of (List.mem_append_right _ (List.mem_of_getElem? (i := 228) (by decide +kernel))) (by decide +kernel)
theorem wd_65 : Cond.methodLink RX4 41 yX4_isAllowed ∈ gtb := gtb_of (List.mem_append_right _ (List.mem_of_getElem? (i := 230) (by decide +kernel))) (by decide +kernel)
theorem wd_66 : Cond.fieldLink RX4 10 RX4 "board" "LWatchdogBoard$Board;" ∈ gtb := gtb_of (List.mem_append_right _ (List.mem_of_getElem? (i := 206) (by decide +kernel))) (by decide +kernel)
theorem wd_67 : Cond.fieldLink RX4 45 RX0 "rules" "[I" ∈ gtb := gtb_of (List.mem_append_right _ (List.mem_of_getElem? (i := 116) (by decide +kernel))) (by decide +kernel)
theorem wd_68 : Cond.fieldLink RX4 48 RX4 "SETTING_LOWEST" "[I" ∈ gtb := gtb_of (List.mem_append_right _ (List.mem_of_getElem? (i := 240) (by decide +kernel))) (by decide +kernel)
theorem wd_69 : Cond.fieldLink RX4 51 RX4 "SETTING_GREATEST" "[I" ∈ gtb := gtb_of (List.mem_append_right _ (List.mem_of_getElem? (i := 242) (by decide +kernel))) (by decide +kernel)
theorem wd_70 : Cond.fieldLink RX4 54 RX0 "taskCount" "I" ∈ gtb := gtb_of (List.mem_append_right _ (List.mem_of_getElem? (i := 122) (by decide +kernel))) (by decide +kernel)
theorem wd_71 : Cond.fieldLink RX4 58 RX0 "tasks" "[LWatchdogBoard$Task;" ∈ gtb := gtb_of (List.mem_append_right _ (List.mem_of_getElem? (i := 118) (by decide +kernel))) (by decide +kernel)
theorem wd_72 : Cond.methodLink RX4 62 yX3_becomeNew ∈ gtb := gtb_of (List.mem_append_right _ (List.mem_of_getElem? (i := 244) (by decide +kernel))) (by decide +kernel)
theorem wd_73 : Cond.methodLink RX4 68 yX4_hasTask ∈ gtb := gtb_of (List.mem_append_right _ (List.mem_of_getElem? (i := 267) (by decide +kernel))) (by decide +kernel)
theorem wd_74 : Cond.fieldLink RX4 72 RX3 "settings" "[I" ∈ gtb := gtb_of (List.mem_append_right _ (List.mem_of_getElem? (i := 58) (by decide +kernel))) (by decide +kernel)
theorem wd_75 : Cond.fieldLink RX4 79 RX3 "faultKinds" "[I" ∈ gtb := gtb_of (List.mem_append_right _ (List.mem_of_getElem? (i := 61) (by decide +kernel))) (by decide +kernel)
theorem wd_76 : Cond.methodLink RX4 82 yX3_takeFault ∈ gtb := gtb_of (List.mem_append_right _ (List.mem_of_getElem? (i := 275) (by decide +kernel))) (by decide +kernel)
theorem wd_77 : Cond.fieldLink RX4 117 RX0 "time" "I" ∈ gtb := gtb_of (List.mem_append_right _ (List.mem_of_getElem? (i := 124) (by decide +kernel))) (by decide +kernel)
theorem wd_78 : Cond.constant RX4 120 (1000000) ∈ gtb := gtb_of (List.mem_append_right _ (List.mem_of_getElem? (i := 280) (by decide +kernel))) (by decide +kernel)
theorem wd_79 : Cond.methodLink RX4 121 yX0_tick ∈ gtb := gtb_of (List.mem_append_right _ (List.mem_of_getElem? (i := 281) (by decide +kernel))) (by decide +kernel)
theorem wd_80 : Cond.fieldLink RX4 129 RX0 "mode" "I" ∈ gtb := gtb_of (List.mem_append_right _ (List.mem_of_getElem? (i := 126) (by decide +kernel))) (by decide +kernel)
theorem wd_81 : Cond.methodLink RX4 150 yX0_switchOffAndOn ∈ gtb := gtb_of (List.mem_append_right _ (List.mem_of_getElem? (i := 342) (by decide +kernel))) (by decide +kernel)
theorem wd_82 : Cond.fieldLink RX4 153 RX0 "image" "I" ∈ gtb := gtb_of (List.mem_append_right _ (List.mem_of_getElem? (i := 128) (by decide +kernel))) (by decide +kernel)
theorem wd_83 : Cond.fieldLink RX4 156 RX0 "attempts" "I" ∈ gtb := gtb_of (List.mem_append_right _ (List.mem_of_getElem? (i := 130) (by decide +kernel))) (by decide +kernel)
theorem wd_84 : Cond.fieldLink RX4 159 RX0 "bootLeft" "I" ∈ gtb := gtb_of (List.mem_append_right _ (List.mem_of_getElem? (i := 132) (by decide +kernel))) (by decide +kernel)
theorem wd_85 : Cond.fieldLink RX4 162 RX0 "u" "I" ∈ gtb := gtb_of (List.mem_append_right _ (List.mem_of_getElem? (i := 134) (by decide +kernel))) (by decide +kernel)
theorem wd_86 : Cond.methodLink RX4 165 yX0_ifRunning ∈ gtb := gtb_of (List.mem_append_right _ (List.mem_of_getElem? (i := 350) (by decide +kernel))) (by decide +kernel)
theorem wd_87 : Cond.fieldLink RX4 132 RX0 "elapsed" "I" ∈ gtb := gtb_of (List.mem_append_right _ (List.mem_of_getElem? (i := 136) (by decide +kernel))) (by decide +kernel)
theorem wd_88 : Cond.fieldLink RX4 168 RX0 "runs" "I" ∈ gtb := gtb_of (List.mem_append_right _ (List.mem_of_getElem? (i := 138) (by decide +kernel))) (by decide +kernel)
theorem wd_89 : Cond.fieldLink RX4 171 RX0 "expiredRuns" "I" ∈ gtb := gtb_of (List.mem_append_right _ (List.mem_of_getElem? (i := 140) (by decide +kernel))) (by decide +kernel)
theorem wd_90 : Cond.fieldLink RX4 141 RX0 "book" "LWatchdogBoard$Book;" ∈ gtb := gtb_of (List.mem_append_right _ (List.mem_of_getElem? (i := 120) (by decide +kernel))) (by decide +kernel)
theorem wd_91 : Cond.fieldLink RX4 145 RX1 "count" "I" ∈ gtb := gtb_of (List.mem_append_right _ (List.mem_of_getElem? (i := 41) (by decide +kernel))) (by decide +kernel)
theorem wd_92 : Cond.methodLink RX4 174 yX0_expiredSet ∈ gtb := gtb_of (List.mem_append_right _ (List.mem_of_getElem? (i := 354) (by decide +kernel))) (by decide +kernel)
theorem wd_93 : Cond.fieldLink RX4 30 RX4 "pad" "LWatchdogBoard$Pad;" ∈ gtb := gtb_of (List.mem_append_right _ (List.mem_of_getElem? (i := 210) (by decide +kernel))) (by decide +kernel)
theorem wd_94 : Cond.fieldLink RX4 90 RX2 "length" "I" ∈ gtb := gtb_of (List.mem_append_right _ (List.mem_of_getElem? (i := 177) (by decide +kernel))) (by decide +kernel)
theorem wd_95 : Cond.fieldLink RX4 16 RX4 "trial" "LWatchdogBoard$Board;" ∈ gtb := gtb_of (List.mem_append_right _ (List.mem_of_getElem? (i := 207) (by decide +kernel))) (by decide +kernel)
theorem wd_96 : Cond.methodLink RX4 200 yX0_become ∈ gtb := gtb_of (List.mem_append_right _ (List.mem_of_getElem? (i := 362) (by decide +kernel))) (by decide +kernel)
theorem wd_97 : Cond.methodLink RX4 125 yX0_ticksToReset ∈ gtb := gtb_of (List.mem_append_right _ (List.mem_of_getElem? (i := 376) (by decide +kernel))) (by decide +kernel)
theorem wd_98 : Cond.fieldLink RX4 180 RX3 "badCycles" "I" ∈ gtb := gtb_of (List.mem_append_right _ (List.mem_of_getElem? (i := 74) (by decide +kernel))) (by decide +kernel)
theorem wd_99 : Cond.fieldLink RX4 183 RX3 "isLatched" "Z" ∈ gtb := gtb_of (List.mem_append_right _ (List.mem_of_getElem? (i := 76) (by decide +kernel))) (by decide +kernel)
theorem wd_100 : Cond.fieldLink RX4 187 RX3 "latchTime" "I" ∈ gtb := gtb_of (List.mem_append_right _ (List.mem_of_getElem? (i := 78) (by decide +kernel))) (by decide +kernel)
theorem wd_101 : Cond.fieldLink RX4 190 RX3 "resets" "I" ∈ gtb := gtb_of (List.mem_append_right _ (List.mem_of_getElem? (i := 81) (by decide +kernel))) (by decide +kernel)
theorem wd_102 : Cond.methodLink RX4 177 yX3_momentary ∈ gtb := gtb_of (List.mem_append_right _ (List.mem_of_getElem? (i := 395) (by decide +kernel))) (by decide +kernel)
theorem wd_103 : Cond.methodLink RX4 193 yX1_property ∈ gtb := gtb_of (List.mem_append_right _ (List.mem_of_getElem? (i := 415) (by decide +kernel))) (by decide +kernel)
theorem wd_104 : Cond.constant RL 7 (4194303) ∈ gtb := gtb_of (List.mem_append_right _ (List.mem_of_getElem? (i := 384) (by decide +kernel))) (by decide +kernel)
theorem wd_105 : Cond.methodLink RL 20 yX4_task ∈ gtb := gtb_of (List.mem_append_right _ (List.mem_of_getElem? (i := 391) (by decide +kernel))) (by decide +kernel)
theorem wd_106 : Cond.methodLink RL 10 yX4_state ∈ gtb := gtb_of (List.mem_append_right _ (List.mem_of_getElem? (i := 346) (by decide +kernel))) (by decide +kernel)
theorem wd_107 : Cond.methodLink RL 16 yL_anew ∈ gtb := gtb_of (List.mem_append_right _ (List.mem_of_getElem? (i := 402) (by decide +kernel))) (by decide +kernel)
theorem wd_108 : Cond.methodLink RL 32 yL_kicks ∈ gtb := gtb_of (List.mem_append_right _ (List.mem_of_getElem? (i := 405) (by decide +kernel))) (by decide +kernel)
theorem wd_109 : Cond.methodLink RL 24 yL_crashes ∈ gtb := gtb_of (List.mem_append_right _ (List.mem_of_getElem? (i := 388) (by decide +kernel))) (by decide +kernel)
theorem wd_110 : Cond.methodLink RL 28 yL_reset ∈ gtb := gtb_of (List.mem_append_right _ (List.mem_of_getElem? (i := 399) (by decide +kernel))) (by decide +kernel)
theorem wd_111 : Cond.methodLink RL 36 yX4_record ∈ gtb := gtb_of (List.mem_append_right _ (List.mem_of_getElem? (i := 411) (by decide +kernel))) (by decide +kernel)
theorem wd_112 : Cond.methodLink RL 40 yL_cell ∈ gtb := gtb_of (List.mem_append_right _ (List.mem_of_getElem? (i := 381) (by decide +kernel))) (by decide +kernel)
theorem wd_113 : Cond.methodLink RL 44 yX4_rule ∈ gtb := gtb_of (List.mem_append_right _ (List.mem_of_getElem? (i := 222) (by decide +kernel))) (by decide +kernel)
theorem wd_114 : Cond.methodLink RL 58 yX4_powerCycle ∈ gtb := gtb_of (List.mem_append_right _ (List.mem_of_getElem? (i := 338) (by decide +kernel))) (by decide +kernel)
theorem wd_115 : Cond.methodLink RL 47 yX4_addTask ∈ gtb := gtb_of (List.mem_append_right _ (List.mem_of_getElem? (i := 236) (by decide +kernel))) (by decide +kernel)
theorem wd_116 : Cond.methodLink RL 50 yX4_set ∈ gtb := gtb_of (List.mem_append_right _ (List.mem_of_getElem? (i := 263) (by decide +kernel))) (by decide +kernel)
theorem wd_117 : Cond.methodLink RL 54 yX4_putFault ∈ gtb := gtb_of (List.mem_append_right _ (List.mem_of_getElem? (i := 271) (by decide +kernel))) (by decide +kernel)
theorem wd_118 : Cond.methodLink RL 62 yX4_forecast ∈ gtb := gtb_of (List.mem_append_right _ (List.mem_of_getElem? (i := 358) (by decide +kernel))) (by decide +kernel)
theorem wd_119 : Cond.methodLink RL 65 yL_tick ∈ gtb := gtb_of (List.mem_append_right _ (List.mem_of_getElem? (i := 385) (by decide +kernel))) (by decide +kernel)
theorem wd_120 : Cond.methodLink RL 69 yX4_run ∈ gtb := gtb_of (List.mem_append_right _ (List.mem_of_getElem? (i := 276) (by decide +kernel))) (by decide +kernel)
theorem wd_121 : Cond.methodLink RL 72 yL_isTold ∈ gtb := gtb_of (List.mem_append_right _ (List.mem_of_getElem? (i := 408) (by decide +kernel))) (by decide +kernel)
theorem nw_0 : Cond.methodLinkNest RX1 19 yX4_isWithin "WatchdogBoard" ∈ ntb := by decide +kernel
theorem nw_1 : Cond.fieldLinkNest RX3 9 RX4 "SETTING_FIRST" "[I" "WatchdogBoard" ∈ ntb := by decide +kernel
theorem nw_2 : Cond.methodLinkNest RX3 86 yX4_divides "WatchdogBoard" ∈ ntb := by decide +kernel
theorem nw_3 : Cond.methodLinkNest RX3 93 yX4_isWithin "WatchdogBoard" ∈ ntb := by decide +kernel
theorem nw_4 : Cond.methodLinkNest RX0 113 yX4_divides "WatchdogBoard" ∈ ntb := by decide +kernel
theorem cy_X4_isWithin : CYs yX4_isWithin cX4_isWithin 3 (some .boolean) 3 := ⟨gtb_of (List.mem_append_right _ (List.mem_of_getElem? (i := 235) (by decide +kernel))) (by decide +kernel), gtb_of (List.mem_append_right _ (List.mem_of_getElem? (i := 234) (by decide +kernel))) (by decide +kernel), gtb_of (List.mem_append_right _ (List.mem_of_getElem? (i := 1) (by decide +kernel))) (by decide +kernel), by decide, by decide, by decide⟩
theorem cy_X3_beginRun : CYv yX3_beginRun cX3_beginRun 1 none 0 := ⟨gtb_of (List.mem_append_right _ (List.mem_of_getElem? (i := 258) (by decide +kernel))) (by decide +kernel), gtb_of (List.mem_append_right _ (List.mem_of_getElem? (i := 256) (by decide +kernel))) (by decide +kernel), gtb_of (List.mem_append_right _ (List.mem_of_getElem? (i := 257) (by decide +kernel))) (by decide +kernel), gtb_of (List.mem_append_right _ (List.mem_of_getElem? (i := 4) (by decide +kernel))) (by decide +kernel), by decide, by decide, by decide⟩
theorem cy_X3_clearDiagnostic : CYv yX3_clearDiagnostic cX3_clearDiagnostic 1 none 0 := ⟨gtb_of (List.mem_append_right _ (List.mem_of_getElem? (i := 262) (by decide +kernel))) (by decide +kernel), gtb_of (List.mem_append_right _ (List.mem_of_getElem? (i := 260) (by decide +kernel))) (by decide +kernel), gtb_of (List.mem_append_right _ (List.mem_of_getElem? (i := 261) (by decide +kernel))) (by decide +kernel), gtb_of (List.mem_append_right _ (List.mem_of_getElem? (i := 4) (by decide +kernel))) (by decide +kernel), by decide, by decide, by decide⟩
theorem cy_X3_takeFault : CYv yX3_takeFault cX3_takeFault 5 none 4 := ⟨gtb_of (List.mem_append_right _ (List.mem_of_getElem? (i := 254) (by decide +kernel))) (by decide +kernel), gtb_of (List.mem_append_right _ (List.mem_of_getElem? (i := 252) (by decide +kernel))) (by decide +kernel), gtb_of (List.mem_append_right _ (List.mem_of_getElem? (i := 253) (by decide +kernel))) (by decide +kernel), gtb_of (List.mem_append_right _ (List.mem_of_getElem? (i := 4) (by decide +kernel))) (by decide +kernel), by decide, by decide, by decide⟩
theorem cy_X4_divides : CYs yX4_divides cX4_divides 2 (some .boolean) 2 := ⟨gtb_of (List.mem_append_right _ (List.mem_of_getElem? (i := 300) (by decide +kernel))) (by decide +kernel), gtb_of (List.mem_append_right _ (List.mem_of_getElem? (i := 299) (by decide +kernel))) (by decide +kernel), gtb_of (List.mem_append_right _ (List.mem_of_getElem? (i := 1) (by decide +kernel))) (by decide +kernel), by decide, by decide, by decide⟩
theorem cy_X3_crashesAtBegin : CYv yX3_crashesAtBegin cX3_crashesAtBegin 5 (some .boolean) 2 := ⟨gtb_of (List.mem_append_right _ (List.mem_of_getElem? (i := 304) (by decide +kernel))) (by decide +kernel), gtb_of (List.mem_append_right _ (List.mem_of_getElem? (i := 303) (by decide +kernel))) (by decide +kernel), gtb_of (List.mem_append_left _ (List.mem_of_getElem? (i := 3) (by decide +kernel))) (by decide +kernel), gtb_of (List.mem_append_right _ (List.mem_of_getElem? (i := 4) (by decide +kernel))) (by decide +kernel), by decide, by decide, by decide⟩
theorem cy_X1_add : CYv yX1_add cX1_add 7 none 5 := ⟨gtb_of (List.mem_append_right _ (List.mem_of_getElem? (i := 312) (by decide +kernel))) (by decide +kernel), gtb_of (List.mem_append_right _ (List.mem_of_getElem? (i := 310) (by decide +kernel))) (by decide +kernel), gtb_of (List.mem_append_right _ (List.mem_of_getElem? (i := 311) (by decide +kernel))) (by decide +kernel), gtb_of (List.mem_append_right _ (List.mem_of_getElem? (i := 3) (by decide +kernel))) (by decide +kernel), by decide, by decide, by decide⟩
theorem cy_X0_boot : CYv yX0_boot cX0_boot 1 none 0 := ⟨gtb_of (List.mem_append_right _ (List.mem_of_getElem? (i := 316) (by decide +kernel))) (by decide +kernel), gtb_of (List.mem_append_right _ (List.mem_of_getElem? (i := 315) (by decide +kernel))) (by decide +kernel), gtb_of (List.mem_append_left _ (List.mem_of_getElem? (i := 4) (by decide +kernel))) (by decide +kernel), gtb_of (List.mem_append_right _ (List.mem_of_getElem? (i := 2) (by decide +kernel))) (by decide +kernel), by decide, by decide, by decide⟩
theorem cy_X0_lowestExpired : CYv yX0_lowestExpired cX0_lowestExpired 2 (some .int) 0 := ⟨gtb_of (List.mem_append_right _ (List.mem_of_getElem? (i := 333) (by decide +kernel))) (by decide +kernel), gtb_of (List.mem_append_right _ (List.mem_of_getElem? (i := 331) (by decide +kernel))) (by decide +kernel), gtb_of (List.mem_append_right _ (List.mem_of_getElem? (i := 332) (by decide +kernel))) (by decide +kernel), gtb_of (List.mem_append_right _ (List.mem_of_getElem? (i := 2) (by decide +kernel))) (by decide +kernel), by decide, by decide, by decide⟩
theorem cy_X3_endCycle : CYv yX3_endCycle cX3_endCycle 3 none 1 := ⟨gtb_of (List.mem_append_right _ (List.mem_of_getElem? (i := 325) (by decide +kernel))) (by decide +kernel), gtb_of (List.mem_append_right _ (List.mem_of_getElem? (i := 323) (by decide +kernel))) (by decide +kernel), gtb_of (List.mem_append_right _ (List.mem_of_getElem? (i := 324) (by decide +kernel))) (by decide +kernel), gtb_of (List.mem_append_right _ (List.mem_of_getElem? (i := 4) (by decide +kernel))) (by decide +kernel), by decide, by decide, by decide⟩
theorem cy_X0_supervise : CYv yX0_supervise cX0_supervise 3 (some .boolean) 0 := ⟨gtb_of (List.mem_append_right _ (List.mem_of_getElem? (i := 321) (by decide +kernel))) (by decide +kernel), gtb_of (List.mem_append_right _ (List.mem_of_getElem? (i := 320) (by decide +kernel))) (by decide +kernel), gtb_of (List.mem_append_left _ (List.mem_of_getElem? (i := 5) (by decide +kernel))) (by decide +kernel), gtb_of (List.mem_append_right _ (List.mem_of_getElem? (i := 2) (by decide +kernel))) (by decide +kernel), by decide, by decide, by decide⟩
theorem cy_X3_crashesInTick : CYv yX3_crashesInTick cX3_crashesInTick 3 (some .boolean) 2 := ⟨gtb_of (List.mem_append_right _ (List.mem_of_getElem? (i := 297) (by decide +kernel))) (by decide +kernel), gtb_of (List.mem_append_right _ (List.mem_of_getElem? (i := 295) (by decide +kernel))) (by decide +kernel), gtb_of (List.mem_append_right _ (List.mem_of_getElem? (i := 296) (by decide +kernel))) (by decide +kernel), gtb_of (List.mem_append_right _ (List.mem_of_getElem? (i := 4) (by decide +kernel))) (by decide +kernel), by decide, by decide, by decide⟩
theorem cy_X0_fall : CYv yX0_fall cX0_fall 4 none 2 := ⟨gtb_of (List.mem_append_right _ (List.mem_of_getElem? (i := 308) (by decide +kernel))) (by decide +kernel), gtb_of (List.mem_append_right _ (List.mem_of_getElem? (i := 306) (by decide +kernel))) (by decide +kernel), gtb_of (List.mem_append_right _ (List.mem_of_getElem? (i := 307) (by decide +kernel))) (by decide +kernel), gtb_of (List.mem_append_right _ (List.mem_of_getElem? (i := 2) (by decide +kernel))) (by decide +kernel), by decide, by decide, by decide⟩
theorem cy_X0_watch : CYv yX0_watch cX0_watch 2 (some .int) 1 := ⟨gtb_of (List.mem_append_right _ (List.mem_of_getElem? (i := 337) (by decide +kernel))) (by decide +kernel), gtb_of (List.mem_append_right _ (List.mem_of_getElem? (i := 336) (by decide +kernel))) (by decide +kernel), gtb_of (List.mem_append_left _ (List.mem_of_getElem? (i := 6) (by decide +kernel))) (by decide +kernel), gtb_of (List.mem_append_right _ (List.mem_of_getElem? (i := 2) (by decide +kernel))) (by decide +kernel), by decide, by decide, by decide⟩
theorem cy_X0_tickRunning : CYv yX0_tickRunning cX0_tickRunning 3 (some .boolean) 0 := ⟨gtb_of (List.mem_append_right _ (List.mem_of_getElem? (i := 293) (by decide +kernel))) (by decide +kernel), gtb_of (List.mem_append_right _ (List.mem_of_getElem? (i := 292) (by decide +kernel))) (by decide +kernel), gtb_of (List.mem_append_left _ (List.mem_of_getElem? (i := 2) (by decide +kernel))) (by decide +kernel), gtb_of (List.mem_append_right _ (List.mem_of_getElem? (i := 2) (by decide +kernel))) (by decide +kernel), by decide, by decide, by decide⟩
theorem cy_X0_tickBooting : CYv yX0_tickBooting cX0_tickBooting 2 none 0 := ⟨gtb_of (List.mem_append_right _ (List.mem_of_getElem? (i := 288) (by decide +kernel))) (by decide +kernel), gtb_of (List.mem_append_right _ (List.mem_of_getElem? (i := 287) (by decide +kernel))) (by decide +kernel), gtb_of (List.mem_append_left _ (List.mem_of_getElem? (i := 1) (by decide +kernel))) (by decide +kernel), gtb_of (List.mem_append_right _ (List.mem_of_getElem? (i := 2) (by decide +kernel))) (by decide +kernel), by decide, by decide, by decide⟩
theorem cy_X1_become : CYv yX1_become cX1_become 2 none 1 := ⟨gtb_of (List.mem_append_right _ (List.mem_of_getElem? (i := 374) (by decide +kernel))) (by decide +kernel), gtb_of (List.mem_append_right _ (List.mem_of_getElem? (i := 372) (by decide +kernel))) (by decide +kernel), gtb_of (List.mem_append_right _ (List.mem_of_getElem? (i := 373) (by decide +kernel))) (by decide +kernel), gtb_of (List.mem_append_right _ (List.mem_of_getElem? (i := 3) (by decide +kernel))) (by decide +kernel), by decide, by decide, by decide⟩
theorem cy_X3_become : CYv yX3_become cX3_become 2 none 1 := ⟨gtb_of (List.mem_append_right _ (List.mem_of_getElem? (i := 370) (by decide +kernel))) (by decide +kernel), gtb_of (List.mem_append_right _ (List.mem_of_getElem? (i := 368) (by decide +kernel))) (by decide +kernel), gtb_of (List.mem_append_right _ (List.mem_of_getElem? (i := 369) (by decide +kernel))) (by decide +kernel), gtb_of (List.mem_append_right _ (List.mem_of_getElem? (i := 4) (by decide +kernel))) (by decide +kernel), by decide, by decide, by decide⟩
theorem cy_X0_tick : CYv yX0_tick cX0_tick 2 (some .boolean) 0 := ⟨gtb_of (List.mem_append_right _ (List.mem_of_getElem? (i := 284) (by decide +kernel))) (by decide +kernel), gtb_of (List.mem_append_right _ (List.mem_of_getElem? (i := 282) (by decide +kernel))) (by decide +kernel), gtb_of (List.mem_append_right _ (List.mem_of_getElem? (i := 283) (by decide +kernel))) (by decide +kernel), gtb_of (List.mem_append_right _ (List.mem_of_getElem? (i := 2) (by decide +kernel))) (by decide +kernel), by decide, by decide, by decide⟩
theorem cy_X4_isAllowed : CYs yX4_isAllowed cX4_isAllowed 4 (some .boolean) 4 := ⟨gtb_of (List.mem_append_right _ (List.mem_of_getElem? (i := 232) (by decide +kernel))) (by decide +kernel), gtb_of (List.mem_append_right _ (List.mem_of_getElem? (i := 231) (by decide +kernel))) (by decide +kernel), gtb_of (List.mem_append_right _ (List.mem_of_getElem? (i := 1) (by decide +kernel))) (by decide +kernel), by decide, by decide, by decide⟩
theorem cy_X3_becomeNew : CYv yX3_becomeNew cX3_becomeNew 4 none 2 := ⟨gtb_of (List.mem_append_right _ (List.mem_of_getElem? (i := 247) (by decide +kernel))) (by decide +kernel), gtb_of (List.mem_append_right _ (List.mem_of_getElem? (i := 245) (by decide +kernel))) (by decide +kernel), gtb_of (List.mem_append_right _ (List.mem_of_getElem? (i := 246) (by decide +kernel))) (by decide +kernel), gtb_of (List.mem_append_right _ (List.mem_of_getElem? (i := 4) (by decide +kernel))) (by decide +kernel), by decide, by decide, by decide⟩
theorem cy_X4_hasTask : CYv yX4_hasTask cX4_hasTask 2 (some .boolean) 1 := ⟨gtb_of (List.mem_append_right _ (List.mem_of_getElem? (i := 270) (by decide +kernel))) (by decide +kernel), gtb_of (List.mem_append_right _ (List.mem_of_getElem? (i := 269) (by decide +kernel))) (by decide +kernel), gtb_of (List.mem_append_left _ (List.mem_of_getElem? (i := 0) (by decide +kernel))) (by decide +kernel), gtb_of (List.mem_append_right _ (List.mem_of_getElem? (i := 1) (by decide +kernel))) (by decide +kernel), by decide, by decide, by decide⟩
theorem cy_X0_switchOffAndOn : CYv yX0_switchOffAndOn cX0_switchOffAndOn 1 none 0 := ⟨gtb_of (List.mem_append_right _ (List.mem_of_getElem? (i := 345) (by decide +kernel))) (by decide +kernel), gtb_of (List.mem_append_right _ (List.mem_of_getElem? (i := 343) (by decide +kernel))) (by decide +kernel), gtb_of (List.mem_append_right _ (List.mem_of_getElem? (i := 344) (by decide +kernel))) (by decide +kernel), gtb_of (List.mem_append_right _ (List.mem_of_getElem? (i := 2) (by decide +kernel))) (by decide +kernel), by decide, by decide, by decide⟩
theorem cy_X0_ifRunning : CYv yX0_ifRunning cX0_ifRunning 2 (some .int) 1 := ⟨gtb_of (List.mem_append_right _ (List.mem_of_getElem? (i := 353) (by decide +kernel))) (by decide +kernel), gtb_of (List.mem_append_right _ (List.mem_of_getElem? (i := 351) (by decide +kernel))) (by decide +kernel), gtb_of (List.mem_append_right _ (List.mem_of_getElem? (i := 352) (by decide +kernel))) (by decide +kernel), gtb_of (List.mem_append_right _ (List.mem_of_getElem? (i := 2) (by decide +kernel))) (by decide +kernel), by decide, by decide, by decide⟩
theorem cy_X0_expiredSet : CYv yX0_expiredSet cX0_expiredSet 3 (some .int) 0 := ⟨gtb_of (List.mem_append_right _ (List.mem_of_getElem? (i := 357) (by decide +kernel))) (by decide +kernel), gtb_of (List.mem_append_right _ (List.mem_of_getElem? (i := 355) (by decide +kernel))) (by decide +kernel), gtb_of (List.mem_append_right _ (List.mem_of_getElem? (i := 356) (by decide +kernel))) (by decide +kernel), gtb_of (List.mem_append_right _ (List.mem_of_getElem? (i := 2) (by decide +kernel))) (by decide +kernel), by decide, by decide, by decide⟩
theorem cy_X0_become : CYv yX0_become cX0_become 3 none 1 := ⟨gtb_of (List.mem_append_right _ (List.mem_of_getElem? (i := 365) (by decide +kernel))) (by decide +kernel), gtb_of (List.mem_append_right _ (List.mem_of_getElem? (i := 363) (by decide +kernel))) (by decide +kernel), gtb_of (List.mem_append_right _ (List.mem_of_getElem? (i := 364) (by decide +kernel))) (by decide +kernel), gtb_of (List.mem_append_right _ (List.mem_of_getElem? (i := 2) (by decide +kernel))) (by decide +kernel), by decide, by decide, by decide⟩
theorem cy_X0_ticksToReset : CYv yX0_ticksToReset cX0_ticksToReset 3 (some .int) 1 := ⟨gtb_of (List.mem_append_right _ (List.mem_of_getElem? (i := 379) (by decide +kernel))) (by decide +kernel), gtb_of (List.mem_append_right _ (List.mem_of_getElem? (i := 377) (by decide +kernel))) (by decide +kernel), gtb_of (List.mem_append_right _ (List.mem_of_getElem? (i := 378) (by decide +kernel))) (by decide +kernel), gtb_of (List.mem_append_right _ (List.mem_of_getElem? (i := 2) (by decide +kernel))) (by decide +kernel), by decide, by decide, by decide⟩
theorem cy_X3_momentary : CYv yX3_momentary cX3_momentary 2 (some .int) 1 := ⟨gtb_of (List.mem_append_right _ (List.mem_of_getElem? (i := 398) (by decide +kernel))) (by decide +kernel), gtb_of (List.mem_append_right _ (List.mem_of_getElem? (i := 396) (by decide +kernel))) (by decide +kernel), gtb_of (List.mem_append_right _ (List.mem_of_getElem? (i := 397) (by decide +kernel))) (by decide +kernel), gtb_of (List.mem_append_right _ (List.mem_of_getElem? (i := 4) (by decide +kernel))) (by decide +kernel), by decide, by decide, by decide⟩
theorem cy_X1_property : CYv yX1_property cX1_property 3 (some .int) 2 := ⟨gtb_of (List.mem_append_right _ (List.mem_of_getElem? (i := 418) (by decide +kernel))) (by decide +kernel), gtb_of (List.mem_append_right _ (List.mem_of_getElem? (i := 416) (by decide +kernel))) (by decide +kernel), gtb_of (List.mem_append_right _ (List.mem_of_getElem? (i := 417) (by decide +kernel))) (by decide +kernel), gtb_of (List.mem_append_right _ (List.mem_of_getElem? (i := 3) (by decide +kernel))) (by decide +kernel), by decide, by decide, by decide⟩
theorem cy_X4_task : CYv yX4_task cX4_task 4 (some .int) 2 := ⟨gtb_of (List.mem_append_right _ (List.mem_of_getElem? (i := 394) (by decide +kernel))) (by decide +kernel), gtb_of (List.mem_append_right _ (List.mem_of_getElem? (i := 392) (by decide +kernel))) (by decide +kernel), gtb_of (List.mem_append_right _ (List.mem_of_getElem? (i := 393) (by decide +kernel))) (by decide +kernel), gtb_of (List.mem_append_right _ (List.mem_of_getElem? (i := 1) (by decide +kernel))) (by decide +kernel), by decide, by decide, by decide⟩
theorem cy_X4_state : CYv yX4_state cX4_state 2 (some .int) 1 := ⟨gtb_of (List.mem_append_right _ (List.mem_of_getElem? (i := 349) (by decide +kernel))) (by decide +kernel), gtb_of (List.mem_append_right _ (List.mem_of_getElem? (i := 347) (by decide +kernel))) (by decide +kernel), gtb_of (List.mem_append_right _ (List.mem_of_getElem? (i := 348) (by decide +kernel))) (by decide +kernel), gtb_of (List.mem_append_right _ (List.mem_of_getElem? (i := 1) (by decide +kernel))) (by decide +kernel), by decide, by decide, by decide⟩
theorem cy_L_anew : CYs yL_anew cL_anew 3 none 2 := ⟨gtb_of (List.mem_append_right _ (List.mem_of_getElem? (i := 404) (by decide +kernel))) (by decide +kernel), gtb_of (List.mem_append_right _ (List.mem_of_getElem? (i := 403) (by decide +kernel))) (by decide +kernel), gtb_of (List.mem_append_right _ (List.mem_of_getElem? (i := 0) (by decide +kernel))) (by decide +kernel), by decide, by decide, by decide⟩
theorem cy_L_kicks : CYs yL_kicks cL_kicks 8 (some .boolean) 4 := ⟨gtb_of (List.mem_append_right _ (List.mem_of_getElem? (i := 407) (by decide +kernel))) (by decide +kernel), gtb_of (List.mem_append_right _ (List.mem_of_getElem? (i := 406) (by decide +kernel))) (by decide +kernel), gtb_of (List.mem_append_right _ (List.mem_of_getElem? (i := 0) (by decide +kernel))) (by decide +kernel), by decide, by decide, by decide⟩
theorem cy_L_crashes : CYs yL_crashes cL_crashes 9 (some .boolean) 5 := ⟨gtb_of (List.mem_append_right _ (List.mem_of_getElem? (i := 390) (by decide +kernel))) (by decide +kernel), gtb_of (List.mem_append_right _ (List.mem_of_getElem? (i := 389) (by decide +kernel))) (by decide +kernel), gtb_of (List.mem_append_right _ (List.mem_of_getElem? (i := 0) (by decide +kernel))) (by decide +kernel), by decide, by decide, by decide⟩
theorem cy_L_reset : CYs yL_reset cL_reset 9 none 6 := ⟨gtb_of (List.mem_append_right _ (List.mem_of_getElem? (i := 401) (by decide +kernel))) (by decide +kernel), gtb_of (List.mem_append_right _ (List.mem_of_getElem? (i := 400) (by decide +kernel))) (by decide +kernel), gtb_of (List.mem_append_right _ (List.mem_of_getElem? (i := 0) (by decide +kernel))) (by decide +kernel), by decide, by decide, by decide⟩
theorem cy_X4_record : CYv yX4_record cX4_record 3 (some .int) 2 := ⟨gtb_of (List.mem_append_right _ (List.mem_of_getElem? (i := 414) (by decide +kernel))) (by decide +kernel), gtb_of (List.mem_append_right _ (List.mem_of_getElem? (i := 412) (by decide +kernel))) (by decide +kernel), gtb_of (List.mem_append_right _ (List.mem_of_getElem? (i := 413) (by decide +kernel))) (by decide +kernel), gtb_of (List.mem_append_right _ (List.mem_of_getElem? (i := 1) (by decide +kernel))) (by decide +kernel), by decide, by decide, by decide⟩
theorem cy_L_cell : CYs yL_cell cL_cell 3 (some .int) 3 := ⟨gtb_of (List.mem_append_right _ (List.mem_of_getElem? (i := 383) (by decide +kernel))) (by decide +kernel), gtb_of (List.mem_append_right _ (List.mem_of_getElem? (i := 382) (by decide +kernel))) (by decide +kernel), gtb_of (List.mem_append_right _ (List.mem_of_getElem? (i := 0) (by decide +kernel))) (by decide +kernel), by decide, by decide, by decide⟩
theorem cy_X4_rule : CYv yX4_rule cX4_rule 4 (some .int) 2 := ⟨gtb_of (List.mem_append_right _ (List.mem_of_getElem? (i := 225) (by decide +kernel))) (by decide +kernel), gtb_of (List.mem_append_right _ (List.mem_of_getElem? (i := 223) (by decide +kernel))) (by decide +kernel), gtb_of (List.mem_append_right _ (List.mem_of_getElem? (i := 224) (by decide +kernel))) (by decide +kernel), gtb_of (List.mem_append_right _ (List.mem_of_getElem? (i := 1) (by decide +kernel))) (by decide +kernel), by decide, by decide, by decide⟩
theorem cy_X4_powerCycle : CYv yX4_powerCycle cX4_powerCycle 2 (some .int) 0 := ⟨gtb_of (List.mem_append_right _ (List.mem_of_getElem? (i := 341) (by decide +kernel))) (by decide +kernel), gtb_of (List.mem_append_right _ (List.mem_of_getElem? (i := 339) (by decide +kernel))) (by decide +kernel), gtb_of (List.mem_append_right _ (List.mem_of_getElem? (i := 340) (by decide +kernel))) (by decide +kernel), gtb_of (List.mem_append_right _ (List.mem_of_getElem? (i := 1) (by decide +kernel))) (by decide +kernel), by decide, by decide, by decide⟩
theorem cy_X4_addTask : CYv yX4_addTask cX4_addTask 4 (some .int) 2 := ⟨gtb_of (List.mem_append_right _ (List.mem_of_getElem? (i := 239) (by decide +kernel))) (by decide +kernel), gtb_of (List.mem_append_right _ (List.mem_of_getElem? (i := 237) (by decide +kernel))) (by decide +kernel), gtb_of (List.mem_append_right _ (List.mem_of_getElem? (i := 238) (by decide +kernel))) (by decide +kernel), gtb_of (List.mem_append_right _ (List.mem_of_getElem? (i := 1) (by decide +kernel))) (by decide +kernel), by decide, by decide, by decide⟩
theorem cy_X4_set : CYv yX4_set cX4_set 6 (some .int) 3 := ⟨gtb_of (List.mem_append_right _ (List.mem_of_getElem? (i := 266) (by decide +kernel))) (by decide +kernel), gtb_of (List.mem_append_right _ (List.mem_of_getElem? (i := 264) (by decide +kernel))) (by decide +kernel), gtb_of (List.mem_append_right _ (List.mem_of_getElem? (i := 265) (by decide +kernel))) (by decide +kernel), gtb_of (List.mem_append_right _ (List.mem_of_getElem? (i := 1) (by decide +kernel))) (by decide +kernel), by decide, by decide, by decide⟩
theorem cy_X4_putFault : CYv yX4_putFault cX4_putFault 7 (some .int) 5 := ⟨gtb_of (List.mem_append_right _ (List.mem_of_getElem? (i := 274) (by decide +kernel))) (by decide +kernel), gtb_of (List.mem_append_right _ (List.mem_of_getElem? (i := 272) (by decide +kernel))) (by decide +kernel), gtb_of (List.mem_append_right _ (List.mem_of_getElem? (i := 273) (by decide +kernel))) (by decide +kernel), gtb_of (List.mem_append_right _ (List.mem_of_getElem? (i := 1) (by decide +kernel))) (by decide +kernel), by decide, by decide, by decide⟩
theorem cy_X4_forecast : CYv yX4_forecast cX4_forecast 2 (some .int) 1 := ⟨gtb_of (List.mem_append_right _ (List.mem_of_getElem? (i := 361) (by decide +kernel))) (by decide +kernel), gtb_of (List.mem_append_right _ (List.mem_of_getElem? (i := 359) (by decide +kernel))) (by decide +kernel), gtb_of (List.mem_append_right _ (List.mem_of_getElem? (i := 360) (by decide +kernel))) (by decide +kernel), gtb_of (List.mem_append_right _ (List.mem_of_getElem? (i := 1) (by decide +kernel))) (by decide +kernel), by decide, by decide, by decide⟩
theorem cy_L_tick : CYs yL_tick cL_tick 7 none 6 := ⟨gtb_of (List.mem_append_right _ (List.mem_of_getElem? (i := 387) (by decide +kernel))) (by decide +kernel), gtb_of (List.mem_append_right _ (List.mem_of_getElem? (i := 386) (by decide +kernel))) (by decide +kernel), gtb_of (List.mem_append_right _ (List.mem_of_getElem? (i := 0) (by decide +kernel))) (by decide +kernel), by decide, by decide, by decide⟩
theorem cy_X4_run : CYv yX4_run cX4_run 3 (some .int) 1 := ⟨gtb_of (List.mem_append_right _ (List.mem_of_getElem? (i := 279) (by decide +kernel))) (by decide +kernel), gtb_of (List.mem_append_right _ (List.mem_of_getElem? (i := 277) (by decide +kernel))) (by decide +kernel), gtb_of (List.mem_append_right _ (List.mem_of_getElem? (i := 278) (by decide +kernel))) (by decide +kernel), gtb_of (List.mem_append_right _ (List.mem_of_getElem? (i := 1) (by decide +kernel))) (by decide +kernel), by decide, by decide, by decide⟩
theorem cy_L_isTold : CYs yL_isTold cL_isTold 7 (some .boolean) 4 := ⟨gtb_of (List.mem_append_right _ (List.mem_of_getElem? (i := 410) (by decide +kernel))) (by decide +kernel), gtb_of (List.mem_append_right _ (List.mem_of_getElem? (i := 409) (by decide +kernel))) (by decide +kernel), gtb_of (List.mem_append_right _ (List.mem_of_getElem? (i := 0) (by decide +kernel))) (by decide +kernel), by decide, by decide, by decide⟩
