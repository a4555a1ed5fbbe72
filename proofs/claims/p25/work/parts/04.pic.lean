/-! THE PICTURE: every object of the system has a number; its address is a function of the number; what it holds is a function of number and place. -/
def gtb : List Cond := lw_tbl.filter goodWord
theorem gtb_of {w : Cond} (h : w ∈ lw_tbl) (hg : goodWord w = true) : w ∈ gtb := List.mem_filter.mpr ⟨h, hg⟩
theorem gtb_good {w : Cond} (h : w ∈ gtb) : goodWord w = true := (List.mem_filter.mp h).2
theorem gtb_in {y : MethodName} {b : ByteArray} {n : Nat} {r : Option FieldType} (h : Cond.code y b n r ∈ gtb) : GoodIn gtb (Cond.code y b n r :: gtb) := by
  intro w hw
  rcases List.mem_cons.mp hw with rfl | hw
  · exact ⟨h, good_of_word (gtb_good h)⟩
  · exact ⟨hw, good_of_word (gtb_good hw)⟩
abbrev SD : Type := Nat × (Nat → Int32)
abbrev GG : Type := (Nat → Nat) × (Nat → ClassId) × (Nat → Nat → Nat) × (Nat → ClassId) × (Nat → Nat) × SD
abbrev gD (Γ : GG) : va_G := (Γ.2.1, Γ.2.2.1)
abbrev gA (Γ : GG) : Nat → ClassId := Γ.2.2.2.1
abbrev gS (Γ : GG) : Nat → Nat := Γ.2.2.2.2.1
/-- the script: its length, its ints -/
abbrev gX (Γ : GG) : SD := Γ.2.2.2.2.2
abbrev Sg : Type := Nat → Nat → Int32
abbrev classes : List vw_C := [(RX0, TX0, 13), (RX1, TX1, 2), (RX2, TX2, 9), (RX3, TX3, 16), (RX4, TX4, 5)]
abbrev gtys (Γ : GG) : List (ClassId × FieldType) := [(gA Γ 0, .int), (gA Γ 1, .char), (gA Γ 2, .boolean), (gA Γ 3, .object RX0), (gA Γ 4, .object RX3)]
/-- the kind of each object: 0 Board, 1 Book, 2 Pad, 3 Task, 4 WatchdogBoard; arrays: 6 int, 7 char, 8 boolean, 9 of Boards, 10 of Tasks -/
def kdL : List Nat := [4, 0, 6, 10, 1, 6, 3, 6, 6, 6, 6, 3, 6, 6, 6, 6, 3, 6, 6, 6, 6, 3, 6, 6, 6, 6, 3, 6, 6, 6, 6, 3, 6, 6, 6, 6, 0, 6, 10, 1, 6, 3, 6, 6, 6, 6, 3, 6, 6, 6, 6, 3, 6, 6, 6, 6, 3, 6, 6, 6, 6, 3, 6, 6, 6, 6, 3, 6, 6, 6, 6, 9, 0, 6, 10, 1, 6, 3, 6, 6, 6, 6, 3, 6, 6, 6, 6, 3, 6, 6, 6, 6, 3, 6, 6, 6, 6, 3, 6, 6, 6, 6, 3, 6, 6, 6, 6, 0, 6, 10, 1, 6, 3, 6, 6, 6, 6, 3, 6, 6, 6, 6, 3, 6, 6, 6, 6, 3, 6, 6, 6, 6, 3, 6, 6, 6, 6, 3, 6, 6, 6, 6, 8, 2, 7, 6, 6, 6, 6, 6, 6, 6, 6]
def lnL : List Nat := [0, 0, 8, 6, 0, 80, 0, 8, 2, 2, 2, 0, 8, 2, 2, 2, 0, 8, 2, 2, 2, 0, 8, 2, 2, 2, 0, 8, 2, 2, 2, 0, 8, 2, 2, 2, 0, 8, 6, 0, 80, 0, 8, 2, 2, 2, 0, 8, 2, 2, 2, 0, 8, 2, 2, 2, 0, 8, 2, 2, 2, 0, 8, 2, 2, 2, 0, 8, 2, 2, 2, 2, 0, 8, 6, 0, 80, 0, 8, 2, 2, 2, 0, 8, 2, 2, 2, 0, 8, 2, 2, 2, 0, 8, 2, 2, 2, 0, 8, 2, 2, 2, 0, 8, 2, 2, 2, 0, 8, 6, 0, 80, 0, 8, 2, 2, 2, 0, 8, 2, 2, 2, 0, 8, 2, 2, 2, 0, 8, 2, 2, 2, 0, 8, 2, 2, 2, 0, 8, 2, 2, 2, 2, 0, 60, 20, 20, 20, 20, 20, 14, 30, 18]
def kd (q : Nat) : Nat := kdL.getD q 11
def ln (q : Nat) : Nat := lnL.getD q 0
def fs0 (Γ : GG) (σ : Sg) (q : Nat) : List Value := [.ref (Γ.1 (q + 1)), .ref (Γ.1 (q + 2)), .ref (Γ.1 (q + 3)), .int (σ q 3), .int (σ q 4), .int (σ q 5), .int (σ q 6), .int (σ q 7), .int (σ q 8), .int (σ q 9), .int (σ q 10), .int (σ q 11), .int (σ q 12)]
def fs1 (Γ : GG) (σ : Sg) (q : Nat) : List Value := [.ref (Γ.1 (q + 1)), .int (σ q 1)]
def fs2 (Γ : GG) (σ : Sg) (q : Nat) : List Value := [.ref (Γ.1 (q + 1)), .int (σ q 1), .int (σ q 2), .int (σ q 3), .ref (Γ.1 (q + 2)), .ref (Γ.1 (q + 3)), .ref (Γ.1 (q + 4)), .ref (Γ.1 (q + 5)), .ref (Γ.1 (q + 6))]
def fs3 (Γ : GG) (σ : Sg) (q : Nat) : List Value := [.ref (Γ.1 (q + 1)), .ref (Γ.1 (q + 2)), .ref (Γ.1 (q + 3)), .ref (Γ.1 (q + 4)), .int (σ q 4), .int (σ q 5), .int (σ q 6), .int (σ q 7), .int (σ q 8), .int (σ q 9), .int (σ q 10), .int (σ q 11), .int (σ q 12), .int (σ q 13), .int (σ q 14), .int (σ q 15)]
def fs4 (Γ : GG) (σ : Sg) (q : Nat) : List Value := [.ref (Γ.1 (q + 1)), .ref (Γ.1 (q + 36)), .ref (Γ.1 (q + 71)), .ref (Γ.1 (q + 142)), .ref (Γ.1 (q + 143))]
def ent (Γ : GG) (σ : Sg) (q : Nat) : va_E :=
  if kd q = 0 then .inr (0, fs0 Γ σ q) else if kd q = 1 then .inr (1, fs1 Γ σ q) else if kd q = 2 then .inr (2, fs2 Γ σ q) else if kd q = 3 then .inr (3, fs3 Γ σ q) else if kd q = 4 then .inr (4, fs4 Γ σ q)
  else if kd q = 6 then .inl (gA Γ 0, ln q, .inl (σ q)) else if kd q = 7 then .inl (gA Γ 1, ln q, .inl (σ q)) else if kd q = 8 then .inl (gA Γ 2, ln q, .inl (σ q))
  else if kd q = 9 then .inl (gA Γ 3, 2, .inr (.inr (.inr (.inr (fun k => some (Γ.1 (q + 1 + 35 * k))))))) else .inl (gA Γ 4, 6, .inr (.inr (.inr (.inr (fun k => some (Γ.1 (q + 3 + 5 * k)))))))
def pic (Γ : GG) (σ : Sg) : va_W := (List.range 153).map (fun q => (Γ.1 q, ent Γ σ q))
theorem pic_get {Γ : GG} {σ : Sg} {q : Nat} (hq : q < 153) : (pic Γ σ)[q]? = some (Γ.1 q, ent Γ σ q) := by
  simp [pic, hq]
theorem pic_len {Γ : GG} {σ : Sg} : (pic Γ σ).length = 153 := by simp [pic]
theorem ent_congr {Γ : GG} {σ σ' : Sg} {q : Nat} (h : σ' q = σ q) : ent Γ σ' q = ent Γ σ q := by
  simp only [ent, fs0, fs1, fs2, fs3, fs4, h]
theorem pic_set {Γ : GG} {σ σ' : Sg} {q : Nat} {e : va_E} (ho : ∀ k, k ≠ q → σ' k = σ k) (he : ent Γ σ' q = e) : (pic Γ σ).set q (Γ.1 q, e) = pic Γ σ' := by
  apply List.ext_getElem?
  intro k
  by_cases hk : k < 153
  · by_cases hkq : k = q
    · subst hkq
      rw [List.getElem?_set_self (by rw [pic_len]; exact hk), pic_get hk, he]
    · rw [List.getElem?_set_ne (Ne.symm hkq), pic_get hk, pic_get hk, ent_congr (ho k hkq)]
  · rw [List.getElem?_eq_none (by rw [List.length_set, pic_len]; omega), List.getElem?_eq_none (by rw [pic_len]; omega)]
/-- the addresses that the system may write -/
def AD (Γ : GG) : Nat → Prop := fun a => ∃ k, k < 153 ∧ a = Γ.1 k
theorem pic_D {Γ : GG} (h : ∀ i j, i < 153 → j < 153 → Γ.1 i = Γ.1 j → i = j) (σ : Sg) : va_D (AD Γ) (pic Γ σ) := by
  have lt : ∀ (k : Nat) (q : Nat × va_E), (pic Γ σ)[k]? = some q → k < 153 ∧ q = (Γ.1 k, ent Γ σ k) := by
    intro k q hk
    have h1 := (List.getElem?_eq_some_iff.mp hk).1
    rw [pic_len] at h1
    rw [pic_get h1] at hk
    exact ⟨h1, (Option.some.inj hk).symm⟩
  refine ⟨fun i j x y hi hj hxy => ?_, fun k q hk => ?_⟩
  · obtain ⟨h1, rfl⟩ := lt i x hi
    obtain ⟨h2, rfl⟩ := lt j y hj
    exact h i j h1 h2 hxy
  · obtain ⟨h1, rfl⟩ := lt k q hk
    exact ⟨k, h1, rfl⟩
/-- writes -/
def st (σ : Sg) (q k : Nat) (v : Int32) : Sg := fun a b => if a = q then (if b = k then v else σ a b) else σ a b
def sr (σ : Sg) (q : Nat) (f : Nat → Int32) : Sg := fun a => if a = q then f else σ a
theorem st_o {σ : Sg} {q k : Nat} {v : Int32} (a : Nat) (h : a ≠ q) : st σ q k v a = σ a := by funext b; simp [st, h]
theorem sr_o {σ : Sg} {q : Nat} {f : Nat → Int32} (a : Nat) (h : a ≠ q) : sr σ q f a = σ a := by simp [sr, h]
theorem st_q {σ : Sg} {q k : Nat} {v : Int32} : st σ q k v q = upd (σ q) k v := by funext b; simp [st, upd]
theorem st_r {σ : Sg} {q k : Nat} {v : Int32} {a b : Nat} : st σ q k v a b = if a = q ∧ b = k then v else σ a b := by
  by_cases h : a = q <;> by_cases h2 : b = k <;> simp [st, h, h2]
/-- what kind an object is -/
def isB (q : Nat) : Prop := q = 1 ∨ q = 36 ∨ q = 72 ∨ q = 107
def isT (q : Nat) : Prop := kd q = 3 ∧ q < 148 ∧ kd (q + 1) = 6 ∧ ln (q + 1) = 8 ∧ kd (q + 2) = 6 ∧ ln (q + 2) = 2 ∧ kd (q + 3) = 6 ∧ ln (q + 3) = 2 ∧ kd (q + 4) = 6 ∧ ln (q + 4) = 2
def isA (n q : Nat) : Prop := kd q = 6 ∧ q < 153 ∧ ln q = n
def isK (k q : Nat) : Prop := kd q = k ∧ q < 153
theorem isT.k {q : Nat} (h : isT q) : isK 3 q := ⟨h.1, by have := h.2.1; omega⟩
theorem isT.a1 {q : Nat} (h : isT q) : isA 8 (q + 1) := ⟨h.2.2.1, by have := h.2.1; omega, h.2.2.2.1⟩
theorem isT.a2 {q : Nat} (h : isT q) : isA 2 (q + 2) := ⟨h.2.2.2.2.1, by have := h.2.1; omega, h.2.2.2.2.2.1⟩
theorem isT.a3 {q : Nat} (h : isT q) : isA 2 (q + 3) := ⟨h.2.2.2.2.2.2.1, by have := h.2.1; omega, h.2.2.2.2.2.2.2.1⟩
theorem isT.a4 {q : Nat} (h : isT q) : isA 2 (q + 4) := ⟨h.2.2.2.2.2.2.2.2.1, by have := h.2.1; omega, h.2.2.2.2.2.2.2.2.2⟩
theorem isB.k {q : Nat} (h : isB q) : isK 0 q := by rcases h with rfl | rfl | rfl | rfl <;> exact ⟨by decide, by decide⟩
theorem isB.a1 {q : Nat} (h : isB q) : isA 8 (q + 1) := by rcases h with rfl | rfl | rfl | rfl <;> exact ⟨by decide, by decide, by decide⟩
theorem isB.k2 {q : Nat} (h : isB q) : isK 10 (q + 2) := by rcases h with rfl | rfl | rfl | rfl <;> exact ⟨by decide, by decide⟩
theorem isB.k3 {q : Nat} (h : isB q) : isK 1 (q + 3) := by rcases h with rfl | rfl | rfl | rfl <;> exact ⟨by decide, by decide⟩
theorem isB.a4 {q : Nat} (h : isB q) : isA 80 (q + 3 + 1) := by rcases h with rfl | rfl | rfl | rfl <;> exact ⟨by decide, by decide, by decide⟩
theorem isB.t {q i : Nat} (h : isB q) (hi : i < 6) : isT (q + 2 + 3 + 5 * i) := by
  have h6 : i = 0 ∨ i = 1 ∨ i = 2 ∨ i = 3 ∨ i = 4 ∨ i = 5 := by omega
  rcases h with rfl | rfl | rfl | rfl <;> rcases h6 with rfl | rfl | rfl | rfl | rfl | rfl <;> (unfold isT; decide)
/-- statics: the six tables, the String constant -/
def snL : List String := ["RULE_LOWEST", "RULE_GREATEST", "RULE_FIRST", "SETTING_LOWEST", "SETTING_GREATEST", "SETTING_FIRST"]
def sn (k : Nat) : String := snL.getD k ""
def tbL : List (List Int32) := [[0, 1, 1, 0, 0, 1, 1, 1], [1000, 2000, 100, 2000, 20, 200, 5000, 5], [20, 100, 10, 40, 2, 30, 500, 3], [1, 1, 0, 1, 0, 0, 0, 0], [200, 200, 199, 20, 50, 50, 10, 500], [1, 1, 0, 1, 1, 50, 1, 0]]
def tb (k j : Nat) : Int32 := (tbL.getD k []).getD j 0
def ntb : List Cond := lw_tbl.filter (fun w => match w with | .methodLinkNest _ _ _ _ => true | .fieldLinkNest _ _ _ _ _ _ => true | _ => false)
def SK (Γ : GG) (U : State) (H : Heap) : Prop := va_T .int (gS Γ 6) (gX Γ).1 (fun j => .int ((gX Γ).2 j)) (AD Γ) U H
def KK (Γ : GG) (U : State) (H : Heap) : Prop := va_K (gD Γ) classes (gtys Γ) U ∧ (∀ w ∈ ntb, va_Nw w U) ∧ (∀ k, k < 6 → va_Z RX4 (sn k) "[I" (.ref (gS Γ k)) (AD Γ) U H ∧ va_T .int (gS Γ k) 8 (fun j => .int (tb k j)) (AD Γ) U H) ∧ SK Γ U H ∧ (∀ i j, i < 153 → j < 153 → Γ.1 i = Γ.1 j → i = j)
theorem ntb_tab {w : Cond} (h : w ∈ ntb) : (∃ a i x h', w = .methodLinkNest a i x h') ∨ ∃ a i b n d h', w = .fieldLinkNest a i b n d h' := by
  have h2 := (List.mem_filter.mp h).2
  cases w <;> first | (exact Or.inl ⟨_, _, _, _, rfl⟩) | (exact Or.inr ⟨_, _, _, _, _, _, rfl⟩) | (simp at h2)
theorem SK.kept {Γ : GG} {U : State} {H H1 : Heap} (h : SK Γ U H) (hq : ∀ a : Nat, a < H.size → ¬ AD Γ a → H1[a]? = H[a]?) : SK Γ U H1 := va_T.kept h hq
theorem KK.kept {Γ : GG} {U : State} {H H1 : Heap} (h : KK Γ U H) (hq : ∀ a : Nat, a < H.size → ¬ AD Γ a → H1[a]? = H[a]?) : KK Γ U H1 :=
  ⟨h.1, h.2.1, fun k hk => ⟨(h.2.2.1 k hk).1.kept hq, (h.2.2.1 k hk).2.kept hq⟩, h.2.2.2.1.kept hq, h.2.2.2.2⟩
theorem KK.warm {Γ : GG} {s U : State} {H : Heap} (hW : s.WarmedH U.vm) (h : KK Γ s H) : KK Γ U H := by
  refine ⟨va_K.moved hW.alike h.1, fun w hw => ?_, fun k hk => ⟨va_Z.moved hW.alike (h.2.2.1 k hk).1, va_T.moved hW.alike (h.2.2.1 k hk).2⟩, va_T.moved hW.alike h.2.2.2.1, h.2.2.2.2⟩
  have h1 := h.2.1 w hw
  rcases ntb_tab hw with ⟨a, i, x, h', rfl⟩ | ⟨a, i, b, n, d, h', rfl⟩
  · exact va_Nw.warmM hW h1
  · exact va_Nw.warmF hW h1
theorem KK.same {Γ : GG} {u U : State} {H : Heap} (hv : U.vm = u.vm) (h : KK Γ u H) : KK Γ U H := by
  have ha : u.vm.Alike U.vm := by rw [hv]; exact Vm.Alike.refl _
  refine ⟨va_K.moved ha h.1, fun w hw => ?_, fun k hk => ⟨va_Z.moved ha (h.2.2.1 k hk).1, va_T.moved ha (h.2.2.1 k hk).2⟩, va_T.moved ha h.2.2.2.1, h.2.2.2.2⟩
  have h1 := h.2.1 w hw
  rcases ntb_tab hw with ⟨a, i, x, h', rfl⟩ | ⟨a, i, b, n, d, h', rfl⟩
  · exact va_Nw.same rfl hv.symm h1
  · exact va_Nw.same rfl hv.symm h1
/-- what a method finds -/
def GI (Γ : GG) (σ : Sg) (U : State) : Prop := va_P (gD Γ) classes (pic Γ σ) U.heap ∧ KK Γ U U.heap
def Bd (Γ : GG) (σ : Sg) (s : State) (H : Heap) (locs : List Loc) : Prop := va_P (gD Γ) classes (pic Γ σ) H ∧ va_S (AD Γ) s.heap H locs
abbrev QI (Γ : GG) (res : Int32 × Sg) : Array Value → State → Outcome → State → Prop := va_Qi (fun (r : Int32) (u : Sg) => r = res.1 ∧ u = res.2) (fun u t => va_P (gD Γ) classes (pic Γ u) t.heap) (AD Γ)
abbrev QV (Γ : GG) (res : Int32 × Sg) : Array Value → State → Outcome → State → Prop := va_Qv (fun (u : Sg) => u = res.2) (fun u t => va_P (gD Γ) classes (pic Γ u) t.heap) (AD Γ)
def MX (own : String) (cc : ByteArray) (nL : Nat) (ret : Option FieldType) (p : Program) (s : State) (m : MethodId) (args : Array Value) (meth : Method) (c : Code) : Prop :=
  p.tables.exec = Jvm.exec ∧ c.code = cc ∧ c.maxLocals = nL ∧ s.vm.findClass own = some m.cls ∧ (∀ w ∈ gtb, w.before args s = true) ∧ meth.sig.returnType = ret ∧ meth.locks = false
abbrev WI (Γ : GG) (rm : Room) (p : Program) (l : Launch) (e : Env) (s : State) (m : MethodId) (args : Array Value) (below : List Frame) (meth : Method) (c : Code) (H : Heap) (locs : List Loc) (res : Int32 × Sg) (g : JFrame) : Prop := W p l e rm s m args below meth c H locs 0 0 (MQ below (QI Γ res) args s 0 0 (AD Γ)) g
abbrev WV (Γ : GG) (rm : Room) (p : Program) (l : Launch) (e : Env) (s : State) (m : MethodId) (args : Array Value) (below : List Frame) (meth : Method) (c : Code) (H : Heap) (locs : List Loc) (res : Int32 × Sg) (g : JFrame) : Prop := W p l e rm s m args below meth c H locs 0 0 (MQ below (QV Γ res) args s 0 0 (AD Γ)) g
theorem ent_0 {Γ : GG} {σ : Sg} {q : Nat} (h : kd q = 0) : ent Γ σ q = .inr (0, fs0 Γ σ q) := by simp [ent, h]
theorem ent_1 {Γ : GG} {σ : Sg} {q : Nat} (h : kd q = 1) : ent Γ σ q = .inr (1, fs1 Γ σ q) := by simp [ent, h]
theorem ent_2 {Γ : GG} {σ : Sg} {q : Nat} (h : kd q = 2) : ent Γ σ q = .inr (2, fs2 Γ σ q) := by simp [ent, h]
theorem ent_3 {Γ : GG} {σ : Sg} {q : Nat} (h : kd q = 3) : ent Γ σ q = .inr (3, fs3 Γ σ q) := by simp [ent, h]
theorem ent_4 {Γ : GG} {σ : Sg} {q : Nat} (h : kd q = 4) : ent Γ σ q = .inr (4, fs4 Γ σ q) := by simp [ent, h]
theorem ent_6 {Γ : GG} {σ : Sg} {q : Nat} (h : kd q = 6) : ent Γ σ q = .inl (gA Γ 0, ln q, .inl (σ q)) := by simp [ent, h]
theorem ent_7 {Γ : GG} {σ : Sg} {q : Nat} (h : kd q = 7) : ent Γ σ q = .inl (gA Γ 1, ln q, .inl (σ q)) := by simp [ent, h]
theorem ent_8 {Γ : GG} {σ : Sg} {q : Nat} (h : kd q = 8) : ent Γ σ q = .inl (gA Γ 2, ln q, .inl (σ q)) := by simp [ent, h]
theorem ent_9 {Γ : GG} {σ : Sg} {q : Nat} (h : kd q = 9) : ent Γ σ q = .inl (gA Γ 3, 2, .inr (.inr (.inr (.inr (fun k => some (Γ.1 (q + 1 + 35 * k))))))) := by simp [ent, h]
theorem ent_10 {Γ : GG} {σ : Sg} {q : Nat} (h : kd q = 10) : ent Γ σ q = .inl (gA Γ 4, 6, .inr (.inr (.inr (.inr (fun k => some (Γ.1 (q + 3 + 5 * k))))))) := by simp [ent, h]
theorem fs0_set {Γ : GG} {σ : Sg} {q k : Nat} {v : Int32} (h : k = 3 ∨ k = 4 ∨ k = 5 ∨ k = 6 ∨ k = 7 ∨ k = 8 ∨ k = 9 ∨ k = 10 ∨ k = 11 ∨ k = 12) : (fs0 Γ σ q).set k (.int v) = fs0 Γ (st σ q k v) q := by
  rcases h with rfl | rfl | rfl | rfl | rfl | rfl | rfl | rfl | rfl | rfl <;> simp [fs0, st]
theorem fs1_set {Γ : GG} {σ : Sg} {q k : Nat} {v : Int32} (h : k = 1) : (fs1 Γ σ q).set k (.int v) = fs1 Γ (st σ q k v) q := by
  subst h; simp [fs1, st]
theorem fs2_set {Γ : GG} {σ : Sg} {q k : Nat} {v : Int32} (h : k = 1 ∨ k = 2 ∨ k = 3) : (fs2 Γ σ q).set k (.int v) = fs2 Γ (st σ q k v) q := by
  rcases h with rfl | rfl | rfl <;> simp [fs2, st]
theorem fs3_set {Γ : GG} {σ : Sg} {q k : Nat} {v : Int32} (h : k = 4 ∨ k = 5 ∨ k = 6 ∨ k = 7 ∨ k = 8 ∨ k = 9 ∨ k = 10 ∨ k = 11 ∨ k = 12 ∨ k = 13 ∨ k = 14 ∨ k = 15) : (fs3 Γ σ q).set k (.int v) = fs3 Γ (st σ q k v) q := by
  rcases h with rfl | rfl | rfl | rfl | rfl | rfl | rfl | rfl | rfl | rfl | rfl | rfl <;> simp [fs3, st]
theorem in_X0 : ∀ w ∈ u_ws RX0 TX0 13, w ∈ gtb := fun w h => gtb_of ((show ∀ w ∈ u_ws RX0 TX0 13, w ∈ lw_tbl by decide +kernel) w h) ((show ∀ w ∈ u_ws RX0 TX0 13, goodWord w = true by decide +kernel) w h)
theorem in_X1 : ∀ w ∈ u_ws RX1 TX1 2, w ∈ gtb := fun w h => gtb_of ((show ∀ w ∈ u_ws RX1 TX1 2, w ∈ lw_tbl by decide +kernel) w h) ((show ∀ w ∈ u_ws RX1 TX1 2, goodWord w = true by decide +kernel) w h)
theorem in_X2 : ∀ w ∈ u_ws RX2 TX2 9, w ∈ gtb := fun w h => gtb_of ((show ∀ w ∈ u_ws RX2 TX2 9, w ∈ lw_tbl by decide +kernel) w h) ((show ∀ w ∈ u_ws RX2 TX2 9, goodWord w = true by decide +kernel) w h)
theorem in_X3 : ∀ w ∈ u_ws RX3 TX3 16, w ∈ gtb := fun w h => gtb_of ((show ∀ w ∈ u_ws RX3 TX3 16, w ∈ lw_tbl by decide +kernel) w h) ((show ∀ w ∈ u_ws RX3 TX3 16, goodWord w = true by decide +kernel) w h)
theorem in_X4 : ∀ w ∈ u_ws RX4 TX4 5, w ∈ gtb := fun w h => gtb_of ((show ∀ w ∈ u_ws RX4 TX4 5, w ∈ lw_tbl by decide +kernel) w h) ((show ∀ w ∈ u_ws RX4 TX4 5, goodWord w = true by decide +kernel) w h)
