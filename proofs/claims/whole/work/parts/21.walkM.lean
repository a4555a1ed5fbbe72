abbrev rm_X5_clearFaults : Room := { frames := 3, cells := 0, slots := 0, locals := 69 }
def f_X5_clearFaults_2   : Nat → Int32 → Sg → Option (Int32 × Sg)
  | 0, _, _ => none
  | f + 1, x1, σ => if σ 151 17 ≤ x1 then
some (0, σ)
else
cb (f_X5_layFault_0 0 x1 0 0 0 σ) fun v_2 σ_3 =>
cb (f_X5_layFault_0 1 x1 0 0 0 σ_3) fun v_5 σ_6 =>
f_X5_clearFaults_2   f (x1 + 1) σ_6
set_option maxHeartbeats 4000000 in
set_option maxRecDepth 100000 in
theorem w_X5_clearFaults_2 {p : Program} {l : Launch} {e : Env} {s : State} {m : MethodId} {args : Array Value} {below : List Frame} {meth : Method} {c : Code} {Γ : GG} {res : Int32 × Sg} (M : MX RX5 cX5_clearFaults 2 none p s m args meth c) (K : KK Γ s s.heap)  : ∀ (f : Nat) (x1 : Int32) (σ : Sg) (H : Heap) (locs : List Loc) (ls : Array Slot)  (hB : Bd Γ σ s H locs) (hl : lv_has ls 2 [(0, .ref (Γ.1 150)), (1, .int x1)]) (hr : f_X5_clearFaults_2   f x1 σ = some res), WV Γ rm_X5_clearFaults p l e s m args below meth c H locs res (F0 m 2 ls []) := by
  intro f
  induction f with
  | zero => intros; rename_i hr; exact absurd hr (by rw [f_X5_clearFaults_2]; exact fun h => by cases h)
  | succ f ih_2 =>
    intro x1 σ H locs ls  hB hl hr
    rw [f_X5_clearFaults_2] at hr
    refine lv_iload_n M.1 M.2.1 dX5_clearFaults_2 rfl (lv_at hl 1 rfl) ?_
    refine lv_aload_n M.1 M.2.1 dX5_clearFaults_3 rfl (lv_at hl 0 rfl) ?_
    refine x_get5 M K hB isK_150 0 (by decide) wd_157 (v := .ref (Γ.1 151)) rfl dX5_clearFaults_4 ?_
    refine lv_bipush (v := 17) M.1 M.2.1 dX5_clearFaults_7 (by decide) ?_
    refine x_ialdL M K hB isA_151 (k := 17) (by decide) (by decide) dX5_clearFaults_9 ?_
    refine lv_icmp_ge (tgt := 37) M.1 M.2.1 dX5_clearFaults_10 (by decide) (fun c_1 => ?_) (fun c_1 => ?_)
    · rw [if_pos c_1] at hr
      exact x_vret M hB (Option.some.inj hr) dX5_clearFaults_37
    · rw [if_neg c_1] at hr
      refine lv_aload_n M.1 M.2.1 dX5_clearFaults_13 rfl (lv_at hl 0 rfl) ?_
      refine lv_iconst (v := 0) M.1 M.2.1 dX5_clearFaults_14 (by decide) ?_
      refine lv_iload_n M.1 M.2.1 dX5_clearFaults_15 rfl (lv_at hl 1 rfl) ?_
      refine lv_iconst (v := 0) M.1 M.2.1 dX5_clearFaults_16 (by decide) ?_
      refine lv_iconst (v := 0) M.1 M.2.1 dX5_clearFaults_17 (by decide) ?_
      refine lv_iconst (v := 0) M.1 M.2.1 dX5_clearFaults_18 (by decide) ?_
      obtain ⟨v_2, σ_3, h_4, hr⟩ := cbd hr
      refine x_callV (x_runV M K hB hl.1 [.int 0, .int x1, .int 0, .int 0, .int 0] (rest := []) rfl (c_X5_layFault l Γ 0 x1 0 0 0  σ (v_2, σ_3) h_4) cy_X5_layFault (x_recv K hB isK_150.2 (ent_5 isK_150.1) rfl) wd_163 ⟨rfl, rfl, Nat.le_of_ble_eq_true rfl, Nat.le_of_ble_eq_true rfl⟩ (Nat.le_of_ble_eq_true rfl) ⟨Nat.zero_le _, Nat.zero_le _⟩ dX5_clearFaults_19) hB (fun H locs hB => ?_)
      replace hB : Bd Γ σ_3 s H locs := hB
      refine lv_aload_n M.1 M.2.1 dX5_clearFaults_22 rfl (lv_at hl 0 rfl) ?_
      refine lv_iconst (v := 1) M.1 M.2.1 dX5_clearFaults_23 (by decide) ?_
      refine lv_iload_n M.1 M.2.1 dX5_clearFaults_24 rfl (lv_at hl 1 rfl) ?_
      refine lv_iconst (v := 0) M.1 M.2.1 dX5_clearFaults_25 (by decide) ?_
      refine lv_iconst (v := 0) M.1 M.2.1 dX5_clearFaults_26 (by decide) ?_
      refine lv_iconst (v := 0) M.1 M.2.1 dX5_clearFaults_27 (by decide) ?_
      obtain ⟨v_5, σ_6, h_7, hr⟩ := cbd hr
      refine x_callV (x_runV M K hB hl.1 [.int 1, .int x1, .int 0, .int 0, .int 0] (rest := []) rfl (c_X5_layFault l Γ 1 x1 0 0 0  σ_3 (v_5, σ_6) h_7) cy_X5_layFault (x_recv K hB isK_150.2 (ent_5 isK_150.1) rfl) wd_163 ⟨rfl, rfl, Nat.le_of_ble_eq_true rfl, Nat.le_of_ble_eq_true rfl⟩ (Nat.le_of_ble_eq_true rfl) ⟨Nat.zero_le _, Nat.zero_le _⟩ dX5_clearFaults_28) hB (fun H locs hB => ?_)
      replace hB : Bd Γ σ_6 s H locs := hB
      refine lv_iinc (v := x1 + 1) (lv' := [(1, .int (x1 + 1)), (0, .ref (Γ.1 150))]) M.1 M.2.1 dX5_clearFaults_31 hl (k := 1) rfl rfl (by decide) rfl (fun ls hl => ?_)
      refine lv_goto (tgt := 2) M.1 M.2.1 dX5_clearFaults_34 (by decide) ?_
      exact ih_2 (x1 + 1) _ _ _ _  hB (lv_sub hl [1, 0] rfl) hr
def f_X5_clearFaults_0    (σ : Sg) : Option (Int32 × Sg) :=
f_X5_clearFaults_2   FU 0 σ
set_option maxHeartbeats 4000000 in
set_option maxRecDepth 100000 in
theorem w_X5_clearFaults_0 {p : Program} {l : Launch} {e : Env} {s : State} {m : MethodId} {args : Array Value} {below : List Frame} {meth : Method} {c : Code} {Γ : GG} {res : Int32 × Sg} (M : MX RX5 cX5_clearFaults 2 none p s m args meth c) (K : KK Γ s s.heap)   (σ : Sg) (H : Heap) (locs : List Loc) (ls : Array Slot)  (hB : Bd Γ σ s H locs) (hl : lv_has ls 2 [(0, .ref (Γ.1 150))]) (hr : f_X5_clearFaults_0    σ = some res) : WV Γ rm_X5_clearFaults p l e s m args below meth c H locs res (F0 m 0 ls []) := by
  unfold f_X5_clearFaults_0 at hr
  refine lv_iconst (v := 0) M.1 M.2.1 dX5_clearFaults_0 (by decide) ?_
  refine lv_istore_n (lv' := [(1, .int 0), (0, .ref (Γ.1 150))]) M.1 M.2.1 dX5_clearFaults_1 rfl hl (by decide) rfl (fun ls hl => ?_)
  exact w_X5_clearFaults_2 M K   FU 0 _ _ _ _  hB (lv_sub hl [1, 0] rfl) hr
theorem c_X5_clearFaults (l : Launch) (Γ : GG)   (σ : Sg) (res : Int32 × Sg) (hr : f_X5_clearFaults_0  σ = some res) : Met l yX5_clearFaults (Cond.code yX5_clearFaults cX5_clearFaults 2 none :: gtb) rm_X5_clearFaults (va_Pc [.ref (Γ.1 150)] (GI Γ σ)) (QV Γ res) 0 0 (AD Γ) :=
  x_metV (by decide) [.ref (Γ.1 150)] (Nat.le_of_ble_eq_true rfl) (fun p e s m args below meth c M K ls hl hB => w_X5_clearFaults_0 M K  σ _ _ ls hB hl hr)
abbrev rm_X5_worstHang : Room := { frames := 8, cells := 0, slots := 0, locals := 173 }
def f_X5_worstHang_188 (a0 : Int32) (a1 : Int32) (a2 : Int32) (a3 : Int32)  (s0 : Int32) (σ : Sg) : Option (Int32 × Sg) :=
some (s0, σ)
set_option maxHeartbeats 4000000 in
set_option maxRecDepth 100000 in
theorem w_X5_worstHang_188 {p : Program} {l : Launch} {e : Env} {s : State} {m : MethodId} {args : Array Value} {below : List Frame} {meth : Method} {c : Code} {Γ : GG} {res : Int32 × Sg} (M : MX RX5 cX5_worstHang 9 (some .int) p s m args meth c) (K : KK Γ s s.heap) (a0 : Int32) (a1 : Int32) (a2 : Int32) (a3 : Int32) (s0 : Int32) (σ : Sg) (H : Heap) (locs : List Loc) (ls : Array Slot)  (hB : Bd Γ σ s H locs) (hl : lv_has ls 9 []) (hr : f_X5_worstHang_188 a0 a1 a2 a3  s0 σ = some res) : WI Γ rm_X5_worstHang p l e s m args below meth c H locs res (F0 m 188 ls [.int s0]) := by
  unfold f_X5_worstHang_188 at hr
  exact x_iret M hB (Option.some.inj hr) dX5_worstHang_188
def f_X5_worstHang_172 (a0 : Int32) (a1 : Int32) (a2 : Int32) (a3 : Int32)  (x5 : Int32) (x6 : Int32) (σ : Sg) : Option (Int32 × Sg) :=
cb (f_X5_putBack_0  σ) fun v_41 σ_42 =>
if x6 = 0 then
f_X5_worstHang_188 a0 a1 a2 a3  (-6) σ_42
else
f_X5_worstHang_188 a0 a1 a2 a3  x5 σ_42
set_option maxHeartbeats 4000000 in
set_option maxRecDepth 100000 in
theorem w_X5_worstHang_172 {p : Program} {l : Launch} {e : Env} {s : State} {m : MethodId} {args : Array Value} {below : List Frame} {meth : Method} {c : Code} {Γ : GG} {res : Int32 × Sg} (M : MX RX5 cX5_worstHang 9 (some .int) p s m args meth c) (K : KK Γ s s.heap) (a0 : Int32) (a1 : Int32) (a2 : Int32) (a3 : Int32) (x5 : Int32) (x6 : Int32) (σ : Sg) (H : Heap) (locs : List Loc) (ls : Array Slot)  (hB : Bd Γ σ s H locs) (hl : lv_has ls 9 [(0, .ref (Γ.1 150)), (5, .int x5), (6, .int x6)]) (hr : f_X5_worstHang_172 a0 a1 a2 a3  x5 x6 σ = some res) : WI Γ rm_X5_worstHang p l e s m args below meth c H locs res (F0 m 172 ls []) := by
  unfold f_X5_worstHang_172 at hr
  refine lv_aload_n M.1 M.2.1 dX5_worstHang_172 rfl (lv_at hl 0 rfl) ?_
  obtain ⟨v_41, σ_42, h_43, hr⟩ := cbd hr
  refine x_callV (x_runV M K hB hl.1 [] (rest := []) rfl (c_X5_putBack l Γ   σ (v_41, σ_42) h_43) cy_X5_putBack (x_recv K hB isK_150.2 (ent_5 isK_150.1) rfl) wd_196 ⟨rfl, rfl, Nat.le_of_ble_eq_true rfl, Nat.le_of_ble_eq_true rfl⟩ (Nat.le_of_ble_eq_true rfl) ⟨Nat.zero_le _, Nat.zero_le _⟩ dX5_worstHang_173) hB (fun H locs hB => ?_)
  replace hB : Bd Γ σ_42 s H locs := hB
  refine lv_iload M.1 M.2.1 dX5_worstHang_176 (lv_at hl 2 rfl) ?_
  refine lv_if_eq (tgt := 186) M.1 M.2.1 dX5_worstHang_178 (by decide) (fun c_44 => ?_) (fun c_44 => ?_)
  · rw [if_pos c_44] at hr
    refine lv_bipush (v := (-6)) M.1 M.2.1 dX5_worstHang_186 (by decide) ?_
    exact w_X5_worstHang_188 M K a0 a1 a2 a3  (-6) _ _ _ _  hB (lv_sub hl [] rfl) hr
  · rw [if_neg c_44] at hr
    refine lv_iload M.1 M.2.1 dX5_worstHang_181 (lv_at hl 1 rfl) ?_
    refine lv_goto (tgt := 188) M.1 M.2.1 dX5_worstHang_183 (by decide) ?_
    exact w_X5_worstHang_188 M K a0 a1 a2 a3  x5 _ _ _ _  hB (lv_sub hl [] rfl) hr
def f_X5_worstHang_164 (a0 : Int32) (a1 : Int32) (a2 : Int32) (a3 : Int32) (rec_60 : Int32 → Int32 → Int32 → Int32 → Int32 → Int32 → Int32 → Sg → Option (Int32 × Sg)) (x1 : Int32) (x2 : Int32) (x3 : Int32) (x4 : Int32) (x6 : Int32) (x7 : Int32) (s0 : Int32) (σ : Sg) : Option (Int32 × Sg) :=
rec_60 x1 x2 x3 x4 s0 x6 (x7 + 1) σ
set_option maxHeartbeats 4000000 in
set_option maxRecDepth 100000 in
theorem w_X5_worstHang_164 {p : Program} {l : Launch} {e : Env} {s : State} {m : MethodId} {args : Array Value} {below : List Frame} {meth : Method} {c : Code} {Γ : GG} {res : Int32 × Sg} (M : MX RX5 cX5_worstHang 9 (some .int) p s m args meth c) (K : KK Γ s s.heap) (a0 : Int32) (a1 : Int32) (a2 : Int32) (a3 : Int32) (rec_60 : Int32 → Int32 → Int32 → Int32 → Int32 → Int32 → Int32 → Sg → Option (Int32 × Sg)) (ih_60 : ∀ (x1 : Int32) (x2 : Int32) (x3 : Int32) (x4 : Int32) (x5 : Int32) (x6 : Int32) (x7 : Int32) (σ : Sg) (H : Heap) (locs : List Loc) (ls : Array Slot) , Bd Γ σ s H locs → lv_has ls 9 [(0, .ref (Γ.1 150)), (1, .int x1), (2, .int x2), (3, .int x3), (4, .int x4), (5, .int x5), (6, .int x6), (7, .int x7)] → rec_60 x1 x2 x3 x4 x5 x6 x7 σ = some res → WI Γ rm_X5_worstHang p l e s m args below meth c H locs res (F0 m 60 ls [])) (x1 : Int32) (x2 : Int32) (x3 : Int32) (x4 : Int32) (x6 : Int32) (x7 : Int32) (s0 : Int32) (σ : Sg) (H : Heap) (locs : List Loc) (ls : Array Slot)  (hB : Bd Γ σ s H locs) (hl : lv_has ls 9 [(0, .ref (Γ.1 150)), (1, .int x1), (2, .int x2), (3, .int x3), (4, .int x4), (6, .int x6), (7, .int x7)]) (hr : f_X5_worstHang_164 a0 a1 a2 a3 rec_60 x1 x2 x3 x4 x6 x7 s0 σ = some res) : WI Γ rm_X5_worstHang p l e s m args below meth c H locs res (F0 m 164 ls [.int s0]) := by
  unfold f_X5_worstHang_164 at hr
  refine lv_istore (lv' := [(5, .int s0), (0, .ref (Γ.1 150)), (1, .int x1), (2, .int x2), (3, .int x3), (4, .int x4), (6, .int x6), (7, .int x7)]) M.1 M.2.1 dX5_worstHang_164 hl (by decide) rfl (fun ls hl => ?_)
  refine lv_iinc (v := x7 + 1) (lv' := [(7, .int (x7 + 1)), (5, .int s0), (0, .ref (Γ.1 150)), (1, .int x1), (2, .int x2), (3, .int x3), (4, .int x4), (6, .int x6)]) M.1 M.2.1 dX5_worstHang_166 hl (k := 7) rfl rfl (by decide) rfl (fun ls hl => ?_)
  refine lv_goto (tgt := 60) M.1 M.2.1 dX5_worstHang_169 (by decide) ?_
  exact ih_60 x1 x2 x3 x4 s0 x6 (x7 + 1) _ _ _ _  hB (lv_sub hl [2, 3, 4, 5, 6, 1, 7, 0] rfl) hr
def f_X5_worstHang_148 (a0 : Int32) (a1 : Int32) (a2 : Int32) (a3 : Int32) (rec_60 : Int32 → Int32 → Int32 → Int32 → Int32 → Int32 → Int32 → Sg → Option (Int32 × Sg)) (x1 : Int32) (x2 : Int32) (x3 : Int32) (x4 : Int32) (x5 : Int32) (x6 : Int32) (x7 : Int32) (s0 : Int32) (σ : Sg) : Option (Int32 × Sg) :=
if s0 ≤ x5 then
f_X5_worstHang_164 a0 a1 a2 a3 rec_60 x1 x2 x3 x4 x6 x7 x5 σ
else
f_X5_worstHang_164 a0 a1 a2 a3 rec_60 x1 x2 x3 x4 x6 x7 s0 σ
set_option maxHeartbeats 4000000 in
set_option maxRecDepth 100000 in
theorem w_X5_worstHang_148 {p : Program} {l : Launch} {e : Env} {s : State} {m : MethodId} {args : Array Value} {below : List Frame} {meth : Method} {c : Code} {Γ : GG} {res : Int32 × Sg} (M : MX RX5 cX5_worstHang 9 (some .int) p s m args meth c) (K : KK Γ s s.heap) (a0 : Int32) (a1 : Int32) (a2 : Int32) (a3 : Int32) (rec_60 : Int32 → Int32 → Int32 → Int32 → Int32 → Int32 → Int32 → Sg → Option (Int32 × Sg)) (ih_60 : ∀ (x1 : Int32) (x2 : Int32) (x3 : Int32) (x4 : Int32) (x5 : Int32) (x6 : Int32) (x7 : Int32) (σ : Sg) (H : Heap) (locs : List Loc) (ls : Array Slot) , Bd Γ σ s H locs → lv_has ls 9 [(0, .ref (Γ.1 150)), (1, .int x1), (2, .int x2), (3, .int x3), (4, .int x4), (5, .int x5), (6, .int x6), (7, .int x7)] → rec_60 x1 x2 x3 x4 x5 x6 x7 σ = some res → WI Γ rm_X5_worstHang p l e s m args below meth c H locs res (F0 m 60 ls [])) (x1 : Int32) (x2 : Int32) (x3 : Int32) (x4 : Int32) (x5 : Int32) (x6 : Int32) (x7 : Int32) (s0 : Int32) (σ : Sg) (H : Heap) (locs : List Loc) (ls : Array Slot)  (hB : Bd Γ σ s H locs) (hl : lv_has ls 9 [(0, .ref (Γ.1 150)), (1, .int x1), (2, .int x2), (3, .int x3), (4, .int x4), (5, .int x5), (6, .int x6), (7, .int x7)]) (hr : f_X5_worstHang_148 a0 a1 a2 a3 rec_60 x1 x2 x3 x4 x5 x6 x7 s0 σ = some res) : WI Γ rm_X5_worstHang p l e s m args below meth c H locs res (F0 m 148 ls [.int s0]) := by
  unfold f_X5_worstHang_148 at hr
  refine lv_istore (lv' := [(8, .int s0), (0, .ref (Γ.1 150)), (1, .int x1), (2, .int x2), (3, .int x3), (4, .int x4), (5, .int x5), (6, .int x6), (7, .int x7)]) M.1 M.2.1 dX5_worstHang_148 hl (by decide) rfl (fun ls hl => ?_)
  refine lv_iload M.1 M.2.1 dX5_worstHang_150 (lv_at hl 0 rfl) ?_
  refine lv_iload M.1 M.2.1 dX5_worstHang_152 (lv_at hl 6 rfl) ?_
  refine lv_icmp_le (tgt := 162) M.1 M.2.1 dX5_worstHang_154 (by decide) (fun c_40 => ?_) (fun c_40 => ?_)
  · rw [if_pos c_40] at hr
    refine lv_iload M.1 M.2.1 dX5_worstHang_162 (lv_at hl 6 rfl) ?_
    exact w_X5_worstHang_164 M K a0 a1 a2 a3 _ ih_60 x1 x2 x3 x4 x6 x7 x5 _ _ _ _  hB (lv_sub hl [1, 2, 3, 4, 5, 7, 8] rfl) hr
  · rw [if_neg c_40] at hr
    refine lv_iload M.1 M.2.1 dX5_worstHang_157 (lv_at hl 0 rfl) ?_
    refine lv_goto (tgt := 164) M.1 M.2.1 dX5_worstHang_159 (by decide) ?_
    exact w_X5_worstHang_164 M K a0 a1 a2 a3 _ ih_60 x1 x2 x3 x4 x6 x7 s0 _ _ _ _  hB (lv_sub hl [1, 2, 3, 4, 5, 7, 8] rfl) hr
def f_X5_worstHang_109 (a0 : Int32) (a1 : Int32) (a2 : Int32) (a3 : Int32) (rec_60 : Int32 → Int32 → Int32 → Int32 → Int32 → Int32 → Int32 → Sg → Option (Int32 × Sg)) (x1 : Int32) (x2 : Int32) (x3 : Int32) (x4 : Int32) (x5 : Int32) (x7 : Int32) (s0 : Int32) (σ : Sg) : Option (Int32 × Sg) :=
if s0 = 0 then
f_X5_worstHang_148 a0 a1 a2 a3 rec_60 x1 x2 x3 x4 x5 s0 x7 0 σ
else
if (175 + (5 * (((σ 151 18) - 1) - ((σ 151 18) - 1) / 16 * 16))) + 4 < 0 ∨ 255 ≤ ((175 + (5 * (((σ 151 18) - 1) - ((σ 151 18) - 1) / 16 * 16))) + 4).toNatClampNeg then none else
f_X5_worstHang_148 a0 a1 a2 a3 rec_60 x1 x2 x3 x4 x5 s0 x7 ((σ 151 (((175 + (5 * (((σ 151 18) - 1) - ((σ 151 18) - 1) / 16 * 16))) + 4).toNatClampNeg)) - x7) σ
set_option maxHeartbeats 4000000 in
set_option maxRecDepth 100000 in
theorem w_X5_worstHang_109 {p : Program} {l : Launch} {e : Env} {s : State} {m : MethodId} {args : Array Value} {below : List Frame} {meth : Method} {c : Code} {Γ : GG} {res : Int32 × Sg} (M : MX RX5 cX5_worstHang 9 (some .int) p s m args meth c) (K : KK Γ s s.heap) (a0 : Int32) (a1 : Int32) (a2 : Int32) (a3 : Int32) (rec_60 : Int32 → Int32 → Int32 → Int32 → Int32 → Int32 → Int32 → Sg → Option (Int32 × Sg)) (ih_60 : ∀ (x1 : Int32) (x2 : Int32) (x3 : Int32) (x4 : Int32) (x5 : Int32) (x6 : Int32) (x7 : Int32) (σ : Sg) (H : Heap) (locs : List Loc) (ls : Array Slot) , Bd Γ σ s H locs → lv_has ls 9 [(0, .ref (Γ.1 150)), (1, .int x1), (2, .int x2), (3, .int x3), (4, .int x4), (5, .int x5), (6, .int x6), (7, .int x7)] → rec_60 x1 x2 x3 x4 x5 x6 x7 σ = some res → WI Γ rm_X5_worstHang p l e s m args below meth c H locs res (F0 m 60 ls [])) (x1 : Int32) (x2 : Int32) (x3 : Int32) (x4 : Int32) (x5 : Int32) (x7 : Int32) (s0 : Int32) (σ : Sg) (H : Heap) (locs : List Loc) (ls : Array Slot)  (hB : Bd Γ σ s H locs) (hl : lv_has ls 9 [(0, .ref (Γ.1 150)), (1, .int x1), (2, .int x2), (3, .int x3), (4, .int x4), (5, .int x5), (7, .int x7)]) (hr : f_X5_worstHang_109 a0 a1 a2 a3 rec_60 x1 x2 x3 x4 x5 x7 s0 σ = some res) : WI Γ rm_X5_worstHang p l e s m args below meth c H locs res (F0 m 109 ls [.int s0]) := by
  unfold f_X5_worstHang_109 at hr
  refine lv_istore (lv' := [(6, .int s0), (0, .ref (Γ.1 150)), (1, .int x1), (2, .int x2), (3, .int x3), (4, .int x4), (5, .int x5), (7, .int x7)]) M.1 M.2.1 dX5_worstHang_109 hl (by decide) rfl (fun ls hl => ?_)
  refine lv_iload M.1 M.2.1 dX5_worstHang_111 (lv_at hl 0 rfl) ?_
  refine lv_if_eq (tgt := 147) M.1 M.2.1 dX5_worstHang_113 (by decide) (fun c_38 => ?_) (fun c_38 => ?_)
  · rw [if_pos c_38] at hr
    refine lv_iconst (v := 0) M.1 M.2.1 dX5_worstHang_147 (by decide) ?_
    exact w_X5_worstHang_148 M K a0 a1 a2 a3 _ ih_60 x1 x2 x3 x4 x5 s0 x7 0 _ _ _ _  hB (lv_sub hl [1, 2, 3, 4, 5, 6, 0, 7] rfl) hr
  · rw [if_neg c_38] at hr
    refine lv_aload_n M.1 M.2.1 dX5_worstHang_116 rfl (lv_at hl 1 rfl) ?_
    refine x_get5 M K hB isK_150 0 (by decide) wd_157 (v := .ref (Γ.1 151)) rfl dX5_worstHang_117 ?_
    refine lv_sipush (v := 175) M.1 M.2.1 dX5_worstHang_120 (by decide) ?_
    refine lv_iconst (v := 5) M.1 M.2.1 dX5_worstHang_123 (by decide) ?_
    refine lv_aload_n M.1 M.2.1 dX5_worstHang_124 rfl (lv_at hl 1 rfl) ?_
    refine x_get5 M K hB isK_150 0 (by decide) wd_157 (v := .ref (Γ.1 151)) rfl dX5_worstHang_125 ?_
    refine lv_bipush (v := 18) M.1 M.2.1 dX5_worstHang_128 (by decide) ?_
    refine x_ialdL M K hB isA_151 (k := 18) (by decide) (by decide) dX5_worstHang_130 ?_
    refine lv_iconst (v := 1) M.1 M.2.1 dX5_worstHang_131 (by decide) ?_
    refine lv_isub M.1 M.2.1 dX5_worstHang_132 ?_
    refine lv_bipush (v := 16) M.1 M.2.1 dX5_worstHang_133 (by decide) ?_
    refine lv_irem M.1 M.2.1 dX5_worstHang_135 (by decide) ?_
    refine lv_imul M.1 M.2.1 dX5_worstHang_136 ?_
    refine lv_iadd M.1 M.2.1 dX5_worstHang_137 ?_
    refine lv_iconst (v := 4) M.1 M.2.1 dX5_worstHang_138 (by decide) ?_
    refine lv_iadd M.1 M.2.1 dX5_worstHang_139 ?_
    obtain ⟨g_39, hr⟩ := gd hr
    refine x_iald M K hB isA_151 g_39 dX5_worstHang_140 ?_
    refine lv_iload M.1 M.2.1 dX5_worstHang_141 (lv_at hl 7 rfl) ?_
    refine lv_isub M.1 M.2.1 dX5_worstHang_143 ?_
    refine lv_goto (tgt := 148) M.1 M.2.1 dX5_worstHang_144 (by decide) ?_
    exact w_X5_worstHang_148 M K a0 a1 a2 a3 _ ih_60 x1 x2 x3 x4 x5 s0 x7 ((σ 151 (((175 + (5 * (((σ 151 18) - 1) - ((σ 151 18) - 1) / 16 * 16))) + 4).toNatClampNeg)) - x7) _ _ _ _  hB (lv_sub hl [1, 2, 3, 4, 5, 6, 0, 7] rfl) hr
def f_X5_worstHang_60 (a0 : Int32) (a1 : Int32) (a2 : Int32) (a3 : Int32)  : Nat → Int32 → Int32 → Int32 → Int32 → Int32 → Int32 → Int32 → Sg → Option (Int32 × Sg)
  | 0, _, _, _, _, _, _, _, _ => none
  | f + 1, x1, x2, x3, x4, x5, x6, x7, σ => if x2 + x3 ≤ x7 then
f_X5_worstHang_172 a0 a1 a2 a3  x5 x6 σ
else
if x6 = 0 then
f_X5_worstHang_172 a0 a1 a2 a3  x5 x6 σ
else
cb (f_X5_putBack_0  σ) fun v_22 σ_23 =>
cb (f_X5_clearFaults_0  σ_23) fun v_25 σ_26 =>
cb (f_X5_layFault_0 0 x1 1 x7 0 σ_26) fun v_28 σ_29 =>
cb (f_X5_switchOn_0  σ_29) fun v_31 σ_32 =>
cb (f_X5_tickOfReset_0 x4 σ_32) fun v_34 σ_35 =>
if v_34 ≤ 0 then
f_X5_worstHang_109 a0 a1 a2 a3 (f_X5_worstHang_60 a0 a1 a2 a3  f) x1 x2 x3 x4 x5 x7 0 σ_35
else
f_X5_worstHang_109 a0 a1 a2 a3 (f_X5_worstHang_60 a0 a1 a2 a3  f) x1 x2 x3 x4 x5 x7 1 σ_35
set_option maxHeartbeats 4000000 in
set_option maxRecDepth 100000 in
theorem w_X5_worstHang_60 {p : Program} {l : Launch} {e : Env} {s : State} {m : MethodId} {args : Array Value} {below : List Frame} {meth : Method} {c : Code} {Γ : GG} {res : Int32 × Sg} (M : MX RX5 cX5_worstHang 9 (some .int) p s m args meth c) (K : KK Γ s s.heap) (a0 : Int32) (a1 : Int32) (a2 : Int32) (a3 : Int32) : ∀ (f : Nat) (x1 : Int32) (x2 : Int32) (x3 : Int32) (x4 : Int32) (x5 : Int32) (x6 : Int32) (x7 : Int32) (σ : Sg) (H : Heap) (locs : List Loc) (ls : Array Slot)  (hB : Bd Γ σ s H locs) (hl : lv_has ls 9 [(0, .ref (Γ.1 150)), (1, .int x1), (2, .int x2), (3, .int x3), (4, .int x4), (5, .int x5), (6, .int x6), (7, .int x7)]) (hr : f_X5_worstHang_60 a0 a1 a2 a3  f x1 x2 x3 x4 x5 x6 x7 σ = some res), WI Γ rm_X5_worstHang p l e s m args below meth c H locs res (F0 m 60 ls []) := by
  intro f
  induction f with
  | zero => intros; rename_i hr; exact absurd hr (by rw [f_X5_worstHang_60]; exact fun h => by cases h)
  | succ f ih_60 =>
    intro x1 x2 x3 x4 x5 x6 x7 σ H locs ls  hB hl hr
    rw [f_X5_worstHang_60] at hr
    refine lv_iload M.1 M.2.1 dX5_worstHang_60 (lv_at hl 7 rfl) ?_
    refine lv_iload_n M.1 M.2.1 dX5_worstHang_62 rfl (lv_at hl 2 rfl) ?_
    refine lv_iload_n M.1 M.2.1 dX5_worstHang_63 rfl (lv_at hl 3 rfl) ?_
    refine lv_iadd M.1 M.2.1 dX5_worstHang_64 ?_
    refine lv_icmp_ge (tgt := 172) M.1 M.2.1 dX5_worstHang_65 (by decide) (fun c_20 => ?_) (fun c_20 => ?_)
    · rw [if_pos c_20] at hr
      exact w_X5_worstHang_172 M K a0 a1 a2 a3  x5 x6 _ _ _ _  hB (lv_sub hl [0, 5, 6] rfl) hr
    · rw [if_neg c_20] at hr
      refine lv_iload M.1 M.2.1 dX5_worstHang_68 (lv_at hl 6 rfl) ?_
      refine lv_if_eq (tgt := 172) M.1 M.2.1 dX5_worstHang_70 (by decide) (fun c_21 => ?_) (fun c_21 => ?_)
      · rw [if_pos c_21] at hr
        exact w_X5_worstHang_172 M K a0 a1 a2 a3  x5 x6 _ _ _ _  hB (lv_sub hl [0, 5, 6] rfl) hr
      · rw [if_neg c_21] at hr
        refine lv_aload_n M.1 M.2.1 dX5_worstHang_73 rfl (lv_at hl 0 rfl) ?_
        obtain ⟨v_22, σ_23, h_24, hr⟩ := cbd hr
        refine x_callV (x_runV M K hB hl.1 [] (rest := []) rfl (c_X5_putBack l Γ   σ (v_22, σ_23) h_24) cy_X5_putBack (x_recv K hB isK_150.2 (ent_5 isK_150.1) rfl) wd_196 ⟨rfl, rfl, Nat.le_of_ble_eq_true rfl, Nat.le_of_ble_eq_true rfl⟩ (Nat.le_of_ble_eq_true rfl) ⟨Nat.zero_le _, Nat.zero_le _⟩ dX5_worstHang_74) hB (fun H locs hB => ?_)
        replace hB : Bd Γ σ_23 s H locs := hB
        refine lv_aload_n M.1 M.2.1 dX5_worstHang_77 rfl (lv_at hl 0 rfl) ?_
        obtain ⟨v_25, σ_26, h_27, hr⟩ := cbd hr
        refine x_callV (x_runV M K hB hl.1 [] (rest := []) rfl (c_X5_clearFaults l Γ   σ_23 (v_25, σ_26) h_27) cy_X5_clearFaults (x_recv K hB isK_150.2 (ent_5 isK_150.1) rfl) wd_198 ⟨rfl, rfl, Nat.le_of_ble_eq_true rfl, Nat.le_of_ble_eq_true rfl⟩ (Nat.le_of_ble_eq_true rfl) ⟨Nat.zero_le _, Nat.zero_le _⟩ dX5_worstHang_78) hB (fun H locs hB => ?_)
        replace hB : Bd Γ σ_26 s H locs := hB
        refine lv_aload_n M.1 M.2.1 dX5_worstHang_81 rfl (lv_at hl 0 rfl) ?_
        refine lv_iconst (v := 0) M.1 M.2.1 dX5_worstHang_82 (by decide) ?_
        refine lv_iload_n M.1 M.2.1 dX5_worstHang_83 rfl (lv_at hl 1 rfl) ?_
        refine lv_iconst (v := 1) M.1 M.2.1 dX5_worstHang_84 (by decide) ?_
        refine lv_iload M.1 M.2.1 dX5_worstHang_85 (lv_at hl 7 rfl) ?_
        refine lv_iconst (v := 0) M.1 M.2.1 dX5_worstHang_87 (by decide) ?_
        obtain ⟨v_28, σ_29, h_30, hr⟩ := cbd hr
        refine x_callV (x_runV M K hB hl.1 [.int 0, .int x1, .int 1, .int x7, .int 0] (rest := []) rfl (c_X5_layFault l Γ 0 x1 1 x7 0  σ_26 (v_28, σ_29) h_30) cy_X5_layFault (x_recv K hB isK_150.2 (ent_5 isK_150.1) rfl) wd_163 ⟨rfl, rfl, Nat.le_of_ble_eq_true rfl, Nat.le_of_ble_eq_true rfl⟩ (Nat.le_of_ble_eq_true rfl) ⟨Nat.zero_le _, Nat.zero_le _⟩ dX5_worstHang_88) hB (fun H locs hB => ?_)
        replace hB : Bd Γ σ_29 s H locs := hB
        refine lv_aload_n M.1 M.2.1 dX5_worstHang_91 rfl (lv_at hl 0 rfl) ?_
        obtain ⟨v_31, σ_32, h_33, hr⟩ := cbd hr
        refine x_callV (x_runV M K hB hl.1 [] (rest := []) rfl (c_X5_switchOn l Γ   σ_29 (v_31, σ_32) h_33) cy_X5_switchOn (x_recv K hB isK_150.2 (ent_5 isK_150.1) rfl) wd_191 ⟨rfl, rfl, Nat.le_of_ble_eq_true rfl, Nat.le_of_ble_eq_true rfl⟩ (Nat.le_of_ble_eq_true rfl) ⟨Nat.zero_le _, Nat.zero_le _⟩ dX5_worstHang_92) hB (fun H locs hB => ?_)
        replace hB : Bd Γ σ_32 s H locs := hB
        refine lv_aload_n M.1 M.2.1 dX5_worstHang_95 rfl (lv_at hl 0 rfl) ?_
        refine lv_iload M.1 M.2.1 dX5_worstHang_96 (lv_at hl 4 rfl) ?_
        obtain ⟨v_34, σ_35, h_36, hr⟩ := cbd hr
        refine x_callI (x_runV M K hB hl.1 [.int x4] (rest := []) rfl (c_X5_tickOfReset l Γ x4  σ_32 (v_34, σ_35) h_36) cy_X5_tickOfReset (x_recv K hB isK_150.2 (ent_5 isK_150.1) rfl) wd_190 ⟨rfl, rfl, Nat.le_of_ble_eq_true rfl, Nat.le_of_ble_eq_true rfl⟩ (Nat.le_of_ble_eq_true rfl) ⟨Nat.zero_le _, Nat.zero_le _⟩ dX5_worstHang_98) hB (fun H locs hB => ?_)
        replace hB : Bd Γ σ_35 s H locs := hB
        refine lv_if_le (tgt := 108) M.1 M.2.1 dX5_worstHang_101 (by decide) (fun c_37 => ?_) (fun c_37 => ?_)
        · rw [if_pos c_37] at hr
          refine lv_iconst (v := 0) M.1 M.2.1 dX5_worstHang_108 (by decide) ?_
          exact w_X5_worstHang_109 M K a0 a1 a2 a3 _ ih_60 x1 x2 x3 x4 x5 x7 0 _ _ _ _  hB (lv_sub hl [0, 1, 2, 3, 4, 5, 7] rfl) hr
        · rw [if_neg c_37] at hr
          refine lv_iconst (v := 1) M.1 M.2.1 dX5_worstHang_104 (by decide) ?_
          refine lv_goto (tgt := 109) M.1 M.2.1 dX5_worstHang_105 (by decide) ?_
          exact w_X5_worstHang_109 M K a0 a1 a2 a3 _ ih_60 x1 x2 x3 x4 x5 x7 1 _ _ _ _  hB (lv_sub hl [0, 1, 2, 3, 4, 5, 7] rfl) hr
def f_X5_worstHang_43 (a0 : Int32) (a1 : Int32) (a2 : Int32) (a3 : Int32)   (σ : Sg) : Option (Int32 × Sg) :=
some ((-2), σ)
set_option maxHeartbeats 4000000 in
set_option maxRecDepth 100000 in
theorem w_X5_worstHang_43 {p : Program} {l : Launch} {e : Env} {s : State} {m : MethodId} {args : Array Value} {below : List Frame} {meth : Method} {c : Code} {Γ : GG} {res : Int32 × Sg} (M : MX RX5 cX5_worstHang 9 (some .int) p s m args meth c) (K : KK Γ s s.heap) (a0 : Int32) (a1 : Int32) (a2 : Int32) (a3 : Int32)  (σ : Sg) (H : Heap) (locs : List Loc) (ls : Array Slot)  (hB : Bd Γ σ s H locs) (hl : lv_has ls 9 []) (hr : f_X5_worstHang_43 a0 a1 a2 a3   σ = some res) : WI Γ rm_X5_worstHang p l e s m args below meth c H locs res (F0 m 43 ls []) := by
  unfold f_X5_worstHang_43 at hr
  refine lv_bipush (v := (-2)) M.1 M.2.1 dX5_worstHang_43 (by decide) ?_
  exact x_iret M hB (Option.some.inj hr) dX5_worstHang_45
def f_X5_worstHang_0 (a0 : Int32) (a1 : Int32) (a2 : Int32) (a3 : Int32)   (σ : Sg) : Option (Int32 × Sg) :=
cb (f_X5_isTask_0 a0 σ) fun v_1 σ_2 =>
if v_1 = 0 then
some ((-1), σ_2)
else
cb (f_X5_in_0 a1 1 4000 σ_2) fun v_5 σ_6 =>
if v_5 = 0 then
f_X5_worstHang_43 a0 a1 a2 a3   σ_6
else
cb (f_X5_in_0 a2 1 60 σ_6) fun v_9 σ_10 =>
if v_9 = 0 then
f_X5_worstHang_43 a0 a1 a2 a3   σ_10
else
cb (f_X5_in_0 a3 1 5000 σ_10) fun v_13 σ_14 =>
if v_13 = 0 then
f_X5_worstHang_43 a0 a1 a2 a3   σ_14
else
cb (f_X5_putAside_0  σ_14) fun v_17 σ_18 =>
f_X5_worstHang_60 a0 a1 a2 a3  FU a0 a1 a2 a3 (-1000000) 1 a1 σ_18
set_option maxHeartbeats 4000000 in
set_option maxRecDepth 100000 in
theorem w_X5_worstHang_0 {p : Program} {l : Launch} {e : Env} {s : State} {m : MethodId} {args : Array Value} {below : List Frame} {meth : Method} {c : Code} {Γ : GG} {res : Int32 × Sg} (M : MX RX5 cX5_worstHang 9 (some .int) p s m args meth c) (K : KK Γ s s.heap) (a0 : Int32) (a1 : Int32) (a2 : Int32) (a3 : Int32)  (σ : Sg) (H : Heap) (locs : List Loc) (ls : Array Slot)  (hB : Bd Γ σ s H locs) (hl : lv_has ls 9 [(0, .ref (Γ.1 150)), (1, .int a0), (2, .int a1), (3, .int a2), (4, .int a3)]) (hr : f_X5_worstHang_0 a0 a1 a2 a3   σ = some res) : WI Γ rm_X5_worstHang p l e s m args below meth c H locs res (F0 m 0 ls []) := by
  unfold f_X5_worstHang_0 at hr
  refine lv_aload_n M.1 M.2.1 dX5_worstHang_0 rfl (lv_at hl 0 rfl) ?_
  refine lv_iload_n M.1 M.2.1 dX5_worstHang_1 rfl (lv_at hl 1 rfl) ?_
  obtain ⟨v_1, σ_2, h_3, hr⟩ := cbd hr
  refine x_callI (x_runV M K hB hl.1 [.int a0] (rest := []) rfl (c_X5_isTask l Γ a0  σ (v_1, σ_2) h_3) cy_X5_isTask (x_recv K hB isK_150.2 (ent_5 isK_150.1) rfl) wd_160 ⟨rfl, rfl, Nat.le_of_ble_eq_true rfl, Nat.le_of_ble_eq_true rfl⟩ (Nat.le_of_ble_eq_true rfl) ⟨Nat.zero_le _, Nat.zero_le _⟩ dX5_worstHang_2) hB (fun H locs hB => ?_)
  replace hB : Bd Γ σ_2 s H locs := hB
  refine lv_if_ne (tgt := 10) M.1 M.2.1 dX5_worstHang_5 (by decide) (fun c_4 => ?_) (fun c_4 => ?_)
  · rw [if_neg c_4] at hr
    refine lv_iload_n M.1 M.2.1 dX5_worstHang_10 rfl (lv_at hl 2 rfl) ?_
    refine lv_iconst (v := 1) M.1 M.2.1 dX5_worstHang_11 (by decide) ?_
    refine lv_sipush (v := 4000) M.1 M.2.1 dX5_worstHang_12 (by decide) ?_
    obtain ⟨v_5, σ_6, h_7, hr⟩ := cbd hr
    refine x_callI (x_runS M K hB hl.1 [.int a1, .int 1, .int 4000] (rest := []) rfl (c_X5_in l Γ a1 1 4000  σ_2 (v_5, σ_6) h_7) cy_X5_in wd_155 ⟨rfl, rfl, Nat.le_of_ble_eq_true rfl, Nat.le_of_ble_eq_true rfl⟩ (Nat.le_of_ble_eq_true rfl) ⟨Nat.zero_le _, Nat.zero_le _⟩ dX5_worstHang_15) hB (fun H locs hB => ?_)
    replace hB : Bd Γ σ_6 s H locs := hB
    refine lv_if_eq (tgt := 43) M.1 M.2.1 dX5_worstHang_18 (by decide) (fun c_8 => ?_) (fun c_8 => ?_)
    · rw [if_pos c_8] at hr
      exact w_X5_worstHang_43 M K a0 a1 a2 a3   _ _ _ _  hB (lv_sub hl [] rfl) hr
    · rw [if_neg c_8] at hr
      refine lv_iload_n M.1 M.2.1 dX5_worstHang_21 rfl (lv_at hl 3 rfl) ?_
      refine lv_iconst (v := 1) M.1 M.2.1 dX5_worstHang_22 (by decide) ?_
      refine lv_bipush (v := 60) M.1 M.2.1 dX5_worstHang_23 (by decide) ?_
      obtain ⟨v_9, σ_10, h_11, hr⟩ := cbd hr
      refine x_callI (x_runS M K hB hl.1 [.int a2, .int 1, .int 60] (rest := []) rfl (c_X5_in l Γ a2 1 60  σ_6 (v_9, σ_10) h_11) cy_X5_in wd_155 ⟨rfl, rfl, Nat.le_of_ble_eq_true rfl, Nat.le_of_ble_eq_true rfl⟩ (Nat.le_of_ble_eq_true rfl) ⟨Nat.zero_le _, Nat.zero_le _⟩ dX5_worstHang_25) hB (fun H locs hB => ?_)
      replace hB : Bd Γ σ_10 s H locs := hB
      refine lv_if_eq (tgt := 43) M.1 M.2.1 dX5_worstHang_28 (by decide) (fun c_12 => ?_) (fun c_12 => ?_)
      · rw [if_pos c_12] at hr
        exact w_X5_worstHang_43 M K a0 a1 a2 a3   _ _ _ _  hB (lv_sub hl [] rfl) hr
      · rw [if_neg c_12] at hr
        refine lv_iload M.1 M.2.1 dX5_worstHang_31 (lv_at hl 4 rfl) ?_
        refine lv_iconst (v := 1) M.1 M.2.1 dX5_worstHang_33 (by decide) ?_
        refine lv_sipush (v := 5000) M.1 M.2.1 dX5_worstHang_34 (by decide) ?_
        obtain ⟨v_13, σ_14, h_15, hr⟩ := cbd hr
        refine x_callI (x_runS M K hB hl.1 [.int a3, .int 1, .int 5000] (rest := []) rfl (c_X5_in l Γ a3 1 5000  σ_10 (v_13, σ_14) h_15) cy_X5_in wd_155 ⟨rfl, rfl, Nat.le_of_ble_eq_true rfl, Nat.le_of_ble_eq_true rfl⟩ (Nat.le_of_ble_eq_true rfl) ⟨Nat.zero_le _, Nat.zero_le _⟩ dX5_worstHang_37) hB (fun H locs hB => ?_)
        replace hB : Bd Γ σ_14 s H locs := hB
        refine lv_if_ne (tgt := 46) M.1 M.2.1 dX5_worstHang_40 (by decide) (fun c_16 => ?_) (fun c_16 => ?_)
        · rw [if_neg c_16] at hr
          refine lv_aload_n M.1 M.2.1 dX5_worstHang_46 rfl (lv_at hl 0 rfl) ?_
          obtain ⟨v_17, σ_18, h_19, hr⟩ := cbd hr
          refine x_callV (x_runV M K hB hl.1 [] (rest := []) rfl (c_X5_putAside l Γ   σ_14 (v_17, σ_18) h_19) cy_X5_putAside (x_recv K hB isK_150.2 (ent_5 isK_150.1) rfl) wd_195 ⟨rfl, rfl, Nat.le_of_ble_eq_true rfl, Nat.le_of_ble_eq_true rfl⟩ (Nat.le_of_ble_eq_true rfl) ⟨Nat.zero_le _, Nat.zero_le _⟩ dX5_worstHang_47) hB (fun H locs hB => ?_)
          replace hB : Bd Γ σ_18 s H locs := hB
          refine x_ldc (v := (-1000000)) M wd_197 dX5_worstHang_50 ?_
          refine lv_istore (lv' := [(5, .int (-1000000)), (0, .ref (Γ.1 150)), (1, .int a0), (2, .int a1), (3, .int a2), (4, .int a3)]) M.1 M.2.1 dX5_worstHang_52 hl (by decide) rfl (fun ls hl => ?_)
          refine lv_iconst (v := 1) M.1 M.2.1 dX5_worstHang_54 (by decide) ?_
          refine lv_istore (lv' := [(6, .int 1), (5, .int (-1000000)), (0, .ref (Γ.1 150)), (1, .int a0), (2, .int a1), (3, .int a2), (4, .int a3)]) M.1 M.2.1 dX5_worstHang_55 hl (by decide) rfl (fun ls hl => ?_)
          refine lv_iload_n M.1 M.2.1 dX5_worstHang_57 rfl (lv_at hl 4 rfl) ?_
          refine lv_istore (lv' := [(7, .int a1), (6, .int 1), (5, .int (-1000000)), (0, .ref (Γ.1 150)), (1, .int a0), (2, .int a1), (3, .int a2), (4, .int a3)]) M.1 M.2.1 dX5_worstHang_58 hl (by decide) rfl (fun ls hl => ?_)
          exact w_X5_worstHang_60 M K a0 a1 a2 a3  FU a0 a1 a2 a3 (-1000000) 1 a1 _ _ _ _  hB (lv_sub hl [3, 4, 5, 6, 7, 2, 1, 0] rfl) hr
        · rw [if_pos c_16] at hr
          exact w_X5_worstHang_43 M K a0 a1 a2 a3   _ _ _ _  hB (lv_sub hl [] rfl) hr
  · rw [if_pos c_4] at hr
    refine lv_iconst (v := (-1)) M.1 M.2.1 dX5_worstHang_8 (by decide) ?_
    exact x_iret M hB (Option.some.inj hr) dX5_worstHang_9
theorem c_X5_worstHang (l : Launch) (Γ : GG) (a0 : Int32) (a1 : Int32) (a2 : Int32) (a3 : Int32)  (σ : Sg) (res : Int32 × Sg) (hr : f_X5_worstHang_0 a0 a1 a2 a3 σ = some res) : Met l yX5_worstHang (Cond.code yX5_worstHang cX5_worstHang 9 (some .int) :: gtb) rm_X5_worstHang (va_Pc [.ref (Γ.1 150), .int a0, .int a1, .int a2, .int a3] (GI Γ σ)) (QI Γ res) 0 0 (AD Γ) :=
  x_metI (by decide) [.ref (Γ.1 150), .int a0, .int a1, .int a2, .int a3] (Nat.le_of_ble_eq_true rfl) (fun p e s m args below meth c M K ls hl hB => w_X5_worstHang_0 M K a0 a1 a2 a3 σ _ _ ls hB hl hr)
abbrev rm_X5_greatestKick : Room := { frames := 8, cells := 0, slots := 0, locals := 173 }
def f_X5_greatestKick_73 (a0 : Int32)  (x2 : Int32) (σ : Sg) : Option (Int32 × Sg) :=
cb (f_X5_putBack_0  σ) fun v_25 σ_26 =>
some (x2, σ_26)
set_option maxHeartbeats 4000000 in
set_option maxRecDepth 100000 in
theorem w_X5_greatestKick_73 {p : Program} {l : Launch} {e : Env} {s : State} {m : MethodId} {args : Array Value} {below : List Frame} {meth : Method} {c : Code} {Γ : GG} {res : Int32 × Sg} (M : MX RX5 cX5_greatestKick 4 (some .int) p s m args meth c) (K : KK Γ s s.heap) (a0 : Int32) (x2 : Int32) (σ : Sg) (H : Heap) (locs : List Loc) (ls : Array Slot)  (hB : Bd Γ σ s H locs) (hl : lv_has ls 4 [(0, .ref (Γ.1 150)), (2, .int x2)]) (hr : f_X5_greatestKick_73 a0  x2 σ = some res) : WI Γ rm_X5_greatestKick p l e s m args below meth c H locs res (F0 m 73 ls []) := by
  unfold f_X5_greatestKick_73 at hr
  refine lv_aload_n M.1 M.2.1 dX5_greatestKick_73 rfl (lv_at hl 0 rfl) ?_
  obtain ⟨v_25, σ_26, h_27, hr⟩ := cbd hr
  refine x_callV (x_runV M K hB hl.1 [] (rest := []) rfl (c_X5_putBack l Γ   σ (v_25, σ_26) h_27) cy_X5_putBack (x_recv K hB isK_150.2 (ent_5 isK_150.1) rfl) wd_196 ⟨rfl, rfl, Nat.le_of_ble_eq_true rfl, Nat.le_of_ble_eq_true rfl⟩ (Nat.le_of_ble_eq_true rfl) ⟨Nat.zero_le _, Nat.zero_le _⟩ dX5_greatestKick_74) hB (fun H locs hB => ?_)
  replace hB : Bd Γ σ_26 s H locs := hB
  refine lv_iload_n M.1 M.2.1 dX5_greatestKick_77 rfl (lv_at hl 1 rfl) ?_
  exact x_iret M hB (Option.some.inj hr) dX5_greatestKick_78
def f_X5_greatestKick_66 (a0 : Int32) (rec_25 : Int32 → Int32 → Int32 → Sg → Option (Int32 × Sg)) (x1 : Int32) (x3 : Int32) (s0 : Int32) (σ : Sg) : Option (Int32 × Sg) :=
rec_25 x1 s0 (x3 + (-1)) σ
set_option maxHeartbeats 4000000 in
set_option maxRecDepth 100000 in
theorem w_X5_greatestKick_66 {p : Program} {l : Launch} {e : Env} {s : State} {m : MethodId} {args : Array Value} {below : List Frame} {meth : Method} {c : Code} {Γ : GG} {res : Int32 × Sg} (M : MX RX5 cX5_greatestKick 4 (some .int) p s m args meth c) (K : KK Γ s s.heap) (a0 : Int32) (rec_25 : Int32 → Int32 → Int32 → Sg → Option (Int32 × Sg)) (ih_25 : ∀ (x1 : Int32) (x2 : Int32) (x3 : Int32) (σ : Sg) (H : Heap) (locs : List Loc) (ls : Array Slot) , Bd Γ σ s H locs → lv_has ls 4 [(0, .ref (Γ.1 150)), (1, .int x1), (2, .int x2), (3, .int x3)] → rec_25 x1 x2 x3 σ = some res → WI Γ rm_X5_greatestKick p l e s m args below meth c H locs res (F0 m 25 ls [])) (x1 : Int32) (x3 : Int32) (s0 : Int32) (σ : Sg) (H : Heap) (locs : List Loc) (ls : Array Slot)  (hB : Bd Γ σ s H locs) (hl : lv_has ls 4 [(0, .ref (Γ.1 150)), (1, .int x1), (3, .int x3)]) (hr : f_X5_greatestKick_66 a0 rec_25 x1 x3 s0 σ = some res) : WI Γ rm_X5_greatestKick p l e s m args below meth c H locs res (F0 m 66 ls [.int s0]) := by
  unfold f_X5_greatestKick_66 at hr
  refine lv_istore_n (lv' := [(2, .int s0), (0, .ref (Γ.1 150)), (1, .int x1), (3, .int x3)]) M.1 M.2.1 dX5_greatestKick_66 rfl hl (by decide) rfl (fun ls hl => ?_)
  refine lv_iinc (v := x3 + (-1)) (lv' := [(3, .int (x3 + (-1))), (2, .int s0), (0, .ref (Γ.1 150)), (1, .int x1)]) M.1 M.2.1 dX5_greatestKick_67 hl (k := 3) rfl rfl (by decide) rfl (fun ls hl => ?_)
  refine lv_goto (tgt := 25) M.1 M.2.1 dX5_greatestKick_70 (by decide) ?_
  exact ih_25 x1 s0 (x3 + (-1)) _ _ _ _  hB (lv_sub hl [2, 3, 1, 0] rfl) hr
def f_X5_greatestKick_25 (a0 : Int32)  : Nat → Int32 → Int32 → Int32 → Sg → Option (Int32 × Sg)
  | 0, _, _, _, _ => none
  | f + 1, x1, x2, x3, σ => if x3 < 0 then
f_X5_greatestKick_73 a0  x2 σ
else
if 0 ≤ x2 then
f_X5_greatestKick_73 a0  x2 σ
else
cb (f_X5_putBack_0  σ) fun v_10 σ_11 =>
cb (f_X5_clearFaults_0  σ_11) fun v_13 σ_14 =>
wb (st σ_14 151 3 x3) fun σ_16 =>
cb (f_X5_switchOn_0  σ_16) fun v_18 σ_19 =>
cb (f_X5_tickOfReset_0 x1 σ_19) fun v_21 σ_22 =>
if 0 ≤ v_21 then
f_X5_greatestKick_66 a0 (f_X5_greatestKick_25 a0  f) x1 x3 (-6) σ_22
else
f_X5_greatestKick_66 a0 (f_X5_greatestKick_25 a0  f) x1 x3 x3 σ_22
set_option maxHeartbeats 4000000 in
set_option maxRecDepth 100000 in
theorem w_X5_greatestKick_25 {p : Program} {l : Launch} {e : Env} {s : State} {m : MethodId} {args : Array Value} {below : List Frame} {meth : Method} {c : Code} {Γ : GG} {res : Int32 × Sg} (M : MX RX5 cX5_greatestKick 4 (some .int) p s m args meth c) (K : KK Γ s s.heap) (a0 : Int32) : ∀ (f : Nat) (x1 : Int32) (x2 : Int32) (x3 : Int32) (σ : Sg) (H : Heap) (locs : List Loc) (ls : Array Slot)  (hB : Bd Γ σ s H locs) (hl : lv_has ls 4 [(0, .ref (Γ.1 150)), (1, .int x1), (2, .int x2), (3, .int x3)]) (hr : f_X5_greatestKick_25 a0  f x1 x2 x3 σ = some res), WI Γ rm_X5_greatestKick p l e s m args below meth c H locs res (F0 m 25 ls []) := by
  intro f
  induction f with
  | zero => intros; rename_i hr; exact absurd hr (by rw [f_X5_greatestKick_25]; exact fun h => by cases h)
  | succ f ih_25 =>
    intro x1 x2 x3 σ H locs ls  hB hl hr
    rw [f_X5_greatestKick_25] at hr
    refine lv_iload_n M.1 M.2.1 dX5_greatestKick_25 rfl (lv_at hl 3 rfl) ?_
    refine lv_if_lt (tgt := 73) M.1 M.2.1 dX5_greatestKick_26 (by decide) (fun c_8 => ?_) (fun c_8 => ?_)
    · rw [if_pos c_8] at hr
      exact w_X5_greatestKick_73 M K a0  x2 _ _ _ _  hB (lv_sub hl [0, 2] rfl) hr
    · rw [if_neg c_8] at hr
      refine lv_iload_n M.1 M.2.1 dX5_greatestKick_29 rfl (lv_at hl 2 rfl) ?_
      refine lv_if_ge (tgt := 73) M.1 M.2.1 dX5_greatestKick_30 (by decide) (fun c_9 => ?_) (fun c_9 => ?_)
      · rw [if_pos c_9] at hr
        exact w_X5_greatestKick_73 M K a0  x2 _ _ _ _  hB (lv_sub hl [0, 2] rfl) hr
      · rw [if_neg c_9] at hr
        refine lv_aload_n M.1 M.2.1 dX5_greatestKick_33 rfl (lv_at hl 0 rfl) ?_
        obtain ⟨v_10, σ_11, h_12, hr⟩ := cbd hr
        refine x_callV (x_runV M K hB hl.1 [] (rest := []) rfl (c_X5_putBack l Γ   σ (v_10, σ_11) h_12) cy_X5_putBack (x_recv K hB isK_150.2 (ent_5 isK_150.1) rfl) wd_196 ⟨rfl, rfl, Nat.le_of_ble_eq_true rfl, Nat.le_of_ble_eq_true rfl⟩ (Nat.le_of_ble_eq_true rfl) ⟨Nat.zero_le _, Nat.zero_le _⟩ dX5_greatestKick_34) hB (fun H locs hB => ?_)
        replace hB : Bd Γ σ_11 s H locs := hB
        refine lv_aload_n M.1 M.2.1 dX5_greatestKick_37 rfl (lv_at hl 0 rfl) ?_
        obtain ⟨v_13, σ_14, h_15, hr⟩ := cbd hr
        refine x_callV (x_runV M K hB hl.1 [] (rest := []) rfl (c_X5_clearFaults l Γ   σ_11 (v_13, σ_14) h_15) cy_X5_clearFaults (x_recv K hB isK_150.2 (ent_5 isK_150.1) rfl) wd_198 ⟨rfl, rfl, Nat.le_of_ble_eq_true rfl, Nat.le_of_ble_eq_true rfl⟩ (Nat.le_of_ble_eq_true rfl) ⟨Nat.zero_le _, Nat.zero_le _⟩ dX5_greatestKick_38) hB (fun H locs hB => ?_)
        replace hB : Bd Γ σ_14 s H locs := hB
        refine lv_aload_n M.1 M.2.1 dX5_greatestKick_41 rfl (lv_at hl 0 rfl) ?_
        refine x_get5 M K hB isK_150 0 (by decide) wd_157 (v := .ref (Γ.1 151)) rfl dX5_greatestKick_42 ?_
        refine lv_iconst (v := 3) M.1 M.2.1 dX5_greatestKick_45 (by decide) ?_
        refine lv_iload_n M.1 M.2.1 dX5_greatestKick_46 rfl (lv_at hl 3 rfl) ?_
        obtain ⟨σ_16, e_17, hr⟩ := wbd hr
        refine x_iastL M K hB isA_151 (k := 3) (by decide) (by decide) dX5_greatestKick_47 (fun H locs hB => ?_)
        rw [← e_17] at hB
        refine lv_aload_n M.1 M.2.1 dX5_greatestKick_48 rfl (lv_at hl 0 rfl) ?_
        obtain ⟨v_18, σ_19, h_20, hr⟩ := cbd hr
        refine x_callV (x_runV M K hB hl.1 [] (rest := []) rfl (c_X5_switchOn l Γ   σ_16 (v_18, σ_19) h_20) cy_X5_switchOn (x_recv K hB isK_150.2 (ent_5 isK_150.1) rfl) wd_191 ⟨rfl, rfl, Nat.le_of_ble_eq_true rfl, Nat.le_of_ble_eq_true rfl⟩ (Nat.le_of_ble_eq_true rfl) ⟨Nat.zero_le _, Nat.zero_le _⟩ dX5_greatestKick_49) hB (fun H locs hB => ?_)
        replace hB : Bd Γ σ_19 s H locs := hB
        refine lv_aload_n M.1 M.2.1 dX5_greatestKick_52 rfl (lv_at hl 0 rfl) ?_
        refine lv_iload_n M.1 M.2.1 dX5_greatestKick_53 rfl (lv_at hl 1 rfl) ?_
        obtain ⟨v_21, σ_22, h_23, hr⟩ := cbd hr
        refine x_callI (x_runV M K hB hl.1 [.int x1] (rest := []) rfl (c_X5_tickOfReset l Γ x1  σ_19 (v_21, σ_22) h_23) cy_X5_tickOfReset (x_recv K hB isK_150.2 (ent_5 isK_150.1) rfl) wd_190 ⟨rfl, rfl, Nat.le_of_ble_eq_true rfl, Nat.le_of_ble_eq_true rfl⟩ (Nat.le_of_ble_eq_true rfl) ⟨Nat.zero_le _, Nat.zero_le _⟩ dX5_greatestKick_54) hB (fun H locs hB => ?_)
        replace hB : Bd Γ σ_22 s H locs := hB
        refine lv_if_ge (tgt := 64) M.1 M.2.1 dX5_greatestKick_57 (by decide) (fun c_24 => ?_) (fun c_24 => ?_)
        · rw [if_pos c_24] at hr
          refine lv_bipush (v := (-6)) M.1 M.2.1 dX5_greatestKick_64 (by decide) ?_
          exact w_X5_greatestKick_66 M K a0 _ ih_25 x1 x3 (-6) _ _ _ _  hB (lv_sub hl [0, 1, 3] rfl) hr
        · rw [if_neg c_24] at hr
          refine lv_iload_n M.1 M.2.1 dX5_greatestKick_60 rfl (lv_at hl 3 rfl) ?_
          refine lv_goto (tgt := 66) M.1 M.2.1 dX5_greatestKick_61 (by decide) ?_
          exact w_X5_greatestKick_66 M K a0 _ ih_25 x1 x3 x3 _ _ _ _  hB (lv_sub hl [0, 1, 3] rfl) hr
def f_X5_greatestKick_0 (a0 : Int32)   (σ : Sg) : Option (Int32 × Sg) :=
cb (f_X5_in_0 a0 1 1000 σ) fun v_1 σ_2 =>
if v_1 = 0 then
some ((-2), σ_2)
else
cb (f_X5_putAside_0  σ_2) fun v_5 σ_6 =>
f_X5_greatestKick_25 a0  FU a0 (-6) 2000 σ_6
set_option maxHeartbeats 4000000 in
set_option maxRecDepth 100000 in
theorem w_X5_greatestKick_0 {p : Program} {l : Launch} {e : Env} {s : State} {m : MethodId} {args : Array Value} {below : List Frame} {meth : Method} {c : Code} {Γ : GG} {res : Int32 × Sg} (M : MX RX5 cX5_greatestKick 4 (some .int) p s m args meth c) (K : KK Γ s s.heap) (a0 : Int32)  (σ : Sg) (H : Heap) (locs : List Loc) (ls : Array Slot)  (hB : Bd Γ σ s H locs) (hl : lv_has ls 4 [(0, .ref (Γ.1 150)), (1, .int a0)]) (hr : f_X5_greatestKick_0 a0   σ = some res) : WI Γ rm_X5_greatestKick p l e s m args below meth c H locs res (F0 m 0 ls []) := by
  unfold f_X5_greatestKick_0 at hr
  refine lv_iload_n M.1 M.2.1 dX5_greatestKick_0 rfl (lv_at hl 1 rfl) ?_
  refine lv_iconst (v := 1) M.1 M.2.1 dX5_greatestKick_1 (by decide) ?_
  refine lv_sipush (v := 1000) M.1 M.2.1 dX5_greatestKick_2 (by decide) ?_
  obtain ⟨v_1, σ_2, h_3, hr⟩ := cbd hr
  refine x_callI (x_runS M K hB hl.1 [.int a0, .int 1, .int 1000] (rest := []) rfl (c_X5_in l Γ a0 1 1000  σ (v_1, σ_2) h_3) cy_X5_in wd_155 ⟨rfl, rfl, Nat.le_of_ble_eq_true rfl, Nat.le_of_ble_eq_true rfl⟩ (Nat.le_of_ble_eq_true rfl) ⟨Nat.zero_le _, Nat.zero_le _⟩ dX5_greatestKick_5) hB (fun H locs hB => ?_)
  replace hB : Bd Γ σ_2 s H locs := hB
  refine lv_if_ne (tgt := 14) M.1 M.2.1 dX5_greatestKick_8 (by decide) (fun c_4 => ?_) (fun c_4 => ?_)
  · rw [if_neg c_4] at hr
    refine lv_aload_n M.1 M.2.1 dX5_greatestKick_14 rfl (lv_at hl 0 rfl) ?_
    obtain ⟨v_5, σ_6, h_7, hr⟩ := cbd hr
    refine x_callV (x_runV M K hB hl.1 [] (rest := []) rfl (c_X5_putAside l Γ   σ_2 (v_5, σ_6) h_7) cy_X5_putAside (x_recv K hB isK_150.2 (ent_5 isK_150.1) rfl) wd_195 ⟨rfl, rfl, Nat.le_of_ble_eq_true rfl, Nat.le_of_ble_eq_true rfl⟩ (Nat.le_of_ble_eq_true rfl) ⟨Nat.zero_le _, Nat.zero_le _⟩ dX5_greatestKick_15) hB (fun H locs hB => ?_)
    replace hB : Bd Γ σ_6 s H locs := hB
    refine lv_bipush (v := (-6)) M.1 M.2.1 dX5_greatestKick_18 (by decide) ?_
    refine lv_istore_n (lv' := [(2, .int (-6)), (0, .ref (Γ.1 150)), (1, .int a0)]) M.1 M.2.1 dX5_greatestKick_20 rfl hl (by decide) rfl (fun ls hl => ?_)
    refine lv_sipush (v := 2000) M.1 M.2.1 dX5_greatestKick_21 (by decide) ?_
    refine lv_istore_n (lv' := [(3, .int 2000), (2, .int (-6)), (0, .ref (Γ.1 150)), (1, .int a0)]) M.1 M.2.1 dX5_greatestKick_24 rfl hl (by decide) rfl (fun ls hl => ?_)
    exact w_X5_greatestKick_25 M K a0  FU a0 (-6) 2000 _ _ _ _  hB (lv_sub hl [2, 3, 1, 0] rfl) hr
  · rw [if_pos c_4] at hr
    refine lv_bipush (v := (-2)) M.1 M.2.1 dX5_greatestKick_11 (by decide) ?_
    exact x_iret M hB (Option.some.inj hr) dX5_greatestKick_13
theorem c_X5_greatestKick (l : Launch) (Γ : GG) (a0 : Int32)  (σ : Sg) (res : Int32 × Sg) (hr : f_X5_greatestKick_0 a0 σ = some res) : Met l yX5_greatestKick (Cond.code yX5_greatestKick cX5_greatestKick 4 (some .int) :: gtb) rm_X5_greatestKick (va_Pc [.ref (Γ.1 150), .int a0] (GI Γ σ)) (QI Γ res) 0 0 (AD Γ) :=
  x_metI (by decide) [.ref (Γ.1 150), .int a0] (Nat.le_of_ble_eq_true rfl) (fun p e s m args below meth c M K ls hl hB => w_X5_greatestKick_0 M K a0 σ _ _ ls hB hl hr)
abbrev rm_X5_save : Room := { frames := 1, cells := 0, slots := 0, locals := 22 }
def f_X5_save_14 (a0 : Int32)  : Nat → Int32 → Int32 → Sg → Option (Int32 × Sg)
  | 0, _, _, _ => none
  | f + 1, x1, x2, σ => if 255 ≤ x2 then
if x1 < 0 ∨ 2 ≤ x1.toNatClampNeg then none else
wb (st σ 154 (x1.toNatClampNeg) (vp_nar .boolean 1)) fun σ_7 =>
some (σ_7 151 8, σ_7)
else
if x2 < 0 ∨ 255 ≤ x2.toNatClampNeg then none else
if (255 * x1) + x2 < 0 ∨ 510 ≤ ((255 * x1) + x2).toNatClampNeg then none else
wb (st σ 153 (((255 * x1) + x2).toNatClampNeg) (σ 151 (x2.toNatClampNeg))) fun σ_11 =>
f_X5_save_14 a0  f x1 (x2 + 1) σ_11
set_option maxHeartbeats 4000000 in
set_option maxRecDepth 100000 in
theorem w_X5_save_14 {p : Program} {l : Launch} {e : Env} {s : State} {m : MethodId} {args : Array Value} {below : List Frame} {meth : Method} {c : Code} {Γ : GG} {res : Int32 × Sg} (M : MX RX5 cX5_save 3 (some .int) p s m args meth c) (K : KK Γ s s.heap) (a0 : Int32) : ∀ (f : Nat) (x1 : Int32) (x2 : Int32) (σ : Sg) (H : Heap) (locs : List Loc) (ls : Array Slot)  (hB : Bd Γ σ s H locs) (hl : lv_has ls 3 [(0, .ref (Γ.1 150)), (1, .int x1), (2, .int x2)]) (hr : f_X5_save_14 a0  f x1 x2 σ = some res), WI Γ rm_X5_save p l e s m args below meth c H locs res (F0 m 14 ls []) := by
  intro f
  induction f with
  | zero => intros; rename_i hr; exact absurd hr (by rw [f_X5_save_14]; exact fun h => by cases h)
  | succ f ih_14 =>
    intro x1 x2 σ H locs ls  hB hl hr
    rw [f_X5_save_14] at hr
    refine lv_iload_n M.1 M.2.1 dX5_save_14 rfl (lv_at hl 2 rfl) ?_
    refine lv_sipush (v := 255) M.1 M.2.1 dX5_save_15 (by decide) ?_
    refine lv_icmp_ge (tgt := 45) M.1 M.2.1 dX5_save_18 (by decide) (fun c_5 => ?_) (fun c_5 => ?_)
    · rw [if_pos c_5] at hr
      refine lv_aload_n M.1 M.2.1 dX5_save_45 rfl (lv_at hl 0 rfl) ?_
      refine x_get5 M K hB isK_150 3 (by decide) wd_199 (v := .ref (Γ.1 154)) rfl dX5_save_46 ?_
      refine lv_iload_n M.1 M.2.1 dX5_save_49 rfl (lv_at hl 1 rfl) ?_
      refine lv_iconst (v := 1) M.1 M.2.1 dX5_save_50 (by decide) ?_
      obtain ⟨g_6, hr⟩ := gd hr
      obtain ⟨σ_7, e_8, hr⟩ := wbd hr
      refine x_zast M K hB isK_154 g_6 dX5_save_51 (fun H locs hB => ?_)
      rw [← e_8] at hB
      refine lv_aload_n M.1 M.2.1 dX5_save_52 rfl (lv_at hl 0 rfl) ?_
      refine x_get5 M K hB isK_150 0 (by decide) wd_157 (v := .ref (Γ.1 151)) rfl dX5_save_53 ?_
      refine lv_bipush (v := 8) M.1 M.2.1 dX5_save_56 (by decide) ?_
      refine x_ialdL M K hB isA_151 (k := 8) (by decide) (by decide) dX5_save_58 ?_
      exact x_iret M hB (Option.some.inj hr) dX5_save_59
    · rw [if_neg c_5] at hr
      refine lv_aload_n M.1 M.2.1 dX5_save_21 rfl (lv_at hl 0 rfl) ?_
      refine x_get5 M K hB isK_150 2 (by decide) wd_200 (v := .ref (Γ.1 153)) rfl dX5_save_22 ?_
      refine lv_sipush (v := 255) M.1 M.2.1 dX5_save_25 (by decide) ?_
      refine lv_iload_n M.1 M.2.1 dX5_save_28 rfl (lv_at hl 1 rfl) ?_
      refine lv_imul M.1 M.2.1 dX5_save_29 ?_
      refine lv_iload_n M.1 M.2.1 dX5_save_30 rfl (lv_at hl 2 rfl) ?_
      refine lv_iadd M.1 M.2.1 dX5_save_31 ?_
      refine lv_aload_n M.1 M.2.1 dX5_save_32 rfl (lv_at hl 0 rfl) ?_
      refine x_get5 M K hB isK_150 0 (by decide) wd_157 (v := .ref (Γ.1 151)) rfl dX5_save_33 ?_
      refine lv_iload_n M.1 M.2.1 dX5_save_36 rfl (lv_at hl 2 rfl) ?_
      obtain ⟨g_9, hr⟩ := gd hr
      refine x_iald M K hB isA_151 g_9 dX5_save_37 ?_
      obtain ⟨g_10, hr⟩ := gd hr
      obtain ⟨σ_11, e_12, hr⟩ := wbd hr
      refine x_iast M K hB isA_153 g_10 dX5_save_38 (fun H locs hB => ?_)
      rw [← e_12] at hB
      refine lv_iinc (v := x2 + 1) (lv' := [(2, .int (x2 + 1)), (0, .ref (Γ.1 150)), (1, .int x1)]) M.1 M.2.1 dX5_save_39 hl (k := 2) rfl rfl (by decide) rfl (fun ls hl => ?_)
      refine lv_goto (tgt := 14) M.1 M.2.1 dX5_save_42 (by decide) ?_
      exact ih_14 x1 (x2 + 1) _ _ _ _  hB (lv_sub hl [1, 2, 0] rfl) hr
def f_X5_save_0 (a0 : Int32)   (σ : Sg) : Option (Int32 × Sg) :=
cb (f_X5_in_0 a0 0 1 σ) fun v_1 σ_2 =>
if v_1 = 0 then
some ((-2), σ_2)
else
f_X5_save_14 a0  FU a0 0 σ_2
set_option maxHeartbeats 4000000 in
set_option maxRecDepth 100000 in
theorem w_X5_save_0 {p : Program} {l : Launch} {e : Env} {s : State} {m : MethodId} {args : Array Value} {below : List Frame} {meth : Method} {c : Code} {Γ : GG} {res : Int32 × Sg} (M : MX RX5 cX5_save 3 (some .int) p s m args meth c) (K : KK Γ s s.heap) (a0 : Int32)  (σ : Sg) (H : Heap) (locs : List Loc) (ls : Array Slot)  (hB : Bd Γ σ s H locs) (hl : lv_has ls 3 [(0, .ref (Γ.1 150)), (1, .int a0)]) (hr : f_X5_save_0 a0   σ = some res) : WI Γ rm_X5_save p l e s m args below meth c H locs res (F0 m 0 ls []) := by
  unfold f_X5_save_0 at hr
  refine lv_iload_n M.1 M.2.1 dX5_save_0 rfl (lv_at hl 1 rfl) ?_
  refine lv_iconst (v := 0) M.1 M.2.1 dX5_save_1 (by decide) ?_
  refine lv_iconst (v := 1) M.1 M.2.1 dX5_save_2 (by decide) ?_
  obtain ⟨v_1, σ_2, h_3, hr⟩ := cbd hr
  refine x_callI (x_runS M K hB hl.1 [.int a0, .int 0, .int 1] (rest := []) rfl (c_X5_in l Γ a0 0 1  σ (v_1, σ_2) h_3) cy_X5_in wd_155 ⟨rfl, rfl, Nat.le_of_ble_eq_true rfl, Nat.le_of_ble_eq_true rfl⟩ (Nat.le_of_ble_eq_true rfl) ⟨Nat.zero_le _, Nat.zero_le _⟩ dX5_save_3) hB (fun H locs hB => ?_)
  replace hB : Bd Γ σ_2 s H locs := hB
  refine lv_if_ne (tgt := 12) M.1 M.2.1 dX5_save_6 (by decide) (fun c_4 => ?_) (fun c_4 => ?_)
  · rw [if_neg c_4] at hr
    refine lv_iconst (v := 0) M.1 M.2.1 dX5_save_12 (by decide) ?_
    refine lv_istore_n (lv' := [(2, .int 0), (0, .ref (Γ.1 150)), (1, .int a0)]) M.1 M.2.1 dX5_save_13 rfl hl (by decide) rfl (fun ls hl => ?_)
    exact w_X5_save_14 M K a0  FU a0 0 _ _ _ _  hB (lv_sub hl [1, 2, 0] rfl) hr
  · rw [if_pos c_4] at hr
    refine lv_bipush (v := (-2)) M.1 M.2.1 dX5_save_9 (by decide) ?_
    exact x_iret M hB (Option.some.inj hr) dX5_save_11
theorem c_X5_save (l : Launch) (Γ : GG) (a0 : Int32)  (σ : Sg) (res : Int32 × Sg) (hr : f_X5_save_0 a0 σ = some res) : Met l yX5_save (Cond.code yX5_save cX5_save 3 (some .int) :: gtb) rm_X5_save (va_Pc [.ref (Γ.1 150), .int a0] (GI Γ σ)) (QI Γ res) 0 0 (AD Γ) :=
  x_metI (by decide) [.ref (Γ.1 150), .int a0] (Nat.le_of_ble_eq_true rfl) (fun p e s m args below meth c M K ls hl hB => w_X5_save_0 M K a0 σ _ _ ls hB hl hr)
abbrev rm_X5_restore : Room := { frames := 1, cells := 0, slots := 0, locals := 22 }
def f_X5_restore_26 (a0 : Int32)  : Nat → Int32 → Int32 → Sg → Option (Int32 × Sg)
  | 0, _, _, _ => none
  | f + 1, x1, x2, σ => if 255 ≤ x2 then
some (σ 151 8, σ)
else
if (255 * x1) + x2 < 0 ∨ 510 ≤ ((255 * x1) + x2).toNatClampNeg then none else
if x2 < 0 ∨ 255 ≤ x2.toNatClampNeg then none else
wb (st σ 151 (x2.toNatClampNeg) (σ 153 (((255 * x1) + x2).toNatClampNeg))) fun σ_10 =>
f_X5_restore_26 a0  f x1 (x2 + 1) σ_10
set_option maxHeartbeats 4000000 in
set_option maxRecDepth 100000 in
theorem w_X5_restore_26 {p : Program} {l : Launch} {e : Env} {s : State} {m : MethodId} {args : Array Value} {below : List Frame} {meth : Method} {c : Code} {Γ : GG} {res : Int32 × Sg} (M : MX RX5 cX5_restore 3 (some .int) p s m args meth c) (K : KK Γ s s.heap) (a0 : Int32) : ∀ (f : Nat) (x1 : Int32) (x2 : Int32) (σ : Sg) (H : Heap) (locs : List Loc) (ls : Array Slot)  (hB : Bd Γ σ s H locs) (hl : lv_has ls 3 [(0, .ref (Γ.1 150)), (1, .int x1), (2, .int x2)]) (hr : f_X5_restore_26 a0  f x1 x2 σ = some res), WI Γ rm_X5_restore p l e s m args below meth c H locs res (F0 m 26 ls []) := by
  intro f
  induction f with
  | zero => intros; rename_i hr; exact absurd hr (by rw [f_X5_restore_26]; exact fun h => by cases h)
  | succ f ih_26 =>
    intro x1 x2 σ H locs ls  hB hl hr
    rw [f_X5_restore_26] at hr
    refine lv_iload_n M.1 M.2.1 dX5_restore_26 rfl (lv_at hl 2 rfl) ?_
    refine lv_sipush (v := 255) M.1 M.2.1 dX5_restore_27 (by decide) ?_
    refine lv_icmp_ge (tgt := 57) M.1 M.2.1 dX5_restore_30 (by decide) (fun c_7 => ?_) (fun c_7 => ?_)
    · rw [if_pos c_7] at hr
      refine lv_aload_n M.1 M.2.1 dX5_restore_57 rfl (lv_at hl 0 rfl) ?_
      refine x_get5 M K hB isK_150 0 (by decide) wd_157 (v := .ref (Γ.1 151)) rfl dX5_restore_58 ?_
      refine lv_bipush (v := 8) M.1 M.2.1 dX5_restore_61 (by decide) ?_
      refine x_ialdL M K hB isA_151 (k := 8) (by decide) (by decide) dX5_restore_63 ?_
      exact x_iret M hB (Option.some.inj hr) dX5_restore_64
    · rw [if_neg c_7] at hr
      refine lv_aload_n M.1 M.2.1 dX5_restore_33 rfl (lv_at hl 0 rfl) ?_
      refine x_get5 M K hB isK_150 0 (by decide) wd_157 (v := .ref (Γ.1 151)) rfl dX5_restore_34 ?_
      refine lv_iload_n M.1 M.2.1 dX5_restore_37 rfl (lv_at hl 2 rfl) ?_
      refine lv_aload_n M.1 M.2.1 dX5_restore_38 rfl (lv_at hl 0 rfl) ?_
      refine x_get5 M K hB isK_150 2 (by decide) wd_200 (v := .ref (Γ.1 153)) rfl dX5_restore_39 ?_
      refine lv_sipush (v := 255) M.1 M.2.1 dX5_restore_42 (by decide) ?_
      refine lv_iload_n M.1 M.2.1 dX5_restore_45 rfl (lv_at hl 1 rfl) ?_
      refine lv_imul M.1 M.2.1 dX5_restore_46 ?_
      refine lv_iload_n M.1 M.2.1 dX5_restore_47 rfl (lv_at hl 2 rfl) ?_
      refine lv_iadd M.1 M.2.1 dX5_restore_48 ?_
      obtain ⟨g_8, hr⟩ := gd hr
      refine x_iald M K hB isA_153 g_8 dX5_restore_49 ?_
      obtain ⟨g_9, hr⟩ := gd hr
      obtain ⟨σ_10, e_11, hr⟩ := wbd hr
      refine x_iast M K hB isA_151 g_9 dX5_restore_50 (fun H locs hB => ?_)
      rw [← e_11] at hB
      refine lv_iinc (v := x2 + 1) (lv' := [(2, .int (x2 + 1)), (0, .ref (Γ.1 150)), (1, .int x1)]) M.1 M.2.1 dX5_restore_51 hl (k := 2) rfl rfl (by decide) rfl (fun ls hl => ?_)
      refine lv_goto (tgt := 26) M.1 M.2.1 dX5_restore_54 (by decide) ?_
      exact ih_26 x1 (x2 + 1) _ _ _ _  hB (lv_sub hl [1, 2, 0] rfl) hr
def f_X5_restore_0 (a0 : Int32)   (σ : Sg) : Option (Int32 × Sg) :=
cb (f_X5_in_0 a0 0 1 σ) fun v_1 σ_2 =>
if v_1 = 0 then
some ((-2), σ_2)
else
if a0 < 0 ∨ 2 ≤ a0.toNatClampNeg then none else
if σ_2 154 (a0.toNatClampNeg) = 0 then
some ((-5), σ_2)
else
f_X5_restore_26 a0  FU a0 0 σ_2
set_option maxHeartbeats 4000000 in
set_option maxRecDepth 100000 in
theorem w_X5_restore_0 {p : Program} {l : Launch} {e : Env} {s : State} {m : MethodId} {args : Array Value} {below : List Frame} {meth : Method} {c : Code} {Γ : GG} {res : Int32 × Sg} (M : MX RX5 cX5_restore 3 (some .int) p s m args meth c) (K : KK Γ s s.heap) (a0 : Int32)  (σ : Sg) (H : Heap) (locs : List Loc) (ls : Array Slot)  (hB : Bd Γ σ s H locs) (hl : lv_has ls 3 [(0, .ref (Γ.1 150)), (1, .int a0)]) (hr : f_X5_restore_0 a0   σ = some res) : WI Γ rm_X5_restore p l e s m args below meth c H locs res (F0 m 0 ls []) := by
  unfold f_X5_restore_0 at hr
  refine lv_iload_n M.1 M.2.1 dX5_restore_0 rfl (lv_at hl 1 rfl) ?_
  refine lv_iconst (v := 0) M.1 M.2.1 dX5_restore_1 (by decide) ?_
  refine lv_iconst (v := 1) M.1 M.2.1 dX5_restore_2 (by decide) ?_
  obtain ⟨v_1, σ_2, h_3, hr⟩ := cbd hr
  refine x_callI (x_runS M K hB hl.1 [.int a0, .int 0, .int 1] (rest := []) rfl (c_X5_in l Γ a0 0 1  σ (v_1, σ_2) h_3) cy_X5_in wd_155 ⟨rfl, rfl, Nat.le_of_ble_eq_true rfl, Nat.le_of_ble_eq_true rfl⟩ (Nat.le_of_ble_eq_true rfl) ⟨Nat.zero_le _, Nat.zero_le _⟩ dX5_restore_3) hB (fun H locs hB => ?_)
  replace hB : Bd Γ σ_2 s H locs := hB
  refine lv_if_ne (tgt := 12) M.1 M.2.1 dX5_restore_6 (by decide) (fun c_4 => ?_) (fun c_4 => ?_)
  · rw [if_neg c_4] at hr
    refine lv_aload_n M.1 M.2.1 dX5_restore_12 rfl (lv_at hl 0 rfl) ?_
    refine x_get5 M K hB isK_150 3 (by decide) wd_199 (v := .ref (Γ.1 154)) rfl dX5_restore_13 ?_
    refine lv_iload_n M.1 M.2.1 dX5_restore_16 rfl (lv_at hl 1 rfl) ?_
    obtain ⟨g_5, hr⟩ := gd hr
    refine x_zald M K hB isK_154 g_5 dX5_restore_17 ?_
    refine lv_if_ne (tgt := 24) M.1 M.2.1 dX5_restore_18 (by decide) (fun c_6 => ?_) (fun c_6 => ?_)
    · rw [if_neg c_6] at hr
      refine lv_iconst (v := 0) M.1 M.2.1 dX5_restore_24 (by decide) ?_
      refine lv_istore_n (lv' := [(2, .int 0), (0, .ref (Γ.1 150)), (1, .int a0)]) M.1 M.2.1 dX5_restore_25 rfl hl (by decide) rfl (fun ls hl => ?_)
      exact w_X5_restore_26 M K a0  FU a0 0 _ _ _ _  hB (lv_sub hl [1, 2, 0] rfl) hr
    · rw [if_pos c_6] at hr
      refine lv_bipush (v := (-5)) M.1 M.2.1 dX5_restore_21 (by decide) ?_
      exact x_iret M hB (Option.some.inj hr) dX5_restore_23
  · rw [if_pos c_4] at hr
    refine lv_bipush (v := (-2)) M.1 M.2.1 dX5_restore_9 (by decide) ?_
    exact x_iret M hB (Option.some.inj hr) dX5_restore_11
theorem c_X5_restore (l : Launch) (Γ : GG) (a0 : Int32)  (σ : Sg) (res : Int32 × Sg) (hr : f_X5_restore_0 a0 σ = some res) : Met l yX5_restore (Cond.code yX5_restore cX5_restore 3 (some .int) :: gtb) rm_X5_restore (va_Pc [.ref (Γ.1 150), .int a0] (GI Γ σ)) (QI Γ res) 0 0 (AD Γ) :=
  x_metI (by decide) [.ref (Γ.1 150), .int a0] (Nat.le_of_ble_eq_true rfl) (fun p e s m args below meth c M K ls hl hB => w_X5_restore_0 M K a0 σ _ _ ls hB hl hr)
