abbrev rm_X5_judge : Room := { frames := 2, cells := 0, slots := 0, locals := 44 }
def f_X5_judge_183 (a0 : Int32)  (x1 : Int32) (σ : Sg) : Option (Int32 × Sg) :=
cb (f_X5_lay_0 x1 12 0 σ) fun v_59 σ_60 =>
cb (f_X5_lay_0 x1 14 0 σ_60) fun v_62 σ_63 =>
some (0, σ_63)
set_option maxHeartbeats 4000000 in
set_option maxRecDepth 100000 in
theorem w_X5_judge_183 {p : Program} {l : Launch} {e : Env} {s : State} {m : MethodId} {args : Array Value} {below : List Frame} {meth : Method} {c : Code} {Γ : GG} {res : Int32 × Sg} (M : MX RX5 cX5_judge 4 none p s m args meth c) (K : KK Γ s s.heap) (a0 : Int32) (x1 : Int32) (σ : Sg) (H : Heap) (locs : List Loc) (ls : Array Slot)  (hB : Bd Γ σ s H locs) (hl : lv_has ls 4 [(0, .ref (Γ.1 150)), (1, .int x1)]) (hr : f_X5_judge_183 a0  x1 σ = some res) : WV Γ rm_X5_judge p l e s m args below meth c H locs res (F0 m 183 ls []) := by
  unfold f_X5_judge_183 at hr
  refine lv_aload_n M.1 M.2.1 dX5_judge_183 rfl (lv_at hl 0 rfl) ?_
  refine lv_iload_n M.1 M.2.1 dX5_judge_184 rfl (lv_at hl 1 rfl) ?_
  refine lv_bipush (v := 12) M.1 M.2.1 dX5_judge_185 (by decide) ?_
  refine lv_iconst (v := 0) M.1 M.2.1 dX5_judge_187 (by decide) ?_
  obtain ⟨v_59, σ_60, h_61, hr⟩ := cbd hr
  refine x_callV (x_runV M K hB hl.1 [.int x1, .int 12, .int 0] (rest := []) rfl (c_X5_lay l Γ x1 12 0  σ (v_59, σ_60) h_61) cy_X5_lay (x_recv K hB isK_150.2 (ent_5 isK_150.1) rfl) wd_159 ⟨rfl, rfl, Nat.le_of_ble_eq_true rfl, Nat.le_of_ble_eq_true rfl⟩ (Nat.le_of_ble_eq_true rfl) ⟨Nat.zero_le _, Nat.zero_le _⟩ dX5_judge_188) hB (fun H locs hB => ?_)
  replace hB : Bd Γ σ_60 s H locs := hB
  refine lv_aload_n M.1 M.2.1 dX5_judge_191 rfl (lv_at hl 0 rfl) ?_
  refine lv_iload_n M.1 M.2.1 dX5_judge_192 rfl (lv_at hl 1 rfl) ?_
  refine lv_bipush (v := 14) M.1 M.2.1 dX5_judge_193 (by decide) ?_
  refine lv_iconst (v := 0) M.1 M.2.1 dX5_judge_195 (by decide) ?_
  obtain ⟨v_62, σ_63, h_64, hr⟩ := cbd hr
  refine x_callV (x_runV M K hB hl.1 [.int x1, .int 14, .int 0] (rest := []) rfl (c_X5_lay l Γ x1 14 0  σ_60 (v_62, σ_63) h_64) cy_X5_lay (x_recv K hB isK_150.2 (ent_5 isK_150.1) rfl) wd_159 ⟨rfl, rfl, Nat.le_of_ble_eq_true rfl, Nat.le_of_ble_eq_true rfl⟩ (Nat.le_of_ble_eq_true rfl) ⟨Nat.zero_le _, Nat.zero_le _⟩ dX5_judge_196) hB (fun H locs hB => ?_)
  replace hB : Bd Γ σ_63 s H locs := hB
  exact x_vret M hB (Option.some.inj hr) dX5_judge_199
def f_X5_judge_132 (a0 : Int32)  (x1 : Int32) (s0 : Int32) (s1 : Int32) (s2 : Int32) (σ : Sg) : Option (Int32 × Sg) :=
cb (f_X5_lay_0 s2 s1 s0 σ) fun v_40 σ_41 =>
cb (f_X5_of_0 x1 16 σ_41) fun v_43 σ_44 =>
cb (f_X5_lay_0 x1 16 (v_43 + 1) σ_44) fun v_46 σ_47 =>
cb (f_X5_of_0 x1 17 σ_47) fun v_49 σ_50 =>
if v_49 = 0 then
cb (f_X5_lay_0 x1 17 1 σ_50) fun v_53 σ_54 =>
cb (f_X5_lay_0 x1 18 (σ_54 151 8) σ_54) fun v_56 σ_57 =>
f_X5_judge_183 a0  x1 σ_57
else
f_X5_judge_183 a0  x1 σ_50
set_option maxHeartbeats 4000000 in
set_option maxRecDepth 100000 in
theorem w_X5_judge_132 {p : Program} {l : Launch} {e : Env} {s : State} {m : MethodId} {args : Array Value} {below : List Frame} {meth : Method} {c : Code} {Γ : GG} {res : Int32 × Sg} (M : MX RX5 cX5_judge 4 none p s m args meth c) (K : KK Γ s s.heap) (a0 : Int32) (x1 : Int32) (s0 : Int32) (s1 : Int32) (s2 : Int32) (σ : Sg) (H : Heap) (locs : List Loc) (ls : Array Slot)  (hB : Bd Γ σ s H locs) (hl : lv_has ls 4 [(0, .ref (Γ.1 150)), (1, .int x1)]) (hr : f_X5_judge_132 a0  x1 s0 s1 s2 σ = some res) : WV Γ rm_X5_judge p l e s m args below meth c H locs res (F0 m 132 ls [.int s0, .int s1, .int s2, .ref (Γ.1 150)]) := by
  unfold f_X5_judge_132 at hr
  obtain ⟨v_40, σ_41, h_42, hr⟩ := cbd hr
  refine x_callV (x_runV M K hB hl.1 [.int s2, .int s1, .int s0] (rest := []) rfl (c_X5_lay l Γ s2 s1 s0  σ (v_40, σ_41) h_42) cy_X5_lay (x_recv K hB isK_150.2 (ent_5 isK_150.1) rfl) wd_159 ⟨rfl, rfl, Nat.le_of_ble_eq_true rfl, Nat.le_of_ble_eq_true rfl⟩ (Nat.le_of_ble_eq_true rfl) ⟨Nat.zero_le _, Nat.zero_le _⟩ dX5_judge_132) hB (fun H locs hB => ?_)
  replace hB : Bd Γ σ_41 s H locs := hB
  refine lv_aload_n M.1 M.2.1 dX5_judge_135 rfl (lv_at hl 0 rfl) ?_
  refine lv_iload_n M.1 M.2.1 dX5_judge_136 rfl (lv_at hl 1 rfl) ?_
  refine lv_bipush (v := 16) M.1 M.2.1 dX5_judge_137 (by decide) ?_
  refine lv_aload_n M.1 M.2.1 dX5_judge_139 rfl (lv_at hl 0 rfl) ?_
  refine lv_iload_n M.1 M.2.1 dX5_judge_140 rfl (lv_at hl 1 rfl) ?_
  refine lv_bipush (v := 16) M.1 M.2.1 dX5_judge_141 (by decide) ?_
  obtain ⟨v_43, σ_44, h_45, hr⟩ := cbd hr
  refine x_callI (x_runV M K hB hl.1 [.int x1, .int 16] (rest := [.int 16, .int x1, .ref (Γ.1 150)]) rfl (c_X5_of l Γ x1 16  σ_41 (v_43, σ_44) h_45) cy_X5_of (x_recv K hB isK_150.2 (ent_5 isK_150.1) rfl) wd_162 ⟨rfl, rfl, Nat.le_of_ble_eq_true rfl, Nat.le_of_ble_eq_true rfl⟩ (Nat.le_of_ble_eq_true rfl) ⟨Nat.zero_le _, Nat.zero_le _⟩ dX5_judge_143) hB (fun H locs hB => ?_)
  replace hB : Bd Γ σ_44 s H locs := hB
  refine lv_iconst (v := 1) M.1 M.2.1 dX5_judge_146 (by decide) ?_
  refine lv_iadd M.1 M.2.1 dX5_judge_147 ?_
  obtain ⟨v_46, σ_47, h_48, hr⟩ := cbd hr
  refine x_callV (x_runV M K hB hl.1 [.int x1, .int 16, .int (v_43 + 1)] (rest := []) rfl (c_X5_lay l Γ x1 16 (v_43 + 1)  σ_44 (v_46, σ_47) h_48) cy_X5_lay (x_recv K hB isK_150.2 (ent_5 isK_150.1) rfl) wd_159 ⟨rfl, rfl, Nat.le_of_ble_eq_true rfl, Nat.le_of_ble_eq_true rfl⟩ (Nat.le_of_ble_eq_true rfl) ⟨Nat.zero_le _, Nat.zero_le _⟩ dX5_judge_148) hB (fun H locs hB => ?_)
  replace hB : Bd Γ σ_47 s H locs := hB
  refine lv_aload_n M.1 M.2.1 dX5_judge_151 rfl (lv_at hl 0 rfl) ?_
  refine lv_iload_n M.1 M.2.1 dX5_judge_152 rfl (lv_at hl 1 rfl) ?_
  refine lv_bipush (v := 17) M.1 M.2.1 dX5_judge_153 (by decide) ?_
  obtain ⟨v_49, σ_50, h_51, hr⟩ := cbd hr
  refine x_callI (x_runV M K hB hl.1 [.int x1, .int 17] (rest := []) rfl (c_X5_of l Γ x1 17  σ_47 (v_49, σ_50) h_51) cy_X5_of (x_recv K hB isK_150.2 (ent_5 isK_150.1) rfl) wd_162 ⟨rfl, rfl, Nat.le_of_ble_eq_true rfl, Nat.le_of_ble_eq_true rfl⟩ (Nat.le_of_ble_eq_true rfl) ⟨Nat.zero_le _, Nat.zero_le _⟩ dX5_judge_155) hB (fun H locs hB => ?_)
  replace hB : Bd Γ σ_50 s H locs := hB
  refine lv_if_ne (tgt := 183) M.1 M.2.1 dX5_judge_158 (by decide) (fun c_52 => ?_) (fun c_52 => ?_)
  · rw [if_neg c_52] at hr
    exact w_X5_judge_183 M K a0  x1 _ _ _ _  hB (lv_sub hl [0, 1] rfl) hr
  · rw [if_pos c_52] at hr
    refine lv_aload_n M.1 M.2.1 dX5_judge_161 rfl (lv_at hl 0 rfl) ?_
    refine lv_iload_n M.1 M.2.1 dX5_judge_162 rfl (lv_at hl 1 rfl) ?_
    refine lv_bipush (v := 17) M.1 M.2.1 dX5_judge_163 (by decide) ?_
    refine lv_iconst (v := 1) M.1 M.2.1 dX5_judge_165 (by decide) ?_
    obtain ⟨v_53, σ_54, h_55, hr⟩ := cbd hr
    refine x_callV (x_runV M K hB hl.1 [.int x1, .int 17, .int 1] (rest := []) rfl (c_X5_lay l Γ x1 17 1  σ_50 (v_53, σ_54) h_55) cy_X5_lay (x_recv K hB isK_150.2 (ent_5 isK_150.1) rfl) wd_159 ⟨rfl, rfl, Nat.le_of_ble_eq_true rfl, Nat.le_of_ble_eq_true rfl⟩ (Nat.le_of_ble_eq_true rfl) ⟨Nat.zero_le _, Nat.zero_le _⟩ dX5_judge_166) hB (fun H locs hB => ?_)
    replace hB : Bd Γ σ_54 s H locs := hB
    refine lv_aload_n M.1 M.2.1 dX5_judge_169 rfl (lv_at hl 0 rfl) ?_
    refine lv_iload_n M.1 M.2.1 dX5_judge_170 rfl (lv_at hl 1 rfl) ?_
    refine lv_bipush (v := 18) M.1 M.2.1 dX5_judge_171 (by decide) ?_
    refine lv_aload_n M.1 M.2.1 dX5_judge_173 rfl (lv_at hl 0 rfl) ?_
    refine x_get5 M K hB isK_150 0 (by decide) wd_157 (v := .ref (Γ.1 151)) rfl dX5_judge_174 ?_
    refine lv_bipush (v := 8) M.1 M.2.1 dX5_judge_177 (by decide) ?_
    refine x_ialdL M K hB isA_151 (k := 8) (by decide) (by decide) dX5_judge_179 ?_
    obtain ⟨v_56, σ_57, h_58, hr⟩ := cbd hr
    refine x_callV (x_runV M K hB hl.1 [.int x1, .int 18, .int (σ_54 151 8)] (rest := []) rfl (c_X5_lay l Γ x1 18 (σ_54 151 8)  σ_54 (v_56, σ_57) h_58) cy_X5_lay (x_recv K hB isK_150.2 (ent_5 isK_150.1) rfl) wd_159 ⟨rfl, rfl, Nat.le_of_ble_eq_true rfl, Nat.le_of_ble_eq_true rfl⟩ (Nat.le_of_ble_eq_true rfl) ⟨Nat.zero_le _, Nat.zero_le _⟩ dX5_judge_180) hB (fun H locs hB => ?_)
    replace hB : Bd Γ σ_57 s H locs := hB
    exact w_X5_judge_183 M K a0  x1 _ _ _ _  hB (lv_sub hl [0, 1] rfl) hr
def f_X5_judge_103 (a0 : Int32)  (x1 : Int32) (x2 : Int32) (x3 : Int32) (s0 : Int32) (s1 : Int32) (s2 : Int32) (σ : Sg) : Option (Int32 × Sg) :=
cb (f_X5_lay_0 s2 s1 s0 σ) fun v_32 σ_33 =>
if x2 = 0 then
cb (f_X5_of_0 x1 6 σ_33) fun v_36 σ_37 =>
if x3 + 1 ≤ v_36 then
f_X5_judge_132 a0  x1 0 15 x1 σ_37
else
f_X5_judge_132 a0  x1 1 15 x1 σ_37
else
f_X5_judge_183 a0  x1 σ_33
set_option maxHeartbeats 4000000 in
set_option maxRecDepth 100000 in
theorem w_X5_judge_103 {p : Program} {l : Launch} {e : Env} {s : State} {m : MethodId} {args : Array Value} {below : List Frame} {meth : Method} {c : Code} {Γ : GG} {res : Int32 × Sg} (M : MX RX5 cX5_judge 4 none p s m args meth c) (K : KK Γ s s.heap) (a0 : Int32) (x1 : Int32) (x2 : Int32) (x3 : Int32) (s0 : Int32) (s1 : Int32) (s2 : Int32) (σ : Sg) (H : Heap) (locs : List Loc) (ls : Array Slot)  (hB : Bd Γ σ s H locs) (hl : lv_has ls 4 [(0, .ref (Γ.1 150)), (1, .int x1), (2, .int x2), (3, .int x3)]) (hr : f_X5_judge_103 a0  x1 x2 x3 s0 s1 s2 σ = some res) : WV Γ rm_X5_judge p l e s m args below meth c H locs res (F0 m 103 ls [.int s0, .int s1, .int s2, .ref (Γ.1 150)]) := by
  unfold f_X5_judge_103 at hr
  obtain ⟨v_32, σ_33, h_34, hr⟩ := cbd hr
  refine x_callV (x_runV M K hB hl.1 [.int s2, .int s1, .int s0] (rest := []) rfl (c_X5_lay l Γ s2 s1 s0  σ (v_32, σ_33) h_34) cy_X5_lay (x_recv K hB isK_150.2 (ent_5 isK_150.1) rfl) wd_159 ⟨rfl, rfl, Nat.le_of_ble_eq_true rfl, Nat.le_of_ble_eq_true rfl⟩ (Nat.le_of_ble_eq_true rfl) ⟨Nat.zero_le _, Nat.zero_le _⟩ dX5_judge_103) hB (fun H locs hB => ?_)
  replace hB : Bd Γ σ_33 s H locs := hB
  refine lv_iload_n M.1 M.2.1 dX5_judge_106 rfl (lv_at hl 2 rfl) ?_
  refine lv_if_ne (tgt := 183) M.1 M.2.1 dX5_judge_107 (by decide) (fun c_35 => ?_) (fun c_35 => ?_)
  · rw [if_neg c_35] at hr
    exact w_X5_judge_183 M K a0  x1 _ _ _ _  hB (lv_sub hl [0, 1] rfl) hr
  · rw [if_pos c_35] at hr
    refine lv_aload_n M.1 M.2.1 dX5_judge_110 rfl (lv_at hl 0 rfl) ?_
    refine lv_iload_n M.1 M.2.1 dX5_judge_111 rfl (lv_at hl 1 rfl) ?_
    refine lv_bipush (v := 15) M.1 M.2.1 dX5_judge_112 (by decide) ?_
    refine lv_iload_n M.1 M.2.1 dX5_judge_114 rfl (lv_at hl 3 rfl) ?_
    refine lv_iconst (v := 1) M.1 M.2.1 dX5_judge_115 (by decide) ?_
    refine lv_iadd M.1 M.2.1 dX5_judge_116 ?_
    refine lv_aload_n M.1 M.2.1 dX5_judge_117 rfl (lv_at hl 0 rfl) ?_
    refine lv_iload_n M.1 M.2.1 dX5_judge_118 rfl (lv_at hl 1 rfl) ?_
    refine lv_bipush (v := 6) M.1 M.2.1 dX5_judge_119 (by decide) ?_
    obtain ⟨v_36, σ_37, h_38, hr⟩ := cbd hr
    refine x_callI (x_runV M K hB hl.1 [.int x1, .int 6] (rest := [.int (x3 + 1), .int 15, .int x1, .ref (Γ.1 150)]) rfl (c_X5_of l Γ x1 6  σ_33 (v_36, σ_37) h_38) cy_X5_of (x_recv K hB isK_150.2 (ent_5 isK_150.1) rfl) wd_162 ⟨rfl, rfl, Nat.le_of_ble_eq_true rfl, Nat.le_of_ble_eq_true rfl⟩ (Nat.le_of_ble_eq_true rfl) ⟨Nat.zero_le _, Nat.zero_le _⟩ dX5_judge_121) hB (fun H locs hB => ?_)
    replace hB : Bd Γ σ_37 s H locs := hB
    refine lv_icmp_le (tgt := 131) M.1 M.2.1 dX5_judge_124 (by decide) (fun c_39 => ?_) (fun c_39 => ?_)
    · rw [if_pos c_39] at hr
      refine lv_iconst (v := 0) M.1 M.2.1 dX5_judge_131 (by decide) ?_
      exact w_X5_judge_132 M K a0  x1 0 15 x1 _ _ _ _  hB (lv_sub hl [0, 1] rfl) hr
    · rw [if_neg c_39] at hr
      refine lv_iconst (v := 1) M.1 M.2.1 dX5_judge_127 (by decide) ?_
      refine lv_goto (tgt := 132) M.1 M.2.1 dX5_judge_128 (by decide) ?_
      exact w_X5_judge_132 M K a0  x1 1 15 x1 _ _ _ _  hB (lv_sub hl [0, 1] rfl) hr
def f_X5_judge_69 (a0 : Int32)  (x1 : Int32) (s0 : Int32) (σ : Sg) : Option (Int32 × Sg) :=
cb (f_X5_of_0 x1 13 σ) fun v_27 σ_28 =>
if s0 = 0 then
f_X5_judge_103 a0  x1 s0 v_27 (v_27 + 1) 13 x1 σ_28
else
if v_27 ≤ 0 then
f_X5_judge_103 a0  x1 s0 v_27 0 13 x1 σ_28
else
f_X5_judge_103 a0  x1 s0 v_27 (v_27 - 1) 13 x1 σ_28
set_option maxHeartbeats 4000000 in
set_option maxRecDepth 100000 in
theorem w_X5_judge_69 {p : Program} {l : Launch} {e : Env} {s : State} {m : MethodId} {args : Array Value} {below : List Frame} {meth : Method} {c : Code} {Γ : GG} {res : Int32 × Sg} (M : MX RX5 cX5_judge 4 none p s m args meth c) (K : KK Γ s s.heap) (a0 : Int32) (x1 : Int32) (s0 : Int32) (σ : Sg) (H : Heap) (locs : List Loc) (ls : Array Slot)  (hB : Bd Γ σ s H locs) (hl : lv_has ls 4 [(0, .ref (Γ.1 150)), (1, .int x1)]) (hr : f_X5_judge_69 a0  x1 s0 σ = some res) : WV Γ rm_X5_judge p l e s m args below meth c H locs res (F0 m 69 ls [.int s0]) := by
  unfold f_X5_judge_69 at hr
  refine lv_istore_n (lv' := [(2, .int s0), (0, .ref (Γ.1 150)), (1, .int x1)]) M.1 M.2.1 dX5_judge_69 rfl hl (by decide) rfl (fun ls hl => ?_)
  refine lv_aload_n M.1 M.2.1 dX5_judge_70 rfl (lv_at hl 1 rfl) ?_
  refine lv_iload_n M.1 M.2.1 dX5_judge_71 rfl (lv_at hl 2 rfl) ?_
  refine lv_bipush (v := 13) M.1 M.2.1 dX5_judge_72 (by decide) ?_
  obtain ⟨v_27, σ_28, h_29, hr⟩ := cbd hr
  refine x_callI (x_runV M K hB hl.1 [.int x1, .int 13] (rest := []) rfl (c_X5_of l Γ x1 13  σ (v_27, σ_28) h_29) cy_X5_of (x_recv K hB isK_150.2 (ent_5 isK_150.1) rfl) wd_162 ⟨rfl, rfl, Nat.le_of_ble_eq_true rfl, Nat.le_of_ble_eq_true rfl⟩ (Nat.le_of_ble_eq_true rfl) ⟨Nat.zero_le _, Nat.zero_le _⟩ dX5_judge_74) hB (fun H locs hB => ?_)
  replace hB : Bd Γ σ_28 s H locs := hB
  refine lv_istore_n (lv' := [(3, .int v_27), (2, .int s0), (0, .ref (Γ.1 150)), (1, .int x1)]) M.1 M.2.1 dX5_judge_77 rfl hl (by decide) rfl (fun ls hl => ?_)
  refine lv_aload_n M.1 M.2.1 dX5_judge_78 rfl (lv_at hl 2 rfl) ?_
  refine lv_iload_n M.1 M.2.1 dX5_judge_79 rfl (lv_at hl 3 rfl) ?_
  refine lv_bipush (v := 13) M.1 M.2.1 dX5_judge_80 (by decide) ?_
  refine lv_iload_n M.1 M.2.1 dX5_judge_82 rfl (lv_at hl 1 rfl) ?_
  refine lv_if_eq (tgt := 100) M.1 M.2.1 dX5_judge_83 (by decide) (fun c_30 => ?_) (fun c_30 => ?_)
  · rw [if_pos c_30] at hr
    refine lv_iload_n M.1 M.2.1 dX5_judge_100 rfl (lv_at hl 0 rfl) ?_
    refine lv_iconst (v := 1) M.1 M.2.1 dX5_judge_101 (by decide) ?_
    refine lv_iadd M.1 M.2.1 dX5_judge_102 ?_
    exact w_X5_judge_103 M K a0  x1 s0 v_27 (v_27 + 1) 13 x1 _ _ _ _  hB (lv_sub hl [2, 3, 1, 0] rfl) hr
  · rw [if_neg c_30] at hr
    refine lv_iload_n M.1 M.2.1 dX5_judge_86 rfl (lv_at hl 0 rfl) ?_
    refine lv_if_le (tgt := 96) M.1 M.2.1 dX5_judge_87 (by decide) (fun c_31 => ?_) (fun c_31 => ?_)
    · rw [if_pos c_31] at hr
      refine lv_iconst (v := 0) M.1 M.2.1 dX5_judge_96 (by decide) ?_
      refine lv_goto (tgt := 103) M.1 M.2.1 dX5_judge_97 (by decide) ?_
      exact w_X5_judge_103 M K a0  x1 s0 v_27 0 13 x1 _ _ _ _  hB (lv_sub hl [2, 3, 1, 0] rfl) hr
    · rw [if_neg c_31] at hr
      refine lv_iload_n M.1 M.2.1 dX5_judge_90 rfl (lv_at hl 0 rfl) ?_
      refine lv_iconst (v := 1) M.1 M.2.1 dX5_judge_91 (by decide) ?_
      refine lv_isub M.1 M.2.1 dX5_judge_92 ?_
      refine lv_goto (tgt := 103) M.1 M.2.1 dX5_judge_93 (by decide) ?_
      exact w_X5_judge_103 M K a0  x1 s0 v_27 (v_27 - 1) 13 x1 _ _ _ _  hB (lv_sub hl [2, 3, 1, 0] rfl) hr
def f_X5_judge_68 (a0 : Int32)  (x1 : Int32) (σ : Sg) : Option (Int32 × Sg) :=
f_X5_judge_69 a0  x1 0 σ
set_option maxHeartbeats 4000000 in
set_option maxRecDepth 100000 in
theorem w_X5_judge_68 {p : Program} {l : Launch} {e : Env} {s : State} {m : MethodId} {args : Array Value} {below : List Frame} {meth : Method} {c : Code} {Γ : GG} {res : Int32 × Sg} (M : MX RX5 cX5_judge 4 none p s m args meth c) (K : KK Γ s s.heap) (a0 : Int32) (x1 : Int32) (σ : Sg) (H : Heap) (locs : List Loc) (ls : Array Slot)  (hB : Bd Γ σ s H locs) (hl : lv_has ls 4 [(0, .ref (Γ.1 150)), (1, .int x1)]) (hr : f_X5_judge_68 a0  x1 σ = some res) : WV Γ rm_X5_judge p l e s m args below meth c H locs res (F0 m 68 ls []) := by
  unfold f_X5_judge_68 at hr
  refine lv_iconst (v := 0) M.1 M.2.1 dX5_judge_68 (by decide) ?_
  exact w_X5_judge_69 M K a0  x1 0 _ _ _ _  hB (lv_sub hl [0, 1] rfl) hr
def f_X5_judge_28 (a0 : Int32)   (σ : Sg) : Option (Int32 × Sg) :=
some (0, σ)
set_option maxHeartbeats 4000000 in
set_option maxRecDepth 100000 in
theorem w_X5_judge_28 {p : Program} {l : Launch} {e : Env} {s : State} {m : MethodId} {args : Array Value} {below : List Frame} {meth : Method} {c : Code} {Γ : GG} {res : Int32 × Sg} (M : MX RX5 cX5_judge 4 none p s m args meth c) (K : KK Γ s s.heap) (a0 : Int32)  (σ : Sg) (H : Heap) (locs : List Loc) (ls : Array Slot)  (hB : Bd Γ σ s H locs) (hl : lv_has ls 4 []) (hr : f_X5_judge_28 a0   σ = some res) : WV Γ rm_X5_judge p l e s m args below meth c H locs res (F0 m 28 ls []) := by
  unfold f_X5_judge_28 at hr
  exact x_vret M hB (Option.some.inj hr) dX5_judge_28
def f_X5_judge_0 (a0 : Int32)   (σ : Sg) : Option (Int32 × Sg) :=
cb (f_X5_of_0 a0 15 σ) fun v_1 σ_2 =>
if v_1 = 1 then
f_X5_judge_28 a0   σ_2
else
cb (f_X5_of_0 a0 3 σ_2) fun v_5 σ_6 =>
if v_5 = 0 then none else
if (σ_2 151 15) - (σ_2 151 15) / v_5 * v_5 = 0 then
cb (f_X5_of_0 a0 12 σ_6) fun v_10 σ_11 =>
cb (f_X5_of_0 a0 4 σ_11) fun v_13 σ_14 =>
cb (f_X5_of_0 a0 5 σ_14) fun v_16 σ_17 =>
cb (f_X5_in_0 v_10 v_13 v_16 σ_17) fun v_19 σ_20 =>
if v_19 = 0 then
f_X5_judge_68 a0  a0 σ_20
else
cb (f_X5_of_0 a0 14 σ_20) fun v_23 σ_24 =>
if v_23 = 0 then
f_X5_judge_69 a0  a0 1 σ_24
else
f_X5_judge_68 a0  a0 σ_24
else
f_X5_judge_28 a0   σ_6
set_option maxHeartbeats 4000000 in
set_option maxRecDepth 100000 in
theorem w_X5_judge_0 {p : Program} {l : Launch} {e : Env} {s : State} {m : MethodId} {args : Array Value} {below : List Frame} {meth : Method} {c : Code} {Γ : GG} {res : Int32 × Sg} (M : MX RX5 cX5_judge 4 none p s m args meth c) (K : KK Γ s s.heap) (a0 : Int32)  (σ : Sg) (H : Heap) (locs : List Loc) (ls : Array Slot)  (hB : Bd Γ σ s H locs) (hl : lv_has ls 4 [(0, .ref (Γ.1 150)), (1, .int a0)]) (hr : f_X5_judge_0 a0   σ = some res) : WV Γ rm_X5_judge p l e s m args below meth c H locs res (F0 m 0 ls []) := by
  unfold f_X5_judge_0 at hr
  refine lv_aload_n M.1 M.2.1 dX5_judge_0 rfl (lv_at hl 0 rfl) ?_
  refine lv_iload_n M.1 M.2.1 dX5_judge_1 rfl (lv_at hl 1 rfl) ?_
  refine lv_bipush (v := 15) M.1 M.2.1 dX5_judge_2 (by decide) ?_
  obtain ⟨v_1, σ_2, h_3, hr⟩ := cbd hr
  refine x_callI (x_runV M K hB hl.1 [.int a0, .int 15] (rest := []) rfl (c_X5_of l Γ a0 15  σ (v_1, σ_2) h_3) cy_X5_of (x_recv K hB isK_150.2 (ent_5 isK_150.1) rfl) wd_162 ⟨rfl, rfl, Nat.le_of_ble_eq_true rfl, Nat.le_of_ble_eq_true rfl⟩ (Nat.le_of_ble_eq_true rfl) ⟨Nat.zero_le _, Nat.zero_le _⟩ dX5_judge_4) hB (fun H locs hB => ?_)
  replace hB : Bd Γ σ_2 s H locs := hB
  refine lv_iconst (v := 1) M.1 M.2.1 dX5_judge_7 (by decide) ?_
  refine lv_icmp_eq (tgt := 28) M.1 M.2.1 dX5_judge_8 (by decide) (fun c_4 => ?_) (fun c_4 => ?_)
  · rw [if_pos c_4] at hr
    exact w_X5_judge_28 M K a0   _ _ _ _  hB (lv_sub hl [] rfl) hr
  · rw [if_neg c_4] at hr
    refine lv_aload_n M.1 M.2.1 dX5_judge_11 rfl (lv_at hl 0 rfl) ?_
    refine x_get5 M K hB isK_150 0 (by decide) wd_157 (v := .ref (Γ.1 151)) rfl dX5_judge_12 ?_
    refine lv_bipush (v := 15) M.1 M.2.1 dX5_judge_15 (by decide) ?_
    refine x_ialdL M K hB isA_151 (k := 15) (by decide) (by decide) dX5_judge_17 ?_
    refine lv_aload_n M.1 M.2.1 dX5_judge_18 rfl (lv_at hl 0 rfl) ?_
    refine lv_iload_n M.1 M.2.1 dX5_judge_19 rfl (lv_at hl 1 rfl) ?_
    refine lv_iconst (v := 3) M.1 M.2.1 dX5_judge_20 (by decide) ?_
    obtain ⟨v_5, σ_6, h_7, hr⟩ := cbd hr
    refine x_callI (x_runV M K hB hl.1 [.int a0, .int 3] (rest := [.int (σ_2 151 15)]) rfl (c_X5_of l Γ a0 3  σ_2 (v_5, σ_6) h_7) cy_X5_of (x_recv K hB isK_150.2 (ent_5 isK_150.1) rfl) wd_162 ⟨rfl, rfl, Nat.le_of_ble_eq_true rfl, Nat.le_of_ble_eq_true rfl⟩ (Nat.le_of_ble_eq_true rfl) ⟨Nat.zero_le _, Nat.zero_le _⟩ dX5_judge_21) hB (fun H locs hB => ?_)
    replace hB : Bd Γ σ_6 s H locs := hB
    obtain ⟨g_8, hr⟩ := gd hr
    refine lv_irem M.1 M.2.1 dX5_judge_24 g_8 ?_
    refine lv_if_eq (tgt := 29) M.1 M.2.1 dX5_judge_25 (by decide) (fun c_9 => ?_) (fun c_9 => ?_)
    · rw [if_pos c_9] at hr
      refine lv_aload_n M.1 M.2.1 dX5_judge_29 rfl (lv_at hl 0 rfl) ?_
      refine lv_iload_n M.1 M.2.1 dX5_judge_30 rfl (lv_at hl 1 rfl) ?_
      refine lv_bipush (v := 12) M.1 M.2.1 dX5_judge_31 (by decide) ?_
      obtain ⟨v_10, σ_11, h_12, hr⟩ := cbd hr
      refine x_callI (x_runV M K hB hl.1 [.int a0, .int 12] (rest := []) rfl (c_X5_of l Γ a0 12  σ_6 (v_10, σ_11) h_12) cy_X5_of (x_recv K hB isK_150.2 (ent_5 isK_150.1) rfl) wd_162 ⟨rfl, rfl, Nat.le_of_ble_eq_true rfl, Nat.le_of_ble_eq_true rfl⟩ (Nat.le_of_ble_eq_true rfl) ⟨Nat.zero_le _, Nat.zero_le _⟩ dX5_judge_33) hB (fun H locs hB => ?_)
      replace hB : Bd Γ σ_11 s H locs := hB
      refine lv_aload_n M.1 M.2.1 dX5_judge_36 rfl (lv_at hl 0 rfl) ?_
      refine lv_iload_n M.1 M.2.1 dX5_judge_37 rfl (lv_at hl 1 rfl) ?_
      refine lv_iconst (v := 4) M.1 M.2.1 dX5_judge_38 (by decide) ?_
      obtain ⟨v_13, σ_14, h_15, hr⟩ := cbd hr
      refine x_callI (x_runV M K hB hl.1 [.int a0, .int 4] (rest := [.int v_10]) rfl (c_X5_of l Γ a0 4  σ_11 (v_13, σ_14) h_15) cy_X5_of (x_recv K hB isK_150.2 (ent_5 isK_150.1) rfl) wd_162 ⟨rfl, rfl, Nat.le_of_ble_eq_true rfl, Nat.le_of_ble_eq_true rfl⟩ (Nat.le_of_ble_eq_true rfl) ⟨Nat.zero_le _, Nat.zero_le _⟩ dX5_judge_39) hB (fun H locs hB => ?_)
      replace hB : Bd Γ σ_14 s H locs := hB
      refine lv_aload_n M.1 M.2.1 dX5_judge_42 rfl (lv_at hl 0 rfl) ?_
      refine lv_iload_n M.1 M.2.1 dX5_judge_43 rfl (lv_at hl 1 rfl) ?_
      refine lv_iconst (v := 5) M.1 M.2.1 dX5_judge_44 (by decide) ?_
      obtain ⟨v_16, σ_17, h_18, hr⟩ := cbd hr
      refine x_callI (x_runV M K hB hl.1 [.int a0, .int 5] (rest := [.int v_13, .int v_10]) rfl (c_X5_of l Γ a0 5  σ_14 (v_16, σ_17) h_18) cy_X5_of (x_recv K hB isK_150.2 (ent_5 isK_150.1) rfl) wd_162 ⟨rfl, rfl, Nat.le_of_ble_eq_true rfl, Nat.le_of_ble_eq_true rfl⟩ (Nat.le_of_ble_eq_true rfl) ⟨Nat.zero_le _, Nat.zero_le _⟩ dX5_judge_45) hB (fun H locs hB => ?_)
      replace hB : Bd Γ σ_17 s H locs := hB
      obtain ⟨v_19, σ_20, h_21, hr⟩ := cbd hr
      refine x_callI (x_runS M K hB hl.1 [.int v_10, .int v_13, .int v_16] (rest := []) rfl (c_X5_in l Γ v_10 v_13 v_16  σ_17 (v_19, σ_20) h_21) cy_X5_in wd_155 ⟨rfl, rfl, Nat.le_of_ble_eq_true rfl, Nat.le_of_ble_eq_true rfl⟩ (Nat.le_of_ble_eq_true rfl) ⟨Nat.zero_le _, Nat.zero_le _⟩ dX5_judge_48) hB (fun H locs hB => ?_)
      replace hB : Bd Γ σ_20 s H locs := hB
      refine lv_if_eq (tgt := 68) M.1 M.2.1 dX5_judge_51 (by decide) (fun c_22 => ?_) (fun c_22 => ?_)
      · rw [if_pos c_22] at hr
        exact w_X5_judge_68 M K a0  a0 _ _ _ _  hB (lv_sub hl [0, 1] rfl) hr
      · rw [if_neg c_22] at hr
        refine lv_aload_n M.1 M.2.1 dX5_judge_54 rfl (lv_at hl 0 rfl) ?_
        refine lv_iload_n M.1 M.2.1 dX5_judge_55 rfl (lv_at hl 1 rfl) ?_
        refine lv_bipush (v := 14) M.1 M.2.1 dX5_judge_56 (by decide) ?_
        obtain ⟨v_23, σ_24, h_25, hr⟩ := cbd hr
        refine x_callI (x_runV M K hB hl.1 [.int a0, .int 14] (rest := []) rfl (c_X5_of l Γ a0 14  σ_20 (v_23, σ_24) h_25) cy_X5_of (x_recv K hB isK_150.2 (ent_5 isK_150.1) rfl) wd_162 ⟨rfl, rfl, Nat.le_of_ble_eq_true rfl, Nat.le_of_ble_eq_true rfl⟩ (Nat.le_of_ble_eq_true rfl) ⟨Nat.zero_le _, Nat.zero_le _⟩ dX5_judge_58) hB (fun H locs hB => ?_)
        replace hB : Bd Γ σ_24 s H locs := hB
        refine lv_if_ne (tgt := 68) M.1 M.2.1 dX5_judge_61 (by decide) (fun c_26 => ?_) (fun c_26 => ?_)
        · rw [if_neg c_26] at hr
          exact w_X5_judge_68 M K a0  a0 _ _ _ _  hB (lv_sub hl [0, 1] rfl) hr
        · rw [if_pos c_26] at hr
          refine lv_iconst (v := 1) M.1 M.2.1 dX5_judge_64 (by decide) ?_
          refine lv_goto (tgt := 69) M.1 M.2.1 dX5_judge_65 (by decide) ?_
          exact w_X5_judge_69 M K a0  a0 1 _ _ _ _  hB (lv_sub hl [0, 1] rfl) hr
    · rw [if_neg c_9] at hr
      exact w_X5_judge_28 M K a0   _ _ _ _  hB (lv_sub hl [] rfl) hr
theorem c_X5_judge (l : Launch) (Γ : GG) (a0 : Int32)  (σ : Sg) (res : Int32 × Sg) (hr : f_X5_judge_0 a0 σ = some res) : Met l yX5_judge (Cond.code yX5_judge cX5_judge 4 none :: gtb) rm_X5_judge (va_Pc [.ref (Γ.1 150), .int a0] (GI Γ σ)) (QV Γ res) 0 0 (AD Γ) :=
  x_metV (by decide) [.ref (Γ.1 150), .int a0] (Nat.le_of_ble_eq_true rfl) (fun p e s m args below meth c M K ls hl hB => w_X5_judge_0 M K a0 σ _ _ ls hB hl hr)
abbrev rm_X5_supervise : Room := { frames := 3, cells := 0, slots := 0, locals := 67 }
def f_X5_supervise_94   (s0 : Int32) (σ : Sg) : Option (Int32 × Sg) :=
if s0 = 0 ∨ s0 = 1 then some (s0, σ) else none
set_option maxHeartbeats 4000000 in
set_option maxRecDepth 100000 in
theorem w_X5_supervise_94 {p : Program} {l : Launch} {e : Env} {s : State} {m : MethodId} {args : Array Value} {below : List Frame} {meth : Method} {c : Code} {Γ : GG} {res : Int32 × Sg} (M : MX RX5 cX5_supervise 2 (some .boolean) p s m args meth c) (K : KK Γ s s.heap)  (s0 : Int32) (σ : Sg) (H : Heap) (locs : List Loc) (ls : Array Slot)  (hB : Bd Γ σ s H locs) (hl : lv_has ls 2 []) (hr : f_X5_supervise_94   s0 σ = some res) : WI Γ rm_X5_supervise p l e s m args below meth c H locs res (F0 m 94 ls [.int s0]) := by
  unfold f_X5_supervise_94 at hr
  obtain ⟨g_16, hr⟩ := gd2 hr
  exact x_zret M hB (nar_z g_16) (Option.some.inj hr) dX5_supervise_94
def f_X5_supervise_93    (σ : Sg) : Option (Int32 × Sg) :=
f_X5_supervise_94   0 σ
set_option maxHeartbeats 4000000 in
set_option maxRecDepth 100000 in
theorem w_X5_supervise_93 {p : Program} {l : Launch} {e : Env} {s : State} {m : MethodId} {args : Array Value} {below : List Frame} {meth : Method} {c : Code} {Γ : GG} {res : Int32 × Sg} (M : MX RX5 cX5_supervise 2 (some .boolean) p s m args meth c) (K : KK Γ s s.heap)   (σ : Sg) (H : Heap) (locs : List Loc) (ls : Array Slot)  (hB : Bd Γ σ s H locs) (hl : lv_has ls 2 []) (hr : f_X5_supervise_93    σ = some res) : WI Γ rm_X5_supervise p l e s m args below meth c H locs res (F0 m 93 ls []) := by
  unfold f_X5_supervise_93 at hr
  refine lv_iconst (v := 0) M.1 M.2.1 dX5_supervise_93 (by decide) ?_
  exact w_X5_supervise_94 M K   0 _ _ _ _  hB (lv_sub hl [] rfl) hr
def f_X5_supervise_55   (s0 : Int32) (s1 : Int32) (s2 : Int32) (σ : Sg) : Option (Int32 × Sg) :=
if s2 < 0 ∨ 255 ≤ s2.toNatClampNeg then none else
wb (st σ 151 (s2.toNatClampNeg) (s1 + s0)) fun σ_12 =>
if σ_12 151 4 < σ_12 151 16 then
f_X5_supervise_93    σ_12
else
if σ_12 151 14 < σ_12 151 3 then
f_X5_supervise_93    σ_12
else
f_X5_supervise_94   1 σ_12
set_option maxHeartbeats 4000000 in
set_option maxRecDepth 100000 in
theorem w_X5_supervise_55 {p : Program} {l : Launch} {e : Env} {s : State} {m : MethodId} {args : Array Value} {below : List Frame} {meth : Method} {c : Code} {Γ : GG} {res : Int32 × Sg} (M : MX RX5 cX5_supervise 2 (some .boolean) p s m args meth c) (K : KK Γ s s.heap)  (s0 : Int32) (s1 : Int32) (s2 : Int32) (σ : Sg) (H : Heap) (locs : List Loc) (ls : Array Slot)  (hB : Bd Γ σ s H locs) (hl : lv_has ls 2 [(0, .ref (Γ.1 150))]) (hr : f_X5_supervise_55   s0 s1 s2 σ = some res) : WI Γ rm_X5_supervise p l e s m args below meth c H locs res (F0 m 55 ls [.int s0, .int s1, .int s2, .ref (Γ.1 151)]) := by
  unfold f_X5_supervise_55 at hr
  refine lv_iadd M.1 M.2.1 dX5_supervise_55 ?_
  obtain ⟨g_11, hr⟩ := gd hr
  obtain ⟨σ_12, e_13, hr⟩ := wbd hr
  refine x_iast M K hB isA_151 g_11 dX5_supervise_56 (fun H locs hB => ?_)
  rw [← e_13] at hB
  refine lv_aload_n M.1 M.2.1 dX5_supervise_57 rfl (lv_at hl 0 rfl) ?_
  refine x_get5 M K hB isK_150 0 (by decide) wd_157 (v := .ref (Γ.1 151)) rfl dX5_supervise_58 ?_
  refine lv_bipush (v := 16) M.1 M.2.1 dX5_supervise_61 (by decide) ?_
  refine x_ialdL M K hB isA_151 (k := 16) (by decide) (by decide) dX5_supervise_63 ?_
  refine lv_aload_n M.1 M.2.1 dX5_supervise_64 rfl (lv_at hl 0 rfl) ?_
  refine x_get5 M K hB isK_150 0 (by decide) wd_157 (v := .ref (Γ.1 151)) rfl dX5_supervise_65 ?_
  refine lv_iconst (v := 4) M.1 M.2.1 dX5_supervise_68 (by decide) ?_
  refine x_ialdL M K hB isA_151 (k := 4) (by decide) (by decide) dX5_supervise_69 ?_
  refine lv_icmp_gt (tgt := 93) M.1 M.2.1 dX5_supervise_70 (by decide) (fun c_14 => ?_) (fun c_14 => ?_)
  · rw [if_pos c_14] at hr
    exact w_X5_supervise_93 M K    _ _ _ _  hB (lv_sub hl [] rfl) hr
  · rw [if_neg c_14] at hr
    refine lv_aload_n M.1 M.2.1 dX5_supervise_73 rfl (lv_at hl 0 rfl) ?_
    refine x_get5 M K hB isK_150 0 (by decide) wd_157 (v := .ref (Γ.1 151)) rfl dX5_supervise_74 ?_
    refine lv_bipush (v := 14) M.1 M.2.1 dX5_supervise_77 (by decide) ?_
    refine x_ialdL M K hB isA_151 (k := 14) (by decide) (by decide) dX5_supervise_79 ?_
    refine lv_aload_n M.1 M.2.1 dX5_supervise_80 rfl (lv_at hl 0 rfl) ?_
    refine x_get5 M K hB isK_150 0 (by decide) wd_157 (v := .ref (Γ.1 151)) rfl dX5_supervise_81 ?_
    refine lv_iconst (v := 3) M.1 M.2.1 dX5_supervise_84 (by decide) ?_
    refine x_ialdL M K hB isA_151 (k := 3) (by decide) (by decide) dX5_supervise_85 ?_
    refine lv_icmp_lt (tgt := 93) M.1 M.2.1 dX5_supervise_86 (by decide) (fun c_15 => ?_) (fun c_15 => ?_)
    · rw [if_pos c_15] at hr
      exact w_X5_supervise_93 M K    _ _ _ _  hB (lv_sub hl [] rfl) hr
    · rw [if_neg c_15] at hr
      refine lv_iconst (v := 1) M.1 M.2.1 dX5_supervise_89 (by decide) ?_
      refine lv_goto (tgt := 94) M.1 M.2.1 dX5_supervise_90 (by decide) ?_
      exact w_X5_supervise_94 M K   1 _ _ _ _  hB (lv_sub hl [] rfl) hr
def f_X5_supervise_13   : Nat → Int32 → Sg → Option (Int32 × Sg)
  | 0, _, _ => none
  | f + 1, x1, σ => if σ 151 17 ≤ x1 then
cb (f_X5_firstExpired_0  σ) fun v_4 σ_5 =>
if v_4 < 0 then
f_X5_supervise_55   0 (σ 151 16) 16 σ_5
else
f_X5_supervise_55   1 (σ 151 16) 16 σ_5
else
cb (f_X5_judge_0 x1 σ) fun v_8 σ_9 =>
f_X5_supervise_13   f (x1 + 1) σ_9
set_option maxHeartbeats 4000000 in
set_option maxRecDepth 100000 in
theorem w_X5_supervise_13 {p : Program} {l : Launch} {e : Env} {s : State} {m : MethodId} {args : Array Value} {below : List Frame} {meth : Method} {c : Code} {Γ : GG} {res : Int32 × Sg} (M : MX RX5 cX5_supervise 2 (some .boolean) p s m args meth c) (K : KK Γ s s.heap)  : ∀ (f : Nat) (x1 : Int32) (σ : Sg) (H : Heap) (locs : List Loc) (ls : Array Slot)  (hB : Bd Γ σ s H locs) (hl : lv_has ls 2 [(0, .ref (Γ.1 150)), (1, .int x1)]) (hr : f_X5_supervise_13   f x1 σ = some res), WI Γ rm_X5_supervise p l e s m args below meth c H locs res (F0 m 13 ls []) := by
  intro f
  induction f with
  | zero => intros; rename_i hr; exact absurd hr (by rw [f_X5_supervise_13]; exact fun h => by cases h)
  | succ f ih_13 =>
    intro x1 σ H locs ls  hB hl hr
    rw [f_X5_supervise_13] at hr
    refine lv_iload_n M.1 M.2.1 dX5_supervise_13 rfl (lv_at hl 1 rfl) ?_
    refine lv_aload_n M.1 M.2.1 dX5_supervise_14 rfl (lv_at hl 0 rfl) ?_
    refine x_get5 M K hB isK_150 0 (by decide) wd_157 (v := .ref (Γ.1 151)) rfl dX5_supervise_15 ?_
    refine lv_bipush (v := 17) M.1 M.2.1 dX5_supervise_18 (by decide) ?_
    refine x_ialdL M K hB isA_151 (k := 17) (by decide) (by decide) dX5_supervise_20 ?_
    refine lv_icmp_ge (tgt := 35) M.1 M.2.1 dX5_supervise_21 (by decide) (fun c_3 => ?_) (fun c_3 => ?_)
    · rw [if_pos c_3] at hr
      refine lv_aload_n M.1 M.2.1 dX5_supervise_35 rfl (lv_at hl 0 rfl) ?_
      refine x_get5 M K hB isK_150 0 (by decide) wd_157 (v := .ref (Γ.1 151)) rfl dX5_supervise_36 ?_
      refine lv_bipush (v := 16) M.1 M.2.1 dX5_supervise_39 (by decide) ?_
      refine lv_dup2_11 M.1 M.2.1 dX5_supervise_41 rfl rfl ?_
      refine x_ialdL M K hB isA_151 (k := 16) (by decide) (by decide) dX5_supervise_42 ?_
      refine lv_aload_n M.1 M.2.1 dX5_supervise_43 rfl (lv_at hl 0 rfl) ?_
      obtain ⟨v_4, σ_5, h_6, hr⟩ := cbd hr
      refine x_callI (x_runV M K hB hl.1 [] (rest := [.int (σ 151 16), .int 16, .ref (Γ.1 151)]) rfl (c_X5_firstExpired l Γ   σ (v_4, σ_5) h_6) cy_X5_firstExpired (x_recv K hB isK_150.2 (ent_5 isK_150.1) rfl) wd_180 ⟨rfl, rfl, Nat.le_of_ble_eq_true rfl, Nat.le_of_ble_eq_true rfl⟩ (Nat.le_of_ble_eq_true rfl) ⟨Nat.zero_le _, Nat.zero_le _⟩ dX5_supervise_44) hB (fun H locs hB => ?_)
      replace hB : Bd Γ σ_5 s H locs := hB
      refine lv_if_lt (tgt := 54) M.1 M.2.1 dX5_supervise_47 (by decide) (fun c_7 => ?_) (fun c_7 => ?_)
      · rw [if_pos c_7] at hr
        refine lv_iconst (v := 0) M.1 M.2.1 dX5_supervise_54 (by decide) ?_
        exact w_X5_supervise_55 M K   0 (σ 151 16) 16 _ _ _ _  hB (lv_sub hl [0] rfl) hr
      · rw [if_neg c_7] at hr
        refine lv_iconst (v := 1) M.1 M.2.1 dX5_supervise_50 (by decide) ?_
        refine lv_goto (tgt := 55) M.1 M.2.1 dX5_supervise_51 (by decide) ?_
        exact w_X5_supervise_55 M K   1 (σ 151 16) 16 _ _ _ _  hB (lv_sub hl [0] rfl) hr
    · rw [if_neg c_3] at hr
      refine lv_aload_n M.1 M.2.1 dX5_supervise_24 rfl (lv_at hl 0 rfl) ?_
      refine lv_iload_n M.1 M.2.1 dX5_supervise_25 rfl (lv_at hl 1 rfl) ?_
      obtain ⟨v_8, σ_9, h_10, hr⟩ := cbd hr
      refine x_callV (x_runV M K hB hl.1 [.int x1] (rest := []) rfl (c_X5_judge l Γ x1  σ (v_8, σ_9) h_10) cy_X5_judge (x_recv K hB isK_150.2 (ent_5 isK_150.1) rfl) wd_182 ⟨rfl, rfl, Nat.le_of_ble_eq_true rfl, Nat.le_of_ble_eq_true rfl⟩ (Nat.le_of_ble_eq_true rfl) ⟨Nat.zero_le _, Nat.zero_le _⟩ dX5_supervise_26) hB (fun H locs hB => ?_)
      replace hB : Bd Γ σ_9 s H locs := hB
      refine lv_iinc (v := x1 + 1) (lv' := [(1, .int (x1 + 1)), (0, .ref (Γ.1 150))]) M.1 M.2.1 dX5_supervise_29 hl (k := 1) rfl rfl (by decide) rfl (fun ls hl => ?_)
      refine lv_goto (tgt := 13) M.1 M.2.1 dX5_supervise_32 (by decide) ?_
      exact ih_13 (x1 + 1) _ _ _ _  hB (lv_sub hl [1, 0] rfl) hr
def f_X5_supervise_0    (σ : Sg) : Option (Int32 × Sg) :=
wb (st σ 151 15 ((σ 151 15) + 1)) fun σ_1 =>
f_X5_supervise_13   FU 0 σ_1
set_option maxHeartbeats 4000000 in
set_option maxRecDepth 100000 in
theorem w_X5_supervise_0 {p : Program} {l : Launch} {e : Env} {s : State} {m : MethodId} {args : Array Value} {below : List Frame} {meth : Method} {c : Code} {Γ : GG} {res : Int32 × Sg} (M : MX RX5 cX5_supervise 2 (some .boolean) p s m args meth c) (K : KK Γ s s.heap)   (σ : Sg) (H : Heap) (locs : List Loc) (ls : Array Slot)  (hB : Bd Γ σ s H locs) (hl : lv_has ls 2 [(0, .ref (Γ.1 150))]) (hr : f_X5_supervise_0    σ = some res) : WI Γ rm_X5_supervise p l e s m args below meth c H locs res (F0 m 0 ls []) := by
  unfold f_X5_supervise_0 at hr
  refine lv_aload_n M.1 M.2.1 dX5_supervise_0 rfl (lv_at hl 0 rfl) ?_
  refine x_get5 M K hB isK_150 0 (by decide) wd_157 (v := .ref (Γ.1 151)) rfl dX5_supervise_1 ?_
  refine lv_bipush (v := 15) M.1 M.2.1 dX5_supervise_4 (by decide) ?_
  refine lv_dup2_11 M.1 M.2.1 dX5_supervise_6 rfl rfl ?_
  refine x_ialdL M K hB isA_151 (k := 15) (by decide) (by decide) dX5_supervise_7 ?_
  refine lv_iconst (v := 1) M.1 M.2.1 dX5_supervise_8 (by decide) ?_
  refine lv_iadd M.1 M.2.1 dX5_supervise_9 ?_
  obtain ⟨σ_1, e_2, hr⟩ := wbd hr
  refine x_iastL M K hB isA_151 (k := 15) (by decide) (by decide) dX5_supervise_10 (fun H locs hB => ?_)
  rw [← e_2] at hB
  refine lv_iconst (v := 0) M.1 M.2.1 dX5_supervise_11 (by decide) ?_
  refine lv_istore_n (lv' := [(1, .int 0), (0, .ref (Γ.1 150))]) M.1 M.2.1 dX5_supervise_12 rfl hl (by decide) rfl (fun ls hl => ?_)
  exact w_X5_supervise_13 M K   FU 0 _ _ _ _  hB (lv_sub hl [1, 0] rfl) hr
theorem c_X5_supervise (l : Launch) (Γ : GG)   (σ : Sg) (res : Int32 × Sg) (hr : f_X5_supervise_0  σ = some res) : Met l yX5_supervise (Cond.code yX5_supervise cX5_supervise 2 (some .boolean) :: gtb) rm_X5_supervise (va_Pc [.ref (Γ.1 150)] (GI Γ σ)) (QI Γ res) 0 0 (AD Γ) :=
  x_metI (by decide) [.ref (Γ.1 150)] (Nat.le_of_ble_eq_true rfl) (fun p e s m args below meth c M K ls hl hB => w_X5_supervise_0 M K  σ _ _ ls hB hl hr)
abbrev rm_X5_runs : Room := { frames := 5, cells := 0, slots := 0, locals := 109 }
def f_X5_runs_200   (s0 : Int32) (s1 : Int32) (σ : Sg) : Option (Int32 × Sg) :=
if s1 < 0 ∨ 255 ≤ s1.toNatClampNeg then none else
wb (st σ 151 (s1.toNatClampNeg) s0) fun σ_33 =>
some (0, σ_33)
set_option maxHeartbeats 4000000 in
set_option maxRecDepth 100000 in
theorem w_X5_runs_200 {p : Program} {l : Launch} {e : Env} {s : State} {m : MethodId} {args : Array Value} {below : List Frame} {meth : Method} {c : Code} {Γ : GG} {res : Int32 × Sg} (M : MX RX5 cX5_runs 2 (some .boolean) p s m args meth c) (K : KK Γ s s.heap)  (s0 : Int32) (s1 : Int32) (σ : Sg) (H : Heap) (locs : List Loc) (ls : Array Slot)  (hB : Bd Γ σ s H locs) (hl : lv_has ls 2 []) (hr : f_X5_runs_200   s0 s1 σ = some res) : WI Γ rm_X5_runs p l e s m args below meth c H locs res (F0 m 200 ls [.int s0, .int s1, .ref (Γ.1 151)]) := by
  unfold f_X5_runs_200 at hr
  obtain ⟨g_32, hr⟩ := gd hr
  obtain ⟨σ_33, e_34, hr⟩ := wbd hr
  refine x_iast M K hB isA_151 g_32 dX5_runs_200 (fun H locs hB => ?_)
  rw [← e_34] at hB
  refine lv_iconst (v := 0) M.1 M.2.1 dX5_runs_201 (by decide) ?_
  exact x_zret M hB (nar_z (by decide)) (Option.some.inj hr) dX5_runs_202
def f_X5_runs_165   (s0 : Int32) (s1 : Int32) (σ : Sg) : Option (Int32 × Sg) :=
if s1 < 0 ∨ 255 ≤ s1.toNatClampNeg then none else
wb (st σ 151 (s1.toNatClampNeg) s0) fun σ_29 =>
if σ_29 151 13 = σ_29 151 6 then
f_X5_runs_200   0 11 σ_29
else
f_X5_runs_200   (σ_29 151 11) 11 σ_29
set_option maxHeartbeats 4000000 in
set_option maxRecDepth 100000 in
theorem w_X5_runs_165 {p : Program} {l : Launch} {e : Env} {s : State} {m : MethodId} {args : Array Value} {below : List Frame} {meth : Method} {c : Code} {Γ : GG} {res : Int32 × Sg} (M : MX RX5 cX5_runs 2 (some .boolean) p s m args meth c) (K : KK Γ s s.heap)  (s0 : Int32) (s1 : Int32) (σ : Sg) (H : Heap) (locs : List Loc) (ls : Array Slot)  (hB : Bd Γ σ s H locs) (hl : lv_has ls 2 [(0, .ref (Γ.1 150))]) (hr : f_X5_runs_165   s0 s1 σ = some res) : WI Γ rm_X5_runs p l e s m args below meth c H locs res (F0 m 165 ls [.int s0, .int s1, .ref (Γ.1 151)]) := by
  unfold f_X5_runs_165 at hr
  obtain ⟨g_28, hr⟩ := gd hr
  obtain ⟨σ_29, e_30, hr⟩ := wbd hr
  refine x_iast M K hB isA_151 g_28 dX5_runs_165 (fun H locs hB => ?_)
  rw [← e_30] at hB
  refine lv_aload_n M.1 M.2.1 dX5_runs_166 rfl (lv_at hl 0 rfl) ?_
  refine x_get5 M K hB isK_150 0 (by decide) wd_157 (v := .ref (Γ.1 151)) rfl dX5_runs_167 ?_
  refine lv_bipush (v := 11) M.1 M.2.1 dX5_runs_170 (by decide) ?_
  refine lv_aload_n M.1 M.2.1 dX5_runs_172 rfl (lv_at hl 0 rfl) ?_
  refine x_get5 M K hB isK_150 0 (by decide) wd_157 (v := .ref (Γ.1 151)) rfl dX5_runs_173 ?_
  refine lv_bipush (v := 13) M.1 M.2.1 dX5_runs_176 (by decide) ?_
  refine x_ialdL M K hB isA_151 (k := 13) (by decide) (by decide) dX5_runs_178 ?_
  refine lv_aload_n M.1 M.2.1 dX5_runs_179 rfl (lv_at hl 0 rfl) ?_
  refine x_get5 M K hB isK_150 0 (by decide) wd_157 (v := .ref (Γ.1 151)) rfl dX5_runs_180 ?_
  refine lv_bipush (v := 6) M.1 M.2.1 dX5_runs_183 (by decide) ?_
  refine x_ialdL M K hB isA_151 (k := 6) (by decide) (by decide) dX5_runs_185 ?_
  refine lv_icmp_ne (tgt := 193) M.1 M.2.1 dX5_runs_186 (by decide) (fun c_31 => ?_) (fun c_31 => ?_)
  · rw [if_neg c_31] at hr
    refine lv_aload_n M.1 M.2.1 dX5_runs_193 rfl (lv_at hl 0 rfl) ?_
    refine x_get5 M K hB isK_150 0 (by decide) wd_157 (v := .ref (Γ.1 151)) rfl dX5_runs_194 ?_
    refine lv_bipush (v := 11) M.1 M.2.1 dX5_runs_197 (by decide) ?_
    refine x_ialdL M K hB isA_151 (k := 11) (by decide) (by decide) dX5_runs_199 ?_
    exact w_X5_runs_200 M K   (σ_29 151 11) 11 _ _ _ _  hB (lv_sub hl [] rfl) hr
  · rw [if_pos c_31] at hr
    refine lv_iconst (v := 0) M.1 M.2.1 dX5_runs_189 (by decide) ?_
    refine lv_goto (tgt := 200) M.1 M.2.1 dX5_runs_190 (by decide) ?_
    exact w_X5_runs_200 M K   0 11 _ _ _ _  hB (lv_sub hl [] rfl) hr
def f_X5_runs_144   (x1 : Int32) (σ : Sg) : Option (Int32 × Sg) :=
if x1 = 0 then
f_X5_runs_165   (σ 151 14) 14 σ
else
f_X5_runs_165   0 14 σ
set_option maxHeartbeats 4000000 in
set_option maxRecDepth 100000 in
theorem w_X5_runs_144 {p : Program} {l : Launch} {e : Env} {s : State} {m : MethodId} {args : Array Value} {below : List Frame} {meth : Method} {c : Code} {Γ : GG} {res : Int32 × Sg} (M : MX RX5 cX5_runs 2 (some .boolean) p s m args meth c) (K : KK Γ s s.heap)  (x1 : Int32) (σ : Sg) (H : Heap) (locs : List Loc) (ls : Array Slot)  (hB : Bd Γ σ s H locs) (hl : lv_has ls 2 [(0, .ref (Γ.1 150)), (1, .int x1)]) (hr : f_X5_runs_144   x1 σ = some res) : WI Γ rm_X5_runs p l e s m args below meth c H locs res (F0 m 144 ls []) := by
  unfold f_X5_runs_144 at hr
  refine lv_aload_n M.1 M.2.1 dX5_runs_144 rfl (lv_at hl 0 rfl) ?_
  refine x_get5 M K hB isK_150 0 (by decide) wd_157 (v := .ref (Γ.1 151)) rfl dX5_runs_145 ?_
  refine lv_bipush (v := 14) M.1 M.2.1 dX5_runs_148 (by decide) ?_
  refine lv_iload_n M.1 M.2.1 dX5_runs_150 rfl (lv_at hl 1 rfl) ?_
  refine lv_if_eq (tgt := 158) M.1 M.2.1 dX5_runs_151 (by decide) (fun c_27 => ?_) (fun c_27 => ?_)
  · rw [if_pos c_27] at hr
    refine lv_aload_n M.1 M.2.1 dX5_runs_158 rfl (lv_at hl 0 rfl) ?_
    refine x_get5 M K hB isK_150 0 (by decide) wd_157 (v := .ref (Γ.1 151)) rfl dX5_runs_159 ?_
    refine lv_bipush (v := 14) M.1 M.2.1 dX5_runs_162 (by decide) ?_
    refine x_ialdL M K hB isA_151 (k := 14) (by decide) (by decide) dX5_runs_164 ?_
    exact w_X5_runs_165 M K   (σ 151 14) 14 _ _ _ _  hB (lv_sub hl [0] rfl) hr
  · rw [if_neg c_27] at hr
    refine lv_iconst (v := 0) M.1 M.2.1 dX5_runs_154 (by decide) ?_
    refine lv_goto (tgt := 165) M.1 M.2.1 dX5_runs_155 (by decide) ?_
    exact w_X5_runs_165 M K   0 14 _ _ _ _  hB (lv_sub hl [0] rfl) hr
def f_X5_runs_137   (s0 : Int32) (σ : Sg) : Option (Int32 × Sg) :=
cb (f_X5_makeReset_0 s0 (-6) σ) fun v_22 σ_23 =>
some (1, σ_23)
set_option maxHeartbeats 4000000 in
set_option maxRecDepth 100000 in
theorem w_X5_runs_137 {p : Program} {l : Launch} {e : Env} {s : State} {m : MethodId} {args : Array Value} {below : List Frame} {meth : Method} {c : Code} {Γ : GG} {res : Int32 × Sg} (M : MX RX5 cX5_runs 2 (some .boolean) p s m args meth c) (K : KK Γ s s.heap)  (s0 : Int32) (σ : Sg) (H : Heap) (locs : List Loc) (ls : Array Slot)  (hB : Bd Γ σ s H locs) (hl : lv_has ls 2 []) (hr : f_X5_runs_137   s0 σ = some res) : WI Γ rm_X5_runs p l e s m args below meth c H locs res (F0 m 137 ls [.int s0, .ref (Γ.1 150)]) := by
  unfold f_X5_runs_137 at hr
  refine lv_bipush (v := (-6)) M.1 M.2.1 dX5_runs_137 (by decide) ?_
  obtain ⟨v_22, σ_23, h_24, hr⟩ := cbd hr
  refine x_callV (x_runV M K hB hl.1 [.int s0, .int (-6)] (rest := []) rfl (c_X5_makeReset l Γ s0 (-6)  σ (v_22, σ_23) h_24) cy_X5_makeReset (x_recv K hB isK_150.2 (ent_5 isK_150.1) rfl) wd_185 ⟨rfl, rfl, Nat.le_of_ble_eq_true rfl, Nat.le_of_ble_eq_true rfl⟩ (Nat.le_of_ble_eq_true rfl) ⟨Nat.zero_le _, Nat.zero_le _⟩ dX5_runs_139) hB (fun H locs hB => ?_)
  replace hB : Bd Γ σ_23 s H locs := hB
  refine lv_iconst (v := 1) M.1 M.2.1 dX5_runs_142 (by decide) ?_
  exact x_zret M hB (nar_z (by decide)) (Option.some.inj hr) dX5_runs_143
def f_X5_runs_127   (x1 : Int32) (σ : Sg) : Option (Int32 × Sg) :=
if x1 = 0 then
f_X5_runs_137   2 σ
else
f_X5_runs_137   1 σ
set_option maxHeartbeats 4000000 in
set_option maxRecDepth 100000 in
theorem w_X5_runs_127 {p : Program} {l : Launch} {e : Env} {s : State} {m : MethodId} {args : Array Value} {below : List Frame} {meth : Method} {c : Code} {Γ : GG} {res : Int32 × Sg} (M : MX RX5 cX5_runs 2 (some .boolean) p s m args meth c) (K : KK Γ s s.heap)  (x1 : Int32) (σ : Sg) (H : Heap) (locs : List Loc) (ls : Array Slot)  (hB : Bd Γ σ s H locs) (hl : lv_has ls 2 [(0, .ref (Γ.1 150)), (1, .int x1)]) (hr : f_X5_runs_127   x1 σ = some res) : WI Γ rm_X5_runs p l e s m args below meth c H locs res (F0 m 127 ls []) := by
  unfold f_X5_runs_127 at hr
  refine lv_aload_n M.1 M.2.1 dX5_runs_127 rfl (lv_at hl 0 rfl) ?_
  refine lv_iload_n M.1 M.2.1 dX5_runs_128 rfl (lv_at hl 1 rfl) ?_
  refine lv_if_eq (tgt := 136) M.1 M.2.1 dX5_runs_129 (by decide) (fun c_21 => ?_) (fun c_21 => ?_)
  · rw [if_pos c_21] at hr
    refine lv_iconst (v := 2) M.1 M.2.1 dX5_runs_136 (by decide) ?_
    exact w_X5_runs_137 M K   2 _ _ _ _  hB (lv_sub hl [] rfl) hr
  · rw [if_neg c_21] at hr
    refine lv_iconst (v := 1) M.1 M.2.1 dX5_runs_132 (by decide) ?_
    refine lv_goto (tgt := 137) M.1 M.2.1 dX5_runs_133 (by decide) ?_
    exact w_X5_runs_137 M K   1 _ _ _ _  hB (lv_sub hl [] rfl) hr
def f_X5_runs_107   (x1 : Int32) (σ : Sg) : Option (Int32 × Sg) :=
if x1 = 0 then
if σ 151 14 ≤ σ 151 1 then
f_X5_runs_144   x1 σ
else
f_X5_runs_127   x1 σ
else
f_X5_runs_144   x1 σ
set_option maxHeartbeats 4000000 in
set_option maxRecDepth 100000 in
theorem w_X5_runs_107 {p : Program} {l : Launch} {e : Env} {s : State} {m : MethodId} {args : Array Value} {below : List Frame} {meth : Method} {c : Code} {Γ : GG} {res : Int32 × Sg} (M : MX RX5 cX5_runs 2 (some .boolean) p s m args meth c) (K : KK Γ s s.heap)  (x1 : Int32) (σ : Sg) (H : Heap) (locs : List Loc) (ls : Array Slot)  (hB : Bd Γ σ s H locs) (hl : lv_has ls 2 [(0, .ref (Γ.1 150)), (1, .int x1)]) (hr : f_X5_runs_107   x1 σ = some res) : WI Γ rm_X5_runs p l e s m args below meth c H locs res (F0 m 107 ls []) := by
  unfold f_X5_runs_107 at hr
  refine lv_iload_n M.1 M.2.1 dX5_runs_107 rfl (lv_at hl 1 rfl) ?_
  refine lv_if_ne (tgt := 144) M.1 M.2.1 dX5_runs_108 (by decide) (fun c_25 => ?_) (fun c_25 => ?_)
  · rw [if_neg c_25] at hr
    exact w_X5_runs_144 M K   x1 _ _ _ _  hB (lv_sub hl [0, 1] rfl) hr
  · rw [if_pos c_25] at hr
    refine lv_aload_n M.1 M.2.1 dX5_runs_111 rfl (lv_at hl 0 rfl) ?_
    refine x_get5 M K hB isK_150 0 (by decide) wd_157 (v := .ref (Γ.1 151)) rfl dX5_runs_112 ?_
    refine lv_bipush (v := 14) M.1 M.2.1 dX5_runs_115 (by decide) ?_
    refine x_ialdL M K hB isA_151 (k := 14) (by decide) (by decide) dX5_runs_117 ?_
    refine lv_aload_n M.1 M.2.1 dX5_runs_118 rfl (lv_at hl 0 rfl) ?_
    refine x_get5 M K hB isK_150 0 (by decide) wd_157 (v := .ref (Γ.1 151)) rfl dX5_runs_119 ?_
    refine lv_iconst (v := 1) M.1 M.2.1 dX5_runs_122 (by decide) ?_
    refine x_ialdL M K hB isA_151 (k := 1) (by decide) (by decide) dX5_runs_123 ?_
    refine lv_icmp_le (tgt := 144) M.1 M.2.1 dX5_runs_124 (by decide) (fun c_26 => ?_) (fun c_26 => ?_)
    · rw [if_pos c_26] at hr
      exact w_X5_runs_144 M K   x1 _ _ _ _  hB (lv_sub hl [0, 1] rfl) hr
    · rw [if_neg c_26] at hr
      exact w_X5_runs_127 M K   x1 _ _ _ _  hB (lv_sub hl [0, 1] rfl) hr
def f_X5_runs_86   (s0 : Int32) (σ : Sg) : Option (Int32 × Sg) :=
if s0 = 0 then
f_X5_runs_107   s0 σ
else
if σ 151 14 < σ 151 0 then
f_X5_runs_127   s0 σ
else
f_X5_runs_107   s0 σ
set_option maxHeartbeats 4000000 in
set_option maxRecDepth 100000 in
theorem w_X5_runs_86 {p : Program} {l : Launch} {e : Env} {s : State} {m : MethodId} {args : Array Value} {below : List Frame} {meth : Method} {c : Code} {Γ : GG} {res : Int32 × Sg} (M : MX RX5 cX5_runs 2 (some .boolean) p s m args meth c) (K : KK Γ s s.heap)  (s0 : Int32) (σ : Sg) (H : Heap) (locs : List Loc) (ls : Array Slot)  (hB : Bd Γ σ s H locs) (hl : lv_has ls 2 [(0, .ref (Γ.1 150))]) (hr : f_X5_runs_86   s0 σ = some res) : WI Γ rm_X5_runs p l e s m args below meth c H locs res (F0 m 86 ls [.int s0]) := by
  unfold f_X5_runs_86 at hr
  refine lv_istore_n (lv' := [(1, .int s0), (0, .ref (Γ.1 150))]) M.1 M.2.1 dX5_runs_86 rfl hl (by decide) rfl (fun ls hl => ?_)
  refine lv_iload_n M.1 M.2.1 dX5_runs_87 rfl (lv_at hl 0 rfl) ?_
  refine lv_if_eq (tgt := 107) M.1 M.2.1 dX5_runs_88 (by decide) (fun c_19 => ?_) (fun c_19 => ?_)
  · rw [if_pos c_19] at hr
    exact w_X5_runs_107 M K   s0 _ _ _ _  hB (lv_sub hl [1, 0] rfl) hr
  · rw [if_neg c_19] at hr
    refine lv_aload_n M.1 M.2.1 dX5_runs_91 rfl (lv_at hl 1 rfl) ?_
    refine x_get5 M K hB isK_150 0 (by decide) wd_157 (v := .ref (Γ.1 151)) rfl dX5_runs_92 ?_
    refine lv_bipush (v := 14) M.1 M.2.1 dX5_runs_95 (by decide) ?_
    refine x_ialdL M K hB isA_151 (k := 14) (by decide) (by decide) dX5_runs_97 ?_
    refine lv_aload_n M.1 M.2.1 dX5_runs_98 rfl (lv_at hl 1 rfl) ?_
    refine x_get5 M K hB isK_150 0 (by decide) wd_157 (v := .ref (Γ.1 151)) rfl dX5_runs_99 ?_
    refine lv_iconst (v := 0) M.1 M.2.1 dX5_runs_102 (by decide) ?_
    refine x_ialdL M K hB isA_151 (k := 0) (by decide) (by decide) dX5_runs_103 ?_
    refine lv_icmp_lt (tgt := 127) M.1 M.2.1 dX5_runs_104 (by decide) (fun c_20 => ?_) (fun c_20 => ?_)
    · rw [if_pos c_20] at hr
      exact w_X5_runs_127 M K   s0 _ _ _ _  hB (lv_sub hl [1, 0] rfl) hr
    · rw [if_neg c_20] at hr
      exact w_X5_runs_107 M K   s0 _ _ _ _  hB (lv_sub hl [1, 0] rfl) hr
def f_X5_runs_85    (σ : Sg) : Option (Int32 × Sg) :=
f_X5_runs_86   0 σ
set_option maxHeartbeats 4000000 in
set_option maxRecDepth 100000 in
theorem w_X5_runs_85 {p : Program} {l : Launch} {e : Env} {s : State} {m : MethodId} {args : Array Value} {below : List Frame} {meth : Method} {c : Code} {Γ : GG} {res : Int32 × Sg} (M : MX RX5 cX5_runs 2 (some .boolean) p s m args meth c) (K : KK Γ s s.heap)   (σ : Sg) (H : Heap) (locs : List Loc) (ls : Array Slot)  (hB : Bd Γ σ s H locs) (hl : lv_has ls 2 [(0, .ref (Γ.1 150))]) (hr : f_X5_runs_85    σ = some res) : WI Γ rm_X5_runs p l e s m args below meth c H locs res (F0 m 85 ls []) := by
  unfold f_X5_runs_85 at hr
  refine lv_iconst (v := 0) M.1 M.2.1 dX5_runs_85 (by decide) ?_
  exact w_X5_runs_86 M K   0 _ _ _ _  hB (lv_sub hl [0] rfl) hr
def f_X5_runs_24   : Nat → Int32 → Sg → Option (Int32 × Sg)
  | 0, _, _ => none
  | f + 1, x1, σ => if σ 151 17 ≤ x1 then
if σ 151 2 = 0 then none else
if (σ 151 13) - (σ 151 13) / (σ 151 2) * (σ 151 2) = 0 then
cb (f_X5_supervise_0  σ) fun v_8 σ_9 =>
if v_8 = 0 then
f_X5_runs_85    σ_9
else
f_X5_runs_86   1 σ_9
else
f_X5_runs_85    σ
else
cb (f_X5_crashes_0 x1 σ) fun v_12 σ_13 =>
if v_12 = 0 then
f_X5_runs_24   f (x1 + 1) σ_13
else
cb (f_X5_makeReset_0 3 x1 σ_13) fun v_16 σ_17 =>
some (1, σ_17)
set_option maxHeartbeats 4000000 in
set_option maxRecDepth 100000 in
theorem w_X5_runs_24 {p : Program} {l : Launch} {e : Env} {s : State} {m : MethodId} {args : Array Value} {below : List Frame} {meth : Method} {c : Code} {Γ : GG} {res : Int32 × Sg} (M : MX RX5 cX5_runs 2 (some .boolean) p s m args meth c) (K : KK Γ s s.heap)  : ∀ (f : Nat) (x1 : Int32) (σ : Sg) (H : Heap) (locs : List Loc) (ls : Array Slot)  (hB : Bd Γ σ s H locs) (hl : lv_has ls 2 [(0, .ref (Γ.1 150)), (1, .int x1)]) (hr : f_X5_runs_24   f x1 σ = some res), WI Γ rm_X5_runs p l e s m args below meth c H locs res (F0 m 24 ls []) := by
  intro f
  induction f with
  | zero => intros; rename_i hr; exact absurd hr (by rw [f_X5_runs_24]; exact fun h => by cases h)
  | succ f ih_24 =>
    intro x1 σ H locs ls  hB hl hr
    rw [f_X5_runs_24] at hr
    refine lv_iload_n M.1 M.2.1 dX5_runs_24 rfl (lv_at hl 1 rfl) ?_
    refine lv_aload_n M.1 M.2.1 dX5_runs_25 rfl (lv_at hl 0 rfl) ?_
    refine x_get5 M K hB isK_150 0 (by decide) wd_157 (v := .ref (Γ.1 151)) rfl dX5_runs_26 ?_
    refine lv_bipush (v := 17) M.1 M.2.1 dX5_runs_29 (by decide) ?_
    refine x_ialdL M K hB isA_151 (k := 17) (by decide) (by decide) dX5_runs_31 ?_
    refine lv_icmp_ge (tgt := 57) M.1 M.2.1 dX5_runs_32 (by decide) (fun c_5 => ?_) (fun c_5 => ?_)
    · rw [if_pos c_5] at hr
      refine lv_aload_n M.1 M.2.1 dX5_runs_57 rfl (lv_at hl 0 rfl) ?_
      refine x_get5 M K hB isK_150 0 (by decide) wd_157 (v := .ref (Γ.1 151)) rfl dX5_runs_58 ?_
      refine lv_bipush (v := 13) M.1 M.2.1 dX5_runs_61 (by decide) ?_
      refine x_ialdL M K hB isA_151 (k := 13) (by decide) (by decide) dX5_runs_63 ?_
      refine lv_aload_n M.1 M.2.1 dX5_runs_64 rfl (lv_at hl 0 rfl) ?_
      refine x_get5 M K hB isK_150 0 (by decide) wd_157 (v := .ref (Γ.1 151)) rfl dX5_runs_65 ?_
      refine lv_iconst (v := 2) M.1 M.2.1 dX5_runs_68 (by decide) ?_
      refine x_ialdL M K hB isA_151 (k := 2) (by decide) (by decide) dX5_runs_69 ?_
      obtain ⟨g_6, hr⟩ := gd hr
      refine lv_irem M.1 M.2.1 dX5_runs_70 g_6 ?_
      refine lv_if_ne (tgt := 85) M.1 M.2.1 dX5_runs_71 (by decide) (fun c_7 => ?_) (fun c_7 => ?_)
      · rw [if_neg c_7] at hr
        exact w_X5_runs_85 M K    _ _ _ _  hB (lv_sub hl [0] rfl) hr
      · rw [if_pos c_7] at hr
        refine lv_aload_n M.1 M.2.1 dX5_runs_74 rfl (lv_at hl 0 rfl) ?_
        obtain ⟨v_8, σ_9, h_10, hr⟩ := cbd hr
        refine x_callI (x_runV M K hB hl.1 [] (rest := []) rfl (c_X5_supervise l Γ   σ (v_8, σ_9) h_10) cy_X5_supervise (x_recv K hB isK_150.2 (ent_5 isK_150.1) rfl) wd_183 ⟨rfl, rfl, Nat.le_of_ble_eq_true rfl, Nat.le_of_ble_eq_true rfl⟩ (Nat.le_of_ble_eq_true rfl) ⟨Nat.zero_le _, Nat.zero_le _⟩ dX5_runs_75) hB (fun H locs hB => ?_)
        replace hB : Bd Γ σ_9 s H locs := hB
        refine lv_if_eq (tgt := 85) M.1 M.2.1 dX5_runs_78 (by decide) (fun c_11 => ?_) (fun c_11 => ?_)
        · rw [if_pos c_11] at hr
          exact w_X5_runs_85 M K    _ _ _ _  hB (lv_sub hl [0] rfl) hr
        · rw [if_neg c_11] at hr
          refine lv_iconst (v := 1) M.1 M.2.1 dX5_runs_81 (by decide) ?_
          refine lv_goto (tgt := 86) M.1 M.2.1 dX5_runs_82 (by decide) ?_
          exact w_X5_runs_86 M K   1 _ _ _ _  hB (lv_sub hl [0] rfl) hr
    · rw [if_neg c_5] at hr
      refine lv_aload_n M.1 M.2.1 dX5_runs_35 rfl (lv_at hl 0 rfl) ?_
      refine lv_iload_n M.1 M.2.1 dX5_runs_36 rfl (lv_at hl 1 rfl) ?_
      obtain ⟨v_12, σ_13, h_14, hr⟩ := cbd hr
      refine x_callI (x_runV M K hB hl.1 [.int x1] (rest := []) rfl (c_X5_crashes l Γ x1  σ (v_12, σ_13) h_14) cy_X5_crashes (x_recv K hB isK_150.2 (ent_5 isK_150.1) rfl) wd_184 ⟨rfl, rfl, Nat.le_of_ble_eq_true rfl, Nat.le_of_ble_eq_true rfl⟩ (Nat.le_of_ble_eq_true rfl) ⟨Nat.zero_le _, Nat.zero_le _⟩ dX5_runs_37) hB (fun H locs hB => ?_)
      replace hB : Bd Γ σ_13 s H locs := hB
      refine lv_if_eq (tgt := 51) M.1 M.2.1 dX5_runs_40 (by decide) (fun c_15 => ?_) (fun c_15 => ?_)
      · rw [if_pos c_15] at hr
        refine lv_iinc (v := x1 + 1) (lv' := [(1, .int (x1 + 1)), (0, .ref (Γ.1 150))]) M.1 M.2.1 dX5_runs_51 hl (k := 1) rfl rfl (by decide) rfl (fun ls hl => ?_)
        refine lv_goto (tgt := 24) M.1 M.2.1 dX5_runs_54 (by decide) ?_
        exact ih_24 (x1 + 1) _ _ _ _  hB (lv_sub hl [1, 0] rfl) hr
      · rw [if_neg c_15] at hr
        refine lv_aload_n M.1 M.2.1 dX5_runs_43 rfl (lv_at hl 0 rfl) ?_
        refine lv_iconst (v := 3) M.1 M.2.1 dX5_runs_44 (by decide) ?_
        refine lv_iload_n M.1 M.2.1 dX5_runs_45 rfl (lv_at hl 1 rfl) ?_
        obtain ⟨v_16, σ_17, h_18, hr⟩ := cbd hr
        refine x_callV (x_runV M K hB hl.1 [.int 3, .int x1] (rest := []) rfl (c_X5_makeReset l Γ 3 x1  σ_13 (v_16, σ_17) h_18) cy_X5_makeReset (x_recv K hB isK_150.2 (ent_5 isK_150.1) rfl) wd_185 ⟨rfl, rfl, Nat.le_of_ble_eq_true rfl, Nat.le_of_ble_eq_true rfl⟩ (Nat.le_of_ble_eq_true rfl) ⟨Nat.zero_le _, Nat.zero_le _⟩ dX5_runs_46) hB (fun H locs hB => ?_)
        replace hB : Bd Γ σ_17 s H locs := hB
        refine lv_iconst (v := 1) M.1 M.2.1 dX5_runs_49 (by decide) ?_
        exact x_zret M hB (nar_z (by decide)) (Option.some.inj hr) dX5_runs_50
def f_X5_runs_0    (σ : Sg) : Option (Int32 × Sg) :=
wb (st σ 151 13 ((σ 151 13) + 1)) fun σ_1 =>
wb (st σ_1 151 14 ((σ_1 151 14) + 1)) fun σ_3 =>
f_X5_runs_24   FU 0 σ_3
set_option maxHeartbeats 4000000 in
set_option maxRecDepth 100000 in
theorem w_X5_runs_0 {p : Program} {l : Launch} {e : Env} {s : State} {m : MethodId} {args : Array Value} {below : List Frame} {meth : Method} {c : Code} {Γ : GG} {res : Int32 × Sg} (M : MX RX5 cX5_runs 2 (some .boolean) p s m args meth c) (K : KK Γ s s.heap)   (σ : Sg) (H : Heap) (locs : List Loc) (ls : Array Slot)  (hB : Bd Γ σ s H locs) (hl : lv_has ls 2 [(0, .ref (Γ.1 150))]) (hr : f_X5_runs_0    σ = some res) : WI Γ rm_X5_runs p l e s m args below meth c H locs res (F0 m 0 ls []) := by
  unfold f_X5_runs_0 at hr
  refine lv_aload_n M.1 M.2.1 dX5_runs_0 rfl (lv_at hl 0 rfl) ?_
  refine x_get5 M K hB isK_150 0 (by decide) wd_157 (v := .ref (Γ.1 151)) rfl dX5_runs_1 ?_
  refine lv_bipush (v := 13) M.1 M.2.1 dX5_runs_4 (by decide) ?_
  refine lv_dup2_11 M.1 M.2.1 dX5_runs_6 rfl rfl ?_
  refine x_ialdL M K hB isA_151 (k := 13) (by decide) (by decide) dX5_runs_7 ?_
  refine lv_iconst (v := 1) M.1 M.2.1 dX5_runs_8 (by decide) ?_
  refine lv_iadd M.1 M.2.1 dX5_runs_9 ?_
  obtain ⟨σ_1, e_2, hr⟩ := wbd hr
  refine x_iastL M K hB isA_151 (k := 13) (by decide) (by decide) dX5_runs_10 (fun H locs hB => ?_)
  rw [← e_2] at hB
  refine lv_aload_n M.1 M.2.1 dX5_runs_11 rfl (lv_at hl 0 rfl) ?_
  refine x_get5 M K hB isK_150 0 (by decide) wd_157 (v := .ref (Γ.1 151)) rfl dX5_runs_12 ?_
  refine lv_bipush (v := 14) M.1 M.2.1 dX5_runs_15 (by decide) ?_
  refine lv_dup2_11 M.1 M.2.1 dX5_runs_17 rfl rfl ?_
  refine x_ialdL M K hB isA_151 (k := 14) (by decide) (by decide) dX5_runs_18 ?_
  refine lv_iconst (v := 1) M.1 M.2.1 dX5_runs_19 (by decide) ?_
  refine lv_iadd M.1 M.2.1 dX5_runs_20 ?_
  obtain ⟨σ_3, e_4, hr⟩ := wbd hr
  refine x_iastL M K hB isA_151 (k := 14) (by decide) (by decide) dX5_runs_21 (fun H locs hB => ?_)
  rw [← e_4] at hB
  refine lv_iconst (v := 0) M.1 M.2.1 dX5_runs_22 (by decide) ?_
  refine lv_istore_n (lv' := [(1, .int 0), (0, .ref (Γ.1 150))]) M.1 M.2.1 dX5_runs_23 rfl hl (by decide) rfl (fun ls hl => ?_)
  exact w_X5_runs_24 M K   FU 0 _ _ _ _  hB (lv_sub hl [1, 0] rfl) hr
theorem c_X5_runs (l : Launch) (Γ : GG)   (σ : Sg) (res : Int32 × Sg) (hr : f_X5_runs_0  σ = some res) : Met l yX5_runs (Cond.code yX5_runs cX5_runs 2 (some .boolean) :: gtb) rm_X5_runs (va_Pc [.ref (Γ.1 150)] (GI Γ σ)) (QI Γ res) 0 0 (AD Γ) :=
  x_metI (by decide) [.ref (Γ.1 150)] (Nat.le_of_ble_eq_true rfl) (fun p e s m args below meth c M K ls hl hB => w_X5_runs_0 M K  σ _ _ ls hB hl hr)
abbrev rm_X5_tick : Room := { frames := 6, cells := 0, slots := 0, locals := 130 }
def f_X5_tick_56   (x1 : Int32) (σ : Sg) : Option (Int32 × Sg) :=
wb (st σ 151 8 ((σ 151 8) + 1)) fun σ_12 =>
if x1 = 0 ∨ x1 = 1 then some (x1, σ_12) else none
set_option maxHeartbeats 4000000 in
set_option maxRecDepth 100000 in
theorem w_X5_tick_56 {p : Program} {l : Launch} {e : Env} {s : State} {m : MethodId} {args : Array Value} {below : List Frame} {meth : Method} {c : Code} {Γ : GG} {res : Int32 × Sg} (M : MX RX5 cX5_tick 2 (some .boolean) p s m args meth c) (K : KK Γ s s.heap)  (x1 : Int32) (σ : Sg) (H : Heap) (locs : List Loc) (ls : Array Slot)  (hB : Bd Γ σ s H locs) (hl : lv_has ls 2 [(0, .ref (Γ.1 150)), (1, .int x1)]) (hr : f_X5_tick_56   x1 σ = some res) : WI Γ rm_X5_tick p l e s m args below meth c H locs res (F0 m 56 ls []) := by
  unfold f_X5_tick_56 at hr
  refine lv_aload_n M.1 M.2.1 dX5_tick_56 rfl (lv_at hl 0 rfl) ?_
  refine x_get5 M K hB isK_150 0 (by decide) wd_157 (v := .ref (Γ.1 151)) rfl dX5_tick_57 ?_
  refine lv_bipush (v := 8) M.1 M.2.1 dX5_tick_60 (by decide) ?_
  refine lv_dup2_11 M.1 M.2.1 dX5_tick_62 rfl rfl ?_
  refine x_ialdL M K hB isA_151 (k := 8) (by decide) (by decide) dX5_tick_63 ?_
  refine lv_iconst (v := 1) M.1 M.2.1 dX5_tick_64 (by decide) ?_
  refine lv_iadd M.1 M.2.1 dX5_tick_65 ?_
  obtain ⟨σ_12, e_13, hr⟩ := wbd hr
  refine x_iastL M K hB isA_151 (k := 8) (by decide) (by decide) dX5_tick_66 (fun H locs hB => ?_)
  rw [← e_13] at hB
  refine lv_iload_n M.1 M.2.1 dX5_tick_67 rfl (lv_at hl 1 rfl) ?_
  obtain ⟨g_14, hr⟩ := gd2 hr
  exact x_zret M hB (nar_z g_14) (Option.some.inj hr) dX5_tick_68
def f_X5_tick_0    (σ : Sg) : Option (Int32 × Sg) :=
if σ 151 9 = 0 then
wb (st σ 151 12 ((σ 151 12) - 1)) fun σ_6 =>
if σ_6 151 12 = 0 then
cb (f_X5_beginToRun_0  σ_6) fun v_9 σ_10 =>
f_X5_tick_56   0 σ_10
else
f_X5_tick_56   0 σ_6
else
if σ 151 9 = 1 then
cb (f_X5_runs_0  σ) fun v_3 σ_4 =>
f_X5_tick_56   v_3 σ_4
else
f_X5_tick_56   0 σ
set_option maxHeartbeats 4000000 in
set_option maxRecDepth 100000 in
theorem w_X5_tick_0 {p : Program} {l : Launch} {e : Env} {s : State} {m : MethodId} {args : Array Value} {below : List Frame} {meth : Method} {c : Code} {Γ : GG} {res : Int32 × Sg} (M : MX RX5 cX5_tick 2 (some .boolean) p s m args meth c) (K : KK Γ s s.heap)   (σ : Sg) (H : Heap) (locs : List Loc) (ls : Array Slot)  (hB : Bd Γ σ s H locs) (hl : lv_has ls 2 [(0, .ref (Γ.1 150))]) (hr : f_X5_tick_0    σ = some res) : WI Γ rm_X5_tick p l e s m args below meth c H locs res (F0 m 0 ls []) := by
  unfold f_X5_tick_0 at hr
  refine lv_iconst (v := 0) M.1 M.2.1 dX5_tick_0 (by decide) ?_
  refine lv_istore_n (lv' := [(1, .int 0), (0, .ref (Γ.1 150))]) M.1 M.2.1 dX5_tick_1 rfl hl (by decide) rfl (fun ls hl => ?_)
  refine lv_aload_n M.1 M.2.1 dX5_tick_2 rfl (lv_at hl 1 rfl) ?_
  refine x_get5 M K hB isK_150 0 (by decide) wd_157 (v := .ref (Γ.1 151)) rfl dX5_tick_3 ?_
  refine lv_bipush (v := 9) M.1 M.2.1 dX5_tick_6 (by decide) ?_
  refine x_ialdL M K hB isA_151 (k := 9) (by decide) (by decide) dX5_tick_8 ?_
  refine lv_if_ne (tgt := 40) M.1 M.2.1 dX5_tick_9 (by decide) (fun c_1 => ?_) (fun c_1 => ?_)
  · rw [if_neg c_1] at hr
    refine lv_aload_n M.1 M.2.1 dX5_tick_40 rfl (lv_at hl 1 rfl) ?_
    refine x_get5 M K hB isK_150 0 (by decide) wd_157 (v := .ref (Γ.1 151)) rfl dX5_tick_41 ?_
    refine lv_bipush (v := 9) M.1 M.2.1 dX5_tick_44 (by decide) ?_
    refine x_ialdL M K hB isA_151 (k := 9) (by decide) (by decide) dX5_tick_46 ?_
    refine lv_iconst (v := 1) M.1 M.2.1 dX5_tick_47 (by decide) ?_
    refine lv_icmp_ne (tgt := 56) M.1 M.2.1 dX5_tick_48 (by decide) (fun c_2 => ?_) (fun c_2 => ?_)
    · rw [if_neg c_2] at hr
      exact w_X5_tick_56 M K   0 _ _ _ _  hB (lv_sub hl [1, 0] rfl) hr
    · rw [if_pos c_2] at hr
      refine lv_aload_n M.1 M.2.1 dX5_tick_51 rfl (lv_at hl 1 rfl) ?_
      obtain ⟨v_3, σ_4, h_5, hr⟩ := cbd hr
      refine x_callI (x_runV M K hB hl.1 [] (rest := []) rfl (c_X5_runs l Γ   σ (v_3, σ_4) h_5) cy_X5_runs (x_recv K hB isK_150.2 (ent_5 isK_150.1) rfl) wd_186 ⟨rfl, rfl, Nat.le_of_ble_eq_true rfl, Nat.le_of_ble_eq_true rfl⟩ (Nat.le_of_ble_eq_true rfl) ⟨Nat.zero_le _, Nat.zero_le _⟩ dX5_tick_52) hB (fun H locs hB => ?_)
      replace hB : Bd Γ σ_4 s H locs := hB
      refine lv_istore_n (lv' := [(1, .int v_3), (0, .ref (Γ.1 150))]) M.1 M.2.1 dX5_tick_55 rfl hl (by decide) rfl (fun ls hl => ?_)
      exact w_X5_tick_56 M K   v_3 _ _ _ _  hB (lv_sub hl [1, 0] rfl) hr
  · rw [if_pos c_1] at hr
    refine lv_aload_n M.1 M.2.1 dX5_tick_12 rfl (lv_at hl 1 rfl) ?_
    refine x_get5 M K hB isK_150 0 (by decide) wd_157 (v := .ref (Γ.1 151)) rfl dX5_tick_13 ?_
    refine lv_bipush (v := 12) M.1 M.2.1 dX5_tick_16 (by decide) ?_
    refine lv_dup2_11 M.1 M.2.1 dX5_tick_18 rfl rfl ?_
    refine x_ialdL M K hB isA_151 (k := 12) (by decide) (by decide) dX5_tick_19 ?_
    refine lv_iconst (v := 1) M.1 M.2.1 dX5_tick_20 (by decide) ?_
    refine lv_isub M.1 M.2.1 dX5_tick_21 ?_
    obtain ⟨σ_6, e_7, hr⟩ := wbd hr
    refine x_iastL M K hB isA_151 (k := 12) (by decide) (by decide) dX5_tick_22 (fun H locs hB => ?_)
    rw [← e_7] at hB
    refine lv_aload_n M.1 M.2.1 dX5_tick_23 rfl (lv_at hl 1 rfl) ?_
    refine x_get5 M K hB isK_150 0 (by decide) wd_157 (v := .ref (Γ.1 151)) rfl dX5_tick_24 ?_
    refine lv_bipush (v := 12) M.1 M.2.1 dX5_tick_27 (by decide) ?_
    refine x_ialdL M K hB isA_151 (k := 12) (by decide) (by decide) dX5_tick_29 ?_
    refine lv_if_ne (tgt := 56) M.1 M.2.1 dX5_tick_30 (by decide) (fun c_8 => ?_) (fun c_8 => ?_)
    · rw [if_neg c_8] at hr
      exact w_X5_tick_56 M K   0 _ _ _ _  hB (lv_sub hl [1, 0] rfl) hr
    · rw [if_pos c_8] at hr
      refine lv_aload_n M.1 M.2.1 dX5_tick_33 rfl (lv_at hl 1 rfl) ?_
      obtain ⟨v_9, σ_10, h_11, hr⟩ := cbd hr
      refine x_callV (x_runV M K hB hl.1 [] (rest := []) rfl (c_X5_beginToRun l Γ   σ_6 (v_9, σ_10) h_11) cy_X5_beginToRun (x_recv K hB isK_150.2 (ent_5 isK_150.1) rfl) wd_187 ⟨rfl, rfl, Nat.le_of_ble_eq_true rfl, Nat.le_of_ble_eq_true rfl⟩ (Nat.le_of_ble_eq_true rfl) ⟨Nat.zero_le _, Nat.zero_le _⟩ dX5_tick_34) hB (fun H locs hB => ?_)
      replace hB : Bd Γ σ_10 s H locs := hB
      refine lv_goto (tgt := 56) M.1 M.2.1 dX5_tick_37 (by decide) ?_
      exact w_X5_tick_56 M K   0 _ _ _ _  hB (lv_sub hl [1, 0] rfl) hr
theorem c_X5_tick (l : Launch) (Γ : GG)   (σ : Sg) (res : Int32 × Sg) (hr : f_X5_tick_0  σ = some res) : Met l yX5_tick (Cond.code yX5_tick cX5_tick 2 (some .boolean) :: gtb) rm_X5_tick (va_Pc [.ref (Γ.1 150)] (GI Γ σ)) (QI Γ res) 0 0 (AD Γ) :=
  x_metI (by decide) [.ref (Γ.1 150)] (Nat.le_of_ble_eq_true rfl) (fun p e s m args below meth c M K ls hl hB => w_X5_tick_0 M K  σ _ _ ls hB hl hr)
abbrev rm_X5_run : Room := { frames := 7, cells := 0, slots := 0, locals := 151 }
def f_X5_run_33 (a0 : Int32)  : Nat → Int32 → Int32 → Sg → Option (Int32 × Sg)
  | 0, _, _, _ => none
  | f + 1, x1, x2, σ => if x1 ≤ x2 then
some (σ 151 8, σ)
else
cb (f_X5_tick_0  σ) fun v_7 σ_8 =>
f_X5_run_33 a0  f x1 (x2 + 1) σ_8
set_option maxHeartbeats 4000000 in
set_option maxRecDepth 100000 in
theorem w_X5_run_33 {p : Program} {l : Launch} {e : Env} {s : State} {m : MethodId} {args : Array Value} {below : List Frame} {meth : Method} {c : Code} {Γ : GG} {res : Int32 × Sg} (M : MX RX5 cX5_run 3 (some .int) p s m args meth c) (K : KK Γ s s.heap) (a0 : Int32) : ∀ (f : Nat) (x1 : Int32) (x2 : Int32) (σ : Sg) (H : Heap) (locs : List Loc) (ls : Array Slot)  (hB : Bd Γ σ s H locs) (hl : lv_has ls 3 [(0, .ref (Γ.1 150)), (1, .int x1), (2, .int x2)]) (hr : f_X5_run_33 a0  f x1 x2 σ = some res), WI Γ rm_X5_run p l e s m args below meth c H locs res (F0 m 33 ls []) := by
  intro f
  induction f with
  | zero => intros; rename_i hr; exact absurd hr (by rw [f_X5_run_33]; exact fun h => by cases h)
  | succ f ih_33 =>
    intro x1 x2 σ H locs ls  hB hl hr
    rw [f_X5_run_33] at hr
    refine lv_iload_n M.1 M.2.1 dX5_run_33 rfl (lv_at hl 2 rfl) ?_
    refine lv_iload_n M.1 M.2.1 dX5_run_34 rfl (lv_at hl 1 rfl) ?_
    refine lv_icmp_ge (tgt := 49) M.1 M.2.1 dX5_run_35 (by decide) (fun c_6 => ?_) (fun c_6 => ?_)
    · rw [if_pos c_6] at hr
      refine lv_aload_n M.1 M.2.1 dX5_run_49 rfl (lv_at hl 0 rfl) ?_
      refine x_get5 M K hB isK_150 0 (by decide) wd_157 (v := .ref (Γ.1 151)) rfl dX5_run_50 ?_
      refine lv_bipush (v := 8) M.1 M.2.1 dX5_run_53 (by decide) ?_
      refine x_ialdL M K hB isA_151 (k := 8) (by decide) (by decide) dX5_run_55 ?_
      exact x_iret M hB (Option.some.inj hr) dX5_run_56
    · rw [if_neg c_6] at hr
      refine lv_aload_n M.1 M.2.1 dX5_run_38 rfl (lv_at hl 0 rfl) ?_
      obtain ⟨v_7, σ_8, h_9, hr⟩ := cbd hr
      refine x_callI (x_runV M K hB hl.1 [] (rest := []) rfl (c_X5_tick l Γ   σ (v_7, σ_8) h_9) cy_X5_tick (x_recv K hB isK_150.2 (ent_5 isK_150.1) rfl) wd_189 ⟨rfl, rfl, Nat.le_of_ble_eq_true rfl, Nat.le_of_ble_eq_true rfl⟩ (Nat.le_of_ble_eq_true rfl) ⟨Nat.zero_le _, Nat.zero_le _⟩ dX5_run_39) hB (fun H locs hB => ?_)
      replace hB : Bd Γ σ_8 s H locs := hB
      refine lv_pop M.1 M.2.1 dX5_run_42 rfl ?_
      refine lv_iinc (v := x2 + 1) (lv' := [(2, .int (x2 + 1)), (0, .ref (Γ.1 150)), (1, .int x1)]) M.1 M.2.1 dX5_run_43 hl (k := 2) rfl rfl (by decide) rfl (fun ls hl => ?_)
      refine lv_goto (tgt := 33) M.1 M.2.1 dX5_run_46 (by decide) ?_
      exact ih_33 x1 (x2 + 1) _ _ _ _  hB (lv_sub hl [1, 2, 0] rfl) hr
def f_X5_run_0 (a0 : Int32)   (σ : Sg) : Option (Int32 × Sg) :=
cb (f_X5_in_0 a0 1 2000 σ) fun v_1 σ_2 =>
if v_1 = 0 then
some ((-2), σ_2)
else
if (σ_2 151 8) + a0 ≤ 1000000 then
f_X5_run_33 a0  FU a0 0 σ_2
else
some ((-5), σ_2)
set_option maxHeartbeats 4000000 in
set_option maxRecDepth 100000 in
theorem w_X5_run_0 {p : Program} {l : Launch} {e : Env} {s : State} {m : MethodId} {args : Array Value} {below : List Frame} {meth : Method} {c : Code} {Γ : GG} {res : Int32 × Sg} (M : MX RX5 cX5_run 3 (some .int) p s m args meth c) (K : KK Γ s s.heap) (a0 : Int32)  (σ : Sg) (H : Heap) (locs : List Loc) (ls : Array Slot)  (hB : Bd Γ σ s H locs) (hl : lv_has ls 3 [(0, .ref (Γ.1 150)), (1, .int a0)]) (hr : f_X5_run_0 a0   σ = some res) : WI Γ rm_X5_run p l e s m args below meth c H locs res (F0 m 0 ls []) := by
  unfold f_X5_run_0 at hr
  refine lv_iload_n M.1 M.2.1 dX5_run_0 rfl (lv_at hl 1 rfl) ?_
  refine lv_iconst (v := 1) M.1 M.2.1 dX5_run_1 (by decide) ?_
  refine lv_sipush (v := 2000) M.1 M.2.1 dX5_run_2 (by decide) ?_
  obtain ⟨v_1, σ_2, h_3, hr⟩ := cbd hr
  refine x_callI (x_runS M K hB hl.1 [.int a0, .int 1, .int 2000] (rest := []) rfl (c_X5_in l Γ a0 1 2000  σ (v_1, σ_2) h_3) cy_X5_in wd_155 ⟨rfl, rfl, Nat.le_of_ble_eq_true rfl, Nat.le_of_ble_eq_true rfl⟩ (Nat.le_of_ble_eq_true rfl) ⟨Nat.zero_le _, Nat.zero_le _⟩ dX5_run_5) hB (fun H locs hB => ?_)
  replace hB : Bd Γ σ_2 s H locs := hB
  refine lv_if_ne (tgt := 14) M.1 M.2.1 dX5_run_8 (by decide) (fun c_4 => ?_) (fun c_4 => ?_)
  · rw [if_neg c_4] at hr
    refine lv_aload_n M.1 M.2.1 dX5_run_14 rfl (lv_at hl 0 rfl) ?_
    refine x_get5 M K hB isK_150 0 (by decide) wd_157 (v := .ref (Γ.1 151)) rfl dX5_run_15 ?_
    refine lv_bipush (v := 8) M.1 M.2.1 dX5_run_18 (by decide) ?_
    refine x_ialdL M K hB isA_151 (k := 8) (by decide) (by decide) dX5_run_20 ?_
    refine lv_iload_n M.1 M.2.1 dX5_run_21 rfl (lv_at hl 1 rfl) ?_
    refine lv_iadd M.1 M.2.1 dX5_run_22 ?_
    refine x_ldc (v := 1000000) M wd_188 dX5_run_23 ?_
    refine lv_icmp_le (tgt := 31) M.1 M.2.1 dX5_run_25 (by decide) (fun c_5 => ?_) (fun c_5 => ?_)
    · rw [if_pos c_5] at hr
      refine lv_iconst (v := 0) M.1 M.2.1 dX5_run_31 (by decide) ?_
      refine lv_istore_n (lv' := [(2, .int 0), (0, .ref (Γ.1 150)), (1, .int a0)]) M.1 M.2.1 dX5_run_32 rfl hl (by decide) rfl (fun ls hl => ?_)
      exact w_X5_run_33 M K a0  FU a0 0 _ _ _ _  hB (lv_sub hl [1, 2, 0] rfl) hr
    · rw [if_neg c_5] at hr
      refine lv_bipush (v := (-5)) M.1 M.2.1 dX5_run_28 (by decide) ?_
      exact x_iret M hB (Option.some.inj hr) dX5_run_30
  · rw [if_pos c_4] at hr
    refine lv_bipush (v := (-2)) M.1 M.2.1 dX5_run_11 (by decide) ?_
    exact x_iret M hB (Option.some.inj hr) dX5_run_13
theorem c_X5_run (l : Launch) (Γ : GG) (a0 : Int32)  (σ : Sg) (res : Int32 × Sg) (hr : f_X5_run_0 a0 σ = some res) : Met l yX5_run (Cond.code yX5_run cX5_run 3 (some .int) :: gtb) rm_X5_run (va_Pc [.ref (Γ.1 150), .int a0] (GI Γ σ)) (QI Γ res) 0 0 (AD Γ) :=
  x_metI (by decide) [.ref (Γ.1 150), .int a0] (Nat.le_of_ble_eq_true rfl) (fun p e s m args below meth c M K ls hl hB => w_X5_run_0 M K a0 σ _ _ ls hB hl hr)
abbrev rm_X5_tickOfReset : Room := { frames := 7, cells := 0, slots := 0, locals := 151 }
def f_X5_tickOfReset_2 (a0 : Int32)  : Nat → Int32 → Int32 → Sg → Option (Int32 × Sg)
  | 0, _, _, _ => none
  | f + 1, x1, x2, σ => if x1 < x2 then
some ((-6), σ)
else
cb (f_X5_tick_0  σ) fun v_2 σ_3 =>
if v_2 = 0 then
f_X5_tickOfReset_2 a0  f x1 (x2 + 1) σ_3
else
some (x2, σ_3)
set_option maxHeartbeats 4000000 in
set_option maxRecDepth 100000 in
theorem w_X5_tickOfReset_2 {p : Program} {l : Launch} {e : Env} {s : State} {m : MethodId} {args : Array Value} {below : List Frame} {meth : Method} {c : Code} {Γ : GG} {res : Int32 × Sg} (M : MX RX5 cX5_tickOfReset 3 (some .int) p s m args meth c) (K : KK Γ s s.heap) (a0 : Int32) : ∀ (f : Nat) (x1 : Int32) (x2 : Int32) (σ : Sg) (H : Heap) (locs : List Loc) (ls : Array Slot)  (hB : Bd Γ σ s H locs) (hl : lv_has ls 3 [(0, .ref (Γ.1 150)), (1, .int x1), (2, .int x2)]) (hr : f_X5_tickOfReset_2 a0  f x1 x2 σ = some res), WI Γ rm_X5_tickOfReset p l e s m args below meth c H locs res (F0 m 2 ls []) := by
  intro f
  induction f with
  | zero => intros; rename_i hr; exact absurd hr (by rw [f_X5_tickOfReset_2]; exact fun h => by cases h)
  | succ f ih_2 =>
    intro x1 x2 σ H locs ls  hB hl hr
    rw [f_X5_tickOfReset_2] at hr
    refine lv_iload_n M.1 M.2.1 dX5_tickOfReset_2 rfl (lv_at hl 2 rfl) ?_
    refine lv_iload_n M.1 M.2.1 dX5_tickOfReset_3 rfl (lv_at hl 1 rfl) ?_
    refine lv_icmp_gt (tgt := 22) M.1 M.2.1 dX5_tickOfReset_4 (by decide) (fun c_1 => ?_) (fun c_1 => ?_)
    · rw [if_pos c_1] at hr
      refine lv_bipush (v := (-6)) M.1 M.2.1 dX5_tickOfReset_22 (by decide) ?_
      exact x_iret M hB (Option.some.inj hr) dX5_tickOfReset_24
    · rw [if_neg c_1] at hr
      refine lv_aload_n M.1 M.2.1 dX5_tickOfReset_7 rfl (lv_at hl 0 rfl) ?_
      obtain ⟨v_2, σ_3, h_4, hr⟩ := cbd hr
      refine x_callI (x_runV M K hB hl.1 [] (rest := []) rfl (c_X5_tick l Γ   σ (v_2, σ_3) h_4) cy_X5_tick (x_recv K hB isK_150.2 (ent_5 isK_150.1) rfl) wd_189 ⟨rfl, rfl, Nat.le_of_ble_eq_true rfl, Nat.le_of_ble_eq_true rfl⟩ (Nat.le_of_ble_eq_true rfl) ⟨Nat.zero_le _, Nat.zero_le _⟩ dX5_tickOfReset_8) hB (fun H locs hB => ?_)
      replace hB : Bd Γ σ_3 s H locs := hB
      refine lv_if_eq (tgt := 16) M.1 M.2.1 dX5_tickOfReset_11 (by decide) (fun c_5 => ?_) (fun c_5 => ?_)
      · rw [if_pos c_5] at hr
        refine lv_iinc (v := x2 + 1) (lv' := [(2, .int (x2 + 1)), (0, .ref (Γ.1 150)), (1, .int x1)]) M.1 M.2.1 dX5_tickOfReset_16 hl (k := 2) rfl rfl (by decide) rfl (fun ls hl => ?_)
        refine lv_goto (tgt := 2) M.1 M.2.1 dX5_tickOfReset_19 (by decide) ?_
        exact ih_2 x1 (x2 + 1) _ _ _ _  hB (lv_sub hl [1, 2, 0] rfl) hr
      · rw [if_neg c_5] at hr
        refine lv_iload_n M.1 M.2.1 dX5_tickOfReset_14 rfl (lv_at hl 2 rfl) ?_
        exact x_iret M hB (Option.some.inj hr) dX5_tickOfReset_15
def f_X5_tickOfReset_0 (a0 : Int32)   (σ : Sg) : Option (Int32 × Sg) :=
f_X5_tickOfReset_2 a0  FU a0 1 σ
set_option maxHeartbeats 4000000 in
set_option maxRecDepth 100000 in
theorem w_X5_tickOfReset_0 {p : Program} {l : Launch} {e : Env} {s : State} {m : MethodId} {args : Array Value} {below : List Frame} {meth : Method} {c : Code} {Γ : GG} {res : Int32 × Sg} (M : MX RX5 cX5_tickOfReset 3 (some .int) p s m args meth c) (K : KK Γ s s.heap) (a0 : Int32)  (σ : Sg) (H : Heap) (locs : List Loc) (ls : Array Slot)  (hB : Bd Γ σ s H locs) (hl : lv_has ls 3 [(0, .ref (Γ.1 150)), (1, .int a0)]) (hr : f_X5_tickOfReset_0 a0   σ = some res) : WI Γ rm_X5_tickOfReset p l e s m args below meth c H locs res (F0 m 0 ls []) := by
  unfold f_X5_tickOfReset_0 at hr
  refine lv_iconst (v := 1) M.1 M.2.1 dX5_tickOfReset_0 (by decide) ?_
  refine lv_istore_n (lv' := [(2, .int 1), (0, .ref (Γ.1 150)), (1, .int a0)]) M.1 M.2.1 dX5_tickOfReset_1 rfl hl (by decide) rfl (fun ls hl => ?_)
  exact w_X5_tickOfReset_2 M K a0  FU a0 1 _ _ _ _  hB (lv_sub hl [1, 2, 0] rfl) hr
theorem c_X5_tickOfReset (l : Launch) (Γ : GG) (a0 : Int32)  (σ : Sg) (res : Int32 × Sg) (hr : f_X5_tickOfReset_0 a0 σ = some res) : Met l yX5_tickOfReset (Cond.code yX5_tickOfReset cX5_tickOfReset 3 (some .int) :: gtb) rm_X5_tickOfReset (va_Pc [.ref (Γ.1 150), .int a0] (GI Γ σ)) (QI Γ res) 0 0 (AD Γ) :=
  x_metI (by decide) [.ref (Γ.1 150), .int a0] (Nat.le_of_ble_eq_true rfl) (fun p e s m args below meth c M K ls hl hB => w_X5_tickOfReset_0 M K a0 σ _ _ ls hB hl hr)
abbrev rm_X5_runToReset : Room := { frames := 8, cells := 0, slots := 0, locals := 173 }
def f_X5_runToReset_46 (a0 : Int32)  (s0 : Int32) (σ : Sg) : Option (Int32 × Sg) :=
some (s0, σ)
set_option maxHeartbeats 4000000 in
set_option maxRecDepth 100000 in
theorem w_X5_runToReset_46 {p : Program} {l : Launch} {e : Env} {s : State} {m : MethodId} {args : Array Value} {below : List Frame} {meth : Method} {c : Code} {Γ : GG} {res : Int32 × Sg} (M : MX RX5 cX5_runToReset 3 (some .int) p s m args meth c) (K : KK Γ s s.heap) (a0 : Int32) (s0 : Int32) (σ : Sg) (H : Heap) (locs : List Loc) (ls : Array Slot)  (hB : Bd Γ σ s H locs) (hl : lv_has ls 3 []) (hr : f_X5_runToReset_46 a0  s0 σ = some res) : WI Γ rm_X5_runToReset p l e s m args below meth c H locs res (F0 m 46 ls [.int s0]) := by
  unfold f_X5_runToReset_46 at hr
  exact x_iret M hB (Option.some.inj hr) dX5_runToReset_46
def f_X5_runToReset_0 (a0 : Int32)   (σ : Sg) : Option (Int32 × Sg) :=
cb (f_X5_in_0 a0 1 2000 σ) fun v_1 σ_2 =>
if v_1 = 0 then
some ((-2), σ_2)
else
if (σ_2 151 8) + a0 ≤ 1000000 then
cb (f_X5_tickOfReset_0 a0 σ_2) fun v_6 σ_7 =>
if 0 ≤ v_6 then
f_X5_runToReset_46 a0  v_6 σ_7
else
f_X5_runToReset_46 a0  a0 σ_7
else
some ((-5), σ_2)
set_option maxHeartbeats 4000000 in
set_option maxRecDepth 100000 in
theorem w_X5_runToReset_0 {p : Program} {l : Launch} {e : Env} {s : State} {m : MethodId} {args : Array Value} {below : List Frame} {meth : Method} {c : Code} {Γ : GG} {res : Int32 × Sg} (M : MX RX5 cX5_runToReset 3 (some .int) p s m args meth c) (K : KK Γ s s.heap) (a0 : Int32)  (σ : Sg) (H : Heap) (locs : List Loc) (ls : Array Slot)  (hB : Bd Γ σ s H locs) (hl : lv_has ls 3 [(0, .ref (Γ.1 150)), (1, .int a0)]) (hr : f_X5_runToReset_0 a0   σ = some res) : WI Γ rm_X5_runToReset p l e s m args below meth c H locs res (F0 m 0 ls []) := by
  unfold f_X5_runToReset_0 at hr
  refine lv_iload_n M.1 M.2.1 dX5_runToReset_0 rfl (lv_at hl 1 rfl) ?_
  refine lv_iconst (v := 1) M.1 M.2.1 dX5_runToReset_1 (by decide) ?_
  refine lv_sipush (v := 2000) M.1 M.2.1 dX5_runToReset_2 (by decide) ?_
  obtain ⟨v_1, σ_2, h_3, hr⟩ := cbd hr
  refine x_callI (x_runS M K hB hl.1 [.int a0, .int 1, .int 2000] (rest := []) rfl (c_X5_in l Γ a0 1 2000  σ (v_1, σ_2) h_3) cy_X5_in wd_155 ⟨rfl, rfl, Nat.le_of_ble_eq_true rfl, Nat.le_of_ble_eq_true rfl⟩ (Nat.le_of_ble_eq_true rfl) ⟨Nat.zero_le _, Nat.zero_le _⟩ dX5_runToReset_5) hB (fun H locs hB => ?_)
  replace hB : Bd Γ σ_2 s H locs := hB
  refine lv_if_ne (tgt := 14) M.1 M.2.1 dX5_runToReset_8 (by decide) (fun c_4 => ?_) (fun c_4 => ?_)
  · rw [if_neg c_4] at hr
    refine lv_aload_n M.1 M.2.1 dX5_runToReset_14 rfl (lv_at hl 0 rfl) ?_
    refine x_get5 M K hB isK_150 0 (by decide) wd_157 (v := .ref (Γ.1 151)) rfl dX5_runToReset_15 ?_
    refine lv_bipush (v := 8) M.1 M.2.1 dX5_runToReset_18 (by decide) ?_
    refine x_ialdL M K hB isA_151 (k := 8) (by decide) (by decide) dX5_runToReset_20 ?_
    refine lv_iload_n M.1 M.2.1 dX5_runToReset_21 rfl (lv_at hl 1 rfl) ?_
    refine lv_iadd M.1 M.2.1 dX5_runToReset_22 ?_
    refine x_ldc (v := 1000000) M wd_188 dX5_runToReset_23 ?_
    refine lv_icmp_le (tgt := 31) M.1 M.2.1 dX5_runToReset_25 (by decide) (fun c_5 => ?_) (fun c_5 => ?_)
    · rw [if_pos c_5] at hr
      refine lv_aload_n M.1 M.2.1 dX5_runToReset_31 rfl (lv_at hl 0 rfl) ?_
      refine lv_iload_n M.1 M.2.1 dX5_runToReset_32 rfl (lv_at hl 1 rfl) ?_
      obtain ⟨v_6, σ_7, h_8, hr⟩ := cbd hr
      refine x_callI (x_runV M K hB hl.1 [.int a0] (rest := []) rfl (c_X5_tickOfReset l Γ a0  σ_2 (v_6, σ_7) h_8) cy_X5_tickOfReset (x_recv K hB isK_150.2 (ent_5 isK_150.1) rfl) wd_190 ⟨rfl, rfl, Nat.le_of_ble_eq_true rfl, Nat.le_of_ble_eq_true rfl⟩ (Nat.le_of_ble_eq_true rfl) ⟨Nat.zero_le _, Nat.zero_le _⟩ dX5_runToReset_33) hB (fun H locs hB => ?_)
      replace hB : Bd Γ σ_7 s H locs := hB
      refine lv_istore_n (lv' := [(2, .int v_6), (0, .ref (Γ.1 150)), (1, .int a0)]) M.1 M.2.1 dX5_runToReset_36 rfl hl (by decide) rfl (fun ls hl => ?_)
      refine lv_iload_n M.1 M.2.1 dX5_runToReset_37 rfl (lv_at hl 0 rfl) ?_
      refine lv_if_ge (tgt := 45) M.1 M.2.1 dX5_runToReset_38 (by decide) (fun c_9 => ?_) (fun c_9 => ?_)
      · rw [if_pos c_9] at hr
        refine lv_iload_n M.1 M.2.1 dX5_runToReset_45 rfl (lv_at hl 0 rfl) ?_
        exact w_X5_runToReset_46 M K a0  v_6 _ _ _ _  hB (lv_sub hl [] rfl) hr
      · rw [if_neg c_9] at hr
        refine lv_iload_n M.1 M.2.1 dX5_runToReset_41 rfl (lv_at hl 2 rfl) ?_
        refine lv_goto (tgt := 46) M.1 M.2.1 dX5_runToReset_42 (by decide) ?_
        exact w_X5_runToReset_46 M K a0  a0 _ _ _ _  hB (lv_sub hl [] rfl) hr
    · rw [if_neg c_5] at hr
      refine lv_bipush (v := (-5)) M.1 M.2.1 dX5_runToReset_28 (by decide) ?_
      exact x_iret M hB (Option.some.inj hr) dX5_runToReset_30
  · rw [if_pos c_4] at hr
    refine lv_bipush (v := (-2)) M.1 M.2.1 dX5_runToReset_11 (by decide) ?_
    exact x_iret M hB (Option.some.inj hr) dX5_runToReset_13
theorem c_X5_runToReset (l : Launch) (Γ : GG) (a0 : Int32)  (σ : Sg) (res : Int32 × Sg) (hr : f_X5_runToReset_0 a0 σ = some res) : Met l yX5_runToReset (Cond.code yX5_runToReset cX5_runToReset 3 (some .int) :: gtb) rm_X5_runToReset (va_Pc [.ref (Γ.1 150), .int a0] (GI Γ σ)) (QI Γ res) 0 0 (AD Γ) :=
  x_metI (by decide) [.ref (Γ.1 150), .int a0] (Nat.le_of_ble_eq_true rfl) (fun p e s m args below meth c M K ls hl hB => w_X5_runToReset_0 M K a0 σ _ _ ls hB hl hr)
