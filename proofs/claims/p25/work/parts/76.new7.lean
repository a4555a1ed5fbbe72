/-! what holds at the start: the statics -/
theorem len8 {args : Array Value} {s : State} {t : Term} {a : Nat} (h : (Term.length t).eval args s none [] s = some (.int 8)) (ht : t.eval args s none [] s = some (.ref a)) : ∃ cell, s.heap[a]? = some cell ∧ cell.slots.size = 8 := by
  simp only [Term.eval, Option.bind_eq_bind, ht] at h
  simp only [Option.bind_some] at h
  obtain ⟨cell, hcell, h⟩ := Option.bind_eq_some_iff.mp h
  obtain ⟨h1, -⟩ := State.arrayAt?_spec hcell
  by_cases hn : cell.slots.size < 2 ^ 31
  · rw [if_pos hn] at h
    have h2 : cell.slots.size.toInt32 = 8 := by simpa using h
    have h3 : nI cell.slots.size = nI 8 := h2
    exact ⟨cell, h1, (nI_eq hn (by decide)).mp h3⟩
  · rw [if_neg hn] at h; cases h
def gvn : Cond := Jvm.Cond.and given_1 narrow_1
set_option maxHeartbeats 4000000 in
set_option maxRecDepth 100000 in
theorem st_0 {args : Array Value} {s : State} (hs : ∀ c ∈ flatC gvn, c.before args s = true) (hts : ∀ w ∈ lw_tbl, w.before args s = true) : ∃ t : Nat, va_Z RX4 (sn 0) "[I" (.ref t) (Ab s.heap.size) s s.heap ∧ va_T .int t 8 (fun j => .int (tb 0 j)) (Ab s.heap.size) s s.heap ∧ ∃ cell : Cell, s.heap[t]? = some cell ∧ cell.slots.size = 8 ∧ cell.vm.isStatics = false ∧ s.vm.findClass "[I" = some cell.cls := by
  have hA : ∀ a : Nat, a < s.heap.size → ¬ Ab s.heap.size a := fun a h => Nat.not_le.mpr h
  have hlen := Cond.eq_int (hs (Cond.eq (.length (.static "WatchdogBoard" "RULE_LOWEST" "[I")) (.int 8)) (by decide +kernel)) rfl
  obtain ⟨t, ht, hT⟩ := va_Tof (N := 8) (f := fun j => .int (tb 0 j)) (A := Ab s.heap.size) (by decide) (hs (Cond.arrayOf (.static "WatchdogBoard" "RULE_LOWEST" "[I") .int) (by decide +kernel)) hlen (fun j hj => by
    match j, hj with
    | 0, _ => exact Cond.eq_int (hs (Cond.eq (.elem (.static "WatchdogBoard" "RULE_LOWEST" "[I") (.int 0)) (.int 0)) (by decide +kernel)) rfl
    | 1, _ => exact Cond.eq_int (hs (Cond.eq (.elem (.static "WatchdogBoard" "RULE_LOWEST" "[I") (.int 1)) (.int 1)) (by decide +kernel)) rfl
    | 2, _ => exact Cond.eq_int (hs (Cond.eq (.elem (.static "WatchdogBoard" "RULE_LOWEST" "[I") (.int 2)) (.int 1)) (by decide +kernel)) rfl
    | 3, _ => exact Cond.eq_int (hs (Cond.eq (.elem (.static "WatchdogBoard" "RULE_LOWEST" "[I") (.int 3)) (.int 0)) (by decide +kernel)) rfl
    | 4, _ => exact Cond.eq_int (hs (Cond.eq (.elem (.static "WatchdogBoard" "RULE_LOWEST" "[I") (.int 4)) (.int 0)) (by decide +kernel)) rfl
    | 5, _ => exact Cond.eq_int (hs (Cond.eq (.elem (.static "WatchdogBoard" "RULE_LOWEST" "[I") (.int 5)) (.int 1)) (by decide +kernel)) rfl
    | 6, _ => exact Cond.eq_int (hs (Cond.eq (.elem (.static "WatchdogBoard" "RULE_LOWEST" "[I") (.int 6)) (.int 1)) (by decide +kernel)) rfl
    | 7, _ => exact Cond.eq_int (hs (Cond.eq (.elem (.static "WatchdogBoard" "RULE_LOWEST" "[I") (.int 7)) (.int 1)) (by decide +kernel)) rfl
    | j + 8, h => exact absurd h (by omega)) hA
  refine ⟨t, va_Zof (hts _ (List.mem_append_right _ (List.mem_of_getElem? (i := 227) (by decide +kernel)))) (hts _ (List.mem_append_right _ (List.mem_of_getElem? (i := 1) (by decide +kernel)))) ht hA, hT, ?_⟩
  obtain ⟨cell, h1, h2⟩ := len8 hlen ht
  obtain ⟨a, c, cell2, kk, q1, q2, q3, q4, q5, q6, -⟩ := Cond.exactly_spec (args := args) (first := s) (o := none) (s := s) (idx := []) (hs (Cond.exactly (.static "WatchdogBoard" "RULE_LOWEST" "[I") "[I") (by decide +kernel))
  cases ht.symm.trans q1
  cases h1.symm.trans q3
  exact ⟨cell, h1, h2, q5, by rw [q6]; exact q2⟩
set_option maxHeartbeats 4000000 in
set_option maxRecDepth 100000 in
theorem st_1 {args : Array Value} {s : State} (hs : ∀ c ∈ flatC gvn, c.before args s = true) (hts : ∀ w ∈ lw_tbl, w.before args s = true) : ∃ t : Nat, va_Z RX4 (sn 1) "[I" (.ref t) (Ab s.heap.size) s s.heap ∧ va_T .int t 8 (fun j => .int (tb 1 j)) (Ab s.heap.size) s s.heap ∧ ∃ cell : Cell, s.heap[t]? = some cell ∧ cell.slots.size = 8 ∧ cell.vm.isStatics = false ∧ s.vm.findClass "[I" = some cell.cls := by
  have hA : ∀ a : Nat, a < s.heap.size → ¬ Ab s.heap.size a := fun a h => Nat.not_le.mpr h
  have hlen := Cond.eq_int (hs (Cond.eq (.length (.static "WatchdogBoard" "RULE_GREATEST" "[I")) (.int 8)) (by decide +kernel)) rfl
  obtain ⟨t, ht, hT⟩ := va_Tof (N := 8) (f := fun j => .int (tb 1 j)) (A := Ab s.heap.size) (by decide) (hs (Cond.arrayOf (.static "WatchdogBoard" "RULE_GREATEST" "[I") .int) (by decide +kernel)) hlen (fun j hj => by
    match j, hj with
    | 0, _ => exact Cond.eq_int (hs (Cond.eq (.elem (.static "WatchdogBoard" "RULE_GREATEST" "[I") (.int 0)) (.int 1000)) (by decide +kernel)) rfl
    | 1, _ => exact Cond.eq_int (hs (Cond.eq (.elem (.static "WatchdogBoard" "RULE_GREATEST" "[I") (.int 1)) (.int 2000)) (by decide +kernel)) rfl
    | 2, _ => exact Cond.eq_int (hs (Cond.eq (.elem (.static "WatchdogBoard" "RULE_GREATEST" "[I") (.int 2)) (.int 100)) (by decide +kernel)) rfl
    | 3, _ => exact Cond.eq_int (hs (Cond.eq (.elem (.static "WatchdogBoard" "RULE_GREATEST" "[I") (.int 3)) (.int 2000)) (by decide +kernel)) rfl
    | 4, _ => exact Cond.eq_int (hs (Cond.eq (.elem (.static "WatchdogBoard" "RULE_GREATEST" "[I") (.int 4)) (.int 20)) (by decide +kernel)) rfl
    | 5, _ => exact Cond.eq_int (hs (Cond.eq (.elem (.static "WatchdogBoard" "RULE_GREATEST" "[I") (.int 5)) (.int 200)) (by decide +kernel)) rfl
    | 6, _ => exact Cond.eq_int (hs (Cond.eq (.elem (.static "WatchdogBoard" "RULE_GREATEST" "[I") (.int 6)) (.int 5000)) (by decide +kernel)) rfl
    | 7, _ => exact Cond.eq_int (hs (Cond.eq (.elem (.static "WatchdogBoard" "RULE_GREATEST" "[I") (.int 7)) (.int 5)) (by decide +kernel)) rfl
    | j + 8, h => exact absurd h (by omega)) hA
  refine ⟨t, va_Zof (hts _ (List.mem_append_right _ (List.mem_of_getElem? (i := 229) (by decide +kernel)))) (hts _ (List.mem_append_right _ (List.mem_of_getElem? (i := 1) (by decide +kernel)))) ht hA, hT, ?_⟩
  obtain ⟨cell, h1, h2⟩ := len8 hlen ht
  obtain ⟨a, c, cell2, kk, q1, q2, q3, q4, q5, q6, -⟩ := Cond.exactly_spec (args := args) (first := s) (o := none) (s := s) (idx := []) (hs (Cond.exactly (.static "WatchdogBoard" "RULE_GREATEST" "[I") "[I") (by decide +kernel))
  cases ht.symm.trans q1
  cases h1.symm.trans q3
  exact ⟨cell, h1, h2, q5, by rw [q6]; exact q2⟩
set_option maxHeartbeats 4000000 in
set_option maxRecDepth 100000 in
theorem st_2 {args : Array Value} {s : State} (hs : ∀ c ∈ flatC gvn, c.before args s = true) (hts : ∀ w ∈ lw_tbl, w.before args s = true) : ∃ t : Nat, va_Z RX4 (sn 2) "[I" (.ref t) (Ab s.heap.size) s s.heap ∧ va_T .int t 8 (fun j => .int (tb 2 j)) (Ab s.heap.size) s s.heap ∧ ∃ cell : Cell, s.heap[t]? = some cell ∧ cell.slots.size = 8 ∧ cell.vm.isStatics = false ∧ s.vm.findClass "[I" = some cell.cls := by
  have hA : ∀ a : Nat, a < s.heap.size → ¬ Ab s.heap.size a := fun a h => Nat.not_le.mpr h
  have hlen := Cond.eq_int (hs (Cond.eq (.length (.static "WatchdogBoard" "RULE_FIRST" "[I")) (.int 8)) (by decide +kernel)) rfl
  obtain ⟨t, ht, hT⟩ := va_Tof (N := 8) (f := fun j => .int (tb 2 j)) (A := Ab s.heap.size) (by decide) (hs (Cond.arrayOf (.static "WatchdogBoard" "RULE_FIRST" "[I") .int) (by decide +kernel)) hlen (fun j hj => by
    match j, hj with
    | 0, _ => exact Cond.eq_int (hs (Cond.eq (.elem (.static "WatchdogBoard" "RULE_FIRST" "[I") (.int 0)) (.int 20)) (by decide +kernel)) rfl
    | 1, _ => exact Cond.eq_int (hs (Cond.eq (.elem (.static "WatchdogBoard" "RULE_FIRST" "[I") (.int 1)) (.int 100)) (by decide +kernel)) rfl
    | 2, _ => exact Cond.eq_int (hs (Cond.eq (.elem (.static "WatchdogBoard" "RULE_FIRST" "[I") (.int 2)) (.int 10)) (by decide +kernel)) rfl
    | 3, _ => exact Cond.eq_int (hs (Cond.eq (.elem (.static "WatchdogBoard" "RULE_FIRST" "[I") (.int 3)) (.int 40)) (by decide +kernel)) rfl
    | 4, _ => exact Cond.eq_int (hs (Cond.eq (.elem (.static "WatchdogBoard" "RULE_FIRST" "[I") (.int 4)) (.int 2)) (by decide +kernel)) rfl
    | 5, _ => exact Cond.eq_int (hs (Cond.eq (.elem (.static "WatchdogBoard" "RULE_FIRST" "[I") (.int 5)) (.int 30)) (by decide +kernel)) rfl
    | 6, _ => exact Cond.eq_int (hs (Cond.eq (.elem (.static "WatchdogBoard" "RULE_FIRST" "[I") (.int 6)) (.int 500)) (by decide +kernel)) rfl
    | 7, _ => exact Cond.eq_int (hs (Cond.eq (.elem (.static "WatchdogBoard" "RULE_FIRST" "[I") (.int 7)) (.int 3)) (by decide +kernel)) rfl
    | j + 8, h => exact absurd h (by omega)) hA
  refine ⟨t, va_Zof (hts _ (List.mem_append_right _ (List.mem_of_getElem? (i := 23) (by decide +kernel)))) (hts _ (List.mem_append_right _ (List.mem_of_getElem? (i := 1) (by decide +kernel)))) ht hA, hT, ?_⟩
  obtain ⟨cell, h1, h2⟩ := len8 hlen ht
  obtain ⟨a, c, cell2, kk, q1, q2, q3, q4, q5, q6, -⟩ := Cond.exactly_spec (args := args) (first := s) (o := none) (s := s) (idx := []) (hs (Cond.exactly (.static "WatchdogBoard" "RULE_FIRST" "[I") "[I") (by decide +kernel))
  cases ht.symm.trans q1
  cases h1.symm.trans q3
  exact ⟨cell, h1, h2, q5, by rw [q6]; exact q2⟩
set_option maxHeartbeats 4000000 in
set_option maxRecDepth 100000 in
theorem st_3 {args : Array Value} {s : State} (hs : ∀ c ∈ flatC gvn, c.before args s = true) (hts : ∀ w ∈ lw_tbl, w.before args s = true) : ∃ t : Nat, va_Z RX4 (sn 3) "[I" (.ref t) (Ab s.heap.size) s s.heap ∧ va_T .int t 8 (fun j => .int (tb 3 j)) (Ab s.heap.size) s s.heap ∧ ∃ cell : Cell, s.heap[t]? = some cell ∧ cell.slots.size = 8 ∧ cell.vm.isStatics = false ∧ s.vm.findClass "[I" = some cell.cls := by
  have hA : ∀ a : Nat, a < s.heap.size → ¬ Ab s.heap.size a := fun a h => Nat.not_le.mpr h
  have hlen := Cond.eq_int (hs (Cond.eq (.length (.static "WatchdogBoard" "SETTING_LOWEST" "[I")) (.int 8)) (by decide +kernel)) rfl
  obtain ⟨t, ht, hT⟩ := va_Tof (N := 8) (f := fun j => .int (tb 3 j)) (A := Ab s.heap.size) (by decide) (hs (Cond.arrayOf (.static "WatchdogBoard" "SETTING_LOWEST" "[I") .int) (by decide +kernel)) hlen (fun j hj => by
    match j, hj with
    | 0, _ => exact Cond.eq_int (hs (Cond.eq (.elem (.static "WatchdogBoard" "SETTING_LOWEST" "[I") (.int 0)) (.int 1)) (by decide +kernel)) rfl
    | 1, _ => exact Cond.eq_int (hs (Cond.eq (.elem (.static "WatchdogBoard" "SETTING_LOWEST" "[I") (.int 1)) (.int 1)) (by decide +kernel)) rfl
    | 2, _ => exact Cond.eq_int (hs (Cond.eq (.elem (.static "WatchdogBoard" "SETTING_LOWEST" "[I") (.int 2)) (.int 0)) (by decide +kernel)) rfl
    | 3, _ => exact Cond.eq_int (hs (Cond.eq (.elem (.static "WatchdogBoard" "SETTING_LOWEST" "[I") (.int 3)) (.int 1)) (by decide +kernel)) rfl
    | 4, _ => exact Cond.eq_int (hs (Cond.eq (.elem (.static "WatchdogBoard" "SETTING_LOWEST" "[I") (.int 4)) (.int 0)) (by decide +kernel)) rfl
    | 5, _ => exact Cond.eq_int (hs (Cond.eq (.elem (.static "WatchdogBoard" "SETTING_LOWEST" "[I") (.int 5)) (.int 0)) (by decide +kernel)) rfl
    | 6, _ => exact Cond.eq_int (hs (Cond.eq (.elem (.static "WatchdogBoard" "SETTING_LOWEST" "[I") (.int 6)) (.int 0)) (by decide +kernel)) rfl
    | 7, _ => exact Cond.eq_int (hs (Cond.eq (.elem (.static "WatchdogBoard" "SETTING_LOWEST" "[I") (.int 7)) (.int 0)) (by decide +kernel)) rfl
    | j + 8, h => exact absurd h (by omega)) hA
  refine ⟨t, va_Zof (hts _ (List.mem_append_right _ (List.mem_of_getElem? (i := 241) (by decide +kernel)))) (hts _ (List.mem_append_right _ (List.mem_of_getElem? (i := 1) (by decide +kernel)))) ht hA, hT, ?_⟩
  obtain ⟨cell, h1, h2⟩ := len8 hlen ht
  obtain ⟨a, c, cell2, kk, q1, q2, q3, q4, q5, q6, -⟩ := Cond.exactly_spec (args := args) (first := s) (o := none) (s := s) (idx := []) (hs (Cond.exactly (.static "WatchdogBoard" "SETTING_LOWEST" "[I") "[I") (by decide +kernel))
  cases ht.symm.trans q1
  cases h1.symm.trans q3
  exact ⟨cell, h1, h2, q5, by rw [q6]; exact q2⟩
set_option maxHeartbeats 4000000 in
set_option maxRecDepth 100000 in
theorem st_4 {args : Array Value} {s : State} (hs : ∀ c ∈ flatC gvn, c.before args s = true) (hts : ∀ w ∈ lw_tbl, w.before args s = true) : ∃ t : Nat, va_Z RX4 (sn 4) "[I" (.ref t) (Ab s.heap.size) s s.heap ∧ va_T .int t 8 (fun j => .int (tb 4 j)) (Ab s.heap.size) s s.heap ∧ ∃ cell : Cell, s.heap[t]? = some cell ∧ cell.slots.size = 8 ∧ cell.vm.isStatics = false ∧ s.vm.findClass "[I" = some cell.cls := by
  have hA : ∀ a : Nat, a < s.heap.size → ¬ Ab s.heap.size a := fun a h => Nat.not_le.mpr h
  have hlen := Cond.eq_int (hs (Cond.eq (.length (.static "WatchdogBoard" "SETTING_GREATEST" "[I")) (.int 8)) (by decide +kernel)) rfl
  obtain ⟨t, ht, hT⟩ := va_Tof (N := 8) (f := fun j => .int (tb 4 j)) (A := Ab s.heap.size) (by decide) (hs (Cond.arrayOf (.static "WatchdogBoard" "SETTING_GREATEST" "[I") .int) (by decide +kernel)) hlen (fun j hj => by
    match j, hj with
    | 0, _ => exact Cond.eq_int (hs (Cond.eq (.elem (.static "WatchdogBoard" "SETTING_GREATEST" "[I") (.int 0)) (.int 200)) (by decide +kernel)) rfl
    | 1, _ => exact Cond.eq_int (hs (Cond.eq (.elem (.static "WatchdogBoard" "SETTING_GREATEST" "[I") (.int 1)) (.int 200)) (by decide +kernel)) rfl
    | 2, _ => exact Cond.eq_int (hs (Cond.eq (.elem (.static "WatchdogBoard" "SETTING_GREATEST" "[I") (.int 2)) (.int 199)) (by decide +kernel)) rfl
    | 3, _ => exact Cond.eq_int (hs (Cond.eq (.elem (.static "WatchdogBoard" "SETTING_GREATEST" "[I") (.int 3)) (.int 20)) (by decide +kernel)) rfl
    | 4, _ => exact Cond.eq_int (hs (Cond.eq (.elem (.static "WatchdogBoard" "SETTING_GREATEST" "[I") (.int 4)) (.int 50)) (by decide +kernel)) rfl
    | 5, _ => exact Cond.eq_int (hs (Cond.eq (.elem (.static "WatchdogBoard" "SETTING_GREATEST" "[I") (.int 5)) (.int 50)) (by decide +kernel)) rfl
    | 6, _ => exact Cond.eq_int (hs (Cond.eq (.elem (.static "WatchdogBoard" "SETTING_GREATEST" "[I") (.int 6)) (.int 10)) (by decide +kernel)) rfl
    | 7, _ => exact Cond.eq_int (hs (Cond.eq (.elem (.static "WatchdogBoard" "SETTING_GREATEST" "[I") (.int 7)) (.int 500)) (by decide +kernel)) rfl
    | j + 8, h => exact absurd h (by omega)) hA
  refine ⟨t, va_Zof (hts _ (List.mem_append_right _ (List.mem_of_getElem? (i := 243) (by decide +kernel)))) (hts _ (List.mem_append_right _ (List.mem_of_getElem? (i := 1) (by decide +kernel)))) ht hA, hT, ?_⟩
  obtain ⟨cell, h1, h2⟩ := len8 hlen ht
  obtain ⟨a, c, cell2, kk, q1, q2, q3, q4, q5, q6, -⟩ := Cond.exactly_spec (args := args) (first := s) (o := none) (s := s) (idx := []) (hs (Cond.exactly (.static "WatchdogBoard" "SETTING_GREATEST" "[I") "[I") (by decide +kernel))
  cases ht.symm.trans q1
  cases h1.symm.trans q3
  exact ⟨cell, h1, h2, q5, by rw [q6]; exact q2⟩
set_option maxHeartbeats 4000000 in
set_option maxRecDepth 100000 in
theorem st_5 {args : Array Value} {s : State} (hs : ∀ c ∈ flatC gvn, c.before args s = true) (hts : ∀ w ∈ lw_tbl, w.before args s = true) : ∃ t : Nat, va_Z RX4 (sn 5) "[I" (.ref t) (Ab s.heap.size) s s.heap ∧ va_T .int t 8 (fun j => .int (tb 5 j)) (Ab s.heap.size) s s.heap ∧ ∃ cell : Cell, s.heap[t]? = some cell ∧ cell.slots.size = 8 ∧ cell.vm.isStatics = false ∧ s.vm.findClass "[I" = some cell.cls := by
  have hA : ∀ a : Nat, a < s.heap.size → ¬ Ab s.heap.size a := fun a h => Nat.not_le.mpr h
  have hlen := Cond.eq_int (hs (Cond.eq (.length (.static "WatchdogBoard" "SETTING_FIRST" "[I")) (.int 8)) (by decide +kernel)) rfl
  obtain ⟨t, ht, hT⟩ := va_Tof (N := 8) (f := fun j => .int (tb 5 j)) (A := Ab s.heap.size) (by decide) (hs (Cond.arrayOf (.static "WatchdogBoard" "SETTING_FIRST" "[I") .int) (by decide +kernel)) hlen (fun j hj => by
    match j, hj with
    | 0, _ => exact Cond.eq_int (hs (Cond.eq (.elem (.static "WatchdogBoard" "SETTING_FIRST" "[I") (.int 0)) (.int 1)) (by decide +kernel)) rfl
    | 1, _ => exact Cond.eq_int (hs (Cond.eq (.elem (.static "WatchdogBoard" "SETTING_FIRST" "[I") (.int 1)) (.int 1)) (by decide +kernel)) rfl
    | 2, _ => exact Cond.eq_int (hs (Cond.eq (.elem (.static "WatchdogBoard" "SETTING_FIRST" "[I") (.int 2)) (.int 0)) (by decide +kernel)) rfl
    | 3, _ => exact Cond.eq_int (hs (Cond.eq (.elem (.static "WatchdogBoard" "SETTING_FIRST" "[I") (.int 3)) (.int 1)) (by decide +kernel)) rfl
    | 4, _ => exact Cond.eq_int (hs (Cond.eq (.elem (.static "WatchdogBoard" "SETTING_FIRST" "[I") (.int 4)) (.int 1)) (by decide +kernel)) rfl
    | 5, _ => exact Cond.eq_int (hs (Cond.eq (.elem (.static "WatchdogBoard" "SETTING_FIRST" "[I") (.int 5)) (.int 50)) (by decide +kernel)) rfl
    | 6, _ => exact Cond.eq_int (hs (Cond.eq (.elem (.static "WatchdogBoard" "SETTING_FIRST" "[I") (.int 6)) (.int 1)) (by decide +kernel)) rfl
    | 7, _ => exact Cond.eq_int (hs (Cond.eq (.elem (.static "WatchdogBoard" "SETTING_FIRST" "[I") (.int 7)) (.int 0)) (by decide +kernel)) rfl
    | j + 8, h => exact absurd h (by omega)) hA
  refine ⟨t, va_Zof (hts _ (List.mem_append_right _ (List.mem_of_getElem? (i := 54) (by decide +kernel)))) (hts _ (List.mem_append_right _ (List.mem_of_getElem? (i := 1) (by decide +kernel)))) ht hA, hT, ?_⟩
  obtain ⟨cell, h1, h2⟩ := len8 hlen ht
  obtain ⟨a, c, cell2, kk, q1, q2, q3, q4, q5, q6, -⟩ := Cond.exactly_spec (args := args) (first := s) (o := none) (s := s) (idx := []) (hs (Cond.exactly (.static "WatchdogBoard" "SETTING_FIRST" "[I") "[I") (by decide +kernel))
  cases ht.symm.trans q1
  cases h1.symm.trans q3
  exact ⟨cell, h1, h2, q5, by rw [q6]; exact q2⟩
