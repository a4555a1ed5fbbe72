section
-- ===== PART A: goes FIRST, ahead of the names: the tables' words, and 'selects' of the private methods out of them =====
/-- a private method of a class that the tables say can be made, by its rows of tables_1 -/
def lw_okq (q : MethodName × Nat) : Prop := (q.1.cls ≠ "java/lang/invoke/MethodHandle" ∧ q.1.cls ≠ "java/lang/invoke/VarHandle") ∧ Cond.instantiable q.1.cls q.2 ∈ tables_1 ∧ Cond.privateMethod q.1 ∈ tables_1 ∧ Cond.instanceMethod q.1 ∈ tables_1
theorem lw_p0 : lw_okq (⟨"WatchdogBoard", "hasTask", "(I)Z"⟩, 5) := ⟨⟨by decide +kernel, by decide +kernel⟩, List.mem_of_getElem? (i := 15) (by decide +kernel), List.mem_of_getElem? (i := 280) (by decide +kernel), List.mem_of_getElem? (i := 281) (by decide +kernel)⟩
theorem lw_p1 : lw_okq (⟨"WatchdogBoard$Pad", "readFault", "()Z"⟩, 9) := ⟨⟨by decide +kernel, by decide +kernel⟩, List.mem_of_getElem? (i := 176) (by decide +kernel), List.mem_of_getElem? (i := 314) (by decide +kernel), List.mem_of_getElem? (i := 315) (by decide +kernel)⟩
theorem lw_p2 : lw_okq (⟨"WatchdogBoard$Pad", "sign", "()C"⟩, 9) := ⟨⟨by decide +kernel, by decide +kernel⟩, List.mem_of_getElem? (i := 176) (by decide +kernel), List.mem_of_getElem? (i := 319) (by decide +kernel), List.mem_of_getElem? (i := 320) (by decide +kernel)⟩
theorem lw_p3 : lw_okq (⟨"WatchdogBoard$Pad", "digit", "()I"⟩, 9) := ⟨⟨by decide +kernel, by decide +kernel⟩, List.mem_of_getElem? (i := 176) (by decide +kernel), List.mem_of_getElem? (i := 409) (by decide +kernel), List.mem_of_getElem? (i := 410) (by decide +kernel)⟩
theorem lw_p4 : lw_okq (⟨"WatchdogBoard$Pad", "accept", "(C)Z"⟩, 9) := ⟨⟨by decide +kernel, by decide +kernel⟩, List.mem_of_getElem? (i := 176) (by decide +kernel), List.mem_of_getElem? (i := 414) (by decide +kernel), List.mem_of_getElem? (i := 415) (by decide +kernel)⟩
theorem lw_p5 : lw_okq (⟨"WatchdogBoard$Pad", "readNumber", "(I)I"⟩, 9) := ⟨⟨by decide +kernel, by decide +kernel⟩, List.mem_of_getElem? (i := 176) (by decide +kernel), List.mem_of_getElem? (i := 418) (by decide +kernel), List.mem_of_getElem? (i := 419) (by decide +kernel)⟩
theorem lw_p6 : lw_okq (⟨"WatchdogBoard$Pad", "keepFault", "(IIIII)V"⟩, 9) := ⟨⟨by decide +kernel, by decide +kernel⟩, List.mem_of_getElem? (i := 176) (by decide +kernel), List.mem_of_getElem? (i := 422) (by decide +kernel), List.mem_of_getElem? (i := 423) (by decide +kernel)⟩
theorem lw_p7 : lw_okq (⟨"WatchdogBoard$Board", "tickBooting", "()V"⟩, 13) := ⟨⟨by decide +kernel, by decide +kernel⟩, List.mem_of_getElem? (i := 23) (by decide +kernel), List.mem_of_getElem? (i := 440) (by decide +kernel), List.mem_of_getElem? (i := 441) (by decide +kernel)⟩
theorem lw_p8 : lw_okq (⟨"WatchdogBoard$Board", "tickRunning", "()Z"⟩, 13) := ⟨⟨by decide +kernel, by decide +kernel⟩, List.mem_of_getElem? (i := 23) (by decide +kernel), List.mem_of_getElem? (i := 445) (by decide +kernel), List.mem_of_getElem? (i := 446) (by decide +kernel)⟩
theorem lw_p9 : lw_okq (⟨"WatchdogBoard$Task", "crashesAtBegin", "(II)Z"⟩, 16) := ⟨⟨by decide +kernel, by decide +kernel⟩, List.mem_of_getElem? (i := 54) (by decide +kernel), List.mem_of_getElem? (i := 456) (by decide +kernel), List.mem_of_getElem? (i := 457) (by decide +kernel)⟩
theorem lw_p10 : lw_okq (⟨"WatchdogBoard$Board", "boot", "()V"⟩, 13) := ⟨⟨by decide +kernel, by decide +kernel⟩, List.mem_of_getElem? (i := 23) (by decide +kernel), List.mem_of_getElem? (i := 468) (by decide +kernel), List.mem_of_getElem? (i := 469) (by decide +kernel)⟩
theorem lw_p11 : lw_okq (⟨"WatchdogBoard$Board", "supervise", "()Z"⟩, 13) := ⟨⟨by decide +kernel, by decide +kernel⟩, List.mem_of_getElem? (i := 23) (by decide +kernel), List.mem_of_getElem? (i := 473) (by decide +kernel), List.mem_of_getElem? (i := 474) (by decide +kernel)⟩
theorem lw_p12 : lw_okq (⟨"WatchdogBoard$Board", "watch", "(Z)I"⟩, 13) := ⟨⟨by decide +kernel, by decide +kernel⟩, List.mem_of_getElem? (i := 23) (by decide +kernel), List.mem_of_getElem? (i := 487) (by decide +kernel), List.mem_of_getElem? (i := 488) (by decide +kernel)⟩
theorem lw_p13 : lw_okq (⟨"WatchdogBoard", "prepareTrial", "()V"⟩, 5) := ⟨⟨by decide +kernel, by decide +kernel⟩, List.mem_of_getElem? (i := 15) (by decide +kernel), List.mem_of_getElem? (i := 574) (by decide +kernel), List.mem_of_getElem? (i := 575) (by decide +kernel)⟩
theorem lw_p14 : lw_okq (⟨"WatchdogBoard", "staysUp", "(II)Z"⟩, 5) := ⟨⟨by decide +kernel, by decide +kernel⟩, List.mem_of_getElem? (i := 15) (by decide +kernel), List.mem_of_getElem? (i := 588) (by decide +kernel), List.mem_of_getElem? (i := 589) (by decide +kernel)⟩
theorem lw_p15 : lw_okq (⟨"WatchdogBoardModel", "lay", "(III)V"⟩, 10) := ⟨⟨by decide +kernel, by decide +kernel⟩, List.mem_of_getElem? (i := 600) (by decide +kernel), List.mem_of_getElem? (i := 651) (by decide +kernel), List.mem_of_getElem? (i := 652) (by decide +kernel)⟩
def lw_privs_1 : List (MethodName × Nat) := [(⟨"WatchdogBoard", "hasTask", "(I)Z"⟩, 5), (⟨"WatchdogBoard$Pad", "readFault", "()Z"⟩, 9), (⟨"WatchdogBoard$Pad", "sign", "()C"⟩, 9), (⟨"WatchdogBoard$Pad", "digit", "()I"⟩, 9), (⟨"WatchdogBoard$Pad", "accept", "(C)Z"⟩, 9), (⟨"WatchdogBoard$Pad", "readNumber", "(I)I"⟩, 9), (⟨"WatchdogBoard$Pad", "keepFault", "(IIIII)V"⟩, 9), (⟨"WatchdogBoard$Board", "tickBooting", "()V"⟩, 13), (⟨"WatchdogBoard$Board", "tickRunning", "()Z"⟩, 13), (⟨"WatchdogBoard$Task", "crashesAtBegin", "(II)Z"⟩, 16), (⟨"WatchdogBoard$Board", "boot", "()V"⟩, 13), (⟨"WatchdogBoard$Board", "supervise", "()Z"⟩, 13), (⟨"WatchdogBoard$Board", "watch", "(Z)I"⟩, 13), (⟨"WatchdogBoard", "prepareTrial", "()V"⟩, 5), (⟨"WatchdogBoard", "staysUp", "(II)Z"⟩, 5), (⟨"WatchdogBoardModel", "lay", "(III)V"⟩, 10)]
theorem lw_r1 : ∀ q ∈ lw_privs_1, lw_okq q := List.forall_mem_cons.mpr ⟨lw_p0, List.forall_mem_cons.mpr ⟨lw_p1, List.forall_mem_cons.mpr ⟨lw_p2, List.forall_mem_cons.mpr ⟨lw_p3, List.forall_mem_cons.mpr ⟨lw_p4, List.forall_mem_cons.mpr ⟨lw_p5, List.forall_mem_cons.mpr ⟨lw_p6, List.forall_mem_cons.mpr ⟨lw_p7, List.forall_mem_cons.mpr ⟨lw_p8, List.forall_mem_cons.mpr ⟨lw_p9, List.forall_mem_cons.mpr ⟨lw_p10, List.forall_mem_cons.mpr ⟨lw_p11, List.forall_mem_cons.mpr ⟨lw_p12, List.forall_mem_cons.mpr ⟨lw_p13, List.forall_mem_cons.mpr ⟨lw_p14, List.forall_mem_cons.mpr ⟨lw_p15, fun _ h => absurd h List.not_mem_nil⟩⟩⟩⟩⟩⟩⟩⟩⟩⟩⟩⟩⟩⟩⟩⟩
theorem lw_p16 : lw_okq (⟨"WatchdogBoardModel", "isTask", "(I)Z"⟩, 10) := ⟨⟨by decide +kernel, by decide +kernel⟩, List.mem_of_getElem? (i := 600) (by decide +kernel), List.mem_of_getElem? (i := 662) (by decide +kernel), List.mem_of_getElem? (i := 663) (by decide +kernel)⟩
theorem lw_p17 : lw_okq (⟨"WatchdogBoardModel", "of", "(II)I"⟩, 10) := ⟨⟨by decide +kernel, by decide +kernel⟩, List.mem_of_getElem? (i := 600) (by decide +kernel), List.mem_of_getElem? (i := 669) (by decide +kernel), List.mem_of_getElem? (i := 670) (by decide +kernel)⟩
theorem lw_p18 : lw_okq (⟨"WatchdogBoardModel", "layFault", "(IIIII)V"⟩, 10) := ⟨⟨by decide +kernel, by decide +kernel⟩, List.mem_of_getElem? (i := 600) (by decide +kernel), List.mem_of_getElem? (i := 677) (by decide +kernel), List.mem_of_getElem? (i := 678) (by decide +kernel)⟩
theorem lw_p19 : lw_okq (⟨"WatchdogBoardModel", "readFault", "()V"⟩, 10) := ⟨⟨by decide +kernel, by decide +kernel⟩, List.mem_of_getElem? (i := 600) (by decide +kernel), List.mem_of_getElem? (i := 694) (by decide +kernel), List.mem_of_getElem? (i := 695) (by decide +kernel)⟩
theorem lw_p20 : lw_okq (⟨"WatchdogBoardModel", "next", "()I"⟩, 10) := ⟨⟨by decide +kernel, by decide +kernel⟩, List.mem_of_getElem? (i := 600) (by decide +kernel), List.mem_of_getElem? (i := 698) (by decide +kernel), List.mem_of_getElem? (i := 699) (by decide +kernel)⟩
theorem lw_p21 : lw_okq (⟨"WatchdogBoardModel", "takes", "(I)Z"⟩, 10) := ⟨⟨by decide +kernel, by decide +kernel⟩, List.mem_of_getElem? (i := 600) (by decide +kernel), List.mem_of_getElem? (i := 705) (by decide +kernel), List.mem_of_getElem? (i := 706) (by decide +kernel)⟩
theorem lw_p22 : lw_okq (⟨"WatchdogBoardModel", "readNumber", "(I)I"⟩, 10) := ⟨⟨by decide +kernel, by decide +kernel⟩, List.mem_of_getElem? (i := 600) (by decide +kernel), List.mem_of_getElem? (i := 709) (by decide +kernel), List.mem_of_getElem? (i := 710) (by decide +kernel)⟩
theorem lw_p23 : lw_okq (⟨"WatchdogBoardModel", "tick", "()Z"⟩, 10) := ⟨⟨by decide +kernel, by decide +kernel⟩, List.mem_of_getElem? (i := 600) (by decide +kernel), List.mem_of_getElem? (i := 723) (by decide +kernel), List.mem_of_getElem? (i := 724) (by decide +kernel)⟩
theorem lw_p24 : lw_okq (⟨"WatchdogBoardModel", "beginToRun", "()V"⟩, 10) := ⟨⟨by decide +kernel, by decide +kernel⟩, List.mem_of_getElem? (i := 600) (by decide +kernel), List.mem_of_getElem? (i := 727) (by decide +kernel), List.mem_of_getElem? (i := 728) (by decide +kernel)⟩
theorem lw_p25 : lw_okq (⟨"WatchdogBoardModel", "runs", "()Z"⟩, 10) := ⟨⟨by decide +kernel, by decide +kernel⟩, List.mem_of_getElem? (i := 600) (by decide +kernel), List.mem_of_getElem? (i := 731) (by decide +kernel), List.mem_of_getElem? (i := 732) (by decide +kernel)⟩
theorem lw_p26 : lw_okq (⟨"WatchdogBoardModel", "crashes", "(I)Z"⟩, 10) := ⟨⟨by decide +kernel, by decide +kernel⟩, List.mem_of_getElem? (i := 600) (by decide +kernel), List.mem_of_getElem? (i := 735) (by decide +kernel), List.mem_of_getElem? (i := 736) (by decide +kernel)⟩
theorem lw_p27 : lw_okq (⟨"WatchdogBoardModel", "goOnJob", "(I)V"⟩, 10) := ⟨⟨by decide +kernel, by decide +kernel⟩, List.mem_of_getElem? (i := 600) (by decide +kernel), List.mem_of_getElem? (i := 739) (by decide +kernel), List.mem_of_getElem? (i := 740) (by decide +kernel)⟩
theorem lw_p28 : lw_okq (⟨"WatchdogBoardModel", "beginJob", "(I)Z"⟩, 10) := ⟨⟨by decide +kernel, by decide +kernel⟩, List.mem_of_getElem? (i := 600) (by decide +kernel), List.mem_of_getElem? (i := 743) (by decide +kernel), List.mem_of_getElem? (i := 744) (by decide +kernel)⟩
theorem lw_p29 : lw_okq (⟨"WatchdogBoardModel", "acting", "(I)I"⟩, 10) := ⟨⟨by decide +kernel, by decide +kernel⟩, List.mem_of_getElem? (i := 600) (by decide +kernel), List.mem_of_getElem? (i := 747) (by decide +kernel), List.mem_of_getElem? (i := 748) (by decide +kernel)⟩
theorem lw_p30 : lw_okq (⟨"WatchdogBoardModel", "makeReset", "(II)V"⟩, 10) := ⟨⟨by decide +kernel, by decide +kernel⟩, List.mem_of_getElem? (i := 600) (by decide +kernel), List.mem_of_getElem? (i := 751) (by decide +kernel), List.mem_of_getElem? (i := 752) (by decide +kernel)⟩
theorem lw_p31 : lw_okq (⟨"WatchdogBoardModel", "firstExpired", "()I"⟩, 10) := ⟨⟨by decide +kernel, by decide +kernel⟩, List.mem_of_getElem? (i := 600) (by decide +kernel), List.mem_of_getElem? (i := 755) (by decide +kernel), List.mem_of_getElem? (i := 756) (by decide +kernel)⟩
def lw_privs_2 : List (MethodName × Nat) := [(⟨"WatchdogBoardModel", "isTask", "(I)Z"⟩, 10), (⟨"WatchdogBoardModel", "of", "(II)I"⟩, 10), (⟨"WatchdogBoardModel", "layFault", "(IIIII)V"⟩, 10), (⟨"WatchdogBoardModel", "readFault", "()V"⟩, 10), (⟨"WatchdogBoardModel", "next", "()I"⟩, 10), (⟨"WatchdogBoardModel", "takes", "(I)Z"⟩, 10), (⟨"WatchdogBoardModel", "readNumber", "(I)I"⟩, 10), (⟨"WatchdogBoardModel", "tick", "()Z"⟩, 10), (⟨"WatchdogBoardModel", "beginToRun", "()V"⟩, 10), (⟨"WatchdogBoardModel", "runs", "()Z"⟩, 10), (⟨"WatchdogBoardModel", "crashes", "(I)Z"⟩, 10), (⟨"WatchdogBoardModel", "goOnJob", "(I)V"⟩, 10), (⟨"WatchdogBoardModel", "beginJob", "(I)Z"⟩, 10), (⟨"WatchdogBoardModel", "acting", "(I)I"⟩, 10), (⟨"WatchdogBoardModel", "makeReset", "(II)V"⟩, 10), (⟨"WatchdogBoardModel", "firstExpired", "()I"⟩, 10)]
theorem lw_r2 : ∀ q ∈ lw_privs_2, lw_okq q := List.forall_mem_cons.mpr ⟨lw_p16, List.forall_mem_cons.mpr ⟨lw_p17, List.forall_mem_cons.mpr ⟨lw_p18, List.forall_mem_cons.mpr ⟨lw_p19, List.forall_mem_cons.mpr ⟨lw_p20, List.forall_mem_cons.mpr ⟨lw_p21, List.forall_mem_cons.mpr ⟨lw_p22, List.forall_mem_cons.mpr ⟨lw_p23, List.forall_mem_cons.mpr ⟨lw_p24, List.forall_mem_cons.mpr ⟨lw_p25, List.forall_mem_cons.mpr ⟨lw_p26, List.forall_mem_cons.mpr ⟨lw_p27, List.forall_mem_cons.mpr ⟨lw_p28, List.forall_mem_cons.mpr ⟨lw_p29, List.forall_mem_cons.mpr ⟨lw_p30, List.forall_mem_cons.mpr ⟨lw_p31, fun _ h => absurd h List.not_mem_nil⟩⟩⟩⟩⟩⟩⟩⟩⟩⟩⟩⟩⟩⟩⟩⟩
theorem lw_p32 : lw_okq (⟨"WatchdogBoardModel", "boot", "()V"⟩, 10) := ⟨⟨by decide +kernel, by decide +kernel⟩, List.mem_of_getElem? (i := 600) (by decide +kernel), List.mem_of_getElem? (i := 759) (by decide +kernel), List.mem_of_getElem? (i := 760) (by decide +kernel)⟩
theorem lw_p33 : lw_okq (⟨"WatchdogBoardModel", "supervise", "()Z"⟩, 10) := ⟨⟨by decide +kernel, by decide +kernel⟩, List.mem_of_getElem? (i := 600) (by decide +kernel), List.mem_of_getElem? (i := 763) (by decide +kernel), List.mem_of_getElem? (i := 764) (by decide +kernel)⟩
theorem lw_p34 : lw_okq (⟨"WatchdogBoardModel", "judge", "(I)V"⟩, 10) := ⟨⟨by decide +kernel, by decide +kernel⟩, List.mem_of_getElem? (i := 600) (by decide +kernel), List.mem_of_getElem? (i := 767) (by decide +kernel), List.mem_of_getElem? (i := 768) (by decide +kernel)⟩
theorem lw_p35 : lw_okq (⟨"WatchdogBoardModel", "tickOfReset", "(I)I"⟩, 10) := ⟨⟨by decide +kernel, by decide +kernel⟩, List.mem_of_getElem? (i := 600) (by decide +kernel), List.mem_of_getElem? (i := 775) (by decide +kernel), List.mem_of_getElem? (i := 776) (by decide +kernel)⟩
theorem lw_p36 : lw_okq (⟨"WatchdogBoardModel", "switchOn", "()V"⟩, 10) := ⟨⟨by decide +kernel, by decide +kernel⟩, List.mem_of_getElem? (i := 600) (by decide +kernel), List.mem_of_getElem? (i := 791) (by decide +kernel), List.mem_of_getElem? (i := 792) (by decide +kernel)⟩
theorem lw_p37 : lw_okq (⟨"WatchdogBoardModel", "expiredSet", "()I"⟩, 10) := ⟨⟨by decide +kernel, by decide +kernel⟩, List.mem_of_getElem? (i := 600) (by decide +kernel), List.mem_of_getElem? (i := 799) (by decide +kernel), List.mem_of_getElem? (i := 800) (by decide +kernel)⟩
theorem lw_p38 : lw_okq (⟨"WatchdogBoardModel", "ofJob", "(II)I"⟩, 10) := ⟨⟨by decide +kernel, by decide +kernel⟩, List.mem_of_getElem? (i := 600) (by decide +kernel), List.mem_of_getElem? (i := 807) (by decide +kernel), List.mem_of_getElem? (i := 808) (by decide +kernel)⟩
theorem lw_p39 : lw_okq (⟨"WatchdogBoardModel", "putAside", "()V"⟩, 10) := ⟨⟨by decide +kernel, by decide +kernel⟩, List.mem_of_getElem? (i := 600) (by decide +kernel), List.mem_of_getElem? (i := 823) (by decide +kernel), List.mem_of_getElem? (i := 824) (by decide +kernel)⟩
theorem lw_p40 : lw_okq (⟨"WatchdogBoardModel", "putBack", "()V"⟩, 10) := ⟨⟨by decide +kernel, by decide +kernel⟩, List.mem_of_getElem? (i := 600) (by decide +kernel), List.mem_of_getElem? (i := 827) (by decide +kernel), List.mem_of_getElem? (i := 828) (by decide +kernel)⟩
theorem lw_p41 : lw_okq (⟨"WatchdogBoardModel", "clearFaults", "()V"⟩, 10) := ⟨⟨by decide +kernel, by decide +kernel⟩, List.mem_of_getElem? (i := 600) (by decide +kernel), List.mem_of_getElem? (i := 836) (by decide +kernel), List.mem_of_getElem? (i := 837) (by decide +kernel)⟩
def lw_privs_3 : List (MethodName × Nat) := [(⟨"WatchdogBoardModel", "boot", "()V"⟩, 10), (⟨"WatchdogBoardModel", "supervise", "()Z"⟩, 10), (⟨"WatchdogBoardModel", "judge", "(I)V"⟩, 10), (⟨"WatchdogBoardModel", "tickOfReset", "(I)I"⟩, 10), (⟨"WatchdogBoardModel", "switchOn", "()V"⟩, 10), (⟨"WatchdogBoardModel", "expiredSet", "()I"⟩, 10), (⟨"WatchdogBoardModel", "ofJob", "(II)I"⟩, 10), (⟨"WatchdogBoardModel", "putAside", "()V"⟩, 10), (⟨"WatchdogBoardModel", "putBack", "()V"⟩, 10), (⟨"WatchdogBoardModel", "clearFaults", "()V"⟩, 10)]
theorem lw_r3 : ∀ q ∈ lw_privs_3, lw_okq q := List.forall_mem_cons.mpr ⟨lw_p32, List.forall_mem_cons.mpr ⟨lw_p33, List.forall_mem_cons.mpr ⟨lw_p34, List.forall_mem_cons.mpr ⟨lw_p35, List.forall_mem_cons.mpr ⟨lw_p36, List.forall_mem_cons.mpr ⟨lw_p37, List.forall_mem_cons.mpr ⟨lw_p38, List.forall_mem_cons.mpr ⟨lw_p39, List.forall_mem_cons.mpr ⟨lw_p40, List.forall_mem_cons.mpr ⟨lw_p41, fun _ h => absurd h List.not_mem_nil⟩⟩⟩⟩⟩⟩⟩⟩⟩⟩
def lw_privs : List (MethodName × Nat) := lw_privs_1 ++ (lw_privs_2 ++ (lw_privs_3))
def lw_tbl : List Cond := k2_sels lw_privs ++ tables_1
theorem lw_privs_ok : ∀ q ∈ lw_privs, lw_okq q := by
  show ∀ q ∈ lw_privs_1 ++ (lw_privs_2 ++ (lw_privs_3)), lw_okq q
  exact List.forall_mem_append.mpr ⟨lw_r1, List.forall_mem_append.mpr ⟨lw_r2, lw_r3⟩⟩
end
section
def RX0 : String := "WatchdogBoard$Board"
def TX0 : u_T := fun k => match k with
  | 0 => ("WatchdogBoard$Board", "rules", "[I", true)
  | 1 => ("WatchdogBoard$Board", "tasks", "[LWatchdogBoard$Task;", true)
  | 2 => ("WatchdogBoard$Board", "book", "LWatchdogBoard$Book;", true)
  | 3 => ("WatchdogBoard$Board", "taskCount", "I", false)
  | 4 => ("WatchdogBoard$Board", "time", "I", false)
  | 5 => ("WatchdogBoard$Board", "mode", "I", false)
  | 6 => ("WatchdogBoard$Board", "image", "I", false)
  | 7 => ("WatchdogBoard$Board", "attempts", "I", false)
  | 8 => ("WatchdogBoard$Board", "bootLeft", "I", false)
  | 9 => ("WatchdogBoard$Board", "u", "I", false)
  | 10 => ("WatchdogBoard$Board", "elapsed", "I", false)
  | 11 => ("WatchdogBoard$Board", "runs", "I", false)
  | _ => ("WatchdogBoard$Board", "expiredRuns", "I", false)
def tyX0 : Nat → FieldType := fun k => match k with
  | 0 => .array .int
  | 1 => .array (.object "WatchdogBoard$Task")
  | 2 => .object "WatchdogBoard$Book"
  | 3 => .int
  | 4 => .int
  | 5 => .int
  | 6 => .int
  | 7 => .int
  | 8 => .int
  | 9 => .int
  | 10 => .int
  | 11 => .int
  | _ => .int
abbrev wsX00 : List Cond := u_ws RX0 TX0 13
theorem nmX0 : ∀ a, a < 13 → ∀ b, b < 13 → a ≠ b → (TX0 a).2.1 ≠ (TX0 b).2.1 := by decide +kernel
theorem tyX0_ok : ∀ k, k < 13 → parseFieldDescriptor (TX0 k).2.2.1 = some (tyX0 k) := by decide +kernel
abbrev cX0_init : ByteArray := prog_2_method_1_code
def yX0_init : MethodName := ⟨RX0, "<init>", "()V"⟩
abbrev cX0_become : ByteArray := prog_2_method_2_code
def yX0_become : MethodName := ⟨RX0, "become", "(LWatchdogBoard$Board;)V"⟩
abbrev cX0_removeFaults : ByteArray := prog_2_method_3_code
def yX0_removeFaults : MethodName := ⟨RX0, "removeFaults", "()V"⟩
abbrev cX0_switchOffAndOn : ByteArray := prog_2_method_4_code
def yX0_switchOffAndOn : MethodName := ⟨RX0, "switchOffAndOn", "()V"⟩
abbrev cX0_boot : ByteArray := prog_2_method_5_code
def yX0_boot : MethodName := ⟨RX0, "boot", "()V"⟩
abbrev cX0_ifRunning : ByteArray := prog_2_method_6_code
def yX0_ifRunning : MethodName := ⟨RX0, "ifRunning", "(I)I"⟩
abbrev cX0_expiredSet : ByteArray := prog_2_method_7_code
def yX0_expiredSet : MethodName := ⟨RX0, "expiredSet", "()I"⟩
abbrev cX0_lowestExpired : ByteArray := prog_2_method_8_code
def yX0_lowestExpired : MethodName := ⟨RX0, "lowestExpired", "()I"⟩
abbrev cX0_ticksToReset : ByteArray := prog_2_method_9_code
def yX0_ticksToReset : MethodName := ⟨RX0, "ticksToReset", "(I)I"⟩
abbrev cX0_tick : ByteArray := prog_2_method_10_code
def yX0_tick : MethodName := ⟨RX0, "tick", "()Z"⟩
abbrev cX0_tickBooting : ByteArray := prog_2_method_11_code
def yX0_tickBooting : MethodName := ⟨RX0, "tickBooting", "()V"⟩
abbrev cX0_tickRunning : ByteArray := prog_2_method_12_code
def yX0_tickRunning : MethodName := ⟨RX0, "tickRunning", "()Z"⟩
abbrev cX0_supervise : ByteArray := prog_2_method_13_code
def yX0_supervise : MethodName := ⟨RX0, "supervise", "()Z"⟩
abbrev cX0_watch : ByteArray := prog_2_method_14_code
def yX0_watch : MethodName := ⟨RX0, "watch", "(Z)I"⟩
abbrev cX0_fall : ByteArray := prog_2_method_15_code
def yX0_fall : MethodName := ⟨RX0, "fall", "(II)V"⟩
def RX1 : String := "WatchdogBoard$Book"
def TX1 : u_T := fun k => match k with
  | 0 => ("WatchdogBoard$Book", "cells", "[I", true)
  | _ => ("WatchdogBoard$Book", "count", "I", false)
def tyX1 : Nat → FieldType := fun k => match k with
  | 0 => .array .int
  | _ => .int
abbrev wsX10 : List Cond := u_ws RX1 TX1 2
theorem nmX1 : ∀ a, a < 2 → ∀ b, b < 2 → a ≠ b → (TX1 a).2.1 ≠ (TX1 b).2.1 := by decide +kernel
theorem tyX1_ok : ∀ k, k < 2 → parseFieldDescriptor (TX1 k).2.2.1 = some (tyX1 k) := by decide +kernel
abbrev cX1_init : ByteArray := prog_3_method_1_code
def yX1_init : MethodName := ⟨RX1, "<init>", "()V"⟩
abbrev cX1_add : ByteArray := prog_3_method_2_code
def yX1_add : MethodName := ⟨RX1, "add", "(IIIII)V"⟩
abbrev cX1_property : ByteArray := prog_3_method_3_code
def yX1_property : MethodName := ⟨RX1, "property", "(II)I"⟩
abbrev cX1_become : ByteArray := prog_3_method_4_code
def yX1_become : MethodName := ⟨RX1, "become", "(LWatchdogBoard$Book;)V"⟩
def RX2 : String := "WatchdogBoard$Pad"
def TX2 : u_T := fun k => match k with
  | 0 => ("WatchdogBoard$Pad", "signs", "[C", true)
  | 1 => ("WatchdogBoard$Pad", "length", "I", false)
  | 2 => ("WatchdogBoard$Pad", "at", "I", false)
  | 3 => ("WatchdogBoard$Pad", "found", "I", false)
  | 4 => ("WatchdogBoard$Pad", "faultKinds", "[I", true)
  | 5 => ("WatchdogBoard$Pad", "faultTasks", "[I", true)
  | 6 => ("WatchdogBoard$Pad", "faultStarts", "[I", true)
  | 7 => ("WatchdogBoard$Pad", "faultAmounts", "[I", true)
  | _ => ("WatchdogBoard$Pad", "faultImages", "[I", true)
def tyX2 : Nat → FieldType := fun k => match k with
  | 0 => .array .char
  | 1 => .int
  | 2 => .int
  | 3 => .int
  | 4 => .array .int
  | 5 => .array .int
  | 6 => .array .int
  | 7 => .array .int
  | _ => .array .int
abbrev wsX20 : List Cond := u_ws RX2 TX2 9
theorem nmX2 : ∀ a, a < 9 → ∀ b, b < 9 → a ≠ b → (TX2 a).2.1 ≠ (TX2 b).2.1 := by decide +kernel
theorem tyX2_ok : ∀ k, k < 9 → parseFieldDescriptor (TX2 k).2.2.1 = some (tyX2 k) := by decide +kernel
abbrev cX2_init : ByteArray := prog_4_method_1_code
def yX2_init : MethodName := ⟨RX2, "<init>", "()V"⟩
abbrev cX2_append : ByteArray := prog_4_method_2_code
def yX2_append : MethodName := ⟨RX2, "append", "(JI)V"⟩
abbrev cX2_readFaults : ByteArray := prog_4_method_3_code
def yX2_readFaults : MethodName := ⟨RX2, "readFaults", "()I"⟩
abbrev cX2_readFault : ByteArray := prog_4_method_4_code
def yX2_readFault : MethodName := ⟨RX2, "readFault", "()Z"⟩
abbrev cX2_keepFault : ByteArray := prog_4_method_5_code
def yX2_keepFault : MethodName := ⟨RX2, "keepFault", "(IIIII)V"⟩
abbrev cX2_readNumber : ByteArray := prog_4_method_6_code
def yX2_readNumber : MethodName := ⟨RX2, "readNumber", "(I)I"⟩
abbrev cX2_accept : ByteArray := prog_4_method_7_code
def yX2_accept : MethodName := ⟨RX2, "accept", "(C)Z"⟩
abbrev cX2_digit : ByteArray := prog_4_method_8_code
def yX2_digit : MethodName := ⟨RX2, "digit", "()I"⟩
abbrev cX2_sign : ByteArray := prog_4_method_9_code
def yX2_sign : MethodName := ⟨RX2, "sign", "()C"⟩
def RX3 : String := "WatchdogBoard$Task"
def TX3 : u_T := fun k => match k with
  | 0 => ("WatchdogBoard$Task", "settings", "[I", true)
  | 1 => ("WatchdogBoard$Task", "faultKinds", "[I", true)
  | 2 => ("WatchdogBoard$Task", "faultStarts", "[I", true)
  | 3 => ("WatchdogBoard$Task", "faultAmounts", "[I", true)
  | 4 => ("WatchdogBoard$Task", "hasJob", "Z", false)
  | 5 => ("WatchdogBoard$Task", "hangs", "Z", false)
  | 6 => ("WatchdogBoard$Task", "begin", "I", false)
  | 7 => ("WatchdogBoard$Task", "left", "I", false)
  | 8 => ("WatchdogBoard$Task", "alive", "I", false)
  | 9 => ("WatchdogBoard$Task", "failures", "I", false)
  | 10 => ("WatchdogBoard$Task", "isLate", "Z", false)
  | 11 => ("WatchdogBoard$Task", "isExpired", "Z", false)
  | 12 => ("WatchdogBoard$Task", "badCycles", "I", false)
  | 13 => ("WatchdogBoard$Task", "isLatched", "Z", false)
  | 14 => ("WatchdogBoard$Task", "latchTime", "I", false)
  | _ => ("WatchdogBoard$Task", "resets", "I", false)
def tyX3 : Nat → FieldType := fun k => match k with
  | 0 => .array .int
  | 1 => .array .int
  | 2 => .array .int
  | 3 => .array .int
  | 4 => .boolean
  | 5 => .boolean
  | 6 => .int
  | 7 => .int
  | 8 => .int
  | 9 => .int
  | 10 => .boolean
  | 11 => .boolean
  | 12 => .int
  | 13 => .boolean
  | 14 => .int
  | _ => .int
abbrev wsX30 : List Cond := u_ws RX3 TX3 16
theorem nmX3 : ∀ a, a < 16 → ∀ b, b < 16 → a ≠ b → (TX3 a).2.1 ≠ (TX3 b).2.1 := by decide +kernel
theorem tyX3_ok : ∀ k, k < 16 → parseFieldDescriptor (TX3 k).2.2.1 = some (tyX3 k) := by decide +kernel
abbrev cX3_init : ByteArray := prog_5_method_1_code
def yX3_init : MethodName := ⟨RX3, "<init>", "()V"⟩
abbrev cX3_becomeNew : ByteArray := prog_5_method_2_code
def yX3_becomeNew : MethodName := ⟨RX3, "becomeNew", "(II)V"⟩
abbrev cX3_become : ByteArray := prog_5_method_3_code
def yX3_become : MethodName := ⟨RX3, "become", "(LWatchdogBoard$Task;)V"⟩
abbrev cX3_takeFault : ByteArray := prog_5_method_4_code
def yX3_takeFault : MethodName := ⟨RX3, "takeFault", "(IIII)V"⟩
abbrev cX3_beginRun : ByteArray := prog_5_method_5_code
def yX3_beginRun : MethodName := ⟨RX3, "beginRun", "()V"⟩
abbrev cX3_clearDiagnostic : ByteArray := prog_5_method_6_code
def yX3_clearDiagnostic : MethodName := ⟨RX3, "clearDiagnostic", "()V"⟩
abbrev cX3_momentary : ByteArray := prog_5_method_7_code
def yX3_momentary : MethodName := ⟨RX3, "momentary", "(I)I"⟩
abbrev cX3_crashesInTick : ByteArray := prog_5_method_8_code
def yX3_crashesInTick : MethodName := ⟨RX3, "crashesInTick", "(II)Z"⟩
abbrev cX3_crashesAtBegin : ByteArray := prog_5_method_9_code
def yX3_crashesAtBegin : MethodName := ⟨RX3, "crashesAtBegin", "(II)Z"⟩
abbrev cX3_endCycle : ByteArray := prog_5_method_10_code
def yX3_endCycle : MethodName := ⟨RX3, "endCycle", "(I)V"⟩
def RX4 : String := "WatchdogBoard"
def TX4 : u_T := fun k => match k with
  | 0 => ("WatchdogBoard", "board", "LWatchdogBoard$Board;", true)
  | 1 => ("WatchdogBoard", "trial", "LWatchdogBoard$Board;", true)
  | 2 => ("WatchdogBoard", "slots", "[LWatchdogBoard$Board;", true)
  | 3 => ("WatchdogBoard", "isSaved", "[Z", true)
  | _ => ("WatchdogBoard", "pad", "LWatchdogBoard$Pad;", true)
def tyX4 : Nat → FieldType := fun k => match k with
  | 0 => .object "WatchdogBoard$Board"
  | 1 => .object "WatchdogBoard$Board"
  | 2 => .array (.object "WatchdogBoard$Board")
  | 3 => .array .boolean
  | _ => .object "WatchdogBoard$Pad"
abbrev wsX40 : List Cond := u_ws RX4 TX4 5
theorem nmX4 : ∀ a, a < 5 → ∀ b, b < 5 → a ≠ b → (TX4 a).2.1 ≠ (TX4 b).2.1 := by decide +kernel
theorem tyX4_ok : ∀ k, k < 5 → parseFieldDescriptor (TX4 k).2.2.1 = some (tyX4 k) := by decide +kernel
abbrev cX4_init : ByteArray := prog_1_method_1_code
def yX4_init : MethodName := ⟨RX4, "<init>", "()V"⟩
abbrev cX4_rule : ByteArray := prog_1_method_2_code
def yX4_rule : MethodName := ⟨RX4, "rule", "(II)I"⟩
abbrev cX4_addTask : ByteArray := prog_1_method_3_code
def yX4_addTask : MethodName := ⟨RX4, "addTask", "(II)I"⟩
abbrev cX4_set : ByteArray := prog_1_method_4_code
def yX4_set : MethodName := ⟨RX4, "set", "(III)I"⟩
abbrev cX4_putFault : ByteArray := prog_1_method_5_code
def yX4_putFault : MethodName := ⟨RX4, "putFault", "(IIIII)I"⟩
abbrev cX4_put : ByteArray := prog_1_method_6_code
def yX4_put : MethodName := ⟨RX4, "put", "(J)I"⟩
abbrev cX4_wipe : ByteArray := prog_1_method_7_code
def yX4_wipe : MethodName := ⟨RX4, "wipe", "()I"⟩
abbrev cX4_position : ByteArray := prog_1_method_8_code
def yX4_position : MethodName := ⟨RX4, "position", "()I"⟩
abbrev cX4_load : ByteArray := prog_1_method_9_code
def yX4_load : MethodName := ⟨RX4, "load", "()I"⟩
abbrev cX4_run : ByteArray := prog_1_method_10_code
def yX4_run : MethodName := ⟨RX4, "run", "(I)I"⟩
abbrev cX4_runToReset : ByteArray := prog_1_method_11_code
def yX4_runToReset : MethodName := ⟨RX4, "runToReset", "(I)I"⟩
abbrev cX4_kick : ByteArray := prog_1_method_12_code
def yX4_kick : MethodName := ⟨RX4, "kick", "()I"⟩
abbrev cX4_reset : ByteArray := prog_1_method_13_code
def yX4_reset : MethodName := ⟨RX4, "reset", "()I"⟩
abbrev cX4_powerCycle : ByteArray := prog_1_method_14_code
def yX4_powerCycle : MethodName := ⟨RX4, "powerCycle", "()I"⟩
abbrev cX4_state : ByteArray := prog_1_method_15_code
def yX4_state : MethodName := ⟨RX4, "state", "(I)I"⟩
abbrev cX4_task : ByteArray := prog_1_method_16_code
def yX4_task : MethodName := ⟨RX4, "task", "(II)I"⟩
abbrev cX4_record : ByteArray := prog_1_method_17_code
def yX4_record : MethodName := ⟨RX4, "record", "(II)I"⟩
abbrev cX4_clear : ByteArray := prog_1_method_18_code
def yX4_clear : MethodName := ⟨RX4, "clear", "(I)I"⟩
abbrev cX4_forecast : ByteArray := prog_1_method_19_code
def yX4_forecast : MethodName := ⟨RX4, "forecast", "(I)I"⟩
abbrev cX4_worstHang : ByteArray := prog_1_method_20_code
def yX4_worstHang : MethodName := ⟨RX4, "worstHang", "(IIII)I"⟩
abbrev cX4_greatestKick : ByteArray := prog_1_method_21_code
def yX4_greatestKick : MethodName := ⟨RX4, "greatestKick", "(I)I"⟩
abbrev cX4_save : ByteArray := prog_1_method_22_code
def yX4_save : MethodName := ⟨RX4, "save", "(I)I"⟩
abbrev cX4_restore : ByteArray := prog_1_method_23_code
def yX4_restore : MethodName := ⟨RX4, "restore", "(I)I"⟩
abbrev cX4_hasTask : ByteArray := prog_1_method_24_code
def yX4_hasTask : MethodName := ⟨RX4, "hasTask", "(I)Z"⟩
abbrev cX4_prepareTrial : ByteArray := prog_1_method_25_code
def yX4_prepareTrial : MethodName := ⟨RX4, "prepareTrial", "()V"⟩
abbrev cX4_staysUp : ByteArray := prog_1_method_26_code
def yX4_staysUp : MethodName := ⟨RX4, "staysUp", "(II)Z"⟩
abbrev cX4_isWithin : ByteArray := prog_1_method_27_code
def yX4_isWithin : MethodName := ⟨RX4, "isWithin", "(III)Z"⟩
abbrev cX4_isAllowed : ByteArray := prog_1_method_28_code
def yX4_isAllowed : MethodName := ⟨RX4, "isAllowed", "(II[I[I)Z"⟩
abbrev cX4_divides : ByteArray := prog_1_method_29_code
def yX4_divides : MethodName := ⟨RX4, "divides", "(II)Z"⟩
abbrev cX4_countSigns : ByteArray := prog_1_method_30_code
def yX4_countSigns : MethodName := ⟨RX4, "countSigns", "(J)I"⟩
def RX5 : String := "WatchdogBoardModel"
def TX5 : u_T := fun k => match k with
  | 0 => ("WatchdogBoardModel", "at", "[I", true)
  | 1 => ("WatchdogBoardModel", "aside", "[I", true)
  | 2 => ("WatchdogBoardModel", "slots", "[I", true)
  | 3 => ("WatchdogBoardModel", "isSaved", "[Z", true)
  | 4 => ("WatchdogBoardModel", "pad", "[I", true)
  | 5 => ("WatchdogBoardModel", "padMany", "I", false)
  | 6 => ("WatchdogBoardModel", "spot", "I", false)
  | 7 => ("WatchdogBoardModel", "isWrong", "Z", false)
  | 8 => ("WatchdogBoardModel", "read", "[I", true)
  | _ => ("WatchdogBoardModel", "readMany", "I", false)
def tyX5 : Nat → FieldType := fun k => match k with
  | 0 => .array .int
  | 1 => .array .int
  | 2 => .array .int
  | 3 => .array .boolean
  | 4 => .array .int
  | 5 => .int
  | 6 => .int
  | 7 => .boolean
  | 8 => .array .int
  | _ => .int
abbrev wsX50 : List Cond := u_ws RX5 TX5 10
theorem nmX5 : ∀ a, a < 10 → ∀ b, b < 10 → a ≠ b → (TX5 a).2.1 ≠ (TX5 b).2.1 := by decide +kernel
theorem tyX5_ok : ∀ k, k < 10 → parseFieldDescriptor (TX5 k).2.2.1 = some (tyX5 k) := by decide +kernel
abbrev cX5_init : ByteArray := prog_7_method_1_code
def yX5_init : MethodName := ⟨RX5, "<init>", "()V"⟩
abbrev cX5_in : ByteArray := prog_7_method_3_code
def yX5_in : MethodName := ⟨RX5, "in", "(III)Z"⟩
abbrev cX5_place : ByteArray := prog_7_method_4_code
def yX5_place : MethodName := ⟨RX5, "place", "(II)I"⟩
abbrev cX5_of : ByteArray := prog_7_method_5_code
def yX5_of : MethodName := ⟨RX5, "of", "(II)I"⟩
abbrev cX5_lay : ByteArray := prog_7_method_6_code
def yX5_lay : MethodName := ⟨RX5, "lay", "(III)V"⟩
abbrev cX5_putAside : ByteArray := prog_7_method_7_code
def yX5_putAside : MethodName := ⟨RX5, "putAside", "()V"⟩
abbrev cX5_putBack : ByteArray := prog_7_method_8_code
def yX5_putBack : MethodName := ⟨RX5, "putBack", "()V"⟩
abbrev cX5_isTask : ByteArray := prog_7_method_9_code
def yX5_isTask : MethodName := ⟨RX5, "isTask", "(I)Z"⟩
abbrev cX5_isRule : ByteArray := prog_7_method_10_code
def yX5_isRule : MethodName := ⟨RX5, "isRule", "(II)Z"⟩
abbrev cX5_rule : ByteArray := prog_7_method_11_code
def yX5_rule : MethodName := ⟨RX5, "rule", "(II)I"⟩
abbrev cX5_addTask : ByteArray := prog_7_method_12_code
def yX5_addTask : MethodName := ⟨RX5, "addTask", "(II)I"⟩
abbrev cX5_isSetting : ByteArray := prog_7_method_13_code
def yX5_isSetting : MethodName := ⟨RX5, "isSetting", "(II)Z"⟩
abbrev cX5_set : ByteArray := prog_7_method_14_code
def yX5_set : MethodName := ⟨RX5, "set", "(III)I"⟩
abbrev cX5_layFault : ByteArray := prog_7_method_15_code
def yX5_layFault : MethodName := ⟨RX5, "layFault", "(IIIII)V"⟩
abbrev cX5_putFault : ByteArray := prog_7_method_16_code
def yX5_putFault : MethodName := ⟨RX5, "putFault", "(IIIII)I"⟩
abbrev cX5_put : ByteArray := prog_7_method_17_code
def yX5_put : MethodName := ⟨RX5, "put", "(J)I"⟩
abbrev cX5_wipe : ByteArray := prog_7_method_18_code
def yX5_wipe : MethodName := ⟨RX5, "wipe", "()I"⟩
abbrev cX5_next : ByteArray := prog_7_method_19_code
def yX5_next : MethodName := ⟨RX5, "next", "()I"⟩
abbrev cX5_readNumber : ByteArray := prog_7_method_20_code
def yX5_readNumber : MethodName := ⟨RX5, "readNumber", "(I)I"⟩
abbrev cX5_takes : ByteArray := prog_7_method_21_code
def yX5_takes : MethodName := ⟨RX5, "takes", "(I)Z"⟩
abbrev cX5_kindOf : ByteArray := prog_7_method_22_code
def yX5_kindOf : MethodName := ⟨RX5, "kindOf", "(I)I"⟩
abbrev cX5_readFault : ByteArray := prog_7_method_23_code
def yX5_readFault : MethodName := ⟨RX5, "readFault", "()V"⟩
abbrev cX5_position : ByteArray := prog_7_method_24_code
def yX5_position : MethodName := ⟨RX5, "position", "()I"⟩
abbrev cX5_load : ByteArray := prog_7_method_25_code
def yX5_load : MethodName := ⟨RX5, "load", "()I"⟩
abbrev cX5_firstExpired : ByteArray := prog_7_method_26_code
def yX5_firstExpired : MethodName := ⟨RX5, "firstExpired", "()I"⟩
abbrev cX5_boot : ByteArray := prog_7_method_27_code
def yX5_boot : MethodName := ⟨RX5, "boot", "()V"⟩
abbrev cX5_makeReset : ByteArray := prog_7_method_28_code
def yX5_makeReset : MethodName := ⟨RX5, "makeReset", "(II)V"⟩
abbrev cX5_beginToRun : ByteArray := prog_7_method_29_code
def yX5_beginToRun : MethodName := ⟨RX5, "beginToRun", "()V"⟩
abbrev cX5_acting : ByteArray := prog_7_method_30_code
def yX5_acting : MethodName := ⟨RX5, "acting", "(I)I"⟩
abbrev cX5_beginJob : ByteArray := prog_7_method_31_code
def yX5_beginJob : MethodName := ⟨RX5, "beginJob", "(I)Z"⟩
abbrev cX5_goOnJob : ByteArray := prog_7_method_32_code
def yX5_goOnJob : MethodName := ⟨RX5, "goOnJob", "(I)V"⟩
abbrev cX5_crashes : ByteArray := prog_7_method_33_code
def yX5_crashes : MethodName := ⟨RX5, "crashes", "(I)Z"⟩
abbrev cX5_judge : ByteArray := prog_7_method_34_code
def yX5_judge : MethodName := ⟨RX5, "judge", "(I)V"⟩
abbrev cX5_supervise : ByteArray := prog_7_method_35_code
def yX5_supervise : MethodName := ⟨RX5, "supervise", "()Z"⟩
abbrev cX5_runs : ByteArray := prog_7_method_36_code
def yX5_runs : MethodName := ⟨RX5, "runs", "()Z"⟩
abbrev cX5_tick : ByteArray := prog_7_method_37_code
def yX5_tick : MethodName := ⟨RX5, "tick", "()Z"⟩
abbrev cX5_run : ByteArray := prog_7_method_38_code
def yX5_run : MethodName := ⟨RX5, "run", "(I)I"⟩
abbrev cX5_tickOfReset : ByteArray := prog_7_method_39_code
def yX5_tickOfReset : MethodName := ⟨RX5, "tickOfReset", "(I)I"⟩
abbrev cX5_runToReset : ByteArray := prog_7_method_40_code
def yX5_runToReset : MethodName := ⟨RX5, "runToReset", "(I)I"⟩
abbrev cX5_kick : ByteArray := prog_7_method_41_code
def yX5_kick : MethodName := ⟨RX5, "kick", "()I"⟩
abbrev cX5_reset : ByteArray := prog_7_method_42_code
def yX5_reset : MethodName := ⟨RX5, "reset", "()I"⟩
abbrev cX5_switchOn : ByteArray := prog_7_method_43_code
def yX5_switchOn : MethodName := ⟨RX5, "switchOn", "()V"⟩
abbrev cX5_powerCycle : ByteArray := prog_7_method_44_code
def yX5_powerCycle : MethodName := ⟨RX5, "powerCycle", "()I"⟩
abbrev cX5_expiredSet : ByteArray := prog_7_method_45_code
def yX5_expiredSet : MethodName := ⟨RX5, "expiredSet", "()I"⟩
abbrev cX5_state : ByteArray := prog_7_method_46_code
def yX5_state : MethodName := ⟨RX5, "state", "(I)I"⟩
abbrev cX5_ofJob : ByteArray := prog_7_method_47_code
def yX5_ofJob : MethodName := ⟨RX5, "ofJob", "(II)I"⟩
abbrev cX5_task : ByteArray := prog_7_method_48_code
def yX5_task : MethodName := ⟨RX5, "task", "(II)I"⟩
abbrev cX5_record : ByteArray := prog_7_method_49_code
def yX5_record : MethodName := ⟨RX5, "record", "(II)I"⟩
abbrev cX5_clear : ByteArray := prog_7_method_50_code
def yX5_clear : MethodName := ⟨RX5, "clear", "(I)I"⟩
abbrev cX5_forecast : ByteArray := prog_7_method_51_code
def yX5_forecast : MethodName := ⟨RX5, "forecast", "(I)I"⟩
abbrev cX5_clearFaults : ByteArray := prog_7_method_52_code
def yX5_clearFaults : MethodName := ⟨RX5, "clearFaults", "()V"⟩
abbrev cX5_worstHang : ByteArray := prog_7_method_53_code
def yX5_worstHang : MethodName := ⟨RX5, "worstHang", "(IIII)I"⟩
abbrev cX5_greatestKick : ByteArray := prog_7_method_54_code
def yX5_greatestKick : MethodName := ⟨RX5, "greatestKick", "(I)I"⟩
abbrev cX5_save : ByteArray := prog_7_method_55_code
def yX5_save : MethodName := ⟨RX5, "save", "(I)I"⟩
abbrev cX5_restore : ByteArray := prog_7_method_56_code
def yX5_restore : MethodName := ⟨RX5, "restore", "(I)I"⟩
def RJ11 : String := "java/lang/Character"
def TJ11 : u_T := fun k => match k with
  | _ => ("", "", "", false)
def tyJ11 : Nat → FieldType := fun k => match k with
  | _ => .int
abbrev wsJ110 : List Cond := u_ws RJ11 TJ11 0
theorem nmJ11 : ∀ a, a < 0 → ∀ b, b < 0 → a ≠ b → (TJ11 a).2.1 ≠ (TJ11 b).2.1 := by decide +kernel
theorem tyJ11_ok : ∀ k, k < 0 → parseFieldDescriptor (TJ11 k).2.2.1 = some (tyJ11 k) := by decide +kernel
abbrev cJ11_isValidCodePoint_9a6ad : ByteArray := prog_8_method_11_code
def yJ11_isValidCodePoint_9a6ad : MethodName := ⟨RJ11, "isValidCodePoint", "(I)Z"⟩
abbrev cJ11_highSurrogate_5068e : ByteArray := prog_8_method_28_code
def yJ11_highSurrogate_5068e : MethodName := ⟨RJ11, "highSurrogate", "(I)C"⟩
abbrev cJ11_lowSurrogate_5068e : ByteArray := prog_8_method_29_code
def yJ11_lowSurrogate_5068e : MethodName := ⟨RJ11, "lowSurrogate", "(I)C"⟩
def RJx8e188 : String := "java/lang/Cloneable"
def TJx8e188 : u_T := fun k => match k with
  | _ => ("", "", "", false)
def tyJx8e188 : Nat → FieldType := fun k => match k with
  | _ => .int
abbrev wsJx8e1880 : List Cond := u_ws RJx8e188 TJx8e188 0
theorem nmJx8e188 : ∀ a, a < 0 → ∀ b, b < 0 → a ≠ b → (TJx8e188 a).2.1 ≠ (TJx8e188 b).2.1 := by decide +kernel
theorem tyJx8e188_ok : ∀ k, k < 0 → parseFieldDescriptor (TJx8e188 k).2.2.1 = some (tyJx8e188 k) := by decide +kernel
def RJ9 : String := "java/lang/Math"
def TJ9 : u_T := fun k => match k with
  | _ => ("", "", "", false)
def tyJ9 : Nat → FieldType := fun k => match k with
  | _ => .int
abbrev wsJ90 : List Cond := u_ws RJ9 TJ9 0
theorem nmJ9 : ∀ a, a < 0 → ∀ b, b < 0 → a ≠ b → (TJ9 a).2.1 ≠ (TJ9 b).2.1 := by decide +kernel
theorem tyJ9_ok : ∀ k, k < 0 → parseFieldDescriptor (TJ9 k).2.2.1 = some (tyJ9 k) := by decide +kernel
abbrev cJ9_max_7cf53 : ByteArray := prog_10_method_65_code
def yJ9_max_7cf53 : MethodName := ⟨RJ9, "max", "(II)I"⟩
abbrev cJ9_min_7cf53 : ByteArray := prog_10_method_69_code
def yJ9_min_7cf53 : MethodName := ⟨RJ9, "min", "(II)I"⟩
def RJ0 : String := "java/lang/String"
def TJ0 : u_T := fun k => match k with
  | _ => ("", "", "", false)
def tyJ0 : Nat → FieldType := fun k => match k with
  | _ => .int
abbrev wsJ00 : List Cond := u_ws RJ0 TJ0 0
theorem nmJ0 : ∀ a, a < 0 → ∀ b, b < 0 → a ≠ b → (TJ0 a).2.1 ≠ (TJ0 b).2.1 := by decide +kernel
theorem tyJ0_ok : ∀ k, k < 0 → parseFieldDescriptor (TJ0 k).2.2.1 = some (tyJ0 k) := by decide +kernel
abbrev cJ0_length_8abf5 : ByteArray := prog_11_method_54_code
def yJ0_length_8abf5 : MethodName := ⟨RJ0, "length", "()I"⟩
abbrev cJ0_indexOf_0f7a4 : ByteArray := prog_11_method_79_code
def yJ0_indexOf_0f7a4 : MethodName := ⟨RJ0, "indexOf", "(I)I"⟩
abbrev cJ0_indexOf_7cf53 : ByteArray := prog_11_method_80_code
def yJ0_indexOf_7cf53 : MethodName := ⟨RJ0, "indexOf", "(II)I"⟩
abbrev cJ0_coder_7d493 : ByteArray := prog_11_method_152_code
def yJ0_coder_7d493 : MethodName := ⟨RJ0, "coder", "()B"⟩
abbrev cJ0_isLatin1_aae02 : ByteArray := prog_11_method_154_code
def yJ0_isLatin1_aae02 : MethodName := ⟨RJ0, "isLatin1", "()Z"⟩
abbrev cJ0_checkBoundsBeginEnd_23922 : ByteArray := prog_11_method_158_code
def yJ0_checkBoundsBeginEnd_23922 : MethodName := ⟨RJ0, "checkBoundsBeginEnd", "(III)V"⟩
def RJ1 : String := "java/lang/StringLatin1"
def TJ1 : u_T := fun k => match k with
  | _ => ("", "", "", false)
def tyJ1 : Nat → FieldType := fun k => match k with
  | _ => .int
abbrev wsJ10 : List Cond := u_ws RJ1 TJ1 0
theorem nmJ1 : ∀ a, a < 0 → ∀ b, b < 0 → a ≠ b → (TJ1 a).2.1 ≠ (TJ1 b).2.1 := by decide +kernel
theorem tyJ1_ok : ∀ k, k < 0 → parseFieldDescriptor (TJ1 k).2.2.1 = some (tyJ1 k) := by decide +kernel
abbrev cJ1_canEncode_9a6ad : ByteArray := prog_12_method_4_code
def yJ1_canEncode_9a6ad : MethodName := ⟨RJ1, "canEncode", "(I)Z"⟩
abbrev cJ1_indexOf_4cfef : ByteArray := prog_12_method_22_code
def yJ1_indexOf_4cfef : MethodName := ⟨RJ1, "indexOf", "([BIII)I"⟩
abbrev cJ1_indexOfChar_4cfef : ByteArray := prog_12_method_23_code
def yJ1_indexOfChar_4cfef : MethodName := ⟨RJ1, "indexOfChar", "([BIII)I"⟩
def RJ2 : String := "java/lang/StringUTF16"
def TJ2 : u_T := fun k => match k with
  | _ => ("", "", "", false)
def tyJ2 : Nat → FieldType := fun k => match k with
  | _ => .int
abbrev wsJ20 : List Cond := u_ws RJ2 TJ2 0
theorem nmJ2 : ∀ a, a < 0 → ∀ b, b < 0 → a ≠ b → (TJ2 a).2.1 ≠ (TJ2 b).2.1 := by decide +kernel
theorem tyJ2_ok : ∀ k, k < 0 → parseFieldDescriptor (TJ2 k).2.2.1 = some (tyJ2 k) := by decide +kernel
abbrev cJ2_getChar_3b067 : ByteArray := prog_13_method_5_code
def yJ2_getChar_3b067 : MethodName := ⟨RJ2, "getChar", "([BI)C"⟩
abbrev cJ2_length_9d52b : ByteArray := prog_13_method_6_code
def yJ2_length_9d52b : MethodName := ⟨RJ2, "length", "([B)I"⟩
abbrev cJ2_indexOf_4cfef : ByteArray := prog_13_method_40_code
def yJ2_indexOf_4cfef : MethodName := ⟨RJ2, "indexOf", "([BIII)I"⟩
abbrev cJ2_indexOfChar_4cfef : ByteArray := prog_13_method_47_code
def yJ2_indexOfChar_4cfef : MethodName := ⟨RJ2, "indexOfChar", "([BIII)I"⟩
abbrev cJ2_indexOfCharUnsafe_4cfef : ByteArray := prog_13_method_48_code
def yJ2_indexOfCharUnsafe_4cfef : MethodName := ⟨RJ2, "indexOfCharUnsafe", "([BIII)I"⟩
abbrev cJ2_indexOfSupplementary_4cfef : ByteArray := prog_13_method_49_code
def yJ2_indexOfSupplementary_4cfef : MethodName := ⟨RJ2, "indexOfSupplementary", "([BIII)I"⟩
abbrev cJ2_checkBoundsBeginEnd_d044e : ByteArray := prog_13_method_93_code
def yJ2_checkBoundsBeginEnd_d044e : MethodName := ⟨RJ2, "checkBoundsBeginEnd", "(II[B)V"⟩
def RJ10 : String := "java/lang/System"
def TJ10 : u_T := fun k => match k with
  | _ => ("", "", "", false)
def tyJ10 : Nat → FieldType := fun k => match k with
  | _ => .int
abbrev wsJ100 : List Cond := u_ws RJ10 TJ10 0
theorem nmJ10 : ∀ a, a < 0 → ∀ b, b < 0 → a ≠ b → (TJ10 a).2.1 ≠ (TJ10 b).2.1 := by decide +kernel
theorem tyJ10_ok : ∀ k, k < 0 → parseFieldDescriptor (TJ10 k).2.2.1 = some (tyJ10 k) := by decide +kernel
def RJ3 : String := "jdk/internal/util/Preconditions"
def TJ3 : u_T := fun k => match k with
  | _ => ("", "", "", false)
def tyJ3 : Nat → FieldType := fun k => match k with
  | _ => .int
abbrev wsJ30 : List Cond := u_ws RJ3 TJ3 0
theorem nmJ3 : ∀ a, a < 0 → ∀ b, b < 0 → a ≠ b → (TJ3 a).2.1 ≠ (TJ3 b).2.1 := by decide +kernel
theorem tyJ3_ok : ∀ k, k < 0 → parseFieldDescriptor (TJ3 k).2.2.1 = some (tyJ3 k) := by decide +kernel
abbrev cJ3_checkFromToIndex_8c36e : ByteArray := prog_15_method_12_code
def yJ3_checkFromToIndex_8c36e : MethodName := ⟨RJ3, "checkFromToIndex", "(IIILjava/util/function/BiFunction;)I"⟩
def RL : String := "WatchdogBoardLaw"
abbrev cL_law : ByteArray := code
def yL_law : MethodName := ⟨RL, "law", "([I)Z"⟩
end
section
theorem dX0_init_0 : decode cX0_init 0 = .ok (.aload_n 0, 1) := by decide +kernel
theorem dX0_init_1 : decode cX0_init 1 = .ok (.invokespecial 3, 3) := by decide +kernel
theorem dX0_init_4 : decode cX0_init 4 = .ok (.aload_n 0, 1) := by decide +kernel
theorem dX0_init_5 : decode cX0_init 5 = .ok (.getstatic 9, 3) := by decide +kernel
theorem dX0_init_8 : decode cX0_init 8 = .ok (.invokevirtual 13, 3) := by decide +kernel
theorem dX0_init_11 : decode cX0_init 11 = .ok (.checkcast 14, 3) := by decide +kernel
theorem dX0_init_14 : decode cX0_init 14 = .ok (.putfield 18, 3) := by decide +kernel
theorem dX0_init_17 : decode cX0_init 17 = .ok (.aload_n 0, 1) := by decide +kernel
theorem dX0_init_18 : decode cX0_init 18 = .ok (.bipush 6, 2) := by decide +kernel
theorem dX0_init_20 : decode cX0_init 20 = .ok (.anewarray 23, 3) := by decide +kernel
theorem dX0_init_23 : decode cX0_init 23 = .ok (.putfield 25, 3) := by decide +kernel
theorem dX0_init_26 : decode cX0_init 26 = .ok (.aload_n 0, 1) := by decide +kernel
theorem dX0_init_27 : decode cX0_init 27 = .ok (.new 29, 3) := by decide +kernel
theorem dX0_init_30 : decode cX0_init 30 = .ok (.dup, 1) := by decide +kernel
theorem dX0_init_31 : decode cX0_init 31 = .ok (.invokespecial 31, 3) := by decide +kernel
theorem dX0_init_34 : decode cX0_init 34 = .ok (.putfield 32, 3) := by decide +kernel
theorem dX0_init_37 : decode cX0_init 37 = .ok (.aload_n 0, 1) := by decide +kernel
theorem dX0_init_38 : decode cX0_init 38 = .ok (.iconst 0, 1) := by decide +kernel
theorem dX0_init_39 : decode cX0_init 39 = .ok (.putfield 36, 3) := by decide +kernel
theorem dX0_init_42 : decode cX0_init 42 = .ok (.aload_n 0, 1) := by decide +kernel
theorem dX0_init_43 : decode cX0_init 43 = .ok (.iconst 0, 1) := by decide +kernel
theorem dX0_init_44 : decode cX0_init 44 = .ok (.putfield 40, 3) := by decide +kernel
theorem dX0_init_47 : decode cX0_init 47 = .ok (.aload_n 0, 1) := by decide +kernel
theorem dX0_init_48 : decode cX0_init 48 = .ok (.iconst 0, 1) := by decide +kernel
theorem dX0_init_49 : decode cX0_init 49 = .ok (.putfield 43, 3) := by decide +kernel
theorem dX0_init_52 : decode cX0_init 52 = .ok (.aload_n 0, 1) := by decide +kernel
theorem dX0_init_53 : decode cX0_init 53 = .ok (.iconst 0, 1) := by decide +kernel
theorem dX0_init_54 : decode cX0_init 54 = .ok (.putfield 46, 3) := by decide +kernel
theorem dX0_init_57 : decode cX0_init 57 = .ok (.aload_n 0, 1) := by decide +kernel
theorem dX0_init_58 : decode cX0_init 58 = .ok (.iconst 0, 1) := by decide +kernel
theorem dX0_init_59 : decode cX0_init 59 = .ok (.putfield 49, 3) := by decide +kernel
theorem dX0_init_62 : decode cX0_init 62 = .ok (.aload_n 0, 1) := by decide +kernel
theorem dX0_init_63 : decode cX0_init 63 = .ok (.getstatic 9, 3) := by decide +kernel
theorem dX0_init_66 : decode cX0_init 66 = .ok (.iconst 5, 1) := by decide +kernel
theorem dX0_init_67 : decode cX0_init 67 = .ok (.iaload, 1) := by decide +kernel
theorem dX0_init_68 : decode cX0_init 68 = .ok (.putfield 52, 3) := by decide +kernel
theorem dX0_init_71 : decode cX0_init 71 = .ok (.aload_n 0, 1) := by decide +kernel
theorem dX0_init_72 : decode cX0_init 72 = .ok (.iconst 0, 1) := by decide +kernel
theorem dX0_init_73 : decode cX0_init 73 = .ok (.putfield 55, 3) := by decide +kernel
theorem dX0_init_76 : decode cX0_init 76 = .ok (.aload_n 0, 1) := by decide +kernel
theorem dX0_init_77 : decode cX0_init 77 = .ok (.iconst 0, 1) := by decide +kernel
theorem dX0_init_78 : decode cX0_init 78 = .ok (.putfield 58, 3) := by decide +kernel
theorem dX0_init_81 : decode cX0_init 81 = .ok (.aload_n 0, 1) := by decide +kernel
theorem dX0_init_82 : decode cX0_init 82 = .ok (.iconst 0, 1) := by decide +kernel
theorem dX0_init_83 : decode cX0_init 83 = .ok (.putfield 61, 3) := by decide +kernel
theorem dX0_init_86 : decode cX0_init 86 = .ok (.aload_n 0, 1) := by decide +kernel
theorem dX0_init_87 : decode cX0_init 87 = .ok (.iconst 0, 1) := by decide +kernel
theorem dX0_init_88 : decode cX0_init 88 = .ok (.putfield 64, 3) := by decide +kernel
theorem dX0_init_91 : decode cX0_init 91 = .ok (.iconst 0, 1) := by decide +kernel
theorem dX0_init_92 : decode cX0_init 92 = .ok (.istore_n 1, 1) := by decide +kernel
theorem dX0_init_93 : decode cX0_init 93 = .ok (.iload_n 1, 1) := by decide +kernel
theorem dX0_init_94 : decode cX0_init 94 = .ok (.bipush 6, 2) := by decide +kernel
theorem dX0_init_96 : decode cX0_init 96 = .ok (.if_icmp .ge 22, 3) := by decide +kernel
theorem dX0_init_99 : decode cX0_init 99 = .ok (.aload_n 0, 1) := by decide +kernel
theorem dX0_init_100 : decode cX0_init 100 = .ok (.getfield 25, 3) := by decide +kernel
theorem dX0_init_103 : decode cX0_init 103 = .ok (.iload_n 1, 1) := by decide +kernel
theorem dX0_init_104 : decode cX0_init 104 = .ok (.new 23, 3) := by decide +kernel
theorem dX0_init_107 : decode cX0_init 107 = .ok (.dup, 1) := by decide +kernel
theorem dX0_init_108 : decode cX0_init 108 = .ok (.invokespecial 67, 3) := by decide +kernel
theorem dX0_init_111 : decode cX0_init 111 = .ok (.aastore, 1) := by decide +kernel
theorem dX0_init_112 : decode cX0_init 112 = .ok (.iinc 1 1, 3) := by decide +kernel
theorem dX0_init_115 : decode cX0_init 115 = .ok (.goto (-22), 3) := by decide +kernel
theorem dX0_init_118 : decode cX0_init 118 = .ok (.return_, 1) := by decide +kernel
theorem dX0_become_0 : decode cX0_become 0 = .ok (.aload_n 1, 1) := by decide +kernel
theorem dX0_become_1 : decode cX0_become 1 = .ok (.getfield 18, 3) := by decide +kernel
theorem dX0_become_4 : decode cX0_become 4 = .ok (.iconst 0, 1) := by decide +kernel
theorem dX0_become_5 : decode cX0_become 5 = .ok (.aload_n 0, 1) := by decide +kernel
theorem dX0_become_6 : decode cX0_become 6 = .ok (.getfield 18, 3) := by decide +kernel
theorem dX0_become_9 : decode cX0_become 9 = .ok (.iconst 0, 1) := by decide +kernel
theorem dX0_become_10 : decode cX0_become 10 = .ok (.bipush 8, 2) := by decide +kernel
theorem dX0_become_12 : decode cX0_become 12 = .ok (.invokestatic 68, 3) := by decide +kernel
theorem dX0_become_15 : decode cX0_become 15 = .ok (.iconst 0, 1) := by decide +kernel
theorem dX0_become_16 : decode cX0_become 16 = .ok (.istore_n 2, 1) := by decide +kernel
theorem dX0_become_17 : decode cX0_become 17 = .ok (.iload_n 2, 1) := by decide +kernel
theorem dX0_become_18 : decode cX0_become 18 = .ok (.aload_n 1, 1) := by decide +kernel
theorem dX0_become_19 : decode cX0_become 19 = .ok (.getfield 36, 3) := by decide +kernel
theorem dX0_become_22 : decode cX0_become 22 = .ok (.if_icmp .ge 24, 3) := by decide +kernel
theorem dX0_become_25 : decode cX0_become 25 = .ok (.aload_n 0, 1) := by decide +kernel
theorem dX0_become_26 : decode cX0_become 26 = .ok (.getfield 25, 3) := by decide +kernel
theorem dX0_become_29 : decode cX0_become 29 = .ok (.iload_n 2, 1) := by decide +kernel
theorem dX0_become_30 : decode cX0_become 30 = .ok (.aaload, 1) := by decide +kernel
theorem dX0_become_31 : decode cX0_become 31 = .ok (.aload_n 1, 1) := by decide +kernel
theorem dX0_become_32 : decode cX0_become 32 = .ok (.getfield 25, 3) := by decide +kernel
theorem dX0_become_35 : decode cX0_become 35 = .ok (.iload_n 2, 1) := by decide +kernel
theorem dX0_become_36 : decode cX0_become 36 = .ok (.aaload, 1) := by decide +kernel
theorem dX0_become_37 : decode cX0_become 37 = .ok (.invokevirtual 74, 3) := by decide +kernel
theorem dX0_become_40 : decode cX0_become 40 = .ok (.iinc 2 1, 3) := by decide +kernel
theorem dX0_become_43 : decode cX0_become 43 = .ok (.goto (-26), 3) := by decide +kernel
theorem dX0_become_46 : decode cX0_become 46 = .ok (.aload_n 0, 1) := by decide +kernel
theorem dX0_become_47 : decode cX0_become 47 = .ok (.getfield 32, 3) := by decide +kernel
theorem dX0_become_50 : decode cX0_become 50 = .ok (.aload_n 1, 1) := by decide +kernel
theorem dX0_become_51 : decode cX0_become 51 = .ok (.getfield 32, 3) := by decide +kernel
theorem dX0_become_54 : decode cX0_become 54 = .ok (.invokevirtual 78, 3) := by decide +kernel
theorem dX0_become_57 : decode cX0_become 57 = .ok (.aload_n 0, 1) := by decide +kernel
theorem dX0_become_58 : decode cX0_become 58 = .ok (.aload_n 1, 1) := by decide +kernel
theorem dX0_become_59 : decode cX0_become 59 = .ok (.getfield 36, 3) := by decide +kernel
theorem dX0_become_62 : decode cX0_become 62 = .ok (.putfield 36, 3) := by decide +kernel
theorem dX0_become_65 : decode cX0_become 65 = .ok (.aload_n 0, 1) := by decide +kernel
theorem dX0_become_66 : decode cX0_become 66 = .ok (.aload_n 1, 1) := by decide +kernel
theorem dX0_become_67 : decode cX0_become 67 = .ok (.getfield 40, 3) := by decide +kernel
theorem dX0_become_70 : decode cX0_become 70 = .ok (.putfield 40, 3) := by decide +kernel
theorem dX0_become_73 : decode cX0_become 73 = .ok (.aload_n 0, 1) := by decide +kernel
theorem dX0_become_74 : decode cX0_become 74 = .ok (.aload_n 1, 1) := by decide +kernel
theorem dX0_become_75 : decode cX0_become 75 = .ok (.getfield 43, 3) := by decide +kernel
theorem dX0_become_78 : decode cX0_become 78 = .ok (.putfield 43, 3) := by decide +kernel
theorem dX0_become_81 : decode cX0_become 81 = .ok (.aload_n 0, 1) := by decide +kernel
theorem dX0_become_82 : decode cX0_become 82 = .ok (.aload_n 1, 1) := by decide +kernel
theorem dX0_become_83 : decode cX0_become 83 = .ok (.getfield 46, 3) := by decide +kernel
theorem dX0_become_86 : decode cX0_become 86 = .ok (.putfield 46, 3) := by decide +kernel
theorem dX0_become_89 : decode cX0_become 89 = .ok (.aload_n 0, 1) := by decide +kernel
theorem dX0_become_90 : decode cX0_become 90 = .ok (.aload_n 1, 1) := by decide +kernel
theorem dX0_become_91 : decode cX0_become 91 = .ok (.getfield 49, 3) := by decide +kernel
theorem dX0_become_94 : decode cX0_become 94 = .ok (.putfield 49, 3) := by decide +kernel
theorem dX0_become_97 : decode cX0_become 97 = .ok (.aload_n 0, 1) := by decide +kernel
theorem dX0_become_98 : decode cX0_become 98 = .ok (.aload_n 1, 1) := by decide +kernel
theorem dX0_become_99 : decode cX0_become 99 = .ok (.getfield 52, 3) := by decide +kernel
theorem dX0_become_102 : decode cX0_become 102 = .ok (.putfield 52, 3) := by decide +kernel
theorem dX0_become_105 : decode cX0_become 105 = .ok (.aload_n 0, 1) := by decide +kernel
theorem dX0_become_106 : decode cX0_become 106 = .ok (.aload_n 1, 1) := by decide +kernel
theorem dX0_become_107 : decode cX0_become 107 = .ok (.getfield 55, 3) := by decide +kernel
theorem dX0_become_110 : decode cX0_become 110 = .ok (.putfield 55, 3) := by decide +kernel
theorem dX0_become_113 : decode cX0_become 113 = .ok (.aload_n 0, 1) := by decide +kernel
theorem dX0_become_114 : decode cX0_become 114 = .ok (.aload_n 1, 1) := by decide +kernel
theorem dX0_become_115 : decode cX0_become 115 = .ok (.getfield 58, 3) := by decide +kernel
theorem dX0_become_118 : decode cX0_become 118 = .ok (.putfield 58, 3) := by decide +kernel
theorem dX0_become_121 : decode cX0_become 121 = .ok (.aload_n 0, 1) := by decide +kernel
theorem dX0_become_122 : decode cX0_become 122 = .ok (.aload_n 1, 1) := by decide +kernel
theorem dX0_become_123 : decode cX0_become 123 = .ok (.getfield 61, 3) := by decide +kernel
theorem dX0_become_126 : decode cX0_become 126 = .ok (.putfield 61, 3) := by decide +kernel
theorem dX0_become_129 : decode cX0_become 129 = .ok (.aload_n 0, 1) := by decide +kernel
theorem dX0_become_130 : decode cX0_become 130 = .ok (.aload_n 1, 1) := by decide +kernel
theorem dX0_become_131 : decode cX0_become 131 = .ok (.getfield 64, 3) := by decide +kernel
theorem dX0_become_134 : decode cX0_become 134 = .ok (.putfield 64, 3) := by decide +kernel
theorem dX0_become_137 : decode cX0_become 137 = .ok (.return_, 1) := by decide +kernel
theorem dX0_removeFaults_0 : decode cX0_removeFaults 0 = .ok (.iconst 0, 1) := by decide +kernel
theorem dX0_removeFaults_1 : decode cX0_removeFaults 1 = .ok (.istore_n 1, 1) := by decide +kernel
theorem dX0_removeFaults_2 : decode cX0_removeFaults 2 = .ok (.iload_n 1, 1) := by decide +kernel
theorem dX0_removeFaults_3 : decode cX0_removeFaults 3 = .ok (.aload_n 0, 1) := by decide +kernel
theorem dX0_removeFaults_4 : decode cX0_removeFaults 4 = .ok (.getfield 36, 3) := by decide +kernel
theorem dX0_removeFaults_7 : decode cX0_removeFaults 7 = .ok (.if_icmp .ge 35, 3) := by decide +kernel
theorem dX0_removeFaults_10 : decode cX0_removeFaults 10 = .ok (.iconst 0, 1) := by decide +kernel
theorem dX0_removeFaults_11 : decode cX0_removeFaults 11 = .ok (.istore_n 2, 1) := by decide +kernel
theorem dX0_removeFaults_12 : decode cX0_removeFaults 12 = .ok (.iload_n 2, 1) := by decide +kernel
theorem dX0_removeFaults_13 : decode cX0_removeFaults 13 = .ok (.iconst 2, 1) := by decide +kernel
theorem dX0_removeFaults_14 : decode cX0_removeFaults 14 = .ok (.if_icmp .ge 22, 3) := by decide +kernel
theorem dX0_removeFaults_17 : decode cX0_removeFaults 17 = .ok (.aload_n 0, 1) := by decide +kernel
theorem dX0_removeFaults_18 : decode cX0_removeFaults 18 = .ok (.getfield 25, 3) := by decide +kernel
theorem dX0_removeFaults_21 : decode cX0_removeFaults 21 = .ok (.iload_n 1, 1) := by decide +kernel
theorem dX0_removeFaults_22 : decode cX0_removeFaults 22 = .ok (.aaload, 1) := by decide +kernel
theorem dX0_removeFaults_23 : decode cX0_removeFaults 23 = .ok (.iload_n 2, 1) := by decide +kernel
theorem dX0_removeFaults_24 : decode cX0_removeFaults 24 = .ok (.iconst 0, 1) := by decide +kernel
theorem dX0_removeFaults_25 : decode cX0_removeFaults 25 = .ok (.iconst 0, 1) := by decide +kernel
theorem dX0_removeFaults_26 : decode cX0_removeFaults 26 = .ok (.iconst 0, 1) := by decide +kernel
theorem dX0_removeFaults_27 : decode cX0_removeFaults 27 = .ok (.invokevirtual 81, 3) := by decide +kernel
theorem dX0_removeFaults_30 : decode cX0_removeFaults 30 = .ok (.iinc 2 1, 3) := by decide +kernel
theorem dX0_removeFaults_33 : decode cX0_removeFaults 33 = .ok (.goto (-21), 3) := by decide +kernel
theorem dX0_removeFaults_36 : decode cX0_removeFaults 36 = .ok (.iinc 1 1, 3) := by decide +kernel
theorem dX0_removeFaults_39 : decode cX0_removeFaults 39 = .ok (.goto (-37), 3) := by decide +kernel
theorem dX0_removeFaults_42 : decode cX0_removeFaults 42 = .ok (.return_, 1) := by decide +kernel
theorem dX0_switchOffAndOn_0 : decode cX0_switchOffAndOn 0 = .ok (.aload_n 0, 1) := by decide +kernel
theorem dX0_switchOffAndOn_1 : decode cX0_switchOffAndOn 1 = .ok (.iconst 0, 1) := by decide +kernel
theorem dX0_switchOffAndOn_2 : decode cX0_switchOffAndOn 2 = .ok (.putfield 46, 3) := by decide +kernel
theorem dX0_switchOffAndOn_5 : decode cX0_switchOffAndOn 5 = .ok (.aload_n 0, 1) := by decide +kernel
theorem dX0_switchOffAndOn_6 : decode cX0_switchOffAndOn 6 = .ok (.iconst 0, 1) := by decide +kernel
theorem dX0_switchOffAndOn_7 : decode cX0_switchOffAndOn 7 = .ok (.putfield 49, 3) := by decide +kernel
theorem dX0_switchOffAndOn_10 : decode cX0_switchOffAndOn 10 = .ok (.aload_n 0, 1) := by decide +kernel
theorem dX0_switchOffAndOn_11 : decode cX0_switchOffAndOn 11 = .ok (.invokevirtual 85, 3) := by decide +kernel
theorem dX0_switchOffAndOn_14 : decode cX0_switchOffAndOn 14 = .ok (.return_, 1) := by decide +kernel
theorem dX0_boot_0 : decode cX0_boot 0 = .ok (.aload_n 0, 1) := by decide +kernel
theorem dX0_boot_1 : decode cX0_boot 1 = .ok (.iconst 0, 1) := by decide +kernel
theorem dX0_boot_2 : decode cX0_boot 2 = .ok (.putfield 43, 3) := by decide +kernel
theorem dX0_boot_5 : decode cX0_boot 5 = .ok (.aload_n 0, 1) := by decide +kernel
theorem dX0_boot_6 : decode cX0_boot 6 = .ok (.aload_n 0, 1) := by decide +kernel
theorem dX0_boot_7 : decode cX0_boot 7 = .ok (.getfield 18, 3) := by decide +kernel
theorem dX0_boot_10 : decode cX0_boot 10 = .ok (.iconst 5, 1) := by decide +kernel
theorem dX0_boot_11 : decode cX0_boot 11 = .ok (.iaload, 1) := by decide +kernel
theorem dX0_boot_12 : decode cX0_boot 12 = .ok (.putfield 52, 3) := by decide +kernel
theorem dX0_boot_15 : decode cX0_boot 15 = .ok (.return_, 1) := by decide +kernel
theorem dX0_ifRunning_0 : decode cX0_ifRunning 0 = .ok (.aload_n 0, 1) := by decide +kernel
theorem dX0_ifRunning_1 : decode cX0_ifRunning 1 = .ok (.getfield 43, 3) := by decide +kernel
theorem dX0_ifRunning_4 : decode cX0_ifRunning 4 = .ok (.iconst 1, 1) := by decide +kernel
theorem dX0_ifRunning_5 : decode cX0_ifRunning 5 = .ok (.if_icmp .ne 7, 3) := by decide +kernel
theorem dX0_ifRunning_8 : decode cX0_ifRunning 8 = .ok (.iload_n 1, 1) := by decide +kernel
theorem dX0_ifRunning_9 : decode cX0_ifRunning 9 = .ok (.goto 4, 3) := by decide +kernel
theorem dX0_ifRunning_12 : decode cX0_ifRunning 12 = .ok (.iconst 0, 1) := by decide +kernel
theorem dX0_ifRunning_13 : decode cX0_ifRunning 13 = .ok (.ireturn, 1) := by decide +kernel
theorem dX0_expiredSet_0 : decode cX0_expiredSet 0 = .ok (.iconst 0, 1) := by decide +kernel
theorem dX0_expiredSet_1 : decode cX0_expiredSet 1 = .ok (.istore_n 1, 1) := by decide +kernel
theorem dX0_expiredSet_2 : decode cX0_expiredSet 2 = .ok (.iconst 0, 1) := by decide +kernel
theorem dX0_expiredSet_3 : decode cX0_expiredSet 3 = .ok (.istore_n 2, 1) := by decide +kernel
theorem dX0_expiredSet_4 : decode cX0_expiredSet 4 = .ok (.iload_n 2, 1) := by decide +kernel
theorem dX0_expiredSet_5 : decode cX0_expiredSet 5 = .ok (.aload_n 0, 1) := by decide +kernel
theorem dX0_expiredSet_6 : decode cX0_expiredSet 6 = .ok (.getfield 36, 3) := by decide +kernel
theorem dX0_expiredSet_9 : decode cX0_expiredSet 9 = .ok (.if_icmp .ge 27, 3) := by decide +kernel
theorem dX0_expiredSet_12 : decode cX0_expiredSet 12 = .ok (.aload_n 0, 1) := by decide +kernel
theorem dX0_expiredSet_13 : decode cX0_expiredSet 13 = .ok (.getfield 25, 3) := by decide +kernel
theorem dX0_expiredSet_16 : decode cX0_expiredSet 16 = .ok (.iload_n 2, 1) := by decide +kernel
theorem dX0_expiredSet_17 : decode cX0_expiredSet 17 = .ok (.aaload, 1) := by decide +kernel
theorem dX0_expiredSet_18 : decode cX0_expiredSet 18 = .ok (.getfield 88, 3) := by decide +kernel
theorem dX0_expiredSet_21 : decode cX0_expiredSet 21 = .ok (.ifCond .eq 9, 3) := by decide +kernel
theorem dX0_expiredSet_24 : decode cX0_expiredSet 24 = .ok (.iload_n 1, 1) := by decide +kernel
theorem dX0_expiredSet_25 : decode cX0_expiredSet 25 = .ok (.iconst 1, 1) := by decide +kernel
theorem dX0_expiredSet_26 : decode cX0_expiredSet 26 = .ok (.iload_n 2, 1) := by decide +kernel
theorem dX0_expiredSet_27 : decode cX0_expiredSet 27 = .ok (.ishl, 1) := by decide +kernel
theorem dX0_expiredSet_28 : decode cX0_expiredSet 28 = .ok (.ior, 1) := by decide +kernel
theorem dX0_expiredSet_29 : decode cX0_expiredSet 29 = .ok (.istore_n 1, 1) := by decide +kernel
theorem dX0_expiredSet_30 : decode cX0_expiredSet 30 = .ok (.iinc 2 1, 3) := by decide +kernel
theorem dX0_expiredSet_33 : decode cX0_expiredSet 33 = .ok (.goto (-29), 3) := by decide +kernel
theorem dX0_expiredSet_36 : decode cX0_expiredSet 36 = .ok (.iload_n 1, 1) := by decide +kernel
theorem dX0_expiredSet_37 : decode cX0_expiredSet 37 = .ok (.ireturn, 1) := by decide +kernel
theorem dX0_lowestExpired_0 : decode cX0_lowestExpired 0 = .ok (.iconst 0, 1) := by decide +kernel
theorem dX0_lowestExpired_1 : decode cX0_lowestExpired 1 = .ok (.istore_n 1, 1) := by decide +kernel
theorem dX0_lowestExpired_2 : decode cX0_lowestExpired 2 = .ok (.iload_n 1, 1) := by decide +kernel
theorem dX0_lowestExpired_3 : decode cX0_lowestExpired 3 = .ok (.aload_n 0, 1) := by decide +kernel
theorem dX0_lowestExpired_4 : decode cX0_lowestExpired 4 = .ok (.getfield 36, 3) := by decide +kernel
theorem dX0_lowestExpired_7 : decode cX0_lowestExpired 7 = .ok (.if_icmp .ge 23, 3) := by decide +kernel
theorem dX0_lowestExpired_10 : decode cX0_lowestExpired 10 = .ok (.aload_n 0, 1) := by decide +kernel
theorem dX0_lowestExpired_11 : decode cX0_lowestExpired 11 = .ok (.getfield 25, 3) := by decide +kernel
theorem dX0_lowestExpired_14 : decode cX0_lowestExpired 14 = .ok (.iload_n 1, 1) := by decide +kernel
theorem dX0_lowestExpired_15 : decode cX0_lowestExpired 15 = .ok (.aaload, 1) := by decide +kernel
theorem dX0_lowestExpired_16 : decode cX0_lowestExpired 16 = .ok (.getfield 88, 3) := by decide +kernel
theorem dX0_lowestExpired_19 : decode cX0_lowestExpired 19 = .ok (.ifCond .eq 5, 3) := by decide +kernel
theorem dX0_lowestExpired_22 : decode cX0_lowestExpired 22 = .ok (.iload_n 1, 1) := by decide +kernel
theorem dX0_lowestExpired_23 : decode cX0_lowestExpired 23 = .ok (.ireturn, 1) := by decide +kernel
theorem dX0_lowestExpired_24 : decode cX0_lowestExpired 24 = .ok (.iinc 1 1, 3) := by decide +kernel
theorem dX0_lowestExpired_27 : decode cX0_lowestExpired 27 = .ok (.goto (-25), 3) := by decide +kernel
theorem dX0_lowestExpired_30 : decode cX0_lowestExpired 30 = .ok (.bipush (-6), 2) := by decide +kernel
theorem dX0_lowestExpired_32 : decode cX0_lowestExpired 32 = .ok (.ireturn, 1) := by decide +kernel
theorem dX0_ticksToReset_0 : decode cX0_ticksToReset 0 = .ok (.iconst 1, 1) := by decide +kernel
theorem dX0_ticksToReset_1 : decode cX0_ticksToReset 1 = .ok (.istore_n 2, 1) := by decide +kernel
theorem dX0_ticksToReset_2 : decode cX0_ticksToReset 2 = .ok (.iload_n 2, 1) := by decide +kernel
theorem dX0_ticksToReset_3 : decode cX0_ticksToReset 3 = .ok (.iload_n 1, 1) := by decide +kernel
theorem dX0_ticksToReset_4 : decode cX0_ticksToReset 4 = .ok (.if_icmp .gt 18, 3) := by decide +kernel
theorem dX0_ticksToReset_7 : decode cX0_ticksToReset 7 = .ok (.aload_n 0, 1) := by decide +kernel
theorem dX0_ticksToReset_8 : decode cX0_ticksToReset 8 = .ok (.invokevirtual 92, 3) := by decide +kernel
theorem dX0_ticksToReset_11 : decode cX0_ticksToReset 11 = .ok (.ifCond .eq 5, 3) := by decide +kernel
theorem dX0_ticksToReset_14 : decode cX0_ticksToReset 14 = .ok (.iload_n 2, 1) := by decide +kernel
theorem dX0_ticksToReset_15 : decode cX0_ticksToReset 15 = .ok (.ireturn, 1) := by decide +kernel
theorem dX0_ticksToReset_16 : decode cX0_ticksToReset 16 = .ok (.iinc 2 1, 3) := by decide +kernel
theorem dX0_ticksToReset_19 : decode cX0_ticksToReset 19 = .ok (.goto (-17), 3) := by decide +kernel
theorem dX0_ticksToReset_22 : decode cX0_ticksToReset 22 = .ok (.bipush (-6), 2) := by decide +kernel
theorem dX0_ticksToReset_24 : decode cX0_ticksToReset 24 = .ok (.ireturn, 1) := by decide +kernel
theorem dX0_tick_0 : decode cX0_tick 0 = .ok (.iconst 0, 1) := by decide +kernel
theorem dX0_tick_1 : decode cX0_tick 1 = .ok (.istore_n 1, 1) := by decide +kernel
theorem dX0_tick_2 : decode cX0_tick 2 = .ok (.aload_n 0, 1) := by decide +kernel
theorem dX0_tick_3 : decode cX0_tick 3 = .ok (.getfield 43, 3) := by decide +kernel
theorem dX0_tick_6 : decode cX0_tick 6 = .ok (.ifCond .ne 10, 3) := by decide +kernel
theorem dX0_tick_9 : decode cX0_tick 9 = .ok (.aload_n 0, 1) := by decide +kernel
theorem dX0_tick_10 : decode cX0_tick 10 = .ok (.invokevirtual 96, 3) := by decide +kernel
theorem dX0_tick_13 : decode cX0_tick 13 = .ok (.goto 16, 3) := by decide +kernel
theorem dX0_tick_16 : decode cX0_tick 16 = .ok (.aload_n 0, 1) := by decide +kernel
theorem dX0_tick_17 : decode cX0_tick 17 = .ok (.getfield 43, 3) := by decide +kernel
theorem dX0_tick_20 : decode cX0_tick 20 = .ok (.iconst 1, 1) := by decide +kernel
theorem dX0_tick_21 : decode cX0_tick 21 = .ok (.if_icmp .ne 8, 3) := by decide +kernel
theorem dX0_tick_24 : decode cX0_tick 24 = .ok (.aload_n 0, 1) := by decide +kernel
theorem dX0_tick_25 : decode cX0_tick 25 = .ok (.invokevirtual 99, 3) := by decide +kernel
theorem dX0_tick_28 : decode cX0_tick 28 = .ok (.istore_n 1, 1) := by decide +kernel
theorem dX0_tick_29 : decode cX0_tick 29 = .ok (.aload_n 0, 1) := by decide +kernel
theorem dX0_tick_30 : decode cX0_tick 30 = .ok (.dup, 1) := by decide +kernel
theorem dX0_tick_31 : decode cX0_tick 31 = .ok (.getfield 40, 3) := by decide +kernel
theorem dX0_tick_34 : decode cX0_tick 34 = .ok (.iconst 1, 1) := by decide +kernel
theorem dX0_tick_35 : decode cX0_tick 35 = .ok (.iadd, 1) := by decide +kernel
theorem dX0_tick_36 : decode cX0_tick 36 = .ok (.putfield 40, 3) := by decide +kernel
theorem dX0_tick_39 : decode cX0_tick 39 = .ok (.iload_n 1, 1) := by decide +kernel
theorem dX0_tick_40 : decode cX0_tick 40 = .ok (.ireturn, 1) := by decide +kernel
theorem dX0_tickBooting_0 : decode cX0_tickBooting 0 = .ok (.aload_n 0, 1) := by decide +kernel
theorem dX0_tickBooting_1 : decode cX0_tickBooting 1 = .ok (.dup, 1) := by decide +kernel
theorem dX0_tickBooting_2 : decode cX0_tickBooting 2 = .ok (.getfield 52, 3) := by decide +kernel
theorem dX0_tickBooting_5 : decode cX0_tickBooting 5 = .ok (.iconst 1, 1) := by decide +kernel
theorem dX0_tickBooting_6 : decode cX0_tickBooting 6 = .ok (.isub, 1) := by decide +kernel
theorem dX0_tickBooting_7 : decode cX0_tickBooting 7 = .ok (.putfield 52, 3) := by decide +kernel
theorem dX0_tickBooting_10 : decode cX0_tickBooting 10 = .ok (.aload_n 0, 1) := by decide +kernel
theorem dX0_tickBooting_11 : decode cX0_tickBooting 11 = .ok (.getfield 52, 3) := by decide +kernel
theorem dX0_tickBooting_14 : decode cX0_tickBooting 14 = .ok (.ifCond .le 4, 3) := by decide +kernel
theorem dX0_tickBooting_17 : decode cX0_tickBooting 17 = .ok (.return_, 1) := by decide +kernel
theorem dX0_tickBooting_18 : decode cX0_tickBooting 18 = .ok (.aload_n 0, 1) := by decide +kernel
theorem dX0_tickBooting_19 : decode cX0_tickBooting 19 = .ok (.iconst 1, 1) := by decide +kernel
theorem dX0_tickBooting_20 : decode cX0_tickBooting 20 = .ok (.putfield 43, 3) := by decide +kernel
theorem dX0_tickBooting_23 : decode cX0_tickBooting 23 = .ok (.aload_n 0, 1) := by decide +kernel
theorem dX0_tickBooting_24 : decode cX0_tickBooting 24 = .ok (.iconst 0, 1) := by decide +kernel
theorem dX0_tickBooting_25 : decode cX0_tickBooting 25 = .ok (.putfield 55, 3) := by decide +kernel
theorem dX0_tickBooting_28 : decode cX0_tickBooting 28 = .ok (.aload_n 0, 1) := by decide +kernel
theorem dX0_tickBooting_29 : decode cX0_tickBooting 29 = .ok (.iconst 0, 1) := by decide +kernel
theorem dX0_tickBooting_30 : decode cX0_tickBooting 30 = .ok (.putfield 58, 3) := by decide +kernel
theorem dX0_tickBooting_33 : decode cX0_tickBooting 33 = .ok (.aload_n 0, 1) := by decide +kernel
theorem dX0_tickBooting_34 : decode cX0_tickBooting 34 = .ok (.iconst 0, 1) := by decide +kernel
theorem dX0_tickBooting_35 : decode cX0_tickBooting 35 = .ok (.putfield 61, 3) := by decide +kernel
theorem dX0_tickBooting_38 : decode cX0_tickBooting 38 = .ok (.aload_n 0, 1) := by decide +kernel
theorem dX0_tickBooting_39 : decode cX0_tickBooting 39 = .ok (.iconst 0, 1) := by decide +kernel
theorem dX0_tickBooting_40 : decode cX0_tickBooting 40 = .ok (.putfield 64, 3) := by decide +kernel
theorem dX0_tickBooting_43 : decode cX0_tickBooting 43 = .ok (.iconst 0, 1) := by decide +kernel
theorem dX0_tickBooting_44 : decode cX0_tickBooting 44 = .ok (.istore_n 1, 1) := by decide +kernel
theorem dX0_tickBooting_45 : decode cX0_tickBooting 45 = .ok (.iload_n 1, 1) := by decide +kernel
theorem dX0_tickBooting_46 : decode cX0_tickBooting 46 = .ok (.aload_n 0, 1) := by decide +kernel
theorem dX0_tickBooting_47 : decode cX0_tickBooting 47 = .ok (.getfield 36, 3) := by decide +kernel
theorem dX0_tickBooting_50 : decode cX0_tickBooting 50 = .ok (.if_icmp .ge 18, 3) := by decide +kernel
theorem dX0_tickBooting_53 : decode cX0_tickBooting 53 = .ok (.aload_n 0, 1) := by decide +kernel
theorem dX0_tickBooting_54 : decode cX0_tickBooting 54 = .ok (.getfield 25, 3) := by decide +kernel
theorem dX0_tickBooting_57 : decode cX0_tickBooting 57 = .ok (.iload_n 1, 1) := by decide +kernel
theorem dX0_tickBooting_58 : decode cX0_tickBooting 58 = .ok (.aaload, 1) := by decide +kernel
theorem dX0_tickBooting_59 : decode cX0_tickBooting 59 = .ok (.invokevirtual 102, 3) := by decide +kernel
theorem dX0_tickBooting_62 : decode cX0_tickBooting 62 = .ok (.iinc 1 1, 3) := by decide +kernel
theorem dX0_tickBooting_65 : decode cX0_tickBooting 65 = .ok (.goto (-20), 3) := by decide +kernel
theorem dX0_tickBooting_68 : decode cX0_tickBooting 68 = .ok (.return_, 1) := by decide +kernel
theorem dX0_tickRunning_0 : decode cX0_tickRunning 0 = .ok (.aload_n 0, 1) := by decide +kernel
theorem dX0_tickRunning_1 : decode cX0_tickRunning 1 = .ok (.dup, 1) := by decide +kernel
theorem dX0_tickRunning_2 : decode cX0_tickRunning 2 = .ok (.getfield 55, 3) := by decide +kernel
theorem dX0_tickRunning_5 : decode cX0_tickRunning 5 = .ok (.iconst 1, 1) := by decide +kernel
theorem dX0_tickRunning_6 : decode cX0_tickRunning 6 = .ok (.iadd, 1) := by decide +kernel
theorem dX0_tickRunning_7 : decode cX0_tickRunning 7 = .ok (.putfield 55, 3) := by decide +kernel
theorem dX0_tickRunning_10 : decode cX0_tickRunning 10 = .ok (.aload_n 0, 1) := by decide +kernel
theorem dX0_tickRunning_11 : decode cX0_tickRunning 11 = .ok (.dup, 1) := by decide +kernel
theorem dX0_tickRunning_12 : decode cX0_tickRunning 12 = .ok (.getfield 58, 3) := by decide +kernel
theorem dX0_tickRunning_15 : decode cX0_tickRunning 15 = .ok (.iconst 1, 1) := by decide +kernel
theorem dX0_tickRunning_16 : decode cX0_tickRunning 16 = .ok (.iadd, 1) := by decide +kernel
theorem dX0_tickRunning_17 : decode cX0_tickRunning 17 = .ok (.putfield 58, 3) := by decide +kernel
theorem dX0_tickRunning_20 : decode cX0_tickRunning 20 = .ok (.iconst 0, 1) := by decide +kernel
theorem dX0_tickRunning_21 : decode cX0_tickRunning 21 = .ok (.istore_n 1, 1) := by decide +kernel
theorem dX0_tickRunning_22 : decode cX0_tickRunning 22 = .ok (.iload_n 1, 1) := by decide +kernel
theorem dX0_tickRunning_23 : decode cX0_tickRunning 23 = .ok (.aload_n 0, 1) := by decide +kernel
theorem dX0_tickRunning_24 : decode cX0_tickRunning 24 = .ok (.getfield 36, 3) := by decide +kernel
theorem dX0_tickRunning_27 : decode cX0_tickRunning 27 = .ok (.if_icmp .ge 37, 3) := by decide +kernel
theorem dX0_tickRunning_30 : decode cX0_tickRunning 30 = .ok (.aload_n 0, 1) := by decide +kernel
theorem dX0_tickRunning_31 : decode cX0_tickRunning 31 = .ok (.getfield 25, 3) := by decide +kernel
theorem dX0_tickRunning_34 : decode cX0_tickRunning 34 = .ok (.iload_n 1, 1) := by decide +kernel
theorem dX0_tickRunning_35 : decode cX0_tickRunning 35 = .ok (.aaload, 1) := by decide +kernel
theorem dX0_tickRunning_36 : decode cX0_tickRunning 36 = .ok (.aload_n 0, 1) := by decide +kernel
theorem dX0_tickRunning_37 : decode cX0_tickRunning 37 = .ok (.getfield 55, 3) := by decide +kernel
theorem dX0_tickRunning_40 : decode cX0_tickRunning 40 = .ok (.aload_n 0, 1) := by decide +kernel
theorem dX0_tickRunning_41 : decode cX0_tickRunning 41 = .ok (.getfield 46, 3) := by decide +kernel
theorem dX0_tickRunning_44 : decode cX0_tickRunning 44 = .ok (.invokevirtual 105, 3) := by decide +kernel
theorem dX0_tickRunning_47 : decode cX0_tickRunning 47 = .ok (.ifCond .eq 11, 3) := by decide +kernel
theorem dX0_tickRunning_50 : decode cX0_tickRunning 50 = .ok (.aload_n 0, 1) := by decide +kernel
theorem dX0_tickRunning_51 : decode cX0_tickRunning 51 = .ok (.iconst 3, 1) := by decide +kernel
theorem dX0_tickRunning_52 : decode cX0_tickRunning 52 = .ok (.iload_n 1, 1) := by decide +kernel
theorem dX0_tickRunning_53 : decode cX0_tickRunning 53 = .ok (.invokevirtual 109, 3) := by decide +kernel
theorem dX0_tickRunning_56 : decode cX0_tickRunning 56 = .ok (.iconst 1, 1) := by decide +kernel
theorem dX0_tickRunning_57 : decode cX0_tickRunning 57 = .ok (.ireturn, 1) := by decide +kernel
theorem dX0_tickRunning_58 : decode cX0_tickRunning 58 = .ok (.iinc 1 1, 3) := by decide +kernel
theorem dX0_tickRunning_61 : decode cX0_tickRunning 61 = .ok (.goto (-39), 3) := by decide +kernel
theorem dX0_tickRunning_64 : decode cX0_tickRunning 64 = .ok (.aload_n 0, 1) := by decide +kernel
theorem dX0_tickRunning_65 : decode cX0_tickRunning 65 = .ok (.getfield 18, 3) := by decide +kernel
theorem dX0_tickRunning_68 : decode cX0_tickRunning 68 = .ok (.iconst 2, 1) := by decide +kernel
theorem dX0_tickRunning_69 : decode cX0_tickRunning 69 = .ok (.iaload, 1) := by decide +kernel
theorem dX0_tickRunning_70 : decode cX0_tickRunning 70 = .ok (.aload_n 0, 1) := by decide +kernel
theorem dX0_tickRunning_71 : decode cX0_tickRunning 71 = .ok (.getfield 55, 3) := by decide +kernel
theorem dX0_tickRunning_74 : decode cX0_tickRunning 74 = .ok (.invokestatic 113, 3) := by decide +kernel
theorem dX0_tickRunning_77 : decode cX0_tickRunning 77 = .ok (.ifCond .eq 14, 3) := by decide +kernel
theorem dX0_tickRunning_80 : decode cX0_tickRunning 80 = .ok (.aload_n 0, 1) := by decide +kernel
theorem dX0_tickRunning_81 : decode cX0_tickRunning 81 = .ok (.invokevirtual 116, 3) := by decide +kernel
theorem dX0_tickRunning_84 : decode cX0_tickRunning 84 = .ok (.ifCond .eq 7, 3) := by decide +kernel
theorem dX0_tickRunning_87 : decode cX0_tickRunning 87 = .ok (.iconst 1, 1) := by decide +kernel
theorem dX0_tickRunning_88 : decode cX0_tickRunning 88 = .ok (.goto 4, 3) := by decide +kernel
theorem dX0_tickRunning_91 : decode cX0_tickRunning 91 = .ok (.iconst 0, 1) := by decide +kernel
theorem dX0_tickRunning_92 : decode cX0_tickRunning 92 = .ok (.istore_n 1, 1) := by decide +kernel
theorem dX0_tickRunning_93 : decode cX0_tickRunning 93 = .ok (.aload_n 0, 1) := by decide +kernel
theorem dX0_tickRunning_94 : decode cX0_tickRunning 94 = .ok (.iload_n 1, 1) := by decide +kernel
theorem dX0_tickRunning_95 : decode cX0_tickRunning 95 = .ok (.invokevirtual 119, 3) := by decide +kernel
theorem dX0_tickRunning_98 : decode cX0_tickRunning 98 = .ok (.istore_n 2, 1) := by decide +kernel
theorem dX0_tickRunning_99 : decode cX0_tickRunning 99 = .ok (.iload_n 2, 1) := by decide +kernel
theorem dX0_tickRunning_100 : decode cX0_tickRunning 100 = .ok (.ifCond .eq 14, 3) := by decide +kernel
theorem dX0_tickRunning_103 : decode cX0_tickRunning 103 = .ok (.aload_n 0, 1) := by decide +kernel
theorem dX0_tickRunning_104 : decode cX0_tickRunning 104 = .ok (.iload_n 2, 1) := by decide +kernel
theorem dX0_tickRunning_105 : decode cX0_tickRunning 105 = .ok (.aload_n 0, 1) := by decide +kernel
theorem dX0_tickRunning_106 : decode cX0_tickRunning 106 = .ok (.invokevirtual 123, 3) := by decide +kernel
theorem dX0_tickRunning_109 : decode cX0_tickRunning 109 = .ok (.invokevirtual 109, 3) := by decide +kernel
theorem dX0_tickRunning_112 : decode cX0_tickRunning 112 = .ok (.iconst 1, 1) := by decide +kernel
theorem dX0_tickRunning_113 : decode cX0_tickRunning 113 = .ok (.ireturn, 1) := by decide +kernel
theorem dX0_tickRunning_114 : decode cX0_tickRunning 114 = .ok (.aload_n 0, 1) := by decide +kernel
theorem dX0_tickRunning_115 : decode cX0_tickRunning 115 = .ok (.getfield 55, 3) := by decide +kernel
theorem dX0_tickRunning_118 : decode cX0_tickRunning 118 = .ok (.aload_n 0, 1) := by decide +kernel
theorem dX0_tickRunning_119 : decode cX0_tickRunning 119 = .ok (.getfield 18, 3) := by decide +kernel
theorem dX0_tickRunning_122 : decode cX0_tickRunning 122 = .ok (.bipush 6, 2) := by decide +kernel
theorem dX0_tickRunning_124 : decode cX0_tickRunning 124 = .ok (.iaload, 1) := by decide +kernel
theorem dX0_tickRunning_125 : decode cX0_tickRunning 125 = .ok (.if_icmp .ne 8, 3) := by decide +kernel
theorem dX0_tickRunning_128 : decode cX0_tickRunning 128 = .ok (.aload_n 0, 1) := by decide +kernel
theorem dX0_tickRunning_129 : decode cX0_tickRunning 129 = .ok (.iconst 0, 1) := by decide +kernel
theorem dX0_tickRunning_130 : decode cX0_tickRunning 130 = .ok (.putfield 49, 3) := by decide +kernel
theorem dX0_tickRunning_133 : decode cX0_tickRunning 133 = .ok (.iconst 0, 1) := by decide +kernel
theorem dX0_tickRunning_134 : decode cX0_tickRunning 134 = .ok (.ireturn, 1) := by decide +kernel
theorem dX0_supervise_0 : decode cX0_supervise 0 = .ok (.aload_n 0, 1) := by decide +kernel
theorem dX0_supervise_1 : decode cX0_supervise 1 = .ok (.dup, 1) := by decide +kernel
theorem dX0_supervise_2 : decode cX0_supervise 2 = .ok (.getfield 61, 3) := by decide +kernel
theorem dX0_supervise_5 : decode cX0_supervise 5 = .ok (.iconst 1, 1) := by decide +kernel
theorem dX0_supervise_6 : decode cX0_supervise 6 = .ok (.iadd, 1) := by decide +kernel
theorem dX0_supervise_7 : decode cX0_supervise 7 = .ok (.putfield 61, 3) := by decide +kernel
theorem dX0_supervise_10 : decode cX0_supervise 10 = .ok (.iconst 0, 1) := by decide +kernel
theorem dX0_supervise_11 : decode cX0_supervise 11 = .ok (.istore_n 1, 1) := by decide +kernel
theorem dX0_supervise_12 : decode cX0_supervise 12 = .ok (.iload_n 1, 1) := by decide +kernel
theorem dX0_supervise_13 : decode cX0_supervise 13 = .ok (.aload_n 0, 1) := by decide +kernel
theorem dX0_supervise_14 : decode cX0_supervise 14 = .ok (.getfield 36, 3) := by decide +kernel
theorem dX0_supervise_17 : decode cX0_supervise 17 = .ok (.if_icmp .ge 47, 3) := by decide +kernel
theorem dX0_supervise_20 : decode cX0_supervise 20 = .ok (.aload_n 0, 1) := by decide +kernel
theorem dX0_supervise_21 : decode cX0_supervise 21 = .ok (.getfield 25, 3) := by decide +kernel
theorem dX0_supervise_24 : decode cX0_supervise 24 = .ok (.iload_n 1, 1) := by decide +kernel
theorem dX0_supervise_25 : decode cX0_supervise 25 = .ok (.aaload, 1) := by decide +kernel
theorem dX0_supervise_26 : decode cX0_supervise 26 = .ok (.astore_n 2, 1) := by decide +kernel
theorem dX0_supervise_27 : decode cX0_supervise 27 = .ok (.aload_n 2, 1) := by decide +kernel
theorem dX0_supervise_28 : decode cX0_supervise 28 = .ok (.getfield 88, 3) := by decide +kernel
theorem dX0_supervise_31 : decode cX0_supervise 31 = .ok (.ifCond .ne 27, 3) := by decide +kernel
theorem dX0_supervise_34 : decode cX0_supervise 34 = .ok (.aload_n 2, 1) := by decide +kernel
theorem dX0_supervise_35 : decode cX0_supervise 35 = .ok (.getfield 127, 3) := by decide +kernel
theorem dX0_supervise_38 : decode cX0_supervise 38 = .ok (.iconst 3, 1) := by decide +kernel
theorem dX0_supervise_39 : decode cX0_supervise 39 = .ok (.iaload, 1) := by decide +kernel
theorem dX0_supervise_40 : decode cX0_supervise 40 = .ok (.aload_n 0, 1) := by decide +kernel
theorem dX0_supervise_41 : decode cX0_supervise 41 = .ok (.getfield 61, 3) := by decide +kernel
theorem dX0_supervise_44 : decode cX0_supervise 44 = .ok (.invokestatic 113, 3) := by decide +kernel
theorem dX0_supervise_47 : decode cX0_supervise 47 = .ok (.ifCond .eq 11, 3) := by decide +kernel
theorem dX0_supervise_50 : decode cX0_supervise 50 = .ok (.aload_n 2, 1) := by decide +kernel
theorem dX0_supervise_51 : decode cX0_supervise 51 = .ok (.aload_n 0, 1) := by decide +kernel
theorem dX0_supervise_52 : decode cX0_supervise 52 = .ok (.getfield 40, 3) := by decide +kernel
theorem dX0_supervise_55 : decode cX0_supervise 55 = .ok (.invokevirtual 130, 3) := by decide +kernel
theorem dX0_supervise_58 : decode cX0_supervise 58 = .ok (.iinc 1 1, 3) := by decide +kernel
theorem dX0_supervise_61 : decode cX0_supervise 61 = .ok (.goto (-49), 3) := by decide +kernel
theorem dX0_supervise_64 : decode cX0_supervise 64 = .ok (.aload_n 0, 1) := by decide +kernel
theorem dX0_supervise_65 : decode cX0_supervise 65 = .ok (.invokevirtual 123, 3) := by decide +kernel
theorem dX0_supervise_68 : decode cX0_supervise 68 = .ok (.bipush (-6), 2) := by decide +kernel
theorem dX0_supervise_70 : decode cX0_supervise 70 = .ok (.if_icmp .eq 13, 3) := by decide +kernel
theorem dX0_supervise_73 : decode cX0_supervise 73 = .ok (.aload_n 0, 1) := by decide +kernel
theorem dX0_supervise_74 : decode cX0_supervise 74 = .ok (.dup, 1) := by decide +kernel
theorem dX0_supervise_75 : decode cX0_supervise 75 = .ok (.getfield 64, 3) := by decide +kernel
theorem dX0_supervise_78 : decode cX0_supervise 78 = .ok (.iconst 1, 1) := by decide +kernel
theorem dX0_supervise_79 : decode cX0_supervise 79 = .ok (.iadd, 1) := by decide +kernel
theorem dX0_supervise_80 : decode cX0_supervise 80 = .ok (.putfield 64, 3) := by decide +kernel
theorem dX0_supervise_83 : decode cX0_supervise 83 = .ok (.aload_n 0, 1) := by decide +kernel
theorem dX0_supervise_84 : decode cX0_supervise 84 = .ok (.getfield 64, 3) := by decide +kernel
theorem dX0_supervise_87 : decode cX0_supervise 87 = .ok (.aload_n 0, 1) := by decide +kernel
theorem dX0_supervise_88 : decode cX0_supervise 88 = .ok (.getfield 18, 3) := by decide +kernel
theorem dX0_supervise_91 : decode cX0_supervise 91 = .ok (.iconst 4, 1) := by decide +kernel
theorem dX0_supervise_92 : decode cX0_supervise 92 = .ok (.iaload, 1) := by decide +kernel
theorem dX0_supervise_93 : decode cX0_supervise 93 = .ok (.if_icmp .gt 20, 3) := by decide +kernel
theorem dX0_supervise_96 : decode cX0_supervise 96 = .ok (.aload_n 0, 1) := by decide +kernel
theorem dX0_supervise_97 : decode cX0_supervise 97 = .ok (.getfield 58, 3) := by decide +kernel
theorem dX0_supervise_100 : decode cX0_supervise 100 = .ok (.aload_n 0, 1) := by decide +kernel
theorem dX0_supervise_101 : decode cX0_supervise 101 = .ok (.getfield 18, 3) := by decide +kernel
theorem dX0_supervise_104 : decode cX0_supervise 104 = .ok (.iconst 3, 1) := by decide +kernel
theorem dX0_supervise_105 : decode cX0_supervise 105 = .ok (.iaload, 1) := by decide +kernel
theorem dX0_supervise_106 : decode cX0_supervise 106 = .ok (.if_icmp .lt 7, 3) := by decide +kernel
theorem dX0_supervise_109 : decode cX0_supervise 109 = .ok (.iconst 1, 1) := by decide +kernel
theorem dX0_supervise_110 : decode cX0_supervise 110 = .ok (.goto 4, 3) := by decide +kernel
theorem dX0_supervise_113 : decode cX0_supervise 113 = .ok (.iconst 0, 1) := by decide +kernel
theorem dX0_supervise_114 : decode cX0_supervise 114 = .ok (.ireturn, 1) := by decide +kernel
theorem dX0_watch_0 : decode cX0_watch 0 = .ok (.iload_n 1, 1) := by decide +kernel
theorem dX0_watch_1 : decode cX0_watch 1 = .ok (.ifCond .eq 18, 3) := by decide +kernel
theorem dX0_watch_4 : decode cX0_watch 4 = .ok (.aload_n 0, 1) := by decide +kernel
theorem dX0_watch_5 : decode cX0_watch 5 = .ok (.getfield 58, 3) := by decide +kernel
theorem dX0_watch_8 : decode cX0_watch 8 = .ok (.aload_n 0, 1) := by decide +kernel
theorem dX0_watch_9 : decode cX0_watch 9 = .ok (.getfield 18, 3) := by decide +kernel
theorem dX0_watch_12 : decode cX0_watch 12 = .ok (.iconst 0, 1) := by decide +kernel
theorem dX0_watch_13 : decode cX0_watch 13 = .ok (.iaload, 1) := by decide +kernel
theorem dX0_watch_14 : decode cX0_watch 14 = .ok (.if_icmp .ge 5, 3) := by decide +kernel
theorem dX0_watch_17 : decode cX0_watch 17 = .ok (.iconst 1, 1) := by decide +kernel
theorem dX0_watch_18 : decode cX0_watch 18 = .ok (.ireturn, 1) := by decide +kernel
theorem dX0_watch_19 : decode cX0_watch 19 = .ok (.iload_n 1, 1) := by decide +kernel
theorem dX0_watch_20 : decode cX0_watch 20 = .ok (.ifCond .eq 10, 3) := by decide +kernel
theorem dX0_watch_23 : decode cX0_watch 23 = .ok (.aload_n 0, 1) := by decide +kernel
theorem dX0_watch_24 : decode cX0_watch 24 = .ok (.iconst 0, 1) := by decide +kernel
theorem dX0_watch_25 : decode cX0_watch 25 = .ok (.putfield 58, 3) := by decide +kernel
theorem dX0_watch_28 : decode cX0_watch 28 = .ok (.iconst 0, 1) := by decide +kernel
theorem dX0_watch_29 : decode cX0_watch 29 = .ok (.ireturn, 1) := by decide +kernel
theorem dX0_watch_30 : decode cX0_watch 30 = .ok (.aload_n 0, 1) := by decide +kernel
theorem dX0_watch_31 : decode cX0_watch 31 = .ok (.getfield 58, 3) := by decide +kernel
theorem dX0_watch_34 : decode cX0_watch 34 = .ok (.aload_n 0, 1) := by decide +kernel
theorem dX0_watch_35 : decode cX0_watch 35 = .ok (.getfield 18, 3) := by decide +kernel
theorem dX0_watch_38 : decode cX0_watch 38 = .ok (.iconst 1, 1) := by decide +kernel
theorem dX0_watch_39 : decode cX0_watch 39 = .ok (.iaload, 1) := by decide +kernel
theorem dX0_watch_40 : decode cX0_watch 40 = .ok (.if_icmp .le 7, 3) := by decide +kernel
theorem dX0_watch_43 : decode cX0_watch 43 = .ok (.iconst 2, 1) := by decide +kernel
theorem dX0_watch_44 : decode cX0_watch 44 = .ok (.goto 4, 3) := by decide +kernel
theorem dX0_watch_47 : decode cX0_watch 47 = .ok (.iconst 0, 1) := by decide +kernel
theorem dX0_watch_48 : decode cX0_watch 48 = .ok (.ireturn, 1) := by decide +kernel
theorem dX0_fall_0 : decode cX0_fall 0 = .ok (.aload_n 0, 1) := by decide +kernel
theorem dX0_fall_1 : decode cX0_fall 1 = .ok (.getfield 32, 3) := by decide +kernel
theorem dX0_fall_4 : decode cX0_fall 4 = .ok (.iload_n 1, 1) := by decide +kernel
theorem dX0_fall_5 : decode cX0_fall 5 = .ok (.aload_n 0, 1) := by decide +kernel
theorem dX0_fall_6 : decode cX0_fall 6 = .ok (.getfield 40, 3) := by decide +kernel
theorem dX0_fall_9 : decode cX0_fall 9 = .ok (.iload_n 2, 1) := by decide +kernel
theorem dX0_fall_10 : decode cX0_fall 10 = .ok (.aload_n 0, 1) := by decide +kernel
theorem dX0_fall_11 : decode cX0_fall 11 = .ok (.getfield 46, 3) := by decide +kernel
theorem dX0_fall_14 : decode cX0_fall 14 = .ok (.aload_n 0, 1) := by decide +kernel
theorem dX0_fall_15 : decode cX0_fall 15 = .ok (.getfield 55, 3) := by decide +kernel
theorem dX0_fall_18 : decode cX0_fall 18 = .ok (.invokevirtual 134, 3) := by decide +kernel
theorem dX0_fall_21 : decode cX0_fall 21 = .ok (.iload_n 2, 1) := by decide +kernel
theorem dX0_fall_22 : decode cX0_fall 22 = .ok (.ifCond .lt 26, 3) := by decide +kernel
theorem dX0_fall_25 : decode cX0_fall 25 = .ok (.iload_n 2, 1) := by decide +kernel
theorem dX0_fall_26 : decode cX0_fall 26 = .ok (.aload_n 0, 1) := by decide +kernel
theorem dX0_fall_27 : decode cX0_fall 27 = .ok (.getfield 36, 3) := by decide +kernel
theorem dX0_fall_30 : decode cX0_fall 30 = .ok (.if_icmp .ge 18, 3) := by decide +kernel
theorem dX0_fall_33 : decode cX0_fall 33 = .ok (.aload_n 0, 1) := by decide +kernel
theorem dX0_fall_34 : decode cX0_fall 34 = .ok (.getfield 25, 3) := by decide +kernel
theorem dX0_fall_37 : decode cX0_fall 37 = .ok (.iload_n 2, 1) := by decide +kernel
theorem dX0_fall_38 : decode cX0_fall 38 = .ok (.aaload, 1) := by decide +kernel
theorem dX0_fall_39 : decode cX0_fall 39 = .ok (.dup, 1) := by decide +kernel
theorem dX0_fall_40 : decode cX0_fall 40 = .ok (.getfield 138, 3) := by decide +kernel
theorem dX0_fall_43 : decode cX0_fall 43 = .ok (.iconst 1, 1) := by decide +kernel
theorem dX0_fall_44 : decode cX0_fall 44 = .ok (.iadd, 1) := by decide +kernel
theorem dX0_fall_45 : decode cX0_fall 45 = .ok (.putfield 138, 3) := by decide +kernel
theorem dX0_fall_48 : decode cX0_fall 48 = .ok (.aload_n 0, 1) := by decide +kernel
theorem dX0_fall_49 : decode cX0_fall 49 = .ok (.dup, 1) := by decide +kernel
theorem dX0_fall_50 : decode cX0_fall 50 = .ok (.getfield 49, 3) := by decide +kernel
theorem dX0_fall_53 : decode cX0_fall 53 = .ok (.iconst 1, 1) := by decide +kernel
theorem dX0_fall_54 : decode cX0_fall 54 = .ok (.iadd, 1) := by decide +kernel
theorem dX0_fall_55 : decode cX0_fall 55 = .ok (.putfield 49, 3) := by decide +kernel
theorem dX0_fall_58 : decode cX0_fall 58 = .ok (.aload_n 0, 1) := by decide +kernel
theorem dX0_fall_59 : decode cX0_fall 59 = .ok (.getfield 49, 3) := by decide +kernel
theorem dX0_fall_62 : decode cX0_fall 62 = .ok (.aload_n 0, 1) := by decide +kernel
theorem dX0_fall_63 : decode cX0_fall 63 = .ok (.getfield 18, 3) := by decide +kernel
theorem dX0_fall_66 : decode cX0_fall 66 = .ok (.bipush 7, 2) := by decide +kernel
theorem dX0_fall_68 : decode cX0_fall 68 = .ok (.iaload, 1) := by decide +kernel
theorem dX0_fall_69 : decode cX0_fall 69 = .ok (.if_icmp .lt 7, 3) := by decide +kernel
theorem dX0_fall_72 : decode cX0_fall 72 = .ok (.iconst 1, 1) := by decide +kernel
theorem dX0_fall_73 : decode cX0_fall 73 = .ok (.goto 4, 3) := by decide +kernel
theorem dX0_fall_76 : decode cX0_fall 76 = .ok (.iconst 0, 1) := by decide +kernel
theorem dX0_fall_77 : decode cX0_fall 77 = .ok (.istore_n 3, 1) := by decide +kernel
theorem dX0_fall_78 : decode cX0_fall 78 = .ok (.iload_n 3, 1) := by decide +kernel
theorem dX0_fall_79 : decode cX0_fall 79 = .ok (.ifCond .eq 17, 3) := by decide +kernel
theorem dX0_fall_82 : decode cX0_fall 82 = .ok (.aload_n 0, 1) := by decide +kernel
theorem dX0_fall_83 : decode cX0_fall 83 = .ok (.getfield 46, 3) := by decide +kernel
theorem dX0_fall_86 : decode cX0_fall 86 = .ok (.iconst 1, 1) := by decide +kernel
theorem dX0_fall_87 : decode cX0_fall 87 = .ok (.if_icmp .ne 9, 3) := by decide +kernel
theorem dX0_fall_90 : decode cX0_fall 90 = .ok (.aload_n 0, 1) := by decide +kernel
theorem dX0_fall_91 : decode cX0_fall 91 = .ok (.iconst 2, 1) := by decide +kernel
theorem dX0_fall_92 : decode cX0_fall 92 = .ok (.putfield 43, 3) := by decide +kernel
theorem dX0_fall_95 : decode cX0_fall 95 = .ok (.return_, 1) := by decide +kernel
theorem dX0_fall_96 : decode cX0_fall 96 = .ok (.iload_n 3, 1) := by decide +kernel
theorem dX0_fall_97 : decode cX0_fall 97 = .ok (.ifCond .eq 13, 3) := by decide +kernel
theorem dX0_fall_100 : decode cX0_fall 100 = .ok (.aload_n 0, 1) := by decide +kernel
theorem dX0_fall_101 : decode cX0_fall 101 = .ok (.iconst 1, 1) := by decide +kernel
theorem dX0_fall_102 : decode cX0_fall 102 = .ok (.putfield 46, 3) := by decide +kernel
theorem dX0_fall_105 : decode cX0_fall 105 = .ok (.aload_n 0, 1) := by decide +kernel
theorem dX0_fall_106 : decode cX0_fall 106 = .ok (.iconst 0, 1) := by decide +kernel
theorem dX0_fall_107 : decode cX0_fall 107 = .ok (.putfield 49, 3) := by decide +kernel
theorem dX0_fall_110 : decode cX0_fall 110 = .ok (.aload_n 0, 1) := by decide +kernel
theorem dX0_fall_111 : decode cX0_fall 111 = .ok (.invokevirtual 85, 3) := by decide +kernel
theorem dX0_fall_114 : decode cX0_fall 114 = .ok (.return_, 1) := by decide +kernel
theorem dX1_init_0 : decode cX1_init 0 = .ok (.aload_n 0, 1) := by decide +kernel
theorem dX1_init_1 : decode cX1_init 1 = .ok (.invokespecial 3, 3) := by decide +kernel
theorem dX1_init_4 : decode cX1_init 4 = .ok (.aload_n 0, 1) := by decide +kernel
theorem dX1_init_5 : decode cX1_init 5 = .ok (.bipush 80, 2) := by decide +kernel
theorem dX1_init_7 : decode cX1_init 7 = .ok (.newarray .int, 2) := by decide +kernel
theorem dX1_init_9 : decode cX1_init 9 = .ok (.putfield 9, 3) := by decide +kernel
theorem dX1_init_12 : decode cX1_init 12 = .ok (.aload_n 0, 1) := by decide +kernel
theorem dX1_init_13 : decode cX1_init 13 = .ok (.iconst 0, 1) := by decide +kernel
theorem dX1_init_14 : decode cX1_init 14 = .ok (.putfield 15, 3) := by decide +kernel
theorem dX1_init_17 : decode cX1_init 17 = .ok (.return_, 1) := by decide +kernel
theorem dX1_add_0 : decode cX1_add 0 = .ok (.aload_n 0, 1) := by decide +kernel
theorem dX1_add_1 : decode cX1_add 1 = .ok (.getfield 15, 3) := by decide +kernel
theorem dX1_add_4 : decode cX1_add 4 = .ok (.bipush 16, 2) := by decide +kernel
theorem dX1_add_6 : decode cX1_add 6 = .ok (.irem, 1) := by decide +kernel
theorem dX1_add_7 : decode cX1_add 7 = .ok (.iconst 5, 1) := by decide +kernel
theorem dX1_add_8 : decode cX1_add 8 = .ok (.imul, 1) := by decide +kernel
theorem dX1_add_9 : decode cX1_add 9 = .ok (.istore 6, 2) := by decide +kernel
theorem dX1_add_11 : decode cX1_add 11 = .ok (.aload_n 0, 1) := by decide +kernel
theorem dX1_add_12 : decode cX1_add 12 = .ok (.getfield 9, 3) := by decide +kernel
theorem dX1_add_15 : decode cX1_add 15 = .ok (.iload 6, 2) := by decide +kernel
theorem dX1_add_17 : decode cX1_add 17 = .ok (.iload_n 1, 1) := by decide +kernel
theorem dX1_add_18 : decode cX1_add 18 = .ok (.iastore, 1) := by decide +kernel
theorem dX1_add_19 : decode cX1_add 19 = .ok (.aload_n 0, 1) := by decide +kernel
theorem dX1_add_20 : decode cX1_add 20 = .ok (.getfield 9, 3) := by decide +kernel
theorem dX1_add_23 : decode cX1_add 23 = .ok (.iload 6, 2) := by decide +kernel
theorem dX1_add_25 : decode cX1_add 25 = .ok (.iconst 1, 1) := by decide +kernel
theorem dX1_add_26 : decode cX1_add 26 = .ok (.iadd, 1) := by decide +kernel
theorem dX1_add_27 : decode cX1_add 27 = .ok (.iload_n 2, 1) := by decide +kernel
theorem dX1_add_28 : decode cX1_add 28 = .ok (.iastore, 1) := by decide +kernel
theorem dX1_add_29 : decode cX1_add 29 = .ok (.aload_n 0, 1) := by decide +kernel
theorem dX1_add_30 : decode cX1_add 30 = .ok (.getfield 9, 3) := by decide +kernel
theorem dX1_add_33 : decode cX1_add 33 = .ok (.iload 6, 2) := by decide +kernel
theorem dX1_add_35 : decode cX1_add 35 = .ok (.iconst 2, 1) := by decide +kernel
theorem dX1_add_36 : decode cX1_add 36 = .ok (.iadd, 1) := by decide +kernel
theorem dX1_add_37 : decode cX1_add 37 = .ok (.iload_n 3, 1) := by decide +kernel
theorem dX1_add_38 : decode cX1_add 38 = .ok (.iastore, 1) := by decide +kernel
theorem dX1_add_39 : decode cX1_add 39 = .ok (.aload_n 0, 1) := by decide +kernel
theorem dX1_add_40 : decode cX1_add 40 = .ok (.getfield 9, 3) := by decide +kernel
theorem dX1_add_43 : decode cX1_add 43 = .ok (.iload 6, 2) := by decide +kernel
theorem dX1_add_45 : decode cX1_add 45 = .ok (.iconst 3, 1) := by decide +kernel
theorem dX1_add_46 : decode cX1_add 46 = .ok (.iadd, 1) := by decide +kernel
theorem dX1_add_47 : decode cX1_add 47 = .ok (.iload 4, 2) := by decide +kernel
theorem dX1_add_49 : decode cX1_add 49 = .ok (.iastore, 1) := by decide +kernel
theorem dX1_add_50 : decode cX1_add 50 = .ok (.aload_n 0, 1) := by decide +kernel
theorem dX1_add_51 : decode cX1_add 51 = .ok (.getfield 9, 3) := by decide +kernel
theorem dX1_add_54 : decode cX1_add 54 = .ok (.iload 6, 2) := by decide +kernel
theorem dX1_add_56 : decode cX1_add 56 = .ok (.iconst 4, 1) := by decide +kernel
theorem dX1_add_57 : decode cX1_add 57 = .ok (.iadd, 1) := by decide +kernel
theorem dX1_add_58 : decode cX1_add 58 = .ok (.iload 5, 2) := by decide +kernel
theorem dX1_add_60 : decode cX1_add 60 = .ok (.iastore, 1) := by decide +kernel
theorem dX1_add_61 : decode cX1_add 61 = .ok (.aload_n 0, 1) := by decide +kernel
theorem dX1_add_62 : decode cX1_add 62 = .ok (.dup, 1) := by decide +kernel
theorem dX1_add_63 : decode cX1_add 63 = .ok (.getfield 15, 3) := by decide +kernel
theorem dX1_add_66 : decode cX1_add 66 = .ok (.iconst 1, 1) := by decide +kernel
theorem dX1_add_67 : decode cX1_add 67 = .ok (.iadd, 1) := by decide +kernel
theorem dX1_add_68 : decode cX1_add 68 = .ok (.putfield 15, 3) := by decide +kernel
theorem dX1_add_71 : decode cX1_add 71 = .ok (.return_, 1) := by decide +kernel
theorem dX1_property_0 : decode cX1_property 0 = .ok (.iload_n 1, 1) := by decide +kernel
theorem dX1_property_1 : decode cX1_property 1 = .ok (.ifCond .lt 31, 3) := by decide +kernel
theorem dX1_property_4 : decode cX1_property 4 = .ok (.iload_n 1, 1) := by decide +kernel
theorem dX1_property_5 : decode cX1_property 5 = .ok (.aload_n 0, 1) := by decide +kernel
theorem dX1_property_6 : decode cX1_property 6 = .ok (.getfield 15, 3) := by decide +kernel
theorem dX1_property_9 : decode cX1_property 9 = .ok (.if_icmp .ge 23, 3) := by decide +kernel
theorem dX1_property_12 : decode cX1_property 12 = .ok (.iload_n 1, 1) := by decide +kernel
theorem dX1_property_13 : decode cX1_property 13 = .ok (.aload_n 0, 1) := by decide +kernel
theorem dX1_property_14 : decode cX1_property 14 = .ok (.getfield 15, 3) := by decide +kernel
theorem dX1_property_17 : decode cX1_property 17 = .ok (.bipush 16, 2) := by decide +kernel
theorem dX1_property_19 : decode cX1_property 19 = .ok (.isub, 1) := by decide +kernel
theorem dX1_property_20 : decode cX1_property 20 = .ok (.if_icmp .lt 12, 3) := by decide +kernel
theorem dX1_property_23 : decode cX1_property 23 = .ok (.iload_n 2, 1) := by decide +kernel
theorem dX1_property_24 : decode cX1_property 24 = .ok (.iconst 0, 1) := by decide +kernel
theorem dX1_property_25 : decode cX1_property 25 = .ok (.iconst 4, 1) := by decide +kernel
theorem dX1_property_26 : decode cX1_property 26 = .ok (.invokestatic 19, 3) := by decide +kernel
theorem dX1_property_29 : decode cX1_property 29 = .ok (.ifCond .ne 6, 3) := by decide +kernel
theorem dX1_property_32 : decode cX1_property 32 = .ok (.bipush (-6), 2) := by decide +kernel
theorem dX1_property_34 : decode cX1_property 34 = .ok (.ireturn, 1) := by decide +kernel
theorem dX1_property_35 : decode cX1_property 35 = .ok (.aload_n 0, 1) := by decide +kernel
theorem dX1_property_36 : decode cX1_property 36 = .ok (.getfield 9, 3) := by decide +kernel
theorem dX1_property_39 : decode cX1_property 39 = .ok (.iload_n 1, 1) := by decide +kernel
theorem dX1_property_40 : decode cX1_property 40 = .ok (.bipush 16, 2) := by decide +kernel
theorem dX1_property_42 : decode cX1_property 42 = .ok (.irem, 1) := by decide +kernel
theorem dX1_property_43 : decode cX1_property 43 = .ok (.iconst 5, 1) := by decide +kernel
theorem dX1_property_44 : decode cX1_property 44 = .ok (.imul, 1) := by decide +kernel
theorem dX1_property_45 : decode cX1_property 45 = .ok (.iload_n 2, 1) := by decide +kernel
theorem dX1_property_46 : decode cX1_property 46 = .ok (.iadd, 1) := by decide +kernel
theorem dX1_property_47 : decode cX1_property 47 = .ok (.iaload, 1) := by decide +kernel
theorem dX1_property_48 : decode cX1_property 48 = .ok (.ireturn, 1) := by decide +kernel
theorem dX1_become_0 : decode cX1_become 0 = .ok (.aload_n 1, 1) := by decide +kernel
theorem dX1_become_1 : decode cX1_become 1 = .ok (.getfield 9, 3) := by decide +kernel
theorem dX1_become_4 : decode cX1_become 4 = .ok (.iconst 0, 1) := by decide +kernel
theorem dX1_become_5 : decode cX1_become 5 = .ok (.aload_n 0, 1) := by decide +kernel
theorem dX1_become_6 : decode cX1_become 6 = .ok (.getfield 9, 3) := by decide +kernel
theorem dX1_become_9 : decode cX1_become 9 = .ok (.iconst 0, 1) := by decide +kernel
theorem dX1_become_10 : decode cX1_become 10 = .ok (.bipush 80, 2) := by decide +kernel
theorem dX1_become_12 : decode cX1_become 12 = .ok (.invokestatic 23, 3) := by decide +kernel
theorem dX1_become_15 : decode cX1_become 15 = .ok (.aload_n 0, 1) := by decide +kernel
theorem dX1_become_16 : decode cX1_become 16 = .ok (.aload_n 1, 1) := by decide +kernel
theorem dX1_become_17 : decode cX1_become 17 = .ok (.getfield 15, 3) := by decide +kernel
theorem dX1_become_20 : decode cX1_become 20 = .ok (.putfield 15, 3) := by decide +kernel
theorem dX1_become_23 : decode cX1_become 23 = .ok (.return_, 1) := by decide +kernel
theorem dX2_init_0 : decode cX2_init 0 = .ok (.aload_n 0, 1) := by decide +kernel
theorem dX2_init_1 : decode cX2_init 1 = .ok (.invokespecial 3, 3) := by decide +kernel
theorem dX2_init_4 : decode cX2_init 4 = .ok (.aload_n 0, 1) := by decide +kernel
theorem dX2_init_5 : decode cX2_init 5 = .ok (.bipush 60, 2) := by decide +kernel
theorem dX2_init_7 : decode cX2_init 7 = .ok (.newarray .char, 2) := by decide +kernel
theorem dX2_init_9 : decode cX2_init 9 = .ok (.putfield 9, 3) := by decide +kernel
theorem dX2_init_12 : decode cX2_init 12 = .ok (.aload_n 0, 1) := by decide +kernel
theorem dX2_init_13 : decode cX2_init 13 = .ok (.iconst 0, 1) := by decide +kernel
theorem dX2_init_14 : decode cX2_init 14 = .ok (.putfield 15, 3) := by decide +kernel
theorem dX2_init_17 : decode cX2_init 17 = .ok (.aload_n 0, 1) := by decide +kernel
theorem dX2_init_18 : decode cX2_init 18 = .ok (.iconst 0, 1) := by decide +kernel
theorem dX2_init_19 : decode cX2_init 19 = .ok (.putfield 19, 3) := by decide +kernel
theorem dX2_init_22 : decode cX2_init 22 = .ok (.aload_n 0, 1) := by decide +kernel
theorem dX2_init_23 : decode cX2_init 23 = .ok (.iconst 0, 1) := by decide +kernel
theorem dX2_init_24 : decode cX2_init 24 = .ok (.putfield 22, 3) := by decide +kernel
theorem dX2_init_27 : decode cX2_init 27 = .ok (.aload_n 0, 1) := by decide +kernel
theorem dX2_init_28 : decode cX2_init 28 = .ok (.bipush 20, 2) := by decide +kernel
theorem dX2_init_30 : decode cX2_init 30 = .ok (.newarray .int, 2) := by decide +kernel
theorem dX2_init_32 : decode cX2_init 32 = .ok (.putfield 25, 3) := by decide +kernel
theorem dX2_init_35 : decode cX2_init 35 = .ok (.aload_n 0, 1) := by decide +kernel
theorem dX2_init_36 : decode cX2_init 36 = .ok (.bipush 20, 2) := by decide +kernel
theorem dX2_init_38 : decode cX2_init 38 = .ok (.newarray .int, 2) := by decide +kernel
theorem dX2_init_40 : decode cX2_init 40 = .ok (.putfield 29, 3) := by decide +kernel
theorem dX2_init_43 : decode cX2_init 43 = .ok (.aload_n 0, 1) := by decide +kernel
theorem dX2_init_44 : decode cX2_init 44 = .ok (.bipush 20, 2) := by decide +kernel
theorem dX2_init_46 : decode cX2_init 46 = .ok (.newarray .int, 2) := by decide +kernel
theorem dX2_init_48 : decode cX2_init 48 = .ok (.putfield 32, 3) := by decide +kernel
theorem dX2_init_51 : decode cX2_init 51 = .ok (.aload_n 0, 1) := by decide +kernel
theorem dX2_init_52 : decode cX2_init 52 = .ok (.bipush 20, 2) := by decide +kernel
theorem dX2_init_54 : decode cX2_init 54 = .ok (.newarray .int, 2) := by decide +kernel
theorem dX2_init_56 : decode cX2_init 56 = .ok (.putfield 35, 3) := by decide +kernel
theorem dX2_init_59 : decode cX2_init 59 = .ok (.aload_n 0, 1) := by decide +kernel
theorem dX2_init_60 : decode cX2_init 60 = .ok (.bipush 20, 2) := by decide +kernel
theorem dX2_init_62 : decode cX2_init 62 = .ok (.newarray .int, 2) := by decide +kernel
theorem dX2_init_64 : decode cX2_init 64 = .ok (.putfield 38, 3) := by decide +kernel
theorem dX2_init_67 : decode cX2_init 67 = .ok (.return_, 1) := by decide +kernel
theorem dX2_append_0 : decode cX2_append 0 = .ok (.iload_n 3, 1) := by decide +kernel
theorem dX2_append_1 : decode cX2_append 1 = .ok (.iconst 1, 1) := by decide +kernel
theorem dX2_append_2 : decode cX2_append 2 = .ok (.isub, 1) := by decide +kernel
theorem dX2_append_3 : decode cX2_append 3 = .ok (.istore 4, 2) := by decide +kernel
theorem dX2_append_5 : decode cX2_append 5 = .ok (.iload 4, 2) := by decide +kernel
theorem dX2_append_7 : decode cX2_append 7 = .ok (.ifCond .lt 50, 3) := by decide +kernel
theorem dX2_append_10 : decode cX2_append 10 = .ok (.aload_n 0, 1) := by decide +kernel
theorem dX2_append_11 : decode cX2_append 11 = .ok (.getfield 15, 3) := by decide +kernel
theorem dX2_append_14 : decode cX2_append 14 = .ok (.bipush 60, 2) := by decide +kernel
theorem dX2_append_16 : decode cX2_append 16 = .ok (.if_icmp .ge 41, 3) := by decide +kernel
theorem dX2_append_19 : decode cX2_append 19 = .ok (.aload_n 0, 1) := by decide +kernel
theorem dX2_append_20 : decode cX2_append 20 = .ok (.getfield 9, 3) := by decide +kernel
theorem dX2_append_23 : decode cX2_append 23 = .ok (.aload_n 0, 1) := by decide +kernel
theorem dX2_append_24 : decode cX2_append 24 = .ok (.getfield 15, 3) := by decide +kernel
theorem dX2_append_27 : decode cX2_append 27 = .ok (.lload_n 1, 1) := by decide +kernel
theorem dX2_append_28 : decode cX2_append 28 = .ok (.bipush 8, 2) := by decide +kernel
theorem dX2_append_30 : decode cX2_append 30 = .ok (.iload 4, 2) := by decide +kernel
theorem dX2_append_32 : decode cX2_append 32 = .ok (.imul, 1) := by decide +kernel
theorem dX2_append_33 : decode cX2_append 33 = .ok (.lushr, 1) := by decide +kernel
theorem dX2_append_34 : decode cX2_append 34 = .ok (.ldc2_w 41, 3) := by decide +kernel
theorem dX2_append_37 : decode cX2_append 37 = .ok (.land, 1) := by decide +kernel
theorem dX2_append_38 : decode cX2_append 38 = .ok (.l2i, 1) := by decide +kernel
theorem dX2_append_39 : decode cX2_append 39 = .ok (.i2c, 1) := by decide +kernel
theorem dX2_append_40 : decode cX2_append 40 = .ok (.castore, 1) := by decide +kernel
theorem dX2_append_41 : decode cX2_append 41 = .ok (.aload_n 0, 1) := by decide +kernel
theorem dX2_append_42 : decode cX2_append 42 = .ok (.dup, 1) := by decide +kernel
theorem dX2_append_43 : decode cX2_append 43 = .ok (.getfield 15, 3) := by decide +kernel
theorem dX2_append_46 : decode cX2_append 46 = .ok (.iconst 1, 1) := by decide +kernel
theorem dX2_append_47 : decode cX2_append 47 = .ok (.iadd, 1) := by decide +kernel
theorem dX2_append_48 : decode cX2_append 48 = .ok (.putfield 15, 3) := by decide +kernel
theorem dX2_append_51 : decode cX2_append 51 = .ok (.iinc 4 (-1), 3) := by decide +kernel
theorem dX2_append_54 : decode cX2_append 54 = .ok (.goto (-49), 3) := by decide +kernel
theorem dX2_append_57 : decode cX2_append 57 = .ok (.return_, 1) := by decide +kernel
theorem dX2_readFaults_0 : decode cX2_readFaults 0 = .ok (.aload_n 0, 1) := by decide +kernel
theorem dX2_readFaults_1 : decode cX2_readFaults 1 = .ok (.iconst 0, 1) := by decide +kernel
theorem dX2_readFaults_2 : decode cX2_readFaults 2 = .ok (.putfield 19, 3) := by decide +kernel
theorem dX2_readFaults_5 : decode cX2_readFaults 5 = .ok (.aload_n 0, 1) := by decide +kernel
theorem dX2_readFaults_6 : decode cX2_readFaults 6 = .ok (.iconst 0, 1) := by decide +kernel
theorem dX2_readFaults_7 : decode cX2_readFaults 7 = .ok (.putfield 22, 3) := by decide +kernel
theorem dX2_readFaults_10 : decode cX2_readFaults 10 = .ok (.aload_n 0, 1) := by decide +kernel
theorem dX2_readFaults_11 : decode cX2_readFaults 11 = .ok (.invokevirtual 43, 3) := by decide +kernel
theorem dX2_readFaults_14 : decode cX2_readFaults 14 = .ok (.istore_n 1, 1) := by decide +kernel
theorem dX2_readFaults_15 : decode cX2_readFaults 15 = .ok (.iconst 0, 1) := by decide +kernel
theorem dX2_readFaults_16 : decode cX2_readFaults 16 = .ok (.istore_n 2, 1) := by decide +kernel
theorem dX2_readFaults_17 : decode cX2_readFaults 17 = .ok (.iload_n 2, 1) := by decide +kernel
theorem dX2_readFaults_18 : decode cX2_readFaults 18 = .ok (.bipush 20, 2) := by decide +kernel
theorem dX2_readFaults_20 : decode cX2_readFaults 20 = .ok (.if_icmp .ge 27, 3) := by decide +kernel
theorem dX2_readFaults_23 : decode cX2_readFaults 23 = .ok (.iload_n 1, 1) := by decide +kernel
theorem dX2_readFaults_24 : decode cX2_readFaults 24 = .ok (.ifCond .eq 23, 3) := by decide +kernel
theorem dX2_readFaults_27 : decode cX2_readFaults 27 = .ok (.aload_n 0, 1) := by decide +kernel
theorem dX2_readFaults_28 : decode cX2_readFaults 28 = .ok (.bipush 44, 2) := by decide +kernel
theorem dX2_readFaults_30 : decode cX2_readFaults 30 = .ok (.invokevirtual 47, 3) := by decide +kernel
theorem dX2_readFaults_33 : decode cX2_readFaults 33 = .ok (.ifCond .eq 14, 3) := by decide +kernel
theorem dX2_readFaults_36 : decode cX2_readFaults 36 = .ok (.aload_n 0, 1) := by decide +kernel
theorem dX2_readFaults_37 : decode cX2_readFaults 37 = .ok (.invokevirtual 43, 3) := by decide +kernel
theorem dX2_readFaults_40 : decode cX2_readFaults 40 = .ok (.istore_n 1, 1) := by decide +kernel
theorem dX2_readFaults_41 : decode cX2_readFaults 41 = .ok (.iinc 2 1, 3) := by decide +kernel
theorem dX2_readFaults_44 : decode cX2_readFaults 44 = .ok (.goto (-27), 3) := by decide +kernel
theorem dX2_readFaults_47 : decode cX2_readFaults 47 = .ok (.iload_n 1, 1) := by decide +kernel
theorem dX2_readFaults_48 : decode cX2_readFaults 48 = .ok (.ifCond .eq 19, 3) := by decide +kernel
theorem dX2_readFaults_51 : decode cX2_readFaults 51 = .ok (.aload_n 0, 1) := by decide +kernel
theorem dX2_readFaults_52 : decode cX2_readFaults 52 = .ok (.getfield 19, 3) := by decide +kernel
theorem dX2_readFaults_55 : decode cX2_readFaults 55 = .ok (.aload_n 0, 1) := by decide +kernel
theorem dX2_readFaults_56 : decode cX2_readFaults 56 = .ok (.getfield 15, 3) := by decide +kernel
theorem dX2_readFaults_59 : decode cX2_readFaults 59 = .ok (.if_icmp .ne 8, 3) := by decide +kernel
theorem dX2_readFaults_62 : decode cX2_readFaults 62 = .ok (.bipush (-6), 2) := by decide +kernel
theorem dX2_readFaults_64 : decode cX2_readFaults 64 = .ok (.goto 7, 3) := by decide +kernel
theorem dX2_readFaults_67 : decode cX2_readFaults 67 = .ok (.aload_n 0, 1) := by decide +kernel
theorem dX2_readFaults_68 : decode cX2_readFaults 68 = .ok (.getfield 19, 3) := by decide +kernel
theorem dX2_readFaults_71 : decode cX2_readFaults 71 = .ok (.ireturn, 1) := by decide +kernel
theorem dX2_readFault_0 : decode cX2_readFault 0 = .ok (.ldc 51, 2) := by decide +kernel
theorem dX2_readFault_2 : decode cX2_readFault 2 = .ok (.aload_n 0, 1) := by decide +kernel
theorem dX2_readFault_3 : decode cX2_readFault 3 = .ok (.invokevirtual 53, 3) := by decide +kernel
theorem dX2_readFault_6 : decode cX2_readFault 6 = .ok (.invokevirtual 57, 3) := by decide +kernel
theorem dX2_readFault_9 : decode cX2_readFault 9 = .ok (.istore_n 1, 1) := by decide +kernel
theorem dX2_readFault_10 : decode cX2_readFault 10 = .ok (.iload_n 1, 1) := by decide +kernel
theorem dX2_readFault_11 : decode cX2_readFault 11 = .ok (.ifCond .ge 5, 3) := by decide +kernel
theorem dX2_readFault_14 : decode cX2_readFault 14 = .ok (.iconst 0, 1) := by decide +kernel
theorem dX2_readFault_15 : decode cX2_readFault 15 = .ok (.ireturn, 1) := by decide +kernel
theorem dX2_readFault_16 : decode cX2_readFault 16 = .ok (.aload_n 0, 1) := by decide +kernel
theorem dX2_readFault_17 : decode cX2_readFault 17 = .ok (.dup, 1) := by decide +kernel
theorem dX2_readFault_18 : decode cX2_readFault 18 = .ok (.getfield 19, 3) := by decide +kernel
theorem dX2_readFault_21 : decode cX2_readFault 21 = .ok (.iconst 1, 1) := by decide +kernel
theorem dX2_readFault_22 : decode cX2_readFault 22 = .ok (.iadd, 1) := by decide +kernel
theorem dX2_readFault_23 : decode cX2_readFault 23 = .ok (.putfield 19, 3) := by decide +kernel
theorem dX2_readFault_26 : decode cX2_readFault 26 = .ok (.aload_n 0, 1) := by decide +kernel
theorem dX2_readFault_27 : decode cX2_readFault 27 = .ok (.invokevirtual 63, 3) := by decide +kernel
theorem dX2_readFault_30 : decode cX2_readFault 30 = .ok (.istore_n 2, 1) := by decide +kernel
theorem dX2_readFault_31 : decode cX2_readFault 31 = .ok (.iload_n 2, 1) := by decide +kernel
theorem dX2_readFault_32 : decode cX2_readFault 32 = .ok (.iconst 0, 1) := by decide +kernel
theorem dX2_readFault_33 : decode cX2_readFault 33 = .ok (.iconst 5, 1) := by decide +kernel
theorem dX2_readFault_34 : decode cX2_readFault 34 = .ok (.invokestatic 67, 3) := by decide +kernel
theorem dX2_readFault_37 : decode cX2_readFault 37 = .ok (.ifCond .ne 5, 3) := by decide +kernel
theorem dX2_readFault_40 : decode cX2_readFault 40 = .ok (.iconst 0, 1) := by decide +kernel
theorem dX2_readFault_41 : decode cX2_readFault 41 = .ok (.ireturn, 1) := by decide +kernel
theorem dX2_readFault_42 : decode cX2_readFault 42 = .ok (.aload_n 0, 1) := by decide +kernel
theorem dX2_readFault_43 : decode cX2_readFault 43 = .ok (.dup, 1) := by decide +kernel
theorem dX2_readFault_44 : decode cX2_readFault 44 = .ok (.getfield 19, 3) := by decide +kernel
theorem dX2_readFault_47 : decode cX2_readFault 47 = .ok (.iconst 1, 1) := by decide +kernel
theorem dX2_readFault_48 : decode cX2_readFault 48 = .ok (.iadd, 1) := by decide +kernel
theorem dX2_readFault_49 : decode cX2_readFault 49 = .ok (.putfield 19, 3) := by decide +kernel
theorem dX2_readFault_52 : decode cX2_readFault 52 = .ok (.aload_n 0, 1) := by decide +kernel
theorem dX2_readFault_53 : decode cX2_readFault 53 = .ok (.bipush 64, 2) := by decide +kernel
theorem dX2_readFault_55 : decode cX2_readFault 55 = .ok (.invokevirtual 47, 3) := by decide +kernel
theorem dX2_readFault_58 : decode cX2_readFault 58 = .ok (.ifCond .eq 13, 3) := by decide +kernel
theorem dX2_readFault_61 : decode cX2_readFault 61 = .ok (.aload_n 0, 1) := by decide +kernel
theorem dX2_readFault_62 : decode cX2_readFault 62 = .ok (.sipush 5000, 3) := by decide +kernel
theorem dX2_readFault_65 : decode cX2_readFault 65 = .ok (.invokevirtual 71, 3) := by decide +kernel
theorem dX2_readFault_68 : decode cX2_readFault 68 = .ok (.goto 4, 3) := by decide +kernel
theorem dX2_readFault_71 : decode cX2_readFault 71 = .ok (.iconst 0, 1) := by decide +kernel
theorem dX2_readFault_72 : decode cX2_readFault 72 = .ok (.istore_n 3, 1) := by decide +kernel
theorem dX2_readFault_73 : decode cX2_readFault 73 = .ok (.iload_n 3, 1) := by decide +kernel
theorem dX2_readFault_74 : decode cX2_readFault 74 = .ok (.ifCond .ge 5, 3) := by decide +kernel
theorem dX2_readFault_77 : decode cX2_readFault 77 = .ok (.iconst 0, 1) := by decide +kernel
theorem dX2_readFault_78 : decode cX2_readFault 78 = .ok (.ireturn, 1) := by decide +kernel
theorem dX2_readFault_79 : decode cX2_readFault 79 = .ok (.aload_n 0, 1) := by decide +kernel
theorem dX2_readFault_80 : decode cX2_readFault 80 = .ok (.bipush 42, 2) := by decide +kernel
theorem dX2_readFault_82 : decode cX2_readFault 82 = .ok (.invokevirtual 47, 3) := by decide +kernel
theorem dX2_readFault_85 : decode cX2_readFault 85 = .ok (.ifCond .eq 13, 3) := by decide +kernel
theorem dX2_readFault_88 : decode cX2_readFault 88 = .ok (.aload_n 0, 1) := by decide +kernel
theorem dX2_readFault_89 : decode cX2_readFault 89 = .ok (.sipush 500, 3) := by decide +kernel
theorem dX2_readFault_92 : decode cX2_readFault 92 = .ok (.invokevirtual 71, 3) := by decide +kernel
theorem dX2_readFault_95 : decode cX2_readFault 95 = .ok (.goto 4, 3) := by decide +kernel
theorem dX2_readFault_98 : decode cX2_readFault 98 = .ok (.iconst 0, 1) := by decide +kernel
theorem dX2_readFault_99 : decode cX2_readFault 99 = .ok (.istore 4, 2) := by decide +kernel
theorem dX2_readFault_101 : decode cX2_readFault 101 = .ok (.iload 4, 2) := by decide +kernel
theorem dX2_readFault_103 : decode cX2_readFault 103 = .ok (.ifCond .ge 5, 3) := by decide +kernel
theorem dX2_readFault_106 : decode cX2_readFault 106 = .ok (.iconst 0, 1) := by decide +kernel
theorem dX2_readFault_107 : decode cX2_readFault 107 = .ok (.ireturn, 1) := by decide +kernel
theorem dX2_readFault_108 : decode cX2_readFault 108 = .ok (.aload_n 0, 1) := by decide +kernel
theorem dX2_readFault_109 : decode cX2_readFault 109 = .ok (.aload_n 0, 1) := by decide +kernel
theorem dX2_readFault_110 : decode cX2_readFault 110 = .ok (.bipush 33, 2) := by decide +kernel
theorem dX2_readFault_112 : decode cX2_readFault 112 = .ok (.invokevirtual 47, 3) := by decide +kernel
theorem dX2_readFault_115 : decode cX2_readFault 115 = .ok (.ifCond .eq 7, 3) := by decide +kernel
theorem dX2_readFault_118 : decode cX2_readFault 118 = .ok (.iconst 1, 1) := by decide +kernel
theorem dX2_readFault_119 : decode cX2_readFault 119 = .ok (.goto 4, 3) := by decide +kernel
theorem dX2_readFault_122 : decode cX2_readFault 122 = .ok (.iconst 0, 1) := by decide +kernel
theorem dX2_readFault_123 : decode cX2_readFault 123 = .ok (.iload_n 2, 1) := by decide +kernel
theorem dX2_readFault_124 : decode cX2_readFault 124 = .ok (.iload_n 1, 1) := by decide +kernel
theorem dX2_readFault_125 : decode cX2_readFault 125 = .ok (.iload_n 3, 1) := by decide +kernel
theorem dX2_readFault_126 : decode cX2_readFault 126 = .ok (.iload 4, 2) := by decide +kernel
theorem dX2_readFault_128 : decode cX2_readFault 128 = .ok (.invokevirtual 74, 3) := by decide +kernel
theorem dX2_readFault_131 : decode cX2_readFault 131 = .ok (.iconst 1, 1) := by decide +kernel
theorem dX2_readFault_132 : decode cX2_readFault 132 = .ok (.ireturn, 1) := by decide +kernel
theorem dX2_keepFault_0 : decode cX2_keepFault 0 = .ok (.aload_n 0, 1) := by decide +kernel
theorem dX2_keepFault_1 : decode cX2_keepFault 1 = .ok (.getfield 22, 3) := by decide +kernel
theorem dX2_keepFault_4 : decode cX2_keepFault 4 = .ok (.bipush 20, 2) := by decide +kernel
theorem dX2_keepFault_6 : decode cX2_keepFault 6 = .ok (.if_icmp .lt 4, 3) := by decide +kernel
theorem dX2_keepFault_9 : decode cX2_keepFault 9 = .ok (.return_, 1) := by decide +kernel
theorem dX2_keepFault_10 : decode cX2_keepFault 10 = .ok (.aload_n 0, 1) := by decide +kernel
theorem dX2_keepFault_11 : decode cX2_keepFault 11 = .ok (.getfield 38, 3) := by decide +kernel
theorem dX2_keepFault_14 : decode cX2_keepFault 14 = .ok (.aload_n 0, 1) := by decide +kernel
theorem dX2_keepFault_15 : decode cX2_keepFault 15 = .ok (.getfield 22, 3) := by decide +kernel
theorem dX2_keepFault_18 : decode cX2_keepFault 18 = .ok (.iload_n 1, 1) := by decide +kernel
theorem dX2_keepFault_19 : decode cX2_keepFault 19 = .ok (.iastore, 1) := by decide +kernel
theorem dX2_keepFault_20 : decode cX2_keepFault 20 = .ok (.aload_n 0, 1) := by decide +kernel
theorem dX2_keepFault_21 : decode cX2_keepFault 21 = .ok (.getfield 29, 3) := by decide +kernel
theorem dX2_keepFault_24 : decode cX2_keepFault 24 = .ok (.aload_n 0, 1) := by decide +kernel
theorem dX2_keepFault_25 : decode cX2_keepFault 25 = .ok (.getfield 22, 3) := by decide +kernel
theorem dX2_keepFault_28 : decode cX2_keepFault 28 = .ok (.iload_n 2, 1) := by decide +kernel
theorem dX2_keepFault_29 : decode cX2_keepFault 29 = .ok (.iastore, 1) := by decide +kernel
theorem dX2_keepFault_30 : decode cX2_keepFault 30 = .ok (.aload_n 0, 1) := by decide +kernel
theorem dX2_keepFault_31 : decode cX2_keepFault 31 = .ok (.getfield 25, 3) := by decide +kernel
theorem dX2_keepFault_34 : decode cX2_keepFault 34 = .ok (.aload_n 0, 1) := by decide +kernel
theorem dX2_keepFault_35 : decode cX2_keepFault 35 = .ok (.getfield 22, 3) := by decide +kernel
theorem dX2_keepFault_38 : decode cX2_keepFault 38 = .ok (.iload_n 3, 1) := by decide +kernel
theorem dX2_keepFault_39 : decode cX2_keepFault 39 = .ok (.iastore, 1) := by decide +kernel
theorem dX2_keepFault_40 : decode cX2_keepFault 40 = .ok (.aload_n 0, 1) := by decide +kernel
theorem dX2_keepFault_41 : decode cX2_keepFault 41 = .ok (.getfield 32, 3) := by decide +kernel
theorem dX2_keepFault_44 : decode cX2_keepFault 44 = .ok (.aload_n 0, 1) := by decide +kernel
theorem dX2_keepFault_45 : decode cX2_keepFault 45 = .ok (.getfield 22, 3) := by decide +kernel
theorem dX2_keepFault_48 : decode cX2_keepFault 48 = .ok (.iload 4, 2) := by decide +kernel
theorem dX2_keepFault_50 : decode cX2_keepFault 50 = .ok (.iastore, 1) := by decide +kernel
theorem dX2_keepFault_51 : decode cX2_keepFault 51 = .ok (.aload_n 0, 1) := by decide +kernel
theorem dX2_keepFault_52 : decode cX2_keepFault 52 = .ok (.getfield 35, 3) := by decide +kernel
theorem dX2_keepFault_55 : decode cX2_keepFault 55 = .ok (.aload_n 0, 1) := by decide +kernel
theorem dX2_keepFault_56 : decode cX2_keepFault 56 = .ok (.getfield 22, 3) := by decide +kernel
theorem dX2_keepFault_59 : decode cX2_keepFault 59 = .ok (.iload 5, 2) := by decide +kernel
theorem dX2_keepFault_61 : decode cX2_keepFault 61 = .ok (.iastore, 1) := by decide +kernel
theorem dX2_keepFault_62 : decode cX2_keepFault 62 = .ok (.aload_n 0, 1) := by decide +kernel
theorem dX2_keepFault_63 : decode cX2_keepFault 63 = .ok (.dup, 1) := by decide +kernel
theorem dX2_keepFault_64 : decode cX2_keepFault 64 = .ok (.getfield 22, 3) := by decide +kernel
theorem dX2_keepFault_67 : decode cX2_keepFault 67 = .ok (.iconst 1, 1) := by decide +kernel
theorem dX2_keepFault_68 : decode cX2_keepFault 68 = .ok (.iadd, 1) := by decide +kernel
theorem dX2_keepFault_69 : decode cX2_keepFault 69 = .ok (.putfield 22, 3) := by decide +kernel
theorem dX2_keepFault_72 : decode cX2_keepFault 72 = .ok (.return_, 1) := by decide +kernel
theorem dX2_readNumber_0 : decode cX2_readNumber 0 = .ok (.aload_n 0, 1) := by decide +kernel
theorem dX2_readNumber_1 : decode cX2_readNumber 1 = .ok (.invokevirtual 63, 3) := by decide +kernel
theorem dX2_readNumber_4 : decode cX2_readNumber 4 = .ok (.istore_n 2, 1) := by decide +kernel
theorem dX2_readNumber_5 : decode cX2_readNumber 5 = .ok (.iload_n 2, 1) := by decide +kernel
theorem dX2_readNumber_6 : decode cX2_readNumber 6 = .ok (.ifCond .ge 5, 3) := by decide +kernel
theorem dX2_readNumber_9 : decode cX2_readNumber 9 = .ok (.iconst (-1), 1) := by decide +kernel
theorem dX2_readNumber_10 : decode cX2_readNumber 10 = .ok (.ireturn, 1) := by decide +kernel
theorem dX2_readNumber_11 : decode cX2_readNumber 11 = .ok (.aload_n 0, 1) := by decide +kernel
theorem dX2_readNumber_12 : decode cX2_readNumber 12 = .ok (.dup, 1) := by decide +kernel
theorem dX2_readNumber_13 : decode cX2_readNumber 13 = .ok (.getfield 19, 3) := by decide +kernel
theorem dX2_readNumber_16 : decode cX2_readNumber 16 = .ok (.iconst 1, 1) := by decide +kernel
theorem dX2_readNumber_17 : decode cX2_readNumber 17 = .ok (.iadd, 1) := by decide +kernel
theorem dX2_readNumber_18 : decode cX2_readNumber 18 = .ok (.putfield 19, 3) := by decide +kernel
theorem dX2_readNumber_21 : decode cX2_readNumber 21 = .ok (.iconst 0, 1) := by decide +kernel
theorem dX2_readNumber_22 : decode cX2_readNumber 22 = .ok (.istore_n 3, 1) := by decide +kernel
theorem dX2_readNumber_23 : decode cX2_readNumber 23 = .ok (.iload_n 3, 1) := by decide +kernel
theorem dX2_readNumber_24 : decode cX2_readNumber 24 = .ok (.bipush 60, 2) := by decide +kernel
theorem dX2_readNumber_26 : decode cX2_readNumber 26 = .ok (.if_icmp .ge 55, 3) := by decide +kernel
theorem dX2_readNumber_29 : decode cX2_readNumber 29 = .ok (.aload_n 0, 1) := by decide +kernel
theorem dX2_readNumber_30 : decode cX2_readNumber 30 = .ok (.invokevirtual 63, 3) := by decide +kernel
theorem dX2_readNumber_33 : decode cX2_readNumber 33 = .ok (.istore 4, 2) := by decide +kernel
theorem dX2_readNumber_35 : decode cX2_readNumber 35 = .ok (.iload 4, 2) := by decide +kernel
theorem dX2_readNumber_37 : decode cX2_readNumber 37 = .ok (.ifCond .lt 18, 3) := by decide +kernel
theorem dX2_readNumber_40 : decode cX2_readNumber 40 = .ok (.iload_n 2, 1) := by decide +kernel
theorem dX2_readNumber_41 : decode cX2_readNumber 41 = .ok (.ifCond .eq 14, 3) := by decide +kernel
theorem dX2_readNumber_44 : decode cX2_readNumber 44 = .ok (.iload_n 2, 1) := by decide +kernel
theorem dX2_readNumber_45 : decode cX2_readNumber 45 = .ok (.bipush 10, 2) := by decide +kernel
theorem dX2_readNumber_47 : decode cX2_readNumber 47 = .ok (.imul, 1) := by decide +kernel
theorem dX2_readNumber_48 : decode cX2_readNumber 48 = .ok (.iload 4, 2) := by decide +kernel
theorem dX2_readNumber_50 : decode cX2_readNumber 50 = .ok (.iadd, 1) := by decide +kernel
theorem dX2_readNumber_51 : decode cX2_readNumber 51 = .ok (.iload_n 1, 1) := by decide +kernel
theorem dX2_readNumber_52 : decode cX2_readNumber 52 = .ok (.if_icmp .le 5, 3) := by decide +kernel
theorem dX2_readNumber_55 : decode cX2_readNumber 55 = .ok (.iload_n 2, 1) := by decide +kernel
theorem dX2_readNumber_56 : decode cX2_readNumber 56 = .ok (.ireturn, 1) := by decide +kernel
theorem dX2_readNumber_57 : decode cX2_readNumber 57 = .ok (.iload_n 2, 1) := by decide +kernel
theorem dX2_readNumber_58 : decode cX2_readNumber 58 = .ok (.bipush 10, 2) := by decide +kernel
theorem dX2_readNumber_60 : decode cX2_readNumber 60 = .ok (.imul, 1) := by decide +kernel
theorem dX2_readNumber_61 : decode cX2_readNumber 61 = .ok (.iload 4, 2) := by decide +kernel
theorem dX2_readNumber_63 : decode cX2_readNumber 63 = .ok (.iadd, 1) := by decide +kernel
theorem dX2_readNumber_64 : decode cX2_readNumber 64 = .ok (.istore_n 2, 1) := by decide +kernel
theorem dX2_readNumber_65 : decode cX2_readNumber 65 = .ok (.aload_n 0, 1) := by decide +kernel
theorem dX2_readNumber_66 : decode cX2_readNumber 66 = .ok (.dup, 1) := by decide +kernel
theorem dX2_readNumber_67 : decode cX2_readNumber 67 = .ok (.getfield 19, 3) := by decide +kernel
theorem dX2_readNumber_70 : decode cX2_readNumber 70 = .ok (.iconst 1, 1) := by decide +kernel
theorem dX2_readNumber_71 : decode cX2_readNumber 71 = .ok (.iadd, 1) := by decide +kernel
theorem dX2_readNumber_72 : decode cX2_readNumber 72 = .ok (.putfield 19, 3) := by decide +kernel
theorem dX2_readNumber_75 : decode cX2_readNumber 75 = .ok (.iinc 3 1, 3) := by decide +kernel
theorem dX2_readNumber_78 : decode cX2_readNumber 78 = .ok (.goto (-55), 3) := by decide +kernel
theorem dX2_readNumber_81 : decode cX2_readNumber 81 = .ok (.iload_n 2, 1) := by decide +kernel
theorem dX2_readNumber_82 : decode cX2_readNumber 82 = .ok (.ireturn, 1) := by decide +kernel
theorem dX2_accept_0 : decode cX2_accept 0 = .ok (.aload_n 0, 1) := by decide +kernel
theorem dX2_accept_1 : decode cX2_accept 1 = .ok (.invokevirtual 53, 3) := by decide +kernel
theorem dX2_accept_4 : decode cX2_accept 4 = .ok (.iload_n 1, 1) := by decide +kernel
theorem dX2_accept_5 : decode cX2_accept 5 = .ok (.if_icmp .eq 5, 3) := by decide +kernel
theorem dX2_accept_8 : decode cX2_accept 8 = .ok (.iconst 0, 1) := by decide +kernel
theorem dX2_accept_9 : decode cX2_accept 9 = .ok (.ireturn, 1) := by decide +kernel
theorem dX2_accept_10 : decode cX2_accept 10 = .ok (.aload_n 0, 1) := by decide +kernel
theorem dX2_accept_11 : decode cX2_accept 11 = .ok (.dup, 1) := by decide +kernel
theorem dX2_accept_12 : decode cX2_accept 12 = .ok (.getfield 19, 3) := by decide +kernel
theorem dX2_accept_15 : decode cX2_accept 15 = .ok (.iconst 1, 1) := by decide +kernel
theorem dX2_accept_16 : decode cX2_accept 16 = .ok (.iadd, 1) := by decide +kernel
theorem dX2_accept_17 : decode cX2_accept 17 = .ok (.putfield 19, 3) := by decide +kernel
theorem dX2_accept_20 : decode cX2_accept 20 = .ok (.iconst 1, 1) := by decide +kernel
theorem dX2_accept_21 : decode cX2_accept 21 = .ok (.ireturn, 1) := by decide +kernel
theorem dX2_digit_0 : decode cX2_digit 0 = .ok (.aload_n 0, 1) := by decide +kernel
theorem dX2_digit_1 : decode cX2_digit 1 = .ok (.invokevirtual 53, 3) := by decide +kernel
theorem dX2_digit_4 : decode cX2_digit 4 = .ok (.istore_n 1, 1) := by decide +kernel
theorem dX2_digit_5 : decode cX2_digit 5 = .ok (.iload_n 1, 1) := by decide +kernel
theorem dX2_digit_6 : decode cX2_digit 6 = .ok (.bipush 48, 2) := by decide +kernel
theorem dX2_digit_8 : decode cX2_digit 8 = .ok (.if_icmp .lt 16, 3) := by decide +kernel
theorem dX2_digit_11 : decode cX2_digit 11 = .ok (.iload_n 1, 1) := by decide +kernel
theorem dX2_digit_12 : decode cX2_digit 12 = .ok (.bipush 57, 2) := by decide +kernel
theorem dX2_digit_14 : decode cX2_digit 14 = .ok (.if_icmp .gt 10, 3) := by decide +kernel
theorem dX2_digit_17 : decode cX2_digit 17 = .ok (.iload_n 1, 1) := by decide +kernel
theorem dX2_digit_18 : decode cX2_digit 18 = .ok (.bipush 48, 2) := by decide +kernel
theorem dX2_digit_20 : decode cX2_digit 20 = .ok (.isub, 1) := by decide +kernel
theorem dX2_digit_21 : decode cX2_digit 21 = .ok (.goto 4, 3) := by decide +kernel
theorem dX2_digit_24 : decode cX2_digit 24 = .ok (.iconst (-1), 1) := by decide +kernel
theorem dX2_digit_25 : decode cX2_digit 25 = .ok (.ireturn, 1) := by decide +kernel
theorem dX2_sign_0 : decode cX2_sign 0 = .ok (.aload_n 0, 1) := by decide +kernel
theorem dX2_sign_1 : decode cX2_sign 1 = .ok (.getfield 19, 3) := by decide +kernel
theorem dX2_sign_4 : decode cX2_sign 4 = .ok (.ifCond .lt 35, 3) := by decide +kernel
theorem dX2_sign_7 : decode cX2_sign 7 = .ok (.aload_n 0, 1) := by decide +kernel
theorem dX2_sign_8 : decode cX2_sign 8 = .ok (.getfield 19, 3) := by decide +kernel
theorem dX2_sign_11 : decode cX2_sign 11 = .ok (.aload_n 0, 1) := by decide +kernel
theorem dX2_sign_12 : decode cX2_sign 12 = .ok (.getfield 15, 3) := by decide +kernel
theorem dX2_sign_15 : decode cX2_sign 15 = .ok (.if_icmp .ge 24, 3) := by decide +kernel
theorem dX2_sign_18 : decode cX2_sign 18 = .ok (.aload_n 0, 1) := by decide +kernel
theorem dX2_sign_19 : decode cX2_sign 19 = .ok (.getfield 19, 3) := by decide +kernel
theorem dX2_sign_22 : decode cX2_sign 22 = .ok (.bipush 60, 2) := by decide +kernel
theorem dX2_sign_24 : decode cX2_sign 24 = .ok (.if_icmp .ge 15, 3) := by decide +kernel
theorem dX2_sign_27 : decode cX2_sign 27 = .ok (.aload_n 0, 1) := by decide +kernel
theorem dX2_sign_28 : decode cX2_sign 28 = .ok (.getfield 9, 3) := by decide +kernel
theorem dX2_sign_31 : decode cX2_sign 31 = .ok (.aload_n 0, 1) := by decide +kernel
theorem dX2_sign_32 : decode cX2_sign 32 = .ok (.getfield 19, 3) := by decide +kernel
theorem dX2_sign_35 : decode cX2_sign 35 = .ok (.caload, 1) := by decide +kernel
theorem dX2_sign_36 : decode cX2_sign 36 = .ok (.goto 4, 3) := by decide +kernel
theorem dX2_sign_39 : decode cX2_sign 39 = .ok (.iconst 0, 1) := by decide +kernel
theorem dX2_sign_40 : decode cX2_sign 40 = .ok (.ireturn, 1) := by decide +kernel
theorem dX3_init_0 : decode cX3_init 0 = .ok (.aload_n 0, 1) := by decide +kernel
theorem dX3_init_1 : decode cX3_init 1 = .ok (.invokespecial 3, 3) := by decide +kernel
theorem dX3_init_4 : decode cX3_init 4 = .ok (.aload_n 0, 1) := by decide +kernel
theorem dX3_init_5 : decode cX3_init 5 = .ok (.getstatic 9, 3) := by decide +kernel
theorem dX3_init_8 : decode cX3_init 8 = .ok (.invokevirtual 13, 3) := by decide +kernel
theorem dX3_init_11 : decode cX3_init 11 = .ok (.checkcast 14, 3) := by decide +kernel
theorem dX3_init_14 : decode cX3_init 14 = .ok (.putfield 18, 3) := by decide +kernel
theorem dX3_init_17 : decode cX3_init 17 = .ok (.aload_n 0, 1) := by decide +kernel
theorem dX3_init_18 : decode cX3_init 18 = .ok (.iconst 2, 1) := by decide +kernel
theorem dX3_init_19 : decode cX3_init 19 = .ok (.newarray .int, 2) := by decide +kernel
theorem dX3_init_21 : decode cX3_init 21 = .ok (.putfield 23, 3) := by decide +kernel
theorem dX3_init_24 : decode cX3_init 24 = .ok (.aload_n 0, 1) := by decide +kernel
theorem dX3_init_25 : decode cX3_init 25 = .ok (.iconst 2, 1) := by decide +kernel
theorem dX3_init_26 : decode cX3_init 26 = .ok (.newarray .int, 2) := by decide +kernel
theorem dX3_init_28 : decode cX3_init 28 = .ok (.putfield 26, 3) := by decide +kernel
theorem dX3_init_31 : decode cX3_init 31 = .ok (.aload_n 0, 1) := by decide +kernel
theorem dX3_init_32 : decode cX3_init 32 = .ok (.iconst 2, 1) := by decide +kernel
theorem dX3_init_33 : decode cX3_init 33 = .ok (.newarray .int, 2) := by decide +kernel
theorem dX3_init_35 : decode cX3_init 35 = .ok (.putfield 29, 3) := by decide +kernel
theorem dX3_init_38 : decode cX3_init 38 = .ok (.aload_n 0, 1) := by decide +kernel
theorem dX3_init_39 : decode cX3_init 39 = .ok (.iconst 0, 1) := by decide +kernel
theorem dX3_init_40 : decode cX3_init 40 = .ok (.putfield 32, 3) := by decide +kernel
theorem dX3_init_43 : decode cX3_init 43 = .ok (.aload_n 0, 1) := by decide +kernel
theorem dX3_init_44 : decode cX3_init 44 = .ok (.iconst 0, 1) := by decide +kernel
theorem dX3_init_45 : decode cX3_init 45 = .ok (.putfield 36, 3) := by decide +kernel
theorem dX3_init_48 : decode cX3_init 48 = .ok (.aload_n 0, 1) := by decide +kernel
theorem dX3_init_49 : decode cX3_init 49 = .ok (.iconst 0, 1) := by decide +kernel
theorem dX3_init_50 : decode cX3_init 50 = .ok (.putfield 39, 3) := by decide +kernel
theorem dX3_init_53 : decode cX3_init 53 = .ok (.aload_n 0, 1) := by decide +kernel
theorem dX3_init_54 : decode cX3_init 54 = .ok (.iconst 0, 1) := by decide +kernel
theorem dX3_init_55 : decode cX3_init 55 = .ok (.putfield 43, 3) := by decide +kernel
theorem dX3_init_58 : decode cX3_init 58 = .ok (.aload_n 0, 1) := by decide +kernel
theorem dX3_init_59 : decode cX3_init 59 = .ok (.iconst 0, 1) := by decide +kernel
theorem dX3_init_60 : decode cX3_init 60 = .ok (.putfield 46, 3) := by decide +kernel
theorem dX3_init_63 : decode cX3_init 63 = .ok (.aload_n 0, 1) := by decide +kernel
theorem dX3_init_64 : decode cX3_init 64 = .ok (.iconst 0, 1) := by decide +kernel
theorem dX3_init_65 : decode cX3_init 65 = .ok (.putfield 49, 3) := by decide +kernel
theorem dX3_init_68 : decode cX3_init 68 = .ok (.aload_n 0, 1) := by decide +kernel
theorem dX3_init_69 : decode cX3_init 69 = .ok (.iconst 0, 1) := by decide +kernel
theorem dX3_init_70 : decode cX3_init 70 = .ok (.putfield 52, 3) := by decide +kernel
theorem dX3_init_73 : decode cX3_init 73 = .ok (.aload_n 0, 1) := by decide +kernel
theorem dX3_init_74 : decode cX3_init 74 = .ok (.iconst 0, 1) := by decide +kernel
theorem dX3_init_75 : decode cX3_init 75 = .ok (.putfield 55, 3) := by decide +kernel
theorem dX3_init_78 : decode cX3_init 78 = .ok (.aload_n 0, 1) := by decide +kernel
theorem dX3_init_79 : decode cX3_init 79 = .ok (.iconst 0, 1) := by decide +kernel
theorem dX3_init_80 : decode cX3_init 80 = .ok (.putfield 58, 3) := by decide +kernel
theorem dX3_init_83 : decode cX3_init 83 = .ok (.aload_n 0, 1) := by decide +kernel
theorem dX3_init_84 : decode cX3_init 84 = .ok (.iconst 0, 1) := by decide +kernel
theorem dX3_init_85 : decode cX3_init 85 = .ok (.putfield 61, 3) := by decide +kernel
theorem dX3_init_88 : decode cX3_init 88 = .ok (.aload_n 0, 1) := by decide +kernel
theorem dX3_init_89 : decode cX3_init 89 = .ok (.iconst 0, 1) := by decide +kernel
theorem dX3_init_90 : decode cX3_init 90 = .ok (.putfield 64, 3) := by decide +kernel
theorem dX3_init_93 : decode cX3_init 93 = .ok (.aload_n 0, 1) := by decide +kernel
theorem dX3_init_94 : decode cX3_init 94 = .ok (.iconst 0, 1) := by decide +kernel
theorem dX3_init_95 : decode cX3_init 95 = .ok (.putfield 67, 3) := by decide +kernel
theorem dX3_init_98 : decode cX3_init 98 = .ok (.return_, 1) := by decide +kernel
theorem dX3_becomeNew_0 : decode cX3_becomeNew 0 = .ok (.getstatic 9, 3) := by decide +kernel
theorem dX3_becomeNew_3 : decode cX3_becomeNew 3 = .ok (.iconst 0, 1) := by decide +kernel
theorem dX3_becomeNew_4 : decode cX3_becomeNew 4 = .ok (.aload_n 0, 1) := by decide +kernel
theorem dX3_becomeNew_5 : decode cX3_becomeNew 5 = .ok (.getfield 18, 3) := by decide +kernel
theorem dX3_becomeNew_8 : decode cX3_becomeNew 8 = .ok (.iconst 0, 1) := by decide +kernel
theorem dX3_becomeNew_9 : decode cX3_becomeNew 9 = .ok (.bipush 8, 2) := by decide +kernel
theorem dX3_becomeNew_11 : decode cX3_becomeNew 11 = .ok (.invokestatic 70, 3) := by decide +kernel
theorem dX3_becomeNew_14 : decode cX3_becomeNew 14 = .ok (.aload_n 0, 1) := by decide +kernel
theorem dX3_becomeNew_15 : decode cX3_becomeNew 15 = .ok (.getfield 18, 3) := by decide +kernel
theorem dX3_becomeNew_18 : decode cX3_becomeNew 18 = .ok (.iconst 0, 1) := by decide +kernel
theorem dX3_becomeNew_19 : decode cX3_becomeNew 19 = .ok (.iload_n 1, 1) := by decide +kernel
theorem dX3_becomeNew_20 : decode cX3_becomeNew 20 = .ok (.iastore, 1) := by decide +kernel
theorem dX3_becomeNew_21 : decode cX3_becomeNew 21 = .ok (.aload_n 0, 1) := by decide +kernel
theorem dX3_becomeNew_22 : decode cX3_becomeNew 22 = .ok (.getfield 18, 3) := by decide +kernel
theorem dX3_becomeNew_25 : decode cX3_becomeNew 25 = .ok (.iconst 1, 1) := by decide +kernel
theorem dX3_becomeNew_26 : decode cX3_becomeNew 26 = .ok (.iload_n 2, 1) := by decide +kernel
theorem dX3_becomeNew_27 : decode cX3_becomeNew 27 = .ok (.iastore, 1) := by decide +kernel
theorem dX3_becomeNew_28 : decode cX3_becomeNew 28 = .ok (.iconst 0, 1) := by decide +kernel
theorem dX3_becomeNew_29 : decode cX3_becomeNew 29 = .ok (.istore_n 3, 1) := by decide +kernel
theorem dX3_becomeNew_30 : decode cX3_becomeNew 30 = .ok (.iload_n 3, 1) := by decide +kernel
theorem dX3_becomeNew_31 : decode cX3_becomeNew 31 = .ok (.iconst 2, 1) := by decide +kernel
theorem dX3_becomeNew_32 : decode cX3_becomeNew 32 = .ok (.if_icmp .ge 17, 3) := by decide +kernel
theorem dX3_becomeNew_35 : decode cX3_becomeNew 35 = .ok (.aload_n 0, 1) := by decide +kernel
theorem dX3_becomeNew_36 : decode cX3_becomeNew 36 = .ok (.iload_n 3, 1) := by decide +kernel
theorem dX3_becomeNew_37 : decode cX3_becomeNew 37 = .ok (.iconst 0, 1) := by decide +kernel
theorem dX3_becomeNew_38 : decode cX3_becomeNew 38 = .ok (.iconst 0, 1) := by decide +kernel
theorem dX3_becomeNew_39 : decode cX3_becomeNew 39 = .ok (.iconst 0, 1) := by decide +kernel
theorem dX3_becomeNew_40 : decode cX3_becomeNew 40 = .ok (.invokevirtual 76, 3) := by decide +kernel
theorem dX3_becomeNew_43 : decode cX3_becomeNew 43 = .ok (.iinc 3 1, 3) := by decide +kernel
theorem dX3_becomeNew_46 : decode cX3_becomeNew 46 = .ok (.goto (-16), 3) := by decide +kernel
theorem dX3_becomeNew_49 : decode cX3_becomeNew 49 = .ok (.aload_n 0, 1) := by decide +kernel
theorem dX3_becomeNew_50 : decode cX3_becomeNew 50 = .ok (.invokevirtual 80, 3) := by decide +kernel
theorem dX3_becomeNew_53 : decode cX3_becomeNew 53 = .ok (.aload_n 0, 1) := by decide +kernel
theorem dX3_becomeNew_54 : decode cX3_becomeNew 54 = .ok (.invokevirtual 83, 3) := by decide +kernel
theorem dX3_becomeNew_57 : decode cX3_becomeNew 57 = .ok (.return_, 1) := by decide +kernel
theorem dX3_become_0 : decode cX3_become 0 = .ok (.aload_n 1, 1) := by decide +kernel
theorem dX3_become_1 : decode cX3_become 1 = .ok (.getfield 18, 3) := by decide +kernel
theorem dX3_become_4 : decode cX3_become 4 = .ok (.iconst 0, 1) := by decide +kernel
theorem dX3_become_5 : decode cX3_become 5 = .ok (.aload_n 0, 1) := by decide +kernel
theorem dX3_become_6 : decode cX3_become 6 = .ok (.getfield 18, 3) := by decide +kernel
theorem dX3_become_9 : decode cX3_become 9 = .ok (.iconst 0, 1) := by decide +kernel
theorem dX3_become_10 : decode cX3_become 10 = .ok (.bipush 8, 2) := by decide +kernel
theorem dX3_become_12 : decode cX3_become 12 = .ok (.invokestatic 70, 3) := by decide +kernel
theorem dX3_become_15 : decode cX3_become 15 = .ok (.aload_n 1, 1) := by decide +kernel
theorem dX3_become_16 : decode cX3_become 16 = .ok (.getfield 23, 3) := by decide +kernel
theorem dX3_become_19 : decode cX3_become 19 = .ok (.iconst 0, 1) := by decide +kernel
theorem dX3_become_20 : decode cX3_become 20 = .ok (.aload_n 0, 1) := by decide +kernel
theorem dX3_become_21 : decode cX3_become 21 = .ok (.getfield 23, 3) := by decide +kernel
theorem dX3_become_24 : decode cX3_become 24 = .ok (.iconst 0, 1) := by decide +kernel
theorem dX3_become_25 : decode cX3_become 25 = .ok (.iconst 2, 1) := by decide +kernel
theorem dX3_become_26 : decode cX3_become 26 = .ok (.invokestatic 70, 3) := by decide +kernel
theorem dX3_become_29 : decode cX3_become 29 = .ok (.aload_n 1, 1) := by decide +kernel
theorem dX3_become_30 : decode cX3_become 30 = .ok (.getfield 26, 3) := by decide +kernel
theorem dX3_become_33 : decode cX3_become 33 = .ok (.iconst 0, 1) := by decide +kernel
theorem dX3_become_34 : decode cX3_become 34 = .ok (.aload_n 0, 1) := by decide +kernel
theorem dX3_become_35 : decode cX3_become 35 = .ok (.getfield 26, 3) := by decide +kernel
theorem dX3_become_38 : decode cX3_become 38 = .ok (.iconst 0, 1) := by decide +kernel
theorem dX3_become_39 : decode cX3_become 39 = .ok (.iconst 2, 1) := by decide +kernel
theorem dX3_become_40 : decode cX3_become 40 = .ok (.invokestatic 70, 3) := by decide +kernel
theorem dX3_become_43 : decode cX3_become 43 = .ok (.aload_n 1, 1) := by decide +kernel
theorem dX3_become_44 : decode cX3_become 44 = .ok (.getfield 29, 3) := by decide +kernel
theorem dX3_become_47 : decode cX3_become 47 = .ok (.iconst 0, 1) := by decide +kernel
theorem dX3_become_48 : decode cX3_become 48 = .ok (.aload_n 0, 1) := by decide +kernel
theorem dX3_become_49 : decode cX3_become 49 = .ok (.getfield 29, 3) := by decide +kernel
theorem dX3_become_52 : decode cX3_become 52 = .ok (.iconst 0, 1) := by decide +kernel
theorem dX3_become_53 : decode cX3_become 53 = .ok (.iconst 2, 1) := by decide +kernel
theorem dX3_become_54 : decode cX3_become 54 = .ok (.invokestatic 70, 3) := by decide +kernel
theorem dX3_become_57 : decode cX3_become 57 = .ok (.aload_n 0, 1) := by decide +kernel
theorem dX3_become_58 : decode cX3_become 58 = .ok (.aload_n 1, 1) := by decide +kernel
theorem dX3_become_59 : decode cX3_become 59 = .ok (.getfield 32, 3) := by decide +kernel
theorem dX3_become_62 : decode cX3_become 62 = .ok (.putfield 32, 3) := by decide +kernel
theorem dX3_become_65 : decode cX3_become 65 = .ok (.aload_n 0, 1) := by decide +kernel
theorem dX3_become_66 : decode cX3_become 66 = .ok (.aload_n 1, 1) := by decide +kernel
theorem dX3_become_67 : decode cX3_become 67 = .ok (.getfield 36, 3) := by decide +kernel
theorem dX3_become_70 : decode cX3_become 70 = .ok (.putfield 36, 3) := by decide +kernel
theorem dX3_become_73 : decode cX3_become 73 = .ok (.aload_n 0, 1) := by decide +kernel
theorem dX3_become_74 : decode cX3_become 74 = .ok (.aload_n 1, 1) := by decide +kernel
theorem dX3_become_75 : decode cX3_become 75 = .ok (.getfield 39, 3) := by decide +kernel
theorem dX3_become_78 : decode cX3_become 78 = .ok (.putfield 39, 3) := by decide +kernel
theorem dX3_become_81 : decode cX3_become 81 = .ok (.aload_n 0, 1) := by decide +kernel
theorem dX3_become_82 : decode cX3_become 82 = .ok (.aload_n 1, 1) := by decide +kernel
theorem dX3_become_83 : decode cX3_become 83 = .ok (.getfield 43, 3) := by decide +kernel
theorem dX3_become_86 : decode cX3_become 86 = .ok (.putfield 43, 3) := by decide +kernel
theorem dX3_become_89 : decode cX3_become 89 = .ok (.aload_n 0, 1) := by decide +kernel
theorem dX3_become_90 : decode cX3_become 90 = .ok (.aload_n 1, 1) := by decide +kernel
theorem dX3_become_91 : decode cX3_become 91 = .ok (.getfield 46, 3) := by decide +kernel
theorem dX3_become_94 : decode cX3_become 94 = .ok (.putfield 46, 3) := by decide +kernel
theorem dX3_become_97 : decode cX3_become 97 = .ok (.aload_n 0, 1) := by decide +kernel
theorem dX3_become_98 : decode cX3_become 98 = .ok (.aload_n 1, 1) := by decide +kernel
theorem dX3_become_99 : decode cX3_become 99 = .ok (.getfield 49, 3) := by decide +kernel
theorem dX3_become_102 : decode cX3_become 102 = .ok (.putfield 49, 3) := by decide +kernel
theorem dX3_become_105 : decode cX3_become 105 = .ok (.aload_n 0, 1) := by decide +kernel
theorem dX3_become_106 : decode cX3_become 106 = .ok (.aload_n 1, 1) := by decide +kernel
theorem dX3_become_107 : decode cX3_become 107 = .ok (.getfield 52, 3) := by decide +kernel
theorem dX3_become_110 : decode cX3_become 110 = .ok (.putfield 52, 3) := by decide +kernel
theorem dX3_become_113 : decode cX3_become 113 = .ok (.aload_n 0, 1) := by decide +kernel
theorem dX3_become_114 : decode cX3_become 114 = .ok (.aload_n 1, 1) := by decide +kernel
theorem dX3_become_115 : decode cX3_become 115 = .ok (.getfield 55, 3) := by decide +kernel
theorem dX3_become_118 : decode cX3_become 118 = .ok (.putfield 55, 3) := by decide +kernel
theorem dX3_become_121 : decode cX3_become 121 = .ok (.aload_n 0, 1) := by decide +kernel
theorem dX3_become_122 : decode cX3_become 122 = .ok (.aload_n 1, 1) := by decide +kernel
theorem dX3_become_123 : decode cX3_become 123 = .ok (.getfield 58, 3) := by decide +kernel
theorem dX3_become_126 : decode cX3_become 126 = .ok (.putfield 58, 3) := by decide +kernel
theorem dX3_become_129 : decode cX3_become 129 = .ok (.aload_n 0, 1) := by decide +kernel
theorem dX3_become_130 : decode cX3_become 130 = .ok (.aload_n 1, 1) := by decide +kernel
theorem dX3_become_131 : decode cX3_become 131 = .ok (.getfield 61, 3) := by decide +kernel
theorem dX3_become_134 : decode cX3_become 134 = .ok (.putfield 61, 3) := by decide +kernel
theorem dX3_become_137 : decode cX3_become 137 = .ok (.aload_n 0, 1) := by decide +kernel
theorem dX3_become_138 : decode cX3_become 138 = .ok (.aload_n 1, 1) := by decide +kernel
theorem dX3_become_139 : decode cX3_become 139 = .ok (.getfield 64, 3) := by decide +kernel
theorem dX3_become_142 : decode cX3_become 142 = .ok (.putfield 64, 3) := by decide +kernel
theorem dX3_become_145 : decode cX3_become 145 = .ok (.aload_n 0, 1) := by decide +kernel
theorem dX3_become_146 : decode cX3_become 146 = .ok (.aload_n 1, 1) := by decide +kernel
theorem dX3_become_147 : decode cX3_become 147 = .ok (.getfield 67, 3) := by decide +kernel
theorem dX3_become_150 : decode cX3_become 150 = .ok (.putfield 67, 3) := by decide +kernel
theorem dX3_become_153 : decode cX3_become 153 = .ok (.return_, 1) := by decide +kernel
theorem dX3_takeFault_0 : decode cX3_takeFault 0 = .ok (.iload_n 1, 1) := by decide +kernel
theorem dX3_takeFault_1 : decode cX3_takeFault 1 = .ok (.ifCond .lt 8, 3) := by decide +kernel
theorem dX3_takeFault_4 : decode cX3_takeFault 4 = .ok (.iload_n 1, 1) := by decide +kernel
theorem dX3_takeFault_5 : decode cX3_takeFault 5 = .ok (.iconst 2, 1) := by decide +kernel
theorem dX3_takeFault_6 : decode cX3_takeFault 6 = .ok (.if_icmp .lt 4, 3) := by decide +kernel
theorem dX3_takeFault_9 : decode cX3_takeFault 9 = .ok (.return_, 1) := by decide +kernel
theorem dX3_takeFault_10 : decode cX3_takeFault 10 = .ok (.aload_n 0, 1) := by decide +kernel
theorem dX3_takeFault_11 : decode cX3_takeFault 11 = .ok (.getfield 23, 3) := by decide +kernel
theorem dX3_takeFault_14 : decode cX3_takeFault 14 = .ok (.iload_n 1, 1) := by decide +kernel
theorem dX3_takeFault_15 : decode cX3_takeFault 15 = .ok (.iload_n 2, 1) := by decide +kernel
theorem dX3_takeFault_16 : decode cX3_takeFault 16 = .ok (.iastore, 1) := by decide +kernel
theorem dX3_takeFault_17 : decode cX3_takeFault 17 = .ok (.aload_n 0, 1) := by decide +kernel
theorem dX3_takeFault_18 : decode cX3_takeFault 18 = .ok (.getfield 26, 3) := by decide +kernel
theorem dX3_takeFault_21 : decode cX3_takeFault 21 = .ok (.iload_n 1, 1) := by decide +kernel
theorem dX3_takeFault_22 : decode cX3_takeFault 22 = .ok (.iload_n 3, 1) := by decide +kernel
theorem dX3_takeFault_23 : decode cX3_takeFault 23 = .ok (.iastore, 1) := by decide +kernel
theorem dX3_takeFault_24 : decode cX3_takeFault 24 = .ok (.aload_n 0, 1) := by decide +kernel
theorem dX3_takeFault_25 : decode cX3_takeFault 25 = .ok (.getfield 29, 3) := by decide +kernel
theorem dX3_takeFault_28 : decode cX3_takeFault 28 = .ok (.iload_n 1, 1) := by decide +kernel
theorem dX3_takeFault_29 : decode cX3_takeFault 29 = .ok (.iload 4, 2) := by decide +kernel
theorem dX3_takeFault_31 : decode cX3_takeFault 31 = .ok (.iastore, 1) := by decide +kernel
theorem dX3_takeFault_32 : decode cX3_takeFault 32 = .ok (.return_, 1) := by decide +kernel
theorem dX3_beginRun_0 : decode cX3_beginRun 0 = .ok (.aload_n 0, 1) := by decide +kernel
theorem dX3_beginRun_1 : decode cX3_beginRun 1 = .ok (.iconst 0, 1) := by decide +kernel
theorem dX3_beginRun_2 : decode cX3_beginRun 2 = .ok (.putfield 32, 3) := by decide +kernel
theorem dX3_beginRun_5 : decode cX3_beginRun 5 = .ok (.aload_n 0, 1) := by decide +kernel
theorem dX3_beginRun_6 : decode cX3_beginRun 6 = .ok (.iconst 0, 1) := by decide +kernel
theorem dX3_beginRun_7 : decode cX3_beginRun 7 = .ok (.putfield 46, 3) := by decide +kernel
theorem dX3_beginRun_10 : decode cX3_beginRun 10 = .ok (.aload_n 0, 1) := by decide +kernel
theorem dX3_beginRun_11 : decode cX3_beginRun 11 = .ok (.iconst 0, 1) := by decide +kernel
theorem dX3_beginRun_12 : decode cX3_beginRun 12 = .ok (.putfield 49, 3) := by decide +kernel
theorem dX3_beginRun_15 : decode cX3_beginRun 15 = .ok (.aload_n 0, 1) := by decide +kernel
theorem dX3_beginRun_16 : decode cX3_beginRun 16 = .ok (.iconst 0, 1) := by decide +kernel
theorem dX3_beginRun_17 : decode cX3_beginRun 17 = .ok (.putfield 52, 3) := by decide +kernel
theorem dX3_beginRun_20 : decode cX3_beginRun 20 = .ok (.aload_n 0, 1) := by decide +kernel
theorem dX3_beginRun_21 : decode cX3_beginRun 21 = .ok (.iconst 0, 1) := by decide +kernel
theorem dX3_beginRun_22 : decode cX3_beginRun 22 = .ok (.putfield 55, 3) := by decide +kernel
theorem dX3_beginRun_25 : decode cX3_beginRun 25 = .ok (.return_, 1) := by decide +kernel
theorem dX3_clearDiagnostic_0 : decode cX3_clearDiagnostic 0 = .ok (.aload_n 0, 1) := by decide +kernel
theorem dX3_clearDiagnostic_1 : decode cX3_clearDiagnostic 1 = .ok (.iconst 0, 1) := by decide +kernel
theorem dX3_clearDiagnostic_2 : decode cX3_clearDiagnostic 2 = .ok (.putfield 58, 3) := by decide +kernel
theorem dX3_clearDiagnostic_5 : decode cX3_clearDiagnostic 5 = .ok (.aload_n 0, 1) := by decide +kernel
theorem dX3_clearDiagnostic_6 : decode cX3_clearDiagnostic 6 = .ok (.iconst 0, 1) := by decide +kernel
theorem dX3_clearDiagnostic_7 : decode cX3_clearDiagnostic 7 = .ok (.putfield 61, 3) := by decide +kernel
theorem dX3_clearDiagnostic_10 : decode cX3_clearDiagnostic 10 = .ok (.aload_n 0, 1) := by decide +kernel
theorem dX3_clearDiagnostic_11 : decode cX3_clearDiagnostic 11 = .ok (.iconst 0, 1) := by decide +kernel
theorem dX3_clearDiagnostic_12 : decode cX3_clearDiagnostic 12 = .ok (.putfield 67, 3) := by decide +kernel
theorem dX3_clearDiagnostic_15 : decode cX3_clearDiagnostic 15 = .ok (.return_, 1) := by decide +kernel
theorem dX3_momentary_0 : decode cX3_momentary 0 = .ok (.iload_n 1, 1) := by decide +kernel
theorem dX3_momentary_1 : decode cX3_momentary 1 = .ok (.tableswitch 94 8 12 #[35, 48, 71, 76, 81], 35) := by decide +kernel
theorem dX3_momentary_36 : decode cX3_momentary 36 = .ok (.aload_n 0, 1) := by decide +kernel
theorem dX3_momentary_37 : decode cX3_momentary 37 = .ok (.getfield 32, 3) := by decide +kernel
theorem dX3_momentary_40 : decode cX3_momentary 40 = .ok (.ifCond .eq 7, 3) := by decide +kernel
theorem dX3_momentary_43 : decode cX3_momentary 43 = .ok (.iconst 1, 1) := by decide +kernel
theorem dX3_momentary_44 : decode cX3_momentary 44 = .ok (.goto 4, 3) := by decide +kernel
theorem dX3_momentary_47 : decode cX3_momentary 47 = .ok (.iconst 0, 1) := by decide +kernel
theorem dX3_momentary_48 : decode cX3_momentary 48 = .ok (.ireturn, 1) := by decide +kernel
theorem dX3_momentary_49 : decode cX3_momentary 49 = .ok (.aload_n 0, 1) := by decide +kernel
theorem dX3_momentary_50 : decode cX3_momentary 50 = .ok (.getfield 32, 3) := by decide +kernel
theorem dX3_momentary_53 : decode cX3_momentary 53 = .ok (.ifCond .eq 17, 3) := by decide +kernel
theorem dX3_momentary_56 : decode cX3_momentary 56 = .ok (.aload_n 0, 1) := by decide +kernel
theorem dX3_momentary_57 : decode cX3_momentary 57 = .ok (.getfield 36, 3) := by decide +kernel
theorem dX3_momentary_60 : decode cX3_momentary 60 = .ok (.ifCond .ne 10, 3) := by decide +kernel
theorem dX3_momentary_63 : decode cX3_momentary 63 = .ok (.aload_n 0, 1) := by decide +kernel
theorem dX3_momentary_64 : decode cX3_momentary 64 = .ok (.getfield 43, 3) := by decide +kernel
theorem dX3_momentary_67 : decode cX3_momentary 67 = .ok (.goto 4, 3) := by decide +kernel
theorem dX3_momentary_70 : decode cX3_momentary 70 = .ok (.iconst 0, 1) := by decide +kernel
theorem dX3_momentary_71 : decode cX3_momentary 71 = .ok (.ireturn, 1) := by decide +kernel
theorem dX3_momentary_72 : decode cX3_momentary 72 = .ok (.aload_n 0, 1) := by decide +kernel
theorem dX3_momentary_73 : decode cX3_momentary 73 = .ok (.getfield 46, 3) := by decide +kernel
theorem dX3_momentary_76 : decode cX3_momentary 76 = .ok (.ireturn, 1) := by decide +kernel
theorem dX3_momentary_77 : decode cX3_momentary 77 = .ok (.aload_n 0, 1) := by decide +kernel
theorem dX3_momentary_78 : decode cX3_momentary 78 = .ok (.getfield 49, 3) := by decide +kernel
theorem dX3_momentary_81 : decode cX3_momentary 81 = .ok (.ireturn, 1) := by decide +kernel
theorem dX3_momentary_82 : decode cX3_momentary 82 = .ok (.aload_n 0, 1) := by decide +kernel
theorem dX3_momentary_83 : decode cX3_momentary 83 = .ok (.getfield 52, 3) := by decide +kernel
theorem dX3_momentary_86 : decode cX3_momentary 86 = .ok (.ifCond .eq 7, 3) := by decide +kernel
theorem dX3_momentary_89 : decode cX3_momentary 89 = .ok (.iconst 1, 1) := by decide +kernel
theorem dX3_momentary_90 : decode cX3_momentary 90 = .ok (.goto 4, 3) := by decide +kernel
theorem dX3_momentary_93 : decode cX3_momentary 93 = .ok (.iconst 0, 1) := by decide +kernel
theorem dX3_momentary_94 : decode cX3_momentary 94 = .ok (.ireturn, 1) := by decide +kernel
theorem dX3_momentary_95 : decode cX3_momentary 95 = .ok (.aload_n 0, 1) := by decide +kernel
theorem dX3_momentary_96 : decode cX3_momentary 96 = .ok (.getfield 55, 3) := by decide +kernel
theorem dX3_momentary_99 : decode cX3_momentary 99 = .ok (.ifCond .eq 7, 3) := by decide +kernel
theorem dX3_momentary_102 : decode cX3_momentary 102 = .ok (.iconst 1, 1) := by decide +kernel
theorem dX3_momentary_103 : decode cX3_momentary 103 = .ok (.goto 4, 3) := by decide +kernel
theorem dX3_momentary_106 : decode cX3_momentary 106 = .ok (.iconst 0, 1) := by decide +kernel
theorem dX3_momentary_107 : decode cX3_momentary 107 = .ok (.ireturn, 1) := by decide +kernel
theorem dX3_crashesInTick_0 : decode cX3_crashesInTick 0 = .ok (.aload_n 0, 1) := by decide +kernel
theorem dX3_crashesInTick_1 : decode cX3_crashesInTick 1 = .ok (.getfield 32, 3) := by decide +kernel
theorem dX3_crashesInTick_4 : decode cX3_crashesInTick 4 = .ok (.ifCond .eq 36, 3) := by decide +kernel
theorem dX3_crashesInTick_7 : decode cX3_crashesInTick 7 = .ok (.aload_n 0, 1) := by decide +kernel
theorem dX3_crashesInTick_8 : decode cX3_crashesInTick 8 = .ok (.getfield 36, 3) := by decide +kernel
theorem dX3_crashesInTick_11 : decode cX3_crashesInTick 11 = .ok (.ifCond .ne 29, 3) := by decide +kernel
theorem dX3_crashesInTick_14 : decode cX3_crashesInTick 14 = .ok (.aload_n 0, 1) := by decide +kernel
theorem dX3_crashesInTick_15 : decode cX3_crashesInTick 15 = .ok (.dup, 1) := by decide +kernel
theorem dX3_crashesInTick_16 : decode cX3_crashesInTick 16 = .ok (.getfield 43, 3) := by decide +kernel
theorem dX3_crashesInTick_19 : decode cX3_crashesInTick 19 = .ok (.iconst 1, 1) := by decide +kernel
theorem dX3_crashesInTick_20 : decode cX3_crashesInTick 20 = .ok (.isub, 1) := by decide +kernel
theorem dX3_crashesInTick_21 : decode cX3_crashesInTick 21 = .ok (.putfield 43, 3) := by decide +kernel
theorem dX3_crashesInTick_24 : decode cX3_crashesInTick 24 = .ok (.aload_n 0, 1) := by decide +kernel
theorem dX3_crashesInTick_25 : decode cX3_crashesInTick 25 = .ok (.aload_n 0, 1) := by decide +kernel
theorem dX3_crashesInTick_26 : decode cX3_crashesInTick 26 = .ok (.getfield 43, 3) := by decide +kernel
theorem dX3_crashesInTick_29 : decode cX3_crashesInTick 29 = .ok (.ifCond .le 7, 3) := by decide +kernel
theorem dX3_crashesInTick_32 : decode cX3_crashesInTick 32 = .ok (.iconst 1, 1) := by decide +kernel
theorem dX3_crashesInTick_33 : decode cX3_crashesInTick 33 = .ok (.goto 4, 3) := by decide +kernel
theorem dX3_crashesInTick_36 : decode cX3_crashesInTick 36 = .ok (.iconst 0, 1) := by decide +kernel
theorem dX3_crashesInTick_37 : decode cX3_crashesInTick 37 = .ok (.putfield 32, 3) := by decide +kernel
theorem dX3_crashesInTick_40 : decode cX3_crashesInTick 40 = .ok (.aload_n 0, 1) := by decide +kernel
theorem dX3_crashesInTick_41 : decode cX3_crashesInTick 41 = .ok (.getfield 32, 3) := by decide +kernel
theorem dX3_crashesInTick_44 : decode cX3_crashesInTick 44 = .ok (.ifCond .ne 34, 3) := by decide +kernel
theorem dX3_crashesInTick_47 : decode cX3_crashesInTick 47 = .ok (.aload_n 0, 1) := by decide +kernel
theorem dX3_crashesInTick_48 : decode cX3_crashesInTick 48 = .ok (.getfield 18, 3) := by decide +kernel
theorem dX3_crashesInTick_51 : decode cX3_crashesInTick 51 = .ok (.iconst 0, 1) := by decide +kernel
theorem dX3_crashesInTick_52 : decode cX3_crashesInTick 52 = .ok (.iaload, 1) := by decide +kernel
theorem dX3_crashesInTick_53 : decode cX3_crashesInTick 53 = .ok (.iload_n 1, 1) := by decide +kernel
theorem dX3_crashesInTick_54 : decode cX3_crashesInTick 54 = .ok (.aload_n 0, 1) := by decide +kernel
theorem dX3_crashesInTick_55 : decode cX3_crashesInTick 55 = .ok (.getfield 18, 3) := by decide +kernel
theorem dX3_crashesInTick_58 : decode cX3_crashesInTick 58 = .ok (.iconst 2, 1) := by decide +kernel
theorem dX3_crashesInTick_59 : decode cX3_crashesInTick 59 = .ok (.iaload, 1) := by decide +kernel
theorem dX3_crashesInTick_60 : decode cX3_crashesInTick 60 = .ok (.isub, 1) := by decide +kernel
theorem dX3_crashesInTick_61 : decode cX3_crashesInTick 61 = .ok (.invokestatic 86, 3) := by decide +kernel
theorem dX3_crashesInTick_64 : decode cX3_crashesInTick 64 = .ok (.ifCond .eq 14, 3) := by decide +kernel
theorem dX3_crashesInTick_67 : decode cX3_crashesInTick 67 = .ok (.aload_n 0, 1) := by decide +kernel
theorem dX3_crashesInTick_68 : decode cX3_crashesInTick 68 = .ok (.iload_n 1, 1) := by decide +kernel
theorem dX3_crashesInTick_69 : decode cX3_crashesInTick 69 = .ok (.iload_n 2, 1) := by decide +kernel
theorem dX3_crashesInTick_70 : decode cX3_crashesInTick 70 = .ok (.invokevirtual 90, 3) := by decide +kernel
theorem dX3_crashesInTick_73 : decode cX3_crashesInTick 73 = .ok (.ifCond .eq 5, 3) := by decide +kernel
theorem dX3_crashesInTick_76 : decode cX3_crashesInTick 76 = .ok (.iconst 1, 1) := by decide +kernel
theorem dX3_crashesInTick_77 : decode cX3_crashesInTick 77 = .ok (.ireturn, 1) := by decide +kernel
theorem dX3_crashesInTick_78 : decode cX3_crashesInTick 78 = .ok (.aload_n 0, 1) := by decide +kernel
theorem dX3_crashesInTick_79 : decode cX3_crashesInTick 79 = .ok (.getfield 32, 3) := by decide +kernel
theorem dX3_crashesInTick_82 : decode cX3_crashesInTick 82 = .ok (.ifCond .eq 34, 3) := by decide +kernel
theorem dX3_crashesInTick_85 : decode cX3_crashesInTick 85 = .ok (.aload_n 0, 1) := by decide +kernel
theorem dX3_crashesInTick_86 : decode cX3_crashesInTick 86 = .ok (.getfield 18, 3) := by decide +kernel
theorem dX3_crashesInTick_89 : decode cX3_crashesInTick 89 = .ok (.bipush 7, 2) := by decide +kernel
theorem dX3_crashesInTick_91 : decode cX3_crashesInTick 91 = .ok (.iaload, 1) := by decide +kernel
theorem dX3_crashesInTick_92 : decode cX3_crashesInTick 92 = .ok (.ifCond .eq 24, 3) := by decide +kernel
theorem dX3_crashesInTick_95 : decode cX3_crashesInTick 95 = .ok (.iload_n 1, 1) := by decide +kernel
theorem dX3_crashesInTick_96 : decode cX3_crashesInTick 96 = .ok (.aload_n 0, 1) := by decide +kernel
theorem dX3_crashesInTick_97 : decode cX3_crashesInTick 97 = .ok (.getfield 39, 3) := by decide +kernel
theorem dX3_crashesInTick_100 : decode cX3_crashesInTick 100 = .ok (.isub, 1) := by decide +kernel
theorem dX3_crashesInTick_101 : decode cX3_crashesInTick 101 = .ok (.aload_n 0, 1) := by decide +kernel
theorem dX3_crashesInTick_102 : decode cX3_crashesInTick 102 = .ok (.getfield 18, 3) := by decide +kernel
theorem dX3_crashesInTick_105 : decode cX3_crashesInTick 105 = .ok (.bipush 7, 2) := by decide +kernel
theorem dX3_crashesInTick_107 : decode cX3_crashesInTick 107 = .ok (.iaload, 1) := by decide +kernel
theorem dX3_crashesInTick_108 : decode cX3_crashesInTick 108 = .ok (.if_icmp .le 8, 3) := by decide +kernel
theorem dX3_crashesInTick_111 : decode cX3_crashesInTick 111 = .ok (.aload_n 0, 1) := by decide +kernel
theorem dX3_crashesInTick_112 : decode cX3_crashesInTick 112 = .ok (.iconst 1, 1) := by decide +kernel
theorem dX3_crashesInTick_113 : decode cX3_crashesInTick 113 = .ok (.putfield 52, 3) := by decide +kernel
theorem dX3_crashesInTick_116 : decode cX3_crashesInTick 116 = .ok (.iconst 0, 1) := by decide +kernel
theorem dX3_crashesInTick_117 : decode cX3_crashesInTick 117 = .ok (.ireturn, 1) := by decide +kernel
theorem dX3_crashesAtBegin_0 : decode cX3_crashesAtBegin 0 = .ok (.iconst 0, 1) := by decide +kernel
theorem dX3_crashesAtBegin_1 : decode cX3_crashesAtBegin 1 = .ok (.istore_n 3, 1) := by decide +kernel
theorem dX3_crashesAtBegin_2 : decode cX3_crashesAtBegin 2 = .ok (.iconst 0, 1) := by decide +kernel
theorem dX3_crashesAtBegin_3 : decode cX3_crashesAtBegin 3 = .ok (.istore 4, 2) := by decide +kernel
theorem dX3_crashesAtBegin_5 : decode cX3_crashesAtBegin 5 = .ok (.iload_n 2, 1) := by decide +kernel
theorem dX3_crashesAtBegin_6 : decode cX3_crashesAtBegin 6 = .ok (.ifCond .lt 33, 3) := by decide +kernel
theorem dX3_crashesAtBegin_9 : decode cX3_crashesAtBegin 9 = .ok (.iload_n 2, 1) := by decide +kernel
theorem dX3_crashesAtBegin_10 : decode cX3_crashesAtBegin 10 = .ok (.iconst 2, 1) := by decide +kernel
theorem dX3_crashesAtBegin_11 : decode cX3_crashesAtBegin 11 = .ok (.if_icmp .ge 28, 3) := by decide +kernel
theorem dX3_crashesAtBegin_14 : decode cX3_crashesAtBegin 14 = .ok (.iload_n 1, 1) := by decide +kernel
theorem dX3_crashesAtBegin_15 : decode cX3_crashesAtBegin 15 = .ok (.aload_n 0, 1) := by decide +kernel
theorem dX3_crashesAtBegin_16 : decode cX3_crashesAtBegin 16 = .ok (.getfield 26, 3) := by decide +kernel
theorem dX3_crashesAtBegin_19 : decode cX3_crashesAtBegin 19 = .ok (.iload_n 2, 1) := by decide +kernel
theorem dX3_crashesAtBegin_20 : decode cX3_crashesAtBegin 20 = .ok (.iaload, 1) := by decide +kernel
theorem dX3_crashesAtBegin_21 : decode cX3_crashesAtBegin 21 = .ok (.if_icmp .lt 18, 3) := by decide +kernel
theorem dX3_crashesAtBegin_24 : decode cX3_crashesAtBegin 24 = .ok (.aload_n 0, 1) := by decide +kernel
theorem dX3_crashesAtBegin_25 : decode cX3_crashesAtBegin 25 = .ok (.getfield 23, 3) := by decide +kernel
theorem dX3_crashesAtBegin_28 : decode cX3_crashesAtBegin 28 = .ok (.iload_n 2, 1) := by decide +kernel
theorem dX3_crashesAtBegin_29 : decode cX3_crashesAtBegin 29 = .ok (.iaload, 1) := by decide +kernel
theorem dX3_crashesAtBegin_30 : decode cX3_crashesAtBegin 30 = .ok (.istore_n 3, 1) := by decide +kernel
theorem dX3_crashesAtBegin_31 : decode cX3_crashesAtBegin 31 = .ok (.aload_n 0, 1) := by decide +kernel
theorem dX3_crashesAtBegin_32 : decode cX3_crashesAtBegin 32 = .ok (.getfield 29, 3) := by decide +kernel
theorem dX3_crashesAtBegin_35 : decode cX3_crashesAtBegin 35 = .ok (.iload_n 2, 1) := by decide +kernel
theorem dX3_crashesAtBegin_36 : decode cX3_crashesAtBegin 36 = .ok (.iaload, 1) := by decide +kernel
theorem dX3_crashesAtBegin_37 : decode cX3_crashesAtBegin 37 = .ok (.istore 4, 2) := by decide +kernel
theorem dX3_crashesAtBegin_39 : decode cX3_crashesAtBegin 39 = .ok (.aload_n 0, 1) := by decide +kernel
theorem dX3_crashesAtBegin_40 : decode cX3_crashesAtBegin 40 = .ok (.iconst 1, 1) := by decide +kernel
theorem dX3_crashesAtBegin_41 : decode cX3_crashesAtBegin 41 = .ok (.putfield 32, 3) := by decide +kernel
theorem dX3_crashesAtBegin_44 : decode cX3_crashesAtBegin 44 = .ok (.aload_n 0, 1) := by decide +kernel
theorem dX3_crashesAtBegin_45 : decode cX3_crashesAtBegin 45 = .ok (.iload_n 3, 1) := by decide +kernel
theorem dX3_crashesAtBegin_46 : decode cX3_crashesAtBegin 46 = .ok (.iconst 1, 1) := by decide +kernel
theorem dX3_crashesAtBegin_47 : decode cX3_crashesAtBegin 47 = .ok (.if_icmp .ne 7, 3) := by decide +kernel
theorem dX3_crashesAtBegin_50 : decode cX3_crashesAtBegin 50 = .ok (.iconst 1, 1) := by decide +kernel
theorem dX3_crashesAtBegin_51 : decode cX3_crashesAtBegin 51 = .ok (.goto 4, 3) := by decide +kernel
theorem dX3_crashesAtBegin_54 : decode cX3_crashesAtBegin 54 = .ok (.iconst 0, 1) := by decide +kernel
theorem dX3_crashesAtBegin_55 : decode cX3_crashesAtBegin 55 = .ok (.putfield 36, 3) := by decide +kernel
theorem dX3_crashesAtBegin_58 : decode cX3_crashesAtBegin 58 = .ok (.aload_n 0, 1) := by decide +kernel
theorem dX3_crashesAtBegin_59 : decode cX3_crashesAtBegin 59 = .ok (.iload_n 1, 1) := by decide +kernel
theorem dX3_crashesAtBegin_60 : decode cX3_crashesAtBegin 60 = .ok (.putfield 39, 3) := by decide +kernel
theorem dX3_crashesAtBegin_63 : decode cX3_crashesAtBegin 63 = .ok (.aload_n 0, 1) := by decide +kernel
theorem dX3_crashesAtBegin_64 : decode cX3_crashesAtBegin 64 = .ok (.aload_n 0, 1) := by decide +kernel
theorem dX3_crashesAtBegin_65 : decode cX3_crashesAtBegin 65 = .ok (.getfield 18, 3) := by decide +kernel
theorem dX3_crashesAtBegin_68 : decode cX3_crashesAtBegin 68 = .ok (.iconst 1, 1) := by decide +kernel
theorem dX3_crashesAtBegin_69 : decode cX3_crashesAtBegin 69 = .ok (.iaload, 1) := by decide +kernel
theorem dX3_crashesAtBegin_70 : decode cX3_crashesAtBegin 70 = .ok (.iload_n 3, 1) := by decide +kernel
theorem dX3_crashesAtBegin_71 : decode cX3_crashesAtBegin 71 = .ok (.iconst 2, 1) := by decide +kernel
theorem dX3_crashesAtBegin_72 : decode cX3_crashesAtBegin 72 = .ok (.if_icmp .ne 8, 3) := by decide +kernel
theorem dX3_crashesAtBegin_75 : decode cX3_crashesAtBegin 75 = .ok (.iload 4, 2) := by decide +kernel
theorem dX3_crashesAtBegin_77 : decode cX3_crashesAtBegin 77 = .ok (.goto 4, 3) := by decide +kernel
theorem dX3_crashesAtBegin_80 : decode cX3_crashesAtBegin 80 = .ok (.iconst 0, 1) := by decide +kernel
theorem dX3_crashesAtBegin_81 : decode cX3_crashesAtBegin 81 = .ok (.iadd, 1) := by decide +kernel
theorem dX3_crashesAtBegin_82 : decode cX3_crashesAtBegin 82 = .ok (.putfield 43, 3) := by decide +kernel
theorem dX3_crashesAtBegin_85 : decode cX3_crashesAtBegin 85 = .ok (.iload_n 3, 1) := by decide +kernel
theorem dX3_crashesAtBegin_86 : decode cX3_crashesAtBegin 86 = .ok (.iconst 3, 1) := by decide +kernel
theorem dX3_crashesAtBegin_87 : decode cX3_crashesAtBegin 87 = .ok (.if_icmp .eq 22, 3) := by decide +kernel
theorem dX3_crashesAtBegin_90 : decode cX3_crashesAtBegin 90 = .ok (.aload_n 0, 1) := by decide +kernel
theorem dX3_crashesAtBegin_91 : decode cX3_crashesAtBegin 91 = .ok (.dup, 1) := by decide +kernel
theorem dX3_crashesAtBegin_92 : decode cX3_crashesAtBegin 92 = .ok (.getfield 46, 3) := by decide +kernel
theorem dX3_crashesAtBegin_95 : decode cX3_crashesAtBegin 95 = .ok (.iload_n 3, 1) := by decide +kernel
theorem dX3_crashesAtBegin_96 : decode cX3_crashesAtBegin 96 = .ok (.iconst 4, 1) := by decide +kernel
theorem dX3_crashesAtBegin_97 : decode cX3_crashesAtBegin 97 = .ok (.if_icmp .ne 7, 3) := by decide +kernel
theorem dX3_crashesAtBegin_100 : decode cX3_crashesAtBegin 100 = .ok (.iconst 2, 1) := by decide +kernel
theorem dX3_crashesAtBegin_101 : decode cX3_crashesAtBegin 101 = .ok (.goto 4, 3) := by decide +kernel
theorem dX3_crashesAtBegin_104 : decode cX3_crashesAtBegin 104 = .ok (.iconst 1, 1) := by decide +kernel
theorem dX3_crashesAtBegin_105 : decode cX3_crashesAtBegin 105 = .ok (.iadd, 1) := by decide +kernel
theorem dX3_crashesAtBegin_106 : decode cX3_crashesAtBegin 106 = .ok (.putfield 46, 3) := by decide +kernel
theorem dX3_crashesAtBegin_109 : decode cX3_crashesAtBegin 109 = .ok (.iload_n 3, 1) := by decide +kernel
theorem dX3_crashesAtBegin_110 : decode cX3_crashesAtBegin 110 = .ok (.iconst 5, 1) := by decide +kernel
theorem dX3_crashesAtBegin_111 : decode cX3_crashesAtBegin 111 = .ok (.if_icmp .ne 7, 3) := by decide +kernel
theorem dX3_crashesAtBegin_114 : decode cX3_crashesAtBegin 114 = .ok (.iconst 1, 1) := by decide +kernel
theorem dX3_crashesAtBegin_115 : decode cX3_crashesAtBegin 115 = .ok (.goto 4, 3) := by decide +kernel
theorem dX3_crashesAtBegin_118 : decode cX3_crashesAtBegin 118 = .ok (.iconst 0, 1) := by decide +kernel
theorem dX3_crashesAtBegin_119 : decode cX3_crashesAtBegin 119 = .ok (.ireturn, 1) := by decide +kernel
theorem dX3_endCycle_0 : decode cX3_endCycle 0 = .ok (.aload_n 0, 1) := by decide +kernel
theorem dX3_endCycle_1 : decode cX3_endCycle 1 = .ok (.getfield 46, 3) := by decide +kernel
theorem dX3_endCycle_4 : decode cX3_endCycle 4 = .ok (.aload_n 0, 1) := by decide +kernel
theorem dX3_endCycle_5 : decode cX3_endCycle 5 = .ok (.getfield 18, 3) := by decide +kernel
theorem dX3_endCycle_8 : decode cX3_endCycle 8 = .ok (.iconst 4, 1) := by decide +kernel
theorem dX3_endCycle_9 : decode cX3_endCycle 9 = .ok (.iaload, 1) := by decide +kernel
theorem dX3_endCycle_10 : decode cX3_endCycle 10 = .ok (.aload_n 0, 1) := by decide +kernel
theorem dX3_endCycle_11 : decode cX3_endCycle 11 = .ok (.getfield 18, 3) := by decide +kernel
theorem dX3_endCycle_14 : decode cX3_endCycle 14 = .ok (.iconst 5, 1) := by decide +kernel
theorem dX3_endCycle_15 : decode cX3_endCycle 15 = .ok (.iaload, 1) := by decide +kernel
theorem dX3_endCycle_16 : decode cX3_endCycle 16 = .ok (.invokestatic 93, 3) := by decide +kernel
theorem dX3_endCycle_19 : decode cX3_endCycle 19 = .ok (.ifCond .eq 14, 3) := by decide +kernel
theorem dX3_endCycle_22 : decode cX3_endCycle 22 = .ok (.aload_n 0, 1) := by decide +kernel
theorem dX3_endCycle_23 : decode cX3_endCycle 23 = .ok (.getfield 52, 3) := by decide +kernel
theorem dX3_endCycle_26 : decode cX3_endCycle 26 = .ok (.ifCond .ne 7, 3) := by decide +kernel
theorem dX3_endCycle_29 : decode cX3_endCycle 29 = .ok (.iconst 1, 1) := by decide +kernel
theorem dX3_endCycle_30 : decode cX3_endCycle 30 = .ok (.goto 4, 3) := by decide +kernel
theorem dX3_endCycle_33 : decode cX3_endCycle 33 = .ok (.iconst 0, 1) := by decide +kernel
theorem dX3_endCycle_34 : decode cX3_endCycle 34 = .ok (.istore_n 2, 1) := by decide +kernel
theorem dX3_endCycle_35 : decode cX3_endCycle 35 = .ok (.iload_n 2, 1) := by decide +kernel
theorem dX3_endCycle_36 : decode cX3_endCycle 36 = .ok (.ifCond .eq 20, 3) := by decide +kernel
theorem dX3_endCycle_39 : decode cX3_endCycle 39 = .ok (.aload_n 0, 1) := by decide +kernel
theorem dX3_endCycle_40 : decode cX3_endCycle 40 = .ok (.iconst 0, 1) := by decide +kernel
theorem dX3_endCycle_41 : decode cX3_endCycle 41 = .ok (.aload_n 0, 1) := by decide +kernel
theorem dX3_endCycle_42 : decode cX3_endCycle 42 = .ok (.getfield 49, 3) := by decide +kernel
theorem dX3_endCycle_45 : decode cX3_endCycle 45 = .ok (.iconst 1, 1) := by decide +kernel
theorem dX3_endCycle_46 : decode cX3_endCycle 46 = .ok (.isub, 1) := by decide +kernel
theorem dX3_endCycle_47 : decode cX3_endCycle 47 = .ok (.invokestatic 97, 3) := by decide +kernel
theorem dX3_endCycle_50 : decode cX3_endCycle 50 = .ok (.putfield 49, 3) := by decide +kernel
theorem dX3_endCycle_53 : decode cX3_endCycle 53 = .ok (.goto 70, 3) := by decide +kernel
theorem dX3_endCycle_56 : decode cX3_endCycle 56 = .ok (.aload_n 0, 1) := by decide +kernel
theorem dX3_endCycle_57 : decode cX3_endCycle 57 = .ok (.dup, 1) := by decide +kernel
theorem dX3_endCycle_58 : decode cX3_endCycle 58 = .ok (.getfield 49, 3) := by decide +kernel
theorem dX3_endCycle_61 : decode cX3_endCycle 61 = .ok (.iconst 1, 1) := by decide +kernel
theorem dX3_endCycle_62 : decode cX3_endCycle 62 = .ok (.iadd, 1) := by decide +kernel
theorem dX3_endCycle_63 : decode cX3_endCycle 63 = .ok (.putfield 49, 3) := by decide +kernel
theorem dX3_endCycle_66 : decode cX3_endCycle 66 = .ok (.aload_n 0, 1) := by decide +kernel
theorem dX3_endCycle_67 : decode cX3_endCycle 67 = .ok (.aload_n 0, 1) := by decide +kernel
theorem dX3_endCycle_68 : decode cX3_endCycle 68 = .ok (.getfield 49, 3) := by decide +kernel
theorem dX3_endCycle_71 : decode cX3_endCycle 71 = .ok (.aload_n 0, 1) := by decide +kernel
theorem dX3_endCycle_72 : decode cX3_endCycle 72 = .ok (.getfield 18, 3) := by decide +kernel
theorem dX3_endCycle_75 : decode cX3_endCycle 75 = .ok (.bipush 6, 2) := by decide +kernel
theorem dX3_endCycle_77 : decode cX3_endCycle 77 = .ok (.iaload, 1) := by decide +kernel
theorem dX3_endCycle_78 : decode cX3_endCycle 78 = .ok (.if_icmp .le 7, 3) := by decide +kernel
theorem dX3_endCycle_81 : decode cX3_endCycle 81 = .ok (.iconst 1, 1) := by decide +kernel
theorem dX3_endCycle_82 : decode cX3_endCycle 82 = .ok (.goto 4, 3) := by decide +kernel
theorem dX3_endCycle_85 : decode cX3_endCycle 85 = .ok (.iconst 0, 1) := by decide +kernel
theorem dX3_endCycle_86 : decode cX3_endCycle 86 = .ok (.putfield 55, 3) := by decide +kernel
theorem dX3_endCycle_89 : decode cX3_endCycle 89 = .ok (.aload_n 0, 1) := by decide +kernel
theorem dX3_endCycle_90 : decode cX3_endCycle 90 = .ok (.dup, 1) := by decide +kernel
theorem dX3_endCycle_91 : decode cX3_endCycle 91 = .ok (.getfield 58, 3) := by decide +kernel
theorem dX3_endCycle_94 : decode cX3_endCycle 94 = .ok (.iconst 1, 1) := by decide +kernel
theorem dX3_endCycle_95 : decode cX3_endCycle 95 = .ok (.iadd, 1) := by decide +kernel
theorem dX3_endCycle_96 : decode cX3_endCycle 96 = .ok (.putfield 58, 3) := by decide +kernel
theorem dX3_endCycle_99 : decode cX3_endCycle 99 = .ok (.aload_n 0, 1) := by decide +kernel
theorem dX3_endCycle_100 : decode cX3_endCycle 100 = .ok (.aload_n 0, 1) := by decide +kernel
theorem dX3_endCycle_101 : decode cX3_endCycle 101 = .ok (.getfield 61, 3) := by decide +kernel
theorem dX3_endCycle_104 : decode cX3_endCycle 104 = .ok (.ifCond .eq 10, 3) := by decide +kernel
theorem dX3_endCycle_107 : decode cX3_endCycle 107 = .ok (.aload_n 0, 1) := by decide +kernel
theorem dX3_endCycle_108 : decode cX3_endCycle 108 = .ok (.getfield 64, 3) := by decide +kernel
theorem dX3_endCycle_111 : decode cX3_endCycle 111 = .ok (.goto 4, 3) := by decide +kernel
theorem dX3_endCycle_114 : decode cX3_endCycle 114 = .ok (.iload_n 1, 1) := by decide +kernel
theorem dX3_endCycle_115 : decode cX3_endCycle 115 = .ok (.putfield 64, 3) := by decide +kernel
theorem dX3_endCycle_118 : decode cX3_endCycle 118 = .ok (.aload_n 0, 1) := by decide +kernel
theorem dX3_endCycle_119 : decode cX3_endCycle 119 = .ok (.iconst 1, 1) := by decide +kernel
theorem dX3_endCycle_120 : decode cX3_endCycle 120 = .ok (.putfield 61, 3) := by decide +kernel
theorem dX3_endCycle_123 : decode cX3_endCycle 123 = .ok (.aload_n 0, 1) := by decide +kernel
theorem dX3_endCycle_124 : decode cX3_endCycle 124 = .ok (.iconst 0, 1) := by decide +kernel
theorem dX3_endCycle_125 : decode cX3_endCycle 125 = .ok (.putfield 46, 3) := by decide +kernel
theorem dX3_endCycle_128 : decode cX3_endCycle 128 = .ok (.aload_n 0, 1) := by decide +kernel
theorem dX3_endCycle_129 : decode cX3_endCycle 129 = .ok (.iconst 0, 1) := by decide +kernel
theorem dX3_endCycle_130 : decode cX3_endCycle 130 = .ok (.putfield 52, 3) := by decide +kernel
theorem dX3_endCycle_133 : decode cX3_endCycle 133 = .ok (.return_, 1) := by decide +kernel
theorem dX4_init_0 : decode cX4_init 0 = .ok (.aload_n 0, 1) := by decide +kernel
theorem dX4_init_1 : decode cX4_init 1 = .ok (.invokespecial 1, 3) := by decide +kernel
theorem dX4_init_4 : decode cX4_init 4 = .ok (.aload_n 0, 1) := by decide +kernel
theorem dX4_init_5 : decode cX4_init 5 = .ok (.new 7, 3) := by decide +kernel
theorem dX4_init_8 : decode cX4_init 8 = .ok (.dup, 1) := by decide +kernel
theorem dX4_init_9 : decode cX4_init 9 = .ok (.invokespecial 9, 3) := by decide +kernel
theorem dX4_init_12 : decode cX4_init 12 = .ok (.putfield 10, 3) := by decide +kernel
theorem dX4_init_15 : decode cX4_init 15 = .ok (.aload_n 0, 1) := by decide +kernel
theorem dX4_init_16 : decode cX4_init 16 = .ok (.new 7, 3) := by decide +kernel
theorem dX4_init_19 : decode cX4_init 19 = .ok (.dup, 1) := by decide +kernel
theorem dX4_init_20 : decode cX4_init 20 = .ok (.invokespecial 9, 3) := by decide +kernel
theorem dX4_init_23 : decode cX4_init 23 = .ok (.putfield 16, 3) := by decide +kernel
theorem dX4_init_26 : decode cX4_init 26 = .ok (.aload_n 0, 1) := by decide +kernel
theorem dX4_init_27 : decode cX4_init 27 = .ok (.iconst 2, 1) := by decide +kernel
theorem dX4_init_28 : decode cX4_init 28 = .ok (.anewarray 7, 3) := by decide +kernel
theorem dX4_init_31 : decode cX4_init 31 = .ok (.putfield 19, 3) := by decide +kernel
theorem dX4_init_34 : decode cX4_init 34 = .ok (.iconst 0, 1) := by decide +kernel
theorem dX4_init_35 : decode cX4_init 35 = .ok (.istore_n 1, 1) := by decide +kernel
theorem dX4_init_36 : decode cX4_init 36 = .ok (.iload_n 1, 1) := by decide +kernel
theorem dX4_init_37 : decode cX4_init 37 = .ok (.iconst 2, 1) := by decide +kernel
theorem dX4_init_38 : decode cX4_init 38 = .ok (.if_icmp .ge 22, 3) := by decide +kernel
theorem dX4_init_41 : decode cX4_init 41 = .ok (.aload_n 0, 1) := by decide +kernel
theorem dX4_init_42 : decode cX4_init 42 = .ok (.getfield 19, 3) := by decide +kernel
theorem dX4_init_45 : decode cX4_init 45 = .ok (.iload_n 1, 1) := by decide +kernel
theorem dX4_init_46 : decode cX4_init 46 = .ok (.new 7, 3) := by decide +kernel
theorem dX4_init_49 : decode cX4_init 49 = .ok (.dup, 1) := by decide +kernel
theorem dX4_init_50 : decode cX4_init 50 = .ok (.invokespecial 9, 3) := by decide +kernel
theorem dX4_init_53 : decode cX4_init 53 = .ok (.aastore, 1) := by decide +kernel
theorem dX4_init_54 : decode cX4_init 54 = .ok (.iinc 1 1, 3) := by decide +kernel
theorem dX4_init_57 : decode cX4_init 57 = .ok (.goto (-21), 3) := by decide +kernel
theorem dX4_init_60 : decode cX4_init 60 = .ok (.aload_n 0, 1) := by decide +kernel
theorem dX4_init_61 : decode cX4_init 61 = .ok (.iconst 2, 1) := by decide +kernel
theorem dX4_init_62 : decode cX4_init 62 = .ok (.newarray .boolean, 2) := by decide +kernel
theorem dX4_init_64 : decode cX4_init 64 = .ok (.putfield 23, 3) := by decide +kernel
theorem dX4_init_67 : decode cX4_init 67 = .ok (.aload_n 0, 1) := by decide +kernel
theorem dX4_init_68 : decode cX4_init 68 = .ok (.new 27, 3) := by decide +kernel
theorem dX4_init_71 : decode cX4_init 71 = .ok (.dup, 1) := by decide +kernel
theorem dX4_init_72 : decode cX4_init 72 = .ok (.invokespecial 29, 3) := by decide +kernel
theorem dX4_init_75 : decode cX4_init 75 = .ok (.putfield 30, 3) := by decide +kernel
theorem dX4_init_78 : decode cX4_init 78 = .ok (.return_, 1) := by decide +kernel
theorem dX4_rule_0 : decode cX4_rule 0 = .ok (.iload_n 1, 1) := by decide +kernel
theorem dX4_rule_1 : decode cX4_rule 1 = .ok (.iload_n 2, 1) := by decide +kernel
theorem dX4_rule_2 : decode cX4_rule 2 = .ok (.getstatic 34, 3) := by decide +kernel
theorem dX4_rule_5 : decode cX4_rule 5 = .ok (.getstatic 38, 3) := by decide +kernel
theorem dX4_rule_8 : decode cX4_rule 8 = .ok (.invokestatic 41, 3) := by decide +kernel
theorem dX4_rule_11 : decode cX4_rule 11 = .ok (.ifCond .ne 6, 3) := by decide +kernel
theorem dX4_rule_14 : decode cX4_rule 14 = .ok (.bipush (-2), 2) := by decide +kernel
theorem dX4_rule_16 : decode cX4_rule 16 = .ok (.ireturn, 1) := by decide +kernel
theorem dX4_rule_17 : decode cX4_rule 17 = .ok (.aload_n 0, 1) := by decide +kernel
theorem dX4_rule_18 : decode cX4_rule 18 = .ok (.getfield 10, 3) := by decide +kernel
theorem dX4_rule_21 : decode cX4_rule 21 = .ok (.getfield 45, 3) := by decide +kernel
theorem dX4_rule_24 : decode cX4_rule 24 = .ok (.iload_n 1, 1) := by decide +kernel
theorem dX4_rule_25 : decode cX4_rule 25 = .ok (.iaload, 1) := by decide +kernel
theorem dX4_rule_26 : decode cX4_rule 26 = .ok (.istore_n 3, 1) := by decide +kernel
theorem dX4_rule_27 : decode cX4_rule 27 = .ok (.aload_n 0, 1) := by decide +kernel
theorem dX4_rule_28 : decode cX4_rule 28 = .ok (.getfield 10, 3) := by decide +kernel
theorem dX4_rule_31 : decode cX4_rule 31 = .ok (.getfield 45, 3) := by decide +kernel
theorem dX4_rule_34 : decode cX4_rule 34 = .ok (.iload_n 1, 1) := by decide +kernel
theorem dX4_rule_35 : decode cX4_rule 35 = .ok (.iload_n 2, 1) := by decide +kernel
theorem dX4_rule_36 : decode cX4_rule 36 = .ok (.iastore, 1) := by decide +kernel
theorem dX4_rule_37 : decode cX4_rule 37 = .ok (.iload_n 3, 1) := by decide +kernel
theorem dX4_rule_38 : decode cX4_rule 38 = .ok (.ireturn, 1) := by decide +kernel
theorem dX4_addTask_0 : decode cX4_addTask 0 = .ok (.iconst 0, 1) := by decide +kernel
theorem dX4_addTask_1 : decode cX4_addTask 1 = .ok (.iload_n 1, 1) := by decide +kernel
theorem dX4_addTask_2 : decode cX4_addTask 2 = .ok (.getstatic 48, 3) := by decide +kernel
theorem dX4_addTask_5 : decode cX4_addTask 5 = .ok (.getstatic 51, 3) := by decide +kernel
theorem dX4_addTask_8 : decode cX4_addTask 8 = .ok (.invokestatic 41, 3) := by decide +kernel
theorem dX4_addTask_11 : decode cX4_addTask 11 = .ok (.ifCond .eq 17, 3) := by decide +kernel
theorem dX4_addTask_14 : decode cX4_addTask 14 = .ok (.iconst 1, 1) := by decide +kernel
theorem dX4_addTask_15 : decode cX4_addTask 15 = .ok (.iload_n 2, 1) := by decide +kernel
theorem dX4_addTask_16 : decode cX4_addTask 16 = .ok (.getstatic 48, 3) := by decide +kernel
theorem dX4_addTask_19 : decode cX4_addTask 19 = .ok (.getstatic 51, 3) := by decide +kernel
theorem dX4_addTask_22 : decode cX4_addTask 22 = .ok (.invokestatic 41, 3) := by decide +kernel
theorem dX4_addTask_25 : decode cX4_addTask 25 = .ok (.ifCond .ne 6, 3) := by decide +kernel
theorem dX4_addTask_28 : decode cX4_addTask 28 = .ok (.bipush (-2), 2) := by decide +kernel
theorem dX4_addTask_30 : decode cX4_addTask 30 = .ok (.ireturn, 1) := by decide +kernel
theorem dX4_addTask_31 : decode cX4_addTask 31 = .ok (.aload_n 0, 1) := by decide +kernel
theorem dX4_addTask_32 : decode cX4_addTask 32 = .ok (.getfield 10, 3) := by decide +kernel
theorem dX4_addTask_35 : decode cX4_addTask 35 = .ok (.getfield 54, 3) := by decide +kernel
theorem dX4_addTask_38 : decode cX4_addTask 38 = .ok (.bipush 6, 2) := by decide +kernel
theorem dX4_addTask_40 : decode cX4_addTask 40 = .ok (.if_icmp .lt 6, 3) := by decide +kernel
theorem dX4_addTask_43 : decode cX4_addTask 43 = .ok (.bipush (-4), 2) := by decide +kernel
theorem dX4_addTask_45 : decode cX4_addTask 45 = .ok (.ireturn, 1) := by decide +kernel
theorem dX4_addTask_46 : decode cX4_addTask 46 = .ok (.aload_n 0, 1) := by decide +kernel
theorem dX4_addTask_47 : decode cX4_addTask 47 = .ok (.getfield 10, 3) := by decide +kernel
theorem dX4_addTask_50 : decode cX4_addTask 50 = .ok (.getfield 54, 3) := by decide +kernel
theorem dX4_addTask_53 : decode cX4_addTask 53 = .ok (.istore_n 3, 1) := by decide +kernel
theorem dX4_addTask_54 : decode cX4_addTask 54 = .ok (.aload_n 0, 1) := by decide +kernel
theorem dX4_addTask_55 : decode cX4_addTask 55 = .ok (.getfield 10, 3) := by decide +kernel
theorem dX4_addTask_58 : decode cX4_addTask 58 = .ok (.getfield 58, 3) := by decide +kernel
theorem dX4_addTask_61 : decode cX4_addTask 61 = .ok (.iload_n 3, 1) := by decide +kernel
theorem dX4_addTask_62 : decode cX4_addTask 62 = .ok (.aaload, 1) := by decide +kernel
theorem dX4_addTask_63 : decode cX4_addTask 63 = .ok (.iload_n 1, 1) := by decide +kernel
theorem dX4_addTask_64 : decode cX4_addTask 64 = .ok (.iload_n 2, 1) := by decide +kernel
theorem dX4_addTask_65 : decode cX4_addTask 65 = .ok (.invokevirtual 62, 3) := by decide +kernel
theorem dX4_addTask_68 : decode cX4_addTask 68 = .ok (.aload_n 0, 1) := by decide +kernel
theorem dX4_addTask_69 : decode cX4_addTask 69 = .ok (.getfield 10, 3) := by decide +kernel
theorem dX4_addTask_72 : decode cX4_addTask 72 = .ok (.dup, 1) := by decide +kernel
theorem dX4_addTask_73 : decode cX4_addTask 73 = .ok (.getfield 54, 3) := by decide +kernel
theorem dX4_addTask_76 : decode cX4_addTask 76 = .ok (.iconst 1, 1) := by decide +kernel
theorem dX4_addTask_77 : decode cX4_addTask 77 = .ok (.iadd, 1) := by decide +kernel
theorem dX4_addTask_78 : decode cX4_addTask 78 = .ok (.putfield 54, 3) := by decide +kernel
theorem dX4_addTask_81 : decode cX4_addTask 81 = .ok (.iload_n 3, 1) := by decide +kernel
theorem dX4_addTask_82 : decode cX4_addTask 82 = .ok (.ireturn, 1) := by decide +kernel
theorem dX4_set_0 : decode cX4_set 0 = .ok (.aload_n 0, 1) := by decide +kernel
theorem dX4_set_1 : decode cX4_set 1 = .ok (.iload_n 1, 1) := by decide +kernel
theorem dX4_set_2 : decode cX4_set 2 = .ok (.invokevirtual 68, 3) := by decide +kernel
theorem dX4_set_5 : decode cX4_set 5 = .ok (.ifCond .ne 5, 3) := by decide +kernel
theorem dX4_set_8 : decode cX4_set 8 = .ok (.iconst (-1), 1) := by decide +kernel
theorem dX4_set_9 : decode cX4_set 9 = .ok (.ireturn, 1) := by decide +kernel
theorem dX4_set_10 : decode cX4_set 10 = .ok (.iload_n 2, 1) := by decide +kernel
theorem dX4_set_11 : decode cX4_set 11 = .ok (.iload_n 3, 1) := by decide +kernel
theorem dX4_set_12 : decode cX4_set 12 = .ok (.getstatic 48, 3) := by decide +kernel
theorem dX4_set_15 : decode cX4_set 15 = .ok (.getstatic 51, 3) := by decide +kernel
theorem dX4_set_18 : decode cX4_set 18 = .ok (.invokestatic 41, 3) := by decide +kernel
theorem dX4_set_21 : decode cX4_set 21 = .ok (.ifCond .ne 6, 3) := by decide +kernel
theorem dX4_set_24 : decode cX4_set 24 = .ok (.bipush (-2), 2) := by decide +kernel
theorem dX4_set_26 : decode cX4_set 26 = .ok (.ireturn, 1) := by decide +kernel
theorem dX4_set_27 : decode cX4_set 27 = .ok (.aload_n 0, 1) := by decide +kernel
theorem dX4_set_28 : decode cX4_set 28 = .ok (.getfield 10, 3) := by decide +kernel
theorem dX4_set_31 : decode cX4_set 31 = .ok (.getfield 58, 3) := by decide +kernel
theorem dX4_set_34 : decode cX4_set 34 = .ok (.iload_n 1, 1) := by decide +kernel
theorem dX4_set_35 : decode cX4_set 35 = .ok (.aaload, 1) := by decide +kernel
theorem dX4_set_36 : decode cX4_set 36 = .ok (.getfield 72, 3) := by decide +kernel
theorem dX4_set_39 : decode cX4_set 39 = .ok (.astore 4, 2) := by decide +kernel
theorem dX4_set_41 : decode cX4_set 41 = .ok (.aload 4, 2) := by decide +kernel
theorem dX4_set_43 : decode cX4_set 43 = .ok (.iload_n 2, 1) := by decide +kernel
theorem dX4_set_44 : decode cX4_set 44 = .ok (.iaload, 1) := by decide +kernel
theorem dX4_set_45 : decode cX4_set 45 = .ok (.istore 5, 2) := by decide +kernel
theorem dX4_set_47 : decode cX4_set 47 = .ok (.aload 4, 2) := by decide +kernel
theorem dX4_set_49 : decode cX4_set 49 = .ok (.iload_n 2, 1) := by decide +kernel
theorem dX4_set_50 : decode cX4_set 50 = .ok (.iload_n 3, 1) := by decide +kernel
theorem dX4_set_51 : decode cX4_set 51 = .ok (.iastore, 1) := by decide +kernel
theorem dX4_set_52 : decode cX4_set 52 = .ok (.iload 5, 2) := by decide +kernel
theorem dX4_set_54 : decode cX4_set 54 = .ok (.ireturn, 1) := by decide +kernel
theorem dX4_putFault_0 : decode cX4_putFault 0 = .ok (.iload_n 1, 1) := by decide +kernel
theorem dX4_putFault_1 : decode cX4_putFault 1 = .ok (.iconst 0, 1) := by decide +kernel
theorem dX4_putFault_2 : decode cX4_putFault 2 = .ok (.iconst 1, 1) := by decide +kernel
theorem dX4_putFault_3 : decode cX4_putFault 3 = .ok (.invokestatic 75, 3) := by decide +kernel
theorem dX4_putFault_6 : decode cX4_putFault 6 = .ok (.ifCond .eq 11, 3) := by decide +kernel
theorem dX4_putFault_9 : decode cX4_putFault 9 = .ok (.aload_n 0, 1) := by decide +kernel
theorem dX4_putFault_10 : decode cX4_putFault 10 = .ok (.iload_n 2, 1) := by decide +kernel
theorem dX4_putFault_11 : decode cX4_putFault 11 = .ok (.invokevirtual 68, 3) := by decide +kernel
theorem dX4_putFault_14 : decode cX4_putFault 14 = .ok (.ifCond .ne 5, 3) := by decide +kernel
theorem dX4_putFault_17 : decode cX4_putFault 17 = .ok (.iconst (-1), 1) := by decide +kernel
theorem dX4_putFault_18 : decode cX4_putFault 18 = .ok (.ireturn, 1) := by decide +kernel
theorem dX4_putFault_19 : decode cX4_putFault 19 = .ok (.iload_n 3, 1) := by decide +kernel
theorem dX4_putFault_20 : decode cX4_putFault 20 = .ok (.iconst 0, 1) := by decide +kernel
theorem dX4_putFault_21 : decode cX4_putFault 21 = .ok (.iconst 5, 1) := by decide +kernel
theorem dX4_putFault_22 : decode cX4_putFault 22 = .ok (.invokestatic 75, 3) := by decide +kernel
theorem dX4_putFault_25 : decode cX4_putFault 25 = .ok (.ifCond .eq 27, 3) := by decide +kernel
theorem dX4_putFault_28 : decode cX4_putFault 28 = .ok (.iload 4, 2) := by decide +kernel
theorem dX4_putFault_30 : decode cX4_putFault 30 = .ok (.iconst 0, 1) := by decide +kernel
theorem dX4_putFault_31 : decode cX4_putFault 31 = .ok (.sipush 5000, 3) := by decide +kernel
theorem dX4_putFault_34 : decode cX4_putFault 34 = .ok (.invokestatic 75, 3) := by decide +kernel
theorem dX4_putFault_37 : decode cX4_putFault 37 = .ok (.ifCond .eq 15, 3) := by decide +kernel
theorem dX4_putFault_40 : decode cX4_putFault 40 = .ok (.iload 5, 2) := by decide +kernel
theorem dX4_putFault_42 : decode cX4_putFault 42 = .ok (.iconst 0, 1) := by decide +kernel
theorem dX4_putFault_43 : decode cX4_putFault 43 = .ok (.sipush 500, 3) := by decide +kernel
theorem dX4_putFault_46 : decode cX4_putFault 46 = .ok (.invokestatic 75, 3) := by decide +kernel
theorem dX4_putFault_49 : decode cX4_putFault 49 = .ok (.ifCond .ne 6, 3) := by decide +kernel
theorem dX4_putFault_52 : decode cX4_putFault 52 = .ok (.bipush (-2), 2) := by decide +kernel
theorem dX4_putFault_54 : decode cX4_putFault 54 = .ok (.ireturn, 1) := by decide +kernel
theorem dX4_putFault_55 : decode cX4_putFault 55 = .ok (.aload_n 0, 1) := by decide +kernel
theorem dX4_putFault_56 : decode cX4_putFault 56 = .ok (.getfield 10, 3) := by decide +kernel
theorem dX4_putFault_59 : decode cX4_putFault 59 = .ok (.getfield 58, 3) := by decide +kernel
theorem dX4_putFault_62 : decode cX4_putFault 62 = .ok (.iload_n 2, 1) := by decide +kernel
theorem dX4_putFault_63 : decode cX4_putFault 63 = .ok (.aaload, 1) := by decide +kernel
theorem dX4_putFault_64 : decode cX4_putFault 64 = .ok (.getfield 79, 3) := by decide +kernel
theorem dX4_putFault_67 : decode cX4_putFault 67 = .ok (.iload_n 1, 1) := by decide +kernel
theorem dX4_putFault_68 : decode cX4_putFault 68 = .ok (.iaload, 1) := by decide +kernel
theorem dX4_putFault_69 : decode cX4_putFault 69 = .ok (.istore 6, 2) := by decide +kernel
theorem dX4_putFault_71 : decode cX4_putFault 71 = .ok (.aload_n 0, 1) := by decide +kernel
theorem dX4_putFault_72 : decode cX4_putFault 72 = .ok (.getfield 10, 3) := by decide +kernel
theorem dX4_putFault_75 : decode cX4_putFault 75 = .ok (.getfield 58, 3) := by decide +kernel
theorem dX4_putFault_78 : decode cX4_putFault 78 = .ok (.iload_n 2, 1) := by decide +kernel
theorem dX4_putFault_79 : decode cX4_putFault 79 = .ok (.aaload, 1) := by decide +kernel
theorem dX4_putFault_80 : decode cX4_putFault 80 = .ok (.iload_n 1, 1) := by decide +kernel
theorem dX4_putFault_81 : decode cX4_putFault 81 = .ok (.iload_n 3, 1) := by decide +kernel
theorem dX4_putFault_82 : decode cX4_putFault 82 = .ok (.iload 4, 2) := by decide +kernel
theorem dX4_putFault_84 : decode cX4_putFault 84 = .ok (.iload 5, 2) := by decide +kernel
theorem dX4_putFault_86 : decode cX4_putFault 86 = .ok (.invokevirtual 82, 3) := by decide +kernel
theorem dX4_putFault_89 : decode cX4_putFault 89 = .ok (.iload 6, 2) := by decide +kernel
theorem dX4_putFault_91 : decode cX4_putFault 91 = .ok (.ireturn, 1) := by decide +kernel
theorem dX4_put_0 : decode cX4_put 0 = .ok (.lload_n 1, 1) := by decide +kernel
theorem dX4_put_1 : decode cX4_put 1 = .ok (.invokestatic 86, 3) := by decide +kernel
theorem dX4_put_4 : decode cX4_put 4 = .ok (.istore_n 3, 1) := by decide +kernel
theorem dX4_put_5 : decode cX4_put 5 = .ok (.iload_n 3, 1) := by decide +kernel
theorem dX4_put_6 : decode cX4_put 6 = .ok (.ifCond .ne 6, 3) := by decide +kernel
theorem dX4_put_9 : decode cX4_put 9 = .ok (.bipush (-2), 2) := by decide +kernel
theorem dX4_put_11 : decode cX4_put 11 = .ok (.ireturn, 1) := by decide +kernel
theorem dX4_put_12 : decode cX4_put 12 = .ok (.aload_n 0, 1) := by decide +kernel
theorem dX4_put_13 : decode cX4_put 13 = .ok (.getfield 30, 3) := by decide +kernel
theorem dX4_put_16 : decode cX4_put 16 = .ok (.getfield 90, 3) := by decide +kernel
theorem dX4_put_19 : decode cX4_put 19 = .ok (.iload_n 3, 1) := by decide +kernel
theorem dX4_put_20 : decode cX4_put 20 = .ok (.iadd, 1) := by decide +kernel
theorem dX4_put_21 : decode cX4_put 21 = .ok (.bipush 60, 2) := by decide +kernel
theorem dX4_put_23 : decode cX4_put 23 = .ok (.if_icmp .le 6, 3) := by decide +kernel
theorem dX4_put_26 : decode cX4_put 26 = .ok (.bipush (-4), 2) := by decide +kernel
theorem dX4_put_28 : decode cX4_put 28 = .ok (.ireturn, 1) := by decide +kernel
theorem dX4_put_29 : decode cX4_put 29 = .ok (.aload_n 0, 1) := by decide +kernel
theorem dX4_put_30 : decode cX4_put 30 = .ok (.getfield 30, 3) := by decide +kernel
theorem dX4_put_33 : decode cX4_put 33 = .ok (.lload_n 1, 1) := by decide +kernel
theorem dX4_put_34 : decode cX4_put 34 = .ok (.iload_n 3, 1) := by decide +kernel
theorem dX4_put_35 : decode cX4_put 35 = .ok (.invokevirtual 93, 3) := by decide +kernel
theorem dX4_put_38 : decode cX4_put 38 = .ok (.aload_n 0, 1) := by decide +kernel
theorem dX4_put_39 : decode cX4_put 39 = .ok (.getfield 30, 3) := by decide +kernel
theorem dX4_put_42 : decode cX4_put 42 = .ok (.getfield 90, 3) := by decide +kernel
theorem dX4_put_45 : decode cX4_put 45 = .ok (.ireturn, 1) := by decide +kernel
theorem dX4_wipe_0 : decode cX4_wipe 0 = .ok (.aload_n 0, 1) := by decide +kernel
theorem dX4_wipe_1 : decode cX4_wipe 1 = .ok (.getfield 30, 3) := by decide +kernel
theorem dX4_wipe_4 : decode cX4_wipe 4 = .ok (.getfield 90, 3) := by decide +kernel
theorem dX4_wipe_7 : decode cX4_wipe 7 = .ok (.istore_n 1, 1) := by decide +kernel
theorem dX4_wipe_8 : decode cX4_wipe 8 = .ok (.aload_n 0, 1) := by decide +kernel
theorem dX4_wipe_9 : decode cX4_wipe 9 = .ok (.getfield 30, 3) := by decide +kernel
theorem dX4_wipe_12 : decode cX4_wipe 12 = .ok (.iconst 0, 1) := by decide +kernel
theorem dX4_wipe_13 : decode cX4_wipe 13 = .ok (.putfield 90, 3) := by decide +kernel
theorem dX4_wipe_16 : decode cX4_wipe 16 = .ok (.iload_n 1, 1) := by decide +kernel
theorem dX4_wipe_17 : decode cX4_wipe 17 = .ok (.ireturn, 1) := by decide +kernel
theorem dX4_position_0 : decode cX4_position 0 = .ok (.aload_n 0, 1) := by decide +kernel
theorem dX4_position_1 : decode cX4_position 1 = .ok (.getfield 30, 3) := by decide +kernel
theorem dX4_position_4 : decode cX4_position 4 = .ok (.invokevirtual 97, 3) := by decide +kernel
theorem dX4_position_7 : decode cX4_position 7 = .ok (.ireturn, 1) := by decide +kernel
theorem dX4_load_0 : decode cX4_load 0 = .ok (.aload_n 0, 1) := by decide +kernel
theorem dX4_load_1 : decode cX4_load 1 = .ok (.getfield 30, 3) := by decide +kernel
theorem dX4_load_4 : decode cX4_load 4 = .ok (.invokevirtual 97, 3) := by decide +kernel
theorem dX4_load_7 : decode cX4_load 7 = .ok (.bipush (-6), 2) := by decide +kernel
theorem dX4_load_9 : decode cX4_load 9 = .ok (.if_icmp .eq 6, 3) := by decide +kernel
theorem dX4_load_12 : decode cX4_load 12 = .ok (.bipush (-3), 2) := by decide +kernel
theorem dX4_load_14 : decode cX4_load 14 = .ok (.ireturn, 1) := by decide +kernel
theorem dX4_load_15 : decode cX4_load 15 = .ok (.iconst 0, 1) := by decide +kernel
theorem dX4_load_16 : decode cX4_load 16 = .ok (.istore_n 1, 1) := by decide +kernel
theorem dX4_load_17 : decode cX4_load 17 = .ok (.iload_n 1, 1) := by decide +kernel
theorem dX4_load_18 : decode cX4_load 18 = .ok (.aload_n 0, 1) := by decide +kernel
theorem dX4_load_19 : decode cX4_load 19 = .ok (.getfield 30, 3) := by decide +kernel
theorem dX4_load_22 : decode cX4_load 22 = .ok (.getfield 101, 3) := by decide +kernel
theorem dX4_load_25 : decode cX4_load 25 = .ok (.if_icmp .ge 27, 3) := by decide +kernel
theorem dX4_load_28 : decode cX4_load 28 = .ok (.aload_n 0, 1) := by decide +kernel
theorem dX4_load_29 : decode cX4_load 29 = .ok (.aload_n 0, 1) := by decide +kernel
theorem dX4_load_30 : decode cX4_load 30 = .ok (.getfield 30, 3) := by decide +kernel
theorem dX4_load_33 : decode cX4_load 33 = .ok (.getfield 104, 3) := by decide +kernel
theorem dX4_load_36 : decode cX4_load 36 = .ok (.iload_n 1, 1) := by decide +kernel
theorem dX4_load_37 : decode cX4_load 37 = .ok (.iaload, 1) := by decide +kernel
theorem dX4_load_38 : decode cX4_load 38 = .ok (.invokevirtual 68, 3) := by decide +kernel
theorem dX4_load_41 : decode cX4_load 41 = .ok (.ifCond .ne 5, 3) := by decide +kernel
theorem dX4_load_44 : decode cX4_load 44 = .ok (.iconst (-1), 1) := by decide +kernel
theorem dX4_load_45 : decode cX4_load 45 = .ok (.ireturn, 1) := by decide +kernel
theorem dX4_load_46 : decode cX4_load 46 = .ok (.iinc 1 1, 3) := by decide +kernel
theorem dX4_load_49 : decode cX4_load 49 = .ok (.goto (-32), 3) := by decide +kernel
theorem dX4_load_52 : decode cX4_load 52 = .ok (.iconst 0, 1) := by decide +kernel
theorem dX4_load_53 : decode cX4_load 53 = .ok (.istore_n 1, 1) := by decide +kernel
theorem dX4_load_54 : decode cX4_load 54 = .ok (.iload_n 1, 1) := by decide +kernel
theorem dX4_load_55 : decode cX4_load 55 = .ok (.aload_n 0, 1) := by decide +kernel
theorem dX4_load_56 : decode cX4_load 56 = .ok (.getfield 30, 3) := by decide +kernel
theorem dX4_load_59 : decode cX4_load 59 = .ok (.getfield 101, 3) := by decide +kernel
theorem dX4_load_62 : decode cX4_load 62 = .ok (.if_icmp .ge 65, 3) := by decide +kernel
theorem dX4_load_65 : decode cX4_load 65 = .ok (.aload_n 0, 1) := by decide +kernel
theorem dX4_load_66 : decode cX4_load 66 = .ok (.getfield 10, 3) := by decide +kernel
theorem dX4_load_69 : decode cX4_load 69 = .ok (.getfield 58, 3) := by decide +kernel
theorem dX4_load_72 : decode cX4_load 72 = .ok (.aload_n 0, 1) := by decide +kernel
theorem dX4_load_73 : decode cX4_load 73 = .ok (.getfield 30, 3) := by decide +kernel
theorem dX4_load_76 : decode cX4_load 76 = .ok (.getfield 104, 3) := by decide +kernel
theorem dX4_load_79 : decode cX4_load 79 = .ok (.iload_n 1, 1) := by decide +kernel
theorem dX4_load_80 : decode cX4_load 80 = .ok (.iaload, 1) := by decide +kernel
theorem dX4_load_81 : decode cX4_load 81 = .ok (.aaload, 1) := by decide +kernel
theorem dX4_load_82 : decode cX4_load 82 = .ok (.aload_n 0, 1) := by decide +kernel
theorem dX4_load_83 : decode cX4_load 83 = .ok (.getfield 30, 3) := by decide +kernel
theorem dX4_load_86 : decode cX4_load 86 = .ok (.getfield 107, 3) := by decide +kernel
theorem dX4_load_89 : decode cX4_load 89 = .ok (.iload_n 1, 1) := by decide +kernel
theorem dX4_load_90 : decode cX4_load 90 = .ok (.iaload, 1) := by decide +kernel
theorem dX4_load_91 : decode cX4_load 91 = .ok (.aload_n 0, 1) := by decide +kernel
theorem dX4_load_92 : decode cX4_load 92 = .ok (.getfield 30, 3) := by decide +kernel
theorem dX4_load_95 : decode cX4_load 95 = .ok (.getfield 110, 3) := by decide +kernel
theorem dX4_load_98 : decode cX4_load 98 = .ok (.iload_n 1, 1) := by decide +kernel
theorem dX4_load_99 : decode cX4_load 99 = .ok (.iaload, 1) := by decide +kernel
theorem dX4_load_100 : decode cX4_load 100 = .ok (.aload_n 0, 1) := by decide +kernel
theorem dX4_load_101 : decode cX4_load 101 = .ok (.getfield 30, 3) := by decide +kernel
theorem dX4_load_104 : decode cX4_load 104 = .ok (.getfield 111, 3) := by decide +kernel
theorem dX4_load_107 : decode cX4_load 107 = .ok (.iload_n 1, 1) := by decide +kernel
theorem dX4_load_108 : decode cX4_load 108 = .ok (.iaload, 1) := by decide +kernel
theorem dX4_load_109 : decode cX4_load 109 = .ok (.aload_n 0, 1) := by decide +kernel
theorem dX4_load_110 : decode cX4_load 110 = .ok (.getfield 30, 3) := by decide +kernel
theorem dX4_load_113 : decode cX4_load 113 = .ok (.getfield 114, 3) := by decide +kernel
theorem dX4_load_116 : decode cX4_load 116 = .ok (.iload_n 1, 1) := by decide +kernel
theorem dX4_load_117 : decode cX4_load 117 = .ok (.iaload, 1) := by decide +kernel
theorem dX4_load_118 : decode cX4_load 118 = .ok (.invokevirtual 82, 3) := by decide +kernel
theorem dX4_load_121 : decode cX4_load 121 = .ok (.iinc 1 1, 3) := by decide +kernel
theorem dX4_load_124 : decode cX4_load 124 = .ok (.goto (-70), 3) := by decide +kernel
theorem dX4_load_127 : decode cX4_load 127 = .ok (.aload_n 0, 1) := by decide +kernel
theorem dX4_load_128 : decode cX4_load 128 = .ok (.getfield 30, 3) := by decide +kernel
theorem dX4_load_131 : decode cX4_load 131 = .ok (.iconst 0, 1) := by decide +kernel
theorem dX4_load_132 : decode cX4_load 132 = .ok (.putfield 90, 3) := by decide +kernel
theorem dX4_load_135 : decode cX4_load 135 = .ok (.aload_n 0, 1) := by decide +kernel
theorem dX4_load_136 : decode cX4_load 136 = .ok (.getfield 30, 3) := by decide +kernel
theorem dX4_load_139 : decode cX4_load 139 = .ok (.getfield 101, 3) := by decide +kernel
theorem dX4_load_142 : decode cX4_load 142 = .ok (.ireturn, 1) := by decide +kernel
theorem dX4_run_0 : decode cX4_run 0 = .ok (.iload_n 1, 1) := by decide +kernel
theorem dX4_run_1 : decode cX4_run 1 = .ok (.iconst 1, 1) := by decide +kernel
theorem dX4_run_2 : decode cX4_run 2 = .ok (.sipush 2000, 3) := by decide +kernel
theorem dX4_run_5 : decode cX4_run 5 = .ok (.invokestatic 75, 3) := by decide +kernel
theorem dX4_run_8 : decode cX4_run 8 = .ok (.ifCond .ne 6, 3) := by decide +kernel
theorem dX4_run_11 : decode cX4_run 11 = .ok (.bipush (-2), 2) := by decide +kernel
theorem dX4_run_13 : decode cX4_run 13 = .ok (.ireturn, 1) := by decide +kernel
theorem dX4_run_14 : decode cX4_run 14 = .ok (.aload_n 0, 1) := by decide +kernel
theorem dX4_run_15 : decode cX4_run 15 = .ok (.getfield 10, 3) := by decide +kernel
theorem dX4_run_18 : decode cX4_run 18 = .ok (.getfield 117, 3) := by decide +kernel
theorem dX4_run_21 : decode cX4_run 21 = .ok (.iload_n 1, 1) := by decide +kernel
theorem dX4_run_22 : decode cX4_run 22 = .ok (.iadd, 1) := by decide +kernel
theorem dX4_run_23 : decode cX4_run 23 = .ok (.ldc 120, 2) := by decide +kernel
theorem dX4_run_25 : decode cX4_run 25 = .ok (.if_icmp .le 6, 3) := by decide +kernel
theorem dX4_run_28 : decode cX4_run 28 = .ok (.bipush (-5), 2) := by decide +kernel
theorem dX4_run_30 : decode cX4_run 30 = .ok (.ireturn, 1) := by decide +kernel
theorem dX4_run_31 : decode cX4_run 31 = .ok (.iconst 0, 1) := by decide +kernel
theorem dX4_run_32 : decode cX4_run 32 = .ok (.istore_n 2, 1) := by decide +kernel
theorem dX4_run_33 : decode cX4_run 33 = .ok (.iload_n 2, 1) := by decide +kernel
theorem dX4_run_34 : decode cX4_run 34 = .ok (.iload_n 1, 1) := by decide +kernel
theorem dX4_run_35 : decode cX4_run 35 = .ok (.if_icmp .ge 17, 3) := by decide +kernel
theorem dX4_run_38 : decode cX4_run 38 = .ok (.aload_n 0, 1) := by decide +kernel
theorem dX4_run_39 : decode cX4_run 39 = .ok (.getfield 10, 3) := by decide +kernel
theorem dX4_run_42 : decode cX4_run 42 = .ok (.invokevirtual 121, 3) := by decide +kernel
theorem dX4_run_45 : decode cX4_run 45 = .ok (.pop, 1) := by decide +kernel
theorem dX4_run_46 : decode cX4_run 46 = .ok (.iinc 2 1, 3) := by decide +kernel
theorem dX4_run_49 : decode cX4_run 49 = .ok (.goto (-16), 3) := by decide +kernel
theorem dX4_run_52 : decode cX4_run 52 = .ok (.aload_n 0, 1) := by decide +kernel
theorem dX4_run_53 : decode cX4_run 53 = .ok (.getfield 10, 3) := by decide +kernel
theorem dX4_run_56 : decode cX4_run 56 = .ok (.getfield 117, 3) := by decide +kernel
theorem dX4_run_59 : decode cX4_run 59 = .ok (.ireturn, 1) := by decide +kernel
theorem dX4_runToReset_0 : decode cX4_runToReset 0 = .ok (.iload_n 1, 1) := by decide +kernel
theorem dX4_runToReset_1 : decode cX4_runToReset 1 = .ok (.iconst 1, 1) := by decide +kernel
theorem dX4_runToReset_2 : decode cX4_runToReset 2 = .ok (.sipush 2000, 3) := by decide +kernel
theorem dX4_runToReset_5 : decode cX4_runToReset 5 = .ok (.invokestatic 75, 3) := by decide +kernel
theorem dX4_runToReset_8 : decode cX4_runToReset 8 = .ok (.ifCond .ne 6, 3) := by decide +kernel
theorem dX4_runToReset_11 : decode cX4_runToReset 11 = .ok (.bipush (-2), 2) := by decide +kernel
theorem dX4_runToReset_13 : decode cX4_runToReset 13 = .ok (.ireturn, 1) := by decide +kernel
theorem dX4_runToReset_14 : decode cX4_runToReset 14 = .ok (.aload_n 0, 1) := by decide +kernel
theorem dX4_runToReset_15 : decode cX4_runToReset 15 = .ok (.getfield 10, 3) := by decide +kernel
theorem dX4_runToReset_18 : decode cX4_runToReset 18 = .ok (.getfield 117, 3) := by decide +kernel
theorem dX4_runToReset_21 : decode cX4_runToReset 21 = .ok (.iload_n 1, 1) := by decide +kernel
theorem dX4_runToReset_22 : decode cX4_runToReset 22 = .ok (.iadd, 1) := by decide +kernel
theorem dX4_runToReset_23 : decode cX4_runToReset 23 = .ok (.ldc 120, 2) := by decide +kernel
theorem dX4_runToReset_25 : decode cX4_runToReset 25 = .ok (.if_icmp .le 6, 3) := by decide +kernel
theorem dX4_runToReset_28 : decode cX4_runToReset 28 = .ok (.bipush (-5), 2) := by decide +kernel
theorem dX4_runToReset_30 : decode cX4_runToReset 30 = .ok (.ireturn, 1) := by decide +kernel
theorem dX4_runToReset_31 : decode cX4_runToReset 31 = .ok (.aload_n 0, 1) := by decide +kernel
theorem dX4_runToReset_32 : decode cX4_runToReset 32 = .ok (.getfield 10, 3) := by decide +kernel
theorem dX4_runToReset_35 : decode cX4_runToReset 35 = .ok (.iload_n 1, 1) := by decide +kernel
theorem dX4_runToReset_36 : decode cX4_runToReset 36 = .ok (.invokevirtual 125, 3) := by decide +kernel
theorem dX4_runToReset_39 : decode cX4_runToReset 39 = .ok (.istore_n 2, 1) := by decide +kernel
theorem dX4_runToReset_40 : decode cX4_runToReset 40 = .ok (.iload_n 2, 1) := by decide +kernel
theorem dX4_runToReset_41 : decode cX4_runToReset 41 = .ok (.bipush (-6), 2) := by decide +kernel
theorem dX4_runToReset_43 : decode cX4_runToReset 43 = .ok (.if_icmp .ne 7, 3) := by decide +kernel
theorem dX4_runToReset_46 : decode cX4_runToReset 46 = .ok (.iload_n 1, 1) := by decide +kernel
theorem dX4_runToReset_47 : decode cX4_runToReset 47 = .ok (.goto 4, 3) := by decide +kernel
theorem dX4_runToReset_50 : decode cX4_runToReset 50 = .ok (.iload_n 2, 1) := by decide +kernel
theorem dX4_runToReset_51 : decode cX4_runToReset 51 = .ok (.ireturn, 1) := by decide +kernel
theorem dX4_kick_0 : decode cX4_kick 0 = .ok (.aload_n 0, 1) := by decide +kernel
theorem dX4_kick_1 : decode cX4_kick 1 = .ok (.getfield 10, 3) := by decide +kernel
theorem dX4_kick_4 : decode cX4_kick 4 = .ok (.getfield 129, 3) := by decide +kernel
theorem dX4_kick_7 : decode cX4_kick 7 = .ok (.iconst 1, 1) := by decide +kernel
theorem dX4_kick_8 : decode cX4_kick 8 = .ok (.if_icmp .eq 6, 3) := by decide +kernel
theorem dX4_kick_11 : decode cX4_kick 11 = .ok (.bipush (-5), 2) := by decide +kernel
theorem dX4_kick_13 : decode cX4_kick 13 = .ok (.ireturn, 1) := by decide +kernel
theorem dX4_kick_14 : decode cX4_kick 14 = .ok (.aload_n 0, 1) := by decide +kernel
theorem dX4_kick_15 : decode cX4_kick 15 = .ok (.getfield 10, 3) := by decide +kernel
theorem dX4_kick_18 : decode cX4_kick 18 = .ok (.getfield 132, 3) := by decide +kernel
theorem dX4_kick_21 : decode cX4_kick 21 = .ok (.istore_n 1, 1) := by decide +kernel
theorem dX4_kick_22 : decode cX4_kick 22 = .ok (.iload_n 1, 1) := by decide +kernel
theorem dX4_kick_23 : decode cX4_kick 23 = .ok (.aload_n 0, 1) := by decide +kernel
theorem dX4_kick_24 : decode cX4_kick 24 = .ok (.getfield 10, 3) := by decide +kernel
theorem dX4_kick_27 : decode cX4_kick 27 = .ok (.getfield 45, 3) := by decide +kernel
theorem dX4_kick_30 : decode cX4_kick 30 = .ok (.iconst 0, 1) := by decide +kernel
theorem dX4_kick_31 : decode cX4_kick 31 = .ok (.iaload, 1) := by decide +kernel
theorem dX4_kick_32 : decode cX4_kick 32 = .ok (.if_icmp .ge 21, 3) := by decide +kernel
theorem dX4_kick_35 : decode cX4_kick 35 = .ok (.aload_n 0, 1) := by decide +kernel
theorem dX4_kick_36 : decode cX4_kick 36 = .ok (.getfield 10, 3) := by decide +kernel
theorem dX4_kick_39 : decode cX4_kick 39 = .ok (.iconst 1, 1) := by decide +kernel
theorem dX4_kick_40 : decode cX4_kick 40 = .ok (.aload_n 0, 1) := by decide +kernel
theorem dX4_kick_41 : decode cX4_kick 41 = .ok (.getfield 10, 3) := by decide +kernel
theorem dX4_kick_44 : decode cX4_kick 44 = .ok (.invokevirtual 135, 3) := by decide +kernel
theorem dX4_kick_47 : decode cX4_kick 47 = .ok (.invokevirtual 138, 3) := by decide +kernel
theorem dX4_kick_50 : decode cX4_kick 50 = .ok (.goto 11, 3) := by decide +kernel
theorem dX4_kick_53 : decode cX4_kick 53 = .ok (.aload_n 0, 1) := by decide +kernel
theorem dX4_kick_54 : decode cX4_kick 54 = .ok (.getfield 10, 3) := by decide +kernel
theorem dX4_kick_57 : decode cX4_kick 57 = .ok (.iconst 0, 1) := by decide +kernel
theorem dX4_kick_58 : decode cX4_kick 58 = .ok (.putfield 132, 3) := by decide +kernel
theorem dX4_kick_61 : decode cX4_kick 61 = .ok (.iload_n 1, 1) := by decide +kernel
theorem dX4_kick_62 : decode cX4_kick 62 = .ok (.ireturn, 1) := by decide +kernel
theorem dX4_reset_0 : decode cX4_reset 0 = .ok (.aload_n 0, 1) := by decide +kernel
theorem dX4_reset_1 : decode cX4_reset 1 = .ok (.getfield 10, 3) := by decide +kernel
theorem dX4_reset_4 : decode cX4_reset 4 = .ok (.getfield 129, 3) := by decide +kernel
theorem dX4_reset_7 : decode cX4_reset 7 = .ok (.iconst 1, 1) := by decide +kernel
theorem dX4_reset_8 : decode cX4_reset 8 = .ok (.if_icmp .eq 6, 3) := by decide +kernel
theorem dX4_reset_11 : decode cX4_reset 11 = .ok (.bipush (-5), 2) := by decide +kernel
theorem dX4_reset_13 : decode cX4_reset 13 = .ok (.ireturn, 1) := by decide +kernel
theorem dX4_reset_14 : decode cX4_reset 14 = .ok (.aload_n 0, 1) := by decide +kernel
theorem dX4_reset_15 : decode cX4_reset 15 = .ok (.getfield 10, 3) := by decide +kernel
theorem dX4_reset_18 : decode cX4_reset 18 = .ok (.getfield 141, 3) := by decide +kernel
theorem dX4_reset_21 : decode cX4_reset 21 = .ok (.getfield 145, 3) := by decide +kernel
theorem dX4_reset_24 : decode cX4_reset 24 = .ok (.istore_n 1, 1) := by decide +kernel
theorem dX4_reset_25 : decode cX4_reset 25 = .ok (.aload_n 0, 1) := by decide +kernel
theorem dX4_reset_26 : decode cX4_reset 26 = .ok (.getfield 10, 3) := by decide +kernel
theorem dX4_reset_29 : decode cX4_reset 29 = .ok (.iconst 4, 1) := by decide +kernel
theorem dX4_reset_30 : decode cX4_reset 30 = .ok (.aload_n 0, 1) := by decide +kernel
theorem dX4_reset_31 : decode cX4_reset 31 = .ok (.getfield 10, 3) := by decide +kernel
theorem dX4_reset_34 : decode cX4_reset 34 = .ok (.invokevirtual 135, 3) := by decide +kernel
theorem dX4_reset_37 : decode cX4_reset 37 = .ok (.invokevirtual 138, 3) := by decide +kernel
theorem dX4_reset_40 : decode cX4_reset 40 = .ok (.iload_n 1, 1) := by decide +kernel
theorem dX4_reset_41 : decode cX4_reset 41 = .ok (.ireturn, 1) := by decide +kernel
theorem dX4_powerCycle_0 : decode cX4_powerCycle 0 = .ok (.aload_n 0, 1) := by decide +kernel
theorem dX4_powerCycle_1 : decode cX4_powerCycle 1 = .ok (.getfield 10, 3) := by decide +kernel
theorem dX4_powerCycle_4 : decode cX4_powerCycle 4 = .ok (.getfield 129, 3) := by decide +kernel
theorem dX4_powerCycle_7 : decode cX4_powerCycle 7 = .ok (.istore_n 1, 1) := by decide +kernel
theorem dX4_powerCycle_8 : decode cX4_powerCycle 8 = .ok (.aload_n 0, 1) := by decide +kernel
theorem dX4_powerCycle_9 : decode cX4_powerCycle 9 = .ok (.getfield 10, 3) := by decide +kernel
theorem dX4_powerCycle_12 : decode cX4_powerCycle 12 = .ok (.invokevirtual 150, 3) := by decide +kernel
theorem dX4_powerCycle_15 : decode cX4_powerCycle 15 = .ok (.iload_n 1, 1) := by decide +kernel
theorem dX4_powerCycle_16 : decode cX4_powerCycle 16 = .ok (.ireturn, 1) := by decide +kernel
theorem dX4_state_0 : decode cX4_state 0 = .ok (.iload_n 1, 1) := by decide +kernel
theorem dX4_state_1 : decode cX4_state 1 = .ok (.bipush 13, 2) := by decide +kernel
theorem dX4_state_3 : decode cX4_state 3 = .ok (.bipush 20, 2) := by decide +kernel
theorem dX4_state_5 : decode cX4_state 5 = .ok (.invokestatic 75, 3) := by decide +kernel
theorem dX4_state_8 : decode cX4_state 8 = .ok (.ifCond .eq 16, 3) := by decide +kernel
theorem dX4_state_11 : decode cX4_state 11 = .ok (.aload_n 0, 1) := by decide +kernel
theorem dX4_state_12 : decode cX4_state 12 = .ok (.getfield 10, 3) := by decide +kernel
theorem dX4_state_15 : decode cX4_state 15 = .ok (.getfield 45, 3) := by decide +kernel
theorem dX4_state_18 : decode cX4_state 18 = .ok (.iload_n 1, 1) := by decide +kernel
theorem dX4_state_19 : decode cX4_state 19 = .ok (.bipush 13, 2) := by decide +kernel
theorem dX4_state_21 : decode cX4_state 21 = .ok (.isub, 1) := by decide +kernel
theorem dX4_state_22 : decode cX4_state 22 = .ok (.iaload, 1) := by decide +kernel
theorem dX4_state_23 : decode cX4_state 23 = .ok (.ireturn, 1) := by decide +kernel
theorem dX4_state_24 : decode cX4_state 24 = .ok (.iload_n 1, 1) := by decide +kernel
theorem dX4_state_25 : decode cX4_state 25 = .ok (.tableswitch 223 0 12 #[67, 75, 83, 91, 99, 121, 136, 151, 166, 181, 192, 200, 215], 67) := by decide +kernel
theorem dX4_state_92 : decode cX4_state 92 = .ok (.aload_n 0, 1) := by decide +kernel
theorem dX4_state_93 : decode cX4_state 93 = .ok (.getfield 10, 3) := by decide +kernel
theorem dX4_state_96 : decode cX4_state 96 = .ok (.getfield 117, 3) := by decide +kernel
theorem dX4_state_99 : decode cX4_state 99 = .ok (.ireturn, 1) := by decide +kernel
theorem dX4_state_100 : decode cX4_state 100 = .ok (.aload_n 0, 1) := by decide +kernel
theorem dX4_state_101 : decode cX4_state 101 = .ok (.getfield 10, 3) := by decide +kernel
theorem dX4_state_104 : decode cX4_state 104 = .ok (.getfield 129, 3) := by decide +kernel
theorem dX4_state_107 : decode cX4_state 107 = .ok (.ireturn, 1) := by decide +kernel
theorem dX4_state_108 : decode cX4_state 108 = .ok (.aload_n 0, 1) := by decide +kernel
theorem dX4_state_109 : decode cX4_state 109 = .ok (.getfield 10, 3) := by decide +kernel
theorem dX4_state_112 : decode cX4_state 112 = .ok (.getfield 153, 3) := by decide +kernel
theorem dX4_state_115 : decode cX4_state 115 = .ok (.ireturn, 1) := by decide +kernel
theorem dX4_state_116 : decode cX4_state 116 = .ok (.aload_n 0, 1) := by decide +kernel
theorem dX4_state_117 : decode cX4_state 117 = .ok (.getfield 10, 3) := by decide +kernel
theorem dX4_state_120 : decode cX4_state 120 = .ok (.getfield 156, 3) := by decide +kernel
theorem dX4_state_123 : decode cX4_state 123 = .ok (.ireturn, 1) := by decide +kernel
theorem dX4_state_124 : decode cX4_state 124 = .ok (.aload_n 0, 1) := by decide +kernel
theorem dX4_state_125 : decode cX4_state 125 = .ok (.getfield 10, 3) := by decide +kernel
theorem dX4_state_128 : decode cX4_state 128 = .ok (.getfield 129, 3) := by decide +kernel
theorem dX4_state_131 : decode cX4_state 131 = .ok (.ifCond .ne 13, 3) := by decide +kernel
theorem dX4_state_134 : decode cX4_state 134 = .ok (.aload_n 0, 1) := by decide +kernel
theorem dX4_state_135 : decode cX4_state 135 = .ok (.getfield 10, 3) := by decide +kernel
theorem dX4_state_138 : decode cX4_state 138 = .ok (.getfield 159, 3) := by decide +kernel
theorem dX4_state_141 : decode cX4_state 141 = .ok (.goto 4, 3) := by decide +kernel
theorem dX4_state_144 : decode cX4_state 144 = .ok (.iconst 0, 1) := by decide +kernel
theorem dX4_state_145 : decode cX4_state 145 = .ok (.ireturn, 1) := by decide +kernel
theorem dX4_state_146 : decode cX4_state 146 = .ok (.aload_n 0, 1) := by decide +kernel
theorem dX4_state_147 : decode cX4_state 147 = .ok (.getfield 10, 3) := by decide +kernel
theorem dX4_state_150 : decode cX4_state 150 = .ok (.aload_n 0, 1) := by decide +kernel
theorem dX4_state_151 : decode cX4_state 151 = .ok (.getfield 10, 3) := by decide +kernel
theorem dX4_state_154 : decode cX4_state 154 = .ok (.getfield 162, 3) := by decide +kernel
theorem dX4_state_157 : decode cX4_state 157 = .ok (.invokevirtual 165, 3) := by decide +kernel
theorem dX4_state_160 : decode cX4_state 160 = .ok (.ireturn, 1) := by decide +kernel
theorem dX4_state_161 : decode cX4_state 161 = .ok (.aload_n 0, 1) := by decide +kernel
theorem dX4_state_162 : decode cX4_state 162 = .ok (.getfield 10, 3) := by decide +kernel
theorem dX4_state_165 : decode cX4_state 165 = .ok (.aload_n 0, 1) := by decide +kernel
theorem dX4_state_166 : decode cX4_state 166 = .ok (.getfield 10, 3) := by decide +kernel
theorem dX4_state_169 : decode cX4_state 169 = .ok (.getfield 132, 3) := by decide +kernel
theorem dX4_state_172 : decode cX4_state 172 = .ok (.invokevirtual 165, 3) := by decide +kernel
theorem dX4_state_175 : decode cX4_state 175 = .ok (.ireturn, 1) := by decide +kernel
theorem dX4_state_176 : decode cX4_state 176 = .ok (.aload_n 0, 1) := by decide +kernel
theorem dX4_state_177 : decode cX4_state 177 = .ok (.getfield 10, 3) := by decide +kernel
theorem dX4_state_180 : decode cX4_state 180 = .ok (.aload_n 0, 1) := by decide +kernel
theorem dX4_state_181 : decode cX4_state 181 = .ok (.getfield 10, 3) := by decide +kernel
theorem dX4_state_184 : decode cX4_state 184 = .ok (.getfield 168, 3) := by decide +kernel
theorem dX4_state_187 : decode cX4_state 187 = .ok (.invokevirtual 165, 3) := by decide +kernel
theorem dX4_state_190 : decode cX4_state 190 = .ok (.ireturn, 1) := by decide +kernel
theorem dX4_state_191 : decode cX4_state 191 = .ok (.aload_n 0, 1) := by decide +kernel
theorem dX4_state_192 : decode cX4_state 192 = .ok (.getfield 10, 3) := by decide +kernel
theorem dX4_state_195 : decode cX4_state 195 = .ok (.aload_n 0, 1) := by decide +kernel
theorem dX4_state_196 : decode cX4_state 196 = .ok (.getfield 10, 3) := by decide +kernel
theorem dX4_state_199 : decode cX4_state 199 = .ok (.getfield 171, 3) := by decide +kernel
theorem dX4_state_202 : decode cX4_state 202 = .ok (.invokevirtual 165, 3) := by decide +kernel
theorem dX4_state_205 : decode cX4_state 205 = .ok (.ireturn, 1) := by decide +kernel
theorem dX4_state_206 : decode cX4_state 206 = .ok (.aload_n 0, 1) := by decide +kernel
theorem dX4_state_207 : decode cX4_state 207 = .ok (.getfield 10, 3) := by decide +kernel
theorem dX4_state_210 : decode cX4_state 210 = .ok (.getfield 141, 3) := by decide +kernel
theorem dX4_state_213 : decode cX4_state 213 = .ok (.getfield 145, 3) := by decide +kernel
theorem dX4_state_216 : decode cX4_state 216 = .ok (.ireturn, 1) := by decide +kernel
theorem dX4_state_217 : decode cX4_state 217 = .ok (.aload_n 0, 1) := by decide +kernel
theorem dX4_state_218 : decode cX4_state 218 = .ok (.getfield 10, 3) := by decide +kernel
theorem dX4_state_221 : decode cX4_state 221 = .ok (.getfield 54, 3) := by decide +kernel
theorem dX4_state_224 : decode cX4_state 224 = .ok (.ireturn, 1) := by decide +kernel
theorem dX4_state_225 : decode cX4_state 225 = .ok (.aload_n 0, 1) := by decide +kernel
theorem dX4_state_226 : decode cX4_state 226 = .ok (.getfield 10, 3) := by decide +kernel
theorem dX4_state_229 : decode cX4_state 229 = .ok (.aload_n 0, 1) := by decide +kernel
theorem dX4_state_230 : decode cX4_state 230 = .ok (.getfield 10, 3) := by decide +kernel
theorem dX4_state_233 : decode cX4_state 233 = .ok (.invokevirtual 174, 3) := by decide +kernel
theorem dX4_state_236 : decode cX4_state 236 = .ok (.invokevirtual 165, 3) := by decide +kernel
theorem dX4_state_239 : decode cX4_state 239 = .ok (.ireturn, 1) := by decide +kernel
theorem dX4_state_240 : decode cX4_state 240 = .ok (.aload_n 0, 1) := by decide +kernel
theorem dX4_state_241 : decode cX4_state 241 = .ok (.getfield 30, 3) := by decide +kernel
theorem dX4_state_244 : decode cX4_state 244 = .ok (.getfield 90, 3) := by decide +kernel
theorem dX4_state_247 : decode cX4_state 247 = .ok (.ireturn, 1) := by decide +kernel
theorem dX4_state_248 : decode cX4_state 248 = .ok (.bipush (-2), 2) := by decide +kernel
theorem dX4_state_250 : decode cX4_state 250 = .ok (.ireturn, 1) := by decide +kernel
theorem dX4_task_0 : decode cX4_task 0 = .ok (.aload_n 0, 1) := by decide +kernel
theorem dX4_task_1 : decode cX4_task 1 = .ok (.iload_n 1, 1) := by decide +kernel
theorem dX4_task_2 : decode cX4_task 2 = .ok (.invokevirtual 68, 3) := by decide +kernel
theorem dX4_task_5 : decode cX4_task 5 = .ok (.ifCond .ne 5, 3) := by decide +kernel
theorem dX4_task_8 : decode cX4_task 8 = .ok (.iconst (-1), 1) := by decide +kernel
theorem dX4_task_9 : decode cX4_task 9 = .ok (.ireturn, 1) := by decide +kernel
theorem dX4_task_10 : decode cX4_task 10 = .ok (.aload_n 0, 1) := by decide +kernel
theorem dX4_task_11 : decode cX4_task 11 = .ok (.getfield 10, 3) := by decide +kernel
theorem dX4_task_14 : decode cX4_task 14 = .ok (.getfield 58, 3) := by decide +kernel
theorem dX4_task_17 : decode cX4_task 17 = .ok (.iload_n 1, 1) := by decide +kernel
theorem dX4_task_18 : decode cX4_task 18 = .ok (.aaload, 1) := by decide +kernel
theorem dX4_task_19 : decode cX4_task 19 = .ok (.astore_n 3, 1) := by decide +kernel
theorem dX4_task_20 : decode cX4_task 20 = .ok (.iload_n 2, 1) := by decide +kernel
theorem dX4_task_21 : decode cX4_task 21 = .ok (.iconst 0, 1) := by decide +kernel
theorem dX4_task_22 : decode cX4_task 22 = .ok (.bipush 7, 2) := by decide +kernel
theorem dX4_task_24 : decode cX4_task 24 = .ok (.invokestatic 75, 3) := by decide +kernel
theorem dX4_task_27 : decode cX4_task 27 = .ok (.ifCond .eq 10, 3) := by decide +kernel
theorem dX4_task_30 : decode cX4_task 30 = .ok (.aload_n 3, 1) := by decide +kernel
theorem dX4_task_31 : decode cX4_task 31 = .ok (.getfield 72, 3) := by decide +kernel
theorem dX4_task_34 : decode cX4_task 34 = .ok (.iload_n 2, 1) := by decide +kernel
theorem dX4_task_35 : decode cX4_task 35 = .ok (.iaload, 1) := by decide +kernel
theorem dX4_task_36 : decode cX4_task 36 = .ok (.ireturn, 1) := by decide +kernel
theorem dX4_task_37 : decode cX4_task 37 = .ok (.iload_n 2, 1) := by decide +kernel
theorem dX4_task_38 : decode cX4_task 38 = .ok (.bipush 8, 2) := by decide +kernel
theorem dX4_task_40 : decode cX4_task 40 = .ok (.bipush 13, 2) := by decide +kernel
theorem dX4_task_42 : decode cX4_task 42 = .ok (.invokestatic 75, 3) := by decide +kernel
theorem dX4_task_45 : decode cX4_task 45 = .ok (.ifCond .eq 16, 3) := by decide +kernel
theorem dX4_task_48 : decode cX4_task 48 = .ok (.aload_n 0, 1) := by decide +kernel
theorem dX4_task_49 : decode cX4_task 49 = .ok (.getfield 10, 3) := by decide +kernel
theorem dX4_task_52 : decode cX4_task 52 = .ok (.aload_n 3, 1) := by decide +kernel
theorem dX4_task_53 : decode cX4_task 53 = .ok (.iload_n 2, 1) := by decide +kernel
theorem dX4_task_54 : decode cX4_task 54 = .ok (.invokevirtual 177, 3) := by decide +kernel
theorem dX4_task_57 : decode cX4_task 57 = .ok (.invokevirtual 165, 3) := by decide +kernel
theorem dX4_task_60 : decode cX4_task 60 = .ok (.ireturn, 1) := by decide +kernel
theorem dX4_task_61 : decode cX4_task 61 = .ok (.iload_n 2, 1) := by decide +kernel
theorem dX4_task_62 : decode cX4_task 62 = .ok (.tableswitch 75 14 18 #[34, 41, 48, 53, 70], 34) := by decide +kernel
theorem dX4_task_96 : decode cX4_task 96 = .ok (.aload_n 3, 1) := by decide +kernel
theorem dX4_task_97 : decode cX4_task 97 = .ok (.getfield 79, 3) := by decide +kernel
theorem dX4_task_100 : decode cX4_task 100 = .ok (.iconst 0, 1) := by decide +kernel
theorem dX4_task_101 : decode cX4_task 101 = .ok (.iaload, 1) := by decide +kernel
theorem dX4_task_102 : decode cX4_task 102 = .ok (.ireturn, 1) := by decide +kernel
theorem dX4_task_103 : decode cX4_task 103 = .ok (.aload_n 3, 1) := by decide +kernel
theorem dX4_task_104 : decode cX4_task 104 = .ok (.getfield 79, 3) := by decide +kernel
theorem dX4_task_107 : decode cX4_task 107 = .ok (.iconst 1, 1) := by decide +kernel
theorem dX4_task_108 : decode cX4_task 108 = .ok (.iaload, 1) := by decide +kernel
theorem dX4_task_109 : decode cX4_task 109 = .ok (.ireturn, 1) := by decide +kernel
theorem dX4_task_110 : decode cX4_task 110 = .ok (.aload_n 3, 1) := by decide +kernel
theorem dX4_task_111 : decode cX4_task 111 = .ok (.getfield 180, 3) := by decide +kernel
theorem dX4_task_114 : decode cX4_task 114 = .ok (.ireturn, 1) := by decide +kernel
theorem dX4_task_115 : decode cX4_task 115 = .ok (.aload_n 3, 1) := by decide +kernel
theorem dX4_task_116 : decode cX4_task 116 = .ok (.getfield 183, 3) := by decide +kernel
theorem dX4_task_119 : decode cX4_task 119 = .ok (.ifCond .eq 10, 3) := by decide +kernel
theorem dX4_task_122 : decode cX4_task 122 = .ok (.aload_n 3, 1) := by decide +kernel
theorem dX4_task_123 : decode cX4_task 123 = .ok (.getfield 187, 3) := by decide +kernel
theorem dX4_task_126 : decode cX4_task 126 = .ok (.goto 5, 3) := by decide +kernel
theorem dX4_task_129 : decode cX4_task 129 = .ok (.bipush (-6), 2) := by decide +kernel
theorem dX4_task_131 : decode cX4_task 131 = .ok (.ireturn, 1) := by decide +kernel
theorem dX4_task_132 : decode cX4_task 132 = .ok (.aload_n 3, 1) := by decide +kernel
theorem dX4_task_133 : decode cX4_task 133 = .ok (.getfield 190, 3) := by decide +kernel
theorem dX4_task_136 : decode cX4_task 136 = .ok (.ireturn, 1) := by decide +kernel
theorem dX4_task_137 : decode cX4_task 137 = .ok (.bipush (-2), 2) := by decide +kernel
theorem dX4_task_139 : decode cX4_task 139 = .ok (.ireturn, 1) := by decide +kernel
theorem dX4_record_0 : decode cX4_record 0 = .ok (.iload_n 2, 1) := by decide +kernel
theorem dX4_record_1 : decode cX4_record 1 = .ok (.iconst 0, 1) := by decide +kernel
theorem dX4_record_2 : decode cX4_record 2 = .ok (.iconst 4, 1) := by decide +kernel
theorem dX4_record_3 : decode cX4_record 3 = .ok (.invokestatic 75, 3) := by decide +kernel
theorem dX4_record_6 : decode cX4_record 6 = .ok (.ifCond .ne 6, 3) := by decide +kernel
theorem dX4_record_9 : decode cX4_record 9 = .ok (.bipush (-2), 2) := by decide +kernel
theorem dX4_record_11 : decode cX4_record 11 = .ok (.ireturn, 1) := by decide +kernel
theorem dX4_record_12 : decode cX4_record 12 = .ok (.aload_n 0, 1) := by decide +kernel
theorem dX4_record_13 : decode cX4_record 13 = .ok (.getfield 10, 3) := by decide +kernel
theorem dX4_record_16 : decode cX4_record 16 = .ok (.getfield 141, 3) := by decide +kernel
theorem dX4_record_19 : decode cX4_record 19 = .ok (.iload_n 1, 1) := by decide +kernel
theorem dX4_record_20 : decode cX4_record 20 = .ok (.iload_n 2, 1) := by decide +kernel
theorem dX4_record_21 : decode cX4_record 21 = .ok (.invokevirtual 193, 3) := by decide +kernel
theorem dX4_record_24 : decode cX4_record 24 = .ok (.ireturn, 1) := by decide +kernel
theorem dX4_clear_0 : decode cX4_clear 0 = .ok (.aload_n 0, 1) := by decide +kernel
theorem dX4_clear_1 : decode cX4_clear 1 = .ok (.iload_n 1, 1) := by decide +kernel
theorem dX4_clear_2 : decode cX4_clear 2 = .ok (.invokevirtual 68, 3) := by decide +kernel
theorem dX4_clear_5 : decode cX4_clear 5 = .ok (.ifCond .ne 5, 3) := by decide +kernel
theorem dX4_clear_8 : decode cX4_clear 8 = .ok (.iconst (-1), 1) := by decide +kernel
theorem dX4_clear_9 : decode cX4_clear 9 = .ok (.ireturn, 1) := by decide +kernel
theorem dX4_clear_10 : decode cX4_clear 10 = .ok (.aload_n 0, 1) := by decide +kernel
theorem dX4_clear_11 : decode cX4_clear 11 = .ok (.getfield 10, 3) := by decide +kernel
theorem dX4_clear_14 : decode cX4_clear 14 = .ok (.getfield 58, 3) := by decide +kernel
theorem dX4_clear_17 : decode cX4_clear 17 = .ok (.iload_n 1, 1) := by decide +kernel
theorem dX4_clear_18 : decode cX4_clear 18 = .ok (.aaload, 1) := by decide +kernel
theorem dX4_clear_19 : decode cX4_clear 19 = .ok (.getfield 180, 3) := by decide +kernel
theorem dX4_clear_22 : decode cX4_clear 22 = .ok (.istore_n 2, 1) := by decide +kernel
theorem dX4_clear_23 : decode cX4_clear 23 = .ok (.aload_n 0, 1) := by decide +kernel
theorem dX4_clear_24 : decode cX4_clear 24 = .ok (.getfield 10, 3) := by decide +kernel
theorem dX4_clear_27 : decode cX4_clear 27 = .ok (.getfield 58, 3) := by decide +kernel
theorem dX4_clear_30 : decode cX4_clear 30 = .ok (.iload_n 1, 1) := by decide +kernel
theorem dX4_clear_31 : decode cX4_clear 31 = .ok (.aaload, 1) := by decide +kernel
theorem dX4_clear_32 : decode cX4_clear 32 = .ok (.invokevirtual 197, 3) := by decide +kernel
theorem dX4_clear_35 : decode cX4_clear 35 = .ok (.iload_n 2, 1) := by decide +kernel
theorem dX4_clear_36 : decode cX4_clear 36 = .ok (.ireturn, 1) := by decide +kernel
theorem dX4_forecast_0 : decode cX4_forecast 0 = .ok (.iload_n 1, 1) := by decide +kernel
theorem dX4_forecast_1 : decode cX4_forecast 1 = .ok (.iconst 1, 1) := by decide +kernel
theorem dX4_forecast_2 : decode cX4_forecast 2 = .ok (.sipush 5000, 3) := by decide +kernel
theorem dX4_forecast_5 : decode cX4_forecast 5 = .ok (.invokestatic 75, 3) := by decide +kernel
theorem dX4_forecast_8 : decode cX4_forecast 8 = .ok (.ifCond .ne 6, 3) := by decide +kernel
theorem dX4_forecast_11 : decode cX4_forecast 11 = .ok (.bipush (-2), 2) := by decide +kernel
theorem dX4_forecast_13 : decode cX4_forecast 13 = .ok (.ireturn, 1) := by decide +kernel
theorem dX4_forecast_14 : decode cX4_forecast 14 = .ok (.aload_n 0, 1) := by decide +kernel
theorem dX4_forecast_15 : decode cX4_forecast 15 = .ok (.getfield 16, 3) := by decide +kernel
theorem dX4_forecast_18 : decode cX4_forecast 18 = .ok (.aload_n 0, 1) := by decide +kernel
theorem dX4_forecast_19 : decode cX4_forecast 19 = .ok (.getfield 10, 3) := by decide +kernel
theorem dX4_forecast_22 : decode cX4_forecast 22 = .ok (.invokevirtual 200, 3) := by decide +kernel
theorem dX4_forecast_25 : decode cX4_forecast 25 = .ok (.aload_n 0, 1) := by decide +kernel
theorem dX4_forecast_26 : decode cX4_forecast 26 = .ok (.getfield 16, 3) := by decide +kernel
theorem dX4_forecast_29 : decode cX4_forecast 29 = .ok (.iload_n 1, 1) := by decide +kernel
theorem dX4_forecast_30 : decode cX4_forecast 30 = .ok (.invokevirtual 125, 3) := by decide +kernel
theorem dX4_forecast_33 : decode cX4_forecast 33 = .ok (.ireturn, 1) := by decide +kernel
theorem dX4_worstHang_0 : decode cX4_worstHang 0 = .ok (.aload_n 0, 1) := by decide +kernel
theorem dX4_worstHang_1 : decode cX4_worstHang 1 = .ok (.iload_n 1, 1) := by decide +kernel
theorem dX4_worstHang_2 : decode cX4_worstHang 2 = .ok (.invokevirtual 68, 3) := by decide +kernel
theorem dX4_worstHang_5 : decode cX4_worstHang 5 = .ok (.ifCond .ne 5, 3) := by decide +kernel
theorem dX4_worstHang_8 : decode cX4_worstHang 8 = .ok (.iconst (-1), 1) := by decide +kernel
theorem dX4_worstHang_9 : decode cX4_worstHang 9 = .ok (.ireturn, 1) := by decide +kernel
theorem dX4_worstHang_10 : decode cX4_worstHang 10 = .ok (.iload_n 2, 1) := by decide +kernel
theorem dX4_worstHang_11 : decode cX4_worstHang 11 = .ok (.iconst 1, 1) := by decide +kernel
theorem dX4_worstHang_12 : decode cX4_worstHang 12 = .ok (.sipush 4000, 3) := by decide +kernel
theorem dX4_worstHang_15 : decode cX4_worstHang 15 = .ok (.invokestatic 75, 3) := by decide +kernel
theorem dX4_worstHang_18 : decode cX4_worstHang 18 = .ok (.ifCond .eq 25, 3) := by decide +kernel
theorem dX4_worstHang_21 : decode cX4_worstHang 21 = .ok (.iload_n 3, 1) := by decide +kernel
theorem dX4_worstHang_22 : decode cX4_worstHang 22 = .ok (.iconst 1, 1) := by decide +kernel
theorem dX4_worstHang_23 : decode cX4_worstHang 23 = .ok (.bipush 60, 2) := by decide +kernel
theorem dX4_worstHang_25 : decode cX4_worstHang 25 = .ok (.invokestatic 75, 3) := by decide +kernel
theorem dX4_worstHang_28 : decode cX4_worstHang 28 = .ok (.ifCond .eq 15, 3) := by decide +kernel
theorem dX4_worstHang_31 : decode cX4_worstHang 31 = .ok (.iload 4, 2) := by decide +kernel
theorem dX4_worstHang_33 : decode cX4_worstHang 33 = .ok (.iconst 1, 1) := by decide +kernel
theorem dX4_worstHang_34 : decode cX4_worstHang 34 = .ok (.sipush 5000, 3) := by decide +kernel
theorem dX4_worstHang_37 : decode cX4_worstHang 37 = .ok (.invokestatic 75, 3) := by decide +kernel
theorem dX4_worstHang_40 : decode cX4_worstHang 40 = .ok (.ifCond .ne 6, 3) := by decide +kernel
theorem dX4_worstHang_43 : decode cX4_worstHang 43 = .ok (.bipush (-2), 2) := by decide +kernel
theorem dX4_worstHang_45 : decode cX4_worstHang 45 = .ok (.ireturn, 1) := by decide +kernel
theorem dX4_worstHang_46 : decode cX4_worstHang 46 = .ok (.sipush (-5000), 3) := by decide +kernel
theorem dX4_worstHang_49 : decode cX4_worstHang 49 = .ok (.istore 5, 2) := by decide +kernel
theorem dX4_worstHang_51 : decode cX4_worstHang 51 = .ok (.iload_n 2, 1) := by decide +kernel
theorem dX4_worstHang_52 : decode cX4_worstHang 52 = .ok (.istore 6, 2) := by decide +kernel
theorem dX4_worstHang_54 : decode cX4_worstHang 54 = .ok (.iload 6, 2) := by decide +kernel
theorem dX4_worstHang_56 : decode cX4_worstHang 56 = .ok (.iload_n 2, 1) := by decide +kernel
theorem dX4_worstHang_57 : decode cX4_worstHang 57 = .ok (.iload_n 3, 1) := by decide +kernel
theorem dX4_worstHang_58 : decode cX4_worstHang 58 = .ok (.iadd, 1) := by decide +kernel
theorem dX4_worstHang_59 : decode cX4_worstHang 59 = .ok (.if_icmp .ge 80, 3) := by decide +kernel
theorem dX4_worstHang_62 : decode cX4_worstHang 62 = .ok (.aload_n 0, 1) := by decide +kernel
theorem dX4_worstHang_63 : decode cX4_worstHang 63 = .ok (.invokevirtual 204, 3) := by decide +kernel
theorem dX4_worstHang_66 : decode cX4_worstHang 66 = .ok (.aload_n 0, 1) := by decide +kernel
theorem dX4_worstHang_67 : decode cX4_worstHang 67 = .ok (.getfield 16, 3) := by decide +kernel
theorem dX4_worstHang_70 : decode cX4_worstHang 70 = .ok (.getfield 58, 3) := by decide +kernel
theorem dX4_worstHang_73 : decode cX4_worstHang 73 = .ok (.iload_n 1, 1) := by decide +kernel
theorem dX4_worstHang_74 : decode cX4_worstHang 74 = .ok (.aaload, 1) := by decide +kernel
theorem dX4_worstHang_75 : decode cX4_worstHang 75 = .ok (.iconst 0, 1) := by decide +kernel
theorem dX4_worstHang_76 : decode cX4_worstHang 76 = .ok (.iconst 1, 1) := by decide +kernel
theorem dX4_worstHang_77 : decode cX4_worstHang 77 = .ok (.iload 6, 2) := by decide +kernel
theorem dX4_worstHang_79 : decode cX4_worstHang 79 = .ok (.iconst 0, 1) := by decide +kernel
theorem dX4_worstHang_80 : decode cX4_worstHang 80 = .ok (.invokevirtual 82, 3) := by decide +kernel
theorem dX4_worstHang_83 : decode cX4_worstHang 83 = .ok (.aload_n 0, 1) := by decide +kernel
theorem dX4_worstHang_84 : decode cX4_worstHang 84 = .ok (.getfield 16, 3) := by decide +kernel
theorem dX4_worstHang_87 : decode cX4_worstHang 87 = .ok (.iload 4, 2) := by decide +kernel
theorem dX4_worstHang_89 : decode cX4_worstHang 89 = .ok (.invokevirtual 125, 3) := by decide +kernel
theorem dX4_worstHang_92 : decode cX4_worstHang 92 = .ok (.bipush (-6), 2) := by decide +kernel
theorem dX4_worstHang_94 : decode cX4_worstHang 94 = .ok (.if_icmp .ne 6, 3) := by decide +kernel
theorem dX4_worstHang_97 : decode cX4_worstHang 97 = .ok (.bipush (-6), 2) := by decide +kernel
theorem dX4_worstHang_99 : decode cX4_worstHang 99 = .ok (.ireturn, 1) := by decide +kernel
theorem dX4_worstHang_100 : decode cX4_worstHang 100 = .ok (.iload 5, 2) := by decide +kernel
theorem dX4_worstHang_102 : decode cX4_worstHang 102 = .ok (.aload_n 0, 1) := by decide +kernel
theorem dX4_worstHang_103 : decode cX4_worstHang 103 = .ok (.getfield 16, 3) := by decide +kernel
theorem dX4_worstHang_106 : decode cX4_worstHang 106 = .ok (.getfield 141, 3) := by decide +kernel
theorem dX4_worstHang_109 : decode cX4_worstHang 109 = .ok (.aload_n 0, 1) := by decide +kernel
theorem dX4_worstHang_110 : decode cX4_worstHang 110 = .ok (.getfield 16, 3) := by decide +kernel
theorem dX4_worstHang_113 : decode cX4_worstHang 113 = .ok (.getfield 141, 3) := by decide +kernel
theorem dX4_worstHang_116 : decode cX4_worstHang 116 = .ok (.getfield 145, 3) := by decide +kernel
theorem dX4_worstHang_119 : decode cX4_worstHang 119 = .ok (.iconst 1, 1) := by decide +kernel
theorem dX4_worstHang_120 : decode cX4_worstHang 120 = .ok (.isub, 1) := by decide +kernel
theorem dX4_worstHang_121 : decode cX4_worstHang 121 = .ok (.iconst 4, 1) := by decide +kernel
theorem dX4_worstHang_122 : decode cX4_worstHang 122 = .ok (.invokevirtual 193, 3) := by decide +kernel
theorem dX4_worstHang_125 : decode cX4_worstHang 125 = .ok (.iload 6, 2) := by decide +kernel
theorem dX4_worstHang_127 : decode cX4_worstHang 127 = .ok (.isub, 1) := by decide +kernel
theorem dX4_worstHang_128 : decode cX4_worstHang 128 = .ok (.invokestatic 207, 3) := by decide +kernel
theorem dX4_worstHang_131 : decode cX4_worstHang 131 = .ok (.istore 5, 2) := by decide +kernel
theorem dX4_worstHang_133 : decode cX4_worstHang 133 = .ok (.iinc 6 1, 3) := by decide +kernel
theorem dX4_worstHang_136 : decode cX4_worstHang 136 = .ok (.goto (-82), 3) := by decide +kernel
theorem dX4_worstHang_139 : decode cX4_worstHang 139 = .ok (.iload 5, 2) := by decide +kernel
theorem dX4_worstHang_141 : decode cX4_worstHang 141 = .ok (.ireturn, 1) := by decide +kernel
theorem dX4_greatestKick_0 : decode cX4_greatestKick 0 = .ok (.iload_n 1, 1) := by decide +kernel
theorem dX4_greatestKick_1 : decode cX4_greatestKick 1 = .ok (.iconst 1, 1) := by decide +kernel
theorem dX4_greatestKick_2 : decode cX4_greatestKick 2 = .ok (.sipush 1000, 3) := by decide +kernel
theorem dX4_greatestKick_5 : decode cX4_greatestKick 5 = .ok (.invokestatic 75, 3) := by decide +kernel
theorem dX4_greatestKick_8 : decode cX4_greatestKick 8 = .ok (.ifCond .ne 6, 3) := by decide +kernel
theorem dX4_greatestKick_11 : decode cX4_greatestKick 11 = .ok (.bipush (-2), 2) := by decide +kernel
theorem dX4_greatestKick_13 : decode cX4_greatestKick 13 = .ok (.ireturn, 1) := by decide +kernel
theorem dX4_greatestKick_14 : decode cX4_greatestKick 14 = .ok (.aload_n 0, 1) := by decide +kernel
theorem dX4_greatestKick_15 : decode cX4_greatestKick 15 = .ok (.sipush 2000, 3) := by decide +kernel
theorem dX4_greatestKick_18 : decode cX4_greatestKick 18 = .ok (.iload_n 1, 1) := by decide +kernel
theorem dX4_greatestKick_19 : decode cX4_greatestKick 19 = .ok (.invokevirtual 212, 3) := by decide +kernel
theorem dX4_greatestKick_22 : decode cX4_greatestKick 22 = .ok (.ifCond .eq 7, 3) := by decide +kernel
theorem dX4_greatestKick_25 : decode cX4_greatestKick 25 = .ok (.sipush 2000, 3) := by decide +kernel
theorem dX4_greatestKick_28 : decode cX4_greatestKick 28 = .ok (.ireturn, 1) := by decide +kernel
theorem dX4_greatestKick_29 : decode cX4_greatestKick 29 = .ok (.iconst 1, 1) := by decide +kernel
theorem dX4_greatestKick_30 : decode cX4_greatestKick 30 = .ok (.aload_n 0, 1) := by decide +kernel
theorem dX4_greatestKick_31 : decode cX4_greatestKick 31 = .ok (.getfield 10, 3) := by decide +kernel
theorem dX4_greatestKick_34 : decode cX4_greatestKick 34 = .ok (.getfield 45, 3) := by decide +kernel
theorem dX4_greatestKick_37 : decode cX4_greatestKick 37 = .ok (.iconst 2, 1) := by decide +kernel
theorem dX4_greatestKick_38 : decode cX4_greatestKick 38 = .ok (.iaload, 1) := by decide +kernel
theorem dX4_greatestKick_39 : decode cX4_greatestKick 39 = .ok (.invokestatic 207, 3) := by decide +kernel
theorem dX4_greatestKick_42 : decode cX4_greatestKick 42 = .ok (.istore_n 2, 1) := by decide +kernel
theorem dX4_greatestKick_43 : decode cX4_greatestKick 43 = .ok (.sipush 1999, 3) := by decide +kernel
theorem dX4_greatestKick_46 : decode cX4_greatestKick 46 = .ok (.iload_n 2, 1) := by decide +kernel
theorem dX4_greatestKick_47 : decode cX4_greatestKick 47 = .ok (.idiv, 1) := by decide +kernel
theorem dX4_greatestKick_48 : decode cX4_greatestKick 48 = .ok (.istore_n 3, 1) := by decide +kernel
theorem dX4_greatestKick_49 : decode cX4_greatestKick 49 = .ok (.iload_n 3, 1) := by decide +kernel
theorem dX4_greatestKick_50 : decode cX4_greatestKick 50 = .ok (.ifCond .lt 24, 3) := by decide +kernel
theorem dX4_greatestKick_53 : decode cX4_greatestKick 53 = .ok (.aload_n 0, 1) := by decide +kernel
theorem dX4_greatestKick_54 : decode cX4_greatestKick 54 = .ok (.iload_n 3, 1) := by decide +kernel
theorem dX4_greatestKick_55 : decode cX4_greatestKick 55 = .ok (.iload_n 2, 1) := by decide +kernel
theorem dX4_greatestKick_56 : decode cX4_greatestKick 56 = .ok (.imul, 1) := by decide +kernel
theorem dX4_greatestKick_57 : decode cX4_greatestKick 57 = .ok (.iload_n 1, 1) := by decide +kernel
theorem dX4_greatestKick_58 : decode cX4_greatestKick 58 = .ok (.invokevirtual 212, 3) := by decide +kernel
theorem dX4_greatestKick_61 : decode cX4_greatestKick 61 = .ok (.ifCond .eq 7, 3) := by decide +kernel
theorem dX4_greatestKick_64 : decode cX4_greatestKick 64 = .ok (.iload_n 3, 1) := by decide +kernel
theorem dX4_greatestKick_65 : decode cX4_greatestKick 65 = .ok (.iload_n 2, 1) := by decide +kernel
theorem dX4_greatestKick_66 : decode cX4_greatestKick 66 = .ok (.imul, 1) := by decide +kernel
theorem dX4_greatestKick_67 : decode cX4_greatestKick 67 = .ok (.ireturn, 1) := by decide +kernel
theorem dX4_greatestKick_68 : decode cX4_greatestKick 68 = .ok (.iinc 3 (-1), 3) := by decide +kernel
theorem dX4_greatestKick_71 : decode cX4_greatestKick 71 = .ok (.goto (-22), 3) := by decide +kernel
theorem dX4_greatestKick_74 : decode cX4_greatestKick 74 = .ok (.bipush (-6), 2) := by decide +kernel
theorem dX4_greatestKick_76 : decode cX4_greatestKick 76 = .ok (.ireturn, 1) := by decide +kernel
theorem dX4_save_0 : decode cX4_save 0 = .ok (.iload_n 1, 1) := by decide +kernel
theorem dX4_save_1 : decode cX4_save 1 = .ok (.iconst 0, 1) := by decide +kernel
theorem dX4_save_2 : decode cX4_save 2 = .ok (.iconst 1, 1) := by decide +kernel
theorem dX4_save_3 : decode cX4_save 3 = .ok (.invokestatic 75, 3) := by decide +kernel
theorem dX4_save_6 : decode cX4_save 6 = .ok (.ifCond .ne 6, 3) := by decide +kernel
theorem dX4_save_9 : decode cX4_save 9 = .ok (.bipush (-2), 2) := by decide +kernel
theorem dX4_save_11 : decode cX4_save 11 = .ok (.ireturn, 1) := by decide +kernel
theorem dX4_save_12 : decode cX4_save 12 = .ok (.aload_n 0, 1) := by decide +kernel
theorem dX4_save_13 : decode cX4_save 13 = .ok (.getfield 19, 3) := by decide +kernel
theorem dX4_save_16 : decode cX4_save 16 = .ok (.iload_n 1, 1) := by decide +kernel
theorem dX4_save_17 : decode cX4_save 17 = .ok (.aaload, 1) := by decide +kernel
theorem dX4_save_18 : decode cX4_save 18 = .ok (.aload_n 0, 1) := by decide +kernel
theorem dX4_save_19 : decode cX4_save 19 = .ok (.getfield 10, 3) := by decide +kernel
theorem dX4_save_22 : decode cX4_save 22 = .ok (.invokevirtual 200, 3) := by decide +kernel
theorem dX4_save_25 : decode cX4_save 25 = .ok (.aload_n 0, 1) := by decide +kernel
theorem dX4_save_26 : decode cX4_save 26 = .ok (.getfield 23, 3) := by decide +kernel
theorem dX4_save_29 : decode cX4_save 29 = .ok (.iload_n 1, 1) := by decide +kernel
theorem dX4_save_30 : decode cX4_save 30 = .ok (.iconst 1, 1) := by decide +kernel
theorem dX4_save_31 : decode cX4_save 31 = .ok (.bastore, 1) := by decide +kernel
theorem dX4_save_32 : decode cX4_save 32 = .ok (.aload_n 0, 1) := by decide +kernel
theorem dX4_save_33 : decode cX4_save 33 = .ok (.getfield 10, 3) := by decide +kernel
theorem dX4_save_36 : decode cX4_save 36 = .ok (.getfield 117, 3) := by decide +kernel
theorem dX4_save_39 : decode cX4_save 39 = .ok (.ireturn, 1) := by decide +kernel
theorem dX4_restore_0 : decode cX4_restore 0 = .ok (.iload_n 1, 1) := by decide +kernel
theorem dX4_restore_1 : decode cX4_restore 1 = .ok (.iconst 0, 1) := by decide +kernel
theorem dX4_restore_2 : decode cX4_restore 2 = .ok (.iconst 1, 1) := by decide +kernel
theorem dX4_restore_3 : decode cX4_restore 3 = .ok (.invokestatic 75, 3) := by decide +kernel
theorem dX4_restore_6 : decode cX4_restore 6 = .ok (.ifCond .ne 6, 3) := by decide +kernel
theorem dX4_restore_9 : decode cX4_restore 9 = .ok (.bipush (-2), 2) := by decide +kernel
theorem dX4_restore_11 : decode cX4_restore 11 = .ok (.ireturn, 1) := by decide +kernel
theorem dX4_restore_12 : decode cX4_restore 12 = .ok (.aload_n 0, 1) := by decide +kernel
theorem dX4_restore_13 : decode cX4_restore 13 = .ok (.getfield 23, 3) := by decide +kernel
theorem dX4_restore_16 : decode cX4_restore 16 = .ok (.iload_n 1, 1) := by decide +kernel
theorem dX4_restore_17 : decode cX4_restore 17 = .ok (.baload, 1) := by decide +kernel
theorem dX4_restore_18 : decode cX4_restore 18 = .ok (.ifCond .ne 6, 3) := by decide +kernel
theorem dX4_restore_21 : decode cX4_restore 21 = .ok (.bipush (-5), 2) := by decide +kernel
theorem dX4_restore_23 : decode cX4_restore 23 = .ok (.ireturn, 1) := by decide +kernel
theorem dX4_restore_24 : decode cX4_restore 24 = .ok (.aload_n 0, 1) := by decide +kernel
theorem dX4_restore_25 : decode cX4_restore 25 = .ok (.getfield 10, 3) := by decide +kernel
theorem dX4_restore_28 : decode cX4_restore 28 = .ok (.aload_n 0, 1) := by decide +kernel
theorem dX4_restore_29 : decode cX4_restore 29 = .ok (.getfield 19, 3) := by decide +kernel
theorem dX4_restore_32 : decode cX4_restore 32 = .ok (.iload_n 1, 1) := by decide +kernel
theorem dX4_restore_33 : decode cX4_restore 33 = .ok (.aaload, 1) := by decide +kernel
theorem dX4_restore_34 : decode cX4_restore 34 = .ok (.invokevirtual 200, 3) := by decide +kernel
theorem dX4_restore_37 : decode cX4_restore 37 = .ok (.aload_n 0, 1) := by decide +kernel
theorem dX4_restore_38 : decode cX4_restore 38 = .ok (.getfield 10, 3) := by decide +kernel
theorem dX4_restore_41 : decode cX4_restore 41 = .ok (.getfield 117, 3) := by decide +kernel
theorem dX4_restore_44 : decode cX4_restore 44 = .ok (.ireturn, 1) := by decide +kernel
theorem dX4_hasTask_0 : decode cX4_hasTask 0 = .ok (.iload_n 1, 1) := by decide +kernel
theorem dX4_hasTask_1 : decode cX4_hasTask 1 = .ok (.iconst 0, 1) := by decide +kernel
theorem dX4_hasTask_2 : decode cX4_hasTask 2 = .ok (.aload_n 0, 1) := by decide +kernel
theorem dX4_hasTask_3 : decode cX4_hasTask 3 = .ok (.getfield 10, 3) := by decide +kernel
theorem dX4_hasTask_6 : decode cX4_hasTask 6 = .ok (.getfield 54, 3) := by decide +kernel
theorem dX4_hasTask_9 : decode cX4_hasTask 9 = .ok (.iconst 1, 1) := by decide +kernel
theorem dX4_hasTask_10 : decode cX4_hasTask 10 = .ok (.isub, 1) := by decide +kernel
theorem dX4_hasTask_11 : decode cX4_hasTask 11 = .ok (.invokestatic 75, 3) := by decide +kernel
theorem dX4_hasTask_14 : decode cX4_hasTask 14 = .ok (.ireturn, 1) := by decide +kernel
theorem dX4_prepareTrial_0 : decode cX4_prepareTrial 0 = .ok (.aload_n 0, 1) := by decide +kernel
theorem dX4_prepareTrial_1 : decode cX4_prepareTrial 1 = .ok (.getfield 16, 3) := by decide +kernel
theorem dX4_prepareTrial_4 : decode cX4_prepareTrial 4 = .ok (.aload_n 0, 1) := by decide +kernel
theorem dX4_prepareTrial_5 : decode cX4_prepareTrial 5 = .ok (.getfield 10, 3) := by decide +kernel
theorem dX4_prepareTrial_8 : decode cX4_prepareTrial 8 = .ok (.invokevirtual 200, 3) := by decide +kernel
theorem dX4_prepareTrial_11 : decode cX4_prepareTrial 11 = .ok (.aload_n 0, 1) := by decide +kernel
theorem dX4_prepareTrial_12 : decode cX4_prepareTrial 12 = .ok (.getfield 16, 3) := by decide +kernel
theorem dX4_prepareTrial_15 : decode cX4_prepareTrial 15 = .ok (.invokevirtual 216, 3) := by decide +kernel
theorem dX4_prepareTrial_18 : decode cX4_prepareTrial 18 = .ok (.aload_n 0, 1) := by decide +kernel
theorem dX4_prepareTrial_19 : decode cX4_prepareTrial 19 = .ok (.getfield 16, 3) := by decide +kernel
theorem dX4_prepareTrial_22 : decode cX4_prepareTrial 22 = .ok (.invokevirtual 150, 3) := by decide +kernel
theorem dX4_prepareTrial_25 : decode cX4_prepareTrial 25 = .ok (.return_, 1) := by decide +kernel
theorem dX4_staysUp_0 : decode cX4_staysUp 0 = .ok (.aload_n 0, 1) := by decide +kernel
theorem dX4_staysUp_1 : decode cX4_staysUp 1 = .ok (.invokevirtual 204, 3) := by decide +kernel
theorem dX4_staysUp_4 : decode cX4_staysUp 4 = .ok (.aload_n 0, 1) := by decide +kernel
theorem dX4_staysUp_5 : decode cX4_staysUp 5 = .ok (.getfield 16, 3) := by decide +kernel
theorem dX4_staysUp_8 : decode cX4_staysUp 8 = .ok (.getfield 45, 3) := by decide +kernel
theorem dX4_staysUp_11 : decode cX4_staysUp 11 = .ok (.iconst 3, 1) := by decide +kernel
theorem dX4_staysUp_12 : decode cX4_staysUp 12 = .ok (.iload_n 1, 1) := by decide +kernel
theorem dX4_staysUp_13 : decode cX4_staysUp 13 = .ok (.iastore, 1) := by decide +kernel
theorem dX4_staysUp_14 : decode cX4_staysUp 14 = .ok (.aload_n 0, 1) := by decide +kernel
theorem dX4_staysUp_15 : decode cX4_staysUp 15 = .ok (.getfield 16, 3) := by decide +kernel
theorem dX4_staysUp_18 : decode cX4_staysUp 18 = .ok (.iload_n 2, 1) := by decide +kernel
theorem dX4_staysUp_19 : decode cX4_staysUp 19 = .ok (.invokevirtual 125, 3) := by decide +kernel
theorem dX4_staysUp_22 : decode cX4_staysUp 22 = .ok (.bipush (-6), 2) := by decide +kernel
theorem dX4_staysUp_24 : decode cX4_staysUp 24 = .ok (.if_icmp .ne 7, 3) := by decide +kernel
theorem dX4_staysUp_27 : decode cX4_staysUp 27 = .ok (.iconst 1, 1) := by decide +kernel
theorem dX4_staysUp_28 : decode cX4_staysUp 28 = .ok (.goto 4, 3) := by decide +kernel
theorem dX4_staysUp_31 : decode cX4_staysUp 31 = .ok (.iconst 0, 1) := by decide +kernel
theorem dX4_staysUp_32 : decode cX4_staysUp 32 = .ok (.ireturn, 1) := by decide +kernel
theorem dX4_isWithin_0 : decode cX4_isWithin 0 = .ok (.iload_n 0, 1) := by decide +kernel
theorem dX4_isWithin_1 : decode cX4_isWithin 1 = .ok (.iload_n 1, 1) := by decide +kernel
theorem dX4_isWithin_2 : decode cX4_isWithin 2 = .ok (.if_icmp .lt 12, 3) := by decide +kernel
theorem dX4_isWithin_5 : decode cX4_isWithin 5 = .ok (.iload_n 0, 1) := by decide +kernel
theorem dX4_isWithin_6 : decode cX4_isWithin 6 = .ok (.iload_n 2, 1) := by decide +kernel
theorem dX4_isWithin_7 : decode cX4_isWithin 7 = .ok (.if_icmp .gt 7, 3) := by decide +kernel
theorem dX4_isWithin_10 : decode cX4_isWithin 10 = .ok (.iconst 1, 1) := by decide +kernel
theorem dX4_isWithin_11 : decode cX4_isWithin 11 = .ok (.goto 4, 3) := by decide +kernel
theorem dX4_isWithin_14 : decode cX4_isWithin 14 = .ok (.iconst 0, 1) := by decide +kernel
theorem dX4_isWithin_15 : decode cX4_isWithin 15 = .ok (.ireturn, 1) := by decide +kernel
theorem dX4_isAllowed_0 : decode cX4_isAllowed 0 = .ok (.iload_n 0, 1) := by decide +kernel
theorem dX4_isAllowed_1 : decode cX4_isAllowed 1 = .ok (.ifCond .lt 32, 3) := by decide +kernel
theorem dX4_isAllowed_4 : decode cX4_isAllowed 4 = .ok (.iload_n 0, 1) := by decide +kernel
theorem dX4_isAllowed_5 : decode cX4_isAllowed 5 = .ok (.aload_n 2, 1) := by decide +kernel
theorem dX4_isAllowed_6 : decode cX4_isAllowed 6 = .ok (.arraylength, 1) := by decide +kernel
theorem dX4_isAllowed_7 : decode cX4_isAllowed 7 = .ok (.if_icmp .ge 26, 3) := by decide +kernel
theorem dX4_isAllowed_10 : decode cX4_isAllowed 10 = .ok (.iload_n 0, 1) := by decide +kernel
theorem dX4_isAllowed_11 : decode cX4_isAllowed 11 = .ok (.aload_n 3, 1) := by decide +kernel
theorem dX4_isAllowed_12 : decode cX4_isAllowed 12 = .ok (.arraylength, 1) := by decide +kernel
theorem dX4_isAllowed_13 : decode cX4_isAllowed 13 = .ok (.if_icmp .ge 20, 3) := by decide +kernel
theorem dX4_isAllowed_16 : decode cX4_isAllowed 16 = .ok (.iload_n 1, 1) := by decide +kernel
theorem dX4_isAllowed_17 : decode cX4_isAllowed 17 = .ok (.aload_n 2, 1) := by decide +kernel
theorem dX4_isAllowed_18 : decode cX4_isAllowed 18 = .ok (.iload_n 0, 1) := by decide +kernel
theorem dX4_isAllowed_19 : decode cX4_isAllowed 19 = .ok (.iaload, 1) := by decide +kernel
theorem dX4_isAllowed_20 : decode cX4_isAllowed 20 = .ok (.aload_n 3, 1) := by decide +kernel
theorem dX4_isAllowed_21 : decode cX4_isAllowed 21 = .ok (.iload_n 0, 1) := by decide +kernel
theorem dX4_isAllowed_22 : decode cX4_isAllowed 22 = .ok (.iaload, 1) := by decide +kernel
theorem dX4_isAllowed_23 : decode cX4_isAllowed 23 = .ok (.invokestatic 75, 3) := by decide +kernel
theorem dX4_isAllowed_26 : decode cX4_isAllowed 26 = .ok (.ifCond .eq 7, 3) := by decide +kernel
theorem dX4_isAllowed_29 : decode cX4_isAllowed 29 = .ok (.iconst 1, 1) := by decide +kernel
theorem dX4_isAllowed_30 : decode cX4_isAllowed 30 = .ok (.goto 4, 3) := by decide +kernel
theorem dX4_isAllowed_33 : decode cX4_isAllowed 33 = .ok (.iconst 0, 1) := by decide +kernel
theorem dX4_isAllowed_34 : decode cX4_isAllowed 34 = .ok (.ireturn, 1) := by decide +kernel
theorem dX4_divides_0 : decode cX4_divides 0 = .ok (.iload_n 0, 1) := by decide +kernel
theorem dX4_divides_1 : decode cX4_divides 1 = .ok (.ifCond .le 13, 3) := by decide +kernel
theorem dX4_divides_4 : decode cX4_divides 4 = .ok (.iload_n 1, 1) := by decide +kernel
theorem dX4_divides_5 : decode cX4_divides 5 = .ok (.iload_n 0, 1) := by decide +kernel
theorem dX4_divides_6 : decode cX4_divides 6 = .ok (.irem, 1) := by decide +kernel
theorem dX4_divides_7 : decode cX4_divides 7 = .ok (.ifCond .ne 7, 3) := by decide +kernel
theorem dX4_divides_10 : decode cX4_divides 10 = .ok (.iconst 1, 1) := by decide +kernel
theorem dX4_divides_11 : decode cX4_divides 11 = .ok (.goto 4, 3) := by decide +kernel
theorem dX4_divides_14 : decode cX4_divides 14 = .ok (.iconst 0, 1) := by decide +kernel
theorem dX4_divides_15 : decode cX4_divides 15 = .ok (.ireturn, 1) := by decide +kernel
theorem dX4_countSigns_0 : decode cX4_countSigns 0 = .ok (.lload_n 0, 1) := by decide +kernel
theorem dX4_countSigns_1 : decode cX4_countSigns 1 = .ok (.lstore_n 2, 1) := by decide +kernel
theorem dX4_countSigns_2 : decode cX4_countSigns 2 = .ok (.iconst 0, 1) := by decide +kernel
theorem dX4_countSigns_3 : decode cX4_countSigns 3 = .ok (.istore 4, 2) := by decide +kernel
theorem dX4_countSigns_5 : decode cX4_countSigns 5 = .ok (.iload 4, 2) := by decide +kernel
theorem dX4_countSigns_7 : decode cX4_countSigns 7 = .ok (.bipush 8, 2) := by decide +kernel
theorem dX4_countSigns_9 : decode cX4_countSigns 9 = .ok (.if_icmp .ge 42, 3) := by decide +kernel
theorem dX4_countSigns_12 : decode cX4_countSigns 12 = .ok (.lload_n 2, 1) := by decide +kernel
theorem dX4_countSigns_13 : decode cX4_countSigns 13 = .ok (.ldc2_w 219, 3) := by decide +kernel
theorem dX4_countSigns_16 : decode cX4_countSigns 16 = .ok (.land, 1) := by decide +kernel
theorem dX4_countSigns_17 : decode cX4_countSigns 17 = .ok (.lconst 0, 1) := by decide +kernel
theorem dX4_countSigns_18 : decode cX4_countSigns 18 = .ok (.lcmp, 1) := by decide +kernel
theorem dX4_countSigns_19 : decode cX4_countSigns 19 = .ok (.ifCond .eq 32, 3) := by decide +kernel
theorem dX4_countSigns_22 : decode cX4_countSigns 22 = .ok (.lload_n 2, 1) := by decide +kernel
theorem dX4_countSigns_23 : decode cX4_countSigns 23 = .ok (.ldc2_w 219, 3) := by decide +kernel
theorem dX4_countSigns_26 : decode cX4_countSigns 26 = .ok (.land, 1) := by decide +kernel
theorem dX4_countSigns_27 : decode cX4_countSigns 27 = .ok (.l2i, 1) := by decide +kernel
theorem dX4_countSigns_28 : decode cX4_countSigns 28 = .ok (.bipush 33, 2) := by decide +kernel
theorem dX4_countSigns_30 : decode cX4_countSigns 30 = .ok (.bipush 126, 2) := by decide +kernel
theorem dX4_countSigns_32 : decode cX4_countSigns 32 = .ok (.invokestatic 75, 3) := by decide +kernel
theorem dX4_countSigns_35 : decode cX4_countSigns 35 = .ok (.ifCond .ne 5, 3) := by decide +kernel
theorem dX4_countSigns_38 : decode cX4_countSigns 38 = .ok (.iconst 0, 1) := by decide +kernel
theorem dX4_countSigns_39 : decode cX4_countSigns 39 = .ok (.ireturn, 1) := by decide +kernel
theorem dX4_countSigns_40 : decode cX4_countSigns 40 = .ok (.lload_n 2, 1) := by decide +kernel
theorem dX4_countSigns_41 : decode cX4_countSigns 41 = .ok (.bipush 8, 2) := by decide +kernel
theorem dX4_countSigns_43 : decode cX4_countSigns 43 = .ok (.lushr, 1) := by decide +kernel
theorem dX4_countSigns_44 : decode cX4_countSigns 44 = .ok (.lstore_n 2, 1) := by decide +kernel
theorem dX4_countSigns_45 : decode cX4_countSigns 45 = .ok (.iinc 4 1, 3) := by decide +kernel
theorem dX4_countSigns_48 : decode cX4_countSigns 48 = .ok (.goto (-43), 3) := by decide +kernel
theorem dX4_countSigns_51 : decode cX4_countSigns 51 = .ok (.lload_n 2, 1) := by decide +kernel
theorem dX4_countSigns_52 : decode cX4_countSigns 52 = .ok (.lconst 0, 1) := by decide +kernel
theorem dX4_countSigns_53 : decode cX4_countSigns 53 = .ok (.lcmp, 1) := by decide +kernel
theorem dX4_countSigns_54 : decode cX4_countSigns 54 = .ok (.ifCond .ne 8, 3) := by decide +kernel
theorem dX4_countSigns_57 : decode cX4_countSigns 57 = .ok (.iload 4, 2) := by decide +kernel
theorem dX4_countSigns_59 : decode cX4_countSigns 59 = .ok (.goto 4, 3) := by decide +kernel
theorem dX4_countSigns_62 : decode cX4_countSigns 62 = .ok (.iconst 0, 1) := by decide +kernel
theorem dX4_countSigns_63 : decode cX4_countSigns 63 = .ok (.ireturn, 1) := by decide +kernel
end
section
theorem dX5_init_0 : decode cX5_init 0 = .ok (.aload_n 0, 1) := by decide +kernel
theorem dX5_init_1 : decode cX5_init 1 = .ok (.invokespecial 1, 3) := by decide +kernel
theorem dX5_init_4 : decode cX5_init 4 = .ok (.aload_n 0, 1) := by decide +kernel
theorem dX5_init_5 : decode cX5_init 5 = .ok (.sipush 255, 3) := by decide +kernel
theorem dX5_init_8 : decode cX5_init 8 = .ok (.newarray .int, 2) := by decide +kernel
theorem dX5_init_10 : decode cX5_init 10 = .ok (.putfield 7, 3) := by decide +kernel
theorem dX5_init_13 : decode cX5_init 13 = .ok (.aload_n 0, 1) := by decide +kernel
theorem dX5_init_14 : decode cX5_init 14 = .ok (.sipush 255, 3) := by decide +kernel
theorem dX5_init_17 : decode cX5_init 17 = .ok (.newarray .int, 2) := by decide +kernel
theorem dX5_init_19 : decode cX5_init 19 = .ok (.putfield 13, 3) := by decide +kernel
theorem dX5_init_22 : decode cX5_init 22 = .ok (.aload_n 0, 1) := by decide +kernel
theorem dX5_init_23 : decode cX5_init 23 = .ok (.sipush 510, 3) := by decide +kernel
theorem dX5_init_26 : decode cX5_init 26 = .ok (.newarray .int, 2) := by decide +kernel
theorem dX5_init_28 : decode cX5_init 28 = .ok (.putfield 16, 3) := by decide +kernel
theorem dX5_init_31 : decode cX5_init 31 = .ok (.aload_n 0, 1) := by decide +kernel
theorem dX5_init_32 : decode cX5_init 32 = .ok (.iconst 2, 1) := by decide +kernel
theorem dX5_init_33 : decode cX5_init 33 = .ok (.newarray .boolean, 2) := by decide +kernel
theorem dX5_init_35 : decode cX5_init 35 = .ok (.putfield 19, 3) := by decide +kernel
theorem dX5_init_38 : decode cX5_init 38 = .ok (.aload_n 0, 1) := by decide +kernel
theorem dX5_init_39 : decode cX5_init 39 = .ok (.bipush 60, 2) := by decide +kernel
theorem dX5_init_41 : decode cX5_init 41 = .ok (.newarray .int, 2) := by decide +kernel
theorem dX5_init_43 : decode cX5_init 43 = .ok (.putfield 23, 3) := by decide +kernel
theorem dX5_init_46 : decode cX5_init 46 = .ok (.aload_n 0, 1) := by decide +kernel
theorem dX5_init_47 : decode cX5_init 47 = .ok (.sipush 155, 3) := by decide +kernel
theorem dX5_init_50 : decode cX5_init 50 = .ok (.newarray .int, 2) := by decide +kernel
theorem dX5_init_52 : decode cX5_init 52 = .ok (.putfield 26, 3) := by decide +kernel
theorem dX5_init_55 : decode cX5_init 55 = .ok (.aload_n 0, 1) := by decide +kernel
theorem dX5_init_56 : decode cX5_init 56 = .ok (.getfield 7, 3) := by decide +kernel
theorem dX5_init_59 : decode cX5_init 59 = .ok (.iconst 0, 1) := by decide +kernel
theorem dX5_init_60 : decode cX5_init 60 = .ok (.bipush 20, 2) := by decide +kernel
theorem dX5_init_62 : decode cX5_init 62 = .ok (.iastore, 1) := by decide +kernel
theorem dX5_init_63 : decode cX5_init 63 = .ok (.aload_n 0, 1) := by decide +kernel
theorem dX5_init_64 : decode cX5_init 64 = .ok (.getfield 7, 3) := by decide +kernel
theorem dX5_init_67 : decode cX5_init 67 = .ok (.iconst 1, 1) := by decide +kernel
theorem dX5_init_68 : decode cX5_init 68 = .ok (.bipush 100, 2) := by decide +kernel
theorem dX5_init_70 : decode cX5_init 70 = .ok (.iastore, 1) := by decide +kernel
theorem dX5_init_71 : decode cX5_init 71 = .ok (.aload_n 0, 1) := by decide +kernel
theorem dX5_init_72 : decode cX5_init 72 = .ok (.getfield 7, 3) := by decide +kernel
theorem dX5_init_75 : decode cX5_init 75 = .ok (.iconst 2, 1) := by decide +kernel
theorem dX5_init_76 : decode cX5_init 76 = .ok (.bipush 10, 2) := by decide +kernel
theorem dX5_init_78 : decode cX5_init 78 = .ok (.iastore, 1) := by decide +kernel
theorem dX5_init_79 : decode cX5_init 79 = .ok (.aload_n 0, 1) := by decide +kernel
theorem dX5_init_80 : decode cX5_init 80 = .ok (.getfield 7, 3) := by decide +kernel
theorem dX5_init_83 : decode cX5_init 83 = .ok (.iconst 3, 1) := by decide +kernel
theorem dX5_init_84 : decode cX5_init 84 = .ok (.bipush 40, 2) := by decide +kernel
theorem dX5_init_86 : decode cX5_init 86 = .ok (.iastore, 1) := by decide +kernel
theorem dX5_init_87 : decode cX5_init 87 = .ok (.aload_n 0, 1) := by decide +kernel
theorem dX5_init_88 : decode cX5_init 88 = .ok (.getfield 7, 3) := by decide +kernel
theorem dX5_init_91 : decode cX5_init 91 = .ok (.iconst 4, 1) := by decide +kernel
theorem dX5_init_92 : decode cX5_init 92 = .ok (.iconst 2, 1) := by decide +kernel
theorem dX5_init_93 : decode cX5_init 93 = .ok (.iastore, 1) := by decide +kernel
theorem dX5_init_94 : decode cX5_init 94 = .ok (.aload_n 0, 1) := by decide +kernel
theorem dX5_init_95 : decode cX5_init 95 = .ok (.getfield 7, 3) := by decide +kernel
theorem dX5_init_98 : decode cX5_init 98 = .ok (.iconst 5, 1) := by decide +kernel
theorem dX5_init_99 : decode cX5_init 99 = .ok (.bipush 30, 2) := by decide +kernel
theorem dX5_init_101 : decode cX5_init 101 = .ok (.iastore, 1) := by decide +kernel
theorem dX5_init_102 : decode cX5_init 102 = .ok (.aload_n 0, 1) := by decide +kernel
theorem dX5_init_103 : decode cX5_init 103 = .ok (.getfield 7, 3) := by decide +kernel
theorem dX5_init_106 : decode cX5_init 106 = .ok (.bipush 6, 2) := by decide +kernel
theorem dX5_init_108 : decode cX5_init 108 = .ok (.sipush 500, 3) := by decide +kernel
theorem dX5_init_111 : decode cX5_init 111 = .ok (.iastore, 1) := by decide +kernel
theorem dX5_init_112 : decode cX5_init 112 = .ok (.aload_n 0, 1) := by decide +kernel
theorem dX5_init_113 : decode cX5_init 113 = .ok (.getfield 7, 3) := by decide +kernel
theorem dX5_init_116 : decode cX5_init 116 = .ok (.bipush 7, 2) := by decide +kernel
theorem dX5_init_118 : decode cX5_init 118 = .ok (.iconst 3, 1) := by decide +kernel
theorem dX5_init_119 : decode cX5_init 119 = .ok (.iastore, 1) := by decide +kernel
theorem dX5_init_120 : decode cX5_init 120 = .ok (.aload_n 0, 1) := by decide +kernel
theorem dX5_init_121 : decode cX5_init 121 = .ok (.getfield 7, 3) := by decide +kernel
theorem dX5_init_124 : decode cX5_init 124 = .ok (.bipush 12, 2) := by decide +kernel
theorem dX5_init_126 : decode cX5_init 126 = .ok (.bipush 30, 2) := by decide +kernel
theorem dX5_init_128 : decode cX5_init 128 = .ok (.iastore, 1) := by decide +kernel
theorem dX5_init_129 : decode cX5_init 129 = .ok (.return_, 1) := by decide +kernel
theorem dX5_in_0 : decode cX5_in 0 = .ok (.iload_n 0, 1) := by decide +kernel
theorem dX5_in_1 : decode cX5_in 1 = .ok (.iload_n 1, 1) := by decide +kernel
theorem dX5_in_2 : decode cX5_in 2 = .ok (.if_icmp .lt 12, 3) := by decide +kernel
theorem dX5_in_5 : decode cX5_in 5 = .ok (.iload_n 0, 1) := by decide +kernel
theorem dX5_in_6 : decode cX5_in 6 = .ok (.iload_n 2, 1) := by decide +kernel
theorem dX5_in_7 : decode cX5_in 7 = .ok (.if_icmp .gt 7, 3) := by decide +kernel
theorem dX5_in_10 : decode cX5_in 10 = .ok (.iconst 1, 1) := by decide +kernel
theorem dX5_in_11 : decode cX5_in 11 = .ok (.goto 4, 3) := by decide +kernel
theorem dX5_in_14 : decode cX5_in 14 = .ok (.iconst 0, 1) := by decide +kernel
theorem dX5_in_15 : decode cX5_in 15 = .ok (.ireturn, 1) := by decide +kernel
theorem dX5_place_0 : decode cX5_place 0 = .ok (.bipush 19, 2) := by decide +kernel
theorem dX5_place_2 : decode cX5_place 2 = .ok (.bipush 26, 2) := by decide +kernel
theorem dX5_place_4 : decode cX5_place 4 = .ok (.iload_n 0, 1) := by decide +kernel
theorem dX5_place_5 : decode cX5_place 5 = .ok (.imul, 1) := by decide +kernel
theorem dX5_place_6 : decode cX5_place 6 = .ok (.iadd, 1) := by decide +kernel
theorem dX5_place_7 : decode cX5_place 7 = .ok (.iload_n 1, 1) := by decide +kernel
theorem dX5_place_8 : decode cX5_place 8 = .ok (.iadd, 1) := by decide +kernel
theorem dX5_place_9 : decode cX5_place 9 = .ok (.ireturn, 1) := by decide +kernel
theorem dX5_of_0 : decode cX5_of 0 = .ok (.aload_n 0, 1) := by decide +kernel
theorem dX5_of_1 : decode cX5_of 1 = .ok (.getfield 7, 3) := by decide +kernel
theorem dX5_of_4 : decode cX5_of 4 = .ok (.iload_n 1, 1) := by decide +kernel
theorem dX5_of_5 : decode cX5_of 5 = .ok (.iload_n 2, 1) := by decide +kernel
theorem dX5_of_6 : decode cX5_of 6 = .ok (.invokestatic 29, 3) := by decide +kernel
theorem dX5_of_9 : decode cX5_of 9 = .ok (.iaload, 1) := by decide +kernel
theorem dX5_of_10 : decode cX5_of 10 = .ok (.ireturn, 1) := by decide +kernel
theorem dX5_lay_0 : decode cX5_lay 0 = .ok (.aload_n 0, 1) := by decide +kernel
theorem dX5_lay_1 : decode cX5_lay 1 = .ok (.getfield 7, 3) := by decide +kernel
theorem dX5_lay_4 : decode cX5_lay 4 = .ok (.iload_n 1, 1) := by decide +kernel
theorem dX5_lay_5 : decode cX5_lay 5 = .ok (.iload_n 2, 1) := by decide +kernel
theorem dX5_lay_6 : decode cX5_lay 6 = .ok (.invokestatic 29, 3) := by decide +kernel
theorem dX5_lay_9 : decode cX5_lay 9 = .ok (.iload_n 3, 1) := by decide +kernel
theorem dX5_lay_10 : decode cX5_lay 10 = .ok (.iastore, 1) := by decide +kernel
theorem dX5_lay_11 : decode cX5_lay 11 = .ok (.return_, 1) := by decide +kernel
theorem dX5_putAside_0 : decode cX5_putAside 0 = .ok (.iconst 0, 1) := by decide +kernel
theorem dX5_putAside_1 : decode cX5_putAside 1 = .ok (.istore_n 1, 1) := by decide +kernel
theorem dX5_putAside_2 : decode cX5_putAside 2 = .ok (.iload_n 1, 1) := by decide +kernel
theorem dX5_putAside_3 : decode cX5_putAside 3 = .ok (.sipush 255, 3) := by decide +kernel
theorem dX5_putAside_6 : decode cX5_putAside 6 = .ok (.if_icmp .ge 21, 3) := by decide +kernel
theorem dX5_putAside_9 : decode cX5_putAside 9 = .ok (.aload_n 0, 1) := by decide +kernel
theorem dX5_putAside_10 : decode cX5_putAside 10 = .ok (.getfield 13, 3) := by decide +kernel
theorem dX5_putAside_13 : decode cX5_putAside 13 = .ok (.iload_n 1, 1) := by decide +kernel
theorem dX5_putAside_14 : decode cX5_putAside 14 = .ok (.aload_n 0, 1) := by decide +kernel
theorem dX5_putAside_15 : decode cX5_putAside 15 = .ok (.getfield 7, 3) := by decide +kernel
theorem dX5_putAside_18 : decode cX5_putAside 18 = .ok (.iload_n 1, 1) := by decide +kernel
theorem dX5_putAside_19 : decode cX5_putAside 19 = .ok (.iaload, 1) := by decide +kernel
theorem dX5_putAside_20 : decode cX5_putAside 20 = .ok (.iastore, 1) := by decide +kernel
theorem dX5_putAside_21 : decode cX5_putAside 21 = .ok (.iinc 1 1, 3) := by decide +kernel
theorem dX5_putAside_24 : decode cX5_putAside 24 = .ok (.goto (-22), 3) := by decide +kernel
theorem dX5_putAside_27 : decode cX5_putAside 27 = .ok (.return_, 1) := by decide +kernel
theorem dX5_putBack_0 : decode cX5_putBack 0 = .ok (.iconst 0, 1) := by decide +kernel
theorem dX5_putBack_1 : decode cX5_putBack 1 = .ok (.istore_n 1, 1) := by decide +kernel
theorem dX5_putBack_2 : decode cX5_putBack 2 = .ok (.iload_n 1, 1) := by decide +kernel
theorem dX5_putBack_3 : decode cX5_putBack 3 = .ok (.sipush 255, 3) := by decide +kernel
theorem dX5_putBack_6 : decode cX5_putBack 6 = .ok (.if_icmp .ge 21, 3) := by decide +kernel
theorem dX5_putBack_9 : decode cX5_putBack 9 = .ok (.aload_n 0, 1) := by decide +kernel
theorem dX5_putBack_10 : decode cX5_putBack 10 = .ok (.getfield 7, 3) := by decide +kernel
theorem dX5_putBack_13 : decode cX5_putBack 13 = .ok (.iload_n 1, 1) := by decide +kernel
theorem dX5_putBack_14 : decode cX5_putBack 14 = .ok (.aload_n 0, 1) := by decide +kernel
theorem dX5_putBack_15 : decode cX5_putBack 15 = .ok (.getfield 13, 3) := by decide +kernel
theorem dX5_putBack_18 : decode cX5_putBack 18 = .ok (.iload_n 1, 1) := by decide +kernel
theorem dX5_putBack_19 : decode cX5_putBack 19 = .ok (.iaload, 1) := by decide +kernel
theorem dX5_putBack_20 : decode cX5_putBack 20 = .ok (.iastore, 1) := by decide +kernel
theorem dX5_putBack_21 : decode cX5_putBack 21 = .ok (.iinc 1 1, 3) := by decide +kernel
theorem dX5_putBack_24 : decode cX5_putBack 24 = .ok (.goto (-22), 3) := by decide +kernel
theorem dX5_putBack_27 : decode cX5_putBack 27 = .ok (.return_, 1) := by decide +kernel
theorem dX5_isTask_0 : decode cX5_isTask 0 = .ok (.iload_n 1, 1) := by decide +kernel
theorem dX5_isTask_1 : decode cX5_isTask 1 = .ok (.iconst 0, 1) := by decide +kernel
theorem dX5_isTask_2 : decode cX5_isTask 2 = .ok (.aload_n 0, 1) := by decide +kernel
theorem dX5_isTask_3 : decode cX5_isTask 3 = .ok (.getfield 7, 3) := by decide +kernel
theorem dX5_isTask_6 : decode cX5_isTask 6 = .ok (.bipush 17, 2) := by decide +kernel
theorem dX5_isTask_8 : decode cX5_isTask 8 = .ok (.iaload, 1) := by decide +kernel
theorem dX5_isTask_9 : decode cX5_isTask 9 = .ok (.iconst 1, 1) := by decide +kernel
theorem dX5_isTask_10 : decode cX5_isTask 10 = .ok (.isub, 1) := by decide +kernel
theorem dX5_isTask_11 : decode cX5_isTask 11 = .ok (.invokestatic 33, 3) := by decide +kernel
theorem dX5_isTask_14 : decode cX5_isTask 14 = .ok (.ireturn, 1) := by decide +kernel
theorem dX5_isRule_0 : decode cX5_isRule 0 = .ok (.iload_n 0, 1) := by decide +kernel
theorem dX5_isRule_1 : decode cX5_isRule 1 = .ok (.tableswitch 104 0 6 #[43, 52, 61, 69, 78, 86, 95], 43) := by decide +kernel
theorem dX5_isRule_44 : decode cX5_isRule 44 = .ok (.iload_n 1, 1) := by decide +kernel
theorem dX5_isRule_45 : decode cX5_isRule 45 = .ok (.iconst 0, 1) := by decide +kernel
theorem dX5_isRule_46 : decode cX5_isRule 46 = .ok (.sipush 1000, 3) := by decide +kernel
theorem dX5_isRule_49 : decode cX5_isRule 49 = .ok (.invokestatic 33, 3) := by decide +kernel
theorem dX5_isRule_52 : decode cX5_isRule 52 = .ok (.ireturn, 1) := by decide +kernel
theorem dX5_isRule_53 : decode cX5_isRule 53 = .ok (.iload_n 1, 1) := by decide +kernel
theorem dX5_isRule_54 : decode cX5_isRule 54 = .ok (.iconst 1, 1) := by decide +kernel
theorem dX5_isRule_55 : decode cX5_isRule 55 = .ok (.sipush 2000, 3) := by decide +kernel
theorem dX5_isRule_58 : decode cX5_isRule 58 = .ok (.invokestatic 33, 3) := by decide +kernel
theorem dX5_isRule_61 : decode cX5_isRule 61 = .ok (.ireturn, 1) := by decide +kernel
theorem dX5_isRule_62 : decode cX5_isRule 62 = .ok (.iload_n 1, 1) := by decide +kernel
theorem dX5_isRule_63 : decode cX5_isRule 63 = .ok (.iconst 1, 1) := by decide +kernel
theorem dX5_isRule_64 : decode cX5_isRule 64 = .ok (.bipush 100, 2) := by decide +kernel
theorem dX5_isRule_66 : decode cX5_isRule 66 = .ok (.invokestatic 33, 3) := by decide +kernel
theorem dX5_isRule_69 : decode cX5_isRule 69 = .ok (.ireturn, 1) := by decide +kernel
theorem dX5_isRule_70 : decode cX5_isRule 70 = .ok (.iload_n 1, 1) := by decide +kernel
theorem dX5_isRule_71 : decode cX5_isRule 71 = .ok (.iconst 0, 1) := by decide +kernel
theorem dX5_isRule_72 : decode cX5_isRule 72 = .ok (.sipush 2000, 3) := by decide +kernel
theorem dX5_isRule_75 : decode cX5_isRule 75 = .ok (.invokestatic 33, 3) := by decide +kernel
theorem dX5_isRule_78 : decode cX5_isRule 78 = .ok (.ireturn, 1) := by decide +kernel
theorem dX5_isRule_79 : decode cX5_isRule 79 = .ok (.iload_n 1, 1) := by decide +kernel
theorem dX5_isRule_80 : decode cX5_isRule 80 = .ok (.iconst 0, 1) := by decide +kernel
theorem dX5_isRule_81 : decode cX5_isRule 81 = .ok (.bipush 20, 2) := by decide +kernel
theorem dX5_isRule_83 : decode cX5_isRule 83 = .ok (.invokestatic 33, 3) := by decide +kernel
theorem dX5_isRule_86 : decode cX5_isRule 86 = .ok (.ireturn, 1) := by decide +kernel
theorem dX5_isRule_87 : decode cX5_isRule 87 = .ok (.iload_n 1, 1) := by decide +kernel
theorem dX5_isRule_88 : decode cX5_isRule 88 = .ok (.iconst 1, 1) := by decide +kernel
theorem dX5_isRule_89 : decode cX5_isRule 89 = .ok (.sipush 200, 3) := by decide +kernel
theorem dX5_isRule_92 : decode cX5_isRule 92 = .ok (.invokestatic 33, 3) := by decide +kernel
theorem dX5_isRule_95 : decode cX5_isRule 95 = .ok (.ireturn, 1) := by decide +kernel
theorem dX5_isRule_96 : decode cX5_isRule 96 = .ok (.iload_n 1, 1) := by decide +kernel
theorem dX5_isRule_97 : decode cX5_isRule 97 = .ok (.iconst 1, 1) := by decide +kernel
theorem dX5_isRule_98 : decode cX5_isRule 98 = .ok (.sipush 5000, 3) := by decide +kernel
theorem dX5_isRule_101 : decode cX5_isRule 101 = .ok (.invokestatic 33, 3) := by decide +kernel
theorem dX5_isRule_104 : decode cX5_isRule 104 = .ok (.ireturn, 1) := by decide +kernel
theorem dX5_isRule_105 : decode cX5_isRule 105 = .ok (.iload_n 0, 1) := by decide +kernel
theorem dX5_isRule_106 : decode cX5_isRule 106 = .ok (.bipush 7, 2) := by decide +kernel
theorem dX5_isRule_108 : decode cX5_isRule 108 = .ok (.if_icmp .ne 16, 3) := by decide +kernel
theorem dX5_isRule_111 : decode cX5_isRule 111 = .ok (.iload_n 1, 1) := by decide +kernel
theorem dX5_isRule_112 : decode cX5_isRule 112 = .ok (.iconst 1, 1) := by decide +kernel
theorem dX5_isRule_113 : decode cX5_isRule 113 = .ok (.iconst 5, 1) := by decide +kernel
theorem dX5_isRule_114 : decode cX5_isRule 114 = .ok (.invokestatic 33, 3) := by decide +kernel
theorem dX5_isRule_117 : decode cX5_isRule 117 = .ok (.ifCond .eq 7, 3) := by decide +kernel
theorem dX5_isRule_120 : decode cX5_isRule 120 = .ok (.iconst 1, 1) := by decide +kernel
theorem dX5_isRule_121 : decode cX5_isRule 121 = .ok (.goto 4, 3) := by decide +kernel
theorem dX5_isRule_124 : decode cX5_isRule 124 = .ok (.iconst 0, 1) := by decide +kernel
theorem dX5_isRule_125 : decode cX5_isRule 125 = .ok (.ireturn, 1) := by decide +kernel
theorem dX5_rule_0 : decode cX5_rule 0 = .ok (.iload_n 1, 1) := by decide +kernel
theorem dX5_rule_1 : decode cX5_rule 1 = .ok (.iload_n 2, 1) := by decide +kernel
theorem dX5_rule_2 : decode cX5_rule 2 = .ok (.invokestatic 37, 3) := by decide +kernel
theorem dX5_rule_5 : decode cX5_rule 5 = .ok (.ifCond .ne 6, 3) := by decide +kernel
theorem dX5_rule_8 : decode cX5_rule 8 = .ok (.bipush (-2), 2) := by decide +kernel
theorem dX5_rule_10 : decode cX5_rule 10 = .ok (.ireturn, 1) := by decide +kernel
theorem dX5_rule_11 : decode cX5_rule 11 = .ok (.aload_n 0, 1) := by decide +kernel
theorem dX5_rule_12 : decode cX5_rule 12 = .ok (.getfield 7, 3) := by decide +kernel
theorem dX5_rule_15 : decode cX5_rule 15 = .ok (.iload_n 1, 1) := by decide +kernel
theorem dX5_rule_16 : decode cX5_rule 16 = .ok (.iaload, 1) := by decide +kernel
theorem dX5_rule_17 : decode cX5_rule 17 = .ok (.istore_n 3, 1) := by decide +kernel
theorem dX5_rule_18 : decode cX5_rule 18 = .ok (.aload_n 0, 1) := by decide +kernel
theorem dX5_rule_19 : decode cX5_rule 19 = .ok (.getfield 7, 3) := by decide +kernel
theorem dX5_rule_22 : decode cX5_rule 22 = .ok (.iload_n 1, 1) := by decide +kernel
theorem dX5_rule_23 : decode cX5_rule 23 = .ok (.iload_n 2, 1) := by decide +kernel
theorem dX5_rule_24 : decode cX5_rule 24 = .ok (.iastore, 1) := by decide +kernel
theorem dX5_rule_25 : decode cX5_rule 25 = .ok (.iload_n 3, 1) := by decide +kernel
theorem dX5_rule_26 : decode cX5_rule 26 = .ok (.ireturn, 1) := by decide +kernel
theorem dX5_addTask_0 : decode cX5_addTask 0 = .ok (.iload_n 1, 1) := by decide +kernel
theorem dX5_addTask_1 : decode cX5_addTask 1 = .ok (.iconst 1, 1) := by decide +kernel
theorem dX5_addTask_2 : decode cX5_addTask 2 = .ok (.sipush 200, 3) := by decide +kernel
theorem dX5_addTask_5 : decode cX5_addTask 5 = .ok (.invokestatic 33, 3) := by decide +kernel
theorem dX5_addTask_8 : decode cX5_addTask 8 = .ok (.ifCond .eq 14, 3) := by decide +kernel
theorem dX5_addTask_11 : decode cX5_addTask 11 = .ok (.iload_n 2, 1) := by decide +kernel
theorem dX5_addTask_12 : decode cX5_addTask 12 = .ok (.iconst 1, 1) := by decide +kernel
theorem dX5_addTask_13 : decode cX5_addTask 13 = .ok (.sipush 200, 3) := by decide +kernel
theorem dX5_addTask_16 : decode cX5_addTask 16 = .ok (.invokestatic 33, 3) := by decide +kernel
theorem dX5_addTask_19 : decode cX5_addTask 19 = .ok (.ifCond .ne 6, 3) := by decide +kernel
theorem dX5_addTask_22 : decode cX5_addTask 22 = .ok (.bipush (-2), 2) := by decide +kernel
theorem dX5_addTask_24 : decode cX5_addTask 24 = .ok (.ireturn, 1) := by decide +kernel
theorem dX5_addTask_25 : decode cX5_addTask 25 = .ok (.aload_n 0, 1) := by decide +kernel
theorem dX5_addTask_26 : decode cX5_addTask 26 = .ok (.getfield 7, 3) := by decide +kernel
theorem dX5_addTask_29 : decode cX5_addTask 29 = .ok (.bipush 17, 2) := by decide +kernel
theorem dX5_addTask_31 : decode cX5_addTask 31 = .ok (.iaload, 1) := by decide +kernel
theorem dX5_addTask_32 : decode cX5_addTask 32 = .ok (.bipush 6, 2) := by decide +kernel
theorem dX5_addTask_34 : decode cX5_addTask 34 = .ok (.if_icmp .ne 6, 3) := by decide +kernel
theorem dX5_addTask_37 : decode cX5_addTask 37 = .ok (.bipush (-4), 2) := by decide +kernel
theorem dX5_addTask_39 : decode cX5_addTask 39 = .ok (.ireturn, 1) := by decide +kernel
theorem dX5_addTask_40 : decode cX5_addTask 40 = .ok (.aload_n 0, 1) := by decide +kernel
theorem dX5_addTask_41 : decode cX5_addTask 41 = .ok (.getfield 7, 3) := by decide +kernel
theorem dX5_addTask_44 : decode cX5_addTask 44 = .ok (.bipush 17, 2) := by decide +kernel
theorem dX5_addTask_46 : decode cX5_addTask 46 = .ok (.iaload, 1) := by decide +kernel
theorem dX5_addTask_47 : decode cX5_addTask 47 = .ok (.istore_n 3, 1) := by decide +kernel
theorem dX5_addTask_48 : decode cX5_addTask 48 = .ok (.aload_n 0, 1) := by decide +kernel
theorem dX5_addTask_49 : decode cX5_addTask 49 = .ok (.getfield 7, 3) := by decide +kernel
theorem dX5_addTask_52 : decode cX5_addTask 52 = .ok (.bipush 17, 2) := by decide +kernel
theorem dX5_addTask_54 : decode cX5_addTask 54 = .ok (.dup2, 1) := by decide +kernel
theorem dX5_addTask_55 : decode cX5_addTask 55 = .ok (.iaload, 1) := by decide +kernel
theorem dX5_addTask_56 : decode cX5_addTask 56 = .ok (.iconst 1, 1) := by decide +kernel
theorem dX5_addTask_57 : decode cX5_addTask 57 = .ok (.iadd, 1) := by decide +kernel
theorem dX5_addTask_58 : decode cX5_addTask 58 = .ok (.iastore, 1) := by decide +kernel
theorem dX5_addTask_59 : decode cX5_addTask 59 = .ok (.aload_n 0, 1) := by decide +kernel
theorem dX5_addTask_60 : decode cX5_addTask 60 = .ok (.iload_n 3, 1) := by decide +kernel
theorem dX5_addTask_61 : decode cX5_addTask 61 = .ok (.iconst 0, 1) := by decide +kernel
theorem dX5_addTask_62 : decode cX5_addTask 62 = .ok (.iload_n 1, 1) := by decide +kernel
theorem dX5_addTask_63 : decode cX5_addTask 63 = .ok (.invokevirtual 41, 3) := by decide +kernel
theorem dX5_addTask_66 : decode cX5_addTask 66 = .ok (.aload_n 0, 1) := by decide +kernel
theorem dX5_addTask_67 : decode cX5_addTask 67 = .ok (.iload_n 3, 1) := by decide +kernel
theorem dX5_addTask_68 : decode cX5_addTask 68 = .ok (.iconst 1, 1) := by decide +kernel
theorem dX5_addTask_69 : decode cX5_addTask 69 = .ok (.iload_n 2, 1) := by decide +kernel
theorem dX5_addTask_70 : decode cX5_addTask 70 = .ok (.invokevirtual 41, 3) := by decide +kernel
theorem dX5_addTask_73 : decode cX5_addTask 73 = .ok (.aload_n 0, 1) := by decide +kernel
theorem dX5_addTask_74 : decode cX5_addTask 74 = .ok (.iload_n 3, 1) := by decide +kernel
theorem dX5_addTask_75 : decode cX5_addTask 75 = .ok (.iconst 3, 1) := by decide +kernel
theorem dX5_addTask_76 : decode cX5_addTask 76 = .ok (.iconst 1, 1) := by decide +kernel
theorem dX5_addTask_77 : decode cX5_addTask 77 = .ok (.invokevirtual 41, 3) := by decide +kernel
theorem dX5_addTask_80 : decode cX5_addTask 80 = .ok (.aload_n 0, 1) := by decide +kernel
theorem dX5_addTask_81 : decode cX5_addTask 81 = .ok (.iload_n 3, 1) := by decide +kernel
theorem dX5_addTask_82 : decode cX5_addTask 82 = .ok (.iconst 4, 1) := by decide +kernel
theorem dX5_addTask_83 : decode cX5_addTask 83 = .ok (.iconst 1, 1) := by decide +kernel
theorem dX5_addTask_84 : decode cX5_addTask 84 = .ok (.invokevirtual 41, 3) := by decide +kernel
theorem dX5_addTask_87 : decode cX5_addTask 87 = .ok (.aload_n 0, 1) := by decide +kernel
theorem dX5_addTask_88 : decode cX5_addTask 88 = .ok (.iload_n 3, 1) := by decide +kernel
theorem dX5_addTask_89 : decode cX5_addTask 89 = .ok (.iconst 5, 1) := by decide +kernel
theorem dX5_addTask_90 : decode cX5_addTask 90 = .ok (.bipush 50, 2) := by decide +kernel
theorem dX5_addTask_92 : decode cX5_addTask 92 = .ok (.invokevirtual 41, 3) := by decide +kernel
theorem dX5_addTask_95 : decode cX5_addTask 95 = .ok (.aload_n 0, 1) := by decide +kernel
theorem dX5_addTask_96 : decode cX5_addTask 96 = .ok (.iload_n 3, 1) := by decide +kernel
theorem dX5_addTask_97 : decode cX5_addTask 97 = .ok (.bipush 6, 2) := by decide +kernel
theorem dX5_addTask_99 : decode cX5_addTask 99 = .ok (.iconst 1, 1) := by decide +kernel
theorem dX5_addTask_100 : decode cX5_addTask 100 = .ok (.invokevirtual 41, 3) := by decide +kernel
theorem dX5_addTask_103 : decode cX5_addTask 103 = .ok (.iload_n 3, 1) := by decide +kernel
theorem dX5_addTask_104 : decode cX5_addTask 104 = .ok (.ireturn, 1) := by decide +kernel
theorem dX5_isSetting_0 : decode cX5_isSetting 0 = .ok (.iload_n 0, 1) := by decide +kernel
theorem dX5_isSetting_1 : decode cX5_isSetting 1 = .ok (.tableswitch 85 0 6 #[43, 43, 52, 61, 69, 69, 77], 43) := by decide +kernel
theorem dX5_isSetting_44 : decode cX5_isSetting 44 = .ok (.iload_n 1, 1) := by decide +kernel
theorem dX5_isSetting_45 : decode cX5_isSetting 45 = .ok (.iconst 1, 1) := by decide +kernel
theorem dX5_isSetting_46 : decode cX5_isSetting 46 = .ok (.sipush 200, 3) := by decide +kernel
theorem dX5_isSetting_49 : decode cX5_isSetting 49 = .ok (.invokestatic 33, 3) := by decide +kernel
theorem dX5_isSetting_52 : decode cX5_isSetting 52 = .ok (.ireturn, 1) := by decide +kernel
theorem dX5_isSetting_53 : decode cX5_isSetting 53 = .ok (.iload_n 1, 1) := by decide +kernel
theorem dX5_isSetting_54 : decode cX5_isSetting 54 = .ok (.iconst 0, 1) := by decide +kernel
theorem dX5_isSetting_55 : decode cX5_isSetting 55 = .ok (.sipush 199, 3) := by decide +kernel
theorem dX5_isSetting_58 : decode cX5_isSetting 58 = .ok (.invokestatic 33, 3) := by decide +kernel
theorem dX5_isSetting_61 : decode cX5_isSetting 61 = .ok (.ireturn, 1) := by decide +kernel
theorem dX5_isSetting_62 : decode cX5_isSetting 62 = .ok (.iload_n 1, 1) := by decide +kernel
theorem dX5_isSetting_63 : decode cX5_isSetting 63 = .ok (.iconst 1, 1) := by decide +kernel
theorem dX5_isSetting_64 : decode cX5_isSetting 64 = .ok (.bipush 20, 2) := by decide +kernel
theorem dX5_isSetting_66 : decode cX5_isSetting 66 = .ok (.invokestatic 33, 3) := by decide +kernel
theorem dX5_isSetting_69 : decode cX5_isSetting 69 = .ok (.ireturn, 1) := by decide +kernel
theorem dX5_isSetting_70 : decode cX5_isSetting 70 = .ok (.iload_n 1, 1) := by decide +kernel
theorem dX5_isSetting_71 : decode cX5_isSetting 71 = .ok (.iconst 0, 1) := by decide +kernel
theorem dX5_isSetting_72 : decode cX5_isSetting 72 = .ok (.bipush 50, 2) := by decide +kernel
theorem dX5_isSetting_74 : decode cX5_isSetting 74 = .ok (.invokestatic 33, 3) := by decide +kernel
theorem dX5_isSetting_77 : decode cX5_isSetting 77 = .ok (.ireturn, 1) := by decide +kernel
theorem dX5_isSetting_78 : decode cX5_isSetting 78 = .ok (.iload_n 1, 1) := by decide +kernel
theorem dX5_isSetting_79 : decode cX5_isSetting 79 = .ok (.iconst 0, 1) := by decide +kernel
theorem dX5_isSetting_80 : decode cX5_isSetting 80 = .ok (.bipush 10, 2) := by decide +kernel
theorem dX5_isSetting_82 : decode cX5_isSetting 82 = .ok (.invokestatic 33, 3) := by decide +kernel
theorem dX5_isSetting_85 : decode cX5_isSetting 85 = .ok (.ireturn, 1) := by decide +kernel
theorem dX5_isSetting_86 : decode cX5_isSetting 86 = .ok (.iload_n 0, 1) := by decide +kernel
theorem dX5_isSetting_87 : decode cX5_isSetting 87 = .ok (.bipush 7, 2) := by decide +kernel
theorem dX5_isSetting_89 : decode cX5_isSetting 89 = .ok (.if_icmp .ne 18, 3) := by decide +kernel
theorem dX5_isSetting_92 : decode cX5_isSetting 92 = .ok (.iload_n 1, 1) := by decide +kernel
theorem dX5_isSetting_93 : decode cX5_isSetting 93 = .ok (.iconst 0, 1) := by decide +kernel
theorem dX5_isSetting_94 : decode cX5_isSetting 94 = .ok (.sipush 500, 3) := by decide +kernel
theorem dX5_isSetting_97 : decode cX5_isSetting 97 = .ok (.invokestatic 33, 3) := by decide +kernel
theorem dX5_isSetting_100 : decode cX5_isSetting 100 = .ok (.ifCond .eq 7, 3) := by decide +kernel
theorem dX5_isSetting_103 : decode cX5_isSetting 103 = .ok (.iconst 1, 1) := by decide +kernel
theorem dX5_isSetting_104 : decode cX5_isSetting 104 = .ok (.goto 4, 3) := by decide +kernel
theorem dX5_isSetting_107 : decode cX5_isSetting 107 = .ok (.iconst 0, 1) := by decide +kernel
theorem dX5_isSetting_108 : decode cX5_isSetting 108 = .ok (.ireturn, 1) := by decide +kernel
theorem dX5_set_0 : decode cX5_set 0 = .ok (.aload_n 0, 1) := by decide +kernel
theorem dX5_set_1 : decode cX5_set 1 = .ok (.iload_n 1, 1) := by decide +kernel
theorem dX5_set_2 : decode cX5_set 2 = .ok (.invokevirtual 45, 3) := by decide +kernel
theorem dX5_set_5 : decode cX5_set 5 = .ok (.ifCond .ne 5, 3) := by decide +kernel
theorem dX5_set_8 : decode cX5_set 8 = .ok (.iconst (-1), 1) := by decide +kernel
theorem dX5_set_9 : decode cX5_set 9 = .ok (.ireturn, 1) := by decide +kernel
theorem dX5_set_10 : decode cX5_set 10 = .ok (.iload_n 2, 1) := by decide +kernel
theorem dX5_set_11 : decode cX5_set 11 = .ok (.iload_n 3, 1) := by decide +kernel
theorem dX5_set_12 : decode cX5_set 12 = .ok (.invokestatic 49, 3) := by decide +kernel
theorem dX5_set_15 : decode cX5_set 15 = .ok (.ifCond .ne 6, 3) := by decide +kernel
theorem dX5_set_18 : decode cX5_set 18 = .ok (.bipush (-2), 2) := by decide +kernel
theorem dX5_set_20 : decode cX5_set 20 = .ok (.ireturn, 1) := by decide +kernel
theorem dX5_set_21 : decode cX5_set 21 = .ok (.aload_n 0, 1) := by decide +kernel
theorem dX5_set_22 : decode cX5_set 22 = .ok (.iload_n 1, 1) := by decide +kernel
theorem dX5_set_23 : decode cX5_set 23 = .ok (.iload_n 2, 1) := by decide +kernel
theorem dX5_set_24 : decode cX5_set 24 = .ok (.invokevirtual 52, 3) := by decide +kernel
theorem dX5_set_27 : decode cX5_set 27 = .ok (.istore 4, 2) := by decide +kernel
theorem dX5_set_29 : decode cX5_set 29 = .ok (.aload_n 0, 1) := by decide +kernel
theorem dX5_set_30 : decode cX5_set 30 = .ok (.iload_n 1, 1) := by decide +kernel
theorem dX5_set_31 : decode cX5_set 31 = .ok (.iload_n 2, 1) := by decide +kernel
theorem dX5_set_32 : decode cX5_set 32 = .ok (.iload_n 3, 1) := by decide +kernel
theorem dX5_set_33 : decode cX5_set 33 = .ok (.invokevirtual 41, 3) := by decide +kernel
theorem dX5_set_36 : decode cX5_set 36 = .ok (.iload 4, 2) := by decide +kernel
theorem dX5_set_38 : decode cX5_set 38 = .ok (.ireturn, 1) := by decide +kernel
theorem dX5_layFault_0 : decode cX5_layFault 0 = .ok (.aload_n 0, 1) := by decide +kernel
theorem dX5_layFault_1 : decode cX5_layFault 1 = .ok (.iload_n 2, 1) := by decide +kernel
theorem dX5_layFault_2 : decode cX5_layFault 2 = .ok (.bipush 20, 2) := by decide +kernel
theorem dX5_layFault_4 : decode cX5_layFault 4 = .ok (.iconst 3, 1) := by decide +kernel
theorem dX5_layFault_5 : decode cX5_layFault 5 = .ok (.iload_n 1, 1) := by decide +kernel
theorem dX5_layFault_6 : decode cX5_layFault 6 = .ok (.imul, 1) := by decide +kernel
theorem dX5_layFault_7 : decode cX5_layFault 7 = .ok (.iadd, 1) := by decide +kernel
theorem dX5_layFault_8 : decode cX5_layFault 8 = .ok (.iload_n 3, 1) := by decide +kernel
theorem dX5_layFault_9 : decode cX5_layFault 9 = .ok (.invokevirtual 41, 3) := by decide +kernel
theorem dX5_layFault_12 : decode cX5_layFault 12 = .ok (.aload_n 0, 1) := by decide +kernel
theorem dX5_layFault_13 : decode cX5_layFault 13 = .ok (.iload_n 2, 1) := by decide +kernel
theorem dX5_layFault_14 : decode cX5_layFault 14 = .ok (.bipush 20, 2) := by decide +kernel
theorem dX5_layFault_16 : decode cX5_layFault 16 = .ok (.iconst 3, 1) := by decide +kernel
theorem dX5_layFault_17 : decode cX5_layFault 17 = .ok (.iload_n 1, 1) := by decide +kernel
theorem dX5_layFault_18 : decode cX5_layFault 18 = .ok (.imul, 1) := by decide +kernel
theorem dX5_layFault_19 : decode cX5_layFault 19 = .ok (.iadd, 1) := by decide +kernel
theorem dX5_layFault_20 : decode cX5_layFault 20 = .ok (.iconst 1, 1) := by decide +kernel
theorem dX5_layFault_21 : decode cX5_layFault 21 = .ok (.iadd, 1) := by decide +kernel
theorem dX5_layFault_22 : decode cX5_layFault 22 = .ok (.iload 4, 2) := by decide +kernel
theorem dX5_layFault_24 : decode cX5_layFault 24 = .ok (.invokevirtual 41, 3) := by decide +kernel
theorem dX5_layFault_27 : decode cX5_layFault 27 = .ok (.aload_n 0, 1) := by decide +kernel
theorem dX5_layFault_28 : decode cX5_layFault 28 = .ok (.iload_n 2, 1) := by decide +kernel
theorem dX5_layFault_29 : decode cX5_layFault 29 = .ok (.bipush 20, 2) := by decide +kernel
theorem dX5_layFault_31 : decode cX5_layFault 31 = .ok (.iconst 3, 1) := by decide +kernel
theorem dX5_layFault_32 : decode cX5_layFault 32 = .ok (.iload_n 1, 1) := by decide +kernel
theorem dX5_layFault_33 : decode cX5_layFault 33 = .ok (.imul, 1) := by decide +kernel
theorem dX5_layFault_34 : decode cX5_layFault 34 = .ok (.iadd, 1) := by decide +kernel
theorem dX5_layFault_35 : decode cX5_layFault 35 = .ok (.iconst 2, 1) := by decide +kernel
theorem dX5_layFault_36 : decode cX5_layFault 36 = .ok (.iadd, 1) := by decide +kernel
theorem dX5_layFault_37 : decode cX5_layFault 37 = .ok (.iload 5, 2) := by decide +kernel
theorem dX5_layFault_39 : decode cX5_layFault 39 = .ok (.invokevirtual 41, 3) := by decide +kernel
theorem dX5_layFault_42 : decode cX5_layFault 42 = .ok (.return_, 1) := by decide +kernel
theorem dX5_putFault_0 : decode cX5_putFault 0 = .ok (.iload_n 1, 1) := by decide +kernel
theorem dX5_putFault_1 : decode cX5_putFault 1 = .ok (.iconst 0, 1) := by decide +kernel
theorem dX5_putFault_2 : decode cX5_putFault 2 = .ok (.iconst 1, 1) := by decide +kernel
theorem dX5_putFault_3 : decode cX5_putFault 3 = .ok (.invokestatic 33, 3) := by decide +kernel
theorem dX5_putFault_6 : decode cX5_putFault 6 = .ok (.ifCond .eq 11, 3) := by decide +kernel
theorem dX5_putFault_9 : decode cX5_putFault 9 = .ok (.aload_n 0, 1) := by decide +kernel
theorem dX5_putFault_10 : decode cX5_putFault 10 = .ok (.iload_n 2, 1) := by decide +kernel
theorem dX5_putFault_11 : decode cX5_putFault 11 = .ok (.invokevirtual 45, 3) := by decide +kernel
theorem dX5_putFault_14 : decode cX5_putFault 14 = .ok (.ifCond .ne 5, 3) := by decide +kernel
theorem dX5_putFault_17 : decode cX5_putFault 17 = .ok (.iconst (-1), 1) := by decide +kernel
theorem dX5_putFault_18 : decode cX5_putFault 18 = .ok (.ireturn, 1) := by decide +kernel
theorem dX5_putFault_19 : decode cX5_putFault 19 = .ok (.iload_n 3, 1) := by decide +kernel
theorem dX5_putFault_20 : decode cX5_putFault 20 = .ok (.iconst 0, 1) := by decide +kernel
theorem dX5_putFault_21 : decode cX5_putFault 21 = .ok (.iconst 5, 1) := by decide +kernel
theorem dX5_putFault_22 : decode cX5_putFault 22 = .ok (.invokestatic 33, 3) := by decide +kernel
theorem dX5_putFault_25 : decode cX5_putFault 25 = .ok (.ifCond .eq 27, 3) := by decide +kernel
theorem dX5_putFault_28 : decode cX5_putFault 28 = .ok (.iload 4, 2) := by decide +kernel
theorem dX5_putFault_30 : decode cX5_putFault 30 = .ok (.iconst 0, 1) := by decide +kernel
theorem dX5_putFault_31 : decode cX5_putFault 31 = .ok (.sipush 5000, 3) := by decide +kernel
theorem dX5_putFault_34 : decode cX5_putFault 34 = .ok (.invokestatic 33, 3) := by decide +kernel
theorem dX5_putFault_37 : decode cX5_putFault 37 = .ok (.ifCond .eq 15, 3) := by decide +kernel
theorem dX5_putFault_40 : decode cX5_putFault 40 = .ok (.iload 5, 2) := by decide +kernel
theorem dX5_putFault_42 : decode cX5_putFault 42 = .ok (.iconst 0, 1) := by decide +kernel
theorem dX5_putFault_43 : decode cX5_putFault 43 = .ok (.sipush 500, 3) := by decide +kernel
theorem dX5_putFault_46 : decode cX5_putFault 46 = .ok (.invokestatic 33, 3) := by decide +kernel
theorem dX5_putFault_49 : decode cX5_putFault 49 = .ok (.ifCond .ne 6, 3) := by decide +kernel
theorem dX5_putFault_52 : decode cX5_putFault 52 = .ok (.bipush (-2), 2) := by decide +kernel
theorem dX5_putFault_54 : decode cX5_putFault 54 = .ok (.ireturn, 1) := by decide +kernel
theorem dX5_putFault_55 : decode cX5_putFault 55 = .ok (.aload_n 0, 1) := by decide +kernel
theorem dX5_putFault_56 : decode cX5_putFault 56 = .ok (.iload_n 2, 1) := by decide +kernel
theorem dX5_putFault_57 : decode cX5_putFault 57 = .ok (.bipush 20, 2) := by decide +kernel
theorem dX5_putFault_59 : decode cX5_putFault 59 = .ok (.iconst 3, 1) := by decide +kernel
theorem dX5_putFault_60 : decode cX5_putFault 60 = .ok (.iload_n 1, 1) := by decide +kernel
theorem dX5_putFault_61 : decode cX5_putFault 61 = .ok (.imul, 1) := by decide +kernel
theorem dX5_putFault_62 : decode cX5_putFault 62 = .ok (.iadd, 1) := by decide +kernel
theorem dX5_putFault_63 : decode cX5_putFault 63 = .ok (.invokevirtual 52, 3) := by decide +kernel
theorem dX5_putFault_66 : decode cX5_putFault 66 = .ok (.istore 6, 2) := by decide +kernel
theorem dX5_putFault_68 : decode cX5_putFault 68 = .ok (.aload_n 0, 1) := by decide +kernel
theorem dX5_putFault_69 : decode cX5_putFault 69 = .ok (.iload_n 1, 1) := by decide +kernel
theorem dX5_putFault_70 : decode cX5_putFault 70 = .ok (.iload_n 2, 1) := by decide +kernel
theorem dX5_putFault_71 : decode cX5_putFault 71 = .ok (.iload_n 3, 1) := by decide +kernel
theorem dX5_putFault_72 : decode cX5_putFault 72 = .ok (.iload 4, 2) := by decide +kernel
theorem dX5_putFault_74 : decode cX5_putFault 74 = .ok (.iload 5, 2) := by decide +kernel
theorem dX5_putFault_76 : decode cX5_putFault 76 = .ok (.invokevirtual 55, 3) := by decide +kernel
theorem dX5_putFault_79 : decode cX5_putFault 79 = .ok (.iload 6, 2) := by decide +kernel
theorem dX5_putFault_81 : decode cX5_putFault 81 = .ok (.ireturn, 1) := by decide +kernel
theorem dX5_put_0 : decode cX5_put 0 = .ok (.iconst 0, 1) := by decide +kernel
theorem dX5_put_1 : decode cX5_put 1 = .ok (.istore_n 3, 1) := by decide +kernel
theorem dX5_put_2 : decode cX5_put 2 = .ok (.lload_n 1, 1) := by decide +kernel
theorem dX5_put_3 : decode cX5_put 3 = .ok (.lstore 4, 2) := by decide +kernel
theorem dX5_put_5 : decode cX5_put 5 = .ok (.iload_n 3, 1) := by decide +kernel
theorem dX5_put_6 : decode cX5_put 6 = .ok (.bipush 8, 2) := by decide +kernel
theorem dX5_put_8 : decode cX5_put 8 = .ok (.if_icmp .ge 47, 3) := by decide +kernel
theorem dX5_put_11 : decode cX5_put 11 = .ok (.lload 4, 2) := by decide +kernel
theorem dX5_put_13 : decode cX5_put 13 = .ok (.ldc2_w 59, 3) := by decide +kernel
theorem dX5_put_16 : decode cX5_put 16 = .ok (.land, 1) := by decide +kernel
theorem dX5_put_17 : decode cX5_put 17 = .ok (.lconst 0, 1) := by decide +kernel
theorem dX5_put_18 : decode cX5_put 18 = .ok (.lcmp, 1) := by decide +kernel
theorem dX5_put_19 : decode cX5_put 19 = .ok (.ifCond .eq 36, 3) := by decide +kernel
theorem dX5_put_22 : decode cX5_put 22 = .ok (.lload 4, 2) := by decide +kernel
theorem dX5_put_24 : decode cX5_put 24 = .ok (.ldc2_w 59, 3) := by decide +kernel
theorem dX5_put_27 : decode cX5_put 27 = .ok (.land, 1) := by decide +kernel
theorem dX5_put_28 : decode cX5_put 28 = .ok (.l2i, 1) := by decide +kernel
theorem dX5_put_29 : decode cX5_put 29 = .ok (.bipush 33, 2) := by decide +kernel
theorem dX5_put_31 : decode cX5_put 31 = .ok (.bipush 126, 2) := by decide +kernel
theorem dX5_put_33 : decode cX5_put 33 = .ok (.invokestatic 33, 3) := by decide +kernel
theorem dX5_put_36 : decode cX5_put 36 = .ok (.ifCond .ne 6, 3) := by decide +kernel
theorem dX5_put_39 : decode cX5_put 39 = .ok (.bipush (-2), 2) := by decide +kernel
theorem dX5_put_41 : decode cX5_put 41 = .ok (.ireturn, 1) := by decide +kernel
theorem dX5_put_42 : decode cX5_put 42 = .ok (.iinc 3 1, 3) := by decide +kernel
theorem dX5_put_45 : decode cX5_put 45 = .ok (.lload 4, 2) := by decide +kernel
theorem dX5_put_47 : decode cX5_put 47 = .ok (.bipush 8, 2) := by decide +kernel
theorem dX5_put_49 : decode cX5_put 49 = .ok (.lushr, 1) := by decide +kernel
theorem dX5_put_50 : decode cX5_put 50 = .ok (.lstore 4, 2) := by decide +kernel
theorem dX5_put_52 : decode cX5_put 52 = .ok (.goto (-47), 3) := by decide +kernel
theorem dX5_put_55 : decode cX5_put 55 = .ok (.iload_n 3, 1) := by decide +kernel
theorem dX5_put_56 : decode cX5_put 56 = .ok (.ifCond .eq 10, 3) := by decide +kernel
theorem dX5_put_59 : decode cX5_put 59 = .ok (.lload 4, 2) := by decide +kernel
theorem dX5_put_61 : decode cX5_put 61 = .ok (.lconst 0, 1) := by decide +kernel
theorem dX5_put_62 : decode cX5_put 62 = .ok (.lcmp, 1) := by decide +kernel
theorem dX5_put_63 : decode cX5_put 63 = .ok (.ifCond .eq 6, 3) := by decide +kernel
theorem dX5_put_66 : decode cX5_put 66 = .ok (.bipush (-2), 2) := by decide +kernel
theorem dX5_put_68 : decode cX5_put 68 = .ok (.ireturn, 1) := by decide +kernel
theorem dX5_put_69 : decode cX5_put 69 = .ok (.aload_n 0, 1) := by decide +kernel
theorem dX5_put_70 : decode cX5_put 70 = .ok (.getfield 61, 3) := by decide +kernel
theorem dX5_put_73 : decode cX5_put 73 = .ok (.iload_n 3, 1) := by decide +kernel
theorem dX5_put_74 : decode cX5_put 74 = .ok (.iadd, 1) := by decide +kernel
theorem dX5_put_75 : decode cX5_put 75 = .ok (.bipush 60, 2) := by decide +kernel
theorem dX5_put_77 : decode cX5_put 77 = .ok (.if_icmp .le 6, 3) := by decide +kernel
theorem dX5_put_80 : decode cX5_put 80 = .ok (.bipush (-4), 2) := by decide +kernel
theorem dX5_put_82 : decode cX5_put 82 = .ok (.ireturn, 1) := by decide +kernel
theorem dX5_put_83 : decode cX5_put 83 = .ok (.iconst 0, 1) := by decide +kernel
theorem dX5_put_84 : decode cX5_put 84 = .ok (.istore 6, 2) := by decide +kernel
theorem dX5_put_86 : decode cX5_put 86 = .ok (.iload 6, 2) := by decide +kernel
theorem dX5_put_88 : decode cX5_put 88 = .ok (.iload_n 3, 1) := by decide +kernel
theorem dX5_put_89 : decode cX5_put 89 = .ok (.if_icmp .ge 37, 3) := by decide +kernel
theorem dX5_put_92 : decode cX5_put 92 = .ok (.aload_n 0, 1) := by decide +kernel
theorem dX5_put_93 : decode cX5_put 93 = .ok (.getfield 23, 3) := by decide +kernel
theorem dX5_put_96 : decode cX5_put 96 = .ok (.aload_n 0, 1) := by decide +kernel
theorem dX5_put_97 : decode cX5_put 97 = .ok (.getfield 61, 3) := by decide +kernel
theorem dX5_put_100 : decode cX5_put 100 = .ok (.iload 6, 2) := by decide +kernel
theorem dX5_put_102 : decode cX5_put 102 = .ok (.iadd, 1) := by decide +kernel
theorem dX5_put_103 : decode cX5_put 103 = .ok (.lload_n 1, 1) := by decide +kernel
theorem dX5_put_104 : decode cX5_put 104 = .ok (.bipush 8, 2) := by decide +kernel
theorem dX5_put_106 : decode cX5_put 106 = .ok (.iload_n 3, 1) := by decide +kernel
theorem dX5_put_107 : decode cX5_put 107 = .ok (.iconst 1, 1) := by decide +kernel
theorem dX5_put_108 : decode cX5_put 108 = .ok (.isub, 1) := by decide +kernel
theorem dX5_put_109 : decode cX5_put 109 = .ok (.iload 6, 2) := by decide +kernel
theorem dX5_put_111 : decode cX5_put 111 = .ok (.isub, 1) := by decide +kernel
theorem dX5_put_112 : decode cX5_put 112 = .ok (.imul, 1) := by decide +kernel
theorem dX5_put_113 : decode cX5_put 113 = .ok (.lshr, 1) := by decide +kernel
theorem dX5_put_114 : decode cX5_put 114 = .ok (.ldc2_w 59, 3) := by decide +kernel
theorem dX5_put_117 : decode cX5_put 117 = .ok (.land, 1) := by decide +kernel
theorem dX5_put_118 : decode cX5_put 118 = .ok (.l2i, 1) := by decide +kernel
theorem dX5_put_119 : decode cX5_put 119 = .ok (.iastore, 1) := by decide +kernel
theorem dX5_put_120 : decode cX5_put 120 = .ok (.iinc 6 1, 3) := by decide +kernel
theorem dX5_put_123 : decode cX5_put 123 = .ok (.goto (-37), 3) := by decide +kernel
theorem dX5_put_126 : decode cX5_put 126 = .ok (.aload_n 0, 1) := by decide +kernel
theorem dX5_put_127 : decode cX5_put 127 = .ok (.dup, 1) := by decide +kernel
theorem dX5_put_128 : decode cX5_put 128 = .ok (.getfield 61, 3) := by decide +kernel
theorem dX5_put_131 : decode cX5_put 131 = .ok (.iload_n 3, 1) := by decide +kernel
theorem dX5_put_132 : decode cX5_put 132 = .ok (.iadd, 1) := by decide +kernel
theorem dX5_put_133 : decode cX5_put 133 = .ok (.putfield 61, 3) := by decide +kernel
theorem dX5_put_136 : decode cX5_put 136 = .ok (.aload_n 0, 1) := by decide +kernel
theorem dX5_put_137 : decode cX5_put 137 = .ok (.getfield 61, 3) := by decide +kernel
theorem dX5_put_140 : decode cX5_put 140 = .ok (.ireturn, 1) := by decide +kernel
theorem dX5_wipe_0 : decode cX5_wipe 0 = .ok (.aload_n 0, 1) := by decide +kernel
theorem dX5_wipe_1 : decode cX5_wipe 1 = .ok (.getfield 61, 3) := by decide +kernel
theorem dX5_wipe_4 : decode cX5_wipe 4 = .ok (.istore_n 1, 1) := by decide +kernel
theorem dX5_wipe_5 : decode cX5_wipe 5 = .ok (.aload_n 0, 1) := by decide +kernel
theorem dX5_wipe_6 : decode cX5_wipe 6 = .ok (.iconst 0, 1) := by decide +kernel
theorem dX5_wipe_7 : decode cX5_wipe 7 = .ok (.putfield 61, 3) := by decide +kernel
theorem dX5_wipe_10 : decode cX5_wipe 10 = .ok (.iload_n 1, 1) := by decide +kernel
theorem dX5_wipe_11 : decode cX5_wipe 11 = .ok (.ireturn, 1) := by decide +kernel
theorem dX5_next_0 : decode cX5_next 0 = .ok (.aload_n 0, 1) := by decide +kernel
theorem dX5_next_1 : decode cX5_next 1 = .ok (.getfield 65, 3) := by decide +kernel
theorem dX5_next_4 : decode cX5_next 4 = .ok (.aload_n 0, 1) := by decide +kernel
theorem dX5_next_5 : decode cX5_next 5 = .ok (.getfield 61, 3) := by decide +kernel
theorem dX5_next_8 : decode cX5_next 8 = .ok (.if_icmp .ge 15, 3) := by decide +kernel
theorem dX5_next_11 : decode cX5_next 11 = .ok (.aload_n 0, 1) := by decide +kernel
theorem dX5_next_12 : decode cX5_next 12 = .ok (.getfield 23, 3) := by decide +kernel
theorem dX5_next_15 : decode cX5_next 15 = .ok (.aload_n 0, 1) := by decide +kernel
theorem dX5_next_16 : decode cX5_next 16 = .ok (.getfield 65, 3) := by decide +kernel
theorem dX5_next_19 : decode cX5_next 19 = .ok (.iaload, 1) := by decide +kernel
theorem dX5_next_20 : decode cX5_next 20 = .ok (.goto 4, 3) := by decide +kernel
theorem dX5_next_23 : decode cX5_next 23 = .ok (.iconst 0, 1) := by decide +kernel
theorem dX5_next_24 : decode cX5_next 24 = .ok (.ireturn, 1) := by decide +kernel
theorem dX5_readNumber_0 : decode cX5_readNumber 0 = .ok (.aload_n 0, 1) := by decide +kernel
theorem dX5_readNumber_1 : decode cX5_readNumber 1 = .ok (.getfield 68, 3) := by decide +kernel
theorem dX5_readNumber_4 : decode cX5_readNumber 4 = .ok (.ifCond .ne 17, 3) := by decide +kernel
theorem dX5_readNumber_7 : decode cX5_readNumber 7 = .ok (.aload_n 0, 1) := by decide +kernel
theorem dX5_readNumber_8 : decode cX5_readNumber 8 = .ok (.invokevirtual 72, 3) := by decide +kernel
theorem dX5_readNumber_11 : decode cX5_readNumber 11 = .ok (.bipush 48, 2) := by decide +kernel
theorem dX5_readNumber_13 : decode cX5_readNumber 13 = .ok (.bipush 57, 2) := by decide +kernel
theorem dX5_readNumber_15 : decode cX5_readNumber 15 = .ok (.invokestatic 33, 3) := by decide +kernel
theorem dX5_readNumber_18 : decode cX5_readNumber 18 = .ok (.ifCond .ne 10, 3) := by decide +kernel
theorem dX5_readNumber_21 : decode cX5_readNumber 21 = .ok (.aload_n 0, 1) := by decide +kernel
theorem dX5_readNumber_22 : decode cX5_readNumber 22 = .ok (.iconst 1, 1) := by decide +kernel
theorem dX5_readNumber_23 : decode cX5_readNumber 23 = .ok (.putfield 68, 3) := by decide +kernel
theorem dX5_readNumber_26 : decode cX5_readNumber 26 = .ok (.iconst 0, 1) := by decide +kernel
theorem dX5_readNumber_27 : decode cX5_readNumber 27 = .ok (.ireturn, 1) := by decide +kernel
theorem dX5_readNumber_28 : decode cX5_readNumber 28 = .ok (.aload_n 0, 1) := by decide +kernel
theorem dX5_readNumber_29 : decode cX5_readNumber 29 = .ok (.invokevirtual 72, 3) := by decide +kernel
theorem dX5_readNumber_32 : decode cX5_readNumber 32 = .ok (.bipush 48, 2) := by decide +kernel
theorem dX5_readNumber_34 : decode cX5_readNumber 34 = .ok (.isub, 1) := by decide +kernel
theorem dX5_readNumber_35 : decode cX5_readNumber 35 = .ok (.istore_n 2, 1) := by decide +kernel
theorem dX5_readNumber_36 : decode cX5_readNumber 36 = .ok (.aload_n 0, 1) := by decide +kernel
theorem dX5_readNumber_37 : decode cX5_readNumber 37 = .ok (.dup, 1) := by decide +kernel
theorem dX5_readNumber_38 : decode cX5_readNumber 38 = .ok (.getfield 65, 3) := by decide +kernel
theorem dX5_readNumber_41 : decode cX5_readNumber 41 = .ok (.iconst 1, 1) := by decide +kernel
theorem dX5_readNumber_42 : decode cX5_readNumber 42 = .ok (.iadd, 1) := by decide +kernel
theorem dX5_readNumber_43 : decode cX5_readNumber 43 = .ok (.putfield 65, 3) := by decide +kernel
theorem dX5_readNumber_46 : decode cX5_readNumber 46 = .ok (.iload_n 2, 1) := by decide +kernel
theorem dX5_readNumber_47 : decode cX5_readNumber 47 = .ok (.ifCond .le 59, 3) := by decide +kernel
theorem dX5_readNumber_50 : decode cX5_readNumber 50 = .ok (.aload_n 0, 1) := by decide +kernel
theorem dX5_readNumber_51 : decode cX5_readNumber 51 = .ok (.invokevirtual 72, 3) := by decide +kernel
theorem dX5_readNumber_54 : decode cX5_readNumber 54 = .ok (.bipush 48, 2) := by decide +kernel
theorem dX5_readNumber_56 : decode cX5_readNumber 56 = .ok (.bipush 57, 2) := by decide +kernel
theorem dX5_readNumber_58 : decode cX5_readNumber 58 = .ok (.invokestatic 33, 3) := by decide +kernel
theorem dX5_readNumber_61 : decode cX5_readNumber 61 = .ok (.ifCond .eq 45, 3) := by decide +kernel
theorem dX5_readNumber_64 : decode cX5_readNumber 64 = .ok (.bipush 10, 2) := by decide +kernel
theorem dX5_readNumber_66 : decode cX5_readNumber 66 = .ok (.iload_n 2, 1) := by decide +kernel
theorem dX5_readNumber_67 : decode cX5_readNumber 67 = .ok (.imul, 1) := by decide +kernel
theorem dX5_readNumber_68 : decode cX5_readNumber 68 = .ok (.aload_n 0, 1) := by decide +kernel
theorem dX5_readNumber_69 : decode cX5_readNumber 69 = .ok (.invokevirtual 72, 3) := by decide +kernel
theorem dX5_readNumber_72 : decode cX5_readNumber 72 = .ok (.iadd, 1) := by decide +kernel
theorem dX5_readNumber_73 : decode cX5_readNumber 73 = .ok (.bipush 48, 2) := by decide +kernel
theorem dX5_readNumber_75 : decode cX5_readNumber 75 = .ok (.isub, 1) := by decide +kernel
theorem dX5_readNumber_76 : decode cX5_readNumber 76 = .ok (.iload_n 1, 1) := by decide +kernel
theorem dX5_readNumber_77 : decode cX5_readNumber 77 = .ok (.if_icmp .gt 29, 3) := by decide +kernel
theorem dX5_readNumber_80 : decode cX5_readNumber 80 = .ok (.bipush 10, 2) := by decide +kernel
theorem dX5_readNumber_82 : decode cX5_readNumber 82 = .ok (.iload_n 2, 1) := by decide +kernel
theorem dX5_readNumber_83 : decode cX5_readNumber 83 = .ok (.imul, 1) := by decide +kernel
theorem dX5_readNumber_84 : decode cX5_readNumber 84 = .ok (.aload_n 0, 1) := by decide +kernel
theorem dX5_readNumber_85 : decode cX5_readNumber 85 = .ok (.invokevirtual 72, 3) := by decide +kernel
theorem dX5_readNumber_88 : decode cX5_readNumber 88 = .ok (.iadd, 1) := by decide +kernel
theorem dX5_readNumber_89 : decode cX5_readNumber 89 = .ok (.bipush 48, 2) := by decide +kernel
theorem dX5_readNumber_91 : decode cX5_readNumber 91 = .ok (.isub, 1) := by decide +kernel
theorem dX5_readNumber_92 : decode cX5_readNumber 92 = .ok (.istore_n 2, 1) := by decide +kernel
theorem dX5_readNumber_93 : decode cX5_readNumber 93 = .ok (.aload_n 0, 1) := by decide +kernel
theorem dX5_readNumber_94 : decode cX5_readNumber 94 = .ok (.dup, 1) := by decide +kernel
theorem dX5_readNumber_95 : decode cX5_readNumber 95 = .ok (.getfield 65, 3) := by decide +kernel
theorem dX5_readNumber_98 : decode cX5_readNumber 98 = .ok (.iconst 1, 1) := by decide +kernel
theorem dX5_readNumber_99 : decode cX5_readNumber 99 = .ok (.iadd, 1) := by decide +kernel
theorem dX5_readNumber_100 : decode cX5_readNumber 100 = .ok (.putfield 65, 3) := by decide +kernel
theorem dX5_readNumber_103 : decode cX5_readNumber 103 = .ok (.goto (-57), 3) := by decide +kernel
theorem dX5_readNumber_106 : decode cX5_readNumber 106 = .ok (.iload_n 2, 1) := by decide +kernel
theorem dX5_readNumber_107 : decode cX5_readNumber 107 = .ok (.ireturn, 1) := by decide +kernel
theorem dX5_takes_0 : decode cX5_takes 0 = .ok (.aload_n 0, 1) := by decide +kernel
theorem dX5_takes_1 : decode cX5_takes 1 = .ok (.getfield 68, 3) := by decide +kernel
theorem dX5_takes_4 : decode cX5_takes 4 = .ok (.ifCond .ne 11, 3) := by decide +kernel
theorem dX5_takes_7 : decode cX5_takes 7 = .ok (.aload_n 0, 1) := by decide +kernel
theorem dX5_takes_8 : decode cX5_takes 8 = .ok (.invokevirtual 72, 3) := by decide +kernel
theorem dX5_takes_11 : decode cX5_takes 11 = .ok (.iload_n 1, 1) := by decide +kernel
theorem dX5_takes_12 : decode cX5_takes 12 = .ok (.if_icmp .eq 5, 3) := by decide +kernel
theorem dX5_takes_15 : decode cX5_takes 15 = .ok (.iconst 0, 1) := by decide +kernel
theorem dX5_takes_16 : decode cX5_takes 16 = .ok (.ireturn, 1) := by decide +kernel
theorem dX5_takes_17 : decode cX5_takes 17 = .ok (.aload_n 0, 1) := by decide +kernel
theorem dX5_takes_18 : decode cX5_takes 18 = .ok (.dup, 1) := by decide +kernel
theorem dX5_takes_19 : decode cX5_takes 19 = .ok (.getfield 65, 3) := by decide +kernel
theorem dX5_takes_22 : decode cX5_takes 22 = .ok (.iconst 1, 1) := by decide +kernel
theorem dX5_takes_23 : decode cX5_takes 23 = .ok (.iadd, 1) := by decide +kernel
theorem dX5_takes_24 : decode cX5_takes 24 = .ok (.putfield 65, 3) := by decide +kernel
theorem dX5_takes_27 : decode cX5_takes 27 = .ok (.iconst 1, 1) := by decide +kernel
theorem dX5_takes_28 : decode cX5_takes 28 = .ok (.ireturn, 1) := by decide +kernel
theorem dX5_kindOf_0 : decode cX5_kindOf 0 = .ok (.iload_n 0, 1) := by decide +kernel
theorem dX5_kindOf_1 : decode cX5_kindOf 1 = .ok (.tableswitch 77 104 116 #[69, 77, 77, 73, 77, 77, 67, 77, 77, 77, 77, 71, 75], 67) := by decide +kernel
theorem dX5_kindOf_68 : decode cX5_kindOf 68 = .ok (.iconst 0, 1) := by decide +kernel
theorem dX5_kindOf_69 : decode cX5_kindOf 69 = .ok (.ireturn, 1) := by decide +kernel
theorem dX5_kindOf_70 : decode cX5_kindOf 70 = .ok (.iconst 1, 1) := by decide +kernel
theorem dX5_kindOf_71 : decode cX5_kindOf 71 = .ok (.ireturn, 1) := by decide +kernel
theorem dX5_kindOf_72 : decode cX5_kindOf 72 = .ok (.iconst 2, 1) := by decide +kernel
theorem dX5_kindOf_73 : decode cX5_kindOf 73 = .ok (.ireturn, 1) := by decide +kernel
theorem dX5_kindOf_74 : decode cX5_kindOf 74 = .ok (.iconst 3, 1) := by decide +kernel
theorem dX5_kindOf_75 : decode cX5_kindOf 75 = .ok (.ireturn, 1) := by decide +kernel
theorem dX5_kindOf_76 : decode cX5_kindOf 76 = .ok (.iconst 4, 1) := by decide +kernel
theorem dX5_kindOf_77 : decode cX5_kindOf 77 = .ok (.ireturn, 1) := by decide +kernel
theorem dX5_kindOf_78 : decode cX5_kindOf 78 = .ok (.iload_n 0, 1) := by decide +kernel
theorem dX5_kindOf_79 : decode cX5_kindOf 79 = .ok (.bipush 99, 2) := by decide +kernel
theorem dX5_kindOf_81 : decode cX5_kindOf 81 = .ok (.if_icmp .ne 7, 3) := by decide +kernel
theorem dX5_kindOf_84 : decode cX5_kindOf 84 = .ok (.iconst 5, 1) := by decide +kernel
theorem dX5_kindOf_85 : decode cX5_kindOf 85 = .ok (.goto 5, 3) := by decide +kernel
theorem dX5_kindOf_88 : decode cX5_kindOf 88 = .ok (.bipush (-6), 2) := by decide +kernel
theorem dX5_kindOf_90 : decode cX5_kindOf 90 = .ok (.ireturn, 1) := by decide +kernel
theorem dX5_readFault_0 : decode cX5_readFault 0 = .ok (.iconst 5, 1) := by decide +kernel
theorem dX5_readFault_1 : decode cX5_readFault 1 = .ok (.aload_n 0, 1) := by decide +kernel
theorem dX5_readFault_2 : decode cX5_readFault 2 = .ok (.getfield 76, 3) := by decide +kernel
theorem dX5_readFault_5 : decode cX5_readFault 5 = .ok (.imul, 1) := by decide +kernel
theorem dX5_readFault_6 : decode cX5_readFault 6 = .ok (.istore_n 1, 1) := by decide +kernel
theorem dX5_readFault_7 : decode cX5_readFault 7 = .ok (.aload_n 0, 1) := by decide +kernel
theorem dX5_readFault_8 : decode cX5_readFault 8 = .ok (.getfield 26, 3) := by decide +kernel
theorem dX5_readFault_11 : decode cX5_readFault 11 = .ok (.iload_n 1, 1) := by decide +kernel
theorem dX5_readFault_12 : decode cX5_readFault 12 = .ok (.aload_n 0, 1) := by decide +kernel
theorem dX5_readFault_13 : decode cX5_readFault 13 = .ok (.invokevirtual 72, 3) := by decide +kernel
theorem dX5_readFault_16 : decode cX5_readFault 16 = .ok (.invokestatic 79, 3) := by decide +kernel
theorem dX5_readFault_19 : decode cX5_readFault 19 = .ok (.iastore, 1) := by decide +kernel
theorem dX5_readFault_20 : decode cX5_readFault 20 = .ok (.aload_n 0, 1) := by decide +kernel
theorem dX5_readFault_21 : decode cX5_readFault 21 = .ok (.aload_n 0, 1) := by decide +kernel
theorem dX5_readFault_22 : decode cX5_readFault 22 = .ok (.getfield 26, 3) := by decide +kernel
theorem dX5_readFault_25 : decode cX5_readFault 25 = .ok (.iload_n 1, 1) := by decide +kernel
theorem dX5_readFault_26 : decode cX5_readFault 26 = .ok (.iaload, 1) := by decide +kernel
theorem dX5_readFault_27 : decode cX5_readFault 27 = .ok (.ifCond .ge 7, 3) := by decide +kernel
theorem dX5_readFault_30 : decode cX5_readFault 30 = .ok (.iconst 1, 1) := by decide +kernel
theorem dX5_readFault_31 : decode cX5_readFault 31 = .ok (.goto 4, 3) := by decide +kernel
theorem dX5_readFault_34 : decode cX5_readFault 34 = .ok (.iconst 0, 1) := by decide +kernel
theorem dX5_readFault_35 : decode cX5_readFault 35 = .ok (.putfield 68, 3) := by decide +kernel
theorem dX5_readFault_38 : decode cX5_readFault 38 = .ok (.aload_n 0, 1) := by decide +kernel
theorem dX5_readFault_39 : decode cX5_readFault 39 = .ok (.dup, 1) := by decide +kernel
theorem dX5_readFault_40 : decode cX5_readFault 40 = .ok (.getfield 65, 3) := by decide +kernel
theorem dX5_readFault_43 : decode cX5_readFault 43 = .ok (.aload_n 0, 1) := by decide +kernel
theorem dX5_readFault_44 : decode cX5_readFault 44 = .ok (.getfield 68, 3) := by decide +kernel
theorem dX5_readFault_47 : decode cX5_readFault 47 = .ok (.ifCond .eq 7, 3) := by decide +kernel
theorem dX5_readFault_50 : decode cX5_readFault 50 = .ok (.iconst 0, 1) := by decide +kernel
theorem dX5_readFault_51 : decode cX5_readFault 51 = .ok (.goto 4, 3) := by decide +kernel
theorem dX5_readFault_54 : decode cX5_readFault 54 = .ok (.iconst 1, 1) := by decide +kernel
theorem dX5_readFault_55 : decode cX5_readFault 55 = .ok (.iadd, 1) := by decide +kernel
theorem dX5_readFault_56 : decode cX5_readFault 56 = .ok (.putfield 65, 3) := by decide +kernel
theorem dX5_readFault_59 : decode cX5_readFault 59 = .ok (.aload_n 0, 1) := by decide +kernel
theorem dX5_readFault_60 : decode cX5_readFault 60 = .ok (.getfield 68, 3) := by decide +kernel
theorem dX5_readFault_63 : decode cX5_readFault 63 = .ok (.ifCond .ne 17, 3) := by decide +kernel
theorem dX5_readFault_66 : decode cX5_readFault 66 = .ok (.aload_n 0, 1) := by decide +kernel
theorem dX5_readFault_67 : decode cX5_readFault 67 = .ok (.invokevirtual 72, 3) := by decide +kernel
theorem dX5_readFault_70 : decode cX5_readFault 70 = .ok (.bipush 48, 2) := by decide +kernel
theorem dX5_readFault_72 : decode cX5_readFault 72 = .ok (.bipush 53, 2) := by decide +kernel
theorem dX5_readFault_74 : decode cX5_readFault 74 = .ok (.invokestatic 33, 3) := by decide +kernel
theorem dX5_readFault_77 : decode cX5_readFault 77 = .ok (.ifCond .ne 9, 3) := by decide +kernel
theorem dX5_readFault_80 : decode cX5_readFault 80 = .ok (.aload_n 0, 1) := by decide +kernel
theorem dX5_readFault_81 : decode cX5_readFault 81 = .ok (.iconst 1, 1) := by decide +kernel
theorem dX5_readFault_82 : decode cX5_readFault 82 = .ok (.putfield 68, 3) := by decide +kernel
theorem dX5_readFault_85 : decode cX5_readFault 85 = .ok (.return_, 1) := by decide +kernel
theorem dX5_readFault_86 : decode cX5_readFault 86 = .ok (.aload_n 0, 1) := by decide +kernel
theorem dX5_readFault_87 : decode cX5_readFault 87 = .ok (.getfield 26, 3) := by decide +kernel
theorem dX5_readFault_90 : decode cX5_readFault 90 = .ok (.iload_n 1, 1) := by decide +kernel
theorem dX5_readFault_91 : decode cX5_readFault 91 = .ok (.iconst 1, 1) := by decide +kernel
theorem dX5_readFault_92 : decode cX5_readFault 92 = .ok (.iadd, 1) := by decide +kernel
theorem dX5_readFault_93 : decode cX5_readFault 93 = .ok (.aload_n 0, 1) := by decide +kernel
theorem dX5_readFault_94 : decode cX5_readFault 94 = .ok (.invokevirtual 72, 3) := by decide +kernel
theorem dX5_readFault_97 : decode cX5_readFault 97 = .ok (.bipush 48, 2) := by decide +kernel
theorem dX5_readFault_99 : decode cX5_readFault 99 = .ok (.isub, 1) := by decide +kernel
theorem dX5_readFault_100 : decode cX5_readFault 100 = .ok (.iastore, 1) := by decide +kernel
theorem dX5_readFault_101 : decode cX5_readFault 101 = .ok (.aload_n 0, 1) := by decide +kernel
theorem dX5_readFault_102 : decode cX5_readFault 102 = .ok (.dup, 1) := by decide +kernel
theorem dX5_readFault_103 : decode cX5_readFault 103 = .ok (.getfield 65, 3) := by decide +kernel
theorem dX5_readFault_106 : decode cX5_readFault 106 = .ok (.iconst 1, 1) := by decide +kernel
theorem dX5_readFault_107 : decode cX5_readFault 107 = .ok (.iadd, 1) := by decide +kernel
theorem dX5_readFault_108 : decode cX5_readFault 108 = .ok (.putfield 65, 3) := by decide +kernel
theorem dX5_readFault_111 : decode cX5_readFault 111 = .ok (.aload_n 0, 1) := by decide +kernel
theorem dX5_readFault_112 : decode cX5_readFault 112 = .ok (.getfield 26, 3) := by decide +kernel
theorem dX5_readFault_115 : decode cX5_readFault 115 = .ok (.iload_n 1, 1) := by decide +kernel
theorem dX5_readFault_116 : decode cX5_readFault 116 = .ok (.iconst 2, 1) := by decide +kernel
theorem dX5_readFault_117 : decode cX5_readFault 117 = .ok (.iadd, 1) := by decide +kernel
theorem dX5_readFault_118 : decode cX5_readFault 118 = .ok (.aload_n 0, 1) := by decide +kernel
theorem dX5_readFault_119 : decode cX5_readFault 119 = .ok (.bipush 64, 2) := by decide +kernel
theorem dX5_readFault_121 : decode cX5_readFault 121 = .ok (.invokevirtual 83, 3) := by decide +kernel
theorem dX5_readFault_124 : decode cX5_readFault 124 = .ok (.ifCond .eq 13, 3) := by decide +kernel
theorem dX5_readFault_127 : decode cX5_readFault 127 = .ok (.aload_n 0, 1) := by decide +kernel
theorem dX5_readFault_128 : decode cX5_readFault 128 = .ok (.sipush 5000, 3) := by decide +kernel
theorem dX5_readFault_131 : decode cX5_readFault 131 = .ok (.invokevirtual 86, 3) := by decide +kernel
theorem dX5_readFault_134 : decode cX5_readFault 134 = .ok (.goto 4, 3) := by decide +kernel
theorem dX5_readFault_137 : decode cX5_readFault 137 = .ok (.iconst 0, 1) := by decide +kernel
theorem dX5_readFault_138 : decode cX5_readFault 138 = .ok (.iastore, 1) := by decide +kernel
theorem dX5_readFault_139 : decode cX5_readFault 139 = .ok (.aload_n 0, 1) := by decide +kernel
theorem dX5_readFault_140 : decode cX5_readFault 140 = .ok (.getfield 26, 3) := by decide +kernel
theorem dX5_readFault_143 : decode cX5_readFault 143 = .ok (.iload_n 1, 1) := by decide +kernel
theorem dX5_readFault_144 : decode cX5_readFault 144 = .ok (.iconst 3, 1) := by decide +kernel
theorem dX5_readFault_145 : decode cX5_readFault 145 = .ok (.iadd, 1) := by decide +kernel
theorem dX5_readFault_146 : decode cX5_readFault 146 = .ok (.aload_n 0, 1) := by decide +kernel
theorem dX5_readFault_147 : decode cX5_readFault 147 = .ok (.bipush 42, 2) := by decide +kernel
theorem dX5_readFault_149 : decode cX5_readFault 149 = .ok (.invokevirtual 83, 3) := by decide +kernel
theorem dX5_readFault_152 : decode cX5_readFault 152 = .ok (.ifCond .eq 13, 3) := by decide +kernel
theorem dX5_readFault_155 : decode cX5_readFault 155 = .ok (.aload_n 0, 1) := by decide +kernel
theorem dX5_readFault_156 : decode cX5_readFault 156 = .ok (.sipush 500, 3) := by decide +kernel
theorem dX5_readFault_159 : decode cX5_readFault 159 = .ok (.invokevirtual 86, 3) := by decide +kernel
theorem dX5_readFault_162 : decode cX5_readFault 162 = .ok (.goto 4, 3) := by decide +kernel
theorem dX5_readFault_165 : decode cX5_readFault 165 = .ok (.iconst 0, 1) := by decide +kernel
theorem dX5_readFault_166 : decode cX5_readFault 166 = .ok (.iastore, 1) := by decide +kernel
theorem dX5_readFault_167 : decode cX5_readFault 167 = .ok (.aload_n 0, 1) := by decide +kernel
theorem dX5_readFault_168 : decode cX5_readFault 168 = .ok (.getfield 26, 3) := by decide +kernel
theorem dX5_readFault_171 : decode cX5_readFault 171 = .ok (.iload_n 1, 1) := by decide +kernel
theorem dX5_readFault_172 : decode cX5_readFault 172 = .ok (.iconst 4, 1) := by decide +kernel
theorem dX5_readFault_173 : decode cX5_readFault 173 = .ok (.iadd, 1) := by decide +kernel
theorem dX5_readFault_174 : decode cX5_readFault 174 = .ok (.aload_n 0, 1) := by decide +kernel
theorem dX5_readFault_175 : decode cX5_readFault 175 = .ok (.bipush 33, 2) := by decide +kernel
theorem dX5_readFault_177 : decode cX5_readFault 177 = .ok (.invokevirtual 83, 3) := by decide +kernel
theorem dX5_readFault_180 : decode cX5_readFault 180 = .ok (.ifCond .eq 7, 3) := by decide +kernel
theorem dX5_readFault_183 : decode cX5_readFault 183 = .ok (.iconst 1, 1) := by decide +kernel
theorem dX5_readFault_184 : decode cX5_readFault 184 = .ok (.goto 4, 3) := by decide +kernel
theorem dX5_readFault_187 : decode cX5_readFault 187 = .ok (.iconst 0, 1) := by decide +kernel
theorem dX5_readFault_188 : decode cX5_readFault 188 = .ok (.iastore, 1) := by decide +kernel
theorem dX5_readFault_189 : decode cX5_readFault 189 = .ok (.aload_n 0, 1) := by decide +kernel
theorem dX5_readFault_190 : decode cX5_readFault 190 = .ok (.dup, 1) := by decide +kernel
theorem dX5_readFault_191 : decode cX5_readFault 191 = .ok (.getfield 76, 3) := by decide +kernel
theorem dX5_readFault_194 : decode cX5_readFault 194 = .ok (.iconst 1, 1) := by decide +kernel
theorem dX5_readFault_195 : decode cX5_readFault 195 = .ok (.iadd, 1) := by decide +kernel
theorem dX5_readFault_196 : decode cX5_readFault 196 = .ok (.putfield 76, 3) := by decide +kernel
theorem dX5_readFault_199 : decode cX5_readFault 199 = .ok (.return_, 1) := by decide +kernel
theorem dX5_position_0 : decode cX5_position 0 = .ok (.aload_n 0, 1) := by decide +kernel
theorem dX5_position_1 : decode cX5_position 1 = .ok (.iconst 0, 1) := by decide +kernel
theorem dX5_position_2 : decode cX5_position 2 = .ok (.putfield 65, 3) := by decide +kernel
theorem dX5_position_5 : decode cX5_position 5 = .ok (.aload_n 0, 1) := by decide +kernel
theorem dX5_position_6 : decode cX5_position 6 = .ok (.iconst 0, 1) := by decide +kernel
theorem dX5_position_7 : decode cX5_position 7 = .ok (.putfield 68, 3) := by decide +kernel
theorem dX5_position_10 : decode cX5_position 10 = .ok (.aload_n 0, 1) := by decide +kernel
theorem dX5_position_11 : decode cX5_position 11 = .ok (.iconst 0, 1) := by decide +kernel
theorem dX5_position_12 : decode cX5_position 12 = .ok (.putfield 76, 3) := by decide +kernel
theorem dX5_position_15 : decode cX5_position 15 = .ok (.aload_n 0, 1) := by decide +kernel
theorem dX5_position_16 : decode cX5_position 16 = .ok (.invokevirtual 89, 3) := by decide +kernel
theorem dX5_position_19 : decode cX5_position 19 = .ok (.aload_n 0, 1) := by decide +kernel
theorem dX5_position_20 : decode cX5_position 20 = .ok (.bipush 44, 2) := by decide +kernel
theorem dX5_position_22 : decode cX5_position 22 = .ok (.invokevirtual 83, 3) := by decide +kernel
theorem dX5_position_25 : decode cX5_position 25 = .ok (.ifCond .eq 10, 3) := by decide +kernel
theorem dX5_position_28 : decode cX5_position 28 = .ok (.aload_n 0, 1) := by decide +kernel
theorem dX5_position_29 : decode cX5_position 29 = .ok (.invokevirtual 89, 3) := by decide +kernel
theorem dX5_position_32 : decode cX5_position 32 = .ok (.goto (-13), 3) := by decide +kernel
theorem dX5_position_35 : decode cX5_position 35 = .ok (.aload_n 0, 1) := by decide +kernel
theorem dX5_position_36 : decode cX5_position 36 = .ok (.getfield 68, 3) := by decide +kernel
theorem dX5_position_39 : decode cX5_position 39 = .ok (.ifCond .ne 14, 3) := by decide +kernel
theorem dX5_position_42 : decode cX5_position 42 = .ok (.aload_n 0, 1) := by decide +kernel
theorem dX5_position_43 : decode cX5_position 43 = .ok (.getfield 65, 3) := by decide +kernel
theorem dX5_position_46 : decode cX5_position 46 = .ok (.aload_n 0, 1) := by decide +kernel
theorem dX5_position_47 : decode cX5_position 47 = .ok (.getfield 61, 3) := by decide +kernel
theorem dX5_position_50 : decode cX5_position 50 = .ok (.if_icmp .ge 10, 3) := by decide +kernel
theorem dX5_position_53 : decode cX5_position 53 = .ok (.aload_n 0, 1) := by decide +kernel
theorem dX5_position_54 : decode cX5_position 54 = .ok (.getfield 65, 3) := by decide +kernel
theorem dX5_position_57 : decode cX5_position 57 = .ok (.goto 5, 3) := by decide +kernel
theorem dX5_position_60 : decode cX5_position 60 = .ok (.bipush (-6), 2) := by decide +kernel
theorem dX5_position_62 : decode cX5_position 62 = .ok (.ireturn, 1) := by decide +kernel
theorem dX5_load_0 : decode cX5_load 0 = .ok (.aload_n 0, 1) := by decide +kernel
theorem dX5_load_1 : decode cX5_load 1 = .ok (.invokevirtual 92, 3) := by decide +kernel
theorem dX5_load_4 : decode cX5_load 4 = .ok (.bipush (-6), 2) := by decide +kernel
theorem dX5_load_6 : decode cX5_load 6 = .ok (.if_icmp .eq 6, 3) := by decide +kernel
theorem dX5_load_9 : decode cX5_load 9 = .ok (.bipush (-3), 2) := by decide +kernel
theorem dX5_load_11 : decode cX5_load 11 = .ok (.ireturn, 1) := by decide +kernel
theorem dX5_load_12 : decode cX5_load 12 = .ok (.iconst 1, 1) := by decide +kernel
theorem dX5_load_13 : decode cX5_load 13 = .ok (.istore_n 1, 1) := by decide +kernel
theorem dX5_load_14 : decode cX5_load 14 = .ok (.iconst 0, 1) := by decide +kernel
theorem dX5_load_15 : decode cX5_load 15 = .ok (.istore_n 2, 1) := by decide +kernel
theorem dX5_load_16 : decode cX5_load 16 = .ok (.iload_n 2, 1) := by decide +kernel
theorem dX5_load_17 : decode cX5_load 17 = .ok (.aload_n 0, 1) := by decide +kernel
theorem dX5_load_18 : decode cX5_load 18 = .ok (.getfield 76, 3) := by decide +kernel
theorem dX5_load_21 : decode cX5_load 21 = .ok (.if_icmp .ge 36, 3) := by decide +kernel
theorem dX5_load_24 : decode cX5_load 24 = .ok (.iload_n 1, 1) := by decide +kernel
theorem dX5_load_25 : decode cX5_load 25 = .ok (.ifCond .eq 24, 3) := by decide +kernel
theorem dX5_load_28 : decode cX5_load 28 = .ok (.aload_n 0, 1) := by decide +kernel
theorem dX5_load_29 : decode cX5_load 29 = .ok (.aload_n 0, 1) := by decide +kernel
theorem dX5_load_30 : decode cX5_load 30 = .ok (.getfield 26, 3) := by decide +kernel
theorem dX5_load_33 : decode cX5_load 33 = .ok (.iconst 5, 1) := by decide +kernel
theorem dX5_load_34 : decode cX5_load 34 = .ok (.iload_n 2, 1) := by decide +kernel
theorem dX5_load_35 : decode cX5_load 35 = .ok (.imul, 1) := by decide +kernel
theorem dX5_load_36 : decode cX5_load 36 = .ok (.iconst 1, 1) := by decide +kernel
theorem dX5_load_37 : decode cX5_load 37 = .ok (.iadd, 1) := by decide +kernel
theorem dX5_load_38 : decode cX5_load 38 = .ok (.iaload, 1) := by decide +kernel
theorem dX5_load_39 : decode cX5_load 39 = .ok (.invokevirtual 45, 3) := by decide +kernel
theorem dX5_load_42 : decode cX5_load 42 = .ok (.ifCond .eq 7, 3) := by decide +kernel
theorem dX5_load_45 : decode cX5_load 45 = .ok (.iconst 1, 1) := by decide +kernel
theorem dX5_load_46 : decode cX5_load 46 = .ok (.goto 4, 3) := by decide +kernel
theorem dX5_load_49 : decode cX5_load 49 = .ok (.iconst 0, 1) := by decide +kernel
theorem dX5_load_50 : decode cX5_load 50 = .ok (.istore_n 1, 1) := by decide +kernel
theorem dX5_load_51 : decode cX5_load 51 = .ok (.iinc 2 1, 3) := by decide +kernel
theorem dX5_load_54 : decode cX5_load 54 = .ok (.goto (-38), 3) := by decide +kernel
theorem dX5_load_57 : decode cX5_load 57 = .ok (.iload_n 1, 1) := by decide +kernel
theorem dX5_load_58 : decode cX5_load 58 = .ok (.ifCond .ne 5, 3) := by decide +kernel
theorem dX5_load_61 : decode cX5_load 61 = .ok (.iconst (-1), 1) := by decide +kernel
theorem dX5_load_62 : decode cX5_load 62 = .ok (.ireturn, 1) := by decide +kernel
theorem dX5_load_63 : decode cX5_load 63 = .ok (.iconst 0, 1) := by decide +kernel
theorem dX5_load_64 : decode cX5_load 64 = .ok (.istore_n 2, 1) := by decide +kernel
theorem dX5_load_65 : decode cX5_load 65 = .ok (.iload_n 2, 1) := by decide +kernel
theorem dX5_load_66 : decode cX5_load 66 = .ok (.aload_n 0, 1) := by decide +kernel
theorem dX5_load_67 : decode cX5_load 67 = .ok (.getfield 76, 3) := by decide +kernel
theorem dX5_load_70 : decode cX5_load 70 = .ok (.if_icmp .ge 61, 3) := by decide +kernel
theorem dX5_load_73 : decode cX5_load 73 = .ok (.aload_n 0, 1) := by decide +kernel
theorem dX5_load_74 : decode cX5_load 74 = .ok (.aload_n 0, 1) := by decide +kernel
theorem dX5_load_75 : decode cX5_load 75 = .ok (.getfield 26, 3) := by decide +kernel
theorem dX5_load_78 : decode cX5_load 78 = .ok (.iconst 5, 1) := by decide +kernel
theorem dX5_load_79 : decode cX5_load 79 = .ok (.iload_n 2, 1) := by decide +kernel
theorem dX5_load_80 : decode cX5_load 80 = .ok (.imul, 1) := by decide +kernel
theorem dX5_load_81 : decode cX5_load 81 = .ok (.iconst 4, 1) := by decide +kernel
theorem dX5_load_82 : decode cX5_load 82 = .ok (.iadd, 1) := by decide +kernel
theorem dX5_load_83 : decode cX5_load 83 = .ok (.iaload, 1) := by decide +kernel
theorem dX5_load_84 : decode cX5_load 84 = .ok (.aload_n 0, 1) := by decide +kernel
theorem dX5_load_85 : decode cX5_load 85 = .ok (.getfield 26, 3) := by decide +kernel
theorem dX5_load_88 : decode cX5_load 88 = .ok (.iconst 5, 1) := by decide +kernel
theorem dX5_load_89 : decode cX5_load 89 = .ok (.iload_n 2, 1) := by decide +kernel
theorem dX5_load_90 : decode cX5_load 90 = .ok (.imul, 1) := by decide +kernel
theorem dX5_load_91 : decode cX5_load 91 = .ok (.iconst 1, 1) := by decide +kernel
theorem dX5_load_92 : decode cX5_load 92 = .ok (.iadd, 1) := by decide +kernel
theorem dX5_load_93 : decode cX5_load 93 = .ok (.iaload, 1) := by decide +kernel
theorem dX5_load_94 : decode cX5_load 94 = .ok (.aload_n 0, 1) := by decide +kernel
theorem dX5_load_95 : decode cX5_load 95 = .ok (.getfield 26, 3) := by decide +kernel
theorem dX5_load_98 : decode cX5_load 98 = .ok (.iconst 5, 1) := by decide +kernel
theorem dX5_load_99 : decode cX5_load 99 = .ok (.iload_n 2, 1) := by decide +kernel
theorem dX5_load_100 : decode cX5_load 100 = .ok (.imul, 1) := by decide +kernel
theorem dX5_load_101 : decode cX5_load 101 = .ok (.iaload, 1) := by decide +kernel
theorem dX5_load_102 : decode cX5_load 102 = .ok (.aload_n 0, 1) := by decide +kernel
theorem dX5_load_103 : decode cX5_load 103 = .ok (.getfield 26, 3) := by decide +kernel
theorem dX5_load_106 : decode cX5_load 106 = .ok (.iconst 5, 1) := by decide +kernel
theorem dX5_load_107 : decode cX5_load 107 = .ok (.iload_n 2, 1) := by decide +kernel
theorem dX5_load_108 : decode cX5_load 108 = .ok (.imul, 1) := by decide +kernel
theorem dX5_load_109 : decode cX5_load 109 = .ok (.iconst 2, 1) := by decide +kernel
theorem dX5_load_110 : decode cX5_load 110 = .ok (.iadd, 1) := by decide +kernel
theorem dX5_load_111 : decode cX5_load 111 = .ok (.iaload, 1) := by decide +kernel
theorem dX5_load_112 : decode cX5_load 112 = .ok (.aload_n 0, 1) := by decide +kernel
theorem dX5_load_113 : decode cX5_load 113 = .ok (.getfield 26, 3) := by decide +kernel
theorem dX5_load_116 : decode cX5_load 116 = .ok (.iconst 5, 1) := by decide +kernel
theorem dX5_load_117 : decode cX5_load 117 = .ok (.iload_n 2, 1) := by decide +kernel
theorem dX5_load_118 : decode cX5_load 118 = .ok (.imul, 1) := by decide +kernel
theorem dX5_load_119 : decode cX5_load 119 = .ok (.iconst 3, 1) := by decide +kernel
theorem dX5_load_120 : decode cX5_load 120 = .ok (.iadd, 1) := by decide +kernel
theorem dX5_load_121 : decode cX5_load 121 = .ok (.iaload, 1) := by decide +kernel
theorem dX5_load_122 : decode cX5_load 122 = .ok (.invokevirtual 55, 3) := by decide +kernel
theorem dX5_load_125 : decode cX5_load 125 = .ok (.iinc 2 1, 3) := by decide +kernel
theorem dX5_load_128 : decode cX5_load 128 = .ok (.goto (-63), 3) := by decide +kernel
theorem dX5_load_131 : decode cX5_load 131 = .ok (.aload_n 0, 1) := by decide +kernel
theorem dX5_load_132 : decode cX5_load 132 = .ok (.iconst 0, 1) := by decide +kernel
theorem dX5_load_133 : decode cX5_load 133 = .ok (.putfield 61, 3) := by decide +kernel
theorem dX5_load_136 : decode cX5_load 136 = .ok (.aload_n 0, 1) := by decide +kernel
theorem dX5_load_137 : decode cX5_load 137 = .ok (.getfield 76, 3) := by decide +kernel
theorem dX5_load_140 : decode cX5_load 140 = .ok (.ireturn, 1) := by decide +kernel
theorem dX5_firstExpired_0 : decode cX5_firstExpired 0 = .ok (.iconst 0, 1) := by decide +kernel
theorem dX5_firstExpired_1 : decode cX5_firstExpired 1 = .ok (.istore_n 1, 1) := by decide +kernel
theorem dX5_firstExpired_2 : decode cX5_firstExpired 2 = .ok (.iload_n 1, 1) := by decide +kernel
theorem dX5_firstExpired_3 : decode cX5_firstExpired 3 = .ok (.aload_n 0, 1) := by decide +kernel
theorem dX5_firstExpired_4 : decode cX5_firstExpired 4 = .ok (.getfield 7, 3) := by decide +kernel
theorem dX5_firstExpired_7 : decode cX5_firstExpired 7 = .ok (.bipush 17, 2) := by decide +kernel
theorem dX5_firstExpired_9 : decode cX5_firstExpired 9 = .ok (.iaload, 1) := by decide +kernel
theorem dX5_firstExpired_10 : decode cX5_firstExpired 10 = .ok (.if_icmp .ge 22, 3) := by decide +kernel
theorem dX5_firstExpired_13 : decode cX5_firstExpired 13 = .ok (.aload_n 0, 1) := by decide +kernel
theorem dX5_firstExpired_14 : decode cX5_firstExpired 14 = .ok (.iload_n 1, 1) := by decide +kernel
theorem dX5_firstExpired_15 : decode cX5_firstExpired 15 = .ok (.bipush 15, 2) := by decide +kernel
theorem dX5_firstExpired_17 : decode cX5_firstExpired 17 = .ok (.invokevirtual 52, 3) := by decide +kernel
theorem dX5_firstExpired_20 : decode cX5_firstExpired 20 = .ok (.iconst 1, 1) := by decide +kernel
theorem dX5_firstExpired_21 : decode cX5_firstExpired 21 = .ok (.if_icmp .ne 5, 3) := by decide +kernel
theorem dX5_firstExpired_24 : decode cX5_firstExpired 24 = .ok (.iload_n 1, 1) := by decide +kernel
theorem dX5_firstExpired_25 : decode cX5_firstExpired 25 = .ok (.ireturn, 1) := by decide +kernel
theorem dX5_firstExpired_26 : decode cX5_firstExpired 26 = .ok (.iinc 1 1, 3) := by decide +kernel
theorem dX5_firstExpired_29 : decode cX5_firstExpired 29 = .ok (.goto (-27), 3) := by decide +kernel
theorem dX5_firstExpired_32 : decode cX5_firstExpired 32 = .ok (.bipush (-6), 2) := by decide +kernel
theorem dX5_firstExpired_34 : decode cX5_firstExpired 34 = .ok (.ireturn, 1) := by decide +kernel
theorem dX5_boot_0 : decode cX5_boot 0 = .ok (.aload_n 0, 1) := by decide +kernel
theorem dX5_boot_1 : decode cX5_boot 1 = .ok (.getfield 7, 3) := by decide +kernel
theorem dX5_boot_4 : decode cX5_boot 4 = .ok (.bipush 9, 2) := by decide +kernel
theorem dX5_boot_6 : decode cX5_boot 6 = .ok (.iconst 0, 1) := by decide +kernel
theorem dX5_boot_7 : decode cX5_boot 7 = .ok (.iastore, 1) := by decide +kernel
theorem dX5_boot_8 : decode cX5_boot 8 = .ok (.aload_n 0, 1) := by decide +kernel
theorem dX5_boot_9 : decode cX5_boot 9 = .ok (.getfield 7, 3) := by decide +kernel
theorem dX5_boot_12 : decode cX5_boot 12 = .ok (.bipush 12, 2) := by decide +kernel
theorem dX5_boot_14 : decode cX5_boot 14 = .ok (.aload_n 0, 1) := by decide +kernel
theorem dX5_boot_15 : decode cX5_boot 15 = .ok (.getfield 7, 3) := by decide +kernel
theorem dX5_boot_18 : decode cX5_boot 18 = .ok (.iconst 5, 1) := by decide +kernel
theorem dX5_boot_19 : decode cX5_boot 19 = .ok (.iaload, 1) := by decide +kernel
theorem dX5_boot_20 : decode cX5_boot 20 = .ok (.iastore, 1) := by decide +kernel
theorem dX5_boot_21 : decode cX5_boot 21 = .ok (.return_, 1) := by decide +kernel
theorem dX5_makeReset_0 : decode cX5_makeReset 0 = .ok (.iload_n 1, 1) := by decide +kernel
theorem dX5_makeReset_1 : decode cX5_makeReset 1 = .ok (.iconst 3, 1) := by decide +kernel
theorem dX5_makeReset_2 : decode cX5_makeReset 2 = .ok (.if_icmp .ne 7, 3) := by decide +kernel
theorem dX5_makeReset_5 : decode cX5_makeReset 5 = .ok (.iload_n 2, 1) := by decide +kernel
theorem dX5_makeReset_6 : decode cX5_makeReset 6 = .ok (.goto 7, 3) := by decide +kernel
theorem dX5_makeReset_9 : decode cX5_makeReset 9 = .ok (.aload_n 0, 1) := by decide +kernel
theorem dX5_makeReset_10 : decode cX5_makeReset 10 = .ok (.invokevirtual 95, 3) := by decide +kernel
theorem dX5_makeReset_13 : decode cX5_makeReset 13 = .ok (.istore_n 3, 1) := by decide +kernel
theorem dX5_makeReset_14 : decode cX5_makeReset 14 = .ok (.sipush 175, 3) := by decide +kernel
theorem dX5_makeReset_17 : decode cX5_makeReset 17 = .ok (.iconst 5, 1) := by decide +kernel
theorem dX5_makeReset_18 : decode cX5_makeReset 18 = .ok (.aload_n 0, 1) := by decide +kernel
theorem dX5_makeReset_19 : decode cX5_makeReset 19 = .ok (.getfield 7, 3) := by decide +kernel
theorem dX5_makeReset_22 : decode cX5_makeReset 22 = .ok (.bipush 18, 2) := by decide +kernel
theorem dX5_makeReset_24 : decode cX5_makeReset 24 = .ok (.iaload, 1) := by decide +kernel
theorem dX5_makeReset_25 : decode cX5_makeReset 25 = .ok (.bipush 16, 2) := by decide +kernel
theorem dX5_makeReset_27 : decode cX5_makeReset 27 = .ok (.irem, 1) := by decide +kernel
theorem dX5_makeReset_28 : decode cX5_makeReset 28 = .ok (.imul, 1) := by decide +kernel
theorem dX5_makeReset_29 : decode cX5_makeReset 29 = .ok (.iadd, 1) := by decide +kernel
theorem dX5_makeReset_30 : decode cX5_makeReset 30 = .ok (.istore 4, 2) := by decide +kernel
theorem dX5_makeReset_32 : decode cX5_makeReset 32 = .ok (.aload_n 0, 1) := by decide +kernel
theorem dX5_makeReset_33 : decode cX5_makeReset 33 = .ok (.getfield 7, 3) := by decide +kernel
theorem dX5_makeReset_36 : decode cX5_makeReset 36 = .ok (.iload 4, 2) := by decide +kernel
theorem dX5_makeReset_38 : decode cX5_makeReset 38 = .ok (.iload_n 1, 1) := by decide +kernel
theorem dX5_makeReset_39 : decode cX5_makeReset 39 = .ok (.iastore, 1) := by decide +kernel
theorem dX5_makeReset_40 : decode cX5_makeReset 40 = .ok (.aload_n 0, 1) := by decide +kernel
theorem dX5_makeReset_41 : decode cX5_makeReset 41 = .ok (.getfield 7, 3) := by decide +kernel
theorem dX5_makeReset_44 : decode cX5_makeReset 44 = .ok (.iload 4, 2) := by decide +kernel
theorem dX5_makeReset_46 : decode cX5_makeReset 46 = .ok (.iconst 1, 1) := by decide +kernel
theorem dX5_makeReset_47 : decode cX5_makeReset 47 = .ok (.iadd, 1) := by decide +kernel
theorem dX5_makeReset_48 : decode cX5_makeReset 48 = .ok (.aload_n 0, 1) := by decide +kernel
theorem dX5_makeReset_49 : decode cX5_makeReset 49 = .ok (.getfield 7, 3) := by decide +kernel
theorem dX5_makeReset_52 : decode cX5_makeReset 52 = .ok (.bipush 8, 2) := by decide +kernel
theorem dX5_makeReset_54 : decode cX5_makeReset 54 = .ok (.iaload, 1) := by decide +kernel
theorem dX5_makeReset_55 : decode cX5_makeReset 55 = .ok (.iastore, 1) := by decide +kernel
theorem dX5_makeReset_56 : decode cX5_makeReset 56 = .ok (.aload_n 0, 1) := by decide +kernel
theorem dX5_makeReset_57 : decode cX5_makeReset 57 = .ok (.getfield 7, 3) := by decide +kernel
theorem dX5_makeReset_60 : decode cX5_makeReset 60 = .ok (.iload 4, 2) := by decide +kernel
theorem dX5_makeReset_62 : decode cX5_makeReset 62 = .ok (.iconst 2, 1) := by decide +kernel
theorem dX5_makeReset_63 : decode cX5_makeReset 63 = .ok (.iadd, 1) := by decide +kernel
theorem dX5_makeReset_64 : decode cX5_makeReset 64 = .ok (.iload_n 3, 1) := by decide +kernel
theorem dX5_makeReset_65 : decode cX5_makeReset 65 = .ok (.iastore, 1) := by decide +kernel
theorem dX5_makeReset_66 : decode cX5_makeReset 66 = .ok (.aload_n 0, 1) := by decide +kernel
theorem dX5_makeReset_67 : decode cX5_makeReset 67 = .ok (.getfield 7, 3) := by decide +kernel
theorem dX5_makeReset_70 : decode cX5_makeReset 70 = .ok (.iload 4, 2) := by decide +kernel
theorem dX5_makeReset_72 : decode cX5_makeReset 72 = .ok (.iconst 3, 1) := by decide +kernel
theorem dX5_makeReset_73 : decode cX5_makeReset 73 = .ok (.iadd, 1) := by decide +kernel
theorem dX5_makeReset_74 : decode cX5_makeReset 74 = .ok (.aload_n 0, 1) := by decide +kernel
theorem dX5_makeReset_75 : decode cX5_makeReset 75 = .ok (.getfield 7, 3) := by decide +kernel
theorem dX5_makeReset_78 : decode cX5_makeReset 78 = .ok (.bipush 10, 2) := by decide +kernel
theorem dX5_makeReset_80 : decode cX5_makeReset 80 = .ok (.iaload, 1) := by decide +kernel
theorem dX5_makeReset_81 : decode cX5_makeReset 81 = .ok (.iastore, 1) := by decide +kernel
theorem dX5_makeReset_82 : decode cX5_makeReset 82 = .ok (.aload_n 0, 1) := by decide +kernel
theorem dX5_makeReset_83 : decode cX5_makeReset 83 = .ok (.getfield 7, 3) := by decide +kernel
theorem dX5_makeReset_86 : decode cX5_makeReset 86 = .ok (.iload 4, 2) := by decide +kernel
theorem dX5_makeReset_88 : decode cX5_makeReset 88 = .ok (.iconst 4, 1) := by decide +kernel
theorem dX5_makeReset_89 : decode cX5_makeReset 89 = .ok (.iadd, 1) := by decide +kernel
theorem dX5_makeReset_90 : decode cX5_makeReset 90 = .ok (.aload_n 0, 1) := by decide +kernel
theorem dX5_makeReset_91 : decode cX5_makeReset 91 = .ok (.getfield 7, 3) := by decide +kernel
theorem dX5_makeReset_94 : decode cX5_makeReset 94 = .ok (.bipush 13, 2) := by decide +kernel
theorem dX5_makeReset_96 : decode cX5_makeReset 96 = .ok (.iaload, 1) := by decide +kernel
theorem dX5_makeReset_97 : decode cX5_makeReset 97 = .ok (.iastore, 1) := by decide +kernel
theorem dX5_makeReset_98 : decode cX5_makeReset 98 = .ok (.aload_n 0, 1) := by decide +kernel
theorem dX5_makeReset_99 : decode cX5_makeReset 99 = .ok (.getfield 7, 3) := by decide +kernel
theorem dX5_makeReset_102 : decode cX5_makeReset 102 = .ok (.bipush 18, 2) := by decide +kernel
theorem dX5_makeReset_104 : decode cX5_makeReset 104 = .ok (.dup2, 1) := by decide +kernel
theorem dX5_makeReset_105 : decode cX5_makeReset 105 = .ok (.iaload, 1) := by decide +kernel
theorem dX5_makeReset_106 : decode cX5_makeReset 106 = .ok (.iconst 1, 1) := by decide +kernel
theorem dX5_makeReset_107 : decode cX5_makeReset 107 = .ok (.iadd, 1) := by decide +kernel
theorem dX5_makeReset_108 : decode cX5_makeReset 108 = .ok (.iastore, 1) := by decide +kernel
theorem dX5_makeReset_109 : decode cX5_makeReset 109 = .ok (.iload_n 3, 1) := by decide +kernel
theorem dX5_makeReset_110 : decode cX5_makeReset 110 = .ok (.ifCond .lt 19, 3) := by decide +kernel
theorem dX5_makeReset_113 : decode cX5_makeReset 113 = .ok (.aload_n 0, 1) := by decide +kernel
theorem dX5_makeReset_114 : decode cX5_makeReset 114 = .ok (.iload_n 3, 1) := by decide +kernel
theorem dX5_makeReset_115 : decode cX5_makeReset 115 = .ok (.bipush 19, 2) := by decide +kernel
theorem dX5_makeReset_117 : decode cX5_makeReset 117 = .ok (.aload_n 0, 1) := by decide +kernel
theorem dX5_makeReset_118 : decode cX5_makeReset 118 = .ok (.iload_n 3, 1) := by decide +kernel
theorem dX5_makeReset_119 : decode cX5_makeReset 119 = .ok (.bipush 19, 2) := by decide +kernel
theorem dX5_makeReset_121 : decode cX5_makeReset 121 = .ok (.invokevirtual 52, 3) := by decide +kernel
theorem dX5_makeReset_124 : decode cX5_makeReset 124 = .ok (.iconst 1, 1) := by decide +kernel
theorem dX5_makeReset_125 : decode cX5_makeReset 125 = .ok (.iadd, 1) := by decide +kernel
theorem dX5_makeReset_126 : decode cX5_makeReset 126 = .ok (.invokevirtual 41, 3) := by decide +kernel
theorem dX5_makeReset_129 : decode cX5_makeReset 129 = .ok (.aload_n 0, 1) := by decide +kernel
theorem dX5_makeReset_130 : decode cX5_makeReset 130 = .ok (.getfield 7, 3) := by decide +kernel
theorem dX5_makeReset_133 : decode cX5_makeReset 133 = .ok (.bipush 11, 2) := by decide +kernel
theorem dX5_makeReset_135 : decode cX5_makeReset 135 = .ok (.dup2, 1) := by decide +kernel
theorem dX5_makeReset_136 : decode cX5_makeReset 136 = .ok (.iaload, 1) := by decide +kernel
theorem dX5_makeReset_137 : decode cX5_makeReset 137 = .ok (.iconst 1, 1) := by decide +kernel
theorem dX5_makeReset_138 : decode cX5_makeReset 138 = .ok (.iadd, 1) := by decide +kernel
theorem dX5_makeReset_139 : decode cX5_makeReset 139 = .ok (.iastore, 1) := by decide +kernel
theorem dX5_makeReset_140 : decode cX5_makeReset 140 = .ok (.aload_n 0, 1) := by decide +kernel
theorem dX5_makeReset_141 : decode cX5_makeReset 141 = .ok (.invokevirtual 98, 3) := by decide +kernel
theorem dX5_makeReset_144 : decode cX5_makeReset 144 = .ok (.aload_n 0, 1) := by decide +kernel
theorem dX5_makeReset_145 : decode cX5_makeReset 145 = .ok (.getfield 7, 3) := by decide +kernel
theorem dX5_makeReset_148 : decode cX5_makeReset 148 = .ok (.bipush 11, 2) := by decide +kernel
theorem dX5_makeReset_150 : decode cX5_makeReset 150 = .ok (.iaload, 1) := by decide +kernel
theorem dX5_makeReset_151 : decode cX5_makeReset 151 = .ok (.aload_n 0, 1) := by decide +kernel
theorem dX5_makeReset_152 : decode cX5_makeReset 152 = .ok (.getfield 7, 3) := by decide +kernel
theorem dX5_makeReset_155 : decode cX5_makeReset 155 = .ok (.bipush 7, 2) := by decide +kernel
theorem dX5_makeReset_157 : decode cX5_makeReset 157 = .ok (.iaload, 1) := by decide +kernel
theorem dX5_makeReset_158 : decode cX5_makeReset 158 = .ok (.if_icmp .lt 40, 3) := by decide +kernel
theorem dX5_makeReset_161 : decode cX5_makeReset 161 = .ok (.aload_n 0, 1) := by decide +kernel
theorem dX5_makeReset_162 : decode cX5_makeReset 162 = .ok (.getfield 7, 3) := by decide +kernel
theorem dX5_makeReset_165 : decode cX5_makeReset 165 = .ok (.bipush 10, 2) := by decide +kernel
theorem dX5_makeReset_167 : decode cX5_makeReset 167 = .ok (.iaload, 1) := by decide +kernel
theorem dX5_makeReset_168 : decode cX5_makeReset 168 = .ok (.ifCond .ne 22, 3) := by decide +kernel
theorem dX5_makeReset_171 : decode cX5_makeReset 171 = .ok (.aload_n 0, 1) := by decide +kernel
theorem dX5_makeReset_172 : decode cX5_makeReset 172 = .ok (.getfield 7, 3) := by decide +kernel
theorem dX5_makeReset_175 : decode cX5_makeReset 175 = .ok (.bipush 10, 2) := by decide +kernel
theorem dX5_makeReset_177 : decode cX5_makeReset 177 = .ok (.iconst 1, 1) := by decide +kernel
theorem dX5_makeReset_178 : decode cX5_makeReset 178 = .ok (.iastore, 1) := by decide +kernel
theorem dX5_makeReset_179 : decode cX5_makeReset 179 = .ok (.aload_n 0, 1) := by decide +kernel
theorem dX5_makeReset_180 : decode cX5_makeReset 180 = .ok (.getfield 7, 3) := by decide +kernel
theorem dX5_makeReset_183 : decode cX5_makeReset 183 = .ok (.bipush 11, 2) := by decide +kernel
theorem dX5_makeReset_185 : decode cX5_makeReset 185 = .ok (.iconst 0, 1) := by decide +kernel
theorem dX5_makeReset_186 : decode cX5_makeReset 186 = .ok (.iastore, 1) := by decide +kernel
theorem dX5_makeReset_187 : decode cX5_makeReset 187 = .ok (.goto 11, 3) := by decide +kernel
theorem dX5_makeReset_190 : decode cX5_makeReset 190 = .ok (.aload_n 0, 1) := by decide +kernel
theorem dX5_makeReset_191 : decode cX5_makeReset 191 = .ok (.getfield 7, 3) := by decide +kernel
theorem dX5_makeReset_194 : decode cX5_makeReset 194 = .ok (.bipush 9, 2) := by decide +kernel
theorem dX5_makeReset_196 : decode cX5_makeReset 196 = .ok (.iconst 2, 1) := by decide +kernel
theorem dX5_makeReset_197 : decode cX5_makeReset 197 = .ok (.iastore, 1) := by decide +kernel
theorem dX5_makeReset_198 : decode cX5_makeReset 198 = .ok (.return_, 1) := by decide +kernel
theorem dX5_beginToRun_0 : decode cX5_beginToRun 0 = .ok (.aload_n 0, 1) := by decide +kernel
theorem dX5_beginToRun_1 : decode cX5_beginToRun 1 = .ok (.getfield 7, 3) := by decide +kernel
theorem dX5_beginToRun_4 : decode cX5_beginToRun 4 = .ok (.bipush 9, 2) := by decide +kernel
theorem dX5_beginToRun_6 : decode cX5_beginToRun 6 = .ok (.iconst 1, 1) := by decide +kernel
theorem dX5_beginToRun_7 : decode cX5_beginToRun 7 = .ok (.iastore, 1) := by decide +kernel
theorem dX5_beginToRun_8 : decode cX5_beginToRun 8 = .ok (.aload_n 0, 1) := by decide +kernel
theorem dX5_beginToRun_9 : decode cX5_beginToRun 9 = .ok (.getfield 7, 3) := by decide +kernel
theorem dX5_beginToRun_12 : decode cX5_beginToRun 12 = .ok (.bipush 13, 2) := by decide +kernel
theorem dX5_beginToRun_14 : decode cX5_beginToRun 14 = .ok (.iconst 0, 1) := by decide +kernel
theorem dX5_beginToRun_15 : decode cX5_beginToRun 15 = .ok (.iastore, 1) := by decide +kernel
theorem dX5_beginToRun_16 : decode cX5_beginToRun 16 = .ok (.aload_n 0, 1) := by decide +kernel
theorem dX5_beginToRun_17 : decode cX5_beginToRun 17 = .ok (.getfield 7, 3) := by decide +kernel
theorem dX5_beginToRun_20 : decode cX5_beginToRun 20 = .ok (.bipush 14, 2) := by decide +kernel
theorem dX5_beginToRun_22 : decode cX5_beginToRun 22 = .ok (.iconst 0, 1) := by decide +kernel
theorem dX5_beginToRun_23 : decode cX5_beginToRun 23 = .ok (.iastore, 1) := by decide +kernel
theorem dX5_beginToRun_24 : decode cX5_beginToRun 24 = .ok (.aload_n 0, 1) := by decide +kernel
theorem dX5_beginToRun_25 : decode cX5_beginToRun 25 = .ok (.getfield 7, 3) := by decide +kernel
theorem dX5_beginToRun_28 : decode cX5_beginToRun 28 = .ok (.bipush 15, 2) := by decide +kernel
theorem dX5_beginToRun_30 : decode cX5_beginToRun 30 = .ok (.iconst 0, 1) := by decide +kernel
theorem dX5_beginToRun_31 : decode cX5_beginToRun 31 = .ok (.iastore, 1) := by decide +kernel
theorem dX5_beginToRun_32 : decode cX5_beginToRun 32 = .ok (.aload_n 0, 1) := by decide +kernel
theorem dX5_beginToRun_33 : decode cX5_beginToRun 33 = .ok (.getfield 7, 3) := by decide +kernel
theorem dX5_beginToRun_36 : decode cX5_beginToRun 36 = .ok (.bipush 16, 2) := by decide +kernel
theorem dX5_beginToRun_38 : decode cX5_beginToRun 38 = .ok (.iconst 0, 1) := by decide +kernel
theorem dX5_beginToRun_39 : decode cX5_beginToRun 39 = .ok (.iastore, 1) := by decide +kernel
theorem dX5_beginToRun_40 : decode cX5_beginToRun 40 = .ok (.iconst 0, 1) := by decide +kernel
theorem dX5_beginToRun_41 : decode cX5_beginToRun 41 = .ok (.istore_n 1, 1) := by decide +kernel
theorem dX5_beginToRun_42 : decode cX5_beginToRun 42 = .ok (.iload_n 1, 1) := by decide +kernel
theorem dX5_beginToRun_43 : decode cX5_beginToRun 43 = .ok (.aload_n 0, 1) := by decide +kernel
theorem dX5_beginToRun_44 : decode cX5_beginToRun 44 = .ok (.getfield 7, 3) := by decide +kernel
theorem dX5_beginToRun_47 : decode cX5_beginToRun 47 = .ok (.bipush 17, 2) := by decide +kernel
theorem dX5_beginToRun_49 : decode cX5_beginToRun 49 = .ok (.iaload, 1) := by decide +kernel
theorem dX5_beginToRun_50 : decode cX5_beginToRun 50 = .ok (.if_icmp .ge 31, 3) := by decide +kernel
theorem dX5_beginToRun_53 : decode cX5_beginToRun 53 = .ok (.bipush 8, 2) := by decide +kernel
theorem dX5_beginToRun_55 : decode cX5_beginToRun 55 = .ok (.istore_n 2, 1) := by decide +kernel
theorem dX5_beginToRun_56 : decode cX5_beginToRun 56 = .ok (.iload_n 2, 1) := by decide +kernel
theorem dX5_beginToRun_57 : decode cX5_beginToRun 57 = .ok (.bipush 15, 2) := by decide +kernel
theorem dX5_beginToRun_59 : decode cX5_beginToRun 59 = .ok (.if_icmp .gt 16, 3) := by decide +kernel
theorem dX5_beginToRun_62 : decode cX5_beginToRun 62 = .ok (.aload_n 0, 1) := by decide +kernel
theorem dX5_beginToRun_63 : decode cX5_beginToRun 63 = .ok (.iload_n 1, 1) := by decide +kernel
theorem dX5_beginToRun_64 : decode cX5_beginToRun 64 = .ok (.iload_n 2, 1) := by decide +kernel
theorem dX5_beginToRun_65 : decode cX5_beginToRun 65 = .ok (.iconst 0, 1) := by decide +kernel
theorem dX5_beginToRun_66 : decode cX5_beginToRun 66 = .ok (.invokevirtual 41, 3) := by decide +kernel
theorem dX5_beginToRun_69 : decode cX5_beginToRun 69 = .ok (.iinc 2 1, 3) := by decide +kernel
theorem dX5_beginToRun_72 : decode cX5_beginToRun 72 = .ok (.goto (-16), 3) := by decide +kernel
theorem dX5_beginToRun_75 : decode cX5_beginToRun 75 = .ok (.iinc 1 1, 3) := by decide +kernel
theorem dX5_beginToRun_78 : decode cX5_beginToRun 78 = .ok (.goto (-36), 3) := by decide +kernel
theorem dX5_beginToRun_81 : decode cX5_beginToRun 81 = .ok (.return_, 1) := by decide +kernel
theorem dX5_acting_0 : decode cX5_acting 0 = .ok (.bipush 20, 2) := by decide +kernel
theorem dX5_acting_2 : decode cX5_acting 2 = .ok (.iconst 3, 1) := by decide +kernel
theorem dX5_acting_3 : decode cX5_acting 3 = .ok (.aload_n 0, 1) := by decide +kernel
theorem dX5_acting_4 : decode cX5_acting 4 = .ok (.getfield 7, 3) := by decide +kernel
theorem dX5_acting_7 : decode cX5_acting 7 = .ok (.bipush 10, 2) := by decide +kernel
theorem dX5_acting_9 : decode cX5_acting 9 = .ok (.iaload, 1) := by decide +kernel
theorem dX5_acting_10 : decode cX5_acting 10 = .ok (.imul, 1) := by decide +kernel
theorem dX5_acting_11 : decode cX5_acting 11 = .ok (.iadd, 1) := by decide +kernel
theorem dX5_acting_12 : decode cX5_acting 12 = .ok (.istore_n 2, 1) := by decide +kernel
theorem dX5_acting_13 : decode cX5_acting 13 = .ok (.aload_n 0, 1) := by decide +kernel
theorem dX5_acting_14 : decode cX5_acting 14 = .ok (.getfield 7, 3) := by decide +kernel
theorem dX5_acting_17 : decode cX5_acting 17 = .ok (.bipush 13, 2) := by decide +kernel
theorem dX5_acting_19 : decode cX5_acting 19 = .ok (.iaload, 1) := by decide +kernel
theorem dX5_acting_20 : decode cX5_acting 20 = .ok (.aload_n 0, 1) := by decide +kernel
theorem dX5_acting_21 : decode cX5_acting 21 = .ok (.iload_n 1, 1) := by decide +kernel
theorem dX5_acting_22 : decode cX5_acting 22 = .ok (.iload_n 2, 1) := by decide +kernel
theorem dX5_acting_23 : decode cX5_acting 23 = .ok (.iconst 1, 1) := by decide +kernel
theorem dX5_acting_24 : decode cX5_acting 24 = .ok (.iadd, 1) := by decide +kernel
theorem dX5_acting_25 : decode cX5_acting 25 = .ok (.invokevirtual 52, 3) := by decide +kernel
theorem dX5_acting_28 : decode cX5_acting 28 = .ok (.if_icmp .lt 12, 3) := by decide +kernel
theorem dX5_acting_31 : decode cX5_acting 31 = .ok (.aload_n 0, 1) := by decide +kernel
theorem dX5_acting_32 : decode cX5_acting 32 = .ok (.iload_n 1, 1) := by decide +kernel
theorem dX5_acting_33 : decode cX5_acting 33 = .ok (.iload_n 2, 1) := by decide +kernel
theorem dX5_acting_34 : decode cX5_acting 34 = .ok (.invokevirtual 52, 3) := by decide +kernel
theorem dX5_acting_37 : decode cX5_acting 37 = .ok (.goto 4, 3) := by decide +kernel
theorem dX5_acting_40 : decode cX5_acting 40 = .ok (.iconst 0, 1) := by decide +kernel
theorem dX5_acting_41 : decode cX5_acting 41 = .ok (.ireturn, 1) := by decide +kernel
theorem dX5_beginJob_0 : decode cX5_beginJob 0 = .ok (.aload_n 0, 1) := by decide +kernel
theorem dX5_beginJob_1 : decode cX5_beginJob 1 = .ok (.iload_n 1, 1) := by decide +kernel
theorem dX5_beginJob_2 : decode cX5_beginJob 2 = .ok (.invokevirtual 101, 3) := by decide +kernel
theorem dX5_beginJob_5 : decode cX5_beginJob 5 = .ok (.istore_n 2, 1) := by decide +kernel
theorem dX5_beginJob_6 : decode cX5_beginJob 6 = .ok (.iload_n 2, 1) := by decide +kernel
theorem dX5_beginJob_7 : decode cX5_beginJob 7 = .ok (.iconst 5, 1) := by decide +kernel
theorem dX5_beginJob_8 : decode cX5_beginJob 8 = .ok (.if_icmp .ne 5, 3) := by decide +kernel
theorem dX5_beginJob_11 : decode cX5_beginJob 11 = .ok (.iconst 1, 1) := by decide +kernel
theorem dX5_beginJob_12 : decode cX5_beginJob 12 = .ok (.ireturn, 1) := by decide +kernel
theorem dX5_beginJob_13 : decode cX5_beginJob 13 = .ok (.aload_n 0, 1) := by decide +kernel
theorem dX5_beginJob_14 : decode cX5_beginJob 14 = .ok (.iload_n 1, 1) := by decide +kernel
theorem dX5_beginJob_15 : decode cX5_beginJob 15 = .ok (.bipush 8, 2) := by decide +kernel
theorem dX5_beginJob_17 : decode cX5_beginJob 17 = .ok (.iconst 1, 1) := by decide +kernel
theorem dX5_beginJob_18 : decode cX5_beginJob 18 = .ok (.invokevirtual 41, 3) := by decide +kernel
theorem dX5_beginJob_21 : decode cX5_beginJob 21 = .ok (.aload_n 0, 1) := by decide +kernel
theorem dX5_beginJob_22 : decode cX5_beginJob 22 = .ok (.iload_n 1, 1) := by decide +kernel
theorem dX5_beginJob_23 : decode cX5_beginJob 23 = .ok (.bipush 10, 2) := by decide +kernel
theorem dX5_beginJob_25 : decode cX5_beginJob 25 = .ok (.aload_n 0, 1) := by decide +kernel
theorem dX5_beginJob_26 : decode cX5_beginJob 26 = .ok (.getfield 7, 3) := by decide +kernel
theorem dX5_beginJob_29 : decode cX5_beginJob 29 = .ok (.bipush 13, 2) := by decide +kernel
theorem dX5_beginJob_31 : decode cX5_beginJob 31 = .ok (.iaload, 1) := by decide +kernel
theorem dX5_beginJob_32 : decode cX5_beginJob 32 = .ok (.invokevirtual 41, 3) := by decide +kernel
theorem dX5_beginJob_35 : decode cX5_beginJob 35 = .ok (.aload_n 0, 1) := by decide +kernel
theorem dX5_beginJob_36 : decode cX5_beginJob 36 = .ok (.iload_n 1, 1) := by decide +kernel
theorem dX5_beginJob_37 : decode cX5_beginJob 37 = .ok (.bipush 9, 2) := by decide +kernel
theorem dX5_beginJob_39 : decode cX5_beginJob 39 = .ok (.aload_n 0, 1) := by decide +kernel
theorem dX5_beginJob_40 : decode cX5_beginJob 40 = .ok (.iload_n 1, 1) := by decide +kernel
theorem dX5_beginJob_41 : decode cX5_beginJob 41 = .ok (.iconst 1, 1) := by decide +kernel
theorem dX5_beginJob_42 : decode cX5_beginJob 42 = .ok (.invokevirtual 52, 3) := by decide +kernel
theorem dX5_beginJob_45 : decode cX5_beginJob 45 = .ok (.iload_n 2, 1) := by decide +kernel
theorem dX5_beginJob_46 : decode cX5_beginJob 46 = .ok (.iconst 2, 1) := by decide +kernel
theorem dX5_beginJob_47 : decode cX5_beginJob 47 = .ok (.if_icmp .ne 25, 3) := by decide +kernel
theorem dX5_beginJob_50 : decode cX5_beginJob 50 = .ok (.aload_n 0, 1) := by decide +kernel
theorem dX5_beginJob_51 : decode cX5_beginJob 51 = .ok (.iload_n 1, 1) := by decide +kernel
theorem dX5_beginJob_52 : decode cX5_beginJob 52 = .ok (.bipush 20, 2) := by decide +kernel
theorem dX5_beginJob_54 : decode cX5_beginJob 54 = .ok (.iconst 3, 1) := by decide +kernel
theorem dX5_beginJob_55 : decode cX5_beginJob 55 = .ok (.aload_n 0, 1) := by decide +kernel
theorem dX5_beginJob_56 : decode cX5_beginJob 56 = .ok (.getfield 7, 3) := by decide +kernel
theorem dX5_beginJob_59 : decode cX5_beginJob 59 = .ok (.bipush 10, 2) := by decide +kernel
theorem dX5_beginJob_61 : decode cX5_beginJob 61 = .ok (.iaload, 1) := by decide +kernel
theorem dX5_beginJob_62 : decode cX5_beginJob 62 = .ok (.imul, 1) := by decide +kernel
theorem dX5_beginJob_63 : decode cX5_beginJob 63 = .ok (.iadd, 1) := by decide +kernel
theorem dX5_beginJob_64 : decode cX5_beginJob 64 = .ok (.iconst 2, 1) := by decide +kernel
theorem dX5_beginJob_65 : decode cX5_beginJob 65 = .ok (.iadd, 1) := by decide +kernel
theorem dX5_beginJob_66 : decode cX5_beginJob 66 = .ok (.invokevirtual 52, 3) := by decide +kernel
theorem dX5_beginJob_69 : decode cX5_beginJob 69 = .ok (.goto 4, 3) := by decide +kernel
theorem dX5_beginJob_72 : decode cX5_beginJob 72 = .ok (.iconst 0, 1) := by decide +kernel
theorem dX5_beginJob_73 : decode cX5_beginJob 73 = .ok (.iadd, 1) := by decide +kernel
theorem dX5_beginJob_74 : decode cX5_beginJob 74 = .ok (.invokevirtual 41, 3) := by decide +kernel
theorem dX5_beginJob_77 : decode cX5_beginJob 77 = .ok (.aload_n 0, 1) := by decide +kernel
theorem dX5_beginJob_78 : decode cX5_beginJob 78 = .ok (.iload_n 1, 1) := by decide +kernel
theorem dX5_beginJob_79 : decode cX5_beginJob 79 = .ok (.bipush 11, 2) := by decide +kernel
theorem dX5_beginJob_81 : decode cX5_beginJob 81 = .ok (.iload_n 2, 1) := by decide +kernel
theorem dX5_beginJob_82 : decode cX5_beginJob 82 = .ok (.iconst 1, 1) := by decide +kernel
theorem dX5_beginJob_83 : decode cX5_beginJob 83 = .ok (.if_icmp .ne 7, 3) := by decide +kernel
theorem dX5_beginJob_86 : decode cX5_beginJob 86 = .ok (.iconst 1, 1) := by decide +kernel
theorem dX5_beginJob_87 : decode cX5_beginJob 87 = .ok (.goto 4, 3) := by decide +kernel
theorem dX5_beginJob_90 : decode cX5_beginJob 90 = .ok (.iconst 0, 1) := by decide +kernel
theorem dX5_beginJob_91 : decode cX5_beginJob 91 = .ok (.invokevirtual 41, 3) := by decide +kernel
theorem dX5_beginJob_94 : decode cX5_beginJob 94 = .ok (.aload_n 0, 1) := by decide +kernel
theorem dX5_beginJob_95 : decode cX5_beginJob 95 = .ok (.iload_n 1, 1) := by decide +kernel
theorem dX5_beginJob_96 : decode cX5_beginJob 96 = .ok (.bipush 12, 2) := by decide +kernel
theorem dX5_beginJob_98 : decode cX5_beginJob 98 = .ok (.aload_n 0, 1) := by decide +kernel
theorem dX5_beginJob_99 : decode cX5_beginJob 99 = .ok (.iload_n 1, 1) := by decide +kernel
theorem dX5_beginJob_100 : decode cX5_beginJob 100 = .ok (.bipush 12, 2) := by decide +kernel
theorem dX5_beginJob_102 : decode cX5_beginJob 102 = .ok (.invokevirtual 52, 3) := by decide +kernel
theorem dX5_beginJob_105 : decode cX5_beginJob 105 = .ok (.iload_n 2, 1) := by decide +kernel
theorem dX5_beginJob_106 : decode cX5_beginJob 106 = .ok (.iconst 3, 1) := by decide +kernel
theorem dX5_beginJob_107 : decode cX5_beginJob 107 = .ok (.if_icmp .ne 7, 3) := by decide +kernel
theorem dX5_beginJob_110 : decode cX5_beginJob 110 = .ok (.iconst 0, 1) := by decide +kernel
theorem dX5_beginJob_111 : decode cX5_beginJob 111 = .ok (.goto 13, 3) := by decide +kernel
theorem dX5_beginJob_114 : decode cX5_beginJob 114 = .ok (.iload_n 2, 1) := by decide +kernel
theorem dX5_beginJob_115 : decode cX5_beginJob 115 = .ok (.iconst 4, 1) := by decide +kernel
theorem dX5_beginJob_116 : decode cX5_beginJob 116 = .ok (.if_icmp .ne 7, 3) := by decide +kernel
theorem dX5_beginJob_119 : decode cX5_beginJob 119 = .ok (.iconst 2, 1) := by decide +kernel
theorem dX5_beginJob_120 : decode cX5_beginJob 120 = .ok (.goto 4, 3) := by decide +kernel
theorem dX5_beginJob_123 : decode cX5_beginJob 123 = .ok (.iconst 1, 1) := by decide +kernel
theorem dX5_beginJob_124 : decode cX5_beginJob 124 = .ok (.iadd, 1) := by decide +kernel
theorem dX5_beginJob_125 : decode cX5_beginJob 125 = .ok (.invokevirtual 41, 3) := by decide +kernel
theorem dX5_beginJob_128 : decode cX5_beginJob 128 = .ok (.iconst 0, 1) := by decide +kernel
theorem dX5_beginJob_129 : decode cX5_beginJob 129 = .ok (.ireturn, 1) := by decide +kernel
theorem dX5_goOnJob_0 : decode cX5_goOnJob 0 = .ok (.aload_n 0, 1) := by decide +kernel
theorem dX5_goOnJob_1 : decode cX5_goOnJob 1 = .ok (.iload_n 1, 1) := by decide +kernel
theorem dX5_goOnJob_2 : decode cX5_goOnJob 2 = .ok (.bipush 8, 2) := by decide +kernel
theorem dX5_goOnJob_4 : decode cX5_goOnJob 4 = .ok (.invokevirtual 52, 3) := by decide +kernel
theorem dX5_goOnJob_7 : decode cX5_goOnJob 7 = .ok (.iconst 1, 1) := by decide +kernel
theorem dX5_goOnJob_8 : decode cX5_goOnJob 8 = .ok (.if_icmp .ne 51, 3) := by decide +kernel
theorem dX5_goOnJob_11 : decode cX5_goOnJob 11 = .ok (.aload_n 0, 1) := by decide +kernel
theorem dX5_goOnJob_12 : decode cX5_goOnJob 12 = .ok (.iload_n 1, 1) := by decide +kernel
theorem dX5_goOnJob_13 : decode cX5_goOnJob 13 = .ok (.bipush 11, 2) := by decide +kernel
theorem dX5_goOnJob_15 : decode cX5_goOnJob 15 = .ok (.invokevirtual 52, 3) := by decide +kernel
theorem dX5_goOnJob_18 : decode cX5_goOnJob 18 = .ok (.ifCond .ne 41, 3) := by decide +kernel
theorem dX5_goOnJob_21 : decode cX5_goOnJob 21 = .ok (.aload_n 0, 1) := by decide +kernel
theorem dX5_goOnJob_22 : decode cX5_goOnJob 22 = .ok (.iload_n 1, 1) := by decide +kernel
theorem dX5_goOnJob_23 : decode cX5_goOnJob 23 = .ok (.bipush 9, 2) := by decide +kernel
theorem dX5_goOnJob_25 : decode cX5_goOnJob 25 = .ok (.aload_n 0, 1) := by decide +kernel
theorem dX5_goOnJob_26 : decode cX5_goOnJob 26 = .ok (.iload_n 1, 1) := by decide +kernel
theorem dX5_goOnJob_27 : decode cX5_goOnJob 27 = .ok (.bipush 9, 2) := by decide +kernel
theorem dX5_goOnJob_29 : decode cX5_goOnJob 29 = .ok (.invokevirtual 52, 3) := by decide +kernel
theorem dX5_goOnJob_32 : decode cX5_goOnJob 32 = .ok (.iconst 1, 1) := by decide +kernel
theorem dX5_goOnJob_33 : decode cX5_goOnJob 33 = .ok (.isub, 1) := by decide +kernel
theorem dX5_goOnJob_34 : decode cX5_goOnJob 34 = .ok (.invokevirtual 41, 3) := by decide +kernel
theorem dX5_goOnJob_37 : decode cX5_goOnJob 37 = .ok (.aload_n 0, 1) := by decide +kernel
theorem dX5_goOnJob_38 : decode cX5_goOnJob 38 = .ok (.iload_n 1, 1) := by decide +kernel
theorem dX5_goOnJob_39 : decode cX5_goOnJob 39 = .ok (.bipush 8, 2) := by decide +kernel
theorem dX5_goOnJob_41 : decode cX5_goOnJob 41 = .ok (.aload_n 0, 1) := by decide +kernel
theorem dX5_goOnJob_42 : decode cX5_goOnJob 42 = .ok (.iload_n 1, 1) := by decide +kernel
theorem dX5_goOnJob_43 : decode cX5_goOnJob 43 = .ok (.bipush 9, 2) := by decide +kernel
theorem dX5_goOnJob_45 : decode cX5_goOnJob 45 = .ok (.invokevirtual 52, 3) := by decide +kernel
theorem dX5_goOnJob_48 : decode cX5_goOnJob 48 = .ok (.ifCond .le 7, 3) := by decide +kernel
theorem dX5_goOnJob_51 : decode cX5_goOnJob 51 = .ok (.iconst 1, 1) := by decide +kernel
theorem dX5_goOnJob_52 : decode cX5_goOnJob 52 = .ok (.goto 4, 3) := by decide +kernel
theorem dX5_goOnJob_55 : decode cX5_goOnJob 55 = .ok (.iconst 0, 1) := by decide +kernel
theorem dX5_goOnJob_56 : decode cX5_goOnJob 56 = .ok (.invokevirtual 41, 3) := by decide +kernel
theorem dX5_goOnJob_59 : decode cX5_goOnJob 59 = .ok (.return_, 1) := by decide +kernel
theorem dX5_crashes_0 : decode cX5_crashes 0 = .ok (.aload_n 0, 1) := by decide +kernel
theorem dX5_crashes_1 : decode cX5_crashes 1 = .ok (.iload_n 1, 1) := by decide +kernel
theorem dX5_crashes_2 : decode cX5_crashes 2 = .ok (.invokevirtual 104, 3) := by decide +kernel
theorem dX5_crashes_5 : decode cX5_crashes 5 = .ok (.aload_n 0, 1) := by decide +kernel
theorem dX5_crashes_6 : decode cX5_crashes 6 = .ok (.iload_n 1, 1) := by decide +kernel
theorem dX5_crashes_7 : decode cX5_crashes 7 = .ok (.iconst 0, 1) := by decide +kernel
theorem dX5_crashes_8 : decode cX5_crashes 8 = .ok (.invokevirtual 52, 3) := by decide +kernel
theorem dX5_crashes_11 : decode cX5_crashes 11 = .ok (.istore_n 2, 1) := by decide +kernel
theorem dX5_crashes_12 : decode cX5_crashes 12 = .ok (.aload_n 0, 1) := by decide +kernel
theorem dX5_crashes_13 : decode cX5_crashes 13 = .ok (.iload_n 1, 1) := by decide +kernel
theorem dX5_crashes_14 : decode cX5_crashes 14 = .ok (.bipush 8, 2) := by decide +kernel
theorem dX5_crashes_16 : decode cX5_crashes 16 = .ok (.invokevirtual 52, 3) := by decide +kernel
theorem dX5_crashes_19 : decode cX5_crashes 19 = .ok (.ifCond .ne 33, 3) := by decide +kernel
theorem dX5_crashes_22 : decode cX5_crashes 22 = .ok (.aload_n 0, 1) := by decide +kernel
theorem dX5_crashes_23 : decode cX5_crashes 23 = .ok (.getfield 7, 3) := by decide +kernel
theorem dX5_crashes_26 : decode cX5_crashes 26 = .ok (.bipush 13, 2) := by decide +kernel
theorem dX5_crashes_28 : decode cX5_crashes 28 = .ok (.iaload, 1) := by decide +kernel
theorem dX5_crashes_29 : decode cX5_crashes 29 = .ok (.iload_n 2, 1) := by decide +kernel
theorem dX5_crashes_30 : decode cX5_crashes 30 = .ok (.irem, 1) := by decide +kernel
theorem dX5_crashes_31 : decode cX5_crashes 31 = .ok (.aload_n 0, 1) := by decide +kernel
theorem dX5_crashes_32 : decode cX5_crashes 32 = .ok (.iload_n 1, 1) := by decide +kernel
theorem dX5_crashes_33 : decode cX5_crashes 33 = .ok (.iconst 2, 1) := by decide +kernel
theorem dX5_crashes_34 : decode cX5_crashes 34 = .ok (.invokevirtual 52, 3) := by decide +kernel
theorem dX5_crashes_37 : decode cX5_crashes 37 = .ok (.iload_n 2, 1) := by decide +kernel
theorem dX5_crashes_38 : decode cX5_crashes 38 = .ok (.irem, 1) := by decide +kernel
theorem dX5_crashes_39 : decode cX5_crashes 39 = .ok (.if_icmp .ne 13, 3) := by decide +kernel
theorem dX5_crashes_42 : decode cX5_crashes 42 = .ok (.aload_n 0, 1) := by decide +kernel
theorem dX5_crashes_43 : decode cX5_crashes 43 = .ok (.iload_n 1, 1) := by decide +kernel
theorem dX5_crashes_44 : decode cX5_crashes 44 = .ok (.invokevirtual 108, 3) := by decide +kernel
theorem dX5_crashes_47 : decode cX5_crashes 47 = .ok (.ifCond .eq 5, 3) := by decide +kernel
theorem dX5_crashes_50 : decode cX5_crashes 50 = .ok (.iconst 1, 1) := by decide +kernel
theorem dX5_crashes_51 : decode cX5_crashes 51 = .ok (.ireturn, 1) := by decide +kernel
theorem dX5_crashes_52 : decode cX5_crashes 52 = .ok (.aload_n 0, 1) := by decide +kernel
theorem dX5_crashes_53 : decode cX5_crashes 53 = .ok (.iload_n 1, 1) := by decide +kernel
theorem dX5_crashes_54 : decode cX5_crashes 54 = .ok (.bipush 8, 2) := by decide +kernel
theorem dX5_crashes_56 : decode cX5_crashes 56 = .ok (.invokevirtual 52, 3) := by decide +kernel
theorem dX5_crashes_59 : decode cX5_crashes 59 = .ok (.iconst 1, 1) := by decide +kernel
theorem dX5_crashes_60 : decode cX5_crashes 60 = .ok (.if_icmp .ne 46, 3) := by decide +kernel
theorem dX5_crashes_63 : decode cX5_crashes 63 = .ok (.aload_n 0, 1) := by decide +kernel
theorem dX5_crashes_64 : decode cX5_crashes 64 = .ok (.iload_n 1, 1) := by decide +kernel
theorem dX5_crashes_65 : decode cX5_crashes 65 = .ok (.bipush 7, 2) := by decide +kernel
theorem dX5_crashes_67 : decode cX5_crashes 67 = .ok (.invokevirtual 52, 3) := by decide +kernel
theorem dX5_crashes_70 : decode cX5_crashes 70 = .ok (.ifCond .le 36, 3) := by decide +kernel
theorem dX5_crashes_73 : decode cX5_crashes 73 = .ok (.aload_n 0, 1) := by decide +kernel
theorem dX5_crashes_74 : decode cX5_crashes 74 = .ok (.getfield 7, 3) := by decide +kernel
theorem dX5_crashes_77 : decode cX5_crashes 77 = .ok (.bipush 13, 2) := by decide +kernel
theorem dX5_crashes_79 : decode cX5_crashes 79 = .ok (.iaload, 1) := by decide +kernel
theorem dX5_crashes_80 : decode cX5_crashes 80 = .ok (.aload_n 0, 1) := by decide +kernel
theorem dX5_crashes_81 : decode cX5_crashes 81 = .ok (.iload_n 1, 1) := by decide +kernel
theorem dX5_crashes_82 : decode cX5_crashes 82 = .ok (.bipush 10, 2) := by decide +kernel
theorem dX5_crashes_84 : decode cX5_crashes 84 = .ok (.invokevirtual 52, 3) := by decide +kernel
theorem dX5_crashes_87 : decode cX5_crashes 87 = .ok (.isub, 1) := by decide +kernel
theorem dX5_crashes_88 : decode cX5_crashes 88 = .ok (.aload_n 0, 1) := by decide +kernel
theorem dX5_crashes_89 : decode cX5_crashes 89 = .ok (.iload_n 1, 1) := by decide +kernel
theorem dX5_crashes_90 : decode cX5_crashes 90 = .ok (.bipush 7, 2) := by decide +kernel
theorem dX5_crashes_92 : decode cX5_crashes 92 = .ok (.invokevirtual 52, 3) := by decide +kernel
theorem dX5_crashes_95 : decode cX5_crashes 95 = .ok (.if_icmp .le 11, 3) := by decide +kernel
theorem dX5_crashes_98 : decode cX5_crashes 98 = .ok (.aload_n 0, 1) := by decide +kernel
theorem dX5_crashes_99 : decode cX5_crashes 99 = .ok (.iload_n 1, 1) := by decide +kernel
theorem dX5_crashes_100 : decode cX5_crashes 100 = .ok (.bipush 14, 2) := by decide +kernel
theorem dX5_crashes_102 : decode cX5_crashes 102 = .ok (.iconst 1, 1) := by decide +kernel
theorem dX5_crashes_103 : decode cX5_crashes 103 = .ok (.invokevirtual 41, 3) := by decide +kernel
theorem dX5_crashes_106 : decode cX5_crashes 106 = .ok (.iconst 0, 1) := by decide +kernel
theorem dX5_crashes_107 : decode cX5_crashes 107 = .ok (.ireturn, 1) := by decide +kernel
theorem dX5_judge_0 : decode cX5_judge 0 = .ok (.aload_n 0, 1) := by decide +kernel
theorem dX5_judge_1 : decode cX5_judge 1 = .ok (.iload_n 1, 1) := by decide +kernel
theorem dX5_judge_2 : decode cX5_judge 2 = .ok (.bipush 15, 2) := by decide +kernel
theorem dX5_judge_4 : decode cX5_judge 4 = .ok (.invokevirtual 52, 3) := by decide +kernel
theorem dX5_judge_7 : decode cX5_judge 7 = .ok (.iconst 1, 1) := by decide +kernel
theorem dX5_judge_8 : decode cX5_judge 8 = .ok (.if_icmp .eq 20, 3) := by decide +kernel
theorem dX5_judge_11 : decode cX5_judge 11 = .ok (.aload_n 0, 1) := by decide +kernel
theorem dX5_judge_12 : decode cX5_judge 12 = .ok (.getfield 7, 3) := by decide +kernel
theorem dX5_judge_15 : decode cX5_judge 15 = .ok (.bipush 15, 2) := by decide +kernel
theorem dX5_judge_17 : decode cX5_judge 17 = .ok (.iaload, 1) := by decide +kernel
theorem dX5_judge_18 : decode cX5_judge 18 = .ok (.aload_n 0, 1) := by decide +kernel
theorem dX5_judge_19 : decode cX5_judge 19 = .ok (.iload_n 1, 1) := by decide +kernel
theorem dX5_judge_20 : decode cX5_judge 20 = .ok (.iconst 3, 1) := by decide +kernel
theorem dX5_judge_21 : decode cX5_judge 21 = .ok (.invokevirtual 52, 3) := by decide +kernel
theorem dX5_judge_24 : decode cX5_judge 24 = .ok (.irem, 1) := by decide +kernel
theorem dX5_judge_25 : decode cX5_judge 25 = .ok (.ifCond .eq 4, 3) := by decide +kernel
theorem dX5_judge_28 : decode cX5_judge 28 = .ok (.return_, 1) := by decide +kernel
theorem dX5_judge_29 : decode cX5_judge 29 = .ok (.aload_n 0, 1) := by decide +kernel
theorem dX5_judge_30 : decode cX5_judge 30 = .ok (.iload_n 1, 1) := by decide +kernel
theorem dX5_judge_31 : decode cX5_judge 31 = .ok (.bipush 12, 2) := by decide +kernel
theorem dX5_judge_33 : decode cX5_judge 33 = .ok (.invokevirtual 52, 3) := by decide +kernel
theorem dX5_judge_36 : decode cX5_judge 36 = .ok (.aload_n 0, 1) := by decide +kernel
theorem dX5_judge_37 : decode cX5_judge 37 = .ok (.iload_n 1, 1) := by decide +kernel
theorem dX5_judge_38 : decode cX5_judge 38 = .ok (.iconst 4, 1) := by decide +kernel
theorem dX5_judge_39 : decode cX5_judge 39 = .ok (.invokevirtual 52, 3) := by decide +kernel
theorem dX5_judge_42 : decode cX5_judge 42 = .ok (.aload_n 0, 1) := by decide +kernel
theorem dX5_judge_43 : decode cX5_judge 43 = .ok (.iload_n 1, 1) := by decide +kernel
theorem dX5_judge_44 : decode cX5_judge 44 = .ok (.iconst 5, 1) := by decide +kernel
theorem dX5_judge_45 : decode cX5_judge 45 = .ok (.invokevirtual 52, 3) := by decide +kernel
theorem dX5_judge_48 : decode cX5_judge 48 = .ok (.invokestatic 33, 3) := by decide +kernel
theorem dX5_judge_51 : decode cX5_judge 51 = .ok (.ifCond .eq 17, 3) := by decide +kernel
theorem dX5_judge_54 : decode cX5_judge 54 = .ok (.aload_n 0, 1) := by decide +kernel
theorem dX5_judge_55 : decode cX5_judge 55 = .ok (.iload_n 1, 1) := by decide +kernel
theorem dX5_judge_56 : decode cX5_judge 56 = .ok (.bipush 14, 2) := by decide +kernel
theorem dX5_judge_58 : decode cX5_judge 58 = .ok (.invokevirtual 52, 3) := by decide +kernel
theorem dX5_judge_61 : decode cX5_judge 61 = .ok (.ifCond .ne 7, 3) := by decide +kernel
theorem dX5_judge_64 : decode cX5_judge 64 = .ok (.iconst 1, 1) := by decide +kernel
theorem dX5_judge_65 : decode cX5_judge 65 = .ok (.goto 4, 3) := by decide +kernel
theorem dX5_judge_68 : decode cX5_judge 68 = .ok (.iconst 0, 1) := by decide +kernel
theorem dX5_judge_69 : decode cX5_judge 69 = .ok (.istore_n 2, 1) := by decide +kernel
theorem dX5_judge_70 : decode cX5_judge 70 = .ok (.aload_n 0, 1) := by decide +kernel
theorem dX5_judge_71 : decode cX5_judge 71 = .ok (.iload_n 1, 1) := by decide +kernel
theorem dX5_judge_72 : decode cX5_judge 72 = .ok (.bipush 13, 2) := by decide +kernel
theorem dX5_judge_74 : decode cX5_judge 74 = .ok (.invokevirtual 52, 3) := by decide +kernel
theorem dX5_judge_77 : decode cX5_judge 77 = .ok (.istore_n 3, 1) := by decide +kernel
theorem dX5_judge_78 : decode cX5_judge 78 = .ok (.aload_n 0, 1) := by decide +kernel
theorem dX5_judge_79 : decode cX5_judge 79 = .ok (.iload_n 1, 1) := by decide +kernel
theorem dX5_judge_80 : decode cX5_judge 80 = .ok (.bipush 13, 2) := by decide +kernel
theorem dX5_judge_82 : decode cX5_judge 82 = .ok (.iload_n 2, 1) := by decide +kernel
theorem dX5_judge_83 : decode cX5_judge 83 = .ok (.ifCond .eq 17, 3) := by decide +kernel
theorem dX5_judge_86 : decode cX5_judge 86 = .ok (.iload_n 3, 1) := by decide +kernel
theorem dX5_judge_87 : decode cX5_judge 87 = .ok (.ifCond .le 9, 3) := by decide +kernel
theorem dX5_judge_90 : decode cX5_judge 90 = .ok (.iload_n 3, 1) := by decide +kernel
theorem dX5_judge_91 : decode cX5_judge 91 = .ok (.iconst 1, 1) := by decide +kernel
theorem dX5_judge_92 : decode cX5_judge 92 = .ok (.isub, 1) := by decide +kernel
theorem dX5_judge_93 : decode cX5_judge 93 = .ok (.goto 10, 3) := by decide +kernel
theorem dX5_judge_96 : decode cX5_judge 96 = .ok (.iconst 0, 1) := by decide +kernel
theorem dX5_judge_97 : decode cX5_judge 97 = .ok (.goto 6, 3) := by decide +kernel
theorem dX5_judge_100 : decode cX5_judge 100 = .ok (.iload_n 3, 1) := by decide +kernel
theorem dX5_judge_101 : decode cX5_judge 101 = .ok (.iconst 1, 1) := by decide +kernel
theorem dX5_judge_102 : decode cX5_judge 102 = .ok (.iadd, 1) := by decide +kernel
theorem dX5_judge_103 : decode cX5_judge 103 = .ok (.invokevirtual 41, 3) := by decide +kernel
theorem dX5_judge_106 : decode cX5_judge 106 = .ok (.iload_n 2, 1) := by decide +kernel
theorem dX5_judge_107 : decode cX5_judge 107 = .ok (.ifCond .ne 76, 3) := by decide +kernel
theorem dX5_judge_110 : decode cX5_judge 110 = .ok (.aload_n 0, 1) := by decide +kernel
theorem dX5_judge_111 : decode cX5_judge 111 = .ok (.iload_n 1, 1) := by decide +kernel
theorem dX5_judge_112 : decode cX5_judge 112 = .ok (.bipush 15, 2) := by decide +kernel
theorem dX5_judge_114 : decode cX5_judge 114 = .ok (.iload_n 3, 1) := by decide +kernel
theorem dX5_judge_115 : decode cX5_judge 115 = .ok (.iconst 1, 1) := by decide +kernel
theorem dX5_judge_116 : decode cX5_judge 116 = .ok (.iadd, 1) := by decide +kernel
theorem dX5_judge_117 : decode cX5_judge 117 = .ok (.aload_n 0, 1) := by decide +kernel
theorem dX5_judge_118 : decode cX5_judge 118 = .ok (.iload_n 1, 1) := by decide +kernel
theorem dX5_judge_119 : decode cX5_judge 119 = .ok (.bipush 6, 2) := by decide +kernel
theorem dX5_judge_121 : decode cX5_judge 121 = .ok (.invokevirtual 52, 3) := by decide +kernel
theorem dX5_judge_124 : decode cX5_judge 124 = .ok (.if_icmp .le 7, 3) := by decide +kernel
theorem dX5_judge_127 : decode cX5_judge 127 = .ok (.iconst 1, 1) := by decide +kernel
theorem dX5_judge_128 : decode cX5_judge 128 = .ok (.goto 4, 3) := by decide +kernel
theorem dX5_judge_131 : decode cX5_judge 131 = .ok (.iconst 0, 1) := by decide +kernel
theorem dX5_judge_132 : decode cX5_judge 132 = .ok (.invokevirtual 41, 3) := by decide +kernel
theorem dX5_judge_135 : decode cX5_judge 135 = .ok (.aload_n 0, 1) := by decide +kernel
theorem dX5_judge_136 : decode cX5_judge 136 = .ok (.iload_n 1, 1) := by decide +kernel
theorem dX5_judge_137 : decode cX5_judge 137 = .ok (.bipush 16, 2) := by decide +kernel
theorem dX5_judge_139 : decode cX5_judge 139 = .ok (.aload_n 0, 1) := by decide +kernel
theorem dX5_judge_140 : decode cX5_judge 140 = .ok (.iload_n 1, 1) := by decide +kernel
theorem dX5_judge_141 : decode cX5_judge 141 = .ok (.bipush 16, 2) := by decide +kernel
theorem dX5_judge_143 : decode cX5_judge 143 = .ok (.invokevirtual 52, 3) := by decide +kernel
theorem dX5_judge_146 : decode cX5_judge 146 = .ok (.iconst 1, 1) := by decide +kernel
theorem dX5_judge_147 : decode cX5_judge 147 = .ok (.iadd, 1) := by decide +kernel
theorem dX5_judge_148 : decode cX5_judge 148 = .ok (.invokevirtual 41, 3) := by decide +kernel
theorem dX5_judge_151 : decode cX5_judge 151 = .ok (.aload_n 0, 1) := by decide +kernel
theorem dX5_judge_152 : decode cX5_judge 152 = .ok (.iload_n 1, 1) := by decide +kernel
theorem dX5_judge_153 : decode cX5_judge 153 = .ok (.bipush 17, 2) := by decide +kernel
theorem dX5_judge_155 : decode cX5_judge 155 = .ok (.invokevirtual 52, 3) := by decide +kernel
theorem dX5_judge_158 : decode cX5_judge 158 = .ok (.ifCond .ne 25, 3) := by decide +kernel
theorem dX5_judge_161 : decode cX5_judge 161 = .ok (.aload_n 0, 1) := by decide +kernel
theorem dX5_judge_162 : decode cX5_judge 162 = .ok (.iload_n 1, 1) := by decide +kernel
theorem dX5_judge_163 : decode cX5_judge 163 = .ok (.bipush 17, 2) := by decide +kernel
theorem dX5_judge_165 : decode cX5_judge 165 = .ok (.iconst 1, 1) := by decide +kernel
theorem dX5_judge_166 : decode cX5_judge 166 = .ok (.invokevirtual 41, 3) := by decide +kernel
theorem dX5_judge_169 : decode cX5_judge 169 = .ok (.aload_n 0, 1) := by decide +kernel
theorem dX5_judge_170 : decode cX5_judge 170 = .ok (.iload_n 1, 1) := by decide +kernel
theorem dX5_judge_171 : decode cX5_judge 171 = .ok (.bipush 18, 2) := by decide +kernel
theorem dX5_judge_173 : decode cX5_judge 173 = .ok (.aload_n 0, 1) := by decide +kernel
theorem dX5_judge_174 : decode cX5_judge 174 = .ok (.getfield 7, 3) := by decide +kernel
theorem dX5_judge_177 : decode cX5_judge 177 = .ok (.bipush 8, 2) := by decide +kernel
theorem dX5_judge_179 : decode cX5_judge 179 = .ok (.iaload, 1) := by decide +kernel
theorem dX5_judge_180 : decode cX5_judge 180 = .ok (.invokevirtual 41, 3) := by decide +kernel
theorem dX5_judge_183 : decode cX5_judge 183 = .ok (.aload_n 0, 1) := by decide +kernel
theorem dX5_judge_184 : decode cX5_judge 184 = .ok (.iload_n 1, 1) := by decide +kernel
theorem dX5_judge_185 : decode cX5_judge 185 = .ok (.bipush 12, 2) := by decide +kernel
theorem dX5_judge_187 : decode cX5_judge 187 = .ok (.iconst 0, 1) := by decide +kernel
theorem dX5_judge_188 : decode cX5_judge 188 = .ok (.invokevirtual 41, 3) := by decide +kernel
theorem dX5_judge_191 : decode cX5_judge 191 = .ok (.aload_n 0, 1) := by decide +kernel
theorem dX5_judge_192 : decode cX5_judge 192 = .ok (.iload_n 1, 1) := by decide +kernel
theorem dX5_judge_193 : decode cX5_judge 193 = .ok (.bipush 14, 2) := by decide +kernel
theorem dX5_judge_195 : decode cX5_judge 195 = .ok (.iconst 0, 1) := by decide +kernel
theorem dX5_judge_196 : decode cX5_judge 196 = .ok (.invokevirtual 41, 3) := by decide +kernel
theorem dX5_judge_199 : decode cX5_judge 199 = .ok (.return_, 1) := by decide +kernel
theorem dX5_supervise_0 : decode cX5_supervise 0 = .ok (.aload_n 0, 1) := by decide +kernel
theorem dX5_supervise_1 : decode cX5_supervise 1 = .ok (.getfield 7, 3) := by decide +kernel
theorem dX5_supervise_4 : decode cX5_supervise 4 = .ok (.bipush 15, 2) := by decide +kernel
theorem dX5_supervise_6 : decode cX5_supervise 6 = .ok (.dup2, 1) := by decide +kernel
theorem dX5_supervise_7 : decode cX5_supervise 7 = .ok (.iaload, 1) := by decide +kernel
theorem dX5_supervise_8 : decode cX5_supervise 8 = .ok (.iconst 1, 1) := by decide +kernel
theorem dX5_supervise_9 : decode cX5_supervise 9 = .ok (.iadd, 1) := by decide +kernel
theorem dX5_supervise_10 : decode cX5_supervise 10 = .ok (.iastore, 1) := by decide +kernel
theorem dX5_supervise_11 : decode cX5_supervise 11 = .ok (.iconst 0, 1) := by decide +kernel
theorem dX5_supervise_12 : decode cX5_supervise 12 = .ok (.istore_n 1, 1) := by decide +kernel
theorem dX5_supervise_13 : decode cX5_supervise 13 = .ok (.iload_n 1, 1) := by decide +kernel
theorem dX5_supervise_14 : decode cX5_supervise 14 = .ok (.aload_n 0, 1) := by decide +kernel
theorem dX5_supervise_15 : decode cX5_supervise 15 = .ok (.getfield 7, 3) := by decide +kernel
theorem dX5_supervise_18 : decode cX5_supervise 18 = .ok (.bipush 17, 2) := by decide +kernel
theorem dX5_supervise_20 : decode cX5_supervise 20 = .ok (.iaload, 1) := by decide +kernel
theorem dX5_supervise_21 : decode cX5_supervise 21 = .ok (.if_icmp .ge 14, 3) := by decide +kernel
theorem dX5_supervise_24 : decode cX5_supervise 24 = .ok (.aload_n 0, 1) := by decide +kernel
theorem dX5_supervise_25 : decode cX5_supervise 25 = .ok (.iload_n 1, 1) := by decide +kernel
theorem dX5_supervise_26 : decode cX5_supervise 26 = .ok (.invokevirtual 111, 3) := by decide +kernel
theorem dX5_supervise_29 : decode cX5_supervise 29 = .ok (.iinc 1 1, 3) := by decide +kernel
theorem dX5_supervise_32 : decode cX5_supervise 32 = .ok (.goto (-19), 3) := by decide +kernel
theorem dX5_supervise_35 : decode cX5_supervise 35 = .ok (.aload_n 0, 1) := by decide +kernel
theorem dX5_supervise_36 : decode cX5_supervise 36 = .ok (.getfield 7, 3) := by decide +kernel
theorem dX5_supervise_39 : decode cX5_supervise 39 = .ok (.bipush 16, 2) := by decide +kernel
theorem dX5_supervise_41 : decode cX5_supervise 41 = .ok (.dup2, 1) := by decide +kernel
theorem dX5_supervise_42 : decode cX5_supervise 42 = .ok (.iaload, 1) := by decide +kernel
theorem dX5_supervise_43 : decode cX5_supervise 43 = .ok (.aload_n 0, 1) := by decide +kernel
theorem dX5_supervise_44 : decode cX5_supervise 44 = .ok (.invokevirtual 95, 3) := by decide +kernel
theorem dX5_supervise_47 : decode cX5_supervise 47 = .ok (.ifCond .lt 7, 3) := by decide +kernel
theorem dX5_supervise_50 : decode cX5_supervise 50 = .ok (.iconst 1, 1) := by decide +kernel
theorem dX5_supervise_51 : decode cX5_supervise 51 = .ok (.goto 4, 3) := by decide +kernel
theorem dX5_supervise_54 : decode cX5_supervise 54 = .ok (.iconst 0, 1) := by decide +kernel
theorem dX5_supervise_55 : decode cX5_supervise 55 = .ok (.iadd, 1) := by decide +kernel
theorem dX5_supervise_56 : decode cX5_supervise 56 = .ok (.iastore, 1) := by decide +kernel
theorem dX5_supervise_57 : decode cX5_supervise 57 = .ok (.aload_n 0, 1) := by decide +kernel
theorem dX5_supervise_58 : decode cX5_supervise 58 = .ok (.getfield 7, 3) := by decide +kernel
theorem dX5_supervise_61 : decode cX5_supervise 61 = .ok (.bipush 16, 2) := by decide +kernel
theorem dX5_supervise_63 : decode cX5_supervise 63 = .ok (.iaload, 1) := by decide +kernel
theorem dX5_supervise_64 : decode cX5_supervise 64 = .ok (.aload_n 0, 1) := by decide +kernel
theorem dX5_supervise_65 : decode cX5_supervise 65 = .ok (.getfield 7, 3) := by decide +kernel
theorem dX5_supervise_68 : decode cX5_supervise 68 = .ok (.iconst 4, 1) := by decide +kernel
theorem dX5_supervise_69 : decode cX5_supervise 69 = .ok (.iaload, 1) := by decide +kernel
theorem dX5_supervise_70 : decode cX5_supervise 70 = .ok (.if_icmp .gt 23, 3) := by decide +kernel
theorem dX5_supervise_73 : decode cX5_supervise 73 = .ok (.aload_n 0, 1) := by decide +kernel
theorem dX5_supervise_74 : decode cX5_supervise 74 = .ok (.getfield 7, 3) := by decide +kernel
theorem dX5_supervise_77 : decode cX5_supervise 77 = .ok (.bipush 14, 2) := by decide +kernel
theorem dX5_supervise_79 : decode cX5_supervise 79 = .ok (.iaload, 1) := by decide +kernel
theorem dX5_supervise_80 : decode cX5_supervise 80 = .ok (.aload_n 0, 1) := by decide +kernel
theorem dX5_supervise_81 : decode cX5_supervise 81 = .ok (.getfield 7, 3) := by decide +kernel
theorem dX5_supervise_84 : decode cX5_supervise 84 = .ok (.iconst 3, 1) := by decide +kernel
theorem dX5_supervise_85 : decode cX5_supervise 85 = .ok (.iaload, 1) := by decide +kernel
theorem dX5_supervise_86 : decode cX5_supervise 86 = .ok (.if_icmp .lt 7, 3) := by decide +kernel
theorem dX5_supervise_89 : decode cX5_supervise 89 = .ok (.iconst 1, 1) := by decide +kernel
theorem dX5_supervise_90 : decode cX5_supervise 90 = .ok (.goto 4, 3) := by decide +kernel
theorem dX5_supervise_93 : decode cX5_supervise 93 = .ok (.iconst 0, 1) := by decide +kernel
theorem dX5_supervise_94 : decode cX5_supervise 94 = .ok (.ireturn, 1) := by decide +kernel
theorem dX5_runs_0 : decode cX5_runs 0 = .ok (.aload_n 0, 1) := by decide +kernel
theorem dX5_runs_1 : decode cX5_runs 1 = .ok (.getfield 7, 3) := by decide +kernel
theorem dX5_runs_4 : decode cX5_runs 4 = .ok (.bipush 13, 2) := by decide +kernel
theorem dX5_runs_6 : decode cX5_runs 6 = .ok (.dup2, 1) := by decide +kernel
theorem dX5_runs_7 : decode cX5_runs 7 = .ok (.iaload, 1) := by decide +kernel
theorem dX5_runs_8 : decode cX5_runs 8 = .ok (.iconst 1, 1) := by decide +kernel
theorem dX5_runs_9 : decode cX5_runs 9 = .ok (.iadd, 1) := by decide +kernel
theorem dX5_runs_10 : decode cX5_runs 10 = .ok (.iastore, 1) := by decide +kernel
theorem dX5_runs_11 : decode cX5_runs 11 = .ok (.aload_n 0, 1) := by decide +kernel
theorem dX5_runs_12 : decode cX5_runs 12 = .ok (.getfield 7, 3) := by decide +kernel
theorem dX5_runs_15 : decode cX5_runs 15 = .ok (.bipush 14, 2) := by decide +kernel
theorem dX5_runs_17 : decode cX5_runs 17 = .ok (.dup2, 1) := by decide +kernel
theorem dX5_runs_18 : decode cX5_runs 18 = .ok (.iaload, 1) := by decide +kernel
theorem dX5_runs_19 : decode cX5_runs 19 = .ok (.iconst 1, 1) := by decide +kernel
theorem dX5_runs_20 : decode cX5_runs 20 = .ok (.iadd, 1) := by decide +kernel
theorem dX5_runs_21 : decode cX5_runs 21 = .ok (.iastore, 1) := by decide +kernel
theorem dX5_runs_22 : decode cX5_runs 22 = .ok (.iconst 0, 1) := by decide +kernel
theorem dX5_runs_23 : decode cX5_runs 23 = .ok (.istore_n 1, 1) := by decide +kernel
theorem dX5_runs_24 : decode cX5_runs 24 = .ok (.iload_n 1, 1) := by decide +kernel
theorem dX5_runs_25 : decode cX5_runs 25 = .ok (.aload_n 0, 1) := by decide +kernel
theorem dX5_runs_26 : decode cX5_runs 26 = .ok (.getfield 7, 3) := by decide +kernel
theorem dX5_runs_29 : decode cX5_runs 29 = .ok (.bipush 17, 2) := by decide +kernel
theorem dX5_runs_31 : decode cX5_runs 31 = .ok (.iaload, 1) := by decide +kernel
theorem dX5_runs_32 : decode cX5_runs 32 = .ok (.if_icmp .ge 25, 3) := by decide +kernel
theorem dX5_runs_35 : decode cX5_runs 35 = .ok (.aload_n 0, 1) := by decide +kernel
theorem dX5_runs_36 : decode cX5_runs 36 = .ok (.iload_n 1, 1) := by decide +kernel
theorem dX5_runs_37 : decode cX5_runs 37 = .ok (.invokevirtual 114, 3) := by decide +kernel
theorem dX5_runs_40 : decode cX5_runs 40 = .ok (.ifCond .eq 11, 3) := by decide +kernel
theorem dX5_runs_43 : decode cX5_runs 43 = .ok (.aload_n 0, 1) := by decide +kernel
theorem dX5_runs_44 : decode cX5_runs 44 = .ok (.iconst 3, 1) := by decide +kernel
theorem dX5_runs_45 : decode cX5_runs 45 = .ok (.iload_n 1, 1) := by decide +kernel
theorem dX5_runs_46 : decode cX5_runs 46 = .ok (.invokevirtual 117, 3) := by decide +kernel
theorem dX5_runs_49 : decode cX5_runs 49 = .ok (.iconst 1, 1) := by decide +kernel
theorem dX5_runs_50 : decode cX5_runs 50 = .ok (.ireturn, 1) := by decide +kernel
theorem dX5_runs_51 : decode cX5_runs 51 = .ok (.iinc 1 1, 3) := by decide +kernel
theorem dX5_runs_54 : decode cX5_runs 54 = .ok (.goto (-30), 3) := by decide +kernel
theorem dX5_runs_57 : decode cX5_runs 57 = .ok (.aload_n 0, 1) := by decide +kernel
theorem dX5_runs_58 : decode cX5_runs 58 = .ok (.getfield 7, 3) := by decide +kernel
theorem dX5_runs_61 : decode cX5_runs 61 = .ok (.bipush 13, 2) := by decide +kernel
theorem dX5_runs_63 : decode cX5_runs 63 = .ok (.iaload, 1) := by decide +kernel
theorem dX5_runs_64 : decode cX5_runs 64 = .ok (.aload_n 0, 1) := by decide +kernel
theorem dX5_runs_65 : decode cX5_runs 65 = .ok (.getfield 7, 3) := by decide +kernel
theorem dX5_runs_68 : decode cX5_runs 68 = .ok (.iconst 2, 1) := by decide +kernel
theorem dX5_runs_69 : decode cX5_runs 69 = .ok (.iaload, 1) := by decide +kernel
theorem dX5_runs_70 : decode cX5_runs 70 = .ok (.irem, 1) := by decide +kernel
theorem dX5_runs_71 : decode cX5_runs 71 = .ok (.ifCond .ne 14, 3) := by decide +kernel
theorem dX5_runs_74 : decode cX5_runs 74 = .ok (.aload_n 0, 1) := by decide +kernel
theorem dX5_runs_75 : decode cX5_runs 75 = .ok (.invokevirtual 121, 3) := by decide +kernel
theorem dX5_runs_78 : decode cX5_runs 78 = .ok (.ifCond .eq 7, 3) := by decide +kernel
theorem dX5_runs_81 : decode cX5_runs 81 = .ok (.iconst 1, 1) := by decide +kernel
theorem dX5_runs_82 : decode cX5_runs 82 = .ok (.goto 4, 3) := by decide +kernel
theorem dX5_runs_85 : decode cX5_runs 85 = .ok (.iconst 0, 1) := by decide +kernel
theorem dX5_runs_86 : decode cX5_runs 86 = .ok (.istore_n 1, 1) := by decide +kernel
theorem dX5_runs_87 : decode cX5_runs 87 = .ok (.iload_n 1, 1) := by decide +kernel
theorem dX5_runs_88 : decode cX5_runs 88 = .ok (.ifCond .eq 19, 3) := by decide +kernel
theorem dX5_runs_91 : decode cX5_runs 91 = .ok (.aload_n 0, 1) := by decide +kernel
theorem dX5_runs_92 : decode cX5_runs 92 = .ok (.getfield 7, 3) := by decide +kernel
theorem dX5_runs_95 : decode cX5_runs 95 = .ok (.bipush 14, 2) := by decide +kernel
theorem dX5_runs_97 : decode cX5_runs 97 = .ok (.iaload, 1) := by decide +kernel
theorem dX5_runs_98 : decode cX5_runs 98 = .ok (.aload_n 0, 1) := by decide +kernel
theorem dX5_runs_99 : decode cX5_runs 99 = .ok (.getfield 7, 3) := by decide +kernel
theorem dX5_runs_102 : decode cX5_runs 102 = .ok (.iconst 0, 1) := by decide +kernel
theorem dX5_runs_103 : decode cX5_runs 103 = .ok (.iaload, 1) := by decide +kernel
theorem dX5_runs_104 : decode cX5_runs 104 = .ok (.if_icmp .lt 23, 3) := by decide +kernel
theorem dX5_runs_107 : decode cX5_runs 107 = .ok (.iload_n 1, 1) := by decide +kernel
theorem dX5_runs_108 : decode cX5_runs 108 = .ok (.ifCond .ne 36, 3) := by decide +kernel
theorem dX5_runs_111 : decode cX5_runs 111 = .ok (.aload_n 0, 1) := by decide +kernel
theorem dX5_runs_112 : decode cX5_runs 112 = .ok (.getfield 7, 3) := by decide +kernel
theorem dX5_runs_115 : decode cX5_runs 115 = .ok (.bipush 14, 2) := by decide +kernel
theorem dX5_runs_117 : decode cX5_runs 117 = .ok (.iaload, 1) := by decide +kernel
theorem dX5_runs_118 : decode cX5_runs 118 = .ok (.aload_n 0, 1) := by decide +kernel
theorem dX5_runs_119 : decode cX5_runs 119 = .ok (.getfield 7, 3) := by decide +kernel
theorem dX5_runs_122 : decode cX5_runs 122 = .ok (.iconst 1, 1) := by decide +kernel
theorem dX5_runs_123 : decode cX5_runs 123 = .ok (.iaload, 1) := by decide +kernel
theorem dX5_runs_124 : decode cX5_runs 124 = .ok (.if_icmp .le 20, 3) := by decide +kernel
theorem dX5_runs_127 : decode cX5_runs 127 = .ok (.aload_n 0, 1) := by decide +kernel
theorem dX5_runs_128 : decode cX5_runs 128 = .ok (.iload_n 1, 1) := by decide +kernel
theorem dX5_runs_129 : decode cX5_runs 129 = .ok (.ifCond .eq 7, 3) := by decide +kernel
theorem dX5_runs_132 : decode cX5_runs 132 = .ok (.iconst 1, 1) := by decide +kernel
theorem dX5_runs_133 : decode cX5_runs 133 = .ok (.goto 4, 3) := by decide +kernel
theorem dX5_runs_136 : decode cX5_runs 136 = .ok (.iconst 2, 1) := by decide +kernel
theorem dX5_runs_137 : decode cX5_runs 137 = .ok (.bipush (-6), 2) := by decide +kernel
theorem dX5_runs_139 : decode cX5_runs 139 = .ok (.invokevirtual 117, 3) := by decide +kernel
theorem dX5_runs_142 : decode cX5_runs 142 = .ok (.iconst 1, 1) := by decide +kernel
theorem dX5_runs_143 : decode cX5_runs 143 = .ok (.ireturn, 1) := by decide +kernel
theorem dX5_runs_144 : decode cX5_runs 144 = .ok (.aload_n 0, 1) := by decide +kernel
theorem dX5_runs_145 : decode cX5_runs 145 = .ok (.getfield 7, 3) := by decide +kernel
theorem dX5_runs_148 : decode cX5_runs 148 = .ok (.bipush 14, 2) := by decide +kernel
theorem dX5_runs_150 : decode cX5_runs 150 = .ok (.iload_n 1, 1) := by decide +kernel
theorem dX5_runs_151 : decode cX5_runs 151 = .ok (.ifCond .eq 7, 3) := by decide +kernel
theorem dX5_runs_154 : decode cX5_runs 154 = .ok (.iconst 0, 1) := by decide +kernel
theorem dX5_runs_155 : decode cX5_runs 155 = .ok (.goto 10, 3) := by decide +kernel
theorem dX5_runs_158 : decode cX5_runs 158 = .ok (.aload_n 0, 1) := by decide +kernel
theorem dX5_runs_159 : decode cX5_runs 159 = .ok (.getfield 7, 3) := by decide +kernel
theorem dX5_runs_162 : decode cX5_runs 162 = .ok (.bipush 14, 2) := by decide +kernel
theorem dX5_runs_164 : decode cX5_runs 164 = .ok (.iaload, 1) := by decide +kernel
theorem dX5_runs_165 : decode cX5_runs 165 = .ok (.iastore, 1) := by decide +kernel
theorem dX5_runs_166 : decode cX5_runs 166 = .ok (.aload_n 0, 1) := by decide +kernel
theorem dX5_runs_167 : decode cX5_runs 167 = .ok (.getfield 7, 3) := by decide +kernel
theorem dX5_runs_170 : decode cX5_runs 170 = .ok (.bipush 11, 2) := by decide +kernel
theorem dX5_runs_172 : decode cX5_runs 172 = .ok (.aload_n 0, 1) := by decide +kernel
theorem dX5_runs_173 : decode cX5_runs 173 = .ok (.getfield 7, 3) := by decide +kernel
theorem dX5_runs_176 : decode cX5_runs 176 = .ok (.bipush 13, 2) := by decide +kernel
theorem dX5_runs_178 : decode cX5_runs 178 = .ok (.iaload, 1) := by decide +kernel
theorem dX5_runs_179 : decode cX5_runs 179 = .ok (.aload_n 0, 1) := by decide +kernel
theorem dX5_runs_180 : decode cX5_runs 180 = .ok (.getfield 7, 3) := by decide +kernel
theorem dX5_runs_183 : decode cX5_runs 183 = .ok (.bipush 6, 2) := by decide +kernel
theorem dX5_runs_185 : decode cX5_runs 185 = .ok (.iaload, 1) := by decide +kernel
theorem dX5_runs_186 : decode cX5_runs 186 = .ok (.if_icmp .ne 7, 3) := by decide +kernel
theorem dX5_runs_189 : decode cX5_runs 189 = .ok (.iconst 0, 1) := by decide +kernel
theorem dX5_runs_190 : decode cX5_runs 190 = .ok (.goto 10, 3) := by decide +kernel
theorem dX5_runs_193 : decode cX5_runs 193 = .ok (.aload_n 0, 1) := by decide +kernel
theorem dX5_runs_194 : decode cX5_runs 194 = .ok (.getfield 7, 3) := by decide +kernel
theorem dX5_runs_197 : decode cX5_runs 197 = .ok (.bipush 11, 2) := by decide +kernel
theorem dX5_runs_199 : decode cX5_runs 199 = .ok (.iaload, 1) := by decide +kernel
theorem dX5_runs_200 : decode cX5_runs 200 = .ok (.iastore, 1) := by decide +kernel
theorem dX5_runs_201 : decode cX5_runs 201 = .ok (.iconst 0, 1) := by decide +kernel
theorem dX5_runs_202 : decode cX5_runs 202 = .ok (.ireturn, 1) := by decide +kernel
theorem dX5_tick_0 : decode cX5_tick 0 = .ok (.iconst 0, 1) := by decide +kernel
theorem dX5_tick_1 : decode cX5_tick 1 = .ok (.istore_n 1, 1) := by decide +kernel
theorem dX5_tick_2 : decode cX5_tick 2 = .ok (.aload_n 0, 1) := by decide +kernel
theorem dX5_tick_3 : decode cX5_tick 3 = .ok (.getfield 7, 3) := by decide +kernel
theorem dX5_tick_6 : decode cX5_tick 6 = .ok (.bipush 9, 2) := by decide +kernel
theorem dX5_tick_8 : decode cX5_tick 8 = .ok (.iaload, 1) := by decide +kernel
theorem dX5_tick_9 : decode cX5_tick 9 = .ok (.ifCond .ne 31, 3) := by decide +kernel
theorem dX5_tick_12 : decode cX5_tick 12 = .ok (.aload_n 0, 1) := by decide +kernel
theorem dX5_tick_13 : decode cX5_tick 13 = .ok (.getfield 7, 3) := by decide +kernel
theorem dX5_tick_16 : decode cX5_tick 16 = .ok (.bipush 12, 2) := by decide +kernel
theorem dX5_tick_18 : decode cX5_tick 18 = .ok (.dup2, 1) := by decide +kernel
theorem dX5_tick_19 : decode cX5_tick 19 = .ok (.iaload, 1) := by decide +kernel
theorem dX5_tick_20 : decode cX5_tick 20 = .ok (.iconst 1, 1) := by decide +kernel
theorem dX5_tick_21 : decode cX5_tick 21 = .ok (.isub, 1) := by decide +kernel
theorem dX5_tick_22 : decode cX5_tick 22 = .ok (.iastore, 1) := by decide +kernel
theorem dX5_tick_23 : decode cX5_tick 23 = .ok (.aload_n 0, 1) := by decide +kernel
theorem dX5_tick_24 : decode cX5_tick 24 = .ok (.getfield 7, 3) := by decide +kernel
theorem dX5_tick_27 : decode cX5_tick 27 = .ok (.bipush 12, 2) := by decide +kernel
theorem dX5_tick_29 : decode cX5_tick 29 = .ok (.iaload, 1) := by decide +kernel
theorem dX5_tick_30 : decode cX5_tick 30 = .ok (.ifCond .ne 26, 3) := by decide +kernel
theorem dX5_tick_33 : decode cX5_tick 33 = .ok (.aload_n 0, 1) := by decide +kernel
theorem dX5_tick_34 : decode cX5_tick 34 = .ok (.invokevirtual 125, 3) := by decide +kernel
theorem dX5_tick_37 : decode cX5_tick 37 = .ok (.goto 19, 3) := by decide +kernel
theorem dX5_tick_40 : decode cX5_tick 40 = .ok (.aload_n 0, 1) := by decide +kernel
theorem dX5_tick_41 : decode cX5_tick 41 = .ok (.getfield 7, 3) := by decide +kernel
theorem dX5_tick_44 : decode cX5_tick 44 = .ok (.bipush 9, 2) := by decide +kernel
theorem dX5_tick_46 : decode cX5_tick 46 = .ok (.iaload, 1) := by decide +kernel
theorem dX5_tick_47 : decode cX5_tick 47 = .ok (.iconst 1, 1) := by decide +kernel
theorem dX5_tick_48 : decode cX5_tick 48 = .ok (.if_icmp .ne 8, 3) := by decide +kernel
theorem dX5_tick_51 : decode cX5_tick 51 = .ok (.aload_n 0, 1) := by decide +kernel
theorem dX5_tick_52 : decode cX5_tick 52 = .ok (.invokevirtual 128, 3) := by decide +kernel
theorem dX5_tick_55 : decode cX5_tick 55 = .ok (.istore_n 1, 1) := by decide +kernel
theorem dX5_tick_56 : decode cX5_tick 56 = .ok (.aload_n 0, 1) := by decide +kernel
theorem dX5_tick_57 : decode cX5_tick 57 = .ok (.getfield 7, 3) := by decide +kernel
theorem dX5_tick_60 : decode cX5_tick 60 = .ok (.bipush 8, 2) := by decide +kernel
theorem dX5_tick_62 : decode cX5_tick 62 = .ok (.dup2, 1) := by decide +kernel
theorem dX5_tick_63 : decode cX5_tick 63 = .ok (.iaload, 1) := by decide +kernel
theorem dX5_tick_64 : decode cX5_tick 64 = .ok (.iconst 1, 1) := by decide +kernel
theorem dX5_tick_65 : decode cX5_tick 65 = .ok (.iadd, 1) := by decide +kernel
theorem dX5_tick_66 : decode cX5_tick 66 = .ok (.iastore, 1) := by decide +kernel
theorem dX5_tick_67 : decode cX5_tick 67 = .ok (.iload_n 1, 1) := by decide +kernel
theorem dX5_tick_68 : decode cX5_tick 68 = .ok (.ireturn, 1) := by decide +kernel
theorem dX5_run_0 : decode cX5_run 0 = .ok (.iload_n 1, 1) := by decide +kernel
theorem dX5_run_1 : decode cX5_run 1 = .ok (.iconst 1, 1) := by decide +kernel
theorem dX5_run_2 : decode cX5_run 2 = .ok (.sipush 2000, 3) := by decide +kernel
theorem dX5_run_5 : decode cX5_run 5 = .ok (.invokestatic 33, 3) := by decide +kernel
theorem dX5_run_8 : decode cX5_run 8 = .ok (.ifCond .ne 6, 3) := by decide +kernel
theorem dX5_run_11 : decode cX5_run 11 = .ok (.bipush (-2), 2) := by decide +kernel
theorem dX5_run_13 : decode cX5_run 13 = .ok (.ireturn, 1) := by decide +kernel
theorem dX5_run_14 : decode cX5_run 14 = .ok (.aload_n 0, 1) := by decide +kernel
theorem dX5_run_15 : decode cX5_run 15 = .ok (.getfield 7, 3) := by decide +kernel
theorem dX5_run_18 : decode cX5_run 18 = .ok (.bipush 8, 2) := by decide +kernel
theorem dX5_run_20 : decode cX5_run 20 = .ok (.iaload, 1) := by decide +kernel
theorem dX5_run_21 : decode cX5_run 21 = .ok (.iload_n 1, 1) := by decide +kernel
theorem dX5_run_22 : decode cX5_run 22 = .ok (.iadd, 1) := by decide +kernel
theorem dX5_run_23 : decode cX5_run 23 = .ok (.ldc 131, 2) := by decide +kernel
theorem dX5_run_25 : decode cX5_run 25 = .ok (.if_icmp .le 6, 3) := by decide +kernel
theorem dX5_run_28 : decode cX5_run 28 = .ok (.bipush (-5), 2) := by decide +kernel
theorem dX5_run_30 : decode cX5_run 30 = .ok (.ireturn, 1) := by decide +kernel
theorem dX5_run_31 : decode cX5_run 31 = .ok (.iconst 0, 1) := by decide +kernel
theorem dX5_run_32 : decode cX5_run 32 = .ok (.istore_n 2, 1) := by decide +kernel
theorem dX5_run_33 : decode cX5_run 33 = .ok (.iload_n 2, 1) := by decide +kernel
theorem dX5_run_34 : decode cX5_run 34 = .ok (.iload_n 1, 1) := by decide +kernel
theorem dX5_run_35 : decode cX5_run 35 = .ok (.if_icmp .ge 14, 3) := by decide +kernel
theorem dX5_run_38 : decode cX5_run 38 = .ok (.aload_n 0, 1) := by decide +kernel
theorem dX5_run_39 : decode cX5_run 39 = .ok (.invokevirtual 132, 3) := by decide +kernel
theorem dX5_run_42 : decode cX5_run 42 = .ok (.pop, 1) := by decide +kernel
theorem dX5_run_43 : decode cX5_run 43 = .ok (.iinc 2 1, 3) := by decide +kernel
theorem dX5_run_46 : decode cX5_run 46 = .ok (.goto (-13), 3) := by decide +kernel
theorem dX5_run_49 : decode cX5_run 49 = .ok (.aload_n 0, 1) := by decide +kernel
theorem dX5_run_50 : decode cX5_run 50 = .ok (.getfield 7, 3) := by decide +kernel
theorem dX5_run_53 : decode cX5_run 53 = .ok (.bipush 8, 2) := by decide +kernel
theorem dX5_run_55 : decode cX5_run 55 = .ok (.iaload, 1) := by decide +kernel
theorem dX5_run_56 : decode cX5_run 56 = .ok (.ireturn, 1) := by decide +kernel
theorem dX5_tickOfReset_0 : decode cX5_tickOfReset 0 = .ok (.iconst 1, 1) := by decide +kernel
theorem dX5_tickOfReset_1 : decode cX5_tickOfReset 1 = .ok (.istore_n 2, 1) := by decide +kernel
theorem dX5_tickOfReset_2 : decode cX5_tickOfReset 2 = .ok (.iload_n 2, 1) := by decide +kernel
theorem dX5_tickOfReset_3 : decode cX5_tickOfReset 3 = .ok (.iload_n 1, 1) := by decide +kernel
theorem dX5_tickOfReset_4 : decode cX5_tickOfReset 4 = .ok (.if_icmp .gt 18, 3) := by decide +kernel
theorem dX5_tickOfReset_7 : decode cX5_tickOfReset 7 = .ok (.aload_n 0, 1) := by decide +kernel
theorem dX5_tickOfReset_8 : decode cX5_tickOfReset 8 = .ok (.invokevirtual 132, 3) := by decide +kernel
theorem dX5_tickOfReset_11 : decode cX5_tickOfReset 11 = .ok (.ifCond .eq 5, 3) := by decide +kernel
theorem dX5_tickOfReset_14 : decode cX5_tickOfReset 14 = .ok (.iload_n 2, 1) := by decide +kernel
theorem dX5_tickOfReset_15 : decode cX5_tickOfReset 15 = .ok (.ireturn, 1) := by decide +kernel
theorem dX5_tickOfReset_16 : decode cX5_tickOfReset 16 = .ok (.iinc 2 1, 3) := by decide +kernel
theorem dX5_tickOfReset_19 : decode cX5_tickOfReset 19 = .ok (.goto (-17), 3) := by decide +kernel
theorem dX5_tickOfReset_22 : decode cX5_tickOfReset 22 = .ok (.bipush (-6), 2) := by decide +kernel
theorem dX5_tickOfReset_24 : decode cX5_tickOfReset 24 = .ok (.ireturn, 1) := by decide +kernel
theorem dX5_runToReset_0 : decode cX5_runToReset 0 = .ok (.iload_n 1, 1) := by decide +kernel
theorem dX5_runToReset_1 : decode cX5_runToReset 1 = .ok (.iconst 1, 1) := by decide +kernel
theorem dX5_runToReset_2 : decode cX5_runToReset 2 = .ok (.sipush 2000, 3) := by decide +kernel
theorem dX5_runToReset_5 : decode cX5_runToReset 5 = .ok (.invokestatic 33, 3) := by decide +kernel
theorem dX5_runToReset_8 : decode cX5_runToReset 8 = .ok (.ifCond .ne 6, 3) := by decide +kernel
theorem dX5_runToReset_11 : decode cX5_runToReset 11 = .ok (.bipush (-2), 2) := by decide +kernel
theorem dX5_runToReset_13 : decode cX5_runToReset 13 = .ok (.ireturn, 1) := by decide +kernel
theorem dX5_runToReset_14 : decode cX5_runToReset 14 = .ok (.aload_n 0, 1) := by decide +kernel
theorem dX5_runToReset_15 : decode cX5_runToReset 15 = .ok (.getfield 7, 3) := by decide +kernel
theorem dX5_runToReset_18 : decode cX5_runToReset 18 = .ok (.bipush 8, 2) := by decide +kernel
theorem dX5_runToReset_20 : decode cX5_runToReset 20 = .ok (.iaload, 1) := by decide +kernel
theorem dX5_runToReset_21 : decode cX5_runToReset 21 = .ok (.iload_n 1, 1) := by decide +kernel
theorem dX5_runToReset_22 : decode cX5_runToReset 22 = .ok (.iadd, 1) := by decide +kernel
theorem dX5_runToReset_23 : decode cX5_runToReset 23 = .ok (.ldc 131, 2) := by decide +kernel
theorem dX5_runToReset_25 : decode cX5_runToReset 25 = .ok (.if_icmp .le 6, 3) := by decide +kernel
theorem dX5_runToReset_28 : decode cX5_runToReset 28 = .ok (.bipush (-5), 2) := by decide +kernel
theorem dX5_runToReset_30 : decode cX5_runToReset 30 = .ok (.ireturn, 1) := by decide +kernel
theorem dX5_runToReset_31 : decode cX5_runToReset 31 = .ok (.aload_n 0, 1) := by decide +kernel
theorem dX5_runToReset_32 : decode cX5_runToReset 32 = .ok (.iload_n 1, 1) := by decide +kernel
theorem dX5_runToReset_33 : decode cX5_runToReset 33 = .ok (.invokevirtual 135, 3) := by decide +kernel
theorem dX5_runToReset_36 : decode cX5_runToReset 36 = .ok (.istore_n 2, 1) := by decide +kernel
theorem dX5_runToReset_37 : decode cX5_runToReset 37 = .ok (.iload_n 2, 1) := by decide +kernel
theorem dX5_runToReset_38 : decode cX5_runToReset 38 = .ok (.ifCond .ge 7, 3) := by decide +kernel
theorem dX5_runToReset_41 : decode cX5_runToReset 41 = .ok (.iload_n 1, 1) := by decide +kernel
theorem dX5_runToReset_42 : decode cX5_runToReset 42 = .ok (.goto 4, 3) := by decide +kernel
theorem dX5_runToReset_45 : decode cX5_runToReset 45 = .ok (.iload_n 2, 1) := by decide +kernel
theorem dX5_runToReset_46 : decode cX5_runToReset 46 = .ok (.ireturn, 1) := by decide +kernel
theorem dX5_kick_0 : decode cX5_kick 0 = .ok (.aload_n 0, 1) := by decide +kernel
theorem dX5_kick_1 : decode cX5_kick 1 = .ok (.getfield 7, 3) := by decide +kernel
theorem dX5_kick_4 : decode cX5_kick 4 = .ok (.bipush 9, 2) := by decide +kernel
theorem dX5_kick_6 : decode cX5_kick 6 = .ok (.iaload, 1) := by decide +kernel
theorem dX5_kick_7 : decode cX5_kick 7 = .ok (.iconst 1, 1) := by decide +kernel
theorem dX5_kick_8 : decode cX5_kick 8 = .ok (.if_icmp .eq 6, 3) := by decide +kernel
theorem dX5_kick_11 : decode cX5_kick 11 = .ok (.bipush (-5), 2) := by decide +kernel
theorem dX5_kick_13 : decode cX5_kick 13 = .ok (.ireturn, 1) := by decide +kernel
theorem dX5_kick_14 : decode cX5_kick 14 = .ok (.aload_n 0, 1) := by decide +kernel
theorem dX5_kick_15 : decode cX5_kick 15 = .ok (.getfield 7, 3) := by decide +kernel
theorem dX5_kick_18 : decode cX5_kick 18 = .ok (.bipush 14, 2) := by decide +kernel
theorem dX5_kick_20 : decode cX5_kick 20 = .ok (.iaload, 1) := by decide +kernel
theorem dX5_kick_21 : decode cX5_kick 21 = .ok (.istore_n 1, 1) := by decide +kernel
theorem dX5_kick_22 : decode cX5_kick 22 = .ok (.iload_n 1, 1) := by decide +kernel
theorem dX5_kick_23 : decode cX5_kick 23 = .ok (.aload_n 0, 1) := by decide +kernel
theorem dX5_kick_24 : decode cX5_kick 24 = .ok (.getfield 7, 3) := by decide +kernel
theorem dX5_kick_27 : decode cX5_kick 27 = .ok (.iconst 0, 1) := by decide +kernel
theorem dX5_kick_28 : decode cX5_kick 28 = .ok (.iaload, 1) := by decide +kernel
theorem dX5_kick_29 : decode cX5_kick 29 = .ok (.if_icmp .ge 13, 3) := by decide +kernel
theorem dX5_kick_32 : decode cX5_kick 32 = .ok (.aload_n 0, 1) := by decide +kernel
theorem dX5_kick_33 : decode cX5_kick 33 = .ok (.iconst 1, 1) := by decide +kernel
theorem dX5_kick_34 : decode cX5_kick 34 = .ok (.bipush (-6), 2) := by decide +kernel
theorem dX5_kick_36 : decode cX5_kick 36 = .ok (.invokevirtual 117, 3) := by decide +kernel
theorem dX5_kick_39 : decode cX5_kick 39 = .ok (.goto 11, 3) := by decide +kernel
theorem dX5_kick_42 : decode cX5_kick 42 = .ok (.aload_n 0, 1) := by decide +kernel
theorem dX5_kick_43 : decode cX5_kick 43 = .ok (.getfield 7, 3) := by decide +kernel
theorem dX5_kick_46 : decode cX5_kick 46 = .ok (.bipush 14, 2) := by decide +kernel
theorem dX5_kick_48 : decode cX5_kick 48 = .ok (.iconst 0, 1) := by decide +kernel
theorem dX5_kick_49 : decode cX5_kick 49 = .ok (.iastore, 1) := by decide +kernel
theorem dX5_kick_50 : decode cX5_kick 50 = .ok (.iload_n 1, 1) := by decide +kernel
theorem dX5_kick_51 : decode cX5_kick 51 = .ok (.ireturn, 1) := by decide +kernel
theorem dX5_reset_0 : decode cX5_reset 0 = .ok (.aload_n 0, 1) := by decide +kernel
theorem dX5_reset_1 : decode cX5_reset 1 = .ok (.getfield 7, 3) := by decide +kernel
theorem dX5_reset_4 : decode cX5_reset 4 = .ok (.bipush 9, 2) := by decide +kernel
theorem dX5_reset_6 : decode cX5_reset 6 = .ok (.iaload, 1) := by decide +kernel
theorem dX5_reset_7 : decode cX5_reset 7 = .ok (.iconst 1, 1) := by decide +kernel
theorem dX5_reset_8 : decode cX5_reset 8 = .ok (.if_icmp .eq 6, 3) := by decide +kernel
theorem dX5_reset_11 : decode cX5_reset 11 = .ok (.bipush (-5), 2) := by decide +kernel
theorem dX5_reset_13 : decode cX5_reset 13 = .ok (.ireturn, 1) := by decide +kernel
theorem dX5_reset_14 : decode cX5_reset 14 = .ok (.aload_n 0, 1) := by decide +kernel
theorem dX5_reset_15 : decode cX5_reset 15 = .ok (.iconst 4, 1) := by decide +kernel
theorem dX5_reset_16 : decode cX5_reset 16 = .ok (.bipush (-6), 2) := by decide +kernel
theorem dX5_reset_18 : decode cX5_reset 18 = .ok (.invokevirtual 117, 3) := by decide +kernel
theorem dX5_reset_21 : decode cX5_reset 21 = .ok (.aload_n 0, 1) := by decide +kernel
theorem dX5_reset_22 : decode cX5_reset 22 = .ok (.getfield 7, 3) := by decide +kernel
theorem dX5_reset_25 : decode cX5_reset 25 = .ok (.bipush 18, 2) := by decide +kernel
theorem dX5_reset_27 : decode cX5_reset 27 = .ok (.iaload, 1) := by decide +kernel
theorem dX5_reset_28 : decode cX5_reset 28 = .ok (.iconst 1, 1) := by decide +kernel
theorem dX5_reset_29 : decode cX5_reset 29 = .ok (.isub, 1) := by decide +kernel
theorem dX5_reset_30 : decode cX5_reset 30 = .ok (.ireturn, 1) := by decide +kernel
theorem dX5_switchOn_0 : decode cX5_switchOn 0 = .ok (.aload_n 0, 1) := by decide +kernel
theorem dX5_switchOn_1 : decode cX5_switchOn 1 = .ok (.invokevirtual 98, 3) := by decide +kernel
theorem dX5_switchOn_4 : decode cX5_switchOn 4 = .ok (.aload_n 0, 1) := by decide +kernel
theorem dX5_switchOn_5 : decode cX5_switchOn 5 = .ok (.getfield 7, 3) := by decide +kernel
theorem dX5_switchOn_8 : decode cX5_switchOn 8 = .ok (.bipush 10, 2) := by decide +kernel
theorem dX5_switchOn_10 : decode cX5_switchOn 10 = .ok (.iconst 0, 1) := by decide +kernel
theorem dX5_switchOn_11 : decode cX5_switchOn 11 = .ok (.iastore, 1) := by decide +kernel
theorem dX5_switchOn_12 : decode cX5_switchOn 12 = .ok (.aload_n 0, 1) := by decide +kernel
theorem dX5_switchOn_13 : decode cX5_switchOn 13 = .ok (.getfield 7, 3) := by decide +kernel
theorem dX5_switchOn_16 : decode cX5_switchOn 16 = .ok (.bipush 11, 2) := by decide +kernel
theorem dX5_switchOn_18 : decode cX5_switchOn 18 = .ok (.iconst 0, 1) := by decide +kernel
theorem dX5_switchOn_19 : decode cX5_switchOn 19 = .ok (.iastore, 1) := by decide +kernel
theorem dX5_switchOn_20 : decode cX5_switchOn 20 = .ok (.return_, 1) := by decide +kernel
theorem dX5_powerCycle_0 : decode cX5_powerCycle 0 = .ok (.aload_n 0, 1) := by decide +kernel
theorem dX5_powerCycle_1 : decode cX5_powerCycle 1 = .ok (.getfield 7, 3) := by decide +kernel
theorem dX5_powerCycle_4 : decode cX5_powerCycle 4 = .ok (.bipush 9, 2) := by decide +kernel
theorem dX5_powerCycle_6 : decode cX5_powerCycle 6 = .ok (.iaload, 1) := by decide +kernel
theorem dX5_powerCycle_7 : decode cX5_powerCycle 7 = .ok (.istore_n 1, 1) := by decide +kernel
theorem dX5_powerCycle_8 : decode cX5_powerCycle 8 = .ok (.aload_n 0, 1) := by decide +kernel
theorem dX5_powerCycle_9 : decode cX5_powerCycle 9 = .ok (.invokevirtual 138, 3) := by decide +kernel
theorem dX5_powerCycle_12 : decode cX5_powerCycle 12 = .ok (.iload_n 1, 1) := by decide +kernel
theorem dX5_powerCycle_13 : decode cX5_powerCycle 13 = .ok (.ireturn, 1) := by decide +kernel
theorem dX5_expiredSet_0 : decode cX5_expiredSet 0 = .ok (.iconst 0, 1) := by decide +kernel
theorem dX5_expiredSet_1 : decode cX5_expiredSet 1 = .ok (.istore_n 1, 1) := by decide +kernel
theorem dX5_expiredSet_2 : decode cX5_expiredSet 2 = .ok (.iconst 0, 1) := by decide +kernel
theorem dX5_expiredSet_3 : decode cX5_expiredSet 3 = .ok (.istore_n 2, 1) := by decide +kernel
theorem dX5_expiredSet_4 : decode cX5_expiredSet 4 = .ok (.iload_n 2, 1) := by decide +kernel
theorem dX5_expiredSet_5 : decode cX5_expiredSet 5 = .ok (.aload_n 0, 1) := by decide +kernel
theorem dX5_expiredSet_6 : decode cX5_expiredSet 6 = .ok (.getfield 7, 3) := by decide +kernel
theorem dX5_expiredSet_9 : decode cX5_expiredSet 9 = .ok (.bipush 17, 2) := by decide +kernel
theorem dX5_expiredSet_11 : decode cX5_expiredSet 11 = .ok (.iaload, 1) := by decide +kernel
theorem dX5_expiredSet_12 : decode cX5_expiredSet 12 = .ok (.if_icmp .ge 30, 3) := by decide +kernel
theorem dX5_expiredSet_15 : decode cX5_expiredSet 15 = .ok (.iload_n 1, 1) := by decide +kernel
theorem dX5_expiredSet_16 : decode cX5_expiredSet 16 = .ok (.aload_n 0, 1) := by decide +kernel
theorem dX5_expiredSet_17 : decode cX5_expiredSet 17 = .ok (.iload_n 2, 1) := by decide +kernel
theorem dX5_expiredSet_18 : decode cX5_expiredSet 18 = .ok (.bipush 15, 2) := by decide +kernel
theorem dX5_expiredSet_20 : decode cX5_expiredSet 20 = .ok (.invokevirtual 52, 3) := by decide +kernel
theorem dX5_expiredSet_23 : decode cX5_expiredSet 23 = .ok (.iconst 1, 1) := by decide +kernel
theorem dX5_expiredSet_24 : decode cX5_expiredSet 24 = .ok (.if_icmp .ne 9, 3) := by decide +kernel
theorem dX5_expiredSet_27 : decode cX5_expiredSet 27 = .ok (.iconst 1, 1) := by decide +kernel
theorem dX5_expiredSet_28 : decode cX5_expiredSet 28 = .ok (.iload_n 2, 1) := by decide +kernel
theorem dX5_expiredSet_29 : decode cX5_expiredSet 29 = .ok (.ishl, 1) := by decide +kernel
theorem dX5_expiredSet_30 : decode cX5_expiredSet 30 = .ok (.goto 4, 3) := by decide +kernel
theorem dX5_expiredSet_33 : decode cX5_expiredSet 33 = .ok (.iconst 0, 1) := by decide +kernel
theorem dX5_expiredSet_34 : decode cX5_expiredSet 34 = .ok (.ior, 1) := by decide +kernel
theorem dX5_expiredSet_35 : decode cX5_expiredSet 35 = .ok (.istore_n 1, 1) := by decide +kernel
theorem dX5_expiredSet_36 : decode cX5_expiredSet 36 = .ok (.iinc 2 1, 3) := by decide +kernel
theorem dX5_expiredSet_39 : decode cX5_expiredSet 39 = .ok (.goto (-35), 3) := by decide +kernel
theorem dX5_expiredSet_42 : decode cX5_expiredSet 42 = .ok (.iload_n 1, 1) := by decide +kernel
theorem dX5_expiredSet_43 : decode cX5_expiredSet 43 = .ok (.ireturn, 1) := by decide +kernel
theorem dX5_state_0 : decode cX5_state 0 = .ok (.aload_n 0, 1) := by decide +kernel
theorem dX5_state_1 : decode cX5_state 1 = .ok (.getfield 7, 3) := by decide +kernel
theorem dX5_state_4 : decode cX5_state 4 = .ok (.bipush 9, 2) := by decide +kernel
theorem dX5_state_6 : decode cX5_state 6 = .ok (.iaload, 1) := by decide +kernel
theorem dX5_state_7 : decode cX5_state 7 = .ok (.iconst 1, 1) := by decide +kernel
theorem dX5_state_8 : decode cX5_state 8 = .ok (.if_icmp .ne 7, 3) := by decide +kernel
theorem dX5_state_11 : decode cX5_state 11 = .ok (.iconst 1, 1) := by decide +kernel
theorem dX5_state_12 : decode cX5_state 12 = .ok (.goto 4, 3) := by decide +kernel
theorem dX5_state_15 : decode cX5_state 15 = .ok (.iconst 0, 1) := by decide +kernel
theorem dX5_state_16 : decode cX5_state 16 = .ok (.istore_n 2, 1) := by decide +kernel
theorem dX5_state_17 : decode cX5_state 17 = .ok (.iload_n 1, 1) := by decide +kernel
theorem dX5_state_18 : decode cX5_state 18 = .ok (.bipush 13, 2) := by decide +kernel
theorem dX5_state_20 : decode cX5_state 20 = .ok (.bipush 20, 2) := by decide +kernel
theorem dX5_state_22 : decode cX5_state 22 = .ok (.invokestatic 33, 3) := by decide +kernel
theorem dX5_state_25 : decode cX5_state 25 = .ok (.ifCond .eq 13, 3) := by decide +kernel
theorem dX5_state_28 : decode cX5_state 28 = .ok (.aload_n 0, 1) := by decide +kernel
theorem dX5_state_29 : decode cX5_state 29 = .ok (.getfield 7, 3) := by decide +kernel
theorem dX5_state_32 : decode cX5_state 32 = .ok (.iload_n 1, 1) := by decide +kernel
theorem dX5_state_33 : decode cX5_state 33 = .ok (.bipush 13, 2) := by decide +kernel
theorem dX5_state_35 : decode cX5_state 35 = .ok (.isub, 1) := by decide +kernel
theorem dX5_state_36 : decode cX5_state 36 = .ok (.iaload, 1) := by decide +kernel
theorem dX5_state_37 : decode cX5_state 37 = .ok (.ireturn, 1) := by decide +kernel
theorem dX5_state_38 : decode cX5_state 38 = .ok (.iload_n 1, 1) := by decide +kernel
theorem dX5_state_39 : decode cX5_state 39 = .ok (.tableswitch 151 0 12 #[65, 65, 65, 65, 75, 97, 97, 97, 97, 117, 125, 133, 146], 65) := by decide +kernel
theorem dX5_state_104 : decode cX5_state 104 = .ok (.aload_n 0, 1) := by decide +kernel
theorem dX5_state_105 : decode cX5_state 105 = .ok (.getfield 7, 3) := by decide +kernel
theorem dX5_state_108 : decode cX5_state 108 = .ok (.bipush 8, 2) := by decide +kernel
theorem dX5_state_110 : decode cX5_state 110 = .ok (.iload_n 1, 1) := by decide +kernel
theorem dX5_state_111 : decode cX5_state 111 = .ok (.iadd, 1) := by decide +kernel
theorem dX5_state_112 : decode cX5_state 112 = .ok (.iaload, 1) := by decide +kernel
theorem dX5_state_113 : decode cX5_state 113 = .ok (.ireturn, 1) := by decide +kernel
theorem dX5_state_114 : decode cX5_state 114 = .ok (.aload_n 0, 1) := by decide +kernel
theorem dX5_state_115 : decode cX5_state 115 = .ok (.getfield 7, 3) := by decide +kernel
theorem dX5_state_118 : decode cX5_state 118 = .ok (.bipush 9, 2) := by decide +kernel
theorem dX5_state_120 : decode cX5_state 120 = .ok (.iaload, 1) := by decide +kernel
theorem dX5_state_121 : decode cX5_state 121 = .ok (.ifCond .ne 13, 3) := by decide +kernel
theorem dX5_state_124 : decode cX5_state 124 = .ok (.aload_n 0, 1) := by decide +kernel
theorem dX5_state_125 : decode cX5_state 125 = .ok (.getfield 7, 3) := by decide +kernel
theorem dX5_state_128 : decode cX5_state 128 = .ok (.bipush 12, 2) := by decide +kernel
theorem dX5_state_130 : decode cX5_state 130 = .ok (.iaload, 1) := by decide +kernel
theorem dX5_state_131 : decode cX5_state 131 = .ok (.goto 4, 3) := by decide +kernel
theorem dX5_state_134 : decode cX5_state 134 = .ok (.iconst 0, 1) := by decide +kernel
theorem dX5_state_135 : decode cX5_state 135 = .ok (.ireturn, 1) := by decide +kernel
theorem dX5_state_136 : decode cX5_state 136 = .ok (.iload_n 2, 1) := by decide +kernel
theorem dX5_state_137 : decode cX5_state 137 = .ok (.ifCond .eq 17, 3) := by decide +kernel
theorem dX5_state_140 : decode cX5_state 140 = .ok (.aload_n 0, 1) := by decide +kernel
theorem dX5_state_141 : decode cX5_state 141 = .ok (.getfield 7, 3) := by decide +kernel
theorem dX5_state_144 : decode cX5_state 144 = .ok (.bipush 13, 2) := by decide +kernel
theorem dX5_state_146 : decode cX5_state 146 = .ok (.iload_n 1, 1) := by decide +kernel
theorem dX5_state_147 : decode cX5_state 147 = .ok (.iadd, 1) := by decide +kernel
theorem dX5_state_148 : decode cX5_state 148 = .ok (.iconst 5, 1) := by decide +kernel
theorem dX5_state_149 : decode cX5_state 149 = .ok (.isub, 1) := by decide +kernel
theorem dX5_state_150 : decode cX5_state 150 = .ok (.iaload, 1) := by decide +kernel
theorem dX5_state_151 : decode cX5_state 151 = .ok (.goto 4, 3) := by decide +kernel
theorem dX5_state_154 : decode cX5_state 154 = .ok (.iconst 0, 1) := by decide +kernel
theorem dX5_state_155 : decode cX5_state 155 = .ok (.ireturn, 1) := by decide +kernel
theorem dX5_state_156 : decode cX5_state 156 = .ok (.aload_n 0, 1) := by decide +kernel
theorem dX5_state_157 : decode cX5_state 157 = .ok (.getfield 7, 3) := by decide +kernel
theorem dX5_state_160 : decode cX5_state 160 = .ok (.bipush 18, 2) := by decide +kernel
theorem dX5_state_162 : decode cX5_state 162 = .ok (.iaload, 1) := by decide +kernel
theorem dX5_state_163 : decode cX5_state 163 = .ok (.ireturn, 1) := by decide +kernel
theorem dX5_state_164 : decode cX5_state 164 = .ok (.aload_n 0, 1) := by decide +kernel
theorem dX5_state_165 : decode cX5_state 165 = .ok (.getfield 7, 3) := by decide +kernel
theorem dX5_state_168 : decode cX5_state 168 = .ok (.bipush 17, 2) := by decide +kernel
theorem dX5_state_170 : decode cX5_state 170 = .ok (.iaload, 1) := by decide +kernel
theorem dX5_state_171 : decode cX5_state 171 = .ok (.ireturn, 1) := by decide +kernel
theorem dX5_state_172 : decode cX5_state 172 = .ok (.iload_n 2, 1) := by decide +kernel
theorem dX5_state_173 : decode cX5_state 173 = .ok (.ifCond .eq 10, 3) := by decide +kernel
theorem dX5_state_176 : decode cX5_state 176 = .ok (.aload_n 0, 1) := by decide +kernel
theorem dX5_state_177 : decode cX5_state 177 = .ok (.invokevirtual 141, 3) := by decide +kernel
theorem dX5_state_180 : decode cX5_state 180 = .ok (.goto 4, 3) := by decide +kernel
theorem dX5_state_183 : decode cX5_state 183 = .ok (.iconst 0, 1) := by decide +kernel
theorem dX5_state_184 : decode cX5_state 184 = .ok (.ireturn, 1) := by decide +kernel
theorem dX5_state_185 : decode cX5_state 185 = .ok (.aload_n 0, 1) := by decide +kernel
theorem dX5_state_186 : decode cX5_state 186 = .ok (.getfield 61, 3) := by decide +kernel
theorem dX5_state_189 : decode cX5_state 189 = .ok (.ireturn, 1) := by decide +kernel
theorem dX5_state_190 : decode cX5_state 190 = .ok (.bipush (-2), 2) := by decide +kernel
theorem dX5_state_192 : decode cX5_state 192 = .ok (.ireturn, 1) := by decide +kernel
theorem dX5_ofJob_0 : decode cX5_ofJob 0 = .ok (.iload_n 2, 1) := by decide +kernel
theorem dX5_ofJob_1 : decode cX5_ofJob 1 = .ok (.tableswitch 100 8 12 #[35, 43, 76, 84, 92], 35) := by decide +kernel
theorem dX5_ofJob_36 : decode cX5_ofJob 36 = .ok (.aload_n 0, 1) := by decide +kernel
theorem dX5_ofJob_37 : decode cX5_ofJob 37 = .ok (.iload_n 1, 1) := by decide +kernel
theorem dX5_ofJob_38 : decode cX5_ofJob 38 = .ok (.bipush 8, 2) := by decide +kernel
theorem dX5_ofJob_40 : decode cX5_ofJob 40 = .ok (.invokevirtual 52, 3) := by decide +kernel
theorem dX5_ofJob_43 : decode cX5_ofJob 43 = .ok (.ireturn, 1) := by decide +kernel
theorem dX5_ofJob_44 : decode cX5_ofJob 44 = .ok (.aload_n 0, 1) := by decide +kernel
theorem dX5_ofJob_45 : decode cX5_ofJob 45 = .ok (.iload_n 1, 1) := by decide +kernel
theorem dX5_ofJob_46 : decode cX5_ofJob 46 = .ok (.bipush 8, 2) := by decide +kernel
theorem dX5_ofJob_48 : decode cX5_ofJob 48 = .ok (.invokevirtual 52, 3) := by decide +kernel
theorem dX5_ofJob_51 : decode cX5_ofJob 51 = .ok (.iconst 1, 1) := by decide +kernel
theorem dX5_ofJob_52 : decode cX5_ofJob 52 = .ok (.if_icmp .ne 23, 3) := by decide +kernel
theorem dX5_ofJob_55 : decode cX5_ofJob 55 = .ok (.aload_n 0, 1) := by decide +kernel
theorem dX5_ofJob_56 : decode cX5_ofJob 56 = .ok (.iload_n 1, 1) := by decide +kernel
theorem dX5_ofJob_57 : decode cX5_ofJob 57 = .ok (.bipush 11, 2) := by decide +kernel
theorem dX5_ofJob_59 : decode cX5_ofJob 59 = .ok (.invokevirtual 52, 3) := by decide +kernel
theorem dX5_ofJob_62 : decode cX5_ofJob 62 = .ok (.ifCond .ne 13, 3) := by decide +kernel
theorem dX5_ofJob_65 : decode cX5_ofJob 65 = .ok (.aload_n 0, 1) := by decide +kernel
theorem dX5_ofJob_66 : decode cX5_ofJob 66 = .ok (.iload_n 1, 1) := by decide +kernel
theorem dX5_ofJob_67 : decode cX5_ofJob 67 = .ok (.bipush 9, 2) := by decide +kernel
theorem dX5_ofJob_69 : decode cX5_ofJob 69 = .ok (.invokevirtual 52, 3) := by decide +kernel
theorem dX5_ofJob_72 : decode cX5_ofJob 72 = .ok (.goto 4, 3) := by decide +kernel
theorem dX5_ofJob_75 : decode cX5_ofJob 75 = .ok (.iconst 0, 1) := by decide +kernel
theorem dX5_ofJob_76 : decode cX5_ofJob 76 = .ok (.ireturn, 1) := by decide +kernel
theorem dX5_ofJob_77 : decode cX5_ofJob 77 = .ok (.aload_n 0, 1) := by decide +kernel
theorem dX5_ofJob_78 : decode cX5_ofJob 78 = .ok (.iload_n 1, 1) := by decide +kernel
theorem dX5_ofJob_79 : decode cX5_ofJob 79 = .ok (.bipush 12, 2) := by decide +kernel
theorem dX5_ofJob_81 : decode cX5_ofJob 81 = .ok (.invokevirtual 52, 3) := by decide +kernel
theorem dX5_ofJob_84 : decode cX5_ofJob 84 = .ok (.ireturn, 1) := by decide +kernel
theorem dX5_ofJob_85 : decode cX5_ofJob 85 = .ok (.aload_n 0, 1) := by decide +kernel
theorem dX5_ofJob_86 : decode cX5_ofJob 86 = .ok (.iload_n 1, 1) := by decide +kernel
theorem dX5_ofJob_87 : decode cX5_ofJob 87 = .ok (.bipush 13, 2) := by decide +kernel
theorem dX5_ofJob_89 : decode cX5_ofJob 89 = .ok (.invokevirtual 52, 3) := by decide +kernel
theorem dX5_ofJob_92 : decode cX5_ofJob 92 = .ok (.ireturn, 1) := by decide +kernel
theorem dX5_ofJob_93 : decode cX5_ofJob 93 = .ok (.aload_n 0, 1) := by decide +kernel
theorem dX5_ofJob_94 : decode cX5_ofJob 94 = .ok (.iload_n 1, 1) := by decide +kernel
theorem dX5_ofJob_95 : decode cX5_ofJob 95 = .ok (.bipush 14, 2) := by decide +kernel
theorem dX5_ofJob_97 : decode cX5_ofJob 97 = .ok (.invokevirtual 52, 3) := by decide +kernel
theorem dX5_ofJob_100 : decode cX5_ofJob 100 = .ok (.ireturn, 1) := by decide +kernel
theorem dX5_ofJob_101 : decode cX5_ofJob 101 = .ok (.aload_n 0, 1) := by decide +kernel
theorem dX5_ofJob_102 : decode cX5_ofJob 102 = .ok (.iload_n 1, 1) := by decide +kernel
theorem dX5_ofJob_103 : decode cX5_ofJob 103 = .ok (.bipush 15, 2) := by decide +kernel
theorem dX5_ofJob_105 : decode cX5_ofJob 105 = .ok (.invokevirtual 52, 3) := by decide +kernel
theorem dX5_ofJob_108 : decode cX5_ofJob 108 = .ok (.ireturn, 1) := by decide +kernel
theorem dX5_task_0 : decode cX5_task 0 = .ok (.aload_n 0, 1) := by decide +kernel
theorem dX5_task_1 : decode cX5_task 1 = .ok (.iload_n 1, 1) := by decide +kernel
theorem dX5_task_2 : decode cX5_task 2 = .ok (.invokevirtual 45, 3) := by decide +kernel
theorem dX5_task_5 : decode cX5_task 5 = .ok (.ifCond .ne 5, 3) := by decide +kernel
theorem dX5_task_8 : decode cX5_task 8 = .ok (.iconst (-1), 1) := by decide +kernel
theorem dX5_task_9 : decode cX5_task 9 = .ok (.ireturn, 1) := by decide +kernel
theorem dX5_task_10 : decode cX5_task 10 = .ok (.iload_n 2, 1) := by decide +kernel
theorem dX5_task_11 : decode cX5_task 11 = .ok (.iconst 0, 1) := by decide +kernel
theorem dX5_task_12 : decode cX5_task 12 = .ok (.bipush 7, 2) := by decide +kernel
theorem dX5_task_14 : decode cX5_task 14 = .ok (.invokestatic 33, 3) := by decide +kernel
theorem dX5_task_17 : decode cX5_task 17 = .ok (.ifCond .eq 10, 3) := by decide +kernel
theorem dX5_task_20 : decode cX5_task 20 = .ok (.aload_n 0, 1) := by decide +kernel
theorem dX5_task_21 : decode cX5_task 21 = .ok (.iload_n 1, 1) := by decide +kernel
theorem dX5_task_22 : decode cX5_task 22 = .ok (.iload_n 2, 1) := by decide +kernel
theorem dX5_task_23 : decode cX5_task 23 = .ok (.invokevirtual 52, 3) := by decide +kernel
theorem dX5_task_26 : decode cX5_task 26 = .ok (.ireturn, 1) := by decide +kernel
theorem dX5_task_27 : decode cX5_task 27 = .ok (.iload_n 2, 1) := by decide +kernel
theorem dX5_task_28 : decode cX5_task 28 = .ok (.bipush 8, 2) := by decide +kernel
theorem dX5_task_30 : decode cX5_task 30 = .ok (.bipush 13, 2) := by decide +kernel
theorem dX5_task_32 : decode cX5_task 32 = .ok (.invokestatic 33, 3) := by decide +kernel
theorem dX5_task_35 : decode cX5_task 35 = .ok (.ifCond .eq 25, 3) := by decide +kernel
theorem dX5_task_38 : decode cX5_task 38 = .ok (.aload_n 0, 1) := by decide +kernel
theorem dX5_task_39 : decode cX5_task 39 = .ok (.getfield 7, 3) := by decide +kernel
theorem dX5_task_42 : decode cX5_task 42 = .ok (.bipush 9, 2) := by decide +kernel
theorem dX5_task_44 : decode cX5_task 44 = .ok (.iaload, 1) := by decide +kernel
theorem dX5_task_45 : decode cX5_task 45 = .ok (.iconst 1, 1) := by decide +kernel
theorem dX5_task_46 : decode cX5_task 46 = .ok (.if_icmp .ne 12, 3) := by decide +kernel
theorem dX5_task_49 : decode cX5_task 49 = .ok (.aload_n 0, 1) := by decide +kernel
theorem dX5_task_50 : decode cX5_task 50 = .ok (.iload_n 1, 1) := by decide +kernel
theorem dX5_task_51 : decode cX5_task 51 = .ok (.iload_n 2, 1) := by decide +kernel
theorem dX5_task_52 : decode cX5_task 52 = .ok (.invokevirtual 144, 3) := by decide +kernel
theorem dX5_task_55 : decode cX5_task 55 = .ok (.goto 4, 3) := by decide +kernel
theorem dX5_task_58 : decode cX5_task 58 = .ok (.iconst 0, 1) := by decide +kernel
theorem dX5_task_59 : decode cX5_task 59 = .ok (.ireturn, 1) := by decide +kernel
theorem dX5_task_60 : decode cX5_task 60 = .ok (.iload_n 2, 1) := by decide +kernel
theorem dX5_task_61 : decode cX5_task 61 = .ok (.tableswitch 91 14 18 #[35, 43, 51, 59, 83], 35) := by decide +kernel
theorem dX5_task_96 : decode cX5_task 96 = .ok (.aload_n 0, 1) := by decide +kernel
theorem dX5_task_97 : decode cX5_task 97 = .ok (.iload_n 1, 1) := by decide +kernel
theorem dX5_task_98 : decode cX5_task 98 = .ok (.bipush 20, 2) := by decide +kernel
theorem dX5_task_100 : decode cX5_task 100 = .ok (.invokevirtual 52, 3) := by decide +kernel
theorem dX5_task_103 : decode cX5_task 103 = .ok (.ireturn, 1) := by decide +kernel
theorem dX5_task_104 : decode cX5_task 104 = .ok (.aload_n 0, 1) := by decide +kernel
theorem dX5_task_105 : decode cX5_task 105 = .ok (.iload_n 1, 1) := by decide +kernel
theorem dX5_task_106 : decode cX5_task 106 = .ok (.bipush 23, 2) := by decide +kernel
theorem dX5_task_108 : decode cX5_task 108 = .ok (.invokevirtual 52, 3) := by decide +kernel
theorem dX5_task_111 : decode cX5_task 111 = .ok (.ireturn, 1) := by decide +kernel
theorem dX5_task_112 : decode cX5_task 112 = .ok (.aload_n 0, 1) := by decide +kernel
theorem dX5_task_113 : decode cX5_task 113 = .ok (.iload_n 1, 1) := by decide +kernel
theorem dX5_task_114 : decode cX5_task 114 = .ok (.bipush 16, 2) := by decide +kernel
theorem dX5_task_116 : decode cX5_task 116 = .ok (.invokevirtual 52, 3) := by decide +kernel
theorem dX5_task_119 : decode cX5_task 119 = .ok (.ireturn, 1) := by decide +kernel
theorem dX5_task_120 : decode cX5_task 120 = .ok (.aload_n 0, 1) := by decide +kernel
theorem dX5_task_121 : decode cX5_task 121 = .ok (.iload_n 1, 1) := by decide +kernel
theorem dX5_task_122 : decode cX5_task 122 = .ok (.bipush 17, 2) := by decide +kernel
theorem dX5_task_124 : decode cX5_task 124 = .ok (.invokevirtual 52, 3) := by decide +kernel
theorem dX5_task_127 : decode cX5_task 127 = .ok (.iconst 1, 1) := by decide +kernel
theorem dX5_task_128 : decode cX5_task 128 = .ok (.if_icmp .ne 13, 3) := by decide +kernel
theorem dX5_task_131 : decode cX5_task 131 = .ok (.aload_n 0, 1) := by decide +kernel
theorem dX5_task_132 : decode cX5_task 132 = .ok (.iload_n 1, 1) := by decide +kernel
theorem dX5_task_133 : decode cX5_task 133 = .ok (.bipush 18, 2) := by decide +kernel
theorem dX5_task_135 : decode cX5_task 135 = .ok (.invokevirtual 52, 3) := by decide +kernel
theorem dX5_task_138 : decode cX5_task 138 = .ok (.goto 5, 3) := by decide +kernel
theorem dX5_task_141 : decode cX5_task 141 = .ok (.bipush (-6), 2) := by decide +kernel
theorem dX5_task_143 : decode cX5_task 143 = .ok (.ireturn, 1) := by decide +kernel
theorem dX5_task_144 : decode cX5_task 144 = .ok (.aload_n 0, 1) := by decide +kernel
theorem dX5_task_145 : decode cX5_task 145 = .ok (.iload_n 1, 1) := by decide +kernel
theorem dX5_task_146 : decode cX5_task 146 = .ok (.bipush 19, 2) := by decide +kernel
theorem dX5_task_148 : decode cX5_task 148 = .ok (.invokevirtual 52, 3) := by decide +kernel
theorem dX5_task_151 : decode cX5_task 151 = .ok (.ireturn, 1) := by decide +kernel
theorem dX5_task_152 : decode cX5_task 152 = .ok (.bipush (-2), 2) := by decide +kernel
theorem dX5_task_154 : decode cX5_task 154 = .ok (.ireturn, 1) := by decide +kernel
theorem dX5_record_0 : decode cX5_record 0 = .ok (.iload_n 2, 1) := by decide +kernel
theorem dX5_record_1 : decode cX5_record 1 = .ok (.iconst 0, 1) := by decide +kernel
theorem dX5_record_2 : decode cX5_record 2 = .ok (.iconst 4, 1) := by decide +kernel
theorem dX5_record_3 : decode cX5_record 3 = .ok (.invokestatic 33, 3) := by decide +kernel
theorem dX5_record_6 : decode cX5_record 6 = .ok (.ifCond .ne 6, 3) := by decide +kernel
theorem dX5_record_9 : decode cX5_record 9 = .ok (.bipush (-2), 2) := by decide +kernel
theorem dX5_record_11 : decode cX5_record 11 = .ok (.ireturn, 1) := by decide +kernel
theorem dX5_record_12 : decode cX5_record 12 = .ok (.iload_n 1, 1) := by decide +kernel
theorem dX5_record_13 : decode cX5_record 13 = .ok (.iconst 0, 1) := by decide +kernel
theorem dX5_record_14 : decode cX5_record 14 = .ok (.aload_n 0, 1) := by decide +kernel
theorem dX5_record_15 : decode cX5_record 15 = .ok (.getfield 7, 3) := by decide +kernel
theorem dX5_record_18 : decode cX5_record 18 = .ok (.bipush 18, 2) := by decide +kernel
theorem dX5_record_20 : decode cX5_record 20 = .ok (.iaload, 1) := by decide +kernel
theorem dX5_record_21 : decode cX5_record 21 = .ok (.iconst 1, 1) := by decide +kernel
theorem dX5_record_22 : decode cX5_record 22 = .ok (.isub, 1) := by decide +kernel
theorem dX5_record_23 : decode cX5_record 23 = .ok (.invokestatic 33, 3) := by decide +kernel
theorem dX5_record_26 : decode cX5_record 26 = .ok (.ifCond .eq 17, 3) := by decide +kernel
theorem dX5_record_29 : decode cX5_record 29 = .ok (.iload_n 1, 1) := by decide +kernel
theorem dX5_record_30 : decode cX5_record 30 = .ok (.aload_n 0, 1) := by decide +kernel
theorem dX5_record_31 : decode cX5_record 31 = .ok (.getfield 7, 3) := by decide +kernel
theorem dX5_record_34 : decode cX5_record 34 = .ok (.bipush 18, 2) := by decide +kernel
theorem dX5_record_36 : decode cX5_record 36 = .ok (.iaload, 1) := by decide +kernel
theorem dX5_record_37 : decode cX5_record 37 = .ok (.bipush 16, 2) := by decide +kernel
theorem dX5_record_39 : decode cX5_record 39 = .ok (.isub, 1) := by decide +kernel
theorem dX5_record_40 : decode cX5_record 40 = .ok (.if_icmp .ge 6, 3) := by decide +kernel
theorem dX5_record_43 : decode cX5_record 43 = .ok (.bipush (-6), 2) := by decide +kernel
theorem dX5_record_45 : decode cX5_record 45 = .ok (.ireturn, 1) := by decide +kernel
theorem dX5_record_46 : decode cX5_record 46 = .ok (.aload_n 0, 1) := by decide +kernel
theorem dX5_record_47 : decode cX5_record 47 = .ok (.getfield 7, 3) := by decide +kernel
theorem dX5_record_50 : decode cX5_record 50 = .ok (.sipush 175, 3) := by decide +kernel
theorem dX5_record_53 : decode cX5_record 53 = .ok (.iconst 5, 1) := by decide +kernel
theorem dX5_record_54 : decode cX5_record 54 = .ok (.iload_n 1, 1) := by decide +kernel
theorem dX5_record_55 : decode cX5_record 55 = .ok (.bipush 16, 2) := by decide +kernel
theorem dX5_record_57 : decode cX5_record 57 = .ok (.irem, 1) := by decide +kernel
theorem dX5_record_58 : decode cX5_record 58 = .ok (.imul, 1) := by decide +kernel
theorem dX5_record_59 : decode cX5_record 59 = .ok (.iadd, 1) := by decide +kernel
theorem dX5_record_60 : decode cX5_record 60 = .ok (.iload_n 2, 1) := by decide +kernel
theorem dX5_record_61 : decode cX5_record 61 = .ok (.iadd, 1) := by decide +kernel
theorem dX5_record_62 : decode cX5_record 62 = .ok (.iaload, 1) := by decide +kernel
theorem dX5_record_63 : decode cX5_record 63 = .ok (.ireturn, 1) := by decide +kernel
theorem dX5_clear_0 : decode cX5_clear 0 = .ok (.aload_n 0, 1) := by decide +kernel
theorem dX5_clear_1 : decode cX5_clear 1 = .ok (.iload_n 1, 1) := by decide +kernel
theorem dX5_clear_2 : decode cX5_clear 2 = .ok (.invokevirtual 45, 3) := by decide +kernel
theorem dX5_clear_5 : decode cX5_clear 5 = .ok (.ifCond .ne 5, 3) := by decide +kernel
theorem dX5_clear_8 : decode cX5_clear 8 = .ok (.iconst (-1), 1) := by decide +kernel
theorem dX5_clear_9 : decode cX5_clear 9 = .ok (.ireturn, 1) := by decide +kernel
theorem dX5_clear_10 : decode cX5_clear 10 = .ok (.aload_n 0, 1) := by decide +kernel
theorem dX5_clear_11 : decode cX5_clear 11 = .ok (.iload_n 1, 1) := by decide +kernel
theorem dX5_clear_12 : decode cX5_clear 12 = .ok (.bipush 16, 2) := by decide +kernel
theorem dX5_clear_14 : decode cX5_clear 14 = .ok (.invokevirtual 52, 3) := by decide +kernel
theorem dX5_clear_17 : decode cX5_clear 17 = .ok (.istore_n 2, 1) := by decide +kernel
theorem dX5_clear_18 : decode cX5_clear 18 = .ok (.aload_n 0, 1) := by decide +kernel
theorem dX5_clear_19 : decode cX5_clear 19 = .ok (.iload_n 1, 1) := by decide +kernel
theorem dX5_clear_20 : decode cX5_clear 20 = .ok (.bipush 16, 2) := by decide +kernel
theorem dX5_clear_22 : decode cX5_clear 22 = .ok (.iconst 0, 1) := by decide +kernel
theorem dX5_clear_23 : decode cX5_clear 23 = .ok (.invokevirtual 41, 3) := by decide +kernel
theorem dX5_clear_26 : decode cX5_clear 26 = .ok (.aload_n 0, 1) := by decide +kernel
theorem dX5_clear_27 : decode cX5_clear 27 = .ok (.iload_n 1, 1) := by decide +kernel
theorem dX5_clear_28 : decode cX5_clear 28 = .ok (.bipush 17, 2) := by decide +kernel
theorem dX5_clear_30 : decode cX5_clear 30 = .ok (.iconst 0, 1) := by decide +kernel
theorem dX5_clear_31 : decode cX5_clear 31 = .ok (.invokevirtual 41, 3) := by decide +kernel
theorem dX5_clear_34 : decode cX5_clear 34 = .ok (.aload_n 0, 1) := by decide +kernel
theorem dX5_clear_35 : decode cX5_clear 35 = .ok (.iload_n 1, 1) := by decide +kernel
theorem dX5_clear_36 : decode cX5_clear 36 = .ok (.bipush 19, 2) := by decide +kernel
theorem dX5_clear_38 : decode cX5_clear 38 = .ok (.iconst 0, 1) := by decide +kernel
theorem dX5_clear_39 : decode cX5_clear 39 = .ok (.invokevirtual 41, 3) := by decide +kernel
theorem dX5_clear_42 : decode cX5_clear 42 = .ok (.iload_n 2, 1) := by decide +kernel
theorem dX5_clear_43 : decode cX5_clear 43 = .ok (.ireturn, 1) := by decide +kernel
theorem dX5_forecast_0 : decode cX5_forecast 0 = .ok (.iload_n 1, 1) := by decide +kernel
theorem dX5_forecast_1 : decode cX5_forecast 1 = .ok (.iconst 1, 1) := by decide +kernel
theorem dX5_forecast_2 : decode cX5_forecast 2 = .ok (.sipush 5000, 3) := by decide +kernel
theorem dX5_forecast_5 : decode cX5_forecast 5 = .ok (.invokestatic 33, 3) := by decide +kernel
theorem dX5_forecast_8 : decode cX5_forecast 8 = .ok (.ifCond .ne 6, 3) := by decide +kernel
theorem dX5_forecast_11 : decode cX5_forecast 11 = .ok (.bipush (-2), 2) := by decide +kernel
theorem dX5_forecast_13 : decode cX5_forecast 13 = .ok (.ireturn, 1) := by decide +kernel
theorem dX5_forecast_14 : decode cX5_forecast 14 = .ok (.aload_n 0, 1) := by decide +kernel
theorem dX5_forecast_15 : decode cX5_forecast 15 = .ok (.invokevirtual 147, 3) := by decide +kernel
theorem dX5_forecast_18 : decode cX5_forecast 18 = .ok (.aload_n 0, 1) := by decide +kernel
theorem dX5_forecast_19 : decode cX5_forecast 19 = .ok (.iload_n 1, 1) := by decide +kernel
theorem dX5_forecast_20 : decode cX5_forecast 20 = .ok (.invokevirtual 135, 3) := by decide +kernel
theorem dX5_forecast_23 : decode cX5_forecast 23 = .ok (.istore_n 2, 1) := by decide +kernel
theorem dX5_forecast_24 : decode cX5_forecast 24 = .ok (.aload_n 0, 1) := by decide +kernel
theorem dX5_forecast_25 : decode cX5_forecast 25 = .ok (.invokevirtual 150, 3) := by decide +kernel
theorem dX5_forecast_28 : decode cX5_forecast 28 = .ok (.iload_n 2, 1) := by decide +kernel
theorem dX5_forecast_29 : decode cX5_forecast 29 = .ok (.ireturn, 1) := by decide +kernel
theorem dX5_clearFaults_0 : decode cX5_clearFaults 0 = .ok (.iconst 0, 1) := by decide +kernel
theorem dX5_clearFaults_1 : decode cX5_clearFaults 1 = .ok (.istore_n 1, 1) := by decide +kernel
theorem dX5_clearFaults_2 : decode cX5_clearFaults 2 = .ok (.iload_n 1, 1) := by decide +kernel
theorem dX5_clearFaults_3 : decode cX5_clearFaults 3 = .ok (.aload_n 0, 1) := by decide +kernel
theorem dX5_clearFaults_4 : decode cX5_clearFaults 4 = .ok (.getfield 7, 3) := by decide +kernel
theorem dX5_clearFaults_7 : decode cX5_clearFaults 7 = .ok (.bipush 17, 2) := by decide +kernel
theorem dX5_clearFaults_9 : decode cX5_clearFaults 9 = .ok (.iaload, 1) := by decide +kernel
theorem dX5_clearFaults_10 : decode cX5_clearFaults 10 = .ok (.if_icmp .ge 27, 3) := by decide +kernel
theorem dX5_clearFaults_13 : decode cX5_clearFaults 13 = .ok (.aload_n 0, 1) := by decide +kernel
theorem dX5_clearFaults_14 : decode cX5_clearFaults 14 = .ok (.iconst 0, 1) := by decide +kernel
theorem dX5_clearFaults_15 : decode cX5_clearFaults 15 = .ok (.iload_n 1, 1) := by decide +kernel
theorem dX5_clearFaults_16 : decode cX5_clearFaults 16 = .ok (.iconst 0, 1) := by decide +kernel
theorem dX5_clearFaults_17 : decode cX5_clearFaults 17 = .ok (.iconst 0, 1) := by decide +kernel
theorem dX5_clearFaults_18 : decode cX5_clearFaults 18 = .ok (.iconst 0, 1) := by decide +kernel
theorem dX5_clearFaults_19 : decode cX5_clearFaults 19 = .ok (.invokevirtual 55, 3) := by decide +kernel
theorem dX5_clearFaults_22 : decode cX5_clearFaults 22 = .ok (.aload_n 0, 1) := by decide +kernel
theorem dX5_clearFaults_23 : decode cX5_clearFaults 23 = .ok (.iconst 1, 1) := by decide +kernel
theorem dX5_clearFaults_24 : decode cX5_clearFaults 24 = .ok (.iload_n 1, 1) := by decide +kernel
theorem dX5_clearFaults_25 : decode cX5_clearFaults 25 = .ok (.iconst 0, 1) := by decide +kernel
theorem dX5_clearFaults_26 : decode cX5_clearFaults 26 = .ok (.iconst 0, 1) := by decide +kernel
theorem dX5_clearFaults_27 : decode cX5_clearFaults 27 = .ok (.iconst 0, 1) := by decide +kernel
theorem dX5_clearFaults_28 : decode cX5_clearFaults 28 = .ok (.invokevirtual 55, 3) := by decide +kernel
theorem dX5_clearFaults_31 : decode cX5_clearFaults 31 = .ok (.iinc 1 1, 3) := by decide +kernel
theorem dX5_clearFaults_34 : decode cX5_clearFaults 34 = .ok (.goto (-32), 3) := by decide +kernel
theorem dX5_clearFaults_37 : decode cX5_clearFaults 37 = .ok (.return_, 1) := by decide +kernel
theorem dX5_worstHang_0 : decode cX5_worstHang 0 = .ok (.aload_n 0, 1) := by decide +kernel
theorem dX5_worstHang_1 : decode cX5_worstHang 1 = .ok (.iload_n 1, 1) := by decide +kernel
theorem dX5_worstHang_2 : decode cX5_worstHang 2 = .ok (.invokevirtual 45, 3) := by decide +kernel
theorem dX5_worstHang_5 : decode cX5_worstHang 5 = .ok (.ifCond .ne 5, 3) := by decide +kernel
theorem dX5_worstHang_8 : decode cX5_worstHang 8 = .ok (.iconst (-1), 1) := by decide +kernel
theorem dX5_worstHang_9 : decode cX5_worstHang 9 = .ok (.ireturn, 1) := by decide +kernel
theorem dX5_worstHang_10 : decode cX5_worstHang 10 = .ok (.iload_n 2, 1) := by decide +kernel
theorem dX5_worstHang_11 : decode cX5_worstHang 11 = .ok (.iconst 1, 1) := by decide +kernel
theorem dX5_worstHang_12 : decode cX5_worstHang 12 = .ok (.sipush 4000, 3) := by decide +kernel
theorem dX5_worstHang_15 : decode cX5_worstHang 15 = .ok (.invokestatic 33, 3) := by decide +kernel
theorem dX5_worstHang_18 : decode cX5_worstHang 18 = .ok (.ifCond .eq 25, 3) := by decide +kernel
theorem dX5_worstHang_21 : decode cX5_worstHang 21 = .ok (.iload_n 3, 1) := by decide +kernel
theorem dX5_worstHang_22 : decode cX5_worstHang 22 = .ok (.iconst 1, 1) := by decide +kernel
theorem dX5_worstHang_23 : decode cX5_worstHang 23 = .ok (.bipush 60, 2) := by decide +kernel
theorem dX5_worstHang_25 : decode cX5_worstHang 25 = .ok (.invokestatic 33, 3) := by decide +kernel
theorem dX5_worstHang_28 : decode cX5_worstHang 28 = .ok (.ifCond .eq 15, 3) := by decide +kernel
theorem dX5_worstHang_31 : decode cX5_worstHang 31 = .ok (.iload 4, 2) := by decide +kernel
theorem dX5_worstHang_33 : decode cX5_worstHang 33 = .ok (.iconst 1, 1) := by decide +kernel
theorem dX5_worstHang_34 : decode cX5_worstHang 34 = .ok (.sipush 5000, 3) := by decide +kernel
theorem dX5_worstHang_37 : decode cX5_worstHang 37 = .ok (.invokestatic 33, 3) := by decide +kernel
theorem dX5_worstHang_40 : decode cX5_worstHang 40 = .ok (.ifCond .ne 6, 3) := by decide +kernel
theorem dX5_worstHang_43 : decode cX5_worstHang 43 = .ok (.bipush (-2), 2) := by decide +kernel
theorem dX5_worstHang_45 : decode cX5_worstHang 45 = .ok (.ireturn, 1) := by decide +kernel
theorem dX5_worstHang_46 : decode cX5_worstHang 46 = .ok (.aload_n 0, 1) := by decide +kernel
theorem dX5_worstHang_47 : decode cX5_worstHang 47 = .ok (.invokevirtual 147, 3) := by decide +kernel
theorem dX5_worstHang_50 : decode cX5_worstHang 50 = .ok (.ldc 153, 2) := by decide +kernel
theorem dX5_worstHang_52 : decode cX5_worstHang 52 = .ok (.istore 5, 2) := by decide +kernel
theorem dX5_worstHang_54 : decode cX5_worstHang 54 = .ok (.iconst 1, 1) := by decide +kernel
theorem dX5_worstHang_55 : decode cX5_worstHang 55 = .ok (.istore 6, 2) := by decide +kernel
theorem dX5_worstHang_57 : decode cX5_worstHang 57 = .ok (.iload_n 2, 1) := by decide +kernel
theorem dX5_worstHang_58 : decode cX5_worstHang 58 = .ok (.istore 7, 2) := by decide +kernel
theorem dX5_worstHang_60 : decode cX5_worstHang 60 = .ok (.iload 7, 2) := by decide +kernel
theorem dX5_worstHang_62 : decode cX5_worstHang 62 = .ok (.iload_n 2, 1) := by decide +kernel
theorem dX5_worstHang_63 : decode cX5_worstHang 63 = .ok (.iload_n 3, 1) := by decide +kernel
theorem dX5_worstHang_64 : decode cX5_worstHang 64 = .ok (.iadd, 1) := by decide +kernel
theorem dX5_worstHang_65 : decode cX5_worstHang 65 = .ok (.if_icmp .ge 107, 3) := by decide +kernel
theorem dX5_worstHang_68 : decode cX5_worstHang 68 = .ok (.iload 6, 2) := by decide +kernel
theorem dX5_worstHang_70 : decode cX5_worstHang 70 = .ok (.ifCond .eq 102, 3) := by decide +kernel
theorem dX5_worstHang_73 : decode cX5_worstHang 73 = .ok (.aload_n 0, 1) := by decide +kernel
theorem dX5_worstHang_74 : decode cX5_worstHang 74 = .ok (.invokevirtual 150, 3) := by decide +kernel
theorem dX5_worstHang_77 : decode cX5_worstHang 77 = .ok (.aload_n 0, 1) := by decide +kernel
theorem dX5_worstHang_78 : decode cX5_worstHang 78 = .ok (.invokevirtual 154, 3) := by decide +kernel
theorem dX5_worstHang_81 : decode cX5_worstHang 81 = .ok (.aload_n 0, 1) := by decide +kernel
theorem dX5_worstHang_82 : decode cX5_worstHang 82 = .ok (.iconst 0, 1) := by decide +kernel
theorem dX5_worstHang_83 : decode cX5_worstHang 83 = .ok (.iload_n 1, 1) := by decide +kernel
theorem dX5_worstHang_84 : decode cX5_worstHang 84 = .ok (.iconst 1, 1) := by decide +kernel
theorem dX5_worstHang_85 : decode cX5_worstHang 85 = .ok (.iload 7, 2) := by decide +kernel
theorem dX5_worstHang_87 : decode cX5_worstHang 87 = .ok (.iconst 0, 1) := by decide +kernel
theorem dX5_worstHang_88 : decode cX5_worstHang 88 = .ok (.invokevirtual 55, 3) := by decide +kernel
theorem dX5_worstHang_91 : decode cX5_worstHang 91 = .ok (.aload_n 0, 1) := by decide +kernel
theorem dX5_worstHang_92 : decode cX5_worstHang 92 = .ok (.invokevirtual 138, 3) := by decide +kernel
theorem dX5_worstHang_95 : decode cX5_worstHang 95 = .ok (.aload_n 0, 1) := by decide +kernel
theorem dX5_worstHang_96 : decode cX5_worstHang 96 = .ok (.iload 4, 2) := by decide +kernel
theorem dX5_worstHang_98 : decode cX5_worstHang 98 = .ok (.invokevirtual 135, 3) := by decide +kernel
theorem dX5_worstHang_101 : decode cX5_worstHang 101 = .ok (.ifCond .le 7, 3) := by decide +kernel
theorem dX5_worstHang_104 : decode cX5_worstHang 104 = .ok (.iconst 1, 1) := by decide +kernel
theorem dX5_worstHang_105 : decode cX5_worstHang 105 = .ok (.goto 4, 3) := by decide +kernel
theorem dX5_worstHang_108 : decode cX5_worstHang 108 = .ok (.iconst 0, 1) := by decide +kernel
theorem dX5_worstHang_109 : decode cX5_worstHang 109 = .ok (.istore 6, 2) := by decide +kernel
theorem dX5_worstHang_111 : decode cX5_worstHang 111 = .ok (.iload 6, 2) := by decide +kernel
theorem dX5_worstHang_113 : decode cX5_worstHang 113 = .ok (.ifCond .eq 34, 3) := by decide +kernel
theorem dX5_worstHang_116 : decode cX5_worstHang 116 = .ok (.aload_n 0, 1) := by decide +kernel
theorem dX5_worstHang_117 : decode cX5_worstHang 117 = .ok (.getfield 7, 3) := by decide +kernel
theorem dX5_worstHang_120 : decode cX5_worstHang 120 = .ok (.sipush 175, 3) := by decide +kernel
theorem dX5_worstHang_123 : decode cX5_worstHang 123 = .ok (.iconst 5, 1) := by decide +kernel
theorem dX5_worstHang_124 : decode cX5_worstHang 124 = .ok (.aload_n 0, 1) := by decide +kernel
theorem dX5_worstHang_125 : decode cX5_worstHang 125 = .ok (.getfield 7, 3) := by decide +kernel
theorem dX5_worstHang_128 : decode cX5_worstHang 128 = .ok (.bipush 18, 2) := by decide +kernel
theorem dX5_worstHang_130 : decode cX5_worstHang 130 = .ok (.iaload, 1) := by decide +kernel
theorem dX5_worstHang_131 : decode cX5_worstHang 131 = .ok (.iconst 1, 1) := by decide +kernel
theorem dX5_worstHang_132 : decode cX5_worstHang 132 = .ok (.isub, 1) := by decide +kernel
theorem dX5_worstHang_133 : decode cX5_worstHang 133 = .ok (.bipush 16, 2) := by decide +kernel
theorem dX5_worstHang_135 : decode cX5_worstHang 135 = .ok (.irem, 1) := by decide +kernel
theorem dX5_worstHang_136 : decode cX5_worstHang 136 = .ok (.imul, 1) := by decide +kernel
theorem dX5_worstHang_137 : decode cX5_worstHang 137 = .ok (.iadd, 1) := by decide +kernel
theorem dX5_worstHang_138 : decode cX5_worstHang 138 = .ok (.iconst 4, 1) := by decide +kernel
theorem dX5_worstHang_139 : decode cX5_worstHang 139 = .ok (.iadd, 1) := by decide +kernel
theorem dX5_worstHang_140 : decode cX5_worstHang 140 = .ok (.iaload, 1) := by decide +kernel
theorem dX5_worstHang_141 : decode cX5_worstHang 141 = .ok (.iload 7, 2) := by decide +kernel
theorem dX5_worstHang_143 : decode cX5_worstHang 143 = .ok (.isub, 1) := by decide +kernel
theorem dX5_worstHang_144 : decode cX5_worstHang 144 = .ok (.goto 4, 3) := by decide +kernel
theorem dX5_worstHang_147 : decode cX5_worstHang 147 = .ok (.iconst 0, 1) := by decide +kernel
theorem dX5_worstHang_148 : decode cX5_worstHang 148 = .ok (.istore 8, 2) := by decide +kernel
theorem dX5_worstHang_150 : decode cX5_worstHang 150 = .ok (.iload 8, 2) := by decide +kernel
theorem dX5_worstHang_152 : decode cX5_worstHang 152 = .ok (.iload 5, 2) := by decide +kernel
theorem dX5_worstHang_154 : decode cX5_worstHang 154 = .ok (.if_icmp .le 8, 3) := by decide +kernel
theorem dX5_worstHang_157 : decode cX5_worstHang 157 = .ok (.iload 8, 2) := by decide +kernel
theorem dX5_worstHang_159 : decode cX5_worstHang 159 = .ok (.goto 5, 3) := by decide +kernel
theorem dX5_worstHang_162 : decode cX5_worstHang 162 = .ok (.iload 5, 2) := by decide +kernel
theorem dX5_worstHang_164 : decode cX5_worstHang 164 = .ok (.istore 5, 2) := by decide +kernel
theorem dX5_worstHang_166 : decode cX5_worstHang 166 = .ok (.iinc 7 1, 3) := by decide +kernel
theorem dX5_worstHang_169 : decode cX5_worstHang 169 = .ok (.goto (-109), 3) := by decide +kernel
theorem dX5_worstHang_172 : decode cX5_worstHang 172 = .ok (.aload_n 0, 1) := by decide +kernel
theorem dX5_worstHang_173 : decode cX5_worstHang 173 = .ok (.invokevirtual 150, 3) := by decide +kernel
theorem dX5_worstHang_176 : decode cX5_worstHang 176 = .ok (.iload 6, 2) := by decide +kernel
theorem dX5_worstHang_178 : decode cX5_worstHang 178 = .ok (.ifCond .eq 8, 3) := by decide +kernel
theorem dX5_worstHang_181 : decode cX5_worstHang 181 = .ok (.iload 5, 2) := by decide +kernel
theorem dX5_worstHang_183 : decode cX5_worstHang 183 = .ok (.goto 5, 3) := by decide +kernel
theorem dX5_worstHang_186 : decode cX5_worstHang 186 = .ok (.bipush (-6), 2) := by decide +kernel
theorem dX5_worstHang_188 : decode cX5_worstHang 188 = .ok (.ireturn, 1) := by decide +kernel
theorem dX5_greatestKick_0 : decode cX5_greatestKick 0 = .ok (.iload_n 1, 1) := by decide +kernel
theorem dX5_greatestKick_1 : decode cX5_greatestKick 1 = .ok (.iconst 1, 1) := by decide +kernel
theorem dX5_greatestKick_2 : decode cX5_greatestKick 2 = .ok (.sipush 1000, 3) := by decide +kernel
theorem dX5_greatestKick_5 : decode cX5_greatestKick 5 = .ok (.invokestatic 33, 3) := by decide +kernel
theorem dX5_greatestKick_8 : decode cX5_greatestKick 8 = .ok (.ifCond .ne 6, 3) := by decide +kernel
theorem dX5_greatestKick_11 : decode cX5_greatestKick 11 = .ok (.bipush (-2), 2) := by decide +kernel
theorem dX5_greatestKick_13 : decode cX5_greatestKick 13 = .ok (.ireturn, 1) := by decide +kernel
theorem dX5_greatestKick_14 : decode cX5_greatestKick 14 = .ok (.aload_n 0, 1) := by decide +kernel
theorem dX5_greatestKick_15 : decode cX5_greatestKick 15 = .ok (.invokevirtual 147, 3) := by decide +kernel
theorem dX5_greatestKick_18 : decode cX5_greatestKick 18 = .ok (.bipush (-6), 2) := by decide +kernel
theorem dX5_greatestKick_20 : decode cX5_greatestKick 20 = .ok (.istore_n 2, 1) := by decide +kernel
theorem dX5_greatestKick_21 : decode cX5_greatestKick 21 = .ok (.sipush 2000, 3) := by decide +kernel
theorem dX5_greatestKick_24 : decode cX5_greatestKick 24 = .ok (.istore_n 3, 1) := by decide +kernel
theorem dX5_greatestKick_25 : decode cX5_greatestKick 25 = .ok (.iload_n 3, 1) := by decide +kernel
theorem dX5_greatestKick_26 : decode cX5_greatestKick 26 = .ok (.ifCond .lt 47, 3) := by decide +kernel
theorem dX5_greatestKick_29 : decode cX5_greatestKick 29 = .ok (.iload_n 2, 1) := by decide +kernel
theorem dX5_greatestKick_30 : decode cX5_greatestKick 30 = .ok (.ifCond .ge 43, 3) := by decide +kernel
theorem dX5_greatestKick_33 : decode cX5_greatestKick 33 = .ok (.aload_n 0, 1) := by decide +kernel
theorem dX5_greatestKick_34 : decode cX5_greatestKick 34 = .ok (.invokevirtual 150, 3) := by decide +kernel
theorem dX5_greatestKick_37 : decode cX5_greatestKick 37 = .ok (.aload_n 0, 1) := by decide +kernel
theorem dX5_greatestKick_38 : decode cX5_greatestKick 38 = .ok (.invokevirtual 154, 3) := by decide +kernel
theorem dX5_greatestKick_41 : decode cX5_greatestKick 41 = .ok (.aload_n 0, 1) := by decide +kernel
theorem dX5_greatestKick_42 : decode cX5_greatestKick 42 = .ok (.getfield 7, 3) := by decide +kernel
theorem dX5_greatestKick_45 : decode cX5_greatestKick 45 = .ok (.iconst 3, 1) := by decide +kernel
theorem dX5_greatestKick_46 : decode cX5_greatestKick 46 = .ok (.iload_n 3, 1) := by decide +kernel
theorem dX5_greatestKick_47 : decode cX5_greatestKick 47 = .ok (.iastore, 1) := by decide +kernel
theorem dX5_greatestKick_48 : decode cX5_greatestKick 48 = .ok (.aload_n 0, 1) := by decide +kernel
theorem dX5_greatestKick_49 : decode cX5_greatestKick 49 = .ok (.invokevirtual 138, 3) := by decide +kernel
theorem dX5_greatestKick_52 : decode cX5_greatestKick 52 = .ok (.aload_n 0, 1) := by decide +kernel
theorem dX5_greatestKick_53 : decode cX5_greatestKick 53 = .ok (.iload_n 1, 1) := by decide +kernel
theorem dX5_greatestKick_54 : decode cX5_greatestKick 54 = .ok (.invokevirtual 135, 3) := by decide +kernel
theorem dX5_greatestKick_57 : decode cX5_greatestKick 57 = .ok (.ifCond .ge 7, 3) := by decide +kernel
theorem dX5_greatestKick_60 : decode cX5_greatestKick 60 = .ok (.iload_n 3, 1) := by decide +kernel
theorem dX5_greatestKick_61 : decode cX5_greatestKick 61 = .ok (.goto 5, 3) := by decide +kernel
theorem dX5_greatestKick_64 : decode cX5_greatestKick 64 = .ok (.bipush (-6), 2) := by decide +kernel
theorem dX5_greatestKick_66 : decode cX5_greatestKick 66 = .ok (.istore_n 2, 1) := by decide +kernel
theorem dX5_greatestKick_67 : decode cX5_greatestKick 67 = .ok (.iinc 3 (-1), 3) := by decide +kernel
theorem dX5_greatestKick_70 : decode cX5_greatestKick 70 = .ok (.goto (-45), 3) := by decide +kernel
theorem dX5_greatestKick_73 : decode cX5_greatestKick 73 = .ok (.aload_n 0, 1) := by decide +kernel
theorem dX5_greatestKick_74 : decode cX5_greatestKick 74 = .ok (.invokevirtual 150, 3) := by decide +kernel
theorem dX5_greatestKick_77 : decode cX5_greatestKick 77 = .ok (.iload_n 2, 1) := by decide +kernel
theorem dX5_greatestKick_78 : decode cX5_greatestKick 78 = .ok (.ireturn, 1) := by decide +kernel
theorem dX5_save_0 : decode cX5_save 0 = .ok (.iload_n 1, 1) := by decide +kernel
theorem dX5_save_1 : decode cX5_save 1 = .ok (.iconst 0, 1) := by decide +kernel
theorem dX5_save_2 : decode cX5_save 2 = .ok (.iconst 1, 1) := by decide +kernel
theorem dX5_save_3 : decode cX5_save 3 = .ok (.invokestatic 33, 3) := by decide +kernel
theorem dX5_save_6 : decode cX5_save 6 = .ok (.ifCond .ne 6, 3) := by decide +kernel
theorem dX5_save_9 : decode cX5_save 9 = .ok (.bipush (-2), 2) := by decide +kernel
theorem dX5_save_11 : decode cX5_save 11 = .ok (.ireturn, 1) := by decide +kernel
theorem dX5_save_12 : decode cX5_save 12 = .ok (.iconst 0, 1) := by decide +kernel
theorem dX5_save_13 : decode cX5_save 13 = .ok (.istore_n 2, 1) := by decide +kernel
theorem dX5_save_14 : decode cX5_save 14 = .ok (.iload_n 2, 1) := by decide +kernel
theorem dX5_save_15 : decode cX5_save 15 = .ok (.sipush 255, 3) := by decide +kernel
theorem dX5_save_18 : decode cX5_save 18 = .ok (.if_icmp .ge 27, 3) := by decide +kernel
theorem dX5_save_21 : decode cX5_save 21 = .ok (.aload_n 0, 1) := by decide +kernel
theorem dX5_save_22 : decode cX5_save 22 = .ok (.getfield 16, 3) := by decide +kernel
theorem dX5_save_25 : decode cX5_save 25 = .ok (.sipush 255, 3) := by decide +kernel
theorem dX5_save_28 : decode cX5_save 28 = .ok (.iload_n 1, 1) := by decide +kernel
theorem dX5_save_29 : decode cX5_save 29 = .ok (.imul, 1) := by decide +kernel
theorem dX5_save_30 : decode cX5_save 30 = .ok (.iload_n 2, 1) := by decide +kernel
theorem dX5_save_31 : decode cX5_save 31 = .ok (.iadd, 1) := by decide +kernel
theorem dX5_save_32 : decode cX5_save 32 = .ok (.aload_n 0, 1) := by decide +kernel
theorem dX5_save_33 : decode cX5_save 33 = .ok (.getfield 7, 3) := by decide +kernel
theorem dX5_save_36 : decode cX5_save 36 = .ok (.iload_n 2, 1) := by decide +kernel
theorem dX5_save_37 : decode cX5_save 37 = .ok (.iaload, 1) := by decide +kernel
theorem dX5_save_38 : decode cX5_save 38 = .ok (.iastore, 1) := by decide +kernel
theorem dX5_save_39 : decode cX5_save 39 = .ok (.iinc 2 1, 3) := by decide +kernel
theorem dX5_save_42 : decode cX5_save 42 = .ok (.goto (-28), 3) := by decide +kernel
theorem dX5_save_45 : decode cX5_save 45 = .ok (.aload_n 0, 1) := by decide +kernel
theorem dX5_save_46 : decode cX5_save 46 = .ok (.getfield 19, 3) := by decide +kernel
theorem dX5_save_49 : decode cX5_save 49 = .ok (.iload_n 1, 1) := by decide +kernel
theorem dX5_save_50 : decode cX5_save 50 = .ok (.iconst 1, 1) := by decide +kernel
theorem dX5_save_51 : decode cX5_save 51 = .ok (.bastore, 1) := by decide +kernel
theorem dX5_save_52 : decode cX5_save 52 = .ok (.aload_n 0, 1) := by decide +kernel
theorem dX5_save_53 : decode cX5_save 53 = .ok (.getfield 7, 3) := by decide +kernel
theorem dX5_save_56 : decode cX5_save 56 = .ok (.bipush 8, 2) := by decide +kernel
theorem dX5_save_58 : decode cX5_save 58 = .ok (.iaload, 1) := by decide +kernel
theorem dX5_save_59 : decode cX5_save 59 = .ok (.ireturn, 1) := by decide +kernel
theorem dX5_restore_0 : decode cX5_restore 0 = .ok (.iload_n 1, 1) := by decide +kernel
theorem dX5_restore_1 : decode cX5_restore 1 = .ok (.iconst 0, 1) := by decide +kernel
theorem dX5_restore_2 : decode cX5_restore 2 = .ok (.iconst 1, 1) := by decide +kernel
theorem dX5_restore_3 : decode cX5_restore 3 = .ok (.invokestatic 33, 3) := by decide +kernel
theorem dX5_restore_6 : decode cX5_restore 6 = .ok (.ifCond .ne 6, 3) := by decide +kernel
theorem dX5_restore_9 : decode cX5_restore 9 = .ok (.bipush (-2), 2) := by decide +kernel
theorem dX5_restore_11 : decode cX5_restore 11 = .ok (.ireturn, 1) := by decide +kernel
theorem dX5_restore_12 : decode cX5_restore 12 = .ok (.aload_n 0, 1) := by decide +kernel
theorem dX5_restore_13 : decode cX5_restore 13 = .ok (.getfield 19, 3) := by decide +kernel
theorem dX5_restore_16 : decode cX5_restore 16 = .ok (.iload_n 1, 1) := by decide +kernel
theorem dX5_restore_17 : decode cX5_restore 17 = .ok (.baload, 1) := by decide +kernel
theorem dX5_restore_18 : decode cX5_restore 18 = .ok (.ifCond .ne 6, 3) := by decide +kernel
theorem dX5_restore_21 : decode cX5_restore 21 = .ok (.bipush (-5), 2) := by decide +kernel
theorem dX5_restore_23 : decode cX5_restore 23 = .ok (.ireturn, 1) := by decide +kernel
theorem dX5_restore_24 : decode cX5_restore 24 = .ok (.iconst 0, 1) := by decide +kernel
theorem dX5_restore_25 : decode cX5_restore 25 = .ok (.istore_n 2, 1) := by decide +kernel
theorem dX5_restore_26 : decode cX5_restore 26 = .ok (.iload_n 2, 1) := by decide +kernel
theorem dX5_restore_27 : decode cX5_restore 27 = .ok (.sipush 255, 3) := by decide +kernel
theorem dX5_restore_30 : decode cX5_restore 30 = .ok (.if_icmp .ge 27, 3) := by decide +kernel
theorem dX5_restore_33 : decode cX5_restore 33 = .ok (.aload_n 0, 1) := by decide +kernel
theorem dX5_restore_34 : decode cX5_restore 34 = .ok (.getfield 7, 3) := by decide +kernel
theorem dX5_restore_37 : decode cX5_restore 37 = .ok (.iload_n 2, 1) := by decide +kernel
theorem dX5_restore_38 : decode cX5_restore 38 = .ok (.aload_n 0, 1) := by decide +kernel
theorem dX5_restore_39 : decode cX5_restore 39 = .ok (.getfield 16, 3) := by decide +kernel
theorem dX5_restore_42 : decode cX5_restore 42 = .ok (.sipush 255, 3) := by decide +kernel
theorem dX5_restore_45 : decode cX5_restore 45 = .ok (.iload_n 1, 1) := by decide +kernel
theorem dX5_restore_46 : decode cX5_restore 46 = .ok (.imul, 1) := by decide +kernel
theorem dX5_restore_47 : decode cX5_restore 47 = .ok (.iload_n 2, 1) := by decide +kernel
theorem dX5_restore_48 : decode cX5_restore 48 = .ok (.iadd, 1) := by decide +kernel
theorem dX5_restore_49 : decode cX5_restore 49 = .ok (.iaload, 1) := by decide +kernel
theorem dX5_restore_50 : decode cX5_restore 50 = .ok (.iastore, 1) := by decide +kernel
theorem dX5_restore_51 : decode cX5_restore 51 = .ok (.iinc 2 1, 3) := by decide +kernel
theorem dX5_restore_54 : decode cX5_restore 54 = .ok (.goto (-28), 3) := by decide +kernel
theorem dX5_restore_57 : decode cX5_restore 57 = .ok (.aload_n 0, 1) := by decide +kernel
theorem dX5_restore_58 : decode cX5_restore 58 = .ok (.getfield 7, 3) := by decide +kernel
theorem dX5_restore_61 : decode cX5_restore 61 = .ok (.bipush 8, 2) := by decide +kernel
theorem dX5_restore_63 : decode cX5_restore 63 = .ok (.iaload, 1) := by decide +kernel
theorem dX5_restore_64 : decode cX5_restore 64 = .ok (.ireturn, 1) := by decide +kernel
end
section
theorem dJ11_isValidCodePoint_9a6ad_0 : decode cJ11_isValidCodePoint_9a6ad 0 = .ok (.iload_n 0, 1) := by decide +kernel
theorem dJ11_isValidCodePoint_9a6ad_1 : decode cJ11_isValidCodePoint_9a6ad 1 = .ok (.bipush 16, 2) := by decide +kernel
theorem dJ11_isValidCodePoint_9a6ad_3 : decode cJ11_isValidCodePoint_9a6ad 3 = .ok (.iushr, 1) := by decide +kernel
theorem dJ11_isValidCodePoint_9a6ad_4 : decode cJ11_isValidCodePoint_9a6ad 4 = .ok (.istore_n 1, 1) := by decide +kernel
theorem dJ11_isValidCodePoint_9a6ad_5 : decode cJ11_isValidCodePoint_9a6ad 5 = .ok (.iload_n 1, 1) := by decide +kernel
theorem dJ11_isValidCodePoint_9a6ad_6 : decode cJ11_isValidCodePoint_9a6ad 6 = .ok (.bipush 17, 2) := by decide +kernel
theorem dJ11_isValidCodePoint_9a6ad_8 : decode cJ11_isValidCodePoint_9a6ad 8 = .ok (.if_icmp .ge 7, 3) := by decide +kernel
theorem dJ11_isValidCodePoint_9a6ad_11 : decode cJ11_isValidCodePoint_9a6ad 11 = .ok (.iconst 1, 1) := by decide +kernel
theorem dJ11_isValidCodePoint_9a6ad_12 : decode cJ11_isValidCodePoint_9a6ad 12 = .ok (.goto 4, 3) := by decide +kernel
theorem dJ11_isValidCodePoint_9a6ad_15 : decode cJ11_isValidCodePoint_9a6ad 15 = .ok (.iconst 0, 1) := by decide +kernel
theorem dJ11_isValidCodePoint_9a6ad_16 : decode cJ11_isValidCodePoint_9a6ad 16 = .ok (.ireturn, 1) := by decide +kernel
theorem dJ11_highSurrogate_5068e_0 : decode cJ11_highSurrogate_5068e 0 = .ok (.iload_n 0, 1) := by decide +kernel
theorem dJ11_highSurrogate_5068e_1 : decode cJ11_highSurrogate_5068e 1 = .ok (.bipush 10, 2) := by decide +kernel
theorem dJ11_highSurrogate_5068e_3 : decode cJ11_highSurrogate_5068e 3 = .ok (.iushr, 1) := by decide +kernel
theorem dJ11_highSurrogate_5068e_4 : decode cJ11_highSurrogate_5068e 4 = .ok (.ldc 110, 2) := by decide +kernel
theorem dJ11_highSurrogate_5068e_6 : decode cJ11_highSurrogate_5068e 6 = .ok (.iadd, 1) := by decide +kernel
theorem dJ11_highSurrogate_5068e_7 : decode cJ11_highSurrogate_5068e 7 = .ok (.i2c, 1) := by decide +kernel
theorem dJ11_highSurrogate_5068e_8 : decode cJ11_highSurrogate_5068e 8 = .ok (.ireturn, 1) := by decide +kernel
theorem dJ11_lowSurrogate_5068e_0 : decode cJ11_lowSurrogate_5068e 0 = .ok (.iload_n 0, 1) := by decide +kernel
theorem dJ11_lowSurrogate_5068e_1 : decode cJ11_lowSurrogate_5068e 1 = .ok (.sipush 1023, 3) := by decide +kernel
theorem dJ11_lowSurrogate_5068e_4 : decode cJ11_lowSurrogate_5068e 4 = .ok (.iand, 1) := by decide +kernel
theorem dJ11_lowSurrogate_5068e_5 : decode cJ11_lowSurrogate_5068e 5 = .ok (.ldc 76, 2) := by decide +kernel
theorem dJ11_lowSurrogate_5068e_7 : decode cJ11_lowSurrogate_5068e 7 = .ok (.iadd, 1) := by decide +kernel
theorem dJ11_lowSurrogate_5068e_8 : decode cJ11_lowSurrogate_5068e 8 = .ok (.i2c, 1) := by decide +kernel
theorem dJ11_lowSurrogate_5068e_9 : decode cJ11_lowSurrogate_5068e 9 = .ok (.ireturn, 1) := by decide +kernel
theorem dJ9_max_7cf53_0 : decode cJ9_max_7cf53 0 = .ok (.iload_n 0, 1) := by decide +kernel
theorem dJ9_max_7cf53_1 : decode cJ9_max_7cf53 1 = .ok (.iload_n 1, 1) := by decide +kernel
theorem dJ9_max_7cf53_2 : decode cJ9_max_7cf53 2 = .ok (.if_icmp .lt 7, 3) := by decide +kernel
theorem dJ9_max_7cf53_5 : decode cJ9_max_7cf53 5 = .ok (.iload_n 0, 1) := by decide +kernel
theorem dJ9_max_7cf53_6 : decode cJ9_max_7cf53 6 = .ok (.goto 4, 3) := by decide +kernel
theorem dJ9_max_7cf53_9 : decode cJ9_max_7cf53 9 = .ok (.iload_n 1, 1) := by decide +kernel
theorem dJ9_max_7cf53_10 : decode cJ9_max_7cf53 10 = .ok (.ireturn, 1) := by decide +kernel
theorem dJ9_min_7cf53_0 : decode cJ9_min_7cf53 0 = .ok (.iload_n 0, 1) := by decide +kernel
theorem dJ9_min_7cf53_1 : decode cJ9_min_7cf53 1 = .ok (.iload_n 1, 1) := by decide +kernel
theorem dJ9_min_7cf53_2 : decode cJ9_min_7cf53 2 = .ok (.if_icmp .gt 7, 3) := by decide +kernel
theorem dJ9_min_7cf53_5 : decode cJ9_min_7cf53 5 = .ok (.iload_n 0, 1) := by decide +kernel
theorem dJ9_min_7cf53_6 : decode cJ9_min_7cf53 6 = .ok (.goto 4, 3) := by decide +kernel
theorem dJ9_min_7cf53_9 : decode cJ9_min_7cf53 9 = .ok (.iload_n 1, 1) := by decide +kernel
theorem dJ9_min_7cf53_10 : decode cJ9_min_7cf53 10 = .ok (.ireturn, 1) := by decide +kernel
theorem dJ0_length_8abf5_0 : decode cJ0_length_8abf5 0 = .ok (.aload_n 0, 1) := by decide +kernel
theorem dJ0_length_8abf5_1 : decode cJ0_length_8abf5 1 = .ok (.getfield 9, 3) := by decide +kernel
theorem dJ0_length_8abf5_4 : decode cJ0_length_8abf5 4 = .ok (.arraylength, 1) := by decide +kernel
theorem dJ0_length_8abf5_5 : decode cJ0_length_8abf5 5 = .ok (.aload_n 0, 1) := by decide +kernel
theorem dJ0_length_8abf5_6 : decode cJ0_length_8abf5 6 = .ok (.invokevirtual 335, 3) := by decide +kernel
theorem dJ0_length_8abf5_9 : decode cJ0_length_8abf5 9 = .ok (.ishr, 1) := by decide +kernel
theorem dJ0_length_8abf5_10 : decode cJ0_length_8abf5 10 = .ok (.ireturn, 1) := by decide +kernel
theorem dJ0_indexOf_0f7a4_0 : decode cJ0_indexOf_0f7a4 0 = .ok (.aload_n 0, 1) := by decide +kernel
theorem dJ0_indexOf_0f7a4_1 : decode cJ0_indexOf_0f7a4 1 = .ok (.iload_n 1, 1) := by decide +kernel
theorem dJ0_indexOf_0f7a4_2 : decode cJ0_indexOf_0f7a4 2 = .ok (.iconst 0, 1) := by decide +kernel
theorem dJ0_indexOf_0f7a4_3 : decode cJ0_indexOf_0f7a4 3 = .ok (.invokevirtual 633, 3) := by decide +kernel
theorem dJ0_indexOf_0f7a4_6 : decode cJ0_indexOf_0f7a4 6 = .ok (.ireturn, 1) := by decide +kernel
theorem dJ0_indexOf_7cf53_0 : decode cJ0_indexOf_7cf53 0 = .ok (.aload_n 0, 1) := by decide +kernel
theorem dJ0_indexOf_7cf53_1 : decode cJ0_indexOf_7cf53 1 = .ok (.invokevirtual 492, 3) := by decide +kernel
theorem dJ0_indexOf_7cf53_4 : decode cJ0_indexOf_7cf53 4 = .ok (.ifCond .eq 19, 3) := by decide +kernel
theorem dJ0_indexOf_7cf53_7 : decode cJ0_indexOf_7cf53 7 = .ok (.aload_n 0, 1) := by decide +kernel
theorem dJ0_indexOf_7cf53_8 : decode cJ0_indexOf_7cf53 8 = .ok (.getfield 9, 3) := by decide +kernel
theorem dJ0_indexOf_7cf53_11 : decode cJ0_indexOf_7cf53 11 = .ok (.iload_n 1, 1) := by decide +kernel
theorem dJ0_indexOf_7cf53_12 : decode cJ0_indexOf_7cf53 12 = .ok (.iload_n 2, 1) := by decide +kernel
theorem dJ0_indexOf_7cf53_13 : decode cJ0_indexOf_7cf53 13 = .ok (.aload_n 0, 1) := by decide +kernel
theorem dJ0_indexOf_7cf53_14 : decode cJ0_indexOf_7cf53 14 = .ok (.invokevirtual 505, 3) := by decide +kernel
theorem dJ0_indexOf_7cf53_17 : decode cJ0_indexOf_7cf53 17 = .ok (.invokestatic 637, 3) := by decide +kernel
theorem dJ0_indexOf_7cf53_20 : decode cJ0_indexOf_7cf53 20 = .ok (.goto 16, 3) := by decide +kernel
theorem dJ0_indexOf_7cf53_23 : decode cJ0_indexOf_7cf53 23 = .ok (.aload_n 0, 1) := by decide +kernel
theorem dJ0_indexOf_7cf53_24 : decode cJ0_indexOf_7cf53 24 = .ok (.getfield 9, 3) := by decide +kernel
theorem dJ0_indexOf_7cf53_27 : decode cJ0_indexOf_7cf53 27 = .ok (.iload_n 1, 1) := by decide +kernel
theorem dJ0_indexOf_7cf53_28 : decode cJ0_indexOf_7cf53 28 = .ok (.iload_n 2, 1) := by decide +kernel
theorem dJ0_indexOf_7cf53_29 : decode cJ0_indexOf_7cf53 29 = .ok (.aload_n 0, 1) := by decide +kernel
theorem dJ0_indexOf_7cf53_30 : decode cJ0_indexOf_7cf53 30 = .ok (.invokevirtual 505, 3) := by decide +kernel
theorem dJ0_indexOf_7cf53_33 : decode cJ0_indexOf_7cf53 33 = .ok (.invokestatic 640, 3) := by decide +kernel
theorem dJ0_indexOf_7cf53_36 : decode cJ0_indexOf_7cf53 36 = .ok (.ireturn, 1) := by decide +kernel
theorem dJ0_coder_7d493_0 : decode cJ0_coder_7d493 0 = .ok (.getstatic 38, 3) := by decide +kernel
theorem dJ0_coder_7d493_3 : decode cJ0_coder_7d493 3 = .ok (.ifCond .eq 10, 3) := by decide +kernel
theorem dJ0_coder_7d493_6 : decode cJ0_coder_7d493 6 = .ok (.aload_n 0, 1) := by decide +kernel
theorem dJ0_coder_7d493_7 : decode cJ0_coder_7d493 7 = .ok (.getfield 15, 3) := by decide +kernel
theorem dJ0_coder_7d493_10 : decode cJ0_coder_7d493 10 = .ok (.goto 4, 3) := by decide +kernel
theorem dJ0_coder_7d493_13 : decode cJ0_coder_7d493 13 = .ok (.iconst 1, 1) := by decide +kernel
theorem dJ0_coder_7d493_14 : decode cJ0_coder_7d493 14 = .ok (.ireturn, 1) := by decide +kernel
theorem dJ0_isLatin1_aae02_0 : decode cJ0_isLatin1_aae02 0 = .ok (.getstatic 38, 3) := by decide +kernel
theorem dJ0_isLatin1_aae02_3 : decode cJ0_isLatin1_aae02 3 = .ok (.ifCond .eq 14, 3) := by decide +kernel
theorem dJ0_isLatin1_aae02_6 : decode cJ0_isLatin1_aae02 6 = .ok (.aload_n 0, 1) := by decide +kernel
theorem dJ0_isLatin1_aae02_7 : decode cJ0_isLatin1_aae02 7 = .ok (.getfield 15, 3) := by decide +kernel
theorem dJ0_isLatin1_aae02_10 : decode cJ0_isLatin1_aae02 10 = .ok (.ifCond .ne 7, 3) := by decide +kernel
theorem dJ0_isLatin1_aae02_13 : decode cJ0_isLatin1_aae02 13 = .ok (.iconst 1, 1) := by decide +kernel
theorem dJ0_isLatin1_aae02_14 : decode cJ0_isLatin1_aae02 14 = .ok (.goto 4, 3) := by decide +kernel
theorem dJ0_isLatin1_aae02_17 : decode cJ0_isLatin1_aae02 17 = .ok (.iconst 0, 1) := by decide +kernel
theorem dJ0_isLatin1_aae02_18 : decode cJ0_isLatin1_aae02 18 = .ok (.ireturn, 1) := by decide +kernel
theorem dJ0_checkBoundsBeginEnd_23922_0 : decode cJ0_checkBoundsBeginEnd_23922 0 = .ok (.iload_n 0, 1) := by decide +kernel
theorem dJ0_checkBoundsBeginEnd_23922_1 : decode cJ0_checkBoundsBeginEnd_23922 1 = .ok (.iload_n 1, 1) := by decide +kernel
theorem dJ0_checkBoundsBeginEnd_23922_2 : decode cJ0_checkBoundsBeginEnd_23922 2 = .ok (.iload_n 2, 1) := by decide +kernel
theorem dJ0_checkBoundsBeginEnd_23922_3 : decode cJ0_checkBoundsBeginEnd_23922 3 = .ok (.getstatic 1053, 3) := by decide +kernel
theorem dJ0_checkBoundsBeginEnd_23922_6 : decode cJ0_checkBoundsBeginEnd_23922 6 = .ok (.invokestatic 1062, 3) := by decide +kernel
theorem dJ0_checkBoundsBeginEnd_23922_9 : decode cJ0_checkBoundsBeginEnd_23922 9 = .ok (.pop, 1) := by decide +kernel
theorem dJ0_checkBoundsBeginEnd_23922_10 : decode cJ0_checkBoundsBeginEnd_23922 10 = .ok (.return_, 1) := by decide +kernel
theorem dJ1_canEncode_9a6ad_0 : decode cJ1_canEncode_9a6ad 0 = .ok (.iload_n 0, 1) := by decide +kernel
theorem dJ1_canEncode_9a6ad_1 : decode cJ1_canEncode_9a6ad 1 = .ok (.ifCond .lt 14, 3) := by decide +kernel
theorem dJ1_canEncode_9a6ad_4 : decode cJ1_canEncode_9a6ad 4 = .ok (.iload_n 0, 1) := by decide +kernel
theorem dJ1_canEncode_9a6ad_5 : decode cJ1_canEncode_9a6ad 5 = .ok (.sipush 255, 3) := by decide +kernel
theorem dJ1_canEncode_9a6ad_8 : decode cJ1_canEncode_9a6ad 8 = .ok (.if_icmp .gt 7, 3) := by decide +kernel
theorem dJ1_canEncode_9a6ad_11 : decode cJ1_canEncode_9a6ad 11 = .ok (.iconst 1, 1) := by decide +kernel
theorem dJ1_canEncode_9a6ad_12 : decode cJ1_canEncode_9a6ad 12 = .ok (.goto 4, 3) := by decide +kernel
theorem dJ1_canEncode_9a6ad_15 : decode cJ1_canEncode_9a6ad 15 = .ok (.iconst 0, 1) := by decide +kernel
theorem dJ1_canEncode_9a6ad_16 : decode cJ1_canEncode_9a6ad 16 = .ok (.ireturn, 1) := by decide +kernel
theorem dJ1_indexOf_4cfef_0 : decode cJ1_indexOf_4cfef 0 = .ok (.iload_n 1, 1) := by decide +kernel
theorem dJ1_indexOf_4cfef_1 : decode cJ1_indexOf_4cfef 1 = .ok (.invokestatic 88, 3) := by decide +kernel
theorem dJ1_indexOf_4cfef_4 : decode cJ1_indexOf_4cfef 4 = .ok (.ifCond .ne 5, 3) := by decide +kernel
theorem dJ1_indexOf_4cfef_7 : decode cJ1_indexOf_4cfef 7 = .ok (.iconst (-1), 1) := by decide +kernel
theorem dJ1_indexOf_4cfef_8 : decode cJ1_indexOf_4cfef 8 = .ok (.ireturn, 1) := by decide +kernel
theorem dJ1_indexOf_4cfef_9 : decode cJ1_indexOf_4cfef 9 = .ok (.iload_n 2, 1) := by decide +kernel
theorem dJ1_indexOf_4cfef_10 : decode cJ1_indexOf_4cfef 10 = .ok (.iconst 0, 1) := by decide +kernel
theorem dJ1_indexOf_4cfef_11 : decode cJ1_indexOf_4cfef 11 = .ok (.invokestatic 92, 3) := by decide +kernel
theorem dJ1_indexOf_4cfef_14 : decode cJ1_indexOf_4cfef 14 = .ok (.istore_n 2, 1) := by decide +kernel
theorem dJ1_indexOf_4cfef_15 : decode cJ1_indexOf_4cfef 15 = .ok (.iload_n 3, 1) := by decide +kernel
theorem dJ1_indexOf_4cfef_16 : decode cJ1_indexOf_4cfef 16 = .ok (.aload_n 0, 1) := by decide +kernel
theorem dJ1_indexOf_4cfef_17 : decode cJ1_indexOf_4cfef 17 = .ok (.arraylength, 1) := by decide +kernel
theorem dJ1_indexOf_4cfef_18 : decode cJ1_indexOf_4cfef 18 = .ok (.invokestatic 38, 3) := by decide +kernel
theorem dJ1_indexOf_4cfef_21 : decode cJ1_indexOf_4cfef 21 = .ok (.istore_n 3, 1) := by decide +kernel
theorem dJ1_indexOf_4cfef_22 : decode cJ1_indexOf_4cfef 22 = .ok (.iload_n 2, 1) := by decide +kernel
theorem dJ1_indexOf_4cfef_23 : decode cJ1_indexOf_4cfef 23 = .ok (.iload_n 3, 1) := by decide +kernel
theorem dJ1_indexOf_4cfef_24 : decode cJ1_indexOf_4cfef 24 = .ok (.if_icmp .lt 5, 3) := by decide +kernel
theorem dJ1_indexOf_4cfef_27 : decode cJ1_indexOf_4cfef 27 = .ok (.iconst (-1), 1) := by decide +kernel
theorem dJ1_indexOf_4cfef_28 : decode cJ1_indexOf_4cfef 28 = .ok (.ireturn, 1) := by decide +kernel
theorem dJ1_indexOf_4cfef_29 : decode cJ1_indexOf_4cfef 29 = .ok (.aload_n 0, 1) := by decide +kernel
theorem dJ1_indexOf_4cfef_30 : decode cJ1_indexOf_4cfef 30 = .ok (.iload_n 1, 1) := by decide +kernel
theorem dJ1_indexOf_4cfef_31 : decode cJ1_indexOf_4cfef 31 = .ok (.iload_n 2, 1) := by decide +kernel
theorem dJ1_indexOf_4cfef_32 : decode cJ1_indexOf_4cfef 32 = .ok (.iload_n 3, 1) := by decide +kernel
theorem dJ1_indexOf_4cfef_33 : decode cJ1_indexOf_4cfef 33 = .ok (.invokestatic 95, 3) := by decide +kernel
theorem dJ1_indexOf_4cfef_36 : decode cJ1_indexOf_4cfef 36 = .ok (.ireturn, 1) := by decide +kernel
theorem dJ1_indexOfChar_4cfef_0 : decode cJ1_indexOfChar_4cfef 0 = .ok (.iload_n 1, 1) := by decide +kernel
theorem dJ1_indexOfChar_4cfef_1 : decode cJ1_indexOfChar_4cfef 1 = .ok (.i2b, 1) := by decide +kernel
theorem dJ1_indexOfChar_4cfef_2 : decode cJ1_indexOfChar_4cfef 2 = .ok (.istore 4, 2) := by decide +kernel
theorem dJ1_indexOfChar_4cfef_4 : decode cJ1_indexOfChar_4cfef 4 = .ok (.iload_n 2, 1) := by decide +kernel
theorem dJ1_indexOfChar_4cfef_5 : decode cJ1_indexOfChar_4cfef 5 = .ok (.istore 5, 2) := by decide +kernel
theorem dJ1_indexOfChar_4cfef_7 : decode cJ1_indexOfChar_4cfef 7 = .ok (.iload 5, 2) := by decide +kernel
theorem dJ1_indexOfChar_4cfef_9 : decode cJ1_indexOfChar_4cfef 9 = .ok (.iload_n 3, 1) := by decide +kernel
theorem dJ1_indexOfChar_4cfef_10 : decode cJ1_indexOfChar_4cfef 10 = .ok (.if_icmp .ge 21, 3) := by decide +kernel
theorem dJ1_indexOfChar_4cfef_13 : decode cJ1_indexOfChar_4cfef 13 = .ok (.aload_n 0, 1) := by decide +kernel
theorem dJ1_indexOfChar_4cfef_14 : decode cJ1_indexOfChar_4cfef 14 = .ok (.iload 5, 2) := by decide +kernel
theorem dJ1_indexOfChar_4cfef_16 : decode cJ1_indexOfChar_4cfef 16 = .ok (.baload, 1) := by decide +kernel
theorem dJ1_indexOfChar_4cfef_17 : decode cJ1_indexOfChar_4cfef 17 = .ok (.iload 4, 2) := by decide +kernel
theorem dJ1_indexOfChar_4cfef_19 : decode cJ1_indexOfChar_4cfef 19 = .ok (.if_icmp .ne 6, 3) := by decide +kernel
theorem dJ1_indexOfChar_4cfef_22 : decode cJ1_indexOfChar_4cfef 22 = .ok (.iload 5, 2) := by decide +kernel
theorem dJ1_indexOfChar_4cfef_24 : decode cJ1_indexOfChar_4cfef 24 = .ok (.ireturn, 1) := by decide +kernel
theorem dJ1_indexOfChar_4cfef_25 : decode cJ1_indexOfChar_4cfef 25 = .ok (.iinc 5 1, 3) := by decide +kernel
theorem dJ1_indexOfChar_4cfef_28 : decode cJ1_indexOfChar_4cfef 28 = .ok (.goto (-21), 3) := by decide +kernel
theorem dJ1_indexOfChar_4cfef_31 : decode cJ1_indexOfChar_4cfef 31 = .ok (.iconst (-1), 1) := by decide +kernel
theorem dJ1_indexOfChar_4cfef_32 : decode cJ1_indexOfChar_4cfef 32 = .ok (.ireturn, 1) := by decide +kernel
theorem dJ2_getChar_3b067_0 : decode cJ2_getChar_3b067 0 = .ok (.getstatic 44, 3) := by decide +kernel
theorem dJ2_getChar_3b067_3 : decode cJ2_getChar_3b067 3 = .ok (.ifCond .ne 25, 3) := by decide +kernel
theorem dJ2_getChar_3b067_6 : decode cJ2_getChar_3b067 6 = .ok (.iload_n 1, 1) := by decide +kernel
theorem dJ2_getChar_3b067_7 : decode cJ2_getChar_3b067 7 = .ok (.ifCond .lt 11, 3) := by decide +kernel
theorem dJ2_getChar_3b067_10 : decode cJ2_getChar_3b067 10 = .ok (.iload_n 1, 1) := by decide +kernel
theorem dJ2_getChar_3b067_11 : decode cJ2_getChar_3b067 11 = .ok (.aload_n 0, 1) := by decide +kernel
theorem dJ2_getChar_3b067_12 : decode cJ2_getChar_3b067 12 = .ok (.invokestatic 48, 3) := by decide +kernel
theorem dJ2_getChar_3b067_15 : decode cJ2_getChar_3b067 15 = .ok (.if_icmp .lt 13, 3) := by decide +kernel
theorem dJ2_getChar_3b067_18 : decode cJ2_getChar_3b067 18 = .ok (.new 52, 3) := by decide +kernel
theorem dJ2_getChar_3b067_21 : decode cJ2_getChar_3b067 21 = .ok (.dup, 1) := by decide +kernel
theorem dJ2_getChar_3b067_22 : decode cJ2_getChar_3b067 22 = .ok (.ldc 54, 2) := by decide +kernel
theorem dJ2_getChar_3b067_24 : decode cJ2_getChar_3b067 24 = .ok (.invokespecial 56, 3) := by decide +kernel
theorem dJ2_getChar_3b067_27 : decode cJ2_getChar_3b067 27 = .ok (.athrow, 1) := by decide +kernel
theorem dJ2_getChar_3b067_28 : decode cJ2_getChar_3b067 28 = .ok (.iload_n 1, 1) := by decide +kernel
theorem dJ2_getChar_3b067_29 : decode cJ2_getChar_3b067 29 = .ok (.iconst 1, 1) := by decide +kernel
theorem dJ2_getChar_3b067_30 : decode cJ2_getChar_3b067 30 = .ok (.ishl, 1) := by decide +kernel
theorem dJ2_getChar_3b067_31 : decode cJ2_getChar_3b067 31 = .ok (.istore_n 1, 1) := by decide +kernel
theorem dJ2_getChar_3b067_32 : decode cJ2_getChar_3b067 32 = .ok (.aload_n 0, 1) := by decide +kernel
theorem dJ2_getChar_3b067_33 : decode cJ2_getChar_3b067 33 = .ok (.iload_n 1, 1) := by decide +kernel
theorem dJ2_getChar_3b067_34 : decode cJ2_getChar_3b067 34 = .ok (.iinc 1 1, 3) := by decide +kernel
theorem dJ2_getChar_3b067_37 : decode cJ2_getChar_3b067 37 = .ok (.baload, 1) := by decide +kernel
theorem dJ2_getChar_3b067_38 : decode cJ2_getChar_3b067 38 = .ok (.sipush 255, 3) := by decide +kernel
theorem dJ2_getChar_3b067_41 : decode cJ2_getChar_3b067 41 = .ok (.iand, 1) := by decide +kernel
theorem dJ2_getChar_3b067_42 : decode cJ2_getChar_3b067 42 = .ok (.getstatic 59, 3) := by decide +kernel
theorem dJ2_getChar_3b067_45 : decode cJ2_getChar_3b067 45 = .ok (.ishl, 1) := by decide +kernel
theorem dJ2_getChar_3b067_46 : decode cJ2_getChar_3b067 46 = .ok (.aload_n 0, 1) := by decide +kernel
theorem dJ2_getChar_3b067_47 : decode cJ2_getChar_3b067 47 = .ok (.iload_n 1, 1) := by decide +kernel
theorem dJ2_getChar_3b067_48 : decode cJ2_getChar_3b067 48 = .ok (.baload, 1) := by decide +kernel
theorem dJ2_getChar_3b067_49 : decode cJ2_getChar_3b067 49 = .ok (.sipush 255, 3) := by decide +kernel
theorem dJ2_getChar_3b067_52 : decode cJ2_getChar_3b067 52 = .ok (.iand, 1) := by decide +kernel
theorem dJ2_getChar_3b067_53 : decode cJ2_getChar_3b067 53 = .ok (.getstatic 63, 3) := by decide +kernel
theorem dJ2_getChar_3b067_56 : decode cJ2_getChar_3b067 56 = .ok (.ishl, 1) := by decide +kernel
theorem dJ2_getChar_3b067_57 : decode cJ2_getChar_3b067 57 = .ok (.ior, 1) := by decide +kernel
theorem dJ2_getChar_3b067_58 : decode cJ2_getChar_3b067 58 = .ok (.i2c, 1) := by decide +kernel
theorem dJ2_getChar_3b067_59 : decode cJ2_getChar_3b067 59 = .ok (.ireturn, 1) := by decide +kernel
theorem dJ2_length_9d52b_0 : decode cJ2_length_9d52b 0 = .ok (.aload_n 0, 1) := by decide +kernel
theorem dJ2_length_9d52b_1 : decode cJ2_length_9d52b 1 = .ok (.arraylength, 1) := by decide +kernel
theorem dJ2_length_9d52b_2 : decode cJ2_length_9d52b 2 = .ok (.iconst 1, 1) := by decide +kernel
theorem dJ2_length_9d52b_3 : decode cJ2_length_9d52b 3 = .ok (.ishr, 1) := by decide +kernel
theorem dJ2_length_9d52b_4 : decode cJ2_length_9d52b 4 = .ok (.ireturn, 1) := by decide +kernel
theorem dJ2_indexOf_4cfef_0 : decode cJ2_indexOf_4cfef 0 = .ok (.iload_n 2, 1) := by decide +kernel
theorem dJ2_indexOf_4cfef_1 : decode cJ2_indexOf_4cfef 1 = .ok (.iconst 0, 1) := by decide +kernel
theorem dJ2_indexOf_4cfef_2 : decode cJ2_indexOf_4cfef 2 = .ok (.invokestatic 224, 3) := by decide +kernel
theorem dJ2_indexOf_4cfef_5 : decode cJ2_indexOf_4cfef 5 = .ok (.istore_n 2, 1) := by decide +kernel
theorem dJ2_indexOf_4cfef_6 : decode cJ2_indexOf_4cfef 6 = .ok (.iload_n 3, 1) := by decide +kernel
theorem dJ2_indexOf_4cfef_7 : decode cJ2_indexOf_4cfef 7 = .ok (.aload_n 0, 1) := by decide +kernel
theorem dJ2_indexOf_4cfef_8 : decode cJ2_indexOf_4cfef 8 = .ok (.arraylength, 1) := by decide +kernel
theorem dJ2_indexOf_4cfef_9 : decode cJ2_indexOf_4cfef 9 = .ok (.iconst 1, 1) := by decide +kernel
theorem dJ2_indexOf_4cfef_10 : decode cJ2_indexOf_4cfef 10 = .ok (.ishr, 1) := by decide +kernel
theorem dJ2_indexOf_4cfef_11 : decode cJ2_indexOf_4cfef 11 = .ok (.invokestatic 183, 3) := by decide +kernel
theorem dJ2_indexOf_4cfef_14 : decode cJ2_indexOf_4cfef 14 = .ok (.istore_n 3, 1) := by decide +kernel
theorem dJ2_indexOf_4cfef_15 : decode cJ2_indexOf_4cfef 15 = .ok (.iload_n 2, 1) := by decide +kernel
theorem dJ2_indexOf_4cfef_16 : decode cJ2_indexOf_4cfef 16 = .ok (.iload_n 3, 1) := by decide +kernel
theorem dJ2_indexOf_4cfef_17 : decode cJ2_indexOf_4cfef 17 = .ok (.if_icmp .lt 5, 3) := by decide +kernel
theorem dJ2_indexOf_4cfef_20 : decode cJ2_indexOf_4cfef 20 = .ok (.iconst (-1), 1) := by decide +kernel
theorem dJ2_indexOf_4cfef_21 : decode cJ2_indexOf_4cfef 21 = .ok (.ireturn, 1) := by decide +kernel
theorem dJ2_indexOf_4cfef_22 : decode cJ2_indexOf_4cfef 22 = .ok (.iload_n 1, 1) := by decide +kernel
theorem dJ2_indexOf_4cfef_23 : decode cJ2_indexOf_4cfef 23 = .ok (.ldc 227, 2) := by decide +kernel
theorem dJ2_indexOf_4cfef_25 : decode cJ2_indexOf_4cfef 25 = .ok (.if_icmp .ge 11, 3) := by decide +kernel
theorem dJ2_indexOf_4cfef_28 : decode cJ2_indexOf_4cfef 28 = .ok (.aload_n 0, 1) := by decide +kernel
theorem dJ2_indexOf_4cfef_29 : decode cJ2_indexOf_4cfef 29 = .ok (.iload_n 1, 1) := by decide +kernel
theorem dJ2_indexOf_4cfef_30 : decode cJ2_indexOf_4cfef 30 = .ok (.iload_n 2, 1) := by decide +kernel
theorem dJ2_indexOf_4cfef_31 : decode cJ2_indexOf_4cfef 31 = .ok (.iload_n 3, 1) := by decide +kernel
theorem dJ2_indexOf_4cfef_32 : decode cJ2_indexOf_4cfef 32 = .ok (.invokestatic 228, 3) := by decide +kernel
theorem dJ2_indexOf_4cfef_35 : decode cJ2_indexOf_4cfef 35 = .ok (.ireturn, 1) := by decide +kernel
theorem dJ2_indexOf_4cfef_36 : decode cJ2_indexOf_4cfef 36 = .ok (.aload_n 0, 1) := by decide +kernel
theorem dJ2_indexOf_4cfef_37 : decode cJ2_indexOf_4cfef 37 = .ok (.iload_n 1, 1) := by decide +kernel
theorem dJ2_indexOf_4cfef_38 : decode cJ2_indexOf_4cfef 38 = .ok (.iload_n 2, 1) := by decide +kernel
theorem dJ2_indexOf_4cfef_39 : decode cJ2_indexOf_4cfef 39 = .ok (.iload_n 3, 1) := by decide +kernel
theorem dJ2_indexOf_4cfef_40 : decode cJ2_indexOf_4cfef 40 = .ok (.invokestatic 232, 3) := by decide +kernel
theorem dJ2_indexOf_4cfef_43 : decode cJ2_indexOf_4cfef 43 = .ok (.ireturn, 1) := by decide +kernel
theorem dJ2_indexOfChar_4cfef_0 : decode cJ2_indexOfChar_4cfef 0 = .ok (.iload_n 2, 1) := by decide +kernel
theorem dJ2_indexOfChar_4cfef_1 : decode cJ2_indexOfChar_4cfef 1 = .ok (.iload_n 3, 1) := by decide +kernel
theorem dJ2_indexOfChar_4cfef_2 : decode cJ2_indexOfChar_4cfef 2 = .ok (.aload_n 0, 1) := by decide +kernel
theorem dJ2_indexOfChar_4cfef_3 : decode cJ2_indexOfChar_4cfef 3 = .ok (.invokestatic 96, 3) := by decide +kernel
theorem dJ2_indexOfChar_4cfef_6 : decode cJ2_indexOfChar_4cfef 6 = .ok (.aload_n 0, 1) := by decide +kernel
theorem dJ2_indexOfChar_4cfef_7 : decode cJ2_indexOfChar_4cfef 7 = .ok (.iload_n 1, 1) := by decide +kernel
theorem dJ2_indexOfChar_4cfef_8 : decode cJ2_indexOfChar_4cfef 8 = .ok (.iload_n 2, 1) := by decide +kernel
theorem dJ2_indexOfChar_4cfef_9 : decode cJ2_indexOfChar_4cfef 9 = .ok (.iload_n 3, 1) := by decide +kernel
theorem dJ2_indexOfChar_4cfef_10 : decode cJ2_indexOfChar_4cfef 10 = .ok (.invokestatic 244, 3) := by decide +kernel
theorem dJ2_indexOfChar_4cfef_13 : decode cJ2_indexOfChar_4cfef 13 = .ok (.ireturn, 1) := by decide +kernel
theorem dJ2_indexOfCharUnsafe_4cfef_0 : decode cJ2_indexOfCharUnsafe_4cfef 0 = .ok (.iload_n 2, 1) := by decide +kernel
theorem dJ2_indexOfCharUnsafe_4cfef_1 : decode cJ2_indexOfCharUnsafe_4cfef 1 = .ok (.istore 4, 2) := by decide +kernel
theorem dJ2_indexOfCharUnsafe_4cfef_3 : decode cJ2_indexOfCharUnsafe_4cfef 3 = .ok (.iload 4, 2) := by decide +kernel
theorem dJ2_indexOfCharUnsafe_4cfef_5 : decode cJ2_indexOfCharUnsafe_4cfef 5 = .ok (.iload_n 3, 1) := by decide +kernel
theorem dJ2_indexOfCharUnsafe_4cfef_6 : decode cJ2_indexOfCharUnsafe_4cfef 6 = .ok (.if_icmp .ge 22, 3) := by decide +kernel
theorem dJ2_indexOfCharUnsafe_4cfef_9 : decode cJ2_indexOfCharUnsafe_4cfef 9 = .ok (.aload_n 0, 1) := by decide +kernel
theorem dJ2_indexOfCharUnsafe_4cfef_10 : decode cJ2_indexOfCharUnsafe_4cfef 10 = .ok (.iload 4, 2) := by decide +kernel
theorem dJ2_indexOfCharUnsafe_4cfef_12 : decode cJ2_indexOfCharUnsafe_4cfef 12 = .ok (.invokestatic 71, 3) := by decide +kernel
theorem dJ2_indexOfCharUnsafe_4cfef_15 : decode cJ2_indexOfCharUnsafe_4cfef 15 = .ok (.iload_n 1, 1) := by decide +kernel
theorem dJ2_indexOfCharUnsafe_4cfef_16 : decode cJ2_indexOfCharUnsafe_4cfef 16 = .ok (.if_icmp .ne 6, 3) := by decide +kernel
theorem dJ2_indexOfCharUnsafe_4cfef_19 : decode cJ2_indexOfCharUnsafe_4cfef 19 = .ok (.iload 4, 2) := by decide +kernel
theorem dJ2_indexOfCharUnsafe_4cfef_21 : decode cJ2_indexOfCharUnsafe_4cfef 21 = .ok (.ireturn, 1) := by decide +kernel
theorem dJ2_indexOfCharUnsafe_4cfef_22 : decode cJ2_indexOfCharUnsafe_4cfef 22 = .ok (.iinc 4 1, 3) := by decide +kernel
theorem dJ2_indexOfCharUnsafe_4cfef_25 : decode cJ2_indexOfCharUnsafe_4cfef 25 = .ok (.goto (-22), 3) := by decide +kernel
theorem dJ2_indexOfCharUnsafe_4cfef_28 : decode cJ2_indexOfCharUnsafe_4cfef 28 = .ok (.iconst (-1), 1) := by decide +kernel
theorem dJ2_indexOfCharUnsafe_4cfef_29 : decode cJ2_indexOfCharUnsafe_4cfef 29 = .ok (.ireturn, 1) := by decide +kernel
theorem dJ2_indexOfSupplementary_4cfef_0 : decode cJ2_indexOfSupplementary_4cfef 0 = .ok (.iload_n 1, 1) := by decide +kernel
theorem dJ2_indexOfSupplementary_4cfef_1 : decode cJ2_indexOfSupplementary_4cfef 1 = .ok (.invokestatic 164, 3) := by decide +kernel
theorem dJ2_indexOfSupplementary_4cfef_4 : decode cJ2_indexOfSupplementary_4cfef 4 = .ok (.ifCond .eq 65, 3) := by decide +kernel
theorem dJ2_indexOfSupplementary_4cfef_7 : decode cJ2_indexOfSupplementary_4cfef 7 = .ok (.iload_n 1, 1) := by decide +kernel
theorem dJ2_indexOfSupplementary_4cfef_8 : decode cJ2_indexOfSupplementary_4cfef 8 = .ok (.invokestatic 157, 3) := by decide +kernel
theorem dJ2_indexOfSupplementary_4cfef_11 : decode cJ2_indexOfSupplementary_4cfef 11 = .ok (.istore 4, 2) := by decide +kernel
theorem dJ2_indexOfSupplementary_4cfef_13 : decode cJ2_indexOfSupplementary_4cfef 13 = .ok (.iload_n 1, 1) := by decide +kernel
theorem dJ2_indexOfSupplementary_4cfef_14 : decode cJ2_indexOfSupplementary_4cfef 14 = .ok (.invokestatic 161, 3) := by decide +kernel
theorem dJ2_indexOfSupplementary_4cfef_17 : decode cJ2_indexOfSupplementary_4cfef 17 = .ok (.istore 5, 2) := by decide +kernel
theorem dJ2_indexOfSupplementary_4cfef_19 : decode cJ2_indexOfSupplementary_4cfef 19 = .ok (.iload_n 2, 1) := by decide +kernel
theorem dJ2_indexOfSupplementary_4cfef_20 : decode cJ2_indexOfSupplementary_4cfef 20 = .ok (.iload_n 3, 1) := by decide +kernel
theorem dJ2_indexOfSupplementary_4cfef_21 : decode cJ2_indexOfSupplementary_4cfef 21 = .ok (.aload_n 0, 1) := by decide +kernel
theorem dJ2_indexOfSupplementary_4cfef_22 : decode cJ2_indexOfSupplementary_4cfef 22 = .ok (.invokestatic 96, 3) := by decide +kernel
theorem dJ2_indexOfSupplementary_4cfef_25 : decode cJ2_indexOfSupplementary_4cfef 25 = .ok (.iload_n 2, 1) := by decide +kernel
theorem dJ2_indexOfSupplementary_4cfef_26 : decode cJ2_indexOfSupplementary_4cfef 26 = .ok (.istore 6, 2) := by decide +kernel
theorem dJ2_indexOfSupplementary_4cfef_28 : decode cJ2_indexOfSupplementary_4cfef 28 = .ok (.iload 6, 2) := by decide +kernel
theorem dJ2_indexOfSupplementary_4cfef_30 : decode cJ2_indexOfSupplementary_4cfef 30 = .ok (.iload_n 3, 1) := by decide +kernel
theorem dJ2_indexOfSupplementary_4cfef_31 : decode cJ2_indexOfSupplementary_4cfef 31 = .ok (.iconst 1, 1) := by decide +kernel
theorem dJ2_indexOfSupplementary_4cfef_32 : decode cJ2_indexOfSupplementary_4cfef 32 = .ok (.isub, 1) := by decide +kernel
theorem dJ2_indexOfSupplementary_4cfef_33 : decode cJ2_indexOfSupplementary_4cfef 33 = .ok (.if_icmp .ge 36, 3) := by decide +kernel
theorem dJ2_indexOfSupplementary_4cfef_36 : decode cJ2_indexOfSupplementary_4cfef 36 = .ok (.aload_n 0, 1) := by decide +kernel
theorem dJ2_indexOfSupplementary_4cfef_37 : decode cJ2_indexOfSupplementary_4cfef 37 = .ok (.iload 6, 2) := by decide +kernel
theorem dJ2_indexOfSupplementary_4cfef_39 : decode cJ2_indexOfSupplementary_4cfef 39 = .ok (.invokestatic 71, 3) := by decide +kernel
theorem dJ2_indexOfSupplementary_4cfef_42 : decode cJ2_indexOfSupplementary_4cfef 42 = .ok (.iload 4, 2) := by decide +kernel
theorem dJ2_indexOfSupplementary_4cfef_44 : decode cJ2_indexOfSupplementary_4cfef 44 = .ok (.if_icmp .ne 19, 3) := by decide +kernel
theorem dJ2_indexOfSupplementary_4cfef_47 : decode cJ2_indexOfSupplementary_4cfef 47 = .ok (.aload_n 0, 1) := by decide +kernel
theorem dJ2_indexOfSupplementary_4cfef_48 : decode cJ2_indexOfSupplementary_4cfef 48 = .ok (.iload 6, 2) := by decide +kernel
theorem dJ2_indexOfSupplementary_4cfef_50 : decode cJ2_indexOfSupplementary_4cfef 50 = .ok (.iconst 1, 1) := by decide +kernel
theorem dJ2_indexOfSupplementary_4cfef_51 : decode cJ2_indexOfSupplementary_4cfef 51 = .ok (.iadd, 1) := by decide +kernel
theorem dJ2_indexOfSupplementary_4cfef_52 : decode cJ2_indexOfSupplementary_4cfef 52 = .ok (.invokestatic 71, 3) := by decide +kernel
theorem dJ2_indexOfSupplementary_4cfef_55 : decode cJ2_indexOfSupplementary_4cfef 55 = .ok (.iload 5, 2) := by decide +kernel
theorem dJ2_indexOfSupplementary_4cfef_57 : decode cJ2_indexOfSupplementary_4cfef 57 = .ok (.if_icmp .ne 6, 3) := by decide +kernel
theorem dJ2_indexOfSupplementary_4cfef_60 : decode cJ2_indexOfSupplementary_4cfef 60 = .ok (.iload 6, 2) := by decide +kernel
theorem dJ2_indexOfSupplementary_4cfef_62 : decode cJ2_indexOfSupplementary_4cfef 62 = .ok (.ireturn, 1) := by decide +kernel
theorem dJ2_indexOfSupplementary_4cfef_63 : decode cJ2_indexOfSupplementary_4cfef 63 = .ok (.iinc 6 1, 3) := by decide +kernel
theorem dJ2_indexOfSupplementary_4cfef_66 : decode cJ2_indexOfSupplementary_4cfef 66 = .ok (.goto (-38), 3) := by decide +kernel
theorem dJ2_indexOfSupplementary_4cfef_69 : decode cJ2_indexOfSupplementary_4cfef 69 = .ok (.iconst (-1), 1) := by decide +kernel
theorem dJ2_indexOfSupplementary_4cfef_70 : decode cJ2_indexOfSupplementary_4cfef 70 = .ok (.ireturn, 1) := by decide +kernel
theorem dJ2_checkBoundsBeginEnd_d044e_0 : decode cJ2_checkBoundsBeginEnd_d044e 0 = .ok (.iload_n 0, 1) := by decide +kernel
theorem dJ2_checkBoundsBeginEnd_d044e_1 : decode cJ2_checkBoundsBeginEnd_d044e 1 = .ok (.iload_n 1, 1) := by decide +kernel
theorem dJ2_checkBoundsBeginEnd_d044e_2 : decode cJ2_checkBoundsBeginEnd_d044e 2 = .ok (.aload_n 2, 1) := by decide +kernel
theorem dJ2_checkBoundsBeginEnd_d044e_3 : decode cJ2_checkBoundsBeginEnd_d044e 3 = .ok (.invokestatic 48, 3) := by decide +kernel
theorem dJ2_checkBoundsBeginEnd_d044e_6 : decode cJ2_checkBoundsBeginEnd_d044e 6 = .ok (.invokestatic 241, 3) := by decide +kernel
theorem dJ2_checkBoundsBeginEnd_d044e_9 : decode cJ2_checkBoundsBeginEnd_d044e 9 = .ok (.return_, 1) := by decide +kernel
theorem dJ3_checkFromToIndex_8c36e_0 : decode cJ3_checkFromToIndex_8c36e 0 = .ok (.iload_n 0, 1) := by decide +kernel
theorem dJ3_checkFromToIndex_8c36e_1 : decode cJ3_checkFromToIndex_8c36e 1 = .ok (.ifCond .lt 13, 3) := by decide +kernel
theorem dJ3_checkFromToIndex_8c36e_4 : decode cJ3_checkFromToIndex_8c36e 4 = .ok (.iload_n 0, 1) := by decide +kernel
theorem dJ3_checkFromToIndex_8c36e_5 : decode cJ3_checkFromToIndex_8c36e 5 = .ok (.iload_n 1, 1) := by decide +kernel
theorem dJ3_checkFromToIndex_8c36e_6 : decode cJ3_checkFromToIndex_8c36e 6 = .ok (.if_icmp .gt 8, 3) := by decide +kernel
theorem dJ3_checkFromToIndex_8c36e_9 : decode cJ3_checkFromToIndex_8c36e 9 = .ok (.iload_n 1, 1) := by decide +kernel
theorem dJ3_checkFromToIndex_8c36e_10 : decode cJ3_checkFromToIndex_8c36e 10 = .ok (.iload_n 2, 1) := by decide +kernel
theorem dJ3_checkFromToIndex_8c36e_11 : decode cJ3_checkFromToIndex_8c36e 11 = .ok (.if_icmp .le 11, 3) := by decide +kernel
theorem dJ3_checkFromToIndex_8c36e_14 : decode cJ3_checkFromToIndex_8c36e 14 = .ok (.aload_n 3, 1) := by decide +kernel
theorem dJ3_checkFromToIndex_8c36e_15 : decode cJ3_checkFromToIndex_8c36e 15 = .ok (.iload_n 0, 1) := by decide +kernel
theorem dJ3_checkFromToIndex_8c36e_16 : decode cJ3_checkFromToIndex_8c36e 16 = .ok (.iload_n 1, 1) := by decide +kernel
theorem dJ3_checkFromToIndex_8c36e_17 : decode cJ3_checkFromToIndex_8c36e 17 = .ok (.iload_n 2, 1) := by decide +kernel
theorem dJ3_checkFromToIndex_8c36e_18 : decode cJ3_checkFromToIndex_8c36e 18 = .ok (.invokestatic 99, 3) := by decide +kernel
theorem dJ3_checkFromToIndex_8c36e_21 : decode cJ3_checkFromToIndex_8c36e 21 = .ok (.athrow, 1) := by decide +kernel
theorem dJ3_checkFromToIndex_8c36e_22 : decode cJ3_checkFromToIndex_8c36e 22 = .ok (.iload_n 0, 1) := by decide +kernel
theorem dJ3_checkFromToIndex_8c36e_23 : decode cJ3_checkFromToIndex_8c36e 23 = .ok (.ireturn, 1) := by decide +kernel
theorem dL_law_0 : decode cL_law 0 = .ok (.new 7, 3) := by decide +kernel
theorem dL_law_3 : decode cL_law 3 = .ok (.dup, 1) := by decide +kernel
theorem dL_law_4 : decode cL_law 4 = .ok (.invokespecial 9, 3) := by decide +kernel
theorem dL_law_7 : decode cL_law 7 = .ok (.astore_n 1, 1) := by decide +kernel
theorem dL_law_8 : decode cL_law 8 = .ok (.new 10, 3) := by decide +kernel
theorem dL_law_11 : decode cL_law 11 = .ok (.dup, 1) := by decide +kernel
theorem dL_law_12 : decode cL_law 12 = .ok (.invokespecial 12, 3) := by decide +kernel
theorem dL_law_15 : decode cL_law 15 = .ok (.astore_n 2, 1) := by decide +kernel
theorem dL_law_16 : decode cL_law 16 = .ok (.iconst 0, 1) := by decide +kernel
theorem dL_law_17 : decode cL_law 17 = .ok (.istore_n 3, 1) := by decide +kernel
theorem dL_law_18 : decode cL_law 18 = .ok (.iload_n 3, 1) := by decide +kernel
theorem dL_law_19 : decode cL_law 19 = .ok (.aload_n 0, 1) := by decide +kernel
theorem dL_law_20 : decode cL_law 20 = .ok (.arraylength, 1) := by decide +kernel
theorem dL_law_21 : decode cL_law 21 = .ok (.bipush 6, 2) := by decide +kernel
theorem dL_law_23 : decode cL_law 23 = .ok (.isub, 1) := by decide +kernel
theorem dL_law_24 : decode cL_law 24 = .ok (.if_icmp .gt 724, 3) := by decide +kernel
theorem dL_law_27 : decode cL_law 27 = .ok (.aload_n 0, 1) := by decide +kernel
theorem dL_law_28 : decode cL_law 28 = .ok (.iload_n 3, 1) := by decide +kernel
theorem dL_law_29 : decode cL_law 29 = .ok (.iaload, 1) := by decide +kernel
theorem dL_law_30 : decode cL_law 30 = .ok (.bipush 31, 2) := by decide +kernel
theorem dL_law_32 : decode cL_law 32 = .ok (.iand, 1) := by decide +kernel
theorem dL_law_33 : decode cL_law 33 = .ok (.tableswitch 709 0 21 #[103, 136, 169, 212, 275, 328, 341, 354, 367, 390, 413, 426, 439, 452, 475, 508, 541, 564, 587, 640, 663, 686], 103) := by decide +kernel
theorem dL_law_136 : decode cL_law 136 = .ok (.aload_n 1, 1) := by decide +kernel
theorem dL_law_137 : decode cL_law 137 = .ok (.aload_n 0, 1) := by decide +kernel
theorem dL_law_138 : decode cL_law 138 = .ok (.iload_n 3, 1) := by decide +kernel
theorem dL_law_139 : decode cL_law 139 = .ok (.iconst 1, 1) := by decide +kernel
theorem dL_law_140 : decode cL_law 140 = .ok (.iadd, 1) := by decide +kernel
theorem dL_law_141 : decode cL_law 141 = .ok (.iaload, 1) := by decide +kernel
theorem dL_law_142 : decode cL_law 142 = .ok (.aload_n 0, 1) := by decide +kernel
theorem dL_law_143 : decode cL_law 143 = .ok (.iload_n 3, 1) := by decide +kernel
theorem dL_law_144 : decode cL_law 144 = .ok (.iconst 2, 1) := by decide +kernel
theorem dL_law_145 : decode cL_law 145 = .ok (.iadd, 1) := by decide +kernel
theorem dL_law_146 : decode cL_law 146 = .ok (.iaload, 1) := by decide +kernel
theorem dL_law_147 : decode cL_law 147 = .ok (.invokevirtual 13, 3) := by decide +kernel
theorem dL_law_150 : decode cL_law 150 = .ok (.aload_n 2, 1) := by decide +kernel
theorem dL_law_151 : decode cL_law 151 = .ok (.aload_n 0, 1) := by decide +kernel
theorem dL_law_152 : decode cL_law 152 = .ok (.iload_n 3, 1) := by decide +kernel
theorem dL_law_153 : decode cL_law 153 = .ok (.iconst 1, 1) := by decide +kernel
theorem dL_law_154 : decode cL_law 154 = .ok (.iadd, 1) := by decide +kernel
theorem dL_law_155 : decode cL_law 155 = .ok (.iaload, 1) := by decide +kernel
theorem dL_law_156 : decode cL_law 156 = .ok (.aload_n 0, 1) := by decide +kernel
theorem dL_law_157 : decode cL_law 157 = .ok (.iload_n 3, 1) := by decide +kernel
theorem dL_law_158 : decode cL_law 158 = .ok (.iconst 2, 1) := by decide +kernel
theorem dL_law_159 : decode cL_law 159 = .ok (.iadd, 1) := by decide +kernel
theorem dL_law_160 : decode cL_law 160 = .ok (.iaload, 1) := by decide +kernel
theorem dL_law_161 : decode cL_law 161 = .ok (.invokevirtual 17, 3) := by decide +kernel
theorem dL_law_164 : decode cL_law 164 = .ok (.if_icmp .eq 578, 3) := by decide +kernel
theorem dL_law_167 : decode cL_law 167 = .ok (.iconst 0, 1) := by decide +kernel
theorem dL_law_168 : decode cL_law 168 = .ok (.ireturn, 1) := by decide +kernel
theorem dL_law_169 : decode cL_law 169 = .ok (.aload_n 1, 1) := by decide +kernel
theorem dL_law_170 : decode cL_law 170 = .ok (.aload_n 0, 1) := by decide +kernel
theorem dL_law_171 : decode cL_law 171 = .ok (.iload_n 3, 1) := by decide +kernel
theorem dL_law_172 : decode cL_law 172 = .ok (.iconst 1, 1) := by decide +kernel
theorem dL_law_173 : decode cL_law 173 = .ok (.iadd, 1) := by decide +kernel
theorem dL_law_174 : decode cL_law 174 = .ok (.iaload, 1) := by decide +kernel
theorem dL_law_175 : decode cL_law 175 = .ok (.aload_n 0, 1) := by decide +kernel
theorem dL_law_176 : decode cL_law 176 = .ok (.iload_n 3, 1) := by decide +kernel
theorem dL_law_177 : decode cL_law 177 = .ok (.iconst 2, 1) := by decide +kernel
theorem dL_law_178 : decode cL_law 178 = .ok (.iadd, 1) := by decide +kernel
theorem dL_law_179 : decode cL_law 179 = .ok (.iaload, 1) := by decide +kernel
theorem dL_law_180 : decode cL_law 180 = .ok (.invokevirtual 18, 3) := by decide +kernel
theorem dL_law_183 : decode cL_law 183 = .ok (.aload_n 2, 1) := by decide +kernel
theorem dL_law_184 : decode cL_law 184 = .ok (.aload_n 0, 1) := by decide +kernel
theorem dL_law_185 : decode cL_law 185 = .ok (.iload_n 3, 1) := by decide +kernel
theorem dL_law_186 : decode cL_law 186 = .ok (.iconst 1, 1) := by decide +kernel
theorem dL_law_187 : decode cL_law 187 = .ok (.iadd, 1) := by decide +kernel
theorem dL_law_188 : decode cL_law 188 = .ok (.iaload, 1) := by decide +kernel
theorem dL_law_189 : decode cL_law 189 = .ok (.aload_n 0, 1) := by decide +kernel
theorem dL_law_190 : decode cL_law 190 = .ok (.iload_n 3, 1) := by decide +kernel
theorem dL_law_191 : decode cL_law 191 = .ok (.iconst 2, 1) := by decide +kernel
theorem dL_law_192 : decode cL_law 192 = .ok (.iadd, 1) := by decide +kernel
theorem dL_law_193 : decode cL_law 193 = .ok (.iaload, 1) := by decide +kernel
theorem dL_law_194 : decode cL_law 194 = .ok (.invokevirtual 21, 3) := by decide +kernel
theorem dL_law_197 : decode cL_law 197 = .ok (.if_icmp .eq 545, 3) := by decide +kernel
theorem dL_law_200 : decode cL_law 200 = .ok (.iconst 0, 1) := by decide +kernel
theorem dL_law_201 : decode cL_law 201 = .ok (.ireturn, 1) := by decide +kernel
theorem dL_law_202 : decode cL_law 202 = .ok (.aload_n 1, 1) := by decide +kernel
theorem dL_law_203 : decode cL_law 203 = .ok (.aload_n 0, 1) := by decide +kernel
theorem dL_law_204 : decode cL_law 204 = .ok (.iload_n 3, 1) := by decide +kernel
theorem dL_law_205 : decode cL_law 205 = .ok (.iconst 1, 1) := by decide +kernel
theorem dL_law_206 : decode cL_law 206 = .ok (.iadd, 1) := by decide +kernel
theorem dL_law_207 : decode cL_law 207 = .ok (.iaload, 1) := by decide +kernel
theorem dL_law_208 : decode cL_law 208 = .ok (.aload_n 0, 1) := by decide +kernel
theorem dL_law_209 : decode cL_law 209 = .ok (.iload_n 3, 1) := by decide +kernel
theorem dL_law_210 : decode cL_law 210 = .ok (.iconst 2, 1) := by decide +kernel
theorem dL_law_211 : decode cL_law 211 = .ok (.iadd, 1) := by decide +kernel
theorem dL_law_212 : decode cL_law 212 = .ok (.iaload, 1) := by decide +kernel
theorem dL_law_213 : decode cL_law 213 = .ok (.aload_n 0, 1) := by decide +kernel
theorem dL_law_214 : decode cL_law 214 = .ok (.iload_n 3, 1) := by decide +kernel
theorem dL_law_215 : decode cL_law 215 = .ok (.iconst 3, 1) := by decide +kernel
theorem dL_law_216 : decode cL_law 216 = .ok (.iadd, 1) := by decide +kernel
theorem dL_law_217 : decode cL_law 217 = .ok (.iaload, 1) := by decide +kernel
theorem dL_law_218 : decode cL_law 218 = .ok (.invokevirtual 22, 3) := by decide +kernel
theorem dL_law_221 : decode cL_law 221 = .ok (.aload_n 2, 1) := by decide +kernel
theorem dL_law_222 : decode cL_law 222 = .ok (.aload_n 0, 1) := by decide +kernel
theorem dL_law_223 : decode cL_law 223 = .ok (.iload_n 3, 1) := by decide +kernel
theorem dL_law_224 : decode cL_law 224 = .ok (.iconst 1, 1) := by decide +kernel
theorem dL_law_225 : decode cL_law 225 = .ok (.iadd, 1) := by decide +kernel
theorem dL_law_226 : decode cL_law 226 = .ok (.iaload, 1) := by decide +kernel
theorem dL_law_227 : decode cL_law 227 = .ok (.aload_n 0, 1) := by decide +kernel
theorem dL_law_228 : decode cL_law 228 = .ok (.iload_n 3, 1) := by decide +kernel
theorem dL_law_229 : decode cL_law 229 = .ok (.iconst 2, 1) := by decide +kernel
theorem dL_law_230 : decode cL_law 230 = .ok (.iadd, 1) := by decide +kernel
theorem dL_law_231 : decode cL_law 231 = .ok (.iaload, 1) := by decide +kernel
theorem dL_law_232 : decode cL_law 232 = .ok (.aload_n 0, 1) := by decide +kernel
theorem dL_law_233 : decode cL_law 233 = .ok (.iload_n 3, 1) := by decide +kernel
theorem dL_law_234 : decode cL_law 234 = .ok (.iconst 3, 1) := by decide +kernel
theorem dL_law_235 : decode cL_law 235 = .ok (.iadd, 1) := by decide +kernel
theorem dL_law_236 : decode cL_law 236 = .ok (.iaload, 1) := by decide +kernel
theorem dL_law_237 : decode cL_law 237 = .ok (.invokevirtual 26, 3) := by decide +kernel
theorem dL_law_240 : decode cL_law 240 = .ok (.if_icmp .eq 502, 3) := by decide +kernel
theorem dL_law_243 : decode cL_law 243 = .ok (.iconst 0, 1) := by decide +kernel
theorem dL_law_244 : decode cL_law 244 = .ok (.ireturn, 1) := by decide +kernel
theorem dL_law_245 : decode cL_law 245 = .ok (.aload_n 1, 1) := by decide +kernel
theorem dL_law_246 : decode cL_law 246 = .ok (.aload_n 0, 1) := by decide +kernel
theorem dL_law_247 : decode cL_law 247 = .ok (.iload_n 3, 1) := by decide +kernel
theorem dL_law_248 : decode cL_law 248 = .ok (.iconst 1, 1) := by decide +kernel
theorem dL_law_249 : decode cL_law 249 = .ok (.iadd, 1) := by decide +kernel
theorem dL_law_250 : decode cL_law 250 = .ok (.iaload, 1) := by decide +kernel
theorem dL_law_251 : decode cL_law 251 = .ok (.aload_n 0, 1) := by decide +kernel
theorem dL_law_252 : decode cL_law 252 = .ok (.iload_n 3, 1) := by decide +kernel
theorem dL_law_253 : decode cL_law 253 = .ok (.iconst 2, 1) := by decide +kernel
theorem dL_law_254 : decode cL_law 254 = .ok (.iadd, 1) := by decide +kernel
theorem dL_law_255 : decode cL_law 255 = .ok (.iaload, 1) := by decide +kernel
theorem dL_law_256 : decode cL_law 256 = .ok (.aload_n 0, 1) := by decide +kernel
theorem dL_law_257 : decode cL_law 257 = .ok (.iload_n 3, 1) := by decide +kernel
theorem dL_law_258 : decode cL_law 258 = .ok (.iconst 3, 1) := by decide +kernel
theorem dL_law_259 : decode cL_law 259 = .ok (.iadd, 1) := by decide +kernel
theorem dL_law_260 : decode cL_law 260 = .ok (.iaload, 1) := by decide +kernel
theorem dL_law_261 : decode cL_law 261 = .ok (.aload_n 0, 1) := by decide +kernel
theorem dL_law_262 : decode cL_law 262 = .ok (.iload_n 3, 1) := by decide +kernel
theorem dL_law_263 : decode cL_law 263 = .ok (.iconst 4, 1) := by decide +kernel
theorem dL_law_264 : decode cL_law 264 = .ok (.iadd, 1) := by decide +kernel
theorem dL_law_265 : decode cL_law 265 = .ok (.iaload, 1) := by decide +kernel
theorem dL_law_266 : decode cL_law 266 = .ok (.aload_n 0, 1) := by decide +kernel
theorem dL_law_267 : decode cL_law 267 = .ok (.iload_n 3, 1) := by decide +kernel
theorem dL_law_268 : decode cL_law 268 = .ok (.iconst 5, 1) := by decide +kernel
theorem dL_law_269 : decode cL_law 269 = .ok (.iadd, 1) := by decide +kernel
theorem dL_law_270 : decode cL_law 270 = .ok (.iaload, 1) := by decide +kernel
theorem dL_law_271 : decode cL_law 271 = .ok (.invokevirtual 27, 3) := by decide +kernel
theorem dL_law_274 : decode cL_law 274 = .ok (.aload_n 2, 1) := by decide +kernel
theorem dL_law_275 : decode cL_law 275 = .ok (.aload_n 0, 1) := by decide +kernel
theorem dL_law_276 : decode cL_law 276 = .ok (.iload_n 3, 1) := by decide +kernel
theorem dL_law_277 : decode cL_law 277 = .ok (.iconst 1, 1) := by decide +kernel
theorem dL_law_278 : decode cL_law 278 = .ok (.iadd, 1) := by decide +kernel
theorem dL_law_279 : decode cL_law 279 = .ok (.iaload, 1) := by decide +kernel
theorem dL_law_280 : decode cL_law 280 = .ok (.aload_n 0, 1) := by decide +kernel
theorem dL_law_281 : decode cL_law 281 = .ok (.iload_n 3, 1) := by decide +kernel
theorem dL_law_282 : decode cL_law 282 = .ok (.iconst 2, 1) := by decide +kernel
theorem dL_law_283 : decode cL_law 283 = .ok (.iadd, 1) := by decide +kernel
theorem dL_law_284 : decode cL_law 284 = .ok (.iaload, 1) := by decide +kernel
theorem dL_law_285 : decode cL_law 285 = .ok (.aload_n 0, 1) := by decide +kernel
theorem dL_law_286 : decode cL_law 286 = .ok (.iload_n 3, 1) := by decide +kernel
theorem dL_law_287 : decode cL_law 287 = .ok (.iconst 3, 1) := by decide +kernel
theorem dL_law_288 : decode cL_law 288 = .ok (.iadd, 1) := by decide +kernel
theorem dL_law_289 : decode cL_law 289 = .ok (.iaload, 1) := by decide +kernel
theorem dL_law_290 : decode cL_law 290 = .ok (.aload_n 0, 1) := by decide +kernel
theorem dL_law_291 : decode cL_law 291 = .ok (.iload_n 3, 1) := by decide +kernel
theorem dL_law_292 : decode cL_law 292 = .ok (.iconst 4, 1) := by decide +kernel
theorem dL_law_293 : decode cL_law 293 = .ok (.iadd, 1) := by decide +kernel
theorem dL_law_294 : decode cL_law 294 = .ok (.iaload, 1) := by decide +kernel
theorem dL_law_295 : decode cL_law 295 = .ok (.aload_n 0, 1) := by decide +kernel
theorem dL_law_296 : decode cL_law 296 = .ok (.iload_n 3, 1) := by decide +kernel
theorem dL_law_297 : decode cL_law 297 = .ok (.iconst 5, 1) := by decide +kernel
theorem dL_law_298 : decode cL_law 298 = .ok (.iadd, 1) := by decide +kernel
theorem dL_law_299 : decode cL_law 299 = .ok (.iaload, 1) := by decide +kernel
theorem dL_law_300 : decode cL_law 300 = .ok (.invokevirtual 31, 3) := by decide +kernel
theorem dL_law_303 : decode cL_law 303 = .ok (.if_icmp .eq 439, 3) := by decide +kernel
theorem dL_law_306 : decode cL_law 306 = .ok (.iconst 0, 1) := by decide +kernel
theorem dL_law_307 : decode cL_law 307 = .ok (.ireturn, 1) := by decide +kernel
theorem dL_law_308 : decode cL_law 308 = .ok (.aload_n 1, 1) := by decide +kernel
theorem dL_law_309 : decode cL_law 309 = .ok (.aload_n 0, 1) := by decide +kernel
theorem dL_law_310 : decode cL_law 310 = .ok (.iload_n 3, 1) := by decide +kernel
theorem dL_law_311 : decode cL_law 311 = .ok (.iconst 1, 1) := by decide +kernel
theorem dL_law_312 : decode cL_law 312 = .ok (.iadd, 1) := by decide +kernel
theorem dL_law_313 : decode cL_law 313 = .ok (.iaload, 1) := by decide +kernel
theorem dL_law_314 : decode cL_law 314 = .ok (.i2l, 1) := by decide +kernel
theorem dL_law_315 : decode cL_law 315 = .ok (.bipush 32, 2) := by decide +kernel
theorem dL_law_317 : decode cL_law 317 = .ok (.lshl, 1) := by decide +kernel
theorem dL_law_318 : decode cL_law 318 = .ok (.aload_n 0, 1) := by decide +kernel
theorem dL_law_319 : decode cL_law 319 = .ok (.iload_n 3, 1) := by decide +kernel
theorem dL_law_320 : decode cL_law 320 = .ok (.iconst 2, 1) := by decide +kernel
theorem dL_law_321 : decode cL_law 321 = .ok (.iadd, 1) := by decide +kernel
theorem dL_law_322 : decode cL_law 322 = .ok (.iaload, 1) := by decide +kernel
theorem dL_law_323 : decode cL_law 323 = .ok (.i2l, 1) := by decide +kernel
theorem dL_law_324 : decode cL_law 324 = .ok (.ldc2_w 32, 3) := by decide +kernel
theorem dL_law_327 : decode cL_law 327 = .ok (.land, 1) := by decide +kernel
theorem dL_law_328 : decode cL_law 328 = .ok (.lor, 1) := by decide +kernel
theorem dL_law_329 : decode cL_law 329 = .ok (.invokevirtual 34, 3) := by decide +kernel
theorem dL_law_332 : decode cL_law 332 = .ok (.aload_n 2, 1) := by decide +kernel
theorem dL_law_333 : decode cL_law 333 = .ok (.aload_n 0, 1) := by decide +kernel
theorem dL_law_334 : decode cL_law 334 = .ok (.iload_n 3, 1) := by decide +kernel
theorem dL_law_335 : decode cL_law 335 = .ok (.iconst 1, 1) := by decide +kernel
theorem dL_law_336 : decode cL_law 336 = .ok (.iadd, 1) := by decide +kernel
theorem dL_law_337 : decode cL_law 337 = .ok (.iaload, 1) := by decide +kernel
theorem dL_law_338 : decode cL_law 338 = .ok (.i2l, 1) := by decide +kernel
theorem dL_law_339 : decode cL_law 339 = .ok (.bipush 32, 2) := by decide +kernel
theorem dL_law_341 : decode cL_law 341 = .ok (.lshl, 1) := by decide +kernel
theorem dL_law_342 : decode cL_law 342 = .ok (.aload_n 0, 1) := by decide +kernel
theorem dL_law_343 : decode cL_law 343 = .ok (.iload_n 3, 1) := by decide +kernel
theorem dL_law_344 : decode cL_law 344 = .ok (.iconst 2, 1) := by decide +kernel
theorem dL_law_345 : decode cL_law 345 = .ok (.iadd, 1) := by decide +kernel
theorem dL_law_346 : decode cL_law 346 = .ok (.iaload, 1) := by decide +kernel
theorem dL_law_347 : decode cL_law 347 = .ok (.i2l, 1) := by decide +kernel
theorem dL_law_348 : decode cL_law 348 = .ok (.ldc2_w 32, 3) := by decide +kernel
theorem dL_law_351 : decode cL_law 351 = .ok (.land, 1) := by decide +kernel
theorem dL_law_352 : decode cL_law 352 = .ok (.lor, 1) := by decide +kernel
theorem dL_law_353 : decode cL_law 353 = .ok (.invokevirtual 38, 3) := by decide +kernel
theorem dL_law_356 : decode cL_law 356 = .ok (.if_icmp .eq 386, 3) := by decide +kernel
theorem dL_law_359 : decode cL_law 359 = .ok (.iconst 0, 1) := by decide +kernel
theorem dL_law_360 : decode cL_law 360 = .ok (.ireturn, 1) := by decide +kernel
theorem dL_law_361 : decode cL_law 361 = .ok (.aload_n 1, 1) := by decide +kernel
theorem dL_law_362 : decode cL_law 362 = .ok (.invokevirtual 39, 3) := by decide +kernel
theorem dL_law_365 : decode cL_law 365 = .ok (.aload_n 2, 1) := by decide +kernel
theorem dL_law_366 : decode cL_law 366 = .ok (.invokevirtual 43, 3) := by decide +kernel
theorem dL_law_369 : decode cL_law 369 = .ok (.if_icmp .eq 373, 3) := by decide +kernel
theorem dL_law_372 : decode cL_law 372 = .ok (.iconst 0, 1) := by decide +kernel
theorem dL_law_373 : decode cL_law 373 = .ok (.ireturn, 1) := by decide +kernel
theorem dL_law_374 : decode cL_law 374 = .ok (.aload_n 1, 1) := by decide +kernel
theorem dL_law_375 : decode cL_law 375 = .ok (.invokevirtual 44, 3) := by decide +kernel
theorem dL_law_378 : decode cL_law 378 = .ok (.aload_n 2, 1) := by decide +kernel
theorem dL_law_379 : decode cL_law 379 = .ok (.invokevirtual 47, 3) := by decide +kernel
theorem dL_law_382 : decode cL_law 382 = .ok (.if_icmp .eq 360, 3) := by decide +kernel
theorem dL_law_385 : decode cL_law 385 = .ok (.iconst 0, 1) := by decide +kernel
theorem dL_law_386 : decode cL_law 386 = .ok (.ireturn, 1) := by decide +kernel
theorem dL_law_387 : decode cL_law 387 = .ok (.aload_n 1, 1) := by decide +kernel
theorem dL_law_388 : decode cL_law 388 = .ok (.invokevirtual 48, 3) := by decide +kernel
theorem dL_law_391 : decode cL_law 391 = .ok (.aload_n 2, 1) := by decide +kernel
theorem dL_law_392 : decode cL_law 392 = .ok (.invokevirtual 51, 3) := by decide +kernel
theorem dL_law_395 : decode cL_law 395 = .ok (.if_icmp .eq 347, 3) := by decide +kernel
theorem dL_law_398 : decode cL_law 398 = .ok (.iconst 0, 1) := by decide +kernel
theorem dL_law_399 : decode cL_law 399 = .ok (.ireturn, 1) := by decide +kernel
theorem dL_law_400 : decode cL_law 400 = .ok (.aload_n 1, 1) := by decide +kernel
theorem dL_law_401 : decode cL_law 401 = .ok (.aload_n 0, 1) := by decide +kernel
theorem dL_law_402 : decode cL_law 402 = .ok (.iload_n 3, 1) := by decide +kernel
theorem dL_law_403 : decode cL_law 403 = .ok (.iconst 1, 1) := by decide +kernel
theorem dL_law_404 : decode cL_law 404 = .ok (.iadd, 1) := by decide +kernel
theorem dL_law_405 : decode cL_law 405 = .ok (.iaload, 1) := by decide +kernel
theorem dL_law_406 : decode cL_law 406 = .ok (.invokevirtual 52, 3) := by decide +kernel
theorem dL_law_409 : decode cL_law 409 = .ok (.aload_n 2, 1) := by decide +kernel
theorem dL_law_410 : decode cL_law 410 = .ok (.aload_n 0, 1) := by decide +kernel
theorem dL_law_411 : decode cL_law 411 = .ok (.iload_n 3, 1) := by decide +kernel
theorem dL_law_412 : decode cL_law 412 = .ok (.iconst 1, 1) := by decide +kernel
theorem dL_law_413 : decode cL_law 413 = .ok (.iadd, 1) := by decide +kernel
theorem dL_law_414 : decode cL_law 414 = .ok (.iaload, 1) := by decide +kernel
theorem dL_law_415 : decode cL_law 415 = .ok (.invokevirtual 56, 3) := by decide +kernel
theorem dL_law_418 : decode cL_law 418 = .ok (.if_icmp .eq 324, 3) := by decide +kernel
theorem dL_law_421 : decode cL_law 421 = .ok (.iconst 0, 1) := by decide +kernel
theorem dL_law_422 : decode cL_law 422 = .ok (.ireturn, 1) := by decide +kernel
theorem dL_law_423 : decode cL_law 423 = .ok (.aload_n 1, 1) := by decide +kernel
theorem dL_law_424 : decode cL_law 424 = .ok (.aload_n 0, 1) := by decide +kernel
theorem dL_law_425 : decode cL_law 425 = .ok (.iload_n 3, 1) := by decide +kernel
theorem dL_law_426 : decode cL_law 426 = .ok (.iconst 1, 1) := by decide +kernel
theorem dL_law_427 : decode cL_law 427 = .ok (.iadd, 1) := by decide +kernel
theorem dL_law_428 : decode cL_law 428 = .ok (.iaload, 1) := by decide +kernel
theorem dL_law_429 : decode cL_law 429 = .ok (.invokevirtual 57, 3) := by decide +kernel
theorem dL_law_432 : decode cL_law 432 = .ok (.aload_n 2, 1) := by decide +kernel
theorem dL_law_433 : decode cL_law 433 = .ok (.aload_n 0, 1) := by decide +kernel
theorem dL_law_434 : decode cL_law 434 = .ok (.iload_n 3, 1) := by decide +kernel
theorem dL_law_435 : decode cL_law 435 = .ok (.iconst 1, 1) := by decide +kernel
theorem dL_law_436 : decode cL_law 436 = .ok (.iadd, 1) := by decide +kernel
theorem dL_law_437 : decode cL_law 437 = .ok (.iaload, 1) := by decide +kernel
theorem dL_law_438 : decode cL_law 438 = .ok (.invokevirtual 60, 3) := by decide +kernel
theorem dL_law_441 : decode cL_law 441 = .ok (.if_icmp .eq 301, 3) := by decide +kernel
theorem dL_law_444 : decode cL_law 444 = .ok (.iconst 0, 1) := by decide +kernel
theorem dL_law_445 : decode cL_law 445 = .ok (.ireturn, 1) := by decide +kernel
theorem dL_law_446 : decode cL_law 446 = .ok (.aload_n 1, 1) := by decide +kernel
theorem dL_law_447 : decode cL_law 447 = .ok (.invokevirtual 61, 3) := by decide +kernel
theorem dL_law_450 : decode cL_law 450 = .ok (.aload_n 2, 1) := by decide +kernel
theorem dL_law_451 : decode cL_law 451 = .ok (.invokevirtual 64, 3) := by decide +kernel
theorem dL_law_454 : decode cL_law 454 = .ok (.if_icmp .eq 288, 3) := by decide +kernel
theorem dL_law_457 : decode cL_law 457 = .ok (.iconst 0, 1) := by decide +kernel
theorem dL_law_458 : decode cL_law 458 = .ok (.ireturn, 1) := by decide +kernel
theorem dL_law_459 : decode cL_law 459 = .ok (.aload_n 1, 1) := by decide +kernel
theorem dL_law_460 : decode cL_law 460 = .ok (.invokevirtual 65, 3) := by decide +kernel
theorem dL_law_463 : decode cL_law 463 = .ok (.aload_n 2, 1) := by decide +kernel
theorem dL_law_464 : decode cL_law 464 = .ok (.invokevirtual 68, 3) := by decide +kernel
theorem dL_law_467 : decode cL_law 467 = .ok (.if_icmp .eq 275, 3) := by decide +kernel
theorem dL_law_470 : decode cL_law 470 = .ok (.iconst 0, 1) := by decide +kernel
theorem dL_law_471 : decode cL_law 471 = .ok (.ireturn, 1) := by decide +kernel
theorem dL_law_472 : decode cL_law 472 = .ok (.aload_n 1, 1) := by decide +kernel
theorem dL_law_473 : decode cL_law 473 = .ok (.invokevirtual 69, 3) := by decide +kernel
theorem dL_law_476 : decode cL_law 476 = .ok (.aload_n 2, 1) := by decide +kernel
theorem dL_law_477 : decode cL_law 477 = .ok (.invokevirtual 72, 3) := by decide +kernel
theorem dL_law_480 : decode cL_law 480 = .ok (.if_icmp .eq 262, 3) := by decide +kernel
theorem dL_law_483 : decode cL_law 483 = .ok (.iconst 0, 1) := by decide +kernel
theorem dL_law_484 : decode cL_law 484 = .ok (.ireturn, 1) := by decide +kernel
theorem dL_law_485 : decode cL_law 485 = .ok (.aload_n 1, 1) := by decide +kernel
theorem dL_law_486 : decode cL_law 486 = .ok (.aload_n 0, 1) := by decide +kernel
theorem dL_law_487 : decode cL_law 487 = .ok (.iload_n 3, 1) := by decide +kernel
theorem dL_law_488 : decode cL_law 488 = .ok (.iconst 1, 1) := by decide +kernel
theorem dL_law_489 : decode cL_law 489 = .ok (.iadd, 1) := by decide +kernel
theorem dL_law_490 : decode cL_law 490 = .ok (.iaload, 1) := by decide +kernel
theorem dL_law_491 : decode cL_law 491 = .ok (.invokevirtual 73, 3) := by decide +kernel
theorem dL_law_494 : decode cL_law 494 = .ok (.aload_n 2, 1) := by decide +kernel
theorem dL_law_495 : decode cL_law 495 = .ok (.aload_n 0, 1) := by decide +kernel
theorem dL_law_496 : decode cL_law 496 = .ok (.iload_n 3, 1) := by decide +kernel
theorem dL_law_497 : decode cL_law 497 = .ok (.iconst 1, 1) := by decide +kernel
theorem dL_law_498 : decode cL_law 498 = .ok (.iadd, 1) := by decide +kernel
theorem dL_law_499 : decode cL_law 499 = .ok (.iaload, 1) := by decide +kernel
theorem dL_law_500 : decode cL_law 500 = .ok (.invokevirtual 76, 3) := by decide +kernel
theorem dL_law_503 : decode cL_law 503 = .ok (.if_icmp .eq 239, 3) := by decide +kernel
theorem dL_law_506 : decode cL_law 506 = .ok (.iconst 0, 1) := by decide +kernel
theorem dL_law_507 : decode cL_law 507 = .ok (.ireturn, 1) := by decide +kernel
theorem dL_law_508 : decode cL_law 508 = .ok (.aload_n 1, 1) := by decide +kernel
theorem dL_law_509 : decode cL_law 509 = .ok (.aload_n 0, 1) := by decide +kernel
theorem dL_law_510 : decode cL_law 510 = .ok (.iload_n 3, 1) := by decide +kernel
theorem dL_law_511 : decode cL_law 511 = .ok (.iconst 1, 1) := by decide +kernel
theorem dL_law_512 : decode cL_law 512 = .ok (.iadd, 1) := by decide +kernel
theorem dL_law_513 : decode cL_law 513 = .ok (.iaload, 1) := by decide +kernel
theorem dL_law_514 : decode cL_law 514 = .ok (.aload_n 0, 1) := by decide +kernel
theorem dL_law_515 : decode cL_law 515 = .ok (.iload_n 3, 1) := by decide +kernel
theorem dL_law_516 : decode cL_law 516 = .ok (.iconst 2, 1) := by decide +kernel
theorem dL_law_517 : decode cL_law 517 = .ok (.iadd, 1) := by decide +kernel
theorem dL_law_518 : decode cL_law 518 = .ok (.iaload, 1) := by decide +kernel
theorem dL_law_519 : decode cL_law 519 = .ok (.invokevirtual 77, 3) := by decide +kernel
theorem dL_law_522 : decode cL_law 522 = .ok (.aload_n 2, 1) := by decide +kernel
theorem dL_law_523 : decode cL_law 523 = .ok (.aload_n 0, 1) := by decide +kernel
theorem dL_law_524 : decode cL_law 524 = .ok (.iload_n 3, 1) := by decide +kernel
theorem dL_law_525 : decode cL_law 525 = .ok (.iconst 1, 1) := by decide +kernel
theorem dL_law_526 : decode cL_law 526 = .ok (.iadd, 1) := by decide +kernel
theorem dL_law_527 : decode cL_law 527 = .ok (.iaload, 1) := by decide +kernel
theorem dL_law_528 : decode cL_law 528 = .ok (.aload_n 0, 1) := by decide +kernel
theorem dL_law_529 : decode cL_law 529 = .ok (.iload_n 3, 1) := by decide +kernel
theorem dL_law_530 : decode cL_law 530 = .ok (.iconst 2, 1) := by decide +kernel
theorem dL_law_531 : decode cL_law 531 = .ok (.iadd, 1) := by decide +kernel
theorem dL_law_532 : decode cL_law 532 = .ok (.iaload, 1) := by decide +kernel
theorem dL_law_533 : decode cL_law 533 = .ok (.invokevirtual 80, 3) := by decide +kernel
theorem dL_law_536 : decode cL_law 536 = .ok (.if_icmp .eq 206, 3) := by decide +kernel
theorem dL_law_539 : decode cL_law 539 = .ok (.iconst 0, 1) := by decide +kernel
theorem dL_law_540 : decode cL_law 540 = .ok (.ireturn, 1) := by decide +kernel
theorem dL_law_541 : decode cL_law 541 = .ok (.aload_n 1, 1) := by decide +kernel
theorem dL_law_542 : decode cL_law 542 = .ok (.aload_n 0, 1) := by decide +kernel
theorem dL_law_543 : decode cL_law 543 = .ok (.iload_n 3, 1) := by decide +kernel
theorem dL_law_544 : decode cL_law 544 = .ok (.iconst 1, 1) := by decide +kernel
theorem dL_law_545 : decode cL_law 545 = .ok (.iadd, 1) := by decide +kernel
theorem dL_law_546 : decode cL_law 546 = .ok (.iaload, 1) := by decide +kernel
theorem dL_law_547 : decode cL_law 547 = .ok (.aload_n 0, 1) := by decide +kernel
theorem dL_law_548 : decode cL_law 548 = .ok (.iload_n 3, 1) := by decide +kernel
theorem dL_law_549 : decode cL_law 549 = .ok (.iconst 2, 1) := by decide +kernel
theorem dL_law_550 : decode cL_law 550 = .ok (.iadd, 1) := by decide +kernel
theorem dL_law_551 : decode cL_law 551 = .ok (.iaload, 1) := by decide +kernel
theorem dL_law_552 : decode cL_law 552 = .ok (.invokevirtual 81, 3) := by decide +kernel
theorem dL_law_555 : decode cL_law 555 = .ok (.aload_n 2, 1) := by decide +kernel
theorem dL_law_556 : decode cL_law 556 = .ok (.aload_n 0, 1) := by decide +kernel
theorem dL_law_557 : decode cL_law 557 = .ok (.iload_n 3, 1) := by decide +kernel
theorem dL_law_558 : decode cL_law 558 = .ok (.iconst 1, 1) := by decide +kernel
theorem dL_law_559 : decode cL_law 559 = .ok (.iadd, 1) := by decide +kernel
theorem dL_law_560 : decode cL_law 560 = .ok (.iaload, 1) := by decide +kernel
theorem dL_law_561 : decode cL_law 561 = .ok (.aload_n 0, 1) := by decide +kernel
theorem dL_law_562 : decode cL_law 562 = .ok (.iload_n 3, 1) := by decide +kernel
theorem dL_law_563 : decode cL_law 563 = .ok (.iconst 2, 1) := by decide +kernel
theorem dL_law_564 : decode cL_law 564 = .ok (.iadd, 1) := by decide +kernel
theorem dL_law_565 : decode cL_law 565 = .ok (.iaload, 1) := by decide +kernel
theorem dL_law_566 : decode cL_law 566 = .ok (.invokevirtual 84, 3) := by decide +kernel
theorem dL_law_569 : decode cL_law 569 = .ok (.if_icmp .eq 173, 3) := by decide +kernel
theorem dL_law_572 : decode cL_law 572 = .ok (.iconst 0, 1) := by decide +kernel
theorem dL_law_573 : decode cL_law 573 = .ok (.ireturn, 1) := by decide +kernel
theorem dL_law_574 : decode cL_law 574 = .ok (.aload_n 1, 1) := by decide +kernel
theorem dL_law_575 : decode cL_law 575 = .ok (.aload_n 0, 1) := by decide +kernel
theorem dL_law_576 : decode cL_law 576 = .ok (.iload_n 3, 1) := by decide +kernel
theorem dL_law_577 : decode cL_law 577 = .ok (.iconst 1, 1) := by decide +kernel
theorem dL_law_578 : decode cL_law 578 = .ok (.iadd, 1) := by decide +kernel
theorem dL_law_579 : decode cL_law 579 = .ok (.iaload, 1) := by decide +kernel
theorem dL_law_580 : decode cL_law 580 = .ok (.invokevirtual 85, 3) := by decide +kernel
theorem dL_law_583 : decode cL_law 583 = .ok (.aload_n 2, 1) := by decide +kernel
theorem dL_law_584 : decode cL_law 584 = .ok (.aload_n 0, 1) := by decide +kernel
theorem dL_law_585 : decode cL_law 585 = .ok (.iload_n 3, 1) := by decide +kernel
theorem dL_law_586 : decode cL_law 586 = .ok (.iconst 1, 1) := by decide +kernel
theorem dL_law_587 : decode cL_law 587 = .ok (.iadd, 1) := by decide +kernel
theorem dL_law_588 : decode cL_law 588 = .ok (.iaload, 1) := by decide +kernel
theorem dL_law_589 : decode cL_law 589 = .ok (.invokevirtual 88, 3) := by decide +kernel
theorem dL_law_592 : decode cL_law 592 = .ok (.if_icmp .eq 150, 3) := by decide +kernel
theorem dL_law_595 : decode cL_law 595 = .ok (.iconst 0, 1) := by decide +kernel
theorem dL_law_596 : decode cL_law 596 = .ok (.ireturn, 1) := by decide +kernel
theorem dL_law_597 : decode cL_law 597 = .ok (.aload_n 1, 1) := by decide +kernel
theorem dL_law_598 : decode cL_law 598 = .ok (.aload_n 0, 1) := by decide +kernel
theorem dL_law_599 : decode cL_law 599 = .ok (.iload_n 3, 1) := by decide +kernel
theorem dL_law_600 : decode cL_law 600 = .ok (.iconst 1, 1) := by decide +kernel
theorem dL_law_601 : decode cL_law 601 = .ok (.iadd, 1) := by decide +kernel
theorem dL_law_602 : decode cL_law 602 = .ok (.iaload, 1) := by decide +kernel
theorem dL_law_603 : decode cL_law 603 = .ok (.invokevirtual 89, 3) := by decide +kernel
theorem dL_law_606 : decode cL_law 606 = .ok (.aload_n 2, 1) := by decide +kernel
theorem dL_law_607 : decode cL_law 607 = .ok (.aload_n 0, 1) := by decide +kernel
theorem dL_law_608 : decode cL_law 608 = .ok (.iload_n 3, 1) := by decide +kernel
theorem dL_law_609 : decode cL_law 609 = .ok (.iconst 1, 1) := by decide +kernel
theorem dL_law_610 : decode cL_law 610 = .ok (.iadd, 1) := by decide +kernel
theorem dL_law_611 : decode cL_law 611 = .ok (.iaload, 1) := by decide +kernel
theorem dL_law_612 : decode cL_law 612 = .ok (.invokevirtual 92, 3) := by decide +kernel
theorem dL_law_615 : decode cL_law 615 = .ok (.if_icmp .eq 127, 3) := by decide +kernel
theorem dL_law_618 : decode cL_law 618 = .ok (.iconst 0, 1) := by decide +kernel
theorem dL_law_619 : decode cL_law 619 = .ok (.ireturn, 1) := by decide +kernel
theorem dL_law_620 : decode cL_law 620 = .ok (.aload_n 1, 1) := by decide +kernel
theorem dL_law_621 : decode cL_law 621 = .ok (.aload_n 0, 1) := by decide +kernel
theorem dL_law_622 : decode cL_law 622 = .ok (.iload_n 3, 1) := by decide +kernel
theorem dL_law_623 : decode cL_law 623 = .ok (.iconst 1, 1) := by decide +kernel
theorem dL_law_624 : decode cL_law 624 = .ok (.iadd, 1) := by decide +kernel
theorem dL_law_625 : decode cL_law 625 = .ok (.iaload, 1) := by decide +kernel
theorem dL_law_626 : decode cL_law 626 = .ok (.aload_n 0, 1) := by decide +kernel
theorem dL_law_627 : decode cL_law 627 = .ok (.iload_n 3, 1) := by decide +kernel
theorem dL_law_628 : decode cL_law 628 = .ok (.iconst 2, 1) := by decide +kernel
theorem dL_law_629 : decode cL_law 629 = .ok (.iadd, 1) := by decide +kernel
theorem dL_law_630 : decode cL_law 630 = .ok (.iaload, 1) := by decide +kernel
theorem dL_law_631 : decode cL_law 631 = .ok (.aload_n 0, 1) := by decide +kernel
theorem dL_law_632 : decode cL_law 632 = .ok (.iload_n 3, 1) := by decide +kernel
theorem dL_law_633 : decode cL_law 633 = .ok (.iconst 3, 1) := by decide +kernel
theorem dL_law_634 : decode cL_law 634 = .ok (.iadd, 1) := by decide +kernel
theorem dL_law_635 : decode cL_law 635 = .ok (.iaload, 1) := by decide +kernel
theorem dL_law_636 : decode cL_law 636 = .ok (.aload_n 0, 1) := by decide +kernel
theorem dL_law_637 : decode cL_law 637 = .ok (.iload_n 3, 1) := by decide +kernel
theorem dL_law_638 : decode cL_law 638 = .ok (.iconst 4, 1) := by decide +kernel
theorem dL_law_639 : decode cL_law 639 = .ok (.iadd, 1) := by decide +kernel
theorem dL_law_640 : decode cL_law 640 = .ok (.iaload, 1) := by decide +kernel
theorem dL_law_641 : decode cL_law 641 = .ok (.invokevirtual 93, 3) := by decide +kernel
theorem dL_law_644 : decode cL_law 644 = .ok (.aload_n 2, 1) := by decide +kernel
theorem dL_law_645 : decode cL_law 645 = .ok (.aload_n 0, 1) := by decide +kernel
theorem dL_law_646 : decode cL_law 646 = .ok (.iload_n 3, 1) := by decide +kernel
theorem dL_law_647 : decode cL_law 647 = .ok (.iconst 1, 1) := by decide +kernel
theorem dL_law_648 : decode cL_law 648 = .ok (.iadd, 1) := by decide +kernel
theorem dL_law_649 : decode cL_law 649 = .ok (.iaload, 1) := by decide +kernel
theorem dL_law_650 : decode cL_law 650 = .ok (.aload_n 0, 1) := by decide +kernel
theorem dL_law_651 : decode cL_law 651 = .ok (.iload_n 3, 1) := by decide +kernel
theorem dL_law_652 : decode cL_law 652 = .ok (.iconst 2, 1) := by decide +kernel
theorem dL_law_653 : decode cL_law 653 = .ok (.iadd, 1) := by decide +kernel
theorem dL_law_654 : decode cL_law 654 = .ok (.iaload, 1) := by decide +kernel
theorem dL_law_655 : decode cL_law 655 = .ok (.aload_n 0, 1) := by decide +kernel
theorem dL_law_656 : decode cL_law 656 = .ok (.iload_n 3, 1) := by decide +kernel
theorem dL_law_657 : decode cL_law 657 = .ok (.iconst 3, 1) := by decide +kernel
theorem dL_law_658 : decode cL_law 658 = .ok (.iadd, 1) := by decide +kernel
theorem dL_law_659 : decode cL_law 659 = .ok (.iaload, 1) := by decide +kernel
theorem dL_law_660 : decode cL_law 660 = .ok (.aload_n 0, 1) := by decide +kernel
theorem dL_law_661 : decode cL_law 661 = .ok (.iload_n 3, 1) := by decide +kernel
theorem dL_law_662 : decode cL_law 662 = .ok (.iconst 4, 1) := by decide +kernel
theorem dL_law_663 : decode cL_law 663 = .ok (.iadd, 1) := by decide +kernel
theorem dL_law_664 : decode cL_law 664 = .ok (.iaload, 1) := by decide +kernel
theorem dL_law_665 : decode cL_law 665 = .ok (.invokevirtual 97, 3) := by decide +kernel
theorem dL_law_668 : decode cL_law 668 = .ok (.if_icmp .eq 74, 3) := by decide +kernel
theorem dL_law_671 : decode cL_law 671 = .ok (.iconst 0, 1) := by decide +kernel
theorem dL_law_672 : decode cL_law 672 = .ok (.ireturn, 1) := by decide +kernel
theorem dL_law_673 : decode cL_law 673 = .ok (.aload_n 1, 1) := by decide +kernel
theorem dL_law_674 : decode cL_law 674 = .ok (.aload_n 0, 1) := by decide +kernel
theorem dL_law_675 : decode cL_law 675 = .ok (.iload_n 3, 1) := by decide +kernel
theorem dL_law_676 : decode cL_law 676 = .ok (.iconst 1, 1) := by decide +kernel
theorem dL_law_677 : decode cL_law 677 = .ok (.iadd, 1) := by decide +kernel
theorem dL_law_678 : decode cL_law 678 = .ok (.iaload, 1) := by decide +kernel
theorem dL_law_679 : decode cL_law 679 = .ok (.invokevirtual 98, 3) := by decide +kernel
theorem dL_law_682 : decode cL_law 682 = .ok (.aload_n 2, 1) := by decide +kernel
theorem dL_law_683 : decode cL_law 683 = .ok (.aload_n 0, 1) := by decide +kernel
theorem dL_law_684 : decode cL_law 684 = .ok (.iload_n 3, 1) := by decide +kernel
theorem dL_law_685 : decode cL_law 685 = .ok (.iconst 1, 1) := by decide +kernel
theorem dL_law_686 : decode cL_law 686 = .ok (.iadd, 1) := by decide +kernel
theorem dL_law_687 : decode cL_law 687 = .ok (.iaload, 1) := by decide +kernel
theorem dL_law_688 : decode cL_law 688 = .ok (.invokevirtual 101, 3) := by decide +kernel
theorem dL_law_691 : decode cL_law 691 = .ok (.if_icmp .eq 51, 3) := by decide +kernel
theorem dL_law_694 : decode cL_law 694 = .ok (.iconst 0, 1) := by decide +kernel
theorem dL_law_695 : decode cL_law 695 = .ok (.ireturn, 1) := by decide +kernel
theorem dL_law_696 : decode cL_law 696 = .ok (.aload_n 1, 1) := by decide +kernel
theorem dL_law_697 : decode cL_law 697 = .ok (.aload_n 0, 1) := by decide +kernel
theorem dL_law_698 : decode cL_law 698 = .ok (.iload_n 3, 1) := by decide +kernel
theorem dL_law_699 : decode cL_law 699 = .ok (.iconst 1, 1) := by decide +kernel
theorem dL_law_700 : decode cL_law 700 = .ok (.iadd, 1) := by decide +kernel
theorem dL_law_701 : decode cL_law 701 = .ok (.iaload, 1) := by decide +kernel
theorem dL_law_702 : decode cL_law 702 = .ok (.invokevirtual 102, 3) := by decide +kernel
theorem dL_law_705 : decode cL_law 705 = .ok (.aload_n 2, 1) := by decide +kernel
theorem dL_law_706 : decode cL_law 706 = .ok (.aload_n 0, 1) := by decide +kernel
theorem dL_law_707 : decode cL_law 707 = .ok (.iload_n 3, 1) := by decide +kernel
theorem dL_law_708 : decode cL_law 708 = .ok (.iconst 1, 1) := by decide +kernel
theorem dL_law_709 : decode cL_law 709 = .ok (.iadd, 1) := by decide +kernel
theorem dL_law_710 : decode cL_law 710 = .ok (.iaload, 1) := by decide +kernel
theorem dL_law_711 : decode cL_law 711 = .ok (.invokevirtual 105, 3) := by decide +kernel
theorem dL_law_714 : decode cL_law 714 = .ok (.if_icmp .eq 28, 3) := by decide +kernel
theorem dL_law_717 : decode cL_law 717 = .ok (.iconst 0, 1) := by decide +kernel
theorem dL_law_718 : decode cL_law 718 = .ok (.ireturn, 1) := by decide +kernel
theorem dL_law_719 : decode cL_law 719 = .ok (.aload_n 1, 1) := by decide +kernel
theorem dL_law_720 : decode cL_law 720 = .ok (.aload_n 0, 1) := by decide +kernel
theorem dL_law_721 : decode cL_law 721 = .ok (.iload_n 3, 1) := by decide +kernel
theorem dL_law_722 : decode cL_law 722 = .ok (.iconst 1, 1) := by decide +kernel
theorem dL_law_723 : decode cL_law 723 = .ok (.iadd, 1) := by decide +kernel
theorem dL_law_724 : decode cL_law 724 = .ok (.iaload, 1) := by decide +kernel
theorem dL_law_725 : decode cL_law 725 = .ok (.invokevirtual 106, 3) := by decide +kernel
theorem dL_law_728 : decode cL_law 728 = .ok (.aload_n 2, 1) := by decide +kernel
theorem dL_law_729 : decode cL_law 729 = .ok (.aload_n 0, 1) := by decide +kernel
theorem dL_law_730 : decode cL_law 730 = .ok (.iload_n 3, 1) := by decide +kernel
theorem dL_law_731 : decode cL_law 731 = .ok (.iconst 1, 1) := by decide +kernel
theorem dL_law_732 : decode cL_law 732 = .ok (.iadd, 1) := by decide +kernel
theorem dL_law_733 : decode cL_law 733 = .ok (.iaload, 1) := by decide +kernel
theorem dL_law_734 : decode cL_law 734 = .ok (.invokevirtual 109, 3) := by decide +kernel
theorem dL_law_737 : decode cL_law 737 = .ok (.if_icmp .eq 5, 3) := by decide +kernel
theorem dL_law_740 : decode cL_law 740 = .ok (.iconst 0, 1) := by decide +kernel
theorem dL_law_741 : decode cL_law 741 = .ok (.ireturn, 1) := by decide +kernel
theorem dL_law_742 : decode cL_law 742 = .ok (.iinc 3 6, 3) := by decide +kernel
theorem dL_law_745 : decode cL_law 745 = .ok (.goto (-727), 3) := by decide +kernel
theorem dL_law_748 : decode cL_law 748 = .ok (.iconst 1, 1) := by decide +kernel
theorem dL_law_749 : decode cL_law 749 = .ok (.ireturn, 1) := by decide +kernel
end
section
/-! THE PICTURE: every object of the system has a number; its address is a function of the number; what it holds is a function of number and place. -/
def gtb : List Cond := lw_tbl.filter goodWord
theorem gtb_of {w : Cond} (h : w ∈ lw_tbl) (hg : goodWord w = true) : w ∈ gtb := List.mem_filter.mpr ⟨h, hg⟩
theorem gtb_good {w : Cond} (h : w ∈ gtb) : goodWord w = true := (List.mem_filter.mp h).2
theorem gtb_in {y : MethodName} {b : ByteArray} {n : Nat} {r : Option FieldType} (h : Cond.code y b n r ∈ gtb) : GoodIn gtb (Cond.code y b n r :: gtb) := by
  intro w hw
  rcases List.mem_cons.mp hw with rfl | hw
  · exact ⟨h, good_of_word (gtb_good h)⟩
  · exact ⟨hw, good_of_word (gtb_good hw)⟩
abbrev GG : Type := (Nat → Nat) × (Nat → ClassId) × (Nat → Nat → Nat) × (Nat → ClassId) × (Nat → Nat)
abbrev gD (Γ : GG) : va_G := (Γ.2.1, Γ.2.2.1)
abbrev gA (Γ : GG) : Nat → ClassId := Γ.2.2.2.1
abbrev gS (Γ : GG) : Nat → Nat := Γ.2.2.2.2
abbrev Sg : Type := Nat → Nat → Int32
abbrev classes : List vw_C := [(RX0, TX0, 13), (RX1, TX1, 2), (RX2, TX2, 9), (RX3, TX3, 16), (RX4, TX4, 5), (RX5, TX5, 10)]
abbrev gtys (Γ : GG) : List (ClassId × FieldType) := [(gA Γ 0, .int), (gA Γ 1, .char), (gA Γ 2, .boolean), (gA Γ 3, .object RX0), (gA Γ 4, .object RX3)]
/-- the kind of each object: 0 Board, 1 Book, 2 Pad, 3 Task, 4 WatchdogBoard, 5 Model; arrays: 6 int, 7 char, 8 boolean, 9 of Boards, 10 of Tasks -/
def kdL : List Nat := [4, 0, 6, 10, 1, 6, 3, 6, 6, 6, 6, 3, 6, 6, 6, 6, 3, 6, 6, 6, 6, 3, 6, 6, 6, 6, 3, 6, 6, 6, 6, 3, 6, 6, 6, 6, 0, 6, 10, 1, 6, 3, 6, 6, 6, 6, 3, 6, 6, 6, 6, 3, 6, 6, 6, 6, 3, 6, 6, 6, 6, 3, 6, 6, 6, 6, 3, 6, 6, 6, 6, 9, 0, 6, 10, 1, 6, 3, 6, 6, 6, 6, 3, 6, 6, 6, 6, 3, 6, 6, 6, 6, 3, 6, 6, 6, 6, 3, 6, 6, 6, 6, 3, 6, 6, 6, 6, 0, 6, 10, 1, 6, 3, 6, 6, 6, 6, 3, 6, 6, 6, 6, 3, 6, 6, 6, 6, 3, 6, 6, 6, 6, 3, 6, 6, 6, 6, 3, 6, 6, 6, 6, 8, 2, 7, 6, 6, 6, 6, 6, 5, 6, 6, 6, 8, 6, 6]
def lnL : List Nat := [0, 0, 8, 6, 0, 80, 0, 8, 2, 2, 2, 0, 8, 2, 2, 2, 0, 8, 2, 2, 2, 0, 8, 2, 2, 2, 0, 8, 2, 2, 2, 0, 8, 2, 2, 2, 0, 8, 6, 0, 80, 0, 8, 2, 2, 2, 0, 8, 2, 2, 2, 0, 8, 2, 2, 2, 0, 8, 2, 2, 2, 0, 8, 2, 2, 2, 0, 8, 2, 2, 2, 2, 0, 8, 6, 0, 80, 0, 8, 2, 2, 2, 0, 8, 2, 2, 2, 0, 8, 2, 2, 2, 0, 8, 2, 2, 2, 0, 8, 2, 2, 2, 0, 8, 2, 2, 2, 0, 8, 6, 0, 80, 0, 8, 2, 2, 2, 0, 8, 2, 2, 2, 0, 8, 2, 2, 2, 0, 8, 2, 2, 2, 0, 8, 2, 2, 2, 0, 8, 2, 2, 2, 2, 0, 60, 20, 20, 20, 20, 20, 0, 255, 255, 510, 2, 60, 155]
def kd (q : Nat) : Nat := kdL.getD q 11
def ln (q : Nat) : Nat := lnL.getD q 0
def fs0 (Γ : GG) (σ : Sg) (q : Nat) : List Value := [.ref (Γ.1 (q + 1)), .ref (Γ.1 (q + 2)), .ref (Γ.1 (q + 3)), .int (σ q 3), .int (σ q 4), .int (σ q 5), .int (σ q 6), .int (σ q 7), .int (σ q 8), .int (σ q 9), .int (σ q 10), .int (σ q 11), .int (σ q 12)]
def fs1 (Γ : GG) (σ : Sg) (q : Nat) : List Value := [.ref (Γ.1 (q + 1)), .int (σ q 1)]
def fs2 (Γ : GG) (σ : Sg) (q : Nat) : List Value := [.ref (Γ.1 (q + 1)), .int (σ q 1), .int (σ q 2), .int (σ q 3), .ref (Γ.1 (q + 2)), .ref (Γ.1 (q + 3)), .ref (Γ.1 (q + 4)), .ref (Γ.1 (q + 5)), .ref (Γ.1 (q + 6))]
def fs3 (Γ : GG) (σ : Sg) (q : Nat) : List Value := [.ref (Γ.1 (q + 1)), .ref (Γ.1 (q + 2)), .ref (Γ.1 (q + 3)), .ref (Γ.1 (q + 4)), .int (σ q 4), .int (σ q 5), .int (σ q 6), .int (σ q 7), .int (σ q 8), .int (σ q 9), .int (σ q 10), .int (σ q 11), .int (σ q 12), .int (σ q 13), .int (σ q 14), .int (σ q 15)]
def fs4 (Γ : GG) (σ : Sg) (q : Nat) : List Value := [.ref (Γ.1 (q + 1)), .ref (Γ.1 (q + 36)), .ref (Γ.1 (q + 71)), .ref (Γ.1 (q + 142)), .ref (Γ.1 (q + 143))]
def fs5 (Γ : GG) (σ : Sg) (q : Nat) : List Value := [.ref (Γ.1 (q + 1)), .ref (Γ.1 (q + 2)), .ref (Γ.1 (q + 3)), .ref (Γ.1 (q + 4)), .ref (Γ.1 (q + 5)), .int (σ q 5), .int (σ q 6), .int (σ q 7), .ref (Γ.1 (q + 6)), .int (σ q 9)]
def ent (Γ : GG) (σ : Sg) (q : Nat) : va_E :=
  if kd q = 0 then .inr (0, fs0 Γ σ q) else if kd q = 1 then .inr (1, fs1 Γ σ q) else if kd q = 2 then .inr (2, fs2 Γ σ q) else if kd q = 3 then .inr (3, fs3 Γ σ q) else if kd q = 4 then .inr (4, fs4 Γ σ q) else if kd q = 5 then .inr (5, fs5 Γ σ q)
  else if kd q = 6 then .inl (gA Γ 0, ln q, .inl (σ q)) else if kd q = 7 then .inl (gA Γ 1, ln q, .inl (σ q)) else if kd q = 8 then .inl (gA Γ 2, ln q, .inl (σ q))
  else if kd q = 9 then .inl (gA Γ 3, 2, .inr (.inr (.inr (.inr (fun k => some (Γ.1 (q + 1 + 35 * k))))))) else .inl (gA Γ 4, 6, .inr (.inr (.inr (.inr (fun k => some (Γ.1 (q + 3 + 5 * k)))))))
def pic (Γ : GG) (σ : Sg) : va_W := (List.range 157).map (fun q => (Γ.1 q, ent Γ σ q))
theorem pic_get {Γ : GG} {σ : Sg} {q : Nat} (hq : q < 157) : (pic Γ σ)[q]? = some (Γ.1 q, ent Γ σ q) := by
  simp [pic, hq]
theorem pic_len {Γ : GG} {σ : Sg} : (pic Γ σ).length = 157 := by simp [pic]
theorem ent_congr {Γ : GG} {σ σ' : Sg} {q : Nat} (h : σ' q = σ q) : ent Γ σ' q = ent Γ σ q := by
  simp only [ent, fs0, fs1, fs2, fs3, fs4, fs5, h]
theorem pic_set {Γ : GG} {σ σ' : Sg} {q : Nat} {e : va_E} (ho : ∀ k, k ≠ q → σ' k = σ k) (he : ent Γ σ' q = e) : (pic Γ σ).set q (Γ.1 q, e) = pic Γ σ' := by
  apply List.ext_getElem?
  intro k
  by_cases hk : k < 157
  · by_cases hkq : k = q
    · subst hkq
      rw [List.getElem?_set_self (by rw [pic_len]; exact hk), pic_get hk, he]
    · rw [List.getElem?_set_ne (Ne.symm hkq), pic_get hk, pic_get hk, ent_congr (ho k hkq)]
  · rw [List.getElem?_eq_none (by rw [List.length_set, pic_len]; omega), List.getElem?_eq_none (by rw [pic_len]; omega)]
/-- the addresses that the system may write -/
def AD (Γ : GG) : Nat → Prop := fun a => ∃ k, k < 157 ∧ a = Γ.1 k
theorem pic_D {Γ : GG} (h : ∀ i j, i < 157 → j < 157 → Γ.1 i = Γ.1 j → i = j) (σ : Sg) : va_D (AD Γ) (pic Γ σ) := by
  have lt : ∀ (k : Nat) (q : Nat × va_E), (pic Γ σ)[k]? = some q → k < 157 ∧ q = (Γ.1 k, ent Γ σ k) := by
    intro k q hk
    have h1 := (List.getElem?_eq_some_iff.mp hk).1
    rw [pic_len] at h1
    rw [pic_get h1] at hk
    exact ⟨h1, (Option.some.inj hk).symm⟩
  refine ⟨fun i j x y hi hj hxy => ?_, fun k q hk => ?_⟩
  · obtain ⟨h1, rfl⟩ := lt i x hi
    obtain ⟨h2, rfl⟩ := lt j y hj
    exact h i j h1 h2 hxy
  · obtain ⟨h1, rfl⟩ := lt k q hk
    exact ⟨k, h1, rfl⟩
/-- writes -/
def st (σ : Sg) (q k : Nat) (v : Int32) : Sg := fun a b => if a = q then (if b = k then v else σ a b) else σ a b
def sr (σ : Sg) (q : Nat) (f : Nat → Int32) : Sg := fun a => if a = q then f else σ a
theorem st_o {σ : Sg} {q k : Nat} {v : Int32} (a : Nat) (h : a ≠ q) : st σ q k v a = σ a := by funext b; simp [st, h]
theorem sr_o {σ : Sg} {q : Nat} {f : Nat → Int32} (a : Nat) (h : a ≠ q) : sr σ q f a = σ a := by simp [sr, h]
theorem st_q {σ : Sg} {q k : Nat} {v : Int32} : st σ q k v q = upd (σ q) k v := by funext b; simp [st, upd]
theorem st_r {σ : Sg} {q k : Nat} {v : Int32} {a b : Nat} : st σ q k v a b = if a = q ∧ b = k then v else σ a b := by
  by_cases h : a = q <;> by_cases h2 : b = k <;> simp [st, h, h2]
/-- what kind an object is -/
def isB (q : Nat) : Prop := q = 1 ∨ q = 36 ∨ q = 72 ∨ q = 107
def isT (q : Nat) : Prop := kd q = 3 ∧ q < 152 ∧ kd (q + 1) = 6 ∧ ln (q + 1) = 8 ∧ kd (q + 2) = 6 ∧ ln (q + 2) = 2 ∧ kd (q + 3) = 6 ∧ ln (q + 3) = 2 ∧ kd (q + 4) = 6 ∧ ln (q + 4) = 2
def isA (n q : Nat) : Prop := kd q = 6 ∧ q < 157 ∧ ln q = n
def isK (k q : Nat) : Prop := kd q = k ∧ q < 157
theorem isT.k {q : Nat} (h : isT q) : isK 3 q := ⟨h.1, by have := h.2.1; omega⟩
theorem isT.a1 {q : Nat} (h : isT q) : isA 8 (q + 1) := ⟨h.2.2.1, by have := h.2.1; omega, h.2.2.2.1⟩
theorem isT.a2 {q : Nat} (h : isT q) : isA 2 (q + 2) := ⟨h.2.2.2.2.1, by have := h.2.1; omega, h.2.2.2.2.2.1⟩
theorem isT.a3 {q : Nat} (h : isT q) : isA 2 (q + 3) := ⟨h.2.2.2.2.2.2.1, by have := h.2.1; omega, h.2.2.2.2.2.2.2.1⟩
theorem isT.a4 {q : Nat} (h : isT q) : isA 2 (q + 4) := ⟨h.2.2.2.2.2.2.2.2.1, by have := h.2.1; omega, h.2.2.2.2.2.2.2.2.2⟩
theorem isB.k {q : Nat} (h : isB q) : isK 0 q := by rcases h with rfl | rfl | rfl | rfl <;> exact ⟨by decide, by decide⟩
theorem isB.a1 {q : Nat} (h : isB q) : isA 8 (q + 1) := by rcases h with rfl | rfl | rfl | rfl <;> exact ⟨by decide, by decide, by decide⟩
theorem isB.k2 {q : Nat} (h : isB q) : isK 10 (q + 2) := by rcases h with rfl | rfl | rfl | rfl <;> exact ⟨by decide, by decide⟩
theorem isB.k3 {q : Nat} (h : isB q) : isK 1 (q + 3) := by rcases h with rfl | rfl | rfl | rfl <;> exact ⟨by decide, by decide⟩
theorem isB.a4 {q : Nat} (h : isB q) : isA 80 (q + 3 + 1) := by rcases h with rfl | rfl | rfl | rfl <;> exact ⟨by decide, by decide, by decide⟩
theorem isB.t {q i : Nat} (h : isB q) (hi : i < 6) : isT (q + 2 + 3 + 5 * i) := by
  have h6 : i = 0 ∨ i = 1 ∨ i = 2 ∨ i = 3 ∨ i = 4 ∨ i = 5 := by omega
  rcases h with rfl | rfl | rfl | rfl <;> rcases h6 with rfl | rfl | rfl | rfl | rfl | rfl <;> (unfold isT; decide)
/-- statics: the six tables, the String constant -/
def snL : List String := ["RULE_LOWEST", "RULE_GREATEST", "RULE_FIRST", "SETTING_LOWEST", "SETTING_GREATEST", "SETTING_FIRST"]
def sn (k : Nat) : String := snL.getD k ""
def tbL : List (List Int32) := [[0, 1, 1, 0, 0, 1, 1, 1], [1000, 2000, 100, 2000, 20, 200, 5000, 5], [20, 100, 10, 40, 2, 30, 500, 3], [1, 1, 0, 1, 0, 0, 0, 0], [200, 200, 199, 20, 50, 50, 10, 500], [1, 1, 0, 1, 1, 50, 1, 0]]
def tb (k j : Nat) : Int32 := (tbL.getD k []).getD j 0
def ntb : List Cond := lw_tbl.filter (fun w => match w with | .methodLinkNest _ _ _ _ => true | .fieldLinkNest _ _ _ _ _ _ => true | _ => false)
def SK (Γ : GG) (U : State) (H : Heap) : Prop := vk_R RX2 51 "nhsktc" (gS Γ 6) U ∧ vk_S 1 [6] [[110, 104, 115, 107, 116, 99]] (fun _ => gS Γ 6) (fun _ => gS Γ 7) (AD Γ) U H ∧ va_Z "java/lang/String" "COMPACT_STRINGS" "Z" (.int 1) (AD Γ) U H ∧ va_Zq "jdk/internal/util/Preconditions" "SIOOBE_FORMATTER" "Ljava/util/function/BiFunction;" (AD Γ) U H
def KK (Γ : GG) (U : State) (H : Heap) : Prop := va_K (gD Γ) classes (gtys Γ) U ∧ (∀ w ∈ ntb, va_Nw w U) ∧ (∀ k, k < 6 → va_Z RX4 (sn k) "[I" (.ref (gS Γ k)) (AD Γ) U H ∧ va_T .int (gS Γ k) 8 (fun j => .int (tb k j)) (AD Γ) U H) ∧ SK Γ U H ∧ (∀ i j, i < 157 → j < 157 → Γ.1 i = Γ.1 j → i = j)
theorem ntb_tab {w : Cond} (h : w ∈ ntb) : (∃ a i x h', w = .methodLinkNest a i x h') ∨ ∃ a i b n d h', w = .fieldLinkNest a i b n d h' := by
  have h2 := (List.mem_filter.mp h).2
  cases w <;> first | (exact Or.inl ⟨_, _, _, _, rfl⟩) | (exact Or.inr ⟨_, _, _, _, _, _, rfl⟩) | (simp at h2)
theorem SK.kept {Γ : GG} {U : State} {H H1 : Heap} (h : SK Γ U H) (hq : ∀ a : Nat, a < H.size → ¬ AD Γ a → H1[a]? = H[a]?) : SK Γ U H1 := ⟨h.1, h.2.1.kept hq, h.2.2.1.kept hq, h.2.2.2.kept hq⟩
theorem KK.kept {Γ : GG} {U : State} {H H1 : Heap} (h : KK Γ U H) (hq : ∀ a : Nat, a < H.size → ¬ AD Γ a → H1[a]? = H[a]?) : KK Γ U H1 :=
  ⟨h.1, h.2.1, fun k hk => ⟨(h.2.2.1 k hk).1.kept hq, (h.2.2.1 k hk).2.kept hq⟩, h.2.2.2.1.kept hq, h.2.2.2.2⟩
theorem KK.warm {Γ : GG} {s U : State} {H : Heap} (hW : s.WarmedH U.vm) (h : KK Γ s H) : KK Γ U H := by
  refine ⟨va_K.moved hW.alike h.1, fun w hw => ?_, fun k hk => ⟨va_Z.moved hW.alike (h.2.2.1 k hk).1, va_T.moved hW.alike (h.2.2.1 k hk).2⟩, ⟨vk_R.warm hW h.2.2.2.1.1, vk_S.moved hW.alike h.2.2.2.1.2.1, va_Z.moved hW.alike h.2.2.2.1.2.2.1, va_Zq.moved hW.alike h.2.2.2.1.2.2.2⟩, h.2.2.2.2⟩
  have h1 := h.2.1 w hw
  rcases ntb_tab hw with ⟨a, i, x, h', rfl⟩ | ⟨a, i, b, n, d, h', rfl⟩
  · exact va_Nw.warmM hW h1
  · exact va_Nw.warmF hW h1
theorem KK.same {Γ : GG} {u U : State} {H : Heap} (hv : U.vm = u.vm) (h : KK Γ u H) : KK Γ U H := by
  have ha : u.vm.Alike U.vm := by rw [hv]; exact Vm.Alike.refl _
  refine ⟨va_K.moved ha h.1, fun w hw => ?_, fun k hk => ⟨va_Z.moved ha (h.2.2.1 k hk).1, va_T.moved ha (h.2.2.1 k hk).2⟩, ⟨vk_R.same hv h.2.2.2.1.1, vk_S.moved ha h.2.2.2.1.2.1, va_Z.moved ha h.2.2.2.1.2.2.1, va_Zq.moved ha h.2.2.2.1.2.2.2⟩, h.2.2.2.2⟩
  have h1 := h.2.1 w hw
  rcases ntb_tab hw with ⟨a, i, x, h', rfl⟩ | ⟨a, i, b, n, d, h', rfl⟩
  · exact va_Nw.same rfl hv.symm h1
  · exact va_Nw.same rfl hv.symm h1
/-- what a method finds -/
def GI (Γ : GG) (σ : Sg) (U : State) : Prop := va_P (gD Γ) classes (pic Γ σ) U.heap ∧ KK Γ U U.heap
def Bd (Γ : GG) (σ : Sg) (s : State) (H : Heap) (locs : List Loc) : Prop := va_P (gD Γ) classes (pic Γ σ) H ∧ va_S (AD Γ) s.heap H locs
abbrev QI (Γ : GG) (res : Int32 × Sg) : Array Value → State → Outcome → State → Prop := va_Qi (fun (r : Int32) (u : Sg) => r = res.1 ∧ u = res.2) (fun u t => va_P (gD Γ) classes (pic Γ u) t.heap) (AD Γ)
abbrev QV (Γ : GG) (res : Int32 × Sg) : Array Value → State → Outcome → State → Prop := va_Qv (fun (u : Sg) => u = res.2) (fun u t => va_P (gD Γ) classes (pic Γ u) t.heap) (AD Γ)
def MX (own : String) (cc : ByteArray) (nL : Nat) (ret : Option FieldType) (p : Program) (s : State) (m : MethodId) (args : Array Value) (meth : Method) (c : Code) : Prop :=
  p.tables.exec = Jvm.exec ∧ c.code = cc ∧ c.maxLocals = nL ∧ s.vm.findClass own = some m.cls ∧ (∀ w ∈ gtb, w.before args s = true) ∧ meth.sig.returnType = ret ∧ meth.locks = false
abbrev WI (Γ : GG) (rm : Room) (p : Program) (l : Launch) (e : Env) (s : State) (m : MethodId) (args : Array Value) (below : List Frame) (meth : Method) (c : Code) (H : Heap) (locs : List Loc) (res : Int32 × Sg) (g : JFrame) : Prop := W p l e rm s m args below meth c H locs 0 0 (MQ below (QI Γ res) args s 0 0 (AD Γ)) g
abbrev WV (Γ : GG) (rm : Room) (p : Program) (l : Launch) (e : Env) (s : State) (m : MethodId) (args : Array Value) (below : List Frame) (meth : Method) (c : Code) (H : Heap) (locs : List Loc) (res : Int32 × Sg) (g : JFrame) : Prop := W p l e rm s m args below meth c H locs 0 0 (MQ below (QV Γ res) args s 0 0 (AD Γ)) g
theorem ent_0 {Γ : GG} {σ : Sg} {q : Nat} (h : kd q = 0) : ent Γ σ q = .inr (0, fs0 Γ σ q) := by simp [ent, h]
theorem ent_1 {Γ : GG} {σ : Sg} {q : Nat} (h : kd q = 1) : ent Γ σ q = .inr (1, fs1 Γ σ q) := by simp [ent, h]
theorem ent_2 {Γ : GG} {σ : Sg} {q : Nat} (h : kd q = 2) : ent Γ σ q = .inr (2, fs2 Γ σ q) := by simp [ent, h]
theorem ent_3 {Γ : GG} {σ : Sg} {q : Nat} (h : kd q = 3) : ent Γ σ q = .inr (3, fs3 Γ σ q) := by simp [ent, h]
theorem ent_4 {Γ : GG} {σ : Sg} {q : Nat} (h : kd q = 4) : ent Γ σ q = .inr (4, fs4 Γ σ q) := by simp [ent, h]
theorem ent_5 {Γ : GG} {σ : Sg} {q : Nat} (h : kd q = 5) : ent Γ σ q = .inr (5, fs5 Γ σ q) := by simp [ent, h]
theorem ent_6 {Γ : GG} {σ : Sg} {q : Nat} (h : kd q = 6) : ent Γ σ q = .inl (gA Γ 0, ln q, .inl (σ q)) := by simp [ent, h]
theorem ent_7 {Γ : GG} {σ : Sg} {q : Nat} (h : kd q = 7) : ent Γ σ q = .inl (gA Γ 1, ln q, .inl (σ q)) := by simp [ent, h]
theorem ent_8 {Γ : GG} {σ : Sg} {q : Nat} (h : kd q = 8) : ent Γ σ q = .inl (gA Γ 2, ln q, .inl (σ q)) := by simp [ent, h]
theorem ent_9 {Γ : GG} {σ : Sg} {q : Nat} (h : kd q = 9) : ent Γ σ q = .inl (gA Γ 3, 2, .inr (.inr (.inr (.inr (fun k => some (Γ.1 (q + 1 + 35 * k))))))) := by simp [ent, h]
theorem ent_10 {Γ : GG} {σ : Sg} {q : Nat} (h : kd q = 10) : ent Γ σ q = .inl (gA Γ 4, 6, .inr (.inr (.inr (.inr (fun k => some (Γ.1 (q + 3 + 5 * k))))))) := by simp [ent, h]
theorem fs0_set {Γ : GG} {σ : Sg} {q k : Nat} {v : Int32} (h : k = 3 ∨ k = 4 ∨ k = 5 ∨ k = 6 ∨ k = 7 ∨ k = 8 ∨ k = 9 ∨ k = 10 ∨ k = 11 ∨ k = 12) : (fs0 Γ σ q).set k (.int v) = fs0 Γ (st σ q k v) q := by
  rcases h with rfl | rfl | rfl | rfl | rfl | rfl | rfl | rfl | rfl | rfl <;> simp [fs0, st]
theorem fs1_set {Γ : GG} {σ : Sg} {q k : Nat} {v : Int32} (h : k = 1) : (fs1 Γ σ q).set k (.int v) = fs1 Γ (st σ q k v) q := by
  subst h; simp [fs1, st]
theorem fs2_set {Γ : GG} {σ : Sg} {q k : Nat} {v : Int32} (h : k = 1 ∨ k = 2 ∨ k = 3) : (fs2 Γ σ q).set k (.int v) = fs2 Γ (st σ q k v) q := by
  rcases h with rfl | rfl | rfl <;> simp [fs2, st]
theorem fs3_set {Γ : GG} {σ : Sg} {q k : Nat} {v : Int32} (h : k = 4 ∨ k = 5 ∨ k = 6 ∨ k = 7 ∨ k = 8 ∨ k = 9 ∨ k = 10 ∨ k = 11 ∨ k = 12 ∨ k = 13 ∨ k = 14 ∨ k = 15) : (fs3 Γ σ q).set k (.int v) = fs3 Γ (st σ q k v) q := by
  rcases h with rfl | rfl | rfl | rfl | rfl | rfl | rfl | rfl | rfl | rfl | rfl | rfl <;> simp [fs3, st]
theorem fs5_set {Γ : GG} {σ : Sg} {q k : Nat} {v : Int32} (h : k = 5 ∨ k = 6 ∨ k = 7 ∨ k = 9) : (fs5 Γ σ q).set k (.int v) = fs5 Γ (st σ q k v) q := by
  rcases h with rfl | rfl | rfl | rfl <;> simp [fs5, st]
theorem in_X0 : ∀ w ∈ u_ws RX0 TX0 13, w ∈ gtb := fun w h => gtb_of ((show ∀ w ∈ u_ws RX0 TX0 13, w ∈ lw_tbl by decide +kernel) w h) ((show ∀ w ∈ u_ws RX0 TX0 13, goodWord w = true by decide +kernel) w h)
theorem in_X1 : ∀ w ∈ u_ws RX1 TX1 2, w ∈ gtb := fun w h => gtb_of ((show ∀ w ∈ u_ws RX1 TX1 2, w ∈ lw_tbl by decide +kernel) w h) ((show ∀ w ∈ u_ws RX1 TX1 2, goodWord w = true by decide +kernel) w h)
theorem in_X2 : ∀ w ∈ u_ws RX2 TX2 9, w ∈ gtb := fun w h => gtb_of ((show ∀ w ∈ u_ws RX2 TX2 9, w ∈ lw_tbl by decide +kernel) w h) ((show ∀ w ∈ u_ws RX2 TX2 9, goodWord w = true by decide +kernel) w h)
theorem in_X3 : ∀ w ∈ u_ws RX3 TX3 16, w ∈ gtb := fun w h => gtb_of ((show ∀ w ∈ u_ws RX3 TX3 16, w ∈ lw_tbl by decide +kernel) w h) ((show ∀ w ∈ u_ws RX3 TX3 16, goodWord w = true by decide +kernel) w h)
theorem in_X4 : ∀ w ∈ u_ws RX4 TX4 5, w ∈ gtb := fun w h => gtb_of ((show ∀ w ∈ u_ws RX4 TX4 5, w ∈ lw_tbl by decide +kernel) w h) ((show ∀ w ∈ u_ws RX4 TX4 5, goodWord w = true by decide +kernel) w h)
theorem in_X5 : ∀ w ∈ u_ws RX5 TX5 10, w ∈ gtb := fun w h => gtb_of ((show ∀ w ∈ u_ws RX5 TX5 10, w ∈ lw_tbl by decide +kernel) w h) ((show ∀ w ∈ u_ws RX5 TX5 10, goodWord w = true by decide +kernel) w h)
end
section
/-! ROWS over the picture -/
section RW
variable {p : Program} {l : Launch} {e : Env} {R : Room} {s : State} {m : MethodId} {args : Array Value} {below : List Frame} {meth : Method} {c : Code} {H : Heap} {locs : List Loc} {cells slots : Nat} {Q : State → Prop}
variable {cc : ByteArray} {pc : Nat} {ls : Array Slot} {rest : List Value} {Γ : GG} {σ : Sg} {own : String} {nL : Nat} {ret : Option FieldType}
theorem x_get {q ci N : Nat} {C : String} {T : u_T} {fs : List Value} (M : MX own cc nL ret p s m args meth c) (K : KK Γ s s.heap) (hB : Bd Γ σ s H locs) (hq : q < 157) (he : ent Γ σ q = .inr (ci, fs)) (hc : classes[ci]? = some (C, T, N)) (hin : ∀ w ∈ u_ws C T N, w ∈ gtb) {index : Nat} (k : Nat) (hk : k < N) (hC : (T k).1 = C) (hlink : Cond.fieldLink own index C (T k).2.1 (T k).2.2.1 ∈ gtb) {v : Value} (hv : fs[k]? = some v) (hdg : decode cc pc = .ok (.getfield index, 3))
    (kk : W p l e R s m args below meth c H locs cells slots Q (F0 m (pc + 3) ls (v :: rest))) : W p l e R s m args below meth c H locs cells slots Q (F0 m pc ls (.ref (Γ.1 q) :: rest)) := by
  obtain ⟨hx, hb, hml, hown, hts, -⟩ := M
  exact va_get (D := gD Γ) (cl := classes) (tys := gtys Γ) (ws := pic Γ σ) (C := C) (T := T) (N := N) (ci := ci) hx hb hts hin hown K.1 hB.1 q (by rw [pic_get hq, he]) hc k hk (hts _ hlink) (fun x h => by rw [hC] at h; exact h) hv hdg kk
theorem x_put {q ci N : Nat} {C : String} {T : u_T} {fs : List Value} {σ' : Sg} (M : MX own cc nL ret p s m args meth c) (K : KK Γ s s.heap) (hB : Bd Γ σ s H locs) (hq : q < 157) (he : ent Γ σ q = .inr (ci, fs)) (hc : classes[ci]? = some (C, T, N)) (hin : ∀ w ∈ u_ws C T N, w ∈ gtb) (ty0 : Nat → FieldType) (hty : ∀ k, k < N → parseFieldDescriptor (T k).2.2.1 = some (ty0 k)) (hnm : ∀ a, a < N → ∀ b, b < N → a ≠ b → (T a).2.1 ≠ (T b).2.1) {index : Nat} (k : Nat) (hk : k < N) (hC : (T k).1 = C) (hfin : (T k).2.2.2 = false) (hlink : Cond.fieldLink own index C (T k).2.1 (T k).2.2.1 ∈ gtb) {v : Value} (hn : narrow (ty0 k) v = v) (hfit : fits (ty0 k) v = true) (hl : k < fs.length) (ho : ∀ a, a ≠ q → σ' a = σ a) (he' : ent Γ σ' q = .inr (ci, fs.set k v)) (hdg : decode cc pc = .ok (.putfield index, 3))
    (kk : ∀ (H1 : Heap) (locs1 : List Loc), Bd Γ σ' s H1 locs1 → W p l e R s m args below meth c H1 locs1 cells slots Q (F0 m (pc + 3) ls rest)) : W p l e R s m args below meth c H locs cells slots Q (F0 m pc ls (v :: .ref (Γ.1 q) :: rest)) := by
  obtain ⟨hx, hb, hml, hown, hts, -⟩ := M
  refine va_put (D := gD Γ) (cl := classes) (tys := gtys Γ) (ws := pic Γ σ) (A := AD Γ) (C := C) (T := T) (N := N) (ci := ci) hx hb hts hin ty0 hty hnm hown K.1 hB.1 (pic_D K.2.2.2.2 σ) hB.2 q (by rw [pic_get hq, he]) hc k hk (hts _ hlink) (fun x h => by rw [hC] at h; exact h) hfin (hty k hk) hn hfit hl hdg (fun H1 locs1 h1 _ h3 => ?_)
  rw [pic_set ho he'] at h1
  exact kk H1 locs1 ⟨h1, h3⟩
theorem x_iald {q n : Nat} (M : MX own cc nL ret p s m args meth c) (K : KK Γ s s.heap) (hB : Bd Γ σ s H locs) (hq : isA n q) {i : Int32} (hin : vp_in i n) (hdg : decode cc pc = .ok (.iaload, 1))
    (kk : W p l e R s m args below meth c H locs cells slots Q (F0 m (pc + 1) ls (.int (σ q i.toNatClampNeg) :: rest))) : W p l e R s m args below meth c H locs cells slots Q (F0 m pc ls (.int i :: .ref (Γ.1 q) :: rest)) :=
  va_iald (D := gD Γ) (cl := classes) (tys := gtys Γ) (ws := pic Γ σ) M.1 M.2.1 K.1 hB.1 q 0 (by rw [pic_get hq.2.1, ent_6 hq.1, hq.2.2]) rfl hin hdg kk
theorem x_iast {q n : Nat} (M : MX own cc nL ret p s m args meth c) (K : KK Γ s s.heap) (hB : Bd Γ σ s H locs) (hq : isA n q) {i x : Int32} (hin : vp_in i n) (hdg : decode cc pc = .ok (.iastore, 1))
    (kk : ∀ (H1 : Heap) (locs1 : List Loc), Bd Γ (st σ q i.toNatClampNeg x) s H1 locs1 → W p l e R s m args below meth c H1 locs1 cells slots Q (F0 m (pc + 1) ls rest)) : W p l e R s m args below meth c H locs cells slots Q (F0 m pc ls (.int x :: .int i :: .ref (Γ.1 q) :: rest)) := by
  refine va_iast (D := gD Γ) (cl := classes) (tys := gtys Γ) (ws := pic Γ σ) (A := AD Γ) M.1 M.2.1 K.1 hB.1 (pic_D K.2.2.2.2 σ) hB.2 q 0 (by rw [pic_get hq.2.1, ent_6 hq.1, hq.2.2]) rfl hin hdg (fun H1 locs1 h1 _ h3 => ?_)
  rw [pic_set (σ' := st σ q i.toNatClampNeg x) (fun a h => st_o a h) (by rw [ent_6 hq.1, hq.2.2, st_q])] at h1
  exact kk H1 locs1 ⟨h1, h3⟩
theorem x_cald {q : Nat} (M : MX own cc nL ret p s m args meth c) (K : KK Γ s s.heap) (hB : Bd Γ σ s H locs) (hq : isK 7 q) {i : Int32} (hin : vp_in i (ln q)) (hdg : decode cc pc = .ok (.caload, 1))
    (kk : W p l e R s m args below meth c H locs cells slots Q (F0 m (pc + 1) ls (.int (σ q i.toNatClampNeg) :: rest))) : W p l e R s m args below meth c H locs cells slots Q (F0 m pc ls (.int i :: .ref (Γ.1 q) :: rest)) :=
  va_cald (D := gD Γ) (cl := classes) (tys := gtys Γ) (ws := pic Γ σ) M.1 M.2.1 K.1 hB.1 q 1 (by rw [pic_get hq.2, ent_7 hq.1]) rfl hin hdg kk
theorem x_cast {q : Nat} (M : MX own cc nL ret p s m args meth c) (K : KK Γ s s.heap) (hB : Bd Γ σ s H locs) (hq : isK 7 q) {i x : Int32} (hin : vp_in i (ln q)) (hdg : decode cc pc = .ok (.castore, 1))
    (kk : ∀ (H1 : Heap) (locs1 : List Loc), Bd Γ (st σ q i.toNatClampNeg (vp_nar .char x)) s H1 locs1 → W p l e R s m args below meth c H1 locs1 cells slots Q (F0 m (pc + 1) ls rest)) : W p l e R s m args below meth c H locs cells slots Q (F0 m pc ls (.int x :: .int i :: .ref (Γ.1 q) :: rest)) := by
  refine va_cast (D := gD Γ) (cl := classes) (tys := gtys Γ) (ws := pic Γ σ) (A := AD Γ) M.1 M.2.1 K.1 hB.1 (pic_D K.2.2.2.2 σ) hB.2 q 1 (by rw [pic_get hq.2, ent_7 hq.1]) rfl hin hdg (fun H1 locs1 h1 _ h3 => ?_)
  rw [pic_set (σ' := st σ q i.toNatClampNeg (vp_nar .char x)) (fun a h => st_o a h) (by rw [ent_7 hq.1, st_q])] at h1
  exact kk H1 locs1 ⟨h1, h3⟩
theorem x_zald {q : Nat} (M : MX own cc nL ret p s m args meth c) (K : KK Γ s s.heap) (hB : Bd Γ σ s H locs) (hq : isK 8 q) {i : Int32} (hin : vp_in i (ln q)) (hdg : decode cc pc = .ok (.baload, 1))
    (kk : W p l e R s m args below meth c H locs cells slots Q (F0 m (pc + 1) ls (.int (σ q i.toNatClampNeg) :: rest))) : W p l e R s m args below meth c H locs cells slots Q (F0 m pc ls (.int i :: .ref (Γ.1 q) :: rest)) :=
  va_zald (D := gD Γ) (cl := classes) (tys := gtys Γ) (ws := pic Γ σ) M.1 M.2.1 K.1 hB.1 q 2 (by rw [pic_get hq.2, ent_8 hq.1]) rfl hin hdg kk
theorem x_zast {q : Nat} (M : MX own cc nL ret p s m args meth c) (K : KK Γ s s.heap) (hB : Bd Γ σ s H locs) (hq : isK 8 q) {i x : Int32} (hin : vp_in i (ln q)) (hdg : decode cc pc = .ok (.bastore, 1))
    (kk : ∀ (H1 : Heap) (locs1 : List Loc), Bd Γ (st σ q i.toNatClampNeg (vp_nar .boolean x)) s H1 locs1 → W p l e R s m args below meth c H1 locs1 cells slots Q (F0 m (pc + 1) ls rest)) : W p l e R s m args below meth c H locs cells slots Q (F0 m pc ls (.int x :: .int i :: .ref (Γ.1 q) :: rest)) := by
  refine va_zast (D := gD Γ) (cl := classes) (tys := gtys Γ) (ws := pic Γ σ) (A := AD Γ) M.1 M.2.1 K.1 hB.1 (pic_D K.2.2.2.2 σ) hB.2 q 2 (by rw [pic_get hq.2, ent_8 hq.1]) rfl hin hdg (fun H1 locs1 h1 _ h3 => ?_)
  rw [pic_set (σ' := st σ q i.toNatClampNeg (vp_nar .boolean x)) (fun a h => st_o a h) (by rw [ent_8 hq.1, st_q])] at h1
  exact kk H1 locs1 ⟨h1, h3⟩
theorem x_alen {q n : Nat} (M : MX own cc nL ret p s m args meth c) (K : KK Γ s s.heap) (hB : Bd Γ σ s H locs) (hq : isA n q) {v : Int32} (hv : Int32.ofNat n = v) (hdg : decode cc pc = .ok (.arraylength, 1))
    (kk : W p l e R s m args below meth c H locs cells slots Q (F0 m (pc + 1) ls (.int v :: rest))) : W p l e R s m args below meth c H locs cells slots Q (F0 m pc ls (.ref (Γ.1 q) :: rest)) :=
  va_alen (D := gD Γ) (cl := classes) (tys := gtys Γ) (ws := pic Γ σ) (x := (n, .inl (σ q))) M.1 M.2.1 K.1 hB.1 q 0 (by rw [pic_get hq.2.1, ent_6 hq.1, hq.2.2]) (ty := .int) rfl hv hdg kk
theorem x_aaldT {q : Nat} (M : MX own cc nL ret p s m args meth c) (K : KK Γ s s.heap) (hB : Bd Γ σ s H locs) (hq : isK 10 q) {i : Int32} (hin : vp_in i 6) (hdg : decode cc pc = .ok (.aaload, 1))
    (kk : W p l e R s m args below meth c H locs cells slots Q (F0 m (pc + 1) ls (.ref (Γ.1 (q + 3 + 5 * i.toNatClampNeg)) :: rest))) : W p l e R s m args below meth c H locs cells slots Q (F0 m pc ls (.int i :: .ref (Γ.1 q) :: rest)) :=
  va_aldq (D := gD Γ) (cl := classes) (tys := gtys Γ) (ws := pic Γ σ) (f := fun k => some (Γ.1 (q + 3 + 5 * k))) M.1 M.2.1 K.1 hB.1 q 4 (by rw [pic_get hq.2, ent_10 hq.1]) rfl hin hdg kk
theorem x_aaldB {q : Nat} (M : MX own cc nL ret p s m args meth c) (K : KK Γ s s.heap) (hB : Bd Γ σ s H locs) (hq : isK 9 q) {i : Int32} (hin : vp_in i 2) (hdg : decode cc pc = .ok (.aaload, 1))
    (kk : W p l e R s m args below meth c H locs cells slots Q (F0 m (pc + 1) ls (.ref (Γ.1 (q + 1 + 35 * i.toNatClampNeg)) :: rest))) : W p l e R s m args below meth c H locs cells slots Q (F0 m pc ls (.int i :: .ref (Γ.1 q) :: rest)) :=
  va_aldq (D := gD Γ) (cl := classes) (tys := gtys Γ) (ws := pic Γ σ) (f := fun k => some (Γ.1 (q + 1 + 35 * k))) M.1 M.2.1 K.1 hB.1 q 3 (by rw [pic_get hq.2, ent_9 hq.1]) rfl hin hdg kk
theorem x_copy {q0 q1 n0 n1 : Nat} (M : MX own cc nL ret p s m args meth c) (K : KK Γ s s.heap) (hB : Bd Γ σ s H locs) (hls : ls.size = nL) (hq0 : isA n0 q0) (hq1 : isA n1 q1) {index : Nat} (hlink : Cond.methodLink own index arraycopyName ∈ gtb) (hnat : Cond.native arraycopyName ∈ gtb) (hstat : Cond.static arraycopyName ∈ gtb) (hini : Cond.initialized "java/lang/System" ∈ gtb)
    {sp dp n : Int32} (h1 : ¬ sp < 0) (h2 : ¬ dp < 0) (h3 : ¬ n < 0) (h4 : sp.toNatClampNeg + n.toNatClampNeg ≤ n0) (h5 : dp.toNatClampNeg + n.toNatClampNeg ≤ n1)
    (hframes : 1 ≤ R.frames) (hlocals : (rest.map fun v => v.category).sum + (nativeFrameWords "java/lang/System" "arraycopy" 5 + 11) ≤ R.locals) (hdg : decode cc pc = .ok (.invokestatic index, 3))
    (kk : ∀ (H1 : Heap) (locs1 : List Loc), Bd Γ (sr σ q1 (va_cpy (σ q0) (σ q1) sp.toNatClampNeg dp.toNatClampNeg n.toNatClampNeg)) s H1 locs1 → W p l e R s m args below meth c H1 locs1 cells slots Q (F0 m (pc + 3) ls rest)) : W p l e R s m args below meth c H locs cells slots Q (F0 m pc ls (.int n :: .int dp :: .ref (Γ.1 q1) :: .int sp :: .ref (Γ.1 q0) :: rest)) := by
  obtain ⟨hx, hb, hml, hown, hts, -⟩ := M
  refine va_copyi (D := gD Γ) (cl := classes) (tys := gtys Γ) (ws := pic Γ σ) (A := AD Γ) (ty := .int) hx hb (hml.trans hls.symm) hown (hts _ hlink) (hts _ hnat) (hts _ hstat) (hts _ hini) K.1 hB.1 (pic_D K.2.2.2.2 σ) hB.2 q0 q1 0 0 (by rw [pic_get hq0.2.1, ent_6 hq0.1, hq0.2.2]) (by rw [pic_get hq1.2.1, ent_6 hq1.1, hq1.2.2]) rfl rfl rfl h1 h2 h3 h4 h5 (fun _ _ => rfl) hframes hlocals hdg (fun H1 locs1 g1 _ g3 => ?_)
  rw [pic_set (σ' := sr σ q1 (va_cpy (σ q0) (σ q1) sp.toNatClampNeg dp.toNatClampNeg n.toNatClampNeg)) (fun a h => sr_o a h) (by rw [ent_6 hq1.1, hq1.2.2]; simp [sr])] at g1
  exact kk H1 locs1 ⟨g1, g3⟩
theorem x_gets {index : Nat} (M : MX own cc nL ret p s m args meth c) (K : KK Γ s s.heap) (hB : Bd Γ σ s H locs) (k : Nat) (hk : k < 6) (hlink : Cond.fieldLink own index RX4 (sn k) "[I" ∈ gtb) (hdg : decode cc pc = .ok (.getstatic index, 3))
    (kk : W p l e R s m args below meth c H locs cells slots Q (F0 m (pc + 3) ls (.ref (gS Γ k) :: rest))) : W p l e R s m args below meth c H locs cells slots Q (F0 m pc ls rest) :=
  va_gets M.1 M.2.1 (K.2.2.1 k hk).1 hB.2 M.2.2.2.1 (M.2.2.2.2.1 _ hlink) (fun x h => h) hdg kk
theorem x_ti (M : MX own cc nL ret p s m args meth c) (K : KK Γ s s.heap) (hB : Bd Γ σ s H locs) {k : Nat} (hk : k < 6) {i : Int32} (hin : vp_in i 8) (hdg : decode cc pc = .ok (.iaload, 1))
    (kk : W p l e R s m args below meth c H locs cells slots Q (F0 m (pc + 1) ls (.int (tb k i.toNatClampNeg) :: rest))) : W p l e R s m args below meth c H locs cells slots Q (F0 m pc ls (.int i :: .ref (gS Γ k) :: rest)) :=
  va_ti M.1 M.2.1 (K.2.2.1 k hk).2 hB.2 hin rfl hdg kk
theorem x_tlen (M : MX own cc nL ret p s m args meth c) (K : KK Γ s s.heap) (hB : Bd Γ σ s H locs) {k : Nat} (hk : k < 6) (hdg : decode cc pc = .ok (.arraylength, 1))
    (kk : W p l e R s m args below meth c H locs cells slots Q (F0 m (pc + 1) ls (.int 8 :: rest))) : W p l e R s m args below meth c H locs cells slots Q (F0 m pc ls (.ref (gS Γ k) :: rest)) :=
  va_tlen M.1 M.2.1 (K.2.2.1 k hk).2 hB.2 rfl hdg kk
theorem x_max {index : Nat} (M : MX own cc nL ret p s m args meth c) (hls : ls.size = nL) (hlink : Cond.methodLink own index Lib.Math.max.name ∈ gtb) (hstat : Cond.static Lib.Math.max.name ∈ gtb) (hini : Cond.initialized "java/lang/Math" ∈ gtb) (hcode : Cond.code Lib.Math.max.name Lib.Math.max.code 2 (some .int) ∈ gtb)
    (hframes : 1 ≤ R.frames) (hlocals : (rest.map fun v => v.category).sum + 13 ≤ R.locals) (hc : cells ≤ R.cells) (hs : slots ≤ R.slots) {x y : Int32} (hdg : decode cc pc = .ok (.invokestatic index, 3))
    (kk : W p l e R s m args below meth c H locs cells slots Q (F0 m (pc + 3) ls (.int (if x < y then y else x) :: rest))) : W p l e R s m args below meth c H locs cells slots Q (F0 m pc ls (.int y :: .int x :: rest)) := by
  obtain ⟨hx, hb, hml, hown, hts, -⟩ := M
  exact va_mmax hx hb (hml.trans hls.symm) hown (hts _ hlink) (hts _ hstat) (hts _ hini) (hts _ hcode) hframes hlocals hc hs hdg kk
theorem x_ldc {index : Nat} {v : Int32} (M : MX own cc nL ret p s m args meth c) (hc : Cond.constant own index v ∈ gtb) (hdg : decode cc pc = .ok (.ldc index, 2)) (kk : W p l e R s m args below meth c H locs cells slots Q (F0 m (pc + 2) ls (.int v :: rest))) : W p l e R s m args below meth c H locs cells slots Q (F0 m pc ls rest) :=
  lv_ldc M.1 M.2.1 M.2.2.2.1 (M.2.2.2.2.1 _ hc) hdg kk
theorem x_ldc2 {index : Nat} {v : Int64} (M : MX own cc nL ret p s m args meth c) (hc : Cond.constantLong own index v ∈ gtb) (hdg : decode cc pc = .ok (.ldc2_w index, 3)) (kk : W p l e R s m args below meth c H locs cells slots Q (F0 m (pc + 3) ls (.long v :: rest))) : W p l e R s m args below meth c H locs cells slots Q (F0 m pc ls rest) :=
  lv_ldc2 M.1 M.2.1 M.2.2.2.1 (M.2.2.2.2.1 _ hc) hdg kk
/-- what the tables say of a method that is called: virtual, static -/
def CYv (y : MethodName) (b : ByteArray) (n : Nat) (r : Option FieldType) (np : Nat) : Prop := Cond.code y b n r ∈ gtb ∧ Cond.instanceMethod y ∈ gtb ∧ Cond.selects y.cls y y ∈ gtb ∧ Cond.initialized y.cls ∈ gtb ∧ y.cls ≠ "java/lang/invoke/MethodHandle" ∧ y.cls ≠ "java/lang/invoke/VarHandle" ∧ (parseMethodDescriptor y.desc).map (fun d => d.parameters.length) = some np
def CYs (y : MethodName) (b : ByteArray) (n : Nat) (r : Option FieldType) (np : Nat) : Prop := Cond.code y b n r ∈ gtb ∧ Cond.static y ∈ gtb ∧ Cond.initialized y.cls ∈ gtb ∧ y.cls ≠ "java/lang/invoke/MethodHandle" ∧ y.cls ≠ "java/lang/invoke/VarHandle" ∧ (parseMethodDescriptor y.desc).map (fun d => d.parameters.length) = some np
/-- a callee's room fits the caller's -/
def RF (rm2 R : Room) (n2 : Nat) : Prop := rm2.cells = 0 ∧ rm2.slots = 0 ∧ rm2.frames + 1 ≤ R.frames ∧ 8 + (n2 + 11) + rm2.locals ≤ R.locals
theorem GI_blind {av : List Value} : FrameBlind (va_Pc av (GI Γ σ)) := fun a U g mk q => ⟨q.1, q.2.1, KK.same (u := U) (U := U.calling g mk a) rfl q.2.2⟩
theorem GI_of (K : KK Γ s s.heap) (hB : Bd Γ σ s H locs) {U : State} (hU : U.heap = H) (hW : s.WarmedH U.vm) : GI Γ σ U := ⟨by rw [hU]; exact hB.1, by rw [hU]; exact (KK.warm hW K).kept hB.2.2.1⟩
theorem x_recv {q ci N : Nat} {C : String} {T : u_T} {fs : List Value} (K : KK Γ s s.heap) (hB : Bd Γ σ s H locs) (hq : q < 157) (he : ent Γ σ q = .inr (ci, fs)) (hc : classes[ci]? = some (C, T, N)) : ∃ cell : Cell, H[Γ.1 q]? = some cell ∧ cell.vm.isStatics = false ∧ s.vm.findClass C = some cell.cls :=
  va_recv (q := (C, T, N)) K.1 hB.1 hc (q0 := q) (by rw [pic_get hq, he])
variable {y : MethodName} {b2 : ByteArray} {n2 np : Nat} {r2 : Option FieldType} {rm2 : Room} {index q ci : Nat} {res : Int32 × Sg} {stk : List Value}
theorem x_runV {Qc : Array Value → State → Outcome → State → Prop} (M : MX own cc nL ret p s m args meth c) (K : KK Γ s s.heap) (hB : Bd Γ σ s H locs) (hls : ls.size = nL) (As : List Value) {rest : List Value} (hst : stk = As.reverse ++ .ref (Γ.1 q) :: rest) (hM : Met l y (Cond.code y b2 n2 r2 :: gtb) rm2 (va_Pc (.ref (Γ.1 q) :: As) (GI Γ σ)) Qc 0 0 (AD Γ)) (hy : CYv y b2 n2 r2 As.length)
    (hrv : ∃ cell : Cell, H[Γ.1 q]? = some cell ∧ cell.vm.isStatics = false ∧ s.vm.findClass y.cls = some cell.cls) (hlink : Cond.methodLink own index y ∈ gtb) (hR : RF rm2 R n2) (hcat : (rest.map fun v => v.category).sum ≤ 8) (hf : cells ≤ R.cells ∧ slots ≤ R.slots) (hdg : decode cc pc = .ok (.invokevirtual index, 3)) :
    va_Run p l e R s m args below meth c H locs cells slots 0 0 (F0 m pc ls stk) rest (Qc (Value.ref (Γ.1 q) :: As).toArray) (AD Γ) := by
  subst hst
  obtain ⟨hx, hb, hml, hown, hts, -⟩ := M
  obtain ⟨h1, h2, h3, h4, h5, h6, h7⟩ := hy
  exact va_runV (Ts := gtb) (own := own) (C := y.cls) ⟨hx, hb, hml, hown, hts⟩ hM ⟨callB_of As.length hts (gtb_in h1) rfl hR.1 hR.2.1 (hts _ h4) (hts _ hlink) ⟨h5, h6, h7⟩ hR.2.2, hts _ h2, hts _ h3⟩ ⟨GI_blind, hrv, fun U hU hW => ⟨rfl, GI_of K hB hU hW⟩⟩ rfl rfl hls rfl (lv_room hcat) hdg hf
theorem x_runS {Qc : Array Value → State → Outcome → State → Prop} (M : MX own cc nL ret p s m args meth c) (K : KK Γ s s.heap) (hB : Bd Γ σ s H locs) (hls : ls.size = nL) (As : List Value) {rest : List Value} (hst : stk = As.reverse ++ rest) (hM : Met l y (Cond.code y b2 n2 r2 :: gtb) rm2 (va_Pc As (GI Γ σ)) Qc 0 0 (AD Γ)) (hy : CYs y b2 n2 r2 As.length)
    (hlink : Cond.methodLink own index y ∈ gtb) (hR : RF rm2 R n2) (hcat : (rest.map fun v => v.category).sum ≤ 8) (hf : cells ≤ R.cells ∧ slots ≤ R.slots) (hdg : decode cc pc = .ok (.invokestatic index, 3)) :
    va_Run p l e R s m args below meth c H locs cells slots 0 0 (F0 m pc ls stk) rest (Qc As.toArray) (AD Γ) := by
  subst hst
  obtain ⟨hx, hb, hml, hown, hts, -⟩ := M
  obtain ⟨h1, h2, h4, h5, h6, h7⟩ := hy
  exact va_runS (Ts := gtb) (own := own) ⟨hx, hb, hml, hown, hts⟩ hM ⟨callB_of As.length hts (gtb_in h1) rfl hR.1 hR.2.1 (hts _ h4) (hts _ hlink) ⟨h5, h6, h7⟩ hR.2.2, hts _ h2⟩ ⟨GI_blind, fun U hU hW => ⟨rfl, GI_of K hB hU hW⟩⟩ rfl rfl hls rfl (lv_room hcat) hdg hf
theorem x_runSN {host : String} {Qc : Array Value → State → Outcome → State → Prop} (M : MX own cc nL ret p s m args meth c) (K : KK Γ s s.heap) (hB : Bd Γ σ s H locs) (hls : ls.size = nL) (As : List Value) {rest : List Value} (hst : stk = As.reverse ++ rest) (hM : Met l y (Cond.code y b2 n2 r2 :: gtb) rm2 (va_Pc As (GI Γ σ)) Qc 0 0 (AD Γ)) (hy : CYs y b2 n2 r2 As.length)
    (hlink : Cond.methodLinkNest own index y host ∈ ntb) (hR : RF rm2 R n2) (hcat : (rest.map fun v => v.category).sum ≤ 8) (hf : cells ≤ R.cells ∧ slots ≤ R.slots) (hdg : decode cc pc = .ok (.invokestatic index, 3)) :
    va_Run p l e R s m args below meth c H locs cells slots 0 0 (F0 m pc ls stk) rest (Qc As.toArray) (AD Γ) := by
  subst hst
  obtain ⟨hx, hb, hml, hown, hts, -⟩ := M
  obtain ⟨h1, h2, h4, h5, h6, h7⟩ := hy
  exact va_runSN (Ts := gtb) (own := own) (host := host) ⟨hx, hb, hml, hown, hts⟩ hM ⟨va_cnB As.length hts (gtb_in h1) rfl hR.1 hR.2.1 (K.2.1 _ hlink) (hts _ h4) ⟨h5, h6, h7⟩ hR.2.2, hts _ h2, trivial⟩ ⟨GI_blind, fun U hU hW => ⟨rfl, GI_of K hB hU hW⟩⟩ rfl rfl hls rfl (lv_room hcat) hdg hf
theorem x_callI {a : Array Value} {st0 : List Value} (hr : va_Run p l e R s m args below meth c H locs cells slots 0 0 (F0 m pc ls st0) rest (QI Γ res a) (AD Γ)) (hB : Bd Γ σ s H locs)
    (kk : ∀ (H1 : Heap) (locs1 : List Loc), Bd Γ res.2 s H1 locs1 → W p l e R s m args below meth c H1 locs1 cells slots Q (F0 m (pc + 3) ls (.int res.1 :: rest))) : W p l e R s m args below meth c H locs cells slots Q (F0 m pc ls st0) := by
  refine va_calli hr hB.2 (fun q _ h => h) (fun q h => h) (fun r u t H1 locs1 ht hvm hw hP hz1 hk1 hS => ?_)
  obtain ⟨rfl, rfl⟩ := hw
  rw [ht] at hP
  exact kk H1 locs1 ⟨hP, hS⟩
theorem x_callV {a : Array Value} {st0 : List Value} (hr : va_Run p l e R s m args below meth c H locs cells slots 0 0 (F0 m pc ls st0) rest (QV Γ res a) (AD Γ)) (hB : Bd Γ σ s H locs)
    (kk : ∀ (H1 : Heap) (locs1 : List Loc), Bd Γ res.2 s H1 locs1 → W p l e R s m args below meth c H1 locs1 cells slots Q (F0 m (pc + 3) ls rest)) : W p l e R s m args below meth c H locs cells slots Q (F0 m pc ls st0) := by
  refine va_callv hr hB.2 (fun q _ h => h) (fun q h => h) (fun u t H1 locs1 ht hvm hw hP hz1 hk1 hS => ?_)
  subst hw
  rw [ht] at hP
  exact kk H1 locs1 ⟨hP, hS⟩
theorem x_iret {v : Int32} {rm : Room} (M : MX own cc nL (some .int) p s m args meth c) (hB : Bd Γ σ s H locs) (hr : (v, σ) = res) (hdg : decode cc pc = .ok (.ireturn, 1)) : WI Γ rm p l e s m args below meth c H locs res (F0 m pc ls [.int v]) := by
  subst hr
  exact W.iret (v := v) M.1 M.2.1 M.2.2.2.2.2.1 (fun t ht hW => ⟨⟨v, σ, rfl, ⟨rfl, rfl⟩, by show va_P _ _ _ t.heap; rw [ht]; exact hB.1⟩, hB.2.F ht⟩) hB.2.2.2 hdg (hlocks := M.2.2.2.2.2.2)
theorem x_zret {v : Int32} {rm : Room} {ty : FieldType} (M : MX own cc nL (some ty) p s m args meth c) (hB : Bd Γ σ s H locs) (hn : narrow ty (.int v) = .int v) (hr : (v, σ) = res) (hdg : decode cc pc = .ok (.ireturn, 1)) : WI Γ rm p l e s m args below meth c H locs res (F0 m pc ls [.int v]) := by
  subst hr
  exact W.zret (v := v) M.1 M.2.1 M.2.2.2.2.2.1 hn (fun t ht hW => ⟨⟨v, σ, rfl, ⟨rfl, rfl⟩, by show va_P _ _ _ t.heap; rw [ht]; exact hB.1⟩, hB.2.F ht⟩) hB.2.2.2 hdg (hlocks := M.2.2.2.2.2.2)
theorem x_vret {rm : Room} (M : MX own cc nL none p s m args meth c) (hB : Bd Γ σ s H locs) (hr : (0, σ) = res) (hdg : decode cc pc = .ok (.return_, 1)) : WV Γ rm p l e s m args below meth c H locs res (F0 m pc ls []) := by
  subst hr
  exact W.vret M.1 M.2.1 M.2.2.2.2.2.1 (fun t ht hW => ⟨⟨σ, rfl, rfl, by show va_P _ _ _ t.heap; rw [ht]; exact hB.1⟩, hB.2.F ht⟩) hB.2.2.2 hdg (hlocks := M.2.2.2.2.2.2)
end RW
theorem nar_z {v : Int32} (h : v = 0 ∨ v = 1) : narrow .boolean (.int v) = .int v := by rcases h with rfl | rfl <;> rfl
theorem fit_z {v : Int32} (h : v = 0 ∨ v = 1) : fits .boolean (.int v) = true := by rcases h with rfl | rfl <;> rfl
section MT
variable {y : MethodName} {cc : ByteArray} {n : Nat} {ret : Option FieldType} {rm : Room} {Γ : GG} {σ : Sg} {res : Int32 × Sg} {l : Launch}
theorem x_metI (hy : plainName y.cls = true) (av : List Value) (hav : (lg_sl av).length ≤ n) (h : ∀ (p : Program) (e : Env) (s : State) (m : MethodId) (args : Array Value) (below : List Frame) (meth : Method) (c : Code), MX y.cls cc n ret p s m args meth c → KK Γ s s.heap → ∀ ls : Array Slot, lv_has ls n (lv_args 0 av) → Bd Γ σ s s.heap [] → WI Γ rm p l e s m args below meth c s.heap [] res (F0 m 0 ls [])) : Met l y (Cond.code y cc n ret :: gtb) rm (va_Pc av (GI Γ σ)) (QI Γ res) 0 0 (AD Γ) := by
  refine Met.ofW (cc := cc) (maxL := n) (ret := ret) hy rfl ?_
  intro p e s m args below meth c s₁ B hml hv
  obtain ⟨rfl, hP, hK⟩ := hv
  have hts := atoms_spec (ws := Cond.code y cc n ret :: gtb) B.pre
  have hl := lv_entry av hav
  rw [lg_entry_eq]
  exact h p e s m _ below meth c ⟨B.exec, B.bytes, hml, findClass_of_methodNamed B.named, fun w hw => hts w (List.mem_cons_of_mem _ hw), B.returns, B.notSynchronized⟩ hK _ hl ⟨hP, va_S.rf⟩
theorem x_metV (hy : plainName y.cls = true) (av : List Value) (hav : (lg_sl av).length ≤ n) (h : ∀ (p : Program) (e : Env) (s : State) (m : MethodId) (args : Array Value) (below : List Frame) (meth : Method) (c : Code), MX y.cls cc n ret p s m args meth c → KK Γ s s.heap → ∀ ls : Array Slot, lv_has ls n (lv_args 0 av) → Bd Γ σ s s.heap [] → WV Γ rm p l e s m args below meth c s.heap [] res (F0 m 0 ls [])) : Met l y (Cond.code y cc n ret :: gtb) rm (va_Pc av (GI Γ σ)) (QV Γ res) 0 0 (AD Γ) := by
  refine Met.ofW (cc := cc) (maxL := n) (ret := ret) hy rfl ?_
  intro p e s m args below meth c s₁ B hml hv
  obtain ⟨rfl, hP, hK⟩ := hv
  have hts := atoms_spec (ws := Cond.code y cc n ret :: gtb) B.pre
  have hl := lv_entry av hav
  rw [lg_entry_eq]
  exact h p e s m _ below meth c ⟨B.exec, B.bytes, hml, findClass_of_methodNamed B.named, fun w hw => hts w (List.mem_cons_of_mem _ hw), B.returns, B.notSynchronized⟩ hK _ hl ⟨hP, va_S.rf⟩
end MT
section RK
variable {p : Program} {l : Launch} {e : Env} {R : Room} {s : State} {m : MethodId} {args : Array Value} {below : List Frame} {meth : Method} {c : Code} {H : Heap} {locs : List Loc} {cells slots : Nat} {Q : State → Prop}
variable {cc : ByteArray} {pc : Nat} {ls : Array Slot} {rest : List Value} {Γ : GG} {σ : Sg} {own : String} {nL : Nat} {ret : Option FieldType} {q index : Nat}
theorem own_X0 : ∀ k, k < 13 → (TX0 k).1 = RX0 := by decide +kernel
theorem x_get0 (M : MX own cc nL ret p s m args meth c) (K : KK Γ s s.heap) (hB : Bd Γ σ s H locs) (hq : isK 0 q) (k : Nat) (hk : k < 13) (hlink : Cond.fieldLink own index RX0 (TX0 k).2.1 (TX0 k).2.2.1 ∈ gtb) {v : Value} (hv : (fs0 Γ σ q)[k]? = some v) (hdg : decode cc pc = .ok (.getfield index, 3)) (kk : W p l e R s m args below meth c H locs cells slots Q (F0 m (pc + 3) ls (v :: rest))) : W p l e R s m args below meth c H locs cells slots Q (F0 m pc ls (.ref (Γ.1 q) :: rest)) :=
  x_get M K hB hq.2 (ent_0 hq.1) rfl in_X0 k hk (own_X0 k hk) hlink hv hdg kk
theorem x_put0 (M : MX own cc nL ret p s m args meth c) (K : KK Γ s s.heap) (hB : Bd Γ σ s H locs) (hq : isK 0 q) (k : Nat) (hk : k = 3 ∨ k = 4 ∨ k = 5 ∨ k = 6 ∨ k = 7 ∨ k = 8 ∨ k = 9 ∨ k = 10 ∨ k = 11 ∨ k = 12) (hlink : Cond.fieldLink own index RX0 (TX0 k).2.1 (TX0 k).2.2.1 ∈ gtb) {x : Int32} (hdg : decode cc pc = .ok (.putfield index, 3))
    (kk : ∀ (H1 : Heap) (locs1 : List Loc), Bd Γ (st σ q k x) s H1 locs1 → W p l e R s m args below meth c H1 locs1 cells slots Q (F0 m (pc + 3) ls rest)) : W p l e R s m args below meth c H locs cells slots Q (F0 m pc ls (.int x :: .ref (Γ.1 q) :: rest)) := by
  have hk0 : k < 13 := by omega
  have hty : tyX0 k = .int := by rcases hk with rfl | rfl | rfl | rfl | rfl | rfl | rfl | rfl | rfl | rfl <;> rfl
  refine x_put (v := .int x) (σ' := st σ q k x) M K hB hq.2 (ent_0 hq.1) rfl in_X0 tyX0 tyX0_ok nmX0 k hk0 (own_X0 k hk0) (by rcases hk with rfl | rfl | rfl | rfl | rfl | rfl | rfl | rfl | rfl | rfl <;> rfl) hlink (by rw [hty]; rfl) (by rw [hty]; rfl) (by simp [fs0]; omega) (fun a h => st_o a h) (by rw [ent_0 hq.1, fs0_set (by omega)]) hdg kk
theorem own_X1 : ∀ k, k < 2 → (TX1 k).1 = RX1 := by decide +kernel
theorem x_get1 (M : MX own cc nL ret p s m args meth c) (K : KK Γ s s.heap) (hB : Bd Γ σ s H locs) (hq : isK 1 q) (k : Nat) (hk : k < 2) (hlink : Cond.fieldLink own index RX1 (TX1 k).2.1 (TX1 k).2.2.1 ∈ gtb) {v : Value} (hv : (fs1 Γ σ q)[k]? = some v) (hdg : decode cc pc = .ok (.getfield index, 3)) (kk : W p l e R s m args below meth c H locs cells slots Q (F0 m (pc + 3) ls (v :: rest))) : W p l e R s m args below meth c H locs cells slots Q (F0 m pc ls (.ref (Γ.1 q) :: rest)) :=
  x_get M K hB hq.2 (ent_1 hq.1) rfl in_X1 k hk (own_X1 k hk) hlink hv hdg kk
theorem x_put1 (M : MX own cc nL ret p s m args meth c) (K : KK Γ s s.heap) (hB : Bd Γ σ s H locs) (hq : isK 1 q) (k : Nat) (hk : k = 1) (hlink : Cond.fieldLink own index RX1 (TX1 k).2.1 (TX1 k).2.2.1 ∈ gtb) {x : Int32} (hdg : decode cc pc = .ok (.putfield index, 3))
    (kk : ∀ (H1 : Heap) (locs1 : List Loc), Bd Γ (st σ q k x) s H1 locs1 → W p l e R s m args below meth c H1 locs1 cells slots Q (F0 m (pc + 3) ls rest)) : W p l e R s m args below meth c H locs cells slots Q (F0 m pc ls (.int x :: .ref (Γ.1 q) :: rest)) := by
  have hk0 : k < 2 := by omega
  have hty : tyX1 k = .int := by subst hk; rfl
  refine x_put (v := .int x) (σ' := st σ q k x) M K hB hq.2 (ent_1 hq.1) rfl in_X1 tyX1 tyX1_ok nmX1 k hk0 (own_X1 k hk0) (by subst hk; rfl) hlink (by rw [hty]; rfl) (by rw [hty]; rfl) (by simp [fs1]; omega) (fun a h => st_o a h) (by rw [ent_1 hq.1, fs1_set (by omega)]) hdg kk
theorem own_X2 : ∀ k, k < 9 → (TX2 k).1 = RX2 := by decide +kernel
theorem x_get2 (M : MX own cc nL ret p s m args meth c) (K : KK Γ s s.heap) (hB : Bd Γ σ s H locs) (hq : isK 2 q) (k : Nat) (hk : k < 9) (hlink : Cond.fieldLink own index RX2 (TX2 k).2.1 (TX2 k).2.2.1 ∈ gtb) {v : Value} (hv : (fs2 Γ σ q)[k]? = some v) (hdg : decode cc pc = .ok (.getfield index, 3)) (kk : W p l e R s m args below meth c H locs cells slots Q (F0 m (pc + 3) ls (v :: rest))) : W p l e R s m args below meth c H locs cells slots Q (F0 m pc ls (.ref (Γ.1 q) :: rest)) :=
  x_get M K hB hq.2 (ent_2 hq.1) rfl in_X2 k hk (own_X2 k hk) hlink hv hdg kk
theorem x_put2 (M : MX own cc nL ret p s m args meth c) (K : KK Γ s s.heap) (hB : Bd Γ σ s H locs) (hq : isK 2 q) (k : Nat) (hk : k = 1 ∨ k = 2 ∨ k = 3) (hlink : Cond.fieldLink own index RX2 (TX2 k).2.1 (TX2 k).2.2.1 ∈ gtb) {x : Int32} (hdg : decode cc pc = .ok (.putfield index, 3))
    (kk : ∀ (H1 : Heap) (locs1 : List Loc), Bd Γ (st σ q k x) s H1 locs1 → W p l e R s m args below meth c H1 locs1 cells slots Q (F0 m (pc + 3) ls rest)) : W p l e R s m args below meth c H locs cells slots Q (F0 m pc ls (.int x :: .ref (Γ.1 q) :: rest)) := by
  have hk0 : k < 9 := by omega
  have hty : tyX2 k = .int := by rcases hk with rfl | rfl | rfl <;> rfl
  refine x_put (v := .int x) (σ' := st σ q k x) M K hB hq.2 (ent_2 hq.1) rfl in_X2 tyX2 tyX2_ok nmX2 k hk0 (own_X2 k hk0) (by rcases hk with rfl | rfl | rfl <;> rfl) hlink (by rw [hty]; rfl) (by rw [hty]; rfl) (by simp [fs2]; omega) (fun a h => st_o a h) (by rw [ent_2 hq.1, fs2_set (by omega)]) hdg kk
theorem own_X3 : ∀ k, k < 16 → (TX3 k).1 = RX3 := by decide +kernel
theorem x_get3 (M : MX own cc nL ret p s m args meth c) (K : KK Γ s s.heap) (hB : Bd Γ σ s H locs) (hq : isK 3 q) (k : Nat) (hk : k < 16) (hlink : Cond.fieldLink own index RX3 (TX3 k).2.1 (TX3 k).2.2.1 ∈ gtb) {v : Value} (hv : (fs3 Γ σ q)[k]? = some v) (hdg : decode cc pc = .ok (.getfield index, 3)) (kk : W p l e R s m args below meth c H locs cells slots Q (F0 m (pc + 3) ls (v :: rest))) : W p l e R s m args below meth c H locs cells slots Q (F0 m pc ls (.ref (Γ.1 q) :: rest)) :=
  x_get M K hB hq.2 (ent_3 hq.1) rfl in_X3 k hk (own_X3 k hk) hlink hv hdg kk
theorem x_put3 (M : MX own cc nL ret p s m args meth c) (K : KK Γ s s.heap) (hB : Bd Γ σ s H locs) (hq : isK 3 q) (k : Nat) (hk : k = 6 ∨ k = 7 ∨ k = 8 ∨ k = 9 ∨ k = 12 ∨ k = 14 ∨ k = 15) (hlink : Cond.fieldLink own index RX3 (TX3 k).2.1 (TX3 k).2.2.1 ∈ gtb) {x : Int32} (hdg : decode cc pc = .ok (.putfield index, 3))
    (kk : ∀ (H1 : Heap) (locs1 : List Loc), Bd Γ (st σ q k x) s H1 locs1 → W p l e R s m args below meth c H1 locs1 cells slots Q (F0 m (pc + 3) ls rest)) : W p l e R s m args below meth c H locs cells slots Q (F0 m pc ls (.int x :: .ref (Γ.1 q) :: rest)) := by
  have hk0 : k < 16 := by omega
  have hty : tyX3 k = .int := by rcases hk with rfl | rfl | rfl | rfl | rfl | rfl | rfl <;> rfl
  refine x_put (v := .int x) (σ' := st σ q k x) M K hB hq.2 (ent_3 hq.1) rfl in_X3 tyX3 tyX3_ok nmX3 k hk0 (own_X3 k hk0) (by rcases hk with rfl | rfl | rfl | rfl | rfl | rfl | rfl <;> rfl) hlink (by rw [hty]; rfl) (by rw [hty]; rfl) (by simp [fs3]; omega) (fun a h => st_o a h) (by rw [ent_3 hq.1, fs3_set (by omega)]) hdg kk
theorem x_putz3 (M : MX own cc nL ret p s m args meth c) (K : KK Γ s s.heap) (hB : Bd Γ σ s H locs) (hq : isK 3 q) (k : Nat) (hk : k = 4 ∨ k = 5 ∨ k = 10 ∨ k = 11 ∨ k = 13) (hlink : Cond.fieldLink own index RX3 (TX3 k).2.1 (TX3 k).2.2.1 ∈ gtb) {x : Int32} (hx : x = 0 ∨ x = 1) (hdg : decode cc pc = .ok (.putfield index, 3))
    (kk : ∀ (H1 : Heap) (locs1 : List Loc), Bd Γ (st σ q k x) s H1 locs1 → W p l e R s m args below meth c H1 locs1 cells slots Q (F0 m (pc + 3) ls rest)) : W p l e R s m args below meth c H locs cells slots Q (F0 m pc ls (.int x :: .ref (Γ.1 q) :: rest)) := by
  have hk0 : k < 16 := by omega
  have hty : tyX3 k = .boolean := by rcases hk with rfl | rfl | rfl | rfl | rfl <;> rfl
  refine x_put (v := .int x) (σ' := st σ q k x) M K hB hq.2 (ent_3 hq.1) rfl in_X3 tyX3 tyX3_ok nmX3 k hk0 (own_X3 k hk0) (by rcases hk with rfl | rfl | rfl | rfl | rfl <;> rfl) hlink (by rw [hty]; exact nar_z hx) (by rw [hty]; exact fit_z hx) (by simp [fs3]; omega) (fun a h => st_o a h) (by rw [ent_3 hq.1, fs3_set (by omega)]) hdg kk
theorem own_X4 : ∀ k, k < 5 → (TX4 k).1 = RX4 := by decide +kernel
theorem x_get4 (M : MX own cc nL ret p s m args meth c) (K : KK Γ s s.heap) (hB : Bd Γ σ s H locs) (hq : isK 4 q) (k : Nat) (hk : k < 5) (hlink : Cond.fieldLink own index RX4 (TX4 k).2.1 (TX4 k).2.2.1 ∈ gtb) {v : Value} (hv : (fs4 Γ σ q)[k]? = some v) (hdg : decode cc pc = .ok (.getfield index, 3)) (kk : W p l e R s m args below meth c H locs cells slots Q (F0 m (pc + 3) ls (v :: rest))) : W p l e R s m args below meth c H locs cells slots Q (F0 m pc ls (.ref (Γ.1 q) :: rest)) :=
  x_get M K hB hq.2 (ent_4 hq.1) rfl in_X4 k hk (own_X4 k hk) hlink hv hdg kk
theorem own_X5 : ∀ k, k < 10 → (TX5 k).1 = RX5 := by decide +kernel
theorem x_get5 (M : MX own cc nL ret p s m args meth c) (K : KK Γ s s.heap) (hB : Bd Γ σ s H locs) (hq : isK 5 q) (k : Nat) (hk : k < 10) (hlink : Cond.fieldLink own index RX5 (TX5 k).2.1 (TX5 k).2.2.1 ∈ gtb) {v : Value} (hv : (fs5 Γ σ q)[k]? = some v) (hdg : decode cc pc = .ok (.getfield index, 3)) (kk : W p l e R s m args below meth c H locs cells slots Q (F0 m (pc + 3) ls (v :: rest))) : W p l e R s m args below meth c H locs cells slots Q (F0 m pc ls (.ref (Γ.1 q) :: rest)) :=
  x_get M K hB hq.2 (ent_5 hq.1) rfl in_X5 k hk (own_X5 k hk) hlink hv hdg kk
theorem x_put5 (M : MX own cc nL ret p s m args meth c) (K : KK Γ s s.heap) (hB : Bd Γ σ s H locs) (hq : isK 5 q) (k : Nat) (hk : k = 5 ∨ k = 6 ∨ k = 9) (hlink : Cond.fieldLink own index RX5 (TX5 k).2.1 (TX5 k).2.2.1 ∈ gtb) {x : Int32} (hdg : decode cc pc = .ok (.putfield index, 3))
    (kk : ∀ (H1 : Heap) (locs1 : List Loc), Bd Γ (st σ q k x) s H1 locs1 → W p l e R s m args below meth c H1 locs1 cells slots Q (F0 m (pc + 3) ls rest)) : W p l e R s m args below meth c H locs cells slots Q (F0 m pc ls (.int x :: .ref (Γ.1 q) :: rest)) := by
  have hk0 : k < 10 := by omega
  have hty : tyX5 k = .int := by rcases hk with rfl | rfl | rfl <;> rfl
  refine x_put (v := .int x) (σ' := st σ q k x) M K hB hq.2 (ent_5 hq.1) rfl in_X5 tyX5 tyX5_ok nmX5 k hk0 (own_X5 k hk0) (by rcases hk with rfl | rfl | rfl <;> rfl) hlink (by rw [hty]; rfl) (by rw [hty]; rfl) (by simp [fs5]; omega) (fun a h => st_o a h) (by rw [ent_5 hq.1, fs5_set (by omega)]) hdg kk
theorem x_putz5 (M : MX own cc nL ret p s m args meth c) (K : KK Γ s s.heap) (hB : Bd Γ σ s H locs) (hq : isK 5 q) (k : Nat) (hk : k = 7) (hlink : Cond.fieldLink own index RX5 (TX5 k).2.1 (TX5 k).2.2.1 ∈ gtb) {x : Int32} (hx : x = 0 ∨ x = 1) (hdg : decode cc pc = .ok (.putfield index, 3))
    (kk : ∀ (H1 : Heap) (locs1 : List Loc), Bd Γ (st σ q k x) s H1 locs1 → W p l e R s m args below meth c H1 locs1 cells slots Q (F0 m (pc + 3) ls rest)) : W p l e R s m args below meth c H locs cells slots Q (F0 m pc ls (.int x :: .ref (Γ.1 q) :: rest)) := by
  have hk0 : k < 10 := by omega
  have hty : tyX5 k = .boolean := by subst hk; rfl
  refine x_put (v := .int x) (σ' := st σ q k x) M K hB hq.2 (ent_5 hq.1) rfl in_X5 tyX5 tyX5_ok nmX5 k hk0 (own_X5 k hk0) (by subst hk; rfl) hlink (by rw [hty]; exact nar_z hx) (by rw [hty]; exact fit_z hx) (by simp [fs5]; omega) (fun a h => st_o a h) (by rw [ent_5 hq.1, fs5_set (by omega)]) hdg kk
end RK
end
section
/-! the block functions' forms -/
def FU : Nat := 100000
def cb {β : Type} (x : Option (Int32 × Sg)) (f : Int32 → Sg → Option β) : Option β := match x with
  | none => none
  | some r => f r.1 r.2
def wb {β : Type} (x : Sg) (f : Sg → Option β) : Option β := f x
theorem gd {α : Type} {P : Prop} [Decidable P] {a : Option α} {r : α} (h : (if P then none else a) = some r) : ¬ P ∧ a = some r := by
  by_cases hp : P
  · rw [if_pos hp] at h; cases h
  · rw [if_neg hp] at h; exact ⟨hp, h⟩
theorem gd2 {α : Type} {P : Prop} [Decidable P] {a : Option α} {r : α} (h : (if P then a else none) = some r) : P ∧ a = some r := by
  by_cases hp : P
  · rw [if_pos hp] at h; exact ⟨hp, h⟩
  · rw [if_neg hp] at h; cases h
theorem cbd {β : Type} {x : Option (Int32 × Sg)} {f : Int32 → Sg → Option β} {r : β} (h : cb x f = some r) : ∃ (v : Int32) (σ : Sg), x = some (v, σ) ∧ f v σ = some r := by
  cases x with
  | none => cases h
  | some q => exact ⟨q.1, q.2, rfl, h⟩
theorem wbd {β : Type} {x : Sg} {f : Sg → Option β} {r : β} (h : wb x f = some r) : ∃ σ : Sg, σ = x ∧ f σ = some r := ⟨x, rfl, h⟩
theorem nar_c {v : Int32} (h : (v.toUInt32 % 65536).toInt32 = v) : narrow .char (.int v) = .int v := by
  rw [← h]; exact pk_nc _
theorem vp_lt {i : Int32} {n : Nat} (h : ¬ (i < 0 ∨ n ≤ i.toNatClampNeg)) : i.toNatClampNeg < n := Nat.not_le.mp fun q => h (Or.inr q)
def isBk (q : Nat) : Prop := kd q = 1 ∧ q < 156 ∧ kd (q + 1) = 6 ∧ ln (q + 1) = 80
theorem isBk.k {q : Nat} (h : isBk q) : isK 1 q := ⟨h.1, by have := h.2.1; omega⟩
theorem isBk.a {q : Nat} (h : isBk q) : isA 80 (q + 1) := ⟨h.2.2.1, by have := h.2.1; omega, h.2.2.2⟩
theorem isB.bk {q : Nat} (h : isB q) : isBk (q + 3) := by rcases h with rfl | rfl | rfl | rfl <;> (unfold isBk; decide)
theorem isB_1 : isB 1 := Or.inl rfl
theorem isB_36 : isB 36 := Or.inr (Or.inl rfl)
theorem isB_s {k : Nat} (h : k < 2) : isB (71 + 1 + 35 * k) := by
  have h2 : k = 0 ∨ k = 1 := by omega
  rcases h2 with rfl | rfl
  · exact Or.inr (Or.inr (Or.inl rfl))
  · exact Or.inr (Or.inr (Or.inr rfl))
theorem isK_0 : isK 4 0 := ⟨by decide, by decide⟩
theorem isK_71 : isK 9 71 := ⟨by decide, by decide⟩
theorem isK_142 : isK 8 142 := ⟨by decide, by decide⟩
theorem isK_143 : isK 2 143 := ⟨by decide, by decide⟩
theorem isK_144 : isK 7 144 := ⟨by decide, by decide⟩
theorem isK_150 : isK 5 150 := ⟨by decide, by decide⟩
theorem isK_154 : isK 8 154 := ⟨by decide, by decide⟩
theorem isA_145 : isA 20 145 := ⟨by decide, by decide, by decide⟩
theorem isA_146 : isA 20 146 := ⟨by decide, by decide, by decide⟩
theorem isA_147 : isA 20 147 := ⟨by decide, by decide, by decide⟩
theorem isA_148 : isA 20 148 := ⟨by decide, by decide, by decide⟩
theorem isA_149 : isA 20 149 := ⟨by decide, by decide, by decide⟩
theorem isA_151 : isA 255 151 := ⟨by decide, by decide, by decide⟩
theorem isA_152 : isA 255 152 := ⟨by decide, by decide, by decide⟩
theorem isA_153 : isA 510 153 := ⟨by decide, by decide, by decide⟩
theorem isA_155 : isA 60 155 := ⟨by decide, by decide, by decide⟩
theorem isA_156 : isA 155 156 := ⟨by decide, by decide, by decide⟩
section RL
variable {p : Program} {l : Launch} {e : Env} {R : Room} {s : State} {m : MethodId} {args : Array Value} {below : List Frame} {meth : Method} {c : Code} {H : Heap} {locs : List Loc} {cells slots : Nat} {Q : State → Prop}
variable {cc : ByteArray} {pc : Nat} {ls : Array Slot} {rest : List Value} {Γ : GG} {σ : Sg} {own : String} {nL : Nat} {ret : Option FieldType}
theorem x_ialdL {q n : Nat} (M : MX own cc nL ret p s m args meth c) (K : KK Γ s s.heap) (hB : Bd Γ σ s H locs) (hq : isA n q) {i : Int32} {k : Nat} (hk : i.toNatClampNeg = k) (hin : ¬ (i < 0 ∨ n ≤ i.toNatClampNeg)) (hdg : decode cc pc = .ok (.iaload, 1))
    (kk : W p l e R s m args below meth c H locs cells slots Q (F0 m (pc + 1) ls (.int (σ q k) :: rest))) : W p l e R s m args below meth c H locs cells slots Q (F0 m pc ls (.int i :: .ref (Γ.1 q) :: rest)) := by
  subst hk; exact x_iald M K hB hq hin hdg kk
theorem x_caldL {q : Nat} (M : MX own cc nL ret p s m args meth c) (K : KK Γ s s.heap) (hB : Bd Γ σ s H locs) (hq : isK 7 q) {i : Int32} {k : Nat} (hk : i.toNatClampNeg = k) (hin : ¬ (i < 0 ∨ (ln q) ≤ i.toNatClampNeg)) (hdg : decode cc pc = .ok (.caload, 1))
    (kk : W p l e R s m args below meth c H locs cells slots Q (F0 m (pc + 1) ls (.int (σ q k) :: rest))) : W p l e R s m args below meth c H locs cells slots Q (F0 m pc ls (.int i :: .ref (Γ.1 q) :: rest)) := by
  subst hk; exact x_cald M K hB hq hin hdg kk
theorem x_zaldL {q : Nat} (M : MX own cc nL ret p s m args meth c) (K : KK Γ s s.heap) (hB : Bd Γ σ s H locs) (hq : isK 8 q) {i : Int32} {k : Nat} (hk : i.toNatClampNeg = k) (hin : ¬ (i < 0 ∨ (ln q) ≤ i.toNatClampNeg)) (hdg : decode cc pc = .ok (.baload, 1))
    (kk : W p l e R s m args below meth c H locs cells slots Q (F0 m (pc + 1) ls (.int (σ q k) :: rest))) : W p l e R s m args below meth c H locs cells slots Q (F0 m pc ls (.int i :: .ref (Γ.1 q) :: rest)) := by
  subst hk; exact x_zald M K hB hq hin hdg kk
theorem x_aaldTL {q : Nat} (M : MX own cc nL ret p s m args meth c) (K : KK Γ s s.heap) (hB : Bd Γ σ s H locs) (hq : isK 10 q) {i : Int32} {k : Nat} (hk : i.toNatClampNeg = k) (hin : ¬ (i < 0 ∨ 6 ≤ i.toNatClampNeg)) (hdg : decode cc pc = .ok (.aaload, 1))
    (kk : W p l e R s m args below meth c H locs cells slots Q (F0 m (pc + 1) ls (.ref (Γ.1 (q + 3 + 5 * k)) :: rest))) : W p l e R s m args below meth c H locs cells slots Q (F0 m pc ls (.int i :: .ref (Γ.1 q) :: rest)) := by
  subst hk; exact x_aaldT M K hB hq hin hdg kk
theorem x_aaldBL {q : Nat} (M : MX own cc nL ret p s m args meth c) (K : KK Γ s s.heap) (hB : Bd Γ σ s H locs) (hq : isK 9 q) {i : Int32} {k : Nat} (hk : i.toNatClampNeg = k) (hin : ¬ (i < 0 ∨ 2 ≤ i.toNatClampNeg)) (hdg : decode cc pc = .ok (.aaload, 1))
    (kk : W p l e R s m args below meth c H locs cells slots Q (F0 m (pc + 1) ls (.ref (Γ.1 (q + 1 + 35 * k)) :: rest))) : W p l e R s m args below meth c H locs cells slots Q (F0 m pc ls (.int i :: .ref (Γ.1 q) :: rest)) := by
  subst hk; exact x_aaldB M K hB hq hin hdg kk
theorem x_iastL {q n : Nat} (M : MX own cc nL ret p s m args meth c) (K : KK Γ s s.heap) (hB : Bd Γ σ s H locs) (hq : isA n q) {i x : Int32} {k : Nat} (hk : i.toNatClampNeg = k) (hin : ¬ (i < 0 ∨ n ≤ i.toNatClampNeg)) (hdg : decode cc pc = .ok (.iastore, 1))
    (kk : ∀ (H1 : Heap) (locs1 : List Loc), Bd Γ (st σ q k x) s H1 locs1 → W p l e R s m args below meth c H1 locs1 cells slots Q (F0 m (pc + 1) ls rest)) : W p l e R s m args below meth c H locs cells slots Q (F0 m pc ls (.int x :: .int i :: .ref (Γ.1 q) :: rest)) := by
  subst hk; exact x_iast M K hB hq hin hdg kk
theorem x_tiL (M : MX own cc nL ret p s m args meth c) (K : KK Γ s s.heap) (hB : Bd Γ σ s H locs) {t : Nat} (ht : t < 6) {i : Int32} {k : Nat} (hk : i.toNatClampNeg = k) (hin : ¬ (i < 0 ∨ 8 ≤ i.toNatClampNeg)) (hdg : decode cc pc = .ok (.iaload, 1))
    (kk : W p l e R s m args below meth c H locs cells slots Q (F0 m (pc + 1) ls (.int (tb t k) :: rest))) : W p l e R s m args below meth c H locs cells slots Q (F0 m pc ls (.int i :: .ref (gS Γ t) :: rest)) := by
  subst hk; exact x_ti M K hB ht hin hdg kk
theorem x_getsN {index : Nat} {host : String} (M : MX own cc nL ret p s m args meth c) (K : KK Γ s s.heap) (hB : Bd Γ σ s H locs) (k : Nat) (hk : k < 6) (hlink : Cond.fieldLinkNest own index RX4 (sn k) "[I" host ∈ ntb) (hdg : decode cc pc = .ok (.getstatic index, 3))
    (kk : W p l e R s m args below meth c H locs cells slots Q (F0 m (pc + 3) ls (.ref (gS Γ k) :: rest))) : W p l e R s m args below meth c H locs cells slots Q (F0 m pc ls rest) :=
  va_getsN M.1 M.2.1 (K.2.2.1 k hk).1 hB.2 M.2.2.2.1 (va_Nw.use rfl (K.2.1 _ hlink)) (fun x h => h) hdg kk
theorem x_copyT {q1 n1 t : Nat} (M : MX own cc nL ret p s m args meth c) (K : KK Γ s s.heap) (hB : Bd Γ σ s H locs) (hls : ls.size = nL) (ht : t < 6) (hq1 : isA n1 q1) {index : Nat} (hlink : Cond.methodLink own index arraycopyName ∈ gtb) (hnat : Cond.native arraycopyName ∈ gtb) (hstat : Cond.static arraycopyName ∈ gtb) (hini : Cond.initialized "java/lang/System" ∈ gtb)
    {sp dp n : Int32} (h1 : ¬ sp < 0) (h2 : ¬ dp < 0) (h3 : ¬ n < 0) (h4 : sp.toNatClampNeg + n.toNatClampNeg ≤ 8) (h5 : dp.toNatClampNeg + n.toNatClampNeg ≤ n1)
    (hframes : 1 ≤ R.frames) (hlocals : (rest.map fun v => v.category).sum + (nativeFrameWords "java/lang/System" "arraycopy" 5 + 11) ≤ R.locals) (hdg : decode cc pc = .ok (.invokestatic index, 3))
    (kk : ∀ (H1 : Heap) (locs1 : List Loc), Bd Γ (sr σ q1 (va_cpy (tb t) (σ q1) sp.toNatClampNeg dp.toNatClampNeg n.toNatClampNeg)) s H1 locs1 → W p l e R s m args below meth c H1 locs1 cells slots Q (F0 m (pc + 3) ls rest)) : W p l e R s m args below meth c H locs cells slots Q (F0 m pc ls (.int n :: .int dp :: .ref (Γ.1 q1) :: .int sp :: .ref (gS Γ t) :: rest)) := by
  have nn : ∀ z : Int32, ¬ z < 0 → z.toInt = (z.toNatClampNeg : Int) := by
    intro z hz
    have hz0 : (0 : Int) ≤ z.toInt := by
      have := Int32.not_lt.mp hz
      simpa using Int32.le_iff_toInt_le.mp this
    show z.toInt = ((z.toInt.toNat : Nat) : Int)
    omega
  obtain ⟨hexec, hb, hml, hown, hts, -⟩ := M
  have hS := hB.2
  have hX := (K.2.2.1 t ht).2
  have hA1 : (pic Γ σ)[q1]? = some (Γ.1 q1, .inl (gA Γ 0, n1, .inl (σ q1))) := by rw [pic_get hq1.2.1, ent_6 hq1.1, hq1.2.2]
  intro T hT X
  obtain ⟨scr, hs1, hs2, hs3, hs4, -, hs5, hs7⟩ := hX
  have hc0 : H[gS Γ t]? = some scr := by rw [hS.2.1 _ (Array.getElem?_eq_some_iff.mp hs1).1 hs7]; exact hs1
  have hc1 : H[Γ.1 q1]? = some (vp_cell (gA Γ 0) (n1, .inl (σ q1))) := hB.1 q1 _ hA1
  obtain ⟨hs6, k0, hk0, cm0, hkk0⟩ := hs2
  obtain ⟨-, k1, hk1, cm1, hkk1⟩ := (K.1.2 0 (gA Γ 0, .int) rfl).1 n1 (fun j => .int (σ q1 j))
  obtain ⟨vm', X', step⟩ := X.arraycopy hexec hown (hts _ hlink) (hts _ hnat) (hts _ hstat) (hts _ hini) (src := gS Γ t) (dst := Γ.1 q1) (cs := scr) (cd := vp_cell (gA Γ 0) (n1, .inl (σ q1))) (srcPos := sp) (destPos := dp) (n := n) (by rw [hT]; exact hc0) (by rw [hT]; exact hc1)
    hs6 (fun _ h => by cases h) hs3 (fun h => by cases h) hk0 hk1 hkk0 hkk1 (by simp [refKind]) h1 h2 h3
    (by rw [nn sp h1, nn n h3]; omega)
    (by rw [nn dp h2, nn n h3]; show ¬ _ > ((arrV (gA Γ 0) n1 (fun j => .int (σ q1 j))).slots.size : Int); rw [arrV_size]; omega)
    (fun vm₁ _ i hi => by
      have e : scr.slots.getD (sp.toNatClampNeg + i) .null = .int (tb t (sp.toNatClampNeg + i)) := by
        rw [Array.getD_eq_getD_getElem?, hs5 _ (by omega)]
        rfl
      refine ⟨?_, ?_⟩
      · rw [e]
        rfl
      · rw [e]
        exact trivial)
    (g := F0 m pc ls (.int n :: .int dp :: .ref (Γ.1 q1) :: .int sp :: .ref (gS Γ t) :: rest)) rfl (by rw [hml, hls]) (rest := rest) rfl (by rw [hb]; exact hdg) hframes (by show 2 * 0 + _ + _ ≤ _; omega)
  have e1 : copied scr (vp_cell (gA Γ 0) (n1, .inl (σ q1))) sp dp n = vp_cell (gA Γ 0) (n1, .inl (va_cpy (tb t) (σ q1) sp.toNatClampNeg dp.toNatClampNeg n.toNatClampNeg)) := va_copiedX (fun z => .int z) scr (gA Γ 0) (tb t) (σ q1) hs5 h4
  rw [e1] at X' step
  have hl : Γ.1 q1 < H.size := (Array.getElem?_eq_some_iff.mp hc1).1
  have hheap : ((T.setVm vm').setCell (Γ.1 q1) (vp_cell (gA Γ 0) (n1, .inl (va_cpy (tb t) (σ q1) sp.toNatClampNeg dp.toNatClampNeg n.toNatClampNeg)))).heap = H.setIfInBounds (Γ.1 q1) (vp_cell (gA Γ 0) (n1, .inl (va_cpy (tb t) (σ q1) sp.toNatClampNeg dp.toNatClampNeg n.toNatClampNeg))) := by rw [← hT]; rfl
  have oq : ∀ q : Nat, q ≠ Γ.1 q1 → (H.setIfInBounds (Γ.1 q1) (vp_cell (gA Γ 0) (n1, .inl (va_cpy (tb t) (σ q1) sp.toNatClampNeg dp.toNatClampNeg n.toNatClampNeg))))[q]? = H[q]? := fun q hq => by simp [Array.getElem?_setIfInBounds, Ne.symm hq]
  have hAD : AD Γ (Γ.1 q1) := ⟨q1, hq1.2.1, rfl⟩
  have hP2 := hB.1.set (pic_D K.2.2.2.2 σ) hA1 (show va_at (gD Γ) classes (Γ.1 q1, .inl (gA Γ 0, n1, .inl (va_cpy (tb t) (σ q1) sp.toNatClampNeg dp.toNatClampNeg n.toNatClampNeg))) (H.setIfInBounds (Γ.1 q1) _) from (show (H.setIfInBounds (Γ.1 q1) _)[Γ.1 q1]? = some _ by simp [Array.getElem?_setIfInBounds, hl])) oq
  rw [pic_set (σ' := sr σ q1 (va_cpy (tb t) (σ q1) sp.toNatClampNeg dp.toNatClampNeg n.toNatClampNeg)) (fun a h => sr_o a h) (by rw [ent_6 hq1.1, hq1.2.2]; simp [sr])] at hP2
  obtain ⟨t2, a1, b1⟩ := kk _ _ ⟨hP2, ⟨by simp; exact hS.1, fun q g1 g2 => by
      rw [oq q (fun e => g2 (by rw [e]; exact hAD))]
      exact hS.2.1 q g1 g2, fun q hq => by
      rcases List.mem_append.mp hq with h | h
      · exact hS.2.2 q h
      · obtain ⟨z, -, hz⟩ := List.mem_map.mp h
        rw [← hz]
        exact hAD⟩⟩ _ hheap X'
  exact ⟨t2, step t2 a1, b1⟩
end RL

theorem wd_0 : Cond.methodLink RX4 75 yX4_isWithin ∈ gtb := gtb_of (by decide +kernel) (by decide +kernel)
theorem wd_1 : Cond.fieldLink RX3 23 RX3 "faultKinds" "[I" ∈ gtb := gtb_of (by decide +kernel) (by decide +kernel)
theorem wd_2 : Cond.fieldLink RX3 26 RX3 "faultStarts" "[I" ∈ gtb := gtb_of (by decide +kernel) (by decide +kernel)
theorem wd_3 : Cond.fieldLink RX3 29 RX3 "faultAmounts" "[I" ∈ gtb := gtb_of (by decide +kernel) (by decide +kernel)
theorem wd_4 : Cond.fieldLink RX3 32 RX3 "hasJob" "Z" ∈ gtb := gtb_of (by decide +kernel) (by decide +kernel)
theorem wd_5 : Cond.fieldLink RX3 46 RX3 "alive" "I" ∈ gtb := gtb_of (by decide +kernel) (by decide +kernel)
theorem wd_6 : Cond.fieldLink RX3 49 RX3 "failures" "I" ∈ gtb := gtb_of (by decide +kernel) (by decide +kernel)
theorem wd_7 : Cond.fieldLink RX3 52 RX3 "isLate" "Z" ∈ gtb := gtb_of (by decide +kernel) (by decide +kernel)
theorem wd_8 : Cond.fieldLink RX3 55 RX3 "isExpired" "Z" ∈ gtb := gtb_of (by decide +kernel) (by decide +kernel)
theorem wd_9 : Cond.fieldLink RX3 58 RX3 "badCycles" "I" ∈ gtb := gtb_of (by decide +kernel) (by decide +kernel)
theorem wd_10 : Cond.fieldLink RX3 61 RX3 "isLatched" "Z" ∈ gtb := gtb_of (by decide +kernel) (by decide +kernel)
theorem wd_11 : Cond.fieldLink RX3 67 RX3 "resets" "I" ∈ gtb := gtb_of (by decide +kernel) (by decide +kernel)
theorem wd_12 : Cond.fieldLink RX3 36 RX3 "hangs" "Z" ∈ gtb := gtb_of (by decide +kernel) (by decide +kernel)
theorem wd_13 : Cond.fieldLink RX3 43 RX3 "left" "I" ∈ gtb := gtb_of (by decide +kernel) (by decide +kernel)
theorem wd_14 : Cond.fieldLink RX3 39 RX3 "begin" "I" ∈ gtb := gtb_of (by decide +kernel) (by decide +kernel)
theorem wd_15 : Cond.fieldLink RX3 18 RX3 "settings" "[I" ∈ gtb := gtb_of (by decide +kernel) (by decide +kernel)
theorem wd_16 : Cond.methodLink RX3 90 yX3_crashesAtBegin ∈ gtb := gtb_of (by decide +kernel) (by decide +kernel)
theorem wd_17 : Cond.methodLink RX3 97 Lib.Math.max.name ∈ gtb := gtb_of (by decide +kernel) (by decide +kernel)
theorem wd_18 : Cond.static Lib.Math.max.name ∈ gtb := gtb_of (by decide +kernel) (by decide +kernel)
theorem wd_19 : Cond.initialized "java/lang/Math" ∈ gtb := gtb_of (by decide +kernel) (by decide +kernel)
theorem wd_20 : Cond.code Lib.Math.max.name Lib.Math.max.code 2 (some .int) ∈ gtb := gtb_of (by decide +kernel) (by decide +kernel)
theorem wd_21 : Cond.fieldLink RX3 64 RX3 "latchTime" "I" ∈ gtb := gtb_of (by decide +kernel) (by decide +kernel)
theorem wd_22 : Cond.methodLink RX3 70 arraycopyName ∈ gtb := gtb_of (by decide +kernel) (by decide +kernel)
theorem wd_23 : Cond.native arraycopyName ∈ gtb := gtb_of (by decide +kernel) (by decide +kernel)
theorem wd_24 : Cond.static arraycopyName ∈ gtb := gtb_of (by decide +kernel) (by decide +kernel)
theorem wd_25 : Cond.initialized "java/lang/System" ∈ gtb := gtb_of (by decide +kernel) (by decide +kernel)
theorem wd_26 : Cond.methodLink RX3 80 yX3_beginRun ∈ gtb := gtb_of (by decide +kernel) (by decide +kernel)
theorem wd_27 : Cond.methodLink RX3 83 yX3_clearDiagnostic ∈ gtb := gtb_of (by decide +kernel) (by decide +kernel)
theorem wd_28 : Cond.methodLink RX3 76 yX3_takeFault ∈ gtb := gtb_of (by decide +kernel) (by decide +kernel)
theorem nw_0 : Cond.methodLinkNest RX3 86 yX4_divides "WatchdogBoard" ∈ ntb := by decide +kernel
theorem nw_1 : Cond.methodLinkNest RX3 93 yX4_isWithin "WatchdogBoard" ∈ ntb := by decide +kernel
theorem nw_2 : Cond.fieldLinkNest RX3 9 RX4 "SETTING_FIRST" "[I" "WatchdogBoard" ∈ ntb := by decide +kernel
theorem cy_X4_isWithin : CYs yX4_isWithin cX4_isWithin 3 (some .boolean) 3 := ⟨gtb_of (by decide +kernel) (by decide +kernel), gtb_of (by decide +kernel) (by decide +kernel), gtb_of (by decide +kernel) (by decide +kernel), by decide, by decide, by decide⟩
theorem cy_X4_divides : CYs yX4_divides cX4_divides 2 (some .boolean) 2 := ⟨gtb_of (by decide +kernel) (by decide +kernel), gtb_of (by decide +kernel) (by decide +kernel), gtb_of (by decide +kernel) (by decide +kernel), by decide, by decide, by decide⟩
theorem cy_X3_crashesAtBegin : CYv yX3_crashesAtBegin cX3_crashesAtBegin 5 (some .boolean) 2 := ⟨gtb_of (by decide +kernel) (by decide +kernel), gtb_of (by decide +kernel) (by decide +kernel), gtb_of (by decide +kernel) (by decide +kernel), gtb_of (by decide +kernel) (by decide +kernel), by decide, by decide, by decide⟩
theorem cy_X3_beginRun : CYv yX3_beginRun cX3_beginRun 1 none 0 := ⟨gtb_of (by decide +kernel) (by decide +kernel), gtb_of (by decide +kernel) (by decide +kernel), gtb_of (by decide +kernel) (by decide +kernel), gtb_of (by decide +kernel) (by decide +kernel), by decide, by decide, by decide⟩
theorem cy_X3_clearDiagnostic : CYv yX3_clearDiagnostic cX3_clearDiagnostic 1 none 0 := ⟨gtb_of (by decide +kernel) (by decide +kernel), gtb_of (by decide +kernel) (by decide +kernel), gtb_of (by decide +kernel) (by decide +kernel), gtb_of (by decide +kernel) (by decide +kernel), by decide, by decide, by decide⟩
theorem cy_X3_takeFault : CYv yX3_takeFault cX3_takeFault 5 none 4 := ⟨gtb_of (by decide +kernel) (by decide +kernel), gtb_of (by decide +kernel) (by decide +kernel), gtb_of (by decide +kernel) (by decide +kernel), gtb_of (by decide +kernel) (by decide +kernel), by decide, by decide, by decide⟩
end
section
abbrev rm_X4_isWithin : Room := { frames := 0, cells := 0, slots := 0, locals := 0 }
def f_X4_isWithin_15 (a0 : Int32) (a1 : Int32) (a2 : Int32)  (s0 : Int32) (σ : Sg) : Option (Int32 × Sg) :=
if s0 = 0 ∨ s0 = 1 then some (s0, σ) else none
set_option maxHeartbeats 4000000 in
set_option maxRecDepth 100000 in
theorem w_X4_isWithin_15 {p : Program} {l : Launch} {e : Env} {s : State} {m : MethodId} {args : Array Value} {below : List Frame} {meth : Method} {c : Code} {Γ : GG} {res : Int32 × Sg} (M : MX RX4 cX4_isWithin 3 (some .boolean) p s m args meth c) (K : KK Γ s s.heap) (a0 : Int32) (a1 : Int32) (a2 : Int32) (s0 : Int32) (σ : Sg) (H : Heap) (locs : List Loc) (ls : Array Slot)  (hB : Bd Γ σ s H locs) (hl : lv_has ls 3 []) (hr : f_X4_isWithin_15 a0 a1 a2  s0 σ = some res) : WI Γ rm_X4_isWithin p l e s m args below meth c H locs res (F0 m 15 ls [.int s0]) := by
  unfold f_X4_isWithin_15 at hr
  obtain ⟨g_3, hr⟩ := gd2 hr
  exact x_zret M hB (nar_z g_3) (Option.some.inj hr) dX4_isWithin_15
def f_X4_isWithin_14 (a0 : Int32) (a1 : Int32) (a2 : Int32)   (σ : Sg) : Option (Int32 × Sg) :=
f_X4_isWithin_15 a0 a1 a2  0 σ
set_option maxHeartbeats 4000000 in
set_option maxRecDepth 100000 in
theorem w_X4_isWithin_14 {p : Program} {l : Launch} {e : Env} {s : State} {m : MethodId} {args : Array Value} {below : List Frame} {meth : Method} {c : Code} {Γ : GG} {res : Int32 × Sg} (M : MX RX4 cX4_isWithin 3 (some .boolean) p s m args meth c) (K : KK Γ s s.heap) (a0 : Int32) (a1 : Int32) (a2 : Int32)  (σ : Sg) (H : Heap) (locs : List Loc) (ls : Array Slot)  (hB : Bd Γ σ s H locs) (hl : lv_has ls 3 []) (hr : f_X4_isWithin_14 a0 a1 a2   σ = some res) : WI Γ rm_X4_isWithin p l e s m args below meth c H locs res (F0 m 14 ls []) := by
  unfold f_X4_isWithin_14 at hr
  refine lv_iconst (v := 0) M.1 M.2.1 dX4_isWithin_14 (by decide) ?_
  exact w_X4_isWithin_15 M K a0 a1 a2  0 _ _ _ _  hB (lv_sub hl [] rfl) hr
def f_X4_isWithin_0 (a0 : Int32) (a1 : Int32) (a2 : Int32)   (σ : Sg) : Option (Int32 × Sg) :=
if a0 < a1 then
f_X4_isWithin_14 a0 a1 a2   σ
else
if a2 < a0 then
f_X4_isWithin_14 a0 a1 a2   σ
else
f_X4_isWithin_15 a0 a1 a2  1 σ
set_option maxHeartbeats 4000000 in
set_option maxRecDepth 100000 in
theorem w_X4_isWithin_0 {p : Program} {l : Launch} {e : Env} {s : State} {m : MethodId} {args : Array Value} {below : List Frame} {meth : Method} {c : Code} {Γ : GG} {res : Int32 × Sg} (M : MX RX4 cX4_isWithin 3 (some .boolean) p s m args meth c) (K : KK Γ s s.heap) (a0 : Int32) (a1 : Int32) (a2 : Int32)  (σ : Sg) (H : Heap) (locs : List Loc) (ls : Array Slot)  (hB : Bd Γ σ s H locs) (hl : lv_has ls 3 [(0, .int a0), (1, .int a1), (2, .int a2)]) (hr : f_X4_isWithin_0 a0 a1 a2   σ = some res) : WI Γ rm_X4_isWithin p l e s m args below meth c H locs res (F0 m 0 ls []) := by
  unfold f_X4_isWithin_0 at hr
  refine lv_iload_n M.1 M.2.1 dX4_isWithin_0 rfl (lv_at hl 0 rfl) ?_
  refine lv_iload_n M.1 M.2.1 dX4_isWithin_1 rfl (lv_at hl 1 rfl) ?_
  refine lv_icmp_lt (tgt := 14) M.1 M.2.1 dX4_isWithin_2 (by decide) (fun c_1 => ?_) (fun c_1 => ?_)
  · rw [if_pos c_1] at hr
    exact w_X4_isWithin_14 M K a0 a1 a2   _ _ _ _  hB (lv_sub hl [] rfl) hr
  · rw [if_neg c_1] at hr
    refine lv_iload_n M.1 M.2.1 dX4_isWithin_5 rfl (lv_at hl 0 rfl) ?_
    refine lv_iload_n M.1 M.2.1 dX4_isWithin_6 rfl (lv_at hl 2 rfl) ?_
    refine lv_icmp_gt (tgt := 14) M.1 M.2.1 dX4_isWithin_7 (by decide) (fun c_2 => ?_) (fun c_2 => ?_)
    · rw [if_pos c_2] at hr
      exact w_X4_isWithin_14 M K a0 a1 a2   _ _ _ _  hB (lv_sub hl [] rfl) hr
    · rw [if_neg c_2] at hr
      refine lv_iconst (v := 1) M.1 M.2.1 dX4_isWithin_10 (by decide) ?_
      refine lv_goto (tgt := 15) M.1 M.2.1 dX4_isWithin_11 (by decide) ?_
      exact w_X4_isWithin_15 M K a0 a1 a2  1 _ _ _ _  hB (lv_sub hl [] rfl) hr
theorem c_X4_isWithin (l : Launch) (Γ : GG) (a0 : Int32) (a1 : Int32) (a2 : Int32)  (σ : Sg) (res : Int32 × Sg) (hr : f_X4_isWithin_0 a0 a1 a2 σ = some res) : Met l yX4_isWithin (Cond.code yX4_isWithin cX4_isWithin 3 (some .boolean) :: gtb) rm_X4_isWithin (va_Pc [.int a0, .int a1, .int a2] (GI Γ σ)) (QI Γ res) 0 0 (AD Γ) :=
  x_metI (by decide) [.int a0, .int a1, .int a2] (Nat.le_of_ble_eq_true rfl) (fun p e s m args below meth c M K ls hl hB => w_X4_isWithin_0 M K a0 a1 a2 σ _ _ ls hB hl hr)
abbrev rm_X4_divides : Room := { frames := 0, cells := 0, slots := 0, locals := 0 }
def f_X4_divides_15 (a0 : Int32) (a1 : Int32)  (s0 : Int32) (σ : Sg) : Option (Int32 × Sg) :=
if s0 = 0 ∨ s0 = 1 then some (s0, σ) else none
set_option maxHeartbeats 4000000 in
set_option maxRecDepth 100000 in
theorem w_X4_divides_15 {p : Program} {l : Launch} {e : Env} {s : State} {m : MethodId} {args : Array Value} {below : List Frame} {meth : Method} {c : Code} {Γ : GG} {res : Int32 × Sg} (M : MX RX4 cX4_divides 2 (some .boolean) p s m args meth c) (K : KK Γ s s.heap) (a0 : Int32) (a1 : Int32) (s0 : Int32) (σ : Sg) (H : Heap) (locs : List Loc) (ls : Array Slot)  (hB : Bd Γ σ s H locs) (hl : lv_has ls 2 []) (hr : f_X4_divides_15 a0 a1  s0 σ = some res) : WI Γ rm_X4_divides p l e s m args below meth c H locs res (F0 m 15 ls [.int s0]) := by
  unfold f_X4_divides_15 at hr
  obtain ⟨g_4, hr⟩ := gd2 hr
  exact x_zret M hB (nar_z g_4) (Option.some.inj hr) dX4_divides_15
def f_X4_divides_14 (a0 : Int32) (a1 : Int32)   (σ : Sg) : Option (Int32 × Sg) :=
f_X4_divides_15 a0 a1  0 σ
set_option maxHeartbeats 4000000 in
set_option maxRecDepth 100000 in
theorem w_X4_divides_14 {p : Program} {l : Launch} {e : Env} {s : State} {m : MethodId} {args : Array Value} {below : List Frame} {meth : Method} {c : Code} {Γ : GG} {res : Int32 × Sg} (M : MX RX4 cX4_divides 2 (some .boolean) p s m args meth c) (K : KK Γ s s.heap) (a0 : Int32) (a1 : Int32)  (σ : Sg) (H : Heap) (locs : List Loc) (ls : Array Slot)  (hB : Bd Γ σ s H locs) (hl : lv_has ls 2 []) (hr : f_X4_divides_14 a0 a1   σ = some res) : WI Γ rm_X4_divides p l e s m args below meth c H locs res (F0 m 14 ls []) := by
  unfold f_X4_divides_14 at hr
  refine lv_iconst (v := 0) M.1 M.2.1 dX4_divides_14 (by decide) ?_
  exact w_X4_divides_15 M K a0 a1  0 _ _ _ _  hB (lv_sub hl [] rfl) hr
def f_X4_divides_0 (a0 : Int32) (a1 : Int32)   (σ : Sg) : Option (Int32 × Sg) :=
if a0 ≤ 0 then
f_X4_divides_14 a0 a1   σ
else
if a0 = 0 then none else
if a1 - a1 / a0 * a0 = 0 then
f_X4_divides_15 a0 a1  1 σ
else
f_X4_divides_14 a0 a1   σ
set_option maxHeartbeats 4000000 in
set_option maxRecDepth 100000 in
theorem w_X4_divides_0 {p : Program} {l : Launch} {e : Env} {s : State} {m : MethodId} {args : Array Value} {below : List Frame} {meth : Method} {c : Code} {Γ : GG} {res : Int32 × Sg} (M : MX RX4 cX4_divides 2 (some .boolean) p s m args meth c) (K : KK Γ s s.heap) (a0 : Int32) (a1 : Int32)  (σ : Sg) (H : Heap) (locs : List Loc) (ls : Array Slot)  (hB : Bd Γ σ s H locs) (hl : lv_has ls 2 [(0, .int a0), (1, .int a1)]) (hr : f_X4_divides_0 a0 a1   σ = some res) : WI Γ rm_X4_divides p l e s m args below meth c H locs res (F0 m 0 ls []) := by
  unfold f_X4_divides_0 at hr
  refine lv_iload_n M.1 M.2.1 dX4_divides_0 rfl (lv_at hl 0 rfl) ?_
  refine lv_if_le (tgt := 14) M.1 M.2.1 dX4_divides_1 (by decide) (fun c_1 => ?_) (fun c_1 => ?_)
  · rw [if_pos c_1] at hr
    exact w_X4_divides_14 M K a0 a1   _ _ _ _  hB (lv_sub hl [] rfl) hr
  · rw [if_neg c_1] at hr
    refine lv_iload_n M.1 M.2.1 dX4_divides_4 rfl (lv_at hl 1 rfl) ?_
    refine lv_iload_n M.1 M.2.1 dX4_divides_5 rfl (lv_at hl 0 rfl) ?_
    obtain ⟨g_2, hr⟩ := gd hr
    refine lv_irem M.1 M.2.1 dX4_divides_6 g_2 ?_
    refine lv_if_ne (tgt := 14) M.1 M.2.1 dX4_divides_7 (by decide) (fun c_3 => ?_) (fun c_3 => ?_)
    · rw [if_neg c_3] at hr
      exact w_X4_divides_14 M K a0 a1   _ _ _ _  hB (lv_sub hl [] rfl) hr
    · rw [if_pos c_3] at hr
      refine lv_iconst (v := 1) M.1 M.2.1 dX4_divides_10 (by decide) ?_
      refine lv_goto (tgt := 15) M.1 M.2.1 dX4_divides_11 (by decide) ?_
      exact w_X4_divides_15 M K a0 a1  1 _ _ _ _  hB (lv_sub hl [] rfl) hr
theorem c_X4_divides (l : Launch) (Γ : GG) (a0 : Int32) (a1 : Int32)  (σ : Sg) (res : Int32 × Sg) (hr : f_X4_divides_0 a0 a1 σ = some res) : Met l yX4_divides (Cond.code yX4_divides cX4_divides 2 (some .boolean) :: gtb) rm_X4_divides (va_Pc [.int a0, .int a1] (GI Γ σ)) (QI Γ res) 0 0 (AD Γ) :=
  x_metI (by decide) [.int a0, .int a1] (Nat.le_of_ble_eq_true rfl) (fun p e s m args below meth c M K ls hl hB => w_X4_divides_0 M K a0 a1 σ _ _ ls hB hl hr)
abbrev rm_X4_isAllowed : Room := { frames := 1, cells := 0, slots := 0, locals := 22 }
def f_X4_isAllowed_34 (a0 : Int32) (a1 : Int32) (t2 : Nat) (t3 : Nat)  (s0 : Int32) (σ : Sg) : Option (Int32 × Sg) :=
if s0 = 0 ∨ s0 = 1 then some (s0, σ) else none
set_option maxHeartbeats 4000000 in
set_option maxRecDepth 100000 in
theorem w_X4_isAllowed_34 {p : Program} {l : Launch} {e : Env} {s : State} {m : MethodId} {args : Array Value} {below : List Frame} {meth : Method} {c : Code} {Γ : GG} {res : Int32 × Sg} (M : MX RX4 cX4_isAllowed 4 (some .boolean) p s m args meth c) (K : KK Γ s s.heap) (a0 : Int32) (a1 : Int32) {t2 : Nat} (ht2 : t2 < 6) {t3 : Nat} (ht3 : t3 < 6) (s0 : Int32) (σ : Sg) (H : Heap) (locs : List Loc) (ls : Array Slot)  (hB : Bd Γ σ s H locs) (hl : lv_has ls 4 []) (hr : f_X4_isAllowed_34 a0 a1 t2 t3  s0 σ = some res) : WI Γ rm_X4_isAllowed p l e s m args below meth c H locs res (F0 m 34 ls [.int s0]) := by
  unfold f_X4_isAllowed_34 at hr
  obtain ⟨g_10, hr⟩ := gd2 hr
  exact x_zret M hB (nar_z g_10) (Option.some.inj hr) dX4_isAllowed_34
def f_X4_isAllowed_33 (a0 : Int32) (a1 : Int32) (t2 : Nat) (t3 : Nat)   (σ : Sg) : Option (Int32 × Sg) :=
f_X4_isAllowed_34 a0 a1 t2 t3  0 σ
set_option maxHeartbeats 4000000 in
set_option maxRecDepth 100000 in
theorem w_X4_isAllowed_33 {p : Program} {l : Launch} {e : Env} {s : State} {m : MethodId} {args : Array Value} {below : List Frame} {meth : Method} {c : Code} {Γ : GG} {res : Int32 × Sg} (M : MX RX4 cX4_isAllowed 4 (some .boolean) p s m args meth c) (K : KK Γ s s.heap) (a0 : Int32) (a1 : Int32) {t2 : Nat} (ht2 : t2 < 6) {t3 : Nat} (ht3 : t3 < 6)  (σ : Sg) (H : Heap) (locs : List Loc) (ls : Array Slot)  (hB : Bd Γ σ s H locs) (hl : lv_has ls 4 []) (hr : f_X4_isAllowed_33 a0 a1 t2 t3   σ = some res) : WI Γ rm_X4_isAllowed p l e s m args below meth c H locs res (F0 m 33 ls []) := by
  unfold f_X4_isAllowed_33 at hr
  refine lv_iconst (v := 0) M.1 M.2.1 dX4_isAllowed_33 (by decide) ?_
  exact w_X4_isAllowed_34 M K a0 a1 ht2 ht3  0 _ _ _ _  hB (lv_sub hl [] rfl) hr
def f_X4_isAllowed_0 (a0 : Int32) (a1 : Int32) (t2 : Nat) (t3 : Nat)   (σ : Sg) : Option (Int32 × Sg) :=
if a0 < 0 then
f_X4_isAllowed_33 a0 a1 t2 t3   σ
else
if 8 ≤ a0 then
f_X4_isAllowed_33 a0 a1 t2 t3   σ
else
if 8 ≤ a0 then
f_X4_isAllowed_33 a0 a1 t2 t3   σ
else
if a0 < 0 ∨ 8 ≤ a0.toNatClampNeg then none else
if a0 < 0 ∨ 8 ≤ a0.toNatClampNeg then none else
cb (f_X4_isWithin_0 a1 (tb t2 (a0.toNatClampNeg)) (tb t3 (a0.toNatClampNeg)) σ) fun v_6 σ_7 =>
if v_6 = 0 then
f_X4_isAllowed_33 a0 a1 t2 t3   σ_7
else
f_X4_isAllowed_34 a0 a1 t2 t3  1 σ_7
set_option maxHeartbeats 4000000 in
set_option maxRecDepth 100000 in
theorem w_X4_isAllowed_0 {p : Program} {l : Launch} {e : Env} {s : State} {m : MethodId} {args : Array Value} {below : List Frame} {meth : Method} {c : Code} {Γ : GG} {res : Int32 × Sg} (M : MX RX4 cX4_isAllowed 4 (some .boolean) p s m args meth c) (K : KK Γ s s.heap) (a0 : Int32) (a1 : Int32) {t2 : Nat} (ht2 : t2 < 6) {t3 : Nat} (ht3 : t3 < 6)  (σ : Sg) (H : Heap) (locs : List Loc) (ls : Array Slot)  (hB : Bd Γ σ s H locs) (hl : lv_has ls 4 [(0, .int a0), (1, .int a1), (2, .ref (gS Γ t2)), (3, .ref (gS Γ t3))]) (hr : f_X4_isAllowed_0 a0 a1 t2 t3   σ = some res) : WI Γ rm_X4_isAllowed p l e s m args below meth c H locs res (F0 m 0 ls []) := by
  unfold f_X4_isAllowed_0 at hr
  refine lv_iload_n M.1 M.2.1 dX4_isAllowed_0 rfl (lv_at hl 0 rfl) ?_
  refine lv_if_lt (tgt := 33) M.1 M.2.1 dX4_isAllowed_1 (by decide) (fun c_1 => ?_) (fun c_1 => ?_)
  · rw [if_pos c_1] at hr
    exact w_X4_isAllowed_33 M K a0 a1 ht2 ht3   _ _ _ _  hB (lv_sub hl [] rfl) hr
  · rw [if_neg c_1] at hr
    refine lv_iload_n M.1 M.2.1 dX4_isAllowed_4 rfl (lv_at hl 0 rfl) ?_
    refine lv_aload_n M.1 M.2.1 dX4_isAllowed_5 rfl (lv_at hl 2 rfl) ?_
    refine x_tlen M K hB ht2 dX4_isAllowed_6 ?_
    refine lv_icmp_ge (tgt := 33) M.1 M.2.1 dX4_isAllowed_7 (by decide) (fun c_2 => ?_) (fun c_2 => ?_)
    · rw [if_pos c_2] at hr
      exact w_X4_isAllowed_33 M K a0 a1 ht2 ht3   _ _ _ _  hB (lv_sub hl [] rfl) hr
    · rw [if_neg c_2] at hr
      refine lv_iload_n M.1 M.2.1 dX4_isAllowed_10 rfl (lv_at hl 0 rfl) ?_
      refine lv_aload_n M.1 M.2.1 dX4_isAllowed_11 rfl (lv_at hl 3 rfl) ?_
      refine x_tlen M K hB ht3 dX4_isAllowed_12 ?_
      refine lv_icmp_ge (tgt := 33) M.1 M.2.1 dX4_isAllowed_13 (by decide) (fun c_3 => ?_) (fun c_3 => ?_)
      · rw [if_pos c_3] at hr
        exact w_X4_isAllowed_33 M K a0 a1 ht2 ht3   _ _ _ _  hB (lv_sub hl [] rfl) hr
      · rw [if_neg c_3] at hr
        refine lv_iload_n M.1 M.2.1 dX4_isAllowed_16 rfl (lv_at hl 1 rfl) ?_
        refine lv_aload_n M.1 M.2.1 dX4_isAllowed_17 rfl (lv_at hl 2 rfl) ?_
        refine lv_iload_n M.1 M.2.1 dX4_isAllowed_18 rfl (lv_at hl 0 rfl) ?_
        obtain ⟨g_4, hr⟩ := gd hr
        refine x_ti M K hB ht2 g_4 dX4_isAllowed_19 ?_
        refine lv_aload_n M.1 M.2.1 dX4_isAllowed_20 rfl (lv_at hl 3 rfl) ?_
        refine lv_iload_n M.1 M.2.1 dX4_isAllowed_21 rfl (lv_at hl 0 rfl) ?_
        obtain ⟨g_5, hr⟩ := gd hr
        refine x_ti M K hB ht3 g_5 dX4_isAllowed_22 ?_
        obtain ⟨v_6, σ_7, h_8, hr⟩ := cbd hr
        refine x_callI (x_runS M K hB hl.1 [.int a1, .int (tb t2 (a0.toNatClampNeg)), .int (tb t3 (a0.toNatClampNeg))] (rest := []) rfl (c_X4_isWithin l Γ a1 (tb t2 (a0.toNatClampNeg)) (tb t3 (a0.toNatClampNeg))  σ (v_6, σ_7) h_8) cy_X4_isWithin wd_0 ⟨rfl, rfl, Nat.le_of_ble_eq_true rfl, Nat.le_of_ble_eq_true rfl⟩ (Nat.le_of_ble_eq_true rfl) ⟨Nat.zero_le _, Nat.zero_le _⟩ dX4_isAllowed_23) hB (fun H locs hB => ?_)
        replace hB : Bd Γ σ_7 s H locs := hB
        refine lv_if_eq (tgt := 33) M.1 M.2.1 dX4_isAllowed_26 (by decide) (fun c_9 => ?_) (fun c_9 => ?_)
        · rw [if_pos c_9] at hr
          exact w_X4_isAllowed_33 M K a0 a1 ht2 ht3   _ _ _ _  hB (lv_sub hl [] rfl) hr
        · rw [if_neg c_9] at hr
          refine lv_iconst (v := 1) M.1 M.2.1 dX4_isAllowed_29 (by decide) ?_
          refine lv_goto (tgt := 34) M.1 M.2.1 dX4_isAllowed_30 (by decide) ?_
          exact w_X4_isAllowed_34 M K a0 a1 ht2 ht3  1 _ _ _ _  hB (lv_sub hl [] rfl) hr
theorem c_X4_isAllowed (l : Launch) (Γ : GG) (a0 : Int32) (a1 : Int32) (t2 : Nat) (t3 : Nat) (ht2 : t2 < 6) (ht3 : t3 < 6) (σ : Sg) (res : Int32 × Sg) (hr : f_X4_isAllowed_0 a0 a1 t2 t3 σ = some res) : Met l yX4_isAllowed (Cond.code yX4_isAllowed cX4_isAllowed 4 (some .boolean) :: gtb) rm_X4_isAllowed (va_Pc [.int a0, .int a1, .ref (gS Γ t2), .ref (gS Γ t3)] (GI Γ σ)) (QI Γ res) 0 0 (AD Γ) :=
  x_metI (by decide) [.int a0, .int a1, .ref (gS Γ t2), .ref (gS Γ t3)] (Nat.le_of_ble_eq_true rfl) (fun p e s m args below meth c M K ls hl hB => w_X4_isAllowed_0 M K a0 a1 ht2 ht3 σ _ _ ls hB hl hr)
abbrev rm_X3_takeFault : Room := { frames := 0, cells := 0, slots := 0, locals := 0 }
def f_X3_takeFault_9 (q : Nat) (a0 : Int32) (a1 : Int32) (a2 : Int32) (a3 : Int32)   (σ : Sg) : Option (Int32 × Sg) :=
some (0, σ)
set_option maxHeartbeats 4000000 in
set_option maxRecDepth 100000 in
theorem w_X3_takeFault_9 {p : Program} {l : Launch} {e : Env} {s : State} {m : MethodId} {args : Array Value} {below : List Frame} {meth : Method} {c : Code} {Γ : GG} {res : Int32 × Sg} (M : MX RX3 cX3_takeFault 5 none p s m args meth c) (K : KK Γ s s.heap) {q : Nat} (hq : isT q) (a0 : Int32) (a1 : Int32) (a2 : Int32) (a3 : Int32)  (σ : Sg) (H : Heap) (locs : List Loc) (ls : Array Slot)  (hB : Bd Γ σ s H locs) (hl : lv_has ls 5 []) (hr : f_X3_takeFault_9 q a0 a1 a2 a3   σ = some res) : WV Γ rm_X3_takeFault p l e s m args below meth c H locs res (F0 m 9 ls []) := by
  unfold f_X3_takeFault_9 at hr
  exact x_vret M hB (Option.some.inj hr) dX3_takeFault_9
def f_X3_takeFault_0 (q : Nat) (a0 : Int32) (a1 : Int32) (a2 : Int32) (a3 : Int32)   (σ : Sg) : Option (Int32 × Sg) :=
if a0 < 0 then
f_X3_takeFault_9 q a0 a1 a2 a3   σ
else
if a0 < 2 then
if a0 < 0 ∨ 2 ≤ a0.toNatClampNeg then none else
wb (st σ (q + 2) (a0.toNatClampNeg) a1) fun σ_4 =>
if a0 < 0 ∨ 2 ≤ a0.toNatClampNeg then none else
wb (st σ_4 (q + 3) (a0.toNatClampNeg) a2) fun σ_7 =>
if a0 < 0 ∨ 2 ≤ a0.toNatClampNeg then none else
wb (st σ_7 (q + 4) (a0.toNatClampNeg) a3) fun σ_10 =>
some (0, σ_10)
else
f_X3_takeFault_9 q a0 a1 a2 a3   σ
set_option maxHeartbeats 4000000 in
set_option maxRecDepth 100000 in
theorem w_X3_takeFault_0 {p : Program} {l : Launch} {e : Env} {s : State} {m : MethodId} {args : Array Value} {below : List Frame} {meth : Method} {c : Code} {Γ : GG} {res : Int32 × Sg} (M : MX RX3 cX3_takeFault 5 none p s m args meth c) (K : KK Γ s s.heap) {q : Nat} (hq : isT q) (a0 : Int32) (a1 : Int32) (a2 : Int32) (a3 : Int32)  (σ : Sg) (H : Heap) (locs : List Loc) (ls : Array Slot)  (hB : Bd Γ σ s H locs) (hl : lv_has ls 5 [(0, .ref (Γ.1 q)), (1, .int a0), (2, .int a1), (3, .int a2), (4, .int a3)]) (hr : f_X3_takeFault_0 q a0 a1 a2 a3   σ = some res) : WV Γ rm_X3_takeFault p l e s m args below meth c H locs res (F0 m 0 ls []) := by
  unfold f_X3_takeFault_0 at hr
  refine lv_iload_n M.1 M.2.1 dX3_takeFault_0 rfl (lv_at hl 1 rfl) ?_
  refine lv_if_lt (tgt := 9) M.1 M.2.1 dX3_takeFault_1 (by decide) (fun c_1 => ?_) (fun c_1 => ?_)
  · rw [if_pos c_1] at hr
    exact w_X3_takeFault_9 M K hq a0 a1 a2 a3   _ _ _ _  hB (lv_sub hl [] rfl) hr
  · rw [if_neg c_1] at hr
    refine lv_iload_n M.1 M.2.1 dX3_takeFault_4 rfl (lv_at hl 1 rfl) ?_
    refine lv_iconst (v := 2) M.1 M.2.1 dX3_takeFault_5 (by decide) ?_
    refine lv_icmp_lt (tgt := 10) M.1 M.2.1 dX3_takeFault_6 (by decide) (fun c_2 => ?_) (fun c_2 => ?_)
    · rw [if_pos c_2] at hr
      refine lv_aload_n M.1 M.2.1 dX3_takeFault_10 rfl (lv_at hl 0 rfl) ?_
      refine x_get3 M K hB (hq.k) 1 (by decide) wd_1 (v := .ref (Γ.1 (q + 2))) rfl dX3_takeFault_11 ?_
      refine lv_iload_n M.1 M.2.1 dX3_takeFault_14 rfl (lv_at hl 1 rfl) ?_
      refine lv_iload_n M.1 M.2.1 dX3_takeFault_15 rfl (lv_at hl 2 rfl) ?_
      obtain ⟨g_3, hr⟩ := gd hr
      obtain ⟨σ_4, e_5, hr⟩ := wbd hr
      refine x_iast M K hB (hq.a2) g_3 dX3_takeFault_16 (fun H locs hB => ?_)
      rw [← e_5] at hB
      refine lv_aload_n M.1 M.2.1 dX3_takeFault_17 rfl (lv_at hl 0 rfl) ?_
      refine x_get3 M K hB (hq.k) 2 (by decide) wd_2 (v := .ref (Γ.1 (q + 3))) rfl dX3_takeFault_18 ?_
      refine lv_iload_n M.1 M.2.1 dX3_takeFault_21 rfl (lv_at hl 1 rfl) ?_
      refine lv_iload_n M.1 M.2.1 dX3_takeFault_22 rfl (lv_at hl 3 rfl) ?_
      obtain ⟨g_6, hr⟩ := gd hr
      obtain ⟨σ_7, e_8, hr⟩ := wbd hr
      refine x_iast M K hB (hq.a3) g_6 dX3_takeFault_23 (fun H locs hB => ?_)
      rw [← e_8] at hB
      refine lv_aload_n M.1 M.2.1 dX3_takeFault_24 rfl (lv_at hl 0 rfl) ?_
      refine x_get3 M K hB (hq.k) 3 (by decide) wd_3 (v := .ref (Γ.1 (q + 4))) rfl dX3_takeFault_25 ?_
      refine lv_iload_n M.1 M.2.1 dX3_takeFault_28 rfl (lv_at hl 1 rfl) ?_
      refine lv_iload M.1 M.2.1 dX3_takeFault_29 (lv_at hl 4 rfl) ?_
      obtain ⟨g_9, hr⟩ := gd hr
      obtain ⟨σ_10, e_11, hr⟩ := wbd hr
      refine x_iast M K hB (hq.a4) g_9 dX3_takeFault_31 (fun H locs hB => ?_)
      rw [← e_11] at hB
      exact x_vret M hB (Option.some.inj hr) dX3_takeFault_32
    · rw [if_neg c_2] at hr
      exact w_X3_takeFault_9 M K hq a0 a1 a2 a3   _ _ _ _  hB (lv_sub hl [] rfl) hr
theorem c_X3_takeFault (l : Launch) (Γ : GG) (q : Nat) (a0 : Int32) (a1 : Int32) (a2 : Int32) (a3 : Int32) (hq : isT q) (σ : Sg) (res : Int32 × Sg) (hr : f_X3_takeFault_0 q a0 a1 a2 a3 σ = some res) : Met l yX3_takeFault (Cond.code yX3_takeFault cX3_takeFault 5 none :: gtb) rm_X3_takeFault (va_Pc [.ref (Γ.1 q), .int a0, .int a1, .int a2, .int a3] (GI Γ σ)) (QV Γ res) 0 0 (AD Γ) :=
  x_metV (by decide) [.ref (Γ.1 q), .int a0, .int a1, .int a2, .int a3] (Nat.le_of_ble_eq_true rfl) (fun p e s m args below meth c M K ls hl hB => w_X3_takeFault_0 M K hq a0 a1 a2 a3 σ _ _ ls hB hl hr)
abbrev rm_X3_beginRun : Room := { frames := 0, cells := 0, slots := 0, locals := 0 }
def f_X3_beginRun_0 (q : Nat)   (σ : Sg) : Option (Int32 × Sg) :=
wb (st σ q 4 0) fun σ_1 =>
wb (st σ_1 q 8 0) fun σ_3 =>
wb (st σ_3 q 9 0) fun σ_5 =>
wb (st σ_5 q 10 0) fun σ_7 =>
wb (st σ_7 q 11 0) fun σ_9 =>
some (0, σ_9)
set_option maxHeartbeats 4000000 in
set_option maxRecDepth 100000 in
theorem w_X3_beginRun_0 {p : Program} {l : Launch} {e : Env} {s : State} {m : MethodId} {args : Array Value} {below : List Frame} {meth : Method} {c : Code} {Γ : GG} {res : Int32 × Sg} (M : MX RX3 cX3_beginRun 1 none p s m args meth c) (K : KK Γ s s.heap) {q : Nat} (hq : isT q)  (σ : Sg) (H : Heap) (locs : List Loc) (ls : Array Slot)  (hB : Bd Γ σ s H locs) (hl : lv_has ls 1 [(0, .ref (Γ.1 q))]) (hr : f_X3_beginRun_0 q   σ = some res) : WV Γ rm_X3_beginRun p l e s m args below meth c H locs res (F0 m 0 ls []) := by
  unfold f_X3_beginRun_0 at hr
  refine lv_aload_n M.1 M.2.1 dX3_beginRun_0 rfl (lv_at hl 0 rfl) ?_
  refine lv_iconst (v := 0) M.1 M.2.1 dX3_beginRun_1 (by decide) ?_
  obtain ⟨σ_1, e_2, hr⟩ := wbd hr
  refine x_putz3 M K hB (hq.k) 4 (by decide) wd_4 (by decide) dX3_beginRun_2 (fun H locs hB => ?_)
  rw [← e_2] at hB
  refine lv_aload_n M.1 M.2.1 dX3_beginRun_5 rfl (lv_at hl 0 rfl) ?_
  refine lv_iconst (v := 0) M.1 M.2.1 dX3_beginRun_6 (by decide) ?_
  obtain ⟨σ_3, e_4, hr⟩ := wbd hr
  refine x_put3 M K hB (hq.k) 8 (by decide) wd_5 dX3_beginRun_7 (fun H locs hB => ?_)
  rw [← e_4] at hB
  refine lv_aload_n M.1 M.2.1 dX3_beginRun_10 rfl (lv_at hl 0 rfl) ?_
  refine lv_iconst (v := 0) M.1 M.2.1 dX3_beginRun_11 (by decide) ?_
  obtain ⟨σ_5, e_6, hr⟩ := wbd hr
  refine x_put3 M K hB (hq.k) 9 (by decide) wd_6 dX3_beginRun_12 (fun H locs hB => ?_)
  rw [← e_6] at hB
  refine lv_aload_n M.1 M.2.1 dX3_beginRun_15 rfl (lv_at hl 0 rfl) ?_
  refine lv_iconst (v := 0) M.1 M.2.1 dX3_beginRun_16 (by decide) ?_
  obtain ⟨σ_7, e_8, hr⟩ := wbd hr
  refine x_putz3 M K hB (hq.k) 10 (by decide) wd_7 (by decide) dX3_beginRun_17 (fun H locs hB => ?_)
  rw [← e_8] at hB
  refine lv_aload_n M.1 M.2.1 dX3_beginRun_20 rfl (lv_at hl 0 rfl) ?_
  refine lv_iconst (v := 0) M.1 M.2.1 dX3_beginRun_21 (by decide) ?_
  obtain ⟨σ_9, e_10, hr⟩ := wbd hr
  refine x_putz3 M K hB (hq.k) 11 (by decide) wd_8 (by decide) dX3_beginRun_22 (fun H locs hB => ?_)
  rw [← e_10] at hB
  exact x_vret M hB (Option.some.inj hr) dX3_beginRun_25
theorem c_X3_beginRun (l : Launch) (Γ : GG) (q : Nat) (hq : isT q) (σ : Sg) (res : Int32 × Sg) (hr : f_X3_beginRun_0 q σ = some res) : Met l yX3_beginRun (Cond.code yX3_beginRun cX3_beginRun 1 none :: gtb) rm_X3_beginRun (va_Pc [.ref (Γ.1 q)] (GI Γ σ)) (QV Γ res) 0 0 (AD Γ) :=
  x_metV (by decide) [.ref (Γ.1 q)] (Nat.le_of_ble_eq_true rfl) (fun p e s m args below meth c M K ls hl hB => w_X3_beginRun_0 M K hq σ _ _ ls hB hl hr)
abbrev rm_X3_clearDiagnostic : Room := { frames := 0, cells := 0, slots := 0, locals := 0 }
def f_X3_clearDiagnostic_0 (q : Nat)   (σ : Sg) : Option (Int32 × Sg) :=
wb (st σ q 12 0) fun σ_1 =>
wb (st σ_1 q 13 0) fun σ_3 =>
wb (st σ_3 q 15 0) fun σ_5 =>
some (0, σ_5)
set_option maxHeartbeats 4000000 in
set_option maxRecDepth 100000 in
theorem w_X3_clearDiagnostic_0 {p : Program} {l : Launch} {e : Env} {s : State} {m : MethodId} {args : Array Value} {below : List Frame} {meth : Method} {c : Code} {Γ : GG} {res : Int32 × Sg} (M : MX RX3 cX3_clearDiagnostic 1 none p s m args meth c) (K : KK Γ s s.heap) {q : Nat} (hq : isT q)  (σ : Sg) (H : Heap) (locs : List Loc) (ls : Array Slot)  (hB : Bd Γ σ s H locs) (hl : lv_has ls 1 [(0, .ref (Γ.1 q))]) (hr : f_X3_clearDiagnostic_0 q   σ = some res) : WV Γ rm_X3_clearDiagnostic p l e s m args below meth c H locs res (F0 m 0 ls []) := by
  unfold f_X3_clearDiagnostic_0 at hr
  refine lv_aload_n M.1 M.2.1 dX3_clearDiagnostic_0 rfl (lv_at hl 0 rfl) ?_
  refine lv_iconst (v := 0) M.1 M.2.1 dX3_clearDiagnostic_1 (by decide) ?_
  obtain ⟨σ_1, e_2, hr⟩ := wbd hr
  refine x_put3 M K hB (hq.k) 12 (by decide) wd_9 dX3_clearDiagnostic_2 (fun H locs hB => ?_)
  rw [← e_2] at hB
  refine lv_aload_n M.1 M.2.1 dX3_clearDiagnostic_5 rfl (lv_at hl 0 rfl) ?_
  refine lv_iconst (v := 0) M.1 M.2.1 dX3_clearDiagnostic_6 (by decide) ?_
  obtain ⟨σ_3, e_4, hr⟩ := wbd hr
  refine x_putz3 M K hB (hq.k) 13 (by decide) wd_10 (by decide) dX3_clearDiagnostic_7 (fun H locs hB => ?_)
  rw [← e_4] at hB
  refine lv_aload_n M.1 M.2.1 dX3_clearDiagnostic_10 rfl (lv_at hl 0 rfl) ?_
  refine lv_iconst (v := 0) M.1 M.2.1 dX3_clearDiagnostic_11 (by decide) ?_
  obtain ⟨σ_5, e_6, hr⟩ := wbd hr
  refine x_put3 M K hB (hq.k) 15 (by decide) wd_11 dX3_clearDiagnostic_12 (fun H locs hB => ?_)
  rw [← e_6] at hB
  exact x_vret M hB (Option.some.inj hr) dX3_clearDiagnostic_15
theorem c_X3_clearDiagnostic (l : Launch) (Γ : GG) (q : Nat) (hq : isT q) (σ : Sg) (res : Int32 × Sg) (hr : f_X3_clearDiagnostic_0 q σ = some res) : Met l yX3_clearDiagnostic (Cond.code yX3_clearDiagnostic cX3_clearDiagnostic 1 none :: gtb) rm_X3_clearDiagnostic (va_Pc [.ref (Γ.1 q)] (GI Γ σ)) (QV Γ res) 0 0 (AD Γ) :=
  x_metV (by decide) [.ref (Γ.1 q)] (Nat.le_of_ble_eq_true rfl) (fun p e s m args below meth c M K ls hl hB => w_X3_clearDiagnostic_0 M K hq σ _ _ ls hB hl hr)
abbrev rm_X3_momentary : Room := { frames := 0, cells := 0, slots := 0, locals := 0 }
def f_X3_momentary_107 (q : Nat) (a0 : Int32)  (s0 : Int32) (σ : Sg) : Option (Int32 × Sg) :=
some (s0, σ)
set_option maxHeartbeats 4000000 in
set_option maxRecDepth 100000 in
theorem w_X3_momentary_107 {p : Program} {l : Launch} {e : Env} {s : State} {m : MethodId} {args : Array Value} {below : List Frame} {meth : Method} {c : Code} {Γ : GG} {res : Int32 × Sg} (M : MX RX3 cX3_momentary 2 (some .int) p s m args meth c) (K : KK Γ s s.heap) {q : Nat} (hq : isT q) (a0 : Int32) (s0 : Int32) (σ : Sg) (H : Heap) (locs : List Loc) (ls : Array Slot)  (hB : Bd Γ σ s H locs) (hl : lv_has ls 2 []) (hr : f_X3_momentary_107 q a0  s0 σ = some res) : WI Γ rm_X3_momentary p l e s m args below meth c H locs res (F0 m 107 ls [.int s0]) := by
  unfold f_X3_momentary_107 at hr
  exact x_iret M hB (Option.some.inj hr) dX3_momentary_107
def f_X3_momentary_94 (q : Nat) (a0 : Int32)  (s0 : Int32) (σ : Sg) : Option (Int32 × Sg) :=
some (s0, σ)
set_option maxHeartbeats 4000000 in
set_option maxRecDepth 100000 in
theorem w_X3_momentary_94 {p : Program} {l : Launch} {e : Env} {s : State} {m : MethodId} {args : Array Value} {below : List Frame} {meth : Method} {c : Code} {Γ : GG} {res : Int32 × Sg} (M : MX RX3 cX3_momentary 2 (some .int) p s m args meth c) (K : KK Γ s s.heap) {q : Nat} (hq : isT q) (a0 : Int32) (s0 : Int32) (σ : Sg) (H : Heap) (locs : List Loc) (ls : Array Slot)  (hB : Bd Γ σ s H locs) (hl : lv_has ls 2 []) (hr : f_X3_momentary_94 q a0  s0 σ = some res) : WI Γ rm_X3_momentary p l e s m args below meth c H locs res (F0 m 94 ls [.int s0]) := by
  unfold f_X3_momentary_94 at hr
  exact x_iret M hB (Option.some.inj hr) dX3_momentary_94
def f_X3_momentary_71 (q : Nat) (a0 : Int32)  (s0 : Int32) (σ : Sg) : Option (Int32 × Sg) :=
some (s0, σ)
set_option maxHeartbeats 4000000 in
set_option maxRecDepth 100000 in
theorem w_X3_momentary_71 {p : Program} {l : Launch} {e : Env} {s : State} {m : MethodId} {args : Array Value} {below : List Frame} {meth : Method} {c : Code} {Γ : GG} {res : Int32 × Sg} (M : MX RX3 cX3_momentary 2 (some .int) p s m args meth c) (K : KK Γ s s.heap) {q : Nat} (hq : isT q) (a0 : Int32) (s0 : Int32) (σ : Sg) (H : Heap) (locs : List Loc) (ls : Array Slot)  (hB : Bd Γ σ s H locs) (hl : lv_has ls 2 []) (hr : f_X3_momentary_71 q a0  s0 σ = some res) : WI Γ rm_X3_momentary p l e s m args below meth c H locs res (F0 m 71 ls [.int s0]) := by
  unfold f_X3_momentary_71 at hr
  exact x_iret M hB (Option.some.inj hr) dX3_momentary_71
def f_X3_momentary_70 (q : Nat) (a0 : Int32)   (σ : Sg) : Option (Int32 × Sg) :=
f_X3_momentary_71 q a0  0 σ
set_option maxHeartbeats 4000000 in
set_option maxRecDepth 100000 in
theorem w_X3_momentary_70 {p : Program} {l : Launch} {e : Env} {s : State} {m : MethodId} {args : Array Value} {below : List Frame} {meth : Method} {c : Code} {Γ : GG} {res : Int32 × Sg} (M : MX RX3 cX3_momentary 2 (some .int) p s m args meth c) (K : KK Γ s s.heap) {q : Nat} (hq : isT q) (a0 : Int32)  (σ : Sg) (H : Heap) (locs : List Loc) (ls : Array Slot)  (hB : Bd Γ σ s H locs) (hl : lv_has ls 2 []) (hr : f_X3_momentary_70 q a0   σ = some res) : WI Γ rm_X3_momentary p l e s m args below meth c H locs res (F0 m 70 ls []) := by
  unfold f_X3_momentary_70 at hr
  refine lv_iconst (v := 0) M.1 M.2.1 dX3_momentary_70 (by decide) ?_
  exact w_X3_momentary_71 M K hq a0  0 _ _ _ _  hB (lv_sub hl [] rfl) hr
def f_X3_momentary_48 (q : Nat) (a0 : Int32)  (s0 : Int32) (σ : Sg) : Option (Int32 × Sg) :=
some (s0, σ)
set_option maxHeartbeats 4000000 in
set_option maxRecDepth 100000 in
theorem w_X3_momentary_48 {p : Program} {l : Launch} {e : Env} {s : State} {m : MethodId} {args : Array Value} {below : List Frame} {meth : Method} {c : Code} {Γ : GG} {res : Int32 × Sg} (M : MX RX3 cX3_momentary 2 (some .int) p s m args meth c) (K : KK Γ s s.heap) {q : Nat} (hq : isT q) (a0 : Int32) (s0 : Int32) (σ : Sg) (H : Heap) (locs : List Loc) (ls : Array Slot)  (hB : Bd Γ σ s H locs) (hl : lv_has ls 2 []) (hr : f_X3_momentary_48 q a0  s0 σ = some res) : WI Γ rm_X3_momentary p l e s m args below meth c H locs res (F0 m 48 ls [.int s0]) := by
  unfold f_X3_momentary_48 at hr
  exact x_iret M hB (Option.some.inj hr) dX3_momentary_48
def f_X3_momentary_0 (q : Nat) (a0 : Int32)   (σ : Sg) : Option (Int32 × Sg) :=
if a0 = 8 then
if σ q 4 = 0 then
f_X3_momentary_48 q a0  0 σ
else
f_X3_momentary_48 q a0  1 σ
else
if a0 = 9 then
if σ q 4 = 0 then
f_X3_momentary_70 q a0   σ
else
if σ q 5 = 0 then
f_X3_momentary_71 q a0  (σ q 7) σ
else
f_X3_momentary_70 q a0   σ
else
if a0 = 10 then
some (σ q 8, σ)
else
if a0 = 11 then
some (σ q 9, σ)
else
if a0 = 12 then
if σ q 10 = 0 then
f_X3_momentary_94 q a0  0 σ
else
f_X3_momentary_94 q a0  1 σ
else
if σ q 11 = 0 then
f_X3_momentary_107 q a0  0 σ
else
f_X3_momentary_107 q a0  1 σ
set_option maxHeartbeats 4000000 in
set_option maxRecDepth 100000 in
theorem w_X3_momentary_0 {p : Program} {l : Launch} {e : Env} {s : State} {m : MethodId} {args : Array Value} {below : List Frame} {meth : Method} {c : Code} {Γ : GG} {res : Int32 × Sg} (M : MX RX3 cX3_momentary 2 (some .int) p s m args meth c) (K : KK Γ s s.heap) {q : Nat} (hq : isT q) (a0 : Int32)  (σ : Sg) (H : Heap) (locs : List Loc) (ls : Array Slot)  (hB : Bd Γ σ s H locs) (hl : lv_has ls 2 [(0, .ref (Γ.1 q)), (1, .int a0)]) (hr : f_X3_momentary_0 q a0   σ = some res) : WI Γ rm_X3_momentary p l e s m args below meth c H locs res (F0 m 0 ls []) := by
  unfold f_X3_momentary_0 at hr
  refine lv_iload_n M.1 M.2.1 dX3_momentary_0 rfl (lv_at hl 1 rfl) ?_
  by_cases c_1 : a0 = 8
  · rw [if_pos c_1] at hr
    have t_2 : Int32.toInt a0 = 8 := by rw [c_1]; decide
    refine lv_tableIn (off := 35) (tgt := 36) M.1 M.2.1 dX3_momentary_1 (by rw [t_2]; decide) (by rw [t_2]; decide) (by rw [t_2]; rfl) (by decide) ?_
    refine lv_aload_n M.1 M.2.1 dX3_momentary_36 rfl (lv_at hl 0 rfl) ?_
    refine x_get3 M K hB (hq.k) 4 (by decide) wd_4 (v := .int (σ q 4)) rfl dX3_momentary_37 ?_
    refine lv_if_eq (tgt := 47) M.1 M.2.1 dX3_momentary_40 (by decide) (fun c_3 => ?_) (fun c_3 => ?_)
    · rw [if_pos c_3] at hr
      refine lv_iconst (v := 0) M.1 M.2.1 dX3_momentary_47 (by decide) ?_
      exact w_X3_momentary_48 M K hq a0  0 _ _ _ _  hB (lv_sub hl [] rfl) hr
    · rw [if_neg c_3] at hr
      refine lv_iconst (v := 1) M.1 M.2.1 dX3_momentary_43 (by decide) ?_
      refine lv_goto (tgt := 48) M.1 M.2.1 dX3_momentary_44 (by decide) ?_
      exact w_X3_momentary_48 M K hq a0  1 _ _ _ _  hB (lv_sub hl [] rfl) hr
  · rw [if_neg c_1] at hr
    have t_2 : ¬ Int32.toInt a0 = 8 := lv_neT c_1 (by decide)
    by_cases c_4 : a0 = 9
    · rw [if_pos c_4] at hr
      have t_5 : Int32.toInt a0 = 9 := by rw [c_4]; decide
      refine lv_tableIn (off := 48) (tgt := 49) M.1 M.2.1 dX3_momentary_1 (by rw [t_5]; decide) (by rw [t_5]; decide) (by rw [t_5]; rfl) (by decide) ?_
      refine lv_aload_n M.1 M.2.1 dX3_momentary_49 rfl (lv_at hl 0 rfl) ?_
      refine x_get3 M K hB (hq.k) 4 (by decide) wd_4 (v := .int (σ q 4)) rfl dX3_momentary_50 ?_
      refine lv_if_eq (tgt := 70) M.1 M.2.1 dX3_momentary_53 (by decide) (fun c_6 => ?_) (fun c_6 => ?_)
      · rw [if_pos c_6] at hr
        exact w_X3_momentary_70 M K hq a0   _ _ _ _  hB (lv_sub hl [] rfl) hr
      · rw [if_neg c_6] at hr
        refine lv_aload_n M.1 M.2.1 dX3_momentary_56 rfl (lv_at hl 0 rfl) ?_
        refine x_get3 M K hB (hq.k) 5 (by decide) wd_12 (v := .int (σ q 5)) rfl dX3_momentary_57 ?_
        refine lv_if_ne (tgt := 70) M.1 M.2.1 dX3_momentary_60 (by decide) (fun c_7 => ?_) (fun c_7 => ?_)
        · rw [if_neg c_7] at hr
          exact w_X3_momentary_70 M K hq a0   _ _ _ _  hB (lv_sub hl [] rfl) hr
        · rw [if_pos c_7] at hr
          refine lv_aload_n M.1 M.2.1 dX3_momentary_63 rfl (lv_at hl 0 rfl) ?_
          refine x_get3 M K hB (hq.k) 7 (by decide) wd_13 (v := .int (σ q 7)) rfl dX3_momentary_64 ?_
          refine lv_goto (tgt := 71) M.1 M.2.1 dX3_momentary_67 (by decide) ?_
          exact w_X3_momentary_71 M K hq a0  (σ q 7) _ _ _ _  hB (lv_sub hl [] rfl) hr
    · rw [if_neg c_4] at hr
      have t_5 : ¬ Int32.toInt a0 = 9 := lv_neT c_4 (by decide)
      by_cases c_8 : a0 = 10
      · rw [if_pos c_8] at hr
        have t_9 : Int32.toInt a0 = 10 := by rw [c_8]; decide
        refine lv_tableIn (off := 71) (tgt := 72) M.1 M.2.1 dX3_momentary_1 (by rw [t_9]; decide) (by rw [t_9]; decide) (by rw [t_9]; rfl) (by decide) ?_
        refine lv_aload_n M.1 M.2.1 dX3_momentary_72 rfl (lv_at hl 0 rfl) ?_
        refine x_get3 M K hB (hq.k) 8 (by decide) wd_5 (v := .int (σ q 8)) rfl dX3_momentary_73 ?_
        exact x_iret M hB (Option.some.inj hr) dX3_momentary_76
      · rw [if_neg c_8] at hr
        have t_9 : ¬ Int32.toInt a0 = 10 := lv_neT c_8 (by decide)
        by_cases c_10 : a0 = 11
        · rw [if_pos c_10] at hr
          have t_11 : Int32.toInt a0 = 11 := by rw [c_10]; decide
          refine lv_tableIn (off := 76) (tgt := 77) M.1 M.2.1 dX3_momentary_1 (by rw [t_11]; decide) (by rw [t_11]; decide) (by rw [t_11]; rfl) (by decide) ?_
          refine lv_aload_n M.1 M.2.1 dX3_momentary_77 rfl (lv_at hl 0 rfl) ?_
          refine x_get3 M K hB (hq.k) 9 (by decide) wd_6 (v := .int (σ q 9)) rfl dX3_momentary_78 ?_
          exact x_iret M hB (Option.some.inj hr) dX3_momentary_81
        · rw [if_neg c_10] at hr
          have t_11 : ¬ Int32.toInt a0 = 11 := lv_neT c_10 (by decide)
          by_cases c_12 : a0 = 12
          · rw [if_pos c_12] at hr
            have t_13 : Int32.toInt a0 = 12 := by rw [c_12]; decide
            refine lv_tableIn (off := 81) (tgt := 82) M.1 M.2.1 dX3_momentary_1 (by rw [t_13]; decide) (by rw [t_13]; decide) (by rw [t_13]; rfl) (by decide) ?_
            refine lv_aload_n M.1 M.2.1 dX3_momentary_82 rfl (lv_at hl 0 rfl) ?_
            refine x_get3 M K hB (hq.k) 10 (by decide) wd_7 (v := .int (σ q 10)) rfl dX3_momentary_83 ?_
            refine lv_if_eq (tgt := 93) M.1 M.2.1 dX3_momentary_86 (by decide) (fun c_14 => ?_) (fun c_14 => ?_)
            · rw [if_pos c_14] at hr
              refine lv_iconst (v := 0) M.1 M.2.1 dX3_momentary_93 (by decide) ?_
              exact w_X3_momentary_94 M K hq a0  0 _ _ _ _  hB (lv_sub hl [] rfl) hr
            · rw [if_neg c_14] at hr
              refine lv_iconst (v := 1) M.1 M.2.1 dX3_momentary_89 (by decide) ?_
              refine lv_goto (tgt := 94) M.1 M.2.1 dX3_momentary_90 (by decide) ?_
              exact w_X3_momentary_94 M K hq a0  1 _ _ _ _  hB (lv_sub hl [] rfl) hr
          · rw [if_neg c_12] at hr
            have t_13 : ¬ Int32.toInt a0 = 12 := lv_neT c_12 (by decide)
            refine lv_tableOut (tgt := 95) M.1 M.2.1 dX3_momentary_1 (by omega) (by decide) ?_
            refine lv_aload_n M.1 M.2.1 dX3_momentary_95 rfl (lv_at hl 0 rfl) ?_
            refine x_get3 M K hB (hq.k) 11 (by decide) wd_8 (v := .int (σ q 11)) rfl dX3_momentary_96 ?_
            refine lv_if_eq (tgt := 106) M.1 M.2.1 dX3_momentary_99 (by decide) (fun c_15 => ?_) (fun c_15 => ?_)
            · rw [if_pos c_15] at hr
              refine lv_iconst (v := 0) M.1 M.2.1 dX3_momentary_106 (by decide) ?_
              exact w_X3_momentary_107 M K hq a0  0 _ _ _ _  hB (lv_sub hl [] rfl) hr
            · rw [if_neg c_15] at hr
              refine lv_iconst (v := 1) M.1 M.2.1 dX3_momentary_102 (by decide) ?_
              refine lv_goto (tgt := 107) M.1 M.2.1 dX3_momentary_103 (by decide) ?_
              exact w_X3_momentary_107 M K hq a0  1 _ _ _ _  hB (lv_sub hl [] rfl) hr
theorem c_X3_momentary (l : Launch) (Γ : GG) (q : Nat) (a0 : Int32) (hq : isT q) (σ : Sg) (res : Int32 × Sg) (hr : f_X3_momentary_0 q a0 σ = some res) : Met l yX3_momentary (Cond.code yX3_momentary cX3_momentary 2 (some .int) :: gtb) rm_X3_momentary (va_Pc [.ref (Γ.1 q), .int a0] (GI Γ σ)) (QI Γ res) 0 0 (AD Γ) :=
  x_metI (by decide) [.ref (Γ.1 q), .int a0] (Nat.le_of_ble_eq_true rfl) (fun p e s m args below meth c M K ls hl hB => w_X3_momentary_0 M K hq a0 σ _ _ ls hB hl hr)
abbrev rm_X3_crashesAtBegin : Room := { frames := 0, cells := 0, slots := 0, locals := 0 }
def f_X3_crashesAtBegin_119 (q : Nat) (a0 : Int32) (a1 : Int32)  (s0 : Int32) (σ : Sg) : Option (Int32 × Sg) :=
if s0 = 0 ∨ s0 = 1 then some (s0, σ) else none
set_option maxHeartbeats 4000000 in
set_option maxRecDepth 100000 in
theorem w_X3_crashesAtBegin_119 {p : Program} {l : Launch} {e : Env} {s : State} {m : MethodId} {args : Array Value} {below : List Frame} {meth : Method} {c : Code} {Γ : GG} {res : Int32 × Sg} (M : MX RX3 cX3_crashesAtBegin 5 (some .boolean) p s m args meth c) (K : KK Γ s s.heap) {q : Nat} (hq : isT q) (a0 : Int32) (a1 : Int32) (s0 : Int32) (σ : Sg) (H : Heap) (locs : List Loc) (ls : Array Slot)  (hB : Bd Γ σ s H locs) (hl : lv_has ls 5 []) (hr : f_X3_crashesAtBegin_119 q a0 a1  s0 σ = some res) : WI Γ rm_X3_crashesAtBegin p l e s m args below meth c H locs res (F0 m 119 ls [.int s0]) := by
  unfold f_X3_crashesAtBegin_119 at hr
  obtain ⟨g_23, hr⟩ := gd2 hr
  exact x_zret M hB (nar_z g_23) (Option.some.inj hr) dX3_crashesAtBegin_119
def f_X3_crashesAtBegin_109 (q : Nat) (a0 : Int32) (a1 : Int32)  (x3 : Int32) (σ : Sg) : Option (Int32 × Sg) :=
if x3 = 5 then
f_X3_crashesAtBegin_119 q a0 a1  1 σ
else
f_X3_crashesAtBegin_119 q a0 a1  0 σ
set_option maxHeartbeats 4000000 in
set_option maxRecDepth 100000 in
theorem w_X3_crashesAtBegin_109 {p : Program} {l : Launch} {e : Env} {s : State} {m : MethodId} {args : Array Value} {below : List Frame} {meth : Method} {c : Code} {Γ : GG} {res : Int32 × Sg} (M : MX RX3 cX3_crashesAtBegin 5 (some .boolean) p s m args meth c) (K : KK Γ s s.heap) {q : Nat} (hq : isT q) (a0 : Int32) (a1 : Int32) (x3 : Int32) (σ : Sg) (H : Heap) (locs : List Loc) (ls : Array Slot)  (hB : Bd Γ σ s H locs) (hl : lv_has ls 5 [(3, .int x3)]) (hr : f_X3_crashesAtBegin_109 q a0 a1  x3 σ = some res) : WI Γ rm_X3_crashesAtBegin p l e s m args below meth c H locs res (F0 m 109 ls []) := by
  unfold f_X3_crashesAtBegin_109 at hr
  refine lv_iload_n M.1 M.2.1 dX3_crashesAtBegin_109 rfl (lv_at hl 0 rfl) ?_
  refine lv_iconst (v := 5) M.1 M.2.1 dX3_crashesAtBegin_110 (by decide) ?_
  refine lv_icmp_ne (tgt := 118) M.1 M.2.1 dX3_crashesAtBegin_111 (by decide) (fun c_22 => ?_) (fun c_22 => ?_)
  · rw [if_neg c_22] at hr
    refine lv_iconst (v := 0) M.1 M.2.1 dX3_crashesAtBegin_118 (by decide) ?_
    exact w_X3_crashesAtBegin_119 M K hq a0 a1  0 _ _ _ _  hB (lv_sub hl [] rfl) hr
  · rw [if_pos c_22] at hr
    refine lv_iconst (v := 1) M.1 M.2.1 dX3_crashesAtBegin_114 (by decide) ?_
    refine lv_goto (tgt := 119) M.1 M.2.1 dX3_crashesAtBegin_115 (by decide) ?_
    exact w_X3_crashesAtBegin_119 M K hq a0 a1  1 _ _ _ _  hB (lv_sub hl [] rfl) hr
def f_X3_crashesAtBegin_105 (q : Nat) (a0 : Int32) (a1 : Int32)  (x3 : Int32) (s0 : Int32) (s1 : Int32) (σ : Sg) : Option (Int32 × Sg) :=
wb (st σ q 8 (s1 + s0)) fun σ_20 =>
f_X3_crashesAtBegin_109 q a0 a1  x3 σ_20
set_option maxHeartbeats 4000000 in
set_option maxRecDepth 100000 in
theorem w_X3_crashesAtBegin_105 {p : Program} {l : Launch} {e : Env} {s : State} {m : MethodId} {args : Array Value} {below : List Frame} {meth : Method} {c : Code} {Γ : GG} {res : Int32 × Sg} (M : MX RX3 cX3_crashesAtBegin 5 (some .boolean) p s m args meth c) (K : KK Γ s s.heap) {q : Nat} (hq : isT q) (a0 : Int32) (a1 : Int32) (x3 : Int32) (s0 : Int32) (s1 : Int32) (σ : Sg) (H : Heap) (locs : List Loc) (ls : Array Slot)  (hB : Bd Γ σ s H locs) (hl : lv_has ls 5 [(3, .int x3)]) (hr : f_X3_crashesAtBegin_105 q a0 a1  x3 s0 s1 σ = some res) : WI Γ rm_X3_crashesAtBegin p l e s m args below meth c H locs res (F0 m 105 ls [.int s0, .int s1, .ref (Γ.1 q)]) := by
  unfold f_X3_crashesAtBegin_105 at hr
  refine lv_iadd M.1 M.2.1 dX3_crashesAtBegin_105 ?_
  obtain ⟨σ_20, e_21, hr⟩ := wbd hr
  refine x_put3 M K hB (hq.k) 8 (by decide) wd_5 dX3_crashesAtBegin_106 (fun H locs hB => ?_)
  rw [← e_21] at hB
  exact w_X3_crashesAtBegin_109 M K hq a0 a1  x3 _ _ _ _  hB (lv_sub hl [0] rfl) hr
def f_X3_crashesAtBegin_81 (q : Nat) (a0 : Int32) (a1 : Int32)  (x3 : Int32) (s0 : Int32) (s1 : Int32) (σ : Sg) : Option (Int32 × Sg) :=
wb (st σ q 7 (s1 + s0)) fun σ_16 =>
if x3 = 3 then
f_X3_crashesAtBegin_109 q a0 a1  x3 σ_16
else
if x3 = 4 then
f_X3_crashesAtBegin_105 q a0 a1  x3 2 (σ_16 q 8) σ_16
else
f_X3_crashesAtBegin_105 q a0 a1  x3 1 (σ_16 q 8) σ_16
set_option maxHeartbeats 4000000 in
set_option maxRecDepth 100000 in
theorem w_X3_crashesAtBegin_81 {p : Program} {l : Launch} {e : Env} {s : State} {m : MethodId} {args : Array Value} {below : List Frame} {meth : Method} {c : Code} {Γ : GG} {res : Int32 × Sg} (M : MX RX3 cX3_crashesAtBegin 5 (some .boolean) p s m args meth c) (K : KK Γ s s.heap) {q : Nat} (hq : isT q) (a0 : Int32) (a1 : Int32) (x3 : Int32) (s0 : Int32) (s1 : Int32) (σ : Sg) (H : Heap) (locs : List Loc) (ls : Array Slot)  (hB : Bd Γ σ s H locs) (hl : lv_has ls 5 [(0, .ref (Γ.1 q)), (3, .int x3)]) (hr : f_X3_crashesAtBegin_81 q a0 a1  x3 s0 s1 σ = some res) : WI Γ rm_X3_crashesAtBegin p l e s m args below meth c H locs res (F0 m 81 ls [.int s0, .int s1, .ref (Γ.1 q)]) := by
  unfold f_X3_crashesAtBegin_81 at hr
  refine lv_iadd M.1 M.2.1 dX3_crashesAtBegin_81 ?_
  obtain ⟨σ_16, e_17, hr⟩ := wbd hr
  refine x_put3 M K hB (hq.k) 7 (by decide) wd_13 dX3_crashesAtBegin_82 (fun H locs hB => ?_)
  rw [← e_17] at hB
  refine lv_iload_n M.1 M.2.1 dX3_crashesAtBegin_85 rfl (lv_at hl 1 rfl) ?_
  refine lv_iconst (v := 3) M.1 M.2.1 dX3_crashesAtBegin_86 (by decide) ?_
  refine lv_icmp_eq (tgt := 109) M.1 M.2.1 dX3_crashesAtBegin_87 (by decide) (fun c_18 => ?_) (fun c_18 => ?_)
  · rw [if_pos c_18] at hr
    exact w_X3_crashesAtBegin_109 M K hq a0 a1  x3 _ _ _ _  hB (lv_sub hl [1] rfl) hr
  · rw [if_neg c_18] at hr
    refine lv_aload_n M.1 M.2.1 dX3_crashesAtBegin_90 rfl (lv_at hl 0 rfl) ?_
    refine lv_dup M.1 M.2.1 dX3_crashesAtBegin_91 rfl ?_
    refine x_get3 M K hB (hq.k) 8 (by decide) wd_5 (v := .int (σ_16 q 8)) rfl dX3_crashesAtBegin_92 ?_
    refine lv_iload_n M.1 M.2.1 dX3_crashesAtBegin_95 rfl (lv_at hl 1 rfl) ?_
    refine lv_iconst (v := 4) M.1 M.2.1 dX3_crashesAtBegin_96 (by decide) ?_
    refine lv_icmp_ne (tgt := 104) M.1 M.2.1 dX3_crashesAtBegin_97 (by decide) (fun c_19 => ?_) (fun c_19 => ?_)
    · rw [if_neg c_19] at hr
      refine lv_iconst (v := 1) M.1 M.2.1 dX3_crashesAtBegin_104 (by decide) ?_
      exact w_X3_crashesAtBegin_105 M K hq a0 a1  x3 1 (σ_16 q 8) _ _ _ _  hB (lv_sub hl [1] rfl) hr
    · rw [if_pos c_19] at hr
      refine lv_iconst (v := 2) M.1 M.2.1 dX3_crashesAtBegin_100 (by decide) ?_
      refine lv_goto (tgt := 105) M.1 M.2.1 dX3_crashesAtBegin_101 (by decide) ?_
      exact w_X3_crashesAtBegin_105 M K hq a0 a1  x3 2 (σ_16 q 8) _ _ _ _  hB (lv_sub hl [1] rfl) hr
def f_X3_crashesAtBegin_55 (q : Nat) (a0 : Int32) (a1 : Int32)  (x1 : Int32) (x3 : Int32) (x4 : Int32) (s0 : Int32) (σ : Sg) : Option (Int32 × Sg) :=
if s0 = 0 ∨ s0 = 1 then
wb (st σ q 5 s0) fun σ_11 =>
wb (st σ_11 q 6 x1) fun σ_13 =>
if x3 = 2 then
f_X3_crashesAtBegin_81 q a0 a1  x3 x4 (σ_13 (q + 1) 1) σ_13
else
f_X3_crashesAtBegin_81 q a0 a1  x3 0 (σ_13 (q + 1) 1) σ_13 else none
set_option maxHeartbeats 4000000 in
set_option maxRecDepth 100000 in
theorem w_X3_crashesAtBegin_55 {p : Program} {l : Launch} {e : Env} {s : State} {m : MethodId} {args : Array Value} {below : List Frame} {meth : Method} {c : Code} {Γ : GG} {res : Int32 × Sg} (M : MX RX3 cX3_crashesAtBegin 5 (some .boolean) p s m args meth c) (K : KK Γ s s.heap) {q : Nat} (hq : isT q) (a0 : Int32) (a1 : Int32) (x1 : Int32) (x3 : Int32) (x4 : Int32) (s0 : Int32) (σ : Sg) (H : Heap) (locs : List Loc) (ls : Array Slot)  (hB : Bd Γ σ s H locs) (hl : lv_has ls 5 [(0, .ref (Γ.1 q)), (1, .int x1), (3, .int x3), (4, .int x4)]) (hr : f_X3_crashesAtBegin_55 q a0 a1  x1 x3 x4 s0 σ = some res) : WI Γ rm_X3_crashesAtBegin p l e s m args below meth c H locs res (F0 m 55 ls [.int s0, .ref (Γ.1 q)]) := by
  unfold f_X3_crashesAtBegin_55 at hr
  obtain ⟨g_10, hr⟩ := gd2 hr
  obtain ⟨σ_11, e_12, hr⟩ := wbd hr
  refine x_putz3 M K hB (hq.k) 5 (by decide) wd_12 g_10 dX3_crashesAtBegin_55 (fun H locs hB => ?_)
  rw [← e_12] at hB
  refine lv_aload_n M.1 M.2.1 dX3_crashesAtBegin_58 rfl (lv_at hl 0 rfl) ?_
  refine lv_iload_n M.1 M.2.1 dX3_crashesAtBegin_59 rfl (lv_at hl 1 rfl) ?_
  obtain ⟨σ_13, e_14, hr⟩ := wbd hr
  refine x_put3 M K hB (hq.k) 6 (by decide) wd_14 dX3_crashesAtBegin_60 (fun H locs hB => ?_)
  rw [← e_14] at hB
  refine lv_aload_n M.1 M.2.1 dX3_crashesAtBegin_63 rfl (lv_at hl 0 rfl) ?_
  refine lv_aload_n M.1 M.2.1 dX3_crashesAtBegin_64 rfl (lv_at hl 0 rfl) ?_
  refine x_get3 M K hB (hq.k) 0 (by decide) wd_15 (v := .ref (Γ.1 (q + 1))) rfl dX3_crashesAtBegin_65 ?_
  refine lv_iconst (v := 1) M.1 M.2.1 dX3_crashesAtBegin_68 (by decide) ?_
  refine x_ialdL M K hB (hq.a1) (k := 1) (by decide) (by decide) dX3_crashesAtBegin_69 ?_
  refine lv_iload_n M.1 M.2.1 dX3_crashesAtBegin_70 rfl (lv_at hl 2 rfl) ?_
  refine lv_iconst (v := 2) M.1 M.2.1 dX3_crashesAtBegin_71 (by decide) ?_
  refine lv_icmp_ne (tgt := 80) M.1 M.2.1 dX3_crashesAtBegin_72 (by decide) (fun c_15 => ?_) (fun c_15 => ?_)
  · rw [if_neg c_15] at hr
    refine lv_iconst (v := 0) M.1 M.2.1 dX3_crashesAtBegin_80 (by decide) ?_
    exact w_X3_crashesAtBegin_81 M K hq a0 a1  x3 0 (σ_13 (q + 1) 1) _ _ _ _  hB (lv_sub hl [0, 2] rfl) hr
  · rw [if_pos c_15] at hr
    refine lv_iload M.1 M.2.1 dX3_crashesAtBegin_75 (lv_at hl 3 rfl) ?_
    refine lv_goto (tgt := 81) M.1 M.2.1 dX3_crashesAtBegin_77 (by decide) ?_
    exact w_X3_crashesAtBegin_81 M K hq a0 a1  x3 x4 (σ_13 (q + 1) 1) _ _ _ _  hB (lv_sub hl [0, 2] rfl) hr
def f_X3_crashesAtBegin_39 (q : Nat) (a0 : Int32) (a1 : Int32)  (x1 : Int32) (x3 : Int32) (x4 : Int32) (σ : Sg) : Option (Int32 × Sg) :=
wb (st σ q 4 1) fun σ_7 =>
if x3 = 1 then
f_X3_crashesAtBegin_55 q a0 a1  x1 x3 x4 1 σ_7
else
f_X3_crashesAtBegin_55 q a0 a1  x1 x3 x4 0 σ_7
set_option maxHeartbeats 4000000 in
set_option maxRecDepth 100000 in
theorem w_X3_crashesAtBegin_39 {p : Program} {l : Launch} {e : Env} {s : State} {m : MethodId} {args : Array Value} {below : List Frame} {meth : Method} {c : Code} {Γ : GG} {res : Int32 × Sg} (M : MX RX3 cX3_crashesAtBegin 5 (some .boolean) p s m args meth c) (K : KK Γ s s.heap) {q : Nat} (hq : isT q) (a0 : Int32) (a1 : Int32) (x1 : Int32) (x3 : Int32) (x4 : Int32) (σ : Sg) (H : Heap) (locs : List Loc) (ls : Array Slot)  (hB : Bd Γ σ s H locs) (hl : lv_has ls 5 [(0, .ref (Γ.1 q)), (1, .int x1), (3, .int x3), (4, .int x4)]) (hr : f_X3_crashesAtBegin_39 q a0 a1  x1 x3 x4 σ = some res) : WI Γ rm_X3_crashesAtBegin p l e s m args below meth c H locs res (F0 m 39 ls []) := by
  unfold f_X3_crashesAtBegin_39 at hr
  refine lv_aload_n M.1 M.2.1 dX3_crashesAtBegin_39 rfl (lv_at hl 0 rfl) ?_
  refine lv_iconst (v := 1) M.1 M.2.1 dX3_crashesAtBegin_40 (by decide) ?_
  obtain ⟨σ_7, e_8, hr⟩ := wbd hr
  refine x_putz3 M K hB (hq.k) 4 (by decide) wd_4 (by decide) dX3_crashesAtBegin_41 (fun H locs hB => ?_)
  rw [← e_8] at hB
  refine lv_aload_n M.1 M.2.1 dX3_crashesAtBegin_44 rfl (lv_at hl 0 rfl) ?_
  refine lv_iload_n M.1 M.2.1 dX3_crashesAtBegin_45 rfl (lv_at hl 2 rfl) ?_
  refine lv_iconst (v := 1) M.1 M.2.1 dX3_crashesAtBegin_46 (by decide) ?_
  refine lv_icmp_ne (tgt := 54) M.1 M.2.1 dX3_crashesAtBegin_47 (by decide) (fun c_9 => ?_) (fun c_9 => ?_)
  · rw [if_neg c_9] at hr
    refine lv_iconst (v := 0) M.1 M.2.1 dX3_crashesAtBegin_54 (by decide) ?_
    exact w_X3_crashesAtBegin_55 M K hq a0 a1  x1 x3 x4 0 _ _ _ _  hB (lv_sub hl [0, 1, 2, 3] rfl) hr
  · rw [if_pos c_9] at hr
    refine lv_iconst (v := 1) M.1 M.2.1 dX3_crashesAtBegin_50 (by decide) ?_
    refine lv_goto (tgt := 55) M.1 M.2.1 dX3_crashesAtBegin_51 (by decide) ?_
    exact w_X3_crashesAtBegin_55 M K hq a0 a1  x1 x3 x4 1 _ _ _ _  hB (lv_sub hl [0, 1, 2, 3] rfl) hr
def f_X3_crashesAtBegin_0 (q : Nat) (a0 : Int32) (a1 : Int32)   (σ : Sg) : Option (Int32 × Sg) :=
if a1 < 0 then
f_X3_crashesAtBegin_39 q a0 a1  a0 0 0 σ
else
if 2 ≤ a1 then
f_X3_crashesAtBegin_39 q a0 a1  a0 0 0 σ
else
if a1 < 0 ∨ 2 ≤ a1.toNatClampNeg then none else
if a0 < σ (q + 3) (a1.toNatClampNeg) then
f_X3_crashesAtBegin_39 q a0 a1  a0 0 0 σ
else
if a1 < 0 ∨ 2 ≤ a1.toNatClampNeg then none else
if a1 < 0 ∨ 2 ≤ a1.toNatClampNeg then none else
f_X3_crashesAtBegin_39 q a0 a1  a0 (σ (q + 2) (a1.toNatClampNeg)) (σ (q + 4) (a1.toNatClampNeg)) σ
set_option maxHeartbeats 4000000 in
set_option maxRecDepth 100000 in
theorem w_X3_crashesAtBegin_0 {p : Program} {l : Launch} {e : Env} {s : State} {m : MethodId} {args : Array Value} {below : List Frame} {meth : Method} {c : Code} {Γ : GG} {res : Int32 × Sg} (M : MX RX3 cX3_crashesAtBegin 5 (some .boolean) p s m args meth c) (K : KK Γ s s.heap) {q : Nat} (hq : isT q) (a0 : Int32) (a1 : Int32)  (σ : Sg) (H : Heap) (locs : List Loc) (ls : Array Slot)  (hB : Bd Γ σ s H locs) (hl : lv_has ls 5 [(0, .ref (Γ.1 q)), (1, .int a0), (2, .int a1)]) (hr : f_X3_crashesAtBegin_0 q a0 a1   σ = some res) : WI Γ rm_X3_crashesAtBegin p l e s m args below meth c H locs res (F0 m 0 ls []) := by
  unfold f_X3_crashesAtBegin_0 at hr
  refine lv_iconst (v := 0) M.1 M.2.1 dX3_crashesAtBegin_0 (by decide) ?_
  refine lv_istore_n (lv' := [(3, .int 0), (0, .ref (Γ.1 q)), (1, .int a0), (2, .int a1)]) M.1 M.2.1 dX3_crashesAtBegin_1 rfl hl (by decide) rfl (fun ls hl => ?_)
  refine lv_iconst (v := 0) M.1 M.2.1 dX3_crashesAtBegin_2 (by decide) ?_
  refine lv_istore (lv' := [(4, .int 0), (3, .int 0), (0, .ref (Γ.1 q)), (1, .int a0), (2, .int a1)]) M.1 M.2.1 dX3_crashesAtBegin_3 hl (by decide) rfl (fun ls hl => ?_)
  refine lv_iload_n M.1 M.2.1 dX3_crashesAtBegin_5 rfl (lv_at hl 4 rfl) ?_
  refine lv_if_lt (tgt := 39) M.1 M.2.1 dX3_crashesAtBegin_6 (by decide) (fun c_1 => ?_) (fun c_1 => ?_)
  · rw [if_pos c_1] at hr
    exact w_X3_crashesAtBegin_39 M K hq a0 a1  a0 0 0 _ _ _ _  hB (lv_sub hl [2, 3, 1, 0] rfl) hr
  · rw [if_neg c_1] at hr
    refine lv_iload_n M.1 M.2.1 dX3_crashesAtBegin_9 rfl (lv_at hl 4 rfl) ?_
    refine lv_iconst (v := 2) M.1 M.2.1 dX3_crashesAtBegin_10 (by decide) ?_
    refine lv_icmp_ge (tgt := 39) M.1 M.2.1 dX3_crashesAtBegin_11 (by decide) (fun c_2 => ?_) (fun c_2 => ?_)
    · rw [if_pos c_2] at hr
      exact w_X3_crashesAtBegin_39 M K hq a0 a1  a0 0 0 _ _ _ _  hB (lv_sub hl [2, 3, 1, 0] rfl) hr
    · rw [if_neg c_2] at hr
      refine lv_iload_n M.1 M.2.1 dX3_crashesAtBegin_14 rfl (lv_at hl 3 rfl) ?_
      refine lv_aload_n M.1 M.2.1 dX3_crashesAtBegin_15 rfl (lv_at hl 2 rfl) ?_
      refine x_get3 M K hB (hq.k) 2 (by decide) wd_2 (v := .ref (Γ.1 (q + 3))) rfl dX3_crashesAtBegin_16 ?_
      refine lv_iload_n M.1 M.2.1 dX3_crashesAtBegin_19 rfl (lv_at hl 4 rfl) ?_
      obtain ⟨g_3, hr⟩ := gd hr
      refine x_iald M K hB (hq.a3) g_3 dX3_crashesAtBegin_20 ?_
      refine lv_icmp_lt (tgt := 39) M.1 M.2.1 dX3_crashesAtBegin_21 (by decide) (fun c_4 => ?_) (fun c_4 => ?_)
      · rw [if_pos c_4] at hr
        exact w_X3_crashesAtBegin_39 M K hq a0 a1  a0 0 0 _ _ _ _  hB (lv_sub hl [2, 3, 1, 0] rfl) hr
      · rw [if_neg c_4] at hr
        refine lv_aload_n M.1 M.2.1 dX3_crashesAtBegin_24 rfl (lv_at hl 2 rfl) ?_
        refine x_get3 M K hB (hq.k) 1 (by decide) wd_1 (v := .ref (Γ.1 (q + 2))) rfl dX3_crashesAtBegin_25 ?_
        refine lv_iload_n M.1 M.2.1 dX3_crashesAtBegin_28 rfl (lv_at hl 4 rfl) ?_
        obtain ⟨g_5, hr⟩ := gd hr
        refine x_iald M K hB (hq.a2) g_5 dX3_crashesAtBegin_29 ?_
        refine lv_istore_n (lv' := [(3, .int (σ (q + 2) (a1.toNatClampNeg))), (4, .int 0), (0, .ref (Γ.1 q)), (1, .int a0), (2, .int a1)]) M.1 M.2.1 dX3_crashesAtBegin_30 rfl hl (by decide) rfl (fun ls hl => ?_)
        refine lv_aload_n M.1 M.2.1 dX3_crashesAtBegin_31 rfl (lv_at hl 2 rfl) ?_
        refine x_get3 M K hB (hq.k) 3 (by decide) wd_3 (v := .ref (Γ.1 (q + 4))) rfl dX3_crashesAtBegin_32 ?_
        refine lv_iload_n M.1 M.2.1 dX3_crashesAtBegin_35 rfl (lv_at hl 4 rfl) ?_
        obtain ⟨g_6, hr⟩ := gd hr
        refine x_iald M K hB (hq.a4) g_6 dX3_crashesAtBegin_36 ?_
        refine lv_istore (lv' := [(4, .int (σ (q + 4) (a1.toNatClampNeg))), (3, .int (σ (q + 2) (a1.toNatClampNeg))), (0, .ref (Γ.1 q)), (1, .int a0), (2, .int a1)]) M.1 M.2.1 dX3_crashesAtBegin_37 hl (by decide) rfl (fun ls hl => ?_)
        exact w_X3_crashesAtBegin_39 M K hq a0 a1  a0 (σ (q + 2) (a1.toNatClampNeg)) (σ (q + 4) (a1.toNatClampNeg)) _ _ _ _  hB (lv_sub hl [2, 3, 1, 0] rfl) hr
theorem c_X3_crashesAtBegin (l : Launch) (Γ : GG) (q : Nat) (a0 : Int32) (a1 : Int32) (hq : isT q) (σ : Sg) (res : Int32 × Sg) (hr : f_X3_crashesAtBegin_0 q a0 a1 σ = some res) : Met l yX3_crashesAtBegin (Cond.code yX3_crashesAtBegin cX3_crashesAtBegin 5 (some .boolean) :: gtb) rm_X3_crashesAtBegin (va_Pc [.ref (Γ.1 q), .int a0, .int a1] (GI Γ σ)) (QI Γ res) 0 0 (AD Γ) :=
  x_metI (by decide) [.ref (Γ.1 q), .int a0, .int a1] (Nat.le_of_ble_eq_true rfl) (fun p e s m args below meth c M K ls hl hB => w_X3_crashesAtBegin_0 M K hq a0 a1 σ _ _ ls hB hl hr)
abbrev rm_X3_crashesInTick : Room := { frames := 1, cells := 0, slots := 0, locals := 24 }
def f_X3_crashesInTick_116 (q : Nat) (a0 : Int32) (a1 : Int32)   (σ : Sg) : Option (Int32 × Sg) :=
some (0, σ)
set_option maxHeartbeats 4000000 in
set_option maxRecDepth 100000 in
theorem w_X3_crashesInTick_116 {p : Program} {l : Launch} {e : Env} {s : State} {m : MethodId} {args : Array Value} {below : List Frame} {meth : Method} {c : Code} {Γ : GG} {res : Int32 × Sg} (M : MX RX3 cX3_crashesInTick 3 (some .boolean) p s m args meth c) (K : KK Γ s s.heap) {q : Nat} (hq : isT q) (a0 : Int32) (a1 : Int32)  (σ : Sg) (H : Heap) (locs : List Loc) (ls : Array Slot)  (hB : Bd Γ σ s H locs) (hl : lv_has ls 3 []) (hr : f_X3_crashesInTick_116 q a0 a1   σ = some res) : WI Γ rm_X3_crashesInTick p l e s m args below meth c H locs res (F0 m 116 ls []) := by
  unfold f_X3_crashesInTick_116 at hr
  refine lv_iconst (v := 0) M.1 M.2.1 dX3_crashesInTick_116 (by decide) ?_
  exact x_zret M hB (nar_z (by decide)) (Option.some.inj hr) dX3_crashesInTick_117
def f_X3_crashesInTick_78 (q : Nat) (a0 : Int32) (a1 : Int32)  (x1 : Int32) (σ : Sg) : Option (Int32 × Sg) :=
if σ q 4 = 0 then
f_X3_crashesInTick_116 q a0 a1   σ
else
if σ (q + 1) 7 = 0 then
f_X3_crashesInTick_116 q a0 a1   σ
else
if x1 - (σ q 6) ≤ σ (q + 1) 7 then
f_X3_crashesInTick_116 q a0 a1   σ
else
wb (st σ q 10 1) fun σ_21 =>
f_X3_crashesInTick_116 q a0 a1   σ_21
set_option maxHeartbeats 4000000 in
set_option maxRecDepth 100000 in
theorem w_X3_crashesInTick_78 {p : Program} {l : Launch} {e : Env} {s : State} {m : MethodId} {args : Array Value} {below : List Frame} {meth : Method} {c : Code} {Γ : GG} {res : Int32 × Sg} (M : MX RX3 cX3_crashesInTick 3 (some .boolean) p s m args meth c) (K : KK Γ s s.heap) {q : Nat} (hq : isT q) (a0 : Int32) (a1 : Int32) (x1 : Int32) (σ : Sg) (H : Heap) (locs : List Loc) (ls : Array Slot)  (hB : Bd Γ σ s H locs) (hl : lv_has ls 3 [(0, .ref (Γ.1 q)), (1, .int x1)]) (hr : f_X3_crashesInTick_78 q a0 a1  x1 σ = some res) : WI Γ rm_X3_crashesInTick p l e s m args below meth c H locs res (F0 m 78 ls []) := by
  unfold f_X3_crashesInTick_78 at hr
  refine lv_aload_n M.1 M.2.1 dX3_crashesInTick_78 rfl (lv_at hl 0 rfl) ?_
  refine x_get3 M K hB (hq.k) 4 (by decide) wd_4 (v := .int (σ q 4)) rfl dX3_crashesInTick_79 ?_
  refine lv_if_eq (tgt := 116) M.1 M.2.1 dX3_crashesInTick_82 (by decide) (fun c_18 => ?_) (fun c_18 => ?_)
  · rw [if_pos c_18] at hr
    exact w_X3_crashesInTick_116 M K hq a0 a1   _ _ _ _  hB (lv_sub hl [] rfl) hr
  · rw [if_neg c_18] at hr
    refine lv_aload_n M.1 M.2.1 dX3_crashesInTick_85 rfl (lv_at hl 0 rfl) ?_
    refine x_get3 M K hB (hq.k) 0 (by decide) wd_15 (v := .ref (Γ.1 (q + 1))) rfl dX3_crashesInTick_86 ?_
    refine lv_bipush (v := 7) M.1 M.2.1 dX3_crashesInTick_89 (by decide) ?_
    refine x_ialdL M K hB (hq.a1) (k := 7) (by decide) (by decide) dX3_crashesInTick_91 ?_
    refine lv_if_eq (tgt := 116) M.1 M.2.1 dX3_crashesInTick_92 (by decide) (fun c_19 => ?_) (fun c_19 => ?_)
    · rw [if_pos c_19] at hr
      exact w_X3_crashesInTick_116 M K hq a0 a1   _ _ _ _  hB (lv_sub hl [] rfl) hr
    · rw [if_neg c_19] at hr
      refine lv_iload_n M.1 M.2.1 dX3_crashesInTick_95 rfl (lv_at hl 1 rfl) ?_
      refine lv_aload_n M.1 M.2.1 dX3_crashesInTick_96 rfl (lv_at hl 0 rfl) ?_
      refine x_get3 M K hB (hq.k) 6 (by decide) wd_14 (v := .int (σ q 6)) rfl dX3_crashesInTick_97 ?_
      refine lv_isub M.1 M.2.1 dX3_crashesInTick_100 ?_
      refine lv_aload_n M.1 M.2.1 dX3_crashesInTick_101 rfl (lv_at hl 0 rfl) ?_
      refine x_get3 M K hB (hq.k) 0 (by decide) wd_15 (v := .ref (Γ.1 (q + 1))) rfl dX3_crashesInTick_102 ?_
      refine lv_bipush (v := 7) M.1 M.2.1 dX3_crashesInTick_105 (by decide) ?_
      refine x_ialdL M K hB (hq.a1) (k := 7) (by decide) (by decide) dX3_crashesInTick_107 ?_
      refine lv_icmp_le (tgt := 116) M.1 M.2.1 dX3_crashesInTick_108 (by decide) (fun c_20 => ?_) (fun c_20 => ?_)
      · rw [if_pos c_20] at hr
        exact w_X3_crashesInTick_116 M K hq a0 a1   _ _ _ _  hB (lv_sub hl [] rfl) hr
      · rw [if_neg c_20] at hr
        refine lv_aload_n M.1 M.2.1 dX3_crashesInTick_111 rfl (lv_at hl 0 rfl) ?_
        refine lv_iconst (v := 1) M.1 M.2.1 dX3_crashesInTick_112 (by decide) ?_
        obtain ⟨σ_21, e_22, hr⟩ := wbd hr
        refine x_putz3 M K hB (hq.k) 10 (by decide) wd_7 (by decide) dX3_crashesInTick_113 (fun H locs hB => ?_)
        rw [← e_22] at hB
        exact w_X3_crashesInTick_116 M K hq a0 a1   _ _ _ _  hB (lv_sub hl [] rfl) hr
def f_X3_crashesInTick_40 (q : Nat) (a0 : Int32) (a1 : Int32)  (x1 : Int32) (x2 : Int32) (σ : Sg) : Option (Int32 × Sg) :=
if σ q 4 = 0 then
cb (f_X4_divides_0 (σ (q + 1) 0) (x1 - (σ (q + 1) 2)) σ) fun v_10 σ_11 =>
if v_10 = 0 then
f_X3_crashesInTick_78 q a0 a1  x1 σ_11
else
cb (f_X3_crashesAtBegin_0 q x1 x2 σ_11) fun v_14 σ_15 =>
if v_14 = 0 then
f_X3_crashesInTick_78 q a0 a1  x1 σ_15
else
some (1, σ_15)
else
f_X3_crashesInTick_78 q a0 a1  x1 σ
set_option maxHeartbeats 4000000 in
set_option maxRecDepth 100000 in
theorem w_X3_crashesInTick_40 {p : Program} {l : Launch} {e : Env} {s : State} {m : MethodId} {args : Array Value} {below : List Frame} {meth : Method} {c : Code} {Γ : GG} {res : Int32 × Sg} (M : MX RX3 cX3_crashesInTick 3 (some .boolean) p s m args meth c) (K : KK Γ s s.heap) {q : Nat} (hq : isT q) (a0 : Int32) (a1 : Int32) (x1 : Int32) (x2 : Int32) (σ : Sg) (H : Heap) (locs : List Loc) (ls : Array Slot)  (hB : Bd Γ σ s H locs) (hl : lv_has ls 3 [(0, .ref (Γ.1 q)), (1, .int x1), (2, .int x2)]) (hr : f_X3_crashesInTick_40 q a0 a1  x1 x2 σ = some res) : WI Γ rm_X3_crashesInTick p l e s m args below meth c H locs res (F0 m 40 ls []) := by
  unfold f_X3_crashesInTick_40 at hr
  refine lv_aload_n M.1 M.2.1 dX3_crashesInTick_40 rfl (lv_at hl 0 rfl) ?_
  refine x_get3 M K hB (hq.k) 4 (by decide) wd_4 (v := .int (σ q 4)) rfl dX3_crashesInTick_41 ?_
  refine lv_if_ne (tgt := 78) M.1 M.2.1 dX3_crashesInTick_44 (by decide) (fun c_9 => ?_) (fun c_9 => ?_)
  · rw [if_neg c_9] at hr
    exact w_X3_crashesInTick_78 M K hq a0 a1  x1 _ _ _ _  hB (lv_sub hl [0, 1] rfl) hr
  · rw [if_pos c_9] at hr
    refine lv_aload_n M.1 M.2.1 dX3_crashesInTick_47 rfl (lv_at hl 0 rfl) ?_
    refine x_get3 M K hB (hq.k) 0 (by decide) wd_15 (v := .ref (Γ.1 (q + 1))) rfl dX3_crashesInTick_48 ?_
    refine lv_iconst (v := 0) M.1 M.2.1 dX3_crashesInTick_51 (by decide) ?_
    refine x_ialdL M K hB (hq.a1) (k := 0) (by decide) (by decide) dX3_crashesInTick_52 ?_
    refine lv_iload_n M.1 M.2.1 dX3_crashesInTick_53 rfl (lv_at hl 1 rfl) ?_
    refine lv_aload_n M.1 M.2.1 dX3_crashesInTick_54 rfl (lv_at hl 0 rfl) ?_
    refine x_get3 M K hB (hq.k) 0 (by decide) wd_15 (v := .ref (Γ.1 (q + 1))) rfl dX3_crashesInTick_55 ?_
    refine lv_iconst (v := 2) M.1 M.2.1 dX3_crashesInTick_58 (by decide) ?_
    refine x_ialdL M K hB (hq.a1) (k := 2) (by decide) (by decide) dX3_crashesInTick_59 ?_
    refine lv_isub M.1 M.2.1 dX3_crashesInTick_60 ?_
    obtain ⟨v_10, σ_11, h_12, hr⟩ := cbd hr
    refine x_callI (x_runSN M K hB hl.1 [.int (σ (q + 1) 0), .int (x1 - (σ (q + 1) 2))] (rest := []) rfl (c_X4_divides l Γ (σ (q + 1) 0) (x1 - (σ (q + 1) 2))  σ (v_10, σ_11) h_12) cy_X4_divides nw_0 ⟨rfl, rfl, Nat.le_of_ble_eq_true rfl, Nat.le_of_ble_eq_true rfl⟩ (Nat.le_of_ble_eq_true rfl) ⟨Nat.zero_le _, Nat.zero_le _⟩ dX3_crashesInTick_61) hB (fun H locs hB => ?_)
    replace hB : Bd Γ σ_11 s H locs := hB
    refine lv_if_eq (tgt := 78) M.1 M.2.1 dX3_crashesInTick_64 (by decide) (fun c_13 => ?_) (fun c_13 => ?_)
    · rw [if_pos c_13] at hr
      exact w_X3_crashesInTick_78 M K hq a0 a1  x1 _ _ _ _  hB (lv_sub hl [0, 1] rfl) hr
    · rw [if_neg c_13] at hr
      refine lv_aload_n M.1 M.2.1 dX3_crashesInTick_67 rfl (lv_at hl 0 rfl) ?_
      refine lv_iload_n M.1 M.2.1 dX3_crashesInTick_68 rfl (lv_at hl 1 rfl) ?_
      refine lv_iload_n M.1 M.2.1 dX3_crashesInTick_69 rfl (lv_at hl 2 rfl) ?_
      obtain ⟨v_14, σ_15, h_16, hr⟩ := cbd hr
      refine x_callI (x_runV M K hB hl.1 [.int x1, .int x2] (rest := []) rfl (c_X3_crashesAtBegin l Γ q x1 x2 hq σ_11 (v_14, σ_15) h_16) cy_X3_crashesAtBegin (x_recv K hB (hq.k).2 (ent_3 (hq.k).1) rfl) wd_16 ⟨rfl, rfl, Nat.le_of_ble_eq_true rfl, Nat.le_of_ble_eq_true rfl⟩ (Nat.le_of_ble_eq_true rfl) ⟨Nat.zero_le _, Nat.zero_le _⟩ dX3_crashesInTick_70) hB (fun H locs hB => ?_)
      replace hB : Bd Γ σ_15 s H locs := hB
      refine lv_if_eq (tgt := 78) M.1 M.2.1 dX3_crashesInTick_73 (by decide) (fun c_17 => ?_) (fun c_17 => ?_)
      · rw [if_pos c_17] at hr
        exact w_X3_crashesInTick_78 M K hq a0 a1  x1 _ _ _ _  hB (lv_sub hl [0, 1] rfl) hr
      · rw [if_neg c_17] at hr
        refine lv_iconst (v := 1) M.1 M.2.1 dX3_crashesInTick_76 (by decide) ?_
        exact x_zret M hB (nar_z (by decide)) (Option.some.inj hr) dX3_crashesInTick_77
def f_X3_crashesInTick_37 (q : Nat) (a0 : Int32) (a1 : Int32)  (x1 : Int32) (x2 : Int32) (s0 : Int32) (σ : Sg) : Option (Int32 × Sg) :=
if s0 = 0 ∨ s0 = 1 then
wb (st σ q 4 s0) fun σ_7 =>
f_X3_crashesInTick_40 q a0 a1  x1 x2 σ_7 else none
set_option maxHeartbeats 4000000 in
set_option maxRecDepth 100000 in
theorem w_X3_crashesInTick_37 {p : Program} {l : Launch} {e : Env} {s : State} {m : MethodId} {args : Array Value} {below : List Frame} {meth : Method} {c : Code} {Γ : GG} {res : Int32 × Sg} (M : MX RX3 cX3_crashesInTick 3 (some .boolean) p s m args meth c) (K : KK Γ s s.heap) {q : Nat} (hq : isT q) (a0 : Int32) (a1 : Int32) (x1 : Int32) (x2 : Int32) (s0 : Int32) (σ : Sg) (H : Heap) (locs : List Loc) (ls : Array Slot)  (hB : Bd Γ σ s H locs) (hl : lv_has ls 3 [(0, .ref (Γ.1 q)), (1, .int x1), (2, .int x2)]) (hr : f_X3_crashesInTick_37 q a0 a1  x1 x2 s0 σ = some res) : WI Γ rm_X3_crashesInTick p l e s m args below meth c H locs res (F0 m 37 ls [.int s0, .ref (Γ.1 q)]) := by
  unfold f_X3_crashesInTick_37 at hr
  obtain ⟨g_6, hr⟩ := gd2 hr
  obtain ⟨σ_7, e_8, hr⟩ := wbd hr
  refine x_putz3 M K hB (hq.k) 4 (by decide) wd_4 g_6 dX3_crashesInTick_37 (fun H locs hB => ?_)
  rw [← e_8] at hB
  exact w_X3_crashesInTick_40 M K hq a0 a1  x1 x2 _ _ _ _  hB (lv_sub hl [0, 1, 2] rfl) hr
def f_X3_crashesInTick_0 (q : Nat) (a0 : Int32) (a1 : Int32)   (σ : Sg) : Option (Int32 × Sg) :=
if σ q 4 = 0 then
f_X3_crashesInTick_40 q a0 a1  a0 a1 σ
else
if σ q 5 = 0 then
wb (st σ q 7 ((σ q 7) - 1)) fun σ_3 =>
if σ_3 q 7 ≤ 0 then
f_X3_crashesInTick_37 q a0 a1  a0 a1 0 σ_3
else
f_X3_crashesInTick_37 q a0 a1  a0 a1 1 σ_3
else
f_X3_crashesInTick_40 q a0 a1  a0 a1 σ
set_option maxHeartbeats 4000000 in
set_option maxRecDepth 100000 in
theorem w_X3_crashesInTick_0 {p : Program} {l : Launch} {e : Env} {s : State} {m : MethodId} {args : Array Value} {below : List Frame} {meth : Method} {c : Code} {Γ : GG} {res : Int32 × Sg} (M : MX RX3 cX3_crashesInTick 3 (some .boolean) p s m args meth c) (K : KK Γ s s.heap) {q : Nat} (hq : isT q) (a0 : Int32) (a1 : Int32)  (σ : Sg) (H : Heap) (locs : List Loc) (ls : Array Slot)  (hB : Bd Γ σ s H locs) (hl : lv_has ls 3 [(0, .ref (Γ.1 q)), (1, .int a0), (2, .int a1)]) (hr : f_X3_crashesInTick_0 q a0 a1   σ = some res) : WI Γ rm_X3_crashesInTick p l e s m args below meth c H locs res (F0 m 0 ls []) := by
  unfold f_X3_crashesInTick_0 at hr
  refine lv_aload_n M.1 M.2.1 dX3_crashesInTick_0 rfl (lv_at hl 0 rfl) ?_
  refine x_get3 M K hB (hq.k) 4 (by decide) wd_4 (v := .int (σ q 4)) rfl dX3_crashesInTick_1 ?_
  refine lv_if_eq (tgt := 40) M.1 M.2.1 dX3_crashesInTick_4 (by decide) (fun c_1 => ?_) (fun c_1 => ?_)
  · rw [if_pos c_1] at hr
    exact w_X3_crashesInTick_40 M K hq a0 a1  a0 a1 _ _ _ _  hB (lv_sub hl [0, 1, 2] rfl) hr
  · rw [if_neg c_1] at hr
    refine lv_aload_n M.1 M.2.1 dX3_crashesInTick_7 rfl (lv_at hl 0 rfl) ?_
    refine x_get3 M K hB (hq.k) 5 (by decide) wd_12 (v := .int (σ q 5)) rfl dX3_crashesInTick_8 ?_
    refine lv_if_ne (tgt := 40) M.1 M.2.1 dX3_crashesInTick_11 (by decide) (fun c_2 => ?_) (fun c_2 => ?_)
    · rw [if_neg c_2] at hr
      exact w_X3_crashesInTick_40 M K hq a0 a1  a0 a1 _ _ _ _  hB (lv_sub hl [0, 1, 2] rfl) hr
    · rw [if_pos c_2] at hr
      refine lv_aload_n M.1 M.2.1 dX3_crashesInTick_14 rfl (lv_at hl 0 rfl) ?_
      refine lv_dup M.1 M.2.1 dX3_crashesInTick_15 rfl ?_
      refine x_get3 M K hB (hq.k) 7 (by decide) wd_13 (v := .int (σ q 7)) rfl dX3_crashesInTick_16 ?_
      refine lv_iconst (v := 1) M.1 M.2.1 dX3_crashesInTick_19 (by decide) ?_
      refine lv_isub M.1 M.2.1 dX3_crashesInTick_20 ?_
      obtain ⟨σ_3, e_4, hr⟩ := wbd hr
      refine x_put3 M K hB (hq.k) 7 (by decide) wd_13 dX3_crashesInTick_21 (fun H locs hB => ?_)
      rw [← e_4] at hB
      refine lv_aload_n M.1 M.2.1 dX3_crashesInTick_24 rfl (lv_at hl 0 rfl) ?_
      refine lv_aload_n M.1 M.2.1 dX3_crashesInTick_25 rfl (lv_at hl 0 rfl) ?_
      refine x_get3 M K hB (hq.k) 7 (by decide) wd_13 (v := .int (σ_3 q 7)) rfl dX3_crashesInTick_26 ?_
      refine lv_if_le (tgt := 36) M.1 M.2.1 dX3_crashesInTick_29 (by decide) (fun c_5 => ?_) (fun c_5 => ?_)
      · rw [if_pos c_5] at hr
        refine lv_iconst (v := 0) M.1 M.2.1 dX3_crashesInTick_36 (by decide) ?_
        exact w_X3_crashesInTick_37 M K hq a0 a1  a0 a1 0 _ _ _ _  hB (lv_sub hl [0, 1, 2] rfl) hr
      · rw [if_neg c_5] at hr
        refine lv_iconst (v := 1) M.1 M.2.1 dX3_crashesInTick_32 (by decide) ?_
        refine lv_goto (tgt := 37) M.1 M.2.1 dX3_crashesInTick_33 (by decide) ?_
        exact w_X3_crashesInTick_37 M K hq a0 a1  a0 a1 1 _ _ _ _  hB (lv_sub hl [0, 1, 2] rfl) hr
theorem c_X3_crashesInTick (l : Launch) (Γ : GG) (q : Nat) (a0 : Int32) (a1 : Int32) (hq : isT q) (σ : Sg) (res : Int32 × Sg) (hr : f_X3_crashesInTick_0 q a0 a1 σ = some res) : Met l yX3_crashesInTick (Cond.code yX3_crashesInTick cX3_crashesInTick 3 (some .boolean) :: gtb) rm_X3_crashesInTick (va_Pc [.ref (Γ.1 q), .int a0, .int a1] (GI Γ σ)) (QI Γ res) 0 0 (AD Γ) :=
  x_metI (by decide) [.ref (Γ.1 q), .int a0, .int a1] (Nat.le_of_ble_eq_true rfl) (fun p e s m args below meth c M K ls hl hB => w_X3_crashesInTick_0 M K hq a0 a1 σ _ _ ls hB hl hr)
abbrev rm_X3_endCycle : Room := { frames := 1, cells := 0, slots := 0, locals := 22 }
def f_X3_endCycle_123 (q : Nat) (a0 : Int32)   (σ : Sg) : Option (Int32 × Sg) :=
wb (st σ q 8 0) fun σ_12 =>
wb (st σ_12 q 10 0) fun σ_14 =>
some (0, σ_14)
set_option maxHeartbeats 4000000 in
set_option maxRecDepth 100000 in
theorem w_X3_endCycle_123 {p : Program} {l : Launch} {e : Env} {s : State} {m : MethodId} {args : Array Value} {below : List Frame} {meth : Method} {c : Code} {Γ : GG} {res : Int32 × Sg} (M : MX RX3 cX3_endCycle 3 none p s m args meth c) (K : KK Γ s s.heap) {q : Nat} (hq : isT q) (a0 : Int32)  (σ : Sg) (H : Heap) (locs : List Loc) (ls : Array Slot)  (hB : Bd Γ σ s H locs) (hl : lv_has ls 3 [(0, .ref (Γ.1 q))]) (hr : f_X3_endCycle_123 q a0   σ = some res) : WV Γ rm_X3_endCycle p l e s m args below meth c H locs res (F0 m 123 ls []) := by
  unfold f_X3_endCycle_123 at hr
  refine lv_aload_n M.1 M.2.1 dX3_endCycle_123 rfl (lv_at hl 0 rfl) ?_
  refine lv_iconst (v := 0) M.1 M.2.1 dX3_endCycle_124 (by decide) ?_
  obtain ⟨σ_12, e_13, hr⟩ := wbd hr
  refine x_put3 M K hB (hq.k) 8 (by decide) wd_5 dX3_endCycle_125 (fun H locs hB => ?_)
  rw [← e_13] at hB
  refine lv_aload_n M.1 M.2.1 dX3_endCycle_128 rfl (lv_at hl 0 rfl) ?_
  refine lv_iconst (v := 0) M.1 M.2.1 dX3_endCycle_129 (by decide) ?_
  obtain ⟨σ_14, e_15, hr⟩ := wbd hr
  refine x_putz3 M K hB (hq.k) 10 (by decide) wd_7 (by decide) dX3_endCycle_130 (fun H locs hB => ?_)
  rw [← e_15] at hB
  exact x_vret M hB (Option.some.inj hr) dX3_endCycle_133
def f_X3_endCycle_115 (q : Nat) (a0 : Int32)  (s0 : Int32) (σ : Sg) : Option (Int32 × Sg) :=
wb (st σ q 14 s0) fun σ_22 =>
wb (st σ_22 q 13 1) fun σ_24 =>
f_X3_endCycle_123 q a0   σ_24
set_option maxHeartbeats 4000000 in
set_option maxRecDepth 100000 in
theorem w_X3_endCycle_115 {p : Program} {l : Launch} {e : Env} {s : State} {m : MethodId} {args : Array Value} {below : List Frame} {meth : Method} {c : Code} {Γ : GG} {res : Int32 × Sg} (M : MX RX3 cX3_endCycle 3 none p s m args meth c) (K : KK Γ s s.heap) {q : Nat} (hq : isT q) (a0 : Int32) (s0 : Int32) (σ : Sg) (H : Heap) (locs : List Loc) (ls : Array Slot)  (hB : Bd Γ σ s H locs) (hl : lv_has ls 3 [(0, .ref (Γ.1 q))]) (hr : f_X3_endCycle_115 q a0  s0 σ = some res) : WV Γ rm_X3_endCycle p l e s m args below meth c H locs res (F0 m 115 ls [.int s0, .ref (Γ.1 q)]) := by
  unfold f_X3_endCycle_115 at hr
  obtain ⟨σ_22, e_23, hr⟩ := wbd hr
  refine x_put3 M K hB (hq.k) 14 (by decide) wd_21 dX3_endCycle_115 (fun H locs hB => ?_)
  rw [← e_23] at hB
  refine lv_aload_n M.1 M.2.1 dX3_endCycle_118 rfl (lv_at hl 0 rfl) ?_
  refine lv_iconst (v := 1) M.1 M.2.1 dX3_endCycle_119 (by decide) ?_
  obtain ⟨σ_24, e_25, hr⟩ := wbd hr
  refine x_putz3 M K hB (hq.k) 13 (by decide) wd_10 (by decide) dX3_endCycle_120 (fun H locs hB => ?_)
  rw [← e_25] at hB
  exact w_X3_endCycle_123 M K hq a0   _ _ _ _  hB (lv_sub hl [0] rfl) hr
def f_X3_endCycle_86 (q : Nat) (a0 : Int32)  (x1 : Int32) (s0 : Int32) (σ : Sg) : Option (Int32 × Sg) :=
if s0 = 0 ∨ s0 = 1 then
wb (st σ q 11 s0) fun σ_17 =>
wb (st σ_17 q 12 ((σ_17 q 12) + 1)) fun σ_19 =>
if σ_19 q 13 = 0 then
f_X3_endCycle_115 q a0  x1 σ_19
else
f_X3_endCycle_115 q a0  (σ_19 q 14) σ_19 else none
set_option maxHeartbeats 4000000 in
set_option maxRecDepth 100000 in
theorem w_X3_endCycle_86 {p : Program} {l : Launch} {e : Env} {s : State} {m : MethodId} {args : Array Value} {below : List Frame} {meth : Method} {c : Code} {Γ : GG} {res : Int32 × Sg} (M : MX RX3 cX3_endCycle 3 none p s m args meth c) (K : KK Γ s s.heap) {q : Nat} (hq : isT q) (a0 : Int32) (x1 : Int32) (s0 : Int32) (σ : Sg) (H : Heap) (locs : List Loc) (ls : Array Slot)  (hB : Bd Γ σ s H locs) (hl : lv_has ls 3 [(0, .ref (Γ.1 q)), (1, .int x1)]) (hr : f_X3_endCycle_86 q a0  x1 s0 σ = some res) : WV Γ rm_X3_endCycle p l e s m args below meth c H locs res (F0 m 86 ls [.int s0, .ref (Γ.1 q)]) := by
  unfold f_X3_endCycle_86 at hr
  obtain ⟨g_16, hr⟩ := gd2 hr
  obtain ⟨σ_17, e_18, hr⟩ := wbd hr
  refine x_putz3 M K hB (hq.k) 11 (by decide) wd_8 g_16 dX3_endCycle_86 (fun H locs hB => ?_)
  rw [← e_18] at hB
  refine lv_aload_n M.1 M.2.1 dX3_endCycle_89 rfl (lv_at hl 0 rfl) ?_
  refine lv_dup M.1 M.2.1 dX3_endCycle_90 rfl ?_
  refine x_get3 M K hB (hq.k) 12 (by decide) wd_9 (v := .int (σ_17 q 12)) rfl dX3_endCycle_91 ?_
  refine lv_iconst (v := 1) M.1 M.2.1 dX3_endCycle_94 (by decide) ?_
  refine lv_iadd M.1 M.2.1 dX3_endCycle_95 ?_
  obtain ⟨σ_19, e_20, hr⟩ := wbd hr
  refine x_put3 M K hB (hq.k) 12 (by decide) wd_9 dX3_endCycle_96 (fun H locs hB => ?_)
  rw [← e_20] at hB
  refine lv_aload_n M.1 M.2.1 dX3_endCycle_99 rfl (lv_at hl 0 rfl) ?_
  refine lv_aload_n M.1 M.2.1 dX3_endCycle_100 rfl (lv_at hl 0 rfl) ?_
  refine x_get3 M K hB (hq.k) 13 (by decide) wd_10 (v := .int (σ_19 q 13)) rfl dX3_endCycle_101 ?_
  refine lv_if_eq (tgt := 114) M.1 M.2.1 dX3_endCycle_104 (by decide) (fun c_21 => ?_) (fun c_21 => ?_)
  · rw [if_pos c_21] at hr
    refine lv_iload_n M.1 M.2.1 dX3_endCycle_114 rfl (lv_at hl 1 rfl) ?_
    exact w_X3_endCycle_115 M K hq a0  x1 _ _ _ _  hB (lv_sub hl [0] rfl) hr
  · rw [if_neg c_21] at hr
    refine lv_aload_n M.1 M.2.1 dX3_endCycle_107 rfl (lv_at hl 0 rfl) ?_
    refine x_get3 M K hB (hq.k) 14 (by decide) wd_21 (v := .int (σ_19 q 14)) rfl dX3_endCycle_108 ?_
    refine lv_goto (tgt := 115) M.1 M.2.1 dX3_endCycle_111 (by decide) ?_
    exact w_X3_endCycle_115 M K hq a0  (σ_19 q 14) _ _ _ _  hB (lv_sub hl [0] rfl) hr
def f_X3_endCycle_34 (q : Nat) (a0 : Int32)  (x1 : Int32) (s0 : Int32) (σ : Sg) : Option (Int32 × Sg) :=
if s0 = 0 then
wb (st σ q 9 ((σ q 9) + 1)) fun σ_7 =>
if σ_7 q 9 ≤ σ_7 (q + 1) 6 then
f_X3_endCycle_86 q a0  x1 0 σ_7
else
f_X3_endCycle_86 q a0  x1 1 σ_7
else
wb (st σ q 9 (if 0 < (σ q 9) - 1 then (σ q 9) - 1 else 0)) fun σ_10 =>
f_X3_endCycle_123 q a0   σ_10
set_option maxHeartbeats 4000000 in
set_option maxRecDepth 100000 in
theorem w_X3_endCycle_34 {p : Program} {l : Launch} {e : Env} {s : State} {m : MethodId} {args : Array Value} {below : List Frame} {meth : Method} {c : Code} {Γ : GG} {res : Int32 × Sg} (M : MX RX3 cX3_endCycle 3 none p s m args meth c) (K : KK Γ s s.heap) {q : Nat} (hq : isT q) (a0 : Int32) (x1 : Int32) (s0 : Int32) (σ : Sg) (H : Heap) (locs : List Loc) (ls : Array Slot)  (hB : Bd Γ σ s H locs) (hl : lv_has ls 3 [(0, .ref (Γ.1 q)), (1, .int x1)]) (hr : f_X3_endCycle_34 q a0  x1 s0 σ = some res) : WV Γ rm_X3_endCycle p l e s m args below meth c H locs res (F0 m 34 ls [.int s0]) := by
  unfold f_X3_endCycle_34 at hr
  refine lv_istore_n (lv' := [(2, .int s0), (0, .ref (Γ.1 q)), (1, .int x1)]) M.1 M.2.1 dX3_endCycle_34 rfl hl (by decide) rfl (fun ls hl => ?_)
  refine lv_iload_n M.1 M.2.1 dX3_endCycle_35 rfl (lv_at hl 0 rfl) ?_
  refine lv_if_eq (tgt := 56) M.1 M.2.1 dX3_endCycle_36 (by decide) (fun c_6 => ?_) (fun c_6 => ?_)
  · rw [if_pos c_6] at hr
    refine lv_aload_n M.1 M.2.1 dX3_endCycle_56 rfl (lv_at hl 1 rfl) ?_
    refine lv_dup M.1 M.2.1 dX3_endCycle_57 rfl ?_
    refine x_get3 M K hB (hq.k) 9 (by decide) wd_6 (v := .int (σ q 9)) rfl dX3_endCycle_58 ?_
    refine lv_iconst (v := 1) M.1 M.2.1 dX3_endCycle_61 (by decide) ?_
    refine lv_iadd M.1 M.2.1 dX3_endCycle_62 ?_
    obtain ⟨σ_7, e_8, hr⟩ := wbd hr
    refine x_put3 M K hB (hq.k) 9 (by decide) wd_6 dX3_endCycle_63 (fun H locs hB => ?_)
    rw [← e_8] at hB
    refine lv_aload_n M.1 M.2.1 dX3_endCycle_66 rfl (lv_at hl 1 rfl) ?_
    refine lv_aload_n M.1 M.2.1 dX3_endCycle_67 rfl (lv_at hl 1 rfl) ?_
    refine x_get3 M K hB (hq.k) 9 (by decide) wd_6 (v := .int (σ_7 q 9)) rfl dX3_endCycle_68 ?_
    refine lv_aload_n M.1 M.2.1 dX3_endCycle_71 rfl (lv_at hl 1 rfl) ?_
    refine x_get3 M K hB (hq.k) 0 (by decide) wd_15 (v := .ref (Γ.1 (q + 1))) rfl dX3_endCycle_72 ?_
    refine lv_bipush (v := 6) M.1 M.2.1 dX3_endCycle_75 (by decide) ?_
    refine x_ialdL M K hB (hq.a1) (k := 6) (by decide) (by decide) dX3_endCycle_77 ?_
    refine lv_icmp_le (tgt := 85) M.1 M.2.1 dX3_endCycle_78 (by decide) (fun c_9 => ?_) (fun c_9 => ?_)
    · rw [if_pos c_9] at hr
      refine lv_iconst (v := 0) M.1 M.2.1 dX3_endCycle_85 (by decide) ?_
      exact w_X3_endCycle_86 M K hq a0  x1 0 _ _ _ _  hB (lv_sub hl [1, 2] rfl) hr
    · rw [if_neg c_9] at hr
      refine lv_iconst (v := 1) M.1 M.2.1 dX3_endCycle_81 (by decide) ?_
      refine lv_goto (tgt := 86) M.1 M.2.1 dX3_endCycle_82 (by decide) ?_
      exact w_X3_endCycle_86 M K hq a0  x1 1 _ _ _ _  hB (lv_sub hl [1, 2] rfl) hr
  · rw [if_neg c_6] at hr
    refine lv_aload_n M.1 M.2.1 dX3_endCycle_39 rfl (lv_at hl 1 rfl) ?_
    refine lv_iconst (v := 0) M.1 M.2.1 dX3_endCycle_40 (by decide) ?_
    refine lv_aload_n M.1 M.2.1 dX3_endCycle_41 rfl (lv_at hl 1 rfl) ?_
    refine x_get3 M K hB (hq.k) 9 (by decide) wd_6 (v := .int (σ q 9)) rfl dX3_endCycle_42 ?_
    refine lv_iconst (v := 1) M.1 M.2.1 dX3_endCycle_45 (by decide) ?_
    refine lv_isub M.1 M.2.1 dX3_endCycle_46 ?_
    refine x_max M hl.1 wd_17 wd_18 wd_19 wd_20 (Nat.le_of_ble_eq_true rfl) (Nat.le_of_ble_eq_true rfl) (Nat.zero_le _) (Nat.zero_le _) dX3_endCycle_47 ?_
    obtain ⟨σ_10, e_11, hr⟩ := wbd hr
    refine x_put3 M K hB (hq.k) 9 (by decide) wd_6 dX3_endCycle_50 (fun H locs hB => ?_)
    rw [← e_11] at hB
    refine lv_goto (tgt := 123) M.1 M.2.1 dX3_endCycle_53 (by decide) ?_
    exact w_X3_endCycle_123 M K hq a0   _ _ _ _  hB (lv_sub hl [1] rfl) hr
def f_X3_endCycle_33 (q : Nat) (a0 : Int32)  (x1 : Int32) (σ : Sg) : Option (Int32 × Sg) :=
f_X3_endCycle_34 q a0  x1 0 σ
set_option maxHeartbeats 4000000 in
set_option maxRecDepth 100000 in
theorem w_X3_endCycle_33 {p : Program} {l : Launch} {e : Env} {s : State} {m : MethodId} {args : Array Value} {below : List Frame} {meth : Method} {c : Code} {Γ : GG} {res : Int32 × Sg} (M : MX RX3 cX3_endCycle 3 none p s m args meth c) (K : KK Γ s s.heap) {q : Nat} (hq : isT q) (a0 : Int32) (x1 : Int32) (σ : Sg) (H : Heap) (locs : List Loc) (ls : Array Slot)  (hB : Bd Γ σ s H locs) (hl : lv_has ls 3 [(0, .ref (Γ.1 q)), (1, .int x1)]) (hr : f_X3_endCycle_33 q a0  x1 σ = some res) : WV Γ rm_X3_endCycle p l e s m args below meth c H locs res (F0 m 33 ls []) := by
  unfold f_X3_endCycle_33 at hr
  refine lv_iconst (v := 0) M.1 M.2.1 dX3_endCycle_33 (by decide) ?_
  exact w_X3_endCycle_34 M K hq a0  x1 0 _ _ _ _  hB (lv_sub hl [0, 1] rfl) hr
def f_X3_endCycle_0 (q : Nat) (a0 : Int32)   (σ : Sg) : Option (Int32 × Sg) :=
cb (f_X4_isWithin_0 (σ q 8) (σ (q + 1) 4) (σ (q + 1) 5) σ) fun v_1 σ_2 =>
if v_1 = 0 then
f_X3_endCycle_33 q a0  a0 σ_2
else
if σ_2 q 10 = 0 then
f_X3_endCycle_34 q a0  a0 1 σ_2
else
f_X3_endCycle_33 q a0  a0 σ_2
set_option maxHeartbeats 4000000 in
set_option maxRecDepth 100000 in
theorem w_X3_endCycle_0 {p : Program} {l : Launch} {e : Env} {s : State} {m : MethodId} {args : Array Value} {below : List Frame} {meth : Method} {c : Code} {Γ : GG} {res : Int32 × Sg} (M : MX RX3 cX3_endCycle 3 none p s m args meth c) (K : KK Γ s s.heap) {q : Nat} (hq : isT q) (a0 : Int32)  (σ : Sg) (H : Heap) (locs : List Loc) (ls : Array Slot)  (hB : Bd Γ σ s H locs) (hl : lv_has ls 3 [(0, .ref (Γ.1 q)), (1, .int a0)]) (hr : f_X3_endCycle_0 q a0   σ = some res) : WV Γ rm_X3_endCycle p l e s m args below meth c H locs res (F0 m 0 ls []) := by
  unfold f_X3_endCycle_0 at hr
  refine lv_aload_n M.1 M.2.1 dX3_endCycle_0 rfl (lv_at hl 0 rfl) ?_
  refine x_get3 M K hB (hq.k) 8 (by decide) wd_5 (v := .int (σ q 8)) rfl dX3_endCycle_1 ?_
  refine lv_aload_n M.1 M.2.1 dX3_endCycle_4 rfl (lv_at hl 0 rfl) ?_
  refine x_get3 M K hB (hq.k) 0 (by decide) wd_15 (v := .ref (Γ.1 (q + 1))) rfl dX3_endCycle_5 ?_
  refine lv_iconst (v := 4) M.1 M.2.1 dX3_endCycle_8 (by decide) ?_
  refine x_ialdL M K hB (hq.a1) (k := 4) (by decide) (by decide) dX3_endCycle_9 ?_
  refine lv_aload_n M.1 M.2.1 dX3_endCycle_10 rfl (lv_at hl 0 rfl) ?_
  refine x_get3 M K hB (hq.k) 0 (by decide) wd_15 (v := .ref (Γ.1 (q + 1))) rfl dX3_endCycle_11 ?_
  refine lv_iconst (v := 5) M.1 M.2.1 dX3_endCycle_14 (by decide) ?_
  refine x_ialdL M K hB (hq.a1) (k := 5) (by decide) (by decide) dX3_endCycle_15 ?_
  obtain ⟨v_1, σ_2, h_3, hr⟩ := cbd hr
  refine x_callI (x_runSN M K hB hl.1 [.int (σ q 8), .int (σ (q + 1) 4), .int (σ (q + 1) 5)] (rest := []) rfl (c_X4_isWithin l Γ (σ q 8) (σ (q + 1) 4) (σ (q + 1) 5)  σ (v_1, σ_2) h_3) cy_X4_isWithin nw_1 ⟨rfl, rfl, Nat.le_of_ble_eq_true rfl, Nat.le_of_ble_eq_true rfl⟩ (Nat.le_of_ble_eq_true rfl) ⟨Nat.zero_le _, Nat.zero_le _⟩ dX3_endCycle_16) hB (fun H locs hB => ?_)
  replace hB : Bd Γ σ_2 s H locs := hB
  refine lv_if_eq (tgt := 33) M.1 M.2.1 dX3_endCycle_19 (by decide) (fun c_4 => ?_) (fun c_4 => ?_)
  · rw [if_pos c_4] at hr
    exact w_X3_endCycle_33 M K hq a0  a0 _ _ _ _  hB (lv_sub hl [0, 1] rfl) hr
  · rw [if_neg c_4] at hr
    refine lv_aload_n M.1 M.2.1 dX3_endCycle_22 rfl (lv_at hl 0 rfl) ?_
    refine x_get3 M K hB (hq.k) 10 (by decide) wd_7 (v := .int (σ_2 q 10)) rfl dX3_endCycle_23 ?_
    refine lv_if_ne (tgt := 33) M.1 M.2.1 dX3_endCycle_26 (by decide) (fun c_5 => ?_) (fun c_5 => ?_)
    · rw [if_neg c_5] at hr
      exact w_X3_endCycle_33 M K hq a0  a0 _ _ _ _  hB (lv_sub hl [0, 1] rfl) hr
    · rw [if_pos c_5] at hr
      refine lv_iconst (v := 1) M.1 M.2.1 dX3_endCycle_29 (by decide) ?_
      refine lv_goto (tgt := 34) M.1 M.2.1 dX3_endCycle_30 (by decide) ?_
      exact w_X3_endCycle_34 M K hq a0  a0 1 _ _ _ _  hB (lv_sub hl [0, 1] rfl) hr
theorem c_X3_endCycle (l : Launch) (Γ : GG) (q : Nat) (a0 : Int32) (hq : isT q) (σ : Sg) (res : Int32 × Sg) (hr : f_X3_endCycle_0 q a0 σ = some res) : Met l yX3_endCycle (Cond.code yX3_endCycle cX3_endCycle 3 none :: gtb) rm_X3_endCycle (va_Pc [.ref (Γ.1 q), .int a0] (GI Γ σ)) (QV Γ res) 0 0 (AD Γ) :=
  x_metV (by decide) [.ref (Γ.1 q), .int a0] (Nat.le_of_ble_eq_true rfl) (fun p e s m args below meth c M K ls hl hB => w_X3_endCycle_0 M K hq a0 σ _ _ ls hB hl hr)
abbrev rm_X3_becomeNew : Room := { frames := 1, cells := 0, slots := 0, locals := 26 }
def f_X3_becomeNew_30 (q : Nat) (a0 : Int32) (a1 : Int32)  : Nat → Int32 → Sg → Option (Int32 × Sg)
  | 0, _, _ => none
  | f + 1, x3, σ => if 2 ≤ x3 then
cb (f_X3_beginRun_0 q σ) fun v_8 σ_9 =>
cb (f_X3_clearDiagnostic_0 q σ_9) fun v_11 σ_12 =>
some (0, σ_12)
else
cb (f_X3_takeFault_0 q x3 0 0 0 σ) fun v_14 σ_15 =>
f_X3_becomeNew_30 q a0 a1  f (x3 + 1) σ_15
set_option maxHeartbeats 4000000 in
set_option maxRecDepth 100000 in
theorem w_X3_becomeNew_30 {p : Program} {l : Launch} {e : Env} {s : State} {m : MethodId} {args : Array Value} {below : List Frame} {meth : Method} {c : Code} {Γ : GG} {res : Int32 × Sg} (M : MX RX3 cX3_becomeNew 4 none p s m args meth c) (K : KK Γ s s.heap) {q : Nat} (hq : isT q) (a0 : Int32) (a1 : Int32) : ∀ (f : Nat) (x3 : Int32) (σ : Sg) (H : Heap) (locs : List Loc) (ls : Array Slot)  (hB : Bd Γ σ s H locs) (hl : lv_has ls 4 [(0, .ref (Γ.1 q)), (3, .int x3)]) (hr : f_X3_becomeNew_30 q a0 a1  f x3 σ = some res), WV Γ rm_X3_becomeNew p l e s m args below meth c H locs res (F0 m 30 ls []) := by
  intro f
  induction f with
  | zero => intros; rename_i hr; exact absurd hr (by rw [f_X3_becomeNew_30]; exact fun h => by cases h)
  | succ f ih_30 =>
    intro x3 σ H locs ls  hB hl hr
    rw [f_X3_becomeNew_30] at hr
    refine lv_iload_n M.1 M.2.1 dX3_becomeNew_30 rfl (lv_at hl 1 rfl) ?_
    refine lv_iconst (v := 2) M.1 M.2.1 dX3_becomeNew_31 (by decide) ?_
    refine lv_icmp_ge (tgt := 49) M.1 M.2.1 dX3_becomeNew_32 (by decide) (fun c_7 => ?_) (fun c_7 => ?_)
    · rw [if_pos c_7] at hr
      refine lv_aload_n M.1 M.2.1 dX3_becomeNew_49 rfl (lv_at hl 0 rfl) ?_
      obtain ⟨v_8, σ_9, h_10, hr⟩ := cbd hr
      refine x_callV (x_runV M K hB hl.1 [] (rest := []) rfl (c_X3_beginRun l Γ q hq σ (v_8, σ_9) h_10) cy_X3_beginRun (x_recv K hB (hq.k).2 (ent_3 (hq.k).1) rfl) wd_26 ⟨rfl, rfl, Nat.le_of_ble_eq_true rfl, Nat.le_of_ble_eq_true rfl⟩ (Nat.le_of_ble_eq_true rfl) ⟨Nat.zero_le _, Nat.zero_le _⟩ dX3_becomeNew_50) hB (fun H locs hB => ?_)
      replace hB : Bd Γ σ_9 s H locs := hB
      refine lv_aload_n M.1 M.2.1 dX3_becomeNew_53 rfl (lv_at hl 0 rfl) ?_
      obtain ⟨v_11, σ_12, h_13, hr⟩ := cbd hr
      refine x_callV (x_runV M K hB hl.1 [] (rest := []) rfl (c_X3_clearDiagnostic l Γ q hq σ_9 (v_11, σ_12) h_13) cy_X3_clearDiagnostic (x_recv K hB (hq.k).2 (ent_3 (hq.k).1) rfl) wd_27 ⟨rfl, rfl, Nat.le_of_ble_eq_true rfl, Nat.le_of_ble_eq_true rfl⟩ (Nat.le_of_ble_eq_true rfl) ⟨Nat.zero_le _, Nat.zero_le _⟩ dX3_becomeNew_54) hB (fun H locs hB => ?_)
      replace hB : Bd Γ σ_12 s H locs := hB
      exact x_vret M hB (Option.some.inj hr) dX3_becomeNew_57
    · rw [if_neg c_7] at hr
      refine lv_aload_n M.1 M.2.1 dX3_becomeNew_35 rfl (lv_at hl 0 rfl) ?_
      refine lv_iload_n M.1 M.2.1 dX3_becomeNew_36 rfl (lv_at hl 1 rfl) ?_
      refine lv_iconst (v := 0) M.1 M.2.1 dX3_becomeNew_37 (by decide) ?_
      refine lv_iconst (v := 0) M.1 M.2.1 dX3_becomeNew_38 (by decide) ?_
      refine lv_iconst (v := 0) M.1 M.2.1 dX3_becomeNew_39 (by decide) ?_
      obtain ⟨v_14, σ_15, h_16, hr⟩ := cbd hr
      refine x_callV (x_runV M K hB hl.1 [.int x3, .int 0, .int 0, .int 0] (rest := []) rfl (c_X3_takeFault l Γ q x3 0 0 0 hq σ (v_14, σ_15) h_16) cy_X3_takeFault (x_recv K hB (hq.k).2 (ent_3 (hq.k).1) rfl) wd_28 ⟨rfl, rfl, Nat.le_of_ble_eq_true rfl, Nat.le_of_ble_eq_true rfl⟩ (Nat.le_of_ble_eq_true rfl) ⟨Nat.zero_le _, Nat.zero_le _⟩ dX3_becomeNew_40) hB (fun H locs hB => ?_)
      replace hB : Bd Γ σ_15 s H locs := hB
      refine lv_iinc (v := x3 + 1) (lv' := [(3, .int (x3 + 1)), (0, .ref (Γ.1 q))]) M.1 M.2.1 dX3_becomeNew_43 hl (k := 1) rfl rfl (by decide) rfl (fun ls hl => ?_)
      refine lv_goto (tgt := 30) M.1 M.2.1 dX3_becomeNew_46 (by decide) ?_
      exact ih_30 (x3 + 1) _ _ _ _  hB (lv_sub hl [1, 0] rfl) hr
def f_X3_becomeNew_0 (q : Nat) (a0 : Int32) (a1 : Int32)   (σ : Sg) : Option (Int32 × Sg) :=
wb (sr σ (q + 1) (va_cpy (tb 5) (σ (q + 1)) 0 0 8)) fun σ_1 =>
wb (st σ_1 (q + 1) 0 a0) fun σ_3 =>
wb (st σ_3 (q + 1) 1 a1) fun σ_5 =>
f_X3_becomeNew_30 q a0 a1  FU 0 σ_5
set_option maxHeartbeats 4000000 in
set_option maxRecDepth 100000 in
theorem w_X3_becomeNew_0 {p : Program} {l : Launch} {e : Env} {s : State} {m : MethodId} {args : Array Value} {below : List Frame} {meth : Method} {c : Code} {Γ : GG} {res : Int32 × Sg} (M : MX RX3 cX3_becomeNew 4 none p s m args meth c) (K : KK Γ s s.heap) {q : Nat} (hq : isT q) (a0 : Int32) (a1 : Int32)  (σ : Sg) (H : Heap) (locs : List Loc) (ls : Array Slot)  (hB : Bd Γ σ s H locs) (hl : lv_has ls 4 [(0, .ref (Γ.1 q)), (1, .int a0), (2, .int a1)]) (hr : f_X3_becomeNew_0 q a0 a1   σ = some res) : WV Γ rm_X3_becomeNew p l e s m args below meth c H locs res (F0 m 0 ls []) := by
  unfold f_X3_becomeNew_0 at hr
  refine x_getsN M K hB 5 (by decide) nw_2 dX3_becomeNew_0 ?_
  refine lv_iconst (v := 0) M.1 M.2.1 dX3_becomeNew_3 (by decide) ?_
  refine lv_aload_n M.1 M.2.1 dX3_becomeNew_4 rfl (lv_at hl 0 rfl) ?_
  refine x_get3 M K hB (hq.k) 0 (by decide) wd_15 (v := .ref (Γ.1 (q + 1))) rfl dX3_becomeNew_5 ?_
  refine lv_iconst (v := 0) M.1 M.2.1 dX3_becomeNew_8 (by decide) ?_
  refine lv_bipush (v := 8) M.1 M.2.1 dX3_becomeNew_9 (by decide) ?_
  obtain ⟨σ_1, e_2, hr⟩ := wbd hr
  refine x_copyT M K hB hl.1 (by decide : 5 < 6) (hq.a1) wd_22 wd_23 wd_24 wd_25 (by decide) (by decide) (by decide) (by decide) (by decide) (Nat.le_of_ble_eq_true rfl) (Nat.le_of_ble_eq_true rfl) dX3_becomeNew_11 (fun H locs hB => ?_)
  replace hB : Bd Γ (sr σ (q + 1) (va_cpy (tb 5) (σ (q + 1)) 0 0 8)) s H locs := hB
  rw [← e_2] at hB
  refine lv_aload_n M.1 M.2.1 dX3_becomeNew_14 rfl (lv_at hl 0 rfl) ?_
  refine x_get3 M K hB (hq.k) 0 (by decide) wd_15 (v := .ref (Γ.1 (q + 1))) rfl dX3_becomeNew_15 ?_
  refine lv_iconst (v := 0) M.1 M.2.1 dX3_becomeNew_18 (by decide) ?_
  refine lv_iload_n M.1 M.2.1 dX3_becomeNew_19 rfl (lv_at hl 1 rfl) ?_
  obtain ⟨σ_3, e_4, hr⟩ := wbd hr
  refine x_iastL M K hB (hq.a1) (k := 0) (by decide) (by decide) dX3_becomeNew_20 (fun H locs hB => ?_)
  rw [← e_4] at hB
  refine lv_aload_n M.1 M.2.1 dX3_becomeNew_21 rfl (lv_at hl 0 rfl) ?_
  refine x_get3 M K hB (hq.k) 0 (by decide) wd_15 (v := .ref (Γ.1 (q + 1))) rfl dX3_becomeNew_22 ?_
  refine lv_iconst (v := 1) M.1 M.2.1 dX3_becomeNew_25 (by decide) ?_
  refine lv_iload_n M.1 M.2.1 dX3_becomeNew_26 rfl (lv_at hl 2 rfl) ?_
  obtain ⟨σ_5, e_6, hr⟩ := wbd hr
  refine x_iastL M K hB (hq.a1) (k := 1) (by decide) (by decide) dX3_becomeNew_27 (fun H locs hB => ?_)
  rw [← e_6] at hB
  refine lv_iconst (v := 0) M.1 M.2.1 dX3_becomeNew_28 (by decide) ?_
  refine lv_istore_n (lv' := [(3, .int 0), (0, .ref (Γ.1 q)), (1, .int a0), (2, .int a1)]) M.1 M.2.1 dX3_becomeNew_29 rfl hl (by decide) rfl (fun ls hl => ?_)
  exact w_X3_becomeNew_30 M K hq a0 a1  FU 0 _ _ _ _  hB (lv_sub hl [1, 0] rfl) hr
theorem c_X3_becomeNew (l : Launch) (Γ : GG) (q : Nat) (a0 : Int32) (a1 : Int32) (hq : isT q) (σ : Sg) (res : Int32 × Sg) (hr : f_X3_becomeNew_0 q a0 a1 σ = some res) : Met l yX3_becomeNew (Cond.code yX3_becomeNew cX3_becomeNew 4 none :: gtb) rm_X3_becomeNew (va_Pc [.ref (Γ.1 q), .int a0, .int a1] (GI Γ σ)) (QV Γ res) 0 0 (AD Γ) :=
  x_metV (by decide) [.ref (Γ.1 q), .int a0, .int a1] (Nat.le_of_ble_eq_true rfl) (fun p e s m args below meth c M K ls hl hB => w_X3_becomeNew_0 M K hq a0 a1 σ _ _ ls hB hl hr)
end
