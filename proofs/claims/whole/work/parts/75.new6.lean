/-! the law's cases -/
def R_law : String := "WatchdogBoardLaw"
theorem lw_in {i k L : Nat} (hk : k < 6) (hi : i + 6 ≤ L) (hL : L ≤ 3072) : vp_in (nI i + nI k) L := by rw [nI_add]; exact vp_in_nI (by omega) (by omega)
theorem ld_0 : Cond.methodLink R_law 13 yX4_rule ∈ gtb := gtb_of (List.mem_append_right _ (List.mem_of_getElem? (i := 234) (by decide +kernel))) (by decide +kernel)
theorem ld_1 : Cond.methodLink R_law 17 yX5_rule ∈ gtb := gtb_of (List.mem_append_right _ (List.mem_of_getElem? (i := 636) (by decide +kernel))) (by decide +kernel)
theorem ld_2 : Cond.methodLink R_law 18 yX4_addTask ∈ gtb := gtb_of (List.mem_append_right _ (List.mem_of_getElem? (i := 248) (by decide +kernel))) (by decide +kernel)
theorem ld_3 : Cond.methodLink R_law 21 yX5_addTask ∈ gtb := gtb_of (List.mem_append_right _ (List.mem_of_getElem? (i := 646) (by decide +kernel))) (by decide +kernel)
theorem ld_4 : Cond.methodLink R_law 22 yX4_set ∈ gtb := gtb_of (List.mem_append_right _ (List.mem_of_getElem? (i := 275) (by decide +kernel))) (by decide +kernel)
theorem ld_5 : Cond.methodLink R_law 26 yX5_set ∈ gtb := gtb_of (List.mem_append_right _ (List.mem_of_getElem? (i := 657) (by decide +kernel))) (by decide +kernel)
theorem ld_6 : Cond.methodLink R_law 27 yX4_putFault ∈ gtb := gtb_of (List.mem_append_right _ (List.mem_of_getElem? (i := 283) (by decide +kernel))) (by decide +kernel)
theorem ld_7 : Cond.methodLink R_law 31 yX5_putFault ∈ gtb := gtb_of (List.mem_append_right _ (List.mem_of_getElem? (i := 672) (by decide +kernel))) (by decide +kernel)
theorem ld_8 : Cond.constantLong R_law 32 4294967295 ∈ gtb := gtb_of (List.mem_append_right _ (List.mem_of_getElem? (i := 851) (by decide +kernel))) (by decide +kernel)
theorem ld_9 : Cond.methodLink R_law 34 yX4_put ∈ gtb := gtb_of (List.mem_append_right _ (List.mem_of_getElem? (i := 288) (by decide +kernel))) (by decide +kernel)
theorem ld_10 : Cond.methodLink R_law 38 yX5_put ∈ gtb := gtb_of (List.mem_append_right _ (List.mem_of_getElem? (i := 680) (by decide +kernel))) (by decide +kernel)
theorem ld_11 : Cond.methodLink R_law 39 yX4_wipe ∈ gtb := gtb_of (List.mem_append_right _ (List.mem_of_getElem? (i := 301) (by decide +kernel))) (by decide +kernel)
theorem ld_12 : Cond.methodLink R_law 43 yX5_wipe ∈ gtb := gtb_of (List.mem_append_right _ (List.mem_of_getElem? (i := 685) (by decide +kernel))) (by decide +kernel)
theorem ld_13 : Cond.methodLink R_law 44 yX4_position ∈ gtb := gtb_of (List.mem_append_right _ (List.mem_of_getElem? (i := 305) (by decide +kernel))) (by decide +kernel)
theorem ld_14 : Cond.methodLink R_law 47 yX5_position ∈ gtb := gtb_of (List.mem_append_right _ (List.mem_of_getElem? (i := 689) (by decide +kernel))) (by decide +kernel)
theorem ld_15 : Cond.methodLink R_law 48 yX4_load ∈ gtb := gtb_of (List.mem_append_right _ (List.mem_of_getElem? (i := 426) (by decide +kernel))) (by decide +kernel)
theorem ld_16 : Cond.methodLink R_law 51 yX5_load ∈ gtb := gtb_of (List.mem_append_right _ (List.mem_of_getElem? (i := 712) (by decide +kernel))) (by decide +kernel)
theorem ld_17 : Cond.methodLink R_law 52 yX4_run ∈ gtb := gtb_of (List.mem_append_right _ (List.mem_of_getElem? (i := 430) (by decide +kernel))) (by decide +kernel)
theorem ld_18 : Cond.methodLink R_law 56 yX5_run ∈ gtb := gtb_of (List.mem_append_right _ (List.mem_of_getElem? (i := 717) (by decide +kernel))) (by decide +kernel)
theorem ld_19 : Cond.methodLink R_law 57 yX4_runToReset ∈ gtb := gtb_of (List.mem_append_right _ (List.mem_of_getElem? (i := 490) (by decide +kernel))) (by decide +kernel)
theorem ld_20 : Cond.methodLink R_law 60 yX5_runToReset ∈ gtb := gtb_of (List.mem_append_right _ (List.mem_of_getElem? (i := 770) (by decide +kernel))) (by decide +kernel)
theorem ld_21 : Cond.methodLink R_law 61 yX4_kick ∈ gtb := gtb_of (List.mem_append_right _ (List.mem_of_getElem? (i := 499) (by decide +kernel))) (by decide +kernel)
theorem ld_22 : Cond.methodLink R_law 64 yX5_kick ∈ gtb := gtb_of (List.mem_append_right _ (List.mem_of_getElem? (i := 778) (by decide +kernel))) (by decide +kernel)
theorem ld_23 : Cond.methodLink R_law 65 yX4_reset ∈ gtb := gtb_of (List.mem_append_right _ (List.mem_of_getElem? (i := 505) (by decide +kernel))) (by decide +kernel)
theorem ld_24 : Cond.methodLink R_law 68 yX5_reset ∈ gtb := gtb_of (List.mem_append_right _ (List.mem_of_getElem? (i := 782) (by decide +kernel))) (by decide +kernel)
theorem ld_25 : Cond.methodLink R_law 69 yX4_powerCycle ∈ gtb := gtb_of (List.mem_append_right _ (List.mem_of_getElem? (i := 509) (by decide +kernel))) (by decide +kernel)
theorem ld_26 : Cond.methodLink R_law 72 yX5_powerCycle ∈ gtb := gtb_of (List.mem_append_right _ (List.mem_of_getElem? (i := 786) (by decide +kernel))) (by decide +kernel)
theorem ld_27 : Cond.methodLink R_law 73 yX4_state ∈ gtb := gtb_of (List.mem_append_right _ (List.mem_of_getElem? (i := 517) (by decide +kernel))) (by decide +kernel)
theorem ld_28 : Cond.methodLink R_law 76 yX5_state ∈ gtb := gtb_of (List.mem_append_right _ (List.mem_of_getElem? (i := 794) (by decide +kernel))) (by decide +kernel)
theorem ld_29 : Cond.methodLink R_law 77 yX4_task ∈ gtb := gtb_of (List.mem_append_right _ (List.mem_of_getElem? (i := 529) (by decide +kernel))) (by decide +kernel)
theorem ld_30 : Cond.methodLink R_law 80 yX5_task ∈ gtb := gtb_of (List.mem_append_right _ (List.mem_of_getElem? (i := 802) (by decide +kernel))) (by decide +kernel)
theorem ld_31 : Cond.methodLink R_law 81 yX4_record ∈ gtb := gtb_of (List.mem_append_right _ (List.mem_of_getElem? (i := 537) (by decide +kernel))) (by decide +kernel)
theorem ld_32 : Cond.methodLink R_law 84 yX5_record ∈ gtb := gtb_of (List.mem_append_right _ (List.mem_of_getElem? (i := 810) (by decide +kernel))) (by decide +kernel)
theorem ld_33 : Cond.methodLink R_law 85 yX4_clear ∈ gtb := gtb_of (List.mem_append_right _ (List.mem_of_getElem? (i := 546) (by decide +kernel))) (by decide +kernel)
theorem ld_34 : Cond.methodLink R_law 88 yX5_clear ∈ gtb := gtb_of (List.mem_append_right _ (List.mem_of_getElem? (i := 814) (by decide +kernel))) (by decide +kernel)
theorem ld_35 : Cond.methodLink R_law 89 yX4_forecast ∈ gtb := gtb_of (List.mem_append_right _ (List.mem_of_getElem? (i := 551) (by decide +kernel))) (by decide +kernel)
theorem ld_36 : Cond.methodLink R_law 92 yX5_forecast ∈ gtb := gtb_of (List.mem_append_right _ (List.mem_of_getElem? (i := 818) (by decide +kernel))) (by decide +kernel)
theorem ld_37 : Cond.methodLink R_law 93 yX4_worstHang ∈ gtb := gtb_of (List.mem_append_right _ (List.mem_of_getElem? (i := 569) (by decide +kernel))) (by decide +kernel)
theorem ld_38 : Cond.methodLink R_law 97 yX5_worstHang ∈ gtb := gtb_of (List.mem_append_right _ (List.mem_of_getElem? (i := 830) (by decide +kernel))) (by decide +kernel)
theorem ld_39 : Cond.methodLink R_law 98 yX4_greatestKick ∈ gtb := gtb_of (List.mem_append_right _ (List.mem_of_getElem? (i := 583) (by decide +kernel))) (by decide +kernel)
theorem ld_40 : Cond.methodLink R_law 101 yX5_greatestKick ∈ gtb := gtb_of (List.mem_append_right _ (List.mem_of_getElem? (i := 839) (by decide +kernel))) (by decide +kernel)
theorem ld_41 : Cond.methodLink R_law 102 yX4_save ∈ gtb := gtb_of (List.mem_append_right _ (List.mem_of_getElem? (i := 591) (by decide +kernel))) (by decide +kernel)
theorem ld_42 : Cond.methodLink R_law 105 yX5_save ∈ gtb := gtb_of (List.mem_append_right _ (List.mem_of_getElem? (i := 843) (by decide +kernel))) (by decide +kernel)
theorem ld_43 : Cond.methodLink R_law 106 yX4_restore ∈ gtb := gtb_of (List.mem_append_right _ (List.mem_of_getElem? (i := 595) (by decide +kernel))) (by decide +kernel)
theorem ld_44 : Cond.methodLink R_law 109 yX5_restore ∈ gtb := gtb_of (List.mem_append_right _ (List.mem_of_getElem? (i := 847) (by decide +kernel))) (by decide +kernel)
theorem cz_X4_rule : CYv yX4_rule cX4_rule 4 (some .int) 2 := ⟨gtb_of (List.mem_append_right _ (List.mem_of_getElem? (i := 237) (by decide +kernel))) (by decide +kernel), gtb_of (List.mem_append_right _ (List.mem_of_getElem? (i := 235) (by decide +kernel))) (by decide +kernel), gtb_of (List.mem_append_right _ (List.mem_of_getElem? (i := 236) (by decide +kernel))) (by decide +kernel), gtb_of (List.mem_append_right _ (List.mem_of_getElem? (i := 1) (by decide +kernel))) (by decide +kernel), by decide, by decide, by decide⟩
theorem cz_X5_rule : CYv yX5_rule cX5_rule 4 (some .int) 2 := ⟨gtb_of (List.mem_append_right _ (List.mem_of_getElem? (i := 639) (by decide +kernel))) (by decide +kernel), gtb_of (List.mem_append_right _ (List.mem_of_getElem? (i := 637) (by decide +kernel))) (by decide +kernel), gtb_of (List.mem_append_right _ (List.mem_of_getElem? (i := 638) (by decide +kernel))) (by decide +kernel), gtb_of (List.mem_append_right _ (List.mem_of_getElem? (i := 6) (by decide +kernel))) (by decide +kernel), by decide, by decide, by decide⟩
theorem cz_X4_addTask : CYv yX4_addTask cX4_addTask 4 (some .int) 2 := ⟨gtb_of (List.mem_append_right _ (List.mem_of_getElem? (i := 251) (by decide +kernel))) (by decide +kernel), gtb_of (List.mem_append_right _ (List.mem_of_getElem? (i := 249) (by decide +kernel))) (by decide +kernel), gtb_of (List.mem_append_right _ (List.mem_of_getElem? (i := 250) (by decide +kernel))) (by decide +kernel), gtb_of (List.mem_append_right _ (List.mem_of_getElem? (i := 1) (by decide +kernel))) (by decide +kernel), by decide, by decide, by decide⟩
theorem cz_X5_addTask : CYv yX5_addTask cX5_addTask 4 (some .int) 2 := ⟨gtb_of (List.mem_append_right _ (List.mem_of_getElem? (i := 649) (by decide +kernel))) (by decide +kernel), gtb_of (List.mem_append_right _ (List.mem_of_getElem? (i := 647) (by decide +kernel))) (by decide +kernel), gtb_of (List.mem_append_right _ (List.mem_of_getElem? (i := 648) (by decide +kernel))) (by decide +kernel), gtb_of (List.mem_append_right _ (List.mem_of_getElem? (i := 6) (by decide +kernel))) (by decide +kernel), by decide, by decide, by decide⟩
theorem cz_X4_set : CYv yX4_set cX4_set 6 (some .int) 3 := ⟨gtb_of (List.mem_append_right _ (List.mem_of_getElem? (i := 278) (by decide +kernel))) (by decide +kernel), gtb_of (List.mem_append_right _ (List.mem_of_getElem? (i := 276) (by decide +kernel))) (by decide +kernel), gtb_of (List.mem_append_right _ (List.mem_of_getElem? (i := 277) (by decide +kernel))) (by decide +kernel), gtb_of (List.mem_append_right _ (List.mem_of_getElem? (i := 1) (by decide +kernel))) (by decide +kernel), by decide, by decide, by decide⟩
theorem cz_X5_set : CYv yX5_set cX5_set 5 (some .int) 3 := ⟨gtb_of (List.mem_append_right _ (List.mem_of_getElem? (i := 660) (by decide +kernel))) (by decide +kernel), gtb_of (List.mem_append_right _ (List.mem_of_getElem? (i := 658) (by decide +kernel))) (by decide +kernel), gtb_of (List.mem_append_right _ (List.mem_of_getElem? (i := 659) (by decide +kernel))) (by decide +kernel), gtb_of (List.mem_append_right _ (List.mem_of_getElem? (i := 6) (by decide +kernel))) (by decide +kernel), by decide, by decide, by decide⟩
theorem cz_X4_putFault : CYv yX4_putFault cX4_putFault 7 (some .int) 5 := ⟨gtb_of (List.mem_append_right _ (List.mem_of_getElem? (i := 286) (by decide +kernel))) (by decide +kernel), gtb_of (List.mem_append_right _ (List.mem_of_getElem? (i := 284) (by decide +kernel))) (by decide +kernel), gtb_of (List.mem_append_right _ (List.mem_of_getElem? (i := 285) (by decide +kernel))) (by decide +kernel), gtb_of (List.mem_append_right _ (List.mem_of_getElem? (i := 1) (by decide +kernel))) (by decide +kernel), by decide, by decide, by decide⟩
theorem cz_X5_putFault : CYv yX5_putFault cX5_putFault 7 (some .int) 5 := ⟨gtb_of (List.mem_append_right _ (List.mem_of_getElem? (i := 675) (by decide +kernel))) (by decide +kernel), gtb_of (List.mem_append_right _ (List.mem_of_getElem? (i := 673) (by decide +kernel))) (by decide +kernel), gtb_of (List.mem_append_right _ (List.mem_of_getElem? (i := 674) (by decide +kernel))) (by decide +kernel), gtb_of (List.mem_append_right _ (List.mem_of_getElem? (i := 6) (by decide +kernel))) (by decide +kernel), by decide, by decide, by decide⟩
theorem cz_X4_put : CYv yX4_put cX4_put 4 (some .int) 1 := ⟨gtb_of (List.mem_append_right _ (List.mem_of_getElem? (i := 291) (by decide +kernel))) (by decide +kernel), gtb_of (List.mem_append_right _ (List.mem_of_getElem? (i := 289) (by decide +kernel))) (by decide +kernel), gtb_of (List.mem_append_right _ (List.mem_of_getElem? (i := 290) (by decide +kernel))) (by decide +kernel), gtb_of (List.mem_append_right _ (List.mem_of_getElem? (i := 1) (by decide +kernel))) (by decide +kernel), by decide, by decide, by decide⟩
theorem cz_X5_put : CYv yX5_put cX5_put 7 (some .int) 1 := ⟨gtb_of (List.mem_append_right _ (List.mem_of_getElem? (i := 683) (by decide +kernel))) (by decide +kernel), gtb_of (List.mem_append_right _ (List.mem_of_getElem? (i := 681) (by decide +kernel))) (by decide +kernel), gtb_of (List.mem_append_right _ (List.mem_of_getElem? (i := 682) (by decide +kernel))) (by decide +kernel), gtb_of (List.mem_append_right _ (List.mem_of_getElem? (i := 6) (by decide +kernel))) (by decide +kernel), by decide, by decide, by decide⟩
theorem cz_X4_wipe : CYv yX4_wipe cX4_wipe 2 (some .int) 0 := ⟨gtb_of (List.mem_append_right _ (List.mem_of_getElem? (i := 304) (by decide +kernel))) (by decide +kernel), gtb_of (List.mem_append_right _ (List.mem_of_getElem? (i := 302) (by decide +kernel))) (by decide +kernel), gtb_of (List.mem_append_right _ (List.mem_of_getElem? (i := 303) (by decide +kernel))) (by decide +kernel), gtb_of (List.mem_append_right _ (List.mem_of_getElem? (i := 1) (by decide +kernel))) (by decide +kernel), by decide, by decide, by decide⟩
theorem cz_X5_wipe : CYv yX5_wipe cX5_wipe 2 (some .int) 0 := ⟨gtb_of (List.mem_append_right _ (List.mem_of_getElem? (i := 688) (by decide +kernel))) (by decide +kernel), gtb_of (List.mem_append_right _ (List.mem_of_getElem? (i := 686) (by decide +kernel))) (by decide +kernel), gtb_of (List.mem_append_right _ (List.mem_of_getElem? (i := 687) (by decide +kernel))) (by decide +kernel), gtb_of (List.mem_append_right _ (List.mem_of_getElem? (i := 6) (by decide +kernel))) (by decide +kernel), by decide, by decide, by decide⟩
theorem cz_X4_position : CYv yX4_position cX4_position 1 (some .int) 0 := ⟨gtb_of (List.mem_append_right _ (List.mem_of_getElem? (i := 308) (by decide +kernel))) (by decide +kernel), gtb_of (List.mem_append_right _ (List.mem_of_getElem? (i := 306) (by decide +kernel))) (by decide +kernel), gtb_of (List.mem_append_right _ (List.mem_of_getElem? (i := 307) (by decide +kernel))) (by decide +kernel), gtb_of (List.mem_append_right _ (List.mem_of_getElem? (i := 1) (by decide +kernel))) (by decide +kernel), by decide, by decide, by decide⟩
theorem cz_X5_position : CYv yX5_position cX5_position 1 (some .int) 0 := ⟨gtb_of (List.mem_append_right _ (List.mem_of_getElem? (i := 692) (by decide +kernel))) (by decide +kernel), gtb_of (List.mem_append_right _ (List.mem_of_getElem? (i := 690) (by decide +kernel))) (by decide +kernel), gtb_of (List.mem_append_right _ (List.mem_of_getElem? (i := 691) (by decide +kernel))) (by decide +kernel), gtb_of (List.mem_append_right _ (List.mem_of_getElem? (i := 6) (by decide +kernel))) (by decide +kernel), by decide, by decide, by decide⟩
theorem cz_X4_load : CYv yX4_load cX4_load 2 (some .int) 0 := ⟨gtb_of (List.mem_append_right _ (List.mem_of_getElem? (i := 429) (by decide +kernel))) (by decide +kernel), gtb_of (List.mem_append_right _ (List.mem_of_getElem? (i := 427) (by decide +kernel))) (by decide +kernel), gtb_of (List.mem_append_right _ (List.mem_of_getElem? (i := 428) (by decide +kernel))) (by decide +kernel), gtb_of (List.mem_append_right _ (List.mem_of_getElem? (i := 1) (by decide +kernel))) (by decide +kernel), by decide, by decide, by decide⟩
theorem cz_X5_load : CYv yX5_load cX5_load 3 (some .int) 0 := ⟨gtb_of (List.mem_append_right _ (List.mem_of_getElem? (i := 715) (by decide +kernel))) (by decide +kernel), gtb_of (List.mem_append_right _ (List.mem_of_getElem? (i := 713) (by decide +kernel))) (by decide +kernel), gtb_of (List.mem_append_right _ (List.mem_of_getElem? (i := 714) (by decide +kernel))) (by decide +kernel), gtb_of (List.mem_append_right _ (List.mem_of_getElem? (i := 6) (by decide +kernel))) (by decide +kernel), by decide, by decide, by decide⟩
theorem cz_X4_run : CYv yX4_run cX4_run 3 (some .int) 1 := ⟨gtb_of (List.mem_append_right _ (List.mem_of_getElem? (i := 433) (by decide +kernel))) (by decide +kernel), gtb_of (List.mem_append_right _ (List.mem_of_getElem? (i := 431) (by decide +kernel))) (by decide +kernel), gtb_of (List.mem_append_right _ (List.mem_of_getElem? (i := 432) (by decide +kernel))) (by decide +kernel), gtb_of (List.mem_append_right _ (List.mem_of_getElem? (i := 1) (by decide +kernel))) (by decide +kernel), by decide, by decide, by decide⟩
theorem cz_X5_run : CYv yX5_run cX5_run 3 (some .int) 1 := ⟨gtb_of (List.mem_append_right _ (List.mem_of_getElem? (i := 720) (by decide +kernel))) (by decide +kernel), gtb_of (List.mem_append_right _ (List.mem_of_getElem? (i := 718) (by decide +kernel))) (by decide +kernel), gtb_of (List.mem_append_right _ (List.mem_of_getElem? (i := 719) (by decide +kernel))) (by decide +kernel), gtb_of (List.mem_append_right _ (List.mem_of_getElem? (i := 6) (by decide +kernel))) (by decide +kernel), by decide, by decide, by decide⟩
theorem cz_X4_runToReset : CYv yX4_runToReset cX4_runToReset 3 (some .int) 1 := ⟨gtb_of (List.mem_append_right _ (List.mem_of_getElem? (i := 493) (by decide +kernel))) (by decide +kernel), gtb_of (List.mem_append_right _ (List.mem_of_getElem? (i := 491) (by decide +kernel))) (by decide +kernel), gtb_of (List.mem_append_right _ (List.mem_of_getElem? (i := 492) (by decide +kernel))) (by decide +kernel), gtb_of (List.mem_append_right _ (List.mem_of_getElem? (i := 1) (by decide +kernel))) (by decide +kernel), by decide, by decide, by decide⟩
theorem cz_X5_runToReset : CYv yX5_runToReset cX5_runToReset 3 (some .int) 1 := ⟨gtb_of (List.mem_append_right _ (List.mem_of_getElem? (i := 773) (by decide +kernel))) (by decide +kernel), gtb_of (List.mem_append_right _ (List.mem_of_getElem? (i := 771) (by decide +kernel))) (by decide +kernel), gtb_of (List.mem_append_right _ (List.mem_of_getElem? (i := 772) (by decide +kernel))) (by decide +kernel), gtb_of (List.mem_append_right _ (List.mem_of_getElem? (i := 6) (by decide +kernel))) (by decide +kernel), by decide, by decide, by decide⟩
theorem cz_X4_kick : CYv yX4_kick cX4_kick 2 (some .int) 0 := ⟨gtb_of (List.mem_append_right _ (List.mem_of_getElem? (i := 502) (by decide +kernel))) (by decide +kernel), gtb_of (List.mem_append_right _ (List.mem_of_getElem? (i := 500) (by decide +kernel))) (by decide +kernel), gtb_of (List.mem_append_right _ (List.mem_of_getElem? (i := 501) (by decide +kernel))) (by decide +kernel), gtb_of (List.mem_append_right _ (List.mem_of_getElem? (i := 1) (by decide +kernel))) (by decide +kernel), by decide, by decide, by decide⟩
theorem cz_X5_kick : CYv yX5_kick cX5_kick 2 (some .int) 0 := ⟨gtb_of (List.mem_append_right _ (List.mem_of_getElem? (i := 781) (by decide +kernel))) (by decide +kernel), gtb_of (List.mem_append_right _ (List.mem_of_getElem? (i := 779) (by decide +kernel))) (by decide +kernel), gtb_of (List.mem_append_right _ (List.mem_of_getElem? (i := 780) (by decide +kernel))) (by decide +kernel), gtb_of (List.mem_append_right _ (List.mem_of_getElem? (i := 6) (by decide +kernel))) (by decide +kernel), by decide, by decide, by decide⟩
theorem cz_X4_reset : CYv yX4_reset cX4_reset 2 (some .int) 0 := ⟨gtb_of (List.mem_append_right _ (List.mem_of_getElem? (i := 508) (by decide +kernel))) (by decide +kernel), gtb_of (List.mem_append_right _ (List.mem_of_getElem? (i := 506) (by decide +kernel))) (by decide +kernel), gtb_of (List.mem_append_right _ (List.mem_of_getElem? (i := 507) (by decide +kernel))) (by decide +kernel), gtb_of (List.mem_append_right _ (List.mem_of_getElem? (i := 1) (by decide +kernel))) (by decide +kernel), by decide, by decide, by decide⟩
theorem cz_X5_reset : CYv yX5_reset cX5_reset 1 (some .int) 0 := ⟨gtb_of (List.mem_append_right _ (List.mem_of_getElem? (i := 785) (by decide +kernel))) (by decide +kernel), gtb_of (List.mem_append_right _ (List.mem_of_getElem? (i := 783) (by decide +kernel))) (by decide +kernel), gtb_of (List.mem_append_right _ (List.mem_of_getElem? (i := 784) (by decide +kernel))) (by decide +kernel), gtb_of (List.mem_append_right _ (List.mem_of_getElem? (i := 6) (by decide +kernel))) (by decide +kernel), by decide, by decide, by decide⟩
theorem cz_X4_powerCycle : CYv yX4_powerCycle cX4_powerCycle 2 (some .int) 0 := ⟨gtb_of (List.mem_append_right _ (List.mem_of_getElem? (i := 512) (by decide +kernel))) (by decide +kernel), gtb_of (List.mem_append_right _ (List.mem_of_getElem? (i := 510) (by decide +kernel))) (by decide +kernel), gtb_of (List.mem_append_right _ (List.mem_of_getElem? (i := 511) (by decide +kernel))) (by decide +kernel), gtb_of (List.mem_append_right _ (List.mem_of_getElem? (i := 1) (by decide +kernel))) (by decide +kernel), by decide, by decide, by decide⟩
theorem cz_X5_powerCycle : CYv yX5_powerCycle cX5_powerCycle 2 (some .int) 0 := ⟨gtb_of (List.mem_append_right _ (List.mem_of_getElem? (i := 789) (by decide +kernel))) (by decide +kernel), gtb_of (List.mem_append_right _ (List.mem_of_getElem? (i := 787) (by decide +kernel))) (by decide +kernel), gtb_of (List.mem_append_right _ (List.mem_of_getElem? (i := 788) (by decide +kernel))) (by decide +kernel), gtb_of (List.mem_append_right _ (List.mem_of_getElem? (i := 6) (by decide +kernel))) (by decide +kernel), by decide, by decide, by decide⟩
theorem cz_X4_state : CYv yX4_state cX4_state 2 (some .int) 1 := ⟨gtb_of (List.mem_append_right _ (List.mem_of_getElem? (i := 520) (by decide +kernel))) (by decide +kernel), gtb_of (List.mem_append_right _ (List.mem_of_getElem? (i := 518) (by decide +kernel))) (by decide +kernel), gtb_of (List.mem_append_right _ (List.mem_of_getElem? (i := 519) (by decide +kernel))) (by decide +kernel), gtb_of (List.mem_append_right _ (List.mem_of_getElem? (i := 1) (by decide +kernel))) (by decide +kernel), by decide, by decide, by decide⟩
theorem cz_X5_state : CYv yX5_state cX5_state 3 (some .int) 1 := ⟨gtb_of (List.mem_append_right _ (List.mem_of_getElem? (i := 797) (by decide +kernel))) (by decide +kernel), gtb_of (List.mem_append_right _ (List.mem_of_getElem? (i := 795) (by decide +kernel))) (by decide +kernel), gtb_of (List.mem_append_right _ (List.mem_of_getElem? (i := 796) (by decide +kernel))) (by decide +kernel), gtb_of (List.mem_append_right _ (List.mem_of_getElem? (i := 6) (by decide +kernel))) (by decide +kernel), by decide, by decide, by decide⟩
theorem cz_X4_task : CYv yX4_task cX4_task 4 (some .int) 2 := ⟨gtb_of (List.mem_append_right _ (List.mem_of_getElem? (i := 532) (by decide +kernel))) (by decide +kernel), gtb_of (List.mem_append_right _ (List.mem_of_getElem? (i := 530) (by decide +kernel))) (by decide +kernel), gtb_of (List.mem_append_right _ (List.mem_of_getElem? (i := 531) (by decide +kernel))) (by decide +kernel), gtb_of (List.mem_append_right _ (List.mem_of_getElem? (i := 1) (by decide +kernel))) (by decide +kernel), by decide, by decide, by decide⟩
theorem cz_X5_task : CYv yX5_task cX5_task 3 (some .int) 2 := ⟨gtb_of (List.mem_append_right _ (List.mem_of_getElem? (i := 805) (by decide +kernel))) (by decide +kernel), gtb_of (List.mem_append_right _ (List.mem_of_getElem? (i := 803) (by decide +kernel))) (by decide +kernel), gtb_of (List.mem_append_right _ (List.mem_of_getElem? (i := 804) (by decide +kernel))) (by decide +kernel), gtb_of (List.mem_append_right _ (List.mem_of_getElem? (i := 6) (by decide +kernel))) (by decide +kernel), by decide, by decide, by decide⟩
theorem cz_X4_record : CYv yX4_record cX4_record 3 (some .int) 2 := ⟨gtb_of (List.mem_append_right _ (List.mem_of_getElem? (i := 540) (by decide +kernel))) (by decide +kernel), gtb_of (List.mem_append_right _ (List.mem_of_getElem? (i := 538) (by decide +kernel))) (by decide +kernel), gtb_of (List.mem_append_right _ (List.mem_of_getElem? (i := 539) (by decide +kernel))) (by decide +kernel), gtb_of (List.mem_append_right _ (List.mem_of_getElem? (i := 1) (by decide +kernel))) (by decide +kernel), by decide, by decide, by decide⟩
theorem cz_X5_record : CYv yX5_record cX5_record 3 (some .int) 2 := ⟨gtb_of (List.mem_append_right _ (List.mem_of_getElem? (i := 813) (by decide +kernel))) (by decide +kernel), gtb_of (List.mem_append_right _ (List.mem_of_getElem? (i := 811) (by decide +kernel))) (by decide +kernel), gtb_of (List.mem_append_right _ (List.mem_of_getElem? (i := 812) (by decide +kernel))) (by decide +kernel), gtb_of (List.mem_append_right _ (List.mem_of_getElem? (i := 6) (by decide +kernel))) (by decide +kernel), by decide, by decide, by decide⟩
theorem cz_X4_clear : CYv yX4_clear cX4_clear 3 (some .int) 1 := ⟨gtb_of (List.mem_append_right _ (List.mem_of_getElem? (i := 549) (by decide +kernel))) (by decide +kernel), gtb_of (List.mem_append_right _ (List.mem_of_getElem? (i := 547) (by decide +kernel))) (by decide +kernel), gtb_of (List.mem_append_right _ (List.mem_of_getElem? (i := 548) (by decide +kernel))) (by decide +kernel), gtb_of (List.mem_append_right _ (List.mem_of_getElem? (i := 1) (by decide +kernel))) (by decide +kernel), by decide, by decide, by decide⟩
theorem cz_X5_clear : CYv yX5_clear cX5_clear 3 (some .int) 1 := ⟨gtb_of (List.mem_append_right _ (List.mem_of_getElem? (i := 817) (by decide +kernel))) (by decide +kernel), gtb_of (List.mem_append_right _ (List.mem_of_getElem? (i := 815) (by decide +kernel))) (by decide +kernel), gtb_of (List.mem_append_right _ (List.mem_of_getElem? (i := 816) (by decide +kernel))) (by decide +kernel), gtb_of (List.mem_append_right _ (List.mem_of_getElem? (i := 6) (by decide +kernel))) (by decide +kernel), by decide, by decide, by decide⟩
theorem cz_X4_forecast : CYv yX4_forecast cX4_forecast 2 (some .int) 1 := ⟨gtb_of (List.mem_append_right _ (List.mem_of_getElem? (i := 554) (by decide +kernel))) (by decide +kernel), gtb_of (List.mem_append_right _ (List.mem_of_getElem? (i := 552) (by decide +kernel))) (by decide +kernel), gtb_of (List.mem_append_right _ (List.mem_of_getElem? (i := 553) (by decide +kernel))) (by decide +kernel), gtb_of (List.mem_append_right _ (List.mem_of_getElem? (i := 1) (by decide +kernel))) (by decide +kernel), by decide, by decide, by decide⟩
theorem cz_X5_forecast : CYv yX5_forecast cX5_forecast 3 (some .int) 1 := ⟨gtb_of (List.mem_append_right _ (List.mem_of_getElem? (i := 821) (by decide +kernel))) (by decide +kernel), gtb_of (List.mem_append_right _ (List.mem_of_getElem? (i := 819) (by decide +kernel))) (by decide +kernel), gtb_of (List.mem_append_right _ (List.mem_of_getElem? (i := 820) (by decide +kernel))) (by decide +kernel), gtb_of (List.mem_append_right _ (List.mem_of_getElem? (i := 6) (by decide +kernel))) (by decide +kernel), by decide, by decide, by decide⟩
theorem cz_X4_worstHang : CYv yX4_worstHang cX4_worstHang 7 (some .int) 4 := ⟨gtb_of (List.mem_append_right _ (List.mem_of_getElem? (i := 572) (by decide +kernel))) (by decide +kernel), gtb_of (List.mem_append_right _ (List.mem_of_getElem? (i := 570) (by decide +kernel))) (by decide +kernel), gtb_of (List.mem_append_right _ (List.mem_of_getElem? (i := 571) (by decide +kernel))) (by decide +kernel), gtb_of (List.mem_append_right _ (List.mem_of_getElem? (i := 1) (by decide +kernel))) (by decide +kernel), by decide, by decide, by decide⟩
theorem cz_X5_worstHang : CYv yX5_worstHang cX5_worstHang 9 (some .int) 4 := ⟨gtb_of (List.mem_append_right _ (List.mem_of_getElem? (i := 833) (by decide +kernel))) (by decide +kernel), gtb_of (List.mem_append_right _ (List.mem_of_getElem? (i := 831) (by decide +kernel))) (by decide +kernel), gtb_of (List.mem_append_right _ (List.mem_of_getElem? (i := 832) (by decide +kernel))) (by decide +kernel), gtb_of (List.mem_append_right _ (List.mem_of_getElem? (i := 6) (by decide +kernel))) (by decide +kernel), by decide, by decide, by decide⟩
theorem cz_X4_greatestKick : CYv yX4_greatestKick cX4_greatestKick 4 (some .int) 1 := ⟨gtb_of (List.mem_append_right _ (List.mem_of_getElem? (i := 586) (by decide +kernel))) (by decide +kernel), gtb_of (List.mem_append_right _ (List.mem_of_getElem? (i := 584) (by decide +kernel))) (by decide +kernel), gtb_of (List.mem_append_right _ (List.mem_of_getElem? (i := 585) (by decide +kernel))) (by decide +kernel), gtb_of (List.mem_append_right _ (List.mem_of_getElem? (i := 1) (by decide +kernel))) (by decide +kernel), by decide, by decide, by decide⟩
theorem cz_X5_greatestKick : CYv yX5_greatestKick cX5_greatestKick 4 (some .int) 1 := ⟨gtb_of (List.mem_append_right _ (List.mem_of_getElem? (i := 842) (by decide +kernel))) (by decide +kernel), gtb_of (List.mem_append_right _ (List.mem_of_getElem? (i := 840) (by decide +kernel))) (by decide +kernel), gtb_of (List.mem_append_right _ (List.mem_of_getElem? (i := 841) (by decide +kernel))) (by decide +kernel), gtb_of (List.mem_append_right _ (List.mem_of_getElem? (i := 6) (by decide +kernel))) (by decide +kernel), by decide, by decide, by decide⟩
theorem cz_X4_save : CYv yX4_save cX4_save 2 (some .int) 1 := ⟨gtb_of (List.mem_append_right _ (List.mem_of_getElem? (i := 594) (by decide +kernel))) (by decide +kernel), gtb_of (List.mem_append_right _ (List.mem_of_getElem? (i := 592) (by decide +kernel))) (by decide +kernel), gtb_of (List.mem_append_right _ (List.mem_of_getElem? (i := 593) (by decide +kernel))) (by decide +kernel), gtb_of (List.mem_append_right _ (List.mem_of_getElem? (i := 1) (by decide +kernel))) (by decide +kernel), by decide, by decide, by decide⟩
theorem cz_X5_save : CYv yX5_save cX5_save 3 (some .int) 1 := ⟨gtb_of (List.mem_append_right _ (List.mem_of_getElem? (i := 846) (by decide +kernel))) (by decide +kernel), gtb_of (List.mem_append_right _ (List.mem_of_getElem? (i := 844) (by decide +kernel))) (by decide +kernel), gtb_of (List.mem_append_right _ (List.mem_of_getElem? (i := 845) (by decide +kernel))) (by decide +kernel), gtb_of (List.mem_append_right _ (List.mem_of_getElem? (i := 6) (by decide +kernel))) (by decide +kernel), by decide, by decide, by decide⟩
theorem cz_X4_restore : CYv yX4_restore cX4_restore 2 (some .int) 1 := ⟨gtb_of (List.mem_append_right _ (List.mem_of_getElem? (i := 598) (by decide +kernel))) (by decide +kernel), gtb_of (List.mem_append_right _ (List.mem_of_getElem? (i := 596) (by decide +kernel))) (by decide +kernel), gtb_of (List.mem_append_right _ (List.mem_of_getElem? (i := 597) (by decide +kernel))) (by decide +kernel), gtb_of (List.mem_append_right _ (List.mem_of_getElem? (i := 1) (by decide +kernel))) (by decide +kernel), by decide, by decide, by decide⟩
theorem cz_X5_restore : CYv yX5_restore cX5_restore 3 (some .int) 1 := ⟨gtb_of (List.mem_append_right _ (List.mem_of_getElem? (i := 850) (by decide +kernel))) (by decide +kernel), gtb_of (List.mem_append_right _ (List.mem_of_getElem? (i := 848) (by decide +kernel))) (by decide +kernel), gtb_of (List.mem_append_right _ (List.mem_of_getElem? (i := 849) (by decide +kernel))) (by decide +kernel), gtb_of (List.mem_append_right _ (List.mem_of_getElem? (i := 6) (by decide +kernel))) (by decide +kernel), by decide, by decide, by decide⟩
set_option maxHeartbeats 4000000 in
set_option maxRecDepth 100000 in
theorem lw_c0 {p : Program} {l : Launch} {e : Env} {s : State} {m : MethodId} {args : Array Value} {below : List Frame} {meth : Method} {c : Code} {Γ : GG} {rt : Option FieldType} {b L i : Nat} {xs : Nat → Int32} {σ : Sg} {H : Heap} {locs : List Loc} {ls : Array Slot} {Q : State → Prop} (M : MX R_law cL_law 4 rt p s m args meth c) (K : KK Γ s s.heap) (hX : va_X b L xs s s.heap) (hbl : b < s.heap.size) (hbA : ¬ AD Γ b) (hi : i + 6 ≤ L) (hL : L ≤ 3072) (hB : Bd Γ σ s H locs) (hI : INV σ) (hl : lv_has ls 4 [(0, .ref b), (1, .ref (Γ.1 0)), (2, .ref (Γ.1 150)), (3, .int (nI i))]) (nxt : ∀ (σ' : Sg) (H' : Heap) (locs' : List Loc), INV σ' → Bd Γ σ' s H' locs' → W p l e room_1 s m args below meth c H' locs' 157 2581 Q (F0 m 742 ls [])) : W p l e room_1 s m args below meth c H locs 157 2581 Q (F0 m 136 ls []) := by
  obtain ⟨r, σ1, σ2, h1, h2, h3⟩ := ((ag_rule (xs (nI i + 1).toNatClampNeg) (xs (nI i + 2).toNatClampNeg)).go) σ hI
  refine lv_aload_n M.1 M.2.1 dL_law_136 rfl (lv_at hl 1 rfl) ?_
  refine lv_aload_n M.1 M.2.1 dL_law_137 rfl (lv_at hl 0 rfl) ?_
  refine lv_iload_n M.1 M.2.1 dL_law_138 rfl (lv_at hl 3 rfl) ?_
  refine lv_iconst (v := 1) M.1 M.2.1 dL_law_139 (by decide) ?_
  refine lv_iadd M.1 M.2.1 dL_law_140 ?_
  refine va_sld M.1 M.2.1 hX hbl hbA hB.2 (show vp_in (nI i + 1) L from lw_in (k := 1) (by decide) hi hL) dL_law_141 ?_
  refine lv_aload_n M.1 M.2.1 dL_law_142 rfl (lv_at hl 0 rfl) ?_
  refine lv_iload_n M.1 M.2.1 dL_law_143 rfl (lv_at hl 3 rfl) ?_
  refine lv_iconst (v := 2) M.1 M.2.1 dL_law_144 (by decide) ?_
  refine lv_iadd M.1 M.2.1 dL_law_145 ?_
  refine va_sld M.1 M.2.1 hX hbl hbA hB.2 (show vp_in (nI i + 2) L from lw_in (k := 2) (by decide) hi hL) dL_law_146 ?_
  refine x_callI (x_runV M K hB hl.1 [.int (xs (nI i + 1).toNatClampNeg), .int (xs (nI i + 2).toNatClampNeg)] (rest := []) rfl (c_X4_rule l Γ (xs (nI i + 1).toNatClampNeg) (xs (nI i + 2).toNatClampNeg) σ (r, σ1) h1) cz_X4_rule (x_recv K hB isK_0.2 (ent_4 isK_0.1) rfl) ld_0 ⟨rfl, rfl, (Nat.le_of_ble_eq_true rfl), (Nat.le_of_ble_eq_true rfl)⟩ (Nat.le_of_ble_eq_true rfl) ⟨(Nat.le_of_ble_eq_true rfl), (Nat.le_of_ble_eq_true rfl)⟩ dL_law_147) hB (fun H locs hB => ?_)
  refine lv_aload_n M.1 M.2.1 dL_law_150 rfl (lv_at hl 2 rfl) ?_
  refine lv_aload_n M.1 M.2.1 dL_law_151 rfl (lv_at hl 0 rfl) ?_
  refine lv_iload_n M.1 M.2.1 dL_law_152 rfl (lv_at hl 3 rfl) ?_
  refine lv_iconst (v := 1) M.1 M.2.1 dL_law_153 (by decide) ?_
  refine lv_iadd M.1 M.2.1 dL_law_154 ?_
  refine va_sld M.1 M.2.1 hX hbl hbA hB.2 (show vp_in (nI i + 1) L from lw_in (k := 1) (by decide) hi hL) dL_law_155 ?_
  refine lv_aload_n M.1 M.2.1 dL_law_156 rfl (lv_at hl 0 rfl) ?_
  refine lv_iload_n M.1 M.2.1 dL_law_157 rfl (lv_at hl 3 rfl) ?_
  refine lv_iconst (v := 2) M.1 M.2.1 dL_law_158 (by decide) ?_
  refine lv_iadd M.1 M.2.1 dL_law_159 ?_
  refine va_sld M.1 M.2.1 hX hbl hbA hB.2 (show vp_in (nI i + 2) L from lw_in (k := 2) (by decide) hi hL) dL_law_160 ?_
  refine x_callI (x_runV M K hB hl.1 [.int (xs (nI i + 1).toNatClampNeg), .int (xs (nI i + 2).toNatClampNeg)] (rest := [.int r]) rfl (c_X5_rule l Γ (xs (nI i + 1).toNatClampNeg) (xs (nI i + 2).toNatClampNeg) σ1 (r, σ2) h2) cz_X5_rule (x_recv K hB isK_150.2 (ent_5 isK_150.1) rfl) ld_1 ⟨rfl, rfl, (Nat.le_of_ble_eq_true rfl), (Nat.le_of_ble_eq_true rfl)⟩ (Nat.le_of_ble_eq_true rfl) ⟨(Nat.le_of_ble_eq_true rfl), (Nat.le_of_ble_eq_true rfl)⟩ dL_law_161) hB (fun H locs hB => ?_)
  exact lv_icmp_eq (tgt := 742) M.1 M.2.1 dL_law_164 (by decide) (fun _ => nxt σ2 _ _ h3 hB) (fun h => absurd rfl h)
set_option maxHeartbeats 4000000 in
set_option maxRecDepth 100000 in
theorem lw_c1 {p : Program} {l : Launch} {e : Env} {s : State} {m : MethodId} {args : Array Value} {below : List Frame} {meth : Method} {c : Code} {Γ : GG} {rt : Option FieldType} {b L i : Nat} {xs : Nat → Int32} {σ : Sg} {H : Heap} {locs : List Loc} {ls : Array Slot} {Q : State → Prop} (M : MX R_law cL_law 4 rt p s m args meth c) (K : KK Γ s s.heap) (hX : va_X b L xs s s.heap) (hbl : b < s.heap.size) (hbA : ¬ AD Γ b) (hi : i + 6 ≤ L) (hL : L ≤ 3072) (hB : Bd Γ σ s H locs) (hI : INV σ) (hl : lv_has ls 4 [(0, .ref b), (1, .ref (Γ.1 0)), (2, .ref (Γ.1 150)), (3, .int (nI i))]) (nxt : ∀ (σ' : Sg) (H' : Heap) (locs' : List Loc), INV σ' → Bd Γ σ' s H' locs' → W p l e room_1 s m args below meth c H' locs' 157 2581 Q (F0 m 742 ls [])) : W p l e room_1 s m args below meth c H locs 157 2581 Q (F0 m 169 ls []) := by
  obtain ⟨r, σ1, σ2, h1, h2, h3⟩ := ((ag_add (xs (nI i + 1).toNatClampNeg) (xs (nI i + 2).toNatClampNeg)).go) σ hI
  refine lv_aload_n M.1 M.2.1 dL_law_169 rfl (lv_at hl 1 rfl) ?_
  refine lv_aload_n M.1 M.2.1 dL_law_170 rfl (lv_at hl 0 rfl) ?_
  refine lv_iload_n M.1 M.2.1 dL_law_171 rfl (lv_at hl 3 rfl) ?_
  refine lv_iconst (v := 1) M.1 M.2.1 dL_law_172 (by decide) ?_
  refine lv_iadd M.1 M.2.1 dL_law_173 ?_
  refine va_sld M.1 M.2.1 hX hbl hbA hB.2 (show vp_in (nI i + 1) L from lw_in (k := 1) (by decide) hi hL) dL_law_174 ?_
  refine lv_aload_n M.1 M.2.1 dL_law_175 rfl (lv_at hl 0 rfl) ?_
  refine lv_iload_n M.1 M.2.1 dL_law_176 rfl (lv_at hl 3 rfl) ?_
  refine lv_iconst (v := 2) M.1 M.2.1 dL_law_177 (by decide) ?_
  refine lv_iadd M.1 M.2.1 dL_law_178 ?_
  refine va_sld M.1 M.2.1 hX hbl hbA hB.2 (show vp_in (nI i + 2) L from lw_in (k := 2) (by decide) hi hL) dL_law_179 ?_
  refine x_callI (x_runV M K hB hl.1 [.int (xs (nI i + 1).toNatClampNeg), .int (xs (nI i + 2).toNatClampNeg)] (rest := []) rfl (c_X4_addTask l Γ (xs (nI i + 1).toNatClampNeg) (xs (nI i + 2).toNatClampNeg) σ (r, σ1) h1) cz_X4_addTask (x_recv K hB isK_0.2 (ent_4 isK_0.1) rfl) ld_2 ⟨rfl, rfl, (Nat.le_of_ble_eq_true rfl), (Nat.le_of_ble_eq_true rfl)⟩ (Nat.le_of_ble_eq_true rfl) ⟨(Nat.le_of_ble_eq_true rfl), (Nat.le_of_ble_eq_true rfl)⟩ dL_law_180) hB (fun H locs hB => ?_)
  refine lv_aload_n M.1 M.2.1 dL_law_183 rfl (lv_at hl 2 rfl) ?_
  refine lv_aload_n M.1 M.2.1 dL_law_184 rfl (lv_at hl 0 rfl) ?_
  refine lv_iload_n M.1 M.2.1 dL_law_185 rfl (lv_at hl 3 rfl) ?_
  refine lv_iconst (v := 1) M.1 M.2.1 dL_law_186 (by decide) ?_
  refine lv_iadd M.1 M.2.1 dL_law_187 ?_
  refine va_sld M.1 M.2.1 hX hbl hbA hB.2 (show vp_in (nI i + 1) L from lw_in (k := 1) (by decide) hi hL) dL_law_188 ?_
  refine lv_aload_n M.1 M.2.1 dL_law_189 rfl (lv_at hl 0 rfl) ?_
  refine lv_iload_n M.1 M.2.1 dL_law_190 rfl (lv_at hl 3 rfl) ?_
  refine lv_iconst (v := 2) M.1 M.2.1 dL_law_191 (by decide) ?_
  refine lv_iadd M.1 M.2.1 dL_law_192 ?_
  refine va_sld M.1 M.2.1 hX hbl hbA hB.2 (show vp_in (nI i + 2) L from lw_in (k := 2) (by decide) hi hL) dL_law_193 ?_
  refine x_callI (x_runV M K hB hl.1 [.int (xs (nI i + 1).toNatClampNeg), .int (xs (nI i + 2).toNatClampNeg)] (rest := [.int r]) rfl (c_X5_addTask l Γ (xs (nI i + 1).toNatClampNeg) (xs (nI i + 2).toNatClampNeg) σ1 (r, σ2) h2) cz_X5_addTask (x_recv K hB isK_150.2 (ent_5 isK_150.1) rfl) ld_3 ⟨rfl, rfl, (Nat.le_of_ble_eq_true rfl), (Nat.le_of_ble_eq_true rfl)⟩ (Nat.le_of_ble_eq_true rfl) ⟨(Nat.le_of_ble_eq_true rfl), (Nat.le_of_ble_eq_true rfl)⟩ dL_law_194) hB (fun H locs hB => ?_)
  exact lv_icmp_eq (tgt := 742) M.1 M.2.1 dL_law_197 (by decide) (fun _ => nxt σ2 _ _ h3 hB) (fun h => absurd rfl h)
set_option maxHeartbeats 4000000 in
set_option maxRecDepth 100000 in
theorem lw_c2 {p : Program} {l : Launch} {e : Env} {s : State} {m : MethodId} {args : Array Value} {below : List Frame} {meth : Method} {c : Code} {Γ : GG} {rt : Option FieldType} {b L i : Nat} {xs : Nat → Int32} {σ : Sg} {H : Heap} {locs : List Loc} {ls : Array Slot} {Q : State → Prop} (M : MX R_law cL_law 4 rt p s m args meth c) (K : KK Γ s s.heap) (hX : va_X b L xs s s.heap) (hbl : b < s.heap.size) (hbA : ¬ AD Γ b) (hi : i + 6 ≤ L) (hL : L ≤ 3072) (hB : Bd Γ σ s H locs) (hI : INV σ) (hl : lv_has ls 4 [(0, .ref b), (1, .ref (Γ.1 0)), (2, .ref (Γ.1 150)), (3, .int (nI i))]) (nxt : ∀ (σ' : Sg) (H' : Heap) (locs' : List Loc), INV σ' → Bd Γ σ' s H' locs' → W p l e room_1 s m args below meth c H' locs' 157 2581 Q (F0 m 742 ls [])) : W p l e room_1 s m args below meth c H locs 157 2581 Q (F0 m 202 ls []) := by
  obtain ⟨r, σ1, σ2, h1, h2, h3⟩ := ((ag_set (xs (nI i + 1).toNatClampNeg) (xs (nI i + 2).toNatClampNeg) (xs (nI i + 3).toNatClampNeg)).go) σ hI
  refine lv_aload_n M.1 M.2.1 dL_law_202 rfl (lv_at hl 1 rfl) ?_
  refine lv_aload_n M.1 M.2.1 dL_law_203 rfl (lv_at hl 0 rfl) ?_
  refine lv_iload_n M.1 M.2.1 dL_law_204 rfl (lv_at hl 3 rfl) ?_
  refine lv_iconst (v := 1) M.1 M.2.1 dL_law_205 (by decide) ?_
  refine lv_iadd M.1 M.2.1 dL_law_206 ?_
  refine va_sld M.1 M.2.1 hX hbl hbA hB.2 (show vp_in (nI i + 1) L from lw_in (k := 1) (by decide) hi hL) dL_law_207 ?_
  refine lv_aload_n M.1 M.2.1 dL_law_208 rfl (lv_at hl 0 rfl) ?_
  refine lv_iload_n M.1 M.2.1 dL_law_209 rfl (lv_at hl 3 rfl) ?_
  refine lv_iconst (v := 2) M.1 M.2.1 dL_law_210 (by decide) ?_
  refine lv_iadd M.1 M.2.1 dL_law_211 ?_
  refine va_sld M.1 M.2.1 hX hbl hbA hB.2 (show vp_in (nI i + 2) L from lw_in (k := 2) (by decide) hi hL) dL_law_212 ?_
  refine lv_aload_n M.1 M.2.1 dL_law_213 rfl (lv_at hl 0 rfl) ?_
  refine lv_iload_n M.1 M.2.1 dL_law_214 rfl (lv_at hl 3 rfl) ?_
  refine lv_iconst (v := 3) M.1 M.2.1 dL_law_215 (by decide) ?_
  refine lv_iadd M.1 M.2.1 dL_law_216 ?_
  refine va_sld M.1 M.2.1 hX hbl hbA hB.2 (show vp_in (nI i + 3) L from lw_in (k := 3) (by decide) hi hL) dL_law_217 ?_
  refine x_callI (x_runV M K hB hl.1 [.int (xs (nI i + 1).toNatClampNeg), .int (xs (nI i + 2).toNatClampNeg), .int (xs (nI i + 3).toNatClampNeg)] (rest := []) rfl (c_X4_set l Γ (xs (nI i + 1).toNatClampNeg) (xs (nI i + 2).toNatClampNeg) (xs (nI i + 3).toNatClampNeg) σ (r, σ1) h1) cz_X4_set (x_recv K hB isK_0.2 (ent_4 isK_0.1) rfl) ld_4 ⟨rfl, rfl, (Nat.le_of_ble_eq_true rfl), (Nat.le_of_ble_eq_true rfl)⟩ (Nat.le_of_ble_eq_true rfl) ⟨(Nat.le_of_ble_eq_true rfl), (Nat.le_of_ble_eq_true rfl)⟩ dL_law_218) hB (fun H locs hB => ?_)
  refine lv_aload_n M.1 M.2.1 dL_law_221 rfl (lv_at hl 2 rfl) ?_
  refine lv_aload_n M.1 M.2.1 dL_law_222 rfl (lv_at hl 0 rfl) ?_
  refine lv_iload_n M.1 M.2.1 dL_law_223 rfl (lv_at hl 3 rfl) ?_
  refine lv_iconst (v := 1) M.1 M.2.1 dL_law_224 (by decide) ?_
  refine lv_iadd M.1 M.2.1 dL_law_225 ?_
  refine va_sld M.1 M.2.1 hX hbl hbA hB.2 (show vp_in (nI i + 1) L from lw_in (k := 1) (by decide) hi hL) dL_law_226 ?_
  refine lv_aload_n M.1 M.2.1 dL_law_227 rfl (lv_at hl 0 rfl) ?_
  refine lv_iload_n M.1 M.2.1 dL_law_228 rfl (lv_at hl 3 rfl) ?_
  refine lv_iconst (v := 2) M.1 M.2.1 dL_law_229 (by decide) ?_
  refine lv_iadd M.1 M.2.1 dL_law_230 ?_
  refine va_sld M.1 M.2.1 hX hbl hbA hB.2 (show vp_in (nI i + 2) L from lw_in (k := 2) (by decide) hi hL) dL_law_231 ?_
  refine lv_aload_n M.1 M.2.1 dL_law_232 rfl (lv_at hl 0 rfl) ?_
  refine lv_iload_n M.1 M.2.1 dL_law_233 rfl (lv_at hl 3 rfl) ?_
  refine lv_iconst (v := 3) M.1 M.2.1 dL_law_234 (by decide) ?_
  refine lv_iadd M.1 M.2.1 dL_law_235 ?_
  refine va_sld M.1 M.2.1 hX hbl hbA hB.2 (show vp_in (nI i + 3) L from lw_in (k := 3) (by decide) hi hL) dL_law_236 ?_
  refine x_callI (x_runV M K hB hl.1 [.int (xs (nI i + 1).toNatClampNeg), .int (xs (nI i + 2).toNatClampNeg), .int (xs (nI i + 3).toNatClampNeg)] (rest := [.int r]) rfl (c_X5_set l Γ (xs (nI i + 1).toNatClampNeg) (xs (nI i + 2).toNatClampNeg) (xs (nI i + 3).toNatClampNeg) σ1 (r, σ2) h2) cz_X5_set (x_recv K hB isK_150.2 (ent_5 isK_150.1) rfl) ld_5 ⟨rfl, rfl, (Nat.le_of_ble_eq_true rfl), (Nat.le_of_ble_eq_true rfl)⟩ (Nat.le_of_ble_eq_true rfl) ⟨(Nat.le_of_ble_eq_true rfl), (Nat.le_of_ble_eq_true rfl)⟩ dL_law_237) hB (fun H locs hB => ?_)
  exact lv_icmp_eq (tgt := 742) M.1 M.2.1 dL_law_240 (by decide) (fun _ => nxt σ2 _ _ h3 hB) (fun h => absurd rfl h)
set_option maxHeartbeats 4000000 in
set_option maxRecDepth 100000 in
theorem lw_c3 {p : Program} {l : Launch} {e : Env} {s : State} {m : MethodId} {args : Array Value} {below : List Frame} {meth : Method} {c : Code} {Γ : GG} {rt : Option FieldType} {b L i : Nat} {xs : Nat → Int32} {σ : Sg} {H : Heap} {locs : List Loc} {ls : Array Slot} {Q : State → Prop} (M : MX R_law cL_law 4 rt p s m args meth c) (K : KK Γ s s.heap) (hX : va_X b L xs s s.heap) (hbl : b < s.heap.size) (hbA : ¬ AD Γ b) (hi : i + 6 ≤ L) (hL : L ≤ 3072) (hB : Bd Γ σ s H locs) (hI : INV σ) (hl : lv_has ls 4 [(0, .ref b), (1, .ref (Γ.1 0)), (2, .ref (Γ.1 150)), (3, .int (nI i))]) (nxt : ∀ (σ' : Sg) (H' : Heap) (locs' : List Loc), INV σ' → Bd Γ σ' s H' locs' → W p l e room_1 s m args below meth c H' locs' 157 2581 Q (F0 m 742 ls [])) : W p l e room_1 s m args below meth c H locs 157 2581 Q (F0 m 245 ls []) := by
  obtain ⟨r, σ1, σ2, h1, h2, h3⟩ := ((ag_putFault (xs (nI i + 1).toNatClampNeg) (xs (nI i + 2).toNatClampNeg) (xs (nI i + 3).toNatClampNeg) (xs (nI i + 4).toNatClampNeg) (xs (nI i + 5).toNatClampNeg)).go) σ hI
  refine lv_aload_n M.1 M.2.1 dL_law_245 rfl (lv_at hl 1 rfl) ?_
  refine lv_aload_n M.1 M.2.1 dL_law_246 rfl (lv_at hl 0 rfl) ?_
  refine lv_iload_n M.1 M.2.1 dL_law_247 rfl (lv_at hl 3 rfl) ?_
  refine lv_iconst (v := 1) M.1 M.2.1 dL_law_248 (by decide) ?_
  refine lv_iadd M.1 M.2.1 dL_law_249 ?_
  refine va_sld M.1 M.2.1 hX hbl hbA hB.2 (show vp_in (nI i + 1) L from lw_in (k := 1) (by decide) hi hL) dL_law_250 ?_
  refine lv_aload_n M.1 M.2.1 dL_law_251 rfl (lv_at hl 0 rfl) ?_
  refine lv_iload_n M.1 M.2.1 dL_law_252 rfl (lv_at hl 3 rfl) ?_
  refine lv_iconst (v := 2) M.1 M.2.1 dL_law_253 (by decide) ?_
  refine lv_iadd M.1 M.2.1 dL_law_254 ?_
  refine va_sld M.1 M.2.1 hX hbl hbA hB.2 (show vp_in (nI i + 2) L from lw_in (k := 2) (by decide) hi hL) dL_law_255 ?_
  refine lv_aload_n M.1 M.2.1 dL_law_256 rfl (lv_at hl 0 rfl) ?_
  refine lv_iload_n M.1 M.2.1 dL_law_257 rfl (lv_at hl 3 rfl) ?_
  refine lv_iconst (v := 3) M.1 M.2.1 dL_law_258 (by decide) ?_
  refine lv_iadd M.1 M.2.1 dL_law_259 ?_
  refine va_sld M.1 M.2.1 hX hbl hbA hB.2 (show vp_in (nI i + 3) L from lw_in (k := 3) (by decide) hi hL) dL_law_260 ?_
  refine lv_aload_n M.1 M.2.1 dL_law_261 rfl (lv_at hl 0 rfl) ?_
  refine lv_iload_n M.1 M.2.1 dL_law_262 rfl (lv_at hl 3 rfl) ?_
  refine lv_iconst (v := 4) M.1 M.2.1 dL_law_263 (by decide) ?_
  refine lv_iadd M.1 M.2.1 dL_law_264 ?_
  refine va_sld M.1 M.2.1 hX hbl hbA hB.2 (show vp_in (nI i + 4) L from lw_in (k := 4) (by decide) hi hL) dL_law_265 ?_
  refine lv_aload_n M.1 M.2.1 dL_law_266 rfl (lv_at hl 0 rfl) ?_
  refine lv_iload_n M.1 M.2.1 dL_law_267 rfl (lv_at hl 3 rfl) ?_
  refine lv_iconst (v := 5) M.1 M.2.1 dL_law_268 (by decide) ?_
  refine lv_iadd M.1 M.2.1 dL_law_269 ?_
  refine va_sld M.1 M.2.1 hX hbl hbA hB.2 (show vp_in (nI i + 5) L from lw_in (k := 5) (by decide) hi hL) dL_law_270 ?_
  refine x_callI (x_runV M K hB hl.1 [.int (xs (nI i + 1).toNatClampNeg), .int (xs (nI i + 2).toNatClampNeg), .int (xs (nI i + 3).toNatClampNeg), .int (xs (nI i + 4).toNatClampNeg), .int (xs (nI i + 5).toNatClampNeg)] (rest := []) rfl (c_X4_putFault l Γ (xs (nI i + 1).toNatClampNeg) (xs (nI i + 2).toNatClampNeg) (xs (nI i + 3).toNatClampNeg) (xs (nI i + 4).toNatClampNeg) (xs (nI i + 5).toNatClampNeg) σ (r, σ1) h1) cz_X4_putFault (x_recv K hB isK_0.2 (ent_4 isK_0.1) rfl) ld_6 ⟨rfl, rfl, (Nat.le_of_ble_eq_true rfl), (Nat.le_of_ble_eq_true rfl)⟩ (Nat.le_of_ble_eq_true rfl) ⟨(Nat.le_of_ble_eq_true rfl), (Nat.le_of_ble_eq_true rfl)⟩ dL_law_271) hB (fun H locs hB => ?_)
  refine lv_aload_n M.1 M.2.1 dL_law_274 rfl (lv_at hl 2 rfl) ?_
  refine lv_aload_n M.1 M.2.1 dL_law_275 rfl (lv_at hl 0 rfl) ?_
  refine lv_iload_n M.1 M.2.1 dL_law_276 rfl (lv_at hl 3 rfl) ?_
  refine lv_iconst (v := 1) M.1 M.2.1 dL_law_277 (by decide) ?_
  refine lv_iadd M.1 M.2.1 dL_law_278 ?_
  refine va_sld M.1 M.2.1 hX hbl hbA hB.2 (show vp_in (nI i + 1) L from lw_in (k := 1) (by decide) hi hL) dL_law_279 ?_
  refine lv_aload_n M.1 M.2.1 dL_law_280 rfl (lv_at hl 0 rfl) ?_
  refine lv_iload_n M.1 M.2.1 dL_law_281 rfl (lv_at hl 3 rfl) ?_
  refine lv_iconst (v := 2) M.1 M.2.1 dL_law_282 (by decide) ?_
  refine lv_iadd M.1 M.2.1 dL_law_283 ?_
  refine va_sld M.1 M.2.1 hX hbl hbA hB.2 (show vp_in (nI i + 2) L from lw_in (k := 2) (by decide) hi hL) dL_law_284 ?_
  refine lv_aload_n M.1 M.2.1 dL_law_285 rfl (lv_at hl 0 rfl) ?_
  refine lv_iload_n M.1 M.2.1 dL_law_286 rfl (lv_at hl 3 rfl) ?_
  refine lv_iconst (v := 3) M.1 M.2.1 dL_law_287 (by decide) ?_
  refine lv_iadd M.1 M.2.1 dL_law_288 ?_
  refine va_sld M.1 M.2.1 hX hbl hbA hB.2 (show vp_in (nI i + 3) L from lw_in (k := 3) (by decide) hi hL) dL_law_289 ?_
  refine lv_aload_n M.1 M.2.1 dL_law_290 rfl (lv_at hl 0 rfl) ?_
  refine lv_iload_n M.1 M.2.1 dL_law_291 rfl (lv_at hl 3 rfl) ?_
  refine lv_iconst (v := 4) M.1 M.2.1 dL_law_292 (by decide) ?_
  refine lv_iadd M.1 M.2.1 dL_law_293 ?_
  refine va_sld M.1 M.2.1 hX hbl hbA hB.2 (show vp_in (nI i + 4) L from lw_in (k := 4) (by decide) hi hL) dL_law_294 ?_
  refine lv_aload_n M.1 M.2.1 dL_law_295 rfl (lv_at hl 0 rfl) ?_
  refine lv_iload_n M.1 M.2.1 dL_law_296 rfl (lv_at hl 3 rfl) ?_
  refine lv_iconst (v := 5) M.1 M.2.1 dL_law_297 (by decide) ?_
  refine lv_iadd M.1 M.2.1 dL_law_298 ?_
  refine va_sld M.1 M.2.1 hX hbl hbA hB.2 (show vp_in (nI i + 5) L from lw_in (k := 5) (by decide) hi hL) dL_law_299 ?_
  refine x_callI (x_runV M K hB hl.1 [.int (xs (nI i + 1).toNatClampNeg), .int (xs (nI i + 2).toNatClampNeg), .int (xs (nI i + 3).toNatClampNeg), .int (xs (nI i + 4).toNatClampNeg), .int (xs (nI i + 5).toNatClampNeg)] (rest := [.int r]) rfl (c_X5_putFault l Γ (xs (nI i + 1).toNatClampNeg) (xs (nI i + 2).toNatClampNeg) (xs (nI i + 3).toNatClampNeg) (xs (nI i + 4).toNatClampNeg) (xs (nI i + 5).toNatClampNeg) σ1 (r, σ2) h2) cz_X5_putFault (x_recv K hB isK_150.2 (ent_5 isK_150.1) rfl) ld_7 ⟨rfl, rfl, (Nat.le_of_ble_eq_true rfl), (Nat.le_of_ble_eq_true rfl)⟩ (Nat.le_of_ble_eq_true rfl) ⟨(Nat.le_of_ble_eq_true rfl), (Nat.le_of_ble_eq_true rfl)⟩ dL_law_300) hB (fun H locs hB => ?_)
  exact lv_icmp_eq (tgt := 742) M.1 M.2.1 dL_law_303 (by decide) (fun _ => nxt σ2 _ _ h3 hB) (fun h => absurd rfl h)
set_option maxHeartbeats 4000000 in
set_option maxRecDepth 100000 in
theorem lw_c4 {p : Program} {l : Launch} {e : Env} {s : State} {m : MethodId} {args : Array Value} {below : List Frame} {meth : Method} {c : Code} {Γ : GG} {rt : Option FieldType} {b L i : Nat} {xs : Nat → Int32} {σ : Sg} {H : Heap} {locs : List Loc} {ls : Array Slot} {Q : State → Prop} (M : MX R_law cL_law 4 rt p s m args meth c) (K : KK Γ s s.heap) (hX : va_X b L xs s s.heap) (hbl : b < s.heap.size) (hbA : ¬ AD Γ b) (hi : i + 6 ≤ L) (hL : L ≤ 3072) (hB : Bd Γ σ s H locs) (hI : INV σ) (hl : lv_has ls 4 [(0, .ref b), (1, .ref (Γ.1 0)), (2, .ref (Γ.1 150)), (3, .int (nI i))]) (nxt : ∀ (σ' : Sg) (H' : Heap) (locs' : List Loc), INV σ' → Bd Γ σ' s H' locs' → W p l e room_1 s m args below meth c H' locs' 157 2581 Q (F0 m 742 ls [])) : W p l e room_1 s m args below meth c H locs 157 2581 Q (F0 m 308 ls []) := by
  obtain ⟨r, σ1, σ2, h1, h2, h3⟩ := (go_put (((xs (nI i + 1).toNatClampNeg).toInt64 <<< ((32 : Int32).toInt64 &&& 63)) ||| ((xs (nI i + 2).toNatClampNeg).toInt64 &&& 4294967295))) σ hI
  refine lv_aload_n M.1 M.2.1 dL_law_308 rfl (lv_at hl 1 rfl) ?_
  refine lv_aload_n M.1 M.2.1 dL_law_309 rfl (lv_at hl 0 rfl) ?_
  refine lv_iload_n M.1 M.2.1 dL_law_310 rfl (lv_at hl 3 rfl) ?_
  refine lv_iconst (v := 1) M.1 M.2.1 dL_law_311 (by decide) ?_
  refine lv_iadd M.1 M.2.1 dL_law_312 ?_
  refine va_sld M.1 M.2.1 hX hbl hbA hB.2 (show vp_in (nI i + 1) L from lw_in (k := 1) (by decide) hi hL) dL_law_313 ?_
  refine lv_i2l (v := (xs (nI i + 1).toNatClampNeg).toInt64) M.1 M.2.1 dL_law_314 rfl ?_
  refine lv_bipush (v := 32) M.1 M.2.1 dL_law_315 (by decide) ?_
  refine lv_lshl (v := (xs (nI i + 1).toNatClampNeg).toInt64 <<< ((32 : Int32).toInt64 &&& 63)) M.1 M.2.1 dL_law_317 rfl ?_
  refine lv_aload_n M.1 M.2.1 dL_law_318 rfl (lv_at hl 0 rfl) ?_
  refine lv_iload_n M.1 M.2.1 dL_law_319 rfl (lv_at hl 3 rfl) ?_
  refine lv_iconst (v := 2) M.1 M.2.1 dL_law_320 (by decide) ?_
  refine lv_iadd M.1 M.2.1 dL_law_321 ?_
  refine va_sld M.1 M.2.1 hX hbl hbA hB.2 (show vp_in (nI i + 2) L from lw_in (k := 2) (by decide) hi hL) dL_law_322 ?_
  refine lv_i2l (v := (xs (nI i + 2).toNatClampNeg).toInt64) M.1 M.2.1 dL_law_323 rfl ?_
  refine x_ldc2 M ld_8 dL_law_324 ?_
  refine lv_land M.1 M.2.1 dL_law_327 ?_
  refine lv_lor M.1 M.2.1 dL_law_328 ?_
  refine x_callI (x_runV M K hB hl.1 [.long (((xs (nI i + 1).toNatClampNeg).toInt64 <<< ((32 : Int32).toInt64 &&& 63)) ||| ((xs (nI i + 2).toNatClampNeg).toInt64 &&& 4294967295))] (rest := []) rfl (c_X4_put l Γ (((xs (nI i + 1).toNatClampNeg).toInt64 <<< ((32 : Int32).toInt64 &&& 63)) ||| ((xs (nI i + 2).toNatClampNeg).toInt64 &&& 4294967295)) σ (r, σ1) h1) cz_X4_put (x_recv K hB isK_0.2 (ent_4 isK_0.1) rfl) ld_9 ⟨rfl, rfl, (Nat.le_of_ble_eq_true rfl), (Nat.le_of_ble_eq_true rfl)⟩ (Nat.le_of_ble_eq_true rfl) ⟨(Nat.le_of_ble_eq_true rfl), (Nat.le_of_ble_eq_true rfl)⟩ dL_law_329) hB (fun H locs hB => ?_)
  refine lv_aload_n M.1 M.2.1 dL_law_332 rfl (lv_at hl 2 rfl) ?_
  refine lv_aload_n M.1 M.2.1 dL_law_333 rfl (lv_at hl 0 rfl) ?_
  refine lv_iload_n M.1 M.2.1 dL_law_334 rfl (lv_at hl 3 rfl) ?_
  refine lv_iconst (v := 1) M.1 M.2.1 dL_law_335 (by decide) ?_
  refine lv_iadd M.1 M.2.1 dL_law_336 ?_
  refine va_sld M.1 M.2.1 hX hbl hbA hB.2 (show vp_in (nI i + 1) L from lw_in (k := 1) (by decide) hi hL) dL_law_337 ?_
  refine lv_i2l (v := (xs (nI i + 1).toNatClampNeg).toInt64) M.1 M.2.1 dL_law_338 rfl ?_
  refine lv_bipush (v := 32) M.1 M.2.1 dL_law_339 (by decide) ?_
  refine lv_lshl (v := (xs (nI i + 1).toNatClampNeg).toInt64 <<< ((32 : Int32).toInt64 &&& 63)) M.1 M.2.1 dL_law_341 rfl ?_
  refine lv_aload_n M.1 M.2.1 dL_law_342 rfl (lv_at hl 0 rfl) ?_
  refine lv_iload_n M.1 M.2.1 dL_law_343 rfl (lv_at hl 3 rfl) ?_
  refine lv_iconst (v := 2) M.1 M.2.1 dL_law_344 (by decide) ?_
  refine lv_iadd M.1 M.2.1 dL_law_345 ?_
  refine va_sld M.1 M.2.1 hX hbl hbA hB.2 (show vp_in (nI i + 2) L from lw_in (k := 2) (by decide) hi hL) dL_law_346 ?_
  refine lv_i2l (v := (xs (nI i + 2).toNatClampNeg).toInt64) M.1 M.2.1 dL_law_347 rfl ?_
  refine x_ldc2 M ld_8 dL_law_348 ?_
  refine lv_land M.1 M.2.1 dL_law_351 ?_
  refine lv_lor M.1 M.2.1 dL_law_352 ?_
  refine x_callI (x_runV M K hB hl.1 [.long (((xs (nI i + 1).toNatClampNeg).toInt64 <<< ((32 : Int32).toInt64 &&& 63)) ||| ((xs (nI i + 2).toNatClampNeg).toInt64 &&& 4294967295))] (rest := [.int r]) rfl (c_X5_put l Γ (((xs (nI i + 1).toNatClampNeg).toInt64 <<< ((32 : Int32).toInt64 &&& 63)) ||| ((xs (nI i + 2).toNatClampNeg).toInt64 &&& 4294967295)) σ1 (r, σ2) h2) cz_X5_put (x_recv K hB isK_150.2 (ent_5 isK_150.1) rfl) ld_10 ⟨rfl, rfl, (Nat.le_of_ble_eq_true rfl), (Nat.le_of_ble_eq_true rfl)⟩ (Nat.le_of_ble_eq_true rfl) ⟨(Nat.le_of_ble_eq_true rfl), (Nat.le_of_ble_eq_true rfl)⟩ dL_law_353) hB (fun H locs hB => ?_)
  exact lv_icmp_eq (tgt := 742) M.1 M.2.1 dL_law_356 (by decide) (fun _ => nxt σ2 _ _ h3 hB) (fun h => absurd rfl h)
set_option maxHeartbeats 4000000 in
set_option maxRecDepth 100000 in
theorem lw_c5 {p : Program} {l : Launch} {e : Env} {s : State} {m : MethodId} {args : Array Value} {below : List Frame} {meth : Method} {c : Code} {Γ : GG} {rt : Option FieldType} {b L i : Nat} {xs : Nat → Int32} {σ : Sg} {H : Heap} {locs : List Loc} {ls : Array Slot} {Q : State → Prop} (M : MX R_law cL_law 4 rt p s m args meth c) (K : KK Γ s s.heap) (hX : va_X b L xs s s.heap) (hbl : b < s.heap.size) (hbA : ¬ AD Γ b) (hi : i + 6 ≤ L) (hL : L ≤ 3072) (hB : Bd Γ σ s H locs) (hI : INV σ) (hl : lv_has ls 4 [(0, .ref b), (1, .ref (Γ.1 0)), (2, .ref (Γ.1 150)), (3, .int (nI i))]) (nxt : ∀ (σ' : Sg) (H' : Heap) (locs' : List Loc), INV σ' → Bd Γ σ' s H' locs' → W p l e room_1 s m args below meth c H' locs' 157 2581 Q (F0 m 742 ls [])) : W p l e room_1 s m args below meth c H locs 157 2581 Q (F0 m 361 ls []) := by
  obtain ⟨r, σ1, σ2, h1, h2, h3⟩ := go_wipe σ hI
  refine lv_aload_n M.1 M.2.1 dL_law_361 rfl (lv_at hl 1 rfl) ?_
  refine x_callI (x_runV M K hB hl.1 [] (rest := []) rfl (c_X4_wipe l Γ  σ (r, σ1) h1) cz_X4_wipe (x_recv K hB isK_0.2 (ent_4 isK_0.1) rfl) ld_11 ⟨rfl, rfl, (Nat.le_of_ble_eq_true rfl), (Nat.le_of_ble_eq_true rfl)⟩ (Nat.le_of_ble_eq_true rfl) ⟨(Nat.le_of_ble_eq_true rfl), (Nat.le_of_ble_eq_true rfl)⟩ dL_law_362) hB (fun H locs hB => ?_)
  refine lv_aload_n M.1 M.2.1 dL_law_365 rfl (lv_at hl 2 rfl) ?_
  refine x_callI (x_runV M K hB hl.1 [] (rest := [.int r]) rfl (c_X5_wipe l Γ  σ1 (r, σ2) h2) cz_X5_wipe (x_recv K hB isK_150.2 (ent_5 isK_150.1) rfl) ld_12 ⟨rfl, rfl, (Nat.le_of_ble_eq_true rfl), (Nat.le_of_ble_eq_true rfl)⟩ (Nat.le_of_ble_eq_true rfl) ⟨(Nat.le_of_ble_eq_true rfl), (Nat.le_of_ble_eq_true rfl)⟩ dL_law_366) hB (fun H locs hB => ?_)
  exact lv_icmp_eq (tgt := 742) M.1 M.2.1 dL_law_369 (by decide) (fun _ => nxt σ2 _ _ h3 hB) (fun h => absurd rfl h)
set_option maxHeartbeats 4000000 in
set_option maxRecDepth 100000 in
theorem lw_c6 {p : Program} {l : Launch} {e : Env} {s : State} {m : MethodId} {args : Array Value} {below : List Frame} {meth : Method} {c : Code} {Γ : GG} {rt : Option FieldType} {b L i : Nat} {xs : Nat → Int32} {σ : Sg} {H : Heap} {locs : List Loc} {ls : Array Slot} {Q : State → Prop} (M : MX R_law cL_law 4 rt p s m args meth c) (K : KK Γ s s.heap) (hX : va_X b L xs s s.heap) (hbl : b < s.heap.size) (hbA : ¬ AD Γ b) (hi : i + 6 ≤ L) (hL : L ≤ 3072) (hB : Bd Γ σ s H locs) (hI : INV σ) (hl : lv_has ls 4 [(0, .ref b), (1, .ref (Γ.1 0)), (2, .ref (Γ.1 150)), (3, .int (nI i))]) (nxt : ∀ (σ' : Sg) (H' : Heap) (locs' : List Loc), INV σ' → Bd Γ σ' s H' locs' → W p l e room_1 s m args below meth c H' locs' 157 2581 Q (F0 m 742 ls [])) : W p l e room_1 s m args below meth c H locs 157 2581 Q (F0 m 374 ls []) := by
  obtain ⟨r, σ1, σ2, h1, h2, h3⟩ := go_position σ hI
  refine lv_aload_n M.1 M.2.1 dL_law_374 rfl (lv_at hl 1 rfl) ?_
  refine x_callI (x_runV M K hB hl.1 [] (rest := []) rfl (c_X4_position l Γ  σ (r, σ1) h1) cz_X4_position (x_recv K hB isK_0.2 (ent_4 isK_0.1) rfl) ld_13 ⟨rfl, rfl, (Nat.le_of_ble_eq_true rfl), (Nat.le_of_ble_eq_true rfl)⟩ (Nat.le_of_ble_eq_true rfl) ⟨(Nat.le_of_ble_eq_true rfl), (Nat.le_of_ble_eq_true rfl)⟩ dL_law_375) hB (fun H locs hB => ?_)
  refine lv_aload_n M.1 M.2.1 dL_law_378 rfl (lv_at hl 2 rfl) ?_
  refine x_callI (x_runV M K hB hl.1 [] (rest := [.int r]) rfl (c_X5_position l Γ  σ1 (r, σ2) h2) cz_X5_position (x_recv K hB isK_150.2 (ent_5 isK_150.1) rfl) ld_14 ⟨rfl, rfl, (Nat.le_of_ble_eq_true rfl), (Nat.le_of_ble_eq_true rfl)⟩ (Nat.le_of_ble_eq_true rfl) ⟨(Nat.le_of_ble_eq_true rfl), (Nat.le_of_ble_eq_true rfl)⟩ dL_law_379) hB (fun H locs hB => ?_)
  exact lv_icmp_eq (tgt := 742) M.1 M.2.1 dL_law_382 (by decide) (fun _ => nxt σ2 _ _ h3 hB) (fun h => absurd rfl h)
set_option maxHeartbeats 4000000 in
set_option maxRecDepth 100000 in
theorem lw_c7 {p : Program} {l : Launch} {e : Env} {s : State} {m : MethodId} {args : Array Value} {below : List Frame} {meth : Method} {c : Code} {Γ : GG} {rt : Option FieldType} {b L i : Nat} {xs : Nat → Int32} {σ : Sg} {H : Heap} {locs : List Loc} {ls : Array Slot} {Q : State → Prop} (M : MX R_law cL_law 4 rt p s m args meth c) (K : KK Γ s s.heap) (hX : va_X b L xs s s.heap) (hbl : b < s.heap.size) (hbA : ¬ AD Γ b) (hi : i + 6 ≤ L) (hL : L ≤ 3072) (hB : Bd Γ σ s H locs) (hI : INV σ) (hl : lv_has ls 4 [(0, .ref b), (1, .ref (Γ.1 0)), (2, .ref (Γ.1 150)), (3, .int (nI i))]) (nxt : ∀ (σ' : Sg) (H' : Heap) (locs' : List Loc), INV σ' → Bd Γ σ' s H' locs' → W p l e room_1 s m args below meth c H' locs' 157 2581 Q (F0 m 742 ls [])) : W p l e room_1 s m args below meth c H locs 157 2581 Q (F0 m 387 ls []) := by
  obtain ⟨r, σ1, σ2, h1, h2, h3⟩ := go_load σ hI
  refine lv_aload_n M.1 M.2.1 dL_law_387 rfl (lv_at hl 1 rfl) ?_
  refine x_callI (x_runV M K hB hl.1 [] (rest := []) rfl (c_X4_load l Γ  σ (r, σ1) h1) cz_X4_load (x_recv K hB isK_0.2 (ent_4 isK_0.1) rfl) ld_15 ⟨rfl, rfl, (Nat.le_of_ble_eq_true rfl), (Nat.le_of_ble_eq_true rfl)⟩ (Nat.le_of_ble_eq_true rfl) ⟨(Nat.le_of_ble_eq_true rfl), (Nat.le_of_ble_eq_true rfl)⟩ dL_law_388) hB (fun H locs hB => ?_)
  refine lv_aload_n M.1 M.2.1 dL_law_391 rfl (lv_at hl 2 rfl) ?_
  refine x_callI (x_runV M K hB hl.1 [] (rest := [.int r]) rfl (c_X5_load l Γ  σ1 (r, σ2) h2) cz_X5_load (x_recv K hB isK_150.2 (ent_5 isK_150.1) rfl) ld_16 ⟨rfl, rfl, (Nat.le_of_ble_eq_true rfl), (Nat.le_of_ble_eq_true rfl)⟩ (Nat.le_of_ble_eq_true rfl) ⟨(Nat.le_of_ble_eq_true rfl), (Nat.le_of_ble_eq_true rfl)⟩ dL_law_392) hB (fun H locs hB => ?_)
  exact lv_icmp_eq (tgt := 742) M.1 M.2.1 dL_law_395 (by decide) (fun _ => nxt σ2 _ _ h3 hB) (fun h => absurd rfl h)
set_option maxHeartbeats 4000000 in
set_option maxRecDepth 100000 in
theorem lw_c8 {p : Program} {l : Launch} {e : Env} {s : State} {m : MethodId} {args : Array Value} {below : List Frame} {meth : Method} {c : Code} {Γ : GG} {rt : Option FieldType} {b L i : Nat} {xs : Nat → Int32} {σ : Sg} {H : Heap} {locs : List Loc} {ls : Array Slot} {Q : State → Prop} (M : MX R_law cL_law 4 rt p s m args meth c) (K : KK Γ s s.heap) (hX : va_X b L xs s s.heap) (hbl : b < s.heap.size) (hbA : ¬ AD Γ b) (hi : i + 6 ≤ L) (hL : L ≤ 3072) (hB : Bd Γ σ s H locs) (hI : INV σ) (hl : lv_has ls 4 [(0, .ref b), (1, .ref (Γ.1 0)), (2, .ref (Γ.1 150)), (3, .int (nI i))]) (nxt : ∀ (σ' : Sg) (H' : Heap) (locs' : List Loc), INV σ' → Bd Γ σ' s H' locs' → W p l e room_1 s m args below meth c H' locs' 157 2581 Q (F0 m 742 ls [])) : W p l e room_1 s m args below meth c H locs 157 2581 Q (F0 m 400 ls []) := by
  obtain ⟨r, σ1, σ2, h1, h2, h3⟩ := ((ag_run (xs (nI i + 1).toNatClampNeg)).go) σ hI
  refine lv_aload_n M.1 M.2.1 dL_law_400 rfl (lv_at hl 1 rfl) ?_
  refine lv_aload_n M.1 M.2.1 dL_law_401 rfl (lv_at hl 0 rfl) ?_
  refine lv_iload_n M.1 M.2.1 dL_law_402 rfl (lv_at hl 3 rfl) ?_
  refine lv_iconst (v := 1) M.1 M.2.1 dL_law_403 (by decide) ?_
  refine lv_iadd M.1 M.2.1 dL_law_404 ?_
  refine va_sld M.1 M.2.1 hX hbl hbA hB.2 (show vp_in (nI i + 1) L from lw_in (k := 1) (by decide) hi hL) dL_law_405 ?_
  refine x_callI (x_runV M K hB hl.1 [.int (xs (nI i + 1).toNatClampNeg)] (rest := []) rfl (c_X4_run l Γ (xs (nI i + 1).toNatClampNeg) σ (r, σ1) h1) cz_X4_run (x_recv K hB isK_0.2 (ent_4 isK_0.1) rfl) ld_17 ⟨rfl, rfl, (Nat.le_of_ble_eq_true rfl), (Nat.le_of_ble_eq_true rfl)⟩ (Nat.le_of_ble_eq_true rfl) ⟨(Nat.le_of_ble_eq_true rfl), (Nat.le_of_ble_eq_true rfl)⟩ dL_law_406) hB (fun H locs hB => ?_)
  refine lv_aload_n M.1 M.2.1 dL_law_409 rfl (lv_at hl 2 rfl) ?_
  refine lv_aload_n M.1 M.2.1 dL_law_410 rfl (lv_at hl 0 rfl) ?_
  refine lv_iload_n M.1 M.2.1 dL_law_411 rfl (lv_at hl 3 rfl) ?_
  refine lv_iconst (v := 1) M.1 M.2.1 dL_law_412 (by decide) ?_
  refine lv_iadd M.1 M.2.1 dL_law_413 ?_
  refine va_sld M.1 M.2.1 hX hbl hbA hB.2 (show vp_in (nI i + 1) L from lw_in (k := 1) (by decide) hi hL) dL_law_414 ?_
  refine x_callI (x_runV M K hB hl.1 [.int (xs (nI i + 1).toNatClampNeg)] (rest := [.int r]) rfl (c_X5_run l Γ (xs (nI i + 1).toNatClampNeg) σ1 (r, σ2) h2) cz_X5_run (x_recv K hB isK_150.2 (ent_5 isK_150.1) rfl) ld_18 ⟨rfl, rfl, (Nat.le_of_ble_eq_true rfl), (Nat.le_of_ble_eq_true rfl)⟩ (Nat.le_of_ble_eq_true rfl) ⟨(Nat.le_of_ble_eq_true rfl), (Nat.le_of_ble_eq_true rfl)⟩ dL_law_415) hB (fun H locs hB => ?_)
  exact lv_icmp_eq (tgt := 742) M.1 M.2.1 dL_law_418 (by decide) (fun _ => nxt σ2 _ _ h3 hB) (fun h => absurd rfl h)
set_option maxHeartbeats 4000000 in
set_option maxRecDepth 100000 in
theorem lw_c9 {p : Program} {l : Launch} {e : Env} {s : State} {m : MethodId} {args : Array Value} {below : List Frame} {meth : Method} {c : Code} {Γ : GG} {rt : Option FieldType} {b L i : Nat} {xs : Nat → Int32} {σ : Sg} {H : Heap} {locs : List Loc} {ls : Array Slot} {Q : State → Prop} (M : MX R_law cL_law 4 rt p s m args meth c) (K : KK Γ s s.heap) (hX : va_X b L xs s s.heap) (hbl : b < s.heap.size) (hbA : ¬ AD Γ b) (hi : i + 6 ≤ L) (hL : L ≤ 3072) (hB : Bd Γ σ s H locs) (hI : INV σ) (hl : lv_has ls 4 [(0, .ref b), (1, .ref (Γ.1 0)), (2, .ref (Γ.1 150)), (3, .int (nI i))]) (nxt : ∀ (σ' : Sg) (H' : Heap) (locs' : List Loc), INV σ' → Bd Γ σ' s H' locs' → W p l e room_1 s m args below meth c H' locs' 157 2581 Q (F0 m 742 ls [])) : W p l e room_1 s m args below meth c H locs 157 2581 Q (F0 m 423 ls []) := by
  obtain ⟨r, σ1, σ2, h1, h2, h3⟩ := ((ag_rtr (xs (nI i + 1).toNatClampNeg)).go) σ hI
  refine lv_aload_n M.1 M.2.1 dL_law_423 rfl (lv_at hl 1 rfl) ?_
  refine lv_aload_n M.1 M.2.1 dL_law_424 rfl (lv_at hl 0 rfl) ?_
  refine lv_iload_n M.1 M.2.1 dL_law_425 rfl (lv_at hl 3 rfl) ?_
  refine lv_iconst (v := 1) M.1 M.2.1 dL_law_426 (by decide) ?_
  refine lv_iadd M.1 M.2.1 dL_law_427 ?_
  refine va_sld M.1 M.2.1 hX hbl hbA hB.2 (show vp_in (nI i + 1) L from lw_in (k := 1) (by decide) hi hL) dL_law_428 ?_
  refine x_callI (x_runV M K hB hl.1 [.int (xs (nI i + 1).toNatClampNeg)] (rest := []) rfl (c_X4_runToReset l Γ (xs (nI i + 1).toNatClampNeg) σ (r, σ1) h1) cz_X4_runToReset (x_recv K hB isK_0.2 (ent_4 isK_0.1) rfl) ld_19 ⟨rfl, rfl, (Nat.le_of_ble_eq_true rfl), (Nat.le_of_ble_eq_true rfl)⟩ (Nat.le_of_ble_eq_true rfl) ⟨(Nat.le_of_ble_eq_true rfl), (Nat.le_of_ble_eq_true rfl)⟩ dL_law_429) hB (fun H locs hB => ?_)
  refine lv_aload_n M.1 M.2.1 dL_law_432 rfl (lv_at hl 2 rfl) ?_
  refine lv_aload_n M.1 M.2.1 dL_law_433 rfl (lv_at hl 0 rfl) ?_
  refine lv_iload_n M.1 M.2.1 dL_law_434 rfl (lv_at hl 3 rfl) ?_
  refine lv_iconst (v := 1) M.1 M.2.1 dL_law_435 (by decide) ?_
  refine lv_iadd M.1 M.2.1 dL_law_436 ?_
  refine va_sld M.1 M.2.1 hX hbl hbA hB.2 (show vp_in (nI i + 1) L from lw_in (k := 1) (by decide) hi hL) dL_law_437 ?_
  refine x_callI (x_runV M K hB hl.1 [.int (xs (nI i + 1).toNatClampNeg)] (rest := [.int r]) rfl (c_X5_runToReset l Γ (xs (nI i + 1).toNatClampNeg) σ1 (r, σ2) h2) cz_X5_runToReset (x_recv K hB isK_150.2 (ent_5 isK_150.1) rfl) ld_20 ⟨rfl, rfl, (Nat.le_of_ble_eq_true rfl), (Nat.le_of_ble_eq_true rfl)⟩ (Nat.le_of_ble_eq_true rfl) ⟨(Nat.le_of_ble_eq_true rfl), (Nat.le_of_ble_eq_true rfl)⟩ dL_law_438) hB (fun H locs hB => ?_)
  exact lv_icmp_eq (tgt := 742) M.1 M.2.1 dL_law_441 (by decide) (fun _ => nxt σ2 _ _ h3 hB) (fun h => absurd rfl h)
set_option maxHeartbeats 4000000 in
set_option maxRecDepth 100000 in
theorem lw_c10 {p : Program} {l : Launch} {e : Env} {s : State} {m : MethodId} {args : Array Value} {below : List Frame} {meth : Method} {c : Code} {Γ : GG} {rt : Option FieldType} {b L i : Nat} {xs : Nat → Int32} {σ : Sg} {H : Heap} {locs : List Loc} {ls : Array Slot} {Q : State → Prop} (M : MX R_law cL_law 4 rt p s m args meth c) (K : KK Γ s s.heap) (hX : va_X b L xs s s.heap) (hbl : b < s.heap.size) (hbA : ¬ AD Γ b) (hi : i + 6 ≤ L) (hL : L ≤ 3072) (hB : Bd Γ σ s H locs) (hI : INV σ) (hl : lv_has ls 4 [(0, .ref b), (1, .ref (Γ.1 0)), (2, .ref (Γ.1 150)), (3, .int (nI i))]) (nxt : ∀ (σ' : Sg) (H' : Heap) (locs' : List Loc), INV σ' → Bd Γ σ' s H' locs' → W p l e room_1 s m args below meth c H' locs' 157 2581 Q (F0 m 742 ls [])) : W p l e room_1 s m args below meth c H locs 157 2581 Q (F0 m 446 ls []) := by
  obtain ⟨r, σ1, σ2, h1, h2, h3⟩ := ag_kick.go σ hI
  refine lv_aload_n M.1 M.2.1 dL_law_446 rfl (lv_at hl 1 rfl) ?_
  refine x_callI (x_runV M K hB hl.1 [] (rest := []) rfl (c_X4_kick l Γ  σ (r, σ1) h1) cz_X4_kick (x_recv K hB isK_0.2 (ent_4 isK_0.1) rfl) ld_21 ⟨rfl, rfl, (Nat.le_of_ble_eq_true rfl), (Nat.le_of_ble_eq_true rfl)⟩ (Nat.le_of_ble_eq_true rfl) ⟨(Nat.le_of_ble_eq_true rfl), (Nat.le_of_ble_eq_true rfl)⟩ dL_law_447) hB (fun H locs hB => ?_)
  refine lv_aload_n M.1 M.2.1 dL_law_450 rfl (lv_at hl 2 rfl) ?_
  refine x_callI (x_runV M K hB hl.1 [] (rest := [.int r]) rfl (c_X5_kick l Γ  σ1 (r, σ2) h2) cz_X5_kick (x_recv K hB isK_150.2 (ent_5 isK_150.1) rfl) ld_22 ⟨rfl, rfl, (Nat.le_of_ble_eq_true rfl), (Nat.le_of_ble_eq_true rfl)⟩ (Nat.le_of_ble_eq_true rfl) ⟨(Nat.le_of_ble_eq_true rfl), (Nat.le_of_ble_eq_true rfl)⟩ dL_law_451) hB (fun H locs hB => ?_)
  exact lv_icmp_eq (tgt := 742) M.1 M.2.1 dL_law_454 (by decide) (fun _ => nxt σ2 _ _ h3 hB) (fun h => absurd rfl h)
set_option maxHeartbeats 4000000 in
set_option maxRecDepth 100000 in
theorem lw_c11 {p : Program} {l : Launch} {e : Env} {s : State} {m : MethodId} {args : Array Value} {below : List Frame} {meth : Method} {c : Code} {Γ : GG} {rt : Option FieldType} {b L i : Nat} {xs : Nat → Int32} {σ : Sg} {H : Heap} {locs : List Loc} {ls : Array Slot} {Q : State → Prop} (M : MX R_law cL_law 4 rt p s m args meth c) (K : KK Γ s s.heap) (hX : va_X b L xs s s.heap) (hbl : b < s.heap.size) (hbA : ¬ AD Γ b) (hi : i + 6 ≤ L) (hL : L ≤ 3072) (hB : Bd Γ σ s H locs) (hI : INV σ) (hl : lv_has ls 4 [(0, .ref b), (1, .ref (Γ.1 0)), (2, .ref (Γ.1 150)), (3, .int (nI i))]) (nxt : ∀ (σ' : Sg) (H' : Heap) (locs' : List Loc), INV σ' → Bd Γ σ' s H' locs' → W p l e room_1 s m args below meth c H' locs' 157 2581 Q (F0 m 742 ls [])) : W p l e room_1 s m args below meth c H locs 157 2581 Q (F0 m 459 ls []) := by
  obtain ⟨r, σ1, σ2, h1, h2, h3⟩ := ag_reset.go σ hI
  refine lv_aload_n M.1 M.2.1 dL_law_459 rfl (lv_at hl 1 rfl) ?_
  refine x_callI (x_runV M K hB hl.1 [] (rest := []) rfl (c_X4_reset l Γ  σ (r, σ1) h1) cz_X4_reset (x_recv K hB isK_0.2 (ent_4 isK_0.1) rfl) ld_23 ⟨rfl, rfl, (Nat.le_of_ble_eq_true rfl), (Nat.le_of_ble_eq_true rfl)⟩ (Nat.le_of_ble_eq_true rfl) ⟨(Nat.le_of_ble_eq_true rfl), (Nat.le_of_ble_eq_true rfl)⟩ dL_law_460) hB (fun H locs hB => ?_)
  refine lv_aload_n M.1 M.2.1 dL_law_463 rfl (lv_at hl 2 rfl) ?_
  refine x_callI (x_runV M K hB hl.1 [] (rest := [.int r]) rfl (c_X5_reset l Γ  σ1 (r, σ2) h2) cz_X5_reset (x_recv K hB isK_150.2 (ent_5 isK_150.1) rfl) ld_24 ⟨rfl, rfl, (Nat.le_of_ble_eq_true rfl), (Nat.le_of_ble_eq_true rfl)⟩ (Nat.le_of_ble_eq_true rfl) ⟨(Nat.le_of_ble_eq_true rfl), (Nat.le_of_ble_eq_true rfl)⟩ dL_law_464) hB (fun H locs hB => ?_)
  exact lv_icmp_eq (tgt := 742) M.1 M.2.1 dL_law_467 (by decide) (fun _ => nxt σ2 _ _ h3 hB) (fun h => absurd rfl h)
set_option maxHeartbeats 4000000 in
set_option maxRecDepth 100000 in
theorem lw_c12 {p : Program} {l : Launch} {e : Env} {s : State} {m : MethodId} {args : Array Value} {below : List Frame} {meth : Method} {c : Code} {Γ : GG} {rt : Option FieldType} {b L i : Nat} {xs : Nat → Int32} {σ : Sg} {H : Heap} {locs : List Loc} {ls : Array Slot} {Q : State → Prop} (M : MX R_law cL_law 4 rt p s m args meth c) (K : KK Γ s s.heap) (hX : va_X b L xs s s.heap) (hbl : b < s.heap.size) (hbA : ¬ AD Γ b) (hi : i + 6 ≤ L) (hL : L ≤ 3072) (hB : Bd Γ σ s H locs) (hI : INV σ) (hl : lv_has ls 4 [(0, .ref b), (1, .ref (Γ.1 0)), (2, .ref (Γ.1 150)), (3, .int (nI i))]) (nxt : ∀ (σ' : Sg) (H' : Heap) (locs' : List Loc), INV σ' → Bd Γ σ' s H' locs' → W p l e room_1 s m args below meth c H' locs' 157 2581 Q (F0 m 742 ls [])) : W p l e room_1 s m args below meth c H locs 157 2581 Q (F0 m 472 ls []) := by
  obtain ⟨r, σ1, σ2, h1, h2, h3⟩ := ag_power.go σ hI
  refine lv_aload_n M.1 M.2.1 dL_law_472 rfl (lv_at hl 1 rfl) ?_
  refine x_callI (x_runV M K hB hl.1 [] (rest := []) rfl (c_X4_powerCycle l Γ  σ (r, σ1) h1) cz_X4_powerCycle (x_recv K hB isK_0.2 (ent_4 isK_0.1) rfl) ld_25 ⟨rfl, rfl, (Nat.le_of_ble_eq_true rfl), (Nat.le_of_ble_eq_true rfl)⟩ (Nat.le_of_ble_eq_true rfl) ⟨(Nat.le_of_ble_eq_true rfl), (Nat.le_of_ble_eq_true rfl)⟩ dL_law_473) hB (fun H locs hB => ?_)
  refine lv_aload_n M.1 M.2.1 dL_law_476 rfl (lv_at hl 2 rfl) ?_
  refine x_callI (x_runV M K hB hl.1 [] (rest := [.int r]) rfl (c_X5_powerCycle l Γ  σ1 (r, σ2) h2) cz_X5_powerCycle (x_recv K hB isK_150.2 (ent_5 isK_150.1) rfl) ld_26 ⟨rfl, rfl, (Nat.le_of_ble_eq_true rfl), (Nat.le_of_ble_eq_true rfl)⟩ (Nat.le_of_ble_eq_true rfl) ⟨(Nat.le_of_ble_eq_true rfl), (Nat.le_of_ble_eq_true rfl)⟩ dL_law_477) hB (fun H locs hB => ?_)
  exact lv_icmp_eq (tgt := 742) M.1 M.2.1 dL_law_480 (by decide) (fun _ => nxt σ2 _ _ h3 hB) (fun h => absurd rfl h)
set_option maxHeartbeats 4000000 in
set_option maxRecDepth 100000 in
theorem lw_c13 {p : Program} {l : Launch} {e : Env} {s : State} {m : MethodId} {args : Array Value} {below : List Frame} {meth : Method} {c : Code} {Γ : GG} {rt : Option FieldType} {b L i : Nat} {xs : Nat → Int32} {σ : Sg} {H : Heap} {locs : List Loc} {ls : Array Slot} {Q : State → Prop} (M : MX R_law cL_law 4 rt p s m args meth c) (K : KK Γ s s.heap) (hX : va_X b L xs s s.heap) (hbl : b < s.heap.size) (hbA : ¬ AD Γ b) (hi : i + 6 ≤ L) (hL : L ≤ 3072) (hB : Bd Γ σ s H locs) (hI : INV σ) (hl : lv_has ls 4 [(0, .ref b), (1, .ref (Γ.1 0)), (2, .ref (Γ.1 150)), (3, .int (nI i))]) (nxt : ∀ (σ' : Sg) (H' : Heap) (locs' : List Loc), INV σ' → Bd Γ σ' s H' locs' → W p l e room_1 s m args below meth c H' locs' 157 2581 Q (F0 m 742 ls [])) : W p l e room_1 s m args below meth c H locs 157 2581 Q (F0 m 485 ls []) := by
  obtain ⟨r, σ1, σ2, h1, h2, h3⟩ := (go_state (xs (nI i + 1).toNatClampNeg)) σ hI
  refine lv_aload_n M.1 M.2.1 dL_law_485 rfl (lv_at hl 1 rfl) ?_
  refine lv_aload_n M.1 M.2.1 dL_law_486 rfl (lv_at hl 0 rfl) ?_
  refine lv_iload_n M.1 M.2.1 dL_law_487 rfl (lv_at hl 3 rfl) ?_
  refine lv_iconst (v := 1) M.1 M.2.1 dL_law_488 (by decide) ?_
  refine lv_iadd M.1 M.2.1 dL_law_489 ?_
  refine va_sld M.1 M.2.1 hX hbl hbA hB.2 (show vp_in (nI i + 1) L from lw_in (k := 1) (by decide) hi hL) dL_law_490 ?_
  refine x_callI (x_runV M K hB hl.1 [.int (xs (nI i + 1).toNatClampNeg)] (rest := []) rfl (c_X4_state l Γ (xs (nI i + 1).toNatClampNeg) σ (r, σ1) h1) cz_X4_state (x_recv K hB isK_0.2 (ent_4 isK_0.1) rfl) ld_27 ⟨rfl, rfl, (Nat.le_of_ble_eq_true rfl), (Nat.le_of_ble_eq_true rfl)⟩ (Nat.le_of_ble_eq_true rfl) ⟨(Nat.le_of_ble_eq_true rfl), (Nat.le_of_ble_eq_true rfl)⟩ dL_law_491) hB (fun H locs hB => ?_)
  refine lv_aload_n M.1 M.2.1 dL_law_494 rfl (lv_at hl 2 rfl) ?_
  refine lv_aload_n M.1 M.2.1 dL_law_495 rfl (lv_at hl 0 rfl) ?_
  refine lv_iload_n M.1 M.2.1 dL_law_496 rfl (lv_at hl 3 rfl) ?_
  refine lv_iconst (v := 1) M.1 M.2.1 dL_law_497 (by decide) ?_
  refine lv_iadd M.1 M.2.1 dL_law_498 ?_
  refine va_sld M.1 M.2.1 hX hbl hbA hB.2 (show vp_in (nI i + 1) L from lw_in (k := 1) (by decide) hi hL) dL_law_499 ?_
  refine x_callI (x_runV M K hB hl.1 [.int (xs (nI i + 1).toNatClampNeg)] (rest := [.int r]) rfl (c_X5_state l Γ (xs (nI i + 1).toNatClampNeg) σ1 (r, σ2) h2) cz_X5_state (x_recv K hB isK_150.2 (ent_5 isK_150.1) rfl) ld_28 ⟨rfl, rfl, (Nat.le_of_ble_eq_true rfl), (Nat.le_of_ble_eq_true rfl)⟩ (Nat.le_of_ble_eq_true rfl) ⟨(Nat.le_of_ble_eq_true rfl), (Nat.le_of_ble_eq_true rfl)⟩ dL_law_500) hB (fun H locs hB => ?_)
  exact lv_icmp_eq (tgt := 742) M.1 M.2.1 dL_law_503 (by decide) (fun _ => nxt σ2 _ _ h3 hB) (fun h => absurd rfl h)
set_option maxHeartbeats 4000000 in
set_option maxRecDepth 100000 in
theorem lw_c14 {p : Program} {l : Launch} {e : Env} {s : State} {m : MethodId} {args : Array Value} {below : List Frame} {meth : Method} {c : Code} {Γ : GG} {rt : Option FieldType} {b L i : Nat} {xs : Nat → Int32} {σ : Sg} {H : Heap} {locs : List Loc} {ls : Array Slot} {Q : State → Prop} (M : MX R_law cL_law 4 rt p s m args meth c) (K : KK Γ s s.heap) (hX : va_X b L xs s s.heap) (hbl : b < s.heap.size) (hbA : ¬ AD Γ b) (hi : i + 6 ≤ L) (hL : L ≤ 3072) (hB : Bd Γ σ s H locs) (hI : INV σ) (hl : lv_has ls 4 [(0, .ref b), (1, .ref (Γ.1 0)), (2, .ref (Γ.1 150)), (3, .int (nI i))]) (nxt : ∀ (σ' : Sg) (H' : Heap) (locs' : List Loc), INV σ' → Bd Γ σ' s H' locs' → W p l e room_1 s m args below meth c H' locs' 157 2581 Q (F0 m 742 ls [])) : W p l e room_1 s m args below meth c H locs 157 2581 Q (F0 m 508 ls []) := by
  obtain ⟨r, σ1, σ2, h1, h2, h3⟩ := (go_task (xs (nI i + 1).toNatClampNeg) (xs (nI i + 2).toNatClampNeg)) σ hI
  refine lv_aload_n M.1 M.2.1 dL_law_508 rfl (lv_at hl 1 rfl) ?_
  refine lv_aload_n M.1 M.2.1 dL_law_509 rfl (lv_at hl 0 rfl) ?_
  refine lv_iload_n M.1 M.2.1 dL_law_510 rfl (lv_at hl 3 rfl) ?_
  refine lv_iconst (v := 1) M.1 M.2.1 dL_law_511 (by decide) ?_
  refine lv_iadd M.1 M.2.1 dL_law_512 ?_
  refine va_sld M.1 M.2.1 hX hbl hbA hB.2 (show vp_in (nI i + 1) L from lw_in (k := 1) (by decide) hi hL) dL_law_513 ?_
  refine lv_aload_n M.1 M.2.1 dL_law_514 rfl (lv_at hl 0 rfl) ?_
  refine lv_iload_n M.1 M.2.1 dL_law_515 rfl (lv_at hl 3 rfl) ?_
  refine lv_iconst (v := 2) M.1 M.2.1 dL_law_516 (by decide) ?_
  refine lv_iadd M.1 M.2.1 dL_law_517 ?_
  refine va_sld M.1 M.2.1 hX hbl hbA hB.2 (show vp_in (nI i + 2) L from lw_in (k := 2) (by decide) hi hL) dL_law_518 ?_
  refine x_callI (x_runV M K hB hl.1 [.int (xs (nI i + 1).toNatClampNeg), .int (xs (nI i + 2).toNatClampNeg)] (rest := []) rfl (c_X4_task l Γ (xs (nI i + 1).toNatClampNeg) (xs (nI i + 2).toNatClampNeg) σ (r, σ1) h1) cz_X4_task (x_recv K hB isK_0.2 (ent_4 isK_0.1) rfl) ld_29 ⟨rfl, rfl, (Nat.le_of_ble_eq_true rfl), (Nat.le_of_ble_eq_true rfl)⟩ (Nat.le_of_ble_eq_true rfl) ⟨(Nat.le_of_ble_eq_true rfl), (Nat.le_of_ble_eq_true rfl)⟩ dL_law_519) hB (fun H locs hB => ?_)
  refine lv_aload_n M.1 M.2.1 dL_law_522 rfl (lv_at hl 2 rfl) ?_
  refine lv_aload_n M.1 M.2.1 dL_law_523 rfl (lv_at hl 0 rfl) ?_
  refine lv_iload_n M.1 M.2.1 dL_law_524 rfl (lv_at hl 3 rfl) ?_
  refine lv_iconst (v := 1) M.1 M.2.1 dL_law_525 (by decide) ?_
  refine lv_iadd M.1 M.2.1 dL_law_526 ?_
  refine va_sld M.1 M.2.1 hX hbl hbA hB.2 (show vp_in (nI i + 1) L from lw_in (k := 1) (by decide) hi hL) dL_law_527 ?_
  refine lv_aload_n M.1 M.2.1 dL_law_528 rfl (lv_at hl 0 rfl) ?_
  refine lv_iload_n M.1 M.2.1 dL_law_529 rfl (lv_at hl 3 rfl) ?_
  refine lv_iconst (v := 2) M.1 M.2.1 dL_law_530 (by decide) ?_
  refine lv_iadd M.1 M.2.1 dL_law_531 ?_
  refine va_sld M.1 M.2.1 hX hbl hbA hB.2 (show vp_in (nI i + 2) L from lw_in (k := 2) (by decide) hi hL) dL_law_532 ?_
  refine x_callI (x_runV M K hB hl.1 [.int (xs (nI i + 1).toNatClampNeg), .int (xs (nI i + 2).toNatClampNeg)] (rest := [.int r]) rfl (c_X5_task l Γ (xs (nI i + 1).toNatClampNeg) (xs (nI i + 2).toNatClampNeg) σ1 (r, σ2) h2) cz_X5_task (x_recv K hB isK_150.2 (ent_5 isK_150.1) rfl) ld_30 ⟨rfl, rfl, (Nat.le_of_ble_eq_true rfl), (Nat.le_of_ble_eq_true rfl)⟩ (Nat.le_of_ble_eq_true rfl) ⟨(Nat.le_of_ble_eq_true rfl), (Nat.le_of_ble_eq_true rfl)⟩ dL_law_533) hB (fun H locs hB => ?_)
  exact lv_icmp_eq (tgt := 742) M.1 M.2.1 dL_law_536 (by decide) (fun _ => nxt σ2 _ _ h3 hB) (fun h => absurd rfl h)
set_option maxHeartbeats 4000000 in
set_option maxRecDepth 100000 in
theorem lw_c15 {p : Program} {l : Launch} {e : Env} {s : State} {m : MethodId} {args : Array Value} {below : List Frame} {meth : Method} {c : Code} {Γ : GG} {rt : Option FieldType} {b L i : Nat} {xs : Nat → Int32} {σ : Sg} {H : Heap} {locs : List Loc} {ls : Array Slot} {Q : State → Prop} (M : MX R_law cL_law 4 rt p s m args meth c) (K : KK Γ s s.heap) (hX : va_X b L xs s s.heap) (hbl : b < s.heap.size) (hbA : ¬ AD Γ b) (hi : i + 6 ≤ L) (hL : L ≤ 3072) (hB : Bd Γ σ s H locs) (hI : INV σ) (hl : lv_has ls 4 [(0, .ref b), (1, .ref (Γ.1 0)), (2, .ref (Γ.1 150)), (3, .int (nI i))]) (nxt : ∀ (σ' : Sg) (H' : Heap) (locs' : List Loc), INV σ' → Bd Γ σ' s H' locs' → W p l e room_1 s m args below meth c H' locs' 157 2581 Q (F0 m 742 ls [])) : W p l e room_1 s m args below meth c H locs 157 2581 Q (F0 m 541 ls []) := by
  obtain ⟨r, σ1, σ2, h1, h2, h3⟩ := (go_record (xs (nI i + 1).toNatClampNeg) (xs (nI i + 2).toNatClampNeg)) σ hI
  refine lv_aload_n M.1 M.2.1 dL_law_541 rfl (lv_at hl 1 rfl) ?_
  refine lv_aload_n M.1 M.2.1 dL_law_542 rfl (lv_at hl 0 rfl) ?_
  refine lv_iload_n M.1 M.2.1 dL_law_543 rfl (lv_at hl 3 rfl) ?_
  refine lv_iconst (v := 1) M.1 M.2.1 dL_law_544 (by decide) ?_
  refine lv_iadd M.1 M.2.1 dL_law_545 ?_
  refine va_sld M.1 M.2.1 hX hbl hbA hB.2 (show vp_in (nI i + 1) L from lw_in (k := 1) (by decide) hi hL) dL_law_546 ?_
  refine lv_aload_n M.1 M.2.1 dL_law_547 rfl (lv_at hl 0 rfl) ?_
  refine lv_iload_n M.1 M.2.1 dL_law_548 rfl (lv_at hl 3 rfl) ?_
  refine lv_iconst (v := 2) M.1 M.2.1 dL_law_549 (by decide) ?_
  refine lv_iadd M.1 M.2.1 dL_law_550 ?_
  refine va_sld M.1 M.2.1 hX hbl hbA hB.2 (show vp_in (nI i + 2) L from lw_in (k := 2) (by decide) hi hL) dL_law_551 ?_
  refine x_callI (x_runV M K hB hl.1 [.int (xs (nI i + 1).toNatClampNeg), .int (xs (nI i + 2).toNatClampNeg)] (rest := []) rfl (c_X4_record l Γ (xs (nI i + 1).toNatClampNeg) (xs (nI i + 2).toNatClampNeg) σ (r, σ1) h1) cz_X4_record (x_recv K hB isK_0.2 (ent_4 isK_0.1) rfl) ld_31 ⟨rfl, rfl, (Nat.le_of_ble_eq_true rfl), (Nat.le_of_ble_eq_true rfl)⟩ (Nat.le_of_ble_eq_true rfl) ⟨(Nat.le_of_ble_eq_true rfl), (Nat.le_of_ble_eq_true rfl)⟩ dL_law_552) hB (fun H locs hB => ?_)
  refine lv_aload_n M.1 M.2.1 dL_law_555 rfl (lv_at hl 2 rfl) ?_
  refine lv_aload_n M.1 M.2.1 dL_law_556 rfl (lv_at hl 0 rfl) ?_
  refine lv_iload_n M.1 M.2.1 dL_law_557 rfl (lv_at hl 3 rfl) ?_
  refine lv_iconst (v := 1) M.1 M.2.1 dL_law_558 (by decide) ?_
  refine lv_iadd M.1 M.2.1 dL_law_559 ?_
  refine va_sld M.1 M.2.1 hX hbl hbA hB.2 (show vp_in (nI i + 1) L from lw_in (k := 1) (by decide) hi hL) dL_law_560 ?_
  refine lv_aload_n M.1 M.2.1 dL_law_561 rfl (lv_at hl 0 rfl) ?_
  refine lv_iload_n M.1 M.2.1 dL_law_562 rfl (lv_at hl 3 rfl) ?_
  refine lv_iconst (v := 2) M.1 M.2.1 dL_law_563 (by decide) ?_
  refine lv_iadd M.1 M.2.1 dL_law_564 ?_
  refine va_sld M.1 M.2.1 hX hbl hbA hB.2 (show vp_in (nI i + 2) L from lw_in (k := 2) (by decide) hi hL) dL_law_565 ?_
  refine x_callI (x_runV M K hB hl.1 [.int (xs (nI i + 1).toNatClampNeg), .int (xs (nI i + 2).toNatClampNeg)] (rest := [.int r]) rfl (c_X5_record l Γ (xs (nI i + 1).toNatClampNeg) (xs (nI i + 2).toNatClampNeg) σ1 (r, σ2) h2) cz_X5_record (x_recv K hB isK_150.2 (ent_5 isK_150.1) rfl) ld_32 ⟨rfl, rfl, (Nat.le_of_ble_eq_true rfl), (Nat.le_of_ble_eq_true rfl)⟩ (Nat.le_of_ble_eq_true rfl) ⟨(Nat.le_of_ble_eq_true rfl), (Nat.le_of_ble_eq_true rfl)⟩ dL_law_566) hB (fun H locs hB => ?_)
  exact lv_icmp_eq (tgt := 742) M.1 M.2.1 dL_law_569 (by decide) (fun _ => nxt σ2 _ _ h3 hB) (fun h => absurd rfl h)
set_option maxHeartbeats 4000000 in
set_option maxRecDepth 100000 in
theorem lw_c16 {p : Program} {l : Launch} {e : Env} {s : State} {m : MethodId} {args : Array Value} {below : List Frame} {meth : Method} {c : Code} {Γ : GG} {rt : Option FieldType} {b L i : Nat} {xs : Nat → Int32} {σ : Sg} {H : Heap} {locs : List Loc} {ls : Array Slot} {Q : State → Prop} (M : MX R_law cL_law 4 rt p s m args meth c) (K : KK Γ s s.heap) (hX : va_X b L xs s s.heap) (hbl : b < s.heap.size) (hbA : ¬ AD Γ b) (hi : i + 6 ≤ L) (hL : L ≤ 3072) (hB : Bd Γ σ s H locs) (hI : INV σ) (hl : lv_has ls 4 [(0, .ref b), (1, .ref (Γ.1 0)), (2, .ref (Γ.1 150)), (3, .int (nI i))]) (nxt : ∀ (σ' : Sg) (H' : Heap) (locs' : List Loc), INV σ' → Bd Γ σ' s H' locs' → W p l e room_1 s m args below meth c H' locs' 157 2581 Q (F0 m 742 ls [])) : W p l e room_1 s m args below meth c H locs 157 2581 Q (F0 m 574 ls []) := by
  obtain ⟨r, σ1, σ2, h1, h2, h3⟩ := ((ag_clear (xs (nI i + 1).toNatClampNeg)).go) σ hI
  refine lv_aload_n M.1 M.2.1 dL_law_574 rfl (lv_at hl 1 rfl) ?_
  refine lv_aload_n M.1 M.2.1 dL_law_575 rfl (lv_at hl 0 rfl) ?_
  refine lv_iload_n M.1 M.2.1 dL_law_576 rfl (lv_at hl 3 rfl) ?_
  refine lv_iconst (v := 1) M.1 M.2.1 dL_law_577 (by decide) ?_
  refine lv_iadd M.1 M.2.1 dL_law_578 ?_
  refine va_sld M.1 M.2.1 hX hbl hbA hB.2 (show vp_in (nI i + 1) L from lw_in (k := 1) (by decide) hi hL) dL_law_579 ?_
  refine x_callI (x_runV M K hB hl.1 [.int (xs (nI i + 1).toNatClampNeg)] (rest := []) rfl (c_X4_clear l Γ (xs (nI i + 1).toNatClampNeg) σ (r, σ1) h1) cz_X4_clear (x_recv K hB isK_0.2 (ent_4 isK_0.1) rfl) ld_33 ⟨rfl, rfl, (Nat.le_of_ble_eq_true rfl), (Nat.le_of_ble_eq_true rfl)⟩ (Nat.le_of_ble_eq_true rfl) ⟨(Nat.le_of_ble_eq_true rfl), (Nat.le_of_ble_eq_true rfl)⟩ dL_law_580) hB (fun H locs hB => ?_)
  refine lv_aload_n M.1 M.2.1 dL_law_583 rfl (lv_at hl 2 rfl) ?_
  refine lv_aload_n M.1 M.2.1 dL_law_584 rfl (lv_at hl 0 rfl) ?_
  refine lv_iload_n M.1 M.2.1 dL_law_585 rfl (lv_at hl 3 rfl) ?_
  refine lv_iconst (v := 1) M.1 M.2.1 dL_law_586 (by decide) ?_
  refine lv_iadd M.1 M.2.1 dL_law_587 ?_
  refine va_sld M.1 M.2.1 hX hbl hbA hB.2 (show vp_in (nI i + 1) L from lw_in (k := 1) (by decide) hi hL) dL_law_588 ?_
  refine x_callI (x_runV M K hB hl.1 [.int (xs (nI i + 1).toNatClampNeg)] (rest := [.int r]) rfl (c_X5_clear l Γ (xs (nI i + 1).toNatClampNeg) σ1 (r, σ2) h2) cz_X5_clear (x_recv K hB isK_150.2 (ent_5 isK_150.1) rfl) ld_34 ⟨rfl, rfl, (Nat.le_of_ble_eq_true rfl), (Nat.le_of_ble_eq_true rfl)⟩ (Nat.le_of_ble_eq_true rfl) ⟨(Nat.le_of_ble_eq_true rfl), (Nat.le_of_ble_eq_true rfl)⟩ dL_law_589) hB (fun H locs hB => ?_)
  exact lv_icmp_eq (tgt := 742) M.1 M.2.1 dL_law_592 (by decide) (fun _ => nxt σ2 _ _ h3 hB) (fun h => absurd rfl h)
set_option maxHeartbeats 4000000 in
set_option maxRecDepth 100000 in
theorem lw_c17 {p : Program} {l : Launch} {e : Env} {s : State} {m : MethodId} {args : Array Value} {below : List Frame} {meth : Method} {c : Code} {Γ : GG} {rt : Option FieldType} {b L i : Nat} {xs : Nat → Int32} {σ : Sg} {H : Heap} {locs : List Loc} {ls : Array Slot} {Q : State → Prop} (M : MX R_law cL_law 4 rt p s m args meth c) (K : KK Γ s s.heap) (hX : va_X b L xs s s.heap) (hbl : b < s.heap.size) (hbA : ¬ AD Γ b) (hi : i + 6 ≤ L) (hL : L ≤ 3072) (hB : Bd Γ σ s H locs) (hI : INV σ) (hl : lv_has ls 4 [(0, .ref b), (1, .ref (Γ.1 0)), (2, .ref (Γ.1 150)), (3, .int (nI i))]) (nxt : ∀ (σ' : Sg) (H' : Heap) (locs' : List Loc), INV σ' → Bd Γ σ' s H' locs' → W p l e room_1 s m args below meth c H' locs' 157 2581 Q (F0 m 742 ls [])) : W p l e room_1 s m args below meth c H locs 157 2581 Q (F0 m 597 ls []) := by
  obtain ⟨r, σ1, σ2, h1, h2, h3⟩ := (go_forecast (xs (nI i + 1).toNatClampNeg)) σ hI
  refine lv_aload_n M.1 M.2.1 dL_law_597 rfl (lv_at hl 1 rfl) ?_
  refine lv_aload_n M.1 M.2.1 dL_law_598 rfl (lv_at hl 0 rfl) ?_
  refine lv_iload_n M.1 M.2.1 dL_law_599 rfl (lv_at hl 3 rfl) ?_
  refine lv_iconst (v := 1) M.1 M.2.1 dL_law_600 (by decide) ?_
  refine lv_iadd M.1 M.2.1 dL_law_601 ?_
  refine va_sld M.1 M.2.1 hX hbl hbA hB.2 (show vp_in (nI i + 1) L from lw_in (k := 1) (by decide) hi hL) dL_law_602 ?_
  refine x_callI (x_runV M K hB hl.1 [.int (xs (nI i + 1).toNatClampNeg)] (rest := []) rfl (c_X4_forecast l Γ (xs (nI i + 1).toNatClampNeg) σ (r, σ1) h1) cz_X4_forecast (x_recv K hB isK_0.2 (ent_4 isK_0.1) rfl) ld_35 ⟨rfl, rfl, (Nat.le_of_ble_eq_true rfl), (Nat.le_of_ble_eq_true rfl)⟩ (Nat.le_of_ble_eq_true rfl) ⟨(Nat.le_of_ble_eq_true rfl), (Nat.le_of_ble_eq_true rfl)⟩ dL_law_603) hB (fun H locs hB => ?_)
  refine lv_aload_n M.1 M.2.1 dL_law_606 rfl (lv_at hl 2 rfl) ?_
  refine lv_aload_n M.1 M.2.1 dL_law_607 rfl (lv_at hl 0 rfl) ?_
  refine lv_iload_n M.1 M.2.1 dL_law_608 rfl (lv_at hl 3 rfl) ?_
  refine lv_iconst (v := 1) M.1 M.2.1 dL_law_609 (by decide) ?_
  refine lv_iadd M.1 M.2.1 dL_law_610 ?_
  refine va_sld M.1 M.2.1 hX hbl hbA hB.2 (show vp_in (nI i + 1) L from lw_in (k := 1) (by decide) hi hL) dL_law_611 ?_
  refine x_callI (x_runV M K hB hl.1 [.int (xs (nI i + 1).toNatClampNeg)] (rest := [.int r]) rfl (c_X5_forecast l Γ (xs (nI i + 1).toNatClampNeg) σ1 (r, σ2) h2) cz_X5_forecast (x_recv K hB isK_150.2 (ent_5 isK_150.1) rfl) ld_36 ⟨rfl, rfl, (Nat.le_of_ble_eq_true rfl), (Nat.le_of_ble_eq_true rfl)⟩ (Nat.le_of_ble_eq_true rfl) ⟨(Nat.le_of_ble_eq_true rfl), (Nat.le_of_ble_eq_true rfl)⟩ dL_law_612) hB (fun H locs hB => ?_)
  exact lv_icmp_eq (tgt := 742) M.1 M.2.1 dL_law_615 (by decide) (fun _ => nxt σ2 _ _ h3 hB) (fun h => absurd rfl h)
set_option maxHeartbeats 4000000 in
set_option maxRecDepth 100000 in
theorem lw_c18 {p : Program} {l : Launch} {e : Env} {s : State} {m : MethodId} {args : Array Value} {below : List Frame} {meth : Method} {c : Code} {Γ : GG} {rt : Option FieldType} {b L i : Nat} {xs : Nat → Int32} {σ : Sg} {H : Heap} {locs : List Loc} {ls : Array Slot} {Q : State → Prop} (M : MX R_law cL_law 4 rt p s m args meth c) (K : KK Γ s s.heap) (hX : va_X b L xs s s.heap) (hbl : b < s.heap.size) (hbA : ¬ AD Γ b) (hi : i + 6 ≤ L) (hL : L ≤ 3072) (hB : Bd Γ σ s H locs) (hI : INV σ) (hl : lv_has ls 4 [(0, .ref b), (1, .ref (Γ.1 0)), (2, .ref (Γ.1 150)), (3, .int (nI i))]) (nxt : ∀ (σ' : Sg) (H' : Heap) (locs' : List Loc), INV σ' → Bd Γ σ' s H' locs' → W p l e room_1 s m args below meth c H' locs' 157 2581 Q (F0 m 742 ls [])) : W p l e room_1 s m args below meth c H locs 157 2581 Q (F0 m 620 ls []) := by
  obtain ⟨r, σ1, σ2, h1, h2, h3⟩ := (go_worst (xs (nI i + 1).toNatClampNeg) (xs (nI i + 2).toNatClampNeg) (xs (nI i + 3).toNatClampNeg) (xs (nI i + 4).toNatClampNeg)) σ hI
  refine lv_aload_n M.1 M.2.1 dL_law_620 rfl (lv_at hl 1 rfl) ?_
  refine lv_aload_n M.1 M.2.1 dL_law_621 rfl (lv_at hl 0 rfl) ?_
  refine lv_iload_n M.1 M.2.1 dL_law_622 rfl (lv_at hl 3 rfl) ?_
  refine lv_iconst (v := 1) M.1 M.2.1 dL_law_623 (by decide) ?_
  refine lv_iadd M.1 M.2.1 dL_law_624 ?_
  refine va_sld M.1 M.2.1 hX hbl hbA hB.2 (show vp_in (nI i + 1) L from lw_in (k := 1) (by decide) hi hL) dL_law_625 ?_
  refine lv_aload_n M.1 M.2.1 dL_law_626 rfl (lv_at hl 0 rfl) ?_
  refine lv_iload_n M.1 M.2.1 dL_law_627 rfl (lv_at hl 3 rfl) ?_
  refine lv_iconst (v := 2) M.1 M.2.1 dL_law_628 (by decide) ?_
  refine lv_iadd M.1 M.2.1 dL_law_629 ?_
  refine va_sld M.1 M.2.1 hX hbl hbA hB.2 (show vp_in (nI i + 2) L from lw_in (k := 2) (by decide) hi hL) dL_law_630 ?_
  refine lv_aload_n M.1 M.2.1 dL_law_631 rfl (lv_at hl 0 rfl) ?_
  refine lv_iload_n M.1 M.2.1 dL_law_632 rfl (lv_at hl 3 rfl) ?_
  refine lv_iconst (v := 3) M.1 M.2.1 dL_law_633 (by decide) ?_
  refine lv_iadd M.1 M.2.1 dL_law_634 ?_
  refine va_sld M.1 M.2.1 hX hbl hbA hB.2 (show vp_in (nI i + 3) L from lw_in (k := 3) (by decide) hi hL) dL_law_635 ?_
  refine lv_aload_n M.1 M.2.1 dL_law_636 rfl (lv_at hl 0 rfl) ?_
  refine lv_iload_n M.1 M.2.1 dL_law_637 rfl (lv_at hl 3 rfl) ?_
  refine lv_iconst (v := 4) M.1 M.2.1 dL_law_638 (by decide) ?_
  refine lv_iadd M.1 M.2.1 dL_law_639 ?_
  refine va_sld M.1 M.2.1 hX hbl hbA hB.2 (show vp_in (nI i + 4) L from lw_in (k := 4) (by decide) hi hL) dL_law_640 ?_
  refine x_callI (x_runV M K hB hl.1 [.int (xs (nI i + 1).toNatClampNeg), .int (xs (nI i + 2).toNatClampNeg), .int (xs (nI i + 3).toNatClampNeg), .int (xs (nI i + 4).toNatClampNeg)] (rest := []) rfl (c_X4_worstHang l Γ (xs (nI i + 1).toNatClampNeg) (xs (nI i + 2).toNatClampNeg) (xs (nI i + 3).toNatClampNeg) (xs (nI i + 4).toNatClampNeg) σ (r, σ1) h1) cz_X4_worstHang (x_recv K hB isK_0.2 (ent_4 isK_0.1) rfl) ld_37 ⟨rfl, rfl, (Nat.le_of_ble_eq_true rfl), (Nat.le_of_ble_eq_true rfl)⟩ (Nat.le_of_ble_eq_true rfl) ⟨(Nat.le_of_ble_eq_true rfl), (Nat.le_of_ble_eq_true rfl)⟩ dL_law_641) hB (fun H locs hB => ?_)
  refine lv_aload_n M.1 M.2.1 dL_law_644 rfl (lv_at hl 2 rfl) ?_
  refine lv_aload_n M.1 M.2.1 dL_law_645 rfl (lv_at hl 0 rfl) ?_
  refine lv_iload_n M.1 M.2.1 dL_law_646 rfl (lv_at hl 3 rfl) ?_
  refine lv_iconst (v := 1) M.1 M.2.1 dL_law_647 (by decide) ?_
  refine lv_iadd M.1 M.2.1 dL_law_648 ?_
  refine va_sld M.1 M.2.1 hX hbl hbA hB.2 (show vp_in (nI i + 1) L from lw_in (k := 1) (by decide) hi hL) dL_law_649 ?_
  refine lv_aload_n M.1 M.2.1 dL_law_650 rfl (lv_at hl 0 rfl) ?_
  refine lv_iload_n M.1 M.2.1 dL_law_651 rfl (lv_at hl 3 rfl) ?_
  refine lv_iconst (v := 2) M.1 M.2.1 dL_law_652 (by decide) ?_
  refine lv_iadd M.1 M.2.1 dL_law_653 ?_
  refine va_sld M.1 M.2.1 hX hbl hbA hB.2 (show vp_in (nI i + 2) L from lw_in (k := 2) (by decide) hi hL) dL_law_654 ?_
  refine lv_aload_n M.1 M.2.1 dL_law_655 rfl (lv_at hl 0 rfl) ?_
  refine lv_iload_n M.1 M.2.1 dL_law_656 rfl (lv_at hl 3 rfl) ?_
  refine lv_iconst (v := 3) M.1 M.2.1 dL_law_657 (by decide) ?_
  refine lv_iadd M.1 M.2.1 dL_law_658 ?_
  refine va_sld M.1 M.2.1 hX hbl hbA hB.2 (show vp_in (nI i + 3) L from lw_in (k := 3) (by decide) hi hL) dL_law_659 ?_
  refine lv_aload_n M.1 M.2.1 dL_law_660 rfl (lv_at hl 0 rfl) ?_
  refine lv_iload_n M.1 M.2.1 dL_law_661 rfl (lv_at hl 3 rfl) ?_
  refine lv_iconst (v := 4) M.1 M.2.1 dL_law_662 (by decide) ?_
  refine lv_iadd M.1 M.2.1 dL_law_663 ?_
  refine va_sld M.1 M.2.1 hX hbl hbA hB.2 (show vp_in (nI i + 4) L from lw_in (k := 4) (by decide) hi hL) dL_law_664 ?_
  refine x_callI (x_runV M K hB hl.1 [.int (xs (nI i + 1).toNatClampNeg), .int (xs (nI i + 2).toNatClampNeg), .int (xs (nI i + 3).toNatClampNeg), .int (xs (nI i + 4).toNatClampNeg)] (rest := [.int r]) rfl (c_X5_worstHang l Γ (xs (nI i + 1).toNatClampNeg) (xs (nI i + 2).toNatClampNeg) (xs (nI i + 3).toNatClampNeg) (xs (nI i + 4).toNatClampNeg) σ1 (r, σ2) h2) cz_X5_worstHang (x_recv K hB isK_150.2 (ent_5 isK_150.1) rfl) ld_38 ⟨rfl, rfl, (Nat.le_of_ble_eq_true rfl), (Nat.le_of_ble_eq_true rfl)⟩ (Nat.le_of_ble_eq_true rfl) ⟨(Nat.le_of_ble_eq_true rfl), (Nat.le_of_ble_eq_true rfl)⟩ dL_law_665) hB (fun H locs hB => ?_)
  exact lv_icmp_eq (tgt := 742) M.1 M.2.1 dL_law_668 (by decide) (fun _ => nxt σ2 _ _ h3 hB) (fun h => absurd rfl h)
set_option maxHeartbeats 4000000 in
set_option maxRecDepth 100000 in
theorem lw_c19 {p : Program} {l : Launch} {e : Env} {s : State} {m : MethodId} {args : Array Value} {below : List Frame} {meth : Method} {c : Code} {Γ : GG} {rt : Option FieldType} {b L i : Nat} {xs : Nat → Int32} {σ : Sg} {H : Heap} {locs : List Loc} {ls : Array Slot} {Q : State → Prop} (M : MX R_law cL_law 4 rt p s m args meth c) (K : KK Γ s s.heap) (hX : va_X b L xs s s.heap) (hbl : b < s.heap.size) (hbA : ¬ AD Γ b) (hi : i + 6 ≤ L) (hL : L ≤ 3072) (hB : Bd Γ σ s H locs) (hI : INV σ) (hl : lv_has ls 4 [(0, .ref b), (1, .ref (Γ.1 0)), (2, .ref (Γ.1 150)), (3, .int (nI i))]) (nxt : ∀ (σ' : Sg) (H' : Heap) (locs' : List Loc), INV σ' → Bd Γ σ' s H' locs' → W p l e room_1 s m args below meth c H' locs' 157 2581 Q (F0 m 742 ls [])) : W p l e room_1 s m args below meth c H locs 157 2581 Q (F0 m 673 ls []) := by
  obtain ⟨r, σ1, σ2, h1, h2, h3⟩ := (go_kick (xs (nI i + 1).toNatClampNeg)) σ hI
  refine lv_aload_n M.1 M.2.1 dL_law_673 rfl (lv_at hl 1 rfl) ?_
  refine lv_aload_n M.1 M.2.1 dL_law_674 rfl (lv_at hl 0 rfl) ?_
  refine lv_iload_n M.1 M.2.1 dL_law_675 rfl (lv_at hl 3 rfl) ?_
  refine lv_iconst (v := 1) M.1 M.2.1 dL_law_676 (by decide) ?_
  refine lv_iadd M.1 M.2.1 dL_law_677 ?_
  refine va_sld M.1 M.2.1 hX hbl hbA hB.2 (show vp_in (nI i + 1) L from lw_in (k := 1) (by decide) hi hL) dL_law_678 ?_
  refine x_callI (x_runV M K hB hl.1 [.int (xs (nI i + 1).toNatClampNeg)] (rest := []) rfl (c_X4_greatestKick l Γ (xs (nI i + 1).toNatClampNeg) σ (r, σ1) h1) cz_X4_greatestKick (x_recv K hB isK_0.2 (ent_4 isK_0.1) rfl) ld_39 ⟨rfl, rfl, (Nat.le_of_ble_eq_true rfl), (Nat.le_of_ble_eq_true rfl)⟩ (Nat.le_of_ble_eq_true rfl) ⟨(Nat.le_of_ble_eq_true rfl), (Nat.le_of_ble_eq_true rfl)⟩ dL_law_679) hB (fun H locs hB => ?_)
  refine lv_aload_n M.1 M.2.1 dL_law_682 rfl (lv_at hl 2 rfl) ?_
  refine lv_aload_n M.1 M.2.1 dL_law_683 rfl (lv_at hl 0 rfl) ?_
  refine lv_iload_n M.1 M.2.1 dL_law_684 rfl (lv_at hl 3 rfl) ?_
  refine lv_iconst (v := 1) M.1 M.2.1 dL_law_685 (by decide) ?_
  refine lv_iadd M.1 M.2.1 dL_law_686 ?_
  refine va_sld M.1 M.2.1 hX hbl hbA hB.2 (show vp_in (nI i + 1) L from lw_in (k := 1) (by decide) hi hL) dL_law_687 ?_
  refine x_callI (x_runV M K hB hl.1 [.int (xs (nI i + 1).toNatClampNeg)] (rest := [.int r]) rfl (c_X5_greatestKick l Γ (xs (nI i + 1).toNatClampNeg) σ1 (r, σ2) h2) cz_X5_greatestKick (x_recv K hB isK_150.2 (ent_5 isK_150.1) rfl) ld_40 ⟨rfl, rfl, (Nat.le_of_ble_eq_true rfl), (Nat.le_of_ble_eq_true rfl)⟩ (Nat.le_of_ble_eq_true rfl) ⟨(Nat.le_of_ble_eq_true rfl), (Nat.le_of_ble_eq_true rfl)⟩ dL_law_688) hB (fun H locs hB => ?_)
  exact lv_icmp_eq (tgt := 742) M.1 M.2.1 dL_law_691 (by decide) (fun _ => nxt σ2 _ _ h3 hB) (fun h => absurd rfl h)
set_option maxHeartbeats 4000000 in
set_option maxRecDepth 100000 in
theorem lw_c20 {p : Program} {l : Launch} {e : Env} {s : State} {m : MethodId} {args : Array Value} {below : List Frame} {meth : Method} {c : Code} {Γ : GG} {rt : Option FieldType} {b L i : Nat} {xs : Nat → Int32} {σ : Sg} {H : Heap} {locs : List Loc} {ls : Array Slot} {Q : State → Prop} (M : MX R_law cL_law 4 rt p s m args meth c) (K : KK Γ s s.heap) (hX : va_X b L xs s s.heap) (hbl : b < s.heap.size) (hbA : ¬ AD Γ b) (hi : i + 6 ≤ L) (hL : L ≤ 3072) (hB : Bd Γ σ s H locs) (hI : INV σ) (hl : lv_has ls 4 [(0, .ref b), (1, .ref (Γ.1 0)), (2, .ref (Γ.1 150)), (3, .int (nI i))]) (nxt : ∀ (σ' : Sg) (H' : Heap) (locs' : List Loc), INV σ' → Bd Γ σ' s H' locs' → W p l e room_1 s m args below meth c H' locs' 157 2581 Q (F0 m 742 ls [])) : W p l e room_1 s m args below meth c H locs 157 2581 Q (F0 m 696 ls []) := by
  obtain ⟨r, σ1, σ2, h1, h2, h3⟩ := (go_save (xs (nI i + 1).toNatClampNeg)) σ hI
  refine lv_aload_n M.1 M.2.1 dL_law_696 rfl (lv_at hl 1 rfl) ?_
  refine lv_aload_n M.1 M.2.1 dL_law_697 rfl (lv_at hl 0 rfl) ?_
  refine lv_iload_n M.1 M.2.1 dL_law_698 rfl (lv_at hl 3 rfl) ?_
  refine lv_iconst (v := 1) M.1 M.2.1 dL_law_699 (by decide) ?_
  refine lv_iadd M.1 M.2.1 dL_law_700 ?_
  refine va_sld M.1 M.2.1 hX hbl hbA hB.2 (show vp_in (nI i + 1) L from lw_in (k := 1) (by decide) hi hL) dL_law_701 ?_
  refine x_callI (x_runV M K hB hl.1 [.int (xs (nI i + 1).toNatClampNeg)] (rest := []) rfl (c_X4_save l Γ (xs (nI i + 1).toNatClampNeg) σ (r, σ1) h1) cz_X4_save (x_recv K hB isK_0.2 (ent_4 isK_0.1) rfl) ld_41 ⟨rfl, rfl, (Nat.le_of_ble_eq_true rfl), (Nat.le_of_ble_eq_true rfl)⟩ (Nat.le_of_ble_eq_true rfl) ⟨(Nat.le_of_ble_eq_true rfl), (Nat.le_of_ble_eq_true rfl)⟩ dL_law_702) hB (fun H locs hB => ?_)
  refine lv_aload_n M.1 M.2.1 dL_law_705 rfl (lv_at hl 2 rfl) ?_
  refine lv_aload_n M.1 M.2.1 dL_law_706 rfl (lv_at hl 0 rfl) ?_
  refine lv_iload_n M.1 M.2.1 dL_law_707 rfl (lv_at hl 3 rfl) ?_
  refine lv_iconst (v := 1) M.1 M.2.1 dL_law_708 (by decide) ?_
  refine lv_iadd M.1 M.2.1 dL_law_709 ?_
  refine va_sld M.1 M.2.1 hX hbl hbA hB.2 (show vp_in (nI i + 1) L from lw_in (k := 1) (by decide) hi hL) dL_law_710 ?_
  refine x_callI (x_runV M K hB hl.1 [.int (xs (nI i + 1).toNatClampNeg)] (rest := [.int r]) rfl (c_X5_save l Γ (xs (nI i + 1).toNatClampNeg) σ1 (r, σ2) h2) cz_X5_save (x_recv K hB isK_150.2 (ent_5 isK_150.1) rfl) ld_42 ⟨rfl, rfl, (Nat.le_of_ble_eq_true rfl), (Nat.le_of_ble_eq_true rfl)⟩ (Nat.le_of_ble_eq_true rfl) ⟨(Nat.le_of_ble_eq_true rfl), (Nat.le_of_ble_eq_true rfl)⟩ dL_law_711) hB (fun H locs hB => ?_)
  exact lv_icmp_eq (tgt := 742) M.1 M.2.1 dL_law_714 (by decide) (fun _ => nxt σ2 _ _ h3 hB) (fun h => absurd rfl h)
set_option maxHeartbeats 4000000 in
set_option maxRecDepth 100000 in
theorem lw_c21 {p : Program} {l : Launch} {e : Env} {s : State} {m : MethodId} {args : Array Value} {below : List Frame} {meth : Method} {c : Code} {Γ : GG} {rt : Option FieldType} {b L i : Nat} {xs : Nat → Int32} {σ : Sg} {H : Heap} {locs : List Loc} {ls : Array Slot} {Q : State → Prop} (M : MX R_law cL_law 4 rt p s m args meth c) (K : KK Γ s s.heap) (hX : va_X b L xs s s.heap) (hbl : b < s.heap.size) (hbA : ¬ AD Γ b) (hi : i + 6 ≤ L) (hL : L ≤ 3072) (hB : Bd Γ σ s H locs) (hI : INV σ) (hl : lv_has ls 4 [(0, .ref b), (1, .ref (Γ.1 0)), (2, .ref (Γ.1 150)), (3, .int (nI i))]) (nxt : ∀ (σ' : Sg) (H' : Heap) (locs' : List Loc), INV σ' → Bd Γ σ' s H' locs' → W p l e room_1 s m args below meth c H' locs' 157 2581 Q (F0 m 742 ls [])) : W p l e room_1 s m args below meth c H locs 157 2581 Q (F0 m 719 ls []) := by
  obtain ⟨r, σ1, σ2, h1, h2, h3⟩ := (go_restore (xs (nI i + 1).toNatClampNeg)) σ hI
  refine lv_aload_n M.1 M.2.1 dL_law_719 rfl (lv_at hl 1 rfl) ?_
  refine lv_aload_n M.1 M.2.1 dL_law_720 rfl (lv_at hl 0 rfl) ?_
  refine lv_iload_n M.1 M.2.1 dL_law_721 rfl (lv_at hl 3 rfl) ?_
  refine lv_iconst (v := 1) M.1 M.2.1 dL_law_722 (by decide) ?_
  refine lv_iadd M.1 M.2.1 dL_law_723 ?_
  refine va_sld M.1 M.2.1 hX hbl hbA hB.2 (show vp_in (nI i + 1) L from lw_in (k := 1) (by decide) hi hL) dL_law_724 ?_
  refine x_callI (x_runV M K hB hl.1 [.int (xs (nI i + 1).toNatClampNeg)] (rest := []) rfl (c_X4_restore l Γ (xs (nI i + 1).toNatClampNeg) σ (r, σ1) h1) cz_X4_restore (x_recv K hB isK_0.2 (ent_4 isK_0.1) rfl) ld_43 ⟨rfl, rfl, (Nat.le_of_ble_eq_true rfl), (Nat.le_of_ble_eq_true rfl)⟩ (Nat.le_of_ble_eq_true rfl) ⟨(Nat.le_of_ble_eq_true rfl), (Nat.le_of_ble_eq_true rfl)⟩ dL_law_725) hB (fun H locs hB => ?_)
  refine lv_aload_n M.1 M.2.1 dL_law_728 rfl (lv_at hl 2 rfl) ?_
  refine lv_aload_n M.1 M.2.1 dL_law_729 rfl (lv_at hl 0 rfl) ?_
  refine lv_iload_n M.1 M.2.1 dL_law_730 rfl (lv_at hl 3 rfl) ?_
  refine lv_iconst (v := 1) M.1 M.2.1 dL_law_731 (by decide) ?_
  refine lv_iadd M.1 M.2.1 dL_law_732 ?_
  refine va_sld M.1 M.2.1 hX hbl hbA hB.2 (show vp_in (nI i + 1) L from lw_in (k := 1) (by decide) hi hL) dL_law_733 ?_
  refine x_callI (x_runV M K hB hl.1 [.int (xs (nI i + 1).toNatClampNeg)] (rest := [.int r]) rfl (c_X5_restore l Γ (xs (nI i + 1).toNatClampNeg) σ1 (r, σ2) h2) cz_X5_restore (x_recv K hB isK_150.2 (ent_5 isK_150.1) rfl) ld_44 ⟨rfl, rfl, (Nat.le_of_ble_eq_true rfl), (Nat.le_of_ble_eq_true rfl)⟩ (Nat.le_of_ble_eq_true rfl) ⟨(Nat.le_of_ble_eq_true rfl), (Nat.le_of_ble_eq_true rfl)⟩ dL_law_734) hB (fun H locs hB => ?_)
  exact lv_icmp_eq (tgt := 742) M.1 M.2.1 dL_law_737 (by decide) (fun _ => nxt σ2 _ _ h3 hB) (fun h => absurd rfl h)
