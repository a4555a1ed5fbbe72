theorem dX5_init_0 : decode cX5_init 0 = .ok (.aload_n 0, 1) := by decide +kernel
theorem dX5_init_1 : decode cX5_init 1 = .ok (.invokespecial 1, 3) := by decide +kernel
theorem dX5_init_4 : decode cX5_init 4 = .ok (.aload_n 0, 1) := by decide +kernel
theorem dX5_init_5 : decode cX5_init 5 = .ok (.sipush 255, 3) := by decide +kernel
theorem dX5_init_8 : decode cX5_init 8 = .ok (.newarray .int, 2) := by decide +kernel
theorem dX5_init_10 : decode cX5_init 10 = .ok (.putfield 7, 3) := by decide +kernel
theorem dX5_init_13 : decode cX5_init 13 = .ok (.aload_n 0, 1) := by decide +kernel
theorem dX5_init_14 : decode cX5_init 14 = .ok (.sipush 255, 3) := by decide +kernel
theorem dX5_init_17 : decode cX5_init 17 = .ok (.newarray .int, 2) := by decide +kernel
theorem dX5_init_19 : decode cX5_init 19 = .ok (.putfield 13, 3) := by decide +kernel
theorem dX5_init_22 : decode cX5_init 22 = .ok (.aload_n 0, 1) := by decide +kernel
theorem dX5_init_23 : decode cX5_init 23 = .ok (.sipush 510, 3) := by decide +kernel
theorem dX5_init_26 : decode cX5_init 26 = .ok (.newarray .int, 2) := by decide +kernel
theorem dX5_init_28 : decode cX5_init 28 = .ok (.putfield 16, 3) := by decide +kernel
theorem dX5_init_31 : decode cX5_init 31 = .ok (.aload_n 0, 1) := by decide +kernel
theorem dX5_init_32 : decode cX5_init 32 = .ok (.iconst 2, 1) := by decide +kernel
theorem dX5_init_33 : decode cX5_init 33 = .ok (.newarray .boolean, 2) := by decide +kernel
theorem dX5_init_35 : decode cX5_init 35 = .ok (.putfield 19, 3) := by decide +kernel
theorem dX5_init_38 : decode cX5_init 38 = .ok (.aload_n 0, 1) := by decide +kernel
theorem dX5_init_39 : decode cX5_init 39 = .ok (.bipush 60, 2) := by decide +kernel
theorem dX5_init_41 : decode cX5_init 41 = .ok (.newarray .int, 2) := by decide +kernel
theorem dX5_init_43 : decode cX5_init 43 = .ok (.putfield 23, 3) := by decide +kernel
theorem dX5_init_46 : decode cX5_init 46 = .ok (.aload_n 0, 1) := by decide +kernel
theorem dX5_init_47 : decode cX5_init 47 = .ok (.sipush 155, 3) := by decide +kernel
theorem dX5_init_50 : decode cX5_init 50 = .ok (.newarray .int, 2) := by decide +kernel
theorem dX5_init_52 : decode cX5_init 52 = .ok (.putfield 26, 3) := by decide +kernel
theorem dX5_init_55 : decode cX5_init 55 = .ok (.aload_n 0, 1) := by decide +kernel
theorem dX5_init_56 : decode cX5_init 56 = .ok (.getfield 7, 3) := by decide +kernel
theorem dX5_init_59 : decode cX5_init 59 = .ok (.iconst 0, 1) := by decide +kernel
theorem dX5_init_60 : decode cX5_init 60 = .ok (.bipush 20, 2) := by decide +kernel
theorem dX5_init_62 : decode cX5_init 62 = .ok (.iastore, 1) := by decide +kernel
theorem dX5_init_63 : decode cX5_init 63 = .ok (.aload_n 0, 1) := by decide +kernel
theorem dX5_init_64 : decode cX5_init 64 = .ok (.getfield 7, 3) := by decide +kernel
theorem dX5_init_67 : decode cX5_init 67 = .ok (.iconst 1, 1) := by decide +kernel
theorem dX5_init_68 : decode cX5_init 68 = .ok (.bipush 100, 2) := by decide +kernel
theorem dX5_init_70 : decode cX5_init 70 = .ok (.iastore, 1) := by decide +kernel
theorem dX5_init_71 : decode cX5_init 71 = .ok (.aload_n 0, 1) := by decide +kernel
theorem dX5_init_72 : decode cX5_init 72 = .ok (.getfield 7, 3) := by decide +kernel
theorem dX5_init_75 : decode cX5_init 75 = .ok (.iconst 2, 1) := by decide +kernel
theorem dX5_init_76 : decode cX5_init 76 = .ok (.bipush 10, 2) := by decide +kernel
theorem dX5_init_78 : decode cX5_init 78 = .ok (.iastore, 1) := by decide +kernel
theorem dX5_init_79 : decode cX5_init 79 = .ok (.aload_n 0, 1) := by decide +kernel
theorem dX5_init_80 : decode cX5_init 80 = .ok (.getfield 7, 3) := by decide +kernel
theorem dX5_init_83 : decode cX5_init 83 = .ok (.iconst 3, 1) := by decide +kernel
theorem dX5_init_84 : decode cX5_init 84 = .ok (.bipush 40, 2) := by decide +kernel
theorem dX5_init_86 : decode cX5_init 86 = .ok (.iastore, 1) := by decide +kernel
theorem dX5_init_87 : decode cX5_init 87 = .ok (.aload_n 0, 1) := by decide +kernel
theorem dX5_init_88 : decode cX5_init 88 = .ok (.getfield 7, 3) := by decide +kernel
theorem dX5_init_91 : decode cX5_init 91 = .ok (.iconst 4, 1) := by decide +kernel
theorem dX5_init_92 : decode cX5_init 92 = .ok (.iconst 2, 1) := by decide +kernel
theorem dX5_init_93 : decode cX5_init 93 = .ok (.iastore, 1) := by decide +kernel
theorem dX5_init_94 : decode cX5_init 94 = .ok (.aload_n 0, 1) := by decide +kernel
theorem dX5_init_95 : decode cX5_init 95 = .ok (.getfield 7, 3) := by decide +kernel
theorem dX5_init_98 : decode cX5_init 98 = .ok (.iconst 5, 1) := by decide +kernel
theorem dX5_init_99 : decode cX5_init 99 = .ok (.bipush 30, 2) := by decide +kernel
theorem dX5_init_101 : decode cX5_init 101 = .ok (.iastore, 1) := by decide +kernel
theorem dX5_init_102 : decode cX5_init 102 = .ok (.aload_n 0, 1) := by decide +kernel
theorem dX5_init_103 : decode cX5_init 103 = .ok (.getfield 7, 3) := by decide +kernel
theorem dX5_init_106 : decode cX5_init 106 = .ok (.bipush 6, 2) := by decide +kernel
theorem dX5_init_108 : decode cX5_init 108 = .ok (.sipush 500, 3) := by decide +kernel
theorem dX5_init_111 : decode cX5_init 111 = .ok (.iastore, 1) := by decide +kernel
theorem dX5_init_112 : decode cX5_init 112 = .ok (.aload_n 0, 1) := by decide +kernel
theorem dX5_init_113 : decode cX5_init 113 = .ok (.getfield 7, 3) := by decide +kernel
theorem dX5_init_116 : decode cX5_init 116 = .ok (.bipush 7, 2) := by decide +kernel
theorem dX5_init_118 : decode cX5_init 118 = .ok (.iconst 3, 1) := by decide +kernel
theorem dX5_init_119 : decode cX5_init 119 = .ok (.iastore, 1) := by decide +kernel
theorem dX5_init_120 : decode cX5_init 120 = .ok (.aload_n 0, 1) := by decide +kernel
theorem dX5_init_121 : decode cX5_init 121 = .ok (.getfield 7, 3) := by decide +kernel
theorem dX5_init_124 : decode cX5_init 124 = .ok (.bipush 12, 2) := by decide +kernel
theorem dX5_init_126 : decode cX5_init 126 = .ok (.bipush 30, 2) := by decide +kernel
theorem dX5_init_128 : decode cX5_init 128 = .ok (.iastore, 1) := by decide +kernel
theorem dX5_init_129 : decode cX5_init 129 = .ok (.return_, 1) := by decide +kernel
theorem dX5_in_0 : decode cX5_in 0 = .ok (.iload_n 0, 1) := by decide +kernel
theorem dX5_in_1 : decode cX5_in 1 = .ok (.iload_n 1, 1) := by decide +kernel
theorem dX5_in_2 : decode cX5_in 2 = .ok (.if_icmp .lt 12, 3) := by decide +kernel
theorem dX5_in_5 : decode cX5_in 5 = .ok (.iload_n 0, 1) := by decide +kernel
theorem dX5_in_6 : decode cX5_in 6 = .ok (.iload_n 2, 1) := by decide +kernel
theorem dX5_in_7 : decode cX5_in 7 = .ok (.if_icmp .gt 7, 3) := by decide +kernel
theorem dX5_in_10 : decode cX5_in 10 = .ok (.iconst 1, 1) := by decide +kernel
theorem dX5_in_11 : decode cX5_in 11 = .ok (.goto 4, 3) := by decide +kernel
theorem dX5_in_14 : decode cX5_in 14 = .ok (.iconst 0, 1) := by decide +kernel
theorem dX5_in_15 : decode cX5_in 15 = .ok (.ireturn, 1) := by decide +kernel
theorem dX5_place_0 : decode cX5_place 0 = .ok (.bipush 19, 2) := by decide +kernel
theorem dX5_place_2 : decode cX5_place 2 = .ok (.bipush 26, 2) := by decide +kernel
theorem dX5_place_4 : decode cX5_place 4 = .ok (.iload_n 0, 1) := by decide +kernel
theorem dX5_place_5 : decode cX5_place 5 = .ok (.imul, 1) := by decide +kernel
theorem dX5_place_6 : decode cX5_place 6 = .ok (.iadd, 1) := by decide +kernel
theorem dX5_place_7 : decode cX5_place 7 = .ok (.iload_n 1, 1) := by decide +kernel
theorem dX5_place_8 : decode cX5_place 8 = .ok (.iadd, 1) := by decide +kernel
theorem dX5_place_9 : decode cX5_place 9 = .ok (.ireturn, 1) := by decide +kernel
theorem dX5_of_0 : decode cX5_of 0 = .ok (.aload_n 0, 1) := by decide +kernel
theorem dX5_of_1 : decode cX5_of 1 = .ok (.getfield 7, 3) := by decide +kernel
theorem dX5_of_4 : decode cX5_of 4 = .ok (.iload_n 1, 1) := by decide +kernel
theorem dX5_of_5 : decode cX5_of 5 = .ok (.iload_n 2, 1) := by decide +kernel
theorem dX5_of_6 : decode cX5_of 6 = .ok (.invokestatic 29, 3) := by decide +kernel
theorem dX5_of_9 : decode cX5_of 9 = .ok (.iaload, 1) := by decide +kernel
theorem dX5_of_10 : decode cX5_of 10 = .ok (.ireturn, 1) := by decide +kernel
theorem dX5_lay_0 : decode cX5_lay 0 = .ok (.aload_n 0, 1) := by decide +kernel
theorem dX5_lay_1 : decode cX5_lay 1 = .ok (.getfield 7, 3) := by decide +kernel
theorem dX5_lay_4 : decode cX5_lay 4 = .ok (.iload_n 1, 1) := by decide +kernel
theorem dX5_lay_5 : decode cX5_lay 5 = .ok (.iload_n 2, 1) := by decide +kernel
theorem dX5_lay_6 : decode cX5_lay 6 = .ok (.invokestatic 29, 3) := by decide +kernel
theorem dX5_lay_9 : decode cX5_lay 9 = .ok (.iload_n 3, 1) := by decide +kernel
theorem dX5_lay_10 : decode cX5_lay 10 = .ok (.iastore, 1) := by decide +kernel
theorem dX5_lay_11 : decode cX5_lay 11 = .ok (.return_, 1) := by decide +kernel
theorem dX5_putAside_0 : decode cX5_putAside 0 = .ok (.iconst 0, 1) := by decide +kernel
theorem dX5_putAside_1 : decode cX5_putAside 1 = .ok (.istore_n 1, 1) := by decide +kernel
theorem dX5_putAside_2 : decode cX5_putAside 2 = .ok (.iload_n 1, 1) := by decide +kernel
theorem dX5_putAside_3 : decode cX5_putAside 3 = .ok (.sipush 255, 3) := by decide +kernel
theorem dX5_putAside_6 : decode cX5_putAside 6 = .ok (.if_icmp .ge 21, 3) := by decide +kernel
theorem dX5_putAside_9 : decode cX5_putAside 9 = .ok (.aload_n 0, 1) := by decide +kernel
theorem dX5_putAside_10 : decode cX5_putAside 10 = .ok (.getfield 13, 3) := by decide +kernel
theorem dX5_putAside_13 : decode cX5_putAside 13 = .ok (.iload_n 1, 1) := by decide +kernel
theorem dX5_putAside_14 : decode cX5_putAside 14 = .ok (.aload_n 0, 1) := by decide +kernel
theorem dX5_putAside_15 : decode cX5_putAside 15 = .ok (.getfield 7, 3) := by decide +kernel
theorem dX5_putAside_18 : decode cX5_putAside 18 = .ok (.iload_n 1, 1) := by decide +kernel
theorem dX5_putAside_19 : decode cX5_putAside 19 = .ok (.iaload, 1) := by decide +kernel
theorem dX5_putAside_20 : decode cX5_putAside 20 = .ok (.iastore, 1) := by decide +kernel
theorem dX5_putAside_21 : decode cX5_putAside 21 = .ok (.iinc 1 1, 3) := by decide +kernel
theorem dX5_putAside_24 : decode cX5_putAside 24 = .ok (.goto (-22), 3) := by decide +kernel
theorem dX5_putAside_27 : decode cX5_putAside 27 = .ok (.return_, 1) := by decide +kernel
theorem dX5_putBack_0 : decode cX5_putBack 0 = .ok (.iconst 0, 1) := by decide +kernel
theorem dX5_putBack_1 : decode cX5_putBack 1 = .ok (.istore_n 1, 1) := by decide +kernel
theorem dX5_putBack_2 : decode cX5_putBack 2 = .ok (.iload_n 1, 1) := by decide +kernel
theorem dX5_putBack_3 : decode cX5_putBack 3 = .ok (.sipush 255, 3) := by decide +kernel
theorem dX5_putBack_6 : decode cX5_putBack 6 = .ok (.if_icmp .ge 21, 3) := by decide +kernel
theorem dX5_putBack_9 : decode cX5_putBack 9 = .ok (.aload_n 0, 1) := by decide +kernel
theorem dX5_putBack_10 : decode cX5_putBack 10 = .ok (.getfield 7, 3) := by decide +kernel
theorem dX5_putBack_13 : decode cX5_putBack 13 = .ok (.iload_n 1, 1) := by decide +kernel
theorem dX5_putBack_14 : decode cX5_putBack 14 = .ok (.aload_n 0, 1) := by decide +kernel
theorem dX5_putBack_15 : decode cX5_putBack 15 = .ok (.getfield 13, 3) := by decide +kernel
theorem dX5_putBack_18 : decode cX5_putBack 18 = .ok (.iload_n 1, 1) := by decide +kernel
theorem dX5_putBack_19 : decode cX5_putBack 19 = .ok (.iaload, 1) := by decide +kernel
theorem dX5_putBack_20 : decode cX5_putBack 20 = .ok (.iastore, 1) := by decide +kernel
theorem dX5_putBack_21 : decode cX5_putBack 21 = .ok (.iinc 1 1, 3) := by decide +kernel
theorem dX5_putBack_24 : decode cX5_putBack 24 = .ok (.goto (-22), 3) := by decide +kernel
theorem dX5_putBack_27 : decode cX5_putBack 27 = .ok (.return_, 1) := by decide +kernel
theorem dX5_isTask_0 : decode cX5_isTask 0 = .ok (.iload_n 1, 1) := by decide +kernel
theorem dX5_isTask_1 : decode cX5_isTask 1 = .ok (.iconst 0, 1) := by decide +kernel
theorem dX5_isTask_2 : decode cX5_isTask 2 = .ok (.aload_n 0, 1) := by decide +kernel
theorem dX5_isTask_3 : decode cX5_isTask 3 = .ok (.getfield 7, 3) := by decide +kernel
theorem dX5_isTask_6 : decode cX5_isTask 6 = .ok (.bipush 17, 2) := by decide +kernel
theorem dX5_isTask_8 : decode cX5_isTask 8 = .ok (.iaload, 1) := by decide +kernel
theorem dX5_isTask_9 : decode cX5_isTask 9 = .ok (.iconst 1, 1) := by decide +kernel
theorem dX5_isTask_10 : decode cX5_isTask 10 = .ok (.isub, 1) := by decide +kernel
theorem dX5_isTask_11 : decode cX5_isTask 11 = .ok (.invokestatic 33, 3) := by decide +kernel
theorem dX5_isTask_14 : decode cX5_isTask 14 = .ok (.ireturn, 1) := by decide +kernel
theorem dX5_isRule_0 : decode cX5_isRule 0 = .ok (.iload_n 0, 1) := by decide +kernel
theorem dX5_isRule_1 : decode cX5_isRule 1 = .ok (.tableswitch 104 0 6 #[43, 52, 61, 69, 78, 86, 95], 43) := by decide +kernel
theorem dX5_isRule_44 : decode cX5_isRule 44 = .ok (.iload_n 1, 1) := by decide +kernel
theorem dX5_isRule_45 : decode cX5_isRule 45 = .ok (.iconst 0, 1) := by decide +kernel
theorem dX5_isRule_46 : decode cX5_isRule 46 = .ok (.sipush 1000, 3) := by decide +kernel
theorem dX5_isRule_49 : decode cX5_isRule 49 = .ok (.invokestatic 33, 3) := by decide +kernel
theorem dX5_isRule_52 : decode cX5_isRule 52 = .ok (.ireturn, 1) := by decide +kernel
theorem dX5_isRule_53 : decode cX5_isRule 53 = .ok (.iload_n 1, 1) := by decide +kernel
theorem dX5_isRule_54 : decode cX5_isRule 54 = .ok (.iconst 1, 1) := by decide +kernel
theorem dX5_isRule_55 : decode cX5_isRule 55 = .ok (.sipush 2000, 3) := by decide +kernel
theorem dX5_isRule_58 : decode cX5_isRule 58 = .ok (.invokestatic 33, 3) := by decide +kernel
theorem dX5_isRule_61 : decode cX5_isRule 61 = .ok (.ireturn, 1) := by decide +kernel
theorem dX5_isRule_62 : decode cX5_isRule 62 = .ok (.iload_n 1, 1) := by decide +kernel
theorem dX5_isRule_63 : decode cX5_isRule 63 = .ok (.iconst 1, 1) := by decide +kernel
theorem dX5_isRule_64 : decode cX5_isRule 64 = .ok (.bipush 100, 2) := by decide +kernel
theorem dX5_isRule_66 : decode cX5_isRule 66 = .ok (.invokestatic 33, 3) := by decide +kernel
theorem dX5_isRule_69 : decode cX5_isRule 69 = .ok (.ireturn, 1) := by decide +kernel
theorem dX5_isRule_70 : decode cX5_isRule 70 = .ok (.iload_n 1, 1) := by decide +kernel
theorem dX5_isRule_71 : decode cX5_isRule 71 = .ok (.iconst 0, 1) := by decide +kernel
theorem dX5_isRule_72 : decode cX5_isRule 72 = .ok (.sipush 2000, 3) := by decide +kernel
theorem dX5_isRule_75 : decode cX5_isRule 75 = .ok (.invokestatic 33, 3) := by decide +kernel
theorem dX5_isRule_78 : decode cX5_isRule 78 = .ok (.ireturn, 1) := by decide +kernel
theorem dX5_isRule_79 : decode cX5_isRule 79 = .ok (.iload_n 1, 1) := by decide +kernel
theorem dX5_isRule_80 : decode cX5_isRule 80 = .ok (.iconst 0, 1) := by decide +kernel
theorem dX5_isRule_81 : decode cX5_isRule 81 = .ok (.bipush 20, 2) := by decide +kernel
theorem dX5_isRule_83 : decode cX5_isRule 83 = .ok (.invokestatic 33, 3) := by decide +kernel
theorem dX5_isRule_86 : decode cX5_isRule 86 = .ok (.ireturn, 1) := by decide +kernel
theorem dX5_isRule_87 : decode cX5_isRule 87 = .ok (.iload_n 1, 1) := by decide +kernel
theorem dX5_isRule_88 : decode cX5_isRule 88 = .ok (.iconst 1, 1) := by decide +kernel
theorem dX5_isRule_89 : decode cX5_isRule 89 = .ok (.sipush 200, 3) := by decide +kernel
theorem dX5_isRule_92 : decode cX5_isRule 92 = .ok (.invokestatic 33, 3) := by decide +kernel
theorem dX5_isRule_95 : decode cX5_isRule 95 = .ok (.ireturn, 1) := by decide +kernel
theorem dX5_isRule_96 : decode cX5_isRule 96 = .ok (.iload_n 1, 1) := by decide +kernel
theorem dX5_isRule_97 : decode cX5_isRule 97 = .ok (.iconst 1, 1) := by decide +kernel
theorem dX5_isRule_98 : decode cX5_isRule 98 = .ok (.sipush 5000, 3) := by decide +kernel
theorem dX5_isRule_101 : decode cX5_isRule 101 = .ok (.invokestatic 33, 3) := by decide +kernel
theorem dX5_isRule_104 : decode cX5_isRule 104 = .ok (.ireturn, 1) := by decide +kernel
theorem dX5_isRule_105 : decode cX5_isRule 105 = .ok (.iload_n 0, 1) := by decide +kernel
theorem dX5_isRule_106 : decode cX5_isRule 106 = .ok (.bipush 7, 2) := by decide +kernel
theorem dX5_isRule_108 : decode cX5_isRule 108 = .ok (.if_icmp .ne 16, 3) := by decide +kernel
theorem dX5_isRule_111 : decode cX5_isRule 111 = .ok (.iload_n 1, 1) := by decide +kernel
theorem dX5_isRule_112 : decode cX5_isRule 112 = .ok (.iconst 1, 1) := by decide +kernel
theorem dX5_isRule_113 : decode cX5_isRule 113 = .ok (.iconst 5, 1) := by decide +kernel
theorem dX5_isRule_114 : decode cX5_isRule 114 = .ok (.invokestatic 33, 3) := by decide +kernel
theorem dX5_isRule_117 : decode cX5_isRule 117 = .ok (.ifCond .eq 7, 3) := by decide +kernel
theorem dX5_isRule_120 : decode cX5_isRule 120 = .ok (.iconst 1, 1) := by decide +kernel
theorem dX5_isRule_121 : decode cX5_isRule 121 = .ok (.goto 4, 3) := by decide +kernel
theorem dX5_isRule_124 : decode cX5_isRule 124 = .ok (.iconst 0, 1) := by decide +kernel
theorem dX5_isRule_125 : decode cX5_isRule 125 = .ok (.ireturn, 1) := by decide +kernel
theorem dX5_rule_0 : decode cX5_rule 0 = .ok (.iload_n 1, 1) := by decide +kernel
theorem dX5_rule_1 : decode cX5_rule 1 = .ok (.iload_n 2, 1) := by decide +kernel
theorem dX5_rule_2 : decode cX5_rule 2 = .ok (.invokestatic 37, 3) := by decide +kernel
theorem dX5_rule_5 : decode cX5_rule 5 = .ok (.ifCond .ne 6, 3) := by decide +kernel
theorem dX5_rule_8 : decode cX5_rule 8 = .ok (.bipush (-2), 2) := by decide +kernel
theorem dX5_rule_10 : decode cX5_rule 10 = .ok (.ireturn, 1) := by decide +kernel
theorem dX5_rule_11 : decode cX5_rule 11 = .ok (.aload_n 0, 1) := by decide +kernel
theorem dX5_rule_12 : decode cX5_rule 12 = .ok (.getfield 7, 3) := by decide +kernel
theorem dX5_rule_15 : decode cX5_rule 15 = .ok (.iload_n 1, 1) := by decide +kernel
theorem dX5_rule_16 : decode cX5_rule 16 = .ok (.iaload, 1) := by decide +kernel
theorem dX5_rule_17 : decode cX5_rule 17 = .ok (.istore_n 3, 1) := by decide +kernel
theorem dX5_rule_18 : decode cX5_rule 18 = .ok (.aload_n 0, 1) := by decide +kernel
theorem dX5_rule_19 : decode cX5_rule 19 = .ok (.getfield 7, 3) := by decide +kernel
theorem dX5_rule_22 : decode cX5_rule 22 = .ok (.iload_n 1, 1) := by decide +kernel
theorem dX5_rule_23 : decode cX5_rule 23 = .ok (.iload_n 2, 1) := by decide +kernel
theorem dX5_rule_24 : decode cX5_rule 24 = .ok (.iastore, 1) := by decide +kernel
theorem dX5_rule_25 : decode cX5_rule 25 = .ok (.iload_n 3, 1) := by decide +kernel
theorem dX5_rule_26 : decode cX5_rule 26 = .ok (.ireturn, 1) := by decide +kernel
theorem dX5_addTask_0 : decode cX5_addTask 0 = .ok (.iload_n 1, 1) := by decide +kernel
theorem dX5_addTask_1 : decode cX5_addTask 1 = .ok (.iconst 1, 1) := by decide +kernel
theorem dX5_addTask_2 : decode cX5_addTask 2 = .ok (.sipush 200, 3) := by decide +kernel
theorem dX5_addTask_5 : decode cX5_addTask 5 = .ok (.invokestatic 33, 3) := by decide +kernel
theorem dX5_addTask_8 : decode cX5_addTask 8 = .ok (.ifCond .eq 14, 3) := by decide +kernel
theorem dX5_addTask_11 : decode cX5_addTask 11 = .ok (.iload_n 2, 1) := by decide +kernel
theorem dX5_addTask_12 : decode cX5_addTask 12 = .ok (.iconst 1, 1) := by decide +kernel
theorem dX5_addTask_13 : decode cX5_addTask 13 = .ok (.sipush 200, 3) := by decide +kernel
theorem dX5_addTask_16 : decode cX5_addTask 16 = .ok (.invokestatic 33, 3) := by decide +kernel
theorem dX5_addTask_19 : decode cX5_addTask 19 = .ok (.ifCond .ne 6, 3) := by decide +kernel
theorem dX5_addTask_22 : decode cX5_addTask 22 = .ok (.bipush (-2), 2) := by decide +kernel
theorem dX5_addTask_24 : decode cX5_addTask 24 = .ok (.ireturn, 1) := by decide +kernel
theorem dX5_addTask_25 : decode cX5_addTask 25 = .ok (.aload_n 0, 1) := by decide +kernel
theorem dX5_addTask_26 : decode cX5_addTask 26 = .ok (.getfield 7, 3) := by decide +kernel
theorem dX5_addTask_29 : decode cX5_addTask 29 = .ok (.bipush 17, 2) := by decide +kernel
theorem dX5_addTask_31 : decode cX5_addTask 31 = .ok (.iaload, 1) := by decide +kernel
theorem dX5_addTask_32 : decode cX5_addTask 32 = .ok (.bipush 6, 2) := by decide +kernel
theorem dX5_addTask_34 : decode cX5_addTask 34 = .ok (.if_icmp .ne 6, 3) := by decide +kernel
theorem dX5_addTask_37 : decode cX5_addTask 37 = .ok (.bipush (-4), 2) := by decide +kernel
theorem dX5_addTask_39 : decode cX5_addTask 39 = .ok (.ireturn, 1) := by decide +kernel
theorem dX5_addTask_40 : decode cX5_addTask 40 = .ok (.aload_n 0, 1) := by decide +kernel
theorem dX5_addTask_41 : decode cX5_addTask 41 = .ok (.getfield 7, 3) := by decide +kernel
theorem dX5_addTask_44 : decode cX5_addTask 44 = .ok (.bipush 17, 2) := by decide +kernel
theorem dX5_addTask_46 : decode cX5_addTask 46 = .ok (.iaload, 1) := by decide +kernel
theorem dX5_addTask_47 : decode cX5_addTask 47 = .ok (.istore_n 3, 1) := by decide +kernel
theorem dX5_addTask_48 : decode cX5_addTask 48 = .ok (.aload_n 0, 1) := by decide +kernel
theorem dX5_addTask_49 : decode cX5_addTask 49 = .ok (.getfield 7, 3) := by decide +kernel
theorem dX5_addTask_52 : decode cX5_addTask 52 = .ok (.bipush 17, 2) := by decide +kernel
theorem dX5_addTask_54 : decode cX5_addTask 54 = .ok (.dup2, 1) := by decide +kernel
theorem dX5_addTask_55 : decode cX5_addTask 55 = .ok (.iaload, 1) := by decide +kernel
theorem dX5_addTask_56 : decode cX5_addTask 56 = .ok (.iconst 1, 1) := by decide +kernel
theorem dX5_addTask_57 : decode cX5_addTask 57 = .ok (.iadd, 1) := by decide +kernel
theorem dX5_addTask_58 : decode cX5_addTask 58 = .ok (.iastore, 1) := by decide +kernel
theorem dX5_addTask_59 : decode cX5_addTask 59 = .ok (.aload_n 0, 1) := by decide +kernel
theorem dX5_addTask_60 : decode cX5_addTask 60 = .ok (.iload_n 3, 1) := by decide +kernel
theorem dX5_addTask_61 : decode cX5_addTask 61 = .ok (.iconst 0, 1) := by decide +kernel
theorem dX5_addTask_62 : decode cX5_addTask 62 = .ok (.iload_n 1, 1) := by decide +kernel
theorem dX5_addTask_63 : decode cX5_addTask 63 = .ok (.invokevirtual 41, 3) := by decide +kernel
theorem dX5_addTask_66 : decode cX5_addTask 66 = .ok (.aload_n 0, 1) := by decide +kernel
theorem dX5_addTask_67 : decode cX5_addTask 67 = .ok (.iload_n 3, 1) := by decide +kernel
theorem dX5_addTask_68 : decode cX5_addTask 68 = .ok (.iconst 1, 1) := by decide +kernel
theorem dX5_addTask_69 : decode cX5_addTask 69 = .ok (.iload_n 2, 1) := by decide +kernel
theorem dX5_addTask_70 : decode cX5_addTask 70 = .ok (.invokevirtual 41, 3) := by decide +kernel
theorem dX5_addTask_73 : decode cX5_addTask 73 = .ok (.aload_n 0, 1) := by decide +kernel
theorem dX5_addTask_74 : decode cX5_addTask 74 = .ok (.iload_n 3, 1) := by decide +kernel
theorem dX5_addTask_75 : decode cX5_addTask 75 = .ok (.iconst 3, 1) := by decide +kernel
theorem dX5_addTask_76 : decode cX5_addTask 76 = .ok (.iconst 1, 1) := by decide +kernel
theorem dX5_addTask_77 : decode cX5_addTask 77 = .ok (.invokevirtual 41, 3) := by decide +kernel
theorem dX5_addTask_80 : decode cX5_addTask 80 = .ok (.aload_n 0, 1) := by decide +kernel
theorem dX5_addTask_81 : decode cX5_addTask 81 = .ok (.iload_n 3, 1) := by decide +kernel
theorem dX5_addTask_82 : decode cX5_addTask 82 = .ok (.iconst 4, 1) := by decide +kernel
theorem dX5_addTask_83 : decode cX5_addTask 83 = .ok (.iconst 1, 1) := by decide +kernel
theorem dX5_addTask_84 : decode cX5_addTask 84 = .ok (.invokevirtual 41, 3) := by decide +kernel
theorem dX5_addTask_87 : decode cX5_addTask 87 = .ok (.aload_n 0, 1) := by decide +kernel
theorem dX5_addTask_88 : decode cX5_addTask 88 = .ok (.iload_n 3, 1) := by decide +kernel
theorem dX5_addTask_89 : decode cX5_addTask 89 = .ok (.iconst 5, 1) := by decide +kernel
theorem dX5_addTask_90 : decode cX5_addTask 90 = .ok (.bipush 50, 2) := by decide +kernel
theorem dX5_addTask_92 : decode cX5_addTask 92 = .ok (.invokevirtual 41, 3) := by decide +kernel
theorem dX5_addTask_95 : decode cX5_addTask 95 = .ok (.aload_n 0, 1) := by decide +kernel
theorem dX5_addTask_96 : decode cX5_addTask 96 = .ok (.iload_n 3, 1) := by decide +kernel
theorem dX5_addTask_97 : decode cX5_addTask 97 = .ok (.bipush 6, 2) := by decide +kernel
theorem dX5_addTask_99 : decode cX5_addTask 99 = .ok (.iconst 1, 1) := by decide +kernel
theorem dX5_addTask_100 : decode cX5_addTask 100 = .ok (.invokevirtual 41, 3) := by decide +kernel
theorem dX5_addTask_103 : decode cX5_addTask 103 = .ok (.iload_n 3, 1) := by decide +kernel
theorem dX5_addTask_104 : decode cX5_addTask 104 = .ok (.ireturn, 1) := by decide +kernel
theorem dX5_isSetting_0 : decode cX5_isSetting 0 = .ok (.iload_n 0, 1) := by decide +kernel
theorem dX5_isSetting_1 : decode cX5_isSetting 1 = .ok (.tableswitch 85 0 6 #[43, 43, 52, 61, 69, 69, 77], 43) := by decide +kernel
theorem dX5_isSetting_44 : decode cX5_isSetting 44 = .ok (.iload_n 1, 1) := by decide +kernel
theorem dX5_isSetting_45 : decode cX5_isSetting 45 = .ok (.iconst 1, 1) := by decide +kernel
theorem dX5_isSetting_46 : decode cX5_isSetting 46 = .ok (.sipush 200, 3) := by decide +kernel
theorem dX5_isSetting_49 : decode cX5_isSetting 49 = .ok (.invokestatic 33, 3) := by decide +kernel
theorem dX5_isSetting_52 : decode cX5_isSetting 52 = .ok (.ireturn, 1) := by decide +kernel
theorem dX5_isSetting_53 : decode cX5_isSetting 53 = .ok (.iload_n 1, 1) := by decide +kernel
theorem dX5_isSetting_54 : decode cX5_isSetting 54 = .ok (.iconst 0, 1) := by decide +kernel
theorem dX5_isSetting_55 : decode cX5_isSetting 55 = .ok (.sipush 199, 3) := by decide +kernel
theorem dX5_isSetting_58 : decode cX5_isSetting 58 = .ok (.invokestatic 33, 3) := by decide +kernel
theorem dX5_isSetting_61 : decode cX5_isSetting 61 = .ok (.ireturn, 1) := by decide +kernel
theorem dX5_isSetting_62 : decode cX5_isSetting 62 = .ok (.iload_n 1, 1) := by decide +kernel
theorem dX5_isSetting_63 : decode cX5_isSetting 63 = .ok (.iconst 1, 1) := by decide +kernel
theorem dX5_isSetting_64 : decode cX5_isSetting 64 = .ok (.bipush 20, 2) := by decide +kernel
theorem dX5_isSetting_66 : decode cX5_isSetting 66 = .ok (.invokestatic 33, 3) := by decide +kernel
theorem dX5_isSetting_69 : decode cX5_isSetting 69 = .ok (.ireturn, 1) := by decide +kernel
theorem dX5_isSetting_70 : decode cX5_isSetting 70 = .ok (.iload_n 1, 1) := by decide +kernel
theorem dX5_isSetting_71 : decode cX5_isSetting 71 = .ok (.iconst 0, 1) := by decide +kernel
theorem dX5_isSetting_72 : decode cX5_isSetting 72 = .ok (.bipush 50, 2) := by decide +kernel
theorem dX5_isSetting_74 : decode cX5_isSetting 74 = .ok (.invokestatic 33, 3) := by decide +kernel
theorem dX5_isSetting_77 : decode cX5_isSetting 77 = .ok (.ireturn, 1) := by decide +kernel
theorem dX5_isSetting_78 : decode cX5_isSetting 78 = .ok (.iload_n 1, 1) := by decide +kernel
theorem dX5_isSetting_79 : decode cX5_isSetting 79 = .ok (.iconst 0, 1) := by decide +kernel
theorem dX5_isSetting_80 : decode cX5_isSetting 80 = .ok (.bipush 10, 2) := by decide +kernel
theorem dX5_isSetting_82 : decode cX5_isSetting 82 = .ok (.invokestatic 33, 3) := by decide +kernel
theorem dX5_isSetting_85 : decode cX5_isSetting 85 = .ok (.ireturn, 1) := by decide +kernel
theorem dX5_isSetting_86 : decode cX5_isSetting 86 = .ok (.iload_n 0, 1) := by decide +kernel
theorem dX5_isSetting_87 : decode cX5_isSetting 87 = .ok (.bipush 7, 2) := by decide +kernel
theorem dX5_isSetting_89 : decode cX5_isSetting 89 = .ok (.if_icmp .ne 18, 3) := by decide +kernel
theorem dX5_isSetting_92 : decode cX5_isSetting 92 = .ok (.iload_n 1, 1) := by decide +kernel
theorem dX5_isSetting_93 : decode cX5_isSetting 93 = .ok (.iconst 0, 1) := by decide +kernel
theorem dX5_isSetting_94 : decode cX5_isSetting 94 = .ok (.sipush 500, 3) := by decide +kernel
theorem dX5_isSetting_97 : decode cX5_isSetting 97 = .ok (.invokestatic 33, 3) := by decide +kernel
theorem dX5_isSetting_100 : decode cX5_isSetting 100 = .ok (.ifCond .eq 7, 3) := by decide +kernel
theorem dX5_isSetting_103 : decode cX5_isSetting 103 = .ok (.iconst 1, 1) := by decide +kernel
theorem dX5_isSetting_104 : decode cX5_isSetting 104 = .ok (.goto 4, 3) := by decide +kernel
theorem dX5_isSetting_107 : decode cX5_isSetting 107 = .ok (.iconst 0, 1) := by decide +kernel
theorem dX5_isSetting_108 : decode cX5_isSetting 108 = .ok (.ireturn, 1) := by decide +kernel
theorem dX5_set_0 : decode cX5_set 0 = .ok (.aload_n 0, 1) := by decide +kernel
theorem dX5_set_1 : decode cX5_set 1 = .ok (.iload_n 1, 1) := by decide +kernel
theorem dX5_set_2 : decode cX5_set 2 = .ok (.invokevirtual 45, 3) := by decide +kernel
theorem dX5_set_5 : decode cX5_set 5 = .ok (.ifCond .ne 5, 3) := by decide +kernel
theorem dX5_set_8 : decode cX5_set 8 = .ok (.iconst (-1), 1) := by decide +kernel
theorem dX5_set_9 : decode cX5_set 9 = .ok (.ireturn, 1) := by decide +kernel
theorem dX5_set_10 : decode cX5_set 10 = .ok (.iload_n 2, 1) := by decide +kernel
theorem dX5_set_11 : decode cX5_set 11 = .ok (.iload_n 3, 1) := by decide +kernel
theorem dX5_set_12 : decode cX5_set 12 = .ok (.invokestatic 49, 3) := by decide +kernel
theorem dX5_set_15 : decode cX5_set 15 = .ok (.ifCond .ne 6, 3) := by decide +kernel
theorem dX5_set_18 : decode cX5_set 18 = .ok (.bipush (-2), 2) := by decide +kernel
theorem dX5_set_20 : decode cX5_set 20 = .ok (.ireturn, 1) := by decide +kernel
theorem dX5_set_21 : decode cX5_set 21 = .ok (.aload_n 0, 1) := by decide +kernel
theorem dX5_set_22 : decode cX5_set 22 = .ok (.iload_n 1, 1) := by decide +kernel
theorem dX5_set_23 : decode cX5_set 23 = .ok (.iload_n 2, 1) := by decide +kernel
theorem dX5_set_24 : decode cX5_set 24 = .ok (.invokevirtual 52, 3) := by decide +kernel
theorem dX5_set_27 : decode cX5_set 27 = .ok (.istore 4, 2) := by decide +kernel
theorem dX5_set_29 : decode cX5_set 29 = .ok (.aload_n 0, 1) := by decide +kernel
theorem dX5_set_30 : decode cX5_set 30 = .ok (.iload_n 1, 1) := by decide +kernel
theorem dX5_set_31 : decode cX5_set 31 = .ok (.iload_n 2, 1) := by decide +kernel
theorem dX5_set_32 : decode cX5_set 32 = .ok (.iload_n 3, 1) := by decide +kernel
theorem dX5_set_33 : decode cX5_set 33 = .ok (.invokevirtual 41, 3) := by decide +kernel
theorem dX5_set_36 : decode cX5_set 36 = .ok (.iload 4, 2) := by decide +kernel
theorem dX5_set_38 : decode cX5_set 38 = .ok (.ireturn, 1) := by decide +kernel
theorem dX5_layFault_0 : decode cX5_layFault 0 = .ok (.aload_n 0, 1) := by decide +kernel
theorem dX5_layFault_1 : decode cX5_layFault 1 = .ok (.iload_n 2, 1) := by decide +kernel
theorem dX5_layFault_2 : decode cX5_layFault 2 = .ok (.bipush 20, 2) := by decide +kernel
theorem dX5_layFault_4 : decode cX5_layFault 4 = .ok (.iconst 3, 1) := by decide +kernel
theorem dX5_layFault_5 : decode cX5_layFault 5 = .ok (.iload_n 1, 1) := by decide +kernel
theorem dX5_layFault_6 : decode cX5_layFault 6 = .ok (.imul, 1) := by decide +kernel
theorem dX5_layFault_7 : decode cX5_layFault 7 = .ok (.iadd, 1) := by decide +kernel
theorem dX5_layFault_8 : decode cX5_layFault 8 = .ok (.iload_n 3, 1) := by decide +kernel
theorem dX5_layFault_9 : decode cX5_layFault 9 = .ok (.invokevirtual 41, 3) := by decide +kernel
theorem dX5_layFault_12 : decode cX5_layFault 12 = .ok (.aload_n 0, 1) := by decide +kernel
theorem dX5_layFault_13 : decode cX5_layFault 13 = .ok (.iload_n 2, 1) := by decide +kernel
theorem dX5_layFault_14 : decode cX5_layFault 14 = .ok (.bipush 20, 2) := by decide +kernel
theorem dX5_layFault_16 : decode cX5_layFault 16 = .ok (.iconst 3, 1) := by decide +kernel
theorem dX5_layFault_17 : decode cX5_layFault 17 = .ok (.iload_n 1, 1) := by decide +kernel
theorem dX5_layFault_18 : decode cX5_layFault 18 = .ok (.imul, 1) := by decide +kernel
theorem dX5_layFault_19 : decode cX5_layFault 19 = .ok (.iadd, 1) := by decide +kernel
theorem dX5_layFault_20 : decode cX5_layFault 20 = .ok (.iconst 1, 1) := by decide +kernel
theorem dX5_layFault_21 : decode cX5_layFault 21 = .ok (.iadd, 1) := by decide +kernel
theorem dX5_layFault_22 : decode cX5_layFault 22 = .ok (.iload 4, 2) := by decide +kernel
theorem dX5_layFault_24 : decode cX5_layFault 24 = .ok (.invokevirtual 41, 3) := by decide +kernel
theorem dX5_layFault_27 : decode cX5_layFault 27 = .ok (.aload_n 0, 1) := by decide +kernel
theorem dX5_layFault_28 : decode cX5_layFault 28 = .ok (.iload_n 2, 1) := by decide +kernel
theorem dX5_layFault_29 : decode cX5_layFault 29 = .ok (.bipush 20, 2) := by decide +kernel
theorem dX5_layFault_31 : decode cX5_layFault 31 = .ok (.iconst 3, 1) := by decide +kernel
theorem dX5_layFault_32 : decode cX5_layFault 32 = .ok (.iload_n 1, 1) := by decide +kernel
theorem dX5_layFault_33 : decode cX5_layFault 33 = .ok (.imul, 1) := by decide +kernel
theorem dX5_layFault_34 : decode cX5_layFault 34 = .ok (.iadd, 1) := by decide +kernel
theorem dX5_layFault_35 : decode cX5_layFault 35 = .ok (.iconst 2, 1) := by decide +kernel
theorem dX5_layFault_36 : decode cX5_layFault 36 = .ok (.iadd, 1) := by decide +kernel
theorem dX5_layFault_37 : decode cX5_layFault 37 = .ok (.iload 5, 2) := by decide +kernel
theorem dX5_layFault_39 : decode cX5_layFault 39 = .ok (.invokevirtual 41, 3) := by decide +kernel
theorem dX5_layFault_42 : decode cX5_layFault 42 = .ok (.return_, 1) := by decide +kernel
theorem dX5_putFault_0 : decode cX5_putFault 0 = .ok (.iload_n 1, 1) := by decide +kernel
theorem dX5_putFault_1 : decode cX5_putFault 1 = .ok (.iconst 0, 1) := by decide +kernel
theorem dX5_putFault_2 : decode cX5_putFault 2 = .ok (.iconst 1, 1) := by decide +kernel
theorem dX5_putFault_3 : decode cX5_putFault 3 = .ok (.invokestatic 33, 3) := by decide +kernel
theorem dX5_putFault_6 : decode cX5_putFault 6 = .ok (.ifCond .eq 11, 3) := by decide +kernel
theorem dX5_putFault_9 : decode cX5_putFault 9 = .ok (.aload_n 0, 1) := by decide +kernel
theorem dX5_putFault_10 : decode cX5_putFault 10 = .ok (.iload_n 2, 1) := by decide +kernel
theorem dX5_putFault_11 : decode cX5_putFault 11 = .ok (.invokevirtual 45, 3) := by decide +kernel
theorem dX5_putFault_14 : decode cX5_putFault 14 = .ok (.ifCond .ne 5, 3) := by decide +kernel
theorem dX5_putFault_17 : decode cX5_putFault 17 = .ok (.iconst (-1), 1) := by decide +kernel
theorem dX5_putFault_18 : decode cX5_putFault 18 = .ok (.ireturn, 1) := by decide +kernel
theorem dX5_putFault_19 : decode cX5_putFault 19 = .ok (.iload_n 3, 1) := by decide +kernel
theorem dX5_putFault_20 : decode cX5_putFault 20 = .ok (.iconst 0, 1) := by decide +kernel
theorem dX5_putFault_21 : decode cX5_putFault 21 = .ok (.iconst 5, 1) := by decide +kernel
theorem dX5_putFault_22 : decode cX5_putFault 22 = .ok (.invokestatic 33, 3) := by decide +kernel
theorem dX5_putFault_25 : decode cX5_putFault 25 = .ok (.ifCond .eq 27, 3) := by decide +kernel
theorem dX5_putFault_28 : decode cX5_putFault 28 = .ok (.iload 4, 2) := by decide +kernel
theorem dX5_putFault_30 : decode cX5_putFault 30 = .ok (.iconst 0, 1) := by decide +kernel
theorem dX5_putFault_31 : decode cX5_putFault 31 = .ok (.sipush 5000, 3) := by decide +kernel
theorem dX5_putFault_34 : decode cX5_putFault 34 = .ok (.invokestatic 33, 3) := by decide +kernel
theorem dX5_putFault_37 : decode cX5_putFault 37 = .ok (.ifCond .eq 15, 3) := by decide +kernel
theorem dX5_putFault_40 : decode cX5_putFault 40 = .ok (.iload 5, 2) := by decide +kernel
theorem dX5_putFault_42 : decode cX5_putFault 42 = .ok (.iconst 0, 1) := by decide +kernel
theorem dX5_putFault_43 : decode cX5_putFault 43 = .ok (.sipush 500, 3) := by decide +kernel
theorem dX5_putFault_46 : decode cX5_putFault 46 = .ok (.invokestatic 33, 3) := by decide +kernel
theorem dX5_putFault_49 : decode cX5_putFault 49 = .ok (.ifCond .ne 6, 3) := by decide +kernel
theorem dX5_putFault_52 : decode cX5_putFault 52 = .ok (.bipush (-2), 2) := by decide +kernel
theorem dX5_putFault_54 : decode cX5_putFault 54 = .ok (.ireturn, 1) := by decide +kernel
theorem dX5_putFault_55 : decode cX5_putFault 55 = .ok (.aload_n 0, 1) := by decide +kernel
theorem dX5_putFault_56 : decode cX5_putFault 56 = .ok (.iload_n 2, 1) := by decide +kernel
theorem dX5_putFault_57 : decode cX5_putFault 57 = .ok (.bipush 20, 2) := by decide +kernel
theorem dX5_putFault_59 : decode cX5_putFault 59 = .ok (.iconst 3, 1) := by decide +kernel
theorem dX5_putFault_60 : decode cX5_putFault 60 = .ok (.iload_n 1, 1) := by decide +kernel
theorem dX5_putFault_61 : decode cX5_putFault 61 = .ok (.imul, 1) := by decide +kernel
theorem dX5_putFault_62 : decode cX5_putFault 62 = .ok (.iadd, 1) := by decide +kernel
theorem dX5_putFault_63 : decode cX5_putFault 63 = .ok (.invokevirtual 52, 3) := by decide +kernel
theorem dX5_putFault_66 : decode cX5_putFault 66 = .ok (.istore 6, 2) := by decide +kernel
theorem dX5_putFault_68 : decode cX5_putFault 68 = .ok (.aload_n 0, 1) := by decide +kernel
theorem dX5_putFault_69 : decode cX5_putFault 69 = .ok (.iload_n 1, 1) := by decide +kernel
theorem dX5_putFault_70 : decode cX5_putFault 70 = .ok (.iload_n 2, 1) := by decide +kernel
theorem dX5_putFault_71 : decode cX5_putFault 71 = .ok (.iload_n 3, 1) := by decide +kernel
theorem dX5_putFault_72 : decode cX5_putFault 72 = .ok (.iload 4, 2) := by decide +kernel
theorem dX5_putFault_74 : decode cX5_putFault 74 = .ok (.iload 5, 2) := by decide +kernel
theorem dX5_putFault_76 : decode cX5_putFault 76 = .ok (.invokevirtual 55, 3) := by decide +kernel
theorem dX5_putFault_79 : decode cX5_putFault 79 = .ok (.iload 6, 2) := by decide +kernel
theorem dX5_putFault_81 : decode cX5_putFault 81 = .ok (.ireturn, 1) := by decide +kernel
theorem dX5_put_0 : decode cX5_put 0 = .ok (.iconst 0, 1) := by decide +kernel
theorem dX5_put_1 : decode cX5_put 1 = .ok (.istore_n 3, 1) := by decide +kernel
theorem dX5_put_2 : decode cX5_put 2 = .ok (.lload_n 1, 1) := by decide +kernel
theorem dX5_put_3 : decode cX5_put 3 = .ok (.lstore 4, 2) := by decide +kernel
theorem dX5_put_5 : decode cX5_put 5 = .ok (.iload_n 3, 1) := by decide +kernel
theorem dX5_put_6 : decode cX5_put 6 = .ok (.bipush 8, 2) := by decide +kernel
theorem dX5_put_8 : decode cX5_put 8 = .ok (.if_icmp .ge 47, 3) := by decide +kernel
theorem dX5_put_11 : decode cX5_put 11 = .ok (.lload 4, 2) := by decide +kernel
theorem dX5_put_13 : decode cX5_put 13 = .ok (.ldc2_w 59, 3) := by decide +kernel
theorem dX5_put_16 : decode cX5_put 16 = .ok (.land, 1) := by decide +kernel
theorem dX5_put_17 : decode cX5_put 17 = .ok (.lconst 0, 1) := by decide +kernel
theorem dX5_put_18 : decode cX5_put 18 = .ok (.lcmp, 1) := by decide +kernel
theorem dX5_put_19 : decode cX5_put 19 = .ok (.ifCond .eq 36, 3) := by decide +kernel
theorem dX5_put_22 : decode cX5_put 22 = .ok (.lload 4, 2) := by decide +kernel
theorem dX5_put_24 : decode cX5_put 24 = .ok (.ldc2_w 59, 3) := by decide +kernel
theorem dX5_put_27 : decode cX5_put 27 = .ok (.land, 1) := by decide +kernel
theorem dX5_put_28 : decode cX5_put 28 = .ok (.l2i, 1) := by decide +kernel
theorem dX5_put_29 : decode cX5_put 29 = .ok (.bipush 33, 2) := by decide +kernel
theorem dX5_put_31 : decode cX5_put 31 = .ok (.bipush 126, 2) := by decide +kernel
theorem dX5_put_33 : decode cX5_put 33 = .ok (.invokestatic 33, 3) := by decide +kernel
theorem dX5_put_36 : decode cX5_put 36 = .ok (.ifCond .ne 6, 3) := by decide +kernel
theorem dX5_put_39 : decode cX5_put 39 = .ok (.bipush (-2), 2) := by decide +kernel
theorem dX5_put_41 : decode cX5_put 41 = .ok (.ireturn, 1) := by decide +kernel
theorem dX5_put_42 : decode cX5_put 42 = .ok (.iinc 3 1, 3) := by decide +kernel
theorem dX5_put_45 : decode cX5_put 45 = .ok (.lload 4, 2) := by decide +kernel
theorem dX5_put_47 : decode cX5_put 47 = .ok (.bipush 8, 2) := by decide +kernel
theorem dX5_put_49 : decode cX5_put 49 = .ok (.lushr, 1) := by decide +kernel
theorem dX5_put_50 : decode cX5_put 50 = .ok (.lstore 4, 2) := by decide +kernel
theorem dX5_put_52 : decode cX5_put 52 = .ok (.goto (-47), 3) := by decide +kernel
theorem dX5_put_55 : decode cX5_put 55 = .ok (.iload_n 3, 1) := by decide +kernel
theorem dX5_put_56 : decode cX5_put 56 = .ok (.ifCond .eq 10, 3) := by decide +kernel
theorem dX5_put_59 : decode cX5_put 59 = .ok (.lload 4, 2) := by decide +kernel
theorem dX5_put_61 : decode cX5_put 61 = .ok (.lconst 0, 1) := by decide +kernel
theorem dX5_put_62 : decode cX5_put 62 = .ok (.lcmp, 1) := by decide +kernel
theorem dX5_put_63 : decode cX5_put 63 = .ok (.ifCond .eq 6, 3) := by decide +kernel
theorem dX5_put_66 : decode cX5_put 66 = .ok (.bipush (-2), 2) := by decide +kernel
theorem dX5_put_68 : decode cX5_put 68 = .ok (.ireturn, 1) := by decide +kernel
theorem dX5_put_69 : decode cX5_put 69 = .ok (.aload_n 0, 1) := by decide +kernel
theorem dX5_put_70 : decode cX5_put 70 = .ok (.getfield 61, 3) := by decide +kernel
theorem dX5_put_73 : decode cX5_put 73 = .ok (.iload_n 3, 1) := by decide +kernel
theorem dX5_put_74 : decode cX5_put 74 = .ok (.iadd, 1) := by decide +kernel
theorem dX5_put_75 : decode cX5_put 75 = .ok (.bipush 60, 2) := by decide +kernel
theorem dX5_put_77 : decode cX5_put 77 = .ok (.if_icmp .le 6, 3) := by decide +kernel
theorem dX5_put_80 : decode cX5_put 80 = .ok (.bipush (-4), 2) := by decide +kernel
theorem dX5_put_82 : decode cX5_put 82 = .ok (.ireturn, 1) := by decide +kernel
theorem dX5_put_83 : decode cX5_put 83 = .ok (.iconst 0, 1) := by decide +kernel
theorem dX5_put_84 : decode cX5_put 84 = .ok (.istore 6, 2) := by decide +kernel
theorem dX5_put_86 : decode cX5_put 86 = .ok (.iload 6, 2) := by decide +kernel
theorem dX5_put_88 : decode cX5_put 88 = .ok (.iload_n 3, 1) := by decide +kernel
theorem dX5_put_89 : decode cX5_put 89 = .ok (.if_icmp .ge 37, 3) := by decide +kernel
theorem dX5_put_92 : decode cX5_put 92 = .ok (.aload_n 0, 1) := by decide +kernel
theorem dX5_put_93 : decode cX5_put 93 = .ok (.getfield 23, 3) := by decide +kernel
theorem dX5_put_96 : decode cX5_put 96 = .ok (.aload_n 0, 1) := by decide +kernel
theorem dX5_put_97 : decode cX5_put 97 = .ok (.getfield 61, 3) := by decide +kernel
theorem dX5_put_100 : decode cX5_put 100 = .ok (.iload 6, 2) := by decide +kernel
theorem dX5_put_102 : decode cX5_put 102 = .ok (.iadd, 1) := by decide +kernel
theorem dX5_put_103 : decode cX5_put 103 = .ok (.lload_n 1, 1) := by decide +kernel
theorem dX5_put_104 : decode cX5_put 104 = .ok (.bipush 8, 2) := by decide +kernel
theorem dX5_put_106 : decode cX5_put 106 = .ok (.iload_n 3, 1) := by decide +kernel
theorem dX5_put_107 : decode cX5_put 107 = .ok (.iconst 1, 1) := by decide +kernel
theorem dX5_put_108 : decode cX5_put 108 = .ok (.isub, 1) := by decide +kernel
theorem dX5_put_109 : decode cX5_put 109 = .ok (.iload 6, 2) := by decide +kernel
theorem dX5_put_111 : decode cX5_put 111 = .ok (.isub, 1) := by decide +kernel
theorem dX5_put_112 : decode cX5_put 112 = .ok (.imul, 1) := by decide +kernel
theorem dX5_put_113 : decode cX5_put 113 = .ok (.lshr, 1) := by decide +kernel
theorem dX5_put_114 : decode cX5_put 114 = .ok (.ldc2_w 59, 3) := by decide +kernel
theorem dX5_put_117 : decode cX5_put 117 = .ok (.land, 1) := by decide +kernel
theorem dX5_put_118 : decode cX5_put 118 = .ok (.l2i, 1) := by decide +kernel
theorem dX5_put_119 : decode cX5_put 119 = .ok (.iastore, 1) := by decide +kernel
theorem dX5_put_120 : decode cX5_put 120 = .ok (.iinc 6 1, 3) := by decide +kernel
theorem dX5_put_123 : decode cX5_put 123 = .ok (.goto (-37), 3) := by decide +kernel
theorem dX5_put_126 : decode cX5_put 126 = .ok (.aload_n 0, 1) := by decide +kernel
theorem dX5_put_127 : decode cX5_put 127 = .ok (.dup, 1) := by decide +kernel
theorem dX5_put_128 : decode cX5_put 128 = .ok (.getfield 61, 3) := by decide +kernel
theorem dX5_put_131 : decode cX5_put 131 = .ok (.iload_n 3, 1) := by decide +kernel
theorem dX5_put_132 : decode cX5_put 132 = .ok (.iadd, 1) := by decide +kernel
theorem dX5_put_133 : decode cX5_put 133 = .ok (.putfield 61, 3) := by decide +kernel
theorem dX5_put_136 : decode cX5_put 136 = .ok (.aload_n 0, 1) := by decide +kernel
theorem dX5_put_137 : decode cX5_put 137 = .ok (.getfield 61, 3) := by decide +kernel
theorem dX5_put_140 : decode cX5_put 140 = .ok (.ireturn, 1) := by decide +kernel
theorem dX5_wipe_0 : decode cX5_wipe 0 = .ok (.aload_n 0, 1) := by decide +kernel
theorem dX5_wipe_1 : decode cX5_wipe 1 = .ok (.getfield 61, 3) := by decide +kernel
theorem dX5_wipe_4 : decode cX5_wipe 4 = .ok (.istore_n 1, 1) := by decide +kernel
theorem dX5_wipe_5 : decode cX5_wipe 5 = .ok (.aload_n 0, 1) := by decide +kernel
theorem dX5_wipe_6 : decode cX5_wipe 6 = .ok (.iconst 0, 1) := by decide +kernel
theorem dX5_wipe_7 : decode cX5_wipe 7 = .ok (.putfield 61, 3) := by decide +kernel
theorem dX5_wipe_10 : decode cX5_wipe 10 = .ok (.iload_n 1, 1) := by decide +kernel
theorem dX5_wipe_11 : decode cX5_wipe 11 = .ok (.ireturn, 1) := by decide +kernel
theorem dX5_next_0 : decode cX5_next 0 = .ok (.aload_n 0, 1) := by decide +kernel
theorem dX5_next_1 : decode cX5_next 1 = .ok (.getfield 65, 3) := by decide +kernel
theorem dX5_next_4 : decode cX5_next 4 = .ok (.aload_n 0, 1) := by decide +kernel
theorem dX5_next_5 : decode cX5_next 5 = .ok (.getfield 61, 3) := by decide +kernel
theorem dX5_next_8 : decode cX5_next 8 = .ok (.if_icmp .ge 15, 3) := by decide +kernel
theorem dX5_next_11 : decode cX5_next 11 = .ok (.aload_n 0, 1) := by decide +kernel
theorem dX5_next_12 : decode cX5_next 12 = .ok (.getfield 23, 3) := by decide +kernel
theorem dX5_next_15 : decode cX5_next 15 = .ok (.aload_n 0, 1) := by decide +kernel
theorem dX5_next_16 : decode cX5_next 16 = .ok (.getfield 65, 3) := by decide +kernel
theorem dX5_next_19 : decode cX5_next 19 = .ok (.iaload, 1) := by decide +kernel
theorem dX5_next_20 : decode cX5_next 20 = .ok (.goto 4, 3) := by decide +kernel
theorem dX5_next_23 : decode cX5_next 23 = .ok (.iconst 0, 1) := by decide +kernel
theorem dX5_next_24 : decode cX5_next 24 = .ok (.ireturn, 1) := by decide +kernel
theorem dX5_readNumber_0 : decode cX5_readNumber 0 = .ok (.aload_n 0, 1) := by decide +kernel
theorem dX5_readNumber_1 : decode cX5_readNumber 1 = .ok (.getfield 68, 3) := by decide +kernel
theorem dX5_readNumber_4 : decode cX5_readNumber 4 = .ok (.ifCond .ne 17, 3) := by decide +kernel
theorem dX5_readNumber_7 : decode cX5_readNumber 7 = .ok (.aload_n 0, 1) := by decide +kernel
theorem dX5_readNumber_8 : decode cX5_readNumber 8 = .ok (.invokevirtual 72, 3) := by decide +kernel
theorem dX5_readNumber_11 : decode cX5_readNumber 11 = .ok (.bipush 48, 2) := by decide +kernel
theorem dX5_readNumber_13 : decode cX5_readNumber 13 = .ok (.bipush 57, 2) := by decide +kernel
theorem dX5_readNumber_15 : decode cX5_readNumber 15 = .ok (.invokestatic 33, 3) := by decide +kernel
theorem dX5_readNumber_18 : decode cX5_readNumber 18 = .ok (.ifCond .ne 10, 3) := by decide +kernel
theorem dX5_readNumber_21 : decode cX5_readNumber 21 = .ok (.aload_n 0, 1) := by decide +kernel
theorem dX5_readNumber_22 : decode cX5_readNumber 22 = .ok (.iconst 1, 1) := by decide +kernel
theorem dX5_readNumber_23 : decode cX5_readNumber 23 = .ok (.putfield 68, 3) := by decide +kernel
theorem dX5_readNumber_26 : decode cX5_readNumber 26 = .ok (.iconst 0, 1) := by decide +kernel
theorem dX5_readNumber_27 : decode cX5_readNumber 27 = .ok (.ireturn, 1) := by decide +kernel
theorem dX5_readNumber_28 : decode cX5_readNumber 28 = .ok (.aload_n 0, 1) := by decide +kernel
theorem dX5_readNumber_29 : decode cX5_readNumber 29 = .ok (.invokevirtual 72, 3) := by decide +kernel
theorem dX5_readNumber_32 : decode cX5_readNumber 32 = .ok (.bipush 48, 2) := by decide +kernel
theorem dX5_readNumber_34 : decode cX5_readNumber 34 = .ok (.isub, 1) := by decide +kernel
theorem dX5_readNumber_35 : decode cX5_readNumber 35 = .ok (.istore_n 2, 1) := by decide +kernel
theorem dX5_readNumber_36 : decode cX5_readNumber 36 = .ok (.aload_n 0, 1) := by decide +kernel
theorem dX5_readNumber_37 : decode cX5_readNumber 37 = .ok (.dup, 1) := by decide +kernel
theorem dX5_readNumber_38 : decode cX5_readNumber 38 = .ok (.getfield 65, 3) := by decide +kernel
theorem dX5_readNumber_41 : decode cX5_readNumber 41 = .ok (.iconst 1, 1) := by decide +kernel
theorem dX5_readNumber_42 : decode cX5_readNumber 42 = .ok (.iadd, 1) := by decide +kernel
theorem dX5_readNumber_43 : decode cX5_readNumber 43 = .ok (.putfield 65, 3) := by decide +kernel
theorem dX5_readNumber_46 : decode cX5_readNumber 46 = .ok (.iload_n 2, 1) := by decide +kernel
theorem dX5_readNumber_47 : decode cX5_readNumber 47 = .ok (.ifCond .le 59, 3) := by decide +kernel
theorem dX5_readNumber_50 : decode cX5_readNumber 50 = .ok (.aload_n 0, 1) := by decide +kernel
theorem dX5_readNumber_51 : decode cX5_readNumber 51 = .ok (.invokevirtual 72, 3) := by decide +kernel
theorem dX5_readNumber_54 : decode cX5_readNumber 54 = .ok (.bipush 48, 2) := by decide +kernel
theorem dX5_readNumber_56 : decode cX5_readNumber 56 = .ok (.bipush 57, 2) := by decide +kernel
theorem dX5_readNumber_58 : decode cX5_readNumber 58 = .ok (.invokestatic 33, 3) := by decide +kernel
theorem dX5_readNumber_61 : decode cX5_readNumber 61 = .ok (.ifCond .eq 45, 3) := by decide +kernel
theorem dX5_readNumber_64 : decode cX5_readNumber 64 = .ok (.bipush 10, 2) := by decide +kernel
theorem dX5_readNumber_66 : decode cX5_readNumber 66 = .ok (.iload_n 2, 1) := by decide +kernel
theorem dX5_readNumber_67 : decode cX5_readNumber 67 = .ok (.imul, 1) := by decide +kernel
theorem dX5_readNumber_68 : decode cX5_readNumber 68 = .ok (.aload_n 0, 1) := by decide +kernel
theorem dX5_readNumber_69 : decode cX5_readNumber 69 = .ok (.invokevirtual 72, 3) := by decide +kernel
theorem dX5_readNumber_72 : decode cX5_readNumber 72 = .ok (.iadd, 1) := by decide +kernel
theorem dX5_readNumber_73 : decode cX5_readNumber 73 = .ok (.bipush 48, 2) := by decide +kernel
theorem dX5_readNumber_75 : decode cX5_readNumber 75 = .ok (.isub, 1) := by decide +kernel
theorem dX5_readNumber_76 : decode cX5_readNumber 76 = .ok (.iload_n 1, 1) := by decide +kernel
theorem dX5_readNumber_77 : decode cX5_readNumber 77 = .ok (.if_icmp .gt 29, 3) := by decide +kernel
theorem dX5_readNumber_80 : decode cX5_readNumber 80 = .ok (.bipush 10, 2) := by decide +kernel
theorem dX5_readNumber_82 : decode cX5_readNumber 82 = .ok (.iload_n 2, 1) := by decide +kernel
theorem dX5_readNumber_83 : decode cX5_readNumber 83 = .ok (.imul, 1) := by decide +kernel
theorem dX5_readNumber_84 : decode cX5_readNumber 84 = .ok (.aload_n 0, 1) := by decide +kernel
theorem dX5_readNumber_85 : decode cX5_readNumber 85 = .ok (.invokevirtual 72, 3) := by decide +kernel
theorem dX5_readNumber_88 : decode cX5_readNumber 88 = .ok (.iadd, 1) := by decide +kernel
theorem dX5_readNumber_89 : decode cX5_readNumber 89 = .ok (.bipush 48, 2) := by decide +kernel
theorem dX5_readNumber_91 : decode cX5_readNumber 91 = .ok (.isub, 1) := by decide +kernel
theorem dX5_readNumber_92 : decode cX5_readNumber 92 = .ok (.istore_n 2, 1) := by decide +kernel
theorem dX5_readNumber_93 : decode cX5_readNumber 93 = .ok (.aload_n 0, 1) := by decide +kernel
theorem dX5_readNumber_94 : decode cX5_readNumber 94 = .ok (.dup, 1) := by decide +kernel
theorem dX5_readNumber_95 : decode cX5_readNumber 95 = .ok (.getfield 65, 3) := by decide +kernel
theorem dX5_readNumber_98 : decode cX5_readNumber 98 = .ok (.iconst 1, 1) := by decide +kernel
theorem dX5_readNumber_99 : decode cX5_readNumber 99 = .ok (.iadd, 1) := by decide +kernel
theorem dX5_readNumber_100 : decode cX5_readNumber 100 = .ok (.putfield 65, 3) := by decide +kernel
theorem dX5_readNumber_103 : decode cX5_readNumber 103 = .ok (.goto (-57), 3) := by decide +kernel
theorem dX5_readNumber_106 : decode cX5_readNumber 106 = .ok (.iload_n 2, 1) := by decide +kernel
theorem dX5_readNumber_107 : decode cX5_readNumber 107 = .ok (.ireturn, 1) := by decide +kernel
theorem dX5_takes_0 : decode cX5_takes 0 = .ok (.aload_n 0, 1) := by decide +kernel
theorem dX5_takes_1 : decode cX5_takes 1 = .ok (.getfield 68, 3) := by decide +kernel
theorem dX5_takes_4 : decode cX5_takes 4 = .ok (.ifCond .ne 11, 3) := by decide +kernel
theorem dX5_takes_7 : decode cX5_takes 7 = .ok (.aload_n 0, 1) := by decide +kernel
theorem dX5_takes_8 : decode cX5_takes 8 = .ok (.invokevirtual 72, 3) := by decide +kernel
theorem dX5_takes_11 : decode cX5_takes 11 = .ok (.iload_n 1, 1) := by decide +kernel
theorem dX5_takes_12 : decode cX5_takes 12 = .ok (.if_icmp .eq 5, 3) := by decide +kernel
theorem dX5_takes_15 : decode cX5_takes 15 = .ok (.iconst 0, 1) := by decide +kernel
theorem dX5_takes_16 : decode cX5_takes 16 = .ok (.ireturn, 1) := by decide +kernel
theorem dX5_takes_17 : decode cX5_takes 17 = .ok (.aload_n 0, 1) := by decide +kernel
theorem dX5_takes_18 : decode cX5_takes 18 = .ok (.dup, 1) := by decide +kernel
theorem dX5_takes_19 : decode cX5_takes 19 = .ok (.getfield 65, 3) := by decide +kernel
theorem dX5_takes_22 : decode cX5_takes 22 = .ok (.iconst 1, 1) := by decide +kernel
theorem dX5_takes_23 : decode cX5_takes 23 = .ok (.iadd, 1) := by decide +kernel
theorem dX5_takes_24 : decode cX5_takes 24 = .ok (.putfield 65, 3) := by decide +kernel
theorem dX5_takes_27 : decode cX5_takes 27 = .ok (.iconst 1, 1) := by decide +kernel
theorem dX5_takes_28 : decode cX5_takes 28 = .ok (.ireturn, 1) := by decide +kernel
theorem dX5_kindOf_0 : decode cX5_kindOf 0 = .ok (.iload_n 0, 1) := by decide +kernel
theorem dX5_kindOf_1 : decode cX5_kindOf 1 = .ok (.tableswitch 77 104 116 #[69, 77, 77, 73, 77, 77, 67, 77, 77, 77, 77, 71, 75], 67) := by decide +kernel
theorem dX5_kindOf_68 : decode cX5_kindOf 68 = .ok (.iconst 0, 1) := by decide +kernel
theorem dX5_kindOf_69 : decode cX5_kindOf 69 = .ok (.ireturn, 1) := by decide +kernel
theorem dX5_kindOf_70 : decode cX5_kindOf 70 = .ok (.iconst 1, 1) := by decide +kernel
theorem dX5_kindOf_71 : decode cX5_kindOf 71 = .ok (.ireturn, 1) := by decide +kernel
theorem dX5_kindOf_72 : decode cX5_kindOf 72 = .ok (.iconst 2, 1) := by decide +kernel
theorem dX5_kindOf_73 : decode cX5_kindOf 73 = .ok (.ireturn, 1) := by decide +kernel
theorem dX5_kindOf_74 : decode cX5_kindOf 74 = .ok (.iconst 3, 1) := by decide +kernel
theorem dX5_kindOf_75 : decode cX5_kindOf 75 = .ok (.ireturn, 1) := by decide +kernel
theorem dX5_kindOf_76 : decode cX5_kindOf 76 = .ok (.iconst 4, 1) := by decide +kernel
theorem dX5_kindOf_77 : decode cX5_kindOf 77 = .ok (.ireturn, 1) := by decide +kernel
theorem dX5_kindOf_78 : decode cX5_kindOf 78 = .ok (.iload_n 0, 1) := by decide +kernel
theorem dX5_kindOf_79 : decode cX5_kindOf 79 = .ok (.bipush 99, 2) := by decide +kernel
theorem dX5_kindOf_81 : decode cX5_kindOf 81 = .ok (.if_icmp .ne 7, 3) := by decide +kernel
theorem dX5_kindOf_84 : decode cX5_kindOf 84 = .ok (.iconst 5, 1) := by decide +kernel
theorem dX5_kindOf_85 : decode cX5_kindOf 85 = .ok (.goto 5, 3) := by decide +kernel
theorem dX5_kindOf_88 : decode cX5_kindOf 88 = .ok (.bipush (-6), 2) := by decide +kernel
theorem dX5_kindOf_90 : decode cX5_kindOf 90 = .ok (.ireturn, 1) := by decide +kernel
theorem dX5_readFault_0 : decode cX5_readFault 0 = .ok (.iconst 5, 1) := by decide +kernel
theorem dX5_readFault_1 : decode cX5_readFault 1 = .ok (.aload_n 0, 1) := by decide +kernel
theorem dX5_readFault_2 : decode cX5_readFault 2 = .ok (.getfield 76, 3) := by decide +kernel
theorem dX5_readFault_5 : decode cX5_readFault 5 = .ok (.imul, 1) := by decide +kernel
theorem dX5_readFault_6 : decode cX5_readFault 6 = .ok (.istore_n 1, 1) := by decide +kernel
theorem dX5_readFault_7 : decode cX5_readFault 7 = .ok (.aload_n 0, 1) := by decide +kernel
theorem dX5_readFault_8 : decode cX5_readFault 8 = .ok (.getfield 26, 3) := by decide +kernel
theorem dX5_readFault_11 : decode cX5_readFault 11 = .ok (.iload_n 1, 1) := by decide +kernel
theorem dX5_readFault_12 : decode cX5_readFault 12 = .ok (.aload_n 0, 1) := by decide +kernel
theorem dX5_readFault_13 : decode cX5_readFault 13 = .ok (.invokevirtual 72, 3) := by decide +kernel
theorem dX5_readFault_16 : decode cX5_readFault 16 = .ok (.invokestatic 79, 3) := by decide +kernel
theorem dX5_readFault_19 : decode cX5_readFault 19 = .ok (.iastore, 1) := by decide +kernel
theorem dX5_readFault_20 : decode cX5_readFault 20 = .ok (.aload_n 0, 1) := by decide +kernel
theorem dX5_readFault_21 : decode cX5_readFault 21 = .ok (.aload_n 0, 1) := by decide +kernel
theorem dX5_readFault_22 : decode cX5_readFault 22 = .ok (.getfield 26, 3) := by decide +kernel
theorem dX5_readFault_25 : decode cX5_readFault 25 = .ok (.iload_n 1, 1) := by decide +kernel
theorem dX5_readFault_26 : decode cX5_readFault 26 = .ok (.iaload, 1) := by decide +kernel
theorem dX5_readFault_27 : decode cX5_readFault 27 = .ok (.ifCond .ge 7, 3) := by decide +kernel
theorem dX5_readFault_30 : decode cX5_readFault 30 = .ok (.iconst 1, 1) := by decide +kernel
theorem dX5_readFault_31 : decode cX5_readFault 31 = .ok (.goto 4, 3) := by decide +kernel
theorem dX5_readFault_34 : decode cX5_readFault 34 = .ok (.iconst 0, 1) := by decide +kernel
theorem dX5_readFault_35 : decode cX5_readFault 35 = .ok (.putfield 68, 3) := by decide +kernel
theorem dX5_readFault_38 : decode cX5_readFault 38 = .ok (.aload_n 0, 1) := by decide +kernel
theorem dX5_readFault_39 : decode cX5_readFault 39 = .ok (.dup, 1) := by decide +kernel
theorem dX5_readFault_40 : decode cX5_readFault 40 = .ok (.getfield 65, 3) := by decide +kernel
theorem dX5_readFault_43 : decode cX5_readFault 43 = .ok (.aload_n 0, 1) := by decide +kernel
theorem dX5_readFault_44 : decode cX5_readFault 44 = .ok (.getfield 68, 3) := by decide +kernel
theorem dX5_readFault_47 : decode cX5_readFault 47 = .ok (.ifCond .eq 7, 3) := by decide +kernel
theorem dX5_readFault_50 : decode cX5_readFault 50 = .ok (.iconst 0, 1) := by decide +kernel
theorem dX5_readFault_51 : decode cX5_readFault 51 = .ok (.goto 4, 3) := by decide +kernel
theorem dX5_readFault_54 : decode cX5_readFault 54 = .ok (.iconst 1, 1) := by decide +kernel
theorem dX5_readFault_55 : decode cX5_readFault 55 = .ok (.iadd, 1) := by decide +kernel
theorem dX5_readFault_56 : decode cX5_readFault 56 = .ok (.putfield 65, 3) := by decide +kernel
theorem dX5_readFault_59 : decode cX5_readFault 59 = .ok (.aload_n 0, 1) := by decide +kernel
theorem dX5_readFault_60 : decode cX5_readFault 60 = .ok (.getfield 68, 3) := by decide +kernel
theorem dX5_readFault_63 : decode cX5_readFault 63 = .ok (.ifCond .ne 17, 3) := by decide +kernel
theorem dX5_readFault_66 : decode cX5_readFault 66 = .ok (.aload_n 0, 1) := by decide +kernel
theorem dX5_readFault_67 : decode cX5_readFault 67 = .ok (.invokevirtual 72, 3) := by decide +kernel
theorem dX5_readFault_70 : decode cX5_readFault 70 = .ok (.bipush 48, 2) := by decide +kernel
theorem dX5_readFault_72 : decode cX5_readFault 72 = .ok (.bipush 53, 2) := by decide +kernel
theorem dX5_readFault_74 : decode cX5_readFault 74 = .ok (.invokestatic 33, 3) := by decide +kernel
theorem dX5_readFault_77 : decode cX5_readFault 77 = .ok (.ifCond .ne 9, 3) := by decide +kernel
theorem dX5_readFault_80 : decode cX5_readFault 80 = .ok (.aload_n 0, 1) := by decide +kernel
theorem dX5_readFault_81 : decode cX5_readFault 81 = .ok (.iconst 1, 1) := by decide +kernel
theorem dX5_readFault_82 : decode cX5_readFault 82 = .ok (.putfield 68, 3) := by decide +kernel
theorem dX5_readFault_85 : decode cX5_readFault 85 = .ok (.return_, 1) := by decide +kernel
theorem dX5_readFault_86 : decode cX5_readFault 86 = .ok (.aload_n 0, 1) := by decide +kernel
theorem dX5_readFault_87 : decode cX5_readFault 87 = .ok (.getfield 26, 3) := by decide +kernel
theorem dX5_readFault_90 : decode cX5_readFault 90 = .ok (.iload_n 1, 1) := by decide +kernel
theorem dX5_readFault_91 : decode cX5_readFault 91 = .ok (.iconst 1, 1) := by decide +kernel
theorem dX5_readFault_92 : decode cX5_readFault 92 = .ok (.iadd, 1) := by decide +kernel
theorem dX5_readFault_93 : decode cX5_readFault 93 = .ok (.aload_n 0, 1) := by decide +kernel
theorem dX5_readFault_94 : decode cX5_readFault 94 = .ok (.invokevirtual 72, 3) := by decide +kernel
theorem dX5_readFault_97 : decode cX5_readFault 97 = .ok (.bipush 48, 2) := by decide +kernel
theorem dX5_readFault_99 : decode cX5_readFault 99 = .ok (.isub, 1) := by decide +kernel
theorem dX5_readFault_100 : decode cX5_readFault 100 = .ok (.iastore, 1) := by decide +kernel
theorem dX5_readFault_101 : decode cX5_readFault 101 = .ok (.aload_n 0, 1) := by decide +kernel
theorem dX5_readFault_102 : decode cX5_readFault 102 = .ok (.dup, 1) := by decide +kernel
theorem dX5_readFault_103 : decode cX5_readFault 103 = .ok (.getfield 65, 3) := by decide +kernel
theorem dX5_readFault_106 : decode cX5_readFault 106 = .ok (.iconst 1, 1) := by decide +kernel
theorem dX5_readFault_107 : decode cX5_readFault 107 = .ok (.iadd, 1) := by decide +kernel
theorem dX5_readFault_108 : decode cX5_readFault 108 = .ok (.putfield 65, 3) := by decide +kernel
theorem dX5_readFault_111 : decode cX5_readFault 111 = .ok (.aload_n 0, 1) := by decide +kernel
theorem dX5_readFault_112 : decode cX5_readFault 112 = .ok (.getfield 26, 3) := by decide +kernel
theorem dX5_readFault_115 : decode cX5_readFault 115 = .ok (.iload_n 1, 1) := by decide +kernel
theorem dX5_readFault_116 : decode cX5_readFault 116 = .ok (.iconst 2, 1) := by decide +kernel
theorem dX5_readFault_117 : decode cX5_readFault 117 = .ok (.iadd, 1) := by decide +kernel
theorem dX5_readFault_118 : decode cX5_readFault 118 = .ok (.aload_n 0, 1) := by decide +kernel
theorem dX5_readFault_119 : decode cX5_readFault 119 = .ok (.bipush 64, 2) := by decide +kernel
theorem dX5_readFault_121 : decode cX5_readFault 121 = .ok (.invokevirtual 83, 3) := by decide +kernel
theorem dX5_readFault_124 : decode cX5_readFault 124 = .ok (.ifCond .eq 13, 3) := by decide +kernel
theorem dX5_readFault_127 : decode cX5_readFault 127 = .ok (.aload_n 0, 1) := by decide +kernel
theorem dX5_readFault_128 : decode cX5_readFault 128 = .ok (.sipush 5000, 3) := by decide +kernel
theorem dX5_readFault_131 : decode cX5_readFault 131 = .ok (.invokevirtual 86, 3) := by decide +kernel
theorem dX5_readFault_134 : decode cX5_readFault 134 = .ok (.goto 4, 3) := by decide +kernel
theorem dX5_readFault_137 : decode cX5_readFault 137 = .ok (.iconst 0, 1) := by decide +kernel
theorem dX5_readFault_138 : decode cX5_readFault 138 = .ok (.iastore, 1) := by decide +kernel
theorem dX5_readFault_139 : decode cX5_readFault 139 = .ok (.aload_n 0, 1) := by decide +kernel
theorem dX5_readFault_140 : decode cX5_readFault 140 = .ok (.getfield 26, 3) := by decide +kernel
theorem dX5_readFault_143 : decode cX5_readFault 143 = .ok (.iload_n 1, 1) := by decide +kernel
theorem dX5_readFault_144 : decode cX5_readFault 144 = .ok (.iconst 3, 1) := by decide +kernel
theorem dX5_readFault_145 : decode cX5_readFault 145 = .ok (.iadd, 1) := by decide +kernel
theorem dX5_readFault_146 : decode cX5_readFault 146 = .ok (.aload_n 0, 1) := by decide +kernel
theorem dX5_readFault_147 : decode cX5_readFault 147 = .ok (.bipush 42, 2) := by decide +kernel
theorem dX5_readFault_149 : decode cX5_readFault 149 = .ok (.invokevirtual 83, 3) := by decide +kernel
theorem dX5_readFault_152 : decode cX5_readFault 152 = .ok (.ifCond .eq 13, 3) := by decide +kernel
theorem dX5_readFault_155 : decode cX5_readFault 155 = .ok (.aload_n 0, 1) := by decide +kernel
theorem dX5_readFault_156 : decode cX5_readFault 156 = .ok (.sipush 500, 3) := by decide +kernel
theorem dX5_readFault_159 : decode cX5_readFault 159 = .ok (.invokevirtual 86, 3) := by decide +kernel
theorem dX5_readFault_162 : decode cX5_readFault 162 = .ok (.goto 4, 3) := by decide +kernel
theorem dX5_readFault_165 : decode cX5_readFault 165 = .ok (.iconst 0, 1) := by decide +kernel
theorem dX5_readFault_166 : decode cX5_readFault 166 = .ok (.iastore, 1) := by decide +kernel
theorem dX5_readFault_167 : decode cX5_readFault 167 = .ok (.aload_n 0, 1) := by decide +kernel
theorem dX5_readFault_168 : decode cX5_readFault 168 = .ok (.getfield 26, 3) := by decide +kernel
theorem dX5_readFault_171 : decode cX5_readFault 171 = .ok (.iload_n 1, 1) := by decide +kernel
theorem dX5_readFault_172 : decode cX5_readFault 172 = .ok (.iconst 4, 1) := by decide +kernel
theorem dX5_readFault_173 : decode cX5_readFault 173 = .ok (.iadd, 1) := by decide +kernel
theorem dX5_readFault_174 : decode cX5_readFault 174 = .ok (.aload_n 0, 1) := by decide +kernel
theorem dX5_readFault_175 : decode cX5_readFault 175 = .ok (.bipush 33, 2) := by decide +kernel
theorem dX5_readFault_177 : decode cX5_readFault 177 = .ok (.invokevirtual 83, 3) := by decide +kernel
theorem dX5_readFault_180 : decode cX5_readFault 180 = .ok (.ifCond .eq 7, 3) := by decide +kernel
theorem dX5_readFault_183 : decode cX5_readFault 183 = .ok (.iconst 1, 1) := by decide +kernel
theorem dX5_readFault_184 : decode cX5_readFault 184 = .ok (.goto 4, 3) := by decide +kernel
theorem dX5_readFault_187 : decode cX5_readFault 187 = .ok (.iconst 0, 1) := by decide +kernel
theorem dX5_readFault_188 : decode cX5_readFault 188 = .ok (.iastore, 1) := by decide +kernel
theorem dX5_readFault_189 : decode cX5_readFault 189 = .ok (.aload_n 0, 1) := by decide +kernel
theorem dX5_readFault_190 : decode cX5_readFault 190 = .ok (.dup, 1) := by decide +kernel
theorem dX5_readFault_191 : decode cX5_readFault 191 = .ok (.getfield 76, 3) := by decide +kernel
theorem dX5_readFault_194 : decode cX5_readFault 194 = .ok (.iconst 1, 1) := by decide +kernel
theorem dX5_readFault_195 : decode cX5_readFault 195 = .ok (.iadd, 1) := by decide +kernel
theorem dX5_readFault_196 : decode cX5_readFault 196 = .ok (.putfield 76, 3) := by decide +kernel
theorem dX5_readFault_199 : decode cX5_readFault 199 = .ok (.return_, 1) := by decide +kernel
theorem dX5_position_0 : decode cX5_position 0 = .ok (.aload_n 0, 1) := by decide +kernel
theorem dX5_position_1 : decode cX5_position 1 = .ok (.iconst 0, 1) := by decide +kernel
theorem dX5_position_2 : decode cX5_position 2 = .ok (.putfield 65, 3) := by decide +kernel
theorem dX5_position_5 : decode cX5_position 5 = .ok (.aload_n 0, 1) := by decide +kernel
theorem dX5_position_6 : decode cX5_position 6 = .ok (.iconst 0, 1) := by decide +kernel
theorem dX5_position_7 : decode cX5_position 7 = .ok (.putfield 68, 3) := by decide +kernel
theorem dX5_position_10 : decode cX5_position 10 = .ok (.aload_n 0, 1) := by decide +kernel
theorem dX5_position_11 : decode cX5_position 11 = .ok (.iconst 0, 1) := by decide +kernel
theorem dX5_position_12 : decode cX5_position 12 = .ok (.putfield 76, 3) := by decide +kernel
theorem dX5_position_15 : decode cX5_position 15 = .ok (.aload_n 0, 1) := by decide +kernel
theorem dX5_position_16 : decode cX5_position 16 = .ok (.invokevirtual 89, 3) := by decide +kernel
theorem dX5_position_19 : decode cX5_position 19 = .ok (.aload_n 0, 1) := by decide +kernel
theorem dX5_position_20 : decode cX5_position 20 = .ok (.bipush 44, 2) := by decide +kernel
theorem dX5_position_22 : decode cX5_position 22 = .ok (.invokevirtual 83, 3) := by decide +kernel
theorem dX5_position_25 : decode cX5_position 25 = .ok (.ifCond .eq 10, 3) := by decide +kernel
theorem dX5_position_28 : decode cX5_position 28 = .ok (.aload_n 0, 1) := by decide +kernel
theorem dX5_position_29 : decode cX5_position 29 = .ok (.invokevirtual 89, 3) := by decide +kernel
theorem dX5_position_32 : decode cX5_position 32 = .ok (.goto (-13), 3) := by decide +kernel
theorem dX5_position_35 : decode cX5_position 35 = .ok (.aload_n 0, 1) := by decide +kernel
theorem dX5_position_36 : decode cX5_position 36 = .ok (.getfield 68, 3) := by decide +kernel
theorem dX5_position_39 : decode cX5_position 39 = .ok (.ifCond .ne 14, 3) := by decide +kernel
theorem dX5_position_42 : decode cX5_position 42 = .ok (.aload_n 0, 1) := by decide +kernel
theorem dX5_position_43 : decode cX5_position 43 = .ok (.getfield 65, 3) := by decide +kernel
theorem dX5_position_46 : decode cX5_position 46 = .ok (.aload_n 0, 1) := by decide +kernel
theorem dX5_position_47 : decode cX5_position 47 = .ok (.getfield 61, 3) := by decide +kernel
theorem dX5_position_50 : decode cX5_position 50 = .ok (.if_icmp .ge 10, 3) := by decide +kernel
theorem dX5_position_53 : decode cX5_position 53 = .ok (.aload_n 0, 1) := by decide +kernel
theorem dX5_position_54 : decode cX5_position 54 = .ok (.getfield 65, 3) := by decide +kernel
theorem dX5_position_57 : decode cX5_position 57 = .ok (.goto 5, 3) := by decide +kernel
theorem dX5_position_60 : decode cX5_position 60 = .ok (.bipush (-6), 2) := by decide +kernel
theorem dX5_position_62 : decode cX5_position 62 = .ok (.ireturn, 1) := by decide +kernel
theorem dX5_load_0 : decode cX5_load 0 = .ok (.aload_n 0, 1) := by decide +kernel
theorem dX5_load_1 : decode cX5_load 1 = .ok (.invokevirtual 92, 3) := by decide +kernel
theorem dX5_load_4 : decode cX5_load 4 = .ok (.bipush (-6), 2) := by decide +kernel
theorem dX5_load_6 : decode cX5_load 6 = .ok (.if_icmp .eq 6, 3) := by decide +kernel
theorem dX5_load_9 : decode cX5_load 9 = .ok (.bipush (-3), 2) := by decide +kernel
theorem dX5_load_11 : decode cX5_load 11 = .ok (.ireturn, 1) := by decide +kernel
theorem dX5_load_12 : decode cX5_load 12 = .ok (.iconst 1, 1) := by decide +kernel
theorem dX5_load_13 : decode cX5_load 13 = .ok (.istore_n 1, 1) := by decide +kernel
theorem dX5_load_14 : decode cX5_load 14 = .ok (.iconst 0, 1) := by decide +kernel
theorem dX5_load_15 : decode cX5_load 15 = .ok (.istore_n 2, 1) := by decide +kernel
theorem dX5_load_16 : decode cX5_load 16 = .ok (.iload_n 2, 1) := by decide +kernel
theorem dX5_load_17 : decode cX5_load 17 = .ok (.aload_n 0, 1) := by decide +kernel
theorem dX5_load_18 : decode cX5_load 18 = .ok (.getfield 76, 3) := by decide +kernel
theorem dX5_load_21 : decode cX5_load 21 = .ok (.if_icmp .ge 36, 3) := by decide +kernel
theorem dX5_load_24 : decode cX5_load 24 = .ok (.iload_n 1, 1) := by decide +kernel
theorem dX5_load_25 : decode cX5_load 25 = .ok (.ifCond .eq 24, 3) := by decide +kernel
theorem dX5_load_28 : decode cX5_load 28 = .ok (.aload_n 0, 1) := by decide +kernel
theorem dX5_load_29 : decode cX5_load 29 = .ok (.aload_n 0, 1) := by decide +kernel
theorem dX5_load_30 : decode cX5_load 30 = .ok (.getfield 26, 3) := by decide +kernel
theorem dX5_load_33 : decode cX5_load 33 = .ok (.iconst 5, 1) := by decide +kernel
theorem dX5_load_34 : decode cX5_load 34 = .ok (.iload_n 2, 1) := by decide +kernel
theorem dX5_load_35 : decode cX5_load 35 = .ok (.imul, 1) := by decide +kernel
theorem dX5_load_36 : decode cX5_load 36 = .ok (.iconst 1, 1) := by decide +kernel
theorem dX5_load_37 : decode cX5_load 37 = .ok (.iadd, 1) := by decide +kernel
theorem dX5_load_38 : decode cX5_load 38 = .ok (.iaload, 1) := by decide +kernel
theorem dX5_load_39 : decode cX5_load 39 = .ok (.invokevirtual 45, 3) := by decide +kernel
theorem dX5_load_42 : decode cX5_load 42 = .ok (.ifCond .eq 7, 3) := by decide +kernel
theorem dX5_load_45 : decode cX5_load 45 = .ok (.iconst 1, 1) := by decide +kernel
theorem dX5_load_46 : decode cX5_load 46 = .ok (.goto 4, 3) := by decide +kernel
theorem dX5_load_49 : decode cX5_load 49 = .ok (.iconst 0, 1) := by decide +kernel
theorem dX5_load_50 : decode cX5_load 50 = .ok (.istore_n 1, 1) := by decide +kernel
theorem dX5_load_51 : decode cX5_load 51 = .ok (.iinc 2 1, 3) := by decide +kernel
theorem dX5_load_54 : decode cX5_load 54 = .ok (.goto (-38), 3) := by decide +kernel
theorem dX5_load_57 : decode cX5_load 57 = .ok (.iload_n 1, 1) := by decide +kernel
theorem dX5_load_58 : decode cX5_load 58 = .ok (.ifCond .ne 5, 3) := by decide +kernel
theorem dX5_load_61 : decode cX5_load 61 = .ok (.iconst (-1), 1) := by decide +kernel
theorem dX5_load_62 : decode cX5_load 62 = .ok (.ireturn, 1) := by decide +kernel
theorem dX5_load_63 : decode cX5_load 63 = .ok (.iconst 0, 1) := by decide +kernel
theorem dX5_load_64 : decode cX5_load 64 = .ok (.istore_n 2, 1) := by decide +kernel
theorem dX5_load_65 : decode cX5_load 65 = .ok (.iload_n 2, 1) := by decide +kernel
theorem dX5_load_66 : decode cX5_load 66 = .ok (.aload_n 0, 1) := by decide +kernel
theorem dX5_load_67 : decode cX5_load 67 = .ok (.getfield 76, 3) := by decide +kernel
theorem dX5_load_70 : decode cX5_load 70 = .ok (.if_icmp .ge 61, 3) := by decide +kernel
theorem dX5_load_73 : decode cX5_load 73 = .ok (.aload_n 0, 1) := by decide +kernel
theorem dX5_load_74 : decode cX5_load 74 = .ok (.aload_n 0, 1) := by decide +kernel
theorem dX5_load_75 : decode cX5_load 75 = .ok (.getfield 26, 3) := by decide +kernel
theorem dX5_load_78 : decode cX5_load 78 = .ok (.iconst 5, 1) := by decide +kernel
theorem dX5_load_79 : decode cX5_load 79 = .ok (.iload_n 2, 1) := by decide +kernel
theorem dX5_load_80 : decode cX5_load 80 = .ok (.imul, 1) := by decide +kernel
theorem dX5_load_81 : decode cX5_load 81 = .ok (.iconst 4, 1) := by decide +kernel
theorem dX5_load_82 : decode cX5_load 82 = .ok (.iadd, 1) := by decide +kernel
theorem dX5_load_83 : decode cX5_load 83 = .ok (.iaload, 1) := by decide +kernel
theorem dX5_load_84 : decode cX5_load 84 = .ok (.aload_n 0, 1) := by decide +kernel
theorem dX5_load_85 : decode cX5_load 85 = .ok (.getfield 26, 3) := by decide +kernel
theorem dX5_load_88 : decode cX5_load 88 = .ok (.iconst 5, 1) := by decide +kernel
theorem dX5_load_89 : decode cX5_load 89 = .ok (.iload_n 2, 1) := by decide +kernel
theorem dX5_load_90 : decode cX5_load 90 = .ok (.imul, 1) := by decide +kernel
theorem dX5_load_91 : decode cX5_load 91 = .ok (.iconst 1, 1) := by decide +kernel
theorem dX5_load_92 : decode cX5_load 92 = .ok (.iadd, 1) := by decide +kernel
theorem dX5_load_93 : decode cX5_load 93 = .ok (.iaload, 1) := by decide +kernel
theorem dX5_load_94 : decode cX5_load 94 = .ok (.aload_n 0, 1) := by decide +kernel
theorem dX5_load_95 : decode cX5_load 95 = .ok (.getfield 26, 3) := by decide +kernel
theorem dX5_load_98 : decode cX5_load 98 = .ok (.iconst 5, 1) := by decide +kernel
theorem dX5_load_99 : decode cX5_load 99 = .ok (.iload_n 2, 1) := by decide +kernel
theorem dX5_load_100 : decode cX5_load 100 = .ok (.imul, 1) := by decide +kernel
theorem dX5_load_101 : decode cX5_load 101 = .ok (.iaload, 1) := by decide +kernel
theorem dX5_load_102 : decode cX5_load 102 = .ok (.aload_n 0, 1) := by decide +kernel
theorem dX5_load_103 : decode cX5_load 103 = .ok (.getfield 26, 3) := by decide +kernel
theorem dX5_load_106 : decode cX5_load 106 = .ok (.iconst 5, 1) := by decide +kernel
theorem dX5_load_107 : decode cX5_load 107 = .ok (.iload_n 2, 1) := by decide +kernel
theorem dX5_load_108 : decode cX5_load 108 = .ok (.imul, 1) := by decide +kernel
theorem dX5_load_109 : decode cX5_load 109 = .ok (.iconst 2, 1) := by decide +kernel
theorem dX5_load_110 : decode cX5_load 110 = .ok (.iadd, 1) := by decide +kernel
theorem dX5_load_111 : decode cX5_load 111 = .ok (.iaload, 1) := by decide +kernel
theorem dX5_load_112 : decode cX5_load 112 = .ok (.aload_n 0, 1) := by decide +kernel
theorem dX5_load_113 : decode cX5_load 113 = .ok (.getfield 26, 3) := by decide +kernel
theorem dX5_load_116 : decode cX5_load 116 = .ok (.iconst 5, 1) := by decide +kernel
theorem dX5_load_117 : decode cX5_load 117 = .ok (.iload_n 2, 1) := by decide +kernel
theorem dX5_load_118 : decode cX5_load 118 = .ok (.imul, 1) := by decide +kernel
theorem dX5_load_119 : decode cX5_load 119 = .ok (.iconst 3, 1) := by decide +kernel
theorem dX5_load_120 : decode cX5_load 120 = .ok (.iadd, 1) := by decide +kernel
theorem dX5_load_121 : decode cX5_load 121 = .ok (.iaload, 1) := by decide +kernel
theorem dX5_load_122 : decode cX5_load 122 = .ok (.invokevirtual 55, 3) := by decide +kernel
theorem dX5_load_125 : decode cX5_load 125 = .ok (.iinc 2 1, 3) := by decide +kernel
theorem dX5_load_128 : decode cX5_load 128 = .ok (.goto (-63), 3) := by decide +kernel
theorem dX5_load_131 : decode cX5_load 131 = .ok (.aload_n 0, 1) := by decide +kernel
theorem dX5_load_132 : decode cX5_load 132 = .ok (.iconst 0, 1) := by decide +kernel
theorem dX5_load_133 : decode cX5_load 133 = .ok (.putfield 61, 3) := by decide +kernel
theorem dX5_load_136 : decode cX5_load 136 = .ok (.aload_n 0, 1) := by decide +kernel
theorem dX5_load_137 : decode cX5_load 137 = .ok (.getfield 76, 3) := by decide +kernel
theorem dX5_load_140 : decode cX5_load 140 = .ok (.ireturn, 1) := by decide +kernel
theorem dX5_firstExpired_0 : decode cX5_firstExpired 0 = .ok (.iconst 0, 1) := by decide +kernel
theorem dX5_firstExpired_1 : decode cX5_firstExpired 1 = .ok (.istore_n 1, 1) := by decide +kernel
theorem dX5_firstExpired_2 : decode cX5_firstExpired 2 = .ok (.iload_n 1, 1) := by decide +kernel
theorem dX5_firstExpired_3 : decode cX5_firstExpired 3 = .ok (.aload_n 0, 1) := by decide +kernel
theorem dX5_firstExpired_4 : decode cX5_firstExpired 4 = .ok (.getfield 7, 3) := by decide +kernel
theorem dX5_firstExpired_7 : decode cX5_firstExpired 7 = .ok (.bipush 17, 2) := by decide +kernel
theorem dX5_firstExpired_9 : decode cX5_firstExpired 9 = .ok (.iaload, 1) := by decide +kernel
theorem dX5_firstExpired_10 : decode cX5_firstExpired 10 = .ok (.if_icmp .ge 22, 3) := by decide +kernel
theorem dX5_firstExpired_13 : decode cX5_firstExpired 13 = .ok (.aload_n 0, 1) := by decide +kernel
theorem dX5_firstExpired_14 : decode cX5_firstExpired 14 = .ok (.iload_n 1, 1) := by decide +kernel
theorem dX5_firstExpired_15 : decode cX5_firstExpired 15 = .ok (.bipush 15, 2) := by decide +kernel
theorem dX5_firstExpired_17 : decode cX5_firstExpired 17 = .ok (.invokevirtual 52, 3) := by decide +kernel
theorem dX5_firstExpired_20 : decode cX5_firstExpired 20 = .ok (.iconst 1, 1) := by decide +kernel
theorem dX5_firstExpired_21 : decode cX5_firstExpired 21 = .ok (.if_icmp .ne 5, 3) := by decide +kernel
theorem dX5_firstExpired_24 : decode cX5_firstExpired 24 = .ok (.iload_n 1, 1) := by decide +kernel
theorem dX5_firstExpired_25 : decode cX5_firstExpired 25 = .ok (.ireturn, 1) := by decide +kernel
theorem dX5_firstExpired_26 : decode cX5_firstExpired 26 = .ok (.iinc 1 1, 3) := by decide +kernel
theorem dX5_firstExpired_29 : decode cX5_firstExpired 29 = .ok (.goto (-27), 3) := by decide +kernel
theorem dX5_firstExpired_32 : decode cX5_firstExpired 32 = .ok (.bipush (-6), 2) := by decide +kernel
theorem dX5_firstExpired_34 : decode cX5_firstExpired 34 = .ok (.ireturn, 1) := by decide +kernel
theorem dX5_boot_0 : decode cX5_boot 0 = .ok (.aload_n 0, 1) := by decide +kernel
theorem dX5_boot_1 : decode cX5_boot 1 = .ok (.getfield 7, 3) := by decide +kernel
theorem dX5_boot_4 : decode cX5_boot 4 = .ok (.bipush 9, 2) := by decide +kernel
theorem dX5_boot_6 : decode cX5_boot 6 = .ok (.iconst 0, 1) := by decide +kernel
theorem dX5_boot_7 : decode cX5_boot 7 = .ok (.iastore, 1) := by decide +kernel
theorem dX5_boot_8 : decode cX5_boot 8 = .ok (.aload_n 0, 1) := by decide +kernel
theorem dX5_boot_9 : decode cX5_boot 9 = .ok (.getfield 7, 3) := by decide +kernel
theorem dX5_boot_12 : decode cX5_boot 12 = .ok (.bipush 12, 2) := by decide +kernel
theorem dX5_boot_14 : decode cX5_boot 14 = .ok (.aload_n 0, 1) := by decide +kernel
theorem dX5_boot_15 : decode cX5_boot 15 = .ok (.getfield 7, 3) := by decide +kernel
theorem dX5_boot_18 : decode cX5_boot 18 = .ok (.iconst 5, 1) := by decide +kernel
theorem dX5_boot_19 : decode cX5_boot 19 = .ok (.iaload, 1) := by decide +kernel
theorem dX5_boot_20 : decode cX5_boot 20 = .ok (.iastore, 1) := by decide +kernel
theorem dX5_boot_21 : decode cX5_boot 21 = .ok (.return_, 1) := by decide +kernel
theorem dX5_makeReset_0 : decode cX5_makeReset 0 = .ok (.iload_n 1, 1) := by decide +kernel
theorem dX5_makeReset_1 : decode cX5_makeReset 1 = .ok (.iconst 3, 1) := by decide +kernel
theorem dX5_makeReset_2 : decode cX5_makeReset 2 = .ok (.if_icmp .ne 7, 3) := by decide +kernel
theorem dX5_makeReset_5 : decode cX5_makeReset 5 = .ok (.iload_n 2, 1) := by decide +kernel
theorem dX5_makeReset_6 : decode cX5_makeReset 6 = .ok (.goto 7, 3) := by decide +kernel
theorem dX5_makeReset_9 : decode cX5_makeReset 9 = .ok (.aload_n 0, 1) := by decide +kernel
theorem dX5_makeReset_10 : decode cX5_makeReset 10 = .ok (.invokevirtual 95, 3) := by decide +kernel
theorem dX5_makeReset_13 : decode cX5_makeReset 13 = .ok (.istore_n 3, 1) := by decide +kernel
theorem dX5_makeReset_14 : decode cX5_makeReset 14 = .ok (.sipush 175, 3) := by decide +kernel
theorem dX5_makeReset_17 : decode cX5_makeReset 17 = .ok (.iconst 5, 1) := by decide +kernel
theorem dX5_makeReset_18 : decode cX5_makeReset 18 = .ok (.aload_n 0, 1) := by decide +kernel
theorem dX5_makeReset_19 : decode cX5_makeReset 19 = .ok (.getfield 7, 3) := by decide +kernel
theorem dX5_makeReset_22 : decode cX5_makeReset 22 = .ok (.bipush 18, 2) := by decide +kernel
theorem dX5_makeReset_24 : decode cX5_makeReset 24 = .ok (.iaload, 1) := by decide +kernel
theorem dX5_makeReset_25 : decode cX5_makeReset 25 = .ok (.bipush 16, 2) := by decide +kernel
theorem dX5_makeReset_27 : decode cX5_makeReset 27 = .ok (.irem, 1) := by decide +kernel
theorem dX5_makeReset_28 : decode cX5_makeReset 28 = .ok (.imul, 1) := by decide +kernel
theorem dX5_makeReset_29 : decode cX5_makeReset 29 = .ok (.iadd, 1) := by decide +kernel
theorem dX5_makeReset_30 : decode cX5_makeReset 30 = .ok (.istore 4, 2) := by decide +kernel
theorem dX5_makeReset_32 : decode cX5_makeReset 32 = .ok (.aload_n 0, 1) := by decide +kernel
theorem dX5_makeReset_33 : decode cX5_makeReset 33 = .ok (.getfield 7, 3) := by decide +kernel
theorem dX5_makeReset_36 : decode cX5_makeReset 36 = .ok (.iload 4, 2) := by decide +kernel
theorem dX5_makeReset_38 : decode cX5_makeReset 38 = .ok (.iload_n 1, 1) := by decide +kernel
theorem dX5_makeReset_39 : decode cX5_makeReset 39 = .ok (.iastore, 1) := by decide +kernel
theorem dX5_makeReset_40 : decode cX5_makeReset 40 = .ok (.aload_n 0, 1) := by decide +kernel
theorem dX5_makeReset_41 : decode cX5_makeReset 41 = .ok (.getfield 7, 3) := by decide +kernel
theorem dX5_makeReset_44 : decode cX5_makeReset 44 = .ok (.iload 4, 2) := by decide +kernel
theorem dX5_makeReset_46 : decode cX5_makeReset 46 = .ok (.iconst 1, 1) := by decide +kernel
theorem dX5_makeReset_47 : decode cX5_makeReset 47 = .ok (.iadd, 1) := by decide +kernel
theorem dX5_makeReset_48 : decode cX5_makeReset 48 = .ok (.aload_n 0, 1) := by decide +kernel
theorem dX5_makeReset_49 : decode cX5_makeReset 49 = .ok (.getfield 7, 3) := by decide +kernel
theorem dX5_makeReset_52 : decode cX5_makeReset 52 = .ok (.bipush 8, 2) := by decide +kernel
theorem dX5_makeReset_54 : decode cX5_makeReset 54 = .ok (.iaload, 1) := by decide +kernel
theorem dX5_makeReset_55 : decode cX5_makeReset 55 = .ok (.iastore, 1) := by decide +kernel
theorem dX5_makeReset_56 : decode cX5_makeReset 56 = .ok (.aload_n 0, 1) := by decide +kernel
theorem dX5_makeReset_57 : decode cX5_makeReset 57 = .ok (.getfield 7, 3) := by decide +kernel
theorem dX5_makeReset_60 : decode cX5_makeReset 60 = .ok (.iload 4, 2) := by decide +kernel
theorem dX5_makeReset_62 : decode cX5_makeReset 62 = .ok (.iconst 2, 1) := by decide +kernel
theorem dX5_makeReset_63 : decode cX5_makeReset 63 = .ok (.iadd, 1) := by decide +kernel
theorem dX5_makeReset_64 : decode cX5_makeReset 64 = .ok (.iload_n 3, 1) := by decide +kernel
theorem dX5_makeReset_65 : decode cX5_makeReset 65 = .ok (.iastore, 1) := by decide +kernel
theorem dX5_makeReset_66 : decode cX5_makeReset 66 = .ok (.aload_n 0, 1) := by decide +kernel
theorem dX5_makeReset_67 : decode cX5_makeReset 67 = .ok (.getfield 7, 3) := by decide +kernel
theorem dX5_makeReset_70 : decode cX5_makeReset 70 = .ok (.iload 4, 2) := by decide +kernel
theorem dX5_makeReset_72 : decode cX5_makeReset 72 = .ok (.iconst 3, 1) := by decide +kernel
theorem dX5_makeReset_73 : decode cX5_makeReset 73 = .ok (.iadd, 1) := by decide +kernel
theorem dX5_makeReset_74 : decode cX5_makeReset 74 = .ok (.aload_n 0, 1) := by decide +kernel
theorem dX5_makeReset_75 : decode cX5_makeReset 75 = .ok (.getfield 7, 3) := by decide +kernel
theorem dX5_makeReset_78 : decode cX5_makeReset 78 = .ok (.bipush 10, 2) := by decide +kernel
theorem dX5_makeReset_80 : decode cX5_makeReset 80 = .ok (.iaload, 1) := by decide +kernel
theorem dX5_makeReset_81 : decode cX5_makeReset 81 = .ok (.iastore, 1) := by decide +kernel
theorem dX5_makeReset_82 : decode cX5_makeReset 82 = .ok (.aload_n 0, 1) := by decide +kernel
theorem dX5_makeReset_83 : decode cX5_makeReset 83 = .ok (.getfield 7, 3) := by decide +kernel
theorem dX5_makeReset_86 : decode cX5_makeReset 86 = .ok (.iload 4, 2) := by decide +kernel
theorem dX5_makeReset_88 : decode cX5_makeReset 88 = .ok (.iconst 4, 1) := by decide +kernel
theorem dX5_makeReset_89 : decode cX5_makeReset 89 = .ok (.iadd, 1) := by decide +kernel
theorem dX5_makeReset_90 : decode cX5_makeReset 90 = .ok (.aload_n 0, 1) := by decide +kernel
theorem dX5_makeReset_91 : decode cX5_makeReset 91 = .ok (.getfield 7, 3) := by decide +kernel
theorem dX5_makeReset_94 : decode cX5_makeReset 94 = .ok (.bipush 13, 2) := by decide +kernel
theorem dX5_makeReset_96 : decode cX5_makeReset 96 = .ok (.iaload, 1) := by decide +kernel
theorem dX5_makeReset_97 : decode cX5_makeReset 97 = .ok (.iastore, 1) := by decide +kernel
theorem dX5_makeReset_98 : decode cX5_makeReset 98 = .ok (.aload_n 0, 1) := by decide +kernel
theorem dX5_makeReset_99 : decode cX5_makeReset 99 = .ok (.getfield 7, 3) := by decide +kernel
theorem dX5_makeReset_102 : decode cX5_makeReset 102 = .ok (.bipush 18, 2) := by decide +kernel
theorem dX5_makeReset_104 : decode cX5_makeReset 104 = .ok (.dup2, 1) := by decide +kernel
theorem dX5_makeReset_105 : decode cX5_makeReset 105 = .ok (.iaload, 1) := by decide +kernel
theorem dX5_makeReset_106 : decode cX5_makeReset 106 = .ok (.iconst 1, 1) := by decide +kernel
theorem dX5_makeReset_107 : decode cX5_makeReset 107 = .ok (.iadd, 1) := by decide +kernel
theorem dX5_makeReset_108 : decode cX5_makeReset 108 = .ok (.iastore, 1) := by decide +kernel
theorem dX5_makeReset_109 : decode cX5_makeReset 109 = .ok (.iload_n 3, 1) := by decide +kernel
theorem dX5_makeReset_110 : decode cX5_makeReset 110 = .ok (.ifCond .lt 19, 3) := by decide +kernel
theorem dX5_makeReset_113 : decode cX5_makeReset 113 = .ok (.aload_n 0, 1) := by decide +kernel
theorem dX5_makeReset_114 : decode cX5_makeReset 114 = .ok (.iload_n 3, 1) := by decide +kernel
theorem dX5_makeReset_115 : decode cX5_makeReset 115 = .ok (.bipush 19, 2) := by decide +kernel
theorem dX5_makeReset_117 : decode cX5_makeReset 117 = .ok (.aload_n 0, 1) := by decide +kernel
theorem dX5_makeReset_118 : decode cX5_makeReset 118 = .ok (.iload_n 3, 1) := by decide +kernel
theorem dX5_makeReset_119 : decode cX5_makeReset 119 = .ok (.bipush 19, 2) := by decide +kernel
theorem dX5_makeReset_121 : decode cX5_makeReset 121 = .ok (.invokevirtual 52, 3) := by decide +kernel
theorem dX5_makeReset_124 : decode cX5_makeReset 124 = .ok (.iconst 1, 1) := by decide +kernel
theorem dX5_makeReset_125 : decode cX5_makeReset 125 = .ok (.iadd, 1) := by decide +kernel
theorem dX5_makeReset_126 : decode cX5_makeReset 126 = .ok (.invokevirtual 41, 3) := by decide +kernel
theorem dX5_makeReset_129 : decode cX5_makeReset 129 = .ok (.aload_n 0, 1) := by decide +kernel
theorem dX5_makeReset_130 : decode cX5_makeReset 130 = .ok (.getfield 7, 3) := by decide +kernel
theorem dX5_makeReset_133 : decode cX5_makeReset 133 = .ok (.bipush 11, 2) := by decide +kernel
theorem dX5_makeReset_135 : decode cX5_makeReset 135 = .ok (.dup2, 1) := by decide +kernel
theorem dX5_makeReset_136 : decode cX5_makeReset 136 = .ok (.iaload, 1) := by decide +kernel
theorem dX5_makeReset_137 : decode cX5_makeReset 137 = .ok (.iconst 1, 1) := by decide +kernel
theorem dX5_makeReset_138 : decode cX5_makeReset 138 = .ok (.iadd, 1) := by decide +kernel
theorem dX5_makeReset_139 : decode cX5_makeReset 139 = .ok (.iastore, 1) := by decide +kernel
theorem dX5_makeReset_140 : decode cX5_makeReset 140 = .ok (.aload_n 0, 1) := by decide +kernel
theorem dX5_makeReset_141 : decode cX5_makeReset 141 = .ok (.invokevirtual 98, 3) := by decide +kernel
theorem dX5_makeReset_144 : decode cX5_makeReset 144 = .ok (.aload_n 0, 1) := by decide +kernel
theorem dX5_makeReset_145 : decode cX5_makeReset 145 = .ok (.getfield 7, 3) := by decide +kernel
theorem dX5_makeReset_148 : decode cX5_makeReset 148 = .ok (.bipush 11, 2) := by decide +kernel
theorem dX5_makeReset_150 : decode cX5_makeReset 150 = .ok (.iaload, 1) := by decide +kernel
theorem dX5_makeReset_151 : decode cX5_makeReset 151 = .ok (.aload_n 0, 1) := by decide +kernel
theorem dX5_makeReset_152 : decode cX5_makeReset 152 = .ok (.getfield 7, 3) := by decide +kernel
theorem dX5_makeReset_155 : decode cX5_makeReset 155 = .ok (.bipush 7, 2) := by decide +kernel
theorem dX5_makeReset_157 : decode cX5_makeReset 157 = .ok (.iaload, 1) := by decide +kernel
theorem dX5_makeReset_158 : decode cX5_makeReset 158 = .ok (.if_icmp .lt 40, 3) := by decide +kernel
theorem dX5_makeReset_161 : decode cX5_makeReset 161 = .ok (.aload_n 0, 1) := by decide +kernel
theorem dX5_makeReset_162 : decode cX5_makeReset 162 = .ok (.getfield 7, 3) := by decide +kernel
theorem dX5_makeReset_165 : decode cX5_makeReset 165 = .ok (.bipush 10, 2) := by decide +kernel
theorem dX5_makeReset_167 : decode cX5_makeReset 167 = .ok (.iaload, 1) := by decide +kernel
theorem dX5_makeReset_168 : decode cX5_makeReset 168 = .ok (.ifCond .ne 22, 3) := by decide +kernel
theorem dX5_makeReset_171 : decode cX5_makeReset 171 = .ok (.aload_n 0, 1) := by decide +kernel
theorem dX5_makeReset_172 : decode cX5_makeReset 172 = .ok (.getfield 7, 3) := by decide +kernel
theorem dX5_makeReset_175 : decode cX5_makeReset 175 = .ok (.bipush 10, 2) := by decide +kernel
theorem dX5_makeReset_177 : decode cX5_makeReset 177 = .ok (.iconst 1, 1) := by decide +kernel
theorem dX5_makeReset_178 : decode cX5_makeReset 178 = .ok (.iastore, 1) := by decide +kernel
theorem dX5_makeReset_179 : decode cX5_makeReset 179 = .ok (.aload_n 0, 1) := by decide +kernel
theorem dX5_makeReset_180 : decode cX5_makeReset 180 = .ok (.getfield 7, 3) := by decide +kernel
theorem dX5_makeReset_183 : decode cX5_makeReset 183 = .ok (.bipush 11, 2) := by decide +kernel
theorem dX5_makeReset_185 : decode cX5_makeReset 185 = .ok (.iconst 0, 1) := by decide +kernel
theorem dX5_makeReset_186 : decode cX5_makeReset 186 = .ok (.iastore, 1) := by decide +kernel
theorem dX5_makeReset_187 : decode cX5_makeReset 187 = .ok (.goto 11, 3) := by decide +kernel
theorem dX5_makeReset_190 : decode cX5_makeReset 190 = .ok (.aload_n 0, 1) := by decide +kernel
theorem dX5_makeReset_191 : decode cX5_makeReset 191 = .ok (.getfield 7, 3) := by decide +kernel
theorem dX5_makeReset_194 : decode cX5_makeReset 194 = .ok (.bipush 9, 2) := by decide +kernel
theorem dX5_makeReset_196 : decode cX5_makeReset 196 = .ok (.iconst 2, 1) := by decide +kernel
theorem dX5_makeReset_197 : decode cX5_makeReset 197 = .ok (.iastore, 1) := by decide +kernel
theorem dX5_makeReset_198 : decode cX5_makeReset 198 = .ok (.return_, 1) := by decide +kernel
theorem dX5_beginToRun_0 : decode cX5_beginToRun 0 = .ok (.aload_n 0, 1) := by decide +kernel
theorem dX5_beginToRun_1 : decode cX5_beginToRun 1 = .ok (.getfield 7, 3) := by decide +kernel
theorem dX5_beginToRun_4 : decode cX5_beginToRun 4 = .ok (.bipush 9, 2) := by decide +kernel
theorem dX5_beginToRun_6 : decode cX5_beginToRun 6 = .ok (.iconst 1, 1) := by decide +kernel
theorem dX5_beginToRun_7 : decode cX5_beginToRun 7 = .ok (.iastore, 1) := by decide +kernel
theorem dX5_beginToRun_8 : decode cX5_beginToRun 8 = .ok (.aload_n 0, 1) := by decide +kernel
theorem dX5_beginToRun_9 : decode cX5_beginToRun 9 = .ok (.getfield 7, 3) := by decide +kernel
theorem dX5_beginToRun_12 : decode cX5_beginToRun 12 = .ok (.bipush 13, 2) := by decide +kernel
theorem dX5_beginToRun_14 : decode cX5_beginToRun 14 = .ok (.iconst 0, 1) := by decide +kernel
theorem dX5_beginToRun_15 : decode cX5_beginToRun 15 = .ok (.iastore, 1) := by decide +kernel
theorem dX5_beginToRun_16 : decode cX5_beginToRun 16 = .ok (.aload_n 0, 1) := by decide +kernel
theorem dX5_beginToRun_17 : decode cX5_beginToRun 17 = .ok (.getfield 7, 3) := by decide +kernel
theorem dX5_beginToRun_20 : decode cX5_beginToRun 20 = .ok (.bipush 14, 2) := by decide +kernel
theorem dX5_beginToRun_22 : decode cX5_beginToRun 22 = .ok (.iconst 0, 1) := by decide +kernel
theorem dX5_beginToRun_23 : decode cX5_beginToRun 23 = .ok (.iastore, 1) := by decide +kernel
theorem dX5_beginToRun_24 : decode cX5_beginToRun 24 = .ok (.aload_n 0, 1) := by decide +kernel
theorem dX5_beginToRun_25 : decode cX5_beginToRun 25 = .ok (.getfield 7, 3) := by decide +kernel
theorem dX5_beginToRun_28 : decode cX5_beginToRun 28 = .ok (.bipush 15, 2) := by decide +kernel
theorem dX5_beginToRun_30 : decode cX5_beginToRun 30 = .ok (.iconst 0, 1) := by decide +kernel
theorem dX5_beginToRun_31 : decode cX5_beginToRun 31 = .ok (.iastore, 1) := by decide +kernel
theorem dX5_beginToRun_32 : decode cX5_beginToRun 32 = .ok (.aload_n 0, 1) := by decide +kernel
theorem dX5_beginToRun_33 : decode cX5_beginToRun 33 = .ok (.getfield 7, 3) := by decide +kernel
theorem dX5_beginToRun_36 : decode cX5_beginToRun 36 = .ok (.bipush 16, 2) := by decide +kernel
theorem dX5_beginToRun_38 : decode cX5_beginToRun 38 = .ok (.iconst 0, 1) := by decide +kernel
theorem dX5_beginToRun_39 : decode cX5_beginToRun 39 = .ok (.iastore, 1) := by decide +kernel
theorem dX5_beginToRun_40 : decode cX5_beginToRun 40 = .ok (.iconst 0, 1) := by decide +kernel
theorem dX5_beginToRun_41 : decode cX5_beginToRun 41 = .ok (.istore_n 1, 1) := by decide +kernel
theorem dX5_beginToRun_42 : decode cX5_beginToRun 42 = .ok (.iload_n 1, 1) := by decide +kernel
theorem dX5_beginToRun_43 : decode cX5_beginToRun 43 = .ok (.aload_n 0, 1) := by decide +kernel
theorem dX5_beginToRun_44 : decode cX5_beginToRun 44 = .ok (.getfield 7, 3) := by decide +kernel
theorem dX5_beginToRun_47 : decode cX5_beginToRun 47 = .ok (.bipush 17, 2) := by decide +kernel
theorem dX5_beginToRun_49 : decode cX5_beginToRun 49 = .ok (.iaload, 1) := by decide +kernel
theorem dX5_beginToRun_50 : decode cX5_beginToRun 50 = .ok (.if_icmp .ge 31, 3) := by decide +kernel
theorem dX5_beginToRun_53 : decode cX5_beginToRun 53 = .ok (.bipush 8, 2) := by decide +kernel
theorem dX5_beginToRun_55 : decode cX5_beginToRun 55 = .ok (.istore_n 2, 1) := by decide +kernel
theorem dX5_beginToRun_56 : decode cX5_beginToRun 56 = .ok (.iload_n 2, 1) := by decide +kernel
theorem dX5_beginToRun_57 : decode cX5_beginToRun 57 = .ok (.bipush 15, 2) := by decide +kernel
theorem dX5_beginToRun_59 : decode cX5_beginToRun 59 = .ok (.if_icmp .gt 16, 3) := by decide +kernel
theorem dX5_beginToRun_62 : decode cX5_beginToRun 62 = .ok (.aload_n 0, 1) := by decide +kernel
theorem dX5_beginToRun_63 : decode cX5_beginToRun 63 = .ok (.iload_n 1, 1) := by decide +kernel
theorem dX5_beginToRun_64 : decode cX5_beginToRun 64 = .ok (.iload_n 2, 1) := by decide +kernel
theorem dX5_beginToRun_65 : decode cX5_beginToRun 65 = .ok (.iconst 0, 1) := by decide +kernel
theorem dX5_beginToRun_66 : decode cX5_beginToRun 66 = .ok (.invokevirtual 41, 3) := by decide +kernel
theorem dX5_beginToRun_69 : decode cX5_beginToRun 69 = .ok (.iinc 2 1, 3) := by decide +kernel
theorem dX5_beginToRun_72 : decode cX5_beginToRun 72 = .ok (.goto (-16), 3) := by decide +kernel
theorem dX5_beginToRun_75 : decode cX5_beginToRun 75 = .ok (.iinc 1 1, 3) := by decide +kernel
theorem dX5_beginToRun_78 : decode cX5_beginToRun 78 = .ok (.goto (-36), 3) := by decide +kernel
theorem dX5_beginToRun_81 : decode cX5_beginToRun 81 = .ok (.return_, 1) := by decide +kernel
theorem dX5_acting_0 : decode cX5_acting 0 = .ok (.bipush 20, 2) := by decide +kernel
theorem dX5_acting_2 : decode cX5_acting 2 = .ok (.iconst 3, 1) := by decide +kernel
theorem dX5_acting_3 : decode cX5_acting 3 = .ok (.aload_n 0, 1) := by decide +kernel
theorem dX5_acting_4 : decode cX5_acting 4 = .ok (.getfield 7, 3) := by decide +kernel
theorem dX5_acting_7 : decode cX5_acting 7 = .ok (.bipush 10, 2) := by decide +kernel
theorem dX5_acting_9 : decode cX5_acting 9 = .ok (.iaload, 1) := by decide +kernel
theorem dX5_acting_10 : decode cX5_acting 10 = .ok (.imul, 1) := by decide +kernel
theorem dX5_acting_11 : decode cX5_acting 11 = .ok (.iadd, 1) := by decide +kernel
theorem dX5_acting_12 : decode cX5_acting 12 = .ok (.istore_n 2, 1) := by decide +kernel
theorem dX5_acting_13 : decode cX5_acting 13 = .ok (.aload_n 0, 1) := by decide +kernel
theorem dX5_acting_14 : decode cX5_acting 14 = .ok (.getfield 7, 3) := by decide +kernel
theorem dX5_acting_17 : decode cX5_acting 17 = .ok (.bipush 13, 2) := by decide +kernel
theorem dX5_acting_19 : decode cX5_acting 19 = .ok (.iaload, 1) := by decide +kernel
theorem dX5_acting_20 : decode cX5_acting 20 = .ok (.aload_n 0, 1) := by decide +kernel
theorem dX5_acting_21 : decode cX5_acting 21 = .ok (.iload_n 1, 1) := by decide +kernel
theorem dX5_acting_22 : decode cX5_acting 22 = .ok (.iload_n 2, 1) := by decide +kernel
theorem dX5_acting_23 : decode cX5_acting 23 = .ok (.iconst 1, 1) := by decide +kernel
theorem dX5_acting_24 : decode cX5_acting 24 = .ok (.iadd, 1) := by decide +kernel
theorem dX5_acting_25 : decode cX5_acting 25 = .ok (.invokevirtual 52, 3) := by decide +kernel
theorem dX5_acting_28 : decode cX5_acting 28 = .ok (.if_icmp .lt 12, 3) := by decide +kernel
theorem dX5_acting_31 : decode cX5_acting 31 = .ok (.aload_n 0, 1) := by decide +kernel
theorem dX5_acting_32 : decode cX5_acting 32 = .ok (.iload_n 1, 1) := by decide +kernel
theorem dX5_acting_33 : decode cX5_acting 33 = .ok (.iload_n 2, 1) := by decide +kernel
theorem dX5_acting_34 : decode cX5_acting 34 = .ok (.invokevirtual 52, 3) := by decide +kernel
theorem dX5_acting_37 : decode cX5_acting 37 = .ok (.goto 4, 3) := by decide +kernel
theorem dX5_acting_40 : decode cX5_acting 40 = .ok (.iconst 0, 1) := by decide +kernel
theorem dX5_acting_41 : decode cX5_acting 41 = .ok (.ireturn, 1) := by decide +kernel
theorem dX5_beginJob_0 : decode cX5_beginJob 0 = .ok (.aload_n 0, 1) := by decide +kernel
theorem dX5_beginJob_1 : decode cX5_beginJob 1 = .ok (.iload_n 1, 1) := by decide +kernel
theorem dX5_beginJob_2 : decode cX5_beginJob 2 = .ok (.invokevirtual 101, 3) := by decide +kernel
theorem dX5_beginJob_5 : decode cX5_beginJob 5 = .ok (.istore_n 2, 1) := by decide +kernel
theorem dX5_beginJob_6 : decode cX5_beginJob 6 = .ok (.iload_n 2, 1) := by decide +kernel
theorem dX5_beginJob_7 : decode cX5_beginJob 7 = .ok (.iconst 5, 1) := by decide +kernel
theorem dX5_beginJob_8 : decode cX5_beginJob 8 = .ok (.if_icmp .ne 5, 3) := by decide +kernel
theorem dX5_beginJob_11 : decode cX5_beginJob 11 = .ok (.iconst 1, 1) := by decide +kernel
theorem dX5_beginJob_12 : decode cX5_beginJob 12 = .ok (.ireturn, 1) := by decide +kernel
theorem dX5_beginJob_13 : decode cX5_beginJob 13 = .ok (.aload_n 0, 1) := by decide +kernel
theorem dX5_beginJob_14 : decode cX5_beginJob 14 = .ok (.iload_n 1, 1) := by decide +kernel
theorem dX5_beginJob_15 : decode cX5_beginJob 15 = .ok (.bipush 8, 2) := by decide +kernel
theorem dX5_beginJob_17 : decode cX5_beginJob 17 = .ok (.iconst 1, 1) := by decide +kernel
theorem dX5_beginJob_18 : decode cX5_beginJob 18 = .ok (.invokevirtual 41, 3) := by decide +kernel
theorem dX5_beginJob_21 : decode cX5_beginJob 21 = .ok (.aload_n 0, 1) := by decide +kernel
theorem dX5_beginJob_22 : decode cX5_beginJob 22 = .ok (.iload_n 1, 1) := by decide +kernel
theorem dX5_beginJob_23 : decode cX5_beginJob 23 = .ok (.bipush 10, 2) := by decide +kernel
theorem dX5_beginJob_25 : decode cX5_beginJob 25 = .ok (.aload_n 0, 1) := by decide +kernel
theorem dX5_beginJob_26 : decode cX5_beginJob 26 = .ok (.getfield 7, 3) := by decide +kernel
theorem dX5_beginJob_29 : decode cX5_beginJob 29 = .ok (.bipush 13, 2) := by decide +kernel
theorem dX5_beginJob_31 : decode cX5_beginJob 31 = .ok (.iaload, 1) := by decide +kernel
theorem dX5_beginJob_32 : decode cX5_beginJob 32 = .ok (.invokevirtual 41, 3) := by decide +kernel
theorem dX5_beginJob_35 : decode cX5_beginJob 35 = .ok (.aload_n 0, 1) := by decide +kernel
theorem dX5_beginJob_36 : decode cX5_beginJob 36 = .ok (.iload_n 1, 1) := by decide +kernel
theorem dX5_beginJob_37 : decode cX5_beginJob 37 = .ok (.bipush 9, 2) := by decide +kernel
theorem dX5_beginJob_39 : decode cX5_beginJob 39 = .ok (.aload_n 0, 1) := by decide +kernel
theorem dX5_beginJob_40 : decode cX5_beginJob 40 = .ok (.iload_n 1, 1) := by decide +kernel
theorem dX5_beginJob_41 : decode cX5_beginJob 41 = .ok (.iconst 1, 1) := by decide +kernel
theorem dX5_beginJob_42 : decode cX5_beginJob 42 = .ok (.invokevirtual 52, 3) := by decide +kernel
theorem dX5_beginJob_45 : decode cX5_beginJob 45 = .ok (.iload_n 2, 1) := by decide +kernel
theorem dX5_beginJob_46 : decode cX5_beginJob 46 = .ok (.iconst 2, 1) := by decide +kernel
theorem dX5_beginJob_47 : decode cX5_beginJob 47 = .ok (.if_icmp .ne 25, 3) := by decide +kernel
theorem dX5_beginJob_50 : decode cX5_beginJob 50 = .ok (.aload_n 0, 1) := by decide +kernel
theorem dX5_beginJob_51 : decode cX5_beginJob 51 = .ok (.iload_n 1, 1) := by decide +kernel
theorem dX5_beginJob_52 : decode cX5_beginJob 52 = .ok (.bipush 20, 2) := by decide +kernel
theorem dX5_beginJob_54 : decode cX5_beginJob 54 = .ok (.iconst 3, 1) := by decide +kernel
theorem dX5_beginJob_55 : decode cX5_beginJob 55 = .ok (.aload_n 0, 1) := by decide +kernel
theorem dX5_beginJob_56 : decode cX5_beginJob 56 = .ok (.getfield 7, 3) := by decide +kernel
theorem dX5_beginJob_59 : decode cX5_beginJob 59 = .ok (.bipush 10, 2) := by decide +kernel
theorem dX5_beginJob_61 : decode cX5_beginJob 61 = .ok (.iaload, 1) := by decide +kernel
theorem dX5_beginJob_62 : decode cX5_beginJob 62 = .ok (.imul, 1) := by decide +kernel
theorem dX5_beginJob_63 : decode cX5_beginJob 63 = .ok (.iadd, 1) := by decide +kernel
theorem dX5_beginJob_64 : decode cX5_beginJob 64 = .ok (.iconst 2, 1) := by decide +kernel
theorem dX5_beginJob_65 : decode cX5_beginJob 65 = .ok (.iadd, 1) := by decide +kernel
theorem dX5_beginJob_66 : decode cX5_beginJob 66 = .ok (.invokevirtual 52, 3) := by decide +kernel
theorem dX5_beginJob_69 : decode cX5_beginJob 69 = .ok (.goto 4, 3) := by decide +kernel
theorem dX5_beginJob_72 : decode cX5_beginJob 72 = .ok (.iconst 0, 1) := by decide +kernel
theorem dX5_beginJob_73 : decode cX5_beginJob 73 = .ok (.iadd, 1) := by decide +kernel
theorem dX5_beginJob_74 : decode cX5_beginJob 74 = .ok (.invokevirtual 41, 3) := by decide +kernel
theorem dX5_beginJob_77 : decode cX5_beginJob 77 = .ok (.aload_n 0, 1) := by decide +kernel
theorem dX5_beginJob_78 : decode cX5_beginJob 78 = .ok (.iload_n 1, 1) := by decide +kernel
theorem dX5_beginJob_79 : decode cX5_beginJob 79 = .ok (.bipush 11, 2) := by decide +kernel
theorem dX5_beginJob_81 : decode cX5_beginJob 81 = .ok (.iload_n 2, 1) := by decide +kernel
theorem dX5_beginJob_82 : decode cX5_beginJob 82 = .ok (.iconst 1, 1) := by decide +kernel
theorem dX5_beginJob_83 : decode cX5_beginJob 83 = .ok (.if_icmp .ne 7, 3) := by decide +kernel
theorem dX5_beginJob_86 : decode cX5_beginJob 86 = .ok (.iconst 1, 1) := by decide +kernel
theorem dX5_beginJob_87 : decode cX5_beginJob 87 = .ok (.goto 4, 3) := by decide +kernel
theorem dX5_beginJob_90 : decode cX5_beginJob 90 = .ok (.iconst 0, 1) := by decide +kernel
theorem dX5_beginJob_91 : decode cX5_beginJob 91 = .ok (.invokevirtual 41, 3) := by decide +kernel
theorem dX5_beginJob_94 : decode cX5_beginJob 94 = .ok (.aload_n 0, 1) := by decide +kernel
theorem dX5_beginJob_95 : decode cX5_beginJob 95 = .ok (.iload_n 1, 1) := by decide +kernel
theorem dX5_beginJob_96 : decode cX5_beginJob 96 = .ok (.bipush 12, 2) := by decide +kernel
theorem dX5_beginJob_98 : decode cX5_beginJob 98 = .ok (.aload_n 0, 1) := by decide +kernel
theorem dX5_beginJob_99 : decode cX5_beginJob 99 = .ok (.iload_n 1, 1) := by decide +kernel
theorem dX5_beginJob_100 : decode cX5_beginJob 100 = .ok (.bipush 12, 2) := by decide +kernel
theorem dX5_beginJob_102 : decode cX5_beginJob 102 = .ok (.invokevirtual 52, 3) := by decide +kernel
theorem dX5_beginJob_105 : decode cX5_beginJob 105 = .ok (.iload_n 2, 1) := by decide +kernel
theorem dX5_beginJob_106 : decode cX5_beginJob 106 = .ok (.iconst 3, 1) := by decide +kernel
theorem dX5_beginJob_107 : decode cX5_beginJob 107 = .ok (.if_icmp .ne 7, 3) := by decide +kernel
theorem dX5_beginJob_110 : decode cX5_beginJob 110 = .ok (.iconst 0, 1) := by decide +kernel
theorem dX5_beginJob_111 : decode cX5_beginJob 111 = .ok (.goto 13, 3) := by decide +kernel
theorem dX5_beginJob_114 : decode cX5_beginJob 114 = .ok (.iload_n 2, 1) := by decide +kernel
theorem dX5_beginJob_115 : decode cX5_beginJob 115 = .ok (.iconst 4, 1) := by decide +kernel
theorem dX5_beginJob_116 : decode cX5_beginJob 116 = .ok (.if_icmp .ne 7, 3) := by decide +kernel
theorem dX5_beginJob_119 : decode cX5_beginJob 119 = .ok (.iconst 2, 1) := by decide +kernel
theorem dX5_beginJob_120 : decode cX5_beginJob 120 = .ok (.goto 4, 3) := by decide +kernel
theorem dX5_beginJob_123 : decode cX5_beginJob 123 = .ok (.iconst 1, 1) := by decide +kernel
theorem dX5_beginJob_124 : decode cX5_beginJob 124 = .ok (.iadd, 1) := by decide +kernel
theorem dX5_beginJob_125 : decode cX5_beginJob 125 = .ok (.invokevirtual 41, 3) := by decide +kernel
theorem dX5_beginJob_128 : decode cX5_beginJob 128 = .ok (.iconst 0, 1) := by decide +kernel
theorem dX5_beginJob_129 : decode cX5_beginJob 129 = .ok (.ireturn, 1) := by decide +kernel
theorem dX5_goOnJob_0 : decode cX5_goOnJob 0 = .ok (.aload_n 0, 1) := by decide +kernel
theorem dX5_goOnJob_1 : decode cX5_goOnJob 1 = .ok (.iload_n 1, 1) := by decide +kernel
theorem dX5_goOnJob_2 : decode cX5_goOnJob 2 = .ok (.bipush 8, 2) := by decide +kernel
theorem dX5_goOnJob_4 : decode cX5_goOnJob 4 = .ok (.invokevirtual 52, 3) := by decide +kernel
theorem dX5_goOnJob_7 : decode cX5_goOnJob 7 = .ok (.iconst 1, 1) := by decide +kernel
theorem dX5_goOnJob_8 : decode cX5_goOnJob 8 = .ok (.if_icmp .ne 51, 3) := by decide +kernel
theorem dX5_goOnJob_11 : decode cX5_goOnJob 11 = .ok (.aload_n 0, 1) := by decide +kernel
theorem dX5_goOnJob_12 : decode cX5_goOnJob 12 = .ok (.iload_n 1, 1) := by decide +kernel
theorem dX5_goOnJob_13 : decode cX5_goOnJob 13 = .ok (.bipush 11, 2) := by decide +kernel
theorem dX5_goOnJob_15 : decode cX5_goOnJob 15 = .ok (.invokevirtual 52, 3) := by decide +kernel
theorem dX5_goOnJob_18 : decode cX5_goOnJob 18 = .ok (.ifCond .ne 41, 3) := by decide +kernel
theorem dX5_goOnJob_21 : decode cX5_goOnJob 21 = .ok (.aload_n 0, 1) := by decide +kernel
theorem dX5_goOnJob_22 : decode cX5_goOnJob 22 = .ok (.iload_n 1, 1) := by decide +kernel
theorem dX5_goOnJob_23 : decode cX5_goOnJob 23 = .ok (.bipush 9, 2) := by decide +kernel
theorem dX5_goOnJob_25 : decode cX5_goOnJob 25 = .ok (.aload_n 0, 1) := by decide +kernel
theorem dX5_goOnJob_26 : decode cX5_goOnJob 26 = .ok (.iload_n 1, 1) := by decide +kernel
theorem dX5_goOnJob_27 : decode cX5_goOnJob 27 = .ok (.bipush 9, 2) := by decide +kernel
theorem dX5_goOnJob_29 : decode cX5_goOnJob 29 = .ok (.invokevirtual 52, 3) := by decide +kernel
theorem dX5_goOnJob_32 : decode cX5_goOnJob 32 = .ok (.iconst 1, 1) := by decide +kernel
theorem dX5_goOnJob_33 : decode cX5_goOnJob 33 = .ok (.isub, 1) := by decide +kernel
theorem dX5_goOnJob_34 : decode cX5_goOnJob 34 = .ok (.invokevirtual 41, 3) := by decide +kernel
theorem dX5_goOnJob_37 : decode cX5_goOnJob 37 = .ok (.aload_n 0, 1) := by decide +kernel
theorem dX5_goOnJob_38 : decode cX5_goOnJob 38 = .ok (.iload_n 1, 1) := by decide +kernel
theorem dX5_goOnJob_39 : decode cX5_goOnJob 39 = .ok (.bipush 8, 2) := by decide +kernel
theorem dX5_goOnJob_41 : decode cX5_goOnJob 41 = .ok (.aload_n 0, 1) := by decide +kernel
theorem dX5_goOnJob_42 : decode cX5_goOnJob 42 = .ok (.iload_n 1, 1) := by decide +kernel
theorem dX5_goOnJob_43 : decode cX5_goOnJob 43 = .ok (.bipush 9, 2) := by decide +kernel
theorem dX5_goOnJob_45 : decode cX5_goOnJob 45 = .ok (.invokevirtual 52, 3) := by decide +kernel
theorem dX5_goOnJob_48 : decode cX5_goOnJob 48 = .ok (.ifCond .le 7, 3) := by decide +kernel
theorem dX5_goOnJob_51 : decode cX5_goOnJob 51 = .ok (.iconst 1, 1) := by decide +kernel
theorem dX5_goOnJob_52 : decode cX5_goOnJob 52 = .ok (.goto 4, 3) := by decide +kernel
theorem dX5_goOnJob_55 : decode cX5_goOnJob 55 = .ok (.iconst 0, 1) := by decide +kernel
theorem dX5_goOnJob_56 : decode cX5_goOnJob 56 = .ok (.invokevirtual 41, 3) := by decide +kernel
theorem dX5_goOnJob_59 : decode cX5_goOnJob 59 = .ok (.return_, 1) := by decide +kernel
theorem dX5_crashes_0 : decode cX5_crashes 0 = .ok (.aload_n 0, 1) := by decide +kernel
theorem dX5_crashes_1 : decode cX5_crashes 1 = .ok (.iload_n 1, 1) := by decide +kernel
theorem dX5_crashes_2 : decode cX5_crashes 2 = .ok (.invokevirtual 104, 3) := by decide +kernel
theorem dX5_crashes_5 : decode cX5_crashes 5 = .ok (.aload_n 0, 1) := by decide +kernel
theorem dX5_crashes_6 : decode cX5_crashes 6 = .ok (.iload_n 1, 1) := by decide +kernel
theorem dX5_crashes_7 : decode cX5_crashes 7 = .ok (.iconst 0, 1) := by decide +kernel
theorem dX5_crashes_8 : decode cX5_crashes 8 = .ok (.invokevirtual 52, 3) := by decide +kernel
theorem dX5_crashes_11 : decode cX5_crashes 11 = .ok (.istore_n 2, 1) := by decide +kernel
theorem dX5_crashes_12 : decode cX5_crashes 12 = .ok (.aload_n 0, 1) := by decide +kernel
theorem dX5_crashes_13 : decode cX5_crashes 13 = .ok (.iload_n 1, 1) := by decide +kernel
theorem dX5_crashes_14 : decode cX5_crashes 14 = .ok (.bipush 8, 2) := by decide +kernel
theorem dX5_crashes_16 : decode cX5_crashes 16 = .ok (.invokevirtual 52, 3) := by decide +kernel
theorem dX5_crashes_19 : decode cX5_crashes 19 = .ok (.ifCond .ne 33, 3) := by decide +kernel
theorem dX5_crashes_22 : decode cX5_crashes 22 = .ok (.aload_n 0, 1) := by decide +kernel
theorem dX5_crashes_23 : decode cX5_crashes 23 = .ok (.getfield 7, 3) := by decide +kernel
theorem dX5_crashes_26 : decode cX5_crashes 26 = .ok (.bipush 13, 2) := by decide +kernel
theorem dX5_crashes_28 : decode cX5_crashes 28 = .ok (.iaload, 1) := by decide +kernel
theorem dX5_crashes_29 : decode cX5_crashes 29 = .ok (.iload_n 2, 1) := by decide +kernel
theorem dX5_crashes_30 : decode cX5_crashes 30 = .ok (.irem, 1) := by decide +kernel
theorem dX5_crashes_31 : decode cX5_crashes 31 = .ok (.aload_n 0, 1) := by decide +kernel
theorem dX5_crashes_32 : decode cX5_crashes 32 = .ok (.iload_n 1, 1) := by decide +kernel
theorem dX5_crashes_33 : decode cX5_crashes 33 = .ok (.iconst 2, 1) := by decide +kernel
theorem dX5_crashes_34 : decode cX5_crashes 34 = .ok (.invokevirtual 52, 3) := by decide +kernel
theorem dX5_crashes_37 : decode cX5_crashes 37 = .ok (.iload_n 2, 1) := by decide +kernel
theorem dX5_crashes_38 : decode cX5_crashes 38 = .ok (.irem, 1) := by decide +kernel
theorem dX5_crashes_39 : decode cX5_crashes 39 = .ok (.if_icmp .ne 13, 3) := by decide +kernel
theorem dX5_crashes_42 : decode cX5_crashes 42 = .ok (.aload_n 0, 1) := by decide +kernel
theorem dX5_crashes_43 : decode cX5_crashes 43 = .ok (.iload_n 1, 1) := by decide +kernel
theorem dX5_crashes_44 : decode cX5_crashes 44 = .ok (.invokevirtual 108, 3) := by decide +kernel
theorem dX5_crashes_47 : decode cX5_crashes 47 = .ok (.ifCond .eq 5, 3) := by decide +kernel
theorem dX5_crashes_50 : decode cX5_crashes 50 = .ok (.iconst 1, 1) := by decide +kernel
theorem dX5_crashes_51 : decode cX5_crashes 51 = .ok (.ireturn, 1) := by decide +kernel
theorem dX5_crashes_52 : decode cX5_crashes 52 = .ok (.aload_n 0, 1) := by decide +kernel
theorem dX5_crashes_53 : decode cX5_crashes 53 = .ok (.iload_n 1, 1) := by decide +kernel
theorem dX5_crashes_54 : decode cX5_crashes 54 = .ok (.bipush 8, 2) := by decide +kernel
theorem dX5_crashes_56 : decode cX5_crashes 56 = .ok (.invokevirtual 52, 3) := by decide +kernel
theorem dX5_crashes_59 : decode cX5_crashes 59 = .ok (.iconst 1, 1) := by decide +kernel
theorem dX5_crashes_60 : decode cX5_crashes 60 = .ok (.if_icmp .ne 46, 3) := by decide +kernel
theorem dX5_crashes_63 : decode cX5_crashes 63 = .ok (.aload_n 0, 1) := by decide +kernel
theorem dX5_crashes_64 : decode cX5_crashes 64 = .ok (.iload_n 1, 1) := by decide +kernel
theorem dX5_crashes_65 : decode cX5_crashes 65 = .ok (.bipush 7, 2) := by decide +kernel
theorem dX5_crashes_67 : decode cX5_crashes 67 = .ok (.invokevirtual 52, 3) := by decide +kernel
theorem dX5_crashes_70 : decode cX5_crashes 70 = .ok (.ifCond .le 36, 3) := by decide +kernel
theorem dX5_crashes_73 : decode cX5_crashes 73 = .ok (.aload_n 0, 1) := by decide +kernel
theorem dX5_crashes_74 : decode cX5_crashes 74 = .ok (.getfield 7, 3) := by decide +kernel
theorem dX5_crashes_77 : decode cX5_crashes 77 = .ok (.bipush 13, 2) := by decide +kernel
theorem dX5_crashes_79 : decode cX5_crashes 79 = .ok (.iaload, 1) := by decide +kernel
theorem dX5_crashes_80 : decode cX5_crashes 80 = .ok (.aload_n 0, 1) := by decide +kernel
theorem dX5_crashes_81 : decode cX5_crashes 81 = .ok (.iload_n 1, 1) := by decide +kernel
theorem dX5_crashes_82 : decode cX5_crashes 82 = .ok (.bipush 10, 2) := by decide +kernel
theorem dX5_crashes_84 : decode cX5_crashes 84 = .ok (.invokevirtual 52, 3) := by decide +kernel
theorem dX5_crashes_87 : decode cX5_crashes 87 = .ok (.isub, 1) := by decide +kernel
theorem dX5_crashes_88 : decode cX5_crashes 88 = .ok (.aload_n 0, 1) := by decide +kernel
theorem dX5_crashes_89 : decode cX5_crashes 89 = .ok (.iload_n 1, 1) := by decide +kernel
theorem dX5_crashes_90 : decode cX5_crashes 90 = .ok (.bipush 7, 2) := by decide +kernel
theorem dX5_crashes_92 : decode cX5_crashes 92 = .ok (.invokevirtual 52, 3) := by decide +kernel
theorem dX5_crashes_95 : decode cX5_crashes 95 = .ok (.if_icmp .le 11, 3) := by decide +kernel
theorem dX5_crashes_98 : decode cX5_crashes 98 = .ok (.aload_n 0, 1) := by decide +kernel
theorem dX5_crashes_99 : decode cX5_crashes 99 = .ok (.iload_n 1, 1) := by decide +kernel
theorem dX5_crashes_100 : decode cX5_crashes 100 = .ok (.bipush 14, 2) := by decide +kernel
theorem dX5_crashes_102 : decode cX5_crashes 102 = .ok (.iconst 1, 1) := by decide +kernel
theorem dX5_crashes_103 : decode cX5_crashes 103 = .ok (.invokevirtual 41, 3) := by decide +kernel
theorem dX5_crashes_106 : decode cX5_crashes 106 = .ok (.iconst 0, 1) := by decide +kernel
theorem dX5_crashes_107 : decode cX5_crashes 107 = .ok (.ireturn, 1) := by decide +kernel
theorem dX5_judge_0 : decode cX5_judge 0 = .ok (.aload_n 0, 1) := by decide +kernel
theorem dX5_judge_1 : decode cX5_judge 1 = .ok (.iload_n 1, 1) := by decide +kernel
theorem dX5_judge_2 : decode cX5_judge 2 = .ok (.bipush 15, 2) := by decide +kernel
theorem dX5_judge_4 : decode cX5_judge 4 = .ok (.invokevirtual 52, 3) := by decide +kernel
theorem dX5_judge_7 : decode cX5_judge 7 = .ok (.iconst 1, 1) := by decide +kernel
theorem dX5_judge_8 : decode cX5_judge 8 = .ok (.if_icmp .eq 20, 3) := by decide +kernel
theorem dX5_judge_11 : decode cX5_judge 11 = .ok (.aload_n 0, 1) := by decide +kernel
theorem dX5_judge_12 : decode cX5_judge 12 = .ok (.getfield 7, 3) := by decide +kernel
theorem dX5_judge_15 : decode cX5_judge 15 = .ok (.bipush 15, 2) := by decide +kernel
theorem dX5_judge_17 : decode cX5_judge 17 = .ok (.iaload, 1) := by decide +kernel
theorem dX5_judge_18 : decode cX5_judge 18 = .ok (.aload_n 0, 1) := by decide +kernel
theorem dX5_judge_19 : decode cX5_judge 19 = .ok (.iload_n 1, 1) := by decide +kernel
theorem dX5_judge_20 : decode cX5_judge 20 = .ok (.iconst 3, 1) := by decide +kernel
theorem dX5_judge_21 : decode cX5_judge 21 = .ok (.invokevirtual 52, 3) := by decide +kernel
theorem dX5_judge_24 : decode cX5_judge 24 = .ok (.irem, 1) := by decide +kernel
theorem dX5_judge_25 : decode cX5_judge 25 = .ok (.ifCond .eq 4, 3) := by decide +kernel
theorem dX5_judge_28 : decode cX5_judge 28 = .ok (.return_, 1) := by decide +kernel
theorem dX5_judge_29 : decode cX5_judge 29 = .ok (.aload_n 0, 1) := by decide +kernel
theorem dX5_judge_30 : decode cX5_judge 30 = .ok (.iload_n 1, 1) := by decide +kernel
theorem dX5_judge_31 : decode cX5_judge 31 = .ok (.bipush 12, 2) := by decide +kernel
theorem dX5_judge_33 : decode cX5_judge 33 = .ok (.invokevirtual 52, 3) := by decide +kernel
theorem dX5_judge_36 : decode cX5_judge 36 = .ok (.aload_n 0, 1) := by decide +kernel
theorem dX5_judge_37 : decode cX5_judge 37 = .ok (.iload_n 1, 1) := by decide +kernel
theorem dX5_judge_38 : decode cX5_judge 38 = .ok (.iconst 4, 1) := by decide +kernel
theorem dX5_judge_39 : decode cX5_judge 39 = .ok (.invokevirtual 52, 3) := by decide +kernel
theorem dX5_judge_42 : decode cX5_judge 42 = .ok (.aload_n 0, 1) := by decide +kernel
theorem dX5_judge_43 : decode cX5_judge 43 = .ok (.iload_n 1, 1) := by decide +kernel
theorem dX5_judge_44 : decode cX5_judge 44 = .ok (.iconst 5, 1) := by decide +kernel
theorem dX5_judge_45 : decode cX5_judge 45 = .ok (.invokevirtual 52, 3) := by decide +kernel
theorem dX5_judge_48 : decode cX5_judge 48 = .ok (.invokestatic 33, 3) := by decide +kernel
theorem dX5_judge_51 : decode cX5_judge 51 = .ok (.ifCond .eq 17, 3) := by decide +kernel
theorem dX5_judge_54 : decode cX5_judge 54 = .ok (.aload_n 0, 1) := by decide +kernel
theorem dX5_judge_55 : decode cX5_judge 55 = .ok (.iload_n 1, 1) := by decide +kernel
theorem dX5_judge_56 : decode cX5_judge 56 = .ok (.bipush 14, 2) := by decide +kernel
theorem dX5_judge_58 : decode cX5_judge 58 = .ok (.invokevirtual 52, 3) := by decide +kernel
theorem dX5_judge_61 : decode cX5_judge 61 = .ok (.ifCond .ne 7, 3) := by decide +kernel
theorem dX5_judge_64 : decode cX5_judge 64 = .ok (.iconst 1, 1) := by decide +kernel
theorem dX5_judge_65 : decode cX5_judge 65 = .ok (.goto 4, 3) := by decide +kernel
theorem dX5_judge_68 : decode cX5_judge 68 = .ok (.iconst 0, 1) := by decide +kernel
theorem dX5_judge_69 : decode cX5_judge 69 = .ok (.istore_n 2, 1) := by decide +kernel
theorem dX5_judge_70 : decode cX5_judge 70 = .ok (.aload_n 0, 1) := by decide +kernel
theorem dX5_judge_71 : decode cX5_judge 71 = .ok (.iload_n 1, 1) := by decide +kernel
theorem dX5_judge_72 : decode cX5_judge 72 = .ok (.bipush 13, 2) := by decide +kernel
theorem dX5_judge_74 : decode cX5_judge 74 = .ok (.invokevirtual 52, 3) := by decide +kernel
theorem dX5_judge_77 : decode cX5_judge 77 = .ok (.istore_n 3, 1) := by decide +kernel
theorem dX5_judge_78 : decode cX5_judge 78 = .ok (.aload_n 0, 1) := by decide +kernel
theorem dX5_judge_79 : decode cX5_judge 79 = .ok (.iload_n 1, 1) := by decide +kernel
theorem dX5_judge_80 : decode cX5_judge 80 = .ok (.bipush 13, 2) := by decide +kernel
theorem dX5_judge_82 : decode cX5_judge 82 = .ok (.iload_n 2, 1) := by decide +kernel
theorem dX5_judge_83 : decode cX5_judge 83 = .ok (.ifCond .eq 17, 3) := by decide +kernel
theorem dX5_judge_86 : decode cX5_judge 86 = .ok (.iload_n 3, 1) := by decide +kernel
theorem dX5_judge_87 : decode cX5_judge 87 = .ok (.ifCond .le 9, 3) := by decide +kernel
theorem dX5_judge_90 : decode cX5_judge 90 = .ok (.iload_n 3, 1) := by decide +kernel
theorem dX5_judge_91 : decode cX5_judge 91 = .ok (.iconst 1, 1) := by decide +kernel
theorem dX5_judge_92 : decode cX5_judge 92 = .ok (.isub, 1) := by decide +kernel
theorem dX5_judge_93 : decode cX5_judge 93 = .ok (.goto 10, 3) := by decide +kernel
theorem dX5_judge_96 : decode cX5_judge 96 = .ok (.iconst 0, 1) := by decide +kernel
theorem dX5_judge_97 : decode cX5_judge 97 = .ok (.goto 6, 3) := by decide +kernel
theorem dX5_judge_100 : decode cX5_judge 100 = .ok (.iload_n 3, 1) := by decide +kernel
theorem dX5_judge_101 : decode cX5_judge 101 = .ok (.iconst 1, 1) := by decide +kernel
theorem dX5_judge_102 : decode cX5_judge 102 = .ok (.iadd, 1) := by decide +kernel
theorem dX5_judge_103 : decode cX5_judge 103 = .ok (.invokevirtual 41, 3) := by decide +kernel
theorem dX5_judge_106 : decode cX5_judge 106 = .ok (.iload_n 2, 1) := by decide +kernel
theorem dX5_judge_107 : decode cX5_judge 107 = .ok (.ifCond .ne 76, 3) := by decide +kernel
theorem dX5_judge_110 : decode cX5_judge 110 = .ok (.aload_n 0, 1) := by decide +kernel
theorem dX5_judge_111 : decode cX5_judge 111 = .ok (.iload_n 1, 1) := by decide +kernel
theorem dX5_judge_112 : decode cX5_judge 112 = .ok (.bipush 15, 2) := by decide +kernel
theorem dX5_judge_114 : decode cX5_judge 114 = .ok (.iload_n 3, 1) := by decide +kernel
theorem dX5_judge_115 : decode cX5_judge 115 = .ok (.iconst 1, 1) := by decide +kernel
theorem dX5_judge_116 : decode cX5_judge 116 = .ok (.iadd, 1) := by decide +kernel
theorem dX5_judge_117 : decode cX5_judge 117 = .ok (.aload_n 0, 1) := by decide +kernel
theorem dX5_judge_118 : decode cX5_judge 118 = .ok (.iload_n 1, 1) := by decide +kernel
theorem dX5_judge_119 : decode cX5_judge 119 = .ok (.bipush 6, 2) := by decide +kernel
theorem dX5_judge_121 : decode cX5_judge 121 = .ok (.invokevirtual 52, 3) := by decide +kernel
theorem dX5_judge_124 : decode cX5_judge 124 = .ok (.if_icmp .le 7, 3) := by decide +kernel
theorem dX5_judge_127 : decode cX5_judge 127 = .ok (.iconst 1, 1) := by decide +kernel
theorem dX5_judge_128 : decode cX5_judge 128 = .ok (.goto 4, 3) := by decide +kernel
theorem dX5_judge_131 : decode cX5_judge 131 = .ok (.iconst 0, 1) := by decide +kernel
theorem dX5_judge_132 : decode cX5_judge 132 = .ok (.invokevirtual 41, 3) := by decide +kernel
theorem dX5_judge_135 : decode cX5_judge 135 = .ok (.aload_n 0, 1) := by decide +kernel
theorem dX5_judge_136 : decode cX5_judge 136 = .ok (.iload_n 1, 1) := by decide +kernel
theorem dX5_judge_137 : decode cX5_judge 137 = .ok (.bipush 16, 2) := by decide +kernel
theorem dX5_judge_139 : decode cX5_judge 139 = .ok (.aload_n 0, 1) := by decide +kernel
theorem dX5_judge_140 : decode cX5_judge 140 = .ok (.iload_n 1, 1) := by decide +kernel
theorem dX5_judge_141 : decode cX5_judge 141 = .ok (.bipush 16, 2) := by decide +kernel
theorem dX5_judge_143 : decode cX5_judge 143 = .ok (.invokevirtual 52, 3) := by decide +kernel
theorem dX5_judge_146 : decode cX5_judge 146 = .ok (.iconst 1, 1) := by decide +kernel
theorem dX5_judge_147 : decode cX5_judge 147 = .ok (.iadd, 1) := by decide +kernel
theorem dX5_judge_148 : decode cX5_judge 148 = .ok (.invokevirtual 41, 3) := by decide +kernel
theorem dX5_judge_151 : decode cX5_judge 151 = .ok (.aload_n 0, 1) := by decide +kernel
theorem dX5_judge_152 : decode cX5_judge 152 = .ok (.iload_n 1, 1) := by decide +kernel
theorem dX5_judge_153 : decode cX5_judge 153 = .ok (.bipush 17, 2) := by decide +kernel
theorem dX5_judge_155 : decode cX5_judge 155 = .ok (.invokevirtual 52, 3) := by decide +kernel
theorem dX5_judge_158 : decode cX5_judge 158 = .ok (.ifCond .ne 25, 3) := by decide +kernel
theorem dX5_judge_161 : decode cX5_judge 161 = .ok (.aload_n 0, 1) := by decide +kernel
theorem dX5_judge_162 : decode cX5_judge 162 = .ok (.iload_n 1, 1) := by decide +kernel
theorem dX5_judge_163 : decode cX5_judge 163 = .ok (.bipush 17, 2) := by decide +kernel
theorem dX5_judge_165 : decode cX5_judge 165 = .ok (.iconst 1, 1) := by decide +kernel
theorem dX5_judge_166 : decode cX5_judge 166 = .ok (.invokevirtual 41, 3) := by decide +kernel
theorem dX5_judge_169 : decode cX5_judge 169 = .ok (.aload_n 0, 1) := by decide +kernel
theorem dX5_judge_170 : decode cX5_judge 170 = .ok (.iload_n 1, 1) := by decide +kernel
theorem dX5_judge_171 : decode cX5_judge 171 = .ok (.bipush 18, 2) := by decide +kernel
theorem dX5_judge_173 : decode cX5_judge 173 = .ok (.aload_n 0, 1) := by decide +kernel
theorem dX5_judge_174 : decode cX5_judge 174 = .ok (.getfield 7, 3) := by decide +kernel
theorem dX5_judge_177 : decode cX5_judge 177 = .ok (.bipush 8, 2) := by decide +kernel
theorem dX5_judge_179 : decode cX5_judge 179 = .ok (.iaload, 1) := by decide +kernel
theorem dX5_judge_180 : decode cX5_judge 180 = .ok (.invokevirtual 41, 3) := by decide +kernel
theorem dX5_judge_183 : decode cX5_judge 183 = .ok (.aload_n 0, 1) := by decide +kernel
theorem dX5_judge_184 : decode cX5_judge 184 = .ok (.iload_n 1, 1) := by decide +kernel
theorem dX5_judge_185 : decode cX5_judge 185 = .ok (.bipush 12, 2) := by decide +kernel
theorem dX5_judge_187 : decode cX5_judge 187 = .ok (.iconst 0, 1) := by decide +kernel
theorem dX5_judge_188 : decode cX5_judge 188 = .ok (.invokevirtual 41, 3) := by decide +kernel
theorem dX5_judge_191 : decode cX5_judge 191 = .ok (.aload_n 0, 1) := by decide +kernel
theorem dX5_judge_192 : decode cX5_judge 192 = .ok (.iload_n 1, 1) := by decide +kernel
theorem dX5_judge_193 : decode cX5_judge 193 = .ok (.bipush 14, 2) := by decide +kernel
theorem dX5_judge_195 : decode cX5_judge 195 = .ok (.iconst 0, 1) := by decide +kernel
theorem dX5_judge_196 : decode cX5_judge 196 = .ok (.invokevirtual 41, 3) := by decide +kernel
theorem dX5_judge_199 : decode cX5_judge 199 = .ok (.return_, 1) := by decide +kernel
theorem dX5_supervise_0 : decode cX5_supervise 0 = .ok (.aload_n 0, 1) := by decide +kernel
theorem dX5_supervise_1 : decode cX5_supervise 1 = .ok (.getfield 7, 3) := by decide +kernel
theorem dX5_supervise_4 : decode cX5_supervise 4 = .ok (.bipush 15, 2) := by decide +kernel
theorem dX5_supervise_6 : decode cX5_supervise 6 = .ok (.dup2, 1) := by decide +kernel
theorem dX5_supervise_7 : decode cX5_supervise 7 = .ok (.iaload, 1) := by decide +kernel
theorem dX5_supervise_8 : decode cX5_supervise 8 = .ok (.iconst 1, 1) := by decide +kernel
theorem dX5_supervise_9 : decode cX5_supervise 9 = .ok (.iadd, 1) := by decide +kernel
theorem dX5_supervise_10 : decode cX5_supervise 10 = .ok (.iastore, 1) := by decide +kernel
theorem dX5_supervise_11 : decode cX5_supervise 11 = .ok (.iconst 0, 1) := by decide +kernel
theorem dX5_supervise_12 : decode cX5_supervise 12 = .ok (.istore_n 1, 1) := by decide +kernel
theorem dX5_supervise_13 : decode cX5_supervise 13 = .ok (.iload_n 1, 1) := by decide +kernel
theorem dX5_supervise_14 : decode cX5_supervise 14 = .ok (.aload_n 0, 1) := by decide +kernel
theorem dX5_supervise_15 : decode cX5_supervise 15 = .ok (.getfield 7, 3) := by decide +kernel
theorem dX5_supervise_18 : decode cX5_supervise 18 = .ok (.bipush 17, 2) := by decide +kernel
theorem dX5_supervise_20 : decode cX5_supervise 20 = .ok (.iaload, 1) := by decide +kernel
theorem dX5_supervise_21 : decode cX5_supervise 21 = .ok (.if_icmp .ge 14, 3) := by decide +kernel
theorem dX5_supervise_24 : decode cX5_supervise 24 = .ok (.aload_n 0, 1) := by decide +kernel
theorem dX5_supervise_25 : decode cX5_supervise 25 = .ok (.iload_n 1, 1) := by decide +kernel
theorem dX5_supervise_26 : decode cX5_supervise 26 = .ok (.invokevirtual 111, 3) := by decide +kernel
theorem dX5_supervise_29 : decode cX5_supervise 29 = .ok (.iinc 1 1, 3) := by decide +kernel
theorem dX5_supervise_32 : decode cX5_supervise 32 = .ok (.goto (-19), 3) := by decide +kernel
theorem dX5_supervise_35 : decode cX5_supervise 35 = .ok (.aload_n 0, 1) := by decide +kernel
theorem dX5_supervise_36 : decode cX5_supervise 36 = .ok (.getfield 7, 3) := by decide +kernel
theorem dX5_supervise_39 : decode cX5_supervise 39 = .ok (.bipush 16, 2) := by decide +kernel
theorem dX5_supervise_41 : decode cX5_supervise 41 = .ok (.dup2, 1) := by decide +kernel
theorem dX5_supervise_42 : decode cX5_supervise 42 = .ok (.iaload, 1) := by decide +kernel
theorem dX5_supervise_43 : decode cX5_supervise 43 = .ok (.aload_n 0, 1) := by decide +kernel
theorem dX5_supervise_44 : decode cX5_supervise 44 = .ok (.invokevirtual 95, 3) := by decide +kernel
theorem dX5_supervise_47 : decode cX5_supervise 47 = .ok (.ifCond .lt 7, 3) := by decide +kernel
theorem dX5_supervise_50 : decode cX5_supervise 50 = .ok (.iconst 1, 1) := by decide +kernel
theorem dX5_supervise_51 : decode cX5_supervise 51 = .ok (.goto 4, 3) := by decide +kernel
theorem dX5_supervise_54 : decode cX5_supervise 54 = .ok (.iconst 0, 1) := by decide +kernel
theorem dX5_supervise_55 : decode cX5_supervise 55 = .ok (.iadd, 1) := by decide +kernel
theorem dX5_supervise_56 : decode cX5_supervise 56 = .ok (.iastore, 1) := by decide +kernel
theorem dX5_supervise_57 : decode cX5_supervise 57 = .ok (.aload_n 0, 1) := by decide +kernel
theorem dX5_supervise_58 : decode cX5_supervise 58 = .ok (.getfield 7, 3) := by decide +kernel
theorem dX5_supervise_61 : decode cX5_supervise 61 = .ok (.bipush 16, 2) := by decide +kernel
theorem dX5_supervise_63 : decode cX5_supervise 63 = .ok (.iaload, 1) := by decide +kernel
theorem dX5_supervise_64 : decode cX5_supervise 64 = .ok (.aload_n 0, 1) := by decide +kernel
theorem dX5_supervise_65 : decode cX5_supervise 65 = .ok (.getfield 7, 3) := by decide +kernel
theorem dX5_supervise_68 : decode cX5_supervise 68 = .ok (.iconst 4, 1) := by decide +kernel
theorem dX5_supervise_69 : decode cX5_supervise 69 = .ok (.iaload, 1) := by decide +kernel
theorem dX5_supervise_70 : decode cX5_supervise 70 = .ok (.if_icmp .gt 23, 3) := by decide +kernel
theorem dX5_supervise_73 : decode cX5_supervise 73 = .ok (.aload_n 0, 1) := by decide +kernel
theorem dX5_supervise_74 : decode cX5_supervise 74 = .ok (.getfield 7, 3) := by decide +kernel
theorem dX5_supervise_77 : decode cX5_supervise 77 = .ok (.bipush 14, 2) := by decide +kernel
theorem dX5_supervise_79 : decode cX5_supervise 79 = .ok (.iaload, 1) := by decide +kernel
theorem dX5_supervise_80 : decode cX5_supervise 80 = .ok (.aload_n 0, 1) := by decide +kernel
theorem dX5_supervise_81 : decode cX5_supervise 81 = .ok (.getfield 7, 3) := by decide +kernel
theorem dX5_supervise_84 : decode cX5_supervise 84 = .ok (.iconst 3, 1) := by decide +kernel
theorem dX5_supervise_85 : decode cX5_supervise 85 = .ok (.iaload, 1) := by decide +kernel
theorem dX5_supervise_86 : decode cX5_supervise 86 = .ok (.if_icmp .lt 7, 3) := by decide +kernel
theorem dX5_supervise_89 : decode cX5_supervise 89 = .ok (.iconst 1, 1) := by decide +kernel
theorem dX5_supervise_90 : decode cX5_supervise 90 = .ok (.goto 4, 3) := by decide +kernel
theorem dX5_supervise_93 : decode cX5_supervise 93 = .ok (.iconst 0, 1) := by decide +kernel
theorem dX5_supervise_94 : decode cX5_supervise 94 = .ok (.ireturn, 1) := by decide +kernel
theorem dX5_runs_0 : decode cX5_runs 0 = .ok (.aload_n 0, 1) := by decide +kernel
theorem dX5_runs_1 : decode cX5_runs 1 = .ok (.getfield 7, 3) := by decide +kernel
theorem dX5_runs_4 : decode cX5_runs 4 = .ok (.bipush 13, 2) := by decide +kernel
theorem dX5_runs_6 : decode cX5_runs 6 = .ok (.dup2, 1) := by decide +kernel
theorem dX5_runs_7 : decode cX5_runs 7 = .ok (.iaload, 1) := by decide +kernel
theorem dX5_runs_8 : decode cX5_runs 8 = .ok (.iconst 1, 1) := by decide +kernel
theorem dX5_runs_9 : decode cX5_runs 9 = .ok (.iadd, 1) := by decide +kernel
theorem dX5_runs_10 : decode cX5_runs 10 = .ok (.iastore, 1) := by decide +kernel
theorem dX5_runs_11 : decode cX5_runs 11 = .ok (.aload_n 0, 1) := by decide +kernel
theorem dX5_runs_12 : decode cX5_runs 12 = .ok (.getfield 7, 3) := by decide +kernel
theorem dX5_runs_15 : decode cX5_runs 15 = .ok (.bipush 14, 2) := by decide +kernel
theorem dX5_runs_17 : decode cX5_runs 17 = .ok (.dup2, 1) := by decide +kernel
theorem dX5_runs_18 : decode cX5_runs 18 = .ok (.iaload, 1) := by decide +kernel
theorem dX5_runs_19 : decode cX5_runs 19 = .ok (.iconst 1, 1) := by decide +kernel
theorem dX5_runs_20 : decode cX5_runs 20 = .ok (.iadd, 1) := by decide +kernel
theorem dX5_runs_21 : decode cX5_runs 21 = .ok (.iastore, 1) := by decide +kernel
theorem dX5_runs_22 : decode cX5_runs 22 = .ok (.iconst 0, 1) := by decide +kernel
theorem dX5_runs_23 : decode cX5_runs 23 = .ok (.istore_n 1, 1) := by decide +kernel
theorem dX5_runs_24 : decode cX5_runs 24 = .ok (.iload_n 1, 1) := by decide +kernel
theorem dX5_runs_25 : decode cX5_runs 25 = .ok (.aload_n 0, 1) := by decide +kernel
theorem dX5_runs_26 : decode cX5_runs 26 = .ok (.getfield 7, 3) := by decide +kernel
theorem dX5_runs_29 : decode cX5_runs 29 = .ok (.bipush 17, 2) := by decide +kernel
theorem dX5_runs_31 : decode cX5_runs 31 = .ok (.iaload, 1) := by decide +kernel
theorem dX5_runs_32 : decode cX5_runs 32 = .ok (.if_icmp .ge 25, 3) := by decide +kernel
theorem dX5_runs_35 : decode cX5_runs 35 = .ok (.aload_n 0, 1) := by decide +kernel
theorem dX5_runs_36 : decode cX5_runs 36 = .ok (.iload_n 1, 1) := by decide +kernel
theorem dX5_runs_37 : decode cX5_runs 37 = .ok (.invokevirtual 114, 3) := by decide +kernel
theorem dX5_runs_40 : decode cX5_runs 40 = .ok (.ifCond .eq 11, 3) := by decide +kernel
theorem dX5_runs_43 : decode cX5_runs 43 = .ok (.aload_n 0, 1) := by decide +kernel
theorem dX5_runs_44 : decode cX5_runs 44 = .ok (.iconst 3, 1) := by decide +kernel
theorem dX5_runs_45 : decode cX5_runs 45 = .ok (.iload_n 1, 1) := by decide +kernel
theorem dX5_runs_46 : decode cX5_runs 46 = .ok (.invokevirtual 117, 3) := by decide +kernel
theorem dX5_runs_49 : decode cX5_runs 49 = .ok (.iconst 1, 1) := by decide +kernel
theorem dX5_runs_50 : decode cX5_runs 50 = .ok (.ireturn, 1) := by decide +kernel
theorem dX5_runs_51 : decode cX5_runs 51 = .ok (.iinc 1 1, 3) := by decide +kernel
theorem dX5_runs_54 : decode cX5_runs 54 = .ok (.goto (-30), 3) := by decide +kernel
theorem dX5_runs_57 : decode cX5_runs 57 = .ok (.aload_n 0, 1) := by decide +kernel
theorem dX5_runs_58 : decode cX5_runs 58 = .ok (.getfield 7, 3) := by decide +kernel
theorem dX5_runs_61 : decode cX5_runs 61 = .ok (.bipush 13, 2) := by decide +kernel
theorem dX5_runs_63 : decode cX5_runs 63 = .ok (.iaload, 1) := by decide +kernel
theorem dX5_runs_64 : decode cX5_runs 64 = .ok (.aload_n 0, 1) := by decide +kernel
theorem dX5_runs_65 : decode cX5_runs 65 = .ok (.getfield 7, 3) := by decide +kernel
theorem dX5_runs_68 : decode cX5_runs 68 = .ok (.iconst 2, 1) := by decide +kernel
theorem dX5_runs_69 : decode cX5_runs 69 = .ok (.iaload, 1) := by decide +kernel
theorem dX5_runs_70 : decode cX5_runs 70 = .ok (.irem, 1) := by decide +kernel
theorem dX5_runs_71 : decode cX5_runs 71 = .ok (.ifCond .ne 14, 3) := by decide +kernel
theorem dX5_runs_74 : decode cX5_runs 74 = .ok (.aload_n 0, 1) := by decide +kernel
theorem dX5_runs_75 : decode cX5_runs 75 = .ok (.invokevirtual 121, 3) := by decide +kernel
theorem dX5_runs_78 : decode cX5_runs 78 = .ok (.ifCond .eq 7, 3) := by decide +kernel
theorem dX5_runs_81 : decode cX5_runs 81 = .ok (.iconst 1, 1) := by decide +kernel
theorem dX5_runs_82 : decode cX5_runs 82 = .ok (.goto 4, 3) := by decide +kernel
theorem dX5_runs_85 : decode cX5_runs 85 = .ok (.iconst 0, 1) := by decide +kernel
theorem dX5_runs_86 : decode cX5_runs 86 = .ok (.istore_n 1, 1) := by decide +kernel
theorem dX5_runs_87 : decode cX5_runs 87 = .ok (.iload_n 1, 1) := by decide +kernel
theorem dX5_runs_88 : decode cX5_runs 88 = .ok (.ifCond .eq 19, 3) := by decide +kernel
theorem dX5_runs_91 : decode cX5_runs 91 = .ok (.aload_n 0, 1) := by decide +kernel
theorem dX5_runs_92 : decode cX5_runs 92 = .ok (.getfield 7, 3) := by decide +kernel
theorem dX5_runs_95 : decode cX5_runs 95 = .ok (.bipush 14, 2) := by decide +kernel
theorem dX5_runs_97 : decode cX5_runs 97 = .ok (.iaload, 1) := by decide +kernel
theorem dX5_runs_98 : decode cX5_runs 98 = .ok (.aload_n 0, 1) := by decide +kernel
theorem dX5_runs_99 : decode cX5_runs 99 = .ok (.getfield 7, 3) := by decide +kernel
theorem dX5_runs_102 : decode cX5_runs 102 = .ok (.iconst 0, 1) := by decide +kernel
theorem dX5_runs_103 : decode cX5_runs 103 = .ok (.iaload, 1) := by decide +kernel
theorem dX5_runs_104 : decode cX5_runs 104 = .ok (.if_icmp .lt 23, 3) := by decide +kernel
theorem dX5_runs_107 : decode cX5_runs 107 = .ok (.iload_n 1, 1) := by decide +kernel
theorem dX5_runs_108 : decode cX5_runs 108 = .ok (.ifCond .ne 36, 3) := by decide +kernel
theorem dX5_runs_111 : decode cX5_runs 111 = .ok (.aload_n 0, 1) := by decide +kernel
theorem dX5_runs_112 : decode cX5_runs 112 = .ok (.getfield 7, 3) := by decide +kernel
theorem dX5_runs_115 : decode cX5_runs 115 = .ok (.bipush 14, 2) := by decide +kernel
theorem dX5_runs_117 : decode cX5_runs 117 = .ok (.iaload, 1) := by decide +kernel
theorem dX5_runs_118 : decode cX5_runs 118 = .ok (.aload_n 0, 1) := by decide +kernel
theorem dX5_runs_119 : decode cX5_runs 119 = .ok (.getfield 7, 3) := by decide +kernel
theorem dX5_runs_122 : decode cX5_runs 122 = .ok (.iconst 1, 1) := by decide +kernel
theorem dX5_runs_123 : decode cX5_runs 123 = .ok (.iaload, 1) := by decide +kernel
theorem dX5_runs_124 : decode cX5_runs 124 = .ok (.if_icmp .le 20, 3) := by decide +kernel
theorem dX5_runs_127 : decode cX5_runs 127 = .ok (.aload_n 0, 1) := by decide +kernel
theorem dX5_runs_128 : decode cX5_runs 128 = .ok (.iload_n 1, 1) := by decide +kernel
theorem dX5_runs_129 : decode cX5_runs 129 = .ok (.ifCond .eq 7, 3) := by decide +kernel
theorem dX5_runs_132 : decode cX5_runs 132 = .ok (.iconst 1, 1) := by decide +kernel
theorem dX5_runs_133 : decode cX5_runs 133 = .ok (.goto 4, 3) := by decide +kernel
theorem dX5_runs_136 : decode cX5_runs 136 = .ok (.iconst 2, 1) := by decide +kernel
theorem dX5_runs_137 : decode cX5_runs 137 = .ok (.bipush (-6), 2) := by decide +kernel
theorem dX5_runs_139 : decode cX5_runs 139 = .ok (.invokevirtual 117, 3) := by decide +kernel
theorem dX5_runs_142 : decode cX5_runs 142 = .ok (.iconst 1, 1) := by decide +kernel
theorem dX5_runs_143 : decode cX5_runs 143 = .ok (.ireturn, 1) := by decide +kernel
theorem dX5_runs_144 : decode cX5_runs 144 = .ok (.aload_n 0, 1) := by decide +kernel
theorem dX5_runs_145 : decode cX5_runs 145 = .ok (.getfield 7, 3) := by decide +kernel
theorem dX5_runs_148 : decode cX5_runs 148 = .ok (.bipush 14, 2) := by decide +kernel
theorem dX5_runs_150 : decode cX5_runs 150 = .ok (.iload_n 1, 1) := by decide +kernel
theorem dX5_runs_151 : decode cX5_runs 151 = .ok (.ifCond .eq 7, 3) := by decide +kernel
theorem dX5_runs_154 : decode cX5_runs 154 = .ok (.iconst 0, 1) := by decide +kernel
theorem dX5_runs_155 : decode cX5_runs 155 = .ok (.goto 10, 3) := by decide +kernel
theorem dX5_runs_158 : decode cX5_runs 158 = .ok (.aload_n 0, 1) := by decide +kernel
theorem dX5_runs_159 : decode cX5_runs 159 = .ok (.getfield 7, 3) := by decide +kernel
theorem dX5_runs_162 : decode cX5_runs 162 = .ok (.bipush 14, 2) := by decide +kernel
theorem dX5_runs_164 : decode cX5_runs 164 = .ok (.iaload, 1) := by decide +kernel
theorem dX5_runs_165 : decode cX5_runs 165 = .ok (.iastore, 1) := by decide +kernel
theorem dX5_runs_166 : decode cX5_runs 166 = .ok (.aload_n 0, 1) := by decide +kernel
theorem dX5_runs_167 : decode cX5_runs 167 = .ok (.getfield 7, 3) := by decide +kernel
theorem dX5_runs_170 : decode cX5_runs 170 = .ok (.bipush 11, 2) := by decide +kernel
theorem dX5_runs_172 : decode cX5_runs 172 = .ok (.aload_n 0, 1) := by decide +kernel
theorem dX5_runs_173 : decode cX5_runs 173 = .ok (.getfield 7, 3) := by decide +kernel
theorem dX5_runs_176 : decode cX5_runs 176 = .ok (.bipush 13, 2) := by decide +kernel
theorem dX5_runs_178 : decode cX5_runs 178 = .ok (.iaload, 1) := by decide +kernel
theorem dX5_runs_179 : decode cX5_runs 179 = .ok (.aload_n 0, 1) := by decide +kernel
theorem dX5_runs_180 : decode cX5_runs 180 = .ok (.getfield 7, 3) := by decide +kernel
theorem dX5_runs_183 : decode cX5_runs 183 = .ok (.bipush 6, 2) := by decide +kernel
theorem dX5_runs_185 : decode cX5_runs 185 = .ok (.iaload, 1) := by decide +kernel
theorem dX5_runs_186 : decode cX5_runs 186 = .ok (.if_icmp .ne 7, 3) := by decide +kernel
theorem dX5_runs_189 : decode cX5_runs 189 = .ok (.iconst 0, 1) := by decide +kernel
theorem dX5_runs_190 : decode cX5_runs 190 = .ok (.goto 10, 3) := by decide +kernel
theorem dX5_runs_193 : decode cX5_runs 193 = .ok (.aload_n 0, 1) := by decide +kernel
theorem dX5_runs_194 : decode cX5_runs 194 = .ok (.getfield 7, 3) := by decide +kernel
theorem dX5_runs_197 : decode cX5_runs 197 = .ok (.bipush 11, 2) := by decide +kernel
theorem dX5_runs_199 : decode cX5_runs 199 = .ok (.iaload, 1) := by decide +kernel
theorem dX5_runs_200 : decode cX5_runs 200 = .ok (.iastore, 1) := by decide +kernel
theorem dX5_runs_201 : decode cX5_runs 201 = .ok (.iconst 0, 1) := by decide +kernel
theorem dX5_runs_202 : decode cX5_runs 202 = .ok (.ireturn, 1) := by decide +kernel
theorem dX5_tick_0 : decode cX5_tick 0 = .ok (.iconst 0, 1) := by decide +kernel
theorem dX5_tick_1 : decode cX5_tick 1 = .ok (.istore_n 1, 1) := by decide +kernel
theorem dX5_tick_2 : decode cX5_tick 2 = .ok (.aload_n 0, 1) := by decide +kernel
theorem dX5_tick_3 : decode cX5_tick 3 = .ok (.getfield 7, 3) := by decide +kernel
theorem dX5_tick_6 : decode cX5_tick 6 = .ok (.bipush 9, 2) := by decide +kernel
theorem dX5_tick_8 : decode cX5_tick 8 = .ok (.iaload, 1) := by decide +kernel
theorem dX5_tick_9 : decode cX5_tick 9 = .ok (.ifCond .ne 31, 3) := by decide +kernel
theorem dX5_tick_12 : decode cX5_tick 12 = .ok (.aload_n 0, 1) := by decide +kernel
theorem dX5_tick_13 : decode cX5_tick 13 = .ok (.getfield 7, 3) := by decide +kernel
theorem dX5_tick_16 : decode cX5_tick 16 = .ok (.bipush 12, 2) := by decide +kernel
theorem dX5_tick_18 : decode cX5_tick 18 = .ok (.dup2, 1) := by decide +kernel
theorem dX5_tick_19 : decode cX5_tick 19 = .ok (.iaload, 1) := by decide +kernel
theorem dX5_tick_20 : decode cX5_tick 20 = .ok (.iconst 1, 1) := by decide +kernel
theorem dX5_tick_21 : decode cX5_tick 21 = .ok (.isub, 1) := by decide +kernel
theorem dX5_tick_22 : decode cX5_tick 22 = .ok (.iastore, 1) := by decide +kernel
theorem dX5_tick_23 : decode cX5_tick 23 = .ok (.aload_n 0, 1) := by decide +kernel
theorem dX5_tick_24 : decode cX5_tick 24 = .ok (.getfield 7, 3) := by decide +kernel
theorem dX5_tick_27 : decode cX5_tick 27 = .ok (.bipush 12, 2) := by decide +kernel
theorem dX5_tick_29 : decode cX5_tick 29 = .ok (.iaload, 1) := by decide +kernel
theorem dX5_tick_30 : decode cX5_tick 30 = .ok (.ifCond .ne 26, 3) := by decide +kernel
theorem dX5_tick_33 : decode cX5_tick 33 = .ok (.aload_n 0, 1) := by decide +kernel
theorem dX5_tick_34 : decode cX5_tick 34 = .ok (.invokevirtual 125, 3) := by decide +kernel
theorem dX5_tick_37 : decode cX5_tick 37 = .ok (.goto 19, 3) := by decide +kernel
theorem dX5_tick_40 : decode cX5_tick 40 = .ok (.aload_n 0, 1) := by decide +kernel
theorem dX5_tick_41 : decode cX5_tick 41 = .ok (.getfield 7, 3) := by decide +kernel
theorem dX5_tick_44 : decode cX5_tick 44 = .ok (.bipush 9, 2) := by decide +kernel
theorem dX5_tick_46 : decode cX5_tick 46 = .ok (.iaload, 1) := by decide +kernel
theorem dX5_tick_47 : decode cX5_tick 47 = .ok (.iconst 1, 1) := by decide +kernel
theorem dX5_tick_48 : decode cX5_tick 48 = .ok (.if_icmp .ne 8, 3) := by decide +kernel
theorem dX5_tick_51 : decode cX5_tick 51 = .ok (.aload_n 0, 1) := by decide +kernel
theorem dX5_tick_52 : decode cX5_tick 52 = .ok (.invokevirtual 128, 3) := by decide +kernel
theorem dX5_tick_55 : decode cX5_tick 55 = .ok (.istore_n 1, 1) := by decide +kernel
theorem dX5_tick_56 : decode cX5_tick 56 = .ok (.aload_n 0, 1) := by decide +kernel
theorem dX5_tick_57 : decode cX5_tick 57 = .ok (.getfield 7, 3) := by decide +kernel
theorem dX5_tick_60 : decode cX5_tick 60 = .ok (.bipush 8, 2) := by decide +kernel
theorem dX5_tick_62 : decode cX5_tick 62 = .ok (.dup2, 1) := by decide +kernel
theorem dX5_tick_63 : decode cX5_tick 63 = .ok (.iaload, 1) := by decide +kernel
theorem dX5_tick_64 : decode cX5_tick 64 = .ok (.iconst 1, 1) := by decide +kernel
theorem dX5_tick_65 : decode cX5_tick 65 = .ok (.iadd, 1) := by decide +kernel
theorem dX5_tick_66 : decode cX5_tick 66 = .ok (.iastore, 1) := by decide +kernel
theorem dX5_tick_67 : decode cX5_tick 67 = .ok (.iload_n 1, 1) := by decide +kernel
theorem dX5_tick_68 : decode cX5_tick 68 = .ok (.ireturn, 1) := by decide +kernel
theorem dX5_run_0 : decode cX5_run 0 = .ok (.iload_n 1, 1) := by decide +kernel
theorem dX5_run_1 : decode cX5_run 1 = .ok (.iconst 1, 1) := by decide +kernel
theorem dX5_run_2 : decode cX5_run 2 = .ok (.sipush 2000, 3) := by decide +kernel
theorem dX5_run_5 : decode cX5_run 5 = .ok (.invokestatic 33, 3) := by decide +kernel
theorem dX5_run_8 : decode cX5_run 8 = .ok (.ifCond .ne 6, 3) := by decide +kernel
theorem dX5_run_11 : decode cX5_run 11 = .ok (.bipush (-2), 2) := by decide +kernel
theorem dX5_run_13 : decode cX5_run 13 = .ok (.ireturn, 1) := by decide +kernel
theorem dX5_run_14 : decode cX5_run 14 = .ok (.aload_n 0, 1) := by decide +kernel
theorem dX5_run_15 : decode cX5_run 15 = .ok (.getfield 7, 3) := by decide +kernel
theorem dX5_run_18 : decode cX5_run 18 = .ok (.bipush 8, 2) := by decide +kernel
theorem dX5_run_20 : decode cX5_run 20 = .ok (.iaload, 1) := by decide +kernel
theorem dX5_run_21 : decode cX5_run 21 = .ok (.iload_n 1, 1) := by decide +kernel
theorem dX5_run_22 : decode cX5_run 22 = .ok (.iadd, 1) := by decide +kernel
theorem dX5_run_23 : decode cX5_run 23 = .ok (.ldc 131, 2) := by decide +kernel
theorem dX5_run_25 : decode cX5_run 25 = .ok (.if_icmp .le 6, 3) := by decide +kernel
theorem dX5_run_28 : decode cX5_run 28 = .ok (.bipush (-5), 2) := by decide +kernel
theorem dX5_run_30 : decode cX5_run 30 = .ok (.ireturn, 1) := by decide +kernel
theorem dX5_run_31 : decode cX5_run 31 = .ok (.iconst 0, 1) := by decide +kernel
theorem dX5_run_32 : decode cX5_run 32 = .ok (.istore_n 2, 1) := by decide +kernel
theorem dX5_run_33 : decode cX5_run 33 = .ok (.iload_n 2, 1) := by decide +kernel
theorem dX5_run_34 : decode cX5_run 34 = .ok (.iload_n 1, 1) := by decide +kernel
theorem dX5_run_35 : decode cX5_run 35 = .ok (.if_icmp .ge 14, 3) := by decide +kernel
theorem dX5_run_38 : decode cX5_run 38 = .ok (.aload_n 0, 1) := by decide +kernel
theorem dX5_run_39 : decode cX5_run 39 = .ok (.invokevirtual 132, 3) := by decide +kernel
theorem dX5_run_42 : decode cX5_run 42 = .ok (.pop, 1) := by decide +kernel
theorem dX5_run_43 : decode cX5_run 43 = .ok (.iinc 2 1, 3) := by decide +kernel
theorem dX5_run_46 : decode cX5_run 46 = .ok (.goto (-13), 3) := by decide +kernel
theorem dX5_run_49 : decode cX5_run 49 = .ok (.aload_n 0, 1) := by decide +kernel
theorem dX5_run_50 : decode cX5_run 50 = .ok (.getfield 7, 3) := by decide +kernel
theorem dX5_run_53 : decode cX5_run 53 = .ok (.bipush 8, 2) := by decide +kernel
theorem dX5_run_55 : decode cX5_run 55 = .ok (.iaload, 1) := by decide +kernel
theorem dX5_run_56 : decode cX5_run 56 = .ok (.ireturn, 1) := by decide +kernel
theorem dX5_tickOfReset_0 : decode cX5_tickOfReset 0 = .ok (.iconst 1, 1) := by decide +kernel
theorem dX5_tickOfReset_1 : decode cX5_tickOfReset 1 = .ok (.istore_n 2, 1) := by decide +kernel
theorem dX5_tickOfReset_2 : decode cX5_tickOfReset 2 = .ok (.iload_n 2, 1) := by decide +kernel
theorem dX5_tickOfReset_3 : decode cX5_tickOfReset 3 = .ok (.iload_n 1, 1) := by decide +kernel
theorem dX5_tickOfReset_4 : decode cX5_tickOfReset 4 = .ok (.if_icmp .gt 18, 3) := by decide +kernel
theorem dX5_tickOfReset_7 : decode cX5_tickOfReset 7 = .ok (.aload_n 0, 1) := by decide +kernel
theorem dX5_tickOfReset_8 : decode cX5_tickOfReset 8 = .ok (.invokevirtual 132, 3) := by decide +kernel
theorem dX5_tickOfReset_11 : decode cX5_tickOfReset 11 = .ok (.ifCond .eq 5, 3) := by decide +kernel
theorem dX5_tickOfReset_14 : decode cX5_tickOfReset 14 = .ok (.iload_n 2, 1) := by decide +kernel
theorem dX5_tickOfReset_15 : decode cX5_tickOfReset 15 = .ok (.ireturn, 1) := by decide +kernel
theorem dX5_tickOfReset_16 : decode cX5_tickOfReset 16 = .ok (.iinc 2 1, 3) := by decide +kernel
theorem dX5_tickOfReset_19 : decode cX5_tickOfReset 19 = .ok (.goto (-17), 3) := by decide +kernel
theorem dX5_tickOfReset_22 : decode cX5_tickOfReset 22 = .ok (.bipush (-6), 2) := by decide +kernel
theorem dX5_tickOfReset_24 : decode cX5_tickOfReset 24 = .ok (.ireturn, 1) := by decide +kernel
theorem dX5_runToReset_0 : decode cX5_runToReset 0 = .ok (.iload_n 1, 1) := by decide +kernel
theorem dX5_runToReset_1 : decode cX5_runToReset 1 = .ok (.iconst 1, 1) := by decide +kernel
theorem dX5_runToReset_2 : decode cX5_runToReset 2 = .ok (.sipush 2000, 3) := by decide +kernel
theorem dX5_runToReset_5 : decode cX5_runToReset 5 = .ok (.invokestatic 33, 3) := by decide +kernel
theorem dX5_runToReset_8 : decode cX5_runToReset 8 = .ok (.ifCond .ne 6, 3) := by decide +kernel
theorem dX5_runToReset_11 : decode cX5_runToReset 11 = .ok (.bipush (-2), 2) := by decide +kernel
theorem dX5_runToReset_13 : decode cX5_runToReset 13 = .ok (.ireturn, 1) := by decide +kernel
theorem dX5_runToReset_14 : decode cX5_runToReset 14 = .ok (.aload_n 0, 1) := by decide +kernel
theorem dX5_runToReset_15 : decode cX5_runToReset 15 = .ok (.getfield 7, 3) := by decide +kernel
theorem dX5_runToReset_18 : decode cX5_runToReset 18 = .ok (.bipush 8, 2) := by decide +kernel
theorem dX5_runToReset_20 : decode cX5_runToReset 20 = .ok (.iaload, 1) := by decide +kernel
theorem dX5_runToReset_21 : decode cX5_runToReset 21 = .ok (.iload_n 1, 1) := by decide +kernel
theorem dX5_runToReset_22 : decode cX5_runToReset 22 = .ok (.iadd, 1) := by decide +kernel
theorem dX5_runToReset_23 : decode cX5_runToReset 23 = .ok (.ldc 131, 2) := by decide +kernel
theorem dX5_runToReset_25 : decode cX5_runToReset 25 = .ok (.if_icmp .le 6, 3) := by decide +kernel
theorem dX5_runToReset_28 : decode cX5_runToReset 28 = .ok (.bipush (-5), 2) := by decide +kernel
theorem dX5_runToReset_30 : decode cX5_runToReset 30 = .ok (.ireturn, 1) := by decide +kernel
theorem dX5_runToReset_31 : decode cX5_runToReset 31 = .ok (.aload_n 0, 1) := by decide +kernel
theorem dX5_runToReset_32 : decode cX5_runToReset 32 = .ok (.iload_n 1, 1) := by decide +kernel
theorem dX5_runToReset_33 : decode cX5_runToReset 33 = .ok (.invokevirtual 135, 3) := by decide +kernel
theorem dX5_runToReset_36 : decode cX5_runToReset 36 = .ok (.istore_n 2, 1) := by decide +kernel
theorem dX5_runToReset_37 : decode cX5_runToReset 37 = .ok (.iload_n 2, 1) := by decide +kernel
theorem dX5_runToReset_38 : decode cX5_runToReset 38 = .ok (.ifCond .ge 7, 3) := by decide +kernel
theorem dX5_runToReset_41 : decode cX5_runToReset 41 = .ok (.iload_n 1, 1) := by decide +kernel
theorem dX5_runToReset_42 : decode cX5_runToReset 42 = .ok (.goto 4, 3) := by decide +kernel
theorem dX5_runToReset_45 : decode cX5_runToReset 45 = .ok (.iload_n 2, 1) := by decide +kernel
theorem dX5_runToReset_46 : decode cX5_runToReset 46 = .ok (.ireturn, 1) := by decide +kernel
theorem dX5_kick_0 : decode cX5_kick 0 = .ok (.aload_n 0, 1) := by decide +kernel
theorem dX5_kick_1 : decode cX5_kick 1 = .ok (.getfield 7, 3) := by decide +kernel
theorem dX5_kick_4 : decode cX5_kick 4 = .ok (.bipush 9, 2) := by decide +kernel
theorem dX5_kick_6 : decode cX5_kick 6 = .ok (.iaload, 1) := by decide +kernel
theorem dX5_kick_7 : decode cX5_kick 7 = .ok (.iconst 1, 1) := by decide +kernel
theorem dX5_kick_8 : decode cX5_kick 8 = .ok (.if_icmp .eq 6, 3) := by decide +kernel
theorem dX5_kick_11 : decode cX5_kick 11 = .ok (.bipush (-5), 2) := by decide +kernel
theorem dX5_kick_13 : decode cX5_kick 13 = .ok (.ireturn, 1) := by decide +kernel
theorem dX5_kick_14 : decode cX5_kick 14 = .ok (.aload_n 0, 1) := by decide +kernel
theorem dX5_kick_15 : decode cX5_kick 15 = .ok (.getfield 7, 3) := by decide +kernel
theorem dX5_kick_18 : decode cX5_kick 18 = .ok (.bipush 14, 2) := by decide +kernel
theorem dX5_kick_20 : decode cX5_kick 20 = .ok (.iaload, 1) := by decide +kernel
theorem dX5_kick_21 : decode cX5_kick 21 = .ok (.istore_n 1, 1) := by decide +kernel
theorem dX5_kick_22 : decode cX5_kick 22 = .ok (.iload_n 1, 1) := by decide +kernel
theorem dX5_kick_23 : decode cX5_kick 23 = .ok (.aload_n 0, 1) := by decide +kernel
theorem dX5_kick_24 : decode cX5_kick 24 = .ok (.getfield 7, 3) := by decide +kernel
theorem dX5_kick_27 : decode cX5_kick 27 = .ok (.iconst 0, 1) := by decide +kernel
theorem dX5_kick_28 : decode cX5_kick 28 = .ok (.iaload, 1) := by decide +kernel
theorem dX5_kick_29 : decode cX5_kick 29 = .ok (.if_icmp .ge 13, 3) := by decide +kernel
theorem dX5_kick_32 : decode cX5_kick 32 = .ok (.aload_n 0, 1) := by decide +kernel
theorem dX5_kick_33 : decode cX5_kick 33 = .ok (.iconst 1, 1) := by decide +kernel
theorem dX5_kick_34 : decode cX5_kick 34 = .ok (.bipush (-6), 2) := by decide +kernel
theorem dX5_kick_36 : decode cX5_kick 36 = .ok (.invokevirtual 117, 3) := by decide +kernel
theorem dX5_kick_39 : decode cX5_kick 39 = .ok (.goto 11, 3) := by decide +kernel
theorem dX5_kick_42 : decode cX5_kick 42 = .ok (.aload_n 0, 1) := by decide +kernel
theorem dX5_kick_43 : decode cX5_kick 43 = .ok (.getfield 7, 3) := by decide +kernel
theorem dX5_kick_46 : decode cX5_kick 46 = .ok (.bipush 14, 2) := by decide +kernel
theorem dX5_kick_48 : decode cX5_kick 48 = .ok (.iconst 0, 1) := by decide +kernel
theorem dX5_kick_49 : decode cX5_kick 49 = .ok (.iastore, 1) := by decide +kernel
theorem dX5_kick_50 : decode cX5_kick 50 = .ok (.iload_n 1, 1) := by decide +kernel
theorem dX5_kick_51 : decode cX5_kick 51 = .ok (.ireturn, 1) := by decide +kernel
theorem dX5_reset_0 : decode cX5_reset 0 = .ok (.aload_n 0, 1) := by decide +kernel
theorem dX5_reset_1 : decode cX5_reset 1 = .ok (.getfield 7, 3) := by decide +kernel
theorem dX5_reset_4 : decode cX5_reset 4 = .ok (.bipush 9, 2) := by decide +kernel
theorem dX5_reset_6 : decode cX5_reset 6 = .ok (.iaload, 1) := by decide +kernel
theorem dX5_reset_7 : decode cX5_reset 7 = .ok (.iconst 1, 1) := by decide +kernel
theorem dX5_reset_8 : decode cX5_reset 8 = .ok (.if_icmp .eq 6, 3) := by decide +kernel
theorem dX5_reset_11 : decode cX5_reset 11 = .ok (.bipush (-5), 2) := by decide +kernel
theorem dX5_reset_13 : decode cX5_reset 13 = .ok (.ireturn, 1) := by decide +kernel
theorem dX5_reset_14 : decode cX5_reset 14 = .ok (.aload_n 0, 1) := by decide +kernel
theorem dX5_reset_15 : decode cX5_reset 15 = .ok (.iconst 4, 1) := by decide +kernel
theorem dX5_reset_16 : decode cX5_reset 16 = .ok (.bipush (-6), 2) := by decide +kernel
theorem dX5_reset_18 : decode cX5_reset 18 = .ok (.invokevirtual 117, 3) := by decide +kernel
theorem dX5_reset_21 : decode cX5_reset 21 = .ok (.aload_n 0, 1) := by decide +kernel
theorem dX5_reset_22 : decode cX5_reset 22 = .ok (.getfield 7, 3) := by decide +kernel
theorem dX5_reset_25 : decode cX5_reset 25 = .ok (.bipush 18, 2) := by decide +kernel
theorem dX5_reset_27 : decode cX5_reset 27 = .ok (.iaload, 1) := by decide +kernel
theorem dX5_reset_28 : decode cX5_reset 28 = .ok (.iconst 1, 1) := by decide +kernel
theorem dX5_reset_29 : decode cX5_reset 29 = .ok (.isub, 1) := by decide +kernel
theorem dX5_reset_30 : decode cX5_reset 30 = .ok (.ireturn, 1) := by decide +kernel
theorem dX5_switchOn_0 : decode cX5_switchOn 0 = .ok (.aload_n 0, 1) := by decide +kernel
theorem dX5_switchOn_1 : decode cX5_switchOn 1 = .ok (.invokevirtual 98, 3) := by decide +kernel
theorem dX5_switchOn_4 : decode cX5_switchOn 4 = .ok (.aload_n 0, 1) := by decide +kernel
theorem dX5_switchOn_5 : decode cX5_switchOn 5 = .ok (.getfield 7, 3) := by decide +kernel
theorem dX5_switchOn_8 : decode cX5_switchOn 8 = .ok (.bipush 10, 2) := by decide +kernel
theorem dX5_switchOn_10 : decode cX5_switchOn 10 = .ok (.iconst 0, 1) := by decide +kernel
theorem dX5_switchOn_11 : decode cX5_switchOn 11 = .ok (.iastore, 1) := by decide +kernel
theorem dX5_switchOn_12 : decode cX5_switchOn 12 = .ok (.aload_n 0, 1) := by decide +kernel
theorem dX5_switchOn_13 : decode cX5_switchOn 13 = .ok (.getfield 7, 3) := by decide +kernel
theorem dX5_switchOn_16 : decode cX5_switchOn 16 = .ok (.bipush 11, 2) := by decide +kernel
theorem dX5_switchOn_18 : decode cX5_switchOn 18 = .ok (.iconst 0, 1) := by decide +kernel
theorem dX5_switchOn_19 : decode cX5_switchOn 19 = .ok (.iastore, 1) := by decide +kernel
theorem dX5_switchOn_20 : decode cX5_switchOn 20 = .ok (.return_, 1) := by decide +kernel
theorem dX5_powerCycle_0 : decode cX5_powerCycle 0 = .ok (.aload_n 0, 1) := by decide +kernel
theorem dX5_powerCycle_1 : decode cX5_powerCycle 1 = .ok (.getfield 7, 3) := by decide +kernel
theorem dX5_powerCycle_4 : decode cX5_powerCycle 4 = .ok (.bipush 9, 2) := by decide +kernel
theorem dX5_powerCycle_6 : decode cX5_powerCycle 6 = .ok (.iaload, 1) := by decide +kernel
theorem dX5_powerCycle_7 : decode cX5_powerCycle 7 = .ok (.istore_n 1, 1) := by decide +kernel
theorem dX5_powerCycle_8 : decode cX5_powerCycle 8 = .ok (.aload_n 0, 1) := by decide +kernel
theorem dX5_powerCycle_9 : decode cX5_powerCycle 9 = .ok (.invokevirtual 138, 3) := by decide +kernel
theorem dX5_powerCycle_12 : decode cX5_powerCycle 12 = .ok (.iload_n 1, 1) := by decide +kernel
theorem dX5_powerCycle_13 : decode cX5_powerCycle 13 = .ok (.ireturn, 1) := by decide +kernel
theorem dX5_expiredSet_0 : decode cX5_expiredSet 0 = .ok (.iconst 0, 1) := by decide +kernel
theorem dX5_expiredSet_1 : decode cX5_expiredSet 1 = .ok (.istore_n 1, 1) := by decide +kernel
theorem dX5_expiredSet_2 : decode cX5_expiredSet 2 = .ok (.iconst 0, 1) := by decide +kernel
theorem dX5_expiredSet_3 : decode cX5_expiredSet 3 = .ok (.istore_n 2, 1) := by decide +kernel
theorem dX5_expiredSet_4 : decode cX5_expiredSet 4 = .ok (.iload_n 2, 1) := by decide +kernel
theorem dX5_expiredSet_5 : decode cX5_expiredSet 5 = .ok (.aload_n 0, 1) := by decide +kernel
theorem dX5_expiredSet_6 : decode cX5_expiredSet 6 = .ok (.getfield 7, 3) := by decide +kernel
theorem dX5_expiredSet_9 : decode cX5_expiredSet 9 = .ok (.bipush 17, 2) := by decide +kernel
theorem dX5_expiredSet_11 : decode cX5_expiredSet 11 = .ok (.iaload, 1) := by decide +kernel
theorem dX5_expiredSet_12 : decode cX5_expiredSet 12 = .ok (.if_icmp .ge 30, 3) := by decide +kernel
theorem dX5_expiredSet_15 : decode cX5_expiredSet 15 = .ok (.iload_n 1, 1) := by decide +kernel
theorem dX5_expiredSet_16 : decode cX5_expiredSet 16 = .ok (.aload_n 0, 1) := by decide +kernel
theorem dX5_expiredSet_17 : decode cX5_expiredSet 17 = .ok (.iload_n 2, 1) := by decide +kernel
theorem dX5_expiredSet_18 : decode cX5_expiredSet 18 = .ok (.bipush 15, 2) := by decide +kernel
theorem dX5_expiredSet_20 : decode cX5_expiredSet 20 = .ok (.invokevirtual 52, 3) := by decide +kernel
theorem dX5_expiredSet_23 : decode cX5_expiredSet 23 = .ok (.iconst 1, 1) := by decide +kernel
theorem dX5_expiredSet_24 : decode cX5_expiredSet 24 = .ok (.if_icmp .ne 9, 3) := by decide +kernel
theorem dX5_expiredSet_27 : decode cX5_expiredSet 27 = .ok (.iconst 1, 1) := by decide +kernel
theorem dX5_expiredSet_28 : decode cX5_expiredSet 28 = .ok (.iload_n 2, 1) := by decide +kernel
theorem dX5_expiredSet_29 : decode cX5_expiredSet 29 = .ok (.ishl, 1) := by decide +kernel
theorem dX5_expiredSet_30 : decode cX5_expiredSet 30 = .ok (.goto 4, 3) := by decide +kernel
theorem dX5_expiredSet_33 : decode cX5_expiredSet 33 = .ok (.iconst 0, 1) := by decide +kernel
theorem dX5_expiredSet_34 : decode cX5_expiredSet 34 = .ok (.ior, 1) := by decide +kernel
theorem dX5_expiredSet_35 : decode cX5_expiredSet 35 = .ok (.istore_n 1, 1) := by decide +kernel
theorem dX5_expiredSet_36 : decode cX5_expiredSet 36 = .ok (.iinc 2 1, 3) := by decide +kernel
theorem dX5_expiredSet_39 : decode cX5_expiredSet 39 = .ok (.goto (-35), 3) := by decide +kernel
theorem dX5_expiredSet_42 : decode cX5_expiredSet 42 = .ok (.iload_n 1, 1) := by decide +kernel
theorem dX5_expiredSet_43 : decode cX5_expiredSet 43 = .ok (.ireturn, 1) := by decide +kernel
theorem dX5_state_0 : decode cX5_state 0 = .ok (.aload_n 0, 1) := by decide +kernel
theorem dX5_state_1 : decode cX5_state 1 = .ok (.getfield 7, 3) := by decide +kernel
theorem dX5_state_4 : decode cX5_state 4 = .ok (.bipush 9, 2) := by decide +kernel
theorem dX5_state_6 : decode cX5_state 6 = .ok (.iaload, 1) := by decide +kernel
theorem dX5_state_7 : decode cX5_state 7 = .ok (.iconst 1, 1) := by decide +kernel
theorem dX5_state_8 : decode cX5_state 8 = .ok (.if_icmp .ne 7, 3) := by decide +kernel
theorem dX5_state_11 : decode cX5_state 11 = .ok (.iconst 1, 1) := by decide +kernel
theorem dX5_state_12 : decode cX5_state 12 = .ok (.goto 4, 3) := by decide +kernel
theorem dX5_state_15 : decode cX5_state 15 = .ok (.iconst 0, 1) := by decide +kernel
theorem dX5_state_16 : decode cX5_state 16 = .ok (.istore_n 2, 1) := by decide +kernel
theorem dX5_state_17 : decode cX5_state 17 = .ok (.iload_n 1, 1) := by decide +kernel
theorem dX5_state_18 : decode cX5_state 18 = .ok (.bipush 13, 2) := by decide +kernel
theorem dX5_state_20 : decode cX5_state 20 = .ok (.bipush 20, 2) := by decide +kernel
theorem dX5_state_22 : decode cX5_state 22 = .ok (.invokestatic 33, 3) := by decide +kernel
theorem dX5_state_25 : decode cX5_state 25 = .ok (.ifCond .eq 13, 3) := by decide +kernel
theorem dX5_state_28 : decode cX5_state 28 = .ok (.aload_n 0, 1) := by decide +kernel
theorem dX5_state_29 : decode cX5_state 29 = .ok (.getfield 7, 3) := by decide +kernel
theorem dX5_state_32 : decode cX5_state 32 = .ok (.iload_n 1, 1) := by decide +kernel
theorem dX5_state_33 : decode cX5_state 33 = .ok (.bipush 13, 2) := by decide +kernel
theorem dX5_state_35 : decode cX5_state 35 = .ok (.isub, 1) := by decide +kernel
theorem dX5_state_36 : decode cX5_state 36 = .ok (.iaload, 1) := by decide +kernel
theorem dX5_state_37 : decode cX5_state 37 = .ok (.ireturn, 1) := by decide +kernel
theorem dX5_state_38 : decode cX5_state 38 = .ok (.iload_n 1, 1) := by decide +kernel
theorem dX5_state_39 : decode cX5_state 39 = .ok (.tableswitch 151 0 12 #[65, 65, 65, 65, 75, 97, 97, 97, 97, 117, 125, 133, 146], 65) := by decide +kernel
theorem dX5_state_104 : decode cX5_state 104 = .ok (.aload_n 0, 1) := by decide +kernel
theorem dX5_state_105 : decode cX5_state 105 = .ok (.getfield 7, 3) := by decide +kernel
theorem dX5_state_108 : decode cX5_state 108 = .ok (.bipush 8, 2) := by decide +kernel
theorem dX5_state_110 : decode cX5_state 110 = .ok (.iload_n 1, 1) := by decide +kernel
theorem dX5_state_111 : decode cX5_state 111 = .ok (.iadd, 1) := by decide +kernel
theorem dX5_state_112 : decode cX5_state 112 = .ok (.iaload, 1) := by decide +kernel
theorem dX5_state_113 : decode cX5_state 113 = .ok (.ireturn, 1) := by decide +kernel
theorem dX5_state_114 : decode cX5_state 114 = .ok (.aload_n 0, 1) := by decide +kernel
theorem dX5_state_115 : decode cX5_state 115 = .ok (.getfield 7, 3) := by decide +kernel
theorem dX5_state_118 : decode cX5_state 118 = .ok (.bipush 9, 2) := by decide +kernel
theorem dX5_state_120 : decode cX5_state 120 = .ok (.iaload, 1) := by decide +kernel
theorem dX5_state_121 : decode cX5_state 121 = .ok (.ifCond .ne 13, 3) := by decide +kernel
theorem dX5_state_124 : decode cX5_state 124 = .ok (.aload_n 0, 1) := by decide +kernel
theorem dX5_state_125 : decode cX5_state 125 = .ok (.getfield 7, 3) := by decide +kernel
theorem dX5_state_128 : decode cX5_state 128 = .ok (.bipush 12, 2) := by decide +kernel
theorem dX5_state_130 : decode cX5_state 130 = .ok (.iaload, 1) := by decide +kernel
theorem dX5_state_131 : decode cX5_state 131 = .ok (.goto 4, 3) := by decide +kernel
theorem dX5_state_134 : decode cX5_state 134 = .ok (.iconst 0, 1) := by decide +kernel
theorem dX5_state_135 : decode cX5_state 135 = .ok (.ireturn, 1) := by decide +kernel
theorem dX5_state_136 : decode cX5_state 136 = .ok (.iload_n 2, 1) := by decide +kernel
theorem dX5_state_137 : decode cX5_state 137 = .ok (.ifCond .eq 17, 3) := by decide +kernel
theorem dX5_state_140 : decode cX5_state 140 = .ok (.aload_n 0, 1) := by decide +kernel
theorem dX5_state_141 : decode cX5_state 141 = .ok (.getfield 7, 3) := by decide +kernel
theorem dX5_state_144 : decode cX5_state 144 = .ok (.bipush 13, 2) := by decide +kernel
theorem dX5_state_146 : decode cX5_state 146 = .ok (.iload_n 1, 1) := by decide +kernel
theorem dX5_state_147 : decode cX5_state 147 = .ok (.iadd, 1) := by decide +kernel
theorem dX5_state_148 : decode cX5_state 148 = .ok (.iconst 5, 1) := by decide +kernel
theorem dX5_state_149 : decode cX5_state 149 = .ok (.isub, 1) := by decide +kernel
theorem dX5_state_150 : decode cX5_state 150 = .ok (.iaload, 1) := by decide +kernel
theorem dX5_state_151 : decode cX5_state 151 = .ok (.goto 4, 3) := by decide +kernel
theorem dX5_state_154 : decode cX5_state 154 = .ok (.iconst 0, 1) := by decide +kernel
theorem dX5_state_155 : decode cX5_state 155 = .ok (.ireturn, 1) := by decide +kernel
theorem dX5_state_156 : decode cX5_state 156 = .ok (.aload_n 0, 1) := by decide +kernel
theorem dX5_state_157 : decode cX5_state 157 = .ok (.getfield 7, 3) := by decide +kernel
theorem dX5_state_160 : decode cX5_state 160 = .ok (.bipush 18, 2) := by decide +kernel
theorem dX5_state_162 : decode cX5_state 162 = .ok (.iaload, 1) := by decide +kernel
theorem dX5_state_163 : decode cX5_state 163 = .ok (.ireturn, 1) := by decide +kernel
theorem dX5_state_164 : decode cX5_state 164 = .ok (.aload_n 0, 1) := by decide +kernel
theorem dX5_state_165 : decode cX5_state 165 = .ok (.getfield 7, 3) := by decide +kernel
theorem dX5_state_168 : decode cX5_state 168 = .ok (.bipush 17, 2) := by decide +kernel
theorem dX5_state_170 : decode cX5_state 170 = .ok (.iaload, 1) := by decide +kernel
theorem dX5_state_171 : decode cX5_state 171 = .ok (.ireturn, 1) := by decide +kernel
theorem dX5_state_172 : decode cX5_state 172 = .ok (.iload_n 2, 1) := by decide +kernel
theorem dX5_state_173 : decode cX5_state 173 = .ok (.ifCond .eq 10, 3) := by decide +kernel
theorem dX5_state_176 : decode cX5_state 176 = .ok (.aload_n 0, 1) := by decide +kernel
theorem dX5_state_177 : decode cX5_state 177 = .ok (.invokevirtual 141, 3) := by decide +kernel
theorem dX5_state_180 : decode cX5_state 180 = .ok (.goto 4, 3) := by decide +kernel
theorem dX5_state_183 : decode cX5_state 183 = .ok (.iconst 0, 1) := by decide +kernel
theorem dX5_state_184 : decode cX5_state 184 = .ok (.ireturn, 1) := by decide +kernel
theorem dX5_state_185 : decode cX5_state 185 = .ok (.aload_n 0, 1) := by decide +kernel
theorem dX5_state_186 : decode cX5_state 186 = .ok (.getfield 61, 3) := by decide +kernel
theorem dX5_state_189 : decode cX5_state 189 = .ok (.ireturn, 1) := by decide +kernel
theorem dX5_state_190 : decode cX5_state 190 = .ok (.bipush (-2), 2) := by decide +kernel
theorem dX5_state_192 : decode cX5_state 192 = .ok (.ireturn, 1) := by decide +kernel
theorem dX5_ofJob_0 : decode cX5_ofJob 0 = .ok (.iload_n 2, 1) := by decide +kernel
theorem dX5_ofJob_1 : decode cX5_ofJob 1 = .ok (.tableswitch 100 8 12 #[35, 43, 76, 84, 92], 35) := by decide +kernel
theorem dX5_ofJob_36 : decode cX5_ofJob 36 = .ok (.aload_n 0, 1) := by decide +kernel
theorem dX5_ofJob_37 : decode cX5_ofJob 37 = .ok (.iload_n 1, 1) := by decide +kernel
theorem dX5_ofJob_38 : decode cX5_ofJob 38 = .ok (.bipush 8, 2) := by decide +kernel
theorem dX5_ofJob_40 : decode cX5_ofJob 40 = .ok (.invokevirtual 52, 3) := by decide +kernel
theorem dX5_ofJob_43 : decode cX5_ofJob 43 = .ok (.ireturn, 1) := by decide +kernel
theorem dX5_ofJob_44 : decode cX5_ofJob 44 = .ok (.aload_n 0, 1) := by decide +kernel
theorem dX5_ofJob_45 : decode cX5_ofJob 45 = .ok (.iload_n 1, 1) := by decide +kernel
theorem dX5_ofJob_46 : decode cX5_ofJob 46 = .ok (.bipush 8, 2) := by decide +kernel
theorem dX5_ofJob_48 : decode cX5_ofJob 48 = .ok (.invokevirtual 52, 3) := by decide +kernel
theorem dX5_ofJob_51 : decode cX5_ofJob 51 = .ok (.iconst 1, 1) := by decide +kernel
theorem dX5_ofJob_52 : decode cX5_ofJob 52 = .ok (.if_icmp .ne 23, 3) := by decide +kernel
theorem dX5_ofJob_55 : decode cX5_ofJob 55 = .ok (.aload_n 0, 1) := by decide +kernel
theorem dX5_ofJob_56 : decode cX5_ofJob 56 = .ok (.iload_n 1, 1) := by decide +kernel
theorem dX5_ofJob_57 : decode cX5_ofJob 57 = .ok (.bipush 11, 2) := by decide +kernel
theorem dX5_ofJob_59 : decode cX5_ofJob 59 = .ok (.invokevirtual 52, 3) := by decide +kernel
theorem dX5_ofJob_62 : decode cX5_ofJob 62 = .ok (.ifCond .ne 13, 3) := by decide +kernel
theorem dX5_ofJob_65 : decode cX5_ofJob 65 = .ok (.aload_n 0, 1) := by decide +kernel
theorem dX5_ofJob_66 : decode cX5_ofJob 66 = .ok (.iload_n 1, 1) := by decide +kernel
theorem dX5_ofJob_67 : decode cX5_ofJob 67 = .ok (.bipush 9, 2) := by decide +kernel
theorem dX5_ofJob_69 : decode cX5_ofJob 69 = .ok (.invokevirtual 52, 3) := by decide +kernel
theorem dX5_ofJob_72 : decode cX5_ofJob 72 = .ok (.goto 4, 3) := by decide +kernel
theorem dX5_ofJob_75 : decode cX5_ofJob 75 = .ok (.iconst 0, 1) := by decide +kernel
theorem dX5_ofJob_76 : decode cX5_ofJob 76 = .ok (.ireturn, 1) := by decide +kernel
theorem dX5_ofJob_77 : decode cX5_ofJob 77 = .ok (.aload_n 0, 1) := by decide +kernel
theorem dX5_ofJob_78 : decode cX5_ofJob 78 = .ok (.iload_n 1, 1) := by decide +kernel
theorem dX5_ofJob_79 : decode cX5_ofJob 79 = .ok (.bipush 12, 2) := by decide +kernel
theorem dX5_ofJob_81 : decode cX5_ofJob 81 = .ok (.invokevirtual 52, 3) := by decide +kernel
theorem dX5_ofJob_84 : decode cX5_ofJob 84 = .ok (.ireturn, 1) := by decide +kernel
theorem dX5_ofJob_85 : decode cX5_ofJob 85 = .ok (.aload_n 0, 1) := by decide +kernel
theorem dX5_ofJob_86 : decode cX5_ofJob 86 = .ok (.iload_n 1, 1) := by decide +kernel
theorem dX5_ofJob_87 : decode cX5_ofJob 87 = .ok (.bipush 13, 2) := by decide +kernel
theorem dX5_ofJob_89 : decode cX5_ofJob 89 = .ok (.invokevirtual 52, 3) := by decide +kernel
theorem dX5_ofJob_92 : decode cX5_ofJob 92 = .ok (.ireturn, 1) := by decide +kernel
theorem dX5_ofJob_93 : decode cX5_ofJob 93 = .ok (.aload_n 0, 1) := by decide +kernel
theorem dX5_ofJob_94 : decode cX5_ofJob 94 = .ok (.iload_n 1, 1) := by decide +kernel
theorem dX5_ofJob_95 : decode cX5_ofJob 95 = .ok (.bipush 14, 2) := by decide +kernel
theorem dX5_ofJob_97 : decode cX5_ofJob 97 = .ok (.invokevirtual 52, 3) := by decide +kernel
theorem dX5_ofJob_100 : decode cX5_ofJob 100 = .ok (.ireturn, 1) := by decide +kernel
theorem dX5_ofJob_101 : decode cX5_ofJob 101 = .ok (.aload_n 0, 1) := by decide +kernel
theorem dX5_ofJob_102 : decode cX5_ofJob 102 = .ok (.iload_n 1, 1) := by decide +kernel
theorem dX5_ofJob_103 : decode cX5_ofJob 103 = .ok (.bipush 15, 2) := by decide +kernel
theorem dX5_ofJob_105 : decode cX5_ofJob 105 = .ok (.invokevirtual 52, 3) := by decide +kernel
theorem dX5_ofJob_108 : decode cX5_ofJob 108 = .ok (.ireturn, 1) := by decide +kernel
theorem dX5_task_0 : decode cX5_task 0 = .ok (.aload_n 0, 1) := by decide +kernel
theorem dX5_task_1 : decode cX5_task 1 = .ok (.iload_n 1, 1) := by decide +kernel
theorem dX5_task_2 : decode cX5_task 2 = .ok (.invokevirtual 45, 3) := by decide +kernel
theorem dX5_task_5 : decode cX5_task 5 = .ok (.ifCond .ne 5, 3) := by decide +kernel
theorem dX5_task_8 : decode cX5_task 8 = .ok (.iconst (-1), 1) := by decide +kernel
theorem dX5_task_9 : decode cX5_task 9 = .ok (.ireturn, 1) := by decide +kernel
theorem dX5_task_10 : decode cX5_task 10 = .ok (.iload_n 2, 1) := by decide +kernel
theorem dX5_task_11 : decode cX5_task 11 = .ok (.iconst 0, 1) := by decide +kernel
theorem dX5_task_12 : decode cX5_task 12 = .ok (.bipush 7, 2) := by decide +kernel
theorem dX5_task_14 : decode cX5_task 14 = .ok (.invokestatic 33, 3) := by decide +kernel
theorem dX5_task_17 : decode cX5_task 17 = .ok (.ifCond .eq 10, 3) := by decide +kernel
theorem dX5_task_20 : decode cX5_task 20 = .ok (.aload_n 0, 1) := by decide +kernel
theorem dX5_task_21 : decode cX5_task 21 = .ok (.iload_n 1, 1) := by decide +kernel
theorem dX5_task_22 : decode cX5_task 22 = .ok (.iload_n 2, 1) := by decide +kernel
theorem dX5_task_23 : decode cX5_task 23 = .ok (.invokevirtual 52, 3) := by decide +kernel
theorem dX5_task_26 : decode cX5_task 26 = .ok (.ireturn, 1) := by decide +kernel
theorem dX5_task_27 : decode cX5_task 27 = .ok (.iload_n 2, 1) := by decide +kernel
theorem dX5_task_28 : decode cX5_task 28 = .ok (.bipush 8, 2) := by decide +kernel
theorem dX5_task_30 : decode cX5_task 30 = .ok (.bipush 13, 2) := by decide +kernel
theorem dX5_task_32 : decode cX5_task 32 = .ok (.invokestatic 33, 3) := by decide +kernel
theorem dX5_task_35 : decode cX5_task 35 = .ok (.ifCond .eq 25, 3) := by decide +kernel
theorem dX5_task_38 : decode cX5_task 38 = .ok (.aload_n 0, 1) := by decide +kernel
theorem dX5_task_39 : decode cX5_task 39 = .ok (.getfield 7, 3) := by decide +kernel
theorem dX5_task_42 : decode cX5_task 42 = .ok (.bipush 9, 2) := by decide +kernel
theorem dX5_task_44 : decode cX5_task 44 = .ok (.iaload, 1) := by decide +kernel
theorem dX5_task_45 : decode cX5_task 45 = .ok (.iconst 1, 1) := by decide +kernel
theorem dX5_task_46 : decode cX5_task 46 = .ok (.if_icmp .ne 12, 3) := by decide +kernel
theorem dX5_task_49 : decode cX5_task 49 = .ok (.aload_n 0, 1) := by decide +kernel
theorem dX5_task_50 : decode cX5_task 50 = .ok (.iload_n 1, 1) := by decide +kernel
theorem dX5_task_51 : decode cX5_task 51 = .ok (.iload_n 2, 1) := by decide +kernel
theorem dX5_task_52 : decode cX5_task 52 = .ok (.invokevirtual 144, 3) := by decide +kernel
theorem dX5_task_55 : decode cX5_task 55 = .ok (.goto 4, 3) := by decide +kernel
theorem dX5_task_58 : decode cX5_task 58 = .ok (.iconst 0, 1) := by decide +kernel
theorem dX5_task_59 : decode cX5_task 59 = .ok (.ireturn, 1) := by decide +kernel
theorem dX5_task_60 : decode cX5_task 60 = .ok (.iload_n 2, 1) := by decide +kernel
theorem dX5_task_61 : decode cX5_task 61 = .ok (.tableswitch 91 14 18 #[35, 43, 51, 59, 83], 35) := by decide +kernel
theorem dX5_task_96 : decode cX5_task 96 = .ok (.aload_n 0, 1) := by decide +kernel
theorem dX5_task_97 : decode cX5_task 97 = .ok (.iload_n 1, 1) := by decide +kernel
theorem dX5_task_98 : decode cX5_task 98 = .ok (.bipush 20, 2) := by decide +kernel
theorem dX5_task_100 : decode cX5_task 100 = .ok (.invokevirtual 52, 3) := by decide +kernel
theorem dX5_task_103 : decode cX5_task 103 = .ok (.ireturn, 1) := by decide +kernel
theorem dX5_task_104 : decode cX5_task 104 = .ok (.aload_n 0, 1) := by decide +kernel
theorem dX5_task_105 : decode cX5_task 105 = .ok (.iload_n 1, 1) := by decide +kernel
theorem dX5_task_106 : decode cX5_task 106 = .ok (.bipush 23, 2) := by decide +kernel
theorem dX5_task_108 : decode cX5_task 108 = .ok (.invokevirtual 52, 3) := by decide +kernel
theorem dX5_task_111 : decode cX5_task 111 = .ok (.ireturn, 1) := by decide +kernel
theorem dX5_task_112 : decode cX5_task 112 = .ok (.aload_n 0, 1) := by decide +kernel
theorem dX5_task_113 : decode cX5_task 113 = .ok (.iload_n 1, 1) := by decide +kernel
theorem dX5_task_114 : decode cX5_task 114 = .ok (.bipush 16, 2) := by decide +kernel
theorem dX5_task_116 : decode cX5_task 116 = .ok (.invokevirtual 52, 3) := by decide +kernel
theorem dX5_task_119 : decode cX5_task 119 = .ok (.ireturn, 1) := by decide +kernel
theorem dX5_task_120 : decode cX5_task 120 = .ok (.aload_n 0, 1) := by decide +kernel
theorem dX5_task_121 : decode cX5_task 121 = .ok (.iload_n 1, 1) := by decide +kernel
theorem dX5_task_122 : decode cX5_task 122 = .ok (.bipush 17, 2) := by decide +kernel
theorem dX5_task_124 : decode cX5_task 124 = .ok (.invokevirtual 52, 3) := by decide +kernel
theorem dX5_task_127 : decode cX5_task 127 = .ok (.iconst 1, 1) := by decide +kernel
theorem dX5_task_128 : decode cX5_task 128 = .ok (.if_icmp .ne 13, 3) := by decide +kernel
theorem dX5_task_131 : decode cX5_task 131 = .ok (.aload_n 0, 1) := by decide +kernel
theorem dX5_task_132 : decode cX5_task 132 = .ok (.iload_n 1, 1) := by decide +kernel
theorem dX5_task_133 : decode cX5_task 133 = .ok (.bipush 18, 2) := by decide +kernel
theorem dX5_task_135 : decode cX5_task 135 = .ok (.invokevirtual 52, 3) := by decide +kernel
theorem dX5_task_138 : decode cX5_task 138 = .ok (.goto 5, 3) := by decide +kernel
theorem dX5_task_141 : decode cX5_task 141 = .ok (.bipush (-6), 2) := by decide +kernel
theorem dX5_task_143 : decode cX5_task 143 = .ok (.ireturn, 1) := by decide +kernel
theorem dX5_task_144 : decode cX5_task 144 = .ok (.aload_n 0, 1) := by decide +kernel
theorem dX5_task_145 : decode cX5_task 145 = .ok (.iload_n 1, 1) := by decide +kernel
theorem dX5_task_146 : decode cX5_task 146 = .ok (.bipush 19, 2) := by decide +kernel
theorem dX5_task_148 : decode cX5_task 148 = .ok (.invokevirtual 52, 3) := by decide +kernel
theorem dX5_task_151 : decode cX5_task 151 = .ok (.ireturn, 1) := by decide +kernel
theorem dX5_task_152 : decode cX5_task 152 = .ok (.bipush (-2), 2) := by decide +kernel
theorem dX5_task_154 : decode cX5_task 154 = .ok (.ireturn, 1) := by decide +kernel
theorem dX5_record_0 : decode cX5_record 0 = .ok (.iload_n 2, 1) := by decide +kernel
theorem dX5_record_1 : decode cX5_record 1 = .ok (.iconst 0, 1) := by decide +kernel
theorem dX5_record_2 : decode cX5_record 2 = .ok (.iconst 4, 1) := by decide +kernel
theorem dX5_record_3 : decode cX5_record 3 = .ok (.invokestatic 33, 3) := by decide +kernel
theorem dX5_record_6 : decode cX5_record 6 = .ok (.ifCond .ne 6, 3) := by decide +kernel
theorem dX5_record_9 : decode cX5_record 9 = .ok (.bipush (-2), 2) := by decide +kernel
theorem dX5_record_11 : decode cX5_record 11 = .ok (.ireturn, 1) := by decide +kernel
theorem dX5_record_12 : decode cX5_record 12 = .ok (.iload_n 1, 1) := by decide +kernel
theorem dX5_record_13 : decode cX5_record 13 = .ok (.iconst 0, 1) := by decide +kernel
theorem dX5_record_14 : decode cX5_record 14 = .ok (.aload_n 0, 1) := by decide +kernel
theorem dX5_record_15 : decode cX5_record 15 = .ok (.getfield 7, 3) := by decide +kernel
theorem dX5_record_18 : decode cX5_record 18 = .ok (.bipush 18, 2) := by decide +kernel
theorem dX5_record_20 : decode cX5_record 20 = .ok (.iaload, 1) := by decide +kernel
theorem dX5_record_21 : decode cX5_record 21 = .ok (.iconst 1, 1) := by decide +kernel
theorem dX5_record_22 : decode cX5_record 22 = .ok (.isub, 1) := by decide +kernel
theorem dX5_record_23 : decode cX5_record 23 = .ok (.invokestatic 33, 3) := by decide +kernel
theorem dX5_record_26 : decode cX5_record 26 = .ok (.ifCond .eq 17, 3) := by decide +kernel
theorem dX5_record_29 : decode cX5_record 29 = .ok (.iload_n 1, 1) := by decide +kernel
theorem dX5_record_30 : decode cX5_record 30 = .ok (.aload_n 0, 1) := by decide +kernel
theorem dX5_record_31 : decode cX5_record 31 = .ok (.getfield 7, 3) := by decide +kernel
theorem dX5_record_34 : decode cX5_record 34 = .ok (.bipush 18, 2) := by decide +kernel
theorem dX5_record_36 : decode cX5_record 36 = .ok (.iaload, 1) := by decide +kernel
theorem dX5_record_37 : decode cX5_record 37 = .ok (.bipush 16, 2) := by decide +kernel
theorem dX5_record_39 : decode cX5_record 39 = .ok (.isub, 1) := by decide +kernel
theorem dX5_record_40 : decode cX5_record 40 = .ok (.if_icmp .ge 6, 3) := by decide +kernel
theorem dX5_record_43 : decode cX5_record 43 = .ok (.bipush (-6), 2) := by decide +kernel
theorem dX5_record_45 : decode cX5_record 45 = .ok (.ireturn, 1) := by decide +kernel
theorem dX5_record_46 : decode cX5_record 46 = .ok (.aload_n 0, 1) := by decide +kernel
theorem dX5_record_47 : decode cX5_record 47 = .ok (.getfield 7, 3) := by decide +kernel
theorem dX5_record_50 : decode cX5_record 50 = .ok (.sipush 175, 3) := by decide +kernel
theorem dX5_record_53 : decode cX5_record 53 = .ok (.iconst 5, 1) := by decide +kernel
theorem dX5_record_54 : decode cX5_record 54 = .ok (.iload_n 1, 1) := by decide +kernel
theorem dX5_record_55 : decode cX5_record 55 = .ok (.bipush 16, 2) := by decide +kernel
theorem dX5_record_57 : decode cX5_record 57 = .ok (.irem, 1) := by decide +kernel
theorem dX5_record_58 : decode cX5_record 58 = .ok (.imul, 1) := by decide +kernel
theorem dX5_record_59 : decode cX5_record 59 = .ok (.iadd, 1) := by decide +kernel
theorem dX5_record_60 : decode cX5_record 60 = .ok (.iload_n 2, 1) := by decide +kernel
theorem dX5_record_61 : decode cX5_record 61 = .ok (.iadd, 1) := by decide +kernel
theorem dX5_record_62 : decode cX5_record 62 = .ok (.iaload, 1) := by decide +kernel
theorem dX5_record_63 : decode cX5_record 63 = .ok (.ireturn, 1) := by decide +kernel
theorem dX5_clear_0 : decode cX5_clear 0 = .ok (.aload_n 0, 1) := by decide +kernel
theorem dX5_clear_1 : decode cX5_clear 1 = .ok (.iload_n 1, 1) := by decide +kernel
theorem dX5_clear_2 : decode cX5_clear 2 = .ok (.invokevirtual 45, 3) := by decide +kernel
theorem dX5_clear_5 : decode cX5_clear 5 = .ok (.ifCond .ne 5, 3) := by decide +kernel
theorem dX5_clear_8 : decode cX5_clear 8 = .ok (.iconst (-1), 1) := by decide +kernel
theorem dX5_clear_9 : decode cX5_clear 9 = .ok (.ireturn, 1) := by decide +kernel
theorem dX5_clear_10 : decode cX5_clear 10 = .ok (.aload_n 0, 1) := by decide +kernel
theorem dX5_clear_11 : decode cX5_clear 11 = .ok (.iload_n 1, 1) := by decide +kernel
theorem dX5_clear_12 : decode cX5_clear 12 = .ok (.bipush 16, 2) := by decide +kernel
theorem dX5_clear_14 : decode cX5_clear 14 = .ok (.invokevirtual 52, 3) := by decide +kernel
theorem dX5_clear_17 : decode cX5_clear 17 = .ok (.istore_n 2, 1) := by decide +kernel
theorem dX5_clear_18 : decode cX5_clear 18 = .ok (.aload_n 0, 1) := by decide +kernel
theorem dX5_clear_19 : decode cX5_clear 19 = .ok (.iload_n 1, 1) := by decide +kernel
theorem dX5_clear_20 : decode cX5_clear 20 = .ok (.bipush 16, 2) := by decide +kernel
theorem dX5_clear_22 : decode cX5_clear 22 = .ok (.iconst 0, 1) := by decide +kernel
theorem dX5_clear_23 : decode cX5_clear 23 = .ok (.invokevirtual 41, 3) := by decide +kernel
theorem dX5_clear_26 : decode cX5_clear 26 = .ok (.aload_n 0, 1) := by decide +kernel
theorem dX5_clear_27 : decode cX5_clear 27 = .ok (.iload_n 1, 1) := by decide +kernel
theorem dX5_clear_28 : decode cX5_clear 28 = .ok (.bipush 17, 2) := by decide +kernel
theorem dX5_clear_30 : decode cX5_clear 30 = .ok (.iconst 0, 1) := by decide +kernel
theorem dX5_clear_31 : decode cX5_clear 31 = .ok (.invokevirtual 41, 3) := by decide +kernel
theorem dX5_clear_34 : decode cX5_clear 34 = .ok (.aload_n 0, 1) := by decide +kernel
theorem dX5_clear_35 : decode cX5_clear 35 = .ok (.iload_n 1, 1) := by decide +kernel
theorem dX5_clear_36 : decode cX5_clear 36 = .ok (.bipush 19, 2) := by decide +kernel
theorem dX5_clear_38 : decode cX5_clear 38 = .ok (.iconst 0, 1) := by decide +kernel
theorem dX5_clear_39 : decode cX5_clear 39 = .ok (.invokevirtual 41, 3) := by decide +kernel
theorem dX5_clear_42 : decode cX5_clear 42 = .ok (.iload_n 2, 1) := by decide +kernel
theorem dX5_clear_43 : decode cX5_clear 43 = .ok (.ireturn, 1) := by decide +kernel
theorem dX5_forecast_0 : decode cX5_forecast 0 = .ok (.iload_n 1, 1) := by decide +kernel
theorem dX5_forecast_1 : decode cX5_forecast 1 = .ok (.iconst 1, 1) := by decide +kernel
theorem dX5_forecast_2 : decode cX5_forecast 2 = .ok (.sipush 5000, 3) := by decide +kernel
theorem dX5_forecast_5 : decode cX5_forecast 5 = .ok (.invokestatic 33, 3) := by decide +kernel
theorem dX5_forecast_8 : decode cX5_forecast 8 = .ok (.ifCond .ne 6, 3) := by decide +kernel
theorem dX5_forecast_11 : decode cX5_forecast 11 = .ok (.bipush (-2), 2) := by decide +kernel
theorem dX5_forecast_13 : decode cX5_forecast 13 = .ok (.ireturn, 1) := by decide +kernel
theorem dX5_forecast_14 : decode cX5_forecast 14 = .ok (.aload_n 0, 1) := by decide +kernel
theorem dX5_forecast_15 : decode cX5_forecast 15 = .ok (.invokevirtual 147, 3) := by decide +kernel
theorem dX5_forecast_18 : decode cX5_forecast 18 = .ok (.aload_n 0, 1) := by decide +kernel
theorem dX5_forecast_19 : decode cX5_forecast 19 = .ok (.iload_n 1, 1) := by decide +kernel
theorem dX5_forecast_20 : decode cX5_forecast 20 = .ok (.invokevirtual 135, 3) := by decide +kernel
theorem dX5_forecast_23 : decode cX5_forecast 23 = .ok (.istore_n 2, 1) := by decide +kernel
theorem dX5_forecast_24 : decode cX5_forecast 24 = .ok (.aload_n 0, 1) := by decide +kernel
theorem dX5_forecast_25 : decode cX5_forecast 25 = .ok (.invokevirtual 150, 3) := by decide +kernel
theorem dX5_forecast_28 : decode cX5_forecast 28 = .ok (.iload_n 2, 1) := by decide +kernel
theorem dX5_forecast_29 : decode cX5_forecast 29 = .ok (.ireturn, 1) := by decide +kernel
theorem dX5_clearFaults_0 : decode cX5_clearFaults 0 = .ok (.iconst 0, 1) := by decide +kernel
theorem dX5_clearFaults_1 : decode cX5_clearFaults 1 = .ok (.istore_n 1, 1) := by decide +kernel
theorem dX5_clearFaults_2 : decode cX5_clearFaults 2 = .ok (.iload_n 1, 1) := by decide +kernel
theorem dX5_clearFaults_3 : decode cX5_clearFaults 3 = .ok (.aload_n 0, 1) := by decide +kernel
theorem dX5_clearFaults_4 : decode cX5_clearFaults 4 = .ok (.getfield 7, 3) := by decide +kernel
theorem dX5_clearFaults_7 : decode cX5_clearFaults 7 = .ok (.bipush 17, 2) := by decide +kernel
theorem dX5_clearFaults_9 : decode cX5_clearFaults 9 = .ok (.iaload, 1) := by decide +kernel
theorem dX5_clearFaults_10 : decode cX5_clearFaults 10 = .ok (.if_icmp .ge 27, 3) := by decide +kernel
theorem dX5_clearFaults_13 : decode cX5_clearFaults 13 = .ok (.aload_n 0, 1) := by decide +kernel
theorem dX5_clearFaults_14 : decode cX5_clearFaults 14 = .ok (.iconst 0, 1) := by decide +kernel
theorem dX5_clearFaults_15 : decode cX5_clearFaults 15 = .ok (.iload_n 1, 1) := by decide +kernel
theorem dX5_clearFaults_16 : decode cX5_clearFaults 16 = .ok (.iconst 0, 1) := by decide +kernel
theorem dX5_clearFaults_17 : decode cX5_clearFaults 17 = .ok (.iconst 0, 1) := by decide +kernel
theorem dX5_clearFaults_18 : decode cX5_clearFaults 18 = .ok (.iconst 0, 1) := by decide +kernel
theorem dX5_clearFaults_19 : decode cX5_clearFaults 19 = .ok (.invokevirtual 55, 3) := by decide +kernel
theorem dX5_clearFaults_22 : decode cX5_clearFaults 22 = .ok (.aload_n 0, 1) := by decide +kernel
theorem dX5_clearFaults_23 : decode cX5_clearFaults 23 = .ok (.iconst 1, 1) := by decide +kernel
theorem dX5_clearFaults_24 : decode cX5_clearFaults 24 = .ok (.iload_n 1, 1) := by decide +kernel
theorem dX5_clearFaults_25 : decode cX5_clearFaults 25 = .ok (.iconst 0, 1) := by decide +kernel
theorem dX5_clearFaults_26 : decode cX5_clearFaults 26 = .ok (.iconst 0, 1) := by decide +kernel
theorem dX5_clearFaults_27 : decode cX5_clearFaults 27 = .ok (.iconst 0, 1) := by decide +kernel
theorem dX5_clearFaults_28 : decode cX5_clearFaults 28 = .ok (.invokevirtual 55, 3) := by decide +kernel
theorem dX5_clearFaults_31 : decode cX5_clearFaults 31 = .ok (.iinc 1 1, 3) := by decide +kernel
theorem dX5_clearFaults_34 : decode cX5_clearFaults 34 = .ok (.goto (-32), 3) := by decide +kernel
theorem dX5_clearFaults_37 : decode cX5_clearFaults 37 = .ok (.return_, 1) := by decide +kernel
theorem dX5_worstHang_0 : decode cX5_worstHang 0 = .ok (.aload_n 0, 1) := by decide +kernel
theorem dX5_worstHang_1 : decode cX5_worstHang 1 = .ok (.iload_n 1, 1) := by decide +kernel
theorem dX5_worstHang_2 : decode cX5_worstHang 2 = .ok (.invokevirtual 45, 3) := by decide +kernel
theorem dX5_worstHang_5 : decode cX5_worstHang 5 = .ok (.ifCond .ne 5, 3) := by decide +kernel
theorem dX5_worstHang_8 : decode cX5_worstHang 8 = .ok (.iconst (-1), 1) := by decide +kernel
theorem dX5_worstHang_9 : decode cX5_worstHang 9 = .ok (.ireturn, 1) := by decide +kernel
theorem dX5_worstHang_10 : decode cX5_worstHang 10 = .ok (.iload_n 2, 1) := by decide +kernel
theorem dX5_worstHang_11 : decode cX5_worstHang 11 = .ok (.iconst 1, 1) := by decide +kernel
theorem dX5_worstHang_12 : decode cX5_worstHang 12 = .ok (.sipush 4000, 3) := by decide +kernel
theorem dX5_worstHang_15 : decode cX5_worstHang 15 = .ok (.invokestatic 33, 3) := by decide +kernel
theorem dX5_worstHang_18 : decode cX5_worstHang 18 = .ok (.ifCond .eq 25, 3) := by decide +kernel
theorem dX5_worstHang_21 : decode cX5_worstHang 21 = .ok (.iload_n 3, 1) := by decide +kernel
theorem dX5_worstHang_22 : decode cX5_worstHang 22 = .ok (.iconst 1, 1) := by decide +kernel
theorem dX5_worstHang_23 : decode cX5_worstHang 23 = .ok (.bipush 60, 2) := by decide +kernel
theorem dX5_worstHang_25 : decode cX5_worstHang 25 = .ok (.invokestatic 33, 3) := by decide +kernel
theorem dX5_worstHang_28 : decode cX5_worstHang 28 = .ok (.ifCond .eq 15, 3) := by decide +kernel
theorem dX5_worstHang_31 : decode cX5_worstHang 31 = .ok (.iload 4, 2) := by decide +kernel
theorem dX5_worstHang_33 : decode cX5_worstHang 33 = .ok (.iconst 1, 1) := by decide +kernel
theorem dX5_worstHang_34 : decode cX5_worstHang 34 = .ok (.sipush 5000, 3) := by decide +kernel
theorem dX5_worstHang_37 : decode cX5_worstHang 37 = .ok (.invokestatic 33, 3) := by decide +kernel
theorem dX5_worstHang_40 : decode cX5_worstHang 40 = .ok (.ifCond .ne 6, 3) := by decide +kernel
theorem dX5_worstHang_43 : decode cX5_worstHang 43 = .ok (.bipush (-2), 2) := by decide +kernel
theorem dX5_worstHang_45 : decode cX5_worstHang 45 = .ok (.ireturn, 1) := by decide +kernel
theorem dX5_worstHang_46 : decode cX5_worstHang 46 = .ok (.aload_n 0, 1) := by decide +kernel
theorem dX5_worstHang_47 : decode cX5_worstHang 47 = .ok (.invokevirtual 147, 3) := by decide +kernel
theorem dX5_worstHang_50 : decode cX5_worstHang 50 = .ok (.ldc 153, 2) := by decide +kernel
theorem dX5_worstHang_52 : decode cX5_worstHang 52 = .ok (.istore 5, 2) := by decide +kernel
theorem dX5_worstHang_54 : decode cX5_worstHang 54 = .ok (.iconst 1, 1) := by decide +kernel
theorem dX5_worstHang_55 : decode cX5_worstHang 55 = .ok (.istore 6, 2) := by decide +kernel
theorem dX5_worstHang_57 : decode cX5_worstHang 57 = .ok (.iload_n 2, 1) := by decide +kernel
theorem dX5_worstHang_58 : decode cX5_worstHang 58 = .ok (.istore 7, 2) := by decide +kernel
theorem dX5_worstHang_60 : decode cX5_worstHang 60 = .ok (.iload 7, 2) := by decide +kernel
theorem dX5_worstHang_62 : decode cX5_worstHang 62 = .ok (.iload_n 2, 1) := by decide +kernel
theorem dX5_worstHang_63 : decode cX5_worstHang 63 = .ok (.iload_n 3, 1) := by decide +kernel
theorem dX5_worstHang_64 : decode cX5_worstHang 64 = .ok (.iadd, 1) := by decide +kernel
theorem dX5_worstHang_65 : decode cX5_worstHang 65 = .ok (.if_icmp .ge 107, 3) := by decide +kernel
theorem dX5_worstHang_68 : decode cX5_worstHang 68 = .ok (.iload 6, 2) := by decide +kernel
theorem dX5_worstHang_70 : decode cX5_worstHang 70 = .ok (.ifCond .eq 102, 3) := by decide +kernel
theorem dX5_worstHang_73 : decode cX5_worstHang 73 = .ok (.aload_n 0, 1) := by decide +kernel
theorem dX5_worstHang_74 : decode cX5_worstHang 74 = .ok (.invokevirtual 150, 3) := by decide +kernel
theorem dX5_worstHang_77 : decode cX5_worstHang 77 = .ok (.aload_n 0, 1) := by decide +kernel
theorem dX5_worstHang_78 : decode cX5_worstHang 78 = .ok (.invokevirtual 154, 3) := by decide +kernel
theorem dX5_worstHang_81 : decode cX5_worstHang 81 = .ok (.aload_n 0, 1) := by decide +kernel
theorem dX5_worstHang_82 : decode cX5_worstHang 82 = .ok (.iconst 0, 1) := by decide +kernel
theorem dX5_worstHang_83 : decode cX5_worstHang 83 = .ok (.iload_n 1, 1) := by decide +kernel
theorem dX5_worstHang_84 : decode cX5_worstHang 84 = .ok (.iconst 1, 1) := by decide +kernel
theorem dX5_worstHang_85 : decode cX5_worstHang 85 = .ok (.iload 7, 2) := by decide +kernel
theorem dX5_worstHang_87 : decode cX5_worstHang 87 = .ok (.iconst 0, 1) := by decide +kernel
theorem dX5_worstHang_88 : decode cX5_worstHang 88 = .ok (.invokevirtual 55, 3) := by decide +kernel
theorem dX5_worstHang_91 : decode cX5_worstHang 91 = .ok (.aload_n 0, 1) := by decide +kernel
theorem dX5_worstHang_92 : decode cX5_worstHang 92 = .ok (.invokevirtual 138, 3) := by decide +kernel
theorem dX5_worstHang_95 : decode cX5_worstHang 95 = .ok (.aload_n 0, 1) := by decide +kernel
theorem dX5_worstHang_96 : decode cX5_worstHang 96 = .ok (.iload 4, 2) := by decide +kernel
theorem dX5_worstHang_98 : decode cX5_worstHang 98 = .ok (.invokevirtual 135, 3) := by decide +kernel
theorem dX5_worstHang_101 : decode cX5_worstHang 101 = .ok (.ifCond .le 7, 3) := by decide +kernel
theorem dX5_worstHang_104 : decode cX5_worstHang 104 = .ok (.iconst 1, 1) := by decide +kernel
theorem dX5_worstHang_105 : decode cX5_worstHang 105 = .ok (.goto 4, 3) := by decide +kernel
theorem dX5_worstHang_108 : decode cX5_worstHang 108 = .ok (.iconst 0, 1) := by decide +kernel
theorem dX5_worstHang_109 : decode cX5_worstHang 109 = .ok (.istore 6, 2) := by decide +kernel
theorem dX5_worstHang_111 : decode cX5_worstHang 111 = .ok (.iload 6, 2) := by decide +kernel
theorem dX5_worstHang_113 : decode cX5_worstHang 113 = .ok (.ifCond .eq 34, 3) := by decide +kernel
theorem dX5_worstHang_116 : decode cX5_worstHang 116 = .ok (.aload_n 0, 1) := by decide +kernel
theorem dX5_worstHang_117 : decode cX5_worstHang 117 = .ok (.getfield 7, 3) := by decide +kernel
theorem dX5_worstHang_120 : decode cX5_worstHang 120 = .ok (.sipush 175, 3) := by decide +kernel
theorem dX5_worstHang_123 : decode cX5_worstHang 123 = .ok (.iconst 5, 1) := by decide +kernel
theorem dX5_worstHang_124 : decode cX5_worstHang 124 = .ok (.aload_n 0, 1) := by decide +kernel
theorem dX5_worstHang_125 : decode cX5_worstHang 125 = .ok (.getfield 7, 3) := by decide +kernel
theorem dX5_worstHang_128 : decode cX5_worstHang 128 = .ok (.bipush 18, 2) := by decide +kernel
theorem dX5_worstHang_130 : decode cX5_worstHang 130 = .ok (.iaload, 1) := by decide +kernel
theorem dX5_worstHang_131 : decode cX5_worstHang 131 = .ok (.iconst 1, 1) := by decide +kernel
theorem dX5_worstHang_132 : decode cX5_worstHang 132 = .ok (.isub, 1) := by decide +kernel
theorem dX5_worstHang_133 : decode cX5_worstHang 133 = .ok (.bipush 16, 2) := by decide +kernel
theorem dX5_worstHang_135 : decode cX5_worstHang 135 = .ok (.irem, 1) := by decide +kernel
theorem dX5_worstHang_136 : decode cX5_worstHang 136 = .ok (.imul, 1) := by decide +kernel
theorem dX5_worstHang_137 : decode cX5_worstHang 137 = .ok (.iadd, 1) := by decide +kernel
theorem dX5_worstHang_138 : decode cX5_worstHang 138 = .ok (.iconst 4, 1) := by decide +kernel
theorem dX5_worstHang_139 : decode cX5_worstHang 139 = .ok (.iadd, 1) := by decide +kernel
theorem dX5_worstHang_140 : decode cX5_worstHang 140 = .ok (.iaload, 1) := by decide +kernel
theorem dX5_worstHang_141 : decode cX5_worstHang 141 = .ok (.iload 7, 2) := by decide +kernel
theorem dX5_worstHang_143 : decode cX5_worstHang 143 = .ok (.isub, 1) := by decide +kernel
theorem dX5_worstHang_144 : decode cX5_worstHang 144 = .ok (.goto 4, 3) := by decide +kernel
theorem dX5_worstHang_147 : decode cX5_worstHang 147 = .ok (.iconst 0, 1) := by decide +kernel
theorem dX5_worstHang_148 : decode cX5_worstHang 148 = .ok (.istore 8, 2) := by decide +kernel
theorem dX5_worstHang_150 : decode cX5_worstHang 150 = .ok (.iload 8, 2) := by decide +kernel
theorem dX5_worstHang_152 : decode cX5_worstHang 152 = .ok (.iload 5, 2) := by decide +kernel
theorem dX5_worstHang_154 : decode cX5_worstHang 154 = .ok (.if_icmp .le 8, 3) := by decide +kernel
theorem dX5_worstHang_157 : decode cX5_worstHang 157 = .ok (.iload 8, 2) := by decide +kernel
theorem dX5_worstHang_159 : decode cX5_worstHang 159 = .ok (.goto 5, 3) := by decide +kernel
theorem dX5_worstHang_162 : decode cX5_worstHang 162 = .ok (.iload 5, 2) := by decide +kernel
theorem dX5_worstHang_164 : decode cX5_worstHang 164 = .ok (.istore 5, 2) := by decide +kernel
theorem dX5_worstHang_166 : decode cX5_worstHang 166 = .ok (.iinc 7 1, 3) := by decide +kernel
theorem dX5_worstHang_169 : decode cX5_worstHang 169 = .ok (.goto (-109), 3) := by decide +kernel
theorem dX5_worstHang_172 : decode cX5_worstHang 172 = .ok (.aload_n 0, 1) := by decide +kernel
theorem dX5_worstHang_173 : decode cX5_worstHang 173 = .ok (.invokevirtual 150, 3) := by decide +kernel
theorem dX5_worstHang_176 : decode cX5_worstHang 176 = .ok (.iload 6, 2) := by decide +kernel
theorem dX5_worstHang_178 : decode cX5_worstHang 178 = .ok (.ifCond .eq 8, 3) := by decide +kernel
theorem dX5_worstHang_181 : decode cX5_worstHang 181 = .ok (.iload 5, 2) := by decide +kernel
theorem dX5_worstHang_183 : decode cX5_worstHang 183 = .ok (.goto 5, 3) := by decide +kernel
theorem dX5_worstHang_186 : decode cX5_worstHang 186 = .ok (.bipush (-6), 2) := by decide +kernel
theorem dX5_worstHang_188 : decode cX5_worstHang 188 = .ok (.ireturn, 1) := by decide +kernel
theorem dX5_greatestKick_0 : decode cX5_greatestKick 0 = .ok (.iload_n 1, 1) := by decide +kernel
theorem dX5_greatestKick_1 : decode cX5_greatestKick 1 = .ok (.iconst 1, 1) := by decide +kernel
theorem dX5_greatestKick_2 : decode cX5_greatestKick 2 = .ok (.sipush 1000, 3) := by decide +kernel
theorem dX5_greatestKick_5 : decode cX5_greatestKick 5 = .ok (.invokestatic 33, 3) := by decide +kernel
theorem dX5_greatestKick_8 : decode cX5_greatestKick 8 = .ok (.ifCond .ne 6, 3) := by decide +kernel
theorem dX5_greatestKick_11 : decode cX5_greatestKick 11 = .ok (.bipush (-2), 2) := by decide +kernel
theorem dX5_greatestKick_13 : decode cX5_greatestKick 13 = .ok (.ireturn, 1) := by decide +kernel
theorem dX5_greatestKick_14 : decode cX5_greatestKick 14 = .ok (.aload_n 0, 1) := by decide +kernel
theorem dX5_greatestKick_15 : decode cX5_greatestKick 15 = .ok (.invokevirtual 147, 3) := by decide +kernel
theorem dX5_greatestKick_18 : decode cX5_greatestKick 18 = .ok (.bipush (-6), 2) := by decide +kernel
theorem dX5_greatestKick_20 : decode cX5_greatestKick 20 = .ok (.istore_n 2, 1) := by decide +kernel
theorem dX5_greatestKick_21 : decode cX5_greatestKick 21 = .ok (.sipush 2000, 3) := by decide +kernel
theorem dX5_greatestKick_24 : decode cX5_greatestKick 24 = .ok (.istore_n 3, 1) := by decide +kernel
theorem dX5_greatestKick_25 : decode cX5_greatestKick 25 = .ok (.iload_n 3, 1) := by decide +kernel
theorem dX5_greatestKick_26 : decode cX5_greatestKick 26 = .ok (.ifCond .lt 47, 3) := by decide +kernel
theorem dX5_greatestKick_29 : decode cX5_greatestKick 29 = .ok (.iload_n 2, 1) := by decide +kernel
theorem dX5_greatestKick_30 : decode cX5_greatestKick 30 = .ok (.ifCond .ge 43, 3) := by decide +kernel
theorem dX5_greatestKick_33 : decode cX5_greatestKick 33 = .ok (.aload_n 0, 1) := by decide +kernel
theorem dX5_greatestKick_34 : decode cX5_greatestKick 34 = .ok (.invokevirtual 150, 3) := by decide +kernel
theorem dX5_greatestKick_37 : decode cX5_greatestKick 37 = .ok (.aload_n 0, 1) := by decide +kernel
theorem dX5_greatestKick_38 : decode cX5_greatestKick 38 = .ok (.invokevirtual 154, 3) := by decide +kernel
theorem dX5_greatestKick_41 : decode cX5_greatestKick 41 = .ok (.aload_n 0, 1) := by decide +kernel
theorem dX5_greatestKick_42 : decode cX5_greatestKick 42 = .ok (.getfield 7, 3) := by decide +kernel
theorem dX5_greatestKick_45 : decode cX5_greatestKick 45 = .ok (.iconst 3, 1) := by decide +kernel
theorem dX5_greatestKick_46 : decode cX5_greatestKick 46 = .ok (.iload_n 3, 1) := by decide +kernel
theorem dX5_greatestKick_47 : decode cX5_greatestKick 47 = .ok (.iastore, 1) := by decide +kernel
theorem dX5_greatestKick_48 : decode cX5_greatestKick 48 = .ok (.aload_n 0, 1) := by decide +kernel
theorem dX5_greatestKick_49 : decode cX5_greatestKick 49 = .ok (.invokevirtual 138, 3) := by decide +kernel
theorem dX5_greatestKick_52 : decode cX5_greatestKick 52 = .ok (.aload_n 0, 1) := by decide +kernel
theorem dX5_greatestKick_53 : decode cX5_greatestKick 53 = .ok (.iload_n 1, 1) := by decide +kernel
theorem dX5_greatestKick_54 : decode cX5_greatestKick 54 = .ok (.invokevirtual 135, 3) := by decide +kernel
theorem dX5_greatestKick_57 : decode cX5_greatestKick 57 = .ok (.ifCond .ge 7, 3) := by decide +kernel
theorem dX5_greatestKick_60 : decode cX5_greatestKick 60 = .ok (.iload_n 3, 1) := by decide +kernel
theorem dX5_greatestKick_61 : decode cX5_greatestKick 61 = .ok (.goto 5, 3) := by decide +kernel
theorem dX5_greatestKick_64 : decode cX5_greatestKick 64 = .ok (.bipush (-6), 2) := by decide +kernel
theorem dX5_greatestKick_66 : decode cX5_greatestKick 66 = .ok (.istore_n 2, 1) := by decide +kernel
theorem dX5_greatestKick_67 : decode cX5_greatestKick 67 = .ok (.iinc 3 (-1), 3) := by decide +kernel
theorem dX5_greatestKick_70 : decode cX5_greatestKick 70 = .ok (.goto (-45), 3) := by decide +kernel
theorem dX5_greatestKick_73 : decode cX5_greatestKick 73 = .ok (.aload_n 0, 1) := by decide +kernel
theorem dX5_greatestKick_74 : decode cX5_greatestKick 74 = .ok (.invokevirtual 150, 3) := by decide +kernel
theorem dX5_greatestKick_77 : decode cX5_greatestKick 77 = .ok (.iload_n 2, 1) := by decide +kernel
theorem dX5_greatestKick_78 : decode cX5_greatestKick 78 = .ok (.ireturn, 1) := by decide +kernel
theorem dX5_save_0 : decode cX5_save 0 = .ok (.iload_n 1, 1) := by decide +kernel
theorem dX5_save_1 : decode cX5_save 1 = .ok (.iconst 0, 1) := by decide +kernel
theorem dX5_save_2 : decode cX5_save 2 = .ok (.iconst 1, 1) := by decide +kernel
theorem dX5_save_3 : decode cX5_save 3 = .ok (.invokestatic 33, 3) := by decide +kernel
theorem dX5_save_6 : decode cX5_save 6 = .ok (.ifCond .ne 6, 3) := by decide +kernel
theorem dX5_save_9 : decode cX5_save 9 = .ok (.bipush (-2), 2) := by decide +kernel
theorem dX5_save_11 : decode cX5_save 11 = .ok (.ireturn, 1) := by decide +kernel
theorem dX5_save_12 : decode cX5_save 12 = .ok (.iconst 0, 1) := by decide +kernel
theorem dX5_save_13 : decode cX5_save 13 = .ok (.istore_n 2, 1) := by decide +kernel
theorem dX5_save_14 : decode cX5_save 14 = .ok (.iload_n 2, 1) := by decide +kernel
theorem dX5_save_15 : decode cX5_save 15 = .ok (.sipush 255, 3) := by decide +kernel
theorem dX5_save_18 : decode cX5_save 18 = .ok (.if_icmp .ge 27, 3) := by decide +kernel
theorem dX5_save_21 : decode cX5_save 21 = .ok (.aload_n 0, 1) := by decide +kernel
theorem dX5_save_22 : decode cX5_save 22 = .ok (.getfield 16, 3) := by decide +kernel
theorem dX5_save_25 : decode cX5_save 25 = .ok (.sipush 255, 3) := by decide +kernel
theorem dX5_save_28 : decode cX5_save 28 = .ok (.iload_n 1, 1) := by decide +kernel
theorem dX5_save_29 : decode cX5_save 29 = .ok (.imul, 1) := by decide +kernel
theorem dX5_save_30 : decode cX5_save 30 = .ok (.iload_n 2, 1) := by decide +kernel
theorem dX5_save_31 : decode cX5_save 31 = .ok (.iadd, 1) := by decide +kernel
theorem dX5_save_32 : decode cX5_save 32 = .ok (.aload_n 0, 1) := by decide +kernel
theorem dX5_save_33 : decode cX5_save 33 = .ok (.getfield 7, 3) := by decide +kernel
theorem dX5_save_36 : decode cX5_save 36 = .ok (.iload_n 2, 1) := by decide +kernel
theorem dX5_save_37 : decode cX5_save 37 = .ok (.iaload, 1) := by decide +kernel
theorem dX5_save_38 : decode cX5_save 38 = .ok (.iastore, 1) := by decide +kernel
theorem dX5_save_39 : decode cX5_save 39 = .ok (.iinc 2 1, 3) := by decide +kernel
theorem dX5_save_42 : decode cX5_save 42 = .ok (.goto (-28), 3) := by decide +kernel
theorem dX5_save_45 : decode cX5_save 45 = .ok (.aload_n 0, 1) := by decide +kernel
theorem dX5_save_46 : decode cX5_save 46 = .ok (.getfield 19, 3) := by decide +kernel
theorem dX5_save_49 : decode cX5_save 49 = .ok (.iload_n 1, 1) := by decide +kernel
theorem dX5_save_50 : decode cX5_save 50 = .ok (.iconst 1, 1) := by decide +kernel
theorem dX5_save_51 : decode cX5_save 51 = .ok (.bastore, 1) := by decide +kernel
theorem dX5_save_52 : decode cX5_save 52 = .ok (.aload_n 0, 1) := by decide +kernel
theorem dX5_save_53 : decode cX5_save 53 = .ok (.getfield 7, 3) := by decide +kernel
theorem dX5_save_56 : decode cX5_save 56 = .ok (.bipush 8, 2) := by decide +kernel
theorem dX5_save_58 : decode cX5_save 58 = .ok (.iaload, 1) := by decide +kernel
theorem dX5_save_59 : decode cX5_save 59 = .ok (.ireturn, 1) := by decide +kernel
theorem dX5_restore_0 : decode cX5_restore 0 = .ok (.iload_n 1, 1) := by decide +kernel
theorem dX5_restore_1 : decode cX5_restore 1 = .ok (.iconst 0, 1) := by decide +kernel
theorem dX5_restore_2 : decode cX5_restore 2 = .ok (.iconst 1, 1) := by decide +kernel
theorem dX5_restore_3 : decode cX5_restore 3 = .ok (.invokestatic 33, 3) := by decide +kernel
theorem dX5_restore_6 : decode cX5_restore 6 = .ok (.ifCond .ne 6, 3) := by decide +kernel
theorem dX5_restore_9 : decode cX5_restore 9 = .ok (.bipush (-2), 2) := by decide +kernel
theorem dX5_restore_11 : decode cX5_restore 11 = .ok (.ireturn, 1) := by decide +kernel
theorem dX5_restore_12 : decode cX5_restore 12 = .ok (.aload_n 0, 1) := by decide +kernel
theorem dX5_restore_13 : decode cX5_restore 13 = .ok (.getfield 19, 3) := by decide +kernel
theorem dX5_restore_16 : decode cX5_restore 16 = .ok (.iload_n 1, 1) := by decide +kernel
theorem dX5_restore_17 : decode cX5_restore 17 = .ok (.baload, 1) := by decide +kernel
theorem dX5_restore_18 : decode cX5_restore 18 = .ok (.ifCond .ne 6, 3) := by decide +kernel
theorem dX5_restore_21 : decode cX5_restore 21 = .ok (.bipush (-5), 2) := by decide +kernel
theorem dX5_restore_23 : decode cX5_restore 23 = .ok (.ireturn, 1) := by decide +kernel
theorem dX5_restore_24 : decode cX5_restore 24 = .ok (.iconst 0, 1) := by decide +kernel
theorem dX5_restore_25 : decode cX5_restore 25 = .ok (.istore_n 2, 1) := by decide +kernel
theorem dX5_restore_26 : decode cX5_restore 26 = .ok (.iload_n 2, 1) := by decide +kernel
theorem dX5_restore_27 : decode cX5_restore 27 = .ok (.sipush 255, 3) := by decide +kernel
theorem dX5_restore_30 : decode cX5_restore 30 = .ok (.if_icmp .ge 27, 3) := by decide +kernel
theorem dX5_restore_33 : decode cX5_restore 33 = .ok (.aload_n 0, 1) := by decide +kernel
theorem dX5_restore_34 : decode cX5_restore 34 = .ok (.getfield 7, 3) := by decide +kernel
theorem dX5_restore_37 : decode cX5_restore 37 = .ok (.iload_n 2, 1) := by decide +kernel
theorem dX5_restore_38 : decode cX5_restore 38 = .ok (.aload_n 0, 1) := by decide +kernel
theorem dX5_restore_39 : decode cX5_restore 39 = .ok (.getfield 16, 3) := by decide +kernel
theorem dX5_restore_42 : decode cX5_restore 42 = .ok (.sipush 255, 3) := by decide +kernel
theorem dX5_restore_45 : decode cX5_restore 45 = .ok (.iload_n 1, 1) := by decide +kernel
theorem dX5_restore_46 : decode cX5_restore 46 = .ok (.imul, 1) := by decide +kernel
theorem dX5_restore_47 : decode cX5_restore 47 = .ok (.iload_n 2, 1) := by decide +kernel
theorem dX5_restore_48 : decode cX5_restore 48 = .ok (.iadd, 1) := by decide +kernel
theorem dX5_restore_49 : decode cX5_restore 49 = .ok (.iaload, 1) := by decide +kernel
theorem dX5_restore_50 : decode cX5_restore 50 = .ok (.iastore, 1) := by decide +kernel
theorem dX5_restore_51 : decode cX5_restore 51 = .ok (.iinc 2 1, 3) := by decide +kernel
theorem dX5_restore_54 : decode cX5_restore 54 = .ok (.goto (-28), 3) := by decide +kernel
theorem dX5_restore_57 : decode cX5_restore 57 = .ok (.aload_n 0, 1) := by decide +kernel
theorem dX5_restore_58 : decode cX5_restore 58 = .ok (.getfield 7, 3) := by decide +kernel
theorem dX5_restore_61 : decode cX5_restore 61 = .ok (.bipush 8, 2) := by decide +kernel
theorem dX5_restore_63 : decode cX5_restore 63 = .ok (.iaload, 1) := by decide +kernel
theorem dX5_restore_64 : decode cX5_restore 64 = .ok (.ireturn, 1) := by decide +kernel
