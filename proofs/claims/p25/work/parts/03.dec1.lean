theorem dX0_init_0 : decode cX0_init 0 = .ok (.aload_n 0, 1) := by decide +kernel
theorem dX0_init_1 : decode cX0_init 1 = .ok (.invokespecial 3, 3) := by decide +kernel
theorem dX0_init_4 : decode cX0_init 4 = .ok (.aload_n 0, 1) := by decide +kernel
theorem dX0_init_5 : decode cX0_init 5 = .ok (.getstatic 9, 3) := by decide +kernel
theorem dX0_init_8 : decode cX0_init 8 = .ok (.invokevirtual 13, 3) := by decide +kernel
theorem dX0_init_11 : decode cX0_init 11 = .ok (.checkcast 14, 3) := by decide +kernel
theorem dX0_init_14 : decode cX0_init 14 = .ok (.putfield 18, 3) := by decide +kernel
theorem dX0_init_17 : decode cX0_init 17 = .ok (.aload_n 0, 1) := by decide +kernel
theorem dX0_init_18 : decode cX0_init 18 = .ok (.bipush 6, 2) := by decide +kernel
theorem dX0_init_20 : decode cX0_init 20 = .ok (.anewarray 23, 3) := by decide +kernel
theorem dX0_init_23 : decode cX0_init 23 = .ok (.putfield 25, 3) := by decide +kernel
theorem dX0_init_26 : decode cX0_init 26 = .ok (.aload_n 0, 1) := by decide +kernel
theorem dX0_init_27 : decode cX0_init 27 = .ok (.new 29, 3) := by decide +kernel
theorem dX0_init_30 : decode cX0_init 30 = .ok (.dup, 1) := by decide +kernel
theorem dX0_init_31 : decode cX0_init 31 = .ok (.invokespecial 31, 3) := by decide +kernel
theorem dX0_init_34 : decode cX0_init 34 = .ok (.putfield 32, 3) := by decide +kernel
theorem dX0_init_37 : decode cX0_init 37 = .ok (.aload_n 0, 1) := by decide +kernel
theorem dX0_init_38 : decode cX0_init 38 = .ok (.iconst 0, 1) := by decide +kernel
theorem dX0_init_39 : decode cX0_init 39 = .ok (.putfield 36, 3) := by decide +kernel
theorem dX0_init_42 : decode cX0_init 42 = .ok (.aload_n 0, 1) := by decide +kernel
theorem dX0_init_43 : decode cX0_init 43 = .ok (.iconst 0, 1) := by decide +kernel
theorem dX0_init_44 : decode cX0_init 44 = .ok (.putfield 40, 3) := by decide +kernel
theorem dX0_init_47 : decode cX0_init 47 = .ok (.aload_n 0, 1) := by decide +kernel
theorem dX0_init_48 : decode cX0_init 48 = .ok (.iconst 0, 1) := by decide +kernel
theorem dX0_init_49 : decode cX0_init 49 = .ok (.putfield 43, 3) := by decide +kernel
theorem dX0_init_52 : decode cX0_init 52 = .ok (.aload_n 0, 1) := by decide +kernel
theorem dX0_init_53 : decode cX0_init 53 = .ok (.iconst 0, 1) := by decide +kernel
theorem dX0_init_54 : decode cX0_init 54 = .ok (.putfield 46, 3) := by decide +kernel
theorem dX0_init_57 : decode cX0_init 57 = .ok (.aload_n 0, 1) := by decide +kernel
theorem dX0_init_58 : decode cX0_init 58 = .ok (.iconst 0, 1) := by decide +kernel
theorem dX0_init_59 : decode cX0_init 59 = .ok (.putfield 49, 3) := by decide +kernel
theorem dX0_init_62 : decode cX0_init 62 = .ok (.aload_n 0, 1) := by decide +kernel
theorem dX0_init_63 : decode cX0_init 63 = .ok (.getstatic 9, 3) := by decide +kernel
theorem dX0_init_66 : decode cX0_init 66 = .ok (.iconst 5, 1) := by decide +kernel
theorem dX0_init_67 : decode cX0_init 67 = .ok (.iaload, 1) := by decide +kernel
theorem dX0_init_68 : decode cX0_init 68 = .ok (.putfield 52, 3) := by decide +kernel
theorem dX0_init_71 : decode cX0_init 71 = .ok (.aload_n 0, 1) := by decide +kernel
theorem dX0_init_72 : decode cX0_init 72 = .ok (.iconst 0, 1) := by decide +kernel
theorem dX0_init_73 : decode cX0_init 73 = .ok (.putfield 55, 3) := by decide +kernel
theorem dX0_init_76 : decode cX0_init 76 = .ok (.aload_n 0, 1) := by decide +kernel
theorem dX0_init_77 : decode cX0_init 77 = .ok (.iconst 0, 1) := by decide +kernel
theorem dX0_init_78 : decode cX0_init 78 = .ok (.putfield 58, 3) := by decide +kernel
theorem dX0_init_81 : decode cX0_init 81 = .ok (.aload_n 0, 1) := by decide +kernel
theorem dX0_init_82 : decode cX0_init 82 = .ok (.iconst 0, 1) := by decide +kernel
theorem dX0_init_83 : decode cX0_init 83 = .ok (.putfield 61, 3) := by decide +kernel
theorem dX0_init_86 : decode cX0_init 86 = .ok (.aload_n 0, 1) := by decide +kernel
theorem dX0_init_87 : decode cX0_init 87 = .ok (.iconst 0, 1) := by decide +kernel
theorem dX0_init_88 : decode cX0_init 88 = .ok (.putfield 64, 3) := by decide +kernel
theorem dX0_init_91 : decode cX0_init 91 = .ok (.iconst 0, 1) := by decide +kernel
theorem dX0_init_92 : decode cX0_init 92 = .ok (.istore_n 1, 1) := by decide +kernel
theorem dX0_init_93 : decode cX0_init 93 = .ok (.iload_n 1, 1) := by decide +kernel
theorem dX0_init_94 : decode cX0_init 94 = .ok (.bipush 6, 2) := by decide +kernel
theorem dX0_init_96 : decode cX0_init 96 = .ok (.if_icmp .ge 22, 3) := by decide +kernel
theorem dX0_init_99 : decode cX0_init 99 = .ok (.aload_n 0, 1) := by decide +kernel
theorem dX0_init_100 : decode cX0_init 100 = .ok (.getfield 25, 3) := by decide +kernel
theorem dX0_init_103 : decode cX0_init 103 = .ok (.iload_n 1, 1) := by decide +kernel
theorem dX0_init_104 : decode cX0_init 104 = .ok (.new 23, 3) := by decide +kernel
theorem dX0_init_107 : decode cX0_init 107 = .ok (.dup, 1) := by decide +kernel
theorem dX0_init_108 : decode cX0_init 108 = .ok (.invokespecial 67, 3) := by decide +kernel
theorem dX0_init_111 : decode cX0_init 111 = .ok (.aastore, 1) := by decide +kernel
theorem dX0_init_112 : decode cX0_init 112 = .ok (.iinc 1 1, 3) := by decide +kernel
theorem dX0_init_115 : decode cX0_init 115 = .ok (.goto (-22), 3) := by decide +kernel
theorem dX0_init_118 : decode cX0_init 118 = .ok (.return_, 1) := by decide +kernel
theorem dX0_become_0 : decode cX0_become 0 = .ok (.aload_n 1, 1) := by decide +kernel
theorem dX0_become_1 : decode cX0_become 1 = .ok (.getfield 18, 3) := by decide +kernel
theorem dX0_become_4 : decode cX0_become 4 = .ok (.iconst 0, 1) := by decide +kernel
theorem dX0_become_5 : decode cX0_become 5 = .ok (.aload_n 0, 1) := by decide +kernel
theorem dX0_become_6 : decode cX0_become 6 = .ok (.getfield 18, 3) := by decide +kernel
theorem dX0_become_9 : decode cX0_become 9 = .ok (.iconst 0, 1) := by decide +kernel
theorem dX0_become_10 : decode cX0_become 10 = .ok (.bipush 8, 2) := by decide +kernel
theorem dX0_become_12 : decode cX0_become 12 = .ok (.invokestatic 68, 3) := by decide +kernel
theorem dX0_become_15 : decode cX0_become 15 = .ok (.iconst 0, 1) := by decide +kernel
theorem dX0_become_16 : decode cX0_become 16 = .ok (.istore_n 2, 1) := by decide +kernel
theorem dX0_become_17 : decode cX0_become 17 = .ok (.iload_n 2, 1) := by decide +kernel
theorem dX0_become_18 : decode cX0_become 18 = .ok (.aload_n 1, 1) := by decide +kernel
theorem dX0_become_19 : decode cX0_become 19 = .ok (.getfield 36, 3) := by decide +kernel
theorem dX0_become_22 : decode cX0_become 22 = .ok (.if_icmp .ge 24, 3) := by decide +kernel
theorem dX0_become_25 : decode cX0_become 25 = .ok (.aload_n 0, 1) := by decide +kernel
theorem dX0_become_26 : decode cX0_become 26 = .ok (.getfield 25, 3) := by decide +kernel
theorem dX0_become_29 : decode cX0_become 29 = .ok (.iload_n 2, 1) := by decide +kernel
theorem dX0_become_30 : decode cX0_become 30 = .ok (.aaload, 1) := by decide +kernel
theorem dX0_become_31 : decode cX0_become 31 = .ok (.aload_n 1, 1) := by decide +kernel
theorem dX0_become_32 : decode cX0_become 32 = .ok (.getfield 25, 3) := by decide +kernel
theorem dX0_become_35 : decode cX0_become 35 = .ok (.iload_n 2, 1) := by decide +kernel
theorem dX0_become_36 : decode cX0_become 36 = .ok (.aaload, 1) := by decide +kernel
theorem dX0_become_37 : decode cX0_become 37 = .ok (.invokevirtual 74, 3) := by decide +kernel
theorem dX0_become_40 : decode cX0_become 40 = .ok (.iinc 2 1, 3) := by decide +kernel
theorem dX0_become_43 : decode cX0_become 43 = .ok (.goto (-26), 3) := by decide +kernel
theorem dX0_become_46 : decode cX0_become 46 = .ok (.aload_n 0, 1) := by decide +kernel
theorem dX0_become_47 : decode cX0_become 47 = .ok (.getfield 32, 3) := by decide +kernel
theorem dX0_become_50 : decode cX0_become 50 = .ok (.aload_n 1, 1) := by decide +kernel
theorem dX0_become_51 : decode cX0_become 51 = .ok (.getfield 32, 3) := by decide +kernel
theorem dX0_become_54 : decode cX0_become 54 = .ok (.invokevirtual 78, 3) := by decide +kernel
theorem dX0_become_57 : decode cX0_become 57 = .ok (.aload_n 0, 1) := by decide +kernel
theorem dX0_become_58 : decode cX0_become 58 = .ok (.aload_n 1, 1) := by decide +kernel
theorem dX0_become_59 : decode cX0_become 59 = .ok (.getfield 36, 3) := by decide +kernel
theorem dX0_become_62 : decode cX0_become 62 = .ok (.putfield 36, 3) := by decide +kernel
theorem dX0_become_65 : decode cX0_become 65 = .ok (.aload_n 0, 1) := by decide +kernel
theorem dX0_become_66 : decode cX0_become 66 = .ok (.aload_n 1, 1) := by decide +kernel
theorem dX0_become_67 : decode cX0_become 67 = .ok (.getfield 40, 3) := by decide +kernel
theorem dX0_become_70 : decode cX0_become 70 = .ok (.putfield 40, 3) := by decide +kernel
theorem dX0_become_73 : decode cX0_become 73 = .ok (.aload_n 0, 1) := by decide +kernel
theorem dX0_become_74 : decode cX0_become 74 = .ok (.aload_n 1, 1) := by decide +kernel
theorem dX0_become_75 : decode cX0_become 75 = .ok (.getfield 43, 3) := by decide +kernel
theorem dX0_become_78 : decode cX0_become 78 = .ok (.putfield 43, 3) := by decide +kernel
theorem dX0_become_81 : decode cX0_become 81 = .ok (.aload_n 0, 1) := by decide +kernel
theorem dX0_become_82 : decode cX0_become 82 = .ok (.aload_n 1, 1) := by decide +kernel
theorem dX0_become_83 : decode cX0_become 83 = .ok (.getfield 46, 3) := by decide +kernel
theorem dX0_become_86 : decode cX0_become 86 = .ok (.putfield 46, 3) := by decide +kernel
theorem dX0_become_89 : decode cX0_become 89 = .ok (.aload_n 0, 1) := by decide +kernel
theorem dX0_become_90 : decode cX0_become 90 = .ok (.aload_n 1, 1) := by decide +kernel
theorem dX0_become_91 : decode cX0_become 91 = .ok (.getfield 49, 3) := by decide +kernel
theorem dX0_become_94 : decode cX0_become 94 = .ok (.putfield 49, 3) := by decide +kernel
theorem dX0_become_97 : decode cX0_become 97 = .ok (.aload_n 0, 1) := by decide +kernel
theorem dX0_become_98 : decode cX0_become 98 = .ok (.aload_n 1, 1) := by decide +kernel
theorem dX0_become_99 : decode cX0_become 99 = .ok (.getfield 52, 3) := by decide +kernel
theorem dX0_become_102 : decode cX0_become 102 = .ok (.putfield 52, 3) := by decide +kernel
theorem dX0_become_105 : decode cX0_become 105 = .ok (.aload_n 0, 1) := by decide +kernel
theorem dX0_become_106 : decode cX0_become 106 = .ok (.aload_n 1, 1) := by decide +kernel
theorem dX0_become_107 : decode cX0_become 107 = .ok (.getfield 55, 3) := by decide +kernel
theorem dX0_become_110 : decode cX0_become 110 = .ok (.putfield 55, 3) := by decide +kernel
theorem dX0_become_113 : decode cX0_become 113 = .ok (.aload_n 0, 1) := by decide +kernel
theorem dX0_become_114 : decode cX0_become 114 = .ok (.aload_n 1, 1) := by decide +kernel
theorem dX0_become_115 : decode cX0_become 115 = .ok (.getfield 58, 3) := by decide +kernel
theorem dX0_become_118 : decode cX0_become 118 = .ok (.putfield 58, 3) := by decide +kernel
theorem dX0_become_121 : decode cX0_become 121 = .ok (.aload_n 0, 1) := by decide +kernel
theorem dX0_become_122 : decode cX0_become 122 = .ok (.aload_n 1, 1) := by decide +kernel
theorem dX0_become_123 : decode cX0_become 123 = .ok (.getfield 61, 3) := by decide +kernel
theorem dX0_become_126 : decode cX0_become 126 = .ok (.putfield 61, 3) := by decide +kernel
theorem dX0_become_129 : decode cX0_become 129 = .ok (.aload_n 0, 1) := by decide +kernel
theorem dX0_become_130 : decode cX0_become 130 = .ok (.aload_n 1, 1) := by decide +kernel
theorem dX0_become_131 : decode cX0_become 131 = .ok (.getfield 64, 3) := by decide +kernel
theorem dX0_become_134 : decode cX0_become 134 = .ok (.putfield 64, 3) := by decide +kernel
theorem dX0_become_137 : decode cX0_become 137 = .ok (.return_, 1) := by decide +kernel
theorem dX0_switchOffAndOn_0 : decode cX0_switchOffAndOn 0 = .ok (.aload_n 0, 1) := by decide +kernel
theorem dX0_switchOffAndOn_1 : decode cX0_switchOffAndOn 1 = .ok (.iconst 0, 1) := by decide +kernel
theorem dX0_switchOffAndOn_2 : decode cX0_switchOffAndOn 2 = .ok (.putfield 46, 3) := by decide +kernel
theorem dX0_switchOffAndOn_5 : decode cX0_switchOffAndOn 5 = .ok (.aload_n 0, 1) := by decide +kernel
theorem dX0_switchOffAndOn_6 : decode cX0_switchOffAndOn 6 = .ok (.iconst 0, 1) := by decide +kernel
theorem dX0_switchOffAndOn_7 : decode cX0_switchOffAndOn 7 = .ok (.putfield 49, 3) := by decide +kernel
theorem dX0_switchOffAndOn_10 : decode cX0_switchOffAndOn 10 = .ok (.aload_n 0, 1) := by decide +kernel
theorem dX0_switchOffAndOn_11 : decode cX0_switchOffAndOn 11 = .ok (.invokevirtual 85, 3) := by decide +kernel
theorem dX0_switchOffAndOn_14 : decode cX0_switchOffAndOn 14 = .ok (.return_, 1) := by decide +kernel
theorem dX0_boot_0 : decode cX0_boot 0 = .ok (.aload_n 0, 1) := by decide +kernel
theorem dX0_boot_1 : decode cX0_boot 1 = .ok (.iconst 0, 1) := by decide +kernel
theorem dX0_boot_2 : decode cX0_boot 2 = .ok (.putfield 43, 3) := by decide +kernel
theorem dX0_boot_5 : decode cX0_boot 5 = .ok (.aload_n 0, 1) := by decide +kernel
theorem dX0_boot_6 : decode cX0_boot 6 = .ok (.aload_n 0, 1) := by decide +kernel
theorem dX0_boot_7 : decode cX0_boot 7 = .ok (.getfield 18, 3) := by decide +kernel
theorem dX0_boot_10 : decode cX0_boot 10 = .ok (.iconst 5, 1) := by decide +kernel
theorem dX0_boot_11 : decode cX0_boot 11 = .ok (.iaload, 1) := by decide +kernel
theorem dX0_boot_12 : decode cX0_boot 12 = .ok (.putfield 52, 3) := by decide +kernel
theorem dX0_boot_15 : decode cX0_boot 15 = .ok (.return_, 1) := by decide +kernel
theorem dX0_ifRunning_0 : decode cX0_ifRunning 0 = .ok (.aload_n 0, 1) := by decide +kernel
theorem dX0_ifRunning_1 : decode cX0_ifRunning 1 = .ok (.getfield 43, 3) := by decide +kernel
theorem dX0_ifRunning_4 : decode cX0_ifRunning 4 = .ok (.iconst 1, 1) := by decide +kernel
theorem dX0_ifRunning_5 : decode cX0_ifRunning 5 = .ok (.if_icmp .ne 7, 3) := by decide +kernel
theorem dX0_ifRunning_8 : decode cX0_ifRunning 8 = .ok (.iload_n 1, 1) := by decide +kernel
theorem dX0_ifRunning_9 : decode cX0_ifRunning 9 = .ok (.goto 4, 3) := by decide +kernel
theorem dX0_ifRunning_12 : decode cX0_ifRunning 12 = .ok (.iconst 0, 1) := by decide +kernel
theorem dX0_ifRunning_13 : decode cX0_ifRunning 13 = .ok (.ireturn, 1) := by decide +kernel
theorem dX0_expiredSet_0 : decode cX0_expiredSet 0 = .ok (.iconst 0, 1) := by decide +kernel
theorem dX0_expiredSet_1 : decode cX0_expiredSet 1 = .ok (.istore_n 1, 1) := by decide +kernel
theorem dX0_expiredSet_2 : decode cX0_expiredSet 2 = .ok (.iconst 0, 1) := by decide +kernel
theorem dX0_expiredSet_3 : decode cX0_expiredSet 3 = .ok (.istore_n 2, 1) := by decide +kernel
theorem dX0_expiredSet_4 : decode cX0_expiredSet 4 = .ok (.iload_n 2, 1) := by decide +kernel
theorem dX0_expiredSet_5 : decode cX0_expiredSet 5 = .ok (.aload_n 0, 1) := by decide +kernel
theorem dX0_expiredSet_6 : decode cX0_expiredSet 6 = .ok (.getfield 36, 3) := by decide +kernel
theorem dX0_expiredSet_9 : decode cX0_expiredSet 9 = .ok (.if_icmp .ge 27, 3) := by decide +kernel
theorem dX0_expiredSet_12 : decode cX0_expiredSet 12 = .ok (.aload_n 0, 1) := by decide +kernel
theorem dX0_expiredSet_13 : decode cX0_expiredSet 13 = .ok (.getfield 25, 3) := by decide +kernel
theorem dX0_expiredSet_16 : decode cX0_expiredSet 16 = .ok (.iload_n 2, 1) := by decide +kernel
theorem dX0_expiredSet_17 : decode cX0_expiredSet 17 = .ok (.aaload, 1) := by decide +kernel
theorem dX0_expiredSet_18 : decode cX0_expiredSet 18 = .ok (.getfield 88, 3) := by decide +kernel
theorem dX0_expiredSet_21 : decode cX0_expiredSet 21 = .ok (.ifCond .eq 9, 3) := by decide +kernel
theorem dX0_expiredSet_24 : decode cX0_expiredSet 24 = .ok (.iload_n 1, 1) := by decide +kernel
theorem dX0_expiredSet_25 : decode cX0_expiredSet 25 = .ok (.iconst 1, 1) := by decide +kernel
theorem dX0_expiredSet_26 : decode cX0_expiredSet 26 = .ok (.iload_n 2, 1) := by decide +kernel
theorem dX0_expiredSet_27 : decode cX0_expiredSet 27 = .ok (.ishl, 1) := by decide +kernel
theorem dX0_expiredSet_28 : decode cX0_expiredSet 28 = .ok (.ior, 1) := by decide +kernel
theorem dX0_expiredSet_29 : decode cX0_expiredSet 29 = .ok (.istore_n 1, 1) := by decide +kernel
theorem dX0_expiredSet_30 : decode cX0_expiredSet 30 = .ok (.iinc 2 1, 3) := by decide +kernel
theorem dX0_expiredSet_33 : decode cX0_expiredSet 33 = .ok (.goto (-29), 3) := by decide +kernel
theorem dX0_expiredSet_36 : decode cX0_expiredSet 36 = .ok (.iload_n 1, 1) := by decide +kernel
theorem dX0_expiredSet_37 : decode cX0_expiredSet 37 = .ok (.ireturn, 1) := by decide +kernel
theorem dX0_lowestExpired_0 : decode cX0_lowestExpired 0 = .ok (.iconst 0, 1) := by decide +kernel
theorem dX0_lowestExpired_1 : decode cX0_lowestExpired 1 = .ok (.istore_n 1, 1) := by decide +kernel
theorem dX0_lowestExpired_2 : decode cX0_lowestExpired 2 = .ok (.iload_n 1, 1) := by decide +kernel
theorem dX0_lowestExpired_3 : decode cX0_lowestExpired 3 = .ok (.aload_n 0, 1) := by decide +kernel
theorem dX0_lowestExpired_4 : decode cX0_lowestExpired 4 = .ok (.getfield 36, 3) := by decide +kernel
theorem dX0_lowestExpired_7 : decode cX0_lowestExpired 7 = .ok (.if_icmp .ge 23, 3) := by decide +kernel
theorem dX0_lowestExpired_10 : decode cX0_lowestExpired 10 = .ok (.aload_n 0, 1) := by decide +kernel
theorem dX0_lowestExpired_11 : decode cX0_lowestExpired 11 = .ok (.getfield 25, 3) := by decide +kernel
theorem dX0_lowestExpired_14 : decode cX0_lowestExpired 14 = .ok (.iload_n 1, 1) := by decide +kernel
theorem dX0_lowestExpired_15 : decode cX0_lowestExpired 15 = .ok (.aaload, 1) := by decide +kernel
theorem dX0_lowestExpired_16 : decode cX0_lowestExpired 16 = .ok (.getfield 88, 3) := by decide +kernel
theorem dX0_lowestExpired_19 : decode cX0_lowestExpired 19 = .ok (.ifCond .eq 5, 3) := by decide +kernel
theorem dX0_lowestExpired_22 : decode cX0_lowestExpired 22 = .ok (.iload_n 1, 1) := by decide +kernel
theorem dX0_lowestExpired_23 : decode cX0_lowestExpired 23 = .ok (.ireturn, 1) := by decide +kernel
theorem dX0_lowestExpired_24 : decode cX0_lowestExpired 24 = .ok (.iinc 1 1, 3) := by decide +kernel
theorem dX0_lowestExpired_27 : decode cX0_lowestExpired 27 = .ok (.goto (-25), 3) := by decide +kernel
theorem dX0_lowestExpired_30 : decode cX0_lowestExpired 30 = .ok (.bipush (-6), 2) := by decide +kernel
theorem dX0_lowestExpired_32 : decode cX0_lowestExpired 32 = .ok (.ireturn, 1) := by decide +kernel
theorem dX0_ticksToReset_0 : decode cX0_ticksToReset 0 = .ok (.iconst 1, 1) := by decide +kernel
theorem dX0_ticksToReset_1 : decode cX0_ticksToReset 1 = .ok (.istore_n 2, 1) := by decide +kernel
theorem dX0_ticksToReset_2 : decode cX0_ticksToReset 2 = .ok (.iload_n 2, 1) := by decide +kernel
theorem dX0_ticksToReset_3 : decode cX0_ticksToReset 3 = .ok (.iload_n 1, 1) := by decide +kernel
theorem dX0_ticksToReset_4 : decode cX0_ticksToReset 4 = .ok (.if_icmp .gt 18, 3) := by decide +kernel
theorem dX0_ticksToReset_7 : decode cX0_ticksToReset 7 = .ok (.aload_n 0, 1) := by decide +kernel
theorem dX0_ticksToReset_8 : decode cX0_ticksToReset 8 = .ok (.invokevirtual 92, 3) := by decide +kernel
theorem dX0_ticksToReset_11 : decode cX0_ticksToReset 11 = .ok (.ifCond .eq 5, 3) := by decide +kernel
theorem dX0_ticksToReset_14 : decode cX0_ticksToReset 14 = .ok (.iload_n 2, 1) := by decide +kernel
theorem dX0_ticksToReset_15 : decode cX0_ticksToReset 15 = .ok (.ireturn, 1) := by decide +kernel
theorem dX0_ticksToReset_16 : decode cX0_ticksToReset 16 = .ok (.iinc 2 1, 3) := by decide +kernel
theorem dX0_ticksToReset_19 : decode cX0_ticksToReset 19 = .ok (.goto (-17), 3) := by decide +kernel
theorem dX0_ticksToReset_22 : decode cX0_ticksToReset 22 = .ok (.bipush (-6), 2) := by decide +kernel
theorem dX0_ticksToReset_24 : decode cX0_ticksToReset 24 = .ok (.ireturn, 1) := by decide +kernel
theorem dX0_tick_0 : decode cX0_tick 0 = .ok (.iconst 0, 1) := by decide +kernel
theorem dX0_tick_1 : decode cX0_tick 1 = .ok (.istore_n 1, 1) := by decide +kernel
theorem dX0_tick_2 : decode cX0_tick 2 = .ok (.aload_n 0, 1) := by decide +kernel
theorem dX0_tick_3 : decode cX0_tick 3 = .ok (.getfield 43, 3) := by decide +kernel
theorem dX0_tick_6 : decode cX0_tick 6 = .ok (.ifCond .ne 10, 3) := by decide +kernel
theorem dX0_tick_9 : decode cX0_tick 9 = .ok (.aload_n 0, 1) := by decide +kernel
theorem dX0_tick_10 : decode cX0_tick 10 = .ok (.invokevirtual 96, 3) := by decide +kernel
theorem dX0_tick_13 : decode cX0_tick 13 = .ok (.goto 16, 3) := by decide +kernel
theorem dX0_tick_16 : decode cX0_tick 16 = .ok (.aload_n 0, 1) := by decide +kernel
theorem dX0_tick_17 : decode cX0_tick 17 = .ok (.getfield 43, 3) := by decide +kernel
theorem dX0_tick_20 : decode cX0_tick 20 = .ok (.iconst 1, 1) := by decide +kernel
theorem dX0_tick_21 : decode cX0_tick 21 = .ok (.if_icmp .ne 8, 3) := by decide +kernel
theorem dX0_tick_24 : decode cX0_tick 24 = .ok (.aload_n 0, 1) := by decide +kernel
theorem dX0_tick_25 : decode cX0_tick 25 = .ok (.invokevirtual 99, 3) := by decide +kernel
theorem dX0_tick_28 : decode cX0_tick 28 = .ok (.istore_n 1, 1) := by decide +kernel
theorem dX0_tick_29 : decode cX0_tick 29 = .ok (.aload_n 0, 1) := by decide +kernel
theorem dX0_tick_30 : decode cX0_tick 30 = .ok (.dup, 1) := by decide +kernel
theorem dX0_tick_31 : decode cX0_tick 31 = .ok (.getfield 40, 3) := by decide +kernel
theorem dX0_tick_34 : decode cX0_tick 34 = .ok (.iconst 1, 1) := by decide +kernel
theorem dX0_tick_35 : decode cX0_tick 35 = .ok (.iadd, 1) := by decide +kernel
theorem dX0_tick_36 : decode cX0_tick 36 = .ok (.putfield 40, 3) := by decide +kernel
theorem dX0_tick_39 : decode cX0_tick 39 = .ok (.iload_n 1, 1) := by decide +kernel
theorem dX0_tick_40 : decode cX0_tick 40 = .ok (.ireturn, 1) := by decide +kernel
theorem dX0_tickBooting_0 : decode cX0_tickBooting 0 = .ok (.aload_n 0, 1) := by decide +kernel
theorem dX0_tickBooting_1 : decode cX0_tickBooting 1 = .ok (.dup, 1) := by decide +kernel
theorem dX0_tickBooting_2 : decode cX0_tickBooting 2 = .ok (.getfield 52, 3) := by decide +kernel
theorem dX0_tickBooting_5 : decode cX0_tickBooting 5 = .ok (.iconst 1, 1) := by decide +kernel
theorem dX0_tickBooting_6 : decode cX0_tickBooting 6 = .ok (.isub, 1) := by decide +kernel
theorem dX0_tickBooting_7 : decode cX0_tickBooting 7 = .ok (.putfield 52, 3) := by decide +kernel
theorem dX0_tickBooting_10 : decode cX0_tickBooting 10 = .ok (.aload_n 0, 1) := by decide +kernel
theorem dX0_tickBooting_11 : decode cX0_tickBooting 11 = .ok (.getfield 52, 3) := by decide +kernel
theorem dX0_tickBooting_14 : decode cX0_tickBooting 14 = .ok (.ifCond .le 4, 3) := by decide +kernel
theorem dX0_tickBooting_17 : decode cX0_tickBooting 17 = .ok (.return_, 1) := by decide +kernel
theorem dX0_tickBooting_18 : decode cX0_tickBooting 18 = .ok (.aload_n 0, 1) := by decide +kernel
theorem dX0_tickBooting_19 : decode cX0_tickBooting 19 = .ok (.iconst 1, 1) := by decide +kernel
theorem dX0_tickBooting_20 : decode cX0_tickBooting 20 = .ok (.putfield 43, 3) := by decide +kernel
theorem dX0_tickBooting_23 : decode cX0_tickBooting 23 = .ok (.aload_n 0, 1) := by decide +kernel
theorem dX0_tickBooting_24 : decode cX0_tickBooting 24 = .ok (.iconst 0, 1) := by decide +kernel
theorem dX0_tickBooting_25 : decode cX0_tickBooting 25 = .ok (.putfield 55, 3) := by decide +kernel
theorem dX0_tickBooting_28 : decode cX0_tickBooting 28 = .ok (.aload_n 0, 1) := by decide +kernel
theorem dX0_tickBooting_29 : decode cX0_tickBooting 29 = .ok (.iconst 0, 1) := by decide +kernel
theorem dX0_tickBooting_30 : decode cX0_tickBooting 30 = .ok (.putfield 58, 3) := by decide +kernel
theorem dX0_tickBooting_33 : decode cX0_tickBooting 33 = .ok (.aload_n 0, 1) := by decide +kernel
theorem dX0_tickBooting_34 : decode cX0_tickBooting 34 = .ok (.iconst 0, 1) := by decide +kernel
theorem dX0_tickBooting_35 : decode cX0_tickBooting 35 = .ok (.putfield 61, 3) := by decide +kernel
theorem dX0_tickBooting_38 : decode cX0_tickBooting 38 = .ok (.aload_n 0, 1) := by decide +kernel
theorem dX0_tickBooting_39 : decode cX0_tickBooting 39 = .ok (.iconst 0, 1) := by decide +kernel
theorem dX0_tickBooting_40 : decode cX0_tickBooting 40 = .ok (.putfield 64, 3) := by decide +kernel
theorem dX0_tickBooting_43 : decode cX0_tickBooting 43 = .ok (.iconst 0, 1) := by decide +kernel
theorem dX0_tickBooting_44 : decode cX0_tickBooting 44 = .ok (.istore_n 1, 1) := by decide +kernel
theorem dX0_tickBooting_45 : decode cX0_tickBooting 45 = .ok (.iload_n 1, 1) := by decide +kernel
theorem dX0_tickBooting_46 : decode cX0_tickBooting 46 = .ok (.aload_n 0, 1) := by decide +kernel
theorem dX0_tickBooting_47 : decode cX0_tickBooting 47 = .ok (.getfield 36, 3) := by decide +kernel
theorem dX0_tickBooting_50 : decode cX0_tickBooting 50 = .ok (.if_icmp .ge 18, 3) := by decide +kernel
theorem dX0_tickBooting_53 : decode cX0_tickBooting 53 = .ok (.aload_n 0, 1) := by decide +kernel
theorem dX0_tickBooting_54 : decode cX0_tickBooting 54 = .ok (.getfield 25, 3) := by decide +kernel
theorem dX0_tickBooting_57 : decode cX0_tickBooting 57 = .ok (.iload_n 1, 1) := by decide +kernel
theorem dX0_tickBooting_58 : decode cX0_tickBooting 58 = .ok (.aaload, 1) := by decide +kernel
theorem dX0_tickBooting_59 : decode cX0_tickBooting 59 = .ok (.invokevirtual 102, 3) := by decide +kernel
theorem dX0_tickBooting_62 : decode cX0_tickBooting 62 = .ok (.iinc 1 1, 3) := by decide +kernel
theorem dX0_tickBooting_65 : decode cX0_tickBooting 65 = .ok (.goto (-20), 3) := by decide +kernel
theorem dX0_tickBooting_68 : decode cX0_tickBooting 68 = .ok (.return_, 1) := by decide +kernel
theorem dX0_tickRunning_0 : decode cX0_tickRunning 0 = .ok (.aload_n 0, 1) := by decide +kernel
theorem dX0_tickRunning_1 : decode cX0_tickRunning 1 = .ok (.dup, 1) := by decide +kernel
theorem dX0_tickRunning_2 : decode cX0_tickRunning 2 = .ok (.getfield 55, 3) := by decide +kernel
theorem dX0_tickRunning_5 : decode cX0_tickRunning 5 = .ok (.iconst 1, 1) := by decide +kernel
theorem dX0_tickRunning_6 : decode cX0_tickRunning 6 = .ok (.iadd, 1) := by decide +kernel
theorem dX0_tickRunning_7 : decode cX0_tickRunning 7 = .ok (.putfield 55, 3) := by decide +kernel
theorem dX0_tickRunning_10 : decode cX0_tickRunning 10 = .ok (.aload_n 0, 1) := by decide +kernel
theorem dX0_tickRunning_11 : decode cX0_tickRunning 11 = .ok (.dup, 1) := by decide +kernel
theorem dX0_tickRunning_12 : decode cX0_tickRunning 12 = .ok (.getfield 58, 3) := by decide +kernel
theorem dX0_tickRunning_15 : decode cX0_tickRunning 15 = .ok (.iconst 1, 1) := by decide +kernel
theorem dX0_tickRunning_16 : decode cX0_tickRunning 16 = .ok (.iadd, 1) := by decide +kernel
theorem dX0_tickRunning_17 : decode cX0_tickRunning 17 = .ok (.putfield 58, 3) := by decide +kernel
theorem dX0_tickRunning_20 : decode cX0_tickRunning 20 = .ok (.iconst 0, 1) := by decide +kernel
theorem dX0_tickRunning_21 : decode cX0_tickRunning 21 = .ok (.istore_n 1, 1) := by decide +kernel
theorem dX0_tickRunning_22 : decode cX0_tickRunning 22 = .ok (.iload_n 1, 1) := by decide +kernel
theorem dX0_tickRunning_23 : decode cX0_tickRunning 23 = .ok (.aload_n 0, 1) := by decide +kernel
theorem dX0_tickRunning_24 : decode cX0_tickRunning 24 = .ok (.getfield 36, 3) := by decide +kernel
theorem dX0_tickRunning_27 : decode cX0_tickRunning 27 = .ok (.if_icmp .ge 37, 3) := by decide +kernel
theorem dX0_tickRunning_30 : decode cX0_tickRunning 30 = .ok (.aload_n 0, 1) := by decide +kernel
theorem dX0_tickRunning_31 : decode cX0_tickRunning 31 = .ok (.getfield 25, 3) := by decide +kernel
theorem dX0_tickRunning_34 : decode cX0_tickRunning 34 = .ok (.iload_n 1, 1) := by decide +kernel
theorem dX0_tickRunning_35 : decode cX0_tickRunning 35 = .ok (.aaload, 1) := by decide +kernel
theorem dX0_tickRunning_36 : decode cX0_tickRunning 36 = .ok (.aload_n 0, 1) := by decide +kernel
theorem dX0_tickRunning_37 : decode cX0_tickRunning 37 = .ok (.getfield 55, 3) := by decide +kernel
theorem dX0_tickRunning_40 : decode cX0_tickRunning 40 = .ok (.aload_n 0, 1) := by decide +kernel
theorem dX0_tickRunning_41 : decode cX0_tickRunning 41 = .ok (.getfield 46, 3) := by decide +kernel
theorem dX0_tickRunning_44 : decode cX0_tickRunning 44 = .ok (.invokevirtual 105, 3) := by decide +kernel
theorem dX0_tickRunning_47 : decode cX0_tickRunning 47 = .ok (.ifCond .eq 11, 3) := by decide +kernel
theorem dX0_tickRunning_50 : decode cX0_tickRunning 50 = .ok (.aload_n 0, 1) := by decide +kernel
theorem dX0_tickRunning_51 : decode cX0_tickRunning 51 = .ok (.iconst 3, 1) := by decide +kernel
theorem dX0_tickRunning_52 : decode cX0_tickRunning 52 = .ok (.iload_n 1, 1) := by decide +kernel
theorem dX0_tickRunning_53 : decode cX0_tickRunning 53 = .ok (.invokevirtual 109, 3) := by decide +kernel
theorem dX0_tickRunning_56 : decode cX0_tickRunning 56 = .ok (.iconst 1, 1) := by decide +kernel
theorem dX0_tickRunning_57 : decode cX0_tickRunning 57 = .ok (.ireturn, 1) := by decide +kernel
theorem dX0_tickRunning_58 : decode cX0_tickRunning 58 = .ok (.iinc 1 1, 3) := by decide +kernel
theorem dX0_tickRunning_61 : decode cX0_tickRunning 61 = .ok (.goto (-39), 3) := by decide +kernel
theorem dX0_tickRunning_64 : decode cX0_tickRunning 64 = .ok (.aload_n 0, 1) := by decide +kernel
theorem dX0_tickRunning_65 : decode cX0_tickRunning 65 = .ok (.getfield 18, 3) := by decide +kernel
theorem dX0_tickRunning_68 : decode cX0_tickRunning 68 = .ok (.iconst 2, 1) := by decide +kernel
theorem dX0_tickRunning_69 : decode cX0_tickRunning 69 = .ok (.iaload, 1) := by decide +kernel
theorem dX0_tickRunning_70 : decode cX0_tickRunning 70 = .ok (.aload_n 0, 1) := by decide +kernel
theorem dX0_tickRunning_71 : decode cX0_tickRunning 71 = .ok (.getfield 55, 3) := by decide +kernel
theorem dX0_tickRunning_74 : decode cX0_tickRunning 74 = .ok (.invokestatic 113, 3) := by decide +kernel
theorem dX0_tickRunning_77 : decode cX0_tickRunning 77 = .ok (.ifCond .eq 14, 3) := by decide +kernel
theorem dX0_tickRunning_80 : decode cX0_tickRunning 80 = .ok (.aload_n 0, 1) := by decide +kernel
theorem dX0_tickRunning_81 : decode cX0_tickRunning 81 = .ok (.invokevirtual 116, 3) := by decide +kernel
theorem dX0_tickRunning_84 : decode cX0_tickRunning 84 = .ok (.ifCond .eq 7, 3) := by decide +kernel
theorem dX0_tickRunning_87 : decode cX0_tickRunning 87 = .ok (.iconst 1, 1) := by decide +kernel
theorem dX0_tickRunning_88 : decode cX0_tickRunning 88 = .ok (.goto 4, 3) := by decide +kernel
theorem dX0_tickRunning_91 : decode cX0_tickRunning 91 = .ok (.iconst 0, 1) := by decide +kernel
theorem dX0_tickRunning_92 : decode cX0_tickRunning 92 = .ok (.istore_n 1, 1) := by decide +kernel
theorem dX0_tickRunning_93 : decode cX0_tickRunning 93 = .ok (.aload_n 0, 1) := by decide +kernel
theorem dX0_tickRunning_94 : decode cX0_tickRunning 94 = .ok (.iload_n 1, 1) := by decide +kernel
theorem dX0_tickRunning_95 : decode cX0_tickRunning 95 = .ok (.invokevirtual 119, 3) := by decide +kernel
theorem dX0_tickRunning_98 : decode cX0_tickRunning 98 = .ok (.istore_n 2, 1) := by decide +kernel
theorem dX0_tickRunning_99 : decode cX0_tickRunning 99 = .ok (.iload_n 2, 1) := by decide +kernel
theorem dX0_tickRunning_100 : decode cX0_tickRunning 100 = .ok (.ifCond .eq 14, 3) := by decide +kernel
theorem dX0_tickRunning_103 : decode cX0_tickRunning 103 = .ok (.aload_n 0, 1) := by decide +kernel
theorem dX0_tickRunning_104 : decode cX0_tickRunning 104 = .ok (.iload_n 2, 1) := by decide +kernel
theorem dX0_tickRunning_105 : decode cX0_tickRunning 105 = .ok (.aload_n 0, 1) := by decide +kernel
theorem dX0_tickRunning_106 : decode cX0_tickRunning 106 = .ok (.invokevirtual 123, 3) := by decide +kernel
theorem dX0_tickRunning_109 : decode cX0_tickRunning 109 = .ok (.invokevirtual 109, 3) := by decide +kernel
theorem dX0_tickRunning_112 : decode cX0_tickRunning 112 = .ok (.iconst 1, 1) := by decide +kernel
theorem dX0_tickRunning_113 : decode cX0_tickRunning 113 = .ok (.ireturn, 1) := by decide +kernel
theorem dX0_tickRunning_114 : decode cX0_tickRunning 114 = .ok (.aload_n 0, 1) := by decide +kernel
theorem dX0_tickRunning_115 : decode cX0_tickRunning 115 = .ok (.getfield 55, 3) := by decide +kernel
theorem dX0_tickRunning_118 : decode cX0_tickRunning 118 = .ok (.aload_n 0, 1) := by decide +kernel
theorem dX0_tickRunning_119 : decode cX0_tickRunning 119 = .ok (.getfield 18, 3) := by decide +kernel
theorem dX0_tickRunning_122 : decode cX0_tickRunning 122 = .ok (.bipush 6, 2) := by decide +kernel
theorem dX0_tickRunning_124 : decode cX0_tickRunning 124 = .ok (.iaload, 1) := by decide +kernel
theorem dX0_tickRunning_125 : decode cX0_tickRunning 125 = .ok (.if_icmp .ne 8, 3) := by decide +kernel
theorem dX0_tickRunning_128 : decode cX0_tickRunning 128 = .ok (.aload_n 0, 1) := by decide +kernel
theorem dX0_tickRunning_129 : decode cX0_tickRunning 129 = .ok (.iconst 0, 1) := by decide +kernel
theorem dX0_tickRunning_130 : decode cX0_tickRunning 130 = .ok (.putfield 49, 3) := by decide +kernel
theorem dX0_tickRunning_133 : decode cX0_tickRunning 133 = .ok (.iconst 0, 1) := by decide +kernel
theorem dX0_tickRunning_134 : decode cX0_tickRunning 134 = .ok (.ireturn, 1) := by decide +kernel
theorem dX0_supervise_0 : decode cX0_supervise 0 = .ok (.aload_n 0, 1) := by decide +kernel
theorem dX0_supervise_1 : decode cX0_supervise 1 = .ok (.dup, 1) := by decide +kernel
theorem dX0_supervise_2 : decode cX0_supervise 2 = .ok (.getfield 61, 3) := by decide +kernel
theorem dX0_supervise_5 : decode cX0_supervise 5 = .ok (.iconst 1, 1) := by decide +kernel
theorem dX0_supervise_6 : decode cX0_supervise 6 = .ok (.iadd, 1) := by decide +kernel
theorem dX0_supervise_7 : decode cX0_supervise 7 = .ok (.putfield 61, 3) := by decide +kernel
theorem dX0_supervise_10 : decode cX0_supervise 10 = .ok (.iconst 0, 1) := by decide +kernel
theorem dX0_supervise_11 : decode cX0_supervise 11 = .ok (.istore_n 1, 1) := by decide +kernel
theorem dX0_supervise_12 : decode cX0_supervise 12 = .ok (.iload_n 1, 1) := by decide +kernel
theorem dX0_supervise_13 : decode cX0_supervise 13 = .ok (.aload_n 0, 1) := by decide +kernel
theorem dX0_supervise_14 : decode cX0_supervise 14 = .ok (.getfield 36, 3) := by decide +kernel
theorem dX0_supervise_17 : decode cX0_supervise 17 = .ok (.if_icmp .ge 47, 3) := by decide +kernel
theorem dX0_supervise_20 : decode cX0_supervise 20 = .ok (.aload_n 0, 1) := by decide +kernel
theorem dX0_supervise_21 : decode cX0_supervise 21 = .ok (.getfield 25, 3) := by decide +kernel
theorem dX0_supervise_24 : decode cX0_supervise 24 = .ok (.iload_n 1, 1) := by decide +kernel
theorem dX0_supervise_25 : decode cX0_supervise 25 = .ok (.aaload, 1) := by decide +kernel
theorem dX0_supervise_26 : decode cX0_supervise 26 = .ok (.astore_n 2, 1) := by decide +kernel
theorem dX0_supervise_27 : decode cX0_supervise 27 = .ok (.aload_n 2, 1) := by decide +kernel
theorem dX0_supervise_28 : decode cX0_supervise 28 = .ok (.getfield 88, 3) := by decide +kernel
theorem dX0_supervise_31 : decode cX0_supervise 31 = .ok (.ifCond .ne 27, 3) := by decide +kernel
theorem dX0_supervise_34 : decode cX0_supervise 34 = .ok (.aload_n 2, 1) := by decide +kernel
theorem dX0_supervise_35 : decode cX0_supervise 35 = .ok (.getfield 127, 3) := by decide +kernel
theorem dX0_supervise_38 : decode cX0_supervise 38 = .ok (.iconst 3, 1) := by decide +kernel
theorem dX0_supervise_39 : decode cX0_supervise 39 = .ok (.iaload, 1) := by decide +kernel
theorem dX0_supervise_40 : decode cX0_supervise 40 = .ok (.aload_n 0, 1) := by decide +kernel
theorem dX0_supervise_41 : decode cX0_supervise 41 = .ok (.getfield 61, 3) := by decide +kernel
theorem dX0_supervise_44 : decode cX0_supervise 44 = .ok (.invokestatic 113, 3) := by decide +kernel
theorem dX0_supervise_47 : decode cX0_supervise 47 = .ok (.ifCond .eq 11, 3) := by decide +kernel
theorem dX0_supervise_50 : decode cX0_supervise 50 = .ok (.aload_n 2, 1) := by decide +kernel
theorem dX0_supervise_51 : decode cX0_supervise 51 = .ok (.aload_n 0, 1) := by decide +kernel
theorem dX0_supervise_52 : decode cX0_supervise 52 = .ok (.getfield 40, 3) := by decide +kernel
theorem dX0_supervise_55 : decode cX0_supervise 55 = .ok (.invokevirtual 130, 3) := by decide +kernel
theorem dX0_supervise_58 : decode cX0_supervise 58 = .ok (.iinc 1 1, 3) := by decide +kernel
theorem dX0_supervise_61 : decode cX0_supervise 61 = .ok (.goto (-49), 3) := by decide +kernel
theorem dX0_supervise_64 : decode cX0_supervise 64 = .ok (.aload_n 0, 1) := by decide +kernel
theorem dX0_supervise_65 : decode cX0_supervise 65 = .ok (.invokevirtual 123, 3) := by decide +kernel
theorem dX0_supervise_68 : decode cX0_supervise 68 = .ok (.bipush (-6), 2) := by decide +kernel
theorem dX0_supervise_70 : decode cX0_supervise 70 = .ok (.if_icmp .eq 13, 3) := by decide +kernel
theorem dX0_supervise_73 : decode cX0_supervise 73 = .ok (.aload_n 0, 1) := by decide +kernel
theorem dX0_supervise_74 : decode cX0_supervise 74 = .ok (.dup, 1) := by decide +kernel
theorem dX0_supervise_75 : decode cX0_supervise 75 = .ok (.getfield 64, 3) := by decide +kernel
theorem dX0_supervise_78 : decode cX0_supervise 78 = .ok (.iconst 1, 1) := by decide +kernel
theorem dX0_supervise_79 : decode cX0_supervise 79 = .ok (.iadd, 1) := by decide +kernel
theorem dX0_supervise_80 : decode cX0_supervise 80 = .ok (.putfield 64, 3) := by decide +kernel
theorem dX0_supervise_83 : decode cX0_supervise 83 = .ok (.aload_n 0, 1) := by decide +kernel
theorem dX0_supervise_84 : decode cX0_supervise 84 = .ok (.getfield 64, 3) := by decide +kernel
theorem dX0_supervise_87 : decode cX0_supervise 87 = .ok (.aload_n 0, 1) := by decide +kernel
theorem dX0_supervise_88 : decode cX0_supervise 88 = .ok (.getfield 18, 3) := by decide +kernel
theorem dX0_supervise_91 : decode cX0_supervise 91 = .ok (.iconst 4, 1) := by decide +kernel
theorem dX0_supervise_92 : decode cX0_supervise 92 = .ok (.iaload, 1) := by decide +kernel
theorem dX0_supervise_93 : decode cX0_supervise 93 = .ok (.if_icmp .gt 20, 3) := by decide +kernel
theorem dX0_supervise_96 : decode cX0_supervise 96 = .ok (.aload_n 0, 1) := by decide +kernel
theorem dX0_supervise_97 : decode cX0_supervise 97 = .ok (.getfield 58, 3) := by decide +kernel
theorem dX0_supervise_100 : decode cX0_supervise 100 = .ok (.aload_n 0, 1) := by decide +kernel
theorem dX0_supervise_101 : decode cX0_supervise 101 = .ok (.getfield 18, 3) := by decide +kernel
theorem dX0_supervise_104 : decode cX0_supervise 104 = .ok (.iconst 3, 1) := by decide +kernel
theorem dX0_supervise_105 : decode cX0_supervise 105 = .ok (.iaload, 1) := by decide +kernel
theorem dX0_supervise_106 : decode cX0_supervise 106 = .ok (.if_icmp .lt 7, 3) := by decide +kernel
theorem dX0_supervise_109 : decode cX0_supervise 109 = .ok (.iconst 1, 1) := by decide +kernel
theorem dX0_supervise_110 : decode cX0_supervise 110 = .ok (.goto 4, 3) := by decide +kernel
theorem dX0_supervise_113 : decode cX0_supervise 113 = .ok (.iconst 0, 1) := by decide +kernel
theorem dX0_supervise_114 : decode cX0_supervise 114 = .ok (.ireturn, 1) := by decide +kernel
theorem dX0_watch_0 : decode cX0_watch 0 = .ok (.iload_n 1, 1) := by decide +kernel
theorem dX0_watch_1 : decode cX0_watch 1 = .ok (.ifCond .eq 18, 3) := by decide +kernel
theorem dX0_watch_4 : decode cX0_watch 4 = .ok (.aload_n 0, 1) := by decide +kernel
theorem dX0_watch_5 : decode cX0_watch 5 = .ok (.getfield 58, 3) := by decide +kernel
theorem dX0_watch_8 : decode cX0_watch 8 = .ok (.aload_n 0, 1) := by decide +kernel
theorem dX0_watch_9 : decode cX0_watch 9 = .ok (.getfield 18, 3) := by decide +kernel
theorem dX0_watch_12 : decode cX0_watch 12 = .ok (.iconst 0, 1) := by decide +kernel
theorem dX0_watch_13 : decode cX0_watch 13 = .ok (.iaload, 1) := by decide +kernel
theorem dX0_watch_14 : decode cX0_watch 14 = .ok (.if_icmp .ge 5, 3) := by decide +kernel
theorem dX0_watch_17 : decode cX0_watch 17 = .ok (.iconst 1, 1) := by decide +kernel
theorem dX0_watch_18 : decode cX0_watch 18 = .ok (.ireturn, 1) := by decide +kernel
theorem dX0_watch_19 : decode cX0_watch 19 = .ok (.iload_n 1, 1) := by decide +kernel
theorem dX0_watch_20 : decode cX0_watch 20 = .ok (.ifCond .eq 10, 3) := by decide +kernel
theorem dX0_watch_23 : decode cX0_watch 23 = .ok (.aload_n 0, 1) := by decide +kernel
theorem dX0_watch_24 : decode cX0_watch 24 = .ok (.iconst 0, 1) := by decide +kernel
theorem dX0_watch_25 : decode cX0_watch 25 = .ok (.putfield 58, 3) := by decide +kernel
theorem dX0_watch_28 : decode cX0_watch 28 = .ok (.iconst 0, 1) := by decide +kernel
theorem dX0_watch_29 : decode cX0_watch 29 = .ok (.ireturn, 1) := by decide +kernel
theorem dX0_watch_30 : decode cX0_watch 30 = .ok (.aload_n 0, 1) := by decide +kernel
theorem dX0_watch_31 : decode cX0_watch 31 = .ok (.getfield 58, 3) := by decide +kernel
theorem dX0_watch_34 : decode cX0_watch 34 = .ok (.aload_n 0, 1) := by decide +kernel
theorem dX0_watch_35 : decode cX0_watch 35 = .ok (.getfield 18, 3) := by decide +kernel
theorem dX0_watch_38 : decode cX0_watch 38 = .ok (.iconst 1, 1) := by decide +kernel
theorem dX0_watch_39 : decode cX0_watch 39 = .ok (.iaload, 1) := by decide +kernel
theorem dX0_watch_40 : decode cX0_watch 40 = .ok (.if_icmp .le 7, 3) := by decide +kernel
theorem dX0_watch_43 : decode cX0_watch 43 = .ok (.iconst 2, 1) := by decide +kernel
theorem dX0_watch_44 : decode cX0_watch 44 = .ok (.goto 4, 3) := by decide +kernel
theorem dX0_watch_47 : decode cX0_watch 47 = .ok (.iconst 0, 1) := by decide +kernel
theorem dX0_watch_48 : decode cX0_watch 48 = .ok (.ireturn, 1) := by decide +kernel
theorem dX0_fall_0 : decode cX0_fall 0 = .ok (.aload_n 0, 1) := by decide +kernel
theorem dX0_fall_1 : decode cX0_fall 1 = .ok (.getfield 32, 3) := by decide +kernel
theorem dX0_fall_4 : decode cX0_fall 4 = .ok (.iload_n 1, 1) := by decide +kernel
theorem dX0_fall_5 : decode cX0_fall 5 = .ok (.aload_n 0, 1) := by decide +kernel
theorem dX0_fall_6 : decode cX0_fall 6 = .ok (.getfield 40, 3) := by decide +kernel
theorem dX0_fall_9 : decode cX0_fall 9 = .ok (.iload_n 2, 1) := by decide +kernel
theorem dX0_fall_10 : decode cX0_fall 10 = .ok (.aload_n 0, 1) := by decide +kernel
theorem dX0_fall_11 : decode cX0_fall 11 = .ok (.getfield 46, 3) := by decide +kernel
theorem dX0_fall_14 : decode cX0_fall 14 = .ok (.aload_n 0, 1) := by decide +kernel
theorem dX0_fall_15 : decode cX0_fall 15 = .ok (.getfield 55, 3) := by decide +kernel
theorem dX0_fall_18 : decode cX0_fall 18 = .ok (.invokevirtual 134, 3) := by decide +kernel
theorem dX0_fall_21 : decode cX0_fall 21 = .ok (.iload_n 2, 1) := by decide +kernel
theorem dX0_fall_22 : decode cX0_fall 22 = .ok (.ifCond .lt 26, 3) := by decide +kernel
theorem dX0_fall_25 : decode cX0_fall 25 = .ok (.iload_n 2, 1) := by decide +kernel
theorem dX0_fall_26 : decode cX0_fall 26 = .ok (.aload_n 0, 1) := by decide +kernel
theorem dX0_fall_27 : decode cX0_fall 27 = .ok (.getfield 36, 3) := by decide +kernel
theorem dX0_fall_30 : decode cX0_fall 30 = .ok (.if_icmp .ge 18, 3) := by decide +kernel
theorem dX0_fall_33 : decode cX0_fall 33 = .ok (.aload_n 0, 1) := by decide +kernel
theorem dX0_fall_34 : decode cX0_fall 34 = .ok (.getfield 25, 3) := by decide +kernel
theorem dX0_fall_37 : decode cX0_fall 37 = .ok (.iload_n 2, 1) := by decide +kernel
theorem dX0_fall_38 : decode cX0_fall 38 = .ok (.aaload, 1) := by decide +kernel
theorem dX0_fall_39 : decode cX0_fall 39 = .ok (.dup, 1) := by decide +kernel
theorem dX0_fall_40 : decode cX0_fall 40 = .ok (.getfield 138, 3) := by decide +kernel
theorem dX0_fall_43 : decode cX0_fall 43 = .ok (.iconst 1, 1) := by decide +kernel
theorem dX0_fall_44 : decode cX0_fall 44 = .ok (.iadd, 1) := by decide +kernel
theorem dX0_fall_45 : decode cX0_fall 45 = .ok (.putfield 138, 3) := by decide +kernel
theorem dX0_fall_48 : decode cX0_fall 48 = .ok (.aload_n 0, 1) := by decide +kernel
theorem dX0_fall_49 : decode cX0_fall 49 = .ok (.dup, 1) := by decide +kernel
theorem dX0_fall_50 : decode cX0_fall 50 = .ok (.getfield 49, 3) := by decide +kernel
theorem dX0_fall_53 : decode cX0_fall 53 = .ok (.iconst 1, 1) := by decide +kernel
theorem dX0_fall_54 : decode cX0_fall 54 = .ok (.iadd, 1) := by decide +kernel
theorem dX0_fall_55 : decode cX0_fall 55 = .ok (.putfield 49, 3) := by decide +kernel
theorem dX0_fall_58 : decode cX0_fall 58 = .ok (.aload_n 0, 1) := by decide +kernel
theorem dX0_fall_59 : decode cX0_fall 59 = .ok (.getfield 49, 3) := by decide +kernel
theorem dX0_fall_62 : decode cX0_fall 62 = .ok (.aload_n 0, 1) := by decide +kernel
theorem dX0_fall_63 : decode cX0_fall 63 = .ok (.getfield 18, 3) := by decide +kernel
theorem dX0_fall_66 : decode cX0_fall 66 = .ok (.bipush 7, 2) := by decide +kernel
theorem dX0_fall_68 : decode cX0_fall 68 = .ok (.iaload, 1) := by decide +kernel
theorem dX0_fall_69 : decode cX0_fall 69 = .ok (.if_icmp .lt 7, 3) := by decide +kernel
theorem dX0_fall_72 : decode cX0_fall 72 = .ok (.iconst 1, 1) := by decide +kernel
theorem dX0_fall_73 : decode cX0_fall 73 = .ok (.goto 4, 3) := by decide +kernel
theorem dX0_fall_76 : decode cX0_fall 76 = .ok (.iconst 0, 1) := by decide +kernel
theorem dX0_fall_77 : decode cX0_fall 77 = .ok (.istore_n 3, 1) := by decide +kernel
theorem dX0_fall_78 : decode cX0_fall 78 = .ok (.iload_n 3, 1) := by decide +kernel
theorem dX0_fall_79 : decode cX0_fall 79 = .ok (.ifCond .eq 17, 3) := by decide +kernel
theorem dX0_fall_82 : decode cX0_fall 82 = .ok (.aload_n 0, 1) := by decide +kernel
theorem dX0_fall_83 : decode cX0_fall 83 = .ok (.getfield 46, 3) := by decide +kernel
theorem dX0_fall_86 : decode cX0_fall 86 = .ok (.iconst 1, 1) := by decide +kernel
theorem dX0_fall_87 : decode cX0_fall 87 = .ok (.if_icmp .ne 9, 3) := by decide +kernel
theorem dX0_fall_90 : decode cX0_fall 90 = .ok (.aload_n 0, 1) := by decide +kernel
theorem dX0_fall_91 : decode cX0_fall 91 = .ok (.iconst 2, 1) := by decide +kernel
theorem dX0_fall_92 : decode cX0_fall 92 = .ok (.putfield 43, 3) := by decide +kernel
theorem dX0_fall_95 : decode cX0_fall 95 = .ok (.return_, 1) := by decide +kernel
theorem dX0_fall_96 : decode cX0_fall 96 = .ok (.iload_n 3, 1) := by decide +kernel
theorem dX0_fall_97 : decode cX0_fall 97 = .ok (.ifCond .eq 13, 3) := by decide +kernel
theorem dX0_fall_100 : decode cX0_fall 100 = .ok (.aload_n 0, 1) := by decide +kernel
theorem dX0_fall_101 : decode cX0_fall 101 = .ok (.iconst 1, 1) := by decide +kernel
theorem dX0_fall_102 : decode cX0_fall 102 = .ok (.putfield 46, 3) := by decide +kernel
theorem dX0_fall_105 : decode cX0_fall 105 = .ok (.aload_n 0, 1) := by decide +kernel
theorem dX0_fall_106 : decode cX0_fall 106 = .ok (.iconst 0, 1) := by decide +kernel
theorem dX0_fall_107 : decode cX0_fall 107 = .ok (.putfield 49, 3) := by decide +kernel
theorem dX0_fall_110 : decode cX0_fall 110 = .ok (.aload_n 0, 1) := by decide +kernel
theorem dX0_fall_111 : decode cX0_fall 111 = .ok (.invokevirtual 85, 3) := by decide +kernel
theorem dX0_fall_114 : decode cX0_fall 114 = .ok (.return_, 1) := by decide +kernel
theorem dX1_init_0 : decode cX1_init 0 = .ok (.aload_n 0, 1) := by decide +kernel
theorem dX1_init_1 : decode cX1_init 1 = .ok (.invokespecial 3, 3) := by decide +kernel
theorem dX1_init_4 : decode cX1_init 4 = .ok (.aload_n 0, 1) := by decide +kernel
theorem dX1_init_5 : decode cX1_init 5 = .ok (.bipush 80, 2) := by decide +kernel
theorem dX1_init_7 : decode cX1_init 7 = .ok (.newarray .int, 2) := by decide +kernel
theorem dX1_init_9 : decode cX1_init 9 = .ok (.putfield 9, 3) := by decide +kernel
theorem dX1_init_12 : decode cX1_init 12 = .ok (.aload_n 0, 1) := by decide +kernel
theorem dX1_init_13 : decode cX1_init 13 = .ok (.iconst 0, 1) := by decide +kernel
theorem dX1_init_14 : decode cX1_init 14 = .ok (.putfield 15, 3) := by decide +kernel
theorem dX1_init_17 : decode cX1_init 17 = .ok (.return_, 1) := by decide +kernel
theorem dX1_add_0 : decode cX1_add 0 = .ok (.aload_n 0, 1) := by decide +kernel
theorem dX1_add_1 : decode cX1_add 1 = .ok (.getfield 15, 3) := by decide +kernel
theorem dX1_add_4 : decode cX1_add 4 = .ok (.bipush 16, 2) := by decide +kernel
theorem dX1_add_6 : decode cX1_add 6 = .ok (.irem, 1) := by decide +kernel
theorem dX1_add_7 : decode cX1_add 7 = .ok (.iconst 5, 1) := by decide +kernel
theorem dX1_add_8 : decode cX1_add 8 = .ok (.imul, 1) := by decide +kernel
theorem dX1_add_9 : decode cX1_add 9 = .ok (.istore 6, 2) := by decide +kernel
theorem dX1_add_11 : decode cX1_add 11 = .ok (.aload_n 0, 1) := by decide +kernel
theorem dX1_add_12 : decode cX1_add 12 = .ok (.getfield 9, 3) := by decide +kernel
theorem dX1_add_15 : decode cX1_add 15 = .ok (.iload 6, 2) := by decide +kernel
theorem dX1_add_17 : decode cX1_add 17 = .ok (.iload_n 1, 1) := by decide +kernel
theorem dX1_add_18 : decode cX1_add 18 = .ok (.iastore, 1) := by decide +kernel
theorem dX1_add_19 : decode cX1_add 19 = .ok (.aload_n 0, 1) := by decide +kernel
theorem dX1_add_20 : decode cX1_add 20 = .ok (.getfield 9, 3) := by decide +kernel
theorem dX1_add_23 : decode cX1_add 23 = .ok (.iload 6, 2) := by decide +kernel
theorem dX1_add_25 : decode cX1_add 25 = .ok (.iconst 1, 1) := by decide +kernel
theorem dX1_add_26 : decode cX1_add 26 = .ok (.iadd, 1) := by decide +kernel
theorem dX1_add_27 : decode cX1_add 27 = .ok (.iload_n 2, 1) := by decide +kernel
theorem dX1_add_28 : decode cX1_add 28 = .ok (.iastore, 1) := by decide +kernel
theorem dX1_add_29 : decode cX1_add 29 = .ok (.aload_n 0, 1) := by decide +kernel
theorem dX1_add_30 : decode cX1_add 30 = .ok (.getfield 9, 3) := by decide +kernel
theorem dX1_add_33 : decode cX1_add 33 = .ok (.iload 6, 2) := by decide +kernel
theorem dX1_add_35 : decode cX1_add 35 = .ok (.iconst 2, 1) := by decide +kernel
theorem dX1_add_36 : decode cX1_add 36 = .ok (.iadd, 1) := by decide +kernel
theorem dX1_add_37 : decode cX1_add 37 = .ok (.iload_n 3, 1) := by decide +kernel
theorem dX1_add_38 : decode cX1_add 38 = .ok (.iastore, 1) := by decide +kernel
theorem dX1_add_39 : decode cX1_add 39 = .ok (.aload_n 0, 1) := by decide +kernel
theorem dX1_add_40 : decode cX1_add 40 = .ok (.getfield 9, 3) := by decide +kernel
theorem dX1_add_43 : decode cX1_add 43 = .ok (.iload 6, 2) := by decide +kernel
theorem dX1_add_45 : decode cX1_add 45 = .ok (.iconst 3, 1) := by decide +kernel
theorem dX1_add_46 : decode cX1_add 46 = .ok (.iadd, 1) := by decide +kernel
theorem dX1_add_47 : decode cX1_add 47 = .ok (.iload 4, 2) := by decide +kernel
theorem dX1_add_49 : decode cX1_add 49 = .ok (.iastore, 1) := by decide +kernel
theorem dX1_add_50 : decode cX1_add 50 = .ok (.aload_n 0, 1) := by decide +kernel
theorem dX1_add_51 : decode cX1_add 51 = .ok (.getfield 9, 3) := by decide +kernel
theorem dX1_add_54 : decode cX1_add 54 = .ok (.iload 6, 2) := by decide +kernel
theorem dX1_add_56 : decode cX1_add 56 = .ok (.iconst 4, 1) := by decide +kernel
theorem dX1_add_57 : decode cX1_add 57 = .ok (.iadd, 1) := by decide +kernel
theorem dX1_add_58 : decode cX1_add 58 = .ok (.iload 5, 2) := by decide +kernel
theorem dX1_add_60 : decode cX1_add 60 = .ok (.iastore, 1) := by decide +kernel
theorem dX1_add_61 : decode cX1_add 61 = .ok (.aload_n 0, 1) := by decide +kernel
theorem dX1_add_62 : decode cX1_add 62 = .ok (.dup, 1) := by decide +kernel
theorem dX1_add_63 : decode cX1_add 63 = .ok (.getfield 15, 3) := by decide +kernel
theorem dX1_add_66 : decode cX1_add 66 = .ok (.iconst 1, 1) := by decide +kernel
theorem dX1_add_67 : decode cX1_add 67 = .ok (.iadd, 1) := by decide +kernel
theorem dX1_add_68 : decode cX1_add 68 = .ok (.putfield 15, 3) := by decide +kernel
theorem dX1_add_71 : decode cX1_add 71 = .ok (.return_, 1) := by decide +kernel
theorem dX1_property_0 : decode cX1_property 0 = .ok (.iload_n 1, 1) := by decide +kernel
theorem dX1_property_1 : decode cX1_property 1 = .ok (.ifCond .lt 31, 3) := by decide +kernel
theorem dX1_property_4 : decode cX1_property 4 = .ok (.iload_n 1, 1) := by decide +kernel
theorem dX1_property_5 : decode cX1_property 5 = .ok (.aload_n 0, 1) := by decide +kernel
theorem dX1_property_6 : decode cX1_property 6 = .ok (.getfield 15, 3) := by decide +kernel
theorem dX1_property_9 : decode cX1_property 9 = .ok (.if_icmp .ge 23, 3) := by decide +kernel
theorem dX1_property_12 : decode cX1_property 12 = .ok (.iload_n 1, 1) := by decide +kernel
theorem dX1_property_13 : decode cX1_property 13 = .ok (.aload_n 0, 1) := by decide +kernel
theorem dX1_property_14 : decode cX1_property 14 = .ok (.getfield 15, 3) := by decide +kernel
theorem dX1_property_17 : decode cX1_property 17 = .ok (.bipush 16, 2) := by decide +kernel
theorem dX1_property_19 : decode cX1_property 19 = .ok (.isub, 1) := by decide +kernel
theorem dX1_property_20 : decode cX1_property 20 = .ok (.if_icmp .lt 12, 3) := by decide +kernel
theorem dX1_property_23 : decode cX1_property 23 = .ok (.iload_n 2, 1) := by decide +kernel
theorem dX1_property_24 : decode cX1_property 24 = .ok (.iconst 0, 1) := by decide +kernel
theorem dX1_property_25 : decode cX1_property 25 = .ok (.iconst 4, 1) := by decide +kernel
theorem dX1_property_26 : decode cX1_property 26 = .ok (.invokestatic 19, 3) := by decide +kernel
theorem dX1_property_29 : decode cX1_property 29 = .ok (.ifCond .ne 6, 3) := by decide +kernel
theorem dX1_property_32 : decode cX1_property 32 = .ok (.bipush (-6), 2) := by decide +kernel
theorem dX1_property_34 : decode cX1_property 34 = .ok (.ireturn, 1) := by decide +kernel
theorem dX1_property_35 : decode cX1_property 35 = .ok (.aload_n 0, 1) := by decide +kernel
theorem dX1_property_36 : decode cX1_property 36 = .ok (.getfield 9, 3) := by decide +kernel
theorem dX1_property_39 : decode cX1_property 39 = .ok (.iload_n 1, 1) := by decide +kernel
theorem dX1_property_40 : decode cX1_property 40 = .ok (.bipush 16, 2) := by decide +kernel
theorem dX1_property_42 : decode cX1_property 42 = .ok (.irem, 1) := by decide +kernel
theorem dX1_property_43 : decode cX1_property 43 = .ok (.iconst 5, 1) := by decide +kernel
theorem dX1_property_44 : decode cX1_property 44 = .ok (.imul, 1) := by decide +kernel
theorem dX1_property_45 : decode cX1_property 45 = .ok (.iload_n 2, 1) := by decide +kernel
theorem dX1_property_46 : decode cX1_property 46 = .ok (.iadd, 1) := by decide +kernel
theorem dX1_property_47 : decode cX1_property 47 = .ok (.iaload, 1) := by decide +kernel
theorem dX1_property_48 : decode cX1_property 48 = .ok (.ireturn, 1) := by decide +kernel
theorem dX1_become_0 : decode cX1_become 0 = .ok (.aload_n 1, 1) := by decide +kernel
theorem dX1_become_1 : decode cX1_become 1 = .ok (.getfield 9, 3) := by decide +kernel
theorem dX1_become_4 : decode cX1_become 4 = .ok (.iconst 0, 1) := by decide +kernel
theorem dX1_become_5 : decode cX1_become 5 = .ok (.aload_n 0, 1) := by decide +kernel
theorem dX1_become_6 : decode cX1_become 6 = .ok (.getfield 9, 3) := by decide +kernel
theorem dX1_become_9 : decode cX1_become 9 = .ok (.iconst 0, 1) := by decide +kernel
theorem dX1_become_10 : decode cX1_become 10 = .ok (.bipush 80, 2) := by decide +kernel
theorem dX1_become_12 : decode cX1_become 12 = .ok (.invokestatic 23, 3) := by decide +kernel
theorem dX1_become_15 : decode cX1_become 15 = .ok (.aload_n 0, 1) := by decide +kernel
theorem dX1_become_16 : decode cX1_become 16 = .ok (.aload_n 1, 1) := by decide +kernel
theorem dX1_become_17 : decode cX1_become 17 = .ok (.getfield 15, 3) := by decide +kernel
theorem dX1_become_20 : decode cX1_become 20 = .ok (.putfield 15, 3) := by decide +kernel
theorem dX1_become_23 : decode cX1_become 23 = .ok (.return_, 1) := by decide +kernel
theorem dX2_init_0 : decode cX2_init 0 = .ok (.aload_n 0, 1) := by decide +kernel
theorem dX2_init_1 : decode cX2_init 1 = .ok (.invokespecial 3, 3) := by decide +kernel
theorem dX2_init_4 : decode cX2_init 4 = .ok (.aload_n 0, 1) := by decide +kernel
theorem dX2_init_5 : decode cX2_init 5 = .ok (.bipush 60, 2) := by decide +kernel
theorem dX2_init_7 : decode cX2_init 7 = .ok (.newarray .char, 2) := by decide +kernel
theorem dX2_init_9 : decode cX2_init 9 = .ok (.putfield 9, 3) := by decide +kernel
theorem dX2_init_12 : decode cX2_init 12 = .ok (.aload_n 0, 1) := by decide +kernel
theorem dX2_init_13 : decode cX2_init 13 = .ok (.iconst 0, 1) := by decide +kernel
theorem dX2_init_14 : decode cX2_init 14 = .ok (.putfield 15, 3) := by decide +kernel
theorem dX2_init_17 : decode cX2_init 17 = .ok (.aload_n 0, 1) := by decide +kernel
theorem dX2_init_18 : decode cX2_init 18 = .ok (.iconst 0, 1) := by decide +kernel
theorem dX2_init_19 : decode cX2_init 19 = .ok (.putfield 19, 3) := by decide +kernel
theorem dX2_init_22 : decode cX2_init 22 = .ok (.aload_n 0, 1) := by decide +kernel
theorem dX2_init_23 : decode cX2_init 23 = .ok (.iconst 0, 1) := by decide +kernel
theorem dX2_init_24 : decode cX2_init 24 = .ok (.putfield 22, 3) := by decide +kernel
theorem dX2_init_27 : decode cX2_init 27 = .ok (.aload_n 0, 1) := by decide +kernel
theorem dX2_init_28 : decode cX2_init 28 = .ok (.bipush 20, 2) := by decide +kernel
theorem dX2_init_30 : decode cX2_init 30 = .ok (.newarray .int, 2) := by decide +kernel
theorem dX2_init_32 : decode cX2_init 32 = .ok (.putfield 25, 3) := by decide +kernel
theorem dX2_init_35 : decode cX2_init 35 = .ok (.aload_n 0, 1) := by decide +kernel
theorem dX2_init_36 : decode cX2_init 36 = .ok (.bipush 20, 2) := by decide +kernel
theorem dX2_init_38 : decode cX2_init 38 = .ok (.newarray .int, 2) := by decide +kernel
theorem dX2_init_40 : decode cX2_init 40 = .ok (.putfield 29, 3) := by decide +kernel
theorem dX2_init_43 : decode cX2_init 43 = .ok (.aload_n 0, 1) := by decide +kernel
theorem dX2_init_44 : decode cX2_init 44 = .ok (.bipush 20, 2) := by decide +kernel
theorem dX2_init_46 : decode cX2_init 46 = .ok (.newarray .int, 2) := by decide +kernel
theorem dX2_init_48 : decode cX2_init 48 = .ok (.putfield 32, 3) := by decide +kernel
theorem dX2_init_51 : decode cX2_init 51 = .ok (.aload_n 0, 1) := by decide +kernel
theorem dX2_init_52 : decode cX2_init 52 = .ok (.bipush 20, 2) := by decide +kernel
theorem dX2_init_54 : decode cX2_init 54 = .ok (.newarray .int, 2) := by decide +kernel
theorem dX2_init_56 : decode cX2_init 56 = .ok (.putfield 35, 3) := by decide +kernel
theorem dX2_init_59 : decode cX2_init 59 = .ok (.aload_n 0, 1) := by decide +kernel
theorem dX2_init_60 : decode cX2_init 60 = .ok (.bipush 20, 2) := by decide +kernel
theorem dX2_init_62 : decode cX2_init 62 = .ok (.newarray .int, 2) := by decide +kernel
theorem dX2_init_64 : decode cX2_init 64 = .ok (.putfield 38, 3) := by decide +kernel
theorem dX2_init_67 : decode cX2_init 67 = .ok (.return_, 1) := by decide +kernel
theorem dX3_init_0 : decode cX3_init 0 = .ok (.aload_n 0, 1) := by decide +kernel
theorem dX3_init_1 : decode cX3_init 1 = .ok (.invokespecial 3, 3) := by decide +kernel
theorem dX3_init_4 : decode cX3_init 4 = .ok (.aload_n 0, 1) := by decide +kernel
theorem dX3_init_5 : decode cX3_init 5 = .ok (.getstatic 9, 3) := by decide +kernel
theorem dX3_init_8 : decode cX3_init 8 = .ok (.invokevirtual 13, 3) := by decide +kernel
theorem dX3_init_11 : decode cX3_init 11 = .ok (.checkcast 14, 3) := by decide +kernel
theorem dX3_init_14 : decode cX3_init 14 = .ok (.putfield 18, 3) := by decide +kernel
theorem dX3_init_17 : decode cX3_init 17 = .ok (.aload_n 0, 1) := by decide +kernel
theorem dX3_init_18 : decode cX3_init 18 = .ok (.iconst 2, 1) := by decide +kernel
theorem dX3_init_19 : decode cX3_init 19 = .ok (.newarray .int, 2) := by decide +kernel
theorem dX3_init_21 : decode cX3_init 21 = .ok (.putfield 23, 3) := by decide +kernel
theorem dX3_init_24 : decode cX3_init 24 = .ok (.aload_n 0, 1) := by decide +kernel
theorem dX3_init_25 : decode cX3_init 25 = .ok (.iconst 2, 1) := by decide +kernel
theorem dX3_init_26 : decode cX3_init 26 = .ok (.newarray .int, 2) := by decide +kernel
theorem dX3_init_28 : decode cX3_init 28 = .ok (.putfield 26, 3) := by decide +kernel
theorem dX3_init_31 : decode cX3_init 31 = .ok (.aload_n 0, 1) := by decide +kernel
theorem dX3_init_32 : decode cX3_init 32 = .ok (.iconst 2, 1) := by decide +kernel
theorem dX3_init_33 : decode cX3_init 33 = .ok (.newarray .int, 2) := by decide +kernel
theorem dX3_init_35 : decode cX3_init 35 = .ok (.putfield 29, 3) := by decide +kernel
theorem dX3_init_38 : decode cX3_init 38 = .ok (.aload_n 0, 1) := by decide +kernel
theorem dX3_init_39 : decode cX3_init 39 = .ok (.iconst 0, 1) := by decide +kernel
theorem dX3_init_40 : decode cX3_init 40 = .ok (.putfield 32, 3) := by decide +kernel
theorem dX3_init_43 : decode cX3_init 43 = .ok (.aload_n 0, 1) := by decide +kernel
theorem dX3_init_44 : decode cX3_init 44 = .ok (.iconst 0, 1) := by decide +kernel
theorem dX3_init_45 : decode cX3_init 45 = .ok (.putfield 36, 3) := by decide +kernel
theorem dX3_init_48 : decode cX3_init 48 = .ok (.aload_n 0, 1) := by decide +kernel
theorem dX3_init_49 : decode cX3_init 49 = .ok (.iconst 0, 1) := by decide +kernel
theorem dX3_init_50 : decode cX3_init 50 = .ok (.putfield 39, 3) := by decide +kernel
theorem dX3_init_53 : decode cX3_init 53 = .ok (.aload_n 0, 1) := by decide +kernel
theorem dX3_init_54 : decode cX3_init 54 = .ok (.iconst 0, 1) := by decide +kernel
theorem dX3_init_55 : decode cX3_init 55 = .ok (.putfield 43, 3) := by decide +kernel
theorem dX3_init_58 : decode cX3_init 58 = .ok (.aload_n 0, 1) := by decide +kernel
theorem dX3_init_59 : decode cX3_init 59 = .ok (.iconst 0, 1) := by decide +kernel
theorem dX3_init_60 : decode cX3_init 60 = .ok (.putfield 46, 3) := by decide +kernel
theorem dX3_init_63 : decode cX3_init 63 = .ok (.aload_n 0, 1) := by decide +kernel
theorem dX3_init_64 : decode cX3_init 64 = .ok (.iconst 0, 1) := by decide +kernel
theorem dX3_init_65 : decode cX3_init 65 = .ok (.putfield 49, 3) := by decide +kernel
theorem dX3_init_68 : decode cX3_init 68 = .ok (.aload_n 0, 1) := by decide +kernel
theorem dX3_init_69 : decode cX3_init 69 = .ok (.iconst 0, 1) := by decide +kernel
theorem dX3_init_70 : decode cX3_init 70 = .ok (.putfield 52, 3) := by decide +kernel
theorem dX3_init_73 : decode cX3_init 73 = .ok (.aload_n 0, 1) := by decide +kernel
theorem dX3_init_74 : decode cX3_init 74 = .ok (.iconst 0, 1) := by decide +kernel
theorem dX3_init_75 : decode cX3_init 75 = .ok (.putfield 55, 3) := by decide +kernel
theorem dX3_init_78 : decode cX3_init 78 = .ok (.aload_n 0, 1) := by decide +kernel
theorem dX3_init_79 : decode cX3_init 79 = .ok (.iconst 0, 1) := by decide +kernel
theorem dX3_init_80 : decode cX3_init 80 = .ok (.putfield 58, 3) := by decide +kernel
theorem dX3_init_83 : decode cX3_init 83 = .ok (.aload_n 0, 1) := by decide +kernel
theorem dX3_init_84 : decode cX3_init 84 = .ok (.iconst 0, 1) := by decide +kernel
theorem dX3_init_85 : decode cX3_init 85 = .ok (.putfield 61, 3) := by decide +kernel
theorem dX3_init_88 : decode cX3_init 88 = .ok (.aload_n 0, 1) := by decide +kernel
theorem dX3_init_89 : decode cX3_init 89 = .ok (.iconst 0, 1) := by decide +kernel
theorem dX3_init_90 : decode cX3_init 90 = .ok (.putfield 64, 3) := by decide +kernel
theorem dX3_init_93 : decode cX3_init 93 = .ok (.aload_n 0, 1) := by decide +kernel
theorem dX3_init_94 : decode cX3_init 94 = .ok (.iconst 0, 1) := by decide +kernel
theorem dX3_init_95 : decode cX3_init 95 = .ok (.putfield 67, 3) := by decide +kernel
theorem dX3_init_98 : decode cX3_init 98 = .ok (.return_, 1) := by decide +kernel
theorem dX3_becomeNew_0 : decode cX3_becomeNew 0 = .ok (.getstatic 9, 3) := by decide +kernel
theorem dX3_becomeNew_3 : decode cX3_becomeNew 3 = .ok (.iconst 0, 1) := by decide +kernel
theorem dX3_becomeNew_4 : decode cX3_becomeNew 4 = .ok (.aload_n 0, 1) := by decide +kernel
theorem dX3_becomeNew_5 : decode cX3_becomeNew 5 = .ok (.getfield 18, 3) := by decide +kernel
theorem dX3_becomeNew_8 : decode cX3_becomeNew 8 = .ok (.iconst 0, 1) := by decide +kernel
theorem dX3_becomeNew_9 : decode cX3_becomeNew 9 = .ok (.bipush 8, 2) := by decide +kernel
theorem dX3_becomeNew_11 : decode cX3_becomeNew 11 = .ok (.invokestatic 70, 3) := by decide +kernel
theorem dX3_becomeNew_14 : decode cX3_becomeNew 14 = .ok (.aload_n 0, 1) := by decide +kernel
theorem dX3_becomeNew_15 : decode cX3_becomeNew 15 = .ok (.getfield 18, 3) := by decide +kernel
theorem dX3_becomeNew_18 : decode cX3_becomeNew 18 = .ok (.iconst 0, 1) := by decide +kernel
theorem dX3_becomeNew_19 : decode cX3_becomeNew 19 = .ok (.iload_n 1, 1) := by decide +kernel
theorem dX3_becomeNew_20 : decode cX3_becomeNew 20 = .ok (.iastore, 1) := by decide +kernel
theorem dX3_becomeNew_21 : decode cX3_becomeNew 21 = .ok (.aload_n 0, 1) := by decide +kernel
theorem dX3_becomeNew_22 : decode cX3_becomeNew 22 = .ok (.getfield 18, 3) := by decide +kernel
theorem dX3_becomeNew_25 : decode cX3_becomeNew 25 = .ok (.iconst 1, 1) := by decide +kernel
theorem dX3_becomeNew_26 : decode cX3_becomeNew 26 = .ok (.iload_n 2, 1) := by decide +kernel
theorem dX3_becomeNew_27 : decode cX3_becomeNew 27 = .ok (.iastore, 1) := by decide +kernel
theorem dX3_becomeNew_28 : decode cX3_becomeNew 28 = .ok (.iconst 0, 1) := by decide +kernel
theorem dX3_becomeNew_29 : decode cX3_becomeNew 29 = .ok (.istore_n 3, 1) := by decide +kernel
theorem dX3_becomeNew_30 : decode cX3_becomeNew 30 = .ok (.iload_n 3, 1) := by decide +kernel
theorem dX3_becomeNew_31 : decode cX3_becomeNew 31 = .ok (.iconst 2, 1) := by decide +kernel
theorem dX3_becomeNew_32 : decode cX3_becomeNew 32 = .ok (.if_icmp .ge 17, 3) := by decide +kernel
theorem dX3_becomeNew_35 : decode cX3_becomeNew 35 = .ok (.aload_n 0, 1) := by decide +kernel
theorem dX3_becomeNew_36 : decode cX3_becomeNew 36 = .ok (.iload_n 3, 1) := by decide +kernel
theorem dX3_becomeNew_37 : decode cX3_becomeNew 37 = .ok (.iconst 0, 1) := by decide +kernel
theorem dX3_becomeNew_38 : decode cX3_becomeNew 38 = .ok (.iconst 0, 1) := by decide +kernel
theorem dX3_becomeNew_39 : decode cX3_becomeNew 39 = .ok (.iconst 0, 1) := by decide +kernel
theorem dX3_becomeNew_40 : decode cX3_becomeNew 40 = .ok (.invokevirtual 76, 3) := by decide +kernel
theorem dX3_becomeNew_43 : decode cX3_becomeNew 43 = .ok (.iinc 3 1, 3) := by decide +kernel
theorem dX3_becomeNew_46 : decode cX3_becomeNew 46 = .ok (.goto (-16), 3) := by decide +kernel
theorem dX3_becomeNew_49 : decode cX3_becomeNew 49 = .ok (.aload_n 0, 1) := by decide +kernel
theorem dX3_becomeNew_50 : decode cX3_becomeNew 50 = .ok (.invokevirtual 80, 3) := by decide +kernel
theorem dX3_becomeNew_53 : decode cX3_becomeNew 53 = .ok (.aload_n 0, 1) := by decide +kernel
theorem dX3_becomeNew_54 : decode cX3_becomeNew 54 = .ok (.invokevirtual 83, 3) := by decide +kernel
theorem dX3_becomeNew_57 : decode cX3_becomeNew 57 = .ok (.return_, 1) := by decide +kernel
theorem dX3_become_0 : decode cX3_become 0 = .ok (.aload_n 1, 1) := by decide +kernel
theorem dX3_become_1 : decode cX3_become 1 = .ok (.getfield 18, 3) := by decide +kernel
theorem dX3_become_4 : decode cX3_become 4 = .ok (.iconst 0, 1) := by decide +kernel
theorem dX3_become_5 : decode cX3_become 5 = .ok (.aload_n 0, 1) := by decide +kernel
theorem dX3_become_6 : decode cX3_become 6 = .ok (.getfield 18, 3) := by decide +kernel
theorem dX3_become_9 : decode cX3_become 9 = .ok (.iconst 0, 1) := by decide +kernel
theorem dX3_become_10 : decode cX3_become 10 = .ok (.bipush 8, 2) := by decide +kernel
theorem dX3_become_12 : decode cX3_become 12 = .ok (.invokestatic 70, 3) := by decide +kernel
theorem dX3_become_15 : decode cX3_become 15 = .ok (.aload_n 1, 1) := by decide +kernel
theorem dX3_become_16 : decode cX3_become 16 = .ok (.getfield 23, 3) := by decide +kernel
theorem dX3_become_19 : decode cX3_become 19 = .ok (.iconst 0, 1) := by decide +kernel
theorem dX3_become_20 : decode cX3_become 20 = .ok (.aload_n 0, 1) := by decide +kernel
theorem dX3_become_21 : decode cX3_become 21 = .ok (.getfield 23, 3) := by decide +kernel
theorem dX3_become_24 : decode cX3_become 24 = .ok (.iconst 0, 1) := by decide +kernel
theorem dX3_become_25 : decode cX3_become 25 = .ok (.iconst 2, 1) := by decide +kernel
theorem dX3_become_26 : decode cX3_become 26 = .ok (.invokestatic 70, 3) := by decide +kernel
theorem dX3_become_29 : decode cX3_become 29 = .ok (.aload_n 1, 1) := by decide +kernel
theorem dX3_become_30 : decode cX3_become 30 = .ok (.getfield 26, 3) := by decide +kernel
theorem dX3_become_33 : decode cX3_become 33 = .ok (.iconst 0, 1) := by decide +kernel
theorem dX3_become_34 : decode cX3_become 34 = .ok (.aload_n 0, 1) := by decide +kernel
theorem dX3_become_35 : decode cX3_become 35 = .ok (.getfield 26, 3) := by decide +kernel
theorem dX3_become_38 : decode cX3_become 38 = .ok (.iconst 0, 1) := by decide +kernel
theorem dX3_become_39 : decode cX3_become 39 = .ok (.iconst 2, 1) := by decide +kernel
theorem dX3_become_40 : decode cX3_become 40 = .ok (.invokestatic 70, 3) := by decide +kernel
theorem dX3_become_43 : decode cX3_become 43 = .ok (.aload_n 1, 1) := by decide +kernel
theorem dX3_become_44 : decode cX3_become 44 = .ok (.getfield 29, 3) := by decide +kernel
theorem dX3_become_47 : decode cX3_become 47 = .ok (.iconst 0, 1) := by decide +kernel
theorem dX3_become_48 : decode cX3_become 48 = .ok (.aload_n 0, 1) := by decide +kernel
theorem dX3_become_49 : decode cX3_become 49 = .ok (.getfield 29, 3) := by decide +kernel
theorem dX3_become_52 : decode cX3_become 52 = .ok (.iconst 0, 1) := by decide +kernel
theorem dX3_become_53 : decode cX3_become 53 = .ok (.iconst 2, 1) := by decide +kernel
theorem dX3_become_54 : decode cX3_become 54 = .ok (.invokestatic 70, 3) := by decide +kernel
theorem dX3_become_57 : decode cX3_become 57 = .ok (.aload_n 0, 1) := by decide +kernel
theorem dX3_become_58 : decode cX3_become 58 = .ok (.aload_n 1, 1) := by decide +kernel
theorem dX3_become_59 : decode cX3_become 59 = .ok (.getfield 32, 3) := by decide +kernel
theorem dX3_become_62 : decode cX3_become 62 = .ok (.putfield 32, 3) := by decide +kernel
theorem dX3_become_65 : decode cX3_become 65 = .ok (.aload_n 0, 1) := by decide +kernel
theorem dX3_become_66 : decode cX3_become 66 = .ok (.aload_n 1, 1) := by decide +kernel
theorem dX3_become_67 : decode cX3_become 67 = .ok (.getfield 36, 3) := by decide +kernel
theorem dX3_become_70 : decode cX3_become 70 = .ok (.putfield 36, 3) := by decide +kernel
theorem dX3_become_73 : decode cX3_become 73 = .ok (.aload_n 0, 1) := by decide +kernel
theorem dX3_become_74 : decode cX3_become 74 = .ok (.aload_n 1, 1) := by decide +kernel
theorem dX3_become_75 : decode cX3_become 75 = .ok (.getfield 39, 3) := by decide +kernel
theorem dX3_become_78 : decode cX3_become 78 = .ok (.putfield 39, 3) := by decide +kernel
theorem dX3_become_81 : decode cX3_become 81 = .ok (.aload_n 0, 1) := by decide +kernel
theorem dX3_become_82 : decode cX3_become 82 = .ok (.aload_n 1, 1) := by decide +kernel
theorem dX3_become_83 : decode cX3_become 83 = .ok (.getfield 43, 3) := by decide +kernel
theorem dX3_become_86 : decode cX3_become 86 = .ok (.putfield 43, 3) := by decide +kernel
theorem dX3_become_89 : decode cX3_become 89 = .ok (.aload_n 0, 1) := by decide +kernel
theorem dX3_become_90 : decode cX3_become 90 = .ok (.aload_n 1, 1) := by decide +kernel
theorem dX3_become_91 : decode cX3_become 91 = .ok (.getfield 46, 3) := by decide +kernel
theorem dX3_become_94 : decode cX3_become 94 = .ok (.putfield 46, 3) := by decide +kernel
theorem dX3_become_97 : decode cX3_become 97 = .ok (.aload_n 0, 1) := by decide +kernel
theorem dX3_become_98 : decode cX3_become 98 = .ok (.aload_n 1, 1) := by decide +kernel
theorem dX3_become_99 : decode cX3_become 99 = .ok (.getfield 49, 3) := by decide +kernel
theorem dX3_become_102 : decode cX3_become 102 = .ok (.putfield 49, 3) := by decide +kernel
theorem dX3_become_105 : decode cX3_become 105 = .ok (.aload_n 0, 1) := by decide +kernel
theorem dX3_become_106 : decode cX3_become 106 = .ok (.aload_n 1, 1) := by decide +kernel
theorem dX3_become_107 : decode cX3_become 107 = .ok (.getfield 52, 3) := by decide +kernel
theorem dX3_become_110 : decode cX3_become 110 = .ok (.putfield 52, 3) := by decide +kernel
theorem dX3_become_113 : decode cX3_become 113 = .ok (.aload_n 0, 1) := by decide +kernel
theorem dX3_become_114 : decode cX3_become 114 = .ok (.aload_n 1, 1) := by decide +kernel
theorem dX3_become_115 : decode cX3_become 115 = .ok (.getfield 55, 3) := by decide +kernel
theorem dX3_become_118 : decode cX3_become 118 = .ok (.putfield 55, 3) := by decide +kernel
theorem dX3_become_121 : decode cX3_become 121 = .ok (.aload_n 0, 1) := by decide +kernel
theorem dX3_become_122 : decode cX3_become 122 = .ok (.aload_n 1, 1) := by decide +kernel
theorem dX3_become_123 : decode cX3_become 123 = .ok (.getfield 58, 3) := by decide +kernel
theorem dX3_become_126 : decode cX3_become 126 = .ok (.putfield 58, 3) := by decide +kernel
theorem dX3_become_129 : decode cX3_become 129 = .ok (.aload_n 0, 1) := by decide +kernel
theorem dX3_become_130 : decode cX3_become 130 = .ok (.aload_n 1, 1) := by decide +kernel
theorem dX3_become_131 : decode cX3_become 131 = .ok (.getfield 61, 3) := by decide +kernel
theorem dX3_become_134 : decode cX3_become 134 = .ok (.putfield 61, 3) := by decide +kernel
theorem dX3_become_137 : decode cX3_become 137 = .ok (.aload_n 0, 1) := by decide +kernel
theorem dX3_become_138 : decode cX3_become 138 = .ok (.aload_n 1, 1) := by decide +kernel
theorem dX3_become_139 : decode cX3_become 139 = .ok (.getfield 64, 3) := by decide +kernel
theorem dX3_become_142 : decode cX3_become 142 = .ok (.putfield 64, 3) := by decide +kernel
theorem dX3_become_145 : decode cX3_become 145 = .ok (.aload_n 0, 1) := by decide +kernel
theorem dX3_become_146 : decode cX3_become 146 = .ok (.aload_n 1, 1) := by decide +kernel
theorem dX3_become_147 : decode cX3_become 147 = .ok (.getfield 67, 3) := by decide +kernel
theorem dX3_become_150 : decode cX3_become 150 = .ok (.putfield 67, 3) := by decide +kernel
theorem dX3_become_153 : decode cX3_become 153 = .ok (.return_, 1) := by decide +kernel
theorem dX3_takeFault_0 : decode cX3_takeFault 0 = .ok (.iload_n 1, 1) := by decide +kernel
theorem dX3_takeFault_1 : decode cX3_takeFault 1 = .ok (.ifCond .lt 8, 3) := by decide +kernel
theorem dX3_takeFault_4 : decode cX3_takeFault 4 = .ok (.iload_n 1, 1) := by decide +kernel
theorem dX3_takeFault_5 : decode cX3_takeFault 5 = .ok (.iconst 2, 1) := by decide +kernel
theorem dX3_takeFault_6 : decode cX3_takeFault 6 = .ok (.if_icmp .lt 4, 3) := by decide +kernel
theorem dX3_takeFault_9 : decode cX3_takeFault 9 = .ok (.return_, 1) := by decide +kernel
theorem dX3_takeFault_10 : decode cX3_takeFault 10 = .ok (.aload_n 0, 1) := by decide +kernel
theorem dX3_takeFault_11 : decode cX3_takeFault 11 = .ok (.getfield 23, 3) := by decide +kernel
theorem dX3_takeFault_14 : decode cX3_takeFault 14 = .ok (.iload_n 1, 1) := by decide +kernel
theorem dX3_takeFault_15 : decode cX3_takeFault 15 = .ok (.iload_n 2, 1) := by decide +kernel
theorem dX3_takeFault_16 : decode cX3_takeFault 16 = .ok (.iastore, 1) := by decide +kernel
theorem dX3_takeFault_17 : decode cX3_takeFault 17 = .ok (.aload_n 0, 1) := by decide +kernel
theorem dX3_takeFault_18 : decode cX3_takeFault 18 = .ok (.getfield 26, 3) := by decide +kernel
theorem dX3_takeFault_21 : decode cX3_takeFault 21 = .ok (.iload_n 1, 1) := by decide +kernel
theorem dX3_takeFault_22 : decode cX3_takeFault 22 = .ok (.iload_n 3, 1) := by decide +kernel
theorem dX3_takeFault_23 : decode cX3_takeFault 23 = .ok (.iastore, 1) := by decide +kernel
theorem dX3_takeFault_24 : decode cX3_takeFault 24 = .ok (.aload_n 0, 1) := by decide +kernel
theorem dX3_takeFault_25 : decode cX3_takeFault 25 = .ok (.getfield 29, 3) := by decide +kernel
theorem dX3_takeFault_28 : decode cX3_takeFault 28 = .ok (.iload_n 1, 1) := by decide +kernel
theorem dX3_takeFault_29 : decode cX3_takeFault 29 = .ok (.iload 4, 2) := by decide +kernel
theorem dX3_takeFault_31 : decode cX3_takeFault 31 = .ok (.iastore, 1) := by decide +kernel
theorem dX3_takeFault_32 : decode cX3_takeFault 32 = .ok (.return_, 1) := by decide +kernel
theorem dX3_beginRun_0 : decode cX3_beginRun 0 = .ok (.aload_n 0, 1) := by decide +kernel
theorem dX3_beginRun_1 : decode cX3_beginRun 1 = .ok (.iconst 0, 1) := by decide +kernel
theorem dX3_beginRun_2 : decode cX3_beginRun 2 = .ok (.putfield 32, 3) := by decide +kernel
theorem dX3_beginRun_5 : decode cX3_beginRun 5 = .ok (.aload_n 0, 1) := by decide +kernel
theorem dX3_beginRun_6 : decode cX3_beginRun 6 = .ok (.iconst 0, 1) := by decide +kernel
theorem dX3_beginRun_7 : decode cX3_beginRun 7 = .ok (.putfield 46, 3) := by decide +kernel
theorem dX3_beginRun_10 : decode cX3_beginRun 10 = .ok (.aload_n 0, 1) := by decide +kernel
theorem dX3_beginRun_11 : decode cX3_beginRun 11 = .ok (.iconst 0, 1) := by decide +kernel
theorem dX3_beginRun_12 : decode cX3_beginRun 12 = .ok (.putfield 49, 3) := by decide +kernel
theorem dX3_beginRun_15 : decode cX3_beginRun 15 = .ok (.aload_n 0, 1) := by decide +kernel
theorem dX3_beginRun_16 : decode cX3_beginRun 16 = .ok (.iconst 0, 1) := by decide +kernel
theorem dX3_beginRun_17 : decode cX3_beginRun 17 = .ok (.putfield 52, 3) := by decide +kernel
theorem dX3_beginRun_20 : decode cX3_beginRun 20 = .ok (.aload_n 0, 1) := by decide +kernel
theorem dX3_beginRun_21 : decode cX3_beginRun 21 = .ok (.iconst 0, 1) := by decide +kernel
theorem dX3_beginRun_22 : decode cX3_beginRun 22 = .ok (.putfield 55, 3) := by decide +kernel
theorem dX3_beginRun_25 : decode cX3_beginRun 25 = .ok (.return_, 1) := by decide +kernel
theorem dX3_clearDiagnostic_0 : decode cX3_clearDiagnostic 0 = .ok (.aload_n 0, 1) := by decide +kernel
theorem dX3_clearDiagnostic_1 : decode cX3_clearDiagnostic 1 = .ok (.iconst 0, 1) := by decide +kernel
theorem dX3_clearDiagnostic_2 : decode cX3_clearDiagnostic 2 = .ok (.putfield 58, 3) := by decide +kernel
theorem dX3_clearDiagnostic_5 : decode cX3_clearDiagnostic 5 = .ok (.aload_n 0, 1) := by decide +kernel
theorem dX3_clearDiagnostic_6 : decode cX3_clearDiagnostic 6 = .ok (.iconst 0, 1) := by decide +kernel
theorem dX3_clearDiagnostic_7 : decode cX3_clearDiagnostic 7 = .ok (.putfield 61, 3) := by decide +kernel
theorem dX3_clearDiagnostic_10 : decode cX3_clearDiagnostic 10 = .ok (.aload_n 0, 1) := by decide +kernel
theorem dX3_clearDiagnostic_11 : decode cX3_clearDiagnostic 11 = .ok (.iconst 0, 1) := by decide +kernel
theorem dX3_clearDiagnostic_12 : decode cX3_clearDiagnostic 12 = .ok (.putfield 67, 3) := by decide +kernel
theorem dX3_clearDiagnostic_15 : decode cX3_clearDiagnostic 15 = .ok (.return_, 1) := by decide +kernel
theorem dX3_momentary_0 : decode cX3_momentary 0 = .ok (.iload_n 1, 1) := by decide +kernel
theorem dX3_momentary_1 : decode cX3_momentary 1 = .ok (.tableswitch 94 8 12 #[35, 48, 71, 76, 81], 35) := by decide +kernel
theorem dX3_momentary_36 : decode cX3_momentary 36 = .ok (.aload_n 0, 1) := by decide +kernel
theorem dX3_momentary_37 : decode cX3_momentary 37 = .ok (.getfield 32, 3) := by decide +kernel
theorem dX3_momentary_40 : decode cX3_momentary 40 = .ok (.ifCond .eq 7, 3) := by decide +kernel
theorem dX3_momentary_43 : decode cX3_momentary 43 = .ok (.iconst 1, 1) := by decide +kernel
theorem dX3_momentary_44 : decode cX3_momentary 44 = .ok (.goto 4, 3) := by decide +kernel
theorem dX3_momentary_47 : decode cX3_momentary 47 = .ok (.iconst 0, 1) := by decide +kernel
theorem dX3_momentary_48 : decode cX3_momentary 48 = .ok (.ireturn, 1) := by decide +kernel
theorem dX3_momentary_49 : decode cX3_momentary 49 = .ok (.aload_n 0, 1) := by decide +kernel
theorem dX3_momentary_50 : decode cX3_momentary 50 = .ok (.getfield 32, 3) := by decide +kernel
theorem dX3_momentary_53 : decode cX3_momentary 53 = .ok (.ifCond .eq 17, 3) := by decide +kernel
theorem dX3_momentary_56 : decode cX3_momentary 56 = .ok (.aload_n 0, 1) := by decide +kernel
theorem dX3_momentary_57 : decode cX3_momentary 57 = .ok (.getfield 36, 3) := by decide +kernel
theorem dX3_momentary_60 : decode cX3_momentary 60 = .ok (.ifCond .ne 10, 3) := by decide +kernel
theorem dX3_momentary_63 : decode cX3_momentary 63 = .ok (.aload_n 0, 1) := by decide +kernel
theorem dX3_momentary_64 : decode cX3_momentary 64 = .ok (.getfield 43, 3) := by decide +kernel
theorem dX3_momentary_67 : decode cX3_momentary 67 = .ok (.goto 4, 3) := by decide +kernel
theorem dX3_momentary_70 : decode cX3_momentary 70 = .ok (.iconst 0, 1) := by decide +kernel
theorem dX3_momentary_71 : decode cX3_momentary 71 = .ok (.ireturn, 1) := by decide +kernel
theorem dX3_momentary_72 : decode cX3_momentary 72 = .ok (.aload_n 0, 1) := by decide +kernel
theorem dX3_momentary_73 : decode cX3_momentary 73 = .ok (.getfield 46, 3) := by decide +kernel
theorem dX3_momentary_76 : decode cX3_momentary 76 = .ok (.ireturn, 1) := by decide +kernel
theorem dX3_momentary_77 : decode cX3_momentary 77 = .ok (.aload_n 0, 1) := by decide +kernel
theorem dX3_momentary_78 : decode cX3_momentary 78 = .ok (.getfield 49, 3) := by decide +kernel
theorem dX3_momentary_81 : decode cX3_momentary 81 = .ok (.ireturn, 1) := by decide +kernel
theorem dX3_momentary_82 : decode cX3_momentary 82 = .ok (.aload_n 0, 1) := by decide +kernel
theorem dX3_momentary_83 : decode cX3_momentary 83 = .ok (.getfield 52, 3) := by decide +kernel
theorem dX3_momentary_86 : decode cX3_momentary 86 = .ok (.ifCond .eq 7, 3) := by decide +kernel
theorem dX3_momentary_89 : decode cX3_momentary 89 = .ok (.iconst 1, 1) := by decide +kernel
theorem dX3_momentary_90 : decode cX3_momentary 90 = .ok (.goto 4, 3) := by decide +kernel
theorem dX3_momentary_93 : decode cX3_momentary 93 = .ok (.iconst 0, 1) := by decide +kernel
theorem dX3_momentary_94 : decode cX3_momentary 94 = .ok (.ireturn, 1) := by decide +kernel
theorem dX3_momentary_95 : decode cX3_momentary 95 = .ok (.aload_n 0, 1) := by decide +kernel
theorem dX3_momentary_96 : decode cX3_momentary 96 = .ok (.getfield 55, 3) := by decide +kernel
theorem dX3_momentary_99 : decode cX3_momentary 99 = .ok (.ifCond .eq 7, 3) := by decide +kernel
theorem dX3_momentary_102 : decode cX3_momentary 102 = .ok (.iconst 1, 1) := by decide +kernel
theorem dX3_momentary_103 : decode cX3_momentary 103 = .ok (.goto 4, 3) := by decide +kernel
theorem dX3_momentary_106 : decode cX3_momentary 106 = .ok (.iconst 0, 1) := by decide +kernel
theorem dX3_momentary_107 : decode cX3_momentary 107 = .ok (.ireturn, 1) := by decide +kernel
theorem dX3_crashesInTick_0 : decode cX3_crashesInTick 0 = .ok (.aload_n 0, 1) := by decide +kernel
theorem dX3_crashesInTick_1 : decode cX3_crashesInTick 1 = .ok (.getfield 32, 3) := by decide +kernel
theorem dX3_crashesInTick_4 : decode cX3_crashesInTick 4 = .ok (.ifCond .eq 36, 3) := by decide +kernel
theorem dX3_crashesInTick_7 : decode cX3_crashesInTick 7 = .ok (.aload_n 0, 1) := by decide +kernel
theorem dX3_crashesInTick_8 : decode cX3_crashesInTick 8 = .ok (.getfield 36, 3) := by decide +kernel
theorem dX3_crashesInTick_11 : decode cX3_crashesInTick 11 = .ok (.ifCond .ne 29, 3) := by decide +kernel
theorem dX3_crashesInTick_14 : decode cX3_crashesInTick 14 = .ok (.aload_n 0, 1) := by decide +kernel
theorem dX3_crashesInTick_15 : decode cX3_crashesInTick 15 = .ok (.dup, 1) := by decide +kernel
theorem dX3_crashesInTick_16 : decode cX3_crashesInTick 16 = .ok (.getfield 43, 3) := by decide +kernel
theorem dX3_crashesInTick_19 : decode cX3_crashesInTick 19 = .ok (.iconst 1, 1) := by decide +kernel
theorem dX3_crashesInTick_20 : decode cX3_crashesInTick 20 = .ok (.isub, 1) := by decide +kernel
theorem dX3_crashesInTick_21 : decode cX3_crashesInTick 21 = .ok (.putfield 43, 3) := by decide +kernel
theorem dX3_crashesInTick_24 : decode cX3_crashesInTick 24 = .ok (.aload_n 0, 1) := by decide +kernel
theorem dX3_crashesInTick_25 : decode cX3_crashesInTick 25 = .ok (.aload_n 0, 1) := by decide +kernel
theorem dX3_crashesInTick_26 : decode cX3_crashesInTick 26 = .ok (.getfield 43, 3) := by decide +kernel
theorem dX3_crashesInTick_29 : decode cX3_crashesInTick 29 = .ok (.ifCond .le 7, 3) := by decide +kernel
theorem dX3_crashesInTick_32 : decode cX3_crashesInTick 32 = .ok (.iconst 1, 1) := by decide +kernel
theorem dX3_crashesInTick_33 : decode cX3_crashesInTick 33 = .ok (.goto 4, 3) := by decide +kernel
theorem dX3_crashesInTick_36 : decode cX3_crashesInTick 36 = .ok (.iconst 0, 1) := by decide +kernel
theorem dX3_crashesInTick_37 : decode cX3_crashesInTick 37 = .ok (.putfield 32, 3) := by decide +kernel
theorem dX3_crashesInTick_40 : decode cX3_crashesInTick 40 = .ok (.aload_n 0, 1) := by decide +kernel
theorem dX3_crashesInTick_41 : decode cX3_crashesInTick 41 = .ok (.getfield 32, 3) := by decide +kernel
theorem dX3_crashesInTick_44 : decode cX3_crashesInTick 44 = .ok (.ifCond .ne 34, 3) := by decide +kernel
theorem dX3_crashesInTick_47 : decode cX3_crashesInTick 47 = .ok (.aload_n 0, 1) := by decide +kernel
theorem dX3_crashesInTick_48 : decode cX3_crashesInTick 48 = .ok (.getfield 18, 3) := by decide +kernel
theorem dX3_crashesInTick_51 : decode cX3_crashesInTick 51 = .ok (.iconst 0, 1) := by decide +kernel
theorem dX3_crashesInTick_52 : decode cX3_crashesInTick 52 = .ok (.iaload, 1) := by decide +kernel
theorem dX3_crashesInTick_53 : decode cX3_crashesInTick 53 = .ok (.iload_n 1, 1) := by decide +kernel
theorem dX3_crashesInTick_54 : decode cX3_crashesInTick 54 = .ok (.aload_n 0, 1) := by decide +kernel
theorem dX3_crashesInTick_55 : decode cX3_crashesInTick 55 = .ok (.getfield 18, 3) := by decide +kernel
theorem dX3_crashesInTick_58 : decode cX3_crashesInTick 58 = .ok (.iconst 2, 1) := by decide +kernel
theorem dX3_crashesInTick_59 : decode cX3_crashesInTick 59 = .ok (.iaload, 1) := by decide +kernel
theorem dX3_crashesInTick_60 : decode cX3_crashesInTick 60 = .ok (.isub, 1) := by decide +kernel
theorem dX3_crashesInTick_61 : decode cX3_crashesInTick 61 = .ok (.invokestatic 86, 3) := by decide +kernel
theorem dX3_crashesInTick_64 : decode cX3_crashesInTick 64 = .ok (.ifCond .eq 14, 3) := by decide +kernel
theorem dX3_crashesInTick_67 : decode cX3_crashesInTick 67 = .ok (.aload_n 0, 1) := by decide +kernel
theorem dX3_crashesInTick_68 : decode cX3_crashesInTick 68 = .ok (.iload_n 1, 1) := by decide +kernel
theorem dX3_crashesInTick_69 : decode cX3_crashesInTick 69 = .ok (.iload_n 2, 1) := by decide +kernel
theorem dX3_crashesInTick_70 : decode cX3_crashesInTick 70 = .ok (.invokevirtual 90, 3) := by decide +kernel
theorem dX3_crashesInTick_73 : decode cX3_crashesInTick 73 = .ok (.ifCond .eq 5, 3) := by decide +kernel
theorem dX3_crashesInTick_76 : decode cX3_crashesInTick 76 = .ok (.iconst 1, 1) := by decide +kernel
theorem dX3_crashesInTick_77 : decode cX3_crashesInTick 77 = .ok (.ireturn, 1) := by decide +kernel
theorem dX3_crashesInTick_78 : decode cX3_crashesInTick 78 = .ok (.aload_n 0, 1) := by decide +kernel
theorem dX3_crashesInTick_79 : decode cX3_crashesInTick 79 = .ok (.getfield 32, 3) := by decide +kernel
theorem dX3_crashesInTick_82 : decode cX3_crashesInTick 82 = .ok (.ifCond .eq 34, 3) := by decide +kernel
theorem dX3_crashesInTick_85 : decode cX3_crashesInTick 85 = .ok (.aload_n 0, 1) := by decide +kernel
theorem dX3_crashesInTick_86 : decode cX3_crashesInTick 86 = .ok (.getfield 18, 3) := by decide +kernel
theorem dX3_crashesInTick_89 : decode cX3_crashesInTick 89 = .ok (.bipush 7, 2) := by decide +kernel
theorem dX3_crashesInTick_91 : decode cX3_crashesInTick 91 = .ok (.iaload, 1) := by decide +kernel
theorem dX3_crashesInTick_92 : decode cX3_crashesInTick 92 = .ok (.ifCond .eq 24, 3) := by decide +kernel
theorem dX3_crashesInTick_95 : decode cX3_crashesInTick 95 = .ok (.iload_n 1, 1) := by decide +kernel
theorem dX3_crashesInTick_96 : decode cX3_crashesInTick 96 = .ok (.aload_n 0, 1) := by decide +kernel
theorem dX3_crashesInTick_97 : decode cX3_crashesInTick 97 = .ok (.getfield 39, 3) := by decide +kernel
theorem dX3_crashesInTick_100 : decode cX3_crashesInTick 100 = .ok (.isub, 1) := by decide +kernel
theorem dX3_crashesInTick_101 : decode cX3_crashesInTick 101 = .ok (.aload_n 0, 1) := by decide +kernel
theorem dX3_crashesInTick_102 : decode cX3_crashesInTick 102 = .ok (.getfield 18, 3) := by decide +kernel
theorem dX3_crashesInTick_105 : decode cX3_crashesInTick 105 = .ok (.bipush 7, 2) := by decide +kernel
theorem dX3_crashesInTick_107 : decode cX3_crashesInTick 107 = .ok (.iaload, 1) := by decide +kernel
theorem dX3_crashesInTick_108 : decode cX3_crashesInTick 108 = .ok (.if_icmp .le 8, 3) := by decide +kernel
theorem dX3_crashesInTick_111 : decode cX3_crashesInTick 111 = .ok (.aload_n 0, 1) := by decide +kernel
theorem dX3_crashesInTick_112 : decode cX3_crashesInTick 112 = .ok (.iconst 1, 1) := by decide +kernel
theorem dX3_crashesInTick_113 : decode cX3_crashesInTick 113 = .ok (.putfield 52, 3) := by decide +kernel
theorem dX3_crashesInTick_116 : decode cX3_crashesInTick 116 = .ok (.iconst 0, 1) := by decide +kernel
theorem dX3_crashesInTick_117 : decode cX3_crashesInTick 117 = .ok (.ireturn, 1) := by decide +kernel
theorem dX3_crashesAtBegin_0 : decode cX3_crashesAtBegin 0 = .ok (.iconst 0, 1) := by decide +kernel
theorem dX3_crashesAtBegin_1 : decode cX3_crashesAtBegin 1 = .ok (.istore_n 3, 1) := by decide +kernel
theorem dX3_crashesAtBegin_2 : decode cX3_crashesAtBegin 2 = .ok (.iconst 0, 1) := by decide +kernel
theorem dX3_crashesAtBegin_3 : decode cX3_crashesAtBegin 3 = .ok (.istore 4, 2) := by decide +kernel
theorem dX3_crashesAtBegin_5 : decode cX3_crashesAtBegin 5 = .ok (.iload_n 2, 1) := by decide +kernel
theorem dX3_crashesAtBegin_6 : decode cX3_crashesAtBegin 6 = .ok (.ifCond .lt 33, 3) := by decide +kernel
theorem dX3_crashesAtBegin_9 : decode cX3_crashesAtBegin 9 = .ok (.iload_n 2, 1) := by decide +kernel
theorem dX3_crashesAtBegin_10 : decode cX3_crashesAtBegin 10 = .ok (.iconst 2, 1) := by decide +kernel
theorem dX3_crashesAtBegin_11 : decode cX3_crashesAtBegin 11 = .ok (.if_icmp .ge 28, 3) := by decide +kernel
theorem dX3_crashesAtBegin_14 : decode cX3_crashesAtBegin 14 = .ok (.iload_n 1, 1) := by decide +kernel
theorem dX3_crashesAtBegin_15 : decode cX3_crashesAtBegin 15 = .ok (.aload_n 0, 1) := by decide +kernel
theorem dX3_crashesAtBegin_16 : decode cX3_crashesAtBegin 16 = .ok (.getfield 26, 3) := by decide +kernel
theorem dX3_crashesAtBegin_19 : decode cX3_crashesAtBegin 19 = .ok (.iload_n 2, 1) := by decide +kernel
theorem dX3_crashesAtBegin_20 : decode cX3_crashesAtBegin 20 = .ok (.iaload, 1) := by decide +kernel
theorem dX3_crashesAtBegin_21 : decode cX3_crashesAtBegin 21 = .ok (.if_icmp .lt 18, 3) := by decide +kernel
theorem dX3_crashesAtBegin_24 : decode cX3_crashesAtBegin 24 = .ok (.aload_n 0, 1) := by decide +kernel
theorem dX3_crashesAtBegin_25 : decode cX3_crashesAtBegin 25 = .ok (.getfield 23, 3) := by decide +kernel
theorem dX3_crashesAtBegin_28 : decode cX3_crashesAtBegin 28 = .ok (.iload_n 2, 1) := by decide +kernel
theorem dX3_crashesAtBegin_29 : decode cX3_crashesAtBegin 29 = .ok (.iaload, 1) := by decide +kernel
theorem dX3_crashesAtBegin_30 : decode cX3_crashesAtBegin 30 = .ok (.istore_n 3, 1) := by decide +kernel
theorem dX3_crashesAtBegin_31 : decode cX3_crashesAtBegin 31 = .ok (.aload_n 0, 1) := by decide +kernel
theorem dX3_crashesAtBegin_32 : decode cX3_crashesAtBegin 32 = .ok (.getfield 29, 3) := by decide +kernel
theorem dX3_crashesAtBegin_35 : decode cX3_crashesAtBegin 35 = .ok (.iload_n 2, 1) := by decide +kernel
theorem dX3_crashesAtBegin_36 : decode cX3_crashesAtBegin 36 = .ok (.iaload, 1) := by decide +kernel
theorem dX3_crashesAtBegin_37 : decode cX3_crashesAtBegin 37 = .ok (.istore 4, 2) := by decide +kernel
theorem dX3_crashesAtBegin_39 : decode cX3_crashesAtBegin 39 = .ok (.aload_n 0, 1) := by decide +kernel
theorem dX3_crashesAtBegin_40 : decode cX3_crashesAtBegin 40 = .ok (.iconst 1, 1) := by decide +kernel
theorem dX3_crashesAtBegin_41 : decode cX3_crashesAtBegin 41 = .ok (.putfield 32, 3) := by decide +kernel
theorem dX3_crashesAtBegin_44 : decode cX3_crashesAtBegin 44 = .ok (.aload_n 0, 1) := by decide +kernel
theorem dX3_crashesAtBegin_45 : decode cX3_crashesAtBegin 45 = .ok (.iload_n 3, 1) := by decide +kernel
theorem dX3_crashesAtBegin_46 : decode cX3_crashesAtBegin 46 = .ok (.iconst 1, 1) := by decide +kernel
theorem dX3_crashesAtBegin_47 : decode cX3_crashesAtBegin 47 = .ok (.if_icmp .ne 7, 3) := by decide +kernel
theorem dX3_crashesAtBegin_50 : decode cX3_crashesAtBegin 50 = .ok (.iconst 1, 1) := by decide +kernel
theorem dX3_crashesAtBegin_51 : decode cX3_crashesAtBegin 51 = .ok (.goto 4, 3) := by decide +kernel
theorem dX3_crashesAtBegin_54 : decode cX3_crashesAtBegin 54 = .ok (.iconst 0, 1) := by decide +kernel
theorem dX3_crashesAtBegin_55 : decode cX3_crashesAtBegin 55 = .ok (.putfield 36, 3) := by decide +kernel
theorem dX3_crashesAtBegin_58 : decode cX3_crashesAtBegin 58 = .ok (.aload_n 0, 1) := by decide +kernel
theorem dX3_crashesAtBegin_59 : decode cX3_crashesAtBegin 59 = .ok (.iload_n 1, 1) := by decide +kernel
theorem dX3_crashesAtBegin_60 : decode cX3_crashesAtBegin 60 = .ok (.putfield 39, 3) := by decide +kernel
theorem dX3_crashesAtBegin_63 : decode cX3_crashesAtBegin 63 = .ok (.aload_n 0, 1) := by decide +kernel
theorem dX3_crashesAtBegin_64 : decode cX3_crashesAtBegin 64 = .ok (.aload_n 0, 1) := by decide +kernel
theorem dX3_crashesAtBegin_65 : decode cX3_crashesAtBegin 65 = .ok (.getfield 18, 3) := by decide +kernel
theorem dX3_crashesAtBegin_68 : decode cX3_crashesAtBegin 68 = .ok (.iconst 1, 1) := by decide +kernel
theorem dX3_crashesAtBegin_69 : decode cX3_crashesAtBegin 69 = .ok (.iaload, 1) := by decide +kernel
theorem dX3_crashesAtBegin_70 : decode cX3_crashesAtBegin 70 = .ok (.iload_n 3, 1) := by decide +kernel
theorem dX3_crashesAtBegin_71 : decode cX3_crashesAtBegin 71 = .ok (.iconst 2, 1) := by decide +kernel
theorem dX3_crashesAtBegin_72 : decode cX3_crashesAtBegin 72 = .ok (.if_icmp .ne 8, 3) := by decide +kernel
theorem dX3_crashesAtBegin_75 : decode cX3_crashesAtBegin 75 = .ok (.iload 4, 2) := by decide +kernel
theorem dX3_crashesAtBegin_77 : decode cX3_crashesAtBegin 77 = .ok (.goto 4, 3) := by decide +kernel
theorem dX3_crashesAtBegin_80 : decode cX3_crashesAtBegin 80 = .ok (.iconst 0, 1) := by decide +kernel
theorem dX3_crashesAtBegin_81 : decode cX3_crashesAtBegin 81 = .ok (.iadd, 1) := by decide +kernel
theorem dX3_crashesAtBegin_82 : decode cX3_crashesAtBegin 82 = .ok (.putfield 43, 3) := by decide +kernel
theorem dX3_crashesAtBegin_85 : decode cX3_crashesAtBegin 85 = .ok (.iload_n 3, 1) := by decide +kernel
theorem dX3_crashesAtBegin_86 : decode cX3_crashesAtBegin 86 = .ok (.iconst 3, 1) := by decide +kernel
theorem dX3_crashesAtBegin_87 : decode cX3_crashesAtBegin 87 = .ok (.if_icmp .eq 22, 3) := by decide +kernel
theorem dX3_crashesAtBegin_90 : decode cX3_crashesAtBegin 90 = .ok (.aload_n 0, 1) := by decide +kernel
theorem dX3_crashesAtBegin_91 : decode cX3_crashesAtBegin 91 = .ok (.dup, 1) := by decide +kernel
theorem dX3_crashesAtBegin_92 : decode cX3_crashesAtBegin 92 = .ok (.getfield 46, 3) := by decide +kernel
theorem dX3_crashesAtBegin_95 : decode cX3_crashesAtBegin 95 = .ok (.iload_n 3, 1) := by decide +kernel
theorem dX3_crashesAtBegin_96 : decode cX3_crashesAtBegin 96 = .ok (.iconst 4, 1) := by decide +kernel
theorem dX3_crashesAtBegin_97 : decode cX3_crashesAtBegin 97 = .ok (.if_icmp .ne 7, 3) := by decide +kernel
theorem dX3_crashesAtBegin_100 : decode cX3_crashesAtBegin 100 = .ok (.iconst 2, 1) := by decide +kernel
theorem dX3_crashesAtBegin_101 : decode cX3_crashesAtBegin 101 = .ok (.goto 4, 3) := by decide +kernel
theorem dX3_crashesAtBegin_104 : decode cX3_crashesAtBegin 104 = .ok (.iconst 1, 1) := by decide +kernel
theorem dX3_crashesAtBegin_105 : decode cX3_crashesAtBegin 105 = .ok (.iadd, 1) := by decide +kernel
theorem dX3_crashesAtBegin_106 : decode cX3_crashesAtBegin 106 = .ok (.putfield 46, 3) := by decide +kernel
theorem dX3_crashesAtBegin_109 : decode cX3_crashesAtBegin 109 = .ok (.iload_n 3, 1) := by decide +kernel
theorem dX3_crashesAtBegin_110 : decode cX3_crashesAtBegin 110 = .ok (.iconst 5, 1) := by decide +kernel
theorem dX3_crashesAtBegin_111 : decode cX3_crashesAtBegin 111 = .ok (.if_icmp .ne 7, 3) := by decide +kernel
theorem dX3_crashesAtBegin_114 : decode cX3_crashesAtBegin 114 = .ok (.iconst 1, 1) := by decide +kernel
theorem dX3_crashesAtBegin_115 : decode cX3_crashesAtBegin 115 = .ok (.goto 4, 3) := by decide +kernel
theorem dX3_crashesAtBegin_118 : decode cX3_crashesAtBegin 118 = .ok (.iconst 0, 1) := by decide +kernel
theorem dX3_crashesAtBegin_119 : decode cX3_crashesAtBegin 119 = .ok (.ireturn, 1) := by decide +kernel
theorem dX3_endCycle_0 : decode cX3_endCycle 0 = .ok (.aload_n 0, 1) := by decide +kernel
theorem dX3_endCycle_1 : decode cX3_endCycle 1 = .ok (.getfield 46, 3) := by decide +kernel
theorem dX3_endCycle_4 : decode cX3_endCycle 4 = .ok (.aload_n 0, 1) := by decide +kernel
theorem dX3_endCycle_5 : decode cX3_endCycle 5 = .ok (.getfield 18, 3) := by decide +kernel
theorem dX3_endCycle_8 : decode cX3_endCycle 8 = .ok (.iconst 4, 1) := by decide +kernel
theorem dX3_endCycle_9 : decode cX3_endCycle 9 = .ok (.iaload, 1) := by decide +kernel
theorem dX3_endCycle_10 : decode cX3_endCycle 10 = .ok (.aload_n 0, 1) := by decide +kernel
theorem dX3_endCycle_11 : decode cX3_endCycle 11 = .ok (.getfield 18, 3) := by decide +kernel
theorem dX3_endCycle_14 : decode cX3_endCycle 14 = .ok (.iconst 5, 1) := by decide +kernel
theorem dX3_endCycle_15 : decode cX3_endCycle 15 = .ok (.iaload, 1) := by decide +kernel
theorem dX3_endCycle_16 : decode cX3_endCycle 16 = .ok (.invokestatic 93, 3) := by decide +kernel
theorem dX3_endCycle_19 : decode cX3_endCycle 19 = .ok (.ifCond .eq 14, 3) := by decide +kernel
theorem dX3_endCycle_22 : decode cX3_endCycle 22 = .ok (.aload_n 0, 1) := by decide +kernel
theorem dX3_endCycle_23 : decode cX3_endCycle 23 = .ok (.getfield 52, 3) := by decide +kernel
theorem dX3_endCycle_26 : decode cX3_endCycle 26 = .ok (.ifCond .ne 7, 3) := by decide +kernel
theorem dX3_endCycle_29 : decode cX3_endCycle 29 = .ok (.iconst 1, 1) := by decide +kernel
theorem dX3_endCycle_30 : decode cX3_endCycle 30 = .ok (.goto 4, 3) := by decide +kernel
theorem dX3_endCycle_33 : decode cX3_endCycle 33 = .ok (.iconst 0, 1) := by decide +kernel
theorem dX3_endCycle_34 : decode cX3_endCycle 34 = .ok (.istore_n 2, 1) := by decide +kernel
theorem dX3_endCycle_35 : decode cX3_endCycle 35 = .ok (.iload_n 2, 1) := by decide +kernel
theorem dX3_endCycle_36 : decode cX3_endCycle 36 = .ok (.ifCond .eq 20, 3) := by decide +kernel
theorem dX3_endCycle_39 : decode cX3_endCycle 39 = .ok (.aload_n 0, 1) := by decide +kernel
theorem dX3_endCycle_40 : decode cX3_endCycle 40 = .ok (.iconst 0, 1) := by decide +kernel
theorem dX3_endCycle_41 : decode cX3_endCycle 41 = .ok (.aload_n 0, 1) := by decide +kernel
theorem dX3_endCycle_42 : decode cX3_endCycle 42 = .ok (.getfield 49, 3) := by decide +kernel
theorem dX3_endCycle_45 : decode cX3_endCycle 45 = .ok (.iconst 1, 1) := by decide +kernel
theorem dX3_endCycle_46 : decode cX3_endCycle 46 = .ok (.isub, 1) := by decide +kernel
theorem dX3_endCycle_47 : decode cX3_endCycle 47 = .ok (.invokestatic 97, 3) := by decide +kernel
theorem dX3_endCycle_50 : decode cX3_endCycle 50 = .ok (.putfield 49, 3) := by decide +kernel
theorem dX3_endCycle_53 : decode cX3_endCycle 53 = .ok (.goto 70, 3) := by decide +kernel
theorem dX3_endCycle_56 : decode cX3_endCycle 56 = .ok (.aload_n 0, 1) := by decide +kernel
theorem dX3_endCycle_57 : decode cX3_endCycle 57 = .ok (.dup, 1) := by decide +kernel
theorem dX3_endCycle_58 : decode cX3_endCycle 58 = .ok (.getfield 49, 3) := by decide +kernel
theorem dX3_endCycle_61 : decode cX3_endCycle 61 = .ok (.iconst 1, 1) := by decide +kernel
theorem dX3_endCycle_62 : decode cX3_endCycle 62 = .ok (.iadd, 1) := by decide +kernel
theorem dX3_endCycle_63 : decode cX3_endCycle 63 = .ok (.putfield 49, 3) := by decide +kernel
theorem dX3_endCycle_66 : decode cX3_endCycle 66 = .ok (.aload_n 0, 1) := by decide +kernel
theorem dX3_endCycle_67 : decode cX3_endCycle 67 = .ok (.aload_n 0, 1) := by decide +kernel
theorem dX3_endCycle_68 : decode cX3_endCycle 68 = .ok (.getfield 49, 3) := by decide +kernel
theorem dX3_endCycle_71 : decode cX3_endCycle 71 = .ok (.aload_n 0, 1) := by decide +kernel
theorem dX3_endCycle_72 : decode cX3_endCycle 72 = .ok (.getfield 18, 3) := by decide +kernel
theorem dX3_endCycle_75 : decode cX3_endCycle 75 = .ok (.bipush 6, 2) := by decide +kernel
theorem dX3_endCycle_77 : decode cX3_endCycle 77 = .ok (.iaload, 1) := by decide +kernel
theorem dX3_endCycle_78 : decode cX3_endCycle 78 = .ok (.if_icmp .le 7, 3) := by decide +kernel
theorem dX3_endCycle_81 : decode cX3_endCycle 81 = .ok (.iconst 1, 1) := by decide +kernel
theorem dX3_endCycle_82 : decode cX3_endCycle 82 = .ok (.goto 4, 3) := by decide +kernel
theorem dX3_endCycle_85 : decode cX3_endCycle 85 = .ok (.iconst 0, 1) := by decide +kernel
theorem dX3_endCycle_86 : decode cX3_endCycle 86 = .ok (.putfield 55, 3) := by decide +kernel
theorem dX3_endCycle_89 : decode cX3_endCycle 89 = .ok (.aload_n 0, 1) := by decide +kernel
theorem dX3_endCycle_90 : decode cX3_endCycle 90 = .ok (.dup, 1) := by decide +kernel
theorem dX3_endCycle_91 : decode cX3_endCycle 91 = .ok (.getfield 58, 3) := by decide +kernel
theorem dX3_endCycle_94 : decode cX3_endCycle 94 = .ok (.iconst 1, 1) := by decide +kernel
theorem dX3_endCycle_95 : decode cX3_endCycle 95 = .ok (.iadd, 1) := by decide +kernel
theorem dX3_endCycle_96 : decode cX3_endCycle 96 = .ok (.putfield 58, 3) := by decide +kernel
theorem dX3_endCycle_99 : decode cX3_endCycle 99 = .ok (.aload_n 0, 1) := by decide +kernel
theorem dX3_endCycle_100 : decode cX3_endCycle 100 = .ok (.aload_n 0, 1) := by decide +kernel
theorem dX3_endCycle_101 : decode cX3_endCycle 101 = .ok (.getfield 61, 3) := by decide +kernel
theorem dX3_endCycle_104 : decode cX3_endCycle 104 = .ok (.ifCond .eq 10, 3) := by decide +kernel
theorem dX3_endCycle_107 : decode cX3_endCycle 107 = .ok (.aload_n 0, 1) := by decide +kernel
theorem dX3_endCycle_108 : decode cX3_endCycle 108 = .ok (.getfield 64, 3) := by decide +kernel
theorem dX3_endCycle_111 : decode cX3_endCycle 111 = .ok (.goto 4, 3) := by decide +kernel
theorem dX3_endCycle_114 : decode cX3_endCycle 114 = .ok (.iload_n 1, 1) := by decide +kernel
theorem dX3_endCycle_115 : decode cX3_endCycle 115 = .ok (.putfield 64, 3) := by decide +kernel
theorem dX3_endCycle_118 : decode cX3_endCycle 118 = .ok (.aload_n 0, 1) := by decide +kernel
theorem dX3_endCycle_119 : decode cX3_endCycle 119 = .ok (.iconst 1, 1) := by decide +kernel
theorem dX3_endCycle_120 : decode cX3_endCycle 120 = .ok (.putfield 61, 3) := by decide +kernel
theorem dX3_endCycle_123 : decode cX3_endCycle 123 = .ok (.aload_n 0, 1) := by decide +kernel
theorem dX3_endCycle_124 : decode cX3_endCycle 124 = .ok (.iconst 0, 1) := by decide +kernel
theorem dX3_endCycle_125 : decode cX3_endCycle 125 = .ok (.putfield 46, 3) := by decide +kernel
theorem dX3_endCycle_128 : decode cX3_endCycle 128 = .ok (.aload_n 0, 1) := by decide +kernel
theorem dX3_endCycle_129 : decode cX3_endCycle 129 = .ok (.iconst 0, 1) := by decide +kernel
theorem dX3_endCycle_130 : decode cX3_endCycle 130 = .ok (.putfield 52, 3) := by decide +kernel
theorem dX3_endCycle_133 : decode cX3_endCycle 133 = .ok (.return_, 1) := by decide +kernel
theorem dX4_init_0 : decode cX4_init 0 = .ok (.aload_n 0, 1) := by decide +kernel
theorem dX4_init_1 : decode cX4_init 1 = .ok (.invokespecial 1, 3) := by decide +kernel
theorem dX4_init_4 : decode cX4_init 4 = .ok (.aload_n 0, 1) := by decide +kernel
theorem dX4_init_5 : decode cX4_init 5 = .ok (.new 7, 3) := by decide +kernel
theorem dX4_init_8 : decode cX4_init 8 = .ok (.dup, 1) := by decide +kernel
theorem dX4_init_9 : decode cX4_init 9 = .ok (.invokespecial 9, 3) := by decide +kernel
theorem dX4_init_12 : decode cX4_init 12 = .ok (.putfield 10, 3) := by decide +kernel
theorem dX4_init_15 : decode cX4_init 15 = .ok (.aload_n 0, 1) := by decide +kernel
theorem dX4_init_16 : decode cX4_init 16 = .ok (.new 7, 3) := by decide +kernel
theorem dX4_init_19 : decode cX4_init 19 = .ok (.dup, 1) := by decide +kernel
theorem dX4_init_20 : decode cX4_init 20 = .ok (.invokespecial 9, 3) := by decide +kernel
theorem dX4_init_23 : decode cX4_init 23 = .ok (.putfield 16, 3) := by decide +kernel
theorem dX4_init_26 : decode cX4_init 26 = .ok (.aload_n 0, 1) := by decide +kernel
theorem dX4_init_27 : decode cX4_init 27 = .ok (.iconst 2, 1) := by decide +kernel
theorem dX4_init_28 : decode cX4_init 28 = .ok (.anewarray 7, 3) := by decide +kernel
theorem dX4_init_31 : decode cX4_init 31 = .ok (.putfield 19, 3) := by decide +kernel
theorem dX4_init_34 : decode cX4_init 34 = .ok (.iconst 0, 1) := by decide +kernel
theorem dX4_init_35 : decode cX4_init 35 = .ok (.istore_n 1, 1) := by decide +kernel
theorem dX4_init_36 : decode cX4_init 36 = .ok (.iload_n 1, 1) := by decide +kernel
theorem dX4_init_37 : decode cX4_init 37 = .ok (.iconst 2, 1) := by decide +kernel
theorem dX4_init_38 : decode cX4_init 38 = .ok (.if_icmp .ge 22, 3) := by decide +kernel
theorem dX4_init_41 : decode cX4_init 41 = .ok (.aload_n 0, 1) := by decide +kernel
theorem dX4_init_42 : decode cX4_init 42 = .ok (.getfield 19, 3) := by decide +kernel
theorem dX4_init_45 : decode cX4_init 45 = .ok (.iload_n 1, 1) := by decide +kernel
theorem dX4_init_46 : decode cX4_init 46 = .ok (.new 7, 3) := by decide +kernel
theorem dX4_init_49 : decode cX4_init 49 = .ok (.dup, 1) := by decide +kernel
theorem dX4_init_50 : decode cX4_init 50 = .ok (.invokespecial 9, 3) := by decide +kernel
theorem dX4_init_53 : decode cX4_init 53 = .ok (.aastore, 1) := by decide +kernel
theorem dX4_init_54 : decode cX4_init 54 = .ok (.iinc 1 1, 3) := by decide +kernel
theorem dX4_init_57 : decode cX4_init 57 = .ok (.goto (-21), 3) := by decide +kernel
theorem dX4_init_60 : decode cX4_init 60 = .ok (.aload_n 0, 1) := by decide +kernel
theorem dX4_init_61 : decode cX4_init 61 = .ok (.iconst 2, 1) := by decide +kernel
theorem dX4_init_62 : decode cX4_init 62 = .ok (.newarray .boolean, 2) := by decide +kernel
theorem dX4_init_64 : decode cX4_init 64 = .ok (.putfield 23, 3) := by decide +kernel
theorem dX4_init_67 : decode cX4_init 67 = .ok (.aload_n 0, 1) := by decide +kernel
theorem dX4_init_68 : decode cX4_init 68 = .ok (.new 27, 3) := by decide +kernel
theorem dX4_init_71 : decode cX4_init 71 = .ok (.dup, 1) := by decide +kernel
theorem dX4_init_72 : decode cX4_init 72 = .ok (.invokespecial 29, 3) := by decide +kernel
theorem dX4_init_75 : decode cX4_init 75 = .ok (.putfield 30, 3) := by decide +kernel
theorem dX4_init_78 : decode cX4_init 78 = .ok (.return_, 1) := by decide +kernel
theorem dX4_rule_0 : decode cX4_rule 0 = .ok (.iload_n 1, 1) := by decide +kernel
theorem dX4_rule_1 : decode cX4_rule 1 = .ok (.iload_n 2, 1) := by decide +kernel
theorem dX4_rule_2 : decode cX4_rule 2 = .ok (.getstatic 34, 3) := by decide +kernel
theorem dX4_rule_5 : decode cX4_rule 5 = .ok (.getstatic 38, 3) := by decide +kernel
theorem dX4_rule_8 : decode cX4_rule 8 = .ok (.invokestatic 41, 3) := by decide +kernel
theorem dX4_rule_11 : decode cX4_rule 11 = .ok (.ifCond .ne 6, 3) := by decide +kernel
theorem dX4_rule_14 : decode cX4_rule 14 = .ok (.bipush (-2), 2) := by decide +kernel
theorem dX4_rule_16 : decode cX4_rule 16 = .ok (.ireturn, 1) := by decide +kernel
theorem dX4_rule_17 : decode cX4_rule 17 = .ok (.aload_n 0, 1) := by decide +kernel
theorem dX4_rule_18 : decode cX4_rule 18 = .ok (.getfield 10, 3) := by decide +kernel
theorem dX4_rule_21 : decode cX4_rule 21 = .ok (.getfield 45, 3) := by decide +kernel
theorem dX4_rule_24 : decode cX4_rule 24 = .ok (.iload_n 1, 1) := by decide +kernel
theorem dX4_rule_25 : decode cX4_rule 25 = .ok (.iaload, 1) := by decide +kernel
theorem dX4_rule_26 : decode cX4_rule 26 = .ok (.istore_n 3, 1) := by decide +kernel
theorem dX4_rule_27 : decode cX4_rule 27 = .ok (.aload_n 0, 1) := by decide +kernel
theorem dX4_rule_28 : decode cX4_rule 28 = .ok (.getfield 10, 3) := by decide +kernel
theorem dX4_rule_31 : decode cX4_rule 31 = .ok (.getfield 45, 3) := by decide +kernel
theorem dX4_rule_34 : decode cX4_rule 34 = .ok (.iload_n 1, 1) := by decide +kernel
theorem dX4_rule_35 : decode cX4_rule 35 = .ok (.iload_n 2, 1) := by decide +kernel
theorem dX4_rule_36 : decode cX4_rule 36 = .ok (.iastore, 1) := by decide +kernel
theorem dX4_rule_37 : decode cX4_rule 37 = .ok (.iload_n 3, 1) := by decide +kernel
theorem dX4_rule_38 : decode cX4_rule 38 = .ok (.ireturn, 1) := by decide +kernel
theorem dX4_addTask_0 : decode cX4_addTask 0 = .ok (.iconst 0, 1) := by decide +kernel
theorem dX4_addTask_1 : decode cX4_addTask 1 = .ok (.iload_n 1, 1) := by decide +kernel
theorem dX4_addTask_2 : decode cX4_addTask 2 = .ok (.getstatic 48, 3) := by decide +kernel
theorem dX4_addTask_5 : decode cX4_addTask 5 = .ok (.getstatic 51, 3) := by decide +kernel
theorem dX4_addTask_8 : decode cX4_addTask 8 = .ok (.invokestatic 41, 3) := by decide +kernel
theorem dX4_addTask_11 : decode cX4_addTask 11 = .ok (.ifCond .eq 17, 3) := by decide +kernel
theorem dX4_addTask_14 : decode cX4_addTask 14 = .ok (.iconst 1, 1) := by decide +kernel
theorem dX4_addTask_15 : decode cX4_addTask 15 = .ok (.iload_n 2, 1) := by decide +kernel
theorem dX4_addTask_16 : decode cX4_addTask 16 = .ok (.getstatic 48, 3) := by decide +kernel
theorem dX4_addTask_19 : decode cX4_addTask 19 = .ok (.getstatic 51, 3) := by decide +kernel
theorem dX4_addTask_22 : decode cX4_addTask 22 = .ok (.invokestatic 41, 3) := by decide +kernel
theorem dX4_addTask_25 : decode cX4_addTask 25 = .ok (.ifCond .ne 6, 3) := by decide +kernel
theorem dX4_addTask_28 : decode cX4_addTask 28 = .ok (.bipush (-2), 2) := by decide +kernel
theorem dX4_addTask_30 : decode cX4_addTask 30 = .ok (.ireturn, 1) := by decide +kernel
theorem dX4_addTask_31 : decode cX4_addTask 31 = .ok (.aload_n 0, 1) := by decide +kernel
theorem dX4_addTask_32 : decode cX4_addTask 32 = .ok (.getfield 10, 3) := by decide +kernel
theorem dX4_addTask_35 : decode cX4_addTask 35 = .ok (.getfield 54, 3) := by decide +kernel
theorem dX4_addTask_38 : decode cX4_addTask 38 = .ok (.bipush 6, 2) := by decide +kernel
theorem dX4_addTask_40 : decode cX4_addTask 40 = .ok (.if_icmp .lt 6, 3) := by decide +kernel
theorem dX4_addTask_43 : decode cX4_addTask 43 = .ok (.bipush (-4), 2) := by decide +kernel
theorem dX4_addTask_45 : decode cX4_addTask 45 = .ok (.ireturn, 1) := by decide +kernel
theorem dX4_addTask_46 : decode cX4_addTask 46 = .ok (.aload_n 0, 1) := by decide +kernel
theorem dX4_addTask_47 : decode cX4_addTask 47 = .ok (.getfield 10, 3) := by decide +kernel
theorem dX4_addTask_50 : decode cX4_addTask 50 = .ok (.getfield 54, 3) := by decide +kernel
theorem dX4_addTask_53 : decode cX4_addTask 53 = .ok (.istore_n 3, 1) := by decide +kernel
theorem dX4_addTask_54 : decode cX4_addTask 54 = .ok (.aload_n 0, 1) := by decide +kernel
theorem dX4_addTask_55 : decode cX4_addTask 55 = .ok (.getfield 10, 3) := by decide +kernel
theorem dX4_addTask_58 : decode cX4_addTask 58 = .ok (.getfield 58, 3) := by decide +kernel
theorem dX4_addTask_61 : decode cX4_addTask 61 = .ok (.iload_n 3, 1) := by decide +kernel
theorem dX4_addTask_62 : decode cX4_addTask 62 = .ok (.aaload, 1) := by decide +kernel
theorem dX4_addTask_63 : decode cX4_addTask 63 = .ok (.iload_n 1, 1) := by decide +kernel
theorem dX4_addTask_64 : decode cX4_addTask 64 = .ok (.iload_n 2, 1) := by decide +kernel
theorem dX4_addTask_65 : decode cX4_addTask 65 = .ok (.invokevirtual 62, 3) := by decide +kernel
theorem dX4_addTask_68 : decode cX4_addTask 68 = .ok (.aload_n 0, 1) := by decide +kernel
theorem dX4_addTask_69 : decode cX4_addTask 69 = .ok (.getfield 10, 3) := by decide +kernel
theorem dX4_addTask_72 : decode cX4_addTask 72 = .ok (.dup, 1) := by decide +kernel
theorem dX4_addTask_73 : decode cX4_addTask 73 = .ok (.getfield 54, 3) := by decide +kernel
theorem dX4_addTask_76 : decode cX4_addTask 76 = .ok (.iconst 1, 1) := by decide +kernel
theorem dX4_addTask_77 : decode cX4_addTask 77 = .ok (.iadd, 1) := by decide +kernel
theorem dX4_addTask_78 : decode cX4_addTask 78 = .ok (.putfield 54, 3) := by decide +kernel
theorem dX4_addTask_81 : decode cX4_addTask 81 = .ok (.iload_n 3, 1) := by decide +kernel
theorem dX4_addTask_82 : decode cX4_addTask 82 = .ok (.ireturn, 1) := by decide +kernel
theorem dX4_set_0 : decode cX4_set 0 = .ok (.aload_n 0, 1) := by decide +kernel
theorem dX4_set_1 : decode cX4_set 1 = .ok (.iload_n 1, 1) := by decide +kernel
theorem dX4_set_2 : decode cX4_set 2 = .ok (.invokevirtual 68, 3) := by decide +kernel
theorem dX4_set_5 : decode cX4_set 5 = .ok (.ifCond .ne 5, 3) := by decide +kernel
theorem dX4_set_8 : decode cX4_set 8 = .ok (.iconst (-1), 1) := by decide +kernel
theorem dX4_set_9 : decode cX4_set 9 = .ok (.ireturn, 1) := by decide +kernel
theorem dX4_set_10 : decode cX4_set 10 = .ok (.iload_n 2, 1) := by decide +kernel
theorem dX4_set_11 : decode cX4_set 11 = .ok (.iload_n 3, 1) := by decide +kernel
theorem dX4_set_12 : decode cX4_set 12 = .ok (.getstatic 48, 3) := by decide +kernel
theorem dX4_set_15 : decode cX4_set 15 = .ok (.getstatic 51, 3) := by decide +kernel
theorem dX4_set_18 : decode cX4_set 18 = .ok (.invokestatic 41, 3) := by decide +kernel
theorem dX4_set_21 : decode cX4_set 21 = .ok (.ifCond .ne 6, 3) := by decide +kernel
theorem dX4_set_24 : decode cX4_set 24 = .ok (.bipush (-2), 2) := by decide +kernel
theorem dX4_set_26 : decode cX4_set 26 = .ok (.ireturn, 1) := by decide +kernel
theorem dX4_set_27 : decode cX4_set 27 = .ok (.aload_n 0, 1) := by decide +kernel
theorem dX4_set_28 : decode cX4_set 28 = .ok (.getfield 10, 3) := by decide +kernel
theorem dX4_set_31 : decode cX4_set 31 = .ok (.getfield 58, 3) := by decide +kernel
theorem dX4_set_34 : decode cX4_set 34 = .ok (.iload_n 1, 1) := by decide +kernel
theorem dX4_set_35 : decode cX4_set 35 = .ok (.aaload, 1) := by decide +kernel
theorem dX4_set_36 : decode cX4_set 36 = .ok (.getfield 72, 3) := by decide +kernel
theorem dX4_set_39 : decode cX4_set 39 = .ok (.astore 4, 2) := by decide +kernel
theorem dX4_set_41 : decode cX4_set 41 = .ok (.aload 4, 2) := by decide +kernel
theorem dX4_set_43 : decode cX4_set 43 = .ok (.iload_n 2, 1) := by decide +kernel
theorem dX4_set_44 : decode cX4_set 44 = .ok (.iaload, 1) := by decide +kernel
theorem dX4_set_45 : decode cX4_set 45 = .ok (.istore 5, 2) := by decide +kernel
theorem dX4_set_47 : decode cX4_set 47 = .ok (.aload 4, 2) := by decide +kernel
theorem dX4_set_49 : decode cX4_set 49 = .ok (.iload_n 2, 1) := by decide +kernel
theorem dX4_set_50 : decode cX4_set 50 = .ok (.iload_n 3, 1) := by decide +kernel
theorem dX4_set_51 : decode cX4_set 51 = .ok (.iastore, 1) := by decide +kernel
theorem dX4_set_52 : decode cX4_set 52 = .ok (.iload 5, 2) := by decide +kernel
theorem dX4_set_54 : decode cX4_set 54 = .ok (.ireturn, 1) := by decide +kernel
theorem dX4_putFault_0 : decode cX4_putFault 0 = .ok (.iload_n 1, 1) := by decide +kernel
theorem dX4_putFault_1 : decode cX4_putFault 1 = .ok (.iconst 0, 1) := by decide +kernel
theorem dX4_putFault_2 : decode cX4_putFault 2 = .ok (.iconst 1, 1) := by decide +kernel
theorem dX4_putFault_3 : decode cX4_putFault 3 = .ok (.invokestatic 75, 3) := by decide +kernel
theorem dX4_putFault_6 : decode cX4_putFault 6 = .ok (.ifCond .eq 11, 3) := by decide +kernel
theorem dX4_putFault_9 : decode cX4_putFault 9 = .ok (.aload_n 0, 1) := by decide +kernel
theorem dX4_putFault_10 : decode cX4_putFault 10 = .ok (.iload_n 2, 1) := by decide +kernel
theorem dX4_putFault_11 : decode cX4_putFault 11 = .ok (.invokevirtual 68, 3) := by decide +kernel
theorem dX4_putFault_14 : decode cX4_putFault 14 = .ok (.ifCond .ne 5, 3) := by decide +kernel
theorem dX4_putFault_17 : decode cX4_putFault 17 = .ok (.iconst (-1), 1) := by decide +kernel
theorem dX4_putFault_18 : decode cX4_putFault 18 = .ok (.ireturn, 1) := by decide +kernel
theorem dX4_putFault_19 : decode cX4_putFault 19 = .ok (.iload_n 3, 1) := by decide +kernel
theorem dX4_putFault_20 : decode cX4_putFault 20 = .ok (.iconst 0, 1) := by decide +kernel
theorem dX4_putFault_21 : decode cX4_putFault 21 = .ok (.iconst 5, 1) := by decide +kernel
theorem dX4_putFault_22 : decode cX4_putFault 22 = .ok (.invokestatic 75, 3) := by decide +kernel
theorem dX4_putFault_25 : decode cX4_putFault 25 = .ok (.ifCond .eq 27, 3) := by decide +kernel
theorem dX4_putFault_28 : decode cX4_putFault 28 = .ok (.iload 4, 2) := by decide +kernel
theorem dX4_putFault_30 : decode cX4_putFault 30 = .ok (.iconst 0, 1) := by decide +kernel
theorem dX4_putFault_31 : decode cX4_putFault 31 = .ok (.sipush 5000, 3) := by decide +kernel
theorem dX4_putFault_34 : decode cX4_putFault 34 = .ok (.invokestatic 75, 3) := by decide +kernel
theorem dX4_putFault_37 : decode cX4_putFault 37 = .ok (.ifCond .eq 15, 3) := by decide +kernel
theorem dX4_putFault_40 : decode cX4_putFault 40 = .ok (.iload 5, 2) := by decide +kernel
theorem dX4_putFault_42 : decode cX4_putFault 42 = .ok (.iconst 0, 1) := by decide +kernel
theorem dX4_putFault_43 : decode cX4_putFault 43 = .ok (.sipush 500, 3) := by decide +kernel
theorem dX4_putFault_46 : decode cX4_putFault 46 = .ok (.invokestatic 75, 3) := by decide +kernel
theorem dX4_putFault_49 : decode cX4_putFault 49 = .ok (.ifCond .ne 6, 3) := by decide +kernel
theorem dX4_putFault_52 : decode cX4_putFault 52 = .ok (.bipush (-2), 2) := by decide +kernel
theorem dX4_putFault_54 : decode cX4_putFault 54 = .ok (.ireturn, 1) := by decide +kernel
theorem dX4_putFault_55 : decode cX4_putFault 55 = .ok (.aload_n 0, 1) := by decide +kernel
theorem dX4_putFault_56 : decode cX4_putFault 56 = .ok (.getfield 10, 3) := by decide +kernel
theorem dX4_putFault_59 : decode cX4_putFault 59 = .ok (.getfield 58, 3) := by decide +kernel
theorem dX4_putFault_62 : decode cX4_putFault 62 = .ok (.iload_n 2, 1) := by decide +kernel
theorem dX4_putFault_63 : decode cX4_putFault 63 = .ok (.aaload, 1) := by decide +kernel
theorem dX4_putFault_64 : decode cX4_putFault 64 = .ok (.getfield 79, 3) := by decide +kernel
theorem dX4_putFault_67 : decode cX4_putFault 67 = .ok (.iload_n 1, 1) := by decide +kernel
theorem dX4_putFault_68 : decode cX4_putFault 68 = .ok (.iaload, 1) := by decide +kernel
theorem dX4_putFault_69 : decode cX4_putFault 69 = .ok (.istore 6, 2) := by decide +kernel
theorem dX4_putFault_71 : decode cX4_putFault 71 = .ok (.aload_n 0, 1) := by decide +kernel
theorem dX4_putFault_72 : decode cX4_putFault 72 = .ok (.getfield 10, 3) := by decide +kernel
theorem dX4_putFault_75 : decode cX4_putFault 75 = .ok (.getfield 58, 3) := by decide +kernel
theorem dX4_putFault_78 : decode cX4_putFault 78 = .ok (.iload_n 2, 1) := by decide +kernel
theorem dX4_putFault_79 : decode cX4_putFault 79 = .ok (.aaload, 1) := by decide +kernel
theorem dX4_putFault_80 : decode cX4_putFault 80 = .ok (.iload_n 1, 1) := by decide +kernel
theorem dX4_putFault_81 : decode cX4_putFault 81 = .ok (.iload_n 3, 1) := by decide +kernel
theorem dX4_putFault_82 : decode cX4_putFault 82 = .ok (.iload 4, 2) := by decide +kernel
theorem dX4_putFault_84 : decode cX4_putFault 84 = .ok (.iload 5, 2) := by decide +kernel
theorem dX4_putFault_86 : decode cX4_putFault 86 = .ok (.invokevirtual 82, 3) := by decide +kernel
theorem dX4_putFault_89 : decode cX4_putFault 89 = .ok (.iload 6, 2) := by decide +kernel
theorem dX4_putFault_91 : decode cX4_putFault 91 = .ok (.ireturn, 1) := by decide +kernel
theorem dX4_run_0 : decode cX4_run 0 = .ok (.iload_n 1, 1) := by decide +kernel
theorem dX4_run_1 : decode cX4_run 1 = .ok (.iconst 1, 1) := by decide +kernel
theorem dX4_run_2 : decode cX4_run 2 = .ok (.sipush 2000, 3) := by decide +kernel
theorem dX4_run_5 : decode cX4_run 5 = .ok (.invokestatic 75, 3) := by decide +kernel
theorem dX4_run_8 : decode cX4_run 8 = .ok (.ifCond .ne 6, 3) := by decide +kernel
theorem dX4_run_11 : decode cX4_run 11 = .ok (.bipush (-2), 2) := by decide +kernel
theorem dX4_run_13 : decode cX4_run 13 = .ok (.ireturn, 1) := by decide +kernel
theorem dX4_run_14 : decode cX4_run 14 = .ok (.aload_n 0, 1) := by decide +kernel
theorem dX4_run_15 : decode cX4_run 15 = .ok (.getfield 10, 3) := by decide +kernel
theorem dX4_run_18 : decode cX4_run 18 = .ok (.getfield 117, 3) := by decide +kernel
theorem dX4_run_21 : decode cX4_run 21 = .ok (.iload_n 1, 1) := by decide +kernel
theorem dX4_run_22 : decode cX4_run 22 = .ok (.iadd, 1) := by decide +kernel
theorem dX4_run_23 : decode cX4_run 23 = .ok (.ldc 120, 2) := by decide +kernel
theorem dX4_run_25 : decode cX4_run 25 = .ok (.if_icmp .le 6, 3) := by decide +kernel
theorem dX4_run_28 : decode cX4_run 28 = .ok (.bipush (-5), 2) := by decide +kernel
theorem dX4_run_30 : decode cX4_run 30 = .ok (.ireturn, 1) := by decide +kernel
theorem dX4_run_31 : decode cX4_run 31 = .ok (.iconst 0, 1) := by decide +kernel
theorem dX4_run_32 : decode cX4_run 32 = .ok (.istore_n 2, 1) := by decide +kernel
theorem dX4_run_33 : decode cX4_run 33 = .ok (.iload_n 2, 1) := by decide +kernel
theorem dX4_run_34 : decode cX4_run 34 = .ok (.iload_n 1, 1) := by decide +kernel
theorem dX4_run_35 : decode cX4_run 35 = .ok (.if_icmp .ge 17, 3) := by decide +kernel
theorem dX4_run_38 : decode cX4_run 38 = .ok (.aload_n 0, 1) := by decide +kernel
theorem dX4_run_39 : decode cX4_run 39 = .ok (.getfield 10, 3) := by decide +kernel
theorem dX4_run_42 : decode cX4_run 42 = .ok (.invokevirtual 121, 3) := by decide +kernel
theorem dX4_run_45 : decode cX4_run 45 = .ok (.pop, 1) := by decide +kernel
theorem dX4_run_46 : decode cX4_run 46 = .ok (.iinc 2 1, 3) := by decide +kernel
theorem dX4_run_49 : decode cX4_run 49 = .ok (.goto (-16), 3) := by decide +kernel
theorem dX4_run_52 : decode cX4_run 52 = .ok (.aload_n 0, 1) := by decide +kernel
theorem dX4_run_53 : decode cX4_run 53 = .ok (.getfield 10, 3) := by decide +kernel
theorem dX4_run_56 : decode cX4_run 56 = .ok (.getfield 117, 3) := by decide +kernel
theorem dX4_run_59 : decode cX4_run 59 = .ok (.ireturn, 1) := by decide +kernel
theorem dX4_powerCycle_0 : decode cX4_powerCycle 0 = .ok (.aload_n 0, 1) := by decide +kernel
theorem dX4_powerCycle_1 : decode cX4_powerCycle 1 = .ok (.getfield 10, 3) := by decide +kernel
theorem dX4_powerCycle_4 : decode cX4_powerCycle 4 = .ok (.getfield 129, 3) := by decide +kernel
theorem dX4_powerCycle_7 : decode cX4_powerCycle 7 = .ok (.istore_n 1, 1) := by decide +kernel
theorem dX4_powerCycle_8 : decode cX4_powerCycle 8 = .ok (.aload_n 0, 1) := by decide +kernel
theorem dX4_powerCycle_9 : decode cX4_powerCycle 9 = .ok (.getfield 10, 3) := by decide +kernel
theorem dX4_powerCycle_12 : decode cX4_powerCycle 12 = .ok (.invokevirtual 150, 3) := by decide +kernel
theorem dX4_powerCycle_15 : decode cX4_powerCycle 15 = .ok (.iload_n 1, 1) := by decide +kernel
theorem dX4_powerCycle_16 : decode cX4_powerCycle 16 = .ok (.ireturn, 1) := by decide +kernel
theorem dX4_state_0 : decode cX4_state 0 = .ok (.iload_n 1, 1) := by decide +kernel
theorem dX4_state_1 : decode cX4_state 1 = .ok (.bipush 13, 2) := by decide +kernel
theorem dX4_state_3 : decode cX4_state 3 = .ok (.bipush 20, 2) := by decide +kernel
theorem dX4_state_5 : decode cX4_state 5 = .ok (.invokestatic 75, 3) := by decide +kernel
theorem dX4_state_8 : decode cX4_state 8 = .ok (.ifCond .eq 16, 3) := by decide +kernel
theorem dX4_state_11 : decode cX4_state 11 = .ok (.aload_n 0, 1) := by decide +kernel
theorem dX4_state_12 : decode cX4_state 12 = .ok (.getfield 10, 3) := by decide +kernel
theorem dX4_state_15 : decode cX4_state 15 = .ok (.getfield 45, 3) := by decide +kernel
theorem dX4_state_18 : decode cX4_state 18 = .ok (.iload_n 1, 1) := by decide +kernel
theorem dX4_state_19 : decode cX4_state 19 = .ok (.bipush 13, 2) := by decide +kernel
theorem dX4_state_21 : decode cX4_state 21 = .ok (.isub, 1) := by decide +kernel
theorem dX4_state_22 : decode cX4_state 22 = .ok (.iaload, 1) := by decide +kernel
theorem dX4_state_23 : decode cX4_state 23 = .ok (.ireturn, 1) := by decide +kernel
theorem dX4_state_24 : decode cX4_state 24 = .ok (.iload_n 1, 1) := by decide +kernel
theorem dX4_state_25 : decode cX4_state 25 = .ok (.tableswitch 223 0 12 #[67, 75, 83, 91, 99, 121, 136, 151, 166, 181, 192, 200, 215], 67) := by decide +kernel
theorem dX4_state_92 : decode cX4_state 92 = .ok (.aload_n 0, 1) := by decide +kernel
theorem dX4_state_93 : decode cX4_state 93 = .ok (.getfield 10, 3) := by decide +kernel
theorem dX4_state_96 : decode cX4_state 96 = .ok (.getfield 117, 3) := by decide +kernel
theorem dX4_state_99 : decode cX4_state 99 = .ok (.ireturn, 1) := by decide +kernel
theorem dX4_state_100 : decode cX4_state 100 = .ok (.aload_n 0, 1) := by decide +kernel
theorem dX4_state_101 : decode cX4_state 101 = .ok (.getfield 10, 3) := by decide +kernel
theorem dX4_state_104 : decode cX4_state 104 = .ok (.getfield 129, 3) := by decide +kernel
theorem dX4_state_107 : decode cX4_state 107 = .ok (.ireturn, 1) := by decide +kernel
theorem dX4_state_108 : decode cX4_state 108 = .ok (.aload_n 0, 1) := by decide +kernel
theorem dX4_state_109 : decode cX4_state 109 = .ok (.getfield 10, 3) := by decide +kernel
theorem dX4_state_112 : decode cX4_state 112 = .ok (.getfield 153, 3) := by decide +kernel
theorem dX4_state_115 : decode cX4_state 115 = .ok (.ireturn, 1) := by decide +kernel
theorem dX4_state_116 : decode cX4_state 116 = .ok (.aload_n 0, 1) := by decide +kernel
theorem dX4_state_117 : decode cX4_state 117 = .ok (.getfield 10, 3) := by decide +kernel
theorem dX4_state_120 : decode cX4_state 120 = .ok (.getfield 156, 3) := by decide +kernel
theorem dX4_state_123 : decode cX4_state 123 = .ok (.ireturn, 1) := by decide +kernel
theorem dX4_state_124 : decode cX4_state 124 = .ok (.aload_n 0, 1) := by decide +kernel
theorem dX4_state_125 : decode cX4_state 125 = .ok (.getfield 10, 3) := by decide +kernel
theorem dX4_state_128 : decode cX4_state 128 = .ok (.getfield 129, 3) := by decide +kernel
theorem dX4_state_131 : decode cX4_state 131 = .ok (.ifCond .ne 13, 3) := by decide +kernel
theorem dX4_state_134 : decode cX4_state 134 = .ok (.aload_n 0, 1) := by decide +kernel
theorem dX4_state_135 : decode cX4_state 135 = .ok (.getfield 10, 3) := by decide +kernel
theorem dX4_state_138 : decode cX4_state 138 = .ok (.getfield 159, 3) := by decide +kernel
theorem dX4_state_141 : decode cX4_state 141 = .ok (.goto 4, 3) := by decide +kernel
theorem dX4_state_144 : decode cX4_state 144 = .ok (.iconst 0, 1) := by decide +kernel
theorem dX4_state_145 : decode cX4_state 145 = .ok (.ireturn, 1) := by decide +kernel
theorem dX4_state_146 : decode cX4_state 146 = .ok (.aload_n 0, 1) := by decide +kernel
theorem dX4_state_147 : decode cX4_state 147 = .ok (.getfield 10, 3) := by decide +kernel
theorem dX4_state_150 : decode cX4_state 150 = .ok (.aload_n 0, 1) := by decide +kernel
theorem dX4_state_151 : decode cX4_state 151 = .ok (.getfield 10, 3) := by decide +kernel
theorem dX4_state_154 : decode cX4_state 154 = .ok (.getfield 162, 3) := by decide +kernel
theorem dX4_state_157 : decode cX4_state 157 = .ok (.invokevirtual 165, 3) := by decide +kernel
theorem dX4_state_160 : decode cX4_state 160 = .ok (.ireturn, 1) := by decide +kernel
theorem dX4_state_161 : decode cX4_state 161 = .ok (.aload_n 0, 1) := by decide +kernel
theorem dX4_state_162 : decode cX4_state 162 = .ok (.getfield 10, 3) := by decide +kernel
theorem dX4_state_165 : decode cX4_state 165 = .ok (.aload_n 0, 1) := by decide +kernel
theorem dX4_state_166 : decode cX4_state 166 = .ok (.getfield 10, 3) := by decide +kernel
theorem dX4_state_169 : decode cX4_state 169 = .ok (.getfield 132, 3) := by decide +kernel
theorem dX4_state_172 : decode cX4_state 172 = .ok (.invokevirtual 165, 3) := by decide +kernel
theorem dX4_state_175 : decode cX4_state 175 = .ok (.ireturn, 1) := by decide +kernel
theorem dX4_state_176 : decode cX4_state 176 = .ok (.aload_n 0, 1) := by decide +kernel
theorem dX4_state_177 : decode cX4_state 177 = .ok (.getfield 10, 3) := by decide +kernel
theorem dX4_state_180 : decode cX4_state 180 = .ok (.aload_n 0, 1) := by decide +kernel
theorem dX4_state_181 : decode cX4_state 181 = .ok (.getfield 10, 3) := by decide +kernel
theorem dX4_state_184 : decode cX4_state 184 = .ok (.getfield 168, 3) := by decide +kernel
theorem dX4_state_187 : decode cX4_state 187 = .ok (.invokevirtual 165, 3) := by decide +kernel
theorem dX4_state_190 : decode cX4_state 190 = .ok (.ireturn, 1) := by decide +kernel
theorem dX4_state_191 : decode cX4_state 191 = .ok (.aload_n 0, 1) := by decide +kernel
theorem dX4_state_192 : decode cX4_state 192 = .ok (.getfield 10, 3) := by decide +kernel
theorem dX4_state_195 : decode cX4_state 195 = .ok (.aload_n 0, 1) := by decide +kernel
theorem dX4_state_196 : decode cX4_state 196 = .ok (.getfield 10, 3) := by decide +kernel
theorem dX4_state_199 : decode cX4_state 199 = .ok (.getfield 171, 3) := by decide +kernel
theorem dX4_state_202 : decode cX4_state 202 = .ok (.invokevirtual 165, 3) := by decide +kernel
theorem dX4_state_205 : decode cX4_state 205 = .ok (.ireturn, 1) := by decide +kernel
theorem dX4_state_206 : decode cX4_state 206 = .ok (.aload_n 0, 1) := by decide +kernel
theorem dX4_state_207 : decode cX4_state 207 = .ok (.getfield 10, 3) := by decide +kernel
theorem dX4_state_210 : decode cX4_state 210 = .ok (.getfield 141, 3) := by decide +kernel
theorem dX4_state_213 : decode cX4_state 213 = .ok (.getfield 145, 3) := by decide +kernel
theorem dX4_state_216 : decode cX4_state 216 = .ok (.ireturn, 1) := by decide +kernel
theorem dX4_state_217 : decode cX4_state 217 = .ok (.aload_n 0, 1) := by decide +kernel
theorem dX4_state_218 : decode cX4_state 218 = .ok (.getfield 10, 3) := by decide +kernel
theorem dX4_state_221 : decode cX4_state 221 = .ok (.getfield 54, 3) := by decide +kernel
theorem dX4_state_224 : decode cX4_state 224 = .ok (.ireturn, 1) := by decide +kernel
theorem dX4_state_225 : decode cX4_state 225 = .ok (.aload_n 0, 1) := by decide +kernel
theorem dX4_state_226 : decode cX4_state 226 = .ok (.getfield 10, 3) := by decide +kernel
theorem dX4_state_229 : decode cX4_state 229 = .ok (.aload_n 0, 1) := by decide +kernel
theorem dX4_state_230 : decode cX4_state 230 = .ok (.getfield 10, 3) := by decide +kernel
theorem dX4_state_233 : decode cX4_state 233 = .ok (.invokevirtual 174, 3) := by decide +kernel
theorem dX4_state_236 : decode cX4_state 236 = .ok (.invokevirtual 165, 3) := by decide +kernel
theorem dX4_state_239 : decode cX4_state 239 = .ok (.ireturn, 1) := by decide +kernel
theorem dX4_state_240 : decode cX4_state 240 = .ok (.aload_n 0, 1) := by decide +kernel
theorem dX4_state_241 : decode cX4_state 241 = .ok (.getfield 30, 3) := by decide +kernel
theorem dX4_state_244 : decode cX4_state 244 = .ok (.getfield 90, 3) := by decide +kernel
theorem dX4_state_247 : decode cX4_state 247 = .ok (.ireturn, 1) := by decide +kernel
theorem dX4_state_248 : decode cX4_state 248 = .ok (.bipush (-2), 2) := by decide +kernel
theorem dX4_state_250 : decode cX4_state 250 = .ok (.ireturn, 1) := by decide +kernel
theorem dX4_task_0 : decode cX4_task 0 = .ok (.aload_n 0, 1) := by decide +kernel
theorem dX4_task_1 : decode cX4_task 1 = .ok (.iload_n 1, 1) := by decide +kernel
theorem dX4_task_2 : decode cX4_task 2 = .ok (.invokevirtual 68, 3) := by decide +kernel
theorem dX4_task_5 : decode cX4_task 5 = .ok (.ifCond .ne 5, 3) := by decide +kernel
theorem dX4_task_8 : decode cX4_task 8 = .ok (.iconst (-1), 1) := by decide +kernel
theorem dX4_task_9 : decode cX4_task 9 = .ok (.ireturn, 1) := by decide +kernel
theorem dX4_task_10 : decode cX4_task 10 = .ok (.aload_n 0, 1) := by decide +kernel
theorem dX4_task_11 : decode cX4_task 11 = .ok (.getfield 10, 3) := by decide +kernel
theorem dX4_task_14 : decode cX4_task 14 = .ok (.getfield 58, 3) := by decide +kernel
theorem dX4_task_17 : decode cX4_task 17 = .ok (.iload_n 1, 1) := by decide +kernel
theorem dX4_task_18 : decode cX4_task 18 = .ok (.aaload, 1) := by decide +kernel
theorem dX4_task_19 : decode cX4_task 19 = .ok (.astore_n 3, 1) := by decide +kernel
theorem dX4_task_20 : decode cX4_task 20 = .ok (.iload_n 2, 1) := by decide +kernel
theorem dX4_task_21 : decode cX4_task 21 = .ok (.iconst 0, 1) := by decide +kernel
theorem dX4_task_22 : decode cX4_task 22 = .ok (.bipush 7, 2) := by decide +kernel
theorem dX4_task_24 : decode cX4_task 24 = .ok (.invokestatic 75, 3) := by decide +kernel
theorem dX4_task_27 : decode cX4_task 27 = .ok (.ifCond .eq 10, 3) := by decide +kernel
theorem dX4_task_30 : decode cX4_task 30 = .ok (.aload_n 3, 1) := by decide +kernel
theorem dX4_task_31 : decode cX4_task 31 = .ok (.getfield 72, 3) := by decide +kernel
theorem dX4_task_34 : decode cX4_task 34 = .ok (.iload_n 2, 1) := by decide +kernel
theorem dX4_task_35 : decode cX4_task 35 = .ok (.iaload, 1) := by decide +kernel
theorem dX4_task_36 : decode cX4_task 36 = .ok (.ireturn, 1) := by decide +kernel
theorem dX4_task_37 : decode cX4_task 37 = .ok (.iload_n 2, 1) := by decide +kernel
theorem dX4_task_38 : decode cX4_task 38 = .ok (.bipush 8, 2) := by decide +kernel
theorem dX4_task_40 : decode cX4_task 40 = .ok (.bipush 13, 2) := by decide +kernel
theorem dX4_task_42 : decode cX4_task 42 = .ok (.invokestatic 75, 3) := by decide +kernel
theorem dX4_task_45 : decode cX4_task 45 = .ok (.ifCond .eq 16, 3) := by decide +kernel
theorem dX4_task_48 : decode cX4_task 48 = .ok (.aload_n 0, 1) := by decide +kernel
theorem dX4_task_49 : decode cX4_task 49 = .ok (.getfield 10, 3) := by decide +kernel
theorem dX4_task_52 : decode cX4_task 52 = .ok (.aload_n 3, 1) := by decide +kernel
theorem dX4_task_53 : decode cX4_task 53 = .ok (.iload_n 2, 1) := by decide +kernel
theorem dX4_task_54 : decode cX4_task 54 = .ok (.invokevirtual 177, 3) := by decide +kernel
theorem dX4_task_57 : decode cX4_task 57 = .ok (.invokevirtual 165, 3) := by decide +kernel
theorem dX4_task_60 : decode cX4_task 60 = .ok (.ireturn, 1) := by decide +kernel
theorem dX4_task_61 : decode cX4_task 61 = .ok (.iload_n 2, 1) := by decide +kernel
theorem dX4_task_62 : decode cX4_task 62 = .ok (.tableswitch 75 14 18 #[34, 41, 48, 53, 70], 34) := by decide +kernel
theorem dX4_task_96 : decode cX4_task 96 = .ok (.aload_n 3, 1) := by decide +kernel
theorem dX4_task_97 : decode cX4_task 97 = .ok (.getfield 79, 3) := by decide +kernel
theorem dX4_task_100 : decode cX4_task 100 = .ok (.iconst 0, 1) := by decide +kernel
theorem dX4_task_101 : decode cX4_task 101 = .ok (.iaload, 1) := by decide +kernel
theorem dX4_task_102 : decode cX4_task 102 = .ok (.ireturn, 1) := by decide +kernel
theorem dX4_task_103 : decode cX4_task 103 = .ok (.aload_n 3, 1) := by decide +kernel
theorem dX4_task_104 : decode cX4_task 104 = .ok (.getfield 79, 3) := by decide +kernel
theorem dX4_task_107 : decode cX4_task 107 = .ok (.iconst 1, 1) := by decide +kernel
theorem dX4_task_108 : decode cX4_task 108 = .ok (.iaload, 1) := by decide +kernel
theorem dX4_task_109 : decode cX4_task 109 = .ok (.ireturn, 1) := by decide +kernel
theorem dX4_task_110 : decode cX4_task 110 = .ok (.aload_n 3, 1) := by decide +kernel
theorem dX4_task_111 : decode cX4_task 111 = .ok (.getfield 180, 3) := by decide +kernel
theorem dX4_task_114 : decode cX4_task 114 = .ok (.ireturn, 1) := by decide +kernel
theorem dX4_task_115 : decode cX4_task 115 = .ok (.aload_n 3, 1) := by decide +kernel
theorem dX4_task_116 : decode cX4_task 116 = .ok (.getfield 183, 3) := by decide +kernel
theorem dX4_task_119 : decode cX4_task 119 = .ok (.ifCond .eq 10, 3) := by decide +kernel
theorem dX4_task_122 : decode cX4_task 122 = .ok (.aload_n 3, 1) := by decide +kernel
theorem dX4_task_123 : decode cX4_task 123 = .ok (.getfield 187, 3) := by decide +kernel
theorem dX4_task_126 : decode cX4_task 126 = .ok (.goto 5, 3) := by decide +kernel
theorem dX4_task_129 : decode cX4_task 129 = .ok (.bipush (-6), 2) := by decide +kernel
theorem dX4_task_131 : decode cX4_task 131 = .ok (.ireturn, 1) := by decide +kernel
theorem dX4_task_132 : decode cX4_task 132 = .ok (.aload_n 3, 1) := by decide +kernel
theorem dX4_task_133 : decode cX4_task 133 = .ok (.getfield 190, 3) := by decide +kernel
theorem dX4_task_136 : decode cX4_task 136 = .ok (.ireturn, 1) := by decide +kernel
theorem dX4_task_137 : decode cX4_task 137 = .ok (.bipush (-2), 2) := by decide +kernel
theorem dX4_task_139 : decode cX4_task 139 = .ok (.ireturn, 1) := by decide +kernel
theorem dX4_record_0 : decode cX4_record 0 = .ok (.iload_n 2, 1) := by decide +kernel
theorem dX4_record_1 : decode cX4_record 1 = .ok (.iconst 0, 1) := by decide +kernel
theorem dX4_record_2 : decode cX4_record 2 = .ok (.iconst 4, 1) := by decide +kernel
theorem dX4_record_3 : decode cX4_record 3 = .ok (.invokestatic 75, 3) := by decide +kernel
theorem dX4_record_6 : decode cX4_record 6 = .ok (.ifCond .ne 6, 3) := by decide +kernel
theorem dX4_record_9 : decode cX4_record 9 = .ok (.bipush (-2), 2) := by decide +kernel
theorem dX4_record_11 : decode cX4_record 11 = .ok (.ireturn, 1) := by decide +kernel
theorem dX4_record_12 : decode cX4_record 12 = .ok (.aload_n 0, 1) := by decide +kernel
theorem dX4_record_13 : decode cX4_record 13 = .ok (.getfield 10, 3) := by decide +kernel
theorem dX4_record_16 : decode cX4_record 16 = .ok (.getfield 141, 3) := by decide +kernel
theorem dX4_record_19 : decode cX4_record 19 = .ok (.iload_n 1, 1) := by decide +kernel
theorem dX4_record_20 : decode cX4_record 20 = .ok (.iload_n 2, 1) := by decide +kernel
theorem dX4_record_21 : decode cX4_record 21 = .ok (.invokevirtual 193, 3) := by decide +kernel
theorem dX4_record_24 : decode cX4_record 24 = .ok (.ireturn, 1) := by decide +kernel
theorem dX4_forecast_0 : decode cX4_forecast 0 = .ok (.iload_n 1, 1) := by decide +kernel
theorem dX4_forecast_1 : decode cX4_forecast 1 = .ok (.iconst 1, 1) := by decide +kernel
theorem dX4_forecast_2 : decode cX4_forecast 2 = .ok (.sipush 5000, 3) := by decide +kernel
theorem dX4_forecast_5 : decode cX4_forecast 5 = .ok (.invokestatic 75, 3) := by decide +kernel
theorem dX4_forecast_8 : decode cX4_forecast 8 = .ok (.ifCond .ne 6, 3) := by decide +kernel
theorem dX4_forecast_11 : decode cX4_forecast 11 = .ok (.bipush (-2), 2) := by decide +kernel
theorem dX4_forecast_13 : decode cX4_forecast 13 = .ok (.ireturn, 1) := by decide +kernel
theorem dX4_forecast_14 : decode cX4_forecast 14 = .ok (.aload_n 0, 1) := by decide +kernel
theorem dX4_forecast_15 : decode cX4_forecast 15 = .ok (.getfield 16, 3) := by decide +kernel
theorem dX4_forecast_18 : decode cX4_forecast 18 = .ok (.aload_n 0, 1) := by decide +kernel
theorem dX4_forecast_19 : decode cX4_forecast 19 = .ok (.getfield 10, 3) := by decide +kernel
theorem dX4_forecast_22 : decode cX4_forecast 22 = .ok (.invokevirtual 200, 3) := by decide +kernel
theorem dX4_forecast_25 : decode cX4_forecast 25 = .ok (.aload_n 0, 1) := by decide +kernel
theorem dX4_forecast_26 : decode cX4_forecast 26 = .ok (.getfield 16, 3) := by decide +kernel
theorem dX4_forecast_29 : decode cX4_forecast 29 = .ok (.iload_n 1, 1) := by decide +kernel
theorem dX4_forecast_30 : decode cX4_forecast 30 = .ok (.invokevirtual 125, 3) := by decide +kernel
theorem dX4_forecast_33 : decode cX4_forecast 33 = .ok (.ireturn, 1) := by decide +kernel
theorem dX4_hasTask_0 : decode cX4_hasTask 0 = .ok (.iload_n 1, 1) := by decide +kernel
theorem dX4_hasTask_1 : decode cX4_hasTask 1 = .ok (.iconst 0, 1) := by decide +kernel
theorem dX4_hasTask_2 : decode cX4_hasTask 2 = .ok (.aload_n 0, 1) := by decide +kernel
theorem dX4_hasTask_3 : decode cX4_hasTask 3 = .ok (.getfield 10, 3) := by decide +kernel
theorem dX4_hasTask_6 : decode cX4_hasTask 6 = .ok (.getfield 54, 3) := by decide +kernel
theorem dX4_hasTask_9 : decode cX4_hasTask 9 = .ok (.iconst 1, 1) := by decide +kernel
theorem dX4_hasTask_10 : decode cX4_hasTask 10 = .ok (.isub, 1) := by decide +kernel
theorem dX4_hasTask_11 : decode cX4_hasTask 11 = .ok (.invokestatic 75, 3) := by decide +kernel
theorem dX4_hasTask_14 : decode cX4_hasTask 14 = .ok (.ireturn, 1) := by decide +kernel
theorem dX4_isWithin_0 : decode cX4_isWithin 0 = .ok (.iload_n 0, 1) := by decide +kernel
theorem dX4_isWithin_1 : decode cX4_isWithin 1 = .ok (.iload_n 1, 1) := by decide +kernel
theorem dX4_isWithin_2 : decode cX4_isWithin 2 = .ok (.if_icmp .lt 12, 3) := by decide +kernel
theorem dX4_isWithin_5 : decode cX4_isWithin 5 = .ok (.iload_n 0, 1) := by decide +kernel
theorem dX4_isWithin_6 : decode cX4_isWithin 6 = .ok (.iload_n 2, 1) := by decide +kernel
theorem dX4_isWithin_7 : decode cX4_isWithin 7 = .ok (.if_icmp .gt 7, 3) := by decide +kernel
theorem dX4_isWithin_10 : decode cX4_isWithin 10 = .ok (.iconst 1, 1) := by decide +kernel
theorem dX4_isWithin_11 : decode cX4_isWithin 11 = .ok (.goto 4, 3) := by decide +kernel
theorem dX4_isWithin_14 : decode cX4_isWithin 14 = .ok (.iconst 0, 1) := by decide +kernel
theorem dX4_isWithin_15 : decode cX4_isWithin 15 = .ok (.ireturn, 1) := by decide +kernel
theorem dX4_isAllowed_0 : decode cX4_isAllowed 0 = .ok (.iload_n 0, 1) := by decide +kernel
theorem dX4_isAllowed_1 : decode cX4_isAllowed 1 = .ok (.ifCond .lt 32, 3) := by decide +kernel
theorem dX4_isAllowed_4 : decode cX4_isAllowed 4 = .ok (.iload_n 0, 1) := by decide +kernel
theorem dX4_isAllowed_5 : decode cX4_isAllowed 5 = .ok (.aload_n 2, 1) := by decide +kernel
theorem dX4_isAllowed_6 : decode cX4_isAllowed 6 = .ok (.arraylength, 1) := by decide +kernel
theorem dX4_isAllowed_7 : decode cX4_isAllowed 7 = .ok (.if_icmp .ge 26, 3) := by decide +kernel
theorem dX4_isAllowed_10 : decode cX4_isAllowed 10 = .ok (.iload_n 0, 1) := by decide +kernel
theorem dX4_isAllowed_11 : decode cX4_isAllowed 11 = .ok (.aload_n 3, 1) := by decide +kernel
theorem dX4_isAllowed_12 : decode cX4_isAllowed 12 = .ok (.arraylength, 1) := by decide +kernel
theorem dX4_isAllowed_13 : decode cX4_isAllowed 13 = .ok (.if_icmp .ge 20, 3) := by decide +kernel
theorem dX4_isAllowed_16 : decode cX4_isAllowed 16 = .ok (.iload_n 1, 1) := by decide +kernel
theorem dX4_isAllowed_17 : decode cX4_isAllowed 17 = .ok (.aload_n 2, 1) := by decide +kernel
theorem dX4_isAllowed_18 : decode cX4_isAllowed 18 = .ok (.iload_n 0, 1) := by decide +kernel
theorem dX4_isAllowed_19 : decode cX4_isAllowed 19 = .ok (.iaload, 1) := by decide +kernel
theorem dX4_isAllowed_20 : decode cX4_isAllowed 20 = .ok (.aload_n 3, 1) := by decide +kernel
theorem dX4_isAllowed_21 : decode cX4_isAllowed 21 = .ok (.iload_n 0, 1) := by decide +kernel
theorem dX4_isAllowed_22 : decode cX4_isAllowed 22 = .ok (.iaload, 1) := by decide +kernel
theorem dX4_isAllowed_23 : decode cX4_isAllowed 23 = .ok (.invokestatic 75, 3) := by decide +kernel
theorem dX4_isAllowed_26 : decode cX4_isAllowed 26 = .ok (.ifCond .eq 7, 3) := by decide +kernel
theorem dX4_isAllowed_29 : decode cX4_isAllowed 29 = .ok (.iconst 1, 1) := by decide +kernel
theorem dX4_isAllowed_30 : decode cX4_isAllowed 30 = .ok (.goto 4, 3) := by decide +kernel
theorem dX4_isAllowed_33 : decode cX4_isAllowed 33 = .ok (.iconst 0, 1) := by decide +kernel
theorem dX4_isAllowed_34 : decode cX4_isAllowed 34 = .ok (.ireturn, 1) := by decide +kernel
theorem dX4_divides_0 : decode cX4_divides 0 = .ok (.iload_n 0, 1) := by decide +kernel
theorem dX4_divides_1 : decode cX4_divides 1 = .ok (.ifCond .le 13, 3) := by decide +kernel
theorem dX4_divides_4 : decode cX4_divides 4 = .ok (.iload_n 1, 1) := by decide +kernel
theorem dX4_divides_5 : decode cX4_divides 5 = .ok (.iload_n 0, 1) := by decide +kernel
theorem dX4_divides_6 : decode cX4_divides 6 = .ok (.irem, 1) := by decide +kernel
theorem dX4_divides_7 : decode cX4_divides 7 = .ok (.ifCond .ne 7, 3) := by decide +kernel
theorem dX4_divides_10 : decode cX4_divides 10 = .ok (.iconst 1, 1) := by decide +kernel
theorem dX4_divides_11 : decode cX4_divides 11 = .ok (.goto 4, 3) := by decide +kernel
theorem dX4_divides_14 : decode cX4_divides 14 = .ok (.iconst 0, 1) := by decide +kernel
theorem dX4_divides_15 : decode cX4_divides 15 = .ok (.ireturn, 1) := by decide +kernel
