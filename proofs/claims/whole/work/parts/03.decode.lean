theorem dX0_init_0 : decode cX0_init 0 = .ok (.aload_n 0, 1) := by decide +kernel
theorem dX0_init_1 : decode cX0_init 1 = .ok (.invokespecial 3, 3) := by decide +kernel
theorem dX0_init_4 : decode cX0_init 4 = .ok (.aload_n 0, 1) := by decide +kernel
theorem dX0_init_5 : decode cX0_init 5 = .ok (.bipush 6, 2) := by decide +kernel
theorem dX0_init_7 : decode cX0_init 7 = .ok (.newarray .int, 2) := by decide +kernel
theorem dX0_init_9 : decode cX0_init 9 = .ok (.putfield 9, 3) := by decide +kernel
theorem dX0_init_12 : decode cX0_init 12 = .ok (.aload_n 0, 1) := by decide +kernel
theorem dX0_init_13 : decode cX0_init 13 = .ok (.bipush 6, 2) := by decide +kernel
theorem dX0_init_15 : decode cX0_init 15 = .ok (.newarray .int, 2) := by decide +kernel
theorem dX0_init_17 : decode cX0_init 17 = .ok (.putfield 15, 3) := by decide +kernel
theorem dX0_init_20 : decode cX0_init 20 = .ok (.aload_n 0, 1) := by decide +kernel
theorem dX0_init_21 : decode cX0_init 21 = .ok (.aload_n 1, 1) := by decide +kernel
theorem dX0_init_22 : decode cX0_init 22 = .ok (.putfield 18, 3) := by decide +kernel
theorem dX0_init_25 : decode cX0_init 25 = .ok (.return_, 1) := by decide +kernel
theorem dX0_search_0 : decode cX0_search 0 = .ok (.aload_n 0, 1) := by decide +kernel
theorem dX0_search_1 : decode cX0_search 1 = .ok (.sipush 181, 3) := by decide +kernel
theorem dX0_search_4 : decode cX0_search 4 = .ok (.putfield 22, 3) := by decide +kernel
theorem dX0_search_7 : decode cX0_search 7 = .ok (.aload_n 0, 1) := by decide +kernel
theorem dX0_search_8 : decode cX0_search 8 = .ok (.iconst 0, 1) := by decide +kernel
theorem dX0_search_9 : decode cX0_search 9 = .ok (.iconst 0, 1) := by decide +kernel
theorem dX0_search_10 : decode cX0_search 10 = .ok (.iconst 0, 1) := by decide +kernel
theorem dX0_search_11 : decode cX0_search 11 = .ok (.invokestatic 26, 3) := by decide +kernel
theorem dX0_search_14 : decode cX0_search 14 = .ok (.return_, 1) := by decide +kernel
theorem dX0_hangFrom_0 : decode cX0_hangFrom 0 = .ok (.iload_n 3, 1) := by decide +kernel
theorem dX0_hangFrom_1 : decode cX0_hangFrom 1 = .ok (.aload_n 0, 1) := by decide +kernel
theorem dX0_hangFrom_2 : decode cX0_hangFrom 2 = .ok (.getfield 22, 3) := by decide +kernel
theorem dX0_hangFrom_5 : decode cX0_hangFrom 5 = .ok (.if_icmp .lt 4, 3) := by decide +kernel
theorem dX0_hangFrom_8 : decode cX0_hangFrom 8 = .ok (.return_, 1) := by decide +kernel
theorem dX0_hangFrom_9 : decode cX0_hangFrom 9 = .ok (.iload_n 1, 1) := by decide +kernel
theorem dX0_hangFrom_10 : decode cX0_hangFrom 10 = .ok (.aload_n 0, 1) := by decide +kernel
theorem dX0_hangFrom_11 : decode cX0_hangFrom 11 = .ok (.getfield 18, 3) := by decide +kernel
theorem dX0_hangFrom_14 : decode cX0_hangFrom 14 = .ok (.getfield 30, 3) := by decide +kernel
theorem dX0_hangFrom_17 : decode cX0_hangFrom 17 = .ok (.if_icmp .ge 9, 3) := by decide +kernel
theorem dX0_hangFrom_20 : decode cX0_hangFrom 20 = .ok (.iload_n 1, 1) := by decide +kernel
theorem dX0_hangFrom_21 : decode cX0_hangFrom 21 = .ok (.bipush 6, 2) := by decide +kernel
theorem dX0_hangFrom_23 : decode cX0_hangFrom 23 = .ok (.if_icmp .lt 24, 3) := by decide +kernel
theorem dX0_hangFrom_26 : decode cX0_hangFrom 26 = .ok (.aload_n 0, 1) := by decide +kernel
theorem dX0_hangFrom_27 : decode cX0_hangFrom 27 = .ok (.iload_n 3, 1) := by decide +kernel
theorem dX0_hangFrom_28 : decode cX0_hangFrom 28 = .ok (.putfield 22, 3) := by decide +kernel
theorem dX0_hangFrom_31 : decode cX0_hangFrom 31 = .ok (.aload_n 0, 1) := by decide +kernel
theorem dX0_hangFrom_32 : decode cX0_hangFrom 32 = .ok (.getfield 15, 3) := by decide +kernel
theorem dX0_hangFrom_35 : decode cX0_hangFrom 35 = .ok (.iconst 0, 1) := by decide +kernel
theorem dX0_hangFrom_36 : decode cX0_hangFrom 36 = .ok (.aload_n 0, 1) := by decide +kernel
theorem dX0_hangFrom_37 : decode cX0_hangFrom 37 = .ok (.getfield 9, 3) := by decide +kernel
theorem dX0_hangFrom_40 : decode cX0_hangFrom 40 = .ok (.iconst 0, 1) := by decide +kernel
theorem dX0_hangFrom_41 : decode cX0_hangFrom 41 = .ok (.bipush 6, 2) := by decide +kernel
theorem dX0_hangFrom_43 : decode cX0_hangFrom 43 = .ok (.invokestatic 35, 3) := by decide +kernel
theorem dX0_hangFrom_46 : decode cX0_hangFrom 46 = .ok (.return_, 1) := by decide +kernel
theorem dX0_hangFrom_47 : decode cX0_hangFrom 47 = .ok (.iconst 0, 1) := by decide +kernel
theorem dX0_hangFrom_48 : decode cX0_hangFrom 48 = .ok (.istore 4, 2) := by decide +kernel
theorem dX0_hangFrom_50 : decode cX0_hangFrom 50 = .ok (.iload 4, 2) := by decide +kernel
theorem dX0_hangFrom_52 : decode cX0_hangFrom 52 = .ok (.aload_n 0, 1) := by decide +kernel
theorem dX0_hangFrom_53 : decode cX0_hangFrom 53 = .ok (.getfield 18, 3) := by decide +kernel
theorem dX0_hangFrom_56 : decode cX0_hangFrom 56 = .ok (.getfield 30, 3) := by decide +kernel
theorem dX0_hangFrom_59 : decode cX0_hangFrom 59 = .ok (.if_icmp .ge 74, 3) := by decide +kernel
theorem dX0_hangFrom_62 : decode cX0_hangFrom 62 = .ok (.iload 4, 2) := by decide +kernel
theorem dX0_hangFrom_64 : decode cX0_hangFrom 64 = .ok (.iload_n 1, 1) := by decide +kernel
theorem dX0_hangFrom_65 : decode cX0_hangFrom 65 = .ok (.if_icmp .eq 62, 3) := by decide +kernel
theorem dX0_hangFrom_68 : decode cX0_hangFrom 68 = .ok (.iload_n 2, 1) := by decide +kernel
theorem dX0_hangFrom_69 : decode cX0_hangFrom 69 = .ok (.iload 4, 2) := by decide +kernel
theorem dX0_hangFrom_71 : decode cX0_hangFrom 71 = .ok (.ishr, 1) := by decide +kernel
theorem dX0_hangFrom_72 : decode cX0_hangFrom 72 = .ok (.iconst 1, 1) := by decide +kernel
theorem dX0_hangFrom_73 : decode cX0_hangFrom 73 = .ok (.iand, 1) := by decide +kernel
theorem dX0_hangFrom_74 : decode cX0_hangFrom 74 = .ok (.ifCond .ne 53, 3) := by decide +kernel
theorem dX0_hangFrom_77 : decode cX0_hangFrom 77 = .ok (.aload_n 0, 1) := by decide +kernel
theorem dX0_hangFrom_78 : decode cX0_hangFrom 78 = .ok (.getfield 15, 3) := by decide +kernel
theorem dX0_hangFrom_81 : decode cX0_hangFrom 81 = .ok (.iload_n 1, 1) := by decide +kernel
theorem dX0_hangFrom_82 : decode cX0_hangFrom 82 = .ok (.iload 4, 2) := by decide +kernel
theorem dX0_hangFrom_84 : decode cX0_hangFrom 84 = .ok (.iastore, 1) := by decide +kernel
theorem dX0_hangFrom_85 : decode cX0_hangFrom 85 = .ok (.aload_n 0, 1) := by decide +kernel
theorem dX0_hangFrom_86 : decode cX0_hangFrom 86 = .ok (.getfield 18, 3) := by decide +kernel
theorem dX0_hangFrom_89 : decode cX0_hangFrom 89 = .ok (.getfield 41, 3) := by decide +kernel
theorem dX0_hangFrom_92 : decode cX0_hangFrom 92 = .ok (.iload_n 1, 1) := by decide +kernel
theorem dX0_hangFrom_93 : decode cX0_hangFrom 93 = .ok (.iaload, 1) := by decide +kernel
theorem dX0_hangFrom_94 : decode cX0_hangFrom 94 = .ok (.aload_n 0, 1) := by decide +kernel
theorem dX0_hangFrom_95 : decode cX0_hangFrom 95 = .ok (.getfield 18, 3) := by decide +kernel
theorem dX0_hangFrom_98 : decode cX0_hangFrom 98 = .ok (.getfield 41, 3) := by decide +kernel
theorem dX0_hangFrom_101 : decode cX0_hangFrom 101 = .ok (.iload 4, 2) := by decide +kernel
theorem dX0_hangFrom_103 : decode cX0_hangFrom 103 = .ok (.iaload, 1) := by decide +kernel
theorem dX0_hangFrom_104 : decode cX0_hangFrom 104 = .ok (.isub, 1) := by decide +kernel
theorem dX0_hangFrom_105 : decode cX0_hangFrom 105 = .ok (.invokestatic 44, 3) := by decide +kernel
theorem dX0_hangFrom_108 : decode cX0_hangFrom 108 = .ok (.istore 5, 2) := by decide +kernel
theorem dX0_hangFrom_110 : decode cX0_hangFrom 110 = .ok (.aload_n 0, 1) := by decide +kernel
theorem dX0_hangFrom_111 : decode cX0_hangFrom 111 = .ok (.iload_n 1, 1) := by decide +kernel
theorem dX0_hangFrom_112 : decode cX0_hangFrom 112 = .ok (.iconst 1, 1) := by decide +kernel
theorem dX0_hangFrom_113 : decode cX0_hangFrom 113 = .ok (.iadd, 1) := by decide +kernel
theorem dX0_hangFrom_114 : decode cX0_hangFrom 114 = .ok (.iload_n 2, 1) := by decide +kernel
theorem dX0_hangFrom_115 : decode cX0_hangFrom 115 = .ok (.iconst 1, 1) := by decide +kernel
theorem dX0_hangFrom_116 : decode cX0_hangFrom 116 = .ok (.iload 4, 2) := by decide +kernel
theorem dX0_hangFrom_118 : decode cX0_hangFrom 118 = .ok (.ishl, 1) := by decide +kernel
theorem dX0_hangFrom_119 : decode cX0_hangFrom 119 = .ok (.ior, 1) := by decide +kernel
theorem dX0_hangFrom_120 : decode cX0_hangFrom 120 = .ok (.iload_n 3, 1) := by decide +kernel
theorem dX0_hangFrom_121 : decode cX0_hangFrom 121 = .ok (.iload 5, 2) := by decide +kernel
theorem dX0_hangFrom_123 : decode cX0_hangFrom 123 = .ok (.iadd, 1) := by decide +kernel
theorem dX0_hangFrom_124 : decode cX0_hangFrom 124 = .ok (.invokestatic 26, 3) := by decide +kernel
theorem dX0_hangFrom_127 : decode cX0_hangFrom 127 = .ok (.iinc 4 1, 3) := by decide +kernel
theorem dX0_hangFrom_130 : decode cX0_hangFrom 130 = .ok (.goto (-80), 3) := by decide +kernel
theorem dX0_hangFrom_133 : decode cX0_hangFrom 133 = .ok (.return_, 1) := by decide +kernel
theorem dX1_init_0 : decode cX1_init 0 = .ok (.aload_n 0, 1) := by decide +kernel
theorem dX1_init_1 : decode cX1_init 1 = .ok (.invokespecial 3, 3) := by decide +kernel
theorem dX1_init_4 : decode cX1_init 4 = .ok (.aload_n 0, 1) := by decide +kernel
theorem dX1_init_5 : decode cX1_init 5 = .ok (.bipush 6, 2) := by decide +kernel
theorem dX1_init_7 : decode cX1_init 7 = .ok (.newarray .int, 2) := by decide +kernel
theorem dX1_init_9 : decode cX1_init 9 = .ok (.putfield 9, 3) := by decide +kernel
theorem dX1_init_12 : decode cX1_init 12 = .ok (.aload_n 0, 1) := by decide +kernel
theorem dX1_init_13 : decode cX1_init 13 = .ok (.bipush 6, 2) := by decide +kernel
theorem dX1_init_15 : decode cX1_init 15 = .ok (.newarray .int, 2) := by decide +kernel
theorem dX1_init_17 : decode cX1_init 17 = .ok (.putfield 15, 3) := by decide +kernel
theorem dX1_init_20 : decode cX1_init 20 = .ok (.aload_n 0, 1) := by decide +kernel
theorem dX1_init_21 : decode cX1_init 21 = .ok (.bipush 6, 2) := by decide +kernel
theorem dX1_init_23 : decode cX1_init 23 = .ok (.newarray .int, 2) := by decide +kernel
theorem dX1_init_25 : decode cX1_init 25 = .ok (.putfield 18, 3) := by decide +kernel
theorem dX1_init_28 : decode cX1_init 28 = .ok (.aload_n 0, 1) := by decide +kernel
theorem dX1_init_29 : decode cX1_init 29 = .ok (.bipush 6, 2) := by decide +kernel
theorem dX1_init_31 : decode cX1_init 31 = .ok (.newarray .int, 2) := by decide +kernel
theorem dX1_init_33 : decode cX1_init 33 = .ok (.putfield 21, 3) := by decide +kernel
theorem dX1_init_36 : decode cX1_init 36 = .ok (.aload_n 0, 1) := by decide +kernel
theorem dX1_init_37 : decode cX1_init 37 = .ok (.bipush 6, 2) := by decide +kernel
theorem dX1_init_39 : decode cX1_init 39 = .ok (.newarray .int, 2) := by decide +kernel
theorem dX1_init_41 : decode cX1_init 41 = .ok (.putfield 24, 3) := by decide +kernel
theorem dX1_init_44 : decode cX1_init 44 = .ok (.return_, 1) := by decide +kernel
theorem dX1_has_0 : decode cX1_has 0 = .ok (.iload_n 1, 1) := by decide +kernel
theorem dX1_has_1 : decode cX1_has 1 = .ok (.ifCond .lt 15, 3) := by decide +kernel
theorem dX1_has_4 : decode cX1_has 4 = .ok (.iload_n 1, 1) := by decide +kernel
theorem dX1_has_5 : decode cX1_has 5 = .ok (.aload_n 0, 1) := by decide +kernel
theorem dX1_has_6 : decode cX1_has 6 = .ok (.getfield 27, 3) := by decide +kernel
theorem dX1_has_9 : decode cX1_has 9 = .ok (.if_icmp .ge 7, 3) := by decide +kernel
theorem dX1_has_12 : decode cX1_has 12 = .ok (.iconst 1, 1) := by decide +kernel
theorem dX1_has_13 : decode cX1_has 13 = .ok (.goto 4, 3) := by decide +kernel
theorem dX1_has_16 : decode cX1_has 16 = .ok (.iconst 0, 1) := by decide +kernel
theorem dX1_has_17 : decode cX1_has 17 = .ok (.ireturn, 1) := by decide +kernel
theorem dX1_everyone_0 : decode cX1_everyone 0 = .ok (.iconst 1, 1) := by decide +kernel
theorem dX1_everyone_1 : decode cX1_everyone 1 = .ok (.aload_n 0, 1) := by decide +kernel
theorem dX1_everyone_2 : decode cX1_everyone 2 = .ok (.getfield 27, 3) := by decide +kernel
theorem dX1_everyone_5 : decode cX1_everyone 5 = .ok (.ishl, 1) := by decide +kernel
theorem dX1_everyone_6 : decode cX1_everyone 6 = .ok (.iconst 1, 1) := by decide +kernel
theorem dX1_everyone_7 : decode cX1_everyone 7 = .ok (.isub, 1) := by decide +kernel
theorem dX1_everyone_8 : decode cX1_everyone 8 = .ok (.ireturn, 1) := by decide +kernel
theorem dX1_copyFrom_0 : decode cX1_copyFrom 0 = .ok (.aload_n 0, 1) := by decide +kernel
theorem dX1_copyFrom_1 : decode cX1_copyFrom 1 = .ok (.aload_n 1, 1) := by decide +kernel
theorem dX1_copyFrom_2 : decode cX1_copyFrom 2 = .ok (.getfield 27, 3) := by decide +kernel
theorem dX1_copyFrom_5 : decode cX1_copyFrom 5 = .ok (.putfield 27, 3) := by decide +kernel
theorem dX1_copyFrom_8 : decode cX1_copyFrom 8 = .ok (.iconst 0, 1) := by decide +kernel
theorem dX1_copyFrom_9 : decode cX1_copyFrom 9 = .ok (.istore_n 2, 1) := by decide +kernel
theorem dX1_copyFrom_10 : decode cX1_copyFrom 10 = .ok (.iload_n 2, 1) := by decide +kernel
theorem dX1_copyFrom_11 : decode cX1_copyFrom 11 = .ok (.bipush 6, 2) := by decide +kernel
theorem dX1_copyFrom_13 : decode cX1_copyFrom 13 = .ok (.if_icmp .ge 69, 3) := by decide +kernel
theorem dX1_copyFrom_16 : decode cX1_copyFrom 16 = .ok (.aload_n 0, 1) := by decide +kernel
theorem dX1_copyFrom_17 : decode cX1_copyFrom 17 = .ok (.getfield 9, 3) := by decide +kernel
theorem dX1_copyFrom_20 : decode cX1_copyFrom 20 = .ok (.iload_n 2, 1) := by decide +kernel
theorem dX1_copyFrom_21 : decode cX1_copyFrom 21 = .ok (.aload_n 1, 1) := by decide +kernel
theorem dX1_copyFrom_22 : decode cX1_copyFrom 22 = .ok (.getfield 9, 3) := by decide +kernel
theorem dX1_copyFrom_25 : decode cX1_copyFrom 25 = .ok (.iload_n 2, 1) := by decide +kernel
theorem dX1_copyFrom_26 : decode cX1_copyFrom 26 = .ok (.iaload, 1) := by decide +kernel
theorem dX1_copyFrom_27 : decode cX1_copyFrom 27 = .ok (.iastore, 1) := by decide +kernel
theorem dX1_copyFrom_28 : decode cX1_copyFrom 28 = .ok (.aload_n 0, 1) := by decide +kernel
theorem dX1_copyFrom_29 : decode cX1_copyFrom 29 = .ok (.getfield 15, 3) := by decide +kernel
theorem dX1_copyFrom_32 : decode cX1_copyFrom 32 = .ok (.iload_n 2, 1) := by decide +kernel
theorem dX1_copyFrom_33 : decode cX1_copyFrom 33 = .ok (.aload_n 1, 1) := by decide +kernel
theorem dX1_copyFrom_34 : decode cX1_copyFrom 34 = .ok (.getfield 15, 3) := by decide +kernel
theorem dX1_copyFrom_37 : decode cX1_copyFrom 37 = .ok (.iload_n 2, 1) := by decide +kernel
theorem dX1_copyFrom_38 : decode cX1_copyFrom 38 = .ok (.iaload, 1) := by decide +kernel
theorem dX1_copyFrom_39 : decode cX1_copyFrom 39 = .ok (.iastore, 1) := by decide +kernel
theorem dX1_copyFrom_40 : decode cX1_copyFrom 40 = .ok (.aload_n 0, 1) := by decide +kernel
theorem dX1_copyFrom_41 : decode cX1_copyFrom 41 = .ok (.getfield 18, 3) := by decide +kernel
theorem dX1_copyFrom_44 : decode cX1_copyFrom 44 = .ok (.iload_n 2, 1) := by decide +kernel
theorem dX1_copyFrom_45 : decode cX1_copyFrom 45 = .ok (.aload_n 1, 1) := by decide +kernel
theorem dX1_copyFrom_46 : decode cX1_copyFrom 46 = .ok (.getfield 18, 3) := by decide +kernel
theorem dX1_copyFrom_49 : decode cX1_copyFrom 49 = .ok (.iload_n 2, 1) := by decide +kernel
theorem dX1_copyFrom_50 : decode cX1_copyFrom 50 = .ok (.iaload, 1) := by decide +kernel
theorem dX1_copyFrom_51 : decode cX1_copyFrom 51 = .ok (.iastore, 1) := by decide +kernel
theorem dX1_copyFrom_52 : decode cX1_copyFrom 52 = .ok (.aload_n 0, 1) := by decide +kernel
theorem dX1_copyFrom_53 : decode cX1_copyFrom 53 = .ok (.getfield 21, 3) := by decide +kernel
theorem dX1_copyFrom_56 : decode cX1_copyFrom 56 = .ok (.iload_n 2, 1) := by decide +kernel
theorem dX1_copyFrom_57 : decode cX1_copyFrom 57 = .ok (.aload_n 1, 1) := by decide +kernel
theorem dX1_copyFrom_58 : decode cX1_copyFrom 58 = .ok (.getfield 21, 3) := by decide +kernel
theorem dX1_copyFrom_61 : decode cX1_copyFrom 61 = .ok (.iload_n 2, 1) := by decide +kernel
theorem dX1_copyFrom_62 : decode cX1_copyFrom 62 = .ok (.iaload, 1) := by decide +kernel
theorem dX1_copyFrom_63 : decode cX1_copyFrom 63 = .ok (.iastore, 1) := by decide +kernel
theorem dX1_copyFrom_64 : decode cX1_copyFrom 64 = .ok (.aload_n 0, 1) := by decide +kernel
theorem dX1_copyFrom_65 : decode cX1_copyFrom 65 = .ok (.getfield 24, 3) := by decide +kernel
theorem dX1_copyFrom_68 : decode cX1_copyFrom 68 = .ok (.iload_n 2, 1) := by decide +kernel
theorem dX1_copyFrom_69 : decode cX1_copyFrom 69 = .ok (.aload_n 1, 1) := by decide +kernel
theorem dX1_copyFrom_70 : decode cX1_copyFrom 70 = .ok (.getfield 24, 3) := by decide +kernel
theorem dX1_copyFrom_73 : decode cX1_copyFrom 73 = .ok (.iload_n 2, 1) := by decide +kernel
theorem dX1_copyFrom_74 : decode cX1_copyFrom 74 = .ok (.iaload, 1) := by decide +kernel
theorem dX1_copyFrom_75 : decode cX1_copyFrom 75 = .ok (.iastore, 1) := by decide +kernel
theorem dX1_copyFrom_76 : decode cX1_copyFrom 76 = .ok (.iinc 2 1, 3) := by decide +kernel
theorem dX1_copyFrom_79 : decode cX1_copyFrom 79 = .ok (.goto (-69), 3) := by decide +kernel
theorem dX1_copyFrom_82 : decode cX1_copyFrom 82 = .ok (.return_, 1) := by decide +kernel
theorem dX1_keepersAreThere_0 : decode cX1_keepersAreThere 0 = .ok (.iconst 0, 1) := by decide +kernel
theorem dX1_keepersAreThere_1 : decode cX1_keepersAreThere 1 = .ok (.istore_n 1, 1) := by decide +kernel
theorem dX1_keepersAreThere_2 : decode cX1_keepersAreThere 2 = .ok (.iload_n 1, 1) := by decide +kernel
theorem dX1_keepersAreThere_3 : decode cX1_keepersAreThere 3 = .ok (.aload_n 0, 1) := by decide +kernel
theorem dX1_keepersAreThere_4 : decode cX1_keepersAreThere 4 = .ok (.getfield 27, 3) := by decide +kernel
theorem dX1_keepersAreThere_7 : decode cX1_keepersAreThere 7 = .ok (.if_icmp .ge 24, 3) := by decide +kernel
theorem dX1_keepersAreThere_10 : decode cX1_keepersAreThere 10 = .ok (.aload_n 0, 1) := by decide +kernel
theorem dX1_keepersAreThere_11 : decode cX1_keepersAreThere 11 = .ok (.aload_n 0, 1) := by decide +kernel
theorem dX1_keepersAreThere_12 : decode cX1_keepersAreThere 12 = .ok (.getfield 24, 3) := by decide +kernel
theorem dX1_keepersAreThere_15 : decode cX1_keepersAreThere 15 = .ok (.iload_n 1, 1) := by decide +kernel
theorem dX1_keepersAreThere_16 : decode cX1_keepersAreThere 16 = .ok (.iaload, 1) := by decide +kernel
theorem dX1_keepersAreThere_17 : decode cX1_keepersAreThere 17 = .ok (.invokevirtual 31, 3) := by decide +kernel
theorem dX1_keepersAreThere_20 : decode cX1_keepersAreThere 20 = .ok (.ifCond .ne 5, 3) := by decide +kernel
theorem dX1_keepersAreThere_23 : decode cX1_keepersAreThere 23 = .ok (.iconst 0, 1) := by decide +kernel
theorem dX1_keepersAreThere_24 : decode cX1_keepersAreThere 24 = .ok (.ireturn, 1) := by decide +kernel
theorem dX1_keepersAreThere_25 : decode cX1_keepersAreThere 25 = .ok (.iinc 1 1, 3) := by decide +kernel
theorem dX1_keepersAreThere_28 : decode cX1_keepersAreThere 28 = .ok (.goto (-26), 3) := by decide +kernel
theorem dX1_keepersAreThere_31 : decode cX1_keepersAreThere 31 = .ok (.iconst 1, 1) := by decide +kernel
theorem dX1_keepersAreThere_32 : decode cX1_keepersAreThere 32 = .ok (.ireturn, 1) := by decide +kernel
theorem dX1_askedBehind_0 : decode cX1_askedBehind 0 = .ok (.iload_n 1, 1) := by decide +kernel
theorem dX1_askedBehind_1 : decode cX1_askedBehind 1 = .ok (.invokestatic 35, 3) := by decide +kernel
theorem dX1_askedBehind_4 : decode cX1_askedBehind 4 = .ok (.istore_n 3, 1) := by decide +kernel
theorem dX1_askedBehind_5 : decode cX1_askedBehind 5 = .ok (.iload_n 1, 1) := by decide +kernel
theorem dX1_askedBehind_6 : decode cX1_askedBehind 6 = .ok (.istore 4, 2) := by decide +kernel
theorem dX1_askedBehind_8 : decode cX1_askedBehind 8 = .ok (.iconst 0, 1) := by decide +kernel
theorem dX1_askedBehind_9 : decode cX1_askedBehind 9 = .ok (.istore 5, 2) := by decide +kernel
theorem dX1_askedBehind_11 : decode cX1_askedBehind 11 = .ok (.iload 5, 2) := by decide +kernel
theorem dX1_askedBehind_13 : decode cX1_askedBehind 13 = .ok (.aload_n 0, 1) := by decide +kernel
theorem dX1_askedBehind_14 : decode cX1_askedBehind 14 = .ok (.getfield 27, 3) := by decide +kernel
theorem dX1_askedBehind_17 : decode cX1_askedBehind 17 = .ok (.if_icmp .ge 40, 3) := by decide +kernel
theorem dX1_askedBehind_20 : decode cX1_askedBehind 20 = .ok (.aload_n 0, 1) := by decide +kernel
theorem dX1_askedBehind_21 : decode cX1_askedBehind 21 = .ok (.getfield 18, 3) := by decide +kernel
theorem dX1_askedBehind_24 : decode cX1_askedBehind 24 = .ok (.iload 5, 2) := by decide +kernel
theorem dX1_askedBehind_26 : decode cX1_askedBehind 26 = .ok (.iaload, 1) := by decide +kernel
theorem dX1_askedBehind_27 : decode cX1_askedBehind 27 = .ok (.iload_n 2, 1) := by decide +kernel
theorem dX1_askedBehind_28 : decode cX1_askedBehind 28 = .ok (.if_icmp .le 14, 3) := by decide +kernel
theorem dX1_askedBehind_31 : decode cX1_askedBehind 31 = .ok (.aload_n 0, 1) := by decide +kernel
theorem dX1_askedBehind_32 : decode cX1_askedBehind 32 = .ok (.getfield 21, 3) := by decide +kernel
theorem dX1_askedBehind_35 : decode cX1_askedBehind 35 = .ok (.iload 5, 2) := by decide +kernel
theorem dX1_askedBehind_37 : decode cX1_askedBehind 37 = .ok (.iaload, 1) := by decide +kernel
theorem dX1_askedBehind_38 : decode cX1_askedBehind 38 = .ok (.iload_n 3, 1) := by decide +kernel
theorem dX1_askedBehind_39 : decode cX1_askedBehind 39 = .ok (.if_icmp .gt 12, 3) := by decide +kernel
theorem dX1_askedBehind_42 : decode cX1_askedBehind 42 = .ok (.iload 4, 2) := by decide +kernel
theorem dX1_askedBehind_44 : decode cX1_askedBehind 44 = .ok (.iconst 1, 1) := by decide +kernel
theorem dX1_askedBehind_45 : decode cX1_askedBehind 45 = .ok (.iload 5, 2) := by decide +kernel
theorem dX1_askedBehind_47 : decode cX1_askedBehind 47 = .ok (.ishl, 1) := by decide +kernel
theorem dX1_askedBehind_48 : decode cX1_askedBehind 48 = .ok (.ior, 1) := by decide +kernel
theorem dX1_askedBehind_49 : decode cX1_askedBehind 49 = .ok (.istore 4, 2) := by decide +kernel
theorem dX1_askedBehind_51 : decode cX1_askedBehind 51 = .ok (.iinc 5 1, 3) := by decide +kernel
theorem dX1_askedBehind_54 : decode cX1_askedBehind 54 = .ok (.goto (-43), 3) := by decide +kernel
theorem dX1_askedBehind_57 : decode cX1_askedBehind 57 = .ok (.iload 4, 2) := by decide +kernel
theorem dX1_askedBehind_59 : decode cX1_askedBehind 59 = .ok (.ireturn, 1) := by decide +kernel
theorem dX2_init_0 : decode cX2_init 0 = .ok (.aload_n 0, 1) := by decide +kernel
theorem dX2_init_1 : decode cX2_init 1 = .ok (.invokespecial 3, 3) := by decide +kernel
theorem dX2_init_4 : decode cX2_init 4 = .ok (.aload_n 0, 1) := by decide +kernel
theorem dX2_init_5 : decode cX2_init 5 = .ok (.bipush 10, 2) := by decide +kernel
theorem dX2_init_7 : decode cX2_init 7 = .ok (.anewarray 9, 3) := by decide +kernel
theorem dX2_init_10 : decode cX2_init 10 = .ok (.putfield 11, 3) := by decide +kernel
theorem dX2_init_13 : decode cX2_init 13 = .ok (.iconst 0, 1) := by decide +kernel
theorem dX2_init_14 : decode cX2_init 14 = .ok (.istore_n 2, 1) := by decide +kernel
theorem dX2_init_15 : decode cX2_init 15 = .ok (.iload_n 2, 1) := by decide +kernel
theorem dX2_init_16 : decode cX2_init 16 = .ok (.bipush 10, 2) := by decide +kernel
theorem dX2_init_18 : decode cX2_init 18 = .ok (.if_icmp .ge 23, 3) := by decide +kernel
theorem dX2_init_21 : decode cX2_init 21 = .ok (.aload_n 0, 1) := by decide +kernel
theorem dX2_init_22 : decode cX2_init 22 = .ok (.getfield 11, 3) := by decide +kernel
theorem dX2_init_25 : decode cX2_init 25 = .ok (.iload_n 2, 1) := by decide +kernel
theorem dX2_init_26 : decode cX2_init 26 = .ok (.new 9, 3) := by decide +kernel
theorem dX2_init_29 : decode cX2_init 29 = .ok (.dup, 1) := by decide +kernel
theorem dX2_init_30 : decode cX2_init 30 = .ok (.aload_n 1, 1) := by decide +kernel
theorem dX2_init_31 : decode cX2_init 31 = .ok (.invokespecial 17, 3) := by decide +kernel
theorem dX2_init_34 : decode cX2_init 34 = .ok (.aastore, 1) := by decide +kernel
theorem dX2_init_35 : decode cX2_init 35 = .ok (.iinc 2 1, 3) := by decide +kernel
theorem dX2_init_38 : decode cX2_init 38 = .ok (.goto (-23), 3) := by decide +kernel
theorem dX2_init_41 : decode cX2_init 41 = .ok (.return_, 1) := by decide +kernel
theorem dX2_push_0 : decode cX2_push 0 = .ok (.aload_n 0, 1) := by decide +kernel
theorem dX2_push_1 : decode cX2_push 1 = .ok (.getfield 11, 3) := by decide +kernel
theorem dX2_push_4 : decode cX2_push 4 = .ok (.aload_n 0, 1) := by decide +kernel
theorem dX2_push_5 : decode cX2_push 5 = .ok (.getfield 20, 3) := by decide +kernel
theorem dX2_push_8 : decode cX2_push 8 = .ok (.aaload, 1) := by decide +kernel
theorem dX2_push_9 : decode cX2_push 9 = .ok (.aload_n 1, 1) := by decide +kernel
theorem dX2_push_10 : decode cX2_push 10 = .ok (.invokevirtual 24, 3) := by decide +kernel
theorem dX2_push_13 : decode cX2_push 13 = .ok (.aload_n 0, 1) := by decide +kernel
theorem dX2_push_14 : decode cX2_push 14 = .ok (.aload_n 0, 1) := by decide +kernel
theorem dX2_push_15 : decode cX2_push 15 = .ok (.getfield 20, 3) := by decide +kernel
theorem dX2_push_18 : decode cX2_push 18 = .ok (.bipush 9, 2) := by decide +kernel
theorem dX2_push_20 : decode cX2_push 20 = .ok (.if_icmp .ne 7, 3) := by decide +kernel
theorem dX2_push_23 : decode cX2_push 23 = .ok (.iconst 0, 1) := by decide +kernel
theorem dX2_push_24 : decode cX2_push 24 = .ok (.goto 9, 3) := by decide +kernel
theorem dX2_push_27 : decode cX2_push 27 = .ok (.aload_n 0, 1) := by decide +kernel
theorem dX2_push_28 : decode cX2_push 28 = .ok (.getfield 20, 3) := by decide +kernel
theorem dX2_push_31 : decode cX2_push 31 = .ok (.iconst 1, 1) := by decide +kernel
theorem dX2_push_32 : decode cX2_push 32 = .ok (.iadd, 1) := by decide +kernel
theorem dX2_push_33 : decode cX2_push 33 = .ok (.putfield 20, 3) := by decide +kernel
theorem dX2_push_36 : decode cX2_push 36 = .ok (.aload_n 0, 1) := by decide +kernel
theorem dX2_push_37 : decode cX2_push 37 = .ok (.aload_n 0, 1) := by decide +kernel
theorem dX2_push_38 : decode cX2_push 38 = .ok (.getfield 28, 3) := by decide +kernel
theorem dX2_push_41 : decode cX2_push 41 = .ok (.iconst 1, 1) := by decide +kernel
theorem dX2_push_42 : decode cX2_push 42 = .ok (.iadd, 1) := by decide +kernel
theorem dX2_push_43 : decode cX2_push 43 = .ok (.bipush 10, 2) := by decide +kernel
theorem dX2_push_45 : decode cX2_push 45 = .ok (.invokestatic 31, 3) := by decide +kernel
theorem dX2_push_48 : decode cX2_push 48 = .ok (.putfield 28, 3) := by decide +kernel
theorem dX2_push_51 : decode cX2_push 51 = .ok (.return_, 1) := by decide +kernel
theorem dX2_pop_0 : decode cX2_pop 0 = .ok (.aload_n 0, 1) := by decide +kernel
theorem dX2_pop_1 : decode cX2_pop 1 = .ok (.aload_n 0, 1) := by decide +kernel
theorem dX2_pop_2 : decode cX2_pop 2 = .ok (.getfield 20, 3) := by decide +kernel
theorem dX2_pop_5 : decode cX2_pop 5 = .ok (.ifCond .ne 8, 3) := by decide +kernel
theorem dX2_pop_8 : decode cX2_pop 8 = .ok (.bipush 9, 2) := by decide +kernel
theorem dX2_pop_10 : decode cX2_pop 10 = .ok (.goto 9, 3) := by decide +kernel
theorem dX2_pop_13 : decode cX2_pop 13 = .ok (.aload_n 0, 1) := by decide +kernel
theorem dX2_pop_14 : decode cX2_pop 14 = .ok (.getfield 20, 3) := by decide +kernel
theorem dX2_pop_17 : decode cX2_pop 17 = .ok (.iconst 1, 1) := by decide +kernel
theorem dX2_pop_18 : decode cX2_pop 18 = .ok (.isub, 1) := by decide +kernel
theorem dX2_pop_19 : decode cX2_pop 19 = .ok (.putfield 20, 3) := by decide +kernel
theorem dX2_pop_22 : decode cX2_pop 22 = .ok (.aload_n 0, 1) := by decide +kernel
theorem dX2_pop_23 : decode cX2_pop 23 = .ok (.dup, 1) := by decide +kernel
theorem dX2_pop_24 : decode cX2_pop 24 = .ok (.getfield 28, 3) := by decide +kernel
theorem dX2_pop_27 : decode cX2_pop 27 = .ok (.iconst 1, 1) := by decide +kernel
theorem dX2_pop_28 : decode cX2_pop 28 = .ok (.isub, 1) := by decide +kernel
theorem dX2_pop_29 : decode cX2_pop 29 = .ok (.putfield 28, 3) := by decide +kernel
theorem dX2_pop_32 : decode cX2_pop 32 = .ok (.aload_n 1, 1) := by decide +kernel
theorem dX2_pop_33 : decode cX2_pop 33 = .ok (.aload_n 0, 1) := by decide +kernel
theorem dX2_pop_34 : decode cX2_pop 34 = .ok (.getfield 11, 3) := by decide +kernel
theorem dX2_pop_37 : decode cX2_pop 37 = .ok (.aload_n 0, 1) := by decide +kernel
theorem dX2_pop_38 : decode cX2_pop 38 = .ok (.getfield 20, 3) := by decide +kernel
theorem dX2_pop_41 : decode cX2_pop 41 = .ok (.aaload, 1) := by decide +kernel
theorem dX2_pop_42 : decode cX2_pop 42 = .ok (.invokevirtual 24, 3) := by decide +kernel
theorem dX2_pop_45 : decode cX2_pop 45 = .ok (.return_, 1) := by decide +kernel
theorem dX3_init_0 : decode cX3_init 0 = .ok (.aload_n 0, 1) := by decide +kernel
theorem dX3_init_1 : decode cX3_init 1 = .ok (.invokespecial 3, 3) := by decide +kernel
theorem dX3_init_4 : decode cX3_init 4 = .ok (.aload_n 0, 1) := by decide +kernel
theorem dX3_init_5 : decode cX3_init 5 = .ok (.bipush 6, 2) := by decide +kernel
theorem dX3_init_7 : decode cX3_init 7 = .ok (.newarray .int, 2) := by decide +kernel
theorem dX3_init_9 : decode cX3_init 9 = .ok (.putfield 9, 3) := by decide +kernel
theorem dX3_init_12 : decode cX3_init 12 = .ok (.aload_n 0, 1) := by decide +kernel
theorem dX3_init_13 : decode cX3_init 13 = .ok (.bipush 6, 2) := by decide +kernel
theorem dX3_init_15 : decode cX3_init 15 = .ok (.newarray .int, 2) := by decide +kernel
theorem dX3_init_17 : decode cX3_init 17 = .ok (.putfield 15, 3) := by decide +kernel
theorem dX3_init_20 : decode cX3_init 20 = .ok (.aload_n 0, 1) := by decide +kernel
theorem dX3_init_21 : decode cX3_init 21 = .ok (.aload_n 1, 1) := by decide +kernel
theorem dX3_init_22 : decode cX3_init 22 = .ok (.putfield 18, 3) := by decide +kernel
theorem dX3_init_25 : decode cX3_init 25 = .ok (.return_, 1) := by decide +kernel
theorem dX3_begin_0 : decode cX3_begin 0 = .ok (.aload_n 0, 1) := by decide +kernel
theorem dX3_begin_1 : decode cX3_begin 1 = .ok (.iconst 0, 1) := by decide +kernel
theorem dX3_begin_2 : decode cX3_begin 2 = .ok (.putfield 22, 3) := by decide +kernel
theorem dX3_begin_5 : decode cX3_begin 5 = .ok (.aload_n 0, 1) := by decide +kernel
theorem dX3_begin_6 : decode cX3_begin 6 = .ok (.iconst 0, 1) := by decide +kernel
theorem dX3_begin_7 : decode cX3_begin 7 = .ok (.putfield 26, 3) := by decide +kernel
theorem dX3_begin_10 : decode cX3_begin 10 = .ok (.iconst 0, 1) := by decide +kernel
theorem dX3_begin_11 : decode cX3_begin 11 = .ok (.istore_n 1, 1) := by decide +kernel
theorem dX3_begin_12 : decode cX3_begin 12 = .ok (.iload_n 1, 1) := by decide +kernel
theorem dX3_begin_13 : decode cX3_begin 13 = .ok (.bipush 6, 2) := by decide +kernel
theorem dX3_begin_15 : decode cX3_begin 15 = .ok (.if_icmp .ge 39, 3) := by decide +kernel
theorem dX3_begin_18 : decode cX3_begin 18 = .ok (.aload_n 0, 1) := by decide +kernel
theorem dX3_begin_19 : decode cX3_begin 19 = .ok (.getfield 9, 3) := by decide +kernel
theorem dX3_begin_22 : decode cX3_begin 22 = .ok (.iload_n 1, 1) := by decide +kernel
theorem dX3_begin_23 : decode cX3_begin 23 = .ok (.aload_n 0, 1) := by decide +kernel
theorem dX3_begin_24 : decode cX3_begin 24 = .ok (.getfield 18, 3) := by decide +kernel
theorem dX3_begin_27 : decode cX3_begin 27 = .ok (.getfield 29, 3) := by decide +kernel
theorem dX3_begin_30 : decode cX3_begin 30 = .ok (.iload_n 1, 1) := by decide +kernel
theorem dX3_begin_31 : decode cX3_begin 31 = .ok (.iaload, 1) := by decide +kernel
theorem dX3_begin_32 : decode cX3_begin 32 = .ok (.iastore, 1) := by decide +kernel
theorem dX3_begin_33 : decode cX3_begin 33 = .ok (.aload_n 0, 1) := by decide +kernel
theorem dX3_begin_34 : decode cX3_begin 34 = .ok (.getfield 15, 3) := by decide +kernel
theorem dX3_begin_37 : decode cX3_begin 37 = .ok (.iload_n 1, 1) := by decide +kernel
theorem dX3_begin_38 : decode cX3_begin 38 = .ok (.aload_n 0, 1) := by decide +kernel
theorem dX3_begin_39 : decode cX3_begin 39 = .ok (.getfield 18, 3) := by decide +kernel
theorem dX3_begin_42 : decode cX3_begin 42 = .ok (.getfield 34, 3) := by decide +kernel
theorem dX3_begin_45 : decode cX3_begin 45 = .ok (.iload_n 1, 1) := by decide +kernel
theorem dX3_begin_46 : decode cX3_begin 46 = .ok (.iaload, 1) := by decide +kernel
theorem dX3_begin_47 : decode cX3_begin 47 = .ok (.iastore, 1) := by decide +kernel
theorem dX3_begin_48 : decode cX3_begin 48 = .ok (.iinc 1 1, 3) := by decide +kernel
theorem dX3_begin_51 : decode cX3_begin 51 = .ok (.goto (-39), 3) := by decide +kernel
theorem dX3_begin_54 : decode cX3_begin 54 = .ok (.return_, 1) := by decide +kernel
theorem dX3_copyFrom_0 : decode cX3_copyFrom 0 = .ok (.aload_n 0, 1) := by decide +kernel
theorem dX3_copyFrom_1 : decode cX3_copyFrom 1 = .ok (.aload_n 1, 1) := by decide +kernel
theorem dX3_copyFrom_2 : decode cX3_copyFrom 2 = .ok (.getfield 22, 3) := by decide +kernel
theorem dX3_copyFrom_5 : decode cX3_copyFrom 5 = .ok (.putfield 22, 3) := by decide +kernel
theorem dX3_copyFrom_8 : decode cX3_copyFrom 8 = .ok (.aload_n 0, 1) := by decide +kernel
theorem dX3_copyFrom_9 : decode cX3_copyFrom 9 = .ok (.aload_n 1, 1) := by decide +kernel
theorem dX3_copyFrom_10 : decode cX3_copyFrom 10 = .ok (.getfield 26, 3) := by decide +kernel
theorem dX3_copyFrom_13 : decode cX3_copyFrom 13 = .ok (.putfield 26, 3) := by decide +kernel
theorem dX3_copyFrom_16 : decode cX3_copyFrom 16 = .ok (.iconst 0, 1) := by decide +kernel
theorem dX3_copyFrom_17 : decode cX3_copyFrom 17 = .ok (.istore_n 2, 1) := by decide +kernel
theorem dX3_copyFrom_18 : decode cX3_copyFrom 18 = .ok (.iload_n 2, 1) := by decide +kernel
theorem dX3_copyFrom_19 : decode cX3_copyFrom 19 = .ok (.bipush 6, 2) := by decide +kernel
theorem dX3_copyFrom_21 : decode cX3_copyFrom 21 = .ok (.if_icmp .ge 33, 3) := by decide +kernel
theorem dX3_copyFrom_24 : decode cX3_copyFrom 24 = .ok (.aload_n 0, 1) := by decide +kernel
theorem dX3_copyFrom_25 : decode cX3_copyFrom 25 = .ok (.getfield 9, 3) := by decide +kernel
theorem dX3_copyFrom_28 : decode cX3_copyFrom 28 = .ok (.iload_n 2, 1) := by decide +kernel
theorem dX3_copyFrom_29 : decode cX3_copyFrom 29 = .ok (.aload_n 1, 1) := by decide +kernel
theorem dX3_copyFrom_30 : decode cX3_copyFrom 30 = .ok (.getfield 9, 3) := by decide +kernel
theorem dX3_copyFrom_33 : decode cX3_copyFrom 33 = .ok (.iload_n 2, 1) := by decide +kernel
theorem dX3_copyFrom_34 : decode cX3_copyFrom 34 = .ok (.iaload, 1) := by decide +kernel
theorem dX3_copyFrom_35 : decode cX3_copyFrom 35 = .ok (.iastore, 1) := by decide +kernel
theorem dX3_copyFrom_36 : decode cX3_copyFrom 36 = .ok (.aload_n 0, 1) := by decide +kernel
theorem dX3_copyFrom_37 : decode cX3_copyFrom 37 = .ok (.getfield 15, 3) := by decide +kernel
theorem dX3_copyFrom_40 : decode cX3_copyFrom 40 = .ok (.iload_n 2, 1) := by decide +kernel
theorem dX3_copyFrom_41 : decode cX3_copyFrom 41 = .ok (.aload_n 1, 1) := by decide +kernel
theorem dX3_copyFrom_42 : decode cX3_copyFrom 42 = .ok (.getfield 15, 3) := by decide +kernel
theorem dX3_copyFrom_45 : decode cX3_copyFrom 45 = .ok (.iload_n 2, 1) := by decide +kernel
theorem dX3_copyFrom_46 : decode cX3_copyFrom 46 = .ok (.iaload, 1) := by decide +kernel
theorem dX3_copyFrom_47 : decode cX3_copyFrom 47 = .ok (.iastore, 1) := by decide +kernel
theorem dX3_copyFrom_48 : decode cX3_copyFrom 48 = .ok (.iinc 2 1, 3) := by decide +kernel
theorem dX3_copyFrom_51 : decode cX3_copyFrom 51 = .ok (.goto (-33), 3) := by decide +kernel
theorem dX3_copyFrom_54 : decode cX3_copyFrom 54 = .ok (.return_, 1) := by decide +kernel
theorem dX3_hasAsked_0 : decode cX3_hasAsked 0 = .ok (.aload_n 0, 1) := by decide +kernel
theorem dX3_hasAsked_1 : decode cX3_hasAsked 1 = .ok (.getfield 26, 3) := by decide +kernel
theorem dX3_hasAsked_4 : decode cX3_hasAsked 4 = .ok (.iload_n 1, 1) := by decide +kernel
theorem dX3_hasAsked_5 : decode cX3_hasAsked 5 = .ok (.ishr, 1) := by decide +kernel
theorem dX3_hasAsked_6 : decode cX3_hasAsked 6 = .ok (.iconst 1, 1) := by decide +kernel
theorem dX3_hasAsked_7 : decode cX3_hasAsked 7 = .ok (.iand, 1) := by decide +kernel
theorem dX3_hasAsked_8 : decode cX3_hasAsked 8 = .ok (.iconst 1, 1) := by decide +kernel
theorem dX3_hasAsked_9 : decode cX3_hasAsked 9 = .ok (.if_icmp .ne 7, 3) := by decide +kernel
theorem dX3_hasAsked_12 : decode cX3_hasAsked 12 = .ok (.iconst 1, 1) := by decide +kernel
theorem dX3_hasAsked_13 : decode cX3_hasAsked 13 = .ok (.goto 4, 3) := by decide +kernel
theorem dX3_hasAsked_16 : decode cX3_hasAsked 16 = .ok (.iconst 0, 1) := by decide +kernel
theorem dX3_hasAsked_17 : decode cX3_hasAsked 17 = .ok (.ireturn, 1) := by decide +kernel
theorem dX3_hungWith_0 : decode cX3_hungWith 0 = .ok (.iconst 0, 1) := by decide +kernel
theorem dX3_hungWith_1 : decode cX3_hungWith 1 = .ok (.istore_n 2, 1) := by decide +kernel
theorem dX3_hungWith_2 : decode cX3_hungWith 2 = .ok (.iconst 0, 1) := by decide +kernel
theorem dX3_hungWith_3 : decode cX3_hungWith 3 = .ok (.istore_n 3, 1) := by decide +kernel
theorem dX3_hungWith_4 : decode cX3_hungWith 4 = .ok (.iload_n 3, 1) := by decide +kernel
theorem dX3_hungWith_5 : decode cX3_hungWith 5 = .ok (.aload_n 0, 1) := by decide +kernel
theorem dX3_hungWith_6 : decode cX3_hungWith 6 = .ok (.getfield 18, 3) := by decide +kernel
theorem dX3_hungWith_9 : decode cX3_hungWith 9 = .ok (.getfield 35, 3) := by decide +kernel
theorem dX3_hungWith_12 : decode cX3_hungWith 12 = .ok (.if_icmp .ge 25, 3) := by decide +kernel
theorem dX3_hungWith_15 : decode cX3_hungWith 15 = .ok (.aload_n 0, 1) := by decide +kernel
theorem dX3_hungWith_16 : decode cX3_hungWith 16 = .ok (.getfield 15, 3) := by decide +kernel
theorem dX3_hungWith_19 : decode cX3_hungWith 19 = .ok (.iload_n 3, 1) := by decide +kernel
theorem dX3_hungWith_20 : decode cX3_hungWith 20 = .ok (.iaload, 1) := by decide +kernel
theorem dX3_hungWith_21 : decode cX3_hungWith 21 = .ok (.iload_n 1, 1) := by decide +kernel
theorem dX3_hungWith_22 : decode cX3_hungWith 22 = .ok (.if_icmp .ne 9, 3) := by decide +kernel
theorem dX3_hungWith_25 : decode cX3_hungWith 25 = .ok (.iload_n 2, 1) := by decide +kernel
theorem dX3_hungWith_26 : decode cX3_hungWith 26 = .ok (.iconst 1, 1) := by decide +kernel
theorem dX3_hungWith_27 : decode cX3_hungWith 27 = .ok (.iload_n 3, 1) := by decide +kernel
theorem dX3_hungWith_28 : decode cX3_hungWith 28 = .ok (.ishl, 1) := by decide +kernel
theorem dX3_hungWith_29 : decode cX3_hungWith 29 = .ok (.ior, 1) := by decide +kernel
theorem dX3_hungWith_30 : decode cX3_hungWith 30 = .ok (.istore_n 2, 1) := by decide +kernel
theorem dX3_hungWith_31 : decode cX3_hungWith 31 = .ok (.iinc 3 1, 3) := by decide +kernel
theorem dX3_hungWith_34 : decode cX3_hungWith 34 = .ok (.goto (-30), 3) := by decide +kernel
theorem dX3_hungWith_37 : decode cX3_hungWith 37 = .ok (.iload_n 2, 1) := by decide +kernel
theorem dX3_hungWith_38 : decode cX3_hungWith 38 = .ok (.ireturn, 1) := by decide +kernel
theorem dX3_ringOf_0 : decode cX3_ringOf 0 = .ok (.aload_n 0, 1) := by decide +kernel
theorem dX3_ringOf_1 : decode cX3_ringOf 1 = .ok (.getfield 15, 3) := by decide +kernel
theorem dX3_ringOf_4 : decode cX3_ringOf 4 = .ok (.iload_n 1, 1) := by decide +kernel
theorem dX3_ringOf_5 : decode cX3_ringOf 5 = .ok (.iaload, 1) := by decide +kernel
theorem dX3_ringOf_6 : decode cX3_ringOf 6 = .ok (.istore_n 2, 1) := by decide +kernel
theorem dX3_ringOf_7 : decode cX3_ringOf 7 = .ok (.iconst 1, 1) := by decide +kernel
theorem dX3_ringOf_8 : decode cX3_ringOf 8 = .ok (.istore_n 3, 1) := by decide +kernel
theorem dX3_ringOf_9 : decode cX3_ringOf 9 = .ok (.iload_n 3, 1) := by decide +kernel
theorem dX3_ringOf_10 : decode cX3_ringOf 10 = .ok (.aload_n 0, 1) := by decide +kernel
theorem dX3_ringOf_11 : decode cX3_ringOf 11 = .ok (.getfield 18, 3) := by decide +kernel
theorem dX3_ringOf_14 : decode cX3_ringOf 14 = .ok (.getfield 35, 3) := by decide +kernel
theorem dX3_ringOf_17 : decode cX3_ringOf 17 = .ok (.if_icmp .gt 34, 3) := by decide +kernel
theorem dX3_ringOf_20 : decode cX3_ringOf 20 = .ok (.aload_n 0, 1) := by decide +kernel
theorem dX3_ringOf_21 : decode cX3_ringOf 21 = .ok (.getfield 18, 3) := by decide +kernel
theorem dX3_ringOf_24 : decode cX3_ringOf 24 = .ok (.iload_n 2, 1) := by decide +kernel
theorem dX3_ringOf_25 : decode cX3_ringOf 25 = .ok (.invokevirtual 38, 3) := by decide +kernel
theorem dX3_ringOf_28 : decode cX3_ringOf 28 = .ok (.ifCond .eq 23, 3) := by decide +kernel
theorem dX3_ringOf_31 : decode cX3_ringOf 31 = .ok (.iload_n 2, 1) := by decide +kernel
theorem dX3_ringOf_32 : decode cX3_ringOf 32 = .ok (.iload_n 1, 1) := by decide +kernel
theorem dX3_ringOf_33 : decode cX3_ringOf 33 = .ok (.if_icmp .ne 5, 3) := by decide +kernel
theorem dX3_ringOf_36 : decode cX3_ringOf 36 = .ok (.iload_n 3, 1) := by decide +kernel
theorem dX3_ringOf_37 : decode cX3_ringOf 37 = .ok (.ireturn, 1) := by decide +kernel
theorem dX3_ringOf_38 : decode cX3_ringOf 38 = .ok (.aload_n 0, 1) := by decide +kernel
theorem dX3_ringOf_39 : decode cX3_ringOf 39 = .ok (.getfield 15, 3) := by decide +kernel
theorem dX3_ringOf_42 : decode cX3_ringOf 42 = .ok (.iload_n 2, 1) := by decide +kernel
theorem dX3_ringOf_43 : decode cX3_ringOf 43 = .ok (.iaload, 1) := by decide +kernel
theorem dX3_ringOf_44 : decode cX3_ringOf 44 = .ok (.istore_n 2, 1) := by decide +kernel
theorem dX3_ringOf_45 : decode cX3_ringOf 45 = .ok (.iinc 3 1, 3) := by decide +kernel
theorem dX3_ringOf_48 : decode cX3_ringOf 48 = .ok (.goto (-39), 3) := by decide +kernel
theorem dX3_ringOf_51 : decode cX3_ringOf 51 = .ok (.iconst 0, 1) := by decide +kernel
theorem dX3_ringOf_52 : decode cX3_ringOf 52 = .ok (.ireturn, 1) := by decide +kernel
theorem dX3_leftTogether_0 : decode cX3_leftTogether 0 = .ok (.iconst 0, 1) := by decide +kernel
theorem dX3_leftTogether_1 : decode cX3_leftTogether 1 = .ok (.istore_n 1, 1) := by decide +kernel
theorem dX3_leftTogether_2 : decode cX3_leftTogether 2 = .ok (.iconst 0, 1) := by decide +kernel
theorem dX3_leftTogether_3 : decode cX3_leftTogether 3 = .ok (.istore_n 2, 1) := by decide +kernel
theorem dX3_leftTogether_4 : decode cX3_leftTogether 4 = .ok (.iload_n 2, 1) := by decide +kernel
theorem dX3_leftTogether_5 : decode cX3_leftTogether 5 = .ok (.aload_n 0, 1) := by decide +kernel
theorem dX3_leftTogether_6 : decode cX3_leftTogether 6 = .ok (.getfield 18, 3) := by decide +kernel
theorem dX3_leftTogether_9 : decode cX3_leftTogether 9 = .ok (.getfield 35, 3) := by decide +kernel
theorem dX3_leftTogether_12 : decode cX3_leftTogether 12 = .ok (.if_icmp .ge 18, 3) := by decide +kernel
theorem dX3_leftTogether_15 : decode cX3_leftTogether 15 = .ok (.iload_n 1, 1) := by decide +kernel
theorem dX3_leftTogether_16 : decode cX3_leftTogether 16 = .ok (.aload_n 0, 1) := by decide +kernel
theorem dX3_leftTogether_17 : decode cX3_leftTogether 17 = .ok (.getfield 9, 3) := by decide +kernel
theorem dX3_leftTogether_20 : decode cX3_leftTogether 20 = .ok (.iload_n 2, 1) := by decide +kernel
theorem dX3_leftTogether_21 : decode cX3_leftTogether 21 = .ok (.iaload, 1) := by decide +kernel
theorem dX3_leftTogether_22 : decode cX3_leftTogether 22 = .ok (.iadd, 1) := by decide +kernel
theorem dX3_leftTogether_23 : decode cX3_leftTogether 23 = .ok (.istore_n 1, 1) := by decide +kernel
theorem dX3_leftTogether_24 : decode cX3_leftTogether 24 = .ok (.iinc 2 1, 3) := by decide +kernel
theorem dX3_leftTogether_27 : decode cX3_leftTogether 27 = .ok (.goto (-23), 3) := by decide +kernel
theorem dX3_leftTogether_30 : decode cX3_leftTogether 30 = .ok (.iload_n 1, 1) := by decide +kernel
theorem dX3_leftTogether_31 : decode cX3_leftTogether 31 = .ok (.ireturn, 1) := by decide +kernel
theorem dX3_allMown_0 : decode cX3_allMown 0 = .ok (.iconst 0, 1) := by decide +kernel
theorem dX3_allMown_1 : decode cX3_allMown 1 = .ok (.istore_n 2, 1) := by decide +kernel
theorem dX3_allMown_2 : decode cX3_allMown 2 = .ok (.iload_n 2, 1) := by decide +kernel
theorem dX3_allMown_3 : decode cX3_allMown 3 = .ok (.aload_n 0, 1) := by decide +kernel
theorem dX3_allMown_4 : decode cX3_allMown 4 = .ok (.getfield 18, 3) := by decide +kernel
theorem dX3_allMown_7 : decode cX3_allMown 7 = .ok (.getfield 35, 3) := by decide +kernel
theorem dX3_allMown_10 : decode cX3_allMown 10 = .ok (.if_icmp .ge 29, 3) := by decide +kernel
theorem dX3_allMown_13 : decode cX3_allMown 13 = .ok (.iload_n 1, 1) := by decide +kernel
theorem dX3_allMown_14 : decode cX3_allMown 14 = .ok (.iload_n 2, 1) := by decide +kernel
theorem dX3_allMown_15 : decode cX3_allMown 15 = .ok (.ishr, 1) := by decide +kernel
theorem dX3_allMown_16 : decode cX3_allMown 16 = .ok (.iconst 1, 1) := by decide +kernel
theorem dX3_allMown_17 : decode cX3_allMown 17 = .ok (.iand, 1) := by decide +kernel
theorem dX3_allMown_18 : decode cX3_allMown 18 = .ok (.iconst 1, 1) := by decide +kernel
theorem dX3_allMown_19 : decode cX3_allMown 19 = .ok (.if_icmp .ne 14, 3) := by decide +kernel
theorem dX3_allMown_22 : decode cX3_allMown 22 = .ok (.aload_n 0, 1) := by decide +kernel
theorem dX3_allMown_23 : decode cX3_allMown 23 = .ok (.getfield 9, 3) := by decide +kernel
theorem dX3_allMown_26 : decode cX3_allMown 26 = .ok (.iload_n 2, 1) := by decide +kernel
theorem dX3_allMown_27 : decode cX3_allMown 27 = .ok (.iaload, 1) := by decide +kernel
theorem dX3_allMown_28 : decode cX3_allMown 28 = .ok (.ifCond .le 5, 3) := by decide +kernel
theorem dX3_allMown_31 : decode cX3_allMown 31 = .ok (.iconst 0, 1) := by decide +kernel
theorem dX3_allMown_32 : decode cX3_allMown 32 = .ok (.ireturn, 1) := by decide +kernel
theorem dX3_allMown_33 : decode cX3_allMown 33 = .ok (.iinc 2 1, 3) := by decide +kernel
theorem dX3_allMown_36 : decode cX3_allMown 36 = .ok (.goto (-34), 3) := by decide +kernel
theorem dX3_allMown_39 : decode cX3_allMown 39 = .ok (.iconst 1, 1) := by decide +kernel
theorem dX3_allMown_40 : decode cX3_allMown 40 = .ok (.ireturn, 1) := by decide +kernel
theorem dX3_pass_0 : decode cX3_pass 0 = .ok (.aload_n 0, 1) := by decide +kernel
theorem dX3_pass_1 : decode cX3_pass 1 = .ok (.aload_n 0, 1) := by decide +kernel
theorem dX3_pass_2 : decode cX3_pass 2 = .ok (.getfield 18, 3) := by decide +kernel
theorem dX3_pass_5 : decode cX3_pass 5 = .ok (.aload_n 0, 1) := by decide +kernel
theorem dX3_pass_6 : decode cX3_pass 6 = .ok (.getfield 26, 3) := by decide +kernel
theorem dX3_pass_9 : decode cX3_pass 9 = .ok (.aload_n 0, 1) := by decide +kernel
theorem dX3_pass_10 : decode cX3_pass 10 = .ok (.getfield 22, 3) := by decide +kernel
theorem dX3_pass_13 : decode cX3_pass 13 = .ok (.invokevirtual 42, 3) := by decide +kernel
theorem dX3_pass_16 : decode cX3_pass 16 = .ok (.putfield 26, 3) := by decide +kernel
theorem dX3_pass_19 : decode cX3_pass 19 = .ok (.aload_n 0, 1) := by decide +kernel
theorem dX3_pass_20 : decode cX3_pass 20 = .ok (.dup, 1) := by decide +kernel
theorem dX3_pass_21 : decode cX3_pass 21 = .ok (.getfield 22, 3) := by decide +kernel
theorem dX3_pass_24 : decode cX3_pass 24 = .ok (.iconst 1, 1) := by decide +kernel
theorem dX3_pass_25 : decode cX3_pass 25 = .ok (.iadd, 1) := by decide +kernel
theorem dX3_pass_26 : decode cX3_pass 26 = .ok (.putfield 22, 3) := by decide +kernel
theorem dX3_pass_29 : decode cX3_pass 29 = .ok (.iload_n 1, 1) := by decide +kernel
theorem dX3_pass_30 : decode cX3_pass 30 = .ok (.ifCond .eq 10, 3) := by decide +kernel
theorem dX3_pass_33 : decode cX3_pass 33 = .ok (.aload_n 0, 1) := by decide +kernel
theorem dX3_pass_34 : decode cX3_pass 34 = .ok (.invokevirtual 46, 3) := by decide +kernel
theorem dX3_pass_37 : decode cX3_pass 37 = .ok (.goto 4, 3) := by decide +kernel
theorem dX3_pass_40 : decode cX3_pass 40 = .ok (.iconst 0, 1) := by decide +kernel
theorem dX3_pass_41 : decode cX3_pass 41 = .ok (.ireturn, 1) := by decide +kernel
theorem dX3_mowAll_0 : decode cX3_mowAll 0 = .ok (.iconst 0, 1) := by decide +kernel
theorem dX3_mowAll_1 : decode cX3_mowAll 1 = .ok (.istore_n 1, 1) := by decide +kernel
theorem dX3_mowAll_2 : decode cX3_mowAll 2 = .ok (.iconst 0, 1) := by decide +kernel
theorem dX3_mowAll_3 : decode cX3_mowAll 3 = .ok (.istore_n 2, 1) := by decide +kernel
theorem dX3_mowAll_4 : decode cX3_mowAll 4 = .ok (.iconst 0, 1) := by decide +kernel
theorem dX3_mowAll_5 : decode cX3_mowAll 5 = .ok (.istore_n 3, 1) := by decide +kernel
theorem dX3_mowAll_6 : decode cX3_mowAll 6 = .ok (.iload_n 3, 1) := by decide +kernel
theorem dX3_mowAll_7 : decode cX3_mowAll 7 = .ok (.aload_n 0, 1) := by decide +kernel
theorem dX3_mowAll_8 : decode cX3_mowAll 8 = .ok (.getfield 18, 3) := by decide +kernel
theorem dX3_mowAll_11 : decode cX3_mowAll 11 = .ok (.getfield 35, 3) := by decide +kernel
theorem dX3_mowAll_14 : decode cX3_mowAll 14 = .ok (.if_icmp .ge 48, 3) := by decide +kernel
theorem dX3_mowAll_17 : decode cX3_mowAll 17 = .ok (.aload_n 0, 1) := by decide +kernel
theorem dX3_mowAll_18 : decode cX3_mowAll 18 = .ok (.iload_n 3, 1) := by decide +kernel
theorem dX3_mowAll_19 : decode cX3_mowAll 19 = .ok (.invokevirtual 50, 3) := by decide +kernel
theorem dX3_mowAll_22 : decode cX3_mowAll 22 = .ok (.ifCond .eq 34, 3) := by decide +kernel
theorem dX3_mowAll_25 : decode cX3_mowAll 25 = .ok (.aload_n 0, 1) := by decide +kernel
theorem dX3_mowAll_26 : decode cX3_mowAll 26 = .ok (.getfield 9, 3) := by decide +kernel
theorem dX3_mowAll_29 : decode cX3_mowAll 29 = .ok (.iload_n 3, 1) := by decide +kernel
theorem dX3_mowAll_30 : decode cX3_mowAll 30 = .ok (.iaload, 1) := by decide +kernel
theorem dX3_mowAll_31 : decode cX3_mowAll 31 = .ok (.ifCond .le 19, 3) := by decide +kernel
theorem dX3_mowAll_34 : decode cX3_mowAll 34 = .ok (.aload_n 0, 1) := by decide +kernel
theorem dX3_mowAll_35 : decode cX3_mowAll 35 = .ok (.getfield 9, 3) := by decide +kernel
theorem dX3_mowAll_38 : decode cX3_mowAll 38 = .ok (.iload_n 3, 1) := by decide +kernel
theorem dX3_mowAll_39 : decode cX3_mowAll 39 = .ok (.dup2, 1) := by decide +kernel
theorem dX3_mowAll_40 : decode cX3_mowAll 40 = .ok (.iaload, 1) := by decide +kernel
theorem dX3_mowAll_41 : decode cX3_mowAll 41 = .ok (.iconst 1, 1) := by decide +kernel
theorem dX3_mowAll_42 : decode cX3_mowAll 42 = .ok (.isub, 1) := by decide +kernel
theorem dX3_mowAll_43 : decode cX3_mowAll 43 = .ok (.iastore, 1) := by decide +kernel
theorem dX3_mowAll_44 : decode cX3_mowAll 44 = .ok (.iinc 2 1, 3) := by decide +kernel
theorem dX3_mowAll_47 : decode cX3_mowAll 47 = .ok (.goto 9, 3) := by decide +kernel
theorem dX3_mowAll_50 : decode cX3_mowAll 50 = .ok (.iload_n 1, 1) := by decide +kernel
theorem dX3_mowAll_51 : decode cX3_mowAll 51 = .ok (.iconst 1, 1) := by decide +kernel
theorem dX3_mowAll_52 : decode cX3_mowAll 52 = .ok (.iload_n 3, 1) := by decide +kernel
theorem dX3_mowAll_53 : decode cX3_mowAll 53 = .ok (.ishl, 1) := by decide +kernel
theorem dX3_mowAll_54 : decode cX3_mowAll 54 = .ok (.ior, 1) := by decide +kernel
theorem dX3_mowAll_55 : decode cX3_mowAll 55 = .ok (.istore_n 1, 1) := by decide +kernel
theorem dX3_mowAll_56 : decode cX3_mowAll 56 = .ok (.iinc 3 1, 3) := by decide +kernel
theorem dX3_mowAll_59 : decode cX3_mowAll 59 = .ok (.goto (-53), 3) := by decide +kernel
theorem dX3_mowAll_62 : decode cX3_mowAll 62 = .ok (.iconst 0, 1) := by decide +kernel
theorem dX3_mowAll_63 : decode cX3_mowAll 63 = .ok (.istore_n 3, 1) := by decide +kernel
theorem dX3_mowAll_64 : decode cX3_mowAll 64 = .ok (.iload_n 3, 1) := by decide +kernel
theorem dX3_mowAll_65 : decode cX3_mowAll 65 = .ok (.aload_n 0, 1) := by decide +kernel
theorem dX3_mowAll_66 : decode cX3_mowAll 66 = .ok (.getfield 18, 3) := by decide +kernel
theorem dX3_mowAll_69 : decode cX3_mowAll 69 = .ok (.getfield 35, 3) := by decide +kernel
theorem dX3_mowAll_72 : decode cX3_mowAll 72 = .ok (.if_icmp .ge 29, 3) := by decide +kernel
theorem dX3_mowAll_75 : decode cX3_mowAll 75 = .ok (.iload_n 1, 1) := by decide +kernel
theorem dX3_mowAll_76 : decode cX3_mowAll 76 = .ok (.iload_n 3, 1) := by decide +kernel
theorem dX3_mowAll_77 : decode cX3_mowAll 77 = .ok (.ishr, 1) := by decide +kernel
theorem dX3_mowAll_78 : decode cX3_mowAll 78 = .ok (.iconst 1, 1) := by decide +kernel
theorem dX3_mowAll_79 : decode cX3_mowAll 79 = .ok (.iand, 1) := by decide +kernel
theorem dX3_mowAll_80 : decode cX3_mowAll 80 = .ok (.iconst 1, 1) := by decide +kernel
theorem dX3_mowAll_81 : decode cX3_mowAll 81 = .ok (.if_icmp .ne 14, 3) := by decide +kernel
theorem dX3_mowAll_84 : decode cX3_mowAll 84 = .ok (.aload_n 0, 1) := by decide +kernel
theorem dX3_mowAll_85 : decode cX3_mowAll 85 = .ok (.iload_n 3, 1) := by decide +kernel
theorem dX3_mowAll_86 : decode cX3_mowAll 86 = .ok (.invokevirtual 53, 3) := by decide +kernel
theorem dX3_mowAll_89 : decode cX3_mowAll 89 = .ok (.ifCond .eq 6, 3) := by decide +kernel
theorem dX3_mowAll_92 : decode cX3_mowAll 92 = .ok (.iinc 2 1, 3) := by decide +kernel
theorem dX3_mowAll_95 : decode cX3_mowAll 95 = .ok (.iinc 3 1, 3) := by decide +kernel
theorem dX3_mowAll_98 : decode cX3_mowAll 98 = .ok (.goto (-34), 3) := by decide +kernel
theorem dX3_mowAll_101 : decode cX3_mowAll 101 = .ok (.iload_n 2, 1) := by decide +kernel
theorem dX3_mowAll_102 : decode cX3_mowAll 102 = .ok (.ireturn, 1) := by decide +kernel
theorem dX3_mowsForAnother_0 : decode cX3_mowsForAnother 0 = .ok (.iconst 0, 1) := by decide +kernel
theorem dX3_mowsForAnother_1 : decode cX3_mowsForAnother 1 = .ok (.istore_n 2, 1) := by decide +kernel
theorem dX3_mowsForAnother_2 : decode cX3_mowsForAnother 2 = .ok (.iload_n 2, 1) := by decide +kernel
theorem dX3_mowsForAnother_3 : decode cX3_mowsForAnother 3 = .ok (.aload_n 0, 1) := by decide +kernel
theorem dX3_mowsForAnother_4 : decode cX3_mowsForAnother 4 = .ok (.getfield 18, 3) := by decide +kernel
theorem dX3_mowsForAnother_7 : decode cX3_mowsForAnother 7 = .ok (.getfield 35, 3) := by decide +kernel
theorem dX3_mowsForAnother_10 : decode cX3_mowsForAnother 10 = .ok (.if_icmp .ge 48, 3) := by decide +kernel
theorem dX3_mowsForAnother_13 : decode cX3_mowsForAnother 13 = .ok (.aload_n 0, 1) := by decide +kernel
theorem dX3_mowsForAnother_14 : decode cX3_mowsForAnother 14 = .ok (.getfield 15, 3) := by decide +kernel
theorem dX3_mowsForAnother_17 : decode cX3_mowsForAnother 17 = .ok (.iload_n 2, 1) := by decide +kernel
theorem dX3_mowsForAnother_18 : decode cX3_mowsForAnother 18 = .ok (.iaload, 1) := by decide +kernel
theorem dX3_mowsForAnother_19 : decode cX3_mowsForAnother 19 = .ok (.iload_n 1, 1) := by decide +kernel
theorem dX3_mowsForAnother_20 : decode cX3_mowsForAnother 20 = .ok (.if_icmp .ne 32, 3) := by decide +kernel
theorem dX3_mowsForAnother_23 : decode cX3_mowsForAnother 23 = .ok (.aload_n 0, 1) := by decide +kernel
theorem dX3_mowsForAnother_24 : decode cX3_mowsForAnother 24 = .ok (.iload_n 2, 1) := by decide +kernel
theorem dX3_mowsForAnother_25 : decode cX3_mowsForAnother 25 = .ok (.invokevirtual 50, 3) := by decide +kernel
theorem dX3_mowsForAnother_28 : decode cX3_mowsForAnother 28 = .ok (.ifCond .eq 24, 3) := by decide +kernel
theorem dX3_mowsForAnother_31 : decode cX3_mowsForAnother 31 = .ok (.aload_n 0, 1) := by decide +kernel
theorem dX3_mowsForAnother_32 : decode cX3_mowsForAnother 32 = .ok (.getfield 9, 3) := by decide +kernel
theorem dX3_mowsForAnother_35 : decode cX3_mowsForAnother 35 = .ok (.iload_n 2, 1) := by decide +kernel
theorem dX3_mowsForAnother_36 : decode cX3_mowsForAnother 36 = .ok (.iaload, 1) := by decide +kernel
theorem dX3_mowsForAnother_37 : decode cX3_mowsForAnother 37 = .ok (.ifCond .le 15, 3) := by decide +kernel
theorem dX3_mowsForAnother_40 : decode cX3_mowsForAnother 40 = .ok (.aload_n 0, 1) := by decide +kernel
theorem dX3_mowsForAnother_41 : decode cX3_mowsForAnother 41 = .ok (.getfield 9, 3) := by decide +kernel
theorem dX3_mowsForAnother_44 : decode cX3_mowsForAnother 44 = .ok (.iload_n 2, 1) := by decide +kernel
theorem dX3_mowsForAnother_45 : decode cX3_mowsForAnother 45 = .ok (.dup2, 1) := by decide +kernel
theorem dX3_mowsForAnother_46 : decode cX3_mowsForAnother 46 = .ok (.iaload, 1) := by decide +kernel
theorem dX3_mowsForAnother_47 : decode cX3_mowsForAnother 47 = .ok (.iconst 1, 1) := by decide +kernel
theorem dX3_mowsForAnother_48 : decode cX3_mowsForAnother 48 = .ok (.isub, 1) := by decide +kernel
theorem dX3_mowsForAnother_49 : decode cX3_mowsForAnother 49 = .ok (.iastore, 1) := by decide +kernel
theorem dX3_mowsForAnother_50 : decode cX3_mowsForAnother 50 = .ok (.iconst 1, 1) := by decide +kernel
theorem dX3_mowsForAnother_51 : decode cX3_mowsForAnother 51 = .ok (.ireturn, 1) := by decide +kernel
theorem dX3_mowsForAnother_52 : decode cX3_mowsForAnother 52 = .ok (.iinc 2 1, 3) := by decide +kernel
theorem dX3_mowsForAnother_55 : decode cX3_mowsForAnother 55 = .ok (.goto (-53), 3) := by decide +kernel
theorem dX3_mowsForAnother_58 : decode cX3_mowsForAnother 58 = .ok (.iconst 0, 1) := by decide +kernel
theorem dX3_mowsForAnother_59 : decode cX3_mowsForAnother 59 = .ok (.ireturn, 1) := by decide +kernel
theorem dX4_init_0 : decode cX4_init 0 = .ok (.aload_n 0, 1) := by decide +kernel
theorem dX4_init_1 : decode cX4_init 1 = .ok (.invokespecial 3, 3) := by decide +kernel
theorem dX4_init_4 : decode cX4_init 4 = .ok (.aload_n 0, 1) := by decide +kernel
theorem dX4_init_5 : decode cX4_init 5 = .ok (.sipush 147, 3) := by decide +kernel
theorem dX4_init_8 : decode cX4_init 8 = .ok (.newarray .boolean, 2) := by decide +kernel
theorem dX4_init_10 : decode cX4_init 10 = .ok (.putfield 11, 3) := by decide +kernel
theorem dX4_init_13 : decode cX4_init 13 = .ok (.return_, 1) := by decide +kernel
theorem dX4_begin_0 : decode cX4_begin 0 = .ok (.aload_n 0, 1) := by decide +kernel
theorem dX4_begin_1 : decode cX4_begin 1 = .ok (.iconst 0, 1) := by decide +kernel
theorem dX4_begin_2 : decode cX4_begin 2 = .ok (.putfield 15, 3) := by decide +kernel
theorem dX4_begin_5 : decode cX4_begin 5 = .ok (.iconst 0, 1) := by decide +kernel
theorem dX4_begin_6 : decode cX4_begin 6 = .ok (.istore_n 1, 1) := by decide +kernel
theorem dX4_begin_7 : decode cX4_begin 7 = .ok (.iload_n 1, 1) := by decide +kernel
theorem dX4_begin_8 : decode cX4_begin 8 = .ok (.aload_n 0, 1) := by decide +kernel
theorem dX4_begin_9 : decode cX4_begin 9 = .ok (.getfield 11, 3) := by decide +kernel
theorem dX4_begin_12 : decode cX4_begin 12 = .ok (.arraylength, 1) := by decide +kernel
theorem dX4_begin_13 : decode cX4_begin 13 = .ok (.if_icmp .ge 16, 3) := by decide +kernel
theorem dX4_begin_16 : decode cX4_begin 16 = .ok (.aload_n 0, 1) := by decide +kernel
theorem dX4_begin_17 : decode cX4_begin 17 = .ok (.getfield 11, 3) := by decide +kernel
theorem dX4_begin_20 : decode cX4_begin 20 = .ok (.iload_n 1, 1) := by decide +kernel
theorem dX4_begin_21 : decode cX4_begin 21 = .ok (.iconst 0, 1) := by decide +kernel
theorem dX4_begin_22 : decode cX4_begin 22 = .ok (.bastore, 1) := by decide +kernel
theorem dX4_begin_23 : decode cX4_begin 23 = .ok (.iinc 1 1, 3) := by decide +kernel
theorem dX4_begin_26 : decode cX4_begin 26 = .ok (.goto (-19), 3) := by decide +kernel
theorem dX4_begin_29 : decode cX4_begin 29 = .ok (.return_, 1) := by decide +kernel
theorem dX4_learn_0 : decode cX4_learn 0 = .ok (.aload_n 0, 1) := by decide +kernel
theorem dX4_learn_1 : decode cX4_learn 1 = .ok (.dup, 1) := by decide +kernel
theorem dX4_learn_2 : decode cX4_learn 2 = .ok (.getfield 15, 3) := by decide +kernel
theorem dX4_learn_5 : decode cX4_learn 5 = .ok (.iconst 1, 1) := by decide +kernel
theorem dX4_learn_6 : decode cX4_learn 6 = .ok (.iadd, 1) := by decide +kernel
theorem dX4_learn_7 : decode cX4_learn 7 = .ok (.putfield 15, 3) := by decide +kernel
theorem dX4_learn_10 : decode cX4_learn 10 = .ok (.iconst 0, 1) := by decide +kernel
theorem dX4_learn_11 : decode cX4_learn 11 = .ok (.istore 4, 2) := by decide +kernel
theorem dX4_learn_13 : decode cX4_learn 13 = .ok (.iload 4, 2) := by decide +kernel
theorem dX4_learn_15 : decode cX4_learn 15 = .ok (.bipush 20, 2) := by decide +kernel
theorem dX4_learn_17 : decode cX4_learn 17 = .ok (.if_icmp .gt 64, 3) := by decide +kernel
theorem dX4_learn_20 : decode cX4_learn 20 = .ok (.iconst 0, 1) := by decide +kernel
theorem dX4_learn_21 : decode cX4_learn 21 = .ok (.istore 5, 2) := by decide +kernel
theorem dX4_learn_23 : decode cX4_learn 23 = .ok (.iload 5, 2) := by decide +kernel
theorem dX4_learn_25 : decode cX4_learn 25 = .ok (.bipush 6, 2) := by decide +kernel
theorem dX4_learn_27 : decode cX4_learn 27 = .ok (.if_icmp .gt 48, 3) := by decide +kernel
theorem dX4_learn_30 : decode cX4_learn 30 = .ok (.iload 4, 2) := by decide +kernel
theorem dX4_learn_32 : decode cX4_learn 32 = .ok (.iload_n 1, 1) := by decide +kernel
theorem dX4_learn_33 : decode cX4_learn 33 = .ok (.if_icmp .le 9, 3) := by decide +kernel
theorem dX4_learn_36 : decode cX4_learn 36 = .ok (.iload 5, 2) := by decide +kernel
theorem dX4_learn_38 : decode cX4_learn 38 = .ok (.iload_n 2, 1) := by decide +kernel
theorem dX4_learn_39 : decode cX4_learn 39 = .ok (.if_icmp .gt 7, 3) := by decide +kernel
theorem dX4_learn_42 : decode cX4_learn 42 = .ok (.iconst 1, 1) := by decide +kernel
theorem dX4_learn_43 : decode cX4_learn 43 = .ok (.goto 4, 3) := by decide +kernel
theorem dX4_learn_46 : decode cX4_learn 46 = .ok (.iconst 0, 1) := by decide +kernel
theorem dX4_learn_47 : decode cX4_learn 47 = .ok (.istore 6, 2) := by decide +kernel
theorem dX4_learn_49 : decode cX4_learn 49 = .ok (.iload 6, 2) := by decide +kernel
theorem dX4_learn_51 : decode cX4_learn 51 = .ok (.iload_n 3, 1) := by decide +kernel
theorem dX4_learn_52 : decode cX4_learn 52 = .ok (.if_icmp .eq 17, 3) := by decide +kernel
theorem dX4_learn_55 : decode cX4_learn 55 = .ok (.aload_n 0, 1) := by decide +kernel
theorem dX4_learn_56 : decode cX4_learn 56 = .ok (.getfield 11, 3) := by decide +kernel
theorem dX4_learn_59 : decode cX4_learn 59 = .ok (.iload 4, 2) := by decide +kernel
theorem dX4_learn_61 : decode cX4_learn 61 = .ok (.bipush 7, 2) := by decide +kernel
theorem dX4_learn_63 : decode cX4_learn 63 = .ok (.imul, 1) := by decide +kernel
theorem dX4_learn_64 : decode cX4_learn 64 = .ok (.iload 5, 2) := by decide +kernel
theorem dX4_learn_66 : decode cX4_learn 66 = .ok (.iadd, 1) := by decide +kernel
theorem dX4_learn_67 : decode cX4_learn 67 = .ok (.iconst 1, 1) := by decide +kernel
theorem dX4_learn_68 : decode cX4_learn 68 = .ok (.bastore, 1) := by decide +kernel
theorem dX4_learn_69 : decode cX4_learn 69 = .ok (.iinc 5 1, 3) := by decide +kernel
theorem dX4_learn_72 : decode cX4_learn 72 = .ok (.goto (-49), 3) := by decide +kernel
theorem dX4_learn_75 : decode cX4_learn 75 = .ok (.iinc 4 1, 3) := by decide +kernel
theorem dX4_learn_78 : decode cX4_learn 78 = .ok (.goto (-65), 3) := by decide +kernel
theorem dX4_learn_81 : decode cX4_learn 81 = .ok (.return_, 1) := by decide +kernel
theorem dX4_number_0 : decode cX4_number 0 = .ok (.iconst 0, 1) := by decide +kernel
theorem dX4_number_1 : decode cX4_number 1 = .ok (.istore_n 3, 1) := by decide +kernel
theorem dX4_number_2 : decode cX4_number 2 = .ok (.iconst 0, 1) := by decide +kernel
theorem dX4_number_3 : decode cX4_number 3 = .ok (.istore 4, 2) := by decide +kernel
theorem dX4_number_5 : decode cX4_number 5 = .ok (.iload 4, 2) := by decide +kernel
theorem dX4_number_7 : decode cX4_number 7 = .ok (.bipush 6, 2) := by decide +kernel
theorem dX4_number_9 : decode cX4_number 9 = .ok (.if_icmp .gt 20, 3) := by decide +kernel
theorem dX4_number_12 : decode cX4_number 12 = .ok (.iload_n 3, 1) := by decide +kernel
theorem dX4_number_13 : decode cX4_number 13 = .ok (.aload_n 0, 1) := by decide +kernel
theorem dX4_number_14 : decode cX4_number 14 = .ok (.iload 4, 2) := by decide +kernel
theorem dX4_number_16 : decode cX4_number 16 = .ok (.iload_n 1, 1) := by decide +kernel
theorem dX4_number_17 : decode cX4_number 17 = .ok (.iload_n 2, 1) := by decide +kernel
theorem dX4_number_18 : decode cX4_number 18 = .ok (.invokevirtual 19, 3) := by decide +kernel
theorem dX4_number_21 : decode cX4_number 21 = .ok (.iadd, 1) := by decide +kernel
theorem dX4_number_22 : decode cX4_number 22 = .ok (.istore_n 3, 1) := by decide +kernel
theorem dX4_number_23 : decode cX4_number 23 = .ok (.iinc 4 1, 3) := by decide +kernel
theorem dX4_number_26 : decode cX4_number 26 = .ok (.goto (-21), 3) := by decide +kernel
theorem dX4_number_29 : decode cX4_number 29 = .ok (.iload_n 3, 1) := by decide +kernel
theorem dX4_number_30 : decode cX4_number 30 = .ok (.ireturn, 1) := by decide +kernel
theorem dX4_numberOfNerve_0 : decode cX4_numberOfNerve 0 = .ok (.iconst 0, 1) := by decide +kernel
theorem dX4_numberOfNerve_1 : decode cX4_numberOfNerve 1 = .ok (.istore 4, 2) := by decide +kernel
theorem dX4_numberOfNerve_3 : decode cX4_numberOfNerve 3 = .ok (.iload_n 2, 1) := by decide +kernel
theorem dX4_numberOfNerve_4 : decode cX4_numberOfNerve 4 = .ok (.istore 5, 2) := by decide +kernel
theorem dX4_numberOfNerve_6 : decode cX4_numberOfNerve 6 = .ok (.iload 5, 2) := by decide +kernel
theorem dX4_numberOfNerve_8 : decode cX4_numberOfNerve 8 = .ok (.iload_n 3, 1) := by decide +kernel
theorem dX4_numberOfNerve_9 : decode cX4_numberOfNerve 9 = .ok (.if_icmp .gt 27, 3) := by decide +kernel
theorem dX4_numberOfNerve_12 : decode cX4_numberOfNerve 12 = .ok (.aload_n 0, 1) := by decide +kernel
theorem dX4_numberOfNerve_13 : decode cX4_numberOfNerve 13 = .ok (.getfield 11, 3) := by decide +kernel
theorem dX4_numberOfNerve_16 : decode cX4_numberOfNerve 16 = .ok (.iload 5, 2) := by decide +kernel
theorem dX4_numberOfNerve_18 : decode cX4_numberOfNerve 18 = .ok (.bipush 7, 2) := by decide +kernel
theorem dX4_numberOfNerve_20 : decode cX4_numberOfNerve 20 = .ok (.imul, 1) := by decide +kernel
theorem dX4_numberOfNerve_21 : decode cX4_numberOfNerve 21 = .ok (.iload_n 1, 1) := by decide +kernel
theorem dX4_numberOfNerve_22 : decode cX4_numberOfNerve 22 = .ok (.iadd, 1) := by decide +kernel
theorem dX4_numberOfNerve_23 : decode cX4_numberOfNerve 23 = .ok (.baload, 1) := by decide +kernel
theorem dX4_numberOfNerve_24 : decode cX4_numberOfNerve 24 = .ok (.ifCond .ne 6, 3) := by decide +kernel
theorem dX4_numberOfNerve_27 : decode cX4_numberOfNerve 27 = .ok (.iinc 4 1, 3) := by decide +kernel
theorem dX4_numberOfNerve_30 : decode cX4_numberOfNerve 30 = .ok (.iinc 5 1, 3) := by decide +kernel
theorem dX4_numberOfNerve_33 : decode cX4_numberOfNerve 33 = .ok (.goto (-27), 3) := by decide +kernel
theorem dX4_numberOfNerve_36 : decode cX4_numberOfNerve 36 = .ok (.iload 4, 2) := by decide +kernel
theorem dX4_numberOfNerve_38 : decode cX4_numberOfNerve 38 = .ok (.ireturn, 1) := by decide +kernel
theorem dX4_leastShame_0 : decode cX4_leastShame 0 = .ok (.iconst 0, 1) := by decide +kernel
theorem dX4_leastShame_1 : decode cX4_leastShame 1 = .ok (.istore_n 1, 1) := by decide +kernel
theorem dX4_leastShame_2 : decode cX4_leastShame 2 = .ok (.iload_n 1, 1) := by decide +kernel
theorem dX4_leastShame_3 : decode cX4_leastShame 3 = .ok (.bipush 20, 2) := by decide +kernel
theorem dX4_leastShame_5 : decode cX4_leastShame 5 = .ok (.if_icmp .gt 20, 3) := by decide +kernel
theorem dX4_leastShame_8 : decode cX4_leastShame 8 = .ok (.aload_n 0, 1) := by decide +kernel
theorem dX4_leastShame_9 : decode cX4_leastShame 9 = .ok (.iload_n 1, 1) := by decide +kernel
theorem dX4_leastShame_10 : decode cX4_leastShame 10 = .ok (.iload_n 1, 1) := by decide +kernel
theorem dX4_leastShame_11 : decode cX4_leastShame 11 = .ok (.invokevirtual 23, 3) := by decide +kernel
theorem dX4_leastShame_14 : decode cX4_leastShame 14 = .ok (.ifCond .le 5, 3) := by decide +kernel
theorem dX4_leastShame_17 : decode cX4_leastShame 17 = .ok (.iload_n 1, 1) := by decide +kernel
theorem dX4_leastShame_18 : decode cX4_leastShame 18 = .ok (.ireturn, 1) := by decide +kernel
theorem dX4_leastShame_19 : decode cX4_leastShame 19 = .ok (.iinc 1 1, 3) := by decide +kernel
theorem dX4_leastShame_22 : decode cX4_leastShame 22 = .ok (.goto (-20), 3) := by decide +kernel
theorem dX4_leastShame_25 : decode cX4_leastShame 25 = .ok (.bipush (-9), 2) := by decide +kernel
theorem dX4_leastShame_27 : decode cX4_leastShame 27 = .ok (.ireturn, 1) := by decide +kernel
theorem dX4_greatestShame_0 : decode cX4_greatestShame 0 = .ok (.bipush 20, 2) := by decide +kernel
theorem dX4_greatestShame_2 : decode cX4_greatestShame 2 = .ok (.istore_n 1, 1) := by decide +kernel
theorem dX4_greatestShame_3 : decode cX4_greatestShame 3 = .ok (.iload_n 1, 1) := by decide +kernel
theorem dX4_greatestShame_4 : decode cX4_greatestShame 4 = .ok (.ifCond .lt 20, 3) := by decide +kernel
theorem dX4_greatestShame_7 : decode cX4_greatestShame 7 = .ok (.aload_n 0, 1) := by decide +kernel
theorem dX4_greatestShame_8 : decode cX4_greatestShame 8 = .ok (.iload_n 1, 1) := by decide +kernel
theorem dX4_greatestShame_9 : decode cX4_greatestShame 9 = .ok (.iload_n 1, 1) := by decide +kernel
theorem dX4_greatestShame_10 : decode cX4_greatestShame 10 = .ok (.invokevirtual 23, 3) := by decide +kernel
theorem dX4_greatestShame_13 : decode cX4_greatestShame 13 = .ok (.ifCond .le 5, 3) := by decide +kernel
theorem dX4_greatestShame_16 : decode cX4_greatestShame 16 = .ok (.iload_n 1, 1) := by decide +kernel
theorem dX4_greatestShame_17 : decode cX4_greatestShame 17 = .ok (.ireturn, 1) := by decide +kernel
theorem dX4_greatestShame_18 : decode cX4_greatestShame 18 = .ok (.iinc 1 (-1), 3) := by decide +kernel
theorem dX4_greatestShame_21 : decode cX4_greatestShame 21 = .ok (.goto (-18), 3) := by decide +kernel
theorem dX4_greatestShame_24 : decode cX4_greatestShame 24 = .ok (.bipush (-9), 2) := by decide +kernel
theorem dX4_greatestShame_26 : decode cX4_greatestShame 26 = .ok (.ireturn, 1) := by decide +kernel
theorem dX4_bestOthers_0 : decode cX4_bestOthers 0 = .ok (.aload_n 0, 1) := by decide +kernel
theorem dX4_bestOthers_1 : decode cX4_bestOthers 1 = .ok (.iconst 0, 1) := by decide +kernel
theorem dX4_bestOthers_2 : decode cX4_bestOthers 2 = .ok (.bipush 20, 2) := by decide +kernel
theorem dX4_bestOthers_4 : decode cX4_bestOthers 4 = .ok (.invokevirtual 23, 3) := by decide +kernel
theorem dX4_bestOthers_7 : decode cX4_bestOthers 7 = .ok (.istore_n 2, 1) := by decide +kernel
theorem dX4_bestOthers_8 : decode cX4_bestOthers 8 = .ok (.iload_n 2, 1) := by decide +kernel
theorem dX4_bestOthers_9 : decode cX4_bestOthers 9 = .ok (.iconst 1, 1) := by decide +kernel
theorem dX4_bestOthers_10 : decode cX4_bestOthers 10 = .ok (.if_icmp .gt 6, 3) := by decide +kernel
theorem dX4_bestOthers_13 : decode cX4_bestOthers 13 = .ok (.bipush (-9), 2) := by decide +kernel
theorem dX4_bestOthers_15 : decode cX4_bestOthers 15 = .ok (.ireturn, 1) := by decide +kernel
theorem dX4_bestOthers_16 : decode cX4_bestOthers 16 = .ok (.iconst 0, 1) := by decide +kernel
theorem dX4_bestOthers_17 : decode cX4_bestOthers 17 = .ok (.istore_n 3, 1) := by decide +kernel
theorem dX4_bestOthers_18 : decode cX4_bestOthers 18 = .ok (.iload_n 2, 1) := by decide +kernel
theorem dX4_bestOthers_19 : decode cX4_bestOthers 19 = .ok (.iconst 1, 1) := by decide +kernel
theorem dX4_bestOthers_20 : decode cX4_bestOthers 20 = .ok (.iadd, 1) := by decide +kernel
theorem dX4_bestOthers_21 : decode cX4_bestOthers 21 = .ok (.istore 4, 2) := by decide +kernel
theorem dX4_bestOthers_23 : decode cX4_bestOthers 23 = .ok (.aload_n 0, 1) := by decide +kernel
theorem dX4_bestOthers_24 : decode cX4_bestOthers 24 = .ok (.iconst 0, 1) := by decide +kernel
theorem dX4_bestOthers_25 : decode cX4_bestOthers 25 = .ok (.iload_n 1, 1) := by decide +kernel
theorem dX4_bestOthers_26 : decode cX4_bestOthers 26 = .ok (.invokevirtual 23, 3) := by decide +kernel
theorem dX4_bestOthers_29 : decode cX4_bestOthers 29 = .ok (.istore 5, 2) := by decide +kernel
theorem dX4_bestOthers_31 : decode cX4_bestOthers 31 = .ok (.iconst 0, 1) := by decide +kernel
theorem dX4_bestOthers_32 : decode cX4_bestOthers 32 = .ok (.istore 6, 2) := by decide +kernel
theorem dX4_bestOthers_34 : decode cX4_bestOthers 34 = .ok (.iload 6, 2) := by decide +kernel
theorem dX4_bestOthers_36 : decode cX4_bestOthers 36 = .ok (.bipush 6, 2) := by decide +kernel
theorem dX4_bestOthers_38 : decode cX4_bestOthers 38 = .ok (.if_icmp .gt 50, 3) := by decide +kernel
theorem dX4_bestOthers_41 : decode cX4_bestOthers 41 = .ok (.iload 5, 2) := by decide +kernel
theorem dX4_bestOthers_43 : decode cX4_bestOthers 43 = .ok (.aload_n 0, 1) := by decide +kernel
theorem dX4_bestOthers_44 : decode cX4_bestOthers 44 = .ok (.iload 6, 2) := by decide +kernel
theorem dX4_bestOthers_46 : decode cX4_bestOthers 46 = .ok (.iload_n 1, 1) := by decide +kernel
theorem dX4_bestOthers_47 : decode cX4_bestOthers 47 = .ok (.iconst 1, 1) := by decide +kernel
theorem dX4_bestOthers_48 : decode cX4_bestOthers 48 = .ok (.iadd, 1) := by decide +kernel
theorem dX4_bestOthers_49 : decode cX4_bestOthers 49 = .ok (.bipush 20, 2) := by decide +kernel
theorem dX4_bestOthers_51 : decode cX4_bestOthers 51 = .ok (.invokevirtual 19, 3) := by decide +kernel
theorem dX4_bestOthers_54 : decode cX4_bestOthers 54 = .ok (.iadd, 1) := by decide +kernel
theorem dX4_bestOthers_55 : decode cX4_bestOthers 55 = .ok (.istore 5, 2) := by decide +kernel
theorem dX4_bestOthers_57 : decode cX4_bestOthers 57 = .ok (.iload 5, 2) := by decide +kernel
theorem dX4_bestOthers_59 : decode cX4_bestOthers 59 = .ok (.iload_n 2, 1) := by decide +kernel
theorem dX4_bestOthers_60 : decode cX4_bestOthers 60 = .ok (.iload 5, 2) := by decide +kernel
theorem dX4_bestOthers_62 : decode cX4_bestOthers 62 = .ok (.isub, 1) := by decide +kernel
theorem dX4_bestOthers_63 : decode cX4_bestOthers 63 = .ok (.invokestatic 27, 3) := by decide +kernel
theorem dX4_bestOthers_66 : decode cX4_bestOthers 66 = .ok (.istore 7, 2) := by decide +kernel
theorem dX4_bestOthers_68 : decode cX4_bestOthers 68 = .ok (.iload 7, 2) := by decide +kernel
theorem dX4_bestOthers_70 : decode cX4_bestOthers 70 = .ok (.iload 4, 2) := by decide +kernel
theorem dX4_bestOthers_72 : decode cX4_bestOthers 72 = .ok (.if_icmp .ge 10, 3) := by decide +kernel
theorem dX4_bestOthers_75 : decode cX4_bestOthers 75 = .ok (.iload 7, 2) := by decide +kernel
theorem dX4_bestOthers_77 : decode cX4_bestOthers 77 = .ok (.istore 4, 2) := by decide +kernel
theorem dX4_bestOthers_79 : decode cX4_bestOthers 79 = .ok (.iload 6, 2) := by decide +kernel
theorem dX4_bestOthers_81 : decode cX4_bestOthers 81 = .ok (.istore_n 3, 1) := by decide +kernel
theorem dX4_bestOthers_82 : decode cX4_bestOthers 82 = .ok (.iinc 6 1, 3) := by decide +kernel
theorem dX4_bestOthers_85 : decode cX4_bestOthers 85 = .ok (.goto (-51), 3) := by decide +kernel
theorem dX4_bestOthers_88 : decode cX4_bestOthers 88 = .ok (.iload_n 3, 1) := by decide +kernel
theorem dX4_bestOthers_89 : decode cX4_bestOthers 89 = .ok (.ireturn, 1) := by decide +kernel
theorem dX5_init_0 : decode cX5_init 0 = .ok (.aload_n 0, 1) := by decide +kernel
theorem dX5_init_1 : decode cX5_init 1 = .ok (.invokespecial 3, 3) := by decide +kernel
theorem dX5_init_4 : decode cX5_init 4 = .ok (.aload_n 0, 1) := by decide +kernel
theorem dX5_init_5 : decode cX5_init 5 = .ok (.sipush 140, 3) := by decide +kernel
theorem dX5_init_8 : decode cX5_init 8 = .ok (.newarray .char, 2) := by decide +kernel
theorem dX5_init_10 : decode cX5_init 10 = .ok (.putfield 9, 3) := by decide +kernel
theorem dX5_init_13 : decode cX5_init 13 = .ok (.return_, 1) := by decide +kernel
theorem dX5_add_0 : decode cX5_add 0 = .ok (.aload_n 0, 1) := by decide +kernel
theorem dX5_add_1 : decode cX5_add 1 = .ok (.getfield 15, 3) := by decide +kernel
theorem dX5_add_4 : decode cX5_add 4 = .ok (.sipush 140, 3) := by decide +kernel
theorem dX5_add_7 : decode cX5_add 7 = .ok (.if_icmp .lt 5, 3) := by decide +kernel
theorem dX5_add_10 : decode cX5_add 10 = .ok (.iconst 0, 1) := by decide +kernel
theorem dX5_add_11 : decode cX5_add 11 = .ok (.ireturn, 1) := by decide +kernel
theorem dX5_add_12 : decode cX5_add 12 = .ok (.aload_n 0, 1) := by decide +kernel
theorem dX5_add_13 : decode cX5_add 13 = .ok (.getfield 9, 3) := by decide +kernel
theorem dX5_add_16 : decode cX5_add 16 = .ok (.aload_n 0, 1) := by decide +kernel
theorem dX5_add_17 : decode cX5_add 17 = .ok (.getfield 15, 3) := by decide +kernel
theorem dX5_add_20 : decode cX5_add 20 = .ok (.iload_n 1, 1) := by decide +kernel
theorem dX5_add_21 : decode cX5_add 21 = .ok (.i2c, 1) := by decide +kernel
theorem dX5_add_22 : decode cX5_add 22 = .ok (.castore, 1) := by decide +kernel
theorem dX5_add_23 : decode cX5_add 23 = .ok (.aload_n 0, 1) := by decide +kernel
theorem dX5_add_24 : decode cX5_add 24 = .ok (.dup, 1) := by decide +kernel
theorem dX5_add_25 : decode cX5_add 25 = .ok (.getfield 15, 3) := by decide +kernel
theorem dX5_add_28 : decode cX5_add 28 = .ok (.iconst 1, 1) := by decide +kernel
theorem dX5_add_29 : decode cX5_add 29 = .ok (.iadd, 1) := by decide +kernel
theorem dX5_add_30 : decode cX5_add 30 = .ok (.putfield 15, 3) := by decide +kernel
theorem dX5_add_33 : decode cX5_add 33 = .ok (.iconst 1, 1) := by decide +kernel
theorem dX5_add_34 : decode cX5_add 34 = .ok (.ireturn, 1) := by decide +kernel
theorem dX5_tells_0 : decode cX5_tells 0 = .ok (.aload_n 0, 1) := by decide +kernel
theorem dX5_tells_1 : decode cX5_tells 1 = .ok (.iconst 0, 1) := by decide +kernel
theorem dX5_tells_2 : decode cX5_tells 2 = .ok (.putfield 19, 3) := by decide +kernel
theorem dX5_tells_5 : decode cX5_tells 5 = .ok (.aload_n 1, 1) := by decide +kernel
theorem dX5_tells_6 : decode cX5_tells 6 = .ok (.iconst 0, 1) := by decide +kernel
theorem dX5_tells_7 : decode cX5_tells 7 = .ok (.putfield 22, 3) := by decide +kernel
theorem dX5_tells_10 : decode cX5_tells 10 = .ok (.aload_n 0, 1) := by decide +kernel
theorem dX5_tells_11 : decode cX5_tells 11 = .ok (.invokevirtual 27, 3) := by decide +kernel
theorem dX5_tells_14 : decode cX5_tells 14 = .ok (.iconst 0, 1) := by decide +kernel
theorem dX5_tells_15 : decode cX5_tells 15 = .ok (.istore_n 2, 1) := by decide +kernel
theorem dX5_tells_16 : decode cX5_tells 16 = .ok (.iload_n 2, 1) := by decide +kernel
theorem dX5_tells_17 : decode cX5_tells 17 = .ok (.sipush 140, 3) := by decide +kernel
theorem dX5_tells_20 : decode cX5_tells 20 = .ok (.if_icmp .ge 44, 3) := by decide +kernel
theorem dX5_tells_23 : decode cX5_tells 23 = .ok (.aload_n 0, 1) := by decide +kernel
theorem dX5_tells_24 : decode cX5_tells 24 = .ok (.getfield 30, 3) := by decide +kernel
theorem dX5_tells_27 : decode cX5_tells 27 = .ok (.ifCond .eq 37, 3) := by decide +kernel
theorem dX5_tells_30 : decode cX5_tells 30 = .ok (.iload_n 2, 1) := by decide +kernel
theorem dX5_tells_31 : decode cX5_tells 31 = .ok (.bipush 6, 2) := by decide +kernel
theorem dX5_tells_33 : decode cX5_tells 33 = .ok (.if_icmp .ge 12, 3) := by decide +kernel
theorem dX5_tells_36 : decode cX5_tells 36 = .ok (.aload_n 0, 1) := by decide +kernel
theorem dX5_tells_37 : decode cX5_tells 37 = .ok (.aload_n 1, 1) := by decide +kernel
theorem dX5_tells_38 : decode cX5_tells 38 = .ok (.iload_n 2, 1) := by decide +kernel
theorem dX5_tells_39 : decode cX5_tells 39 = .ok (.invokevirtual 33, 3) := by decide +kernel
theorem dX5_tells_42 : decode cX5_tells 42 = .ok (.ifCond .ne 5, 3) := by decide +kernel
theorem dX5_tells_45 : decode cX5_tells 45 = .ok (.iconst 0, 1) := by decide +kernel
theorem dX5_tells_46 : decode cX5_tells 46 = .ok (.ireturn, 1) := by decide +kernel
theorem dX5_tells_47 : decode cX5_tells 47 = .ok (.aload_n 1, 1) := by decide +kernel
theorem dX5_tells_48 : decode cX5_tells 48 = .ok (.iload_n 2, 1) := by decide +kernel
theorem dX5_tells_49 : decode cX5_tells 49 = .ok (.iconst 1, 1) := by decide +kernel
theorem dX5_tells_50 : decode cX5_tells 50 = .ok (.iadd, 1) := by decide +kernel
theorem dX5_tells_51 : decode cX5_tells 51 = .ok (.putfield 22, 3) := by decide +kernel
theorem dX5_tells_54 : decode cX5_tells 54 = .ok (.aload_n 0, 1) := by decide +kernel
theorem dX5_tells_55 : decode cX5_tells 55 = .ok (.invokevirtual 27, 3) := by decide +kernel
theorem dX5_tells_58 : decode cX5_tells 58 = .ok (.iinc 2 1, 3) := by decide +kernel
theorem dX5_tells_61 : decode cX5_tells 61 = .ok (.goto (-45), 3) := by decide +kernel
theorem dX5_tells_64 : decode cX5_tells 64 = .ok (.aload_n 1, 1) := by decide +kernel
theorem dX5_tells_65 : decode cX5_tells 65 = .ok (.invokevirtual 37, 3) := by decide +kernel
theorem dX5_tells_68 : decode cX5_tells 68 = .ok (.ireturn, 1) := by decide +kernel
theorem dX5_tellsOne_0 : decode cX5_tellsOne 0 = .ok (.aload_n 0, 1) := by decide +kernel
theorem dX5_tellsOne_1 : decode cX5_tellsOne 1 = .ok (.getfield 30, 3) := by decide +kernel
theorem dX5_tellsOne_4 : decode cX5_tellsOne 4 = .ok (.iconst 1, 1) := by decide +kernel
theorem dX5_tellsOne_5 : decode cX5_tellsOne 5 = .ok (.if_icmp .ne 91, 3) := by decide +kernel
theorem dX5_tellsOne_8 : decode cX5_tellsOne 8 = .ok (.aload_n 0, 1) := by decide +kernel
theorem dX5_tellsOne_9 : decode cX5_tellsOne 9 = .ok (.aload_n 1, 1) := by decide +kernel
theorem dX5_tellsOne_10 : decode cX5_tellsOne 10 = .ok (.getfield 41, 3) := by decide +kernel
theorem dX5_tellsOne_13 : decode cX5_tellsOne 13 = .ok (.iload_n 2, 1) := by decide +kernel
theorem dX5_tellsOne_14 : decode cX5_tellsOne 14 = .ok (.iconst 0, 1) := by decide +kernel
theorem dX5_tellsOne_15 : decode cX5_tellsOne 15 = .ok (.bipush 30, 2) := by decide +kernel
theorem dX5_tellsOne_17 : decode cX5_tellsOne 17 = .ok (.invokevirtual 45, 3) := by decide +kernel
theorem dX5_tellsOne_20 : decode cX5_tellsOne 20 = .ok (.ifCond .eq 76, 3) := by decide +kernel
theorem dX5_tellsOne_23 : decode cX5_tellsOne 23 = .ok (.aload_n 0, 1) := by decide +kernel
theorem dX5_tellsOne_24 : decode cX5_tellsOne 24 = .ok (.aload_n 1, 1) := by decide +kernel
theorem dX5_tellsOne_25 : decode cX5_tellsOne 25 = .ok (.getfield 49, 3) := by decide +kernel
theorem dX5_tellsOne_28 : decode cX5_tellsOne 28 = .ok (.iload_n 2, 1) := by decide +kernel
theorem dX5_tellsOne_29 : decode cX5_tellsOne 29 = .ok (.iconst 1, 1) := by decide +kernel
theorem dX5_tellsOne_30 : decode cX5_tellsOne 30 = .ok (.bipush 9, 2) := by decide +kernel
theorem dX5_tellsOne_32 : decode cX5_tellsOne 32 = .ok (.invokevirtual 45, 3) := by decide +kernel
theorem dX5_tellsOne_35 : decode cX5_tellsOne 35 = .ok (.ifCond .eq 61, 3) := by decide +kernel
theorem dX5_tellsOne_38 : decode cX5_tellsOne 38 = .ok (.aload_n 0, 1) := by decide +kernel
theorem dX5_tellsOne_39 : decode cX5_tellsOne 39 = .ok (.aload_n 1, 1) := by decide +kernel
theorem dX5_tellsOne_40 : decode cX5_tellsOne 40 = .ok (.getfield 52, 3) := by decide +kernel
theorem dX5_tellsOne_43 : decode cX5_tellsOne 43 = .ok (.iload_n 2, 1) := by decide +kernel
theorem dX5_tellsOne_44 : decode cX5_tellsOne 44 = .ok (.iconst 0, 1) := by decide +kernel
theorem dX5_tellsOne_45 : decode cX5_tellsOne 45 = .ok (.bipush 20, 2) := by decide +kernel
theorem dX5_tellsOne_47 : decode cX5_tellsOne 47 = .ok (.invokevirtual 45, 3) := by decide +kernel
theorem dX5_tellsOne_50 : decode cX5_tellsOne 50 = .ok (.ifCond .eq 46, 3) := by decide +kernel
theorem dX5_tellsOne_53 : decode cX5_tellsOne 53 = .ok (.aload_n 0, 1) := by decide +kernel
theorem dX5_tellsOne_54 : decode cX5_tellsOne 54 = .ok (.aload_n 1, 1) := by decide +kernel
theorem dX5_tellsOne_55 : decode cX5_tellsOne 55 = .ok (.getfield 55, 3) := by decide +kernel
theorem dX5_tellsOne_58 : decode cX5_tellsOne 58 = .ok (.iload_n 2, 1) := by decide +kernel
theorem dX5_tellsOne_59 : decode cX5_tellsOne 59 = .ok (.iconst 0, 1) := by decide +kernel
theorem dX5_tellsOne_60 : decode cX5_tellsOne 60 = .ok (.bipush 6, 2) := by decide +kernel
theorem dX5_tellsOne_62 : decode cX5_tellsOne 62 = .ok (.invokevirtual 45, 3) := by decide +kernel
theorem dX5_tellsOne_65 : decode cX5_tellsOne 65 = .ok (.ifCond .eq 31, 3) := by decide +kernel
theorem dX5_tellsOne_68 : decode cX5_tellsOne 68 = .ok (.aload_n 0, 1) := by decide +kernel
theorem dX5_tellsOne_69 : decode cX5_tellsOne 69 = .ok (.aload_n 1, 1) := by decide +kernel
theorem dX5_tellsOne_70 : decode cX5_tellsOne 70 = .ok (.getfield 58, 3) := by decide +kernel
theorem dX5_tellsOne_73 : decode cX5_tellsOne 73 = .ok (.iload_n 2, 1) := by decide +kernel
theorem dX5_tellsOne_74 : decode cX5_tellsOne 74 = .ok (.iconst 0, 1) := by decide +kernel
theorem dX5_tellsOne_75 : decode cX5_tellsOne 75 = .ok (.iconst 5, 1) := by decide +kernel
theorem dX5_tellsOne_76 : decode cX5_tellsOne 76 = .ok (.invokevirtual 45, 3) := by decide +kernel
theorem dX5_tellsOne_79 : decode cX5_tellsOne 79 = .ok (.ifCond .eq 17, 3) := by decide +kernel
theorem dX5_tellsOne_82 : decode cX5_tellsOne 82 = .ok (.aload_n 1, 1) := by decide +kernel
theorem dX5_tellsOne_83 : decode cX5_tellsOne 83 = .ok (.getfield 58, 3) := by decide +kernel
theorem dX5_tellsOne_86 : decode cX5_tellsOne 86 = .ok (.iload_n 2, 1) := by decide +kernel
theorem dX5_tellsOne_87 : decode cX5_tellsOne 87 = .ok (.iaload, 1) := by decide +kernel
theorem dX5_tellsOne_88 : decode cX5_tellsOne 88 = .ok (.iload_n 2, 1) := by decide +kernel
theorem dX5_tellsOne_89 : decode cX5_tellsOne 89 = .ok (.if_icmp .eq 7, 3) := by decide +kernel
theorem dX5_tellsOne_92 : decode cX5_tellsOne 92 = .ok (.iconst 1, 1) := by decide +kernel
theorem dX5_tellsOne_93 : decode cX5_tellsOne 93 = .ok (.goto 4, 3) := by decide +kernel
theorem dX5_tellsOne_96 : decode cX5_tellsOne 96 = .ok (.iconst 0, 1) := by decide +kernel
theorem dX5_tellsOne_97 : decode cX5_tellsOne 97 = .ok (.istore_n 3, 1) := by decide +kernel
theorem dX5_tellsOne_98 : decode cX5_tellsOne 98 = .ok (.iload_n 3, 1) := by decide +kernel
theorem dX5_tellsOne_99 : decode cX5_tellsOne 99 = .ok (.ifCond .ne 5, 3) := by decide +kernel
theorem dX5_tellsOne_102 : decode cX5_tellsOne 102 = .ok (.iconst 0, 1) := by decide +kernel
theorem dX5_tellsOne_103 : decode cX5_tellsOne 103 = .ok (.ireturn, 1) := by decide +kernel
theorem dX5_tellsOne_104 : decode cX5_tellsOne 104 = .ok (.aload_n 0, 1) := by decide +kernel
theorem dX5_tellsOne_105 : decode cX5_tellsOne 105 = .ok (.invokevirtual 27, 3) := by decide +kernel
theorem dX5_tellsOne_108 : decode cX5_tellsOne 108 = .ok (.aload_n 0, 1) := by decide +kernel
theorem dX5_tellsOne_109 : decode cX5_tellsOne 109 = .ok (.getfield 30, 3) := by decide +kernel
theorem dX5_tellsOne_112 : decode cX5_tellsOne 112 = .ok (.iconst 3, 1) := by decide +kernel
theorem dX5_tellsOne_113 : decode cX5_tellsOne 113 = .ok (.if_icmp .ne 7, 3) := by decide +kernel
theorem dX5_tellsOne_116 : decode cX5_tellsOne 116 = .ok (.iconst 1, 1) := by decide +kernel
theorem dX5_tellsOne_117 : decode cX5_tellsOne 117 = .ok (.goto 4, 3) := by decide +kernel
theorem dX5_tellsOne_120 : decode cX5_tellsOne 120 = .ok (.iconst 0, 1) := by decide +kernel
theorem dX5_tellsOne_121 : decode cX5_tellsOne 121 = .ok (.ireturn, 1) := by decide +kernel
theorem dX5_tellsNumber_0 : decode cX5_tellsNumber 0 = .ok (.aload_n 0, 1) := by decide +kernel
theorem dX5_tellsNumber_1 : decode cX5_tellsNumber 1 = .ok (.invokevirtual 27, 3) := by decide +kernel
theorem dX5_tellsNumber_4 : decode cX5_tellsNumber 4 = .ok (.aload_n 0, 1) := by decide +kernel
theorem dX5_tellsNumber_5 : decode cX5_tellsNumber 5 = .ok (.getfield 30, 3) := by decide +kernel
theorem dX5_tellsNumber_8 : decode cX5_tellsNumber 8 = .ok (.iconst 2, 1) := by decide +kernel
theorem dX5_tellsNumber_9 : decode cX5_tellsNumber 9 = .ok (.if_icmp .ne 20, 3) := by decide +kernel
theorem dX5_tellsNumber_12 : decode cX5_tellsNumber 12 = .ok (.aload_n 0, 1) := by decide +kernel
theorem dX5_tellsNumber_13 : decode cX5_tellsNumber 13 = .ok (.getfield 61, 3) := by decide +kernel
theorem dX5_tellsNumber_16 : decode cX5_tellsNumber 16 = .ok (.iload_n 3, 1) := by decide +kernel
theorem dX5_tellsNumber_17 : decode cX5_tellsNumber 17 = .ok (.if_icmp .lt 12, 3) := by decide +kernel
theorem dX5_tellsNumber_20 : decode cX5_tellsNumber 20 = .ok (.aload_n 0, 1) := by decide +kernel
theorem dX5_tellsNumber_21 : decode cX5_tellsNumber 21 = .ok (.getfield 61, 3) := by decide +kernel
theorem dX5_tellsNumber_24 : decode cX5_tellsNumber 24 = .ok (.iload 4, 2) := by decide +kernel
theorem dX5_tellsNumber_26 : decode cX5_tellsNumber 26 = .ok (.if_icmp .le 5, 3) := by decide +kernel
theorem dX5_tellsNumber_29 : decode cX5_tellsNumber 29 = .ok (.iconst 0, 1) := by decide +kernel
theorem dX5_tellsNumber_30 : decode cX5_tellsNumber 30 = .ok (.ireturn, 1) := by decide +kernel
theorem dX5_tellsNumber_31 : decode cX5_tellsNumber 31 = .ok (.aload_n 1, 1) := by decide +kernel
theorem dX5_tellsNumber_32 : decode cX5_tellsNumber 32 = .ok (.iload_n 2, 1) := by decide +kernel
theorem dX5_tellsNumber_33 : decode cX5_tellsNumber 33 = .ok (.aload_n 0, 1) := by decide +kernel
theorem dX5_tellsNumber_34 : decode cX5_tellsNumber 34 = .ok (.getfield 61, 3) := by decide +kernel
theorem dX5_tellsNumber_37 : decode cX5_tellsNumber 37 = .ok (.iastore, 1) := by decide +kernel
theorem dX5_tellsNumber_38 : decode cX5_tellsNumber 38 = .ok (.iconst 1, 1) := by decide +kernel
theorem dX5_tellsNumber_39 : decode cX5_tellsNumber 39 = .ok (.ireturn, 1) := by decide +kernel
theorem dX5_step_0 : decode cX5_step 0 = .ok (.aload_n 0, 1) := by decide +kernel
theorem dX5_step_1 : decode cX5_step 1 = .ok (.getfield 19, 3) := by decide +kernel
theorem dX5_step_4 : decode cX5_step 4 = .ok (.aload_n 0, 1) := by decide +kernel
theorem dX5_step_5 : decode cX5_step 5 = .ok (.getfield 15, 3) := by decide +kernel
theorem dX5_step_8 : decode cX5_step 8 = .ok (.if_icmp .ge 30, 3) := by decide +kernel
theorem dX5_step_11 : decode cX5_step 11 = .ok (.aload_n 0, 1) := by decide +kernel
theorem dX5_step_12 : decode cX5_step 12 = .ok (.getfield 9, 3) := by decide +kernel
theorem dX5_step_15 : decode cX5_step 15 = .ok (.aload_n 0, 1) := by decide +kernel
theorem dX5_step_16 : decode cX5_step 16 = .ok (.getfield 19, 3) := by decide +kernel
theorem dX5_step_19 : decode cX5_step 19 = .ok (.caload, 1) := by decide +kernel
theorem dX5_step_20 : decode cX5_step 20 = .ok (.bipush 32, 2) := by decide +kernel
theorem dX5_step_22 : decode cX5_step 22 = .ok (.if_icmp .ne 16, 3) := by decide +kernel
theorem dX5_step_25 : decode cX5_step 25 = .ok (.aload_n 0, 1) := by decide +kernel
theorem dX5_step_26 : decode cX5_step 26 = .ok (.dup, 1) := by decide +kernel
theorem dX5_step_27 : decode cX5_step 27 = .ok (.getfield 19, 3) := by decide +kernel
theorem dX5_step_30 : decode cX5_step 30 = .ok (.iconst 1, 1) := by decide +kernel
theorem dX5_step_31 : decode cX5_step 31 = .ok (.iadd, 1) := by decide +kernel
theorem dX5_step_32 : decode cX5_step 32 = .ok (.putfield 19, 3) := by decide +kernel
theorem dX5_step_35 : decode cX5_step 35 = .ok (.goto (-35), 3) := by decide +kernel
theorem dX5_step_38 : decode cX5_step 38 = .ok (.aload_n 0, 1) := by decide +kernel
theorem dX5_step_39 : decode cX5_step 39 = .ok (.aload_n 0, 1) := by decide +kernel
theorem dX5_step_40 : decode cX5_step 40 = .ok (.getfield 19, 3) := by decide +kernel
theorem dX5_step_43 : decode cX5_step 43 = .ok (.putfield 64, 3) := by decide +kernel
theorem dX5_step_46 : decode cX5_step 46 = .ok (.aload_n 0, 1) := by decide +kernel
theorem dX5_step_47 : decode cX5_step 47 = .ok (.getfield 19, 3) := by decide +kernel
theorem dX5_step_50 : decode cX5_step 50 = .ok (.aload_n 0, 1) := by decide +kernel
theorem dX5_step_51 : decode cX5_step 51 = .ok (.getfield 15, 3) := by decide +kernel
theorem dX5_step_54 : decode cX5_step 54 = .ok (.if_icmp .lt 11, 3) := by decide +kernel
theorem dX5_step_57 : decode cX5_step 57 = .ok (.aload_n 0, 1) := by decide +kernel
theorem dX5_step_58 : decode cX5_step 58 = .ok (.iconst 0, 1) := by decide +kernel
theorem dX5_step_59 : decode cX5_step 59 = .ok (.putfield 30, 3) := by decide +kernel
theorem dX5_step_62 : decode cX5_step 62 = .ok (.goto 76, 3) := by decide +kernel
theorem dX5_step_65 : decode cX5_step 65 = .ok (.aload_n 0, 1) := by decide +kernel
theorem dX5_step_66 : decode cX5_step 66 = .ok (.getfield 9, 3) := by decide +kernel
theorem dX5_step_69 : decode cX5_step 69 = .ok (.aload_n 0, 1) := by decide +kernel
theorem dX5_step_70 : decode cX5_step 70 = .ok (.getfield 19, 3) := by decide +kernel
theorem dX5_step_73 : decode cX5_step 73 = .ok (.caload, 1) := by decide +kernel
theorem dX5_step_74 : decode cX5_step 74 = .ok (.invokestatic 67, 3) := by decide +kernel
theorem dX5_step_77 : decode cX5_step 77 = .ok (.ifCond .eq 10, 3) := by decide +kernel
theorem dX5_step_80 : decode cX5_step 80 = .ok (.aload_n 0, 1) := by decide +kernel
theorem dX5_step_81 : decode cX5_step 81 = .ok (.invokevirtual 71, 3) := by decide +kernel
theorem dX5_step_84 : decode cX5_step 84 = .ok (.goto 54, 3) := by decide +kernel
theorem dX5_step_87 : decode cX5_step 87 = .ok (.aload_n 0, 1) := by decide +kernel
theorem dX5_step_88 : decode cX5_step 88 = .ok (.aload_n 0, 1) := by decide +kernel
theorem dX5_step_89 : decode cX5_step 89 = .ok (.getfield 9, 3) := by decide +kernel
theorem dX5_step_92 : decode cX5_step 92 = .ok (.aload_n 0, 1) := by decide +kernel
theorem dX5_step_93 : decode cX5_step 93 = .ok (.getfield 19, 3) := by decide +kernel
theorem dX5_step_96 : decode cX5_step 96 = .ok (.caload, 1) := by decide +kernel
theorem dX5_step_97 : decode cX5_step 97 = .ok (.bipush 102, 2) := by decide +kernel
theorem dX5_step_99 : decode cX5_step 99 = .ok (.if_icmp .ne 7, 3) := by decide +kernel
theorem dX5_step_102 : decode cX5_step 102 = .ok (.iconst 1, 1) := by decide +kernel
theorem dX5_step_103 : decode cX5_step 103 = .ok (.goto 22, 3) := by decide +kernel
theorem dX5_step_106 : decode cX5_step 106 = .ok (.aload_n 0, 1) := by decide +kernel
theorem dX5_step_107 : decode cX5_step 107 = .ok (.getfield 9, 3) := by decide +kernel
theorem dX5_step_110 : decode cX5_step 110 = .ok (.aload_n 0, 1) := by decide +kernel
theorem dX5_step_111 : decode cX5_step 111 = .ok (.getfield 19, 3) := by decide +kernel
theorem dX5_step_114 : decode cX5_step 114 = .ok (.caload, 1) := by decide +kernel
theorem dX5_step_115 : decode cX5_step 115 = .ok (.bipush 59, 2) := by decide +kernel
theorem dX5_step_117 : decode cX5_step 117 = .ok (.if_icmp .ne 7, 3) := by decide +kernel
theorem dX5_step_120 : decode cX5_step 120 = .ok (.iconst 3, 1) := by decide +kernel
theorem dX5_step_121 : decode cX5_step 121 = .ok (.goto 4, 3) := by decide +kernel
theorem dX5_step_124 : decode cX5_step 124 = .ok (.iconst 4, 1) := by decide +kernel
theorem dX5_step_125 : decode cX5_step 125 = .ok (.putfield 30, 3) := by decide +kernel
theorem dX5_step_128 : decode cX5_step 128 = .ok (.aload_n 0, 1) := by decide +kernel
theorem dX5_step_129 : decode cX5_step 129 = .ok (.dup, 1) := by decide +kernel
theorem dX5_step_130 : decode cX5_step 130 = .ok (.getfield 19, 3) := by decide +kernel
theorem dX5_step_133 : decode cX5_step 133 = .ok (.iconst 1, 1) := by decide +kernel
theorem dX5_step_134 : decode cX5_step 134 = .ok (.iadd, 1) := by decide +kernel
theorem dX5_step_135 : decode cX5_step 135 = .ok (.putfield 19, 3) := by decide +kernel
theorem dX5_step_138 : decode cX5_step 138 = .ok (.return_, 1) := by decide +kernel
theorem dX5_stepOverNumber_0 : decode cX5_stepOverNumber 0 = .ok (.aload_n 0, 1) := by decide +kernel
theorem dX5_stepOverNumber_1 : decode cX5_stepOverNumber 1 = .ok (.iconst 0, 1) := by decide +kernel
theorem dX5_stepOverNumber_2 : decode cX5_stepOverNumber 2 = .ok (.putfield 61, 3) := by decide +kernel
theorem dX5_stepOverNumber_5 : decode cX5_stepOverNumber 5 = .ok (.aload_n 0, 1) := by decide +kernel
theorem dX5_stepOverNumber_6 : decode cX5_stepOverNumber 6 = .ok (.getfield 19, 3) := by decide +kernel
theorem dX5_stepOverNumber_9 : decode cX5_stepOverNumber 9 = .ok (.aload_n 0, 1) := by decide +kernel
theorem dX5_stepOverNumber_10 : decode cX5_stepOverNumber 10 = .ok (.getfield 15, 3) := by decide +kernel
theorem dX5_stepOverNumber_13 : decode cX5_stepOverNumber 13 = .ok (.if_icmp .ge 60, 3) := by decide +kernel
theorem dX5_stepOverNumber_16 : decode cX5_stepOverNumber 16 = .ok (.aload_n 0, 1) := by decide +kernel
theorem dX5_stepOverNumber_17 : decode cX5_stepOverNumber 17 = .ok (.getfield 9, 3) := by decide +kernel
theorem dX5_stepOverNumber_20 : decode cX5_stepOverNumber 20 = .ok (.aload_n 0, 1) := by decide +kernel
theorem dX5_stepOverNumber_21 : decode cX5_stepOverNumber 21 = .ok (.getfield 19, 3) := by decide +kernel
theorem dX5_stepOverNumber_24 : decode cX5_stepOverNumber 24 = .ok (.caload, 1) := by decide +kernel
theorem dX5_stepOverNumber_25 : decode cX5_stepOverNumber 25 = .ok (.invokestatic 67, 3) := by decide +kernel
theorem dX5_stepOverNumber_28 : decode cX5_stepOverNumber 28 = .ok (.ifCond .eq 45, 3) := by decide +kernel
theorem dX5_stepOverNumber_31 : decode cX5_stepOverNumber 31 = .ok (.aload_n 0, 1) := by decide +kernel
theorem dX5_stepOverNumber_32 : decode cX5_stepOverNumber 32 = .ok (.aload_n 0, 1) := by decide +kernel
theorem dX5_stepOverNumber_33 : decode cX5_stepOverNumber 33 = .ok (.getfield 61, 3) := by decide +kernel
theorem dX5_stepOverNumber_36 : decode cX5_stepOverNumber 36 = .ok (.bipush 10, 2) := by decide +kernel
theorem dX5_stepOverNumber_38 : decode cX5_stepOverNumber 38 = .ok (.imul, 1) := by decide +kernel
theorem dX5_stepOverNumber_39 : decode cX5_stepOverNumber 39 = .ok (.aload_n 0, 1) := by decide +kernel
theorem dX5_stepOverNumber_40 : decode cX5_stepOverNumber 40 = .ok (.getfield 9, 3) := by decide +kernel
theorem dX5_stepOverNumber_43 : decode cX5_stepOverNumber 43 = .ok (.aload_n 0, 1) := by decide +kernel
theorem dX5_stepOverNumber_44 : decode cX5_stepOverNumber 44 = .ok (.getfield 19, 3) := by decide +kernel
theorem dX5_stepOverNumber_47 : decode cX5_stepOverNumber 47 = .ok (.caload, 1) := by decide +kernel
theorem dX5_stepOverNumber_48 : decode cX5_stepOverNumber 48 = .ok (.bipush 48, 2) := by decide +kernel
theorem dX5_stepOverNumber_50 : decode cX5_stepOverNumber 50 = .ok (.isub, 1) := by decide +kernel
theorem dX5_stepOverNumber_51 : decode cX5_stepOverNumber 51 = .ok (.iadd, 1) := by decide +kernel
theorem dX5_stepOverNumber_52 : decode cX5_stepOverNumber 52 = .ok (.bipush 100, 2) := by decide +kernel
theorem dX5_stepOverNumber_54 : decode cX5_stepOverNumber 54 = .ok (.invokestatic 74, 3) := by decide +kernel
theorem dX5_stepOverNumber_57 : decode cX5_stepOverNumber 57 = .ok (.putfield 61, 3) := by decide +kernel
theorem dX5_stepOverNumber_60 : decode cX5_stepOverNumber 60 = .ok (.aload_n 0, 1) := by decide +kernel
theorem dX5_stepOverNumber_61 : decode cX5_stepOverNumber 61 = .ok (.dup, 1) := by decide +kernel
theorem dX5_stepOverNumber_62 : decode cX5_stepOverNumber 62 = .ok (.getfield 19, 3) := by decide +kernel
theorem dX5_stepOverNumber_65 : decode cX5_stepOverNumber 65 = .ok (.iconst 1, 1) := by decide +kernel
theorem dX5_stepOverNumber_66 : decode cX5_stepOverNumber 66 = .ok (.iadd, 1) := by decide +kernel
theorem dX5_stepOverNumber_67 : decode cX5_stepOverNumber 67 = .ok (.putfield 19, 3) := by decide +kernel
theorem dX5_stepOverNumber_70 : decode cX5_stepOverNumber 70 = .ok (.goto (-65), 3) := by decide +kernel
theorem dX5_stepOverNumber_73 : decode cX5_stepOverNumber 73 = .ok (.aload_n 0, 1) := by decide +kernel
theorem dX5_stepOverNumber_74 : decode cX5_stepOverNumber 74 = .ok (.getfield 9, 3) := by decide +kernel
theorem dX5_stepOverNumber_77 : decode cX5_stepOverNumber 77 = .ok (.aload_n 0, 1) := by decide +kernel
theorem dX5_stepOverNumber_78 : decode cX5_stepOverNumber 78 = .ok (.getfield 64, 3) := by decide +kernel
theorem dX5_stepOverNumber_81 : decode cX5_stepOverNumber 81 = .ok (.caload, 1) := by decide +kernel
theorem dX5_stepOverNumber_82 : decode cX5_stepOverNumber 82 = .ok (.bipush 48, 2) := by decide +kernel
theorem dX5_stepOverNumber_84 : decode cX5_stepOverNumber 84 = .ok (.if_icmp .ne 20, 3) := by decide +kernel
theorem dX5_stepOverNumber_87 : decode cX5_stepOverNumber 87 = .ok (.aload_n 0, 1) := by decide +kernel
theorem dX5_stepOverNumber_88 : decode cX5_stepOverNumber 88 = .ok (.getfield 19, 3) := by decide +kernel
theorem dX5_stepOverNumber_91 : decode cX5_stepOverNumber 91 = .ok (.aload_n 0, 1) := by decide +kernel
theorem dX5_stepOverNumber_92 : decode cX5_stepOverNumber 92 = .ok (.getfield 64, 3) := by decide +kernel
theorem dX5_stepOverNumber_95 : decode cX5_stepOverNumber 95 = .ok (.isub, 1) := by decide +kernel
theorem dX5_stepOverNumber_96 : decode cX5_stepOverNumber 96 = .ok (.iconst 1, 1) := by decide +kernel
theorem dX5_stepOverNumber_97 : decode cX5_stepOverNumber 97 = .ok (.if_icmp .le 7, 3) := by decide +kernel
theorem dX5_stepOverNumber_100 : decode cX5_stepOverNumber 100 = .ok (.iconst 1, 1) := by decide +kernel
theorem dX5_stepOverNumber_101 : decode cX5_stepOverNumber 101 = .ok (.goto 4, 3) := by decide +kernel
theorem dX5_stepOverNumber_104 : decode cX5_stepOverNumber 104 = .ok (.iconst 0, 1) := by decide +kernel
theorem dX5_stepOverNumber_105 : decode cX5_stepOverNumber 105 = .ok (.istore_n 1, 1) := by decide +kernel
theorem dX5_stepOverNumber_106 : decode cX5_stepOverNumber 106 = .ok (.aload_n 0, 1) := by decide +kernel
theorem dX5_stepOverNumber_107 : decode cX5_stepOverNumber 107 = .ok (.iload_n 1, 1) := by decide +kernel
theorem dX5_stepOverNumber_108 : decode cX5_stepOverNumber 108 = .ok (.ifCond .ne 12, 3) := by decide +kernel
theorem dX5_stepOverNumber_111 : decode cX5_stepOverNumber 111 = .ok (.aload_n 0, 1) := by decide +kernel
theorem dX5_stepOverNumber_112 : decode cX5_stepOverNumber 112 = .ok (.getfield 61, 3) := by decide +kernel
theorem dX5_stepOverNumber_115 : decode cX5_stepOverNumber 115 = .ok (.bipush 99, 2) := by decide +kernel
theorem dX5_stepOverNumber_117 : decode cX5_stepOverNumber 117 = .ok (.if_icmp .le 7, 3) := by decide +kernel
theorem dX5_stepOverNumber_120 : decode cX5_stepOverNumber 120 = .ok (.iconst 4, 1) := by decide +kernel
theorem dX5_stepOverNumber_121 : decode cX5_stepOverNumber 121 = .ok (.goto 4, 3) := by decide +kernel
theorem dX5_stepOverNumber_124 : decode cX5_stepOverNumber 124 = .ok (.iconst 2, 1) := by decide +kernel
theorem dX5_stepOverNumber_125 : decode cX5_stepOverNumber 125 = .ok (.putfield 30, 3) := by decide +kernel
theorem dX5_stepOverNumber_128 : decode cX5_stepOverNumber 128 = .ok (.return_, 1) := by decide +kernel
theorem dX5_isDigit_0 : decode cX5_isDigit 0 = .ok (.iload_n 0, 1) := by decide +kernel
theorem dX5_isDigit_1 : decode cX5_isDigit 1 = .ok (.bipush 48, 2) := by decide +kernel
theorem dX5_isDigit_3 : decode cX5_isDigit 3 = .ok (.if_icmp .lt 13, 3) := by decide +kernel
theorem dX5_isDigit_6 : decode cX5_isDigit 6 = .ok (.iload_n 0, 1) := by decide +kernel
theorem dX5_isDigit_7 : decode cX5_isDigit 7 = .ok (.bipush 57, 2) := by decide +kernel
theorem dX5_isDigit_9 : decode cX5_isDigit 9 = .ok (.if_icmp .gt 7, 3) := by decide +kernel
theorem dX5_isDigit_12 : decode cX5_isDigit 12 = .ok (.iconst 1, 1) := by decide +kernel
theorem dX5_isDigit_13 : decode cX5_isDigit 13 = .ok (.goto 4, 3) := by decide +kernel
theorem dX5_isDigit_16 : decode cX5_isDigit 16 = .ok (.iconst 0, 1) := by decide +kernel
theorem dX5_isDigit_17 : decode cX5_isDigit 17 = .ok (.ireturn, 1) := by decide +kernel
theorem dX6_init_0 : decode cX6_init 0 = .ok (.aload_n 0, 1) := by decide +kernel
theorem dX6_init_1 : decode cX6_init 1 = .ok (.invokespecial 1, 3) := by decide +kernel
theorem dX6_init_4 : decode cX6_init 4 = .ok (.aload_n 0, 1) := by decide +kernel
theorem dX6_init_5 : decode cX6_init 5 = .ok (.new 7, 3) := by decide +kernel
theorem dX6_init_8 : decode cX6_init 8 = .ok (.dup, 1) := by decide +kernel
theorem dX6_init_9 : decode cX6_init 9 = .ok (.invokespecial 9, 3) := by decide +kernel
theorem dX6_init_12 : decode cX6_init 12 = .ok (.putfield 10, 3) := by decide +kernel
theorem dX6_init_15 : decode cX6_init 15 = .ok (.aload_n 0, 1) := by decide +kernel
theorem dX6_init_16 : decode cX6_init 16 = .ok (.new 16, 3) := by decide +kernel
theorem dX6_init_19 : decode cX6_init 19 = .ok (.dup, 1) := by decide +kernel
theorem dX6_init_20 : decode cX6_init 20 = .ok (.invokespecial 18, 3) := by decide +kernel
theorem dX6_init_23 : decode cX6_init 23 = .ok (.putfield 19, 3) := by decide +kernel
theorem dX6_init_26 : decode cX6_init 26 = .ok (.aload_n 0, 1) := by decide +kernel
theorem dX6_init_27 : decode cX6_init 27 = .ok (.new 16, 3) := by decide +kernel
theorem dX6_init_30 : decode cX6_init 30 = .ok (.dup, 1) := by decide +kernel
theorem dX6_init_31 : decode cX6_init 31 = .ok (.invokespecial 18, 3) := by decide +kernel
theorem dX6_init_34 : decode cX6_init 34 = .ok (.putfield 23, 3) := by decide +kernel
theorem dX6_init_37 : decode cX6_init 37 = .ok (.aload_n 0, 1) := by decide +kernel
theorem dX6_init_38 : decode cX6_init 38 = .ok (.new 26, 3) := by decide +kernel
theorem dX6_init_41 : decode cX6_init 41 = .ok (.dup, 1) := by decide +kernel
theorem dX6_init_42 : decode cX6_init 42 = .ok (.aload_n 0, 1) := by decide +kernel
theorem dX6_init_43 : decode cX6_init 43 = .ok (.getfield 23, 3) := by decide +kernel
theorem dX6_init_46 : decode cX6_init 46 = .ok (.invokespecial 28, 3) := by decide +kernel
theorem dX6_init_49 : decode cX6_init 49 = .ok (.putfield 31, 3) := by decide +kernel
theorem dX6_init_52 : decode cX6_init 52 = .ok (.aload_n 0, 1) := by decide +kernel
theorem dX6_init_53 : decode cX6_init 53 = .ok (.new 26, 3) := by decide +kernel
theorem dX6_init_56 : decode cX6_init 56 = .ok (.dup, 1) := by decide +kernel
theorem dX6_init_57 : decode cX6_init 57 = .ok (.aload_n 0, 1) := by decide +kernel
theorem dX6_init_58 : decode cX6_init 58 = .ok (.getfield 23, 3) := by decide +kernel
theorem dX6_init_61 : decode cX6_init 61 = .ok (.invokespecial 28, 3) := by decide +kernel
theorem dX6_init_64 : decode cX6_init 64 = .ok (.putfield 35, 3) := by decide +kernel
theorem dX6_init_67 : decode cX6_init 67 = .ok (.aload_n 0, 1) := by decide +kernel
theorem dX6_init_68 : decode cX6_init 68 = .ok (.new 38, 3) := by decide +kernel
theorem dX6_init_71 : decode cX6_init 71 = .ok (.dup, 1) := by decide +kernel
theorem dX6_init_72 : decode cX6_init 72 = .ok (.aload_n 0, 1) := by decide +kernel
theorem dX6_init_73 : decode cX6_init 73 = .ok (.getfield 23, 3) := by decide +kernel
theorem dX6_init_76 : decode cX6_init 76 = .ok (.invokespecial 40, 3) := by decide +kernel
theorem dX6_init_79 : decode cX6_init 79 = .ok (.putfield 41, 3) := by decide +kernel
theorem dX6_init_82 : decode cX6_init 82 = .ok (.aload_n 0, 1) := by decide +kernel
theorem dX6_init_83 : decode cX6_init 83 = .ok (.iconst 2, 1) := by decide +kernel
theorem dX6_init_84 : decode cX6_init 84 = .ok (.anewarray 26, 3) := by decide +kernel
theorem dX6_init_87 : decode cX6_init 87 = .ok (.putfield 45, 3) := by decide +kernel
theorem dX6_init_90 : decode cX6_init 90 = .ok (.iconst 0, 1) := by decide +kernel
theorem dX6_init_91 : decode cX6_init 91 = .ok (.istore_n 1, 1) := by decide +kernel
theorem dX6_init_92 : decode cX6_init 92 = .ok (.iload_n 1, 1) := by decide +kernel
theorem dX6_init_93 : decode cX6_init 93 = .ok (.iconst 2, 1) := by decide +kernel
theorem dX6_init_94 : decode cX6_init 94 = .ok (.if_icmp .ge 26, 3) := by decide +kernel
theorem dX6_init_97 : decode cX6_init 97 = .ok (.aload_n 0, 1) := by decide +kernel
theorem dX6_init_98 : decode cX6_init 98 = .ok (.getfield 45, 3) := by decide +kernel
theorem dX6_init_101 : decode cX6_init 101 = .ok (.iload_n 1, 1) := by decide +kernel
theorem dX6_init_102 : decode cX6_init 102 = .ok (.new 26, 3) := by decide +kernel
theorem dX6_init_105 : decode cX6_init 105 = .ok (.dup, 1) := by decide +kernel
theorem dX6_init_106 : decode cX6_init 106 = .ok (.aload_n 0, 1) := by decide +kernel
theorem dX6_init_107 : decode cX6_init 107 = .ok (.getfield 23, 3) := by decide +kernel
theorem dX6_init_110 : decode cX6_init 110 = .ok (.invokespecial 28, 3) := by decide +kernel
theorem dX6_init_113 : decode cX6_init 113 = .ok (.aastore, 1) := by decide +kernel
theorem dX6_init_114 : decode cX6_init 114 = .ok (.iinc 1 1, 3) := by decide +kernel
theorem dX6_init_117 : decode cX6_init 117 = .ok (.goto (-25), 3) := by decide +kernel
theorem dX6_init_120 : decode cX6_init 120 = .ok (.aload_n 0, 1) := by decide +kernel
theorem dX6_init_121 : decode cX6_init 121 = .ok (.iconst 2, 1) := by decide +kernel
theorem dX6_init_122 : decode cX6_init 122 = .ok (.newarray .boolean, 2) := by decide +kernel
theorem dX6_init_124 : decode cX6_init 124 = .ok (.putfield 49, 3) := by decide +kernel
theorem dX6_init_127 : decode cX6_init 127 = .ok (.aload_n 0, 1) := by decide +kernel
theorem dX6_init_128 : decode cX6_init 128 = .ok (.new 53, 3) := by decide +kernel
theorem dX6_init_131 : decode cX6_init 131 = .ok (.dup, 1) := by decide +kernel
theorem dX6_init_132 : decode cX6_init 132 = .ok (.aload_n 0, 1) := by decide +kernel
theorem dX6_init_133 : decode cX6_init 133 = .ok (.getfield 23, 3) := by decide +kernel
theorem dX6_init_136 : decode cX6_init 136 = .ok (.invokespecial 55, 3) := by decide +kernel
theorem dX6_init_139 : decode cX6_init 139 = .ok (.putfield 56, 3) := by decide +kernel
theorem dX6_init_142 : decode cX6_init 142 = .ok (.aload_n 0, 1) := by decide +kernel
theorem dX6_init_143 : decode cX6_init 143 = .ok (.new 60, 3) := by decide +kernel
theorem dX6_init_146 : decode cX6_init 146 = .ok (.dup, 1) := by decide +kernel
theorem dX6_init_147 : decode cX6_init 147 = .ok (.invokespecial 62, 3) := by decide +kernel
theorem dX6_init_150 : decode cX6_init 150 = .ok (.putfield 63, 3) := by decide +kernel
theorem dX6_init_153 : decode cX6_init 153 = .ok (.aload_n 0, 1) := by decide +kernel
theorem dX6_init_154 : decode cX6_init 154 = .ok (.bipush 9, 2) := by decide +kernel
theorem dX6_init_156 : decode cX6_init 156 = .ok (.newarray .int, 2) := by decide +kernel
theorem dX6_init_158 : decode cX6_init 158 = .ok (.putfield 67, 3) := by decide +kernel
theorem dX6_init_161 : decode cX6_init 161 = .ok (.return_, 1) := by decide +kernel
theorem dX6_type_0 : decode cX6_type 0 = .ok (.iload_n 1, 1) := by decide +kernel
theorem dX6_type_1 : decode cX6_type 1 = .ok (.iconst 0, 1) := by decide +kernel
theorem dX6_type_2 : decode cX6_type 2 = .ok (.sipush 255, 3) := by decide +kernel
theorem dX6_type_5 : decode cX6_type 5 = .ok (.invokestatic 71, 3) := by decide +kernel
theorem dX6_type_8 : decode cX6_type 8 = .ok (.ifCond .ne 5, 3) := by decide +kernel
theorem dX6_type_11 : decode cX6_type 11 = .ok (.iconst (-1), 1) := by decide +kernel
theorem dX6_type_12 : decode cX6_type 12 = .ok (.ireturn, 1) := by decide +kernel
theorem dX6_type_13 : decode cX6_type 13 = .ok (.aload_n 0, 1) := by decide +kernel
theorem dX6_type_14 : decode cX6_type 14 = .ok (.getfield 10, 3) := by decide +kernel
theorem dX6_type_17 : decode cX6_type 17 = .ok (.iload_n 1, 1) := by decide +kernel
theorem dX6_type_18 : decode cX6_type 18 = .ok (.invokevirtual 75, 3) := by decide +kernel
theorem dX6_type_21 : decode cX6_type 21 = .ok (.ifCond .eq 13, 3) := by decide +kernel
theorem dX6_type_24 : decode cX6_type 24 = .ok (.aload_n 0, 1) := by decide +kernel
theorem dX6_type_25 : decode cX6_type 25 = .ok (.getfield 10, 3) := by decide +kernel
theorem dX6_type_28 : decode cX6_type 28 = .ok (.getfield 79, 3) := by decide +kernel
theorem dX6_type_31 : decode cX6_type 31 = .ok (.goto 5, 3) := by decide +kernel
theorem dX6_type_34 : decode cX6_type 34 = .ok (.bipush (-3), 2) := by decide +kernel
theorem dX6_type_36 : decode cX6_type 36 = .ok (.ireturn, 1) := by decide +kernel
theorem dX6_clear_0 : decode cX6_clear 0 = .ok (.aload_n 0, 1) := by decide +kernel
theorem dX6_clear_1 : decode cX6_clear 1 = .ok (.getfield 10, 3) := by decide +kernel
theorem dX6_clear_4 : decode cX6_clear 4 = .ok (.getfield 79, 3) := by decide +kernel
theorem dX6_clear_7 : decode cX6_clear 7 = .ok (.istore_n 1, 1) := by decide +kernel
theorem dX6_clear_8 : decode cX6_clear 8 = .ok (.aload_n 0, 1) := by decide +kernel
theorem dX6_clear_9 : decode cX6_clear 9 = .ok (.getfield 10, 3) := by decide +kernel
theorem dX6_clear_12 : decode cX6_clear 12 = .ok (.iconst 0, 1) := by decide +kernel
theorem dX6_clear_13 : decode cX6_clear 13 = .ok (.putfield 79, 3) := by decide +kernel
theorem dX6_clear_16 : decode cX6_clear 16 = .ok (.iload_n 1, 1) := by decide +kernel
theorem dX6_clear_17 : decode cX6_clear 17 = .ok (.ireturn, 1) := by decide +kernel
theorem dX6_valley_0 : decode cX6_valley 0 = .ok (.aload_n 0, 1) := by decide +kernel
theorem dX6_valley_1 : decode cX6_valley 1 = .ok (.getfield 10, 3) := by decide +kernel
theorem dX6_valley_4 : decode cX6_valley 4 = .ok (.aload_n 0, 1) := by decide +kernel
theorem dX6_valley_5 : decode cX6_valley 5 = .ok (.getfield 19, 3) := by decide +kernel
theorem dX6_valley_8 : decode cX6_valley 8 = .ok (.invokevirtual 83, 3) := by decide +kernel
theorem dX6_valley_11 : decode cX6_valley 11 = .ok (.ifCond .ne 14, 3) := by decide +kernel
theorem dX6_valley_14 : decode cX6_valley 14 = .ok (.bipush (-10), 2) := by decide +kernel
theorem dX6_valley_16 : decode cX6_valley 16 = .ok (.aload_n 0, 1) := by decide +kernel
theorem dX6_valley_17 : decode cX6_valley 17 = .ok (.getfield 10, 3) := by decide +kernel
theorem dX6_valley_20 : decode cX6_valley 20 = .ok (.getfield 87, 3) := by decide +kernel
theorem dX6_valley_23 : decode cX6_valley 23 = .ok (.isub, 1) := by decide +kernel
theorem dX6_valley_24 : decode cX6_valley 24 = .ok (.ireturn, 1) := by decide +kernel
theorem dX6_valley_25 : decode cX6_valley 25 = .ok (.aload_n 0, 1) := by decide +kernel
theorem dX6_valley_26 : decode cX6_valley 26 = .ok (.getfield 10, 3) := by decide +kernel
theorem dX6_valley_29 : decode cX6_valley 29 = .ok (.iconst 0, 1) := by decide +kernel
theorem dX6_valley_30 : decode cX6_valley 30 = .ok (.putfield 79, 3) := by decide +kernel
theorem dX6_valley_33 : decode cX6_valley 33 = .ok (.aload_n 0, 1) := by decide +kernel
theorem dX6_valley_34 : decode cX6_valley 34 = .ok (.getfield 23, 3) := by decide +kernel
theorem dX6_valley_37 : decode cX6_valley 37 = .ok (.aload_n 0, 1) := by decide +kernel
theorem dX6_valley_38 : decode cX6_valley 38 = .ok (.getfield 19, 3) := by decide +kernel
theorem dX6_valley_41 : decode cX6_valley 41 = .ok (.invokevirtual 90, 3) := by decide +kernel
theorem dX6_valley_44 : decode cX6_valley 44 = .ok (.aload_n 0, 1) := by decide +kernel
theorem dX6_valley_45 : decode cX6_valley 45 = .ok (.getfield 31, 3) := by decide +kernel
theorem dX6_valley_48 : decode cX6_valley 48 = .ok (.invokevirtual 93, 3) := by decide +kernel
theorem dX6_valley_51 : decode cX6_valley 51 = .ok (.aload_n 0, 1) := by decide +kernel
theorem dX6_valley_52 : decode cX6_valley 52 = .ok (.getfield 41, 3) := by decide +kernel
theorem dX6_valley_55 : decode cX6_valley 55 = .ok (.iconst 0, 1) := by decide +kernel
theorem dX6_valley_56 : decode cX6_valley 56 = .ok (.putfield 96, 3) := by decide +kernel
theorem dX6_valley_59 : decode cX6_valley 59 = .ok (.aload_n 0, 1) := by decide +kernel
theorem dX6_valley_60 : decode cX6_valley 60 = .ok (.getfield 63, 3) := by decide +kernel
theorem dX6_valley_63 : decode cX6_valley 63 = .ok (.invokevirtual 99, 3) := by decide +kernel
theorem dX6_valley_66 : decode cX6_valley 66 = .ok (.iconst 0, 1) := by decide +kernel
theorem dX6_valley_67 : decode cX6_valley 67 = .ok (.istore_n 1, 1) := by decide +kernel
theorem dX6_valley_68 : decode cX6_valley 68 = .ok (.iload_n 1, 1) := by decide +kernel
theorem dX6_valley_69 : decode cX6_valley 69 = .ok (.iconst 2, 1) := by decide +kernel
theorem dX6_valley_70 : decode cX6_valley 70 = .ok (.if_icmp .ge 16, 3) := by decide +kernel
theorem dX6_valley_73 : decode cX6_valley 73 = .ok (.aload_n 0, 1) := by decide +kernel
theorem dX6_valley_74 : decode cX6_valley 74 = .ok (.getfield 49, 3) := by decide +kernel
theorem dX6_valley_77 : decode cX6_valley 77 = .ok (.iload_n 1, 1) := by decide +kernel
theorem dX6_valley_78 : decode cX6_valley 78 = .ok (.iconst 0, 1) := by decide +kernel
theorem dX6_valley_79 : decode cX6_valley 79 = .ok (.bastore, 1) := by decide +kernel
theorem dX6_valley_80 : decode cX6_valley 80 = .ok (.iinc 1 1, 3) := by decide +kernel
theorem dX6_valley_83 : decode cX6_valley 83 = .ok (.goto (-15), 3) := by decide +kernel
theorem dX6_valley_86 : decode cX6_valley 86 = .ok (.aload_n 0, 1) := by decide +kernel
theorem dX6_valley_87 : decode cX6_valley 87 = .ok (.getfield 23, 3) := by decide +kernel
theorem dX6_valley_90 : decode cX6_valley 90 = .ok (.getfield 100, 3) := by decide +kernel
theorem dX6_valley_93 : decode cX6_valley 93 = .ok (.ireturn, 1) := by decide +kernel
theorem dX6_farmer_0 : decode cX6_farmer 0 = .ok (.aload_n 0, 1) := by decide +kernel
theorem dX6_farmer_1 : decode cX6_farmer 1 = .ok (.getfield 23, 3) := by decide +kernel
theorem dX6_farmer_4 : decode cX6_farmer 4 = .ok (.iload_n 1, 1) := by decide +kernel
theorem dX6_farmer_5 : decode cX6_farmer 5 = .ok (.invokevirtual 101, 3) := by decide +kernel
theorem dX6_farmer_8 : decode cX6_farmer 8 = .ok (.ifCond .ne 5, 3) := by decide +kernel
theorem dX6_farmer_11 : decode cX6_farmer 11 = .ok (.iconst (-1), 1) := by decide +kernel
theorem dX6_farmer_12 : decode cX6_farmer 12 = .ok (.ireturn, 1) := by decide +kernel
theorem dX6_farmer_13 : decode cX6_farmer 13 = .ok (.iload_n 2, 1) := by decide +kernel
theorem dX6_farmer_14 : decode cX6_farmer 14 = .ok (.tableswitch 153 0 9 #[54, 64, 74, 84, 94, 104, 121, 130, 139, 145], 54) := by decide +kernel
theorem dX6_farmer_68 : decode cX6_farmer 68 = .ok (.aload_n 0, 1) := by decide +kernel
theorem dX6_farmer_69 : decode cX6_farmer 69 = .ok (.getfield 23, 3) := by decide +kernel
theorem dX6_farmer_72 : decode cX6_farmer 72 = .ok (.getfield 104, 3) := by decide +kernel
theorem dX6_farmer_75 : decode cX6_farmer 75 = .ok (.iload_n 1, 1) := by decide +kernel
theorem dX6_farmer_76 : decode cX6_farmer 76 = .ok (.iaload, 1) := by decide +kernel
theorem dX6_farmer_77 : decode cX6_farmer 77 = .ok (.ireturn, 1) := by decide +kernel
theorem dX6_farmer_78 : decode cX6_farmer 78 = .ok (.aload_n 0, 1) := by decide +kernel
theorem dX6_farmer_79 : decode cX6_farmer 79 = .ok (.getfield 31, 3) := by decide +kernel
theorem dX6_farmer_82 : decode cX6_farmer 82 = .ok (.getfield 107, 3) := by decide +kernel
theorem dX6_farmer_85 : decode cX6_farmer 85 = .ok (.iload_n 1, 1) := by decide +kernel
theorem dX6_farmer_86 : decode cX6_farmer 86 = .ok (.iaload, 1) := by decide +kernel
theorem dX6_farmer_87 : decode cX6_farmer 87 = .ok (.ireturn, 1) := by decide +kernel
theorem dX6_farmer_88 : decode cX6_farmer 88 = .ok (.aload_n 0, 1) := by decide +kernel
theorem dX6_farmer_89 : decode cX6_farmer 89 = .ok (.getfield 23, 3) := by decide +kernel
theorem dX6_farmer_92 : decode cX6_farmer 92 = .ok (.getfield 110, 3) := by decide +kernel
theorem dX6_farmer_95 : decode cX6_farmer 95 = .ok (.iload_n 1, 1) := by decide +kernel
theorem dX6_farmer_96 : decode cX6_farmer 96 = .ok (.iaload, 1) := by decide +kernel
theorem dX6_farmer_97 : decode cX6_farmer 97 = .ok (.ireturn, 1) := by decide +kernel
theorem dX6_farmer_98 : decode cX6_farmer 98 = .ok (.aload_n 0, 1) := by decide +kernel
theorem dX6_farmer_99 : decode cX6_farmer 99 = .ok (.getfield 23, 3) := by decide +kernel
theorem dX6_farmer_102 : decode cX6_farmer 102 = .ok (.getfield 113, 3) := by decide +kernel
theorem dX6_farmer_105 : decode cX6_farmer 105 = .ok (.iload_n 1, 1) := by decide +kernel
theorem dX6_farmer_106 : decode cX6_farmer 106 = .ok (.iaload, 1) := by decide +kernel
theorem dX6_farmer_107 : decode cX6_farmer 107 = .ok (.ireturn, 1) := by decide +kernel
theorem dX6_farmer_108 : decode cX6_farmer 108 = .ok (.aload_n 0, 1) := by decide +kernel
theorem dX6_farmer_109 : decode cX6_farmer 109 = .ok (.getfield 31, 3) := by decide +kernel
theorem dX6_farmer_112 : decode cX6_farmer 112 = .ok (.getfield 116, 3) := by decide +kernel
theorem dX6_farmer_115 : decode cX6_farmer 115 = .ok (.iload_n 1, 1) := by decide +kernel
theorem dX6_farmer_116 : decode cX6_farmer 116 = .ok (.iaload, 1) := by decide +kernel
theorem dX6_farmer_117 : decode cX6_farmer 117 = .ok (.ireturn, 1) := by decide +kernel
theorem dX6_farmer_118 : decode cX6_farmer 118 = .ok (.aload_n 0, 1) := by decide +kernel
theorem dX6_farmer_119 : decode cX6_farmer 119 = .ok (.getfield 31, 3) := by decide +kernel
theorem dX6_farmer_122 : decode cX6_farmer 122 = .ok (.iload_n 1, 1) := by decide +kernel
theorem dX6_farmer_123 : decode cX6_farmer 123 = .ok (.invokevirtual 119, 3) := by decide +kernel
theorem dX6_farmer_126 : decode cX6_farmer 126 = .ok (.ifCond .eq 7, 3) := by decide +kernel
theorem dX6_farmer_129 : decode cX6_farmer 129 = .ok (.iconst 1, 1) := by decide +kernel
theorem dX6_farmer_130 : decode cX6_farmer 130 = .ok (.goto 4, 3) := by decide +kernel
theorem dX6_farmer_133 : decode cX6_farmer 133 = .ok (.iconst 0, 1) := by decide +kernel
theorem dX6_farmer_134 : decode cX6_farmer 134 = .ok (.ireturn, 1) := by decide +kernel
theorem dX6_farmer_135 : decode cX6_farmer 135 = .ok (.aload_n 0, 1) := by decide +kernel
theorem dX6_farmer_136 : decode cX6_farmer 136 = .ok (.getfield 31, 3) := by decide +kernel
theorem dX6_farmer_139 : decode cX6_farmer 139 = .ok (.iload_n 1, 1) := by decide +kernel
theorem dX6_farmer_140 : decode cX6_farmer 140 = .ok (.invokevirtual 122, 3) := by decide +kernel
theorem dX6_farmer_143 : decode cX6_farmer 143 = .ok (.ireturn, 1) := by decide +kernel
theorem dX6_farmer_144 : decode cX6_farmer 144 = .ok (.aload_n 0, 1) := by decide +kernel
theorem dX6_farmer_145 : decode cX6_farmer 145 = .ok (.getfield 31, 3) := by decide +kernel
theorem dX6_farmer_148 : decode cX6_farmer 148 = .ok (.iload_n 1, 1) := by decide +kernel
theorem dX6_farmer_149 : decode cX6_farmer 149 = .ok (.invokevirtual 126, 3) := by decide +kernel
theorem dX6_farmer_152 : decode cX6_farmer 152 = .ok (.ireturn, 1) := by decide +kernel
theorem dX6_farmer_153 : decode cX6_farmer 153 = .ok (.aload_n 0, 1) := by decide +kernel
theorem dX6_farmer_154 : decode cX6_farmer 154 = .ok (.iload_n 1, 1) := by decide +kernel
theorem dX6_farmer_155 : decode cX6_farmer 155 = .ok (.invokevirtual 129, 3) := by decide +kernel
theorem dX6_farmer_158 : decode cX6_farmer 158 = .ok (.ireturn, 1) := by decide +kernel
theorem dX6_farmer_159 : decode cX6_farmer 159 = .ok (.aload_n 0, 1) := by decide +kernel
theorem dX6_farmer_160 : decode cX6_farmer 160 = .ok (.iconst 1, 1) := by decide +kernel
theorem dX6_farmer_161 : decode cX6_farmer 161 = .ok (.iload_n 1, 1) := by decide +kernel
theorem dX6_farmer_162 : decode cX6_farmer 162 = .ok (.ishl, 1) := by decide +kernel
theorem dX6_farmer_163 : decode cX6_farmer 163 = .ok (.invokevirtual 132, 3) := by decide +kernel
theorem dX6_farmer_166 : decode cX6_farmer 166 = .ok (.ireturn, 1) := by decide +kernel
theorem dX6_farmer_167 : decode cX6_farmer 167 = .ok (.iconst (-1), 1) := by decide +kernel
theorem dX6_farmer_168 : decode cX6_farmer 168 = .ok (.ireturn, 1) := by decide +kernel
theorem dX6_now_0 : decode cX6_now 0 = .ok (.iload_n 1, 1) := by decide +kernel
theorem dX6_now_1 : decode cX6_now 1 = .ok (.tableswitch 79 0 4 #[35, 43, 51, 59, 71], 35) := by decide +kernel
theorem dX6_now_36 : decode cX6_now 36 = .ok (.aload_n 0, 1) := by decide +kernel
theorem dX6_now_37 : decode cX6_now 37 = .ok (.getfield 31, 3) := by decide +kernel
theorem dX6_now_40 : decode cX6_now 40 = .ok (.getfield 135, 3) := by decide +kernel
theorem dX6_now_43 : decode cX6_now 43 = .ok (.ireturn, 1) := by decide +kernel
theorem dX6_now_44 : decode cX6_now 44 = .ok (.aload_n 0, 1) := by decide +kernel
theorem dX6_now_45 : decode cX6_now 45 = .ok (.getfield 31, 3) := by decide +kernel
theorem dX6_now_48 : decode cX6_now 48 = .ok (.getfield 138, 3) := by decide +kernel
theorem dX6_now_51 : decode cX6_now 51 = .ok (.ireturn, 1) := by decide +kernel
theorem dX6_now_52 : decode cX6_now 52 = .ok (.aload_n 0, 1) := by decide +kernel
theorem dX6_now_53 : decode cX6_now 53 = .ok (.getfield 31, 3) := by decide +kernel
theorem dX6_now_56 : decode cX6_now 56 = .ok (.invokevirtual 141, 3) := by decide +kernel
theorem dX6_now_59 : decode cX6_now 59 = .ok (.ireturn, 1) := by decide +kernel
theorem dX6_now_60 : decode cX6_now 60 = .ok (.aload_n 0, 1) := by decide +kernel
theorem dX6_now_61 : decode cX6_now 61 = .ok (.aload_n 0, 1) := by decide +kernel
theorem dX6_now_62 : decode cX6_now 62 = .ok (.getfield 23, 3) := by decide +kernel
theorem dX6_now_65 : decode cX6_now 65 = .ok (.invokevirtual 145, 3) := by decide +kernel
theorem dX6_now_68 : decode cX6_now 68 = .ok (.invokevirtual 132, 3) := by decide +kernel
theorem dX6_now_71 : decode cX6_now 71 = .ok (.ireturn, 1) := by decide +kernel
theorem dX6_now_72 : decode cX6_now 72 = .ok (.aload_n 0, 1) := by decide +kernel
theorem dX6_now_73 : decode cX6_now 73 = .ok (.getfield 41, 3) := by decide +kernel
theorem dX6_now_76 : decode cX6_now 76 = .ok (.getfield 96, 3) := by decide +kernel
theorem dX6_now_79 : decode cX6_now 79 = .ok (.ireturn, 1) := by decide +kernel
theorem dX6_now_80 : decode cX6_now 80 = .ok (.iconst (-1), 1) := by decide +kernel
theorem dX6_now_81 : decode cX6_now 81 = .ok (.ireturn, 1) := by decide +kernel
theorem dX6_day_0 : decode cX6_day 0 = .ok (.iload_n 1, 1) := by decide +kernel
theorem dX6_day_1 : decode cX6_day 1 = .ok (.iconst 0, 1) := by decide +kernel
theorem dX6_day_2 : decode cX6_day 2 = .ok (.iconst 1, 1) := by decide +kernel
theorem dX6_day_3 : decode cX6_day 3 = .ok (.invokestatic 71, 3) := by decide +kernel
theorem dX6_day_6 : decode cX6_day 6 = .ok (.ifCond .ne 5, 3) := by decide +kernel
theorem dX6_day_9 : decode cX6_day 9 = .ok (.iconst (-1), 1) := by decide +kernel
theorem dX6_day_10 : decode cX6_day 10 = .ok (.ireturn, 1) := by decide +kernel
theorem dX6_day_11 : decode cX6_day 11 = .ok (.aload_n 0, 1) := by decide +kernel
theorem dX6_day_12 : decode cX6_day 12 = .ok (.getfield 31, 3) := by decide +kernel
theorem dX6_day_15 : decode cX6_day 15 = .ok (.getfield 135, 3) := by decide +kernel
theorem dX6_day_18 : decode cX6_day 18 = .ok (.sipush 999, 3) := by decide +kernel
theorem dX6_day_21 : decode cX6_day 21 = .ok (.if_icmp .lt 6, 3) := by decide +kernel
theorem dX6_day_24 : decode cX6_day 24 = .ok (.bipush (-2), 2) := by decide +kernel
theorem dX6_day_26 : decode cX6_day 26 = .ok (.ireturn, 1) := by decide +kernel
theorem dX6_day_27 : decode cX6_day 27 = .ok (.aload_n 0, 1) := by decide +kernel
theorem dX6_day_28 : decode cX6_day 28 = .ok (.getfield 41, 3) := by decide +kernel
theorem dX6_day_31 : decode cX6_day 31 = .ok (.aload_n 0, 1) := by decide +kernel
theorem dX6_day_32 : decode cX6_day 32 = .ok (.getfield 31, 3) := by decide +kernel
theorem dX6_day_35 : decode cX6_day 35 = .ok (.invokevirtual 148, 3) := by decide +kernel
theorem dX6_day_38 : decode cX6_day 38 = .ok (.aload_n 0, 1) := by decide +kernel
theorem dX6_day_39 : decode cX6_day 39 = .ok (.getfield 31, 3) := by decide +kernel
theorem dX6_day_42 : decode cX6_day 42 = .ok (.iload_n 1, 1) := by decide +kernel
theorem dX6_day_43 : decode cX6_day 43 = .ok (.iconst 1, 1) := by decide +kernel
theorem dX6_day_44 : decode cX6_day 44 = .ok (.if_icmp .ne 7, 3) := by decide +kernel
theorem dX6_day_47 : decode cX6_day 47 = .ok (.iconst 1, 1) := by decide +kernel
theorem dX6_day_48 : decode cX6_day 48 = .ok (.goto 4, 3) := by decide +kernel
theorem dX6_day_51 : decode cX6_day 51 = .ok (.iconst 0, 1) := by decide +kernel
theorem dX6_day_52 : decode cX6_day 52 = .ok (.invokevirtual 152, 3) := by decide +kernel
theorem dX6_day_55 : decode cX6_day 55 = .ok (.ireturn, 1) := by decide +kernel
theorem dX6_brings_0 : decode cX6_brings 0 = .ok (.aload_n 0, 1) := by decide +kernel
theorem dX6_brings_1 : decode cX6_brings 1 = .ok (.getfield 23, 3) := by decide +kernel
theorem dX6_brings_4 : decode cX6_brings 4 = .ok (.iload_n 1, 1) := by decide +kernel
theorem dX6_brings_5 : decode cX6_brings 5 = .ok (.invokevirtual 101, 3) := by decide +kernel
theorem dX6_brings_8 : decode cX6_brings 8 = .ok (.ifCond .ne 5, 3) := by decide +kernel
theorem dX6_brings_11 : decode cX6_brings 11 = .ok (.iconst (-1), 1) := by decide +kernel
theorem dX6_brings_12 : decode cX6_brings 12 = .ok (.ireturn, 1) := by decide +kernel
theorem dX6_brings_13 : decode cX6_brings 13 = .ok (.aload_n 0, 1) := by decide +kernel
theorem dX6_brings_14 : decode cX6_brings 14 = .ok (.getfield 31, 3) := by decide +kernel
theorem dX6_brings_17 : decode cX6_brings 17 = .ok (.iload_n 1, 1) := by decide +kernel
theorem dX6_brings_18 : decode cX6_brings 18 = .ok (.invokevirtual 119, 3) := by decide +kernel
theorem dX6_brings_21 : decode cX6_brings 21 = .ok (.ifCond .eq 6, 3) := by decide +kernel
theorem dX6_brings_24 : decode cX6_brings 24 = .ok (.bipush (-2), 2) := by decide +kernel
theorem dX6_brings_26 : decode cX6_brings 26 = .ok (.ireturn, 1) := by decide +kernel
theorem dX6_brings_27 : decode cX6_brings 27 = .ok (.aload_n 0, 1) := by decide +kernel
theorem dX6_brings_28 : decode cX6_brings 28 = .ok (.getfield 41, 3) := by decide +kernel
theorem dX6_brings_31 : decode cX6_brings 31 = .ok (.aload_n 0, 1) := by decide +kernel
theorem dX6_brings_32 : decode cX6_brings 32 = .ok (.getfield 31, 3) := by decide +kernel
theorem dX6_brings_35 : decode cX6_brings 35 = .ok (.invokevirtual 148, 3) := by decide +kernel
theorem dX6_brings_38 : decode cX6_brings 38 = .ok (.aload_n 0, 1) := by decide +kernel
theorem dX6_brings_39 : decode cX6_brings 39 = .ok (.getfield 31, 3) := by decide +kernel
theorem dX6_brings_42 : decode cX6_brings 42 = .ok (.dup, 1) := by decide +kernel
theorem dX6_brings_43 : decode cX6_brings 43 = .ok (.getfield 138, 3) := by decide +kernel
theorem dX6_brings_46 : decode cX6_brings 46 = .ok (.iconst 1, 1) := by decide +kernel
theorem dX6_brings_47 : decode cX6_brings 47 = .ok (.iload_n 1, 1) := by decide +kernel
theorem dX6_brings_48 : decode cX6_brings 48 = .ok (.ishl, 1) := by decide +kernel
theorem dX6_brings_49 : decode cX6_brings 49 = .ok (.ior, 1) := by decide +kernel
theorem dX6_brings_50 : decode cX6_brings 50 = .ok (.putfield 138, 3) := by decide +kernel
theorem dX6_brings_53 : decode cX6_brings 53 = .ok (.aload_n 0, 1) := by decide +kernel
theorem dX6_brings_54 : decode cX6_brings 54 = .ok (.getfield 31, 3) := by decide +kernel
theorem dX6_brings_57 : decode cX6_brings 57 = .ok (.getfield 138, 3) := by decide +kernel
theorem dX6_brings_60 : decode cX6_brings 60 = .ok (.invokestatic 156, 3) := by decide +kernel
theorem dX6_brings_63 : decode cX6_brings 63 = .ok (.ireturn, 1) := by decide +kernel
theorem dX6_hangs_0 : decode cX6_hangs 0 = .ok (.aload_n 0, 1) := by decide +kernel
theorem dX6_hangs_1 : decode cX6_hangs 1 = .ok (.getfield 23, 3) := by decide +kernel
theorem dX6_hangs_4 : decode cX6_hangs 4 = .ok (.iload_n 1, 1) := by decide +kernel
theorem dX6_hangs_5 : decode cX6_hangs 5 = .ok (.invokevirtual 101, 3) := by decide +kernel
theorem dX6_hangs_8 : decode cX6_hangs 8 = .ok (.ifCond .eq 19, 3) := by decide +kernel
theorem dX6_hangs_11 : decode cX6_hangs 11 = .ok (.aload_n 0, 1) := by decide +kernel
theorem dX6_hangs_12 : decode cX6_hangs 12 = .ok (.getfield 23, 3) := by decide +kernel
theorem dX6_hangs_15 : decode cX6_hangs 15 = .ok (.iload_n 2, 1) := by decide +kernel
theorem dX6_hangs_16 : decode cX6_hangs 16 = .ok (.invokevirtual 101, 3) := by decide +kernel
theorem dX6_hangs_19 : decode cX6_hangs 19 = .ok (.ifCond .eq 8, 3) := by decide +kernel
theorem dX6_hangs_22 : decode cX6_hangs 22 = .ok (.iload_n 1, 1) := by decide +kernel
theorem dX6_hangs_23 : decode cX6_hangs 23 = .ok (.iload_n 2, 1) := by decide +kernel
theorem dX6_hangs_24 : decode cX6_hangs 24 = .ok (.if_icmp .ne 5, 3) := by decide +kernel
theorem dX6_hangs_27 : decode cX6_hangs 27 = .ok (.iconst (-1), 1) := by decide +kernel
theorem dX6_hangs_28 : decode cX6_hangs 28 = .ok (.ireturn, 1) := by decide +kernel
theorem dX6_hangs_29 : decode cX6_hangs 29 = .ok (.aload_n 0, 1) := by decide +kernel
theorem dX6_hangs_30 : decode cX6_hangs 30 = .ok (.getfield 31, 3) := by decide +kernel
theorem dX6_hangs_33 : decode cX6_hangs 33 = .ok (.getfield 116, 3) := by decide +kernel
theorem dX6_hangs_36 : decode cX6_hangs 36 = .ok (.iload_n 1, 1) := by decide +kernel
theorem dX6_hangs_37 : decode cX6_hangs 37 = .ok (.iaload, 1) := by decide +kernel
theorem dX6_hangs_38 : decode cX6_hangs 38 = .ok (.istore_n 3, 1) := by decide +kernel
theorem dX6_hangs_39 : decode cX6_hangs 39 = .ok (.aload_n 0, 1) := by decide +kernel
theorem dX6_hangs_40 : decode cX6_hangs 40 = .ok (.getfield 31, 3) := by decide +kernel
theorem dX6_hangs_43 : decode cX6_hangs 43 = .ok (.iload_n 1, 1) := by decide +kernel
theorem dX6_hangs_44 : decode cX6_hangs 44 = .ok (.invokevirtual 119, 3) := by decide +kernel
theorem dX6_hangs_47 : decode cX6_hangs 47 = .ok (.ifCond .ne 8, 3) := by decide +kernel
theorem dX6_hangs_50 : decode cX6_hangs 50 = .ok (.iload_n 3, 1) := by decide +kernel
theorem dX6_hangs_51 : decode cX6_hangs 51 = .ok (.iload_n 2, 1) := by decide +kernel
theorem dX6_hangs_52 : decode cX6_hangs 52 = .ok (.if_icmp .ne 6, 3) := by decide +kernel
theorem dX6_hangs_55 : decode cX6_hangs 55 = .ok (.bipush (-2), 2) := by decide +kernel
theorem dX6_hangs_57 : decode cX6_hangs 57 = .ok (.ireturn, 1) := by decide +kernel
theorem dX6_hangs_58 : decode cX6_hangs 58 = .ok (.aload_n 0, 1) := by decide +kernel
theorem dX6_hangs_59 : decode cX6_hangs 59 = .ok (.getfield 41, 3) := by decide +kernel
theorem dX6_hangs_62 : decode cX6_hangs 62 = .ok (.aload_n 0, 1) := by decide +kernel
theorem dX6_hangs_63 : decode cX6_hangs 63 = .ok (.getfield 31, 3) := by decide +kernel
theorem dX6_hangs_66 : decode cX6_hangs 66 = .ok (.invokevirtual 148, 3) := by decide +kernel
theorem dX6_hangs_69 : decode cX6_hangs 69 = .ok (.aload_n 0, 1) := by decide +kernel
theorem dX6_hangs_70 : decode cX6_hangs 70 = .ok (.getfield 31, 3) := by decide +kernel
theorem dX6_hangs_73 : decode cX6_hangs 73 = .ok (.getfield 116, 3) := by decide +kernel
theorem dX6_hangs_76 : decode cX6_hangs 76 = .ok (.iload_n 1, 1) := by decide +kernel
theorem dX6_hangs_77 : decode cX6_hangs 77 = .ok (.iload_n 2, 1) := by decide +kernel
theorem dX6_hangs_78 : decode cX6_hangs 78 = .ok (.iastore, 1) := by decide +kernel
theorem dX6_hangs_79 : decode cX6_hangs 79 = .ok (.iload_n 3, 1) := by decide +kernel
theorem dX6_hangs_80 : decode cX6_hangs 80 = .ok (.ireturn, 1) := by decide +kernel
theorem dX6_undo_0 : decode cX6_undo 0 = .ok (.aload_n 0, 1) := by decide +kernel
theorem dX6_undo_1 : decode cX6_undo 1 = .ok (.getfield 41, 3) := by decide +kernel
theorem dX6_undo_4 : decode cX6_undo 4 = .ok (.getfield 96, 3) := by decide +kernel
theorem dX6_undo_7 : decode cX6_undo 7 = .ok (.ifCond .ne 6, 3) := by decide +kernel
theorem dX6_undo_10 : decode cX6_undo 10 = .ok (.bipush (-2), 2) := by decide +kernel
theorem dX6_undo_12 : decode cX6_undo 12 = .ok (.ireturn, 1) := by decide +kernel
theorem dX6_undo_13 : decode cX6_undo 13 = .ok (.aload_n 0, 1) := by decide +kernel
theorem dX6_undo_14 : decode cX6_undo 14 = .ok (.getfield 41, 3) := by decide +kernel
theorem dX6_undo_17 : decode cX6_undo 17 = .ok (.aload_n 0, 1) := by decide +kernel
theorem dX6_undo_18 : decode cX6_undo 18 = .ok (.getfield 31, 3) := by decide +kernel
theorem dX6_undo_21 : decode cX6_undo 21 = .ok (.invokevirtual 161, 3) := by decide +kernel
theorem dX6_undo_24 : decode cX6_undo 24 = .ok (.aload_n 0, 1) := by decide +kernel
theorem dX6_undo_25 : decode cX6_undo 25 = .ok (.getfield 41, 3) := by decide +kernel
theorem dX6_undo_28 : decode cX6_undo 28 = .ok (.getfield 96, 3) := by decide +kernel
theorem dX6_undo_31 : decode cX6_undo 31 = .ok (.ireturn, 1) := by decide +kernel
theorem dX6_start_0 : decode cX6_start 0 = .ok (.iload_n 1, 1) := by decide +kernel
theorem dX6_start_1 : decode cX6_start 1 = .ok (.iconst 0, 1) := by decide +kernel
theorem dX6_start_2 : decode cX6_start 2 = .ok (.bipush 20, 2) := by decide +kernel
theorem dX6_start_4 : decode cX6_start 4 = .ok (.invokestatic 71, 3) := by decide +kernel
theorem dX6_start_7 : decode cX6_start 7 = .ok (.ifCond .ne 5, 3) := by decide +kernel
theorem dX6_start_10 : decode cX6_start 10 = .ok (.iconst (-1), 1) := by decide +kernel
theorem dX6_start_11 : decode cX6_start 11 = .ok (.ireturn, 1) := by decide +kernel
theorem dX6_start_12 : decode cX6_start 12 = .ok (.aload_n 0, 1) := by decide +kernel
theorem dX6_start_13 : decode cX6_start 13 = .ok (.getfield 23, 3) := by decide +kernel
theorem dX6_start_16 : decode cX6_start 16 = .ok (.invokevirtual 145, 3) := by decide +kernel
theorem dX6_start_19 : decode cX6_start 19 = .ok (.istore_n 2, 1) := by decide +kernel
theorem dX6_start_20 : decode cX6_start 20 = .ok (.iload_n 2, 1) := by decide +kernel
theorem dX6_start_21 : decode cX6_start 21 = .ok (.aload_n 0, 1) := by decide +kernel
theorem dX6_start_22 : decode cX6_start 22 = .ok (.getfield 31, 3) := by decide +kernel
theorem dX6_start_25 : decode cX6_start 25 = .ok (.getfield 138, 3) := by decide +kernel
theorem dX6_start_28 : decode cX6_start 28 = .ok (.iconst (-1), 1) := by decide +kernel
theorem dX6_start_29 : decode cX6_start 29 = .ok (.ixor, 1) := by decide +kernel
theorem dX6_start_30 : decode cX6_start 30 = .ok (.iand, 1) := by decide +kernel
theorem dX6_start_31 : decode cX6_start 31 = .ok (.istore_n 3, 1) := by decide +kernel
theorem dX6_start_32 : decode cX6_start 32 = .ok (.iconst 0, 1) := by decide +kernel
theorem dX6_start_33 : decode cX6_start 33 = .ok (.istore 4, 2) := by decide +kernel
theorem dX6_start_35 : decode cX6_start 35 = .ok (.iload 4, 2) := by decide +kernel
theorem dX6_start_37 : decode cX6_start 37 = .ok (.iload_n 2, 1) := by decide +kernel
theorem dX6_start_38 : decode cX6_start 38 = .ok (.if_icmp .gt 59, 3) := by decide +kernel
theorem dX6_start_41 : decode cX6_start 41 = .ok (.iload 4, 2) := by decide +kernel
theorem dX6_start_43 : decode cX6_start 43 = .ok (.invokestatic 156, 3) := by decide +kernel
theorem dX6_start_46 : decode cX6_start 46 = .ok (.iload_n 3, 1) := by decide +kernel
theorem dX6_start_47 : decode cX6_start 47 = .ok (.invokestatic 156, 3) := by decide +kernel
theorem dX6_start_50 : decode cX6_start 50 = .ok (.if_icmp .ge 7, 3) := by decide +kernel
theorem dX6_start_53 : decode cX6_start 53 = .ok (.iconst 1, 1) := by decide +kernel
theorem dX6_start_54 : decode cX6_start 54 = .ok (.goto 4, 3) := by decide +kernel
theorem dX6_start_57 : decode cX6_start 57 = .ok (.iconst 0, 1) := by decide +kernel
theorem dX6_start_58 : decode cX6_start 58 = .ok (.istore 5, 2) := by decide +kernel
theorem dX6_start_60 : decode cX6_start 60 = .ok (.iload 5, 2) := by decide +kernel
theorem dX6_start_62 : decode cX6_start 62 = .ok (.ifCond .eq 29, 3) := by decide +kernel
theorem dX6_start_65 : decode cX6_start 65 = .ok (.iload 4, 2) := by decide +kernel
theorem dX6_start_67 : decode cX6_start 67 = .ok (.aload_n 0, 1) := by decide +kernel
theorem dX6_start_68 : decode cX6_start 68 = .ok (.getfield 31, 3) := by decide +kernel
theorem dX6_start_71 : decode cX6_start 71 = .ok (.getfield 138, 3) := by decide +kernel
theorem dX6_start_74 : decode cX6_start 74 = .ok (.iand, 1) := by decide +kernel
theorem dX6_start_75 : decode cX6_start 75 = .ok (.ifCond .ne 16, 3) := by decide +kernel
theorem dX6_start_78 : decode cX6_start 78 = .ok (.aload_n 0, 1) := by decide +kernel
theorem dX6_start_79 : decode cX6_start 79 = .ok (.iload_n 1, 1) := by decide +kernel
theorem dX6_start_80 : decode cX6_start 80 = .ok (.iload 4, 2) := by decide +kernel
theorem dX6_start_82 : decode cX6_start 82 = .ok (.invokevirtual 164, 3) := by decide +kernel
theorem dX6_start_85 : decode cX6_start 85 = .ok (.ifCond .eq 6, 3) := by decide +kernel
theorem dX6_start_88 : decode cX6_start 88 = .ok (.iload 4, 2) := by decide +kernel
theorem dX6_start_90 : decode cX6_start 90 = .ok (.istore_n 3, 1) := by decide +kernel
theorem dX6_start_91 : decode cX6_start 91 = .ok (.iinc 4 1, 3) := by decide +kernel
theorem dX6_start_94 : decode cX6_start 94 = .ok (.goto (-59), 3) := by decide +kernel
theorem dX6_start_97 : decode cX6_start 97 = .ok (.iload_n 3, 1) := by decide +kernel
theorem dX6_start_98 : decode cX6_start 98 = .ok (.ireturn, 1) := by decide +kernel
theorem dX6_hang_0 : decode cX6_hang 0 = .ok (.iload_n 1, 1) := by decide +kernel
theorem dX6_hang_1 : decode cX6_hang 1 = .ok (.iconst (-1), 1) := by decide +kernel
theorem dX6_hang_2 : decode cX6_hang 2 = .ok (.if_icmp .eq 16, 3) := by decide +kernel
theorem dX6_hang_5 : decode cX6_hang 5 = .ok (.aload_n 0, 1) := by decide +kernel
theorem dX6_hang_6 : decode cX6_hang 6 = .ok (.getfield 23, 3) := by decide +kernel
theorem dX6_hang_9 : decode cX6_hang 9 = .ok (.iload_n 1, 1) := by decide +kernel
theorem dX6_hang_10 : decode cX6_hang 10 = .ok (.invokevirtual 101, 3) := by decide +kernel
theorem dX6_hang_13 : decode cX6_hang 13 = .ok (.ifCond .ne 5, 3) := by decide +kernel
theorem dX6_hang_16 : decode cX6_hang 16 = .ok (.iconst (-1), 1) := by decide +kernel
theorem dX6_hang_17 : decode cX6_hang 17 = .ok (.ireturn, 1) := by decide +kernel
theorem dX6_hang_18 : decode cX6_hang 18 = .ok (.aload_n 0, 1) := by decide +kernel
theorem dX6_hang_19 : decode cX6_hang 19 = .ok (.getfield 23, 3) := by decide +kernel
theorem dX6_hang_22 : decode cX6_hang 22 = .ok (.getfield 100, 3) := by decide +kernel
theorem dX6_hang_25 : decode cX6_hang 25 = .ok (.ifCond .ne 6, 3) := by decide +kernel
theorem dX6_hang_28 : decode cX6_hang 28 = .ok (.bipush (-9), 2) := by decide +kernel
theorem dX6_hang_30 : decode cX6_hang 30 = .ok (.ireturn, 1) := by decide +kernel
theorem dX6_hang_31 : decode cX6_hang 31 = .ok (.aload_n 0, 1) := by decide +kernel
theorem dX6_hang_32 : decode cX6_hang 32 = .ok (.getfield 56, 3) := by decide +kernel
theorem dX6_hang_35 : decode cX6_hang 35 = .ok (.invokevirtual 168, 3) := by decide +kernel
theorem dX6_hang_38 : decode cX6_hang 38 = .ok (.iload_n 1, 1) := by decide +kernel
theorem dX6_hang_39 : decode cX6_hang 39 = .ok (.iconst (-1), 1) := by decide +kernel
theorem dX6_hang_40 : decode cX6_hang 40 = .ok (.if_icmp .ne 13, 3) := by decide +kernel
theorem dX6_hang_43 : decode cX6_hang 43 = .ok (.aload_n 0, 1) := by decide +kernel
theorem dX6_hang_44 : decode cX6_hang 44 = .ok (.getfield 56, 3) := by decide +kernel
theorem dX6_hang_47 : decode cX6_hang 47 = .ok (.getfield 171, 3) := by decide +kernel
theorem dX6_hang_50 : decode cX6_hang 50 = .ok (.goto 12, 3) := by decide +kernel
theorem dX6_hang_53 : decode cX6_hang 53 = .ok (.aload_n 0, 1) := by decide +kernel
theorem dX6_hang_54 : decode cX6_hang 54 = .ok (.getfield 56, 3) := by decide +kernel
theorem dX6_hang_57 : decode cX6_hang 57 = .ok (.getfield 174, 3) := by decide +kernel
theorem dX6_hang_60 : decode cX6_hang 60 = .ok (.iload_n 1, 1) := by decide +kernel
theorem dX6_hang_61 : decode cX6_hang 61 = .ok (.iaload, 1) := by decide +kernel
theorem dX6_hang_62 : decode cX6_hang 62 = .ok (.ireturn, 1) := by decide +kernel
theorem dX6_odds_0 : decode cX6_odds 0 = .ok (.aload_n 0, 1) := by decide +kernel
theorem dX6_odds_1 : decode cX6_odds 1 = .ok (.getfield 23, 3) := by decide +kernel
theorem dX6_odds_4 : decode cX6_odds 4 = .ok (.iload_n 1, 1) := by decide +kernel
theorem dX6_odds_5 : decode cX6_odds 5 = .ok (.invokevirtual 101, 3) := by decide +kernel
theorem dX6_odds_8 : decode cX6_odds 8 = .ok (.ifCond .eq 33, 3) := by decide +kernel
theorem dX6_odds_11 : decode cX6_odds 11 = .ok (.iload_n 2, 1) := by decide +kernel
theorem dX6_odds_12 : decode cX6_odds 12 = .ok (.iconst 0, 1) := by decide +kernel
theorem dX6_odds_13 : decode cX6_odds 13 = .ok (.bipush 10, 2) := by decide +kernel
theorem dX6_odds_15 : decode cX6_odds 15 = .ok (.invokestatic 71, 3) := by decide +kernel
theorem dX6_odds_18 : decode cX6_odds 18 = .ok (.ifCond .eq 23, 3) := by decide +kernel
theorem dX6_odds_21 : decode cX6_odds 21 = .ok (.iload_n 3, 1) := by decide +kernel
theorem dX6_odds_22 : decode cX6_odds 22 = .ok (.iconst 0, 1) := by decide +kernel
theorem dX6_odds_23 : decode cX6_odds 23 = .ok (.bipush 8, 2) := by decide +kernel
theorem dX6_odds_25 : decode cX6_odds 25 = .ok (.invokestatic 71, 3) := by decide +kernel
theorem dX6_odds_28 : decode cX6_odds 28 = .ok (.ifCond .eq 13, 3) := by decide +kernel
theorem dX6_odds_31 : decode cX6_odds 31 = .ok (.iload 4, 2) := by decide +kernel
theorem dX6_odds_33 : decode cX6_odds 33 = .ok (.iconst 0, 1) := by decide +kernel
theorem dX6_odds_34 : decode cX6_odds 34 = .ok (.iconst 1, 1) := by decide +kernel
theorem dX6_odds_35 : decode cX6_odds 35 = .ok (.invokestatic 71, 3) := by decide +kernel
theorem dX6_odds_38 : decode cX6_odds 38 = .ok (.ifCond .ne 5, 3) := by decide +kernel
theorem dX6_odds_41 : decode cX6_odds 41 = .ok (.iconst (-1), 1) := by decide +kernel
theorem dX6_odds_42 : decode cX6_odds 42 = .ok (.ireturn, 1) := by decide +kernel
theorem dX6_odds_43 : decode cX6_odds 43 = .ok (.aload_n 0, 1) := by decide +kernel
theorem dX6_odds_44 : decode cX6_odds 44 = .ok (.iload_n 2, 1) := by decide +kernel
theorem dX6_odds_45 : decode cX6_odds 45 = .ok (.iload_n 3, 1) := by decide +kernel
theorem dX6_odds_46 : decode cX6_odds 46 = .ok (.invokevirtual 175, 3) := by decide +kernel
theorem dX6_odds_49 : decode cX6_odds 49 = .ok (.aload_n 0, 1) := by decide +kernel
theorem dX6_odds_50 : decode cX6_odds 50 = .ok (.getfield 31, 3) := by decide +kernel
theorem dX6_odds_53 : decode cX6_odds 53 = .ok (.getfield 107, 3) := by decide +kernel
theorem dX6_odds_56 : decode cX6_odds 56 = .ok (.iload_n 1, 1) := by decide +kernel
theorem dX6_odds_57 : decode cX6_odds 57 = .ok (.iaload, 1) := by decide +kernel
theorem dX6_odds_58 : decode cX6_odds 58 = .ok (.istore 5, 2) := by decide +kernel
theorem dX6_odds_60 : decode cX6_odds 60 = .ok (.iload 5, 2) := by decide +kernel
theorem dX6_odds_62 : decode cX6_odds 62 = .ok (.iload_n 3, 1) := by decide +kernel
theorem dX6_odds_63 : decode cX6_odds 63 = .ok (.if_icmp .le 7, 3) := by decide +kernel
theorem dX6_odds_66 : decode cX6_odds 66 = .ok (.iconst 0, 1) := by decide +kernel
theorem dX6_odds_67 : decode cX6_odds 67 = .ok (.goto 10, 3) := by decide +kernel
theorem dX6_odds_70 : decode cX6_odds 70 = .ok (.aload_n 0, 1) := by decide +kernel
theorem dX6_odds_71 : decode cX6_odds 71 = .ok (.getfield 67, 3) := by decide +kernel
theorem dX6_odds_74 : decode cX6_odds 74 = .ok (.iload 5, 2) := by decide +kernel
theorem dX6_odds_76 : decode cX6_odds 76 = .ok (.iaload, 1) := by decide +kernel
theorem dX6_odds_77 : decode cX6_odds 77 = .ok (.istore 6, 2) := by decide +kernel
theorem dX6_odds_79 : decode cX6_odds 79 = .ok (.aload_n 0, 1) := by decide +kernel
theorem dX6_odds_80 : decode cX6_odds 80 = .ok (.getfield 67, 3) := by decide +kernel
theorem dX6_odds_83 : decode cX6_odds 83 = .ok (.iconst 0, 1) := by decide +kernel
theorem dX6_odds_84 : decode cX6_odds 84 = .ok (.iaload, 1) := by decide +kernel
theorem dX6_odds_85 : decode cX6_odds 85 = .ok (.istore 7, 2) := by decide +kernel
theorem dX6_odds_87 : decode cX6_odds 87 = .ok (.iload 7, 2) := by decide +kernel
theorem dX6_odds_89 : decode cX6_odds 89 = .ok (.iload 6, 2) := by decide +kernel
theorem dX6_odds_91 : decode cX6_odds 91 = .ok (.invokestatic 179, 3) := by decide +kernel
theorem dX6_odds_94 : decode cX6_odds 94 = .ok (.istore 8, 2) := by decide +kernel
theorem dX6_odds_96 : decode cX6_odds 96 = .ok (.iload 4, 2) := by decide +kernel
theorem dX6_odds_98 : decode cX6_odds 98 = .ok (.ifCond .ne 8, 3) := by decide +kernel
theorem dX6_odds_101 : decode cX6_odds 101 = .ok (.iload 6, 2) := by decide +kernel
theorem dX6_odds_103 : decode cX6_odds 103 = .ok (.goto 5, 3) := by decide +kernel
theorem dX6_odds_106 : decode cX6_odds 106 = .ok (.iload 7, 2) := by decide +kernel
theorem dX6_odds_108 : decode cX6_odds 108 = .ok (.iload 8, 2) := by decide +kernel
theorem dX6_odds_110 : decode cX6_odds 110 = .ok (.idiv, 1) := by decide +kernel
theorem dX6_odds_111 : decode cX6_odds 111 = .ok (.ireturn, 1) := by decide +kernel
theorem dX6_sees_0 : decode cX6_sees 0 = .ok (.iload_n 1, 1) := by decide +kernel
theorem dX6_sees_1 : decode cX6_sees 1 = .ok (.iconst 0, 1) := by decide +kernel
theorem dX6_sees_2 : decode cX6_sees 2 = .ok (.bipush 20, 2) := by decide +kernel
theorem dX6_sees_4 : decode cX6_sees 4 = .ok (.invokestatic 71, 3) := by decide +kernel
theorem dX6_sees_7 : decode cX6_sees 7 = .ok (.ifCond .eq 22, 3) := by decide +kernel
theorem dX6_sees_10 : decode cX6_sees 10 = .ok (.iload_n 2, 1) := by decide +kernel
theorem dX6_sees_11 : decode cX6_sees 11 = .ok (.iconst 0, 1) := by decide +kernel
theorem dX6_sees_12 : decode cX6_sees 12 = .ok (.bipush 6, 2) := by decide +kernel
theorem dX6_sees_14 : decode cX6_sees 14 = .ok (.invokestatic 71, 3) := by decide +kernel
theorem dX6_sees_17 : decode cX6_sees 17 = .ok (.ifCond .eq 12, 3) := by decide +kernel
theorem dX6_sees_20 : decode cX6_sees 20 = .ok (.iload_n 3, 1) := by decide +kernel
theorem dX6_sees_21 : decode cX6_sees 21 = .ok (.iconst 0, 1) := by decide +kernel
theorem dX6_sees_22 : decode cX6_sees 22 = .ok (.iconst 1, 1) := by decide +kernel
theorem dX6_sees_23 : decode cX6_sees 23 = .ok (.invokestatic 71, 3) := by decide +kernel
theorem dX6_sees_26 : decode cX6_sees 26 = .ok (.ifCond .ne 5, 3) := by decide +kernel
theorem dX6_sees_29 : decode cX6_sees 29 = .ok (.iconst (-1), 1) := by decide +kernel
theorem dX6_sees_30 : decode cX6_sees 30 = .ok (.ireturn, 1) := by decide +kernel
theorem dX6_sees_31 : decode cX6_sees 31 = .ok (.aload_n 0, 1) := by decide +kernel
theorem dX6_sees_32 : decode cX6_sees 32 = .ok (.getfield 63, 3) := by decide +kernel
theorem dX6_sees_35 : decode cX6_sees 35 = .ok (.getfield 183, 3) := by decide +kernel
theorem dX6_sees_38 : decode cX6_sees 38 = .ok (.bipush 6, 2) := by decide +kernel
theorem dX6_sees_40 : decode cX6_sees 40 = .ok (.if_icmp .lt 6, 3) := by decide +kernel
theorem dX6_sees_43 : decode cX6_sees 43 = .ok (.bipush (-3), 2) := by decide +kernel
theorem dX6_sees_45 : decode cX6_sees 45 = .ok (.ireturn, 1) := by decide +kernel
theorem dX6_sees_46 : decode cX6_sees 46 = .ok (.aload_n 0, 1) := by decide +kernel
theorem dX6_sees_47 : decode cX6_sees 47 = .ok (.getfield 63, 3) := by decide +kernel
theorem dX6_sees_50 : decode cX6_sees 50 = .ok (.iload_n 1, 1) := by decide +kernel
theorem dX6_sees_51 : decode cX6_sees 51 = .ok (.iload_n 2, 1) := by decide +kernel
theorem dX6_sees_52 : decode cX6_sees 52 = .ok (.iload_n 3, 1) := by decide +kernel
theorem dX6_sees_53 : decode cX6_sees 53 = .ok (.iconst 1, 1) := by decide +kernel
theorem dX6_sees_54 : decode cX6_sees 54 = .ok (.if_icmp .ne 7, 3) := by decide +kernel
theorem dX6_sees_57 : decode cX6_sees 57 = .ok (.iconst 1, 1) := by decide +kernel
theorem dX6_sees_58 : decode cX6_sees 58 = .ok (.goto 4, 3) := by decide +kernel
theorem dX6_sees_61 : decode cX6_sees 61 = .ok (.iconst 0, 1) := by decide +kernel
theorem dX6_sees_62 : decode cX6_sees 62 = .ok (.invokevirtual 186, 3) := by decide +kernel
theorem dX6_sees_65 : decode cX6_sees 65 = .ok (.aload_n 0, 1) := by decide +kernel
theorem dX6_sees_66 : decode cX6_sees 66 = .ok (.getfield 63, 3) := by decide +kernel
theorem dX6_sees_69 : decode cX6_sees 69 = .ok (.getfield 183, 3) := by decide +kernel
theorem dX6_sees_72 : decode cX6_sees 72 = .ok (.ireturn, 1) := by decide +kernel
theorem dX6_forget_0 : decode cX6_forget 0 = .ok (.aload_n 0, 1) := by decide +kernel
theorem dX6_forget_1 : decode cX6_forget 1 = .ok (.getfield 63, 3) := by decide +kernel
theorem dX6_forget_4 : decode cX6_forget 4 = .ok (.getfield 183, 3) := by decide +kernel
theorem dX6_forget_7 : decode cX6_forget 7 = .ok (.istore_n 1, 1) := by decide +kernel
theorem dX6_forget_8 : decode cX6_forget 8 = .ok (.aload_n 0, 1) := by decide +kernel
theorem dX6_forget_9 : decode cX6_forget 9 = .ok (.getfield 63, 3) := by decide +kernel
theorem dX6_forget_12 : decode cX6_forget 12 = .ok (.invokevirtual 99, 3) := by decide +kernel
theorem dX6_forget_15 : decode cX6_forget 15 = .ok (.iload_n 1, 1) := by decide +kernel
theorem dX6_forget_16 : decode cX6_forget 16 = .ok (.ireturn, 1) := by decide +kernel
theorem dX6_ones_0 : decode cX6_ones 0 = .ok (.iload_n 1, 1) := by decide +kernel
theorem dX6_ones_1 : decode cX6_ones 1 = .ok (.tableswitch 54 0 2 #[27, 38, 46], 27) := by decide +kernel
theorem dX6_ones_28 : decode cX6_ones 28 = .ok (.aload_n 0, 1) := by decide +kernel
theorem dX6_ones_29 : decode cX6_ones 29 = .ok (.getfield 63, 3) := by decide +kernel
theorem dX6_ones_32 : decode cX6_ones 32 = .ok (.iconst 0, 1) := by decide +kernel
theorem dX6_ones_33 : decode cX6_ones 33 = .ok (.bipush 20, 2) := by decide +kernel
theorem dX6_ones_35 : decode cX6_ones 35 = .ok (.invokevirtual 190, 3) := by decide +kernel
theorem dX6_ones_38 : decode cX6_ones 38 = .ok (.ireturn, 1) := by decide +kernel
theorem dX6_ones_39 : decode cX6_ones 39 = .ok (.aload_n 0, 1) := by decide +kernel
theorem dX6_ones_40 : decode cX6_ones 40 = .ok (.getfield 63, 3) := by decide +kernel
theorem dX6_ones_43 : decode cX6_ones 43 = .ok (.invokevirtual 193, 3) := by decide +kernel
theorem dX6_ones_46 : decode cX6_ones 46 = .ok (.ireturn, 1) := by decide +kernel
theorem dX6_ones_47 : decode cX6_ones 47 = .ok (.aload_n 0, 1) := by decide +kernel
theorem dX6_ones_48 : decode cX6_ones 48 = .ok (.getfield 63, 3) := by decide +kernel
theorem dX6_ones_51 : decode cX6_ones 51 = .ok (.invokevirtual 196, 3) := by decide +kernel
theorem dX6_ones_54 : decode cX6_ones 54 = .ok (.ireturn, 1) := by decide +kernel
theorem dX6_ones_55 : decode cX6_ones 55 = .ok (.iconst (-1), 1) := by decide +kernel
theorem dX6_ones_56 : decode cX6_ones 56 = .ok (.ireturn, 1) := by decide +kernel
theorem dX6_look_0 : decode cX6_look 0 = .ok (.iload_n 1, 1) := by decide +kernel
theorem dX6_look_1 : decode cX6_look 1 = .ok (.iconst 0, 1) := by decide +kernel
theorem dX6_look_2 : decode cX6_look 2 = .ok (.bipush 20, 2) := by decide +kernel
theorem dX6_look_4 : decode cX6_look 4 = .ok (.invokestatic 71, 3) := by decide +kernel
theorem dX6_look_7 : decode cX6_look 7 = .ok (.ifCond .ne 5, 3) := by decide +kernel
theorem dX6_look_10 : decode cX6_look 10 = .ok (.iconst (-1), 1) := by decide +kernel
theorem dX6_look_11 : decode cX6_look 11 = .ok (.ireturn, 1) := by decide +kernel
theorem dX6_look_12 : decode cX6_look 12 = .ok (.aload_n 0, 1) := by decide +kernel
theorem dX6_look_13 : decode cX6_look 13 = .ok (.getfield 63, 3) := by decide +kernel
theorem dX6_look_16 : decode cX6_look 16 = .ok (.iload_n 1, 1) := by decide +kernel
theorem dX6_look_17 : decode cX6_look 17 = .ok (.invokevirtual 199, 3) := by decide +kernel
theorem dX6_look_20 : decode cX6_look 20 = .ok (.ireturn, 1) := by decide +kernel
theorem dX6_rate_0 : decode cX6_rate 0 = .ok (.aload_n 0, 1) := by decide +kernel
theorem dX6_rate_1 : decode cX6_rate 1 = .ok (.getfield 23, 3) := by decide +kernel
theorem dX6_rate_4 : decode cX6_rate 4 = .ok (.iload_n 2, 1) := by decide +kernel
theorem dX6_rate_5 : decode cX6_rate 5 = .ok (.invokevirtual 101, 3) := by decide +kernel
theorem dX6_rate_8 : decode cX6_rate 8 = .ok (.ifCond .ne 6, 3) := by decide +kernel
theorem dX6_rate_11 : decode cX6_rate 11 = .ok (.ldc 202, 2) := by decide +kernel
theorem dX6_rate_13 : decode cX6_rate 13 = .ok (.ireturn, 1) := by decide +kernel
theorem dX6_rate_14 : decode cX6_rate 14 = .ok (.iload_n 1, 1) := by decide +kernel
theorem dX6_rate_15 : decode cX6_rate 15 = .ok (.tableswitch 73 0 5 #[37, 43, 49, 55, 61, 67], 37) := by decide +kernel
theorem dX6_rate_52 : decode cX6_rate 52 = .ok (.aload_n 0, 1) := by decide +kernel
theorem dX6_rate_53 : decode cX6_rate 53 = .ok (.iload_n 2, 1) := by decide +kernel
theorem dX6_rate_54 : decode cX6_rate 54 = .ok (.invokevirtual 203, 3) := by decide +kernel
theorem dX6_rate_57 : decode cX6_rate 57 = .ok (.ireturn, 1) := by decide +kernel
theorem dX6_rate_58 : decode cX6_rate 58 = .ok (.aload_n 0, 1) := by decide +kernel
theorem dX6_rate_59 : decode cX6_rate 59 = .ok (.iload_n 2, 1) := by decide +kernel
theorem dX6_rate_60 : decode cX6_rate 60 = .ok (.invokevirtual 206, 3) := by decide +kernel
theorem dX6_rate_63 : decode cX6_rate 63 = .ok (.ireturn, 1) := by decide +kernel
theorem dX6_rate_64 : decode cX6_rate 64 = .ok (.aload_n 0, 1) := by decide +kernel
theorem dX6_rate_65 : decode cX6_rate 65 = .ok (.iload_n 2, 1) := by decide +kernel
theorem dX6_rate_66 : decode cX6_rate 66 = .ok (.invokevirtual 209, 3) := by decide +kernel
theorem dX6_rate_69 : decode cX6_rate 69 = .ok (.ireturn, 1) := by decide +kernel
theorem dX6_rate_70 : decode cX6_rate 70 = .ok (.aload_n 0, 1) := by decide +kernel
theorem dX6_rate_71 : decode cX6_rate 71 = .ok (.iload_n 2, 1) := by decide +kernel
theorem dX6_rate_72 : decode cX6_rate 72 = .ok (.invokevirtual 212, 3) := by decide +kernel
theorem dX6_rate_75 : decode cX6_rate 75 = .ok (.ireturn, 1) := by decide +kernel
theorem dX6_rate_76 : decode cX6_rate 76 = .ok (.aload_n 0, 1) := by decide +kernel
theorem dX6_rate_77 : decode cX6_rate 77 = .ok (.iload_n 2, 1) := by decide +kernel
theorem dX6_rate_78 : decode cX6_rate 78 = .ok (.invokevirtual 215, 3) := by decide +kernel
theorem dX6_rate_81 : decode cX6_rate 81 = .ok (.ireturn, 1) := by decide +kernel
theorem dX6_rate_82 : decode cX6_rate 82 = .ok (.aload_n 0, 1) := by decide +kernel
theorem dX6_rate_83 : decode cX6_rate 83 = .ok (.iload_n 2, 1) := by decide +kernel
theorem dX6_rate_84 : decode cX6_rate 84 = .ok (.invokevirtual 218, 3) := by decide +kernel
theorem dX6_rate_87 : decode cX6_rate 87 = .ok (.ireturn, 1) := by decide +kernel
theorem dX6_rate_88 : decode cX6_rate 88 = .ok (.ldc 202, 2) := by decide +kernel
theorem dX6_rate_90 : decode cX6_rate 90 = .ok (.ireturn, 1) := by decide +kernel
theorem dX6_keep_0 : decode cX6_keep 0 = .ok (.iload_n 1, 1) := by decide +kernel
theorem dX6_keep_1 : decode cX6_keep 1 = .ok (.iconst 0, 1) := by decide +kernel
theorem dX6_keep_2 : decode cX6_keep 2 = .ok (.iconst 1, 1) := by decide +kernel
theorem dX6_keep_3 : decode cX6_keep 3 = .ok (.invokestatic 71, 3) := by decide +kernel
theorem dX6_keep_6 : decode cX6_keep 6 = .ok (.ifCond .ne 5, 3) := by decide +kernel
theorem dX6_keep_9 : decode cX6_keep 9 = .ok (.iconst (-1), 1) := by decide +kernel
theorem dX6_keep_10 : decode cX6_keep 10 = .ok (.ireturn, 1) := by decide +kernel
theorem dX6_keep_11 : decode cX6_keep 11 = .ok (.aload_n 0, 1) := by decide +kernel
theorem dX6_keep_12 : decode cX6_keep 12 = .ok (.getfield 45, 3) := by decide +kernel
theorem dX6_keep_15 : decode cX6_keep 15 = .ok (.iload_n 1, 1) := by decide +kernel
theorem dX6_keep_16 : decode cX6_keep 16 = .ok (.aaload, 1) := by decide +kernel
theorem dX6_keep_17 : decode cX6_keep 17 = .ok (.aload_n 0, 1) := by decide +kernel
theorem dX6_keep_18 : decode cX6_keep 18 = .ok (.getfield 31, 3) := by decide +kernel
theorem dX6_keep_21 : decode cX6_keep 21 = .ok (.invokevirtual 221, 3) := by decide +kernel
theorem dX6_keep_24 : decode cX6_keep 24 = .ok (.aload_n 0, 1) := by decide +kernel
theorem dX6_keep_25 : decode cX6_keep 25 = .ok (.getfield 49, 3) := by decide +kernel
theorem dX6_keep_28 : decode cX6_keep 28 = .ok (.iload_n 1, 1) := by decide +kernel
theorem dX6_keep_29 : decode cX6_keep 29 = .ok (.iconst 1, 1) := by decide +kernel
theorem dX6_keep_30 : decode cX6_keep 30 = .ok (.bastore, 1) := by decide +kernel
theorem dX6_keep_31 : decode cX6_keep 31 = .ok (.aload_n 0, 1) := by decide +kernel
theorem dX6_keep_32 : decode cX6_keep 32 = .ok (.getfield 31, 3) := by decide +kernel
theorem dX6_keep_35 : decode cX6_keep 35 = .ok (.getfield 135, 3) := by decide +kernel
theorem dX6_keep_38 : decode cX6_keep 38 = .ok (.ireturn, 1) := by decide +kernel
theorem dX6_back_0 : decode cX6_back 0 = .ok (.iload_n 1, 1) := by decide +kernel
theorem dX6_back_1 : decode cX6_back 1 = .ok (.iconst 0, 1) := by decide +kernel
theorem dX6_back_2 : decode cX6_back 2 = .ok (.iconst 1, 1) := by decide +kernel
theorem dX6_back_3 : decode cX6_back 3 = .ok (.invokestatic 71, 3) := by decide +kernel
theorem dX6_back_6 : decode cX6_back 6 = .ok (.ifCond .ne 5, 3) := by decide +kernel
theorem dX6_back_9 : decode cX6_back 9 = .ok (.iconst (-1), 1) := by decide +kernel
theorem dX6_back_10 : decode cX6_back 10 = .ok (.ireturn, 1) := by decide +kernel
theorem dX6_back_11 : decode cX6_back 11 = .ok (.aload_n 0, 1) := by decide +kernel
theorem dX6_back_12 : decode cX6_back 12 = .ok (.getfield 49, 3) := by decide +kernel
theorem dX6_back_15 : decode cX6_back 15 = .ok (.iload_n 1, 1) := by decide +kernel
theorem dX6_back_16 : decode cX6_back 16 = .ok (.baload, 1) := by decide +kernel
theorem dX6_back_17 : decode cX6_back 17 = .ok (.ifCond .ne 6, 3) := by decide +kernel
theorem dX6_back_20 : decode cX6_back 20 = .ok (.bipush (-2), 2) := by decide +kernel
theorem dX6_back_22 : decode cX6_back 22 = .ok (.ireturn, 1) := by decide +kernel
theorem dX6_back_23 : decode cX6_back 23 = .ok (.aload_n 0, 1) := by decide +kernel
theorem dX6_back_24 : decode cX6_back 24 = .ok (.getfield 31, 3) := by decide +kernel
theorem dX6_back_27 : decode cX6_back 27 = .ok (.aload_n 0, 1) := by decide +kernel
theorem dX6_back_28 : decode cX6_back 28 = .ok (.getfield 45, 3) := by decide +kernel
theorem dX6_back_31 : decode cX6_back 31 = .ok (.iload_n 1, 1) := by decide +kernel
theorem dX6_back_32 : decode cX6_back 32 = .ok (.aaload, 1) := by decide +kernel
theorem dX6_back_33 : decode cX6_back 33 = .ok (.invokevirtual 221, 3) := by decide +kernel
theorem dX6_back_36 : decode cX6_back 36 = .ok (.aload_n 0, 1) := by decide +kernel
theorem dX6_back_37 : decode cX6_back 37 = .ok (.getfield 41, 3) := by decide +kernel
theorem dX6_back_40 : decode cX6_back 40 = .ok (.iconst 0, 1) := by decide +kernel
theorem dX6_back_41 : decode cX6_back 41 = .ok (.putfield 96, 3) := by decide +kernel
theorem dX6_back_44 : decode cX6_back 44 = .ok (.aload_n 0, 1) := by decide +kernel
theorem dX6_back_45 : decode cX6_back 45 = .ok (.getfield 31, 3) := by decide +kernel
theorem dX6_back_48 : decode cX6_back 48 = .ok (.getfield 135, 3) := by decide +kernel
theorem dX6_back_51 : decode cX6_back 51 = .ok (.ireturn, 1) := by decide +kernel
theorem dX6_count_0 : decode cX6_count 0 = .ok (.iload_n 1, 1) := by decide +kernel
theorem dX6_count_1 : decode cX6_count 1 = .ok (.tableswitch 51 0 2 #[27, 35, 43], 27) := by decide +kernel
theorem dX6_count_28 : decode cX6_count 28 = .ok (.aload_n 0, 1) := by decide +kernel
theorem dX6_count_29 : decode cX6_count 29 = .ok (.getfield 23, 3) := by decide +kernel
theorem dX6_count_32 : decode cX6_count 32 = .ok (.getfield 100, 3) := by decide +kernel
theorem dX6_count_35 : decode cX6_count 35 = .ok (.ireturn, 1) := by decide +kernel
theorem dX6_count_36 : decode cX6_count 36 = .ok (.aload_n 0, 1) := by decide +kernel
theorem dX6_count_37 : decode cX6_count 37 = .ok (.getfield 63, 3) := by decide +kernel
theorem dX6_count_40 : decode cX6_count 40 = .ok (.getfield 183, 3) := by decide +kernel
theorem dX6_count_43 : decode cX6_count 43 = .ok (.ireturn, 1) := by decide +kernel
theorem dX6_count_44 : decode cX6_count 44 = .ok (.aload_n 0, 1) := by decide +kernel
theorem dX6_count_45 : decode cX6_count 45 = .ok (.getfield 10, 3) := by decide +kernel
theorem dX6_count_48 : decode cX6_count 48 = .ok (.getfield 79, 3) := by decide +kernel
theorem dX6_count_51 : decode cX6_count 51 = .ok (.ireturn, 1) := by decide +kernel
theorem dX6_count_52 : decode cX6_count 52 = .ok (.iconst (-1), 1) := by decide +kernel
theorem dX6_count_53 : decode cX6_count 53 = .ok (.ireturn, 1) := by decide +kernel
theorem dX6_trace_0 : decode cX6_trace 0 = .ok (.aload_n 0, 1) := by decide +kernel
theorem dX6_trace_1 : decode cX6_trace 1 = .ok (.getfield 223, 3) := by decide +kernel
theorem dX6_trace_4 : decode cX6_trace 4 = .ok (.lreturn, 1) := by decide +kernel
theorem dX6_within_0 : decode cX6_within 0 = .ok (.iload_n 0, 1) := by decide +kernel
theorem dX6_within_1 : decode cX6_within 1 = .ok (.iload_n 1, 1) := by decide +kernel
theorem dX6_within_2 : decode cX6_within 2 = .ok (.if_icmp .lt 12, 3) := by decide +kernel
theorem dX6_within_5 : decode cX6_within 5 = .ok (.iload_n 0, 1) := by decide +kernel
theorem dX6_within_6 : decode cX6_within 6 = .ok (.iload_n 2, 1) := by decide +kernel
theorem dX6_within_7 : decode cX6_within 7 = .ok (.if_icmp .gt 7, 3) := by decide +kernel
theorem dX6_within_10 : decode cX6_within 10 = .ok (.iconst 1, 1) := by decide +kernel
theorem dX6_within_11 : decode cX6_within 11 = .ok (.goto 4, 3) := by decide +kernel
theorem dX6_within_14 : decode cX6_within 14 = .ok (.iconst 0, 1) := by decide +kernel
theorem dX6_within_15 : decode cX6_within 15 = .ok (.ireturn, 1) := by decide +kernel
theorem dX6_daysTillAsked_0 : decode cX6_daysTillAsked 0 = .ok (.aload_n 0, 1) := by decide +kernel
theorem dX6_daysTillAsked_1 : decode cX6_daysTillAsked 1 = .ok (.getfield 31, 3) := by decide +kernel
theorem dX6_daysTillAsked_4 : decode cX6_daysTillAsked 4 = .ok (.getfield 138, 3) := by decide +kernel
theorem dX6_daysTillAsked_7 : decode cX6_daysTillAsked 7 = .ok (.istore_n 2, 1) := by decide +kernel
theorem dX6_daysTillAsked_8 : decode cX6_daysTillAsked 8 = .ok (.iconst 0, 1) := by decide +kernel
theorem dX6_daysTillAsked_9 : decode cX6_daysTillAsked 9 = .ok (.istore_n 3, 1) := by decide +kernel
theorem dX6_daysTillAsked_10 : decode cX6_daysTillAsked 10 = .ok (.iload_n 3, 1) := by decide +kernel
theorem dX6_daysTillAsked_11 : decode cX6_daysTillAsked 11 = .ok (.bipush 60, 2) := by decide +kernel
theorem dX6_daysTillAsked_13 : decode cX6_daysTillAsked 13 = .ok (.if_icmp .gt 38, 3) := by decide +kernel
theorem dX6_daysTillAsked_16 : decode cX6_daysTillAsked 16 = .ok (.iload_n 2, 1) := by decide +kernel
theorem dX6_daysTillAsked_17 : decode cX6_daysTillAsked 17 = .ok (.iload_n 1, 1) := by decide +kernel
theorem dX6_daysTillAsked_18 : decode cX6_daysTillAsked 18 = .ok (.ishr, 1) := by decide +kernel
theorem dX6_daysTillAsked_19 : decode cX6_daysTillAsked 19 = .ok (.iconst 1, 1) := by decide +kernel
theorem dX6_daysTillAsked_20 : decode cX6_daysTillAsked 20 = .ok (.iand, 1) := by decide +kernel
theorem dX6_daysTillAsked_21 : decode cX6_daysTillAsked 21 = .ok (.iconst 1, 1) := by decide +kernel
theorem dX6_daysTillAsked_22 : decode cX6_daysTillAsked 22 = .ok (.if_icmp .ne 5, 3) := by decide +kernel
theorem dX6_daysTillAsked_25 : decode cX6_daysTillAsked 25 = .ok (.iload_n 3, 1) := by decide +kernel
theorem dX6_daysTillAsked_26 : decode cX6_daysTillAsked 26 = .ok (.ireturn, 1) := by decide +kernel
theorem dX6_daysTillAsked_27 : decode cX6_daysTillAsked 27 = .ok (.aload_n 0, 1) := by decide +kernel
theorem dX6_daysTillAsked_28 : decode cX6_daysTillAsked 28 = .ok (.getfield 23, 3) := by decide +kernel
theorem dX6_daysTillAsked_31 : decode cX6_daysTillAsked 31 = .ok (.iload_n 2, 1) := by decide +kernel
theorem dX6_daysTillAsked_32 : decode cX6_daysTillAsked 32 = .ok (.aload_n 0, 1) := by decide +kernel
theorem dX6_daysTillAsked_33 : decode cX6_daysTillAsked 33 = .ok (.getfield 31, 3) := by decide +kernel
theorem dX6_daysTillAsked_36 : decode cX6_daysTillAsked 36 = .ok (.getfield 135, 3) := by decide +kernel
theorem dX6_daysTillAsked_39 : decode cX6_daysTillAsked 39 = .ok (.iload_n 3, 1) := by decide +kernel
theorem dX6_daysTillAsked_40 : decode cX6_daysTillAsked 40 = .ok (.iadd, 1) := by decide +kernel
theorem dX6_daysTillAsked_41 : decode cX6_daysTillAsked 41 = .ok (.invokevirtual 227, 3) := by decide +kernel
theorem dX6_daysTillAsked_44 : decode cX6_daysTillAsked 44 = .ok (.istore_n 2, 1) := by decide +kernel
theorem dX6_daysTillAsked_45 : decode cX6_daysTillAsked 45 = .ok (.iinc 3 1, 3) := by decide +kernel
theorem dX6_daysTillAsked_48 : decode cX6_daysTillAsked 48 = .ok (.goto (-38), 3) := by decide +kernel
theorem dX6_daysTillAsked_51 : decode cX6_daysTillAsked 51 = .ok (.bipush (-9), 2) := by decide +kernel
theorem dX6_daysTillAsked_53 : decode cX6_daysTillAsked 53 = .ok (.ireturn, 1) := by decide +kernel
theorem dX6_daysTillMown_0 : decode cX6_daysTillMown 0 = .ok (.aload_n 0, 1) := by decide +kernel
theorem dX6_daysTillMown_1 : decode cX6_daysTillMown 1 = .ok (.getfield 35, 3) := by decide +kernel
theorem dX6_daysTillMown_4 : decode cX6_daysTillMown 4 = .ok (.aload_n 0, 1) := by decide +kernel
theorem dX6_daysTillMown_5 : decode cX6_daysTillMown 5 = .ok (.getfield 31, 3) := by decide +kernel
theorem dX6_daysTillMown_8 : decode cX6_daysTillMown 8 = .ok (.invokevirtual 221, 3) := by decide +kernel
theorem dX6_daysTillMown_11 : decode cX6_daysTillMown 11 = .ok (.iconst 0, 1) := by decide +kernel
theorem dX6_daysTillMown_12 : decode cX6_daysTillMown 12 = .ok (.istore_n 2, 1) := by decide +kernel
theorem dX6_daysTillMown_13 : decode cX6_daysTillMown 13 = .ok (.iload_n 2, 1) := by decide +kernel
theorem dX6_daysTillMown_14 : decode cX6_daysTillMown 14 = .ok (.bipush 60, 2) := by decide +kernel
theorem dX6_daysTillMown_16 : decode cX6_daysTillMown 16 = .ok (.if_icmp .gt 31, 3) := by decide +kernel
theorem dX6_daysTillMown_19 : decode cX6_daysTillMown 19 = .ok (.aload_n 0, 1) := by decide +kernel
theorem dX6_daysTillMown_20 : decode cX6_daysTillMown 20 = .ok (.getfield 35, 3) := by decide +kernel
theorem dX6_daysTillMown_23 : decode cX6_daysTillMown 23 = .ok (.iload_n 1, 1) := by decide +kernel
theorem dX6_daysTillMown_24 : decode cX6_daysTillMown 24 = .ok (.invokevirtual 230, 3) := by decide +kernel
theorem dX6_daysTillMown_27 : decode cX6_daysTillMown 27 = .ok (.ifCond .eq 5, 3) := by decide +kernel
theorem dX6_daysTillMown_30 : decode cX6_daysTillMown 30 = .ok (.iload_n 2, 1) := by decide +kernel
theorem dX6_daysTillMown_31 : decode cX6_daysTillMown 31 = .ok (.ireturn, 1) := by decide +kernel
theorem dX6_daysTillMown_32 : decode cX6_daysTillMown 32 = .ok (.aload_n 0, 1) := by decide +kernel
theorem dX6_daysTillMown_33 : decode cX6_daysTillMown 33 = .ok (.getfield 35, 3) := by decide +kernel
theorem dX6_daysTillMown_36 : decode cX6_daysTillMown 36 = .ok (.iconst 1, 1) := by decide +kernel
theorem dX6_daysTillMown_37 : decode cX6_daysTillMown 37 = .ok (.invokevirtual 152, 3) := by decide +kernel
theorem dX6_daysTillMown_40 : decode cX6_daysTillMown 40 = .ok (.pop, 1) := by decide +kernel
theorem dX6_daysTillMown_41 : decode cX6_daysTillMown 41 = .ok (.iinc 2 1, 3) := by decide +kernel
theorem dX6_daysTillMown_44 : decode cX6_daysTillMown 44 = .ok (.goto (-31), 3) := by decide +kernel
theorem dX6_daysTillMown_47 : decode cX6_daysTillMown 47 = .ok (.bipush (-9), 2) := by decide +kernel
theorem dX6_daysTillMown_49 : decode cX6_daysTillMown 49 = .ok (.ireturn, 1) := by decide +kernel
theorem dX6_allAskBehind_0 : decode cX6_allAskBehind 0 = .ok (.aload_n 0, 1) := by decide +kernel
theorem dX6_allAskBehind_1 : decode cX6_allAskBehind 1 = .ok (.getfield 31, 3) := by decide +kernel
theorem dX6_allAskBehind_4 : decode cX6_allAskBehind 4 = .ok (.getfield 138, 3) := by decide +kernel
theorem dX6_allAskBehind_7 : decode cX6_allAskBehind 7 = .ok (.iload_n 2, 1) := by decide +kernel
theorem dX6_allAskBehind_8 : decode cX6_allAskBehind 8 = .ok (.ior, 1) := by decide +kernel
theorem dX6_allAskBehind_9 : decode cX6_allAskBehind 9 = .ok (.istore_n 3, 1) := by decide +kernel
theorem dX6_allAskBehind_10 : decode cX6_allAskBehind 10 = .ok (.iconst 0, 1) := by decide +kernel
theorem dX6_allAskBehind_11 : decode cX6_allAskBehind 11 = .ok (.istore 4, 2) := by decide +kernel
theorem dX6_allAskBehind_13 : decode cX6_allAskBehind 13 = .ok (.iload 4, 2) := by decide +kernel
theorem dX6_allAskBehind_15 : decode cX6_allAskBehind 15 = .ok (.iload_n 1, 1) := by decide +kernel
theorem dX6_allAskBehind_16 : decode cX6_allAskBehind 16 = .ok (.if_icmp .ge 28, 3) := by decide +kernel
theorem dX6_allAskBehind_19 : decode cX6_allAskBehind 19 = .ok (.aload_n 0, 1) := by decide +kernel
theorem dX6_allAskBehind_20 : decode cX6_allAskBehind 20 = .ok (.getfield 23, 3) := by decide +kernel
theorem dX6_allAskBehind_23 : decode cX6_allAskBehind 23 = .ok (.iload_n 3, 1) := by decide +kernel
theorem dX6_allAskBehind_24 : decode cX6_allAskBehind 24 = .ok (.aload_n 0, 1) := by decide +kernel
theorem dX6_allAskBehind_25 : decode cX6_allAskBehind 25 = .ok (.getfield 31, 3) := by decide +kernel
theorem dX6_allAskBehind_28 : decode cX6_allAskBehind 28 = .ok (.getfield 135, 3) := by decide +kernel
theorem dX6_allAskBehind_31 : decode cX6_allAskBehind 31 = .ok (.iload 4, 2) := by decide +kernel
theorem dX6_allAskBehind_33 : decode cX6_allAskBehind 33 = .ok (.iadd, 1) := by decide +kernel
theorem dX6_allAskBehind_34 : decode cX6_allAskBehind 34 = .ok (.invokevirtual 227, 3) := by decide +kernel
theorem dX6_allAskBehind_37 : decode cX6_allAskBehind 37 = .ok (.istore_n 3, 1) := by decide +kernel
theorem dX6_allAskBehind_38 : decode cX6_allAskBehind 38 = .ok (.iinc 4 1, 3) := by decide +kernel
theorem dX6_allAskBehind_41 : decode cX6_allAskBehind 41 = .ok (.goto (-28), 3) := by decide +kernel
theorem dX6_allAskBehind_44 : decode cX6_allAskBehind 44 = .ok (.iload_n 3, 1) := by decide +kernel
theorem dX6_allAskBehind_45 : decode cX6_allAskBehind 45 = .ok (.aload_n 0, 1) := by decide +kernel
theorem dX6_allAskBehind_46 : decode cX6_allAskBehind 46 = .ok (.getfield 23, 3) := by decide +kernel
theorem dX6_allAskBehind_49 : decode cX6_allAskBehind 49 = .ok (.invokevirtual 145, 3) := by decide +kernel
theorem dX6_allAskBehind_52 : decode cX6_allAskBehind 52 = .ok (.if_icmp .ne 7, 3) := by decide +kernel
theorem dX6_allAskBehind_55 : decode cX6_allAskBehind 55 = .ok (.iconst 1, 1) := by decide +kernel
theorem dX6_allAskBehind_56 : decode cX6_allAskBehind 56 = .ok (.goto 4, 3) := by decide +kernel
theorem dX6_allAskBehind_59 : decode cX6_allAskBehind 59 = .ok (.iconst 0, 1) := by decide +kernel
theorem dX6_allAskBehind_60 : decode cX6_allAskBehind 60 = .ok (.ireturn, 1) := by decide +kernel
theorem dX6_weigh_0 : decode cX6_weigh 0 = .ok (.aload_n 0, 1) := by decide +kernel
theorem dX6_weigh_1 : decode cX6_weigh 1 = .ok (.getfield 67, 3) := by decide +kernel
theorem dX6_weigh_4 : decode cX6_weigh 4 = .ok (.iconst 0, 1) := by decide +kernel
theorem dX6_weigh_5 : decode cX6_weigh 5 = .ok (.iconst 1, 1) := by decide +kernel
theorem dX6_weigh_6 : decode cX6_weigh 6 = .ok (.iastore, 1) := by decide +kernel
theorem dX6_weigh_7 : decode cX6_weigh 7 = .ok (.iconst 1, 1) := by decide +kernel
theorem dX6_weigh_8 : decode cX6_weigh 8 = .ok (.istore_n 3, 1) := by decide +kernel
theorem dX6_weigh_9 : decode cX6_weigh 9 = .ok (.iload_n 3, 1) := by decide +kernel
theorem dX6_weigh_10 : decode cX6_weigh 10 = .ok (.bipush 8, 2) := by decide +kernel
theorem dX6_weigh_12 : decode cX6_weigh 12 = .ok (.if_icmp .gt 16, 3) := by decide +kernel
theorem dX6_weigh_15 : decode cX6_weigh 15 = .ok (.aload_n 0, 1) := by decide +kernel
theorem dX6_weigh_16 : decode cX6_weigh 16 = .ok (.getfield 67, 3) := by decide +kernel
theorem dX6_weigh_19 : decode cX6_weigh 19 = .ok (.iload_n 3, 1) := by decide +kernel
theorem dX6_weigh_20 : decode cX6_weigh 20 = .ok (.iconst 0, 1) := by decide +kernel
theorem dX6_weigh_21 : decode cX6_weigh 21 = .ok (.iastore, 1) := by decide +kernel
theorem dX6_weigh_22 : decode cX6_weigh 22 = .ok (.iinc 3 1, 3) := by decide +kernel
theorem dX6_weigh_25 : decode cX6_weigh 25 = .ok (.goto (-16), 3) := by decide +kernel
theorem dX6_weigh_28 : decode cX6_weigh 28 = .ok (.iconst 0, 1) := by decide +kernel
theorem dX6_weigh_29 : decode cX6_weigh 29 = .ok (.istore_n 3, 1) := by decide +kernel
theorem dX6_weigh_30 : decode cX6_weigh 30 = .ok (.iload_n 3, 1) := by decide +kernel
theorem dX6_weigh_31 : decode cX6_weigh 31 = .ok (.iload_n 2, 1) := by decide +kernel
theorem dX6_weigh_32 : decode cX6_weigh 32 = .ok (.if_icmp .ge 71, 3) := by decide +kernel
theorem dX6_weigh_35 : decode cX6_weigh 35 = .ok (.bipush 8, 2) := by decide +kernel
theorem dX6_weigh_37 : decode cX6_weigh 37 = .ok (.istore 4, 2) := by decide +kernel
theorem dX6_weigh_39 : decode cX6_weigh 39 = .ok (.iload 4, 2) := by decide +kernel
theorem dX6_weigh_41 : decode cX6_weigh 41 = .ok (.iconst 1, 1) := by decide +kernel
theorem dX6_weigh_42 : decode cX6_weigh 42 = .ok (.if_icmp .lt 40, 3) := by decide +kernel
theorem dX6_weigh_45 : decode cX6_weigh 45 = .ok (.aload_n 0, 1) := by decide +kernel
theorem dX6_weigh_46 : decode cX6_weigh 46 = .ok (.getfield 67, 3) := by decide +kernel
theorem dX6_weigh_49 : decode cX6_weigh 49 = .ok (.iload 4, 2) := by decide +kernel
theorem dX6_weigh_51 : decode cX6_weigh 51 = .ok (.iload_n 1, 1) := by decide +kernel
theorem dX6_weigh_52 : decode cX6_weigh 52 = .ok (.aload_n 0, 1) := by decide +kernel
theorem dX6_weigh_53 : decode cX6_weigh 53 = .ok (.getfield 67, 3) := by decide +kernel
theorem dX6_weigh_56 : decode cX6_weigh 56 = .ok (.iload 4, 2) := by decide +kernel
theorem dX6_weigh_58 : decode cX6_weigh 58 = .ok (.iconst 1, 1) := by decide +kernel
theorem dX6_weigh_59 : decode cX6_weigh 59 = .ok (.isub, 1) := by decide +kernel
theorem dX6_weigh_60 : decode cX6_weigh 60 = .ok (.iaload, 1) := by decide +kernel
theorem dX6_weigh_61 : decode cX6_weigh 61 = .ok (.imul, 1) := by decide +kernel
theorem dX6_weigh_62 : decode cX6_weigh 62 = .ok (.bipush 10, 2) := by decide +kernel
theorem dX6_weigh_64 : decode cX6_weigh 64 = .ok (.iload_n 1, 1) := by decide +kernel
theorem dX6_weigh_65 : decode cX6_weigh 65 = .ok (.isub, 1) := by decide +kernel
theorem dX6_weigh_66 : decode cX6_weigh 66 = .ok (.aload_n 0, 1) := by decide +kernel
theorem dX6_weigh_67 : decode cX6_weigh 67 = .ok (.getfield 67, 3) := by decide +kernel
theorem dX6_weigh_70 : decode cX6_weigh 70 = .ok (.iload 4, 2) := by decide +kernel
theorem dX6_weigh_72 : decode cX6_weigh 72 = .ok (.iaload, 1) := by decide +kernel
theorem dX6_weigh_73 : decode cX6_weigh 73 = .ok (.imul, 1) := by decide +kernel
theorem dX6_weigh_74 : decode cX6_weigh 74 = .ok (.iadd, 1) := by decide +kernel
theorem dX6_weigh_75 : decode cX6_weigh 75 = .ok (.iastore, 1) := by decide +kernel
theorem dX6_weigh_76 : decode cX6_weigh 76 = .ok (.iinc 4 (-1), 3) := by decide +kernel
theorem dX6_weigh_79 : decode cX6_weigh 79 = .ok (.goto (-40), 3) := by decide +kernel
theorem dX6_weigh_82 : decode cX6_weigh 82 = .ok (.aload_n 0, 1) := by decide +kernel
theorem dX6_weigh_83 : decode cX6_weigh 83 = .ok (.getfield 67, 3) := by decide +kernel
theorem dX6_weigh_86 : decode cX6_weigh 86 = .ok (.iconst 0, 1) := by decide +kernel
theorem dX6_weigh_87 : decode cX6_weigh 87 = .ok (.bipush 10, 2) := by decide +kernel
theorem dX6_weigh_89 : decode cX6_weigh 89 = .ok (.aload_n 0, 1) := by decide +kernel
theorem dX6_weigh_90 : decode cX6_weigh 90 = .ok (.getfield 67, 3) := by decide +kernel
theorem dX6_weigh_93 : decode cX6_weigh 93 = .ok (.iconst 0, 1) := by decide +kernel
theorem dX6_weigh_94 : decode cX6_weigh 94 = .ok (.iaload, 1) := by decide +kernel
theorem dX6_weigh_95 : decode cX6_weigh 95 = .ok (.imul, 1) := by decide +kernel
theorem dX6_weigh_96 : decode cX6_weigh 96 = .ok (.iastore, 1) := by decide +kernel
theorem dX6_weigh_97 : decode cX6_weigh 97 = .ok (.iinc 3 1, 3) := by decide +kernel
theorem dX6_weigh_100 : decode cX6_weigh 100 = .ok (.goto (-70), 3) := by decide +kernel
theorem dX6_weigh_103 : decode cX6_weigh 103 = .ok (.return_, 1) := by decide +kernel
theorem dX6_commonDivisor_0 : decode cX6_commonDivisor 0 = .ok (.iload_n 0, 1) := by decide +kernel
theorem dX6_commonDivisor_1 : decode cX6_commonDivisor 1 = .ok (.istore_n 2, 1) := by decide +kernel
theorem dX6_commonDivisor_2 : decode cX6_commonDivisor 2 = .ok (.iload_n 1, 1) := by decide +kernel
theorem dX6_commonDivisor_3 : decode cX6_commonDivisor 3 = .ok (.istore_n 3, 1) := by decide +kernel
theorem dX6_commonDivisor_4 : decode cX6_commonDivisor 4 = .ok (.iconst 0, 1) := by decide +kernel
theorem dX6_commonDivisor_5 : decode cX6_commonDivisor 5 = .ok (.istore 4, 2) := by decide +kernel
theorem dX6_commonDivisor_7 : decode cX6_commonDivisor 7 = .ok (.iload 4, 2) := by decide +kernel
theorem dX6_commonDivisor_9 : decode cX6_commonDivisor 9 = .ok (.bipush 64, 2) := by decide +kernel
theorem dX6_commonDivisor_11 : decode cX6_commonDivisor 11 = .ok (.if_icmp .ge 23, 3) := by decide +kernel
theorem dX6_commonDivisor_14 : decode cX6_commonDivisor 14 = .ok (.iload_n 3, 1) := by decide +kernel
theorem dX6_commonDivisor_15 : decode cX6_commonDivisor 15 = .ok (.ifCond .eq 19, 3) := by decide +kernel
theorem dX6_commonDivisor_18 : decode cX6_commonDivisor 18 = .ok (.iload_n 2, 1) := by decide +kernel
theorem dX6_commonDivisor_19 : decode cX6_commonDivisor 19 = .ok (.iload_n 3, 1) := by decide +kernel
theorem dX6_commonDivisor_20 : decode cX6_commonDivisor 20 = .ok (.irem, 1) := by decide +kernel
theorem dX6_commonDivisor_21 : decode cX6_commonDivisor 21 = .ok (.istore 5, 2) := by decide +kernel
theorem dX6_commonDivisor_23 : decode cX6_commonDivisor 23 = .ok (.iload_n 3, 1) := by decide +kernel
theorem dX6_commonDivisor_24 : decode cX6_commonDivisor 24 = .ok (.istore_n 2, 1) := by decide +kernel
theorem dX6_commonDivisor_25 : decode cX6_commonDivisor 25 = .ok (.iload 5, 2) := by decide +kernel
theorem dX6_commonDivisor_27 : decode cX6_commonDivisor 27 = .ok (.istore_n 3, 1) := by decide +kernel
theorem dX6_commonDivisor_28 : decode cX6_commonDivisor 28 = .ok (.iinc 4 1, 3) := by decide +kernel
theorem dX6_commonDivisor_31 : decode cX6_commonDivisor 31 = .ok (.goto (-24), 3) := by decide +kernel
theorem dX6_commonDivisor_34 : decode cX6_commonDivisor 34 = .ok (.iload_n 2, 1) := by decide +kernel
theorem dX6_commonDivisor_35 : decode cX6_commonDivisor 35 = .ok (.ifCond .ne 7, 3) := by decide +kernel
theorem dX6_commonDivisor_38 : decode cX6_commonDivisor 38 = .ok (.iconst 1, 1) := by decide +kernel
theorem dX6_commonDivisor_39 : decode cX6_commonDivisor 39 = .ok (.goto 4, 3) := by decide +kernel
theorem dX6_commonDivisor_42 : decode cX6_commonDivisor 42 = .ok (.iload_n 2, 1) := by decide +kernel
theorem dX6_commonDivisor_43 : decode cX6_commonDivisor 43 = .ok (.ireturn, 1) := by decide +kernel
theorem dX6_asFarmer_0 : decode cX6_asFarmer 0 = .ok (.aload_n 0, 1) := by decide +kernel
theorem dX6_asFarmer_1 : decode cX6_asFarmer 1 = .ok (.dup, 1) := by decide +kernel
theorem dX6_asFarmer_2 : decode cX6_asFarmer 2 = .ok (.getfield 223, 3) := by decide +kernel
theorem dX6_asFarmer_5 : decode cX6_asFarmer 5 = .ok (.lconst 1, 1) := by decide +kernel
theorem dX6_asFarmer_6 : decode cX6_asFarmer 6 = .ok (.ladd, 1) := by decide +kernel
theorem dX6_asFarmer_7 : decode cX6_asFarmer 7 = .ok (.putfield 223, 3) := by decide +kernel
theorem dX6_asFarmer_10 : decode cX6_asFarmer 10 = .ok (.aload_n 0, 1) := by decide +kernel
theorem dX6_asFarmer_11 : decode cX6_asFarmer 11 = .ok (.getfield 31, 3) := by decide +kernel
theorem dX6_asFarmer_14 : decode cX6_asFarmer 14 = .ok (.getfield 107, 3) := by decide +kernel
theorem dX6_asFarmer_17 : decode cX6_asFarmer 17 = .ok (.iload_n 1, 1) := by decide +kernel
theorem dX6_asFarmer_18 : decode cX6_asFarmer 18 = .ok (.iaload, 1) := by decide +kernel
theorem dX6_asFarmer_19 : decode cX6_asFarmer 19 = .ok (.ireturn, 1) := by decide +kernel
theorem dX6_asMower_0 : decode cX6_asMower 0 = .ok (.aload_n 0, 1) := by decide +kernel
theorem dX6_asMower_1 : decode cX6_asMower 1 = .ok (.dup, 1) := by decide +kernel
theorem dX6_asMower_2 : decode cX6_asMower 2 = .ok (.getfield 223, 3) := by decide +kernel
theorem dX6_asMower_5 : decode cX6_asMower 5 = .ok (.ldc2_w 233, 3) := by decide +kernel
theorem dX6_asMower_8 : decode cX6_asMower 8 = .ok (.ladd, 1) := by decide +kernel
theorem dX6_asMower_9 : decode cX6_asMower 9 = .ok (.putfield 223, 3) := by decide +kernel
theorem dX6_asMower_12 : decode cX6_asMower 12 = .ok (.aload_n 0, 1) := by decide +kernel
theorem dX6_asMower_13 : decode cX6_asMower 13 = .ok (.iload_n 1, 1) := by decide +kernel
theorem dX6_asMower_14 : decode cX6_asMower 14 = .ok (.invokevirtual 203, 3) := by decide +kernel
theorem dX6_asMower_17 : decode cX6_asMower 17 = .ok (.aload_n 0, 1) := by decide +kernel
theorem dX6_asMower_18 : decode cX6_asMower 18 = .ok (.getfield 31, 3) := by decide +kernel
theorem dX6_asMower_21 : decode cX6_asMower 21 = .ok (.iload_n 1, 1) := by decide +kernel
theorem dX6_asMower_22 : decode cX6_asMower 22 = .ok (.invokevirtual 122, 3) := by decide +kernel
theorem dX6_asMower_25 : decode cX6_asMower 25 = .ok (.invokestatic 156, 3) := by decide +kernel
theorem dX6_asMower_28 : decode cX6_asMower 28 = .ok (.iadd, 1) := by decide +kernel
theorem dX6_asMower_29 : decode cX6_asMower 29 = .ok (.ireturn, 1) := by decide +kernel
theorem dX6_asLate_0 : decode cX6_asLate 0 = .ok (.aload_n 0, 1) := by decide +kernel
theorem dX6_asLate_1 : decode cX6_asLate 1 = .ok (.dup, 1) := by decide +kernel
theorem dX6_asLate_2 : decode cX6_asLate 2 = .ok (.getfield 223, 3) := by decide +kernel
theorem dX6_asLate_5 : decode cX6_asLate 5 = .ok (.ldc2_w 235, 3) := by decide +kernel
theorem dX6_asLate_8 : decode cX6_asLate 8 = .ok (.ladd, 1) := by decide +kernel
theorem dX6_asLate_9 : decode cX6_asLate 9 = .ok (.putfield 223, 3) := by decide +kernel
theorem dX6_asLate_12 : decode cX6_asLate 12 = .ok (.aload_n 0, 1) := by decide +kernel
theorem dX6_asLate_13 : decode cX6_asLate 13 = .ok (.iload_n 1, 1) := by decide +kernel
theorem dX6_asLate_14 : decode cX6_asLate 14 = .ok (.invokevirtual 203, 3) := by decide +kernel
theorem dX6_asLate_17 : decode cX6_asLate 17 = .ok (.aload_n 0, 1) := by decide +kernel
theorem dX6_asLate_18 : decode cX6_asLate 18 = .ok (.getfield 23, 3) := by decide +kernel
theorem dX6_asLate_21 : decode cX6_asLate 21 = .ok (.getfield 110, 3) := by decide +kernel
theorem dX6_asLate_24 : decode cX6_asLate 24 = .ok (.iload_n 1, 1) := by decide +kernel
theorem dX6_asLate_25 : decode cX6_asLate 25 = .ok (.iaload, 1) := by decide +kernel
theorem dX6_asLate_26 : decode cX6_asLate 26 = .ok (.isub, 1) := by decide +kernel
theorem dX6_asLate_27 : decode cX6_asLate 27 = .ok (.ireturn, 1) := by decide +kernel
theorem dX6_asSon_0 : decode cX6_asSon 0 = .ok (.aload_n 0, 1) := by decide +kernel
theorem dX6_asSon_1 : decode cX6_asSon 1 = .ok (.dup, 1) := by decide +kernel
theorem dX6_asSon_2 : decode cX6_asSon 2 = .ok (.getfield 223, 3) := by decide +kernel
theorem dX6_asSon_5 : decode cX6_asSon 5 = .ok (.ldc2_w 237, 3) := by decide +kernel
theorem dX6_asSon_8 : decode cX6_asSon 8 = .ok (.ladd, 1) := by decide +kernel
theorem dX6_asSon_9 : decode cX6_asSon 9 = .ok (.putfield 223, 3) := by decide +kernel
theorem dX6_asSon_12 : decode cX6_asSon 12 = .ok (.iconst 2, 1) := by decide +kernel
theorem dX6_asSon_13 : decode cX6_asSon 13 = .ok (.aload_n 0, 1) := by decide +kernel
theorem dX6_asSon_14 : decode cX6_asSon 14 = .ok (.iload_n 1, 1) := by decide +kernel
theorem dX6_asSon_15 : decode cX6_asSon 15 = .ok (.invokevirtual 206, 3) := by decide +kernel
theorem dX6_asSon_18 : decode cX6_asSon 18 = .ok (.imul, 1) := by decide +kernel
theorem dX6_asSon_19 : decode cX6_asSon 19 = .ok (.ireturn, 1) := by decide +kernel
theorem dX6_asCousin_0 : decode cX6_asCousin 0 = .ok (.aload_n 0, 1) := by decide +kernel
theorem dX6_asCousin_1 : decode cX6_asCousin 1 = .ok (.dup, 1) := by decide +kernel
theorem dX6_asCousin_2 : decode cX6_asCousin 2 = .ok (.getfield 223, 3) := by decide +kernel
theorem dX6_asCousin_5 : decode cX6_asCousin 5 = .ok (.ldc2_w 239, 3) := by decide +kernel
theorem dX6_asCousin_8 : decode cX6_asCousin 8 = .ok (.ladd, 1) := by decide +kernel
theorem dX6_asCousin_9 : decode cX6_asCousin 9 = .ok (.putfield 223, 3) := by decide +kernel
theorem dX6_asCousin_12 : decode cX6_asCousin 12 = .ok (.aload_n 0, 1) := by decide +kernel
theorem dX6_asCousin_13 : decode cX6_asCousin 13 = .ok (.iload_n 1, 1) := by decide +kernel
theorem dX6_asCousin_14 : decode cX6_asCousin 14 = .ok (.invokevirtual 209, 3) := by decide +kernel
theorem dX6_asCousin_17 : decode cX6_asCousin 17 = .ok (.iload_n 1, 1) := by decide +kernel
theorem dX6_asCousin_18 : decode cX6_asCousin 18 = .ok (.iadd, 1) := by decide +kernel
theorem dX6_asCousin_19 : decode cX6_asCousin 19 = .ok (.ireturn, 1) := by decide +kernel
theorem dX6_asSnow_0 : decode cX6_asSnow 0 = .ok (.aload_n 0, 1) := by decide +kernel
theorem dX6_asSnow_1 : decode cX6_asSnow 1 = .ok (.dup, 1) := by decide +kernel
theorem dX6_asSnow_2 : decode cX6_asSnow 2 = .ok (.getfield 223, 3) := by decide +kernel
theorem dX6_asSnow_5 : decode cX6_asSnow 5 = .ok (.ldc2_w 241, 3) := by decide +kernel
theorem dX6_asSnow_8 : decode cX6_asSnow 8 = .ok (.ladd, 1) := by decide +kernel
theorem dX6_asSnow_9 : decode cX6_asSnow 9 = .ok (.putfield 223, 3) := by decide +kernel
theorem dX6_asSnow_12 : decode cX6_asSnow 12 = .ok (.aload_n 0, 1) := by decide +kernel
theorem dX6_asSnow_13 : decode cX6_asSnow 13 = .ok (.iload_n 1, 1) := by decide +kernel
theorem dX6_asSnow_14 : decode cX6_asSnow 14 = .ok (.invokevirtual 203, 3) := by decide +kernel
theorem dX6_asSnow_17 : decode cX6_asSnow 17 = .ok (.aload_n 0, 1) := by decide +kernel
theorem dX6_asSnow_18 : decode cX6_asSnow 18 = .ok (.getfield 31, 3) := by decide +kernel
theorem dX6_asSnow_21 : decode cX6_asSnow 21 = .ok (.getfield 135, 3) := by decide +kernel
theorem dX6_asSnow_24 : decode cX6_asSnow 24 = .ok (.iadd, 1) := by decide +kernel
theorem dX6_asSnow_25 : decode cX6_asSnow 25 = .ok (.ireturn, 1) := by decide +kernel
theorem dX7_init_0 : decode cX7_init 0 = .ok (.aload_n 0, 1) := by decide +kernel
theorem dX7_init_1 : decode cX7_init 1 = .ok (.invokespecial 1, 3) := by decide +kernel
theorem dX7_init_4 : decode cX7_init 4 = .ok (.aload_n 0, 1) := by decide +kernel
theorem dX7_init_5 : decode cX7_init 5 = .ok (.bipush 6, 2) := by decide +kernel
theorem dX7_init_7 : decode cX7_init 7 = .ok (.newarray .int, 2) := by decide +kernel
theorem dX7_init_9 : decode cX7_init 9 = .ok (.putfield 7, 3) := by decide +kernel
theorem dX7_init_12 : decode cX7_init 12 = .ok (.aload_n 0, 1) := by decide +kernel
theorem dX7_init_13 : decode cX7_init 13 = .ok (.bipush 6, 2) := by decide +kernel
theorem dX7_init_15 : decode cX7_init 15 = .ok (.newarray .int, 2) := by decide +kernel
theorem dX7_init_17 : decode cX7_init 17 = .ok (.putfield 13, 3) := by decide +kernel
theorem dX7_init_20 : decode cX7_init 20 = .ok (.aload_n 0, 1) := by decide +kernel
theorem dX7_init_21 : decode cX7_init 21 = .ok (.bipush 6, 2) := by decide +kernel
theorem dX7_init_23 : decode cX7_init 23 = .ok (.newarray .int, 2) := by decide +kernel
theorem dX7_init_25 : decode cX7_init 25 = .ok (.putfield 16, 3) := by decide +kernel
theorem dX7_init_28 : decode cX7_init 28 = .ok (.aload_n 0, 1) := by decide +kernel
theorem dX7_init_29 : decode cX7_init 29 = .ok (.bipush 14, 2) := by decide +kernel
theorem dX7_init_31 : decode cX7_init 31 = .ok (.newarray .int, 2) := by decide +kernel
theorem dX7_init_33 : decode cX7_init 33 = .ok (.putfield 19, 3) := by decide +kernel
theorem dX7_init_36 : decode cX7_init 36 = .ok (.aload_n 0, 1) := by decide +kernel
theorem dX7_init_37 : decode cX7_init 37 = .ok (.sipush 140, 3) := by decide +kernel
theorem dX7_init_40 : decode cX7_init 40 = .ok (.newarray .int, 2) := by decide +kernel
theorem dX7_init_42 : decode cX7_init 42 = .ok (.putfield 22, 3) := by decide +kernel
theorem dX7_init_45 : decode cX7_init 45 = .ok (.aload_n 0, 1) := by decide +kernel
theorem dX7_init_46 : decode cX7_init 46 = .ok (.bipush 28, 2) := by decide +kernel
theorem dX7_init_48 : decode cX7_init 48 = .ok (.newarray .int, 2) := by decide +kernel
theorem dX7_init_50 : decode cX7_init 50 = .ok (.putfield 25, 3) := by decide +kernel
theorem dX7_init_53 : decode cX7_init 53 = .ok (.aload_n 0, 1) := by decide +kernel
theorem dX7_init_54 : decode cX7_init 54 = .ok (.iconst 2, 1) := by decide +kernel
theorem dX7_init_55 : decode cX7_init 55 = .ok (.newarray .boolean, 2) := by decide +kernel
theorem dX7_init_57 : decode cX7_init 57 = .ok (.putfield 28, 3) := by decide +kernel
theorem dX7_init_60 : decode cX7_init 60 = .ok (.aload_n 0, 1) := by decide +kernel
theorem dX7_init_61 : decode cX7_init 61 = .ok (.bipush 18, 2) := by decide +kernel
theorem dX7_init_63 : decode cX7_init 63 = .ok (.newarray .int, 2) := by decide +kernel
theorem dX7_init_65 : decode cX7_init 65 = .ok (.putfield 32, 3) := by decide +kernel
theorem dX7_init_68 : decode cX7_init 68 = .ok (.aload_n 0, 1) := by decide +kernel
theorem dX7_init_69 : decode cX7_init 69 = .ok (.sipush 140, 3) := by decide +kernel
theorem dX7_init_72 : decode cX7_init 72 = .ok (.newarray .int, 2) := by decide +kernel
theorem dX7_init_74 : decode cX7_init 74 = .ok (.putfield 35, 3) := by decide +kernel
theorem dX7_init_77 : decode cX7_init 77 = .ok (.aload_n 0, 1) := by decide +kernel
theorem dX7_init_78 : decode cX7_init 78 = .ok (.bipush 30, 2) := by decide +kernel
theorem dX7_init_80 : decode cX7_init 80 = .ok (.newarray .int, 2) := by decide +kernel
theorem dX7_init_82 : decode cX7_init 82 = .ok (.putfield 38, 3) := by decide +kernel
theorem dX7_init_85 : decode cX7_init 85 = .ok (.aload_n 0, 1) := by decide +kernel
theorem dX7_init_86 : decode cX7_init 86 = .ok (.bipush 14, 2) := by decide +kernel
theorem dX7_init_88 : decode cX7_init 88 = .ok (.newarray .int, 2) := by decide +kernel
theorem dX7_init_90 : decode cX7_init 90 = .ok (.putfield 41, 3) := by decide +kernel
theorem dX7_init_93 : decode cX7_init 93 = .ok (.aload_n 0, 1) := by decide +kernel
theorem dX7_init_94 : decode cX7_init 94 = .ok (.bipush 6, 2) := by decide +kernel
theorem dX7_init_96 : decode cX7_init 96 = .ok (.newarray .int, 2) := by decide +kernel
theorem dX7_init_98 : decode cX7_init 98 = .ok (.putfield 44, 3) := by decide +kernel
theorem dX7_init_101 : decode cX7_init 101 = .ok (.return_, 1) := by decide +kernel
theorem dX7_in_0 : decode cX7_in 0 = .ok (.iload_n 0, 1) := by decide +kernel
theorem dX7_in_1 : decode cX7_in 1 = .ok (.iload_n 1, 1) := by decide +kernel
theorem dX7_in_2 : decode cX7_in 2 = .ok (.if_icmp .lt 12, 3) := by decide +kernel
theorem dX7_in_5 : decode cX7_in 5 = .ok (.iload_n 0, 1) := by decide +kernel
theorem dX7_in_6 : decode cX7_in 6 = .ok (.iload_n 2, 1) := by decide +kernel
theorem dX7_in_7 : decode cX7_in 7 = .ok (.if_icmp .gt 7, 3) := by decide +kernel
theorem dX7_in_10 : decode cX7_in 10 = .ok (.iconst 1, 1) := by decide +kernel
theorem dX7_in_11 : decode cX7_in 11 = .ok (.goto 4, 3) := by decide +kernel
theorem dX7_in_14 : decode cX7_in 14 = .ok (.iconst 0, 1) := by decide +kernel
theorem dX7_in_15 : decode cX7_in 15 = .ok (.ireturn, 1) := by decide +kernel
theorem dX7_has_0 : decode cX7_has 0 = .ok (.iload_n 0, 1) := by decide +kernel
theorem dX7_has_1 : decode cX7_has 1 = .ok (.iload_n 1, 1) := by decide +kernel
theorem dX7_has_2 : decode cX7_has 2 = .ok (.ishr, 1) := by decide +kernel
theorem dX7_has_3 : decode cX7_has 3 = .ok (.iconst 1, 1) := by decide +kernel
theorem dX7_has_4 : decode cX7_has 4 = .ok (.iand, 1) := by decide +kernel
theorem dX7_has_5 : decode cX7_has 5 = .ok (.iconst 1, 1) := by decide +kernel
theorem dX7_has_6 : decode cX7_has 6 = .ok (.if_icmp .ne 7, 3) := by decide +kernel
theorem dX7_has_9 : decode cX7_has 9 = .ok (.iconst 1, 1) := by decide +kernel
theorem dX7_has_10 : decode cX7_has 10 = .ok (.goto 4, 3) := by decide +kernel
theorem dX7_has_13 : decode cX7_has 13 = .ok (.iconst 0, 1) := by decide +kernel
theorem dX7_has_14 : decode cX7_has 14 = .ok (.ireturn, 1) := by decide +kernel
theorem dX7_bits_0 : decode cX7_bits 0 = .ok (.iconst 0, 1) := by decide +kernel
theorem dX7_bits_1 : decode cX7_bits 1 = .ok (.istore_n 1, 1) := by decide +kernel
theorem dX7_bits_2 : decode cX7_bits 2 = .ok (.iconst 0, 1) := by decide +kernel
theorem dX7_bits_3 : decode cX7_bits 3 = .ok (.istore_n 2, 1) := by decide +kernel
theorem dX7_bits_4 : decode cX7_bits 4 = .ok (.iload_n 2, 1) := by decide +kernel
theorem dX7_bits_5 : decode cX7_bits 5 = .ok (.bipush 8, 2) := by decide +kernel
theorem dX7_bits_7 : decode cX7_bits 7 = .ok (.if_icmp .ge 17, 3) := by decide +kernel
theorem dX7_bits_10 : decode cX7_bits 10 = .ok (.iload_n 1, 1) := by decide +kernel
theorem dX7_bits_11 : decode cX7_bits 11 = .ok (.iload_n 0, 1) := by decide +kernel
theorem dX7_bits_12 : decode cX7_bits 12 = .ok (.iload_n 2, 1) := by decide +kernel
theorem dX7_bits_13 : decode cX7_bits 13 = .ok (.ishr, 1) := by decide +kernel
theorem dX7_bits_14 : decode cX7_bits 14 = .ok (.iconst 1, 1) := by decide +kernel
theorem dX7_bits_15 : decode cX7_bits 15 = .ok (.iand, 1) := by decide +kernel
theorem dX7_bits_16 : decode cX7_bits 16 = .ok (.iadd, 1) := by decide +kernel
theorem dX7_bits_17 : decode cX7_bits 17 = .ok (.istore_n 1, 1) := by decide +kernel
theorem dX7_bits_18 : decode cX7_bits 18 = .ok (.iinc 2 1, 3) := by decide +kernel
theorem dX7_bits_21 : decode cX7_bits 21 = .ok (.goto (-17), 3) := by decide +kernel
theorem dX7_bits_24 : decode cX7_bits 24 = .ok (.iload_n 1, 1) := by decide +kernel
theorem dX7_bits_25 : decode cX7_bits 25 = .ok (.ireturn, 1) := by decide +kernel
theorem dX7_isFarmer_0 : decode cX7_isFarmer 0 = .ok (.iload_n 1, 1) := by decide +kernel
theorem dX7_isFarmer_1 : decode cX7_isFarmer 1 = .ok (.iconst 0, 1) := by decide +kernel
theorem dX7_isFarmer_2 : decode cX7_isFarmer 2 = .ok (.aload_n 0, 1) := by decide +kernel
theorem dX7_isFarmer_3 : decode cX7_isFarmer 3 = .ok (.getfield 47, 3) := by decide +kernel
theorem dX7_isFarmer_6 : decode cX7_isFarmer 6 = .ok (.iconst 1, 1) := by decide +kernel
theorem dX7_isFarmer_7 : decode cX7_isFarmer 7 = .ok (.isub, 1) := by decide +kernel
theorem dX7_isFarmer_8 : decode cX7_isFarmer 8 = .ok (.invokestatic 51, 3) := by decide +kernel
theorem dX7_isFarmer_11 : decode cX7_isFarmer 11 = .ok (.ireturn, 1) := by decide +kernel
theorem dX7_copy_0 : decode cX7_copy 0 = .ok (.iconst 0, 1) := by decide +kernel
theorem dX7_copy_1 : decode cX7_copy 1 = .ok (.istore 4, 2) := by decide +kernel
theorem dX7_copy_3 : decode cX7_copy 3 = .ok (.iload 4, 2) := by decide +kernel
theorem dX7_copy_5 : decode cX7_copy 5 = .ok (.bipush 14, 2) := by decide +kernel
theorem dX7_copy_7 : decode cX7_copy 7 = .ok (.if_icmp .ge 21, 3) := by decide +kernel
theorem dX7_copy_10 : decode cX7_copy 10 = .ok (.aload_n 0, 1) := by decide +kernel
theorem dX7_copy_11 : decode cX7_copy 11 = .ok (.iload_n 1, 1) := by decide +kernel
theorem dX7_copy_12 : decode cX7_copy 12 = .ok (.iload 4, 2) := by decide +kernel
theorem dX7_copy_14 : decode cX7_copy 14 = .ok (.iadd, 1) := by decide +kernel
theorem dX7_copy_15 : decode cX7_copy 15 = .ok (.aload_n 2, 1) := by decide +kernel
theorem dX7_copy_16 : decode cX7_copy 16 = .ok (.iload_n 3, 1) := by decide +kernel
theorem dX7_copy_17 : decode cX7_copy 17 = .ok (.iload 4, 2) := by decide +kernel
theorem dX7_copy_19 : decode cX7_copy 19 = .ok (.iadd, 1) := by decide +kernel
theorem dX7_copy_20 : decode cX7_copy 20 = .ok (.iaload, 1) := by decide +kernel
theorem dX7_copy_21 : decode cX7_copy 21 = .ok (.iastore, 1) := by decide +kernel
theorem dX7_copy_22 : decode cX7_copy 22 = .ok (.iinc 4 1, 3) := by decide +kernel
theorem dX7_copy_25 : decode cX7_copy 25 = .ok (.goto (-22), 3) := by decide +kernel
theorem dX7_copy_28 : decode cX7_copy 28 = .ok (.return_, 1) := by decide +kernel
theorem dX7_type_0 : decode cX7_type 0 = .ok (.iload_n 1, 1) := by decide +kernel
theorem dX7_type_1 : decode cX7_type 1 = .ok (.iconst 0, 1) := by decide +kernel
theorem dX7_type_2 : decode cX7_type 2 = .ok (.sipush 255, 3) := by decide +kernel
theorem dX7_type_5 : decode cX7_type 5 = .ok (.invokestatic 51, 3) := by decide +kernel
theorem dX7_type_8 : decode cX7_type 8 = .ok (.ifCond .ne 5, 3) := by decide +kernel
theorem dX7_type_11 : decode cX7_type 11 = .ok (.iconst (-1), 1) := by decide +kernel
theorem dX7_type_12 : decode cX7_type 12 = .ok (.ireturn, 1) := by decide +kernel
theorem dX7_type_13 : decode cX7_type 13 = .ok (.aload_n 0, 1) := by decide +kernel
theorem dX7_type_14 : decode cX7_type 14 = .ok (.getfield 55, 3) := by decide +kernel
theorem dX7_type_17 : decode cX7_type 17 = .ok (.sipush 140, 3) := by decide +kernel
theorem dX7_type_20 : decode cX7_type 20 = .ok (.if_icmp .ne 6, 3) := by decide +kernel
theorem dX7_type_23 : decode cX7_type 23 = .ok (.bipush (-3), 2) := by decide +kernel
theorem dX7_type_25 : decode cX7_type 25 = .ok (.ireturn, 1) := by decide +kernel
theorem dX7_type_26 : decode cX7_type 26 = .ok (.aload_n 0, 1) := by decide +kernel
theorem dX7_type_27 : decode cX7_type 27 = .ok (.getfield 35, 3) := by decide +kernel
theorem dX7_type_30 : decode cX7_type 30 = .ok (.aload_n 0, 1) := by decide +kernel
theorem dX7_type_31 : decode cX7_type 31 = .ok (.getfield 55, 3) := by decide +kernel
theorem dX7_type_34 : decode cX7_type 34 = .ok (.iload_n 1, 1) := by decide +kernel
theorem dX7_type_35 : decode cX7_type 35 = .ok (.iastore, 1) := by decide +kernel
theorem dX7_type_36 : decode cX7_type 36 = .ok (.aload_n 0, 1) := by decide +kernel
theorem dX7_type_37 : decode cX7_type 37 = .ok (.dup, 1) := by decide +kernel
theorem dX7_type_38 : decode cX7_type 38 = .ok (.getfield 55, 3) := by decide +kernel
theorem dX7_type_41 : decode cX7_type 41 = .ok (.iconst 1, 1) := by decide +kernel
theorem dX7_type_42 : decode cX7_type 42 = .ok (.iadd, 1) := by decide +kernel
theorem dX7_type_43 : decode cX7_type 43 = .ok (.putfield 55, 3) := by decide +kernel
theorem dX7_type_46 : decode cX7_type 46 = .ok (.aload_n 0, 1) := by decide +kernel
theorem dX7_type_47 : decode cX7_type 47 = .ok (.getfield 55, 3) := by decide +kernel
theorem dX7_type_50 : decode cX7_type 50 = .ok (.ireturn, 1) := by decide +kernel
theorem dX7_clear_0 : decode cX7_clear 0 = .ok (.aload_n 0, 1) := by decide +kernel
theorem dX7_clear_1 : decode cX7_clear 1 = .ok (.getfield 55, 3) := by decide +kernel
theorem dX7_clear_4 : decode cX7_clear 4 = .ok (.istore_n 1, 1) := by decide +kernel
theorem dX7_clear_5 : decode cX7_clear 5 = .ok (.aload_n 0, 1) := by decide +kernel
theorem dX7_clear_6 : decode cX7_clear 6 = .ok (.iconst 0, 1) := by decide +kernel
theorem dX7_clear_7 : decode cX7_clear 7 = .ok (.putfield 55, 3) := by decide +kernel
theorem dX7_clear_10 : decode cX7_clear 10 = .ok (.iload_n 1, 1) := by decide +kernel
theorem dX7_clear_11 : decode cX7_clear 11 = .ok (.ireturn, 1) := by decide +kernel
theorem dX7_letterAt_0 : decode cX7_letterAt 0 = .ok (.iload_n 1, 1) := by decide +kernel
theorem dX7_letterAt_1 : decode cX7_letterAt 1 = .ok (.aload_n 0, 1) := by decide +kernel
theorem dX7_letterAt_2 : decode cX7_letterAt 2 = .ok (.getfield 55, 3) := by decide +kernel
theorem dX7_letterAt_5 : decode cX7_letterAt 5 = .ok (.if_icmp .ge 12, 3) := by decide +kernel
theorem dX7_letterAt_8 : decode cX7_letterAt 8 = .ok (.aload_n 0, 1) := by decide +kernel
theorem dX7_letterAt_9 : decode cX7_letterAt 9 = .ok (.getfield 35, 3) := by decide +kernel
theorem dX7_letterAt_12 : decode cX7_letterAt 12 = .ok (.iload_n 1, 1) := by decide +kernel
theorem dX7_letterAt_13 : decode cX7_letterAt 13 = .ok (.iaload, 1) := by decide +kernel
theorem dX7_letterAt_14 : decode cX7_letterAt 14 = .ok (.goto 4, 3) := by decide +kernel
theorem dX7_letterAt_17 : decode cX7_letterAt 17 = .ok (.iconst (-1), 1) := by decide +kernel
theorem dX7_letterAt_18 : decode cX7_letterAt 18 = .ok (.ireturn, 1) := by decide +kernel
theorem dX7_isFigure_0 : decode cX7_isFigure 0 = .ok (.iload_n 0, 1) := by decide +kernel
theorem dX7_isFigure_1 : decode cX7_isFigure 1 = .ok (.bipush 48, 2) := by decide +kernel
theorem dX7_isFigure_3 : decode cX7_isFigure 3 = .ok (.bipush 57, 2) := by decide +kernel
theorem dX7_isFigure_5 : decode cX7_isFigure 5 = .ok (.invokestatic 51, 3) := by decide +kernel
theorem dX7_isFigure_8 : decode cX7_isFigure 8 = .ok (.ireturn, 1) := by decide +kernel
theorem dX7_next_0 : decode cX7_next 0 = .ok (.aload_n 0, 1) := by decide +kernel
theorem dX7_next_1 : decode cX7_next 1 = .ok (.aload_n 0, 1) := by decide +kernel
theorem dX7_next_2 : decode cX7_next 2 = .ok (.getfield 58, 3) := by decide +kernel
theorem dX7_next_5 : decode cX7_next 5 = .ok (.invokevirtual 61, 3) := by decide +kernel
theorem dX7_next_8 : decode cX7_next 8 = .ok (.bipush 32, 2) := by decide +kernel
theorem dX7_next_10 : decode cX7_next 10 = .ok (.if_icmp .ne 16, 3) := by decide +kernel
theorem dX7_next_13 : decode cX7_next 13 = .ok (.aload_n 0, 1) := by decide +kernel
theorem dX7_next_14 : decode cX7_next 14 = .ok (.dup, 1) := by decide +kernel
theorem dX7_next_15 : decode cX7_next 15 = .ok (.getfield 58, 3) := by decide +kernel
theorem dX7_next_18 : decode cX7_next 18 = .ok (.iconst 1, 1) := by decide +kernel
theorem dX7_next_19 : decode cX7_next 19 = .ok (.iadd, 1) := by decide +kernel
theorem dX7_next_20 : decode cX7_next 20 = .ok (.putfield 58, 3) := by decide +kernel
theorem dX7_next_23 : decode cX7_next 23 = .ok (.goto (-23), 3) := by decide +kernel
theorem dX7_next_26 : decode cX7_next 26 = .ok (.aload_n 0, 1) := by decide +kernel
theorem dX7_next_27 : decode cX7_next 27 = .ok (.aload_n 0, 1) := by decide +kernel
theorem dX7_next_28 : decode cX7_next 28 = .ok (.getfield 58, 3) := by decide +kernel
theorem dX7_next_31 : decode cX7_next 31 = .ok (.putfield 65, 3) := by decide +kernel
theorem dX7_next_34 : decode cX7_next 34 = .ok (.aload_n 0, 1) := by decide +kernel
theorem dX7_next_35 : decode cX7_next 35 = .ok (.aload_n 0, 1) := by decide +kernel
theorem dX7_next_36 : decode cX7_next 36 = .ok (.getfield 58, 3) := by decide +kernel
theorem dX7_next_39 : decode cX7_next 39 = .ok (.invokevirtual 61, 3) := by decide +kernel
theorem dX7_next_42 : decode cX7_next 42 = .ok (.istore_n 1, 1) := by decide +kernel
theorem dX7_next_43 : decode cX7_next 43 = .ok (.aload_n 0, 1) := by decide +kernel
theorem dX7_next_44 : decode cX7_next 44 = .ok (.iconst 0, 1) := by decide +kernel
theorem dX7_next_45 : decode cX7_next 45 = .ok (.putfield 68, 3) := by decide +kernel
theorem dX7_next_48 : decode cX7_next 48 = .ok (.iload_n 1, 1) := by decide +kernel
theorem dX7_next_49 : decode cX7_next 49 = .ok (.ifCond .ge 11, 3) := by decide +kernel
theorem dX7_next_52 : decode cX7_next 52 = .ok (.aload_n 0, 1) := by decide +kernel
theorem dX7_next_53 : decode cX7_next 53 = .ok (.iconst 0, 1) := by decide +kernel
theorem dX7_next_54 : decode cX7_next 54 = .ok (.putfield 71, 3) := by decide +kernel
theorem dX7_next_57 : decode cX7_next 57 = .ok (.goto 156, 3) := by decide +kernel
theorem dX7_next_60 : decode cX7_next 60 = .ok (.iload_n 1, 1) := by decide +kernel
theorem dX7_next_61 : decode cX7_next 61 = .ok (.invokestatic 74, 3) := by decide +kernel
theorem dX7_next_64 : decode cX7_next 64 = .ok (.ifCond .eq 109, 3) := by decide +kernel
theorem dX7_next_67 : decode cX7_next 67 = .ok (.aload_n 0, 1) := by decide +kernel
theorem dX7_next_68 : decode cX7_next 68 = .ok (.aload_n 0, 1) := by decide +kernel
theorem dX7_next_69 : decode cX7_next 69 = .ok (.getfield 58, 3) := by decide +kernel
theorem dX7_next_72 : decode cX7_next 72 = .ok (.invokevirtual 61, 3) := by decide +kernel
theorem dX7_next_75 : decode cX7_next 75 = .ok (.invokestatic 74, 3) := by decide +kernel
theorem dX7_next_78 : decode cX7_next 78 = .ok (.ifCond .eq 55, 3) := by decide +kernel
theorem dX7_next_81 : decode cX7_next 81 = .ok (.aload_n 0, 1) := by decide +kernel
theorem dX7_next_82 : decode cX7_next 82 = .ok (.aload_n 0, 1) := by decide +kernel
theorem dX7_next_83 : decode cX7_next 83 = .ok (.getfield 68, 3) := by decide +kernel
theorem dX7_next_86 : decode cX7_next 86 = .ok (.bipush 99, 2) := by decide +kernel
theorem dX7_next_88 : decode cX7_next 88 = .ok (.if_icmp .le 10, 3) := by decide +kernel
theorem dX7_next_91 : decode cX7_next 91 = .ok (.aload_n 0, 1) := by decide +kernel
theorem dX7_next_92 : decode cX7_next 92 = .ok (.getfield 68, 3) := by decide +kernel
theorem dX7_next_95 : decode cX7_next 95 = .ok (.goto 22, 3) := by decide +kernel
theorem dX7_next_98 : decode cX7_next 98 = .ok (.bipush 10, 2) := by decide +kernel
theorem dX7_next_100 : decode cX7_next 100 = .ok (.aload_n 0, 1) := by decide +kernel
theorem dX7_next_101 : decode cX7_next 101 = .ok (.getfield 68, 3) := by decide +kernel
theorem dX7_next_104 : decode cX7_next 104 = .ok (.imul, 1) := by decide +kernel
theorem dX7_next_105 : decode cX7_next 105 = .ok (.aload_n 0, 1) := by decide +kernel
theorem dX7_next_106 : decode cX7_next 106 = .ok (.aload_n 0, 1) := by decide +kernel
theorem dX7_next_107 : decode cX7_next 107 = .ok (.getfield 58, 3) := by decide +kernel
theorem dX7_next_110 : decode cX7_next 110 = .ok (.invokevirtual 61, 3) := by decide +kernel
theorem dX7_next_113 : decode cX7_next 113 = .ok (.iadd, 1) := by decide +kernel
theorem dX7_next_114 : decode cX7_next 114 = .ok (.bipush 48, 2) := by decide +kernel
theorem dX7_next_116 : decode cX7_next 116 = .ok (.isub, 1) := by decide +kernel
theorem dX7_next_117 : decode cX7_next 117 = .ok (.putfield 68, 3) := by decide +kernel
theorem dX7_next_120 : decode cX7_next 120 = .ok (.aload_n 0, 1) := by decide +kernel
theorem dX7_next_121 : decode cX7_next 121 = .ok (.dup, 1) := by decide +kernel
theorem dX7_next_122 : decode cX7_next 122 = .ok (.getfield 58, 3) := by decide +kernel
theorem dX7_next_125 : decode cX7_next 125 = .ok (.iconst 1, 1) := by decide +kernel
theorem dX7_next_126 : decode cX7_next 126 = .ok (.iadd, 1) := by decide +kernel
theorem dX7_next_127 : decode cX7_next 127 = .ok (.putfield 58, 3) := by decide +kernel
theorem dX7_next_130 : decode cX7_next 130 = .ok (.goto (-63), 3) := by decide +kernel
theorem dX7_next_133 : decode cX7_next 133 = .ok (.aload_n 0, 1) := by decide +kernel
theorem dX7_next_134 : decode cX7_next 134 = .ok (.aload_n 0, 1) := by decide +kernel
theorem dX7_next_135 : decode cX7_next 135 = .ok (.getfield 68, 3) := by decide +kernel
theorem dX7_next_138 : decode cX7_next 138 = .ok (.bipush 99, 2) := by decide +kernel
theorem dX7_next_140 : decode cX7_next 140 = .ok (.if_icmp .gt 22, 3) := by decide +kernel
theorem dX7_next_143 : decode cX7_next 143 = .ok (.iload_n 1, 1) := by decide +kernel
theorem dX7_next_144 : decode cX7_next 144 = .ok (.bipush 48, 2) := by decide +kernel
theorem dX7_next_146 : decode cX7_next 146 = .ok (.if_icmp .ne 20, 3) := by decide +kernel
theorem dX7_next_149 : decode cX7_next 149 = .ok (.aload_n 0, 1) := by decide +kernel
theorem dX7_next_150 : decode cX7_next 150 = .ok (.getfield 58, 3) := by decide +kernel
theorem dX7_next_153 : decode cX7_next 153 = .ok (.aload_n 0, 1) := by decide +kernel
theorem dX7_next_154 : decode cX7_next 154 = .ok (.getfield 65, 3) := by decide +kernel
theorem dX7_next_157 : decode cX7_next 157 = .ok (.isub, 1) := by decide +kernel
theorem dX7_next_158 : decode cX7_next 158 = .ok (.iconst 1, 1) := by decide +kernel
theorem dX7_next_159 : decode cX7_next 159 = .ok (.if_icmp .le 7, 3) := by decide +kernel
theorem dX7_next_162 : decode cX7_next 162 = .ok (.iconst 4, 1) := by decide +kernel
theorem dX7_next_163 : decode cX7_next 163 = .ok (.goto 4, 3) := by decide +kernel
theorem dX7_next_166 : decode cX7_next 166 = .ok (.iconst 2, 1) := by decide +kernel
theorem dX7_next_167 : decode cX7_next 167 = .ok (.putfield 71, 3) := by decide +kernel
theorem dX7_next_170 : decode cX7_next 170 = .ok (.goto 43, 3) := by decide +kernel
theorem dX7_next_173 : decode cX7_next 173 = .ok (.aload_n 0, 1) := by decide +kernel
theorem dX7_next_174 : decode cX7_next 174 = .ok (.iload_n 1, 1) := by decide +kernel
theorem dX7_next_175 : decode cX7_next 175 = .ok (.bipush 102, 2) := by decide +kernel
theorem dX7_next_177 : decode cX7_next 177 = .ok (.if_icmp .ne 7, 3) := by decide +kernel
theorem dX7_next_180 : decode cX7_next 180 = .ok (.iconst 1, 1) := by decide +kernel
theorem dX7_next_181 : decode cX7_next 181 = .ok (.goto 14, 3) := by decide +kernel
theorem dX7_next_184 : decode cX7_next 184 = .ok (.iload_n 1, 1) := by decide +kernel
theorem dX7_next_185 : decode cX7_next 185 = .ok (.bipush 59, 2) := by decide +kernel
theorem dX7_next_187 : decode cX7_next 187 = .ok (.if_icmp .ne 7, 3) := by decide +kernel
theorem dX7_next_190 : decode cX7_next 190 = .ok (.iconst 3, 1) := by decide +kernel
theorem dX7_next_191 : decode cX7_next 191 = .ok (.goto 4, 3) := by decide +kernel
theorem dX7_next_194 : decode cX7_next 194 = .ok (.iconst 4, 1) := by decide +kernel
theorem dX7_next_195 : decode cX7_next 195 = .ok (.putfield 71, 3) := by decide +kernel
theorem dX7_next_198 : decode cX7_next 198 = .ok (.aload_n 0, 1) := by decide +kernel
theorem dX7_next_199 : decode cX7_next 199 = .ok (.iload_n 1, 1) := by decide +kernel
theorem dX7_next_200 : decode cX7_next 200 = .ok (.putfield 68, 3) := by decide +kernel
theorem dX7_next_203 : decode cX7_next 203 = .ok (.aload_n 0, 1) := by decide +kernel
theorem dX7_next_204 : decode cX7_next 204 = .ok (.dup, 1) := by decide +kernel
theorem dX7_next_205 : decode cX7_next 205 = .ok (.getfield 58, 3) := by decide +kernel
theorem dX7_next_208 : decode cX7_next 208 = .ok (.iconst 1, 1) := by decide +kernel
theorem dX7_next_209 : decode cX7_next 209 = .ok (.iadd, 1) := by decide +kernel
theorem dX7_next_210 : decode cX7_next 210 = .ok (.putfield 58, 3) := by decide +kernel
theorem dX7_next_213 : decode cX7_next 213 = .ok (.return_, 1) := by decide +kernel
theorem dX7_takesNumber_0 : decode cX7_takesNumber 0 = .ok (.aload_n 0, 1) := by decide +kernel
theorem dX7_takesNumber_1 : decode cX7_takesNumber 1 = .ok (.getfield 78, 3) := by decide +kernel
theorem dX7_takesNumber_4 : decode cX7_takesNumber 4 = .ok (.ifCond .ne 27, 3) := by decide +kernel
theorem dX7_takesNumber_7 : decode cX7_takesNumber 7 = .ok (.aload_n 0, 1) := by decide +kernel
theorem dX7_takesNumber_8 : decode cX7_takesNumber 8 = .ok (.getfield 71, 3) := by decide +kernel
theorem dX7_takesNumber_11 : decode cX7_takesNumber 11 = .ok (.iconst 2, 1) := by decide +kernel
theorem dX7_takesNumber_12 : decode cX7_takesNumber 12 = .ok (.if_icmp .ne 19, 3) := by decide +kernel
theorem dX7_takesNumber_15 : decode cX7_takesNumber 15 = .ok (.aload_n 0, 1) := by decide +kernel
theorem dX7_takesNumber_16 : decode cX7_takesNumber 16 = .ok (.getfield 68, 3) := by decide +kernel
theorem dX7_takesNumber_19 : decode cX7_takesNumber 19 = .ok (.iload_n 1, 1) := by decide +kernel
theorem dX7_takesNumber_20 : decode cX7_takesNumber 20 = .ok (.iload_n 2, 1) := by decide +kernel
theorem dX7_takesNumber_21 : decode cX7_takesNumber 21 = .ok (.invokestatic 51, 3) := by decide +kernel
theorem dX7_takesNumber_24 : decode cX7_takesNumber 24 = .ok (.ifCond .eq 7, 3) := by decide +kernel
theorem dX7_takesNumber_27 : decode cX7_takesNumber 27 = .ok (.iconst 1, 1) := by decide +kernel
theorem dX7_takesNumber_28 : decode cX7_takesNumber 28 = .ok (.goto 4, 3) := by decide +kernel
theorem dX7_takesNumber_31 : decode cX7_takesNumber 31 = .ok (.iconst 0, 1) := by decide +kernel
theorem dX7_takesNumber_32 : decode cX7_takesNumber 32 = .ok (.istore_n 3, 1) := by decide +kernel
theorem dX7_takesNumber_33 : decode cX7_takesNumber 33 = .ok (.aload_n 0, 1) := by decide +kernel
theorem dX7_takesNumber_34 : decode cX7_takesNumber 34 = .ok (.iload_n 3, 1) := by decide +kernel
theorem dX7_takesNumber_35 : decode cX7_takesNumber 35 = .ok (.ifCond .ne 7, 3) := by decide +kernel
theorem dX7_takesNumber_38 : decode cX7_takesNumber 38 = .ok (.iconst 1, 1) := by decide +kernel
theorem dX7_takesNumber_39 : decode cX7_takesNumber 39 = .ok (.goto 4, 3) := by decide +kernel
theorem dX7_takesNumber_42 : decode cX7_takesNumber 42 = .ok (.iconst 0, 1) := by decide +kernel
theorem dX7_takesNumber_43 : decode cX7_takesNumber 43 = .ok (.putfield 78, 3) := by decide +kernel
theorem dX7_takesNumber_46 : decode cX7_takesNumber 46 = .ok (.aload_n 0, 1) := by decide +kernel
theorem dX7_takesNumber_47 : decode cX7_takesNumber 47 = .ok (.getfield 68, 3) := by decide +kernel
theorem dX7_takesNumber_50 : decode cX7_takesNumber 50 = .ok (.istore 4, 2) := by decide +kernel
theorem dX7_takesNumber_52 : decode cX7_takesNumber 52 = .ok (.iload_n 3, 1) := by decide +kernel
theorem dX7_takesNumber_53 : decode cX7_takesNumber 53 = .ok (.ifCond .eq 7, 3) := by decide +kernel
theorem dX7_takesNumber_56 : decode cX7_takesNumber 56 = .ok (.aload_n 0, 1) := by decide +kernel
theorem dX7_takesNumber_57 : decode cX7_takesNumber 57 = .ok (.invokevirtual 82, 3) := by decide +kernel
theorem dX7_takesNumber_60 : decode cX7_takesNumber 60 = .ok (.iload_n 3, 1) := by decide +kernel
theorem dX7_takesNumber_61 : decode cX7_takesNumber 61 = .ok (.ifCond .eq 8, 3) := by decide +kernel
theorem dX7_takesNumber_64 : decode cX7_takesNumber 64 = .ok (.iload 4, 2) := by decide +kernel
theorem dX7_takesNumber_66 : decode cX7_takesNumber 66 = .ok (.goto 4, 3) := by decide +kernel
theorem dX7_takesNumber_69 : decode cX7_takesNumber 69 = .ok (.iconst 0, 1) := by decide +kernel
theorem dX7_takesNumber_70 : decode cX7_takesNumber 70 = .ok (.ireturn, 1) := by decide +kernel
theorem dX7_readFarmer_0 : decode cX7_readFarmer 0 = .ok (.iconst 5, 1) := by decide +kernel
theorem dX7_readFarmer_1 : decode cX7_readFarmer 1 = .ok (.aload_n 0, 1) := by decide +kernel
theorem dX7_readFarmer_2 : decode cX7_readFarmer 2 = .ok (.getfield 85, 3) := by decide +kernel
theorem dX7_readFarmer_5 : decode cX7_readFarmer 5 = .ok (.imul, 1) := by decide +kernel
theorem dX7_readFarmer_6 : decode cX7_readFarmer 6 = .ok (.istore_n 1, 1) := by decide +kernel
theorem dX7_readFarmer_7 : decode cX7_readFarmer 7 = .ok (.aload_n 0, 1) := by decide +kernel
theorem dX7_readFarmer_8 : decode cX7_readFarmer 8 = .ok (.getfield 38, 3) := by decide +kernel
theorem dX7_readFarmer_11 : decode cX7_readFarmer 11 = .ok (.iload_n 1, 1) := by decide +kernel
theorem dX7_readFarmer_12 : decode cX7_readFarmer 12 = .ok (.aload_n 0, 1) := by decide +kernel
theorem dX7_readFarmer_13 : decode cX7_readFarmer 13 = .ok (.iconst 0, 1) := by decide +kernel
theorem dX7_readFarmer_14 : decode cX7_readFarmer 14 = .ok (.bipush 30, 2) := by decide +kernel
theorem dX7_readFarmer_16 : decode cX7_readFarmer 16 = .ok (.invokevirtual 88, 3) := by decide +kernel
theorem dX7_readFarmer_19 : decode cX7_readFarmer 19 = .ok (.iastore, 1) := by decide +kernel
theorem dX7_readFarmer_20 : decode cX7_readFarmer 20 = .ok (.aload_n 0, 1) := by decide +kernel
theorem dX7_readFarmer_21 : decode cX7_readFarmer 21 = .ok (.getfield 38, 3) := by decide +kernel
theorem dX7_readFarmer_24 : decode cX7_readFarmer 24 = .ok (.iload_n 1, 1) := by decide +kernel
theorem dX7_readFarmer_25 : decode cX7_readFarmer 25 = .ok (.iconst 1, 1) := by decide +kernel
theorem dX7_readFarmer_26 : decode cX7_readFarmer 26 = .ok (.iadd, 1) := by decide +kernel
theorem dX7_readFarmer_27 : decode cX7_readFarmer 27 = .ok (.aload_n 0, 1) := by decide +kernel
theorem dX7_readFarmer_28 : decode cX7_readFarmer 28 = .ok (.iconst 1, 1) := by decide +kernel
theorem dX7_readFarmer_29 : decode cX7_readFarmer 29 = .ok (.bipush 9, 2) := by decide +kernel
theorem dX7_readFarmer_31 : decode cX7_readFarmer 31 = .ok (.invokevirtual 88, 3) := by decide +kernel
theorem dX7_readFarmer_34 : decode cX7_readFarmer 34 = .ok (.iastore, 1) := by decide +kernel
theorem dX7_readFarmer_35 : decode cX7_readFarmer 35 = .ok (.aload_n 0, 1) := by decide +kernel
theorem dX7_readFarmer_36 : decode cX7_readFarmer 36 = .ok (.getfield 38, 3) := by decide +kernel
theorem dX7_readFarmer_39 : decode cX7_readFarmer 39 = .ok (.iload_n 1, 1) := by decide +kernel
theorem dX7_readFarmer_40 : decode cX7_readFarmer 40 = .ok (.iconst 2, 1) := by decide +kernel
theorem dX7_readFarmer_41 : decode cX7_readFarmer 41 = .ok (.iadd, 1) := by decide +kernel
theorem dX7_readFarmer_42 : decode cX7_readFarmer 42 = .ok (.aload_n 0, 1) := by decide +kernel
theorem dX7_readFarmer_43 : decode cX7_readFarmer 43 = .ok (.iconst 0, 1) := by decide +kernel
theorem dX7_readFarmer_44 : decode cX7_readFarmer 44 = .ok (.bipush 20, 2) := by decide +kernel
theorem dX7_readFarmer_46 : decode cX7_readFarmer 46 = .ok (.invokevirtual 88, 3) := by decide +kernel
theorem dX7_readFarmer_49 : decode cX7_readFarmer 49 = .ok (.iastore, 1) := by decide +kernel
theorem dX7_readFarmer_50 : decode cX7_readFarmer 50 = .ok (.aload_n 0, 1) := by decide +kernel
theorem dX7_readFarmer_51 : decode cX7_readFarmer 51 = .ok (.getfield 38, 3) := by decide +kernel
theorem dX7_readFarmer_54 : decode cX7_readFarmer 54 = .ok (.iload_n 1, 1) := by decide +kernel
theorem dX7_readFarmer_55 : decode cX7_readFarmer 55 = .ok (.iconst 3, 1) := by decide +kernel
theorem dX7_readFarmer_56 : decode cX7_readFarmer 56 = .ok (.iadd, 1) := by decide +kernel
theorem dX7_readFarmer_57 : decode cX7_readFarmer 57 = .ok (.aload_n 0, 1) := by decide +kernel
theorem dX7_readFarmer_58 : decode cX7_readFarmer 58 = .ok (.iconst 0, 1) := by decide +kernel
theorem dX7_readFarmer_59 : decode cX7_readFarmer 59 = .ok (.bipush 6, 2) := by decide +kernel
theorem dX7_readFarmer_61 : decode cX7_readFarmer 61 = .ok (.invokevirtual 88, 3) := by decide +kernel
theorem dX7_readFarmer_64 : decode cX7_readFarmer 64 = .ok (.iastore, 1) := by decide +kernel
theorem dX7_readFarmer_65 : decode cX7_readFarmer 65 = .ok (.aload_n 0, 1) := by decide +kernel
theorem dX7_readFarmer_66 : decode cX7_readFarmer 66 = .ok (.aload_n 0, 1) := by decide +kernel
theorem dX7_readFarmer_67 : decode cX7_readFarmer 67 = .ok (.getfield 78, 3) := by decide +kernel
theorem dX7_readFarmer_70 : decode cX7_readFarmer 70 = .ok (.ifCond .ne 22, 3) := by decide +kernel
theorem dX7_readFarmer_73 : decode cX7_readFarmer 73 = .ok (.aload_n 0, 1) := by decide +kernel
theorem dX7_readFarmer_74 : decode cX7_readFarmer 74 = .ok (.getfield 71, 3) := by decide +kernel
theorem dX7_readFarmer_77 : decode cX7_readFarmer 77 = .ok (.iconst 2, 1) := by decide +kernel
theorem dX7_readFarmer_78 : decode cX7_readFarmer 78 = .ok (.if_icmp .ne 18, 3) := by decide +kernel
theorem dX7_readFarmer_81 : decode cX7_readFarmer 81 = .ok (.aload_n 0, 1) := by decide +kernel
theorem dX7_readFarmer_82 : decode cX7_readFarmer 82 = .ok (.getfield 68, 3) := by decide +kernel
theorem dX7_readFarmer_85 : decode cX7_readFarmer 85 = .ok (.aload_n 0, 1) := by decide +kernel
theorem dX7_readFarmer_86 : decode cX7_readFarmer 86 = .ok (.getfield 85, 3) := by decide +kernel
theorem dX7_readFarmer_89 : decode cX7_readFarmer 89 = .ok (.if_icmp .ne 7, 3) := by decide +kernel
theorem dX7_readFarmer_92 : decode cX7_readFarmer 92 = .ok (.iconst 1, 1) := by decide +kernel
theorem dX7_readFarmer_93 : decode cX7_readFarmer 93 = .ok (.goto 4, 3) := by decide +kernel
theorem dX7_readFarmer_96 : decode cX7_readFarmer 96 = .ok (.iconst 0, 1) := by decide +kernel
theorem dX7_readFarmer_97 : decode cX7_readFarmer 97 = .ok (.putfield 78, 3) := by decide +kernel
theorem dX7_readFarmer_100 : decode cX7_readFarmer 100 = .ok (.aload_n 0, 1) := by decide +kernel
theorem dX7_readFarmer_101 : decode cX7_readFarmer 101 = .ok (.getfield 38, 3) := by decide +kernel
theorem dX7_readFarmer_104 : decode cX7_readFarmer 104 = .ok (.iload_n 1, 1) := by decide +kernel
theorem dX7_readFarmer_105 : decode cX7_readFarmer 105 = .ok (.iconst 4, 1) := by decide +kernel
theorem dX7_readFarmer_106 : decode cX7_readFarmer 106 = .ok (.iadd, 1) := by decide +kernel
theorem dX7_readFarmer_107 : decode cX7_readFarmer 107 = .ok (.aload_n 0, 1) := by decide +kernel
theorem dX7_readFarmer_108 : decode cX7_readFarmer 108 = .ok (.iconst 0, 1) := by decide +kernel
theorem dX7_readFarmer_109 : decode cX7_readFarmer 109 = .ok (.iconst 5, 1) := by decide +kernel
theorem dX7_readFarmer_110 : decode cX7_readFarmer 110 = .ok (.invokevirtual 88, 3) := by decide +kernel
theorem dX7_readFarmer_113 : decode cX7_readFarmer 113 = .ok (.iastore, 1) := by decide +kernel
theorem dX7_readFarmer_114 : decode cX7_readFarmer 114 = .ok (.aload_n 0, 1) := by decide +kernel
theorem dX7_readFarmer_115 : decode cX7_readFarmer 115 = .ok (.dup, 1) := by decide +kernel
theorem dX7_readFarmer_116 : decode cX7_readFarmer 116 = .ok (.getfield 85, 3) := by decide +kernel
theorem dX7_readFarmer_119 : decode cX7_readFarmer 119 = .ok (.iconst 1, 1) := by decide +kernel
theorem dX7_readFarmer_120 : decode cX7_readFarmer 120 = .ok (.iadd, 1) := by decide +kernel
theorem dX7_readFarmer_121 : decode cX7_readFarmer 121 = .ok (.putfield 85, 3) := by decide +kernel
theorem dX7_readFarmer_124 : decode cX7_readFarmer 124 = .ok (.return_, 1) := by decide +kernel
theorem dX7_readItem_0 : decode cX7_readItem 0 = .ok (.aload_n 0, 1) := by decide +kernel
theorem dX7_readItem_1 : decode cX7_readItem 1 = .ok (.getfield 71, 3) := by decide +kernel
theorem dX7_readItem_4 : decode cX7_readItem 4 = .ok (.iconst 1, 1) := by decide +kernel
theorem dX7_readItem_5 : decode cX7_readItem 5 = .ok (.if_icmp .ne 12, 3) := by decide +kernel
theorem dX7_readItem_8 : decode cX7_readItem 8 = .ok (.aload_n 0, 1) := by decide +kernel
theorem dX7_readItem_9 : decode cX7_readItem 9 = .ok (.getfield 85, 3) := by decide +kernel
theorem dX7_readItem_12 : decode cX7_readItem 12 = .ok (.bipush 6, 2) := by decide +kernel
theorem dX7_readItem_14 : decode cX7_readItem 14 = .ok (.if_icmp .ne 9, 3) := by decide +kernel
theorem dX7_readItem_17 : decode cX7_readItem 17 = .ok (.aload_n 0, 1) := by decide +kernel
theorem dX7_readItem_18 : decode cX7_readItem 18 = .ok (.iconst 1, 1) := by decide +kernel
theorem dX7_readItem_19 : decode cX7_readItem 19 = .ok (.putfield 78, 3) := by decide +kernel
theorem dX7_readItem_22 : decode cX7_readItem 22 = .ok (.return_, 1) := by decide +kernel
theorem dX7_readItem_23 : decode cX7_readItem 23 = .ok (.aload_n 0, 1) := by decide +kernel
theorem dX7_readItem_24 : decode cX7_readItem 24 = .ok (.invokevirtual 82, 3) := by decide +kernel
theorem dX7_readItem_27 : decode cX7_readItem 27 = .ok (.aload_n 0, 1) := by decide +kernel
theorem dX7_readItem_28 : decode cX7_readItem 28 = .ok (.invokevirtual 92, 3) := by decide +kernel
theorem dX7_readItem_31 : decode cX7_readItem 31 = .ok (.aload_n 0, 1) := by decide +kernel
theorem dX7_readItem_32 : decode cX7_readItem 32 = .ok (.aload_n 0, 1) := by decide +kernel
theorem dX7_readItem_33 : decode cX7_readItem 33 = .ok (.getfield 78, 3) := by decide +kernel
theorem dX7_readItem_36 : decode cX7_readItem 36 = .ok (.ifCond .ne 11, 3) := by decide +kernel
theorem dX7_readItem_39 : decode cX7_readItem 39 = .ok (.aload_n 0, 1) := by decide +kernel
theorem dX7_readItem_40 : decode cX7_readItem 40 = .ok (.getfield 71, 3) := by decide +kernel
theorem dX7_readItem_43 : decode cX7_readItem 43 = .ok (.iconst 3, 1) := by decide +kernel
theorem dX7_readItem_44 : decode cX7_readItem 44 = .ok (.if_icmp .eq 7, 3) := by decide +kernel
theorem dX7_readItem_47 : decode cX7_readItem 47 = .ok (.iconst 1, 1) := by decide +kernel
theorem dX7_readItem_48 : decode cX7_readItem 48 = .ok (.goto 4, 3) := by decide +kernel
theorem dX7_readItem_51 : decode cX7_readItem 51 = .ok (.iconst 0, 1) := by decide +kernel
theorem dX7_readItem_52 : decode cX7_readItem 52 = .ok (.putfield 78, 3) := by decide +kernel
theorem dX7_readItem_55 : decode cX7_readItem 55 = .ok (.aload_n 0, 1) := by decide +kernel
theorem dX7_readItem_56 : decode cX7_readItem 56 = .ok (.getfield 78, 3) := by decide +kernel
theorem dX7_readItem_59 : decode cX7_readItem 59 = .ok (.ifCond .ne 7, 3) := by decide +kernel
theorem dX7_readItem_62 : decode cX7_readItem 62 = .ok (.aload_n 0, 1) := by decide +kernel
theorem dX7_readItem_63 : decode cX7_readItem 63 = .ok (.invokevirtual 82, 3) := by decide +kernel
theorem dX7_readItem_66 : decode cX7_readItem 66 = .ok (.return_, 1) := by decide +kernel
theorem dX7_valley_0 : decode cX7_valley 0 = .ok (.aload_n 0, 1) := by decide +kernel
theorem dX7_valley_1 : decode cX7_valley 1 = .ok (.iconst 0, 1) := by decide +kernel
theorem dX7_valley_2 : decode cX7_valley 2 = .ok (.putfield 58, 3) := by decide +kernel
theorem dX7_valley_5 : decode cX7_valley 5 = .ok (.aload_n 0, 1) := by decide +kernel
theorem dX7_valley_6 : decode cX7_valley 6 = .ok (.iconst 0, 1) := by decide +kernel
theorem dX7_valley_7 : decode cX7_valley 7 = .ok (.putfield 78, 3) := by decide +kernel
theorem dX7_valley_10 : decode cX7_valley 10 = .ok (.aload_n 0, 1) := by decide +kernel
theorem dX7_valley_11 : decode cX7_valley 11 = .ok (.iconst 0, 1) := by decide +kernel
theorem dX7_valley_12 : decode cX7_valley 12 = .ok (.putfield 95, 3) := by decide +kernel
theorem dX7_valley_15 : decode cX7_valley 15 = .ok (.aload_n 0, 1) := by decide +kernel
theorem dX7_valley_16 : decode cX7_valley 16 = .ok (.iconst 0, 1) := by decide +kernel
theorem dX7_valley_17 : decode cX7_valley 17 = .ok (.putfield 85, 3) := by decide +kernel
theorem dX7_valley_20 : decode cX7_valley 20 = .ok (.aload_n 0, 1) := by decide +kernel
theorem dX7_valley_21 : decode cX7_valley 21 = .ok (.invokevirtual 82, 3) := by decide +kernel
theorem dX7_valley_24 : decode cX7_valley 24 = .ok (.aload_n 0, 1) := by decide +kernel
theorem dX7_valley_25 : decode cX7_valley 25 = .ok (.getfield 71, 3) := by decide +kernel
theorem dX7_valley_28 : decode cX7_valley 28 = .ok (.ifCond .eq 27, 3) := by decide +kernel
theorem dX7_valley_31 : decode cX7_valley 31 = .ok (.aload_n 0, 1) := by decide +kernel
theorem dX7_valley_32 : decode cX7_valley 32 = .ok (.getfield 78, 3) := by decide +kernel
theorem dX7_valley_35 : decode cX7_valley 35 = .ok (.ifCond .ne 20, 3) := by decide +kernel
theorem dX7_valley_38 : decode cX7_valley 38 = .ok (.aload_n 0, 1) := by decide +kernel
theorem dX7_valley_39 : decode cX7_valley 39 = .ok (.invokevirtual 98, 3) := by decide +kernel
theorem dX7_valley_42 : decode cX7_valley 42 = .ok (.aload_n 0, 1) := by decide +kernel
theorem dX7_valley_43 : decode cX7_valley 43 = .ok (.dup, 1) := by decide +kernel
theorem dX7_valley_44 : decode cX7_valley 44 = .ok (.getfield 95, 3) := by decide +kernel
theorem dX7_valley_47 : decode cX7_valley 47 = .ok (.iconst 1, 1) := by decide +kernel
theorem dX7_valley_48 : decode cX7_valley 48 = .ok (.iadd, 1) := by decide +kernel
theorem dX7_valley_49 : decode cX7_valley 49 = .ok (.putfield 95, 3) := by decide +kernel
theorem dX7_valley_52 : decode cX7_valley 52 = .ok (.goto (-28), 3) := by decide +kernel
theorem dX7_valley_55 : decode cX7_valley 55 = .ok (.iconst 0, 1) := by decide +kernel
theorem dX7_valley_56 : decode cX7_valley 56 = .ok (.istore_n 1, 1) := by decide +kernel
theorem dX7_valley_57 : decode cX7_valley 57 = .ok (.iload_n 1, 1) := by decide +kernel
theorem dX7_valley_58 : decode cX7_valley 58 = .ok (.aload_n 0, 1) := by decide +kernel
theorem dX7_valley_59 : decode cX7_valley 59 = .ok (.getfield 85, 3) := by decide +kernel
theorem dX7_valley_62 : decode cX7_valley 62 = .ok (.if_icmp .ge 42, 3) := by decide +kernel
theorem dX7_valley_65 : decode cX7_valley 65 = .ok (.aload_n 0, 1) := by decide +kernel
theorem dX7_valley_66 : decode cX7_valley 66 = .ok (.getfield 78, 3) := by decide +kernel
theorem dX7_valley_69 : decode cX7_valley 69 = .ok (.ifCond .ne 35, 3) := by decide +kernel
theorem dX7_valley_72 : decode cX7_valley 72 = .ok (.aload_n 0, 1) := by decide +kernel
theorem dX7_valley_73 : decode cX7_valley 73 = .ok (.aload_n 0, 1) := by decide +kernel
theorem dX7_valley_74 : decode cX7_valley 74 = .ok (.getfield 38, 3) := by decide +kernel
theorem dX7_valley_77 : decode cX7_valley 77 = .ok (.iconst 5, 1) := by decide +kernel
theorem dX7_valley_78 : decode cX7_valley 78 = .ok (.iload_n 1, 1) := by decide +kernel
theorem dX7_valley_79 : decode cX7_valley 79 = .ok (.imul, 1) := by decide +kernel
theorem dX7_valley_80 : decode cX7_valley 80 = .ok (.iconst 4, 1) := by decide +kernel
theorem dX7_valley_81 : decode cX7_valley 81 = .ok (.iadd, 1) := by decide +kernel
theorem dX7_valley_82 : decode cX7_valley 82 = .ok (.iaload, 1) := by decide +kernel
theorem dX7_valley_83 : decode cX7_valley 83 = .ok (.aload_n 0, 1) := by decide +kernel
theorem dX7_valley_84 : decode cX7_valley 84 = .ok (.getfield 85, 3) := by decide +kernel
theorem dX7_valley_87 : decode cX7_valley 87 = .ok (.if_icmp .lt 7, 3) := by decide +kernel
theorem dX7_valley_90 : decode cX7_valley 90 = .ok (.iconst 1, 1) := by decide +kernel
theorem dX7_valley_91 : decode cX7_valley 91 = .ok (.goto 4, 3) := by decide +kernel
theorem dX7_valley_94 : decode cX7_valley 94 = .ok (.iconst 0, 1) := by decide +kernel
theorem dX7_valley_95 : decode cX7_valley 95 = .ok (.putfield 78, 3) := by decide +kernel
theorem dX7_valley_98 : decode cX7_valley 98 = .ok (.iinc 1 1, 3) := by decide +kernel
theorem dX7_valley_101 : decode cX7_valley 101 = .ok (.goto (-44), 3) := by decide +kernel
theorem dX7_valley_104 : decode cX7_valley 104 = .ok (.aload_n 0, 1) := by decide +kernel
theorem dX7_valley_105 : decode cX7_valley 105 = .ok (.getfield 78, 3) := by decide +kernel
theorem dX7_valley_108 : decode cX7_valley 108 = .ok (.ifCond .eq 11, 3) := by decide +kernel
theorem dX7_valley_111 : decode cX7_valley 111 = .ok (.bipush (-10), 2) := by decide +kernel
theorem dX7_valley_113 : decode cX7_valley 113 = .ok (.aload_n 0, 1) := by decide +kernel
theorem dX7_valley_114 : decode cX7_valley 114 = .ok (.getfield 65, 3) := by decide +kernel
theorem dX7_valley_117 : decode cX7_valley 117 = .ok (.isub, 1) := by decide +kernel
theorem dX7_valley_118 : decode cX7_valley 118 = .ok (.ireturn, 1) := by decide +kernel
theorem dX7_valley_119 : decode cX7_valley 119 = .ok (.aload_n 0, 1) := by decide +kernel
theorem dX7_valley_120 : decode cX7_valley 120 = .ok (.invokevirtual 101, 3) := by decide +kernel
theorem dX7_valley_123 : decode cX7_valley 123 = .ok (.aload_n 0, 1) := by decide +kernel
theorem dX7_valley_124 : decode cX7_valley 124 = .ok (.getfield 95, 3) := by decide +kernel
theorem dX7_valley_127 : decode cX7_valley 127 = .ok (.ireturn, 1) := by decide +kernel
theorem dX7_settles_0 : decode cX7_settles 0 = .ok (.aload_n 0, 1) := by decide +kernel
theorem dX7_settles_1 : decode cX7_settles 1 = .ok (.aload_n 0, 1) := by decide +kernel
theorem dX7_settles_2 : decode cX7_settles 2 = .ok (.getfield 85, 3) := by decide +kernel
theorem dX7_settles_5 : decode cX7_settles 5 = .ok (.putfield 47, 3) := by decide +kernel
theorem dX7_settles_8 : decode cX7_settles 8 = .ok (.iconst 0, 1) := by decide +kernel
theorem dX7_settles_9 : decode cX7_settles 9 = .ok (.istore_n 1, 1) := by decide +kernel
theorem dX7_settles_10 : decode cX7_settles 10 = .ok (.iload_n 1, 1) := by decide +kernel
theorem dX7_settles_11 : decode cX7_settles 11 = .ok (.bipush 14, 2) := by decide +kernel
theorem dX7_settles_13 : decode cX7_settles 13 = .ok (.if_icmp .ge 16, 3) := by decide +kernel
theorem dX7_settles_16 : decode cX7_settles 16 = .ok (.aload_n 0, 1) := by decide +kernel
theorem dX7_settles_17 : decode cX7_settles 17 = .ok (.getfield 19, 3) := by decide +kernel
theorem dX7_settles_20 : decode cX7_settles 20 = .ok (.iload_n 1, 1) := by decide +kernel
theorem dX7_settles_21 : decode cX7_settles 21 = .ok (.iconst 0, 1) := by decide +kernel
theorem dX7_settles_22 : decode cX7_settles 22 = .ok (.iastore, 1) := by decide +kernel
theorem dX7_settles_23 : decode cX7_settles 23 = .ok (.iinc 1 1, 3) := by decide +kernel
theorem dX7_settles_26 : decode cX7_settles 26 = .ok (.goto (-16), 3) := by decide +kernel
theorem dX7_settles_29 : decode cX7_settles 29 = .ok (.iconst 0, 1) := by decide +kernel
theorem dX7_settles_30 : decode cX7_settles 30 = .ok (.istore_n 1, 1) := by decide +kernel
theorem dX7_settles_31 : decode cX7_settles 31 = .ok (.iload_n 1, 1) := by decide +kernel
theorem dX7_settles_32 : decode cX7_settles 32 = .ok (.aload_n 0, 1) := by decide +kernel
theorem dX7_settles_33 : decode cX7_settles 33 = .ok (.getfield 47, 3) := by decide +kernel
theorem dX7_settles_36 : decode cX7_settles 36 = .ok (.if_icmp .ge 92, 3) := by decide +kernel
theorem dX7_settles_39 : decode cX7_settles 39 = .ok (.aload_n 0, 1) := by decide +kernel
theorem dX7_settles_40 : decode cX7_settles 40 = .ok (.getfield 7, 3) := by decide +kernel
theorem dX7_settles_43 : decode cX7_settles 43 = .ok (.iload_n 1, 1) := by decide +kernel
theorem dX7_settles_44 : decode cX7_settles 44 = .ok (.aload_n 0, 1) := by decide +kernel
theorem dX7_settles_45 : decode cX7_settles 45 = .ok (.getfield 38, 3) := by decide +kernel
theorem dX7_settles_48 : decode cX7_settles 48 = .ok (.iconst 5, 1) := by decide +kernel
theorem dX7_settles_49 : decode cX7_settles 49 = .ok (.iload_n 1, 1) := by decide +kernel
theorem dX7_settles_50 : decode cX7_settles 50 = .ok (.imul, 1) := by decide +kernel
theorem dX7_settles_51 : decode cX7_settles 51 = .ok (.iaload, 1) := by decide +kernel
theorem dX7_settles_52 : decode cX7_settles 52 = .ok (.iastore, 1) := by decide +kernel
theorem dX7_settles_53 : decode cX7_settles 53 = .ok (.aload_n 0, 1) := by decide +kernel
theorem dX7_settles_54 : decode cX7_settles 54 = .ok (.getfield 13, 3) := by decide +kernel
theorem dX7_settles_57 : decode cX7_settles 57 = .ok (.iload_n 1, 1) := by decide +kernel
theorem dX7_settles_58 : decode cX7_settles 58 = .ok (.aload_n 0, 1) := by decide +kernel
theorem dX7_settles_59 : decode cX7_settles 59 = .ok (.getfield 38, 3) := by decide +kernel
theorem dX7_settles_62 : decode cX7_settles 62 = .ok (.iconst 5, 1) := by decide +kernel
theorem dX7_settles_63 : decode cX7_settles 63 = .ok (.iload_n 1, 1) := by decide +kernel
theorem dX7_settles_64 : decode cX7_settles 64 = .ok (.imul, 1) := by decide +kernel
theorem dX7_settles_65 : decode cX7_settles 65 = .ok (.iconst 2, 1) := by decide +kernel
theorem dX7_settles_66 : decode cX7_settles 66 = .ok (.iadd, 1) := by decide +kernel
theorem dX7_settles_67 : decode cX7_settles 67 = .ok (.iaload, 1) := by decide +kernel
theorem dX7_settles_68 : decode cX7_settles 68 = .ok (.iastore, 1) := by decide +kernel
theorem dX7_settles_69 : decode cX7_settles 69 = .ok (.aload_n 0, 1) := by decide +kernel
theorem dX7_settles_70 : decode cX7_settles 70 = .ok (.getfield 16, 3) := by decide +kernel
theorem dX7_settles_73 : decode cX7_settles 73 = .ok (.iload_n 1, 1) := by decide +kernel
theorem dX7_settles_74 : decode cX7_settles 74 = .ok (.aload_n 0, 1) := by decide +kernel
theorem dX7_settles_75 : decode cX7_settles 75 = .ok (.getfield 38, 3) := by decide +kernel
theorem dX7_settles_78 : decode cX7_settles 78 = .ok (.iconst 5, 1) := by decide +kernel
theorem dX7_settles_79 : decode cX7_settles 79 = .ok (.iload_n 1, 1) := by decide +kernel
theorem dX7_settles_80 : decode cX7_settles 80 = .ok (.imul, 1) := by decide +kernel
theorem dX7_settles_81 : decode cX7_settles 81 = .ok (.iconst 3, 1) := by decide +kernel
theorem dX7_settles_82 : decode cX7_settles 82 = .ok (.iadd, 1) := by decide +kernel
theorem dX7_settles_83 : decode cX7_settles 83 = .ok (.iaload, 1) := by decide +kernel
theorem dX7_settles_84 : decode cX7_settles 84 = .ok (.iastore, 1) := by decide +kernel
theorem dX7_settles_85 : decode cX7_settles 85 = .ok (.aload_n 0, 1) := by decide +kernel
theorem dX7_settles_86 : decode cX7_settles 86 = .ok (.getfield 19, 3) := by decide +kernel
theorem dX7_settles_89 : decode cX7_settles 89 = .ok (.iconst 2, 1) := by decide +kernel
theorem dX7_settles_90 : decode cX7_settles 90 = .ok (.iload_n 1, 1) := by decide +kernel
theorem dX7_settles_91 : decode cX7_settles 91 = .ok (.iadd, 1) := by decide +kernel
theorem dX7_settles_92 : decode cX7_settles 92 = .ok (.aload_n 0, 1) := by decide +kernel
theorem dX7_settles_93 : decode cX7_settles 93 = .ok (.getfield 38, 3) := by decide +kernel
theorem dX7_settles_96 : decode cX7_settles 96 = .ok (.iconst 5, 1) := by decide +kernel
theorem dX7_settles_97 : decode cX7_settles 97 = .ok (.iload_n 1, 1) := by decide +kernel
theorem dX7_settles_98 : decode cX7_settles 98 = .ok (.imul, 1) := by decide +kernel
theorem dX7_settles_99 : decode cX7_settles 99 = .ok (.iconst 1, 1) := by decide +kernel
theorem dX7_settles_100 : decode cX7_settles 100 = .ok (.iadd, 1) := by decide +kernel
theorem dX7_settles_101 : decode cX7_settles 101 = .ok (.iaload, 1) := by decide +kernel
theorem dX7_settles_102 : decode cX7_settles 102 = .ok (.iastore, 1) := by decide +kernel
theorem dX7_settles_103 : decode cX7_settles 103 = .ok (.aload_n 0, 1) := by decide +kernel
theorem dX7_settles_104 : decode cX7_settles 104 = .ok (.getfield 19, 3) := by decide +kernel
theorem dX7_settles_107 : decode cX7_settles 107 = .ok (.bipush 8, 2) := by decide +kernel
theorem dX7_settles_109 : decode cX7_settles 109 = .ok (.iload_n 1, 1) := by decide +kernel
theorem dX7_settles_110 : decode cX7_settles 110 = .ok (.iadd, 1) := by decide +kernel
theorem dX7_settles_111 : decode cX7_settles 111 = .ok (.aload_n 0, 1) := by decide +kernel
theorem dX7_settles_112 : decode cX7_settles 112 = .ok (.getfield 38, 3) := by decide +kernel
theorem dX7_settles_115 : decode cX7_settles 115 = .ok (.iconst 5, 1) := by decide +kernel
theorem dX7_settles_116 : decode cX7_settles 116 = .ok (.iload_n 1, 1) := by decide +kernel
theorem dX7_settles_117 : decode cX7_settles 117 = .ok (.imul, 1) := by decide +kernel
theorem dX7_settles_118 : decode cX7_settles 118 = .ok (.iconst 4, 1) := by decide +kernel
theorem dX7_settles_119 : decode cX7_settles 119 = .ok (.iadd, 1) := by decide +kernel
theorem dX7_settles_120 : decode cX7_settles 120 = .ok (.iaload, 1) := by decide +kernel
theorem dX7_settles_121 : decode cX7_settles 121 = .ok (.iastore, 1) := by decide +kernel
theorem dX7_settles_122 : decode cX7_settles 122 = .ok (.iinc 1 1, 3) := by decide +kernel
theorem dX7_settles_125 : decode cX7_settles 125 = .ok (.goto (-94), 3) := by decide +kernel
theorem dX7_settles_128 : decode cX7_settles 128 = .ok (.aload_n 0, 1) := by decide +kernel
theorem dX7_settles_129 : decode cX7_settles 129 = .ok (.iconst 0, 1) := by decide +kernel
theorem dX7_settles_130 : decode cX7_settles 130 = .ok (.putfield 104, 3) := by decide +kernel
theorem dX7_settles_133 : decode cX7_settles 133 = .ok (.aload_n 0, 1) := by decide +kernel
theorem dX7_settles_134 : decode cX7_settles 134 = .ok (.iconst 0, 1) := by decide +kernel
theorem dX7_settles_135 : decode cX7_settles 135 = .ok (.putfield 107, 3) := by decide +kernel
theorem dX7_settles_138 : decode cX7_settles 138 = .ok (.aload_n 0, 1) := by decide +kernel
theorem dX7_settles_139 : decode cX7_settles 139 = .ok (.getfield 28, 3) := by decide +kernel
theorem dX7_settles_142 : decode cX7_settles 142 = .ok (.iconst 0, 1) := by decide +kernel
theorem dX7_settles_143 : decode cX7_settles 143 = .ok (.iconst 0, 1) := by decide +kernel
theorem dX7_settles_144 : decode cX7_settles 144 = .ok (.bastore, 1) := by decide +kernel
theorem dX7_settles_145 : decode cX7_settles 145 = .ok (.aload_n 0, 1) := by decide +kernel
theorem dX7_settles_146 : decode cX7_settles 146 = .ok (.getfield 28, 3) := by decide +kernel
theorem dX7_settles_149 : decode cX7_settles 149 = .ok (.iconst 1, 1) := by decide +kernel
theorem dX7_settles_150 : decode cX7_settles 150 = .ok (.iconst 0, 1) := by decide +kernel
theorem dX7_settles_151 : decode cX7_settles 151 = .ok (.bastore, 1) := by decide +kernel
theorem dX7_settles_152 : decode cX7_settles 152 = .ok (.aload_n 0, 1) := by decide +kernel
theorem dX7_settles_153 : decode cX7_settles 153 = .ok (.iconst 0, 1) := by decide +kernel
theorem dX7_settles_154 : decode cX7_settles 154 = .ok (.putfield 55, 3) := by decide +kernel
theorem dX7_settles_157 : decode cX7_settles 157 = .ok (.return_, 1) := by decide +kernel
theorem dX7_asItIs_0 : decode cX7_asItIs 0 = .ok (.aload_n 0, 1) := by decide +kernel
theorem dX7_asItIs_1 : decode cX7_asItIs 1 = .ok (.getfield 41, 3) := by decide +kernel
theorem dX7_asItIs_4 : decode cX7_asItIs 4 = .ok (.iconst 0, 1) := by decide +kernel
theorem dX7_asItIs_5 : decode cX7_asItIs 5 = .ok (.aload_n 0, 1) := by decide +kernel
theorem dX7_asItIs_6 : decode cX7_asItIs 6 = .ok (.getfield 19, 3) := by decide +kernel
theorem dX7_asItIs_9 : decode cX7_asItIs 9 = .ok (.iconst 0, 1) := by decide +kernel
theorem dX7_asItIs_10 : decode cX7_asItIs 10 = .ok (.invokestatic 110, 3) := by decide +kernel
theorem dX7_asItIs_13 : decode cX7_asItIs 13 = .ok (.return_, 1) := by decide +kernel
theorem dX7_asks_0 : decode cX7_asks 0 = .ok (.aload_n 0, 1) := by decide +kernel
theorem dX7_asks_1 : decode cX7_asks 1 = .ok (.getfield 41, 3) := by decide +kernel
theorem dX7_asks_4 : decode cX7_asks 4 = .ok (.iconst 1, 1) := by decide +kernel
theorem dX7_asks_5 : decode cX7_asks 5 = .ok (.iaload, 1) := by decide +kernel
theorem dX7_asks_6 : decode cX7_asks 6 = .ok (.istore_n 1, 1) := by decide +kernel
theorem dX7_asks_7 : decode cX7_asks 7 = .ok (.iconst 0, 1) := by decide +kernel
theorem dX7_asks_8 : decode cX7_asks 8 = .ok (.istore_n 2, 1) := by decide +kernel
theorem dX7_asks_9 : decode cX7_asks 9 = .ok (.iload_n 2, 1) := by decide +kernel
theorem dX7_asks_10 : decode cX7_asks 10 = .ok (.aload_n 0, 1) := by decide +kernel
theorem dX7_asks_11 : decode cX7_asks 11 = .ok (.getfield 47, 3) := by decide +kernel
theorem dX7_asks_14 : decode cX7_asks 14 = .ok (.if_icmp .ge 63, 3) := by decide +kernel
theorem dX7_asks_17 : decode cX7_asks 17 = .ok (.aload_n 0, 1) := by decide +kernel
theorem dX7_asks_18 : decode cX7_asks 18 = .ok (.getfield 13, 3) := by decide +kernel
theorem dX7_asks_21 : decode cX7_asks 21 = .ok (.iload_n 2, 1) := by decide +kernel
theorem dX7_asks_22 : decode cX7_asks 22 = .ok (.iaload, 1) := by decide +kernel
theorem dX7_asks_23 : decode cX7_asks 23 = .ok (.aload_n 0, 1) := by decide +kernel
theorem dX7_asks_24 : decode cX7_asks 24 = .ok (.getfield 41, 3) := by decide +kernel
theorem dX7_asks_27 : decode cX7_asks 27 = .ok (.iconst 0, 1) := by decide +kernel
theorem dX7_asks_28 : decode cX7_asks 28 = .ok (.iaload, 1) := by decide +kernel
theorem dX7_asks_29 : decode cX7_asks 29 = .ok (.if_icmp .le 16, 3) := by decide +kernel
theorem dX7_asks_32 : decode cX7_asks 32 = .ok (.iload_n 1, 1) := by decide +kernel
theorem dX7_asks_33 : decode cX7_asks 33 = .ok (.invokestatic 114, 3) := by decide +kernel
theorem dX7_asks_36 : decode cX7_asks 36 = .ok (.aload_n 0, 1) := by decide +kernel
theorem dX7_asks_37 : decode cX7_asks 37 = .ok (.getfield 16, 3) := by decide +kernel
theorem dX7_asks_40 : decode cX7_asks 40 = .ok (.iload_n 2, 1) := by decide +kernel
theorem dX7_asks_41 : decode cX7_asks 41 = .ok (.iaload, 1) := by decide +kernel
theorem dX7_asks_42 : decode cX7_asks 42 = .ok (.if_icmp .lt 7, 3) := by decide +kernel
theorem dX7_asks_45 : decode cX7_asks 45 = .ok (.iconst 1, 1) := by decide +kernel
theorem dX7_asks_46 : decode cX7_asks 46 = .ok (.goto 4, 3) := by decide +kernel
theorem dX7_asks_49 : decode cX7_asks 49 = .ok (.iconst 0, 1) := by decide +kernel
theorem dX7_asks_50 : decode cX7_asks 50 = .ok (.istore_n 3, 1) := by decide +kernel
theorem dX7_asks_51 : decode cX7_asks 51 = .ok (.aload_n 0, 1) := by decide +kernel
theorem dX7_asks_52 : decode cX7_asks 52 = .ok (.getfield 41, 3) := by decide +kernel
theorem dX7_asks_55 : decode cX7_asks 55 = .ok (.iconst 1, 1) := by decide +kernel
theorem dX7_asks_56 : decode cX7_asks 56 = .ok (.dup2, 1) := by decide +kernel
theorem dX7_asks_57 : decode cX7_asks 57 = .ok (.iaload, 1) := by decide +kernel
theorem dX7_asks_58 : decode cX7_asks 58 = .ok (.iload_n 3, 1) := by decide +kernel
theorem dX7_asks_59 : decode cX7_asks 59 = .ok (.ifCond .eq 9, 3) := by decide +kernel
theorem dX7_asks_62 : decode cX7_asks 62 = .ok (.iconst 1, 1) := by decide +kernel
theorem dX7_asks_63 : decode cX7_asks 63 = .ok (.iload_n 2, 1) := by decide +kernel
theorem dX7_asks_64 : decode cX7_asks 64 = .ok (.ishl, 1) := by decide +kernel
theorem dX7_asks_65 : decode cX7_asks 65 = .ok (.goto 4, 3) := by decide +kernel
theorem dX7_asks_68 : decode cX7_asks 68 = .ok (.iconst 0, 1) := by decide +kernel
theorem dX7_asks_69 : decode cX7_asks 69 = .ok (.ior, 1) := by decide +kernel
theorem dX7_asks_70 : decode cX7_asks 70 = .ok (.iastore, 1) := by decide +kernel
theorem dX7_asks_71 : decode cX7_asks 71 = .ok (.iinc 2 1, 3) := by decide +kernel
theorem dX7_asks_74 : decode cX7_asks 74 = .ok (.goto (-65), 3) := by decide +kernel
theorem dX7_asks_77 : decode cX7_asks 77 = .ok (.return_, 1) := by decide +kernel
theorem dX7_mowsOwn_0 : decode cX7_mowsOwn 0 = .ok (.aload_n 0, 1) := by decide +kernel
theorem dX7_mowsOwn_1 : decode cX7_mowsOwn 1 = .ok (.getfield 41, 3) := by decide +kernel
theorem dX7_mowsOwn_4 : decode cX7_mowsOwn 4 = .ok (.iconst 1, 1) := by decide +kernel
theorem dX7_mowsOwn_5 : decode cX7_mowsOwn 5 = .ok (.iaload, 1) := by decide +kernel
theorem dX7_mowsOwn_6 : decode cX7_mowsOwn 6 = .ok (.iload_n 1, 1) := by decide +kernel
theorem dX7_mowsOwn_7 : decode cX7_mowsOwn 7 = .ok (.invokestatic 117, 3) := by decide +kernel
theorem dX7_mowsOwn_10 : decode cX7_mowsOwn 10 = .ok (.ifCond .eq 14, 3) := by decide +kernel
theorem dX7_mowsOwn_13 : decode cX7_mowsOwn 13 = .ok (.aload_n 0, 1) := by decide +kernel
theorem dX7_mowsOwn_14 : decode cX7_mowsOwn 14 = .ok (.getfield 41, 3) := by decide +kernel
theorem dX7_mowsOwn_17 : decode cX7_mowsOwn 17 = .ok (.iconst 2, 1) := by decide +kernel
theorem dX7_mowsOwn_18 : decode cX7_mowsOwn 18 = .ok (.iload_n 1, 1) := by decide +kernel
theorem dX7_mowsOwn_19 : decode cX7_mowsOwn 19 = .ok (.iadd, 1) := by decide +kernel
theorem dX7_mowsOwn_20 : decode cX7_mowsOwn 20 = .ok (.iaload, 1) := by decide +kernel
theorem dX7_mowsOwn_21 : decode cX7_mowsOwn 21 = .ok (.ifCond .ne 5, 3) := by decide +kernel
theorem dX7_mowsOwn_24 : decode cX7_mowsOwn 24 = .ok (.iconst 0, 1) := by decide +kernel
theorem dX7_mowsOwn_25 : decode cX7_mowsOwn 25 = .ok (.ireturn, 1) := by decide +kernel
theorem dX7_mowsOwn_26 : decode cX7_mowsOwn 26 = .ok (.aload_n 0, 1) := by decide +kernel
theorem dX7_mowsOwn_27 : decode cX7_mowsOwn 27 = .ok (.getfield 41, 3) := by decide +kernel
theorem dX7_mowsOwn_30 : decode cX7_mowsOwn 30 = .ok (.iconst 2, 1) := by decide +kernel
theorem dX7_mowsOwn_31 : decode cX7_mowsOwn 31 = .ok (.iload_n 1, 1) := by decide +kernel
theorem dX7_mowsOwn_32 : decode cX7_mowsOwn 32 = .ok (.iadd, 1) := by decide +kernel
theorem dX7_mowsOwn_33 : decode cX7_mowsOwn 33 = .ok (.dup2, 1) := by decide +kernel
theorem dX7_mowsOwn_34 : decode cX7_mowsOwn 34 = .ok (.iaload, 1) := by decide +kernel
theorem dX7_mowsOwn_35 : decode cX7_mowsOwn 35 = .ok (.iconst 1, 1) := by decide +kernel
theorem dX7_mowsOwn_36 : decode cX7_mowsOwn 36 = .ok (.isub, 1) := by decide +kernel
theorem dX7_mowsOwn_37 : decode cX7_mowsOwn 37 = .ok (.iastore, 1) := by decide +kernel
theorem dX7_mowsOwn_38 : decode cX7_mowsOwn 38 = .ok (.iconst 1, 1) := by decide +kernel
theorem dX7_mowsOwn_39 : decode cX7_mowsOwn 39 = .ok (.ireturn, 1) := by decide +kernel
theorem dX7_mowsOther_0 : decode cX7_mowsOther 0 = .ok (.aload_n 0, 1) := by decide +kernel
theorem dX7_mowsOther_1 : decode cX7_mowsOther 1 = .ok (.getfield 41, 3) := by decide +kernel
theorem dX7_mowsOther_4 : decode cX7_mowsOther 4 = .ok (.iconst 1, 1) := by decide +kernel
theorem dX7_mowsOther_5 : decode cX7_mowsOther 5 = .ok (.iaload, 1) := by decide +kernel
theorem dX7_mowsOther_6 : decode cX7_mowsOther 6 = .ok (.iload_n 1, 1) := by decide +kernel
theorem dX7_mowsOther_7 : decode cX7_mowsOther 7 = .ok (.invokestatic 117, 3) := by decide +kernel
theorem dX7_mowsOther_10 : decode cX7_mowsOther 10 = .ok (.ifCond .eq 14, 3) := by decide +kernel
theorem dX7_mowsOther_13 : decode cX7_mowsOther 13 = .ok (.aload_n 0, 1) := by decide +kernel
theorem dX7_mowsOther_14 : decode cX7_mowsOther 14 = .ok (.getfield 121, 3) := by decide +kernel
theorem dX7_mowsOther_17 : decode cX7_mowsOther 17 = .ok (.iload_n 1, 1) := by decide +kernel
theorem dX7_mowsOther_18 : decode cX7_mowsOther 18 = .ok (.invokestatic 117, 3) := by decide +kernel
theorem dX7_mowsOther_21 : decode cX7_mowsOther 21 = .ok (.ifCond .ne 5, 3) := by decide +kernel
theorem dX7_mowsOther_24 : decode cX7_mowsOther 24 = .ok (.iconst 0, 1) := by decide +kernel
theorem dX7_mowsOther_25 : decode cX7_mowsOther 25 = .ok (.ireturn, 1) := by decide +kernel
theorem dX7_mowsOther_26 : decode cX7_mowsOther 26 = .ok (.iconst 0, 1) := by decide +kernel
theorem dX7_mowsOther_27 : decode cX7_mowsOther 27 = .ok (.istore_n 2, 1) := by decide +kernel
theorem dX7_mowsOther_28 : decode cX7_mowsOther 28 = .ok (.iload_n 2, 1) := by decide +kernel
theorem dX7_mowsOther_29 : decode cX7_mowsOther 29 = .ok (.aload_n 0, 1) := by decide +kernel
theorem dX7_mowsOther_30 : decode cX7_mowsOther 30 = .ok (.getfield 47, 3) := by decide +kernel
theorem dX7_mowsOther_33 : decode cX7_mowsOther 33 = .ok (.if_icmp .ge 60, 3) := by decide +kernel
theorem dX7_mowsOther_36 : decode cX7_mowsOther 36 = .ok (.aload_n 0, 1) := by decide +kernel
theorem dX7_mowsOther_37 : decode cX7_mowsOther 37 = .ok (.getfield 41, 3) := by decide +kernel
theorem dX7_mowsOther_40 : decode cX7_mowsOther 40 = .ok (.bipush 8, 2) := by decide +kernel
theorem dX7_mowsOther_42 : decode cX7_mowsOther 42 = .ok (.iload_n 2, 1) := by decide +kernel
theorem dX7_mowsOther_43 : decode cX7_mowsOther 43 = .ok (.iadd, 1) := by decide +kernel
theorem dX7_mowsOther_44 : decode cX7_mowsOther 44 = .ok (.iaload, 1) := by decide +kernel
theorem dX7_mowsOther_45 : decode cX7_mowsOther 45 = .ok (.iload_n 1, 1) := by decide +kernel
theorem dX7_mowsOther_46 : decode cX7_mowsOther 46 = .ok (.if_icmp .ne 41, 3) := by decide +kernel
theorem dX7_mowsOther_49 : decode cX7_mowsOther 49 = .ok (.aload_n 0, 1) := by decide +kernel
theorem dX7_mowsOther_50 : decode cX7_mowsOther 50 = .ok (.getfield 41, 3) := by decide +kernel
theorem dX7_mowsOther_53 : decode cX7_mowsOther 53 = .ok (.iconst 1, 1) := by decide +kernel
theorem dX7_mowsOther_54 : decode cX7_mowsOther 54 = .ok (.iaload, 1) := by decide +kernel
theorem dX7_mowsOther_55 : decode cX7_mowsOther 55 = .ok (.iload_n 2, 1) := by decide +kernel
theorem dX7_mowsOther_56 : decode cX7_mowsOther 56 = .ok (.invokestatic 117, 3) := by decide +kernel
theorem dX7_mowsOther_59 : decode cX7_mowsOther 59 = .ok (.ifCond .eq 28, 3) := by decide +kernel
theorem dX7_mowsOther_62 : decode cX7_mowsOther 62 = .ok (.aload_n 0, 1) := by decide +kernel
theorem dX7_mowsOther_63 : decode cX7_mowsOther 63 = .ok (.getfield 41, 3) := by decide +kernel
theorem dX7_mowsOther_66 : decode cX7_mowsOther 66 = .ok (.iconst 2, 1) := by decide +kernel
theorem dX7_mowsOther_67 : decode cX7_mowsOther 67 = .ok (.iload_n 2, 1) := by decide +kernel
theorem dX7_mowsOther_68 : decode cX7_mowsOther 68 = .ok (.iadd, 1) := by decide +kernel
theorem dX7_mowsOther_69 : decode cX7_mowsOther 69 = .ok (.iaload, 1) := by decide +kernel
theorem dX7_mowsOther_70 : decode cX7_mowsOther 70 = .ok (.ifCond .le 17, 3) := by decide +kernel
theorem dX7_mowsOther_73 : decode cX7_mowsOther 73 = .ok (.aload_n 0, 1) := by decide +kernel
theorem dX7_mowsOther_74 : decode cX7_mowsOther 74 = .ok (.getfield 41, 3) := by decide +kernel
theorem dX7_mowsOther_77 : decode cX7_mowsOther 77 = .ok (.iconst 2, 1) := by decide +kernel
theorem dX7_mowsOther_78 : decode cX7_mowsOther 78 = .ok (.iload_n 2, 1) := by decide +kernel
theorem dX7_mowsOther_79 : decode cX7_mowsOther 79 = .ok (.iadd, 1) := by decide +kernel
theorem dX7_mowsOther_80 : decode cX7_mowsOther 80 = .ok (.dup2, 1) := by decide +kernel
theorem dX7_mowsOther_81 : decode cX7_mowsOther 81 = .ok (.iaload, 1) := by decide +kernel
theorem dX7_mowsOther_82 : decode cX7_mowsOther 82 = .ok (.iconst 1, 1) := by decide +kernel
theorem dX7_mowsOther_83 : decode cX7_mowsOther 83 = .ok (.isub, 1) := by decide +kernel
theorem dX7_mowsOther_84 : decode cX7_mowsOther 84 = .ok (.iastore, 1) := by decide +kernel
theorem dX7_mowsOther_85 : decode cX7_mowsOther 85 = .ok (.iconst 1, 1) := by decide +kernel
theorem dX7_mowsOther_86 : decode cX7_mowsOther 86 = .ok (.ireturn, 1) := by decide +kernel
theorem dX7_mowsOther_87 : decode cX7_mowsOther 87 = .ok (.iinc 2 1, 3) := by decide +kernel
theorem dX7_mowsOther_90 : decode cX7_mowsOther 90 = .ok (.goto (-62), 3) := by decide +kernel
theorem dX7_mowsOther_93 : decode cX7_mowsOther 93 = .ok (.iconst 0, 1) := by decide +kernel
theorem dX7_mowsOther_94 : decode cX7_mowsOther 94 = .ok (.ireturn, 1) := by decide +kernel
theorem dX7_goesBy_0 : decode cX7_goesBy 0 = .ok (.iconst 0, 1) := by decide +kernel
theorem dX7_goesBy_1 : decode cX7_goesBy 1 = .ok (.istore_n 2, 1) := by decide +kernel
theorem dX7_goesBy_2 : decode cX7_goesBy 2 = .ok (.aload_n 0, 1) := by decide +kernel
theorem dX7_goesBy_3 : decode cX7_goesBy 3 = .ok (.invokevirtual 124, 3) := by decide +kernel
theorem dX7_goesBy_6 : decode cX7_goesBy 6 = .ok (.iload_n 1, 1) := by decide +kernel
theorem dX7_goesBy_7 : decode cX7_goesBy 7 = .ok (.iconst 1, 1) := by decide +kernel
theorem dX7_goesBy_8 : decode cX7_goesBy 8 = .ok (.if_icmp .ne 99, 3) := by decide +kernel
theorem dX7_goesBy_11 : decode cX7_goesBy 11 = .ok (.aload_n 0, 1) := by decide +kernel
theorem dX7_goesBy_12 : decode cX7_goesBy 12 = .ok (.iconst 0, 1) := by decide +kernel
theorem dX7_goesBy_13 : decode cX7_goesBy 13 = .ok (.putfield 121, 3) := by decide +kernel
theorem dX7_goesBy_16 : decode cX7_goesBy 16 = .ok (.iconst 0, 1) := by decide +kernel
theorem dX7_goesBy_17 : decode cX7_goesBy 17 = .ok (.istore_n 3, 1) := by decide +kernel
theorem dX7_goesBy_18 : decode cX7_goesBy 18 = .ok (.iload_n 3, 1) := by decide +kernel
theorem dX7_goesBy_19 : decode cX7_goesBy 19 = .ok (.aload_n 0, 1) := by decide +kernel
theorem dX7_goesBy_20 : decode cX7_goesBy 20 = .ok (.getfield 47, 3) := by decide +kernel
theorem dX7_goesBy_23 : decode cX7_goesBy 23 = .ok (.if_icmp .ge 36, 3) := by decide +kernel
theorem dX7_goesBy_26 : decode cX7_goesBy 26 = .ok (.aload_n 0, 1) := by decide +kernel
theorem dX7_goesBy_27 : decode cX7_goesBy 27 = .ok (.dup, 1) := by decide +kernel
theorem dX7_goesBy_28 : decode cX7_goesBy 28 = .ok (.getfield 121, 3) := by decide +kernel
theorem dX7_goesBy_31 : decode cX7_goesBy 31 = .ok (.aload_n 0, 1) := by decide +kernel
theorem dX7_goesBy_32 : decode cX7_goesBy 32 = .ok (.getfield 41, 3) := by decide +kernel
theorem dX7_goesBy_35 : decode cX7_goesBy 35 = .ok (.iconst 2, 1) := by decide +kernel
theorem dX7_goesBy_36 : decode cX7_goesBy 36 = .ok (.iload_n 3, 1) := by decide +kernel
theorem dX7_goesBy_37 : decode cX7_goesBy 37 = .ok (.iadd, 1) := by decide +kernel
theorem dX7_goesBy_38 : decode cX7_goesBy 38 = .ok (.iaload, 1) := by decide +kernel
theorem dX7_goesBy_39 : decode cX7_goesBy 39 = .ok (.ifCond .ne 9, 3) := by decide +kernel
theorem dX7_goesBy_42 : decode cX7_goesBy 42 = .ok (.iconst 1, 1) := by decide +kernel
theorem dX7_goesBy_43 : decode cX7_goesBy 43 = .ok (.iload_n 3, 1) := by decide +kernel
theorem dX7_goesBy_44 : decode cX7_goesBy 44 = .ok (.ishl, 1) := by decide +kernel
theorem dX7_goesBy_45 : decode cX7_goesBy 45 = .ok (.goto 4, 3) := by decide +kernel
theorem dX7_goesBy_48 : decode cX7_goesBy 48 = .ok (.iconst 0, 1) := by decide +kernel
theorem dX7_goesBy_49 : decode cX7_goesBy 49 = .ok (.ior, 1) := by decide +kernel
theorem dX7_goesBy_50 : decode cX7_goesBy 50 = .ok (.putfield 121, 3) := by decide +kernel
theorem dX7_goesBy_53 : decode cX7_goesBy 53 = .ok (.iinc 3 1, 3) := by decide +kernel
theorem dX7_goesBy_56 : decode cX7_goesBy 56 = .ok (.goto (-38), 3) := by decide +kernel
theorem dX7_goesBy_59 : decode cX7_goesBy 59 = .ok (.iconst 0, 1) := by decide +kernel
theorem dX7_goesBy_60 : decode cX7_goesBy 60 = .ok (.istore_n 3, 1) := by decide +kernel
theorem dX7_goesBy_61 : decode cX7_goesBy 61 = .ok (.iload_n 3, 1) := by decide +kernel
theorem dX7_goesBy_62 : decode cX7_goesBy 62 = .ok (.aload_n 0, 1) := by decide +kernel
theorem dX7_goesBy_63 : decode cX7_goesBy 63 = .ok (.getfield 47, 3) := by decide +kernel
theorem dX7_goesBy_66 : decode cX7_goesBy 66 = .ok (.if_icmp .ge 17, 3) := by decide +kernel
theorem dX7_goesBy_69 : decode cX7_goesBy 69 = .ok (.iload_n 2, 1) := by decide +kernel
theorem dX7_goesBy_70 : decode cX7_goesBy 70 = .ok (.aload_n 0, 1) := by decide +kernel
theorem dX7_goesBy_71 : decode cX7_goesBy 71 = .ok (.iload_n 3, 1) := by decide +kernel
theorem dX7_goesBy_72 : decode cX7_goesBy 72 = .ok (.invokevirtual 127, 3) := by decide +kernel
theorem dX7_goesBy_75 : decode cX7_goesBy 75 = .ok (.iadd, 1) := by decide +kernel
theorem dX7_goesBy_76 : decode cX7_goesBy 76 = .ok (.istore_n 2, 1) := by decide +kernel
theorem dX7_goesBy_77 : decode cX7_goesBy 77 = .ok (.iinc 3 1, 3) := by decide +kernel
theorem dX7_goesBy_80 : decode cX7_goesBy 80 = .ok (.goto (-19), 3) := by decide +kernel
theorem dX7_goesBy_83 : decode cX7_goesBy 83 = .ok (.iconst 0, 1) := by decide +kernel
theorem dX7_goesBy_84 : decode cX7_goesBy 84 = .ok (.istore_n 3, 1) := by decide +kernel
theorem dX7_goesBy_85 : decode cX7_goesBy 85 = .ok (.iload_n 3, 1) := by decide +kernel
theorem dX7_goesBy_86 : decode cX7_goesBy 86 = .ok (.aload_n 0, 1) := by decide +kernel
theorem dX7_goesBy_87 : decode cX7_goesBy 87 = .ok (.getfield 47, 3) := by decide +kernel
theorem dX7_goesBy_90 : decode cX7_goesBy 90 = .ok (.if_icmp .ge 17, 3) := by decide +kernel
theorem dX7_goesBy_93 : decode cX7_goesBy 93 = .ok (.iload_n 2, 1) := by decide +kernel
theorem dX7_goesBy_94 : decode cX7_goesBy 94 = .ok (.aload_n 0, 1) := by decide +kernel
theorem dX7_goesBy_95 : decode cX7_goesBy 95 = .ok (.iload_n 3, 1) := by decide +kernel
theorem dX7_goesBy_96 : decode cX7_goesBy 96 = .ok (.invokevirtual 130, 3) := by decide +kernel
theorem dX7_goesBy_99 : decode cX7_goesBy 99 = .ok (.iadd, 1) := by decide +kernel
theorem dX7_goesBy_100 : decode cX7_goesBy 100 = .ok (.istore_n 2, 1) := by decide +kernel
theorem dX7_goesBy_101 : decode cX7_goesBy 101 = .ok (.iinc 3 1, 3) := by decide +kernel
theorem dX7_goesBy_104 : decode cX7_goesBy 104 = .ok (.goto (-19), 3) := by decide +kernel
theorem dX7_goesBy_107 : decode cX7_goesBy 107 = .ok (.aload_n 0, 1) := by decide +kernel
theorem dX7_goesBy_108 : decode cX7_goesBy 108 = .ok (.getfield 41, 3) := by decide +kernel
theorem dX7_goesBy_111 : decode cX7_goesBy 111 = .ok (.iconst 0, 1) := by decide +kernel
theorem dX7_goesBy_112 : decode cX7_goesBy 112 = .ok (.dup2, 1) := by decide +kernel
theorem dX7_goesBy_113 : decode cX7_goesBy 113 = .ok (.iaload, 1) := by decide +kernel
theorem dX7_goesBy_114 : decode cX7_goesBy 114 = .ok (.iconst 1, 1) := by decide +kernel
theorem dX7_goesBy_115 : decode cX7_goesBy 115 = .ok (.iadd, 1) := by decide +kernel
theorem dX7_goesBy_116 : decode cX7_goesBy 116 = .ok (.iastore, 1) := by decide +kernel
theorem dX7_goesBy_117 : decode cX7_goesBy 117 = .ok (.iload_n 2, 1) := by decide +kernel
theorem dX7_goesBy_118 : decode cX7_goesBy 118 = .ok (.ireturn, 1) := by decide +kernel
theorem dX7_leftAll_0 : decode cX7_leftAll 0 = .ok (.iconst 0, 1) := by decide +kernel
theorem dX7_leftAll_1 : decode cX7_leftAll 1 = .ok (.istore_n 1, 1) := by decide +kernel
theorem dX7_leftAll_2 : decode cX7_leftAll 2 = .ok (.iconst 0, 1) := by decide +kernel
theorem dX7_leftAll_3 : decode cX7_leftAll 3 = .ok (.istore_n 2, 1) := by decide +kernel
theorem dX7_leftAll_4 : decode cX7_leftAll 4 = .ok (.iload_n 2, 1) := by decide +kernel
theorem dX7_leftAll_5 : decode cX7_leftAll 5 = .ok (.aload_n 0, 1) := by decide +kernel
theorem dX7_leftAll_6 : decode cX7_leftAll 6 = .ok (.getfield 47, 3) := by decide +kernel
theorem dX7_leftAll_9 : decode cX7_leftAll 9 = .ok (.if_icmp .ge 20, 3) := by decide +kernel
theorem dX7_leftAll_12 : decode cX7_leftAll 12 = .ok (.iload_n 1, 1) := by decide +kernel
theorem dX7_leftAll_13 : decode cX7_leftAll 13 = .ok (.aload_n 0, 1) := by decide +kernel
theorem dX7_leftAll_14 : decode cX7_leftAll 14 = .ok (.getfield 41, 3) := by decide +kernel
theorem dX7_leftAll_17 : decode cX7_leftAll 17 = .ok (.iconst 2, 1) := by decide +kernel
theorem dX7_leftAll_18 : decode cX7_leftAll 18 = .ok (.iload_n 2, 1) := by decide +kernel
theorem dX7_leftAll_19 : decode cX7_leftAll 19 = .ok (.iadd, 1) := by decide +kernel
theorem dX7_leftAll_20 : decode cX7_leftAll 20 = .ok (.iaload, 1) := by decide +kernel
theorem dX7_leftAll_21 : decode cX7_leftAll 21 = .ok (.iadd, 1) := by decide +kernel
theorem dX7_leftAll_22 : decode cX7_leftAll 22 = .ok (.istore_n 1, 1) := by decide +kernel
theorem dX7_leftAll_23 : decode cX7_leftAll 23 = .ok (.iinc 2 1, 3) := by decide +kernel
theorem dX7_leftAll_26 : decode cX7_leftAll 26 = .ok (.goto (-22), 3) := by decide +kernel
theorem dX7_leftAll_29 : decode cX7_leftAll 29 = .ok (.iload_n 1, 1) := by decide +kernel
theorem dX7_leftAll_30 : decode cX7_leftAll 30 = .ok (.ireturn, 1) := by decide +kernel
theorem dX7_daysTillAsked_0 : decode cX7_daysTillAsked 0 = .ok (.aload_n 0, 1) := by decide +kernel
theorem dX7_daysTillAsked_1 : decode cX7_daysTillAsked 1 = .ok (.invokevirtual 133, 3) := by decide +kernel
theorem dX7_daysTillAsked_4 : decode cX7_daysTillAsked 4 = .ok (.iconst 0, 1) := by decide +kernel
theorem dX7_daysTillAsked_5 : decode cX7_daysTillAsked 5 = .ok (.istore_n 2, 1) := by decide +kernel
theorem dX7_daysTillAsked_6 : decode cX7_daysTillAsked 6 = .ok (.iload_n 2, 1) := by decide +kernel
theorem dX7_daysTillAsked_7 : decode cX7_daysTillAsked 7 = .ok (.bipush 60, 2) := by decide +kernel
theorem dX7_daysTillAsked_9 : decode cX7_daysTillAsked 9 = .ok (.if_icmp .gt 30, 3) := by decide +kernel
theorem dX7_daysTillAsked_12 : decode cX7_daysTillAsked 12 = .ok (.aload_n 0, 1) := by decide +kernel
theorem dX7_daysTillAsked_13 : decode cX7_daysTillAsked 13 = .ok (.getfield 41, 3) := by decide +kernel
theorem dX7_daysTillAsked_16 : decode cX7_daysTillAsked 16 = .ok (.iconst 1, 1) := by decide +kernel
theorem dX7_daysTillAsked_17 : decode cX7_daysTillAsked 17 = .ok (.iaload, 1) := by decide +kernel
theorem dX7_daysTillAsked_18 : decode cX7_daysTillAsked 18 = .ok (.iload_n 1, 1) := by decide +kernel
theorem dX7_daysTillAsked_19 : decode cX7_daysTillAsked 19 = .ok (.invokestatic 117, 3) := by decide +kernel
theorem dX7_daysTillAsked_22 : decode cX7_daysTillAsked 22 = .ok (.ifCond .eq 5, 3) := by decide +kernel
theorem dX7_daysTillAsked_25 : decode cX7_daysTillAsked 25 = .ok (.iload_n 2, 1) := by decide +kernel
theorem dX7_daysTillAsked_26 : decode cX7_daysTillAsked 26 = .ok (.ireturn, 1) := by decide +kernel
theorem dX7_daysTillAsked_27 : decode cX7_daysTillAsked 27 = .ok (.aload_n 0, 1) := by decide +kernel
theorem dX7_daysTillAsked_28 : decode cX7_daysTillAsked 28 = .ok (.iconst 1, 1) := by decide +kernel
theorem dX7_daysTillAsked_29 : decode cX7_daysTillAsked 29 = .ok (.invokevirtual 136, 3) := by decide +kernel
theorem dX7_daysTillAsked_32 : decode cX7_daysTillAsked 32 = .ok (.pop, 1) := by decide +kernel
theorem dX7_daysTillAsked_33 : decode cX7_daysTillAsked 33 = .ok (.iinc 2 1, 3) := by decide +kernel
theorem dX7_daysTillAsked_36 : decode cX7_daysTillAsked 36 = .ok (.goto (-30), 3) := by decide +kernel
theorem dX7_daysTillAsked_39 : decode cX7_daysTillAsked 39 = .ok (.bipush (-9), 2) := by decide +kernel
theorem dX7_daysTillAsked_41 : decode cX7_daysTillAsked 41 = .ok (.ireturn, 1) := by decide +kernel
theorem dX7_daysTillDone_0 : decode cX7_daysTillDone 0 = .ok (.aload_n 0, 1) := by decide +kernel
theorem dX7_daysTillDone_1 : decode cX7_daysTillDone 1 = .ok (.invokevirtual 133, 3) := by decide +kernel
theorem dX7_daysTillDone_4 : decode cX7_daysTillDone 4 = .ok (.iconst 0, 1) := by decide +kernel
theorem dX7_daysTillDone_5 : decode cX7_daysTillDone 5 = .ok (.istore_n 2, 1) := by decide +kernel
theorem dX7_daysTillDone_6 : decode cX7_daysTillDone 6 = .ok (.iload_n 2, 1) := by decide +kernel
theorem dX7_daysTillDone_7 : decode cX7_daysTillDone 7 = .ok (.bipush 60, 2) := by decide +kernel
theorem dX7_daysTillDone_9 : decode cX7_daysTillDone 9 = .ok (.if_icmp .gt 39, 3) := by decide +kernel
theorem dX7_daysTillDone_12 : decode cX7_daysTillDone 12 = .ok (.iload_n 1, 1) := by decide +kernel
theorem dX7_daysTillDone_13 : decode cX7_daysTillDone 13 = .ok (.ifCond .ge 10, 3) := by decide +kernel
theorem dX7_daysTillDone_16 : decode cX7_daysTillDone 16 = .ok (.aload_n 0, 1) := by decide +kernel
theorem dX7_daysTillDone_17 : decode cX7_daysTillDone 17 = .ok (.invokevirtual 139, 3) := by decide +kernel
theorem dX7_daysTillDone_20 : decode cX7_daysTillDone 20 = .ok (.goto 11, 3) := by decide +kernel
theorem dX7_daysTillDone_23 : decode cX7_daysTillDone 23 = .ok (.aload_n 0, 1) := by decide +kernel
theorem dX7_daysTillDone_24 : decode cX7_daysTillDone 24 = .ok (.getfield 41, 3) := by decide +kernel
theorem dX7_daysTillDone_27 : decode cX7_daysTillDone 27 = .ok (.iconst 2, 1) := by decide +kernel
theorem dX7_daysTillDone_28 : decode cX7_daysTillDone 28 = .ok (.iload_n 1, 1) := by decide +kernel
theorem dX7_daysTillDone_29 : decode cX7_daysTillDone 29 = .ok (.iadd, 1) := by decide +kernel
theorem dX7_daysTillDone_30 : decode cX7_daysTillDone 30 = .ok (.iaload, 1) := by decide +kernel
theorem dX7_daysTillDone_31 : decode cX7_daysTillDone 31 = .ok (.ifCond .ne 5, 3) := by decide +kernel
theorem dX7_daysTillDone_34 : decode cX7_daysTillDone 34 = .ok (.iload_n 2, 1) := by decide +kernel
theorem dX7_daysTillDone_35 : decode cX7_daysTillDone 35 = .ok (.ireturn, 1) := by decide +kernel
theorem dX7_daysTillDone_36 : decode cX7_daysTillDone 36 = .ok (.aload_n 0, 1) := by decide +kernel
theorem dX7_daysTillDone_37 : decode cX7_daysTillDone 37 = .ok (.iconst 1, 1) := by decide +kernel
theorem dX7_daysTillDone_38 : decode cX7_daysTillDone 38 = .ok (.invokevirtual 136, 3) := by decide +kernel
theorem dX7_daysTillDone_41 : decode cX7_daysTillDone 41 = .ok (.pop, 1) := by decide +kernel
theorem dX7_daysTillDone_42 : decode cX7_daysTillDone 42 = .ok (.iinc 2 1, 3) := by decide +kernel
theorem dX7_daysTillDone_45 : decode cX7_daysTillDone 45 = .ok (.goto (-39), 3) := by decide +kernel
theorem dX7_daysTillDone_48 : decode cX7_daysTillDone 48 = .ok (.bipush (-9), 2) := by decide +kernel
theorem dX7_daysTillDone_50 : decode cX7_daysTillDone 50 = .ok (.ireturn, 1) := by decide +kernel
theorem dX7_hangWith_0 : decode cX7_hangWith 0 = .ok (.iconst 0, 1) := by decide +kernel
theorem dX7_hangWith_1 : decode cX7_hangWith 1 = .ok (.istore_n 2, 1) := by decide +kernel
theorem dX7_hangWith_2 : decode cX7_hangWith 2 = .ok (.iconst 0, 1) := by decide +kernel
theorem dX7_hangWith_3 : decode cX7_hangWith 3 = .ok (.istore_n 3, 1) := by decide +kernel
theorem dX7_hangWith_4 : decode cX7_hangWith 4 = .ok (.iload_n 3, 1) := by decide +kernel
theorem dX7_hangWith_5 : decode cX7_hangWith 5 = .ok (.aload_n 0, 1) := by decide +kernel
theorem dX7_hangWith_6 : decode cX7_hangWith 6 = .ok (.getfield 47, 3) := by decide +kernel
theorem dX7_hangWith_9 : decode cX7_hangWith 9 = .ok (.if_icmp .ge 32, 3) := by decide +kernel
theorem dX7_hangWith_12 : decode cX7_hangWith 12 = .ok (.iload_n 2, 1) := by decide +kernel
theorem dX7_hangWith_13 : decode cX7_hangWith 13 = .ok (.aload_n 0, 1) := by decide +kernel
theorem dX7_hangWith_14 : decode cX7_hangWith 14 = .ok (.getfield 19, 3) := by decide +kernel
theorem dX7_hangWith_17 : decode cX7_hangWith 17 = .ok (.bipush 8, 2) := by decide +kernel
theorem dX7_hangWith_19 : decode cX7_hangWith 19 = .ok (.iload_n 3, 1) := by decide +kernel
theorem dX7_hangWith_20 : decode cX7_hangWith 20 = .ok (.iadd, 1) := by decide +kernel
theorem dX7_hangWith_21 : decode cX7_hangWith 21 = .ok (.iaload, 1) := by decide +kernel
theorem dX7_hangWith_22 : decode cX7_hangWith 22 = .ok (.iload_n 1, 1) := by decide +kernel
theorem dX7_hangWith_23 : decode cX7_hangWith 23 = .ok (.if_icmp .ne 9, 3) := by decide +kernel
theorem dX7_hangWith_26 : decode cX7_hangWith 26 = .ok (.iconst 1, 1) := by decide +kernel
theorem dX7_hangWith_27 : decode cX7_hangWith 27 = .ok (.iload_n 3, 1) := by decide +kernel
theorem dX7_hangWith_28 : decode cX7_hangWith 28 = .ok (.ishl, 1) := by decide +kernel
theorem dX7_hangWith_29 : decode cX7_hangWith 29 = .ok (.goto 4, 3) := by decide +kernel
theorem dX7_hangWith_32 : decode cX7_hangWith 32 = .ok (.iconst 0, 1) := by decide +kernel
theorem dX7_hangWith_33 : decode cX7_hangWith 33 = .ok (.ior, 1) := by decide +kernel
theorem dX7_hangWith_34 : decode cX7_hangWith 34 = .ok (.istore_n 2, 1) := by decide +kernel
theorem dX7_hangWith_35 : decode cX7_hangWith 35 = .ok (.iinc 3 1, 3) := by decide +kernel
theorem dX7_hangWith_38 : decode cX7_hangWith 38 = .ok (.goto (-34), 3) := by decide +kernel
theorem dX7_hangWith_41 : decode cX7_hangWith 41 = .ok (.iload_n 2, 1) := by decide +kernel
theorem dX7_hangWith_42 : decode cX7_hangWith 42 = .ok (.ireturn, 1) := by decide +kernel
theorem dX7_ring_0 : decode cX7_ring 0 = .ok (.iload_n 1, 1) := by decide +kernel
theorem dX7_ring_1 : decode cX7_ring 1 = .ok (.istore_n 2, 1) := by decide +kernel
theorem dX7_ring_2 : decode cX7_ring 2 = .ok (.iconst 1, 1) := by decide +kernel
theorem dX7_ring_3 : decode cX7_ring 3 = .ok (.istore_n 3, 1) := by decide +kernel
theorem dX7_ring_4 : decode cX7_ring 4 = .ok (.iload_n 3, 1) := by decide +kernel
theorem dX7_ring_5 : decode cX7_ring 5 = .ok (.aload_n 0, 1) := by decide +kernel
theorem dX7_ring_6 : decode cX7_ring 6 = .ok (.getfield 47, 3) := by decide +kernel
theorem dX7_ring_9 : decode cX7_ring 9 = .ok (.if_icmp .gt 26, 3) := by decide +kernel
theorem dX7_ring_12 : decode cX7_ring 12 = .ok (.aload_n 0, 1) := by decide +kernel
theorem dX7_ring_13 : decode cX7_ring 13 = .ok (.getfield 19, 3) := by decide +kernel
theorem dX7_ring_16 : decode cX7_ring 16 = .ok (.bipush 8, 2) := by decide +kernel
theorem dX7_ring_18 : decode cX7_ring 18 = .ok (.iload_n 2, 1) := by decide +kernel
theorem dX7_ring_19 : decode cX7_ring 19 = .ok (.iadd, 1) := by decide +kernel
theorem dX7_ring_20 : decode cX7_ring 20 = .ok (.iaload, 1) := by decide +kernel
theorem dX7_ring_21 : decode cX7_ring 21 = .ok (.istore_n 2, 1) := by decide +kernel
theorem dX7_ring_22 : decode cX7_ring 22 = .ok (.iload_n 2, 1) := by decide +kernel
theorem dX7_ring_23 : decode cX7_ring 23 = .ok (.iload_n 1, 1) := by decide +kernel
theorem dX7_ring_24 : decode cX7_ring 24 = .ok (.if_icmp .ne 5, 3) := by decide +kernel
theorem dX7_ring_27 : decode cX7_ring 27 = .ok (.iload_n 3, 1) := by decide +kernel
theorem dX7_ring_28 : decode cX7_ring 28 = .ok (.ireturn, 1) := by decide +kernel
theorem dX7_ring_29 : decode cX7_ring 29 = .ok (.iinc 3 1, 3) := by decide +kernel
theorem dX7_ring_32 : decode cX7_ring 32 = .ok (.goto (-28), 3) := by decide +kernel
theorem dX7_ring_35 : decode cX7_ring 35 = .ok (.iconst 0, 1) := by decide +kernel
theorem dX7_ring_36 : decode cX7_ring 36 = .ok (.ireturn, 1) := by decide +kernel
theorem dX7_farmer_0 : decode cX7_farmer 0 = .ok (.aload_n 0, 1) := by decide +kernel
theorem dX7_farmer_1 : decode cX7_farmer 1 = .ok (.iload_n 1, 1) := by decide +kernel
theorem dX7_farmer_2 : decode cX7_farmer 2 = .ok (.invokevirtual 143, 3) := by decide +kernel
theorem dX7_farmer_5 : decode cX7_farmer 5 = .ok (.ifCond .ne 5, 3) := by decide +kernel
theorem dX7_farmer_8 : decode cX7_farmer 8 = .ok (.iconst (-1), 1) := by decide +kernel
theorem dX7_farmer_9 : decode cX7_farmer 9 = .ok (.ireturn, 1) := by decide +kernel
theorem dX7_farmer_10 : decode cX7_farmer 10 = .ok (.iload_n 2, 1) := by decide +kernel
theorem dX7_farmer_11 : decode cX7_farmer 11 = .ok (.tableswitch 128 0 9 #[53, 60, 69, 76, 83, 93, 104, 110, 116, 122], 53) := by decide +kernel
theorem dX7_farmer_64 : decode cX7_farmer 64 = .ok (.aload_n 0, 1) := by decide +kernel
theorem dX7_farmer_65 : decode cX7_farmer 65 = .ok (.getfield 7, 3) := by decide +kernel
theorem dX7_farmer_68 : decode cX7_farmer 68 = .ok (.iload_n 1, 1) := by decide +kernel
theorem dX7_farmer_69 : decode cX7_farmer 69 = .ok (.iaload, 1) := by decide +kernel
theorem dX7_farmer_70 : decode cX7_farmer 70 = .ok (.ireturn, 1) := by decide +kernel
theorem dX7_farmer_71 : decode cX7_farmer 71 = .ok (.aload_n 0, 1) := by decide +kernel
theorem dX7_farmer_72 : decode cX7_farmer 72 = .ok (.getfield 19, 3) := by decide +kernel
theorem dX7_farmer_75 : decode cX7_farmer 75 = .ok (.iconst 2, 1) := by decide +kernel
theorem dX7_farmer_76 : decode cX7_farmer 76 = .ok (.iload_n 1, 1) := by decide +kernel
theorem dX7_farmer_77 : decode cX7_farmer 77 = .ok (.iadd, 1) := by decide +kernel
theorem dX7_farmer_78 : decode cX7_farmer 78 = .ok (.iaload, 1) := by decide +kernel
theorem dX7_farmer_79 : decode cX7_farmer 79 = .ok (.ireturn, 1) := by decide +kernel
theorem dX7_farmer_80 : decode cX7_farmer 80 = .ok (.aload_n 0, 1) := by decide +kernel
theorem dX7_farmer_81 : decode cX7_farmer 81 = .ok (.getfield 13, 3) := by decide +kernel
theorem dX7_farmer_84 : decode cX7_farmer 84 = .ok (.iload_n 1, 1) := by decide +kernel
theorem dX7_farmer_85 : decode cX7_farmer 85 = .ok (.iaload, 1) := by decide +kernel
theorem dX7_farmer_86 : decode cX7_farmer 86 = .ok (.ireturn, 1) := by decide +kernel
theorem dX7_farmer_87 : decode cX7_farmer 87 = .ok (.aload_n 0, 1) := by decide +kernel
theorem dX7_farmer_88 : decode cX7_farmer 88 = .ok (.getfield 16, 3) := by decide +kernel
theorem dX7_farmer_91 : decode cX7_farmer 91 = .ok (.iload_n 1, 1) := by decide +kernel
theorem dX7_farmer_92 : decode cX7_farmer 92 = .ok (.iaload, 1) := by decide +kernel
theorem dX7_farmer_93 : decode cX7_farmer 93 = .ok (.ireturn, 1) := by decide +kernel
theorem dX7_farmer_94 : decode cX7_farmer 94 = .ok (.aload_n 0, 1) := by decide +kernel
theorem dX7_farmer_95 : decode cX7_farmer 95 = .ok (.getfield 19, 3) := by decide +kernel
theorem dX7_farmer_98 : decode cX7_farmer 98 = .ok (.bipush 8, 2) := by decide +kernel
theorem dX7_farmer_100 : decode cX7_farmer 100 = .ok (.iload_n 1, 1) := by decide +kernel
theorem dX7_farmer_101 : decode cX7_farmer 101 = .ok (.iadd, 1) := by decide +kernel
theorem dX7_farmer_102 : decode cX7_farmer 102 = .ok (.iaload, 1) := by decide +kernel
theorem dX7_farmer_103 : decode cX7_farmer 103 = .ok (.ireturn, 1) := by decide +kernel
theorem dX7_farmer_104 : decode cX7_farmer 104 = .ok (.aload_n 0, 1) := by decide +kernel
theorem dX7_farmer_105 : decode cX7_farmer 105 = .ok (.getfield 19, 3) := by decide +kernel
theorem dX7_farmer_108 : decode cX7_farmer 108 = .ok (.iconst 1, 1) := by decide +kernel
theorem dX7_farmer_109 : decode cX7_farmer 109 = .ok (.iaload, 1) := by decide +kernel
theorem dX7_farmer_110 : decode cX7_farmer 110 = .ok (.iload_n 1, 1) := by decide +kernel
theorem dX7_farmer_111 : decode cX7_farmer 111 = .ok (.ishr, 1) := by decide +kernel
theorem dX7_farmer_112 : decode cX7_farmer 112 = .ok (.iconst 1, 1) := by decide +kernel
theorem dX7_farmer_113 : decode cX7_farmer 113 = .ok (.iand, 1) := by decide +kernel
theorem dX7_farmer_114 : decode cX7_farmer 114 = .ok (.ireturn, 1) := by decide +kernel
theorem dX7_farmer_115 : decode cX7_farmer 115 = .ok (.aload_n 0, 1) := by decide +kernel
theorem dX7_farmer_116 : decode cX7_farmer 116 = .ok (.iload_n 1, 1) := by decide +kernel
theorem dX7_farmer_117 : decode cX7_farmer 117 = .ok (.invokevirtual 146, 3) := by decide +kernel
theorem dX7_farmer_120 : decode cX7_farmer 120 = .ok (.ireturn, 1) := by decide +kernel
theorem dX7_farmer_121 : decode cX7_farmer 121 = .ok (.aload_n 0, 1) := by decide +kernel
theorem dX7_farmer_122 : decode cX7_farmer 122 = .ok (.iload_n 1, 1) := by decide +kernel
theorem dX7_farmer_123 : decode cX7_farmer 123 = .ok (.invokevirtual 149, 3) := by decide +kernel
theorem dX7_farmer_126 : decode cX7_farmer 126 = .ok (.ireturn, 1) := by decide +kernel
theorem dX7_farmer_127 : decode cX7_farmer 127 = .ok (.aload_n 0, 1) := by decide +kernel
theorem dX7_farmer_128 : decode cX7_farmer 128 = .ok (.iload_n 1, 1) := by decide +kernel
theorem dX7_farmer_129 : decode cX7_farmer 129 = .ok (.invokevirtual 152, 3) := by decide +kernel
theorem dX7_farmer_132 : decode cX7_farmer 132 = .ok (.ireturn, 1) := by decide +kernel
theorem dX7_farmer_133 : decode cX7_farmer 133 = .ok (.aload_n 0, 1) := by decide +kernel
theorem dX7_farmer_134 : decode cX7_farmer 134 = .ok (.iload_n 1, 1) := by decide +kernel
theorem dX7_farmer_135 : decode cX7_farmer 135 = .ok (.invokevirtual 155, 3) := by decide +kernel
theorem dX7_farmer_138 : decode cX7_farmer 138 = .ok (.ireturn, 1) := by decide +kernel
theorem dX7_farmer_139 : decode cX7_farmer 139 = .ok (.iconst (-1), 1) := by decide +kernel
theorem dX7_farmer_140 : decode cX7_farmer 140 = .ok (.ireturn, 1) := by decide +kernel
theorem dX7_now_0 : decode cX7_now 0 = .ok (.aload_n 0, 1) := by decide +kernel
theorem dX7_now_1 : decode cX7_now 1 = .ok (.invokevirtual 133, 3) := by decide +kernel
theorem dX7_now_4 : decode cX7_now 4 = .ok (.iload_n 1, 1) := by decide +kernel
theorem dX7_now_5 : decode cX7_now 5 = .ok (.tableswitch 65 0 4 #[35, 42, 49, 54, 60], 35) := by decide +kernel
theorem dX7_now_40 : decode cX7_now 40 = .ok (.aload_n 0, 1) := by decide +kernel
theorem dX7_now_41 : decode cX7_now 41 = .ok (.getfield 19, 3) := by decide +kernel
theorem dX7_now_44 : decode cX7_now 44 = .ok (.iconst 0, 1) := by decide +kernel
theorem dX7_now_45 : decode cX7_now 45 = .ok (.iaload, 1) := by decide +kernel
theorem dX7_now_46 : decode cX7_now 46 = .ok (.ireturn, 1) := by decide +kernel
theorem dX7_now_47 : decode cX7_now 47 = .ok (.aload_n 0, 1) := by decide +kernel
theorem dX7_now_48 : decode cX7_now 48 = .ok (.getfield 19, 3) := by decide +kernel
theorem dX7_now_51 : decode cX7_now 51 = .ok (.iconst 1, 1) := by decide +kernel
theorem dX7_now_52 : decode cX7_now 52 = .ok (.iaload, 1) := by decide +kernel
theorem dX7_now_53 : decode cX7_now 53 = .ok (.ireturn, 1) := by decide +kernel
theorem dX7_now_54 : decode cX7_now 54 = .ok (.aload_n 0, 1) := by decide +kernel
theorem dX7_now_55 : decode cX7_now 55 = .ok (.invokevirtual 139, 3) := by decide +kernel
theorem dX7_now_58 : decode cX7_now 58 = .ok (.ireturn, 1) := by decide +kernel
theorem dX7_now_59 : decode cX7_now 59 = .ok (.aload_n 0, 1) := by decide +kernel
theorem dX7_now_60 : decode cX7_now 60 = .ok (.iconst (-1), 1) := by decide +kernel
theorem dX7_now_61 : decode cX7_now 61 = .ok (.invokevirtual 155, 3) := by decide +kernel
theorem dX7_now_64 : decode cX7_now 64 = .ok (.ireturn, 1) := by decide +kernel
theorem dX7_now_65 : decode cX7_now 65 = .ok (.aload_n 0, 1) := by decide +kernel
theorem dX7_now_66 : decode cX7_now 66 = .ok (.getfield 104, 3) := by decide +kernel
theorem dX7_now_69 : decode cX7_now 69 = .ok (.ireturn, 1) := by decide +kernel
theorem dX7_now_70 : decode cX7_now 70 = .ok (.iconst (-1), 1) := by decide +kernel
theorem dX7_now_71 : decode cX7_now 71 = .ok (.ireturn, 1) := by decide +kernel
theorem dX7_remembers_0 : decode cX7_remembers 0 = .ok (.aload_n 0, 1) := by decide +kernel
theorem dX7_remembers_1 : decode cX7_remembers 1 = .ok (.getfield 104, 3) := by decide +kernel
theorem dX7_remembers_4 : decode cX7_remembers 4 = .ok (.bipush 10, 2) := by decide +kernel
theorem dX7_remembers_6 : decode cX7_remembers 6 = .ok (.if_icmp .ne 42, 3) := by decide +kernel
theorem dX7_remembers_9 : decode cX7_remembers 9 = .ok (.iconst 0, 1) := by decide +kernel
theorem dX7_remembers_10 : decode cX7_remembers 10 = .ok (.istore_n 1, 1) := by decide +kernel
theorem dX7_remembers_11 : decode cX7_remembers 11 = .ok (.iload_n 1, 1) := by decide +kernel
theorem dX7_remembers_12 : decode cX7_remembers 12 = .ok (.bipush 126, 2) := by decide +kernel
theorem dX7_remembers_14 : decode cX7_remembers 14 = .ok (.if_icmp .ge 24, 3) := by decide +kernel
theorem dX7_remembers_17 : decode cX7_remembers 17 = .ok (.aload_n 0, 1) := by decide +kernel
theorem dX7_remembers_18 : decode cX7_remembers 18 = .ok (.getfield 22, 3) := by decide +kernel
theorem dX7_remembers_21 : decode cX7_remembers 21 = .ok (.iload_n 1, 1) := by decide +kernel
theorem dX7_remembers_22 : decode cX7_remembers 22 = .ok (.aload_n 0, 1) := by decide +kernel
theorem dX7_remembers_23 : decode cX7_remembers 23 = .ok (.getfield 22, 3) := by decide +kernel
theorem dX7_remembers_26 : decode cX7_remembers 26 = .ok (.iload_n 1, 1) := by decide +kernel
theorem dX7_remembers_27 : decode cX7_remembers 27 = .ok (.bipush 14, 2) := by decide +kernel
theorem dX7_remembers_29 : decode cX7_remembers 29 = .ok (.iadd, 1) := by decide +kernel
theorem dX7_remembers_30 : decode cX7_remembers 30 = .ok (.iaload, 1) := by decide +kernel
theorem dX7_remembers_31 : decode cX7_remembers 31 = .ok (.iastore, 1) := by decide +kernel
theorem dX7_remembers_32 : decode cX7_remembers 32 = .ok (.iinc 1 1, 3) := by decide +kernel
theorem dX7_remembers_35 : decode cX7_remembers 35 = .ok (.goto (-24), 3) := by decide +kernel
theorem dX7_remembers_38 : decode cX7_remembers 38 = .ok (.aload_n 0, 1) := by decide +kernel
theorem dX7_remembers_39 : decode cX7_remembers 39 = .ok (.dup, 1) := by decide +kernel
theorem dX7_remembers_40 : decode cX7_remembers 40 = .ok (.getfield 104, 3) := by decide +kernel
theorem dX7_remembers_43 : decode cX7_remembers 43 = .ok (.iconst 1, 1) := by decide +kernel
theorem dX7_remembers_44 : decode cX7_remembers 44 = .ok (.isub, 1) := by decide +kernel
theorem dX7_remembers_45 : decode cX7_remembers 45 = .ok (.putfield 104, 3) := by decide +kernel
theorem dX7_remembers_48 : decode cX7_remembers 48 = .ok (.aload_n 0, 1) := by decide +kernel
theorem dX7_remembers_49 : decode cX7_remembers 49 = .ok (.getfield 22, 3) := by decide +kernel
theorem dX7_remembers_52 : decode cX7_remembers 52 = .ok (.bipush 14, 2) := by decide +kernel
theorem dX7_remembers_54 : decode cX7_remembers 54 = .ok (.aload_n 0, 1) := by decide +kernel
theorem dX7_remembers_55 : decode cX7_remembers 55 = .ok (.getfield 104, 3) := by decide +kernel
theorem dX7_remembers_58 : decode cX7_remembers 58 = .ok (.imul, 1) := by decide +kernel
theorem dX7_remembers_59 : decode cX7_remembers 59 = .ok (.aload_n 0, 1) := by decide +kernel
theorem dX7_remembers_60 : decode cX7_remembers 60 = .ok (.getfield 19, 3) := by decide +kernel
theorem dX7_remembers_63 : decode cX7_remembers 63 = .ok (.iconst 0, 1) := by decide +kernel
theorem dX7_remembers_64 : decode cX7_remembers 64 = .ok (.invokestatic 110, 3) := by decide +kernel
theorem dX7_remembers_67 : decode cX7_remembers 67 = .ok (.aload_n 0, 1) := by decide +kernel
theorem dX7_remembers_68 : decode cX7_remembers 68 = .ok (.dup, 1) := by decide +kernel
theorem dX7_remembers_69 : decode cX7_remembers 69 = .ok (.getfield 104, 3) := by decide +kernel
theorem dX7_remembers_72 : decode cX7_remembers 72 = .ok (.iconst 1, 1) := by decide +kernel
theorem dX7_remembers_73 : decode cX7_remembers 73 = .ok (.iadd, 1) := by decide +kernel
theorem dX7_remembers_74 : decode cX7_remembers 74 = .ok (.putfield 104, 3) := by decide +kernel
theorem dX7_remembers_77 : decode cX7_remembers 77 = .ok (.return_, 1) := by decide +kernel
theorem dX7_day_0 : decode cX7_day 0 = .ok (.iload_n 1, 1) := by decide +kernel
theorem dX7_day_1 : decode cX7_day 1 = .ok (.iconst 0, 1) := by decide +kernel
theorem dX7_day_2 : decode cX7_day 2 = .ok (.iconst 1, 1) := by decide +kernel
theorem dX7_day_3 : decode cX7_day 3 = .ok (.invokestatic 51, 3) := by decide +kernel
theorem dX7_day_6 : decode cX7_day 6 = .ok (.ifCond .ne 5, 3) := by decide +kernel
theorem dX7_day_9 : decode cX7_day 9 = .ok (.iconst (-1), 1) := by decide +kernel
theorem dX7_day_10 : decode cX7_day 10 = .ok (.ireturn, 1) := by decide +kernel
theorem dX7_day_11 : decode cX7_day 11 = .ok (.aload_n 0, 1) := by decide +kernel
theorem dX7_day_12 : decode cX7_day 12 = .ok (.getfield 19, 3) := by decide +kernel
theorem dX7_day_15 : decode cX7_day 15 = .ok (.iconst 0, 1) := by decide +kernel
theorem dX7_day_16 : decode cX7_day 16 = .ok (.iaload, 1) := by decide +kernel
theorem dX7_day_17 : decode cX7_day 17 = .ok (.sipush 999, 3) := by decide +kernel
theorem dX7_day_20 : decode cX7_day 20 = .ok (.if_icmp .ne 6, 3) := by decide +kernel
theorem dX7_day_23 : decode cX7_day 23 = .ok (.bipush (-2), 2) := by decide +kernel
theorem dX7_day_25 : decode cX7_day 25 = .ok (.ireturn, 1) := by decide +kernel
theorem dX7_day_26 : decode cX7_day 26 = .ok (.aload_n 0, 1) := by decide +kernel
theorem dX7_day_27 : decode cX7_day 27 = .ok (.invokevirtual 158, 3) := by decide +kernel
theorem dX7_day_30 : decode cX7_day 30 = .ok (.aload_n 0, 1) := by decide +kernel
theorem dX7_day_31 : decode cX7_day 31 = .ok (.invokevirtual 133, 3) := by decide +kernel
theorem dX7_day_34 : decode cX7_day 34 = .ok (.aload_n 0, 1) := by decide +kernel
theorem dX7_day_35 : decode cX7_day 35 = .ok (.iload_n 1, 1) := by decide +kernel
theorem dX7_day_36 : decode cX7_day 36 = .ok (.invokevirtual 136, 3) := by decide +kernel
theorem dX7_day_39 : decode cX7_day 39 = .ok (.istore_n 2, 1) := by decide +kernel
theorem dX7_day_40 : decode cX7_day 40 = .ok (.aload_n 0, 1) := by decide +kernel
theorem dX7_day_41 : decode cX7_day 41 = .ok (.getfield 19, 3) := by decide +kernel
theorem dX7_day_44 : decode cX7_day 44 = .ok (.iconst 0, 1) := by decide +kernel
theorem dX7_day_45 : decode cX7_day 45 = .ok (.aload_n 0, 1) := by decide +kernel
theorem dX7_day_46 : decode cX7_day 46 = .ok (.getfield 41, 3) := by decide +kernel
theorem dX7_day_49 : decode cX7_day 49 = .ok (.iconst 0, 1) := by decide +kernel
theorem dX7_day_50 : decode cX7_day 50 = .ok (.invokestatic 110, 3) := by decide +kernel
theorem dX7_day_53 : decode cX7_day 53 = .ok (.iload_n 2, 1) := by decide +kernel
theorem dX7_day_54 : decode cX7_day 54 = .ok (.ireturn, 1) := by decide +kernel
theorem dX7_brings_0 : decode cX7_brings 0 = .ok (.aload_n 0, 1) := by decide +kernel
theorem dX7_brings_1 : decode cX7_brings 1 = .ok (.iload_n 1, 1) := by decide +kernel
theorem dX7_brings_2 : decode cX7_brings 2 = .ok (.invokevirtual 143, 3) := by decide +kernel
theorem dX7_brings_5 : decode cX7_brings 5 = .ok (.ifCond .ne 5, 3) := by decide +kernel
theorem dX7_brings_8 : decode cX7_brings 8 = .ok (.iconst (-1), 1) := by decide +kernel
theorem dX7_brings_9 : decode cX7_brings 9 = .ok (.ireturn, 1) := by decide +kernel
theorem dX7_brings_10 : decode cX7_brings 10 = .ok (.aload_n 0, 1) := by decide +kernel
theorem dX7_brings_11 : decode cX7_brings 11 = .ok (.getfield 19, 3) := by decide +kernel
theorem dX7_brings_14 : decode cX7_brings 14 = .ok (.iconst 1, 1) := by decide +kernel
theorem dX7_brings_15 : decode cX7_brings 15 = .ok (.iaload, 1) := by decide +kernel
theorem dX7_brings_16 : decode cX7_brings 16 = .ok (.iload_n 1, 1) := by decide +kernel
theorem dX7_brings_17 : decode cX7_brings 17 = .ok (.invokestatic 117, 3) := by decide +kernel
theorem dX7_brings_20 : decode cX7_brings 20 = .ok (.ifCond .eq 6, 3) := by decide +kernel
theorem dX7_brings_23 : decode cX7_brings 23 = .ok (.bipush (-2), 2) := by decide +kernel
theorem dX7_brings_25 : decode cX7_brings 25 = .ok (.ireturn, 1) := by decide +kernel
theorem dX7_brings_26 : decode cX7_brings 26 = .ok (.aload_n 0, 1) := by decide +kernel
theorem dX7_brings_27 : decode cX7_brings 27 = .ok (.invokevirtual 158, 3) := by decide +kernel
theorem dX7_brings_30 : decode cX7_brings 30 = .ok (.aload_n 0, 1) := by decide +kernel
theorem dX7_brings_31 : decode cX7_brings 31 = .ok (.getfield 19, 3) := by decide +kernel
theorem dX7_brings_34 : decode cX7_brings 34 = .ok (.iconst 1, 1) := by decide +kernel
theorem dX7_brings_35 : decode cX7_brings 35 = .ok (.dup2, 1) := by decide +kernel
theorem dX7_brings_36 : decode cX7_brings 36 = .ok (.iaload, 1) := by decide +kernel
theorem dX7_brings_37 : decode cX7_brings 37 = .ok (.iconst 1, 1) := by decide +kernel
theorem dX7_brings_38 : decode cX7_brings 38 = .ok (.iload_n 1, 1) := by decide +kernel
theorem dX7_brings_39 : decode cX7_brings 39 = .ok (.ishl, 1) := by decide +kernel
theorem dX7_brings_40 : decode cX7_brings 40 = .ok (.ior, 1) := by decide +kernel
theorem dX7_brings_41 : decode cX7_brings 41 = .ok (.iastore, 1) := by decide +kernel
theorem dX7_brings_42 : decode cX7_brings 42 = .ok (.aload_n 0, 1) := by decide +kernel
theorem dX7_brings_43 : decode cX7_brings 43 = .ok (.getfield 19, 3) := by decide +kernel
theorem dX7_brings_46 : decode cX7_brings 46 = .ok (.iconst 1, 1) := by decide +kernel
theorem dX7_brings_47 : decode cX7_brings 47 = .ok (.iaload, 1) := by decide +kernel
theorem dX7_brings_48 : decode cX7_brings 48 = .ok (.invokestatic 114, 3) := by decide +kernel
theorem dX7_brings_51 : decode cX7_brings 51 = .ok (.ireturn, 1) := by decide +kernel
theorem dX7_hangs_0 : decode cX7_hangs 0 = .ok (.aload_n 0, 1) := by decide +kernel
theorem dX7_hangs_1 : decode cX7_hangs 1 = .ok (.iload_n 1, 1) := by decide +kernel
theorem dX7_hangs_2 : decode cX7_hangs 2 = .ok (.invokevirtual 143, 3) := by decide +kernel
theorem dX7_hangs_5 : decode cX7_hangs 5 = .ok (.ifCond .eq 16, 3) := by decide +kernel
theorem dX7_hangs_8 : decode cX7_hangs 8 = .ok (.aload_n 0, 1) := by decide +kernel
theorem dX7_hangs_9 : decode cX7_hangs 9 = .ok (.iload_n 2, 1) := by decide +kernel
theorem dX7_hangs_10 : decode cX7_hangs 10 = .ok (.invokevirtual 143, 3) := by decide +kernel
theorem dX7_hangs_13 : decode cX7_hangs 13 = .ok (.ifCond .eq 8, 3) := by decide +kernel
theorem dX7_hangs_16 : decode cX7_hangs 16 = .ok (.iload_n 1, 1) := by decide +kernel
theorem dX7_hangs_17 : decode cX7_hangs 17 = .ok (.iload_n 2, 1) := by decide +kernel
theorem dX7_hangs_18 : decode cX7_hangs 18 = .ok (.if_icmp .ne 5, 3) := by decide +kernel
theorem dX7_hangs_21 : decode cX7_hangs 21 = .ok (.iconst (-1), 1) := by decide +kernel
theorem dX7_hangs_22 : decode cX7_hangs 22 = .ok (.ireturn, 1) := by decide +kernel
theorem dX7_hangs_23 : decode cX7_hangs 23 = .ok (.aload_n 0, 1) := by decide +kernel
theorem dX7_hangs_24 : decode cX7_hangs 24 = .ok (.getfield 19, 3) := by decide +kernel
theorem dX7_hangs_27 : decode cX7_hangs 27 = .ok (.bipush 8, 2) := by decide +kernel
theorem dX7_hangs_29 : decode cX7_hangs 29 = .ok (.iload_n 1, 1) := by decide +kernel
theorem dX7_hangs_30 : decode cX7_hangs 30 = .ok (.iadd, 1) := by decide +kernel
theorem dX7_hangs_31 : decode cX7_hangs 31 = .ok (.iaload, 1) := by decide +kernel
theorem dX7_hangs_32 : decode cX7_hangs 32 = .ok (.istore_n 3, 1) := by decide +kernel
theorem dX7_hangs_33 : decode cX7_hangs 33 = .ok (.aload_n 0, 1) := by decide +kernel
theorem dX7_hangs_34 : decode cX7_hangs 34 = .ok (.getfield 19, 3) := by decide +kernel
theorem dX7_hangs_37 : decode cX7_hangs 37 = .ok (.iconst 1, 1) := by decide +kernel
theorem dX7_hangs_38 : decode cX7_hangs 38 = .ok (.iaload, 1) := by decide +kernel
theorem dX7_hangs_39 : decode cX7_hangs 39 = .ok (.iload_n 1, 1) := by decide +kernel
theorem dX7_hangs_40 : decode cX7_hangs 40 = .ok (.invokestatic 117, 3) := by decide +kernel
theorem dX7_hangs_43 : decode cX7_hangs 43 = .ok (.ifCond .ne 8, 3) := by decide +kernel
theorem dX7_hangs_46 : decode cX7_hangs 46 = .ok (.iload_n 3, 1) := by decide +kernel
theorem dX7_hangs_47 : decode cX7_hangs 47 = .ok (.iload_n 2, 1) := by decide +kernel
theorem dX7_hangs_48 : decode cX7_hangs 48 = .ok (.if_icmp .ne 6, 3) := by decide +kernel
theorem dX7_hangs_51 : decode cX7_hangs 51 = .ok (.bipush (-2), 2) := by decide +kernel
theorem dX7_hangs_53 : decode cX7_hangs 53 = .ok (.ireturn, 1) := by decide +kernel
theorem dX7_hangs_54 : decode cX7_hangs 54 = .ok (.aload_n 0, 1) := by decide +kernel
theorem dX7_hangs_55 : decode cX7_hangs 55 = .ok (.invokevirtual 158, 3) := by decide +kernel
theorem dX7_hangs_58 : decode cX7_hangs 58 = .ok (.aload_n 0, 1) := by decide +kernel
theorem dX7_hangs_59 : decode cX7_hangs 59 = .ok (.getfield 19, 3) := by decide +kernel
theorem dX7_hangs_62 : decode cX7_hangs 62 = .ok (.bipush 8, 2) := by decide +kernel
theorem dX7_hangs_64 : decode cX7_hangs 64 = .ok (.iload_n 1, 1) := by decide +kernel
theorem dX7_hangs_65 : decode cX7_hangs 65 = .ok (.iadd, 1) := by decide +kernel
theorem dX7_hangs_66 : decode cX7_hangs 66 = .ok (.iload_n 2, 1) := by decide +kernel
theorem dX7_hangs_67 : decode cX7_hangs 67 = .ok (.iastore, 1) := by decide +kernel
theorem dX7_hangs_68 : decode cX7_hangs 68 = .ok (.iload_n 3, 1) := by decide +kernel
theorem dX7_hangs_69 : decode cX7_hangs 69 = .ok (.ireturn, 1) := by decide +kernel
theorem dX7_undo_0 : decode cX7_undo 0 = .ok (.aload_n 0, 1) := by decide +kernel
theorem dX7_undo_1 : decode cX7_undo 1 = .ok (.getfield 104, 3) := by decide +kernel
theorem dX7_undo_4 : decode cX7_undo 4 = .ok (.ifCond .ne 6, 3) := by decide +kernel
theorem dX7_undo_7 : decode cX7_undo 7 = .ok (.bipush (-2), 2) := by decide +kernel
theorem dX7_undo_9 : decode cX7_undo 9 = .ok (.ireturn, 1) := by decide +kernel
theorem dX7_undo_10 : decode cX7_undo 10 = .ok (.aload_n 0, 1) := by decide +kernel
theorem dX7_undo_11 : decode cX7_undo 11 = .ok (.dup, 1) := by decide +kernel
theorem dX7_undo_12 : decode cX7_undo 12 = .ok (.getfield 104, 3) := by decide +kernel
theorem dX7_undo_15 : decode cX7_undo 15 = .ok (.iconst 1, 1) := by decide +kernel
theorem dX7_undo_16 : decode cX7_undo 16 = .ok (.isub, 1) := by decide +kernel
theorem dX7_undo_17 : decode cX7_undo 17 = .ok (.putfield 104, 3) := by decide +kernel
theorem dX7_undo_20 : decode cX7_undo 20 = .ok (.aload_n 0, 1) := by decide +kernel
theorem dX7_undo_21 : decode cX7_undo 21 = .ok (.getfield 19, 3) := by decide +kernel
theorem dX7_undo_24 : decode cX7_undo 24 = .ok (.iconst 0, 1) := by decide +kernel
theorem dX7_undo_25 : decode cX7_undo 25 = .ok (.aload_n 0, 1) := by decide +kernel
theorem dX7_undo_26 : decode cX7_undo 26 = .ok (.getfield 22, 3) := by decide +kernel
theorem dX7_undo_29 : decode cX7_undo 29 = .ok (.bipush 14, 2) := by decide +kernel
theorem dX7_undo_31 : decode cX7_undo 31 = .ok (.aload_n 0, 1) := by decide +kernel
theorem dX7_undo_32 : decode cX7_undo 32 = .ok (.getfield 104, 3) := by decide +kernel
theorem dX7_undo_35 : decode cX7_undo 35 = .ok (.imul, 1) := by decide +kernel
theorem dX7_undo_36 : decode cX7_undo 36 = .ok (.invokestatic 110, 3) := by decide +kernel
theorem dX7_undo_39 : decode cX7_undo 39 = .ok (.aload_n 0, 1) := by decide +kernel
theorem dX7_undo_40 : decode cX7_undo 40 = .ok (.getfield 104, 3) := by decide +kernel
theorem dX7_undo_43 : decode cX7_undo 43 = .ok (.ireturn, 1) := by decide +kernel
theorem dX7_allAskedBy_0 : decode cX7_allAskedBy 0 = .ok (.aload_n 0, 1) := by decide +kernel
theorem dX7_allAskedBy_1 : decode cX7_allAskedBy 1 = .ok (.invokevirtual 133, 3) := by decide +kernel
theorem dX7_allAskedBy_4 : decode cX7_allAskedBy 4 = .ok (.aload_n 0, 1) := by decide +kernel
theorem dX7_allAskedBy_5 : decode cX7_allAskedBy 5 = .ok (.getfield 41, 3) := by decide +kernel
theorem dX7_allAskedBy_8 : decode cX7_allAskedBy 8 = .ok (.iconst 1, 1) := by decide +kernel
theorem dX7_allAskedBy_9 : decode cX7_allAskedBy 9 = .ok (.dup2, 1) := by decide +kernel
theorem dX7_allAskedBy_10 : decode cX7_allAskedBy 10 = .ok (.iaload, 1) := by decide +kernel
theorem dX7_allAskedBy_11 : decode cX7_allAskedBy 11 = .ok (.iload_n 1, 1) := by decide +kernel
theorem dX7_allAskedBy_12 : decode cX7_allAskedBy 12 = .ok (.ior, 1) := by decide +kernel
theorem dX7_allAskedBy_13 : decode cX7_allAskedBy 13 = .ok (.iastore, 1) := by decide +kernel
theorem dX7_allAskedBy_14 : decode cX7_allAskedBy 14 = .ok (.iconst 0, 1) := by decide +kernel
theorem dX7_allAskedBy_15 : decode cX7_allAskedBy 15 = .ok (.istore_n 3, 1) := by decide +kernel
theorem dX7_allAskedBy_16 : decode cX7_allAskedBy 16 = .ok (.iload_n 3, 1) := by decide +kernel
theorem dX7_allAskedBy_17 : decode cX7_allAskedBy 17 = .ok (.iload_n 2, 1) := by decide +kernel
theorem dX7_allAskedBy_18 : decode cX7_allAskedBy 18 = .ok (.if_icmp .ge 15, 3) := by decide +kernel
theorem dX7_allAskedBy_21 : decode cX7_allAskedBy 21 = .ok (.aload_n 0, 1) := by decide +kernel
theorem dX7_allAskedBy_22 : decode cX7_allAskedBy 22 = .ok (.iconst 1, 1) := by decide +kernel
theorem dX7_allAskedBy_23 : decode cX7_allAskedBy 23 = .ok (.invokevirtual 136, 3) := by decide +kernel
theorem dX7_allAskedBy_26 : decode cX7_allAskedBy 26 = .ok (.pop, 1) := by decide +kernel
theorem dX7_allAskedBy_27 : decode cX7_allAskedBy 27 = .ok (.iinc 3 1, 3) := by decide +kernel
theorem dX7_allAskedBy_30 : decode cX7_allAskedBy 30 = .ok (.goto (-14), 3) := by decide +kernel
theorem dX7_allAskedBy_33 : decode cX7_allAskedBy 33 = .ok (.aload_n 0, 1) := by decide +kernel
theorem dX7_allAskedBy_34 : decode cX7_allAskedBy 34 = .ok (.getfield 41, 3) := by decide +kernel
theorem dX7_allAskedBy_37 : decode cX7_allAskedBy 37 = .ok (.iconst 1, 1) := by decide +kernel
theorem dX7_allAskedBy_38 : decode cX7_allAskedBy 38 = .ok (.iaload, 1) := by decide +kernel
theorem dX7_allAskedBy_39 : decode cX7_allAskedBy 39 = .ok (.iconst 1, 1) := by decide +kernel
theorem dX7_allAskedBy_40 : decode cX7_allAskedBy 40 = .ok (.aload_n 0, 1) := by decide +kernel
theorem dX7_allAskedBy_41 : decode cX7_allAskedBy 41 = .ok (.getfield 47, 3) := by decide +kernel
theorem dX7_allAskedBy_44 : decode cX7_allAskedBy 44 = .ok (.ishl, 1) := by decide +kernel
theorem dX7_allAskedBy_45 : decode cX7_allAskedBy 45 = .ok (.iconst 1, 1) := by decide +kernel
theorem dX7_allAskedBy_46 : decode cX7_allAskedBy 46 = .ok (.isub, 1) := by decide +kernel
theorem dX7_allAskedBy_47 : decode cX7_allAskedBy 47 = .ok (.if_icmp .ne 7, 3) := by decide +kernel
theorem dX7_allAskedBy_50 : decode cX7_allAskedBy 50 = .ok (.iconst 1, 1) := by decide +kernel
theorem dX7_allAskedBy_51 : decode cX7_allAskedBy 51 = .ok (.goto 4, 3) := by decide +kernel
theorem dX7_allAskedBy_54 : decode cX7_allAskedBy 54 = .ok (.iconst 0, 1) := by decide +kernel
theorem dX7_allAskedBy_55 : decode cX7_allAskedBy 55 = .ok (.ireturn, 1) := by decide +kernel
theorem dX7_start_0 : decode cX7_start 0 = .ok (.iload_n 1, 1) := by decide +kernel
theorem dX7_start_1 : decode cX7_start 1 = .ok (.iconst 0, 1) := by decide +kernel
theorem dX7_start_2 : decode cX7_start 2 = .ok (.bipush 20, 2) := by decide +kernel
theorem dX7_start_4 : decode cX7_start 4 = .ok (.invokestatic 51, 3) := by decide +kernel
theorem dX7_start_7 : decode cX7_start 7 = .ok (.ifCond .ne 5, 3) := by decide +kernel
theorem dX7_start_10 : decode cX7_start 10 = .ok (.iconst (-1), 1) := by decide +kernel
theorem dX7_start_11 : decode cX7_start 11 = .ok (.ireturn, 1) := by decide +kernel
theorem dX7_start_12 : decode cX7_start 12 = .ok (.iconst 1, 1) := by decide +kernel
theorem dX7_start_13 : decode cX7_start 13 = .ok (.aload_n 0, 1) := by decide +kernel
theorem dX7_start_14 : decode cX7_start 14 = .ok (.getfield 47, 3) := by decide +kernel
theorem dX7_start_17 : decode cX7_start 17 = .ok (.ishl, 1) := by decide +kernel
theorem dX7_start_18 : decode cX7_start 18 = .ok (.iconst 1, 1) := by decide +kernel
theorem dX7_start_19 : decode cX7_start 19 = .ok (.isub, 1) := by decide +kernel
theorem dX7_start_20 : decode cX7_start 20 = .ok (.aload_n 0, 1) := by decide +kernel
theorem dX7_start_21 : decode cX7_start 21 = .ok (.getfield 19, 3) := by decide +kernel
theorem dX7_start_24 : decode cX7_start 24 = .ok (.iconst 1, 1) := by decide +kernel
theorem dX7_start_25 : decode cX7_start 25 = .ok (.iaload, 1) := by decide +kernel
theorem dX7_start_26 : decode cX7_start 26 = .ok (.iconst (-1), 1) := by decide +kernel
theorem dX7_start_27 : decode cX7_start 27 = .ok (.ixor, 1) := by decide +kernel
theorem dX7_start_28 : decode cX7_start 28 = .ok (.iand, 1) := by decide +kernel
theorem dX7_start_29 : decode cX7_start 29 = .ok (.istore_n 2, 1) := by decide +kernel
theorem dX7_start_30 : decode cX7_start 30 = .ok (.iconst 0, 1) := by decide +kernel
theorem dX7_start_31 : decode cX7_start 31 = .ok (.istore_n 3, 1) := by decide +kernel
theorem dX7_start_32 : decode cX7_start 32 = .ok (.iload_n 3, 1) := by decide +kernel
theorem dX7_start_33 : decode cX7_start 33 = .ok (.iconst 1, 1) := by decide +kernel
theorem dX7_start_34 : decode cX7_start 34 = .ok (.aload_n 0, 1) := by decide +kernel
theorem dX7_start_35 : decode cX7_start 35 = .ok (.getfield 47, 3) := by decide +kernel
theorem dX7_start_38 : decode cX7_start 38 = .ok (.ishl, 1) := by decide +kernel
theorem dX7_start_39 : decode cX7_start 39 = .ok (.if_icmp .ge 73, 3) := by decide +kernel
theorem dX7_start_42 : decode cX7_start 42 = .ok (.iload_n 3, 1) := by decide +kernel
theorem dX7_start_43 : decode cX7_start 43 = .ok (.invokestatic 114, 3) := by decide +kernel
theorem dX7_start_46 : decode cX7_start 46 = .ok (.iload_n 2, 1) := by decide +kernel
theorem dX7_start_47 : decode cX7_start 47 = .ok (.invokestatic 114, 3) := by decide +kernel
theorem dX7_start_50 : decode cX7_start 50 = .ok (.isub, 1) := by decide +kernel
theorem dX7_start_51 : decode cX7_start 51 = .ok (.istore 4, 2) := by decide +kernel
theorem dX7_start_53 : decode cX7_start 53 = .ok (.iload 4, 2) := by decide +kernel
theorem dX7_start_55 : decode cX7_start 55 = .ok (.ifCond .lt 13, 3) := by decide +kernel
theorem dX7_start_58 : decode cX7_start 58 = .ok (.iload 4, 2) := by decide +kernel
theorem dX7_start_60 : decode cX7_start 60 = .ok (.ifCond .ne 12, 3) := by decide +kernel
theorem dX7_start_63 : decode cX7_start 63 = .ok (.iload_n 3, 1) := by decide +kernel
theorem dX7_start_64 : decode cX7_start 64 = .ok (.iload_n 2, 1) := by decide +kernel
theorem dX7_start_65 : decode cX7_start 65 = .ok (.if_icmp .ge 7, 3) := by decide +kernel
theorem dX7_start_68 : decode cX7_start 68 = .ok (.iconst 1, 1) := by decide +kernel
theorem dX7_start_69 : decode cX7_start 69 = .ok (.goto 4, 3) := by decide +kernel
theorem dX7_start_72 : decode cX7_start 72 = .ok (.iconst 0, 1) := by decide +kernel
theorem dX7_start_73 : decode cX7_start 73 = .ok (.istore 5, 2) := by decide +kernel
theorem dX7_start_75 : decode cX7_start 75 = .ok (.iload 5, 2) := by decide +kernel
theorem dX7_start_77 : decode cX7_start 77 = .ok (.ifCond .eq 27, 3) := by decide +kernel
theorem dX7_start_80 : decode cX7_start 80 = .ok (.iload_n 3, 1) := by decide +kernel
theorem dX7_start_81 : decode cX7_start 81 = .ok (.aload_n 0, 1) := by decide +kernel
theorem dX7_start_82 : decode cX7_start 82 = .ok (.getfield 19, 3) := by decide +kernel
theorem dX7_start_85 : decode cX7_start 85 = .ok (.iconst 1, 1) := by decide +kernel
theorem dX7_start_86 : decode cX7_start 86 = .ok (.iaload, 1) := by decide +kernel
theorem dX7_start_87 : decode cX7_start 87 = .ok (.iand, 1) := by decide +kernel
theorem dX7_start_88 : decode cX7_start 88 = .ok (.ifCond .ne 16, 3) := by decide +kernel
theorem dX7_start_91 : decode cX7_start 91 = .ok (.aload_n 0, 1) := by decide +kernel
theorem dX7_start_92 : decode cX7_start 92 = .ok (.iload_n 3, 1) := by decide +kernel
theorem dX7_start_93 : decode cX7_start 93 = .ok (.iload_n 1, 1) := by decide +kernel
theorem dX7_start_94 : decode cX7_start 94 = .ok (.invokevirtual 161, 3) := by decide +kernel
theorem dX7_start_97 : decode cX7_start 97 = .ok (.ifCond .eq 7, 3) := by decide +kernel
theorem dX7_start_100 : decode cX7_start 100 = .ok (.iload_n 3, 1) := by decide +kernel
theorem dX7_start_101 : decode cX7_start 101 = .ok (.goto 4, 3) := by decide +kernel
theorem dX7_start_104 : decode cX7_start 104 = .ok (.iload_n 2, 1) := by decide +kernel
theorem dX7_start_105 : decode cX7_start 105 = .ok (.istore_n 2, 1) := by decide +kernel
theorem dX7_start_106 : decode cX7_start 106 = .ok (.iinc 3 1, 3) := by decide +kernel
theorem dX7_start_109 : decode cX7_start 109 = .ok (.goto (-77), 3) := by decide +kernel
theorem dX7_start_112 : decode cX7_start 112 = .ok (.iload_n 2, 1) := by decide +kernel
theorem dX7_start_113 : decode cX7_start 113 = .ok (.ireturn, 1) := by decide +kernel
theorem dX7_far_0 : decode cX7_far 0 = .ok (.iload_n 0, 1) := by decide +kernel
theorem dX7_far_1 : decode cX7_far 1 = .ok (.iload_n 1, 1) := by decide +kernel
theorem dX7_far_2 : decode cX7_far 2 = .ok (.if_icmp .ge 9, 3) := by decide +kernel
theorem dX7_far_5 : decode cX7_far 5 = .ok (.iload_n 1, 1) := by decide +kernel
theorem dX7_far_6 : decode cX7_far 6 = .ok (.iload_n 0, 1) := by decide +kernel
theorem dX7_far_7 : decode cX7_far 7 = .ok (.isub, 1) := by decide +kernel
theorem dX7_far_8 : decode cX7_far 8 = .ok (.goto 6, 3) := by decide +kernel
theorem dX7_far_11 : decode cX7_far 11 = .ok (.iload_n 0, 1) := by decide +kernel
theorem dX7_far_12 : decode cX7_far 12 = .ok (.iload_n 1, 1) := by decide +kernel
theorem dX7_far_13 : decode cX7_far 13 = .ok (.isub, 1) := by decide +kernel
theorem dX7_far_14 : decode cX7_far 14 = .ok (.ireturn, 1) := by decide +kernel
theorem dX7_farBy_0 : decode cX7_farBy 0 = .ok (.iload_n 1, 1) := by decide +kernel
theorem dX7_farBy_1 : decode cX7_farBy 1 = .ok (.istore_n 2, 1) := by decide +kernel
theorem dX7_farBy_2 : decode cX7_farBy 2 = .ok (.iconst 0, 1) := by decide +kernel
theorem dX7_farBy_3 : decode cX7_farBy 3 = .ok (.istore_n 3, 1) := by decide +kernel
theorem dX7_farBy_4 : decode cX7_farBy 4 = .ok (.iconst 0, 1) := by decide +kernel
theorem dX7_farBy_5 : decode cX7_farBy 5 = .ok (.istore 4, 2) := by decide +kernel
theorem dX7_farBy_7 : decode cX7_farBy 7 = .ok (.iconst 1, 1) := by decide +kernel
theorem dX7_farBy_8 : decode cX7_farBy 8 = .ok (.istore 5, 2) := by decide +kernel
theorem dX7_farBy_10 : decode cX7_farBy 10 = .ok (.aload_n 0, 1) := by decide +kernel
theorem dX7_farBy_11 : decode cX7_farBy 11 = .ok (.getfield 47, 3) := by decide +kernel
theorem dX7_farBy_14 : decode cX7_farBy 14 = .ok (.iconst 1, 1) := by decide +kernel
theorem dX7_farBy_15 : decode cX7_farBy 15 = .ok (.isub, 1) := by decide +kernel
theorem dX7_farBy_16 : decode cX7_farBy 16 = .ok (.istore 6, 2) := by decide +kernel
theorem dX7_farBy_18 : decode cX7_farBy 18 = .ok (.iload 6, 2) := by decide +kernel
theorem dX7_farBy_20 : decode cX7_farBy 20 = .ok (.ifCond .lt 104, 3) := by decide +kernel
theorem dX7_farBy_23 : decode cX7_farBy 23 = .ok (.iload_n 2, 1) := by decide +kernel
theorem dX7_farBy_24 : decode cX7_farBy 24 = .ok (.bipush 6, 2) := by decide +kernel
theorem dX7_farBy_26 : decode cX7_farBy 26 = .ok (.irem, 1) := by decide +kernel
theorem dX7_farBy_27 : decode cX7_farBy 27 = .ok (.istore 7, 2) := by decide +kernel
theorem dX7_farBy_29 : decode cX7_farBy 29 = .ok (.iload_n 2, 1) := by decide +kernel
theorem dX7_farBy_30 : decode cX7_farBy 30 = .ok (.bipush 6, 2) := by decide +kernel
theorem dX7_farBy_32 : decode cX7_farBy 32 = .ok (.idiv, 1) := by decide +kernel
theorem dX7_farBy_33 : decode cX7_farBy 33 = .ok (.istore_n 2, 1) := by decide +kernel
theorem dX7_farBy_34 : decode cX7_farBy 34 = .ok (.aload_n 0, 1) := by decide +kernel
theorem dX7_farBy_35 : decode cX7_farBy 35 = .ok (.getfield 44, 3) := by decide +kernel
theorem dX7_farBy_38 : decode cX7_farBy 38 = .ok (.iload 6, 2) := by decide +kernel
theorem dX7_farBy_40 : decode cX7_farBy 40 = .ok (.iload 7, 2) := by decide +kernel
theorem dX7_farBy_42 : decode cX7_farBy 42 = .ok (.iastore, 1) := by decide +kernel
theorem dX7_farBy_43 : decode cX7_farBy 43 = .ok (.iload 5, 2) := by decide +kernel
theorem dX7_farBy_45 : decode cX7_farBy 45 = .ok (.ifCond .eq 32, 3) := by decide +kernel
theorem dX7_farBy_48 : decode cX7_farBy 48 = .ok (.aload_n 0, 1) := by decide +kernel
theorem dX7_farBy_49 : decode cX7_farBy 49 = .ok (.iload 7, 2) := by decide +kernel
theorem dX7_farBy_51 : decode cX7_farBy 51 = .ok (.invokevirtual 143, 3) := by decide +kernel
theorem dX7_farBy_54 : decode cX7_farBy 54 = .ok (.ifCond .eq 23, 3) := by decide +kernel
theorem dX7_farBy_57 : decode cX7_farBy 57 = .ok (.iload 7, 2) := by decide +kernel
theorem dX7_farBy_59 : decode cX7_farBy 59 = .ok (.iload 6, 2) := by decide +kernel
theorem dX7_farBy_61 : decode cX7_farBy 61 = .ok (.if_icmp .eq 16, 3) := by decide +kernel
theorem dX7_farBy_64 : decode cX7_farBy 64 = .ok (.iload_n 3, 1) := by decide +kernel
theorem dX7_farBy_65 : decode cX7_farBy 65 = .ok (.iload 7, 2) := by decide +kernel
theorem dX7_farBy_67 : decode cX7_farBy 67 = .ok (.invokestatic 117, 3) := by decide +kernel
theorem dX7_farBy_70 : decode cX7_farBy 70 = .ok (.ifCond .ne 7, 3) := by decide +kernel
theorem dX7_farBy_73 : decode cX7_farBy 73 = .ok (.iconst 1, 1) := by decide +kernel
theorem dX7_farBy_74 : decode cX7_farBy 74 = .ok (.goto 4, 3) := by decide +kernel
theorem dX7_farBy_77 : decode cX7_farBy 77 = .ok (.iconst 0, 1) := by decide +kernel
theorem dX7_farBy_78 : decode cX7_farBy 78 = .ok (.istore 5, 2) := by decide +kernel
theorem dX7_farBy_80 : decode cX7_farBy 80 = .ok (.iload_n 3, 1) := by decide +kernel
theorem dX7_farBy_81 : decode cX7_farBy 81 = .ok (.iconst 1, 1) := by decide +kernel
theorem dX7_farBy_82 : decode cX7_farBy 82 = .ok (.iload 7, 2) := by decide +kernel
theorem dX7_farBy_84 : decode cX7_farBy 84 = .ok (.ishl, 1) := by decide +kernel
theorem dX7_farBy_85 : decode cX7_farBy 85 = .ok (.ior, 1) := by decide +kernel
theorem dX7_farBy_86 : decode cX7_farBy 86 = .ok (.istore_n 3, 1) := by decide +kernel
theorem dX7_farBy_87 : decode cX7_farBy 87 = .ok (.iload 4, 2) := by decide +kernel
theorem dX7_farBy_89 : decode cX7_farBy 89 = .ok (.iload 5, 2) := by decide +kernel
theorem dX7_farBy_91 : decode cX7_farBy 91 = .ok (.ifCond .eq 23, 3) := by decide +kernel
theorem dX7_farBy_94 : decode cX7_farBy 94 = .ok (.aload_n 0, 1) := by decide +kernel
theorem dX7_farBy_95 : decode cX7_farBy 95 = .ok (.getfield 7, 3) := by decide +kernel
theorem dX7_farBy_98 : decode cX7_farBy 98 = .ok (.iload 6, 2) := by decide +kernel
theorem dX7_farBy_100 : decode cX7_farBy 100 = .ok (.iaload, 1) := by decide +kernel
theorem dX7_farBy_101 : decode cX7_farBy 101 = .ok (.aload_n 0, 1) := by decide +kernel
theorem dX7_farBy_102 : decode cX7_farBy 102 = .ok (.getfield 7, 3) := by decide +kernel
theorem dX7_farBy_105 : decode cX7_farBy 105 = .ok (.iload 7, 2) := by decide +kernel
theorem dX7_farBy_107 : decode cX7_farBy 107 = .ok (.iaload, 1) := by decide +kernel
theorem dX7_farBy_108 : decode cX7_farBy 108 = .ok (.invokestatic 164, 3) := by decide +kernel
theorem dX7_farBy_111 : decode cX7_farBy 111 = .ok (.goto 4, 3) := by decide +kernel
theorem dX7_farBy_114 : decode cX7_farBy 114 = .ok (.iconst 0, 1) := by decide +kernel
theorem dX7_farBy_115 : decode cX7_farBy 115 = .ok (.iadd, 1) := by decide +kernel
theorem dX7_farBy_116 : decode cX7_farBy 116 = .ok (.istore 4, 2) := by decide +kernel
theorem dX7_farBy_118 : decode cX7_farBy 118 = .ok (.iinc 6 (-1), 3) := by decide +kernel
theorem dX7_farBy_121 : decode cX7_farBy 121 = .ok (.goto (-103), 3) := by decide +kernel
theorem dX7_farBy_124 : decode cX7_farBy 124 = .ok (.iload 5, 2) := by decide +kernel
theorem dX7_farBy_126 : decode cX7_farBy 126 = .ok (.ifCond .eq 8, 3) := by decide +kernel
theorem dX7_farBy_129 : decode cX7_farBy 129 = .ok (.iload 4, 2) := by decide +kernel
theorem dX7_farBy_131 : decode cX7_farBy 131 = .ok (.goto 4, 3) := by decide +kernel
theorem dX7_farBy_134 : decode cX7_farBy 134 = .ok (.iconst (-1), 1) := by decide +kernel
theorem dX7_farBy_135 : decode cX7_farBy 135 = .ok (.ireturn, 1) := by decide +kernel
theorem dX7_hang_0 : decode cX7_hang 0 = .ok (.iload_n 1, 1) := by decide +kernel
theorem dX7_hang_1 : decode cX7_hang 1 = .ok (.iconst (-1), 1) := by decide +kernel
theorem dX7_hang_2 : decode cX7_hang 2 = .ok (.aload_n 0, 1) := by decide +kernel
theorem dX7_hang_3 : decode cX7_hang 3 = .ok (.getfield 47, 3) := by decide +kernel
theorem dX7_hang_6 : decode cX7_hang 6 = .ok (.iconst 1, 1) := by decide +kernel
theorem dX7_hang_7 : decode cX7_hang 7 = .ok (.isub, 1) := by decide +kernel
theorem dX7_hang_8 : decode cX7_hang 8 = .ok (.invokestatic 51, 3) := by decide +kernel
theorem dX7_hang_11 : decode cX7_hang 11 = .ok (.ifCond .ne 5, 3) := by decide +kernel
theorem dX7_hang_14 : decode cX7_hang 14 = .ok (.iconst (-1), 1) := by decide +kernel
theorem dX7_hang_15 : decode cX7_hang 15 = .ok (.ireturn, 1) := by decide +kernel
theorem dX7_hang_16 : decode cX7_hang 16 = .ok (.iconst 1, 1) := by decide +kernel
theorem dX7_hang_17 : decode cX7_hang 17 = .ok (.istore_n 2, 1) := by decide +kernel
theorem dX7_hang_18 : decode cX7_hang 18 = .ok (.iconst 0, 1) := by decide +kernel
theorem dX7_hang_19 : decode cX7_hang 19 = .ok (.istore_n 3, 1) := by decide +kernel
theorem dX7_hang_20 : decode cX7_hang 20 = .ok (.iload_n 3, 1) := by decide +kernel
theorem dX7_hang_21 : decode cX7_hang 21 = .ok (.aload_n 0, 1) := by decide +kernel
theorem dX7_hang_22 : decode cX7_hang 22 = .ok (.getfield 47, 3) := by decide +kernel
theorem dX7_hang_25 : decode cX7_hang 25 = .ok (.if_icmp .ge 14, 3) := by decide +kernel
theorem dX7_hang_28 : decode cX7_hang 28 = .ok (.iload_n 2, 1) := by decide +kernel
theorem dX7_hang_29 : decode cX7_hang 29 = .ok (.bipush 6, 2) := by decide +kernel
theorem dX7_hang_31 : decode cX7_hang 31 = .ok (.imul, 1) := by decide +kernel
theorem dX7_hang_32 : decode cX7_hang 32 = .ok (.istore_n 2, 1) := by decide +kernel
theorem dX7_hang_33 : decode cX7_hang 33 = .ok (.iinc 3 1, 3) := by decide +kernel
theorem dX7_hang_36 : decode cX7_hang 36 = .ok (.goto (-16), 3) := by decide +kernel
theorem dX7_hang_39 : decode cX7_hang 39 = .ok (.bipush (-9), 2) := by decide +kernel
theorem dX7_hang_41 : decode cX7_hang 41 = .ok (.istore_n 3, 1) := by decide +kernel
theorem dX7_hang_42 : decode cX7_hang 42 = .ok (.iconst 0, 1) := by decide +kernel
theorem dX7_hang_43 : decode cX7_hang 43 = .ok (.istore 4, 2) := by decide +kernel
theorem dX7_hang_45 : decode cX7_hang 45 = .ok (.iconst 0, 1) := by decide +kernel
theorem dX7_hang_46 : decode cX7_hang 46 = .ok (.istore 5, 2) := by decide +kernel
theorem dX7_hang_48 : decode cX7_hang 48 = .ok (.iload 5, 2) := by decide +kernel
theorem dX7_hang_50 : decode cX7_hang 50 = .ok (.iload_n 2, 1) := by decide +kernel
theorem dX7_hang_51 : decode cX7_hang 51 = .ok (.if_icmp .ge 72, 3) := by decide +kernel
theorem dX7_hang_54 : decode cX7_hang 54 = .ok (.aload_n 0, 1) := by decide +kernel
theorem dX7_hang_55 : decode cX7_hang 55 = .ok (.getfield 47, 3) := by decide +kernel
theorem dX7_hang_58 : decode cX7_hang 58 = .ok (.ifCond .le 65, 3) := by decide +kernel
theorem dX7_hang_61 : decode cX7_hang 61 = .ok (.aload_n 0, 1) := by decide +kernel
theorem dX7_hang_62 : decode cX7_hang 62 = .ok (.iload 5, 2) := by decide +kernel
theorem dX7_hang_64 : decode cX7_hang 64 = .ok (.invokevirtual 167, 3) := by decide +kernel
theorem dX7_hang_67 : decode cX7_hang 67 = .ok (.istore 6, 2) := by decide +kernel
theorem dX7_hang_69 : decode cX7_hang 69 = .ok (.iload 6, 2) := by decide +kernel
theorem dX7_hang_71 : decode cX7_hang 71 = .ok (.ifCond .lt 17, 3) := by decide +kernel
theorem dX7_hang_74 : decode cX7_hang 74 = .ok (.iload_n 3, 1) := by decide +kernel
theorem dX7_hang_75 : decode cX7_hang 75 = .ok (.ifCond .lt 9, 3) := by decide +kernel
theorem dX7_hang_78 : decode cX7_hang 78 = .ok (.iload 6, 2) := by decide +kernel
theorem dX7_hang_80 : decode cX7_hang 80 = .ok (.iload_n 3, 1) := by decide +kernel
theorem dX7_hang_81 : decode cX7_hang 81 = .ok (.if_icmp .ge 7, 3) := by decide +kernel
theorem dX7_hang_84 : decode cX7_hang 84 = .ok (.iconst 1, 1) := by decide +kernel
theorem dX7_hang_85 : decode cX7_hang 85 = .ok (.goto 4, 3) := by decide +kernel
theorem dX7_hang_88 : decode cX7_hang 88 = .ok (.iconst 0, 1) := by decide +kernel
theorem dX7_hang_89 : decode cX7_hang 89 = .ok (.istore 7, 2) := by decide +kernel
theorem dX7_hang_91 : decode cX7_hang 91 = .ok (.iload 7, 2) := by decide +kernel
theorem dX7_hang_93 : decode cX7_hang 93 = .ok (.ifCond .eq 8, 3) := by decide +kernel
theorem dX7_hang_96 : decode cX7_hang 96 = .ok (.iload 5, 2) := by decide +kernel
theorem dX7_hang_98 : decode cX7_hang 98 = .ok (.goto 5, 3) := by decide +kernel
theorem dX7_hang_101 : decode cX7_hang 101 = .ok (.iload 4, 2) := by decide +kernel
theorem dX7_hang_103 : decode cX7_hang 103 = .ok (.istore 4, 2) := by decide +kernel
theorem dX7_hang_105 : decode cX7_hang 105 = .ok (.iload 7, 2) := by decide +kernel
theorem dX7_hang_107 : decode cX7_hang 107 = .ok (.ifCond .eq 8, 3) := by decide +kernel
theorem dX7_hang_110 : decode cX7_hang 110 = .ok (.iload 6, 2) := by decide +kernel
theorem dX7_hang_112 : decode cX7_hang 112 = .ok (.goto 4, 3) := by decide +kernel
theorem dX7_hang_115 : decode cX7_hang 115 = .ok (.iload_n 3, 1) := by decide +kernel
theorem dX7_hang_116 : decode cX7_hang 116 = .ok (.istore_n 3, 1) := by decide +kernel
theorem dX7_hang_117 : decode cX7_hang 117 = .ok (.iinc 5 1, 3) := by decide +kernel
theorem dX7_hang_120 : decode cX7_hang 120 = .ok (.goto (-72), 3) := by decide +kernel
theorem dX7_hang_123 : decode cX7_hang 123 = .ok (.iload_n 1, 1) := by decide +kernel
theorem dX7_hang_124 : decode cX7_hang 124 = .ok (.ifCond .ge 5, 3) := by decide +kernel
theorem dX7_hang_127 : decode cX7_hang 127 = .ok (.iload_n 3, 1) := by decide +kernel
theorem dX7_hang_128 : decode cX7_hang 128 = .ok (.ireturn, 1) := by decide +kernel
theorem dX7_hang_129 : decode cX7_hang 129 = .ok (.aload_n 0, 1) := by decide +kernel
theorem dX7_hang_130 : decode cX7_hang 130 = .ok (.iload 4, 2) := by decide +kernel
theorem dX7_hang_132 : decode cX7_hang 132 = .ok (.invokevirtual 167, 3) := by decide +kernel
theorem dX7_hang_135 : decode cX7_hang 135 = .ok (.pop, 1) := by decide +kernel
theorem dX7_hang_136 : decode cX7_hang 136 = .ok (.aload_n 0, 1) := by decide +kernel
theorem dX7_hang_137 : decode cX7_hang 137 = .ok (.getfield 44, 3) := by decide +kernel
theorem dX7_hang_140 : decode cX7_hang 140 = .ok (.iload_n 1, 1) := by decide +kernel
theorem dX7_hang_141 : decode cX7_hang 141 = .ok (.iaload, 1) := by decide +kernel
theorem dX7_hang_142 : decode cX7_hang 142 = .ok (.ireturn, 1) := by decide +kernel
theorem dX7_lowest_0 : decode cX7_lowest 0 = .ok (.iload_n 0, 1) := by decide +kernel
theorem dX7_lowest_1 : decode cX7_lowest 1 = .ok (.istore_n 3, 1) := by decide +kernel
theorem dX7_lowest_2 : decode cX7_lowest 2 = .ok (.iload_n 1, 1) := by decide +kernel
theorem dX7_lowest_3 : decode cX7_lowest 3 = .ok (.istore 4, 2) := by decide +kernel
theorem dX7_lowest_5 : decode cX7_lowest 5 = .ok (.iload 4, 2) := by decide +kernel
theorem dX7_lowest_7 : decode cX7_lowest 7 = .ok (.ifCond .le 19, 3) := by decide +kernel
theorem dX7_lowest_10 : decode cX7_lowest 10 = .ok (.iload_n 3, 1) := by decide +kernel
theorem dX7_lowest_11 : decode cX7_lowest 11 = .ok (.iload 4, 2) := by decide +kernel
theorem dX7_lowest_13 : decode cX7_lowest 13 = .ok (.irem, 1) := by decide +kernel
theorem dX7_lowest_14 : decode cX7_lowest 14 = .ok (.istore 5, 2) := by decide +kernel
theorem dX7_lowest_16 : decode cX7_lowest 16 = .ok (.iload 4, 2) := by decide +kernel
theorem dX7_lowest_18 : decode cX7_lowest 18 = .ok (.istore_n 3, 1) := by decide +kernel
theorem dX7_lowest_19 : decode cX7_lowest 19 = .ok (.iload 5, 2) := by decide +kernel
theorem dX7_lowest_21 : decode cX7_lowest 21 = .ok (.istore 4, 2) := by decide +kernel
theorem dX7_lowest_23 : decode cX7_lowest 23 = .ok (.goto (-18), 3) := by decide +kernel
theorem dX7_lowest_26 : decode cX7_lowest 26 = .ok (.iload_n 2, 1) := by decide +kernel
theorem dX7_lowest_27 : decode cX7_lowest 27 = .ok (.ifCond .ne 7, 3) := by decide +kernel
theorem dX7_lowest_30 : decode cX7_lowest 30 = .ok (.iload_n 0, 1) := by decide +kernel
theorem dX7_lowest_31 : decode cX7_lowest 31 = .ok (.goto 4, 3) := by decide +kernel
theorem dX7_lowest_34 : decode cX7_lowest 34 = .ok (.iload_n 1, 1) := by decide +kernel
theorem dX7_lowest_35 : decode cX7_lowest 35 = .ok (.iload_n 3, 1) := by decide +kernel
theorem dX7_lowest_36 : decode cX7_lowest 36 = .ok (.idiv, 1) := by decide +kernel
theorem dX7_lowest_37 : decode cX7_lowest 37 = .ok (.ireturn, 1) := by decide +kernel
theorem dX7_odds_0 : decode cX7_odds 0 = .ok (.aload_n 0, 1) := by decide +kernel
theorem dX7_odds_1 : decode cX7_odds 1 = .ok (.iload_n 1, 1) := by decide +kernel
theorem dX7_odds_2 : decode cX7_odds 2 = .ok (.invokevirtual 143, 3) := by decide +kernel
theorem dX7_odds_5 : decode cX7_odds 5 = .ok (.ifCond .eq 33, 3) := by decide +kernel
theorem dX7_odds_8 : decode cX7_odds 8 = .ok (.iload_n 2, 1) := by decide +kernel
theorem dX7_odds_9 : decode cX7_odds 9 = .ok (.iconst 0, 1) := by decide +kernel
theorem dX7_odds_10 : decode cX7_odds 10 = .ok (.bipush 10, 2) := by decide +kernel
theorem dX7_odds_12 : decode cX7_odds 12 = .ok (.invokestatic 51, 3) := by decide +kernel
theorem dX7_odds_15 : decode cX7_odds 15 = .ok (.ifCond .eq 23, 3) := by decide +kernel
theorem dX7_odds_18 : decode cX7_odds 18 = .ok (.iload_n 3, 1) := by decide +kernel
theorem dX7_odds_19 : decode cX7_odds 19 = .ok (.iconst 0, 1) := by decide +kernel
theorem dX7_odds_20 : decode cX7_odds 20 = .ok (.bipush 8, 2) := by decide +kernel
theorem dX7_odds_22 : decode cX7_odds 22 = .ok (.invokestatic 51, 3) := by decide +kernel
theorem dX7_odds_25 : decode cX7_odds 25 = .ok (.ifCond .eq 13, 3) := by decide +kernel
theorem dX7_odds_28 : decode cX7_odds 28 = .ok (.iload 4, 2) := by decide +kernel
theorem dX7_odds_30 : decode cX7_odds 30 = .ok (.iconst 0, 1) := by decide +kernel
theorem dX7_odds_31 : decode cX7_odds 31 = .ok (.iconst 1, 1) := by decide +kernel
theorem dX7_odds_32 : decode cX7_odds 32 = .ok (.invokestatic 51, 3) := by decide +kernel
theorem dX7_odds_35 : decode cX7_odds 35 = .ok (.ifCond .ne 5, 3) := by decide +kernel
theorem dX7_odds_38 : decode cX7_odds 38 = .ok (.iconst (-1), 1) := by decide +kernel
theorem dX7_odds_39 : decode cX7_odds 39 = .ok (.ireturn, 1) := by decide +kernel
theorem dX7_odds_40 : decode cX7_odds 40 = .ok (.iconst 0, 1) := by decide +kernel
theorem dX7_odds_41 : decode cX7_odds 41 = .ok (.istore 5, 2) := by decide +kernel
theorem dX7_odds_43 : decode cX7_odds 43 = .ok (.iconst 1, 1) := by decide +kernel
theorem dX7_odds_44 : decode cX7_odds 44 = .ok (.istore 6, 2) := by decide +kernel
theorem dX7_odds_46 : decode cX7_odds 46 = .ok (.iconst 0, 1) := by decide +kernel
theorem dX7_odds_47 : decode cX7_odds 47 = .ok (.istore 7, 2) := by decide +kernel
theorem dX7_odds_49 : decode cX7_odds 49 = .ok (.iload 7, 2) := by decide +kernel
theorem dX7_odds_51 : decode cX7_odds 51 = .ok (.iload_n 3, 1) := by decide +kernel
theorem dX7_odds_52 : decode cX7_odds 52 = .ok (.if_icmp .ge 16, 3) := by decide +kernel
theorem dX7_odds_55 : decode cX7_odds 55 = .ok (.iload 6, 2) := by decide +kernel
theorem dX7_odds_57 : decode cX7_odds 57 = .ok (.bipush 10, 2) := by decide +kernel
theorem dX7_odds_59 : decode cX7_odds 59 = .ok (.imul, 1) := by decide +kernel
theorem dX7_odds_60 : decode cX7_odds 60 = .ok (.istore 6, 2) := by decide +kernel
theorem dX7_odds_62 : decode cX7_odds 62 = .ok (.iinc 7 1, 3) := by decide +kernel
theorem dX7_odds_65 : decode cX7_odds 65 = .ok (.goto (-16), 3) := by decide +kernel
theorem dX7_odds_68 : decode cX7_odds 68 = .ok (.iconst 0, 1) := by decide +kernel
theorem dX7_odds_69 : decode cX7_odds 69 = .ok (.istore 7, 2) := by decide +kernel
theorem dX7_odds_71 : decode cX7_odds 71 = .ok (.iload 7, 2) := by decide +kernel
theorem dX7_odds_73 : decode cX7_odds 73 = .ok (.iconst 1, 1) := by decide +kernel
theorem dX7_odds_74 : decode cX7_odds 74 = .ok (.iload_n 3, 1) := by decide +kernel
theorem dX7_odds_75 : decode cX7_odds 75 = .ok (.ishl, 1) := by decide +kernel
theorem dX7_odds_76 : decode cX7_odds 76 = .ok (.if_icmp .ge 77, 3) := by decide +kernel
theorem dX7_odds_79 : decode cX7_odds 79 = .ok (.iconst 1, 1) := by decide +kernel
theorem dX7_odds_80 : decode cX7_odds 80 = .ok (.istore 8, 2) := by decide +kernel
theorem dX7_odds_82 : decode cX7_odds 82 = .ok (.iconst 0, 1) := by decide +kernel
theorem dX7_odds_83 : decode cX7_odds 83 = .ok (.istore 9, 2) := by decide +kernel
theorem dX7_odds_85 : decode cX7_odds 85 = .ok (.iload 9, 2) := by decide +kernel
theorem dX7_odds_87 : decode cX7_odds 87 = .ok (.iload_n 3, 1) := by decide +kernel
theorem dX7_odds_88 : decode cX7_odds 88 = .ok (.if_icmp .ge 32, 3) := by decide +kernel
theorem dX7_odds_91 : decode cX7_odds 91 = .ok (.iload 8, 2) := by decide +kernel
theorem dX7_odds_93 : decode cX7_odds 93 = .ok (.iload 7, 2) := by decide +kernel
theorem dX7_odds_95 : decode cX7_odds 95 = .ok (.iload 9, 2) := by decide +kernel
theorem dX7_odds_97 : decode cX7_odds 97 = .ok (.invokestatic 117, 3) := by decide +kernel
theorem dX7_odds_100 : decode cX7_odds 100 = .ok (.ifCond .eq 7, 3) := by decide +kernel
theorem dX7_odds_103 : decode cX7_odds 103 = .ok (.iload_n 2, 1) := by decide +kernel
theorem dX7_odds_104 : decode cX7_odds 104 = .ok (.goto 7, 3) := by decide +kernel
theorem dX7_odds_107 : decode cX7_odds 107 = .ok (.bipush 10, 2) := by decide +kernel
theorem dX7_odds_109 : decode cX7_odds 109 = .ok (.iload_n 2, 1) := by decide +kernel
theorem dX7_odds_110 : decode cX7_odds 110 = .ok (.isub, 1) := by decide +kernel
theorem dX7_odds_111 : decode cX7_odds 111 = .ok (.imul, 1) := by decide +kernel
theorem dX7_odds_112 : decode cX7_odds 112 = .ok (.istore 8, 2) := by decide +kernel
theorem dX7_odds_114 : decode cX7_odds 114 = .ok (.iinc 9 1, 3) := by decide +kernel
theorem dX7_odds_117 : decode cX7_odds 117 = .ok (.goto (-32), 3) := by decide +kernel
theorem dX7_odds_120 : decode cX7_odds 120 = .ok (.iload 5, 2) := by decide +kernel
theorem dX7_odds_122 : decode cX7_odds 122 = .ok (.iload 7, 2) := by decide +kernel
theorem dX7_odds_124 : decode cX7_odds 124 = .ok (.invokestatic 114, 3) := by decide +kernel
theorem dX7_odds_127 : decode cX7_odds 127 = .ok (.aload_n 0, 1) := by decide +kernel
theorem dX7_odds_128 : decode cX7_odds 128 = .ok (.getfield 19, 3) := by decide +kernel
theorem dX7_odds_131 : decode cX7_odds 131 = .ok (.iconst 2, 1) := by decide +kernel
theorem dX7_odds_132 : decode cX7_odds 132 = .ok (.iload_n 1, 1) := by decide +kernel
theorem dX7_odds_133 : decode cX7_odds 133 = .ok (.iadd, 1) := by decide +kernel
theorem dX7_odds_134 : decode cX7_odds 134 = .ok (.iaload, 1) := by decide +kernel
theorem dX7_odds_135 : decode cX7_odds 135 = .ok (.if_icmp .lt 8, 3) := by decide +kernel
theorem dX7_odds_138 : decode cX7_odds 138 = .ok (.iload 8, 2) := by decide +kernel
theorem dX7_odds_140 : decode cX7_odds 140 = .ok (.goto 4, 3) := by decide +kernel
theorem dX7_odds_143 : decode cX7_odds 143 = .ok (.iconst 0, 1) := by decide +kernel
theorem dX7_odds_144 : decode cX7_odds 144 = .ok (.iadd, 1) := by decide +kernel
theorem dX7_odds_145 : decode cX7_odds 145 = .ok (.istore 5, 2) := by decide +kernel
theorem dX7_odds_147 : decode cX7_odds 147 = .ok (.iinc 7 1, 3) := by decide +kernel
theorem dX7_odds_150 : decode cX7_odds 150 = .ok (.goto (-79), 3) := by decide +kernel
theorem dX7_odds_153 : decode cX7_odds 153 = .ok (.iload 5, 2) := by decide +kernel
theorem dX7_odds_155 : decode cX7_odds 155 = .ok (.iload 6, 2) := by decide +kernel
theorem dX7_odds_157 : decode cX7_odds 157 = .ok (.iload 4, 2) := by decide +kernel
theorem dX7_odds_159 : decode cX7_odds 159 = .ok (.invokestatic 170, 3) := by decide +kernel
theorem dX7_odds_162 : decode cX7_odds 162 = .ok (.ireturn, 1) := by decide +kernel
theorem dX7_sees_0 : decode cX7_sees 0 = .ok (.iload_n 1, 1) := by decide +kernel
theorem dX7_sees_1 : decode cX7_sees 1 = .ok (.iconst 0, 1) := by decide +kernel
theorem dX7_sees_2 : decode cX7_sees 2 = .ok (.bipush 20, 2) := by decide +kernel
theorem dX7_sees_4 : decode cX7_sees 4 = .ok (.invokestatic 51, 3) := by decide +kernel
theorem dX7_sees_7 : decode cX7_sees 7 = .ok (.ifCond .eq 22, 3) := by decide +kernel
theorem dX7_sees_10 : decode cX7_sees 10 = .ok (.iload_n 2, 1) := by decide +kernel
theorem dX7_sees_11 : decode cX7_sees 11 = .ok (.iconst 0, 1) := by decide +kernel
theorem dX7_sees_12 : decode cX7_sees 12 = .ok (.bipush 6, 2) := by decide +kernel
theorem dX7_sees_14 : decode cX7_sees 14 = .ok (.invokestatic 51, 3) := by decide +kernel
theorem dX7_sees_17 : decode cX7_sees 17 = .ok (.ifCond .eq 12, 3) := by decide +kernel
theorem dX7_sees_20 : decode cX7_sees 20 = .ok (.iload_n 3, 1) := by decide +kernel
theorem dX7_sees_21 : decode cX7_sees 21 = .ok (.iconst 0, 1) := by decide +kernel
theorem dX7_sees_22 : decode cX7_sees 22 = .ok (.iconst 1, 1) := by decide +kernel
theorem dX7_sees_23 : decode cX7_sees 23 = .ok (.invokestatic 51, 3) := by decide +kernel
theorem dX7_sees_26 : decode cX7_sees 26 = .ok (.ifCond .ne 5, 3) := by decide +kernel
theorem dX7_sees_29 : decode cX7_sees 29 = .ok (.iconst (-1), 1) := by decide +kernel
theorem dX7_sees_30 : decode cX7_sees 30 = .ok (.ireturn, 1) := by decide +kernel
theorem dX7_sees_31 : decode cX7_sees 31 = .ok (.aload_n 0, 1) := by decide +kernel
theorem dX7_sees_32 : decode cX7_sees 32 = .ok (.getfield 107, 3) := by decide +kernel
theorem dX7_sees_35 : decode cX7_sees 35 = .ok (.bipush 6, 2) := by decide +kernel
theorem dX7_sees_37 : decode cX7_sees 37 = .ok (.if_icmp .ne 6, 3) := by decide +kernel
theorem dX7_sees_40 : decode cX7_sees 40 = .ok (.bipush (-3), 2) := by decide +kernel
theorem dX7_sees_42 : decode cX7_sees 42 = .ok (.ireturn, 1) := by decide +kernel
theorem dX7_sees_43 : decode cX7_sees 43 = .ok (.aload_n 0, 1) := by decide +kernel
theorem dX7_sees_44 : decode cX7_sees 44 = .ok (.getfield 32, 3) := by decide +kernel
theorem dX7_sees_47 : decode cX7_sees 47 = .ok (.iconst 3, 1) := by decide +kernel
theorem dX7_sees_48 : decode cX7_sees 48 = .ok (.aload_n 0, 1) := by decide +kernel
theorem dX7_sees_49 : decode cX7_sees 49 = .ok (.getfield 107, 3) := by decide +kernel
theorem dX7_sees_52 : decode cX7_sees 52 = .ok (.imul, 1) := by decide +kernel
theorem dX7_sees_53 : decode cX7_sees 53 = .ok (.iload_n 1, 1) := by decide +kernel
theorem dX7_sees_54 : decode cX7_sees 54 = .ok (.iastore, 1) := by decide +kernel
theorem dX7_sees_55 : decode cX7_sees 55 = .ok (.aload_n 0, 1) := by decide +kernel
theorem dX7_sees_56 : decode cX7_sees 56 = .ok (.getfield 32, 3) := by decide +kernel
theorem dX7_sees_59 : decode cX7_sees 59 = .ok (.iconst 3, 1) := by decide +kernel
theorem dX7_sees_60 : decode cX7_sees 60 = .ok (.aload_n 0, 1) := by decide +kernel
theorem dX7_sees_61 : decode cX7_sees 61 = .ok (.getfield 107, 3) := by decide +kernel
theorem dX7_sees_64 : decode cX7_sees 64 = .ok (.imul, 1) := by decide +kernel
theorem dX7_sees_65 : decode cX7_sees 65 = .ok (.iconst 1, 1) := by decide +kernel
theorem dX7_sees_66 : decode cX7_sees 66 = .ok (.iadd, 1) := by decide +kernel
theorem dX7_sees_67 : decode cX7_sees 67 = .ok (.iload_n 2, 1) := by decide +kernel
theorem dX7_sees_68 : decode cX7_sees 68 = .ok (.iastore, 1) := by decide +kernel
theorem dX7_sees_69 : decode cX7_sees 69 = .ok (.aload_n 0, 1) := by decide +kernel
theorem dX7_sees_70 : decode cX7_sees 70 = .ok (.getfield 32, 3) := by decide +kernel
theorem dX7_sees_73 : decode cX7_sees 73 = .ok (.iconst 3, 1) := by decide +kernel
theorem dX7_sees_74 : decode cX7_sees 74 = .ok (.aload_n 0, 1) := by decide +kernel
theorem dX7_sees_75 : decode cX7_sees 75 = .ok (.getfield 107, 3) := by decide +kernel
theorem dX7_sees_78 : decode cX7_sees 78 = .ok (.imul, 1) := by decide +kernel
theorem dX7_sees_79 : decode cX7_sees 79 = .ok (.iconst 2, 1) := by decide +kernel
theorem dX7_sees_80 : decode cX7_sees 80 = .ok (.iadd, 1) := by decide +kernel
theorem dX7_sees_81 : decode cX7_sees 81 = .ok (.iload_n 3, 1) := by decide +kernel
theorem dX7_sees_82 : decode cX7_sees 82 = .ok (.iastore, 1) := by decide +kernel
theorem dX7_sees_83 : decode cX7_sees 83 = .ok (.aload_n 0, 1) := by decide +kernel
theorem dX7_sees_84 : decode cX7_sees 84 = .ok (.dup, 1) := by decide +kernel
theorem dX7_sees_85 : decode cX7_sees 85 = .ok (.getfield 107, 3) := by decide +kernel
theorem dX7_sees_88 : decode cX7_sees 88 = .ok (.iconst 1, 1) := by decide +kernel
theorem dX7_sees_89 : decode cX7_sees 89 = .ok (.iadd, 1) := by decide +kernel
theorem dX7_sees_90 : decode cX7_sees 90 = .ok (.putfield 107, 3) := by decide +kernel
theorem dX7_sees_93 : decode cX7_sees 93 = .ok (.aload_n 0, 1) := by decide +kernel
theorem dX7_sees_94 : decode cX7_sees 94 = .ok (.getfield 107, 3) := by decide +kernel
theorem dX7_sees_97 : decode cX7_sees 97 = .ok (.ireturn, 1) := by decide +kernel
theorem dX7_forget_0 : decode cX7_forget 0 = .ok (.aload_n 0, 1) := by decide +kernel
theorem dX7_forget_1 : decode cX7_forget 1 = .ok (.getfield 107, 3) := by decide +kernel
theorem dX7_forget_4 : decode cX7_forget 4 = .ok (.istore_n 1, 1) := by decide +kernel
theorem dX7_forget_5 : decode cX7_forget 5 = .ok (.aload_n 0, 1) := by decide +kernel
theorem dX7_forget_6 : decode cX7_forget 6 = .ok (.iconst 0, 1) := by decide +kernel
theorem dX7_forget_7 : decode cX7_forget 7 = .ok (.putfield 107, 3) := by decide +kernel
theorem dX7_forget_10 : decode cX7_forget 10 = .ok (.iload_n 1, 1) := by decide +kernel
theorem dX7_forget_11 : decode cX7_forget 11 = .ok (.ireturn, 1) := by decide +kernel
theorem dX7_hadAsked_0 : decode cX7_hadAsked 0 = .ok (.iload_n 0, 1) := by decide +kernel
theorem dX7_hadAsked_1 : decode cX7_hadAsked 1 = .ok (.iload_n 2, 1) := by decide +kernel
theorem dX7_hadAsked_2 : decode cX7_hadAsked 2 = .ok (.if_icmp .le 8, 3) := by decide +kernel
theorem dX7_hadAsked_5 : decode cX7_hadAsked 5 = .ok (.iload_n 1, 1) := by decide +kernel
theorem dX7_hadAsked_6 : decode cX7_hadAsked 6 = .ok (.iload_n 3, 1) := by decide +kernel
theorem dX7_hadAsked_7 : decode cX7_hadAsked 7 = .ok (.if_icmp .gt 7, 3) := by decide +kernel
theorem dX7_hadAsked_10 : decode cX7_hadAsked 10 = .ok (.iconst 1, 1) := by decide +kernel
theorem dX7_hadAsked_11 : decode cX7_hadAsked 11 = .ok (.goto 4, 3) := by decide +kernel
theorem dX7_hadAsked_14 : decode cX7_hadAsked 14 = .ok (.iconst 0, 1) := by decide +kernel
theorem dX7_hadAsked_15 : decode cX7_hadAsked 15 = .ok (.ireturn, 1) := by decide +kernel
theorem dX7_isSo_0 : decode cX7_isSo 0 = .ok (.iconst 1, 1) := by decide +kernel
theorem dX7_isSo_1 : decode cX7_isSo 1 = .ok (.istore_n 3, 1) := by decide +kernel
theorem dX7_isSo_2 : decode cX7_isSo 2 = .ok (.iconst 0, 1) := by decide +kernel
theorem dX7_isSo_3 : decode cX7_isSo 3 = .ok (.istore 4, 2) := by decide +kernel
theorem dX7_isSo_5 : decode cX7_isSo 5 = .ok (.iload 4, 2) := by decide +kernel
theorem dX7_isSo_7 : decode cX7_isSo 7 = .ok (.aload_n 0, 1) := by decide +kernel
theorem dX7_isSo_8 : decode cX7_isSo 8 = .ok (.getfield 107, 3) := by decide +kernel
theorem dX7_isSo_11 : decode cX7_isSo 11 = .ok (.if_icmp .ge 67, 3) := by decide +kernel
theorem dX7_isSo_14 : decode cX7_isSo 14 = .ok (.iload_n 3, 1) := by decide +kernel
theorem dX7_isSo_15 : decode cX7_isSo 15 = .ok (.ifCond .eq 55, 3) := by decide +kernel
theorem dX7_isSo_18 : decode cX7_isSo 18 = .ok (.iload_n 1, 1) := by decide +kernel
theorem dX7_isSo_19 : decode cX7_isSo 19 = .ok (.iload_n 2, 1) := by decide +kernel
theorem dX7_isSo_20 : decode cX7_isSo 20 = .ok (.aload_n 0, 1) := by decide +kernel
theorem dX7_isSo_21 : decode cX7_isSo 21 = .ok (.getfield 32, 3) := by decide +kernel
theorem dX7_isSo_24 : decode cX7_isSo 24 = .ok (.iconst 3, 1) := by decide +kernel
theorem dX7_isSo_25 : decode cX7_isSo 25 = .ok (.iload 4, 2) := by decide +kernel
theorem dX7_isSo_27 : decode cX7_isSo 27 = .ok (.imul, 1) := by decide +kernel
theorem dX7_isSo_28 : decode cX7_isSo 28 = .ok (.iaload, 1) := by decide +kernel
theorem dX7_isSo_29 : decode cX7_isSo 29 = .ok (.aload_n 0, 1) := by decide +kernel
theorem dX7_isSo_30 : decode cX7_isSo 30 = .ok (.getfield 32, 3) := by decide +kernel
theorem dX7_isSo_33 : decode cX7_isSo 33 = .ok (.iconst 3, 1) := by decide +kernel
theorem dX7_isSo_34 : decode cX7_isSo 34 = .ok (.iload 4, 2) := by decide +kernel
theorem dX7_isSo_36 : decode cX7_isSo 36 = .ok (.imul, 1) := by decide +kernel
theorem dX7_isSo_37 : decode cX7_isSo 37 = .ok (.iconst 1, 1) := by decide +kernel
theorem dX7_isSo_38 : decode cX7_isSo 38 = .ok (.iadd, 1) := by decide +kernel
theorem dX7_isSo_39 : decode cX7_isSo 39 = .ok (.iaload, 1) := by decide +kernel
theorem dX7_isSo_40 : decode cX7_isSo 40 = .ok (.invokestatic 174, 3) := by decide +kernel
theorem dX7_isSo_43 : decode cX7_isSo 43 = .ok (.aload_n 0, 1) := by decide +kernel
theorem dX7_isSo_44 : decode cX7_isSo 44 = .ok (.getfield 32, 3) := by decide +kernel
theorem dX7_isSo_47 : decode cX7_isSo 47 = .ok (.iconst 3, 1) := by decide +kernel
theorem dX7_isSo_48 : decode cX7_isSo 48 = .ok (.iload 4, 2) := by decide +kernel
theorem dX7_isSo_50 : decode cX7_isSo 50 = .ok (.imul, 1) := by decide +kernel
theorem dX7_isSo_51 : decode cX7_isSo 51 = .ok (.iconst 2, 1) := by decide +kernel
theorem dX7_isSo_52 : decode cX7_isSo 52 = .ok (.iadd, 1) := by decide +kernel
theorem dX7_isSo_53 : decode cX7_isSo 53 = .ok (.iaload, 1) := by decide +kernel
theorem dX7_isSo_54 : decode cX7_isSo 54 = .ok (.iconst 1, 1) := by decide +kernel
theorem dX7_isSo_55 : decode cX7_isSo 55 = .ok (.if_icmp .ne 7, 3) := by decide +kernel
theorem dX7_isSo_58 : decode cX7_isSo 58 = .ok (.iconst 1, 1) := by decide +kernel
theorem dX7_isSo_59 : decode cX7_isSo 59 = .ok (.goto 4, 3) := by decide +kernel
theorem dX7_isSo_62 : decode cX7_isSo 62 = .ok (.iconst 0, 1) := by decide +kernel
theorem dX7_isSo_63 : decode cX7_isSo 63 = .ok (.if_icmp .ne 7, 3) := by decide +kernel
theorem dX7_isSo_66 : decode cX7_isSo 66 = .ok (.iconst 1, 1) := by decide +kernel
theorem dX7_isSo_67 : decode cX7_isSo 67 = .ok (.goto 4, 3) := by decide +kernel
theorem dX7_isSo_70 : decode cX7_isSo 70 = .ok (.iconst 0, 1) := by decide +kernel
theorem dX7_isSo_71 : decode cX7_isSo 71 = .ok (.istore_n 3, 1) := by decide +kernel
theorem dX7_isSo_72 : decode cX7_isSo 72 = .ok (.iinc 4 1, 3) := by decide +kernel
theorem dX7_isSo_75 : decode cX7_isSo 75 = .ok (.goto (-70), 3) := by decide +kernel
theorem dX7_isSo_78 : decode cX7_isSo 78 = .ok (.iload_n 3, 1) := by decide +kernel
theorem dX7_isSo_79 : decode cX7_isSo 79 = .ok (.ireturn, 1) := by decide +kernel
theorem dX7_ones_0 : decode cX7_ones 0 = .ok (.iload_n 1, 1) := by decide +kernel
theorem dX7_ones_1 : decode cX7_ones 1 = .ok (.iconst 0, 1) := by decide +kernel
theorem dX7_ones_2 : decode cX7_ones 2 = .ok (.iconst 2, 1) := by decide +kernel
theorem dX7_ones_3 : decode cX7_ones 3 = .ok (.invokestatic 51, 3) := by decide +kernel
theorem dX7_ones_6 : decode cX7_ones 6 = .ok (.ifCond .ne 5, 3) := by decide +kernel
theorem dX7_ones_9 : decode cX7_ones 9 = .ok (.iconst (-1), 1) := by decide +kernel
theorem dX7_ones_10 : decode cX7_ones 10 = .ok (.ireturn, 1) := by decide +kernel
theorem dX7_ones_11 : decode cX7_ones 11 = .ok (.iconst 0, 1) := by decide +kernel
theorem dX7_ones_12 : decode cX7_ones 12 = .ok (.istore_n 2, 1) := by decide +kernel
theorem dX7_ones_13 : decode cX7_ones 13 = .ok (.bipush (-9), 2) := by decide +kernel
theorem dX7_ones_15 : decode cX7_ones 15 = .ok (.istore_n 3, 1) := by decide +kernel
theorem dX7_ones_16 : decode cX7_ones 16 = .ok (.bipush (-9), 2) := by decide +kernel
theorem dX7_ones_18 : decode cX7_ones 18 = .ok (.istore 4, 2) := by decide +kernel
theorem dX7_ones_20 : decode cX7_ones 20 = .ok (.iconst 0, 1) := by decide +kernel
theorem dX7_ones_21 : decode cX7_ones 21 = .ok (.istore 5, 2) := by decide +kernel
theorem dX7_ones_23 : decode cX7_ones 23 = .ok (.iload 5, 2) := by decide +kernel
theorem dX7_ones_25 : decode cX7_ones 25 = .ok (.bipush 20, 2) := by decide +kernel
theorem dX7_ones_27 : decode cX7_ones 27 = .ok (.if_icmp .gt 54, 3) := by decide +kernel
theorem dX7_ones_30 : decode cX7_ones 30 = .ok (.iconst 0, 1) := by decide +kernel
theorem dX7_ones_31 : decode cX7_ones 31 = .ok (.istore 6, 2) := by decide +kernel
theorem dX7_ones_33 : decode cX7_ones 33 = .ok (.iload 6, 2) := by decide +kernel
theorem dX7_ones_35 : decode cX7_ones 35 = .ok (.bipush 6, 2) := by decide +kernel
theorem dX7_ones_37 : decode cX7_ones 37 = .ok (.if_icmp .gt 38, 3) := by decide +kernel
theorem dX7_ones_40 : decode cX7_ones 40 = .ok (.aload_n 0, 1) := by decide +kernel
theorem dX7_ones_41 : decode cX7_ones 41 = .ok (.iload 5, 2) := by decide +kernel
theorem dX7_ones_43 : decode cX7_ones 43 = .ok (.iload 6, 2) := by decide +kernel
theorem dX7_ones_45 : decode cX7_ones 45 = .ok (.invokevirtual 178, 3) := by decide +kernel
theorem dX7_ones_48 : decode cX7_ones 48 = .ok (.ifCond .eq 21, 3) := by decide +kernel
theorem dX7_ones_51 : decode cX7_ones 51 = .ok (.iload_n 2, 1) := by decide +kernel
theorem dX7_ones_52 : decode cX7_ones 52 = .ok (.ifCond .ne 8, 3) := by decide +kernel
theorem dX7_ones_55 : decode cX7_ones 55 = .ok (.iload 5, 2) := by decide +kernel
theorem dX7_ones_57 : decode cX7_ones 57 = .ok (.goto 4, 3) := by decide +kernel
theorem dX7_ones_60 : decode cX7_ones 60 = .ok (.iload_n 3, 1) := by decide +kernel
theorem dX7_ones_61 : decode cX7_ones 61 = .ok (.istore_n 3, 1) := by decide +kernel
theorem dX7_ones_62 : decode cX7_ones 62 = .ok (.iload 5, 2) := by decide +kernel
theorem dX7_ones_64 : decode cX7_ones 64 = .ok (.istore 4, 2) := by decide +kernel
theorem dX7_ones_66 : decode cX7_ones 66 = .ok (.iinc 2 1, 3) := by decide +kernel
theorem dX7_ones_69 : decode cX7_ones 69 = .ok (.iinc 6 1, 3) := by decide +kernel
theorem dX7_ones_72 : decode cX7_ones 72 = .ok (.goto (-39), 3) := by decide +kernel
theorem dX7_ones_75 : decode cX7_ones 75 = .ok (.iinc 5 1, 3) := by decide +kernel
theorem dX7_ones_78 : decode cX7_ones 78 = .ok (.goto (-55), 3) := by decide +kernel
theorem dX7_ones_81 : decode cX7_ones 81 = .ok (.iload_n 1, 1) := by decide +kernel
theorem dX7_ones_82 : decode cX7_ones 82 = .ok (.ifCond .ne 7, 3) := by decide +kernel
theorem dX7_ones_85 : decode cX7_ones 85 = .ok (.iload_n 2, 1) := by decide +kernel
theorem dX7_ones_86 : decode cX7_ones 86 = .ok (.goto 14, 3) := by decide +kernel
theorem dX7_ones_89 : decode cX7_ones 89 = .ok (.iload_n 1, 1) := by decide +kernel
theorem dX7_ones_90 : decode cX7_ones 90 = .ok (.iconst 1, 1) := by decide +kernel
theorem dX7_ones_91 : decode cX7_ones 91 = .ok (.if_icmp .ne 7, 3) := by decide +kernel
theorem dX7_ones_94 : decode cX7_ones 94 = .ok (.iload_n 3, 1) := by decide +kernel
theorem dX7_ones_95 : decode cX7_ones 95 = .ok (.goto 5, 3) := by decide +kernel
theorem dX7_ones_98 : decode cX7_ones 98 = .ok (.iload 4, 2) := by decide +kernel
theorem dX7_ones_100 : decode cX7_ones 100 = .ok (.ireturn, 1) := by decide +kernel
theorem dX7_look_0 : decode cX7_look 0 = .ok (.iload_n 1, 1) := by decide +kernel
theorem dX7_look_1 : decode cX7_look 1 = .ok (.iconst 0, 1) := by decide +kernel
theorem dX7_look_2 : decode cX7_look 2 = .ok (.bipush 20, 2) := by decide +kernel
theorem dX7_look_4 : decode cX7_look 4 = .ok (.invokestatic 51, 3) := by decide +kernel
theorem dX7_look_7 : decode cX7_look 7 = .ok (.ifCond .ne 5, 3) := by decide +kernel
theorem dX7_look_10 : decode cX7_look 10 = .ok (.iconst (-1), 1) := by decide +kernel
theorem dX7_look_11 : decode cX7_look 11 = .ok (.ireturn, 1) := by decide +kernel
theorem dX7_look_12 : decode cX7_look 12 = .ok (.aload_n 0, 1) := by decide +kernel
theorem dX7_look_13 : decode cX7_look 13 = .ok (.iconst 0, 1) := by decide +kernel
theorem dX7_look_14 : decode cX7_look 14 = .ok (.invokevirtual 181, 3) := by decide +kernel
theorem dX7_look_17 : decode cX7_look 17 = .ok (.istore_n 2, 1) := by decide +kernel
theorem dX7_look_18 : decode cX7_look 18 = .ok (.bipush (-9), 2) := by decide +kernel
theorem dX7_look_20 : decode cX7_look 20 = .ok (.istore_n 3, 1) := by decide +kernel
theorem dX7_look_21 : decode cX7_look 21 = .ok (.iload_n 2, 1) := by decide +kernel
theorem dX7_look_22 : decode cX7_look 22 = .ok (.iconst 1, 1) := by decide +kernel
theorem dX7_look_23 : decode cX7_look 23 = .ok (.iadd, 1) := by decide +kernel
theorem dX7_look_24 : decode cX7_look 24 = .ok (.istore 4, 2) := by decide +kernel
theorem dX7_look_26 : decode cX7_look 26 = .ok (.iconst 0, 1) := by decide +kernel
theorem dX7_look_27 : decode cX7_look 27 = .ok (.istore 5, 2) := by decide +kernel
theorem dX7_look_29 : decode cX7_look 29 = .ok (.iload 5, 2) := by decide +kernel
theorem dX7_look_31 : decode cX7_look 31 = .ok (.bipush 6, 2) := by decide +kernel
theorem dX7_look_33 : decode cX7_look 33 = .ok (.if_icmp .gt 133, 3) := by decide +kernel
theorem dX7_look_36 : decode cX7_look 36 = .ok (.iload_n 2, 1) := by decide +kernel
theorem dX7_look_37 : decode cX7_look 37 = .ok (.iconst 1, 1) := by decide +kernel
theorem dX7_look_38 : decode cX7_look 38 = .ok (.if_icmp .le 128, 3) := by decide +kernel
theorem dX7_look_41 : decode cX7_look 41 = .ok (.iconst 0, 1) := by decide +kernel
theorem dX7_look_42 : decode cX7_look 42 = .ok (.istore 6, 2) := by decide +kernel
theorem dX7_look_44 : decode cX7_look 44 = .ok (.iconst 0, 1) := by decide +kernel
theorem dX7_look_45 : decode cX7_look 45 = .ok (.istore 7, 2) := by decide +kernel
theorem dX7_look_47 : decode cX7_look 47 = .ok (.iload 7, 2) := by decide +kernel
theorem dX7_look_49 : decode cX7_look 49 = .ok (.bipush 20, 2) := by decide +kernel
theorem dX7_look_51 : decode cX7_look 51 = .ok (.if_icmp .gt 59, 3) := by decide +kernel
theorem dX7_look_54 : decode cX7_look 54 = .ok (.iconst 0, 1) := by decide +kernel
theorem dX7_look_55 : decode cX7_look 55 = .ok (.istore 8, 2) := by decide +kernel
theorem dX7_look_57 : decode cX7_look 57 = .ok (.iload 8, 2) := by decide +kernel
theorem dX7_look_59 : decode cX7_look 59 = .ok (.bipush 6, 2) := by decide +kernel
theorem dX7_look_61 : decode cX7_look 61 = .ok (.if_icmp .gt 43, 3) := by decide +kernel
theorem dX7_look_64 : decode cX7_look 64 = .ok (.iload 6, 2) := by decide +kernel
theorem dX7_look_66 : decode cX7_look 66 = .ok (.aload_n 0, 1) := by decide +kernel
theorem dX7_look_67 : decode cX7_look 67 = .ok (.iload 7, 2) := by decide +kernel
theorem dX7_look_69 : decode cX7_look 69 = .ok (.iload 8, 2) := by decide +kernel
theorem dX7_look_71 : decode cX7_look 71 = .ok (.invokevirtual 178, 3) := by decide +kernel
theorem dX7_look_74 : decode cX7_look 74 = .ok (.ifCond .eq 20, 3) := by decide +kernel
theorem dX7_look_77 : decode cX7_look 77 = .ok (.iload 7, 2) := by decide +kernel
theorem dX7_look_79 : decode cX7_look 79 = .ok (.iload 8, 2) := by decide +kernel
theorem dX7_look_81 : decode cX7_look 81 = .ok (.iload_n 1, 1) := by decide +kernel
theorem dX7_look_82 : decode cX7_look 82 = .ok (.iload 5, 2) := by decide +kernel
theorem dX7_look_84 : decode cX7_look 84 = .ok (.invokestatic 174, 3) := by decide +kernel
theorem dX7_look_87 : decode cX7_look 87 = .ok (.ifCond .eq 7, 3) := by decide +kernel
theorem dX7_look_90 : decode cX7_look 90 = .ok (.iconst 1, 1) := by decide +kernel
theorem dX7_look_91 : decode cX7_look 91 = .ok (.goto 4, 3) := by decide +kernel
theorem dX7_look_94 : decode cX7_look 94 = .ok (.iconst 0, 1) := by decide +kernel
theorem dX7_look_95 : decode cX7_look 95 = .ok (.iadd, 1) := by decide +kernel
theorem dX7_look_96 : decode cX7_look 96 = .ok (.istore 6, 2) := by decide +kernel
theorem dX7_look_98 : decode cX7_look 98 = .ok (.iinc 8 1, 3) := by decide +kernel
theorem dX7_look_101 : decode cX7_look 101 = .ok (.goto (-44), 3) := by decide +kernel
theorem dX7_look_104 : decode cX7_look 104 = .ok (.iinc 7 1, 3) := by decide +kernel
theorem dX7_look_107 : decode cX7_look 107 = .ok (.goto (-60), 3) := by decide +kernel
theorem dX7_look_110 : decode cX7_look 110 = .ok (.iload 6, 2) := by decide +kernel
theorem dX7_look_112 : decode cX7_look 112 = .ok (.iload_n 2, 1) := by decide +kernel
theorem dX7_look_113 : decode cX7_look 113 = .ok (.iload 6, 2) := by decide +kernel
theorem dX7_look_115 : decode cX7_look 115 = .ok (.isub, 1) := by decide +kernel
theorem dX7_look_116 : decode cX7_look 116 = .ok (.if_icmp .le 8, 3) := by decide +kernel
theorem dX7_look_119 : decode cX7_look 119 = .ok (.iload 6, 2) := by decide +kernel
theorem dX7_look_121 : decode cX7_look 121 = .ok (.goto 7, 3) := by decide +kernel
theorem dX7_look_124 : decode cX7_look 124 = .ok (.iload_n 2, 1) := by decide +kernel
theorem dX7_look_125 : decode cX7_look 125 = .ok (.iload 6, 2) := by decide +kernel
theorem dX7_look_127 : decode cX7_look 127 = .ok (.isub, 1) := by decide +kernel
theorem dX7_look_128 : decode cX7_look 128 = .ok (.istore 7, 2) := by decide +kernel
theorem dX7_look_130 : decode cX7_look 130 = .ok (.iload 7, 2) := by decide +kernel
theorem dX7_look_132 : decode cX7_look 132 = .ok (.iload 4, 2) := by decide +kernel
theorem dX7_look_134 : decode cX7_look 134 = .ok (.if_icmp .ge 8, 3) := by decide +kernel
theorem dX7_look_137 : decode cX7_look 137 = .ok (.iload 5, 2) := by decide +kernel
theorem dX7_look_139 : decode cX7_look 139 = .ok (.goto 4, 3) := by decide +kernel
theorem dX7_look_142 : decode cX7_look 142 = .ok (.iload_n 3, 1) := by decide +kernel
theorem dX7_look_143 : decode cX7_look 143 = .ok (.istore_n 3, 1) := by decide +kernel
theorem dX7_look_144 : decode cX7_look 144 = .ok (.iload 7, 2) := by decide +kernel
theorem dX7_look_146 : decode cX7_look 146 = .ok (.iload 4, 2) := by decide +kernel
theorem dX7_look_148 : decode cX7_look 148 = .ok (.if_icmp .ge 8, 3) := by decide +kernel
theorem dX7_look_151 : decode cX7_look 151 = .ok (.iload 7, 2) := by decide +kernel
theorem dX7_look_153 : decode cX7_look 153 = .ok (.goto 5, 3) := by decide +kernel
theorem dX7_look_156 : decode cX7_look 156 = .ok (.iload 4, 2) := by decide +kernel
theorem dX7_look_158 : decode cX7_look 158 = .ok (.istore 4, 2) := by decide +kernel
theorem dX7_look_160 : decode cX7_look 160 = .ok (.iinc 5 1, 3) := by decide +kernel
theorem dX7_look_163 : decode cX7_look 163 = .ok (.goto (-134), 3) := by decide +kernel
theorem dX7_look_166 : decode cX7_look 166 = .ok (.iload_n 3, 1) := by decide +kernel
theorem dX7_look_167 : decode cX7_look 167 = .ok (.ireturn, 1) := by decide +kernel
theorem dX7_rate_0 : decode cX7_rate 0 = .ok (.iload_n 1, 1) := by decide +kernel
theorem dX7_rate_1 : decode cX7_rate 1 = .ok (.iconst 0, 1) := by decide +kernel
theorem dX7_rate_2 : decode cX7_rate 2 = .ok (.iconst 5, 1) := by decide +kernel
theorem dX7_rate_3 : decode cX7_rate 3 = .ok (.invokestatic 51, 3) := by decide +kernel
theorem dX7_rate_6 : decode cX7_rate 6 = .ok (.ifCond .eq 11, 3) := by decide +kernel
theorem dX7_rate_9 : decode cX7_rate 9 = .ok (.aload_n 0, 1) := by decide +kernel
theorem dX7_rate_10 : decode cX7_rate 10 = .ok (.iload_n 2, 1) := by decide +kernel
theorem dX7_rate_11 : decode cX7_rate 11 = .ok (.invokevirtual 143, 3) := by decide +kernel
theorem dX7_rate_14 : decode cX7_rate 14 = .ok (.ifCond .ne 6, 3) := by decide +kernel
theorem dX7_rate_17 : decode cX7_rate 17 = .ok (.ldc 184, 2) := by decide +kernel
theorem dX7_rate_19 : decode cX7_rate 19 = .ok (.ireturn, 1) := by decide +kernel
theorem dX7_rate_20 : decode cX7_rate 20 = .ok (.aload_n 0, 1) := by decide +kernel
theorem dX7_rate_21 : decode cX7_rate 21 = .ok (.getfield 19, 3) := by decide +kernel
theorem dX7_rate_24 : decode cX7_rate 24 = .ok (.iconst 2, 1) := by decide +kernel
theorem dX7_rate_25 : decode cX7_rate 25 = .ok (.iload_n 2, 1) := by decide +kernel
theorem dX7_rate_26 : decode cX7_rate 26 = .ok (.iadd, 1) := by decide +kernel
theorem dX7_rate_27 : decode cX7_rate 27 = .ok (.iaload, 1) := by decide +kernel
theorem dX7_rate_28 : decode cX7_rate 28 = .ok (.istore_n 3, 1) := by decide +kernel
theorem dX7_rate_29 : decode cX7_rate 29 = .ok (.iload_n 3, 1) := by decide +kernel
theorem dX7_rate_30 : decode cX7_rate 30 = .ok (.aload_n 0, 1) := by decide +kernel
theorem dX7_rate_31 : decode cX7_rate 31 = .ok (.iload_n 2, 1) := by decide +kernel
theorem dX7_rate_32 : decode cX7_rate 32 = .ok (.invokevirtual 146, 3) := by decide +kernel
theorem dX7_rate_35 : decode cX7_rate 35 = .ok (.invokestatic 114, 3) := by decide +kernel
theorem dX7_rate_38 : decode cX7_rate 38 = .ok (.iadd, 1) := by decide +kernel
theorem dX7_rate_39 : decode cX7_rate 39 = .ok (.istore 4, 2) := by decide +kernel
theorem dX7_rate_41 : decode cX7_rate 41 = .ok (.iload_n 3, 1) := by decide +kernel
theorem dX7_rate_42 : decode cX7_rate 42 = .ok (.aload_n 0, 1) := by decide +kernel
theorem dX7_rate_43 : decode cX7_rate 43 = .ok (.getfield 13, 3) := by decide +kernel
theorem dX7_rate_46 : decode cX7_rate 46 = .ok (.iload_n 2, 1) := by decide +kernel
theorem dX7_rate_47 : decode cX7_rate 47 = .ok (.iaload, 1) := by decide +kernel
theorem dX7_rate_48 : decode cX7_rate 48 = .ok (.isub, 1) := by decide +kernel
theorem dX7_rate_49 : decode cX7_rate 49 = .ok (.istore 5, 2) := by decide +kernel
theorem dX7_rate_51 : decode cX7_rate 51 = .ok (.iload_n 1, 1) := by decide +kernel
theorem dX7_rate_52 : decode cX7_rate 52 = .ok (.tableswitch 121 1 5 #[36, 51, 66, 83, 100], 36) := by decide +kernel
theorem dX7_rate_88 : decode cX7_rate 88 = .ok (.aload_n 0, 1) := by decide +kernel
theorem dX7_rate_89 : decode cX7_rate 89 = .ok (.dup, 1) := by decide +kernel
theorem dX7_rate_90 : decode cX7_rate 90 = .ok (.getfield 185, 3) := by decide +kernel
theorem dX7_rate_93 : decode cX7_rate 93 = .ok (.ldc2_w 189, 3) := by decide +kernel
theorem dX7_rate_96 : decode cX7_rate 96 = .ok (.ladd, 1) := by decide +kernel
theorem dX7_rate_97 : decode cX7_rate 97 = .ok (.putfield 185, 3) := by decide +kernel
theorem dX7_rate_100 : decode cX7_rate 100 = .ok (.iload 4, 2) := by decide +kernel
theorem dX7_rate_102 : decode cX7_rate 102 = .ok (.ireturn, 1) := by decide +kernel
theorem dX7_rate_103 : decode cX7_rate 103 = .ok (.aload_n 0, 1) := by decide +kernel
theorem dX7_rate_104 : decode cX7_rate 104 = .ok (.dup, 1) := by decide +kernel
theorem dX7_rate_105 : decode cX7_rate 105 = .ok (.getfield 185, 3) := by decide +kernel
theorem dX7_rate_108 : decode cX7_rate 108 = .ok (.ldc2_w 191, 3) := by decide +kernel
theorem dX7_rate_111 : decode cX7_rate 111 = .ok (.ladd, 1) := by decide +kernel
theorem dX7_rate_112 : decode cX7_rate 112 = .ok (.putfield 185, 3) := by decide +kernel
theorem dX7_rate_115 : decode cX7_rate 115 = .ok (.iload 5, 2) := by decide +kernel
theorem dX7_rate_117 : decode cX7_rate 117 = .ok (.ireturn, 1) := by decide +kernel
theorem dX7_rate_118 : decode cX7_rate 118 = .ok (.aload_n 0, 1) := by decide +kernel
theorem dX7_rate_119 : decode cX7_rate 119 = .ok (.dup, 1) := by decide +kernel
theorem dX7_rate_120 : decode cX7_rate 120 = .ok (.getfield 185, 3) := by decide +kernel
theorem dX7_rate_123 : decode cX7_rate 123 = .ok (.ldc2_w 193, 3) := by decide +kernel
theorem dX7_rate_126 : decode cX7_rate 126 = .ok (.ladd, 1) := by decide +kernel
theorem dX7_rate_127 : decode cX7_rate 127 = .ok (.putfield 185, 3) := by decide +kernel
theorem dX7_rate_130 : decode cX7_rate 130 = .ok (.iconst 2, 1) := by decide +kernel
theorem dX7_rate_131 : decode cX7_rate 131 = .ok (.iload 4, 2) := by decide +kernel
theorem dX7_rate_133 : decode cX7_rate 133 = .ok (.imul, 1) := by decide +kernel
theorem dX7_rate_134 : decode cX7_rate 134 = .ok (.ireturn, 1) := by decide +kernel
theorem dX7_rate_135 : decode cX7_rate 135 = .ok (.aload_n 0, 1) := by decide +kernel
theorem dX7_rate_136 : decode cX7_rate 136 = .ok (.dup, 1) := by decide +kernel
theorem dX7_rate_137 : decode cX7_rate 137 = .ok (.getfield 185, 3) := by decide +kernel
theorem dX7_rate_140 : decode cX7_rate 140 = .ok (.ldc2_w 195, 3) := by decide +kernel
theorem dX7_rate_143 : decode cX7_rate 143 = .ok (.ladd, 1) := by decide +kernel
theorem dX7_rate_144 : decode cX7_rate 144 = .ok (.putfield 185, 3) := by decide +kernel
theorem dX7_rate_147 : decode cX7_rate 147 = .ok (.iload 5, 2) := by decide +kernel
theorem dX7_rate_149 : decode cX7_rate 149 = .ok (.iload_n 2, 1) := by decide +kernel
theorem dX7_rate_150 : decode cX7_rate 150 = .ok (.iadd, 1) := by decide +kernel
theorem dX7_rate_151 : decode cX7_rate 151 = .ok (.ireturn, 1) := by decide +kernel
theorem dX7_rate_152 : decode cX7_rate 152 = .ok (.aload_n 0, 1) := by decide +kernel
theorem dX7_rate_153 : decode cX7_rate 153 = .ok (.dup, 1) := by decide +kernel
theorem dX7_rate_154 : decode cX7_rate 154 = .ok (.getfield 185, 3) := by decide +kernel
theorem dX7_rate_157 : decode cX7_rate 157 = .ok (.ldc2_w 197, 3) := by decide +kernel
theorem dX7_rate_160 : decode cX7_rate 160 = .ok (.ladd, 1) := by decide +kernel
theorem dX7_rate_161 : decode cX7_rate 161 = .ok (.putfield 185, 3) := by decide +kernel
theorem dX7_rate_164 : decode cX7_rate 164 = .ok (.iload_n 3, 1) := by decide +kernel
theorem dX7_rate_165 : decode cX7_rate 165 = .ok (.aload_n 0, 1) := by decide +kernel
theorem dX7_rate_166 : decode cX7_rate 166 = .ok (.getfield 19, 3) := by decide +kernel
theorem dX7_rate_169 : decode cX7_rate 169 = .ok (.iconst 0, 1) := by decide +kernel
theorem dX7_rate_170 : decode cX7_rate 170 = .ok (.iaload, 1) := by decide +kernel
theorem dX7_rate_171 : decode cX7_rate 171 = .ok (.iadd, 1) := by decide +kernel
theorem dX7_rate_172 : decode cX7_rate 172 = .ok (.ireturn, 1) := by decide +kernel
theorem dX7_rate_173 : decode cX7_rate 173 = .ok (.aload_n 0, 1) := by decide +kernel
theorem dX7_rate_174 : decode cX7_rate 174 = .ok (.dup, 1) := by decide +kernel
theorem dX7_rate_175 : decode cX7_rate 175 = .ok (.getfield 185, 3) := by decide +kernel
theorem dX7_rate_178 : decode cX7_rate 178 = .ok (.lconst 1, 1) := by decide +kernel
theorem dX7_rate_179 : decode cX7_rate 179 = .ok (.ladd, 1) := by decide +kernel
theorem dX7_rate_180 : decode cX7_rate 180 = .ok (.putfield 185, 3) := by decide +kernel
theorem dX7_rate_183 : decode cX7_rate 183 = .ok (.iload_n 3, 1) := by decide +kernel
theorem dX7_rate_184 : decode cX7_rate 184 = .ok (.ireturn, 1) := by decide +kernel
theorem dX7_keep_0 : decode cX7_keep 0 = .ok (.iload_n 1, 1) := by decide +kernel
theorem dX7_keep_1 : decode cX7_keep 1 = .ok (.iconst 0, 1) := by decide +kernel
theorem dX7_keep_2 : decode cX7_keep 2 = .ok (.iconst 1, 1) := by decide +kernel
theorem dX7_keep_3 : decode cX7_keep 3 = .ok (.invokestatic 51, 3) := by decide +kernel
theorem dX7_keep_6 : decode cX7_keep 6 = .ok (.ifCond .ne 5, 3) := by decide +kernel
theorem dX7_keep_9 : decode cX7_keep 9 = .ok (.iconst (-1), 1) := by decide +kernel
theorem dX7_keep_10 : decode cX7_keep 10 = .ok (.ireturn, 1) := by decide +kernel
theorem dX7_keep_11 : decode cX7_keep 11 = .ok (.aload_n 0, 1) := by decide +kernel
theorem dX7_keep_12 : decode cX7_keep 12 = .ok (.getfield 25, 3) := by decide +kernel
theorem dX7_keep_15 : decode cX7_keep 15 = .ok (.bipush 14, 2) := by decide +kernel
theorem dX7_keep_17 : decode cX7_keep 17 = .ok (.iload_n 1, 1) := by decide +kernel
theorem dX7_keep_18 : decode cX7_keep 18 = .ok (.imul, 1) := by decide +kernel
theorem dX7_keep_19 : decode cX7_keep 19 = .ok (.aload_n 0, 1) := by decide +kernel
theorem dX7_keep_20 : decode cX7_keep 20 = .ok (.getfield 19, 3) := by decide +kernel
theorem dX7_keep_23 : decode cX7_keep 23 = .ok (.iconst 0, 1) := by decide +kernel
theorem dX7_keep_24 : decode cX7_keep 24 = .ok (.invokestatic 110, 3) := by decide +kernel
theorem dX7_keep_27 : decode cX7_keep 27 = .ok (.aload_n 0, 1) := by decide +kernel
theorem dX7_keep_28 : decode cX7_keep 28 = .ok (.getfield 28, 3) := by decide +kernel
theorem dX7_keep_31 : decode cX7_keep 31 = .ok (.iload_n 1, 1) := by decide +kernel
theorem dX7_keep_32 : decode cX7_keep 32 = .ok (.iconst 1, 1) := by decide +kernel
theorem dX7_keep_33 : decode cX7_keep 33 = .ok (.bastore, 1) := by decide +kernel
theorem dX7_keep_34 : decode cX7_keep 34 = .ok (.aload_n 0, 1) := by decide +kernel
theorem dX7_keep_35 : decode cX7_keep 35 = .ok (.getfield 19, 3) := by decide +kernel
theorem dX7_keep_38 : decode cX7_keep 38 = .ok (.iconst 0, 1) := by decide +kernel
theorem dX7_keep_39 : decode cX7_keep 39 = .ok (.iaload, 1) := by decide +kernel
theorem dX7_keep_40 : decode cX7_keep 40 = .ok (.ireturn, 1) := by decide +kernel
theorem dX7_back_0 : decode cX7_back 0 = .ok (.iload_n 1, 1) := by decide +kernel
theorem dX7_back_1 : decode cX7_back 1 = .ok (.iconst 0, 1) := by decide +kernel
theorem dX7_back_2 : decode cX7_back 2 = .ok (.iconst 1, 1) := by decide +kernel
theorem dX7_back_3 : decode cX7_back 3 = .ok (.invokestatic 51, 3) := by decide +kernel
theorem dX7_back_6 : decode cX7_back 6 = .ok (.ifCond .ne 5, 3) := by decide +kernel
theorem dX7_back_9 : decode cX7_back 9 = .ok (.iconst (-1), 1) := by decide +kernel
theorem dX7_back_10 : decode cX7_back 10 = .ok (.ireturn, 1) := by decide +kernel
theorem dX7_back_11 : decode cX7_back 11 = .ok (.aload_n 0, 1) := by decide +kernel
theorem dX7_back_12 : decode cX7_back 12 = .ok (.getfield 28, 3) := by decide +kernel
theorem dX7_back_15 : decode cX7_back 15 = .ok (.iload_n 1, 1) := by decide +kernel
theorem dX7_back_16 : decode cX7_back 16 = .ok (.baload, 1) := by decide +kernel
theorem dX7_back_17 : decode cX7_back 17 = .ok (.ifCond .ne 6, 3) := by decide +kernel
theorem dX7_back_20 : decode cX7_back 20 = .ok (.bipush (-2), 2) := by decide +kernel
theorem dX7_back_22 : decode cX7_back 22 = .ok (.ireturn, 1) := by decide +kernel
theorem dX7_back_23 : decode cX7_back 23 = .ok (.aload_n 0, 1) := by decide +kernel
theorem dX7_back_24 : decode cX7_back 24 = .ok (.getfield 19, 3) := by decide +kernel
theorem dX7_back_27 : decode cX7_back 27 = .ok (.iconst 0, 1) := by decide +kernel
theorem dX7_back_28 : decode cX7_back 28 = .ok (.aload_n 0, 1) := by decide +kernel
theorem dX7_back_29 : decode cX7_back 29 = .ok (.getfield 25, 3) := by decide +kernel
theorem dX7_back_32 : decode cX7_back 32 = .ok (.bipush 14, 2) := by decide +kernel
theorem dX7_back_34 : decode cX7_back 34 = .ok (.iload_n 1, 1) := by decide +kernel
theorem dX7_back_35 : decode cX7_back 35 = .ok (.imul, 1) := by decide +kernel
theorem dX7_back_36 : decode cX7_back 36 = .ok (.invokestatic 110, 3) := by decide +kernel
theorem dX7_back_39 : decode cX7_back 39 = .ok (.aload_n 0, 1) := by decide +kernel
theorem dX7_back_40 : decode cX7_back 40 = .ok (.iconst 0, 1) := by decide +kernel
theorem dX7_back_41 : decode cX7_back 41 = .ok (.putfield 104, 3) := by decide +kernel
theorem dX7_back_44 : decode cX7_back 44 = .ok (.aload_n 0, 1) := by decide +kernel
theorem dX7_back_45 : decode cX7_back 45 = .ok (.getfield 19, 3) := by decide +kernel
theorem dX7_back_48 : decode cX7_back 48 = .ok (.iconst 0, 1) := by decide +kernel
theorem dX7_back_49 : decode cX7_back 49 = .ok (.iaload, 1) := by decide +kernel
theorem dX7_back_50 : decode cX7_back 50 = .ok (.ireturn, 1) := by decide +kernel
theorem dX7_count_0 : decode cX7_count 0 = .ok (.iload_n 1, 1) := by decide +kernel
theorem dX7_count_1 : decode cX7_count 1 = .ok (.ifCond .ne 10, 3) := by decide +kernel
theorem dX7_count_4 : decode cX7_count 4 = .ok (.aload_n 0, 1) := by decide +kernel
theorem dX7_count_5 : decode cX7_count 5 = .ok (.getfield 47, 3) := by decide +kernel
theorem dX7_count_8 : decode cX7_count 8 = .ok (.goto 28, 3) := by decide +kernel
theorem dX7_count_11 : decode cX7_count 11 = .ok (.iload_n 1, 1) := by decide +kernel
theorem dX7_count_12 : decode cX7_count 12 = .ok (.iconst 1, 1) := by decide +kernel
theorem dX7_count_13 : decode cX7_count 13 = .ok (.if_icmp .ne 10, 3) := by decide +kernel
theorem dX7_count_16 : decode cX7_count 16 = .ok (.aload_n 0, 1) := by decide +kernel
theorem dX7_count_17 : decode cX7_count 17 = .ok (.getfield 107, 3) := by decide +kernel
theorem dX7_count_20 : decode cX7_count 20 = .ok (.goto 16, 3) := by decide +kernel
theorem dX7_count_23 : decode cX7_count 23 = .ok (.iload_n 1, 1) := by decide +kernel
theorem dX7_count_24 : decode cX7_count 24 = .ok (.iconst 2, 1) := by decide +kernel
theorem dX7_count_25 : decode cX7_count 25 = .ok (.if_icmp .ne 10, 3) := by decide +kernel
theorem dX7_count_28 : decode cX7_count 28 = .ok (.aload_n 0, 1) := by decide +kernel
theorem dX7_count_29 : decode cX7_count 29 = .ok (.getfield 55, 3) := by decide +kernel
theorem dX7_count_32 : decode cX7_count 32 = .ok (.goto 4, 3) := by decide +kernel
theorem dX7_count_35 : decode cX7_count 35 = .ok (.iconst (-1), 1) := by decide +kernel
theorem dX7_count_36 : decode cX7_count 36 = .ok (.ireturn, 1) := by decide +kernel
theorem dX7_trace_0 : decode cX7_trace 0 = .ok (.aload_n 0, 1) := by decide +kernel
theorem dX7_trace_1 : decode cX7_trace 1 = .ok (.getfield 185, 3) := by decide +kernel
theorem dX7_trace_4 : decode cX7_trace 4 = .ok (.lreturn, 1) := by decide +kernel
theorem dJ6_bitCount_0f7a4_0 : decode cJ6_bitCount_0f7a4 0 = .ok (.iload_n 0, 1) := by decide +kernel
theorem dJ6_bitCount_0f7a4_1 : decode cJ6_bitCount_0f7a4 1 = .ok (.iload_n 0, 1) := by decide +kernel
theorem dJ6_bitCount_0f7a4_2 : decode cJ6_bitCount_0f7a4 2 = .ok (.iconst 1, 1) := by decide +kernel
theorem dJ6_bitCount_0f7a4_3 : decode cJ6_bitCount_0f7a4 3 = .ok (.iushr, 1) := by decide +kernel
theorem dJ6_bitCount_0f7a4_4 : decode cJ6_bitCount_0f7a4 4 = .ok (.ldc_w 265, 3) := by decide +kernel
theorem dJ6_bitCount_0f7a4_7 : decode cJ6_bitCount_0f7a4 7 = .ok (.iand, 1) := by decide +kernel
theorem dJ6_bitCount_0f7a4_8 : decode cJ6_bitCount_0f7a4 8 = .ok (.isub, 1) := by decide +kernel
theorem dJ6_bitCount_0f7a4_9 : decode cJ6_bitCount_0f7a4 9 = .ok (.istore_n 0, 1) := by decide +kernel
theorem dJ6_bitCount_0f7a4_10 : decode cJ6_bitCount_0f7a4 10 = .ok (.iload_n 0, 1) := by decide +kernel
theorem dJ6_bitCount_0f7a4_11 : decode cJ6_bitCount_0f7a4 11 = .ok (.ldc_w 266, 3) := by decide +kernel
theorem dJ6_bitCount_0f7a4_14 : decode cJ6_bitCount_0f7a4 14 = .ok (.iand, 1) := by decide +kernel
theorem dJ6_bitCount_0f7a4_15 : decode cJ6_bitCount_0f7a4 15 = .ok (.iload_n 0, 1) := by decide +kernel
theorem dJ6_bitCount_0f7a4_16 : decode cJ6_bitCount_0f7a4 16 = .ok (.iconst 2, 1) := by decide +kernel
theorem dJ6_bitCount_0f7a4_17 : decode cJ6_bitCount_0f7a4 17 = .ok (.iushr, 1) := by decide +kernel
theorem dJ6_bitCount_0f7a4_18 : decode cJ6_bitCount_0f7a4 18 = .ok (.ldc_w 266, 3) := by decide +kernel
theorem dJ6_bitCount_0f7a4_21 : decode cJ6_bitCount_0f7a4 21 = .ok (.iand, 1) := by decide +kernel
theorem dJ6_bitCount_0f7a4_22 : decode cJ6_bitCount_0f7a4 22 = .ok (.iadd, 1) := by decide +kernel
theorem dJ6_bitCount_0f7a4_23 : decode cJ6_bitCount_0f7a4 23 = .ok (.istore_n 0, 1) := by decide +kernel
theorem dJ6_bitCount_0f7a4_24 : decode cJ6_bitCount_0f7a4 24 = .ok (.iload_n 0, 1) := by decide +kernel
theorem dJ6_bitCount_0f7a4_25 : decode cJ6_bitCount_0f7a4 25 = .ok (.iload_n 0, 1) := by decide +kernel
theorem dJ6_bitCount_0f7a4_26 : decode cJ6_bitCount_0f7a4 26 = .ok (.iconst 4, 1) := by decide +kernel
theorem dJ6_bitCount_0f7a4_27 : decode cJ6_bitCount_0f7a4 27 = .ok (.iushr, 1) := by decide +kernel
theorem dJ6_bitCount_0f7a4_28 : decode cJ6_bitCount_0f7a4 28 = .ok (.iadd, 1) := by decide +kernel
theorem dJ6_bitCount_0f7a4_29 : decode cJ6_bitCount_0f7a4 29 = .ok (.ldc_w 267, 3) := by decide +kernel
theorem dJ6_bitCount_0f7a4_32 : decode cJ6_bitCount_0f7a4 32 = .ok (.iand, 1) := by decide +kernel
theorem dJ6_bitCount_0f7a4_33 : decode cJ6_bitCount_0f7a4 33 = .ok (.istore_n 0, 1) := by decide +kernel
theorem dJ6_bitCount_0f7a4_34 : decode cJ6_bitCount_0f7a4 34 = .ok (.iload_n 0, 1) := by decide +kernel
theorem dJ6_bitCount_0f7a4_35 : decode cJ6_bitCount_0f7a4 35 = .ok (.iload_n 0, 1) := by decide +kernel
theorem dJ6_bitCount_0f7a4_36 : decode cJ6_bitCount_0f7a4 36 = .ok (.bipush 8, 2) := by decide +kernel
theorem dJ6_bitCount_0f7a4_38 : decode cJ6_bitCount_0f7a4 38 = .ok (.iushr, 1) := by decide +kernel
theorem dJ6_bitCount_0f7a4_39 : decode cJ6_bitCount_0f7a4 39 = .ok (.iadd, 1) := by decide +kernel
theorem dJ6_bitCount_0f7a4_40 : decode cJ6_bitCount_0f7a4 40 = .ok (.istore_n 0, 1) := by decide +kernel
theorem dJ6_bitCount_0f7a4_41 : decode cJ6_bitCount_0f7a4 41 = .ok (.iload_n 0, 1) := by decide +kernel
theorem dJ6_bitCount_0f7a4_42 : decode cJ6_bitCount_0f7a4 42 = .ok (.iload_n 0, 1) := by decide +kernel
theorem dJ6_bitCount_0f7a4_43 : decode cJ6_bitCount_0f7a4 43 = .ok (.bipush 16, 2) := by decide +kernel
theorem dJ6_bitCount_0f7a4_45 : decode cJ6_bitCount_0f7a4 45 = .ok (.iushr, 1) := by decide +kernel
theorem dJ6_bitCount_0f7a4_46 : decode cJ6_bitCount_0f7a4 46 = .ok (.iadd, 1) := by decide +kernel
theorem dJ6_bitCount_0f7a4_47 : decode cJ6_bitCount_0f7a4 47 = .ok (.istore_n 0, 1) := by decide +kernel
theorem dJ6_bitCount_0f7a4_48 : decode cJ6_bitCount_0f7a4 48 = .ok (.iload_n 0, 1) := by decide +kernel
theorem dJ6_bitCount_0f7a4_49 : decode cJ6_bitCount_0f7a4 49 = .ok (.bipush 63, 2) := by decide +kernel
theorem dJ6_bitCount_0f7a4_51 : decode cJ6_bitCount_0f7a4 51 = .ok (.iand, 1) := by decide +kernel
theorem dJ6_bitCount_0f7a4_52 : decode cJ6_bitCount_0f7a4 52 = .ok (.ireturn, 1) := by decide +kernel
theorem dJ9_abs_0f7a4_0 : decode cJ9_abs_0f7a4 0 = .ok (.iload_n 0, 1) := by decide +kernel
theorem dJ9_abs_0f7a4_1 : decode cJ9_abs_0f7a4 1 = .ok (.ifCond .ge 8, 3) := by decide +kernel
theorem dJ9_abs_0f7a4_4 : decode cJ9_abs_0f7a4 4 = .ok (.iload_n 0, 1) := by decide +kernel
theorem dJ9_abs_0f7a4_5 : decode cJ9_abs_0f7a4 5 = .ok (.ineg, 1) := by decide +kernel
theorem dJ9_abs_0f7a4_6 : decode cJ9_abs_0f7a4 6 = .ok (.goto 4, 3) := by decide +kernel
theorem dJ9_abs_0f7a4_9 : decode cJ9_abs_0f7a4 9 = .ok (.iload_n 0, 1) := by decide +kernel
theorem dJ9_abs_0f7a4_10 : decode cJ9_abs_0f7a4 10 = .ok (.ireturn, 1) := by decide +kernel
theorem dJ9_max_7cf53_0 : decode cJ9_max_7cf53 0 = .ok (.iload_n 0, 1) := by decide +kernel
theorem dJ9_max_7cf53_1 : decode cJ9_max_7cf53 1 = .ok (.iload_n 1, 1) := by decide +kernel
theorem dJ9_max_7cf53_2 : decode cJ9_max_7cf53 2 = .ok (.if_icmp .lt 7, 3) := by decide +kernel
theorem dJ9_max_7cf53_5 : decode cJ9_max_7cf53 5 = .ok (.iload_n 0, 1) := by decide +kernel
theorem dJ9_max_7cf53_6 : decode cJ9_max_7cf53 6 = .ok (.goto 4, 3) := by decide +kernel
theorem dJ9_max_7cf53_9 : decode cJ9_max_7cf53 9 = .ok (.iload_n 1, 1) := by decide +kernel
theorem dJ9_max_7cf53_10 : decode cJ9_max_7cf53 10 = .ok (.ireturn, 1) := by decide +kernel
theorem dJ9_min_7cf53_0 : decode cJ9_min_7cf53 0 = .ok (.iload_n 0, 1) := by decide +kernel
theorem dJ9_min_7cf53_1 : decode cJ9_min_7cf53 1 = .ok (.iload_n 1, 1) := by decide +kernel
theorem dJ9_min_7cf53_2 : decode cJ9_min_7cf53 2 = .ok (.if_icmp .gt 7, 3) := by decide +kernel
theorem dJ9_min_7cf53_5 : decode cJ9_min_7cf53 5 = .ok (.iload_n 0, 1) := by decide +kernel
theorem dJ9_min_7cf53_6 : decode cJ9_min_7cf53 6 = .ok (.goto 4, 3) := by decide +kernel
theorem dJ9_min_7cf53_9 : decode cJ9_min_7cf53 9 = .ok (.iload_n 1, 1) := by decide +kernel
theorem dJ9_min_7cf53_10 : decode cJ9_min_7cf53 10 = .ok (.ireturn, 1) := by decide +kernel
theorem dL_law_0 : decode cL_law 0 = .ok (.new 7, 3) := by decide +kernel
theorem dL_law_3 : decode cL_law 3 = .ok (.dup, 1) := by decide +kernel
theorem dL_law_4 : decode cL_law 4 = .ok (.invokespecial 9, 3) := by decide +kernel
theorem dL_law_7 : decode cL_law 7 = .ok (.astore_n 1, 1) := by decide +kernel
theorem dL_law_8 : decode cL_law 8 = .ok (.new 10, 3) := by decide +kernel
theorem dL_law_11 : decode cL_law 11 = .ok (.dup, 1) := by decide +kernel
theorem dL_law_12 : decode cL_law 12 = .ok (.invokespecial 12, 3) := by decide +kernel
theorem dL_law_15 : decode cL_law 15 = .ok (.astore_n 2, 1) := by decide +kernel
theorem dL_law_16 : decode cL_law 16 = .ok (.iconst 0, 1) := by decide +kernel
theorem dL_law_17 : decode cL_law 17 = .ok (.istore_n 3, 1) := by decide +kernel
theorem dL_law_18 : decode cL_law 18 = .ok (.iload_n 3, 1) := by decide +kernel
theorem dL_law_19 : decode cL_law 19 = .ok (.aload_n 0, 1) := by decide +kernel
theorem dL_law_20 : decode cL_law 20 = .ok (.arraylength, 1) := by decide +kernel
theorem dL_law_21 : decode cL_law 21 = .ok (.iconst 5, 1) := by decide +kernel
theorem dL_law_22 : decode cL_law 22 = .ok (.isub, 1) := by decide +kernel
theorem dL_law_23 : decode cL_law 23 = .ok (.if_icmp .gt 629, 3) := by decide +kernel
theorem dL_law_26 : decode cL_law 26 = .ok (.aload_n 0, 1) := by decide +kernel
theorem dL_law_27 : decode cL_law 27 = .ok (.iload_n 3, 1) := by decide +kernel
theorem dL_law_28 : decode cL_law 28 = .ok (.iaload, 1) := by decide +kernel
theorem dL_law_29 : decode cL_law 29 = .ok (.bipush 31, 2) := by decide +kernel
theorem dL_law_31 : decode cL_law 31 = .ok (.iand, 1) := by decide +kernel
theorem dL_law_32 : decode cL_law 32 = .ok (.tableswitch 614 0 20 #[100, 123, 136, 149, 182, 205, 228, 251, 284, 297, 320, 343, 396, 439, 452, 475, 498, 531, 554, 577, 600], 100) := by decide +kernel
theorem dL_law_132 : decode cL_law 132 = .ok (.aload_n 1, 1) := by decide +kernel
theorem dL_law_133 : decode cL_law 133 = .ok (.aload_n 0, 1) := by decide +kernel
theorem dL_law_134 : decode cL_law 134 = .ok (.iload_n 3, 1) := by decide +kernel
theorem dL_law_135 : decode cL_law 135 = .ok (.iconst 1, 1) := by decide +kernel
theorem dL_law_136 : decode cL_law 136 = .ok (.iadd, 1) := by decide +kernel
theorem dL_law_137 : decode cL_law 137 = .ok (.iaload, 1) := by decide +kernel
theorem dL_law_138 : decode cL_law 138 = .ok (.invokevirtual 13, 3) := by decide +kernel
theorem dL_law_141 : decode cL_law 141 = .ok (.aload_n 2, 1) := by decide +kernel
theorem dL_law_142 : decode cL_law 142 = .ok (.aload_n 0, 1) := by decide +kernel
theorem dL_law_143 : decode cL_law 143 = .ok (.iload_n 3, 1) := by decide +kernel
theorem dL_law_144 : decode cL_law 144 = .ok (.iconst 1, 1) := by decide +kernel
theorem dL_law_145 : decode cL_law 145 = .ok (.iadd, 1) := by decide +kernel
theorem dL_law_146 : decode cL_law 146 = .ok (.iaload, 1) := by decide +kernel
theorem dL_law_147 : decode cL_law 147 = .ok (.invokevirtual 17, 3) := by decide +kernel
theorem dL_law_150 : decode cL_law 150 = .ok (.if_icmp .eq 496, 3) := by decide +kernel
theorem dL_law_153 : decode cL_law 153 = .ok (.iconst 0, 1) := by decide +kernel
theorem dL_law_154 : decode cL_law 154 = .ok (.ireturn, 1) := by decide +kernel
theorem dL_law_155 : decode cL_law 155 = .ok (.aload_n 1, 1) := by decide +kernel
theorem dL_law_156 : decode cL_law 156 = .ok (.invokevirtual 18, 3) := by decide +kernel
theorem dL_law_159 : decode cL_law 159 = .ok (.aload_n 2, 1) := by decide +kernel
theorem dL_law_160 : decode cL_law 160 = .ok (.invokevirtual 22, 3) := by decide +kernel
theorem dL_law_163 : decode cL_law 163 = .ok (.if_icmp .eq 483, 3) := by decide +kernel
theorem dL_law_166 : decode cL_law 166 = .ok (.iconst 0, 1) := by decide +kernel
theorem dL_law_167 : decode cL_law 167 = .ok (.ireturn, 1) := by decide +kernel
theorem dL_law_168 : decode cL_law 168 = .ok (.aload_n 1, 1) := by decide +kernel
theorem dL_law_169 : decode cL_law 169 = .ok (.invokevirtual 23, 3) := by decide +kernel
theorem dL_law_172 : decode cL_law 172 = .ok (.aload_n 2, 1) := by decide +kernel
theorem dL_law_173 : decode cL_law 173 = .ok (.invokevirtual 26, 3) := by decide +kernel
theorem dL_law_176 : decode cL_law 176 = .ok (.if_icmp .eq 470, 3) := by decide +kernel
theorem dL_law_179 : decode cL_law 179 = .ok (.iconst 0, 1) := by decide +kernel
theorem dL_law_180 : decode cL_law 180 = .ok (.ireturn, 1) := by decide +kernel
theorem dL_law_181 : decode cL_law 181 = .ok (.aload_n 1, 1) := by decide +kernel
theorem dL_law_182 : decode cL_law 182 = .ok (.aload_n 0, 1) := by decide +kernel
theorem dL_law_183 : decode cL_law 183 = .ok (.iload_n 3, 1) := by decide +kernel
theorem dL_law_184 : decode cL_law 184 = .ok (.iconst 1, 1) := by decide +kernel
theorem dL_law_185 : decode cL_law 185 = .ok (.iadd, 1) := by decide +kernel
theorem dL_law_186 : decode cL_law 186 = .ok (.iaload, 1) := by decide +kernel
theorem dL_law_187 : decode cL_law 187 = .ok (.aload_n 0, 1) := by decide +kernel
theorem dL_law_188 : decode cL_law 188 = .ok (.iload_n 3, 1) := by decide +kernel
theorem dL_law_189 : decode cL_law 189 = .ok (.iconst 2, 1) := by decide +kernel
theorem dL_law_190 : decode cL_law 190 = .ok (.iadd, 1) := by decide +kernel
theorem dL_law_191 : decode cL_law 191 = .ok (.iaload, 1) := by decide +kernel
theorem dL_law_192 : decode cL_law 192 = .ok (.invokevirtual 27, 3) := by decide +kernel
theorem dL_law_195 : decode cL_law 195 = .ok (.aload_n 2, 1) := by decide +kernel
theorem dL_law_196 : decode cL_law 196 = .ok (.aload_n 0, 1) := by decide +kernel
theorem dL_law_197 : decode cL_law 197 = .ok (.iload_n 3, 1) := by decide +kernel
theorem dL_law_198 : decode cL_law 198 = .ok (.iconst 1, 1) := by decide +kernel
theorem dL_law_199 : decode cL_law 199 = .ok (.iadd, 1) := by decide +kernel
theorem dL_law_200 : decode cL_law 200 = .ok (.iaload, 1) := by decide +kernel
theorem dL_law_201 : decode cL_law 201 = .ok (.aload_n 0, 1) := by decide +kernel
theorem dL_law_202 : decode cL_law 202 = .ok (.iload_n 3, 1) := by decide +kernel
theorem dL_law_203 : decode cL_law 203 = .ok (.iconst 2, 1) := by decide +kernel
theorem dL_law_204 : decode cL_law 204 = .ok (.iadd, 1) := by decide +kernel
theorem dL_law_205 : decode cL_law 205 = .ok (.iaload, 1) := by decide +kernel
theorem dL_law_206 : decode cL_law 206 = .ok (.invokevirtual 31, 3) := by decide +kernel
theorem dL_law_209 : decode cL_law 209 = .ok (.if_icmp .eq 437, 3) := by decide +kernel
theorem dL_law_212 : decode cL_law 212 = .ok (.iconst 0, 1) := by decide +kernel
theorem dL_law_213 : decode cL_law 213 = .ok (.ireturn, 1) := by decide +kernel
theorem dL_law_214 : decode cL_law 214 = .ok (.aload_n 1, 1) := by decide +kernel
theorem dL_law_215 : decode cL_law 215 = .ok (.aload_n 0, 1) := by decide +kernel
theorem dL_law_216 : decode cL_law 216 = .ok (.iload_n 3, 1) := by decide +kernel
theorem dL_law_217 : decode cL_law 217 = .ok (.iconst 1, 1) := by decide +kernel
theorem dL_law_218 : decode cL_law 218 = .ok (.iadd, 1) := by decide +kernel
theorem dL_law_219 : decode cL_law 219 = .ok (.iaload, 1) := by decide +kernel
theorem dL_law_220 : decode cL_law 220 = .ok (.invokevirtual 32, 3) := by decide +kernel
theorem dL_law_223 : decode cL_law 223 = .ok (.aload_n 2, 1) := by decide +kernel
theorem dL_law_224 : decode cL_law 224 = .ok (.aload_n 0, 1) := by decide +kernel
theorem dL_law_225 : decode cL_law 225 = .ok (.iload_n 3, 1) := by decide +kernel
theorem dL_law_226 : decode cL_law 226 = .ok (.iconst 1, 1) := by decide +kernel
theorem dL_law_227 : decode cL_law 227 = .ok (.iadd, 1) := by decide +kernel
theorem dL_law_228 : decode cL_law 228 = .ok (.iaload, 1) := by decide +kernel
theorem dL_law_229 : decode cL_law 229 = .ok (.invokevirtual 35, 3) := by decide +kernel
theorem dL_law_232 : decode cL_law 232 = .ok (.if_icmp .eq 414, 3) := by decide +kernel
theorem dL_law_235 : decode cL_law 235 = .ok (.iconst 0, 1) := by decide +kernel
theorem dL_law_236 : decode cL_law 236 = .ok (.ireturn, 1) := by decide +kernel
theorem dL_law_237 : decode cL_law 237 = .ok (.aload_n 1, 1) := by decide +kernel
theorem dL_law_238 : decode cL_law 238 = .ok (.aload_n 0, 1) := by decide +kernel
theorem dL_law_239 : decode cL_law 239 = .ok (.iload_n 3, 1) := by decide +kernel
theorem dL_law_240 : decode cL_law 240 = .ok (.iconst 1, 1) := by decide +kernel
theorem dL_law_241 : decode cL_law 241 = .ok (.iadd, 1) := by decide +kernel
theorem dL_law_242 : decode cL_law 242 = .ok (.iaload, 1) := by decide +kernel
theorem dL_law_243 : decode cL_law 243 = .ok (.invokevirtual 36, 3) := by decide +kernel
theorem dL_law_246 : decode cL_law 246 = .ok (.aload_n 2, 1) := by decide +kernel
theorem dL_law_247 : decode cL_law 247 = .ok (.aload_n 0, 1) := by decide +kernel
theorem dL_law_248 : decode cL_law 248 = .ok (.iload_n 3, 1) := by decide +kernel
theorem dL_law_249 : decode cL_law 249 = .ok (.iconst 1, 1) := by decide +kernel
theorem dL_law_250 : decode cL_law 250 = .ok (.iadd, 1) := by decide +kernel
theorem dL_law_251 : decode cL_law 251 = .ok (.iaload, 1) := by decide +kernel
theorem dL_law_252 : decode cL_law 252 = .ok (.invokevirtual 39, 3) := by decide +kernel
theorem dL_law_255 : decode cL_law 255 = .ok (.if_icmp .eq 391, 3) := by decide +kernel
theorem dL_law_258 : decode cL_law 258 = .ok (.iconst 0, 1) := by decide +kernel
theorem dL_law_259 : decode cL_law 259 = .ok (.ireturn, 1) := by decide +kernel
theorem dL_law_260 : decode cL_law 260 = .ok (.aload_n 1, 1) := by decide +kernel
theorem dL_law_261 : decode cL_law 261 = .ok (.aload_n 0, 1) := by decide +kernel
theorem dL_law_262 : decode cL_law 262 = .ok (.iload_n 3, 1) := by decide +kernel
theorem dL_law_263 : decode cL_law 263 = .ok (.iconst 1, 1) := by decide +kernel
theorem dL_law_264 : decode cL_law 264 = .ok (.iadd, 1) := by decide +kernel
theorem dL_law_265 : decode cL_law 265 = .ok (.iaload, 1) := by decide +kernel
theorem dL_law_266 : decode cL_law 266 = .ok (.invokevirtual 40, 3) := by decide +kernel
theorem dL_law_269 : decode cL_law 269 = .ok (.aload_n 2, 1) := by decide +kernel
theorem dL_law_270 : decode cL_law 270 = .ok (.aload_n 0, 1) := by decide +kernel
theorem dL_law_271 : decode cL_law 271 = .ok (.iload_n 3, 1) := by decide +kernel
theorem dL_law_272 : decode cL_law 272 = .ok (.iconst 1, 1) := by decide +kernel
theorem dL_law_273 : decode cL_law 273 = .ok (.iadd, 1) := by decide +kernel
theorem dL_law_274 : decode cL_law 274 = .ok (.iaload, 1) := by decide +kernel
theorem dL_law_275 : decode cL_law 275 = .ok (.invokevirtual 43, 3) := by decide +kernel
theorem dL_law_278 : decode cL_law 278 = .ok (.if_icmp .eq 368, 3) := by decide +kernel
theorem dL_law_281 : decode cL_law 281 = .ok (.iconst 0, 1) := by decide +kernel
theorem dL_law_282 : decode cL_law 282 = .ok (.ireturn, 1) := by decide +kernel
theorem dL_law_283 : decode cL_law 283 = .ok (.aload_n 1, 1) := by decide +kernel
theorem dL_law_284 : decode cL_law 284 = .ok (.aload_n 0, 1) := by decide +kernel
theorem dL_law_285 : decode cL_law 285 = .ok (.iload_n 3, 1) := by decide +kernel
theorem dL_law_286 : decode cL_law 286 = .ok (.iconst 1, 1) := by decide +kernel
theorem dL_law_287 : decode cL_law 287 = .ok (.iadd, 1) := by decide +kernel
theorem dL_law_288 : decode cL_law 288 = .ok (.iaload, 1) := by decide +kernel
theorem dL_law_289 : decode cL_law 289 = .ok (.aload_n 0, 1) := by decide +kernel
theorem dL_law_290 : decode cL_law 290 = .ok (.iload_n 3, 1) := by decide +kernel
theorem dL_law_291 : decode cL_law 291 = .ok (.iconst 2, 1) := by decide +kernel
theorem dL_law_292 : decode cL_law 292 = .ok (.iadd, 1) := by decide +kernel
theorem dL_law_293 : decode cL_law 293 = .ok (.iaload, 1) := by decide +kernel
theorem dL_law_294 : decode cL_law 294 = .ok (.invokevirtual 44, 3) := by decide +kernel
theorem dL_law_297 : decode cL_law 297 = .ok (.aload_n 2, 1) := by decide +kernel
theorem dL_law_298 : decode cL_law 298 = .ok (.aload_n 0, 1) := by decide +kernel
theorem dL_law_299 : decode cL_law 299 = .ok (.iload_n 3, 1) := by decide +kernel
theorem dL_law_300 : decode cL_law 300 = .ok (.iconst 1, 1) := by decide +kernel
theorem dL_law_301 : decode cL_law 301 = .ok (.iadd, 1) := by decide +kernel
theorem dL_law_302 : decode cL_law 302 = .ok (.iaload, 1) := by decide +kernel
theorem dL_law_303 : decode cL_law 303 = .ok (.aload_n 0, 1) := by decide +kernel
theorem dL_law_304 : decode cL_law 304 = .ok (.iload_n 3, 1) := by decide +kernel
theorem dL_law_305 : decode cL_law 305 = .ok (.iconst 2, 1) := by decide +kernel
theorem dL_law_306 : decode cL_law 306 = .ok (.iadd, 1) := by decide +kernel
theorem dL_law_307 : decode cL_law 307 = .ok (.iaload, 1) := by decide +kernel
theorem dL_law_308 : decode cL_law 308 = .ok (.invokevirtual 47, 3) := by decide +kernel
theorem dL_law_311 : decode cL_law 311 = .ok (.if_icmp .eq 335, 3) := by decide +kernel
theorem dL_law_314 : decode cL_law 314 = .ok (.iconst 0, 1) := by decide +kernel
theorem dL_law_315 : decode cL_law 315 = .ok (.ireturn, 1) := by decide +kernel
theorem dL_law_316 : decode cL_law 316 = .ok (.aload_n 1, 1) := by decide +kernel
theorem dL_law_317 : decode cL_law 317 = .ok (.invokevirtual 48, 3) := by decide +kernel
theorem dL_law_320 : decode cL_law 320 = .ok (.aload_n 2, 1) := by decide +kernel
theorem dL_law_321 : decode cL_law 321 = .ok (.invokevirtual 51, 3) := by decide +kernel
theorem dL_law_324 : decode cL_law 324 = .ok (.if_icmp .eq 322, 3) := by decide +kernel
theorem dL_law_327 : decode cL_law 327 = .ok (.iconst 0, 1) := by decide +kernel
theorem dL_law_328 : decode cL_law 328 = .ok (.ireturn, 1) := by decide +kernel
theorem dL_law_329 : decode cL_law 329 = .ok (.aload_n 1, 1) := by decide +kernel
theorem dL_law_330 : decode cL_law 330 = .ok (.aload_n 0, 1) := by decide +kernel
theorem dL_law_331 : decode cL_law 331 = .ok (.iload_n 3, 1) := by decide +kernel
theorem dL_law_332 : decode cL_law 332 = .ok (.iconst 1, 1) := by decide +kernel
theorem dL_law_333 : decode cL_law 333 = .ok (.iadd, 1) := by decide +kernel
theorem dL_law_334 : decode cL_law 334 = .ok (.iaload, 1) := by decide +kernel
theorem dL_law_335 : decode cL_law 335 = .ok (.invokevirtual 52, 3) := by decide +kernel
theorem dL_law_338 : decode cL_law 338 = .ok (.aload_n 2, 1) := by decide +kernel
theorem dL_law_339 : decode cL_law 339 = .ok (.aload_n 0, 1) := by decide +kernel
theorem dL_law_340 : decode cL_law 340 = .ok (.iload_n 3, 1) := by decide +kernel
theorem dL_law_341 : decode cL_law 341 = .ok (.iconst 1, 1) := by decide +kernel
theorem dL_law_342 : decode cL_law 342 = .ok (.iadd, 1) := by decide +kernel
theorem dL_law_343 : decode cL_law 343 = .ok (.iaload, 1) := by decide +kernel
theorem dL_law_344 : decode cL_law 344 = .ok (.invokevirtual 55, 3) := by decide +kernel
theorem dL_law_347 : decode cL_law 347 = .ok (.if_icmp .eq 299, 3) := by decide +kernel
theorem dL_law_350 : decode cL_law 350 = .ok (.iconst 0, 1) := by decide +kernel
theorem dL_law_351 : decode cL_law 351 = .ok (.ireturn, 1) := by decide +kernel
theorem dL_law_352 : decode cL_law 352 = .ok (.aload_n 1, 1) := by decide +kernel
theorem dL_law_353 : decode cL_law 353 = .ok (.aload_n 0, 1) := by decide +kernel
theorem dL_law_354 : decode cL_law 354 = .ok (.iload_n 3, 1) := by decide +kernel
theorem dL_law_355 : decode cL_law 355 = .ok (.iconst 1, 1) := by decide +kernel
theorem dL_law_356 : decode cL_law 356 = .ok (.iadd, 1) := by decide +kernel
theorem dL_law_357 : decode cL_law 357 = .ok (.iaload, 1) := by decide +kernel
theorem dL_law_358 : decode cL_law 358 = .ok (.invokevirtual 56, 3) := by decide +kernel
theorem dL_law_361 : decode cL_law 361 = .ok (.aload_n 2, 1) := by decide +kernel
theorem dL_law_362 : decode cL_law 362 = .ok (.aload_n 0, 1) := by decide +kernel
theorem dL_law_363 : decode cL_law 363 = .ok (.iload_n 3, 1) := by decide +kernel
theorem dL_law_364 : decode cL_law 364 = .ok (.iconst 1, 1) := by decide +kernel
theorem dL_law_365 : decode cL_law 365 = .ok (.iadd, 1) := by decide +kernel
theorem dL_law_366 : decode cL_law 366 = .ok (.iaload, 1) := by decide +kernel
theorem dL_law_367 : decode cL_law 367 = .ok (.invokevirtual 59, 3) := by decide +kernel
theorem dL_law_370 : decode cL_law 370 = .ok (.if_icmp .eq 276, 3) := by decide +kernel
theorem dL_law_373 : decode cL_law 373 = .ok (.iconst 0, 1) := by decide +kernel
theorem dL_law_374 : decode cL_law 374 = .ok (.ireturn, 1) := by decide +kernel
theorem dL_law_375 : decode cL_law 375 = .ok (.aload_n 1, 1) := by decide +kernel
theorem dL_law_376 : decode cL_law 376 = .ok (.aload_n 0, 1) := by decide +kernel
theorem dL_law_377 : decode cL_law 377 = .ok (.iload_n 3, 1) := by decide +kernel
theorem dL_law_378 : decode cL_law 378 = .ok (.iconst 1, 1) := by decide +kernel
theorem dL_law_379 : decode cL_law 379 = .ok (.iadd, 1) := by decide +kernel
theorem dL_law_380 : decode cL_law 380 = .ok (.iaload, 1) := by decide +kernel
theorem dL_law_381 : decode cL_law 381 = .ok (.aload_n 0, 1) := by decide +kernel
theorem dL_law_382 : decode cL_law 382 = .ok (.iload_n 3, 1) := by decide +kernel
theorem dL_law_383 : decode cL_law 383 = .ok (.iconst 2, 1) := by decide +kernel
theorem dL_law_384 : decode cL_law 384 = .ok (.iadd, 1) := by decide +kernel
theorem dL_law_385 : decode cL_law 385 = .ok (.iaload, 1) := by decide +kernel
theorem dL_law_386 : decode cL_law 386 = .ok (.aload_n 0, 1) := by decide +kernel
theorem dL_law_387 : decode cL_law 387 = .ok (.iload_n 3, 1) := by decide +kernel
theorem dL_law_388 : decode cL_law 388 = .ok (.iconst 3, 1) := by decide +kernel
theorem dL_law_389 : decode cL_law 389 = .ok (.iadd, 1) := by decide +kernel
theorem dL_law_390 : decode cL_law 390 = .ok (.iaload, 1) := by decide +kernel
theorem dL_law_391 : decode cL_law 391 = .ok (.aload_n 0, 1) := by decide +kernel
theorem dL_law_392 : decode cL_law 392 = .ok (.iload_n 3, 1) := by decide +kernel
theorem dL_law_393 : decode cL_law 393 = .ok (.iconst 4, 1) := by decide +kernel
theorem dL_law_394 : decode cL_law 394 = .ok (.iadd, 1) := by decide +kernel
theorem dL_law_395 : decode cL_law 395 = .ok (.iaload, 1) := by decide +kernel
theorem dL_law_396 : decode cL_law 396 = .ok (.invokevirtual 60, 3) := by decide +kernel
theorem dL_law_399 : decode cL_law 399 = .ok (.aload_n 2, 1) := by decide +kernel
theorem dL_law_400 : decode cL_law 400 = .ok (.aload_n 0, 1) := by decide +kernel
theorem dL_law_401 : decode cL_law 401 = .ok (.iload_n 3, 1) := by decide +kernel
theorem dL_law_402 : decode cL_law 402 = .ok (.iconst 1, 1) := by decide +kernel
theorem dL_law_403 : decode cL_law 403 = .ok (.iadd, 1) := by decide +kernel
theorem dL_law_404 : decode cL_law 404 = .ok (.iaload, 1) := by decide +kernel
theorem dL_law_405 : decode cL_law 405 = .ok (.aload_n 0, 1) := by decide +kernel
theorem dL_law_406 : decode cL_law 406 = .ok (.iload_n 3, 1) := by decide +kernel
theorem dL_law_407 : decode cL_law 407 = .ok (.iconst 2, 1) := by decide +kernel
theorem dL_law_408 : decode cL_law 408 = .ok (.iadd, 1) := by decide +kernel
theorem dL_law_409 : decode cL_law 409 = .ok (.iaload, 1) := by decide +kernel
theorem dL_law_410 : decode cL_law 410 = .ok (.aload_n 0, 1) := by decide +kernel
theorem dL_law_411 : decode cL_law 411 = .ok (.iload_n 3, 1) := by decide +kernel
theorem dL_law_412 : decode cL_law 412 = .ok (.iconst 3, 1) := by decide +kernel
theorem dL_law_413 : decode cL_law 413 = .ok (.iadd, 1) := by decide +kernel
theorem dL_law_414 : decode cL_law 414 = .ok (.iaload, 1) := by decide +kernel
theorem dL_law_415 : decode cL_law 415 = .ok (.aload_n 0, 1) := by decide +kernel
theorem dL_law_416 : decode cL_law 416 = .ok (.iload_n 3, 1) := by decide +kernel
theorem dL_law_417 : decode cL_law 417 = .ok (.iconst 4, 1) := by decide +kernel
theorem dL_law_418 : decode cL_law 418 = .ok (.iadd, 1) := by decide +kernel
theorem dL_law_419 : decode cL_law 419 = .ok (.iaload, 1) := by decide +kernel
theorem dL_law_420 : decode cL_law 420 = .ok (.invokevirtual 64, 3) := by decide +kernel
theorem dL_law_423 : decode cL_law 423 = .ok (.if_icmp .eq 223, 3) := by decide +kernel
theorem dL_law_426 : decode cL_law 426 = .ok (.iconst 0, 1) := by decide +kernel
theorem dL_law_427 : decode cL_law 427 = .ok (.ireturn, 1) := by decide +kernel
theorem dL_law_428 : decode cL_law 428 = .ok (.aload_n 1, 1) := by decide +kernel
theorem dL_law_429 : decode cL_law 429 = .ok (.aload_n 0, 1) := by decide +kernel
theorem dL_law_430 : decode cL_law 430 = .ok (.iload_n 3, 1) := by decide +kernel
theorem dL_law_431 : decode cL_law 431 = .ok (.iconst 1, 1) := by decide +kernel
theorem dL_law_432 : decode cL_law 432 = .ok (.iadd, 1) := by decide +kernel
theorem dL_law_433 : decode cL_law 433 = .ok (.iaload, 1) := by decide +kernel
theorem dL_law_434 : decode cL_law 434 = .ok (.aload_n 0, 1) := by decide +kernel
theorem dL_law_435 : decode cL_law 435 = .ok (.iload_n 3, 1) := by decide +kernel
theorem dL_law_436 : decode cL_law 436 = .ok (.iconst 2, 1) := by decide +kernel
theorem dL_law_437 : decode cL_law 437 = .ok (.iadd, 1) := by decide +kernel
theorem dL_law_438 : decode cL_law 438 = .ok (.iaload, 1) := by decide +kernel
theorem dL_law_439 : decode cL_law 439 = .ok (.aload_n 0, 1) := by decide +kernel
theorem dL_law_440 : decode cL_law 440 = .ok (.iload_n 3, 1) := by decide +kernel
theorem dL_law_441 : decode cL_law 441 = .ok (.iconst 3, 1) := by decide +kernel
theorem dL_law_442 : decode cL_law 442 = .ok (.iadd, 1) := by decide +kernel
theorem dL_law_443 : decode cL_law 443 = .ok (.iaload, 1) := by decide +kernel
theorem dL_law_444 : decode cL_law 444 = .ok (.invokevirtual 65, 3) := by decide +kernel
theorem dL_law_447 : decode cL_law 447 = .ok (.aload_n 2, 1) := by decide +kernel
theorem dL_law_448 : decode cL_law 448 = .ok (.aload_n 0, 1) := by decide +kernel
theorem dL_law_449 : decode cL_law 449 = .ok (.iload_n 3, 1) := by decide +kernel
theorem dL_law_450 : decode cL_law 450 = .ok (.iconst 1, 1) := by decide +kernel
theorem dL_law_451 : decode cL_law 451 = .ok (.iadd, 1) := by decide +kernel
theorem dL_law_452 : decode cL_law 452 = .ok (.iaload, 1) := by decide +kernel
theorem dL_law_453 : decode cL_law 453 = .ok (.aload_n 0, 1) := by decide +kernel
theorem dL_law_454 : decode cL_law 454 = .ok (.iload_n 3, 1) := by decide +kernel
theorem dL_law_455 : decode cL_law 455 = .ok (.iconst 2, 1) := by decide +kernel
theorem dL_law_456 : decode cL_law 456 = .ok (.iadd, 1) := by decide +kernel
theorem dL_law_457 : decode cL_law 457 = .ok (.iaload, 1) := by decide +kernel
theorem dL_law_458 : decode cL_law 458 = .ok (.aload_n 0, 1) := by decide +kernel
theorem dL_law_459 : decode cL_law 459 = .ok (.iload_n 3, 1) := by decide +kernel
theorem dL_law_460 : decode cL_law 460 = .ok (.iconst 3, 1) := by decide +kernel
theorem dL_law_461 : decode cL_law 461 = .ok (.iadd, 1) := by decide +kernel
theorem dL_law_462 : decode cL_law 462 = .ok (.iaload, 1) := by decide +kernel
theorem dL_law_463 : decode cL_law 463 = .ok (.invokevirtual 69, 3) := by decide +kernel
theorem dL_law_466 : decode cL_law 466 = .ok (.if_icmp .eq 180, 3) := by decide +kernel
theorem dL_law_469 : decode cL_law 469 = .ok (.iconst 0, 1) := by decide +kernel
theorem dL_law_470 : decode cL_law 470 = .ok (.ireturn, 1) := by decide +kernel
theorem dL_law_471 : decode cL_law 471 = .ok (.aload_n 1, 1) := by decide +kernel
theorem dL_law_472 : decode cL_law 472 = .ok (.invokevirtual 70, 3) := by decide +kernel
theorem dL_law_475 : decode cL_law 475 = .ok (.aload_n 2, 1) := by decide +kernel
theorem dL_law_476 : decode cL_law 476 = .ok (.invokevirtual 73, 3) := by decide +kernel
theorem dL_law_479 : decode cL_law 479 = .ok (.if_icmp .eq 167, 3) := by decide +kernel
theorem dL_law_482 : decode cL_law 482 = .ok (.iconst 0, 1) := by decide +kernel
theorem dL_law_483 : decode cL_law 483 = .ok (.ireturn, 1) := by decide +kernel
theorem dL_law_484 : decode cL_law 484 = .ok (.aload_n 1, 1) := by decide +kernel
theorem dL_law_485 : decode cL_law 485 = .ok (.aload_n 0, 1) := by decide +kernel
theorem dL_law_486 : decode cL_law 486 = .ok (.iload_n 3, 1) := by decide +kernel
theorem dL_law_487 : decode cL_law 487 = .ok (.iconst 1, 1) := by decide +kernel
theorem dL_law_488 : decode cL_law 488 = .ok (.iadd, 1) := by decide +kernel
theorem dL_law_489 : decode cL_law 489 = .ok (.iaload, 1) := by decide +kernel
theorem dL_law_490 : decode cL_law 490 = .ok (.invokevirtual 74, 3) := by decide +kernel
theorem dL_law_493 : decode cL_law 493 = .ok (.aload_n 2, 1) := by decide +kernel
theorem dL_law_494 : decode cL_law 494 = .ok (.aload_n 0, 1) := by decide +kernel
theorem dL_law_495 : decode cL_law 495 = .ok (.iload_n 3, 1) := by decide +kernel
theorem dL_law_496 : decode cL_law 496 = .ok (.iconst 1, 1) := by decide +kernel
theorem dL_law_497 : decode cL_law 497 = .ok (.iadd, 1) := by decide +kernel
theorem dL_law_498 : decode cL_law 498 = .ok (.iaload, 1) := by decide +kernel
theorem dL_law_499 : decode cL_law 499 = .ok (.invokevirtual 77, 3) := by decide +kernel
theorem dL_law_502 : decode cL_law 502 = .ok (.if_icmp .eq 144, 3) := by decide +kernel
theorem dL_law_505 : decode cL_law 505 = .ok (.iconst 0, 1) := by decide +kernel
theorem dL_law_506 : decode cL_law 506 = .ok (.ireturn, 1) := by decide +kernel
theorem dL_law_507 : decode cL_law 507 = .ok (.aload_n 1, 1) := by decide +kernel
theorem dL_law_508 : decode cL_law 508 = .ok (.aload_n 0, 1) := by decide +kernel
theorem dL_law_509 : decode cL_law 509 = .ok (.iload_n 3, 1) := by decide +kernel
theorem dL_law_510 : decode cL_law 510 = .ok (.iconst 1, 1) := by decide +kernel
theorem dL_law_511 : decode cL_law 511 = .ok (.iadd, 1) := by decide +kernel
theorem dL_law_512 : decode cL_law 512 = .ok (.iaload, 1) := by decide +kernel
theorem dL_law_513 : decode cL_law 513 = .ok (.invokevirtual 78, 3) := by decide +kernel
theorem dL_law_516 : decode cL_law 516 = .ok (.aload_n 2, 1) := by decide +kernel
theorem dL_law_517 : decode cL_law 517 = .ok (.aload_n 0, 1) := by decide +kernel
theorem dL_law_518 : decode cL_law 518 = .ok (.iload_n 3, 1) := by decide +kernel
theorem dL_law_519 : decode cL_law 519 = .ok (.iconst 1, 1) := by decide +kernel
theorem dL_law_520 : decode cL_law 520 = .ok (.iadd, 1) := by decide +kernel
theorem dL_law_521 : decode cL_law 521 = .ok (.iaload, 1) := by decide +kernel
theorem dL_law_522 : decode cL_law 522 = .ok (.invokevirtual 81, 3) := by decide +kernel
theorem dL_law_525 : decode cL_law 525 = .ok (.if_icmp .eq 121, 3) := by decide +kernel
theorem dL_law_528 : decode cL_law 528 = .ok (.iconst 0, 1) := by decide +kernel
theorem dL_law_529 : decode cL_law 529 = .ok (.ireturn, 1) := by decide +kernel
theorem dL_law_530 : decode cL_law 530 = .ok (.aload_n 1, 1) := by decide +kernel
theorem dL_law_531 : decode cL_law 531 = .ok (.aload_n 0, 1) := by decide +kernel
theorem dL_law_532 : decode cL_law 532 = .ok (.iload_n 3, 1) := by decide +kernel
theorem dL_law_533 : decode cL_law 533 = .ok (.iconst 1, 1) := by decide +kernel
theorem dL_law_534 : decode cL_law 534 = .ok (.iadd, 1) := by decide +kernel
theorem dL_law_535 : decode cL_law 535 = .ok (.iaload, 1) := by decide +kernel
theorem dL_law_536 : decode cL_law 536 = .ok (.aload_n 0, 1) := by decide +kernel
theorem dL_law_537 : decode cL_law 537 = .ok (.iload_n 3, 1) := by decide +kernel
theorem dL_law_538 : decode cL_law 538 = .ok (.iconst 2, 1) := by decide +kernel
theorem dL_law_539 : decode cL_law 539 = .ok (.iadd, 1) := by decide +kernel
theorem dL_law_540 : decode cL_law 540 = .ok (.iaload, 1) := by decide +kernel
theorem dL_law_541 : decode cL_law 541 = .ok (.invokevirtual 82, 3) := by decide +kernel
theorem dL_law_544 : decode cL_law 544 = .ok (.aload_n 2, 1) := by decide +kernel
theorem dL_law_545 : decode cL_law 545 = .ok (.aload_n 0, 1) := by decide +kernel
theorem dL_law_546 : decode cL_law 546 = .ok (.iload_n 3, 1) := by decide +kernel
theorem dL_law_547 : decode cL_law 547 = .ok (.iconst 1, 1) := by decide +kernel
theorem dL_law_548 : decode cL_law 548 = .ok (.iadd, 1) := by decide +kernel
theorem dL_law_549 : decode cL_law 549 = .ok (.iaload, 1) := by decide +kernel
theorem dL_law_550 : decode cL_law 550 = .ok (.aload_n 0, 1) := by decide +kernel
theorem dL_law_551 : decode cL_law 551 = .ok (.iload_n 3, 1) := by decide +kernel
theorem dL_law_552 : decode cL_law 552 = .ok (.iconst 2, 1) := by decide +kernel
theorem dL_law_553 : decode cL_law 553 = .ok (.iadd, 1) := by decide +kernel
theorem dL_law_554 : decode cL_law 554 = .ok (.iaload, 1) := by decide +kernel
theorem dL_law_555 : decode cL_law 555 = .ok (.invokevirtual 85, 3) := by decide +kernel
theorem dL_law_558 : decode cL_law 558 = .ok (.if_icmp .eq 88, 3) := by decide +kernel
theorem dL_law_561 : decode cL_law 561 = .ok (.iconst 0, 1) := by decide +kernel
theorem dL_law_562 : decode cL_law 562 = .ok (.ireturn, 1) := by decide +kernel
theorem dL_law_563 : decode cL_law 563 = .ok (.aload_n 1, 1) := by decide +kernel
theorem dL_law_564 : decode cL_law 564 = .ok (.aload_n 0, 1) := by decide +kernel
theorem dL_law_565 : decode cL_law 565 = .ok (.iload_n 3, 1) := by decide +kernel
theorem dL_law_566 : decode cL_law 566 = .ok (.iconst 1, 1) := by decide +kernel
theorem dL_law_567 : decode cL_law 567 = .ok (.iadd, 1) := by decide +kernel
theorem dL_law_568 : decode cL_law 568 = .ok (.iaload, 1) := by decide +kernel
theorem dL_law_569 : decode cL_law 569 = .ok (.invokevirtual 86, 3) := by decide +kernel
theorem dL_law_572 : decode cL_law 572 = .ok (.aload_n 2, 1) := by decide +kernel
theorem dL_law_573 : decode cL_law 573 = .ok (.aload_n 0, 1) := by decide +kernel
theorem dL_law_574 : decode cL_law 574 = .ok (.iload_n 3, 1) := by decide +kernel
theorem dL_law_575 : decode cL_law 575 = .ok (.iconst 1, 1) := by decide +kernel
theorem dL_law_576 : decode cL_law 576 = .ok (.iadd, 1) := by decide +kernel
theorem dL_law_577 : decode cL_law 577 = .ok (.iaload, 1) := by decide +kernel
theorem dL_law_578 : decode cL_law 578 = .ok (.invokevirtual 89, 3) := by decide +kernel
theorem dL_law_581 : decode cL_law 581 = .ok (.if_icmp .eq 65, 3) := by decide +kernel
theorem dL_law_584 : decode cL_law 584 = .ok (.iconst 0, 1) := by decide +kernel
theorem dL_law_585 : decode cL_law 585 = .ok (.ireturn, 1) := by decide +kernel
theorem dL_law_586 : decode cL_law 586 = .ok (.aload_n 1, 1) := by decide +kernel
theorem dL_law_587 : decode cL_law 587 = .ok (.aload_n 0, 1) := by decide +kernel
theorem dL_law_588 : decode cL_law 588 = .ok (.iload_n 3, 1) := by decide +kernel
theorem dL_law_589 : decode cL_law 589 = .ok (.iconst 1, 1) := by decide +kernel
theorem dL_law_590 : decode cL_law 590 = .ok (.iadd, 1) := by decide +kernel
theorem dL_law_591 : decode cL_law 591 = .ok (.iaload, 1) := by decide +kernel
theorem dL_law_592 : decode cL_law 592 = .ok (.invokevirtual 90, 3) := by decide +kernel
theorem dL_law_595 : decode cL_law 595 = .ok (.aload_n 2, 1) := by decide +kernel
theorem dL_law_596 : decode cL_law 596 = .ok (.aload_n 0, 1) := by decide +kernel
theorem dL_law_597 : decode cL_law 597 = .ok (.iload_n 3, 1) := by decide +kernel
theorem dL_law_598 : decode cL_law 598 = .ok (.iconst 1, 1) := by decide +kernel
theorem dL_law_599 : decode cL_law 599 = .ok (.iadd, 1) := by decide +kernel
theorem dL_law_600 : decode cL_law 600 = .ok (.iaload, 1) := by decide +kernel
theorem dL_law_601 : decode cL_law 601 = .ok (.invokevirtual 93, 3) := by decide +kernel
theorem dL_law_604 : decode cL_law 604 = .ok (.if_icmp .eq 42, 3) := by decide +kernel
theorem dL_law_607 : decode cL_law 607 = .ok (.iconst 0, 1) := by decide +kernel
theorem dL_law_608 : decode cL_law 608 = .ok (.ireturn, 1) := by decide +kernel
theorem dL_law_609 : decode cL_law 609 = .ok (.aload_n 1, 1) := by decide +kernel
theorem dL_law_610 : decode cL_law 610 = .ok (.aload_n 0, 1) := by decide +kernel
theorem dL_law_611 : decode cL_law 611 = .ok (.iload_n 3, 1) := by decide +kernel
theorem dL_law_612 : decode cL_law 612 = .ok (.iconst 1, 1) := by decide +kernel
theorem dL_law_613 : decode cL_law 613 = .ok (.iadd, 1) := by decide +kernel
theorem dL_law_614 : decode cL_law 614 = .ok (.iaload, 1) := by decide +kernel
theorem dL_law_615 : decode cL_law 615 = .ok (.invokevirtual 94, 3) := by decide +kernel
theorem dL_law_618 : decode cL_law 618 = .ok (.aload_n 2, 1) := by decide +kernel
theorem dL_law_619 : decode cL_law 619 = .ok (.aload_n 0, 1) := by decide +kernel
theorem dL_law_620 : decode cL_law 620 = .ok (.iload_n 3, 1) := by decide +kernel
theorem dL_law_621 : decode cL_law 621 = .ok (.iconst 1, 1) := by decide +kernel
theorem dL_law_622 : decode cL_law 622 = .ok (.iadd, 1) := by decide +kernel
theorem dL_law_623 : decode cL_law 623 = .ok (.iaload, 1) := by decide +kernel
theorem dL_law_624 : decode cL_law 624 = .ok (.invokevirtual 97, 3) := by decide +kernel
theorem dL_law_627 : decode cL_law 627 = .ok (.if_icmp .eq 19, 3) := by decide +kernel
theorem dL_law_630 : decode cL_law 630 = .ok (.iconst 0, 1) := by decide +kernel
theorem dL_law_631 : decode cL_law 631 = .ok (.ireturn, 1) := by decide +kernel
theorem dL_law_632 : decode cL_law 632 = .ok (.aload_n 1, 1) := by decide +kernel
theorem dL_law_633 : decode cL_law 633 = .ok (.invokevirtual 98, 3) := by decide +kernel
theorem dL_law_636 : decode cL_law 636 = .ok (.aload_n 2, 1) := by decide +kernel
theorem dL_law_637 : decode cL_law 637 = .ok (.invokevirtual 102, 3) := by decide +kernel
theorem dL_law_640 : decode cL_law 640 = .ok (.lcmp, 1) := by decide +kernel
theorem dL_law_641 : decode cL_law 641 = .ok (.ifCond .eq 5, 3) := by decide +kernel
theorem dL_law_644 : decode cL_law 644 = .ok (.iconst 0, 1) := by decide +kernel
theorem dL_law_645 : decode cL_law 645 = .ok (.ireturn, 1) := by decide +kernel
theorem dL_law_646 : decode cL_law 646 = .ok (.iinc 3 5, 3) := by decide +kernel
theorem dL_law_649 : decode cL_law 649 = .ok (.goto (-631), 3) := by decide +kernel
theorem dL_law_652 : decode cL_law 652 = .ok (.iconst 1, 1) := by decide +kernel
theorem dL_law_653 : decode cL_law 653 = .ok (.ireturn, 1) := by decide +kernel
