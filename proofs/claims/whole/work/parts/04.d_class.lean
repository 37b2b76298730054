theorem dX6_init_0 : decode cX6_init 0 = .ok (.aload_n 0, 1) := by decide +kernel
theorem dX6_init_1 : decode cX6_init 1 = .ok (.invokespecial 1, 3) := by decide +kernel
theorem dX6_init_4 : decode cX6_init 4 = .ok (.aload_n 0, 1) := by decide +kernel
theorem dX6_init_5 : decode cX6_init 5 = .ok (.new 7, 3) := by decide +kernel
theorem dX6_init_8 : decode cX6_init 8 = .ok (.dup, 1) := by decide +kernel
theorem dX6_init_9 : decode cX6_init 9 = .ok (.invokespecial 9, 3) := by decide +kernel
theorem dX6_init_12 : decode cX6_init 12 = .ok (.putfield 10, 3) := by decide +kernel
theorem dX6_init_15 : decode cX6_init 15 = .ok (.aload_n 0, 1) := by decide +kernel
theorem dX6_init_16 : decode cX6_init 16 = .ok (.new 16, 3) := by decide +kernel
theorem dX6_init_19 : decode cX6_init 19 = .ok (.dup, 1) := by decide +kernel
theorem dX6_init_20 : decode cX6_init 20 = .ok (.invokespecial 18, 3) := by decide +kernel
theorem dX6_init_23 : decode cX6_init 23 = .ok (.putfield 19, 3) := by decide +kernel
theorem dX6_init_26 : decode cX6_init 26 = .ok (.aload_n 0, 1) := by decide +kernel
theorem dX6_init_27 : decode cX6_init 27 = .ok (.new 23, 3) := by decide +kernel
theorem dX6_init_30 : decode cX6_init 30 = .ok (.dup, 1) := by decide +kernel
theorem dX6_init_31 : decode cX6_init 31 = .ok (.invokespecial 25, 3) := by decide +kernel
theorem dX6_init_34 : decode cX6_init 34 = .ok (.putfield 26, 3) := by decide +kernel
theorem dX6_init_37 : decode cX6_init 37 = .ok (.aload_n 0, 1) := by decide +kernel
theorem dX6_init_38 : decode cX6_init 38 = .ok (.new 23, 3) := by decide +kernel
theorem dX6_init_41 : decode cX6_init 41 = .ok (.dup, 1) := by decide +kernel
theorem dX6_init_42 : decode cX6_init 42 = .ok (.invokespecial 25, 3) := by decide +kernel
theorem dX6_init_45 : decode cX6_init 45 = .ok (.putfield 30, 3) := by decide +kernel
theorem dX6_init_48 : decode cX6_init 48 = .ok (.aload_n 0, 1) := by decide +kernel
theorem dX6_init_49 : decode cX6_init 49 = .ok (.new 33, 3) := by decide +kernel
theorem dX6_init_52 : decode cX6_init 52 = .ok (.dup, 1) := by decide +kernel
theorem dX6_init_53 : decode cX6_init 53 = .ok (.aload_n 0, 1) := by decide +kernel
theorem dX6_init_54 : decode cX6_init 54 = .ok (.getfield 19, 3) := by decide +kernel
theorem dX6_init_57 : decode cX6_init 57 = .ok (.aload_n 0, 1) := by decide +kernel
theorem dX6_init_58 : decode cX6_init 58 = .ok (.getfield 26, 3) := by decide +kernel
theorem dX6_init_61 : decode cX6_init 61 = .ok (.getfield 35, 3) := by decide +kernel
theorem dX6_init_64 : decode cX6_init 64 = .ok (.invokespecial 39, 3) := by decide +kernel
theorem dX6_init_67 : decode cX6_init 67 = .ok (.putfield 42, 3) := by decide +kernel
theorem dX6_init_70 : decode cX6_init 70 = .ok (.aload_n 0, 1) := by decide +kernel
theorem dX6_init_71 : decode cX6_init 71 = .ok (.new 46, 3) := by decide +kernel
theorem dX6_init_74 : decode cX6_init 74 = .ok (.dup, 1) := by decide +kernel
theorem dX6_init_75 : decode cX6_init 75 = .ok (.aload_n 0, 1) := by decide +kernel
theorem dX6_init_76 : decode cX6_init 76 = .ok (.getfield 19, 3) := by decide +kernel
theorem dX6_init_79 : decode cX6_init 79 = .ok (.invokespecial 48, 3) := by decide +kernel
theorem dX6_init_82 : decode cX6_init 82 = .ok (.putfield 51, 3) := by decide +kernel
theorem dX6_init_85 : decode cX6_init 85 = .ok (.aload_n 0, 1) := by decide +kernel
theorem dX6_init_86 : decode cX6_init 86 = .ok (.new 55, 3) := by decide +kernel
theorem dX6_init_89 : decode cX6_init 89 = .ok (.dup, 1) := by decide +kernel
theorem dX6_init_90 : decode cX6_init 90 = .ok (.aload_n 0, 1) := by decide +kernel
theorem dX6_init_91 : decode cX6_init 91 = .ok (.getfield 19, 3) := by decide +kernel
theorem dX6_init_94 : decode cX6_init 94 = .ok (.aload_n 0, 1) := by decide +kernel
theorem dX6_init_95 : decode cX6_init 95 = .ok (.getfield 26, 3) := by decide +kernel
theorem dX6_init_98 : decode cX6_init 98 = .ok (.invokespecial 57, 3) := by decide +kernel
theorem dX6_init_101 : decode cX6_init 101 = .ok (.putfield 60, 3) := by decide +kernel
theorem dX6_init_104 : decode cX6_init 104 = .ok (.aload_n 0, 1) := by decide +kernel
theorem dX6_init_105 : decode cX6_init 105 = .ok (.iconst 0, 1) := by decide +kernel
theorem dX6_init_106 : decode cX6_init 106 = .ok (.putfield 64, 3) := by decide +kernel
theorem dX6_init_109 : decode cX6_init 109 = .ok (.aload_n 0, 1) := by decide +kernel
theorem dX6_init_110 : decode cX6_init 110 = .ok (.iconst 0, 1) := by decide +kernel
theorem dX6_init_111 : decode cX6_init 111 = .ok (.putfield 68, 3) := by decide +kernel
theorem dX6_init_114 : decode cX6_init 114 = .ok (.return_, 1) := by decide +kernel
theorem dX6_letter_0 : decode cX6_letter 0 = .ok (.iload_n 1, 1) := by decide +kernel
theorem dX6_letter_1 : decode cX6_letter 1 = .ok (.iconst 1, 1) := by decide +kernel
theorem dX6_letter_2 : decode cX6_letter 2 = .ok (.if_icmp .lt 9, 3) := by decide +kernel
theorem dX6_letter_5 : decode cX6_letter 5 = .ok (.iload_n 1, 1) := by decide +kernel
theorem dX6_letter_6 : decode cX6_letter 6 = .ok (.bipush 126, 2) := by decide +kernel
theorem dX6_letter_8 : decode cX6_letter 8 = .ok (.if_icmp .le 6, 3) := by decide +kernel
theorem dX6_letter_11 : decode cX6_letter 11 = .ok (.bipush (-102), 2) := by decide +kernel
theorem dX6_letter_13 : decode cX6_letter 13 = .ok (.ireturn, 1) := by decide +kernel
theorem dX6_letter_14 : decode cX6_letter 14 = .ok (.aload_n 0, 1) := by decide +kernel
theorem dX6_letter_15 : decode cX6_letter 15 = .ok (.getfield 10, 3) := by decide +kernel
theorem dX6_letter_18 : decode cX6_letter 18 = .ok (.getfield 72, 3) := by decide +kernel
theorem dX6_letter_21 : decode cX6_letter 21 = .ok (.bipush 9, 2) := by decide +kernel
theorem dX6_letter_23 : decode cX6_letter 23 = .ok (.if_icmp .lt 6, 3) := by decide +kernel
theorem dX6_letter_26 : decode cX6_letter 26 = .ok (.bipush (-104), 2) := by decide +kernel
theorem dX6_letter_28 : decode cX6_letter 28 = .ok (.ireturn, 1) := by decide +kernel
theorem dX6_letter_29 : decode cX6_letter 29 = .ok (.aload_n 0, 1) := by decide +kernel
theorem dX6_letter_30 : decode cX6_letter 30 = .ok (.getfield 10, 3) := by decide +kernel
theorem dX6_letter_33 : decode cX6_letter 33 = .ok (.iload_n 1, 1) := by decide +kernel
theorem dX6_letter_34 : decode cX6_letter 34 = .ok (.invokevirtual 75, 3) := by decide +kernel
theorem dX6_letter_37 : decode cX6_letter 37 = .ok (.aload_n 0, 1) := by decide +kernel
theorem dX6_letter_38 : decode cX6_letter 38 = .ok (.getfield 10, 3) := by decide +kernel
theorem dX6_letter_41 : decode cX6_letter 41 = .ok (.getfield 72, 3) := by decide +kernel
theorem dX6_letter_44 : decode cX6_letter 44 = .ok (.ireturn, 1) := by decide +kernel
theorem dX6_blank_0 : decode cX6_blank 0 = .ok (.aload_n 0, 1) := by decide +kernel
theorem dX6_blank_1 : decode cX6_blank 1 = .ok (.getfield 10, 3) := by decide +kernel
theorem dX6_blank_4 : decode cX6_blank 4 = .ok (.getfield 72, 3) := by decide +kernel
theorem dX6_blank_7 : decode cX6_blank 7 = .ok (.istore_n 1, 1) := by decide +kernel
theorem dX6_blank_8 : decode cX6_blank 8 = .ok (.aload_n 0, 1) := by decide +kernel
theorem dX6_blank_9 : decode cX6_blank 9 = .ok (.getfield 10, 3) := by decide +kernel
theorem dX6_blank_12 : decode cX6_blank 12 = .ok (.iconst 0, 1) := by decide +kernel
theorem dX6_blank_13 : decode cX6_blank 13 = .ok (.putfield 72, 3) := by decide +kernel
theorem dX6_blank_16 : decode cX6_blank 16 = .ok (.iload_n 1, 1) := by decide +kernel
theorem dX6_blank_17 : decode cX6_blank 17 = .ok (.ireturn, 1) := by decide +kernel
theorem dX6_fault_0 : decode cX6_fault 0 = .ok (.aload_n 0, 1) := by decide +kernel
theorem dX6_fault_1 : decode cX6_fault 1 = .ok (.getfield 10, 3) := by decide +kernel
theorem dX6_fault_4 : decode cX6_fault 4 = .ok (.invokevirtual 79, 3) := by decide +kernel
theorem dX6_fault_7 : decode cX6_fault 7 = .ok (.ireturn, 1) := by decide +kernel
theorem dX6_strip_0 : decode cX6_strip 0 = .ok (.aload_n 0, 1) := by decide +kernel
theorem dX6_strip_1 : decode cX6_strip 1 = .ok (.getfield 10, 3) := by decide +kernel
theorem dX6_strip_4 : decode cX6_strip 4 = .ok (.getfield 72, 3) := by decide +kernel
theorem dX6_strip_7 : decode cX6_strip 7 = .ok (.iconst 2, 1) := by decide +kernel
theorem dX6_strip_8 : decode cX6_strip 8 = .ok (.if_icmp .lt 32, 3) := by decide +kernel
theorem dX6_strip_11 : decode cX6_strip 11 = .ok (.aload_n 0, 1) := by decide +kernel
theorem dX6_strip_12 : decode cX6_strip 12 = .ok (.getfield 10, 3) := by decide +kernel
theorem dX6_strip_15 : decode cX6_strip 15 = .ok (.getfield 72, 3) := by decide +kernel
theorem dX6_strip_18 : decode cX6_strip 18 = .ok (.bipush 7, 2) := by decide +kernel
theorem dX6_strip_20 : decode cX6_strip 20 = .ok (.if_icmp .gt 20, 3) := by decide +kernel
theorem dX6_strip_23 : decode cX6_strip 23 = .ok (.aload_n 0, 1) := by decide +kernel
theorem dX6_strip_24 : decode cX6_strip 24 = .ok (.getfield 10, 3) := by decide +kernel
theorem dX6_strip_27 : decode cX6_strip 27 = .ok (.invokevirtual 79, 3) := by decide +kernel
theorem dX6_strip_30 : decode cX6_strip 30 = .ok (.aload_n 0, 1) := by decide +kernel
theorem dX6_strip_31 : decode cX6_strip 31 = .ok (.getfield 10, 3) := by decide +kernel
theorem dX6_strip_34 : decode cX6_strip 34 = .ok (.getfield 72, 3) := by decide +kernel
theorem dX6_strip_37 : decode cX6_strip 37 = .ok (.if_icmp .ge 6, 3) := by decide +kernel
theorem dX6_strip_40 : decode cX6_strip 40 = .ok (.bipush (-103), 2) := by decide +kernel
theorem dX6_strip_42 : decode cX6_strip 42 = .ok (.ireturn, 1) := by decide +kernel
theorem dX6_strip_43 : decode cX6_strip 43 = .ok (.iconst 0, 1) := by decide +kernel
theorem dX6_strip_44 : decode cX6_strip 44 = .ok (.istore_n 1, 1) := by decide +kernel
theorem dX6_strip_45 : decode cX6_strip 45 = .ok (.iload_n 1, 1) := by decide +kernel
theorem dX6_strip_46 : decode cX6_strip 46 = .ok (.aload_n 0, 1) := by decide +kernel
theorem dX6_strip_47 : decode cX6_strip 47 = .ok (.getfield 10, 3) := by decide +kernel
theorem dX6_strip_50 : decode cX6_strip 50 = .ok (.getfield 72, 3) := by decide +kernel
theorem dX6_strip_53 : decode cX6_strip 53 = .ok (.if_icmp .ge 26, 3) := by decide +kernel
theorem dX6_strip_56 : decode cX6_strip 56 = .ok (.aload_n 0, 1) := by decide +kernel
theorem dX6_strip_57 : decode cX6_strip 57 = .ok (.getfield 26, 3) := by decide +kernel
theorem dX6_strip_60 : decode cX6_strip 60 = .ok (.getfield 35, 3) := by decide +kernel
theorem dX6_strip_63 : decode cX6_strip 63 = .ok (.iload_n 1, 1) := by decide +kernel
theorem dX6_strip_64 : decode cX6_strip 64 = .ok (.aload_n 0, 1) := by decide +kernel
theorem dX6_strip_65 : decode cX6_strip 65 = .ok (.getfield 10, 3) := by decide +kernel
theorem dX6_strip_68 : decode cX6_strip 68 = .ok (.iload_n 1, 1) := by decide +kernel
theorem dX6_strip_69 : decode cX6_strip 69 = .ok (.invokevirtual 83, 3) := by decide +kernel
theorem dX6_strip_72 : decode cX6_strip 72 = .ok (.iastore, 1) := by decide +kernel
theorem dX6_strip_73 : decode cX6_strip 73 = .ok (.iinc 1 1, 3) := by decide +kernel
theorem dX6_strip_76 : decode cX6_strip 76 = .ok (.goto (-31), 3) := by decide +kernel
theorem dX6_strip_79 : decode cX6_strip 79 = .ok (.aload_n 0, 1) := by decide +kernel
theorem dX6_strip_80 : decode cX6_strip 80 = .ok (.getfield 19, 3) := by decide +kernel
theorem dX6_strip_83 : decode cX6_strip 83 = .ok (.aload_n 0, 1) := by decide +kernel
theorem dX6_strip_84 : decode cX6_strip 84 = .ok (.getfield 10, 3) := by decide +kernel
theorem dX6_strip_87 : decode cX6_strip 87 = .ok (.getfield 72, 3) := by decide +kernel
theorem dX6_strip_90 : decode cX6_strip 90 = .ok (.invokevirtual 87, 3) := by decide +kernel
theorem dX6_strip_93 : decode cX6_strip 93 = .ok (.aload_n 0, 1) := by decide +kernel
theorem dX6_strip_94 : decode cX6_strip 94 = .ok (.getfield 10, 3) := by decide +kernel
theorem dX6_strip_97 : decode cX6_strip 97 = .ok (.iconst 0, 1) := by decide +kernel
theorem dX6_strip_98 : decode cX6_strip 98 = .ok (.putfield 72, 3) := by decide +kernel
theorem dX6_strip_101 : decode cX6_strip 101 = .ok (.aload_n 0, 1) := by decide +kernel
theorem dX6_strip_102 : decode cX6_strip 102 = .ok (.getfield 26, 3) := by decide +kernel
theorem dX6_strip_105 : decode cX6_strip 105 = .ok (.iconst 0, 1) := by decide +kernel
theorem dX6_strip_106 : decode cX6_strip 106 = .ok (.putfield 90, 3) := by decide +kernel
theorem dX6_strip_109 : decode cX6_strip 109 = .ok (.aload_n 0, 1) := by decide +kernel
theorem dX6_strip_110 : decode cX6_strip 110 = .ok (.getfield 26, 3) := by decide +kernel
theorem dX6_strip_113 : decode cX6_strip 113 = .ok (.iconst 0, 1) := by decide +kernel
theorem dX6_strip_114 : decode cX6_strip 114 = .ok (.putfield 93, 3) := by decide +kernel
theorem dX6_strip_117 : decode cX6_strip 117 = .ok (.aload_n 0, 1) := by decide +kernel
theorem dX6_strip_118 : decode cX6_strip 118 = .ok (.getfield 26, 3) := by decide +kernel
theorem dX6_strip_121 : decode cX6_strip 121 = .ok (.iconst 0, 1) := by decide +kernel
theorem dX6_strip_122 : decode cX6_strip 122 = .ok (.putfield 96, 3) := by decide +kernel
theorem dX6_strip_125 : decode cX6_strip 125 = .ok (.aload_n 0, 1) := by decide +kernel
theorem dX6_strip_126 : decode cX6_strip 126 = .ok (.iconst 0, 1) := by decide +kernel
theorem dX6_strip_127 : decode cX6_strip 127 = .ok (.putfield 64, 3) := by decide +kernel
theorem dX6_strip_130 : decode cX6_strip 130 = .ok (.aload_n 0, 1) := by decide +kernel
theorem dX6_strip_131 : decode cX6_strip 131 = .ok (.dup, 1) := by decide +kernel
theorem dX6_strip_132 : decode cX6_strip 132 = .ok (.getfield 68, 3) := by decide +kernel
theorem dX6_strip_135 : decode cX6_strip 135 = .ok (.iconst 1, 1) := by decide +kernel
theorem dX6_strip_136 : decode cX6_strip 136 = .ok (.iadd, 1) := by decide +kernel
theorem dX6_strip_137 : decode cX6_strip 137 = .ok (.putfield 68, 3) := by decide +kernel
theorem dX6_strip_140 : decode cX6_strip 140 = .ok (.aload_n 0, 1) := by decide +kernel
theorem dX6_strip_141 : decode cX6_strip 141 = .ok (.getfield 42, 3) := by decide +kernel
theorem dX6_strip_144 : decode cX6_strip 144 = .ok (.invokevirtual 99, 3) := by decide +kernel
theorem dX6_strip_147 : decode cX6_strip 147 = .ok (.aload_n 0, 1) := by decide +kernel
theorem dX6_strip_148 : decode cX6_strip 148 = .ok (.getfield 19, 3) := by decide +kernel
theorem dX6_strip_151 : decode cX6_strip 151 = .ok (.getfield 102, 3) := by decide +kernel
theorem dX6_strip_154 : decode cX6_strip 154 = .ok (.ireturn, 1) := by decide +kernel
theorem dX6_leaf_0 : decode cX6_leaf 0 = .ok (.aload_n 0, 1) := by decide +kernel
theorem dX6_leaf_1 : decode cX6_leaf 1 = .ok (.iload_n 1, 1) := by decide +kernel
theorem dX6_leaf_2 : decode cX6_leaf 2 = .ok (.invokevirtual 105, 3) := by decide +kernel
theorem dX6_leaf_5 : decode cX6_leaf 5 = .ok (.ifCond .ne 6, 3) := by decide +kernel
theorem dX6_leaf_8 : decode cX6_leaf 8 = .ok (.bipush (-101), 2) := by decide +kernel
theorem dX6_leaf_10 : decode cX6_leaf 10 = .ok (.ireturn, 1) := by decide +kernel
theorem dX6_leaf_11 : decode cX6_leaf 11 = .ok (.iload_n 2, 1) := by decide +kernel
theorem dX6_leaf_12 : decode cX6_leaf 12 = .ok (.tableswitch 90 0 3 #[32, 42, 55, 71], 32) := by decide +kernel
theorem dX6_leaf_44 : decode cX6_leaf 44 = .ok (.aload_n 0, 1) := by decide +kernel
theorem dX6_leaf_45 : decode cX6_leaf 45 = .ok (.getfield 26, 3) := by decide +kernel
theorem dX6_leaf_48 : decode cX6_leaf 48 = .ok (.getfield 35, 3) := by decide +kernel
theorem dX6_leaf_51 : decode cX6_leaf 51 = .ok (.iload_n 1, 1) := by decide +kernel
theorem dX6_leaf_52 : decode cX6_leaf 52 = .ok (.iaload, 1) := by decide +kernel
theorem dX6_leaf_53 : decode cX6_leaf 53 = .ok (.ireturn, 1) := by decide +kernel
theorem dX6_leaf_54 : decode cX6_leaf 54 = .ok (.aload_n 0, 1) := by decide +kernel
theorem dX6_leaf_55 : decode cX6_leaf 55 = .ok (.getfield 26, 3) := by decide +kernel
theorem dX6_leaf_58 : decode cX6_leaf 58 = .ok (.getfield 35, 3) := by decide +kernel
theorem dX6_leaf_61 : decode cX6_leaf 61 = .ok (.iload_n 1, 1) := by decide +kernel
theorem dX6_leaf_62 : decode cX6_leaf 62 = .ok (.iaload, 1) := by decide +kernel
theorem dX6_leaf_63 : decode cX6_leaf 63 = .ok (.invokestatic 109, 3) := by decide +kernel
theorem dX6_leaf_66 : decode cX6_leaf 66 = .ok (.ireturn, 1) := by decide +kernel
theorem dX6_leaf_67 : decode cX6_leaf 67 = .ok (.aload_n 0, 1) := by decide +kernel
theorem dX6_leaf_68 : decode cX6_leaf 68 = .ok (.getfield 19, 3) := by decide +kernel
theorem dX6_leaf_71 : decode cX6_leaf 71 = .ok (.aload_n 0, 1) := by decide +kernel
theorem dX6_leaf_72 : decode cX6_leaf 72 = .ok (.getfield 26, 3) := by decide +kernel
theorem dX6_leaf_75 : decode cX6_leaf 75 = .ok (.getfield 90, 3) := by decide +kernel
theorem dX6_leaf_78 : decode cX6_leaf 78 = .ok (.iload_n 1, 1) := by decide +kernel
theorem dX6_leaf_79 : decode cX6_leaf 79 = .ok (.invokevirtual 112, 3) := by decide +kernel
theorem dX6_leaf_82 : decode cX6_leaf 82 = .ok (.ireturn, 1) := by decide +kernel
theorem dX6_leaf_83 : decode cX6_leaf 83 = .ok (.aload_n 0, 1) := by decide +kernel
theorem dX6_leaf_84 : decode cX6_leaf 84 = .ok (.getfield 42, 3) := by decide +kernel
theorem dX6_leaf_87 : decode cX6_leaf 87 = .ok (.aload_n 0, 1) := by decide +kernel
theorem dX6_leaf_88 : decode cX6_leaf 88 = .ok (.getfield 26, 3) := by decide +kernel
theorem dX6_leaf_91 : decode cX6_leaf 91 = .ok (.getfield 90, 3) := by decide +kernel
theorem dX6_leaf_94 : decode cX6_leaf 94 = .ok (.iload_n 1, 1) := by decide +kernel
theorem dX6_leaf_95 : decode cX6_leaf 95 = .ok (.invokevirtual 116, 3) := by decide +kernel
theorem dX6_leaf_98 : decode cX6_leaf 98 = .ok (.invokestatic 120, 3) := by decide +kernel
theorem dX6_leaf_101 : decode cX6_leaf 101 = .ok (.ireturn, 1) := by decide +kernel
theorem dX6_leaf_102 : decode cX6_leaf 102 = .ok (.bipush (-102), 2) := by decide +kernel
theorem dX6_leaf_104 : decode cX6_leaf 104 = .ok (.ireturn, 1) := by decide +kernel
theorem dX6_as_0 : decode cX6_as 0 = .ok (.aload_n 0, 1) := by decide +kernel
theorem dX6_as_1 : decode cX6_as 1 = .ok (.iload_n 1, 1) := by decide +kernel
theorem dX6_as_2 : decode cX6_as 2 = .ok (.invokevirtual 105, 3) := by decide +kernel
theorem dX6_as_5 : decode cX6_as 5 = .ok (.ifCond .ne 6, 3) := by decide +kernel
theorem dX6_as_8 : decode cX6_as 8 = .ok (.bipush (-101), 2) := by decide +kernel
theorem dX6_as_10 : decode cX6_as 10 = .ok (.ireturn, 1) := by decide +kernel
theorem dX6_as_11 : decode cX6_as 11 = .ok (.iload_n 2, 1) := by decide +kernel
theorem dX6_as_12 : decode cX6_as 12 = .ok (.invokestatic 124, 3) := by decide +kernel
theorem dX6_as_15 : decode cX6_as 15 = .ok (.ifCond .ne 6, 3) := by decide +kernel
theorem dX6_as_18 : decode cX6_as 18 = .ok (.bipush (-102), 2) := by decide +kernel
theorem dX6_as_20 : decode cX6_as 20 = .ok (.ireturn, 1) := by decide +kernel
theorem dX6_as_21 : decode cX6_as 21 = .ok (.aload_n 0, 1) := by decide +kernel
theorem dX6_as_22 : decode cX6_as 22 = .ok (.getfield 26, 3) := by decide +kernel
theorem dX6_as_25 : decode cX6_as 25 = .ok (.getfield 35, 3) := by decide +kernel
theorem dX6_as_28 : decode cX6_as 28 = .ok (.iload_n 1, 1) := by decide +kernel
theorem dX6_as_29 : decode cX6_as 29 = .ok (.iaload, 1) := by decide +kernel
theorem dX6_as_30 : decode cX6_as 30 = .ok (.iload_n 2, 1) := by decide +kernel
theorem dX6_as_31 : decode cX6_as 31 = .ok (.invokestatic 127, 3) := by decide +kernel
theorem dX6_as_34 : decode cX6_as 34 = .ok (.ifCond .eq 7, 3) := by decide +kernel
theorem dX6_as_37 : decode cX6_as 37 = .ok (.iload_n 1, 1) := by decide +kernel
theorem dX6_as_38 : decode cX6_as 38 = .ok (.goto 4, 3) := by decide +kernel
theorem dX6_as_41 : decode cX6_as 41 = .ok (.iconst (-1), 1) := by decide +kernel
theorem dX6_as_42 : decode cX6_as 42 = .ok (.ireturn, 1) := by decide +kernel
theorem dX6_hinge_0 : decode cX6_hinge 0 = .ok (.iload_n 1, 1) := by decide +kernel
theorem dX6_hinge_1 : decode cX6_hinge 1 = .ok (.ifCond .lt 16, 3) := by decide +kernel
theorem dX6_hinge_4 : decode cX6_hinge 4 = .ok (.iload_n 1, 1) := by decide +kernel
theorem dX6_hinge_5 : decode cX6_hinge 5 = .ok (.aload_n 0, 1) := by decide +kernel
theorem dX6_hinge_6 : decode cX6_hinge 6 = .ok (.getfield 19, 3) := by decide +kernel
theorem dX6_hinge_9 : decode cX6_hinge 9 = .ok (.getfield 102, 3) := by decide +kernel
theorem dX6_hinge_12 : decode cX6_hinge 12 = .ok (.iconst 1, 1) := by decide +kernel
theorem dX6_hinge_13 : decode cX6_hinge 13 = .ok (.isub, 1) := by decide +kernel
theorem dX6_hinge_14 : decode cX6_hinge 14 = .ok (.if_icmp .lt 6, 3) := by decide +kernel
theorem dX6_hinge_17 : decode cX6_hinge 17 = .ok (.bipush (-101), 2) := by decide +kernel
theorem dX6_hinge_19 : decode cX6_hinge 19 = .ok (.ireturn, 1) := by decide +kernel
theorem dX6_hinge_20 : decode cX6_hinge 20 = .ok (.iload_n 2, 1) := by decide +kernel
theorem dX6_hinge_21 : decode cX6_hinge 21 = .ok (.lookupswitch 47 #[(0, 27), (1, 31)], 27) := by decide +kernel
theorem dX6_hinge_48 : decode cX6_hinge 48 = .ok (.iload_n 1, 1) := by decide +kernel
theorem dX6_hinge_49 : decode cX6_hinge 49 = .ok (.iconst 2, 1) := by decide +kernel
theorem dX6_hinge_50 : decode cX6_hinge 50 = .ok (.irem, 1) := by decide +kernel
theorem dX6_hinge_51 : decode cX6_hinge 51 = .ok (.ireturn, 1) := by decide +kernel
theorem dX6_hinge_52 : decode cX6_hinge 52 = .ok (.aload_n 0, 1) := by decide +kernel
theorem dX6_hinge_53 : decode cX6_hinge 53 = .ok (.getfield 42, 3) := by decide +kernel
theorem dX6_hinge_56 : decode cX6_hinge 56 = .ok (.aload_n 0, 1) := by decide +kernel
theorem dX6_hinge_57 : decode cX6_hinge 57 = .ok (.getfield 26, 3) := by decide +kernel
theorem dX6_hinge_60 : decode cX6_hinge 60 = .ok (.getfield 90, 3) := by decide +kernel
theorem dX6_hinge_63 : decode cX6_hinge 63 = .ok (.iload_n 1, 1) := by decide +kernel
theorem dX6_hinge_64 : decode cX6_hinge 64 = .ok (.invokevirtual 130, 3) := by decide +kernel
theorem dX6_hinge_67 : decode cX6_hinge 67 = .ok (.ireturn, 1) := by decide +kernel
theorem dX6_hinge_68 : decode cX6_hinge 68 = .ok (.bipush (-102), 2) := by decide +kernel
theorem dX6_hinge_70 : decode cX6_hinge 70 = .ok (.ireturn, 1) := by decide +kernel
theorem dX6_at_0 : decode cX6_at 0 = .ok (.aload_n 0, 1) := by decide +kernel
theorem dX6_at_1 : decode cX6_at 1 = .ok (.iload_n 1, 1) := by decide +kernel
theorem dX6_at_2 : decode cX6_at 2 = .ok (.invokevirtual 133, 3) := by decide +kernel
theorem dX6_at_5 : decode cX6_at 5 = .ok (.ifCond .ne 6, 3) := by decide +kernel
theorem dX6_at_8 : decode cX6_at 8 = .ok (.bipush (-101), 2) := by decide +kernel
theorem dX6_at_10 : decode cX6_at 10 = .ok (.ireturn, 1) := by decide +kernel
theorem dX6_at_11 : decode cX6_at 11 = .ok (.aload_n 0, 1) := by decide +kernel
theorem dX6_at_12 : decode cX6_at 12 = .ok (.getfield 19, 3) := by decide +kernel
theorem dX6_at_15 : decode cX6_at 15 = .ok (.aload_n 0, 1) := by decide +kernel
theorem dX6_at_16 : decode cX6_at 16 = .ok (.getfield 26, 3) := by decide +kernel
theorem dX6_at_19 : decode cX6_at 19 = .ok (.getfield 90, 3) := by decide +kernel
theorem dX6_at_22 : decode cX6_at 22 = .ok (.iload_n 1, 1) := by decide +kernel
theorem dX6_at_23 : decode cX6_at 23 = .ok (.invokevirtual 136, 3) := by decide +kernel
theorem dX6_at_26 : decode cX6_at 26 = .ok (.ireturn, 1) := by decide +kernel
theorem dX6_may_0 : decode cX6_may 0 = .ok (.aload_n 0, 1) := by decide +kernel
theorem dX6_may_1 : decode cX6_may 1 = .ok (.iload_n 1, 1) := by decide +kernel
theorem dX6_may_2 : decode cX6_may 2 = .ok (.invokevirtual 105, 3) := by decide +kernel
theorem dX6_may_5 : decode cX6_may 5 = .ok (.ifCond .eq 11, 3) := by decide +kernel
theorem dX6_may_8 : decode cX6_may 8 = .ok (.aload_n 0, 1) := by decide +kernel
theorem dX6_may_9 : decode cX6_may 9 = .ok (.iload_n 2, 1) := by decide +kernel
theorem dX6_may_10 : decode cX6_may 10 = .ok (.invokevirtual 133, 3) := by decide +kernel
theorem dX6_may_13 : decode cX6_may 13 = .ok (.ifCond .ne 6, 3) := by decide +kernel
theorem dX6_may_16 : decode cX6_may 16 = .ok (.bipush (-101), 2) := by decide +kernel
theorem dX6_may_18 : decode cX6_may 18 = .ok (.ireturn, 1) := by decide +kernel
theorem dX6_may_19 : decode cX6_may 19 = .ok (.aload_n 0, 1) := by decide +kernel
theorem dX6_may_20 : decode cX6_may 20 = .ok (.getfield 19, 3) := by decide +kernel
theorem dX6_may_23 : decode cX6_may 23 = .ok (.aload_n 0, 1) := by decide +kernel
theorem dX6_may_24 : decode cX6_may 24 = .ok (.getfield 26, 3) := by decide +kernel
theorem dX6_may_27 : decode cX6_may 27 = .ok (.getfield 90, 3) := by decide +kernel
theorem dX6_may_30 : decode cX6_may 30 = .ok (.iload_n 1, 1) := by decide +kernel
theorem dX6_may_31 : decode cX6_may 31 = .ok (.iload_n 2, 1) := by decide +kernel
theorem dX6_may_32 : decode cX6_may 32 = .ok (.invokevirtual 139, 3) := by decide +kernel
theorem dX6_may_35 : decode cX6_may 35 = .ok (.iconst (-1), 1) := by decide +kernel
theorem dX6_may_36 : decode cX6_may 36 = .ok (.if_icmp .eq 7, 3) := by decide +kernel
theorem dX6_may_39 : decode cX6_may 39 = .ok (.iconst 1, 1) := by decide +kernel
theorem dX6_may_40 : decode cX6_may 40 = .ok (.goto 4, 3) := by decide +kernel
theorem dX6_may_43 : decode cX6_may 43 = .ok (.iconst 0, 1) := by decide +kernel
theorem dX6_may_44 : decode cX6_may 44 = .ok (.invokestatic 120, 3) := by decide +kernel
theorem dX6_may_47 : decode cX6_may 47 = .ok (.ireturn, 1) := by decide +kernel
theorem dX6_move_0 : decode cX6_move 0 = .ok (.aload_n 0, 1) := by decide +kernel
theorem dX6_move_1 : decode cX6_move 1 = .ok (.iload_n 1, 1) := by decide +kernel
theorem dX6_move_2 : decode cX6_move 2 = .ok (.invokevirtual 105, 3) := by decide +kernel
theorem dX6_move_5 : decode cX6_move 5 = .ok (.ifCond .eq 11, 3) := by decide +kernel
theorem dX6_move_8 : decode cX6_move 8 = .ok (.aload_n 0, 1) := by decide +kernel
theorem dX6_move_9 : decode cX6_move 9 = .ok (.iload_n 2, 1) := by decide +kernel
theorem dX6_move_10 : decode cX6_move 10 = .ok (.invokevirtual 133, 3) := by decide +kernel
theorem dX6_move_13 : decode cX6_move 13 = .ok (.ifCond .ne 6, 3) := by decide +kernel
theorem dX6_move_16 : decode cX6_move 16 = .ok (.bipush (-101), 2) := by decide +kernel
theorem dX6_move_18 : decode cX6_move 18 = .ok (.ireturn, 1) := by decide +kernel
theorem dX6_move_19 : decode cX6_move 19 = .ok (.aload_n 0, 1) := by decide +kernel
theorem dX6_move_20 : decode cX6_move 20 = .ok (.getfield 19, 3) := by decide +kernel
theorem dX6_move_23 : decode cX6_move 23 = .ok (.aload_n 0, 1) := by decide +kernel
theorem dX6_move_24 : decode cX6_move 24 = .ok (.getfield 26, 3) := by decide +kernel
theorem dX6_move_27 : decode cX6_move 27 = .ok (.getfield 90, 3) := by decide +kernel
theorem dX6_move_30 : decode cX6_move 30 = .ok (.iload_n 1, 1) := by decide +kernel
theorem dX6_move_31 : decode cX6_move 31 = .ok (.iload_n 2, 1) := by decide +kernel
theorem dX6_move_32 : decode cX6_move 32 = .ok (.invokevirtual 139, 3) := by decide +kernel
theorem dX6_move_35 : decode cX6_move 35 = .ok (.istore_n 3, 1) := by decide +kernel
theorem dX6_move_36 : decode cX6_move 36 = .ok (.iload_n 3, 1) := by decide +kernel
theorem dX6_move_37 : decode cX6_move 37 = .ok (.iconst (-1), 1) := by decide +kernel
theorem dX6_move_38 : decode cX6_move 38 = .ok (.if_icmp .eq 14, 3) := by decide +kernel
theorem dX6_move_41 : decode cX6_move 41 = .ok (.iload_n 3, 1) := by decide +kernel
theorem dX6_move_42 : decode cX6_move 42 = .ok (.aload_n 0, 1) := by decide +kernel
theorem dX6_move_43 : decode cX6_move 43 = .ok (.getfield 26, 3) := by decide +kernel
theorem dX6_move_46 : decode cX6_move 46 = .ok (.getfield 90, 3) := by decide +kernel
theorem dX6_move_49 : decode cX6_move 49 = .ok (.if_icmp .ne 6, 3) := by decide +kernel
theorem dX6_move_52 : decode cX6_move 52 = .ok (.bipush (-103), 2) := by decide +kernel
theorem dX6_move_54 : decode cX6_move 54 = .ok (.ireturn, 1) := by decide +kernel
theorem dX6_move_55 : decode cX6_move 55 = .ok (.aload_n 0, 1) := by decide +kernel
theorem dX6_move_56 : decode cX6_move 56 = .ok (.getfield 26, 3) := by decide +kernel
theorem dX6_move_59 : decode cX6_move 59 = .ok (.getfield 93, 3) := by decide +kernel
theorem dX6_move_62 : decode cX6_move 62 = .ok (.sipush 999, 3) := by decide +kernel
theorem dX6_move_65 : decode cX6_move 65 = .ok (.if_icmp .lt 6, 3) := by decide +kernel
theorem dX6_move_68 : decode cX6_move 68 = .ok (.bipush (-104), 2) := by decide +kernel
theorem dX6_move_70 : decode cX6_move 70 = .ok (.ireturn, 1) := by decide +kernel
theorem dX6_move_71 : decode cX6_move 71 = .ok (.aload_n 0, 1) := by decide +kernel
theorem dX6_move_72 : decode cX6_move 72 = .ok (.getfield 26, 3) := by decide +kernel
theorem dX6_move_75 : decode cX6_move 75 = .ok (.iload_n 3, 1) := by decide +kernel
theorem dX6_move_76 : decode cX6_move 76 = .ok (.putfield 90, 3) := by decide +kernel
theorem dX6_move_79 : decode cX6_move 79 = .ok (.aload_n 0, 1) := by decide +kernel
theorem dX6_move_80 : decode cX6_move 80 = .ok (.getfield 26, 3) := by decide +kernel
theorem dX6_move_83 : decode cX6_move 83 = .ok (.dup, 1) := by decide +kernel
theorem dX6_move_84 : decode cX6_move 84 = .ok (.getfield 93, 3) := by decide +kernel
theorem dX6_move_87 : decode cX6_move 87 = .ok (.iconst 1, 1) := by decide +kernel
theorem dX6_move_88 : decode cX6_move 88 = .ok (.iadd, 1) := by decide +kernel
theorem dX6_move_89 : decode cX6_move 89 = .ok (.putfield 93, 3) := by decide +kernel
theorem dX6_move_92 : decode cX6_move 92 = .ok (.aload_n 0, 1) := by decide +kernel
theorem dX6_move_93 : decode cX6_move 93 = .ok (.invokevirtual 143, 3) := by decide +kernel
theorem dX6_move_96 : decode cX6_move 96 = .ok (.ireturn, 1) := by decide +kernel
theorem dX6_turn_0 : decode cX6_turn 0 = .ok (.aload_n 0, 1) := by decide +kernel
theorem dX6_turn_1 : decode cX6_turn 1 = .ok (.invokevirtual 146, 3) := by decide +kernel
theorem dX6_turn_4 : decode cX6_turn 4 = .ok (.ifCond .eq 6, 3) := by decide +kernel
theorem dX6_turn_7 : decode cX6_turn 7 = .ok (.bipush (-103), 2) := by decide +kernel
theorem dX6_turn_9 : decode cX6_turn 9 = .ok (.ireturn, 1) := by decide +kernel
theorem dX6_turn_10 : decode cX6_turn 10 = .ok (.aload_n 0, 1) := by decide +kernel
theorem dX6_turn_11 : decode cX6_turn 11 = .ok (.getfield 26, 3) := by decide +kernel
theorem dX6_turn_14 : decode cX6_turn 14 = .ok (.aload_n 0, 1) := by decide +kernel
theorem dX6_turn_15 : decode cX6_turn 15 = .ok (.getfield 19, 3) := by decide +kernel
theorem dX6_turn_18 : decode cX6_turn 18 = .ok (.aload_n 0, 1) := by decide +kernel
theorem dX6_turn_19 : decode cX6_turn 19 = .ok (.getfield 26, 3) := by decide +kernel
theorem dX6_turn_22 : decode cX6_turn 22 = .ok (.getfield 90, 3) := by decide +kernel
theorem dX6_turn_25 : decode cX6_turn 25 = .ok (.invokevirtual 150, 3) := by decide +kernel
theorem dX6_turn_28 : decode cX6_turn 28 = .ok (.putfield 90, 3) := by decide +kernel
theorem dX6_turn_31 : decode cX6_turn 31 = .ok (.aload_n 0, 1) := by decide +kernel
theorem dX6_turn_32 : decode cX6_turn 32 = .ok (.getfield 19, 3) := by decide +kernel
theorem dX6_turn_35 : decode cX6_turn 35 = .ok (.aload_n 0, 1) := by decide +kernel
theorem dX6_turn_36 : decode cX6_turn 36 = .ok (.getfield 26, 3) := by decide +kernel
theorem dX6_turn_39 : decode cX6_turn 39 = .ok (.getfield 90, 3) := by decide +kernel
theorem dX6_turn_42 : decode cX6_turn 42 = .ok (.iconst 0, 1) := by decide +kernel
theorem dX6_turn_43 : decode cX6_turn 43 = .ok (.invokevirtual 136, 3) := by decide +kernel
theorem dX6_turn_46 : decode cX6_turn 46 = .ok (.ireturn, 1) := by decide +kernel
theorem dX6_lay_0 : decode cX6_lay 0 = .ok (.aload_n 0, 1) := by decide +kernel
theorem dX6_lay_1 : decode cX6_lay 1 = .ok (.iload_n 1, 1) := by decide +kernel
theorem dX6_lay_2 : decode cX6_lay 2 = .ok (.invokevirtual 153, 3) := by decide +kernel
theorem dX6_lay_5 : decode cX6_lay 5 = .ok (.ifCond .ne 6, 3) := by decide +kernel
theorem dX6_lay_8 : decode cX6_lay 8 = .ok (.bipush (-101), 2) := by decide +kernel
theorem dX6_lay_10 : decode cX6_lay 10 = .ok (.ireturn, 1) := by decide +kernel
theorem dX6_lay_11 : decode cX6_lay 11 = .ok (.aload_n 0, 1) := by decide +kernel
theorem dX6_lay_12 : decode cX6_lay 12 = .ok (.getfield 26, 3) := by decide +kernel
theorem dX6_lay_15 : decode cX6_lay 15 = .ok (.getfield 90, 3) := by decide +kernel
theorem dX6_lay_18 : decode cX6_lay 18 = .ok (.istore_n 2, 1) := by decide +kernel
theorem dX6_lay_19 : decode cX6_lay 19 = .ok (.aload_n 0, 1) := by decide +kernel
theorem dX6_lay_20 : decode cX6_lay 20 = .ok (.getfield 26, 3) := by decide +kernel
theorem dX6_lay_23 : decode cX6_lay 23 = .ok (.iload_n 1, 1) := by decide +kernel
theorem dX6_lay_24 : decode cX6_lay 24 = .ok (.putfield 90, 3) := by decide +kernel
theorem dX6_lay_27 : decode cX6_lay 27 = .ok (.iload_n 2, 1) := by decide +kernel
theorem dX6_lay_28 : decode cX6_lay 28 = .ok (.ireturn, 1) := by decide +kernel
theorem dX6_change_0 : decode cX6_change 0 = .ok (.aload_n 0, 1) := by decide +kernel
theorem dX6_change_1 : decode cX6_change 1 = .ok (.iload_n 1, 1) := by decide +kernel
theorem dX6_change_2 : decode cX6_change 2 = .ok (.invokevirtual 105, 3) := by decide +kernel
theorem dX6_change_5 : decode cX6_change 5 = .ok (.ifCond .ne 6, 3) := by decide +kernel
theorem dX6_change_8 : decode cX6_change 8 = .ok (.bipush (-101), 2) := by decide +kernel
theorem dX6_change_10 : decode cX6_change 10 = .ok (.ireturn, 1) := by decide +kernel
theorem dX6_change_11 : decode cX6_change 11 = .ok (.iload_n 2, 1) := by decide +kernel
theorem dX6_change_12 : decode cX6_change 12 = .ok (.invokestatic 124, 3) := by decide +kernel
theorem dX6_change_15 : decode cX6_change 15 = .ok (.ifCond .ne 6, 3) := by decide +kernel
theorem dX6_change_18 : decode cX6_change 18 = .ok (.bipush (-102), 2) := by decide +kernel
theorem dX6_change_20 : decode cX6_change 20 = .ok (.ireturn, 1) := by decide +kernel
theorem dX6_change_21 : decode cX6_change 21 = .ok (.aload_n 0, 1) := by decide +kernel
theorem dX6_change_22 : decode cX6_change 22 = .ok (.getfield 26, 3) := by decide +kernel
theorem dX6_change_25 : decode cX6_change 25 = .ok (.getfield 35, 3) := by decide +kernel
theorem dX6_change_28 : decode cX6_change 28 = .ok (.iload_n 1, 1) := by decide +kernel
theorem dX6_change_29 : decode cX6_change 29 = .ok (.iaload, 1) := by decide +kernel
theorem dX6_change_30 : decode cX6_change 30 = .ok (.istore_n 3, 1) := by decide +kernel
theorem dX6_change_31 : decode cX6_change 31 = .ok (.aload_n 0, 1) := by decide +kernel
theorem dX6_change_32 : decode cX6_change 32 = .ok (.getfield 26, 3) := by decide +kernel
theorem dX6_change_35 : decode cX6_change 35 = .ok (.getfield 35, 3) := by decide +kernel
theorem dX6_change_38 : decode cX6_change 38 = .ok (.iload_n 1, 1) := by decide +kernel
theorem dX6_change_39 : decode cX6_change 39 = .ok (.iload_n 2, 1) := by decide +kernel
theorem dX6_change_40 : decode cX6_change 40 = .ok (.iastore, 1) := by decide +kernel
theorem dX6_change_41 : decode cX6_change 41 = .ok (.aload_n 0, 1) := by decide +kernel
theorem dX6_change_42 : decode cX6_change 42 = .ok (.getfield 42, 3) := by decide +kernel
theorem dX6_change_45 : decode cX6_change 45 = .ok (.invokevirtual 99, 3) := by decide +kernel
theorem dX6_change_48 : decode cX6_change 48 = .ok (.iload_n 3, 1) := by decide +kernel
theorem dX6_change_49 : decode cX6_change 49 = .ok (.ireturn, 1) := by decide +kernel
theorem dX6_orders_0 : decode cX6_orders 0 = .ok (.iload_n 1, 1) := by decide +kernel
theorem dX6_orders_1 : decode cX6_orders 1 = .ok (.ifCond .lt 8, 3) := by decide +kernel
theorem dX6_orders_4 : decode cX6_orders 4 = .ok (.iload_n 1, 1) := by decide +kernel
theorem dX6_orders_5 : decode cX6_orders 5 = .ok (.iconst 3, 1) := by decide +kernel
theorem dX6_orders_6 : decode cX6_orders 6 = .ok (.if_icmp .le 6, 3) := by decide +kernel
theorem dX6_orders_9 : decode cX6_orders 9 = .ok (.bipush (-102), 2) := by decide +kernel
theorem dX6_orders_11 : decode cX6_orders 11 = .ok (.ireturn, 1) := by decide +kernel
theorem dX6_orders_12 : decode cX6_orders 12 = .ok (.aload_n 0, 1) := by decide +kernel
theorem dX6_orders_13 : decode cX6_orders 13 = .ok (.invokevirtual 146, 3) := by decide +kernel
theorem dX6_orders_16 : decode cX6_orders 16 = .ok (.ifCond .eq 6, 3) := by decide +kernel
theorem dX6_orders_19 : decode cX6_orders 19 = .ok (.bipush (-103), 2) := by decide +kernel
theorem dX6_orders_21 : decode cX6_orders 21 = .ok (.ireturn, 1) := by decide +kernel
theorem dX6_orders_22 : decode cX6_orders 22 = .ok (.iload_n 1, 1) := by decide +kernel
theorem dX6_orders_23 : decode cX6_orders 23 = .ok (.tableswitch 49 0 2 #[25, 33, 41], 25) := by decide +kernel
theorem dX6_orders_48 : decode cX6_orders 48 = .ok (.aload_n 0, 1) := by decide +kernel
theorem dX6_orders_49 : decode cX6_orders 49 = .ok (.getfield 19, 3) := by decide +kernel
theorem dX6_orders_52 : decode cX6_orders 52 = .ok (.getfield 156, 3) := by decide +kernel
theorem dX6_orders_55 : decode cX6_orders 55 = .ok (.ireturn, 1) := by decide +kernel
theorem dX6_orders_56 : decode cX6_orders 56 = .ok (.aload_n 0, 1) := by decide +kernel
theorem dX6_orders_57 : decode cX6_orders 57 = .ok (.getfield 42, 3) := by decide +kernel
theorem dX6_orders_60 : decode cX6_orders 60 = .ok (.getfield 157, 3) := by decide +kernel
theorem dX6_orders_63 : decode cX6_orders 63 = .ok (.ireturn, 1) := by decide +kernel
theorem dX6_orders_64 : decode cX6_orders 64 = .ok (.aload_n 0, 1) := by decide +kernel
theorem dX6_orders_65 : decode cX6_orders 65 = .ok (.getfield 26, 3) := by decide +kernel
theorem dX6_orders_68 : decode cX6_orders 68 = .ok (.getfield 90, 3) := by decide +kernel
theorem dX6_orders_71 : decode cX6_orders 71 = .ok (.ireturn, 1) := by decide +kernel
theorem dX6_orders_72 : decode cX6_orders 72 = .ok (.aload_n 0, 1) := by decide +kernel
theorem dX6_orders_73 : decode cX6_orders 73 = .ok (.getfield 42, 3) := by decide +kernel
theorem dX6_orders_76 : decode cX6_orders 76 = .ok (.aload_n 0, 1) := by decide +kernel
theorem dX6_orders_77 : decode cX6_orders 77 = .ok (.getfield 26, 3) := by decide +kernel
theorem dX6_orders_80 : decode cX6_orders 80 = .ok (.getfield 90, 3) := by decide +kernel
theorem dX6_orders_83 : decode cX6_orders 83 = .ok (.invokevirtual 160, 3) := by decide +kernel
theorem dX6_orders_86 : decode cX6_orders 86 = .ok (.invokestatic 120, 3) := by decide +kernel
theorem dX6_orders_89 : decode cX6_orders 89 = .ok (.ireturn, 1) := by decide +kernel
theorem dX6_order_0 : decode cX6_order 0 = .ok (.aload_n 0, 1) := by decide +kernel
theorem dX6_order_1 : decode cX6_order 1 = .ok (.iload_n 1, 1) := by decide +kernel
theorem dX6_order_2 : decode cX6_order 2 = .ok (.invokevirtual 153, 3) := by decide +kernel
theorem dX6_order_5 : decode cX6_order 5 = .ok (.ifCond .ne 6, 3) := by decide +kernel
theorem dX6_order_8 : decode cX6_order 8 = .ok (.bipush (-101), 2) := by decide +kernel
theorem dX6_order_10 : decode cX6_order 10 = .ok (.ireturn, 1) := by decide +kernel
theorem dX6_order_11 : decode cX6_order 11 = .ok (.iload_n 2, 1) := by decide +kernel
theorem dX6_order_12 : decode cX6_order 12 = .ok (.ifCond .ne 15, 3) := by decide +kernel
theorem dX6_order_15 : decode cX6_order 15 = .ok (.aload_n 0, 1) := by decide +kernel
theorem dX6_order_16 : decode cX6_order 16 = .ok (.getfield 42, 3) := by decide +kernel
theorem dX6_order_19 : decode cX6_order 19 = .ok (.iload_n 1, 1) := by decide +kernel
theorem dX6_order_20 : decode cX6_order 20 = .ok (.invokevirtual 160, 3) := by decide +kernel
theorem dX6_order_23 : decode cX6_order 23 = .ok (.invokestatic 120, 3) := by decide +kernel
theorem dX6_order_26 : decode cX6_order 26 = .ok (.ireturn, 1) := by decide +kernel
theorem dX6_order_27 : decode cX6_order 27 = .ok (.iload_n 2, 1) := by decide +kernel
theorem dX6_order_28 : decode cX6_order 28 = .ok (.iconst 1, 1) := by decide +kernel
theorem dX6_order_29 : decode cX6_order 29 = .ok (.if_icmp .ne 12, 3) := by decide +kernel
theorem dX6_order_32 : decode cX6_order 32 = .ok (.aload_n 0, 1) := by decide +kernel
theorem dX6_order_33 : decode cX6_order 33 = .ok (.getfield 42, 3) := by decide +kernel
theorem dX6_order_36 : decode cX6_order 36 = .ok (.iload_n 1, 1) := by decide +kernel
theorem dX6_order_37 : decode cX6_order 37 = .ok (.invokevirtual 163, 3) := by decide +kernel
theorem dX6_order_40 : decode cX6_order 40 = .ok (.ireturn, 1) := by decide +kernel
theorem dX6_order_41 : decode cX6_order 41 = .ok (.iload_n 2, 1) := by decide +kernel
theorem dX6_order_42 : decode cX6_order 42 = .ok (.bipush 10, 2) := by decide +kernel
theorem dX6_order_44 : decode cX6_order 44 = .ok (.if_icmp .lt 9, 3) := by decide +kernel
theorem dX6_order_47 : decode cX6_order 47 = .ok (.iload_n 2, 1) := by decide +kernel
theorem dX6_order_48 : decode cX6_order 48 = .ok (.bipush 17, 2) := by decide +kernel
theorem dX6_order_50 : decode cX6_order 50 = .ok (.if_icmp .lt 6, 3) := by decide +kernel
theorem dX6_order_53 : decode cX6_order 53 = .ok (.bipush (-102), 2) := by decide +kernel
theorem dX6_order_55 : decode cX6_order 55 = .ok (.ireturn, 1) := by decide +kernel
theorem dX6_order_56 : decode cX6_order 56 = .ok (.aload_n 0, 1) := by decide +kernel
theorem dX6_order_57 : decode cX6_order 57 = .ok (.getfield 19, 3) := by decide +kernel
theorem dX6_order_60 : decode cX6_order 60 = .ok (.iload_n 1, 1) := by decide +kernel
theorem dX6_order_61 : decode cX6_order 61 = .ok (.iload_n 2, 1) := by decide +kernel
theorem dX6_order_62 : decode cX6_order 62 = .ok (.bipush 10, 2) := by decide +kernel
theorem dX6_order_64 : decode cX6_order 64 = .ok (.isub, 1) := by decide +kernel
theorem dX6_order_65 : decode cX6_order 65 = .ok (.invokevirtual 136, 3) := by decide +kernel
theorem dX6_order_68 : decode cX6_order 68 = .ok (.ireturn, 1) := by decide +kernel
theorem dX6_tops_0 : decode cX6_tops 0 = .ok (.aload_n 0, 1) := by decide +kernel
theorem dX6_tops_1 : decode cX6_tops 1 = .ok (.iload_n 1, 1) := by decide +kernel
theorem dX6_tops_2 : decode cX6_tops 2 = .ok (.invokevirtual 105, 3) := by decide +kernel
theorem dX6_tops_5 : decode cX6_tops 5 = .ok (.ifCond .ne 6, 3) := by decide +kernel
theorem dX6_tops_8 : decode cX6_tops 8 = .ok (.bipush (-101), 2) := by decide +kernel
theorem dX6_tops_10 : decode cX6_tops 10 = .ok (.ireturn, 1) := by decide +kernel
theorem dX6_tops_11 : decode cX6_tops 11 = .ok (.iload_n 2, 1) := by decide +kernel
theorem dX6_tops_12 : decode cX6_tops 12 = .ok (.ifCond .lt 8, 3) := by decide +kernel
theorem dX6_tops_15 : decode cX6_tops 15 = .ok (.iload_n 2, 1) := by decide +kernel
theorem dX6_tops_16 : decode cX6_tops 16 = .ok (.iconst 1, 1) := by decide +kernel
theorem dX6_tops_17 : decode cX6_tops 17 = .ok (.if_icmp .le 6, 3) := by decide +kernel
theorem dX6_tops_20 : decode cX6_tops 20 = .ok (.bipush (-102), 2) := by decide +kernel
theorem dX6_tops_22 : decode cX6_tops 22 = .ok (.ireturn, 1) := by decide +kernel
theorem dX6_tops_23 : decode cX6_tops 23 = .ok (.iconst 0, 1) := by decide +kernel
theorem dX6_tops_24 : decode cX6_tops 24 = .ok (.istore_n 3, 1) := by decide +kernel
theorem dX6_tops_25 : decode cX6_tops 25 = .ok (.iconst 0, 1) := by decide +kernel
theorem dX6_tops_26 : decode cX6_tops 26 = .ok (.istore 4, 2) := by decide +kernel
theorem dX6_tops_28 : decode cX6_tops 28 = .ok (.iload 4, 2) := by decide +kernel
theorem dX6_tops_30 : decode cX6_tops 30 = .ok (.aload_n 0, 1) := by decide +kernel
theorem dX6_tops_31 : decode cX6_tops 31 = .ok (.getfield 19, 3) := by decide +kernel
theorem dX6_tops_34 : decode cX6_tops 34 = .ok (.getfield 156, 3) := by decide +kernel
theorem dX6_tops_37 : decode cX6_tops 37 = .ok (.if_icmp .ge 42, 3) := by decide +kernel
theorem dX6_tops_40 : decode cX6_tops 40 = .ok (.aload_n 0, 1) := by decide +kernel
theorem dX6_tops_41 : decode cX6_tops 41 = .ok (.getfield 19, 3) := by decide +kernel
theorem dX6_tops_44 : decode cX6_tops 44 = .ok (.iload 4, 2) := by decide +kernel
theorem dX6_tops_46 : decode cX6_tops 46 = .ok (.iconst 0, 1) := by decide +kernel
theorem dX6_tops_47 : decode cX6_tops 47 = .ok (.invokevirtual 136, 3) := by decide +kernel
theorem dX6_tops_50 : decode cX6_tops 50 = .ok (.iload_n 1, 1) := by decide +kernel
theorem dX6_tops_51 : decode cX6_tops 51 = .ok (.if_icmp .ne 22, 3) := by decide +kernel
theorem dX6_tops_54 : decode cX6_tops 54 = .ok (.iload_n 2, 1) := by decide +kernel
theorem dX6_tops_55 : decode cX6_tops 55 = .ok (.ifCond .eq 15, 3) := by decide +kernel
theorem dX6_tops_58 : decode cX6_tops 58 = .ok (.aload_n 0, 1) := by decide +kernel
theorem dX6_tops_59 : decode cX6_tops 59 = .ok (.getfield 42, 3) := by decide +kernel
theorem dX6_tops_62 : decode cX6_tops 62 = .ok (.iload 4, 2) := by decide +kernel
theorem dX6_tops_64 : decode cX6_tops 64 = .ok (.invokevirtual 160, 3) := by decide +kernel
theorem dX6_tops_67 : decode cX6_tops 67 = .ok (.ifCond .eq 6, 3) := by decide +kernel
theorem dX6_tops_70 : decode cX6_tops 70 = .ok (.iinc 3 1, 3) := by decide +kernel
theorem dX6_tops_73 : decode cX6_tops 73 = .ok (.iinc 4 1, 3) := by decide +kernel
theorem dX6_tops_76 : decode cX6_tops 76 = .ok (.goto (-48), 3) := by decide +kernel
theorem dX6_tops_79 : decode cX6_tops 79 = .ok (.iload_n 3, 1) := by decide +kernel
theorem dX6_tops_80 : decode cX6_tops 80 = .ok (.ireturn, 1) := by decide +kernel
theorem dX6_near_0 : decode cX6_near 0 = .ok (.aload_n 0, 1) := by decide +kernel
theorem dX6_near_1 : decode cX6_near 1 = .ok (.iload_n 1, 1) := by decide +kernel
theorem dX6_near_2 : decode cX6_near 2 = .ok (.invokevirtual 153, 3) := by decide +kernel
theorem dX6_near_5 : decode cX6_near 5 = .ok (.ifCond .ne 6, 3) := by decide +kernel
theorem dX6_near_8 : decode cX6_near 8 = .ok (.bipush (-101), 2) := by decide +kernel
theorem dX6_near_10 : decode cX6_near 10 = .ok (.ireturn, 1) := by decide +kernel
theorem dX6_near_11 : decode cX6_near 11 = .ok (.aload_n 0, 1) := by decide +kernel
theorem dX6_near_12 : decode cX6_near 12 = .ok (.getfield 51, 3) := by decide +kernel
theorem dX6_near_15 : decode cX6_near 15 = .ok (.aload_n 0, 1) := by decide +kernel
theorem dX6_near_16 : decode cX6_near 16 = .ok (.getfield 26, 3) := by decide +kernel
theorem dX6_near_19 : decode cX6_near 19 = .ok (.getfield 90, 3) := by decide +kernel
theorem dX6_near_22 : decode cX6_near 22 = .ok (.invokevirtual 166, 3) := by decide +kernel
theorem dX6_near_25 : decode cX6_near 25 = .ok (.aload_n 0, 1) := by decide +kernel
theorem dX6_near_26 : decode cX6_near 26 = .ok (.getfield 51, 3) := by decide +kernel
theorem dX6_near_29 : decode cX6_near 29 = .ok (.iload_n 1, 1) := by decide +kernel
theorem dX6_near_30 : decode cX6_near 30 = .ok (.invokevirtual 169, 3) := by decide +kernel
theorem dX6_near_33 : decode cX6_near 33 = .ok (.ireturn, 1) := by decide +kernel
theorem dX6_far_0 : decode cX6_far 0 = .ok (.iload_n 1, 1) := by decide +kernel
theorem dX6_far_1 : decode cX6_far 1 = .ok (.ifCond .lt 8, 3) := by decide +kernel
theorem dX6_far_4 : decode cX6_far 4 = .ok (.iload_n 1, 1) := by decide +kernel
theorem dX6_far_5 : decode cX6_far 5 = .ok (.iconst 3, 1) := by decide +kernel
theorem dX6_far_6 : decode cX6_far 6 = .ok (.if_icmp .le 6, 3) := by decide +kernel
theorem dX6_far_9 : decode cX6_far 9 = .ok (.bipush (-102), 2) := by decide +kernel
theorem dX6_far_11 : decode cX6_far 11 = .ok (.ireturn, 1) := by decide +kernel
theorem dX6_far_12 : decode cX6_far 12 = .ok (.aload_n 0, 1) := by decide +kernel
theorem dX6_far_13 : decode cX6_far 13 = .ok (.invokevirtual 146, 3) := by decide +kernel
theorem dX6_far_16 : decode cX6_far 16 = .ok (.ifCond .eq 6, 3) := by decide +kernel
theorem dX6_far_19 : decode cX6_far 19 = .ok (.bipush (-103), 2) := by decide +kernel
theorem dX6_far_21 : decode cX6_far 21 = .ok (.ireturn, 1) := by decide +kernel
theorem dX6_far_22 : decode cX6_far 22 = .ok (.aload_n 0, 1) := by decide +kernel
theorem dX6_far_23 : decode cX6_far 23 = .ok (.getfield 51, 3) := by decide +kernel
theorem dX6_far_26 : decode cX6_far 26 = .ok (.aload_n 0, 1) := by decide +kernel
theorem dX6_far_27 : decode cX6_far 27 = .ok (.getfield 26, 3) := by decide +kernel
theorem dX6_far_30 : decode cX6_far 30 = .ok (.getfield 90, 3) := by decide +kernel
theorem dX6_far_33 : decode cX6_far 33 = .ok (.invokevirtual 166, 3) := by decide +kernel
theorem dX6_far_36 : decode cX6_far 36 = .ok (.iload_n 1, 1) := by decide +kernel
theorem dX6_far_37 : decode cX6_far 37 = .ok (.iconst 2, 1) := by decide +kernel
theorem dX6_far_38 : decode cX6_far 38 = .ok (.if_icmp .ge 10, 3) := by decide +kernel
theorem dX6_far_41 : decode cX6_far 41 = .ok (.aload_n 0, 1) := by decide +kernel
theorem dX6_far_42 : decode cX6_far 42 = .ok (.invokevirtual 172, 3) := by decide +kernel
theorem dX6_far_45 : decode cX6_far 45 = .ok (.goto 7, 3) := by decide +kernel
theorem dX6_far_48 : decode cX6_far 48 = .ok (.aload_n 0, 1) := by decide +kernel
theorem dX6_far_49 : decode cX6_far 49 = .ok (.invokevirtual 175, 3) := by decide +kernel
theorem dX6_far_52 : decode cX6_far 52 = .ok (.istore_n 2, 1) := by decide +kernel
theorem dX6_far_53 : decode cX6_far 53 = .ok (.iload_n 1, 1) := by decide +kernel
theorem dX6_far_54 : decode cX6_far 54 = .ok (.iconst 2, 1) := by decide +kernel
theorem dX6_far_55 : decode cX6_far 55 = .ok (.irem, 1) := by decide +kernel
theorem dX6_far_56 : decode cX6_far 56 = .ok (.iconst 1, 1) := by decide +kernel
theorem dX6_far_57 : decode cX6_far 57 = .ok (.if_icmp .ne 7, 3) := by decide +kernel
theorem dX6_far_60 : decode cX6_far 60 = .ok (.iload_n 2, 1) := by decide +kernel
theorem dX6_far_61 : decode cX6_far 61 = .ok (.goto 11, 3) := by decide +kernel
theorem dX6_far_64 : decode cX6_far 64 = .ok (.aload_n 0, 1) := by decide +kernel
theorem dX6_far_65 : decode cX6_far 65 = .ok (.getfield 51, 3) := by decide +kernel
theorem dX6_far_68 : decode cX6_far 68 = .ok (.iload_n 2, 1) := by decide +kernel
theorem dX6_far_69 : decode cX6_far 69 = .ok (.invokevirtual 169, 3) := by decide +kernel
theorem dX6_far_72 : decode cX6_far 72 = .ok (.ireturn, 1) := by decide +kernel
theorem dX6_trim_0 : decode cX6_trim 0 = .ok (.iload_n 1, 1) := by decide +kernel
theorem dX6_trim_1 : decode cX6_trim 1 = .ok (.ifCond .lt 8, 3) := by decide +kernel
theorem dX6_trim_4 : decode cX6_trim 4 = .ok (.iload_n 1, 1) := by decide +kernel
theorem dX6_trim_5 : decode cX6_trim 5 = .ok (.iconst 1, 1) := by decide +kernel
theorem dX6_trim_6 : decode cX6_trim 6 = .ok (.if_icmp .le 6, 3) := by decide +kernel
theorem dX6_trim_9 : decode cX6_trim 9 = .ok (.bipush (-102), 2) := by decide +kernel
theorem dX6_trim_11 : decode cX6_trim 11 = .ok (.ireturn, 1) := by decide +kernel
theorem dX6_trim_12 : decode cX6_trim 12 = .ok (.aload_n 0, 1) := by decide +kernel
theorem dX6_trim_13 : decode cX6_trim 13 = .ok (.invokevirtual 146, 3) := by decide +kernel
theorem dX6_trim_16 : decode cX6_trim 16 = .ok (.ifCond .eq 6, 3) := by decide +kernel
theorem dX6_trim_19 : decode cX6_trim 19 = .ok (.bipush (-103), 2) := by decide +kernel
theorem dX6_trim_21 : decode cX6_trim 21 = .ok (.ireturn, 1) := by decide +kernel
theorem dX6_trim_22 : decode cX6_trim 22 = .ok (.aload_n 0, 1) := by decide +kernel
theorem dX6_trim_23 : decode cX6_trim 23 = .ok (.getfield 42, 3) := by decide +kernel
theorem dX6_trim_26 : decode cX6_trim 26 = .ok (.invokevirtual 178, 3) := by decide +kernel
theorem dX6_trim_29 : decode cX6_trim 29 = .ok (.istore_n 2, 1) := by decide +kernel
theorem dX6_trim_30 : decode cX6_trim 30 = .ok (.iload_n 1, 1) := by decide +kernel
theorem dX6_trim_31 : decode cX6_trim 31 = .ok (.ifCond .eq 8, 3) := by decide +kernel
theorem dX6_trim_34 : decode cX6_trim 34 = .ok (.iload_n 2, 1) := by decide +kernel
theorem dX6_trim_35 : decode cX6_trim 35 = .ok (.iconst (-1), 1) := by decide +kernel
theorem dX6_trim_36 : decode cX6_trim 36 = .ok (.if_icmp .ne 7, 3) := by decide +kernel
theorem dX6_trim_39 : decode cX6_trim 39 = .ok (.iload_n 2, 1) := by decide +kernel
theorem dX6_trim_40 : decode cX6_trim 40 = .ok (.goto 11, 3) := by decide +kernel
theorem dX6_trim_43 : decode cX6_trim 43 = .ok (.aload_n 0, 1) := by decide +kernel
theorem dX6_trim_44 : decode cX6_trim 44 = .ok (.getfield 42, 3) := by decide +kernel
theorem dX6_trim_47 : decode cX6_trim 47 = .ok (.iload_n 2, 1) := by decide +kernel
theorem dX6_trim_48 : decode cX6_trim 48 = .ok (.invokevirtual 163, 3) := by decide +kernel
theorem dX6_trim_51 : decode cX6_trim 51 = .ok (.ireturn, 1) := by decide +kernel
theorem dX6_odds_0 : decode cX6_odds 0 = .ok (.aload_n 0, 1) := by decide +kernel
theorem dX6_odds_1 : decode cX6_odds 1 = .ok (.iload_n 1, 1) := by decide +kernel
theorem dX6_odds_2 : decode cX6_odds 2 = .ok (.invokevirtual 105, 3) := by decide +kernel
theorem dX6_odds_5 : decode cX6_odds 5 = .ok (.ifCond .eq 16, 3) := by decide +kernel
theorem dX6_odds_8 : decode cX6_odds 8 = .ok (.aload_n 0, 1) := by decide +kernel
theorem dX6_odds_9 : decode cX6_odds 9 = .ok (.iload_n 2, 1) := by decide +kernel
theorem dX6_odds_10 : decode cX6_odds 10 = .ok (.invokevirtual 105, 3) := by decide +kernel
theorem dX6_odds_13 : decode cX6_odds 13 = .ok (.ifCond .eq 8, 3) := by decide +kernel
theorem dX6_odds_16 : decode cX6_odds 16 = .ok (.iload_n 1, 1) := by decide +kernel
theorem dX6_odds_17 : decode cX6_odds 17 = .ok (.iload_n 2, 1) := by decide +kernel
theorem dX6_odds_18 : decode cX6_odds 18 = .ok (.if_icmp .ne 6, 3) := by decide +kernel
theorem dX6_odds_21 : decode cX6_odds 21 = .ok (.bipush (-101), 2) := by decide +kernel
theorem dX6_odds_23 : decode cX6_odds 23 = .ok (.ireturn, 1) := by decide +kernel
theorem dX6_odds_24 : decode cX6_odds 24 = .ok (.iload_n 3, 1) := by decide +kernel
theorem dX6_odds_25 : decode cX6_odds 25 = .ok (.ifCond .lt 8, 3) := by decide +kernel
theorem dX6_odds_28 : decode cX6_odds 28 = .ok (.iload_n 3, 1) := by decide +kernel
theorem dX6_odds_29 : decode cX6_odds 29 = .ok (.iconst 1, 1) := by decide +kernel
theorem dX6_odds_30 : decode cX6_odds 30 = .ok (.if_icmp .le 6, 3) := by decide +kernel
theorem dX6_odds_33 : decode cX6_odds 33 = .ok (.bipush (-102), 2) := by decide +kernel
theorem dX6_odds_35 : decode cX6_odds 35 = .ok (.ireturn, 1) := by decide +kernel
theorem dX6_odds_36 : decode cX6_odds 36 = .ok (.aload_n 0, 1) := by decide +kernel
theorem dX6_odds_37 : decode cX6_odds 37 = .ok (.getfield 42, 3) := by decide +kernel
theorem dX6_odds_40 : decode cX6_odds 40 = .ok (.getfield 157, 3) := by decide +kernel
theorem dX6_odds_43 : decode cX6_odds 43 = .ok (.ifCond .ne 5, 3) := by decide +kernel
theorem dX6_odds_46 : decode cX6_odds 46 = .ok (.iload_n 3, 1) := by decide +kernel
theorem dX6_odds_47 : decode cX6_odds 47 = .ok (.ireturn, 1) := by decide +kernel
theorem dX6_odds_48 : decode cX6_odds 48 = .ok (.aload_n 0, 1) := by decide +kernel
theorem dX6_odds_49 : decode cX6_odds 49 = .ok (.getfield 42, 3) := by decide +kernel
theorem dX6_odds_52 : decode cX6_odds 52 = .ok (.iload_n 1, 1) := by decide +kernel
theorem dX6_odds_53 : decode cX6_odds 53 = .ok (.iload_n 2, 1) := by decide +kernel
theorem dX6_odds_54 : decode cX6_odds 54 = .ok (.invokevirtual 181, 3) := by decide +kernel
theorem dX6_odds_57 : decode cX6_odds 57 = .ok (.istore 4, 2) := by decide +kernel
theorem dX6_odds_59 : decode cX6_odds 59 = .ok (.aload_n 0, 1) := by decide +kernel
theorem dX6_odds_60 : decode cX6_odds 60 = .ok (.getfield 42, 3) := by decide +kernel
theorem dX6_odds_63 : decode cX6_odds 63 = .ok (.getfield 157, 3) := by decide +kernel
theorem dX6_odds_66 : decode cX6_odds 66 = .ok (.iload 4, 2) := by decide +kernel
theorem dX6_odds_68 : decode cX6_odds 68 = .ok (.invokestatic 184, 3) := by decide +kernel
theorem dX6_odds_71 : decode cX6_odds 71 = .ok (.istore 5, 2) := by decide +kernel
theorem dX6_odds_73 : decode cX6_odds 73 = .ok (.iload_n 3, 1) := by decide +kernel
theorem dX6_odds_74 : decode cX6_odds 74 = .ok (.ifCond .ne 8, 3) := by decide +kernel
theorem dX6_odds_77 : decode cX6_odds 77 = .ok (.iload 4, 2) := by decide +kernel
theorem dX6_odds_79 : decode cX6_odds 79 = .ok (.goto 10, 3) := by decide +kernel
theorem dX6_odds_82 : decode cX6_odds 82 = .ok (.aload_n 0, 1) := by decide +kernel
theorem dX6_odds_83 : decode cX6_odds 83 = .ok (.getfield 42, 3) := by decide +kernel
theorem dX6_odds_86 : decode cX6_odds 86 = .ok (.getfield 157, 3) := by decide +kernel
theorem dX6_odds_89 : decode cX6_odds 89 = .ok (.iload 5, 2) := by decide +kernel
theorem dX6_odds_91 : decode cX6_odds 91 = .ok (.idiv, 1) := by decide +kernel
theorem dX6_odds_92 : decode cX6_odds 92 = .ok (.ireturn, 1) := by decide +kernel
theorem dX6_see_0 : decode cX6_see 0 = .ok (.aload_n 0, 1) := by decide +kernel
theorem dX6_see_1 : decode cX6_see 1 = .ok (.iload_n 1, 1) := by decide +kernel
theorem dX6_see_2 : decode cX6_see 2 = .ok (.invokevirtual 105, 3) := by decide +kernel
theorem dX6_see_5 : decode cX6_see 5 = .ok (.ifCond .ne 6, 3) := by decide +kernel
theorem dX6_see_8 : decode cX6_see 8 = .ok (.bipush (-101), 2) := by decide +kernel
theorem dX6_see_10 : decode cX6_see 10 = .ok (.ireturn, 1) := by decide +kernel
theorem dX6_see_11 : decode cX6_see 11 = .ok (.iload_n 2, 1) := by decide +kernel
theorem dX6_see_12 : decode cX6_see 12 = .ok (.iconst 1, 1) := by decide +kernel
theorem dX6_see_13 : decode cX6_see 13 = .ok (.if_icmp .lt 14, 3) := by decide +kernel
theorem dX6_see_16 : decode cX6_see 16 = .ok (.iload_n 2, 1) := by decide +kernel
theorem dX6_see_17 : decode cX6_see 17 = .ok (.aload_n 0, 1) := by decide +kernel
theorem dX6_see_18 : decode cX6_see 18 = .ok (.getfield 19, 3) := by decide +kernel
theorem dX6_see_21 : decode cX6_see 21 = .ok (.getfield 102, 3) := by decide +kernel
theorem dX6_see_24 : decode cX6_see 24 = .ok (.if_icmp .le 6, 3) := by decide +kernel
theorem dX6_see_27 : decode cX6_see 27 = .ok (.bipush (-102), 2) := by decide +kernel
theorem dX6_see_29 : decode cX6_see 29 = .ok (.ireturn, 1) := by decide +kernel
theorem dX6_see_30 : decode cX6_see 30 = .ok (.aload_n 0, 1) := by decide +kernel
theorem dX6_see_31 : decode cX6_see 31 = .ok (.getfield 26, 3) := by decide +kernel
theorem dX6_see_34 : decode cX6_see 34 = .ok (.getfield 96, 3) := by decide +kernel
theorem dX6_see_37 : decode cX6_see 37 = .ok (.bipush 6, 2) := by decide +kernel
theorem dX6_see_39 : decode cX6_see 39 = .ok (.if_icmp .lt 6, 3) := by decide +kernel
theorem dX6_see_42 : decode cX6_see 42 = .ok (.bipush (-104), 2) := by decide +kernel
theorem dX6_see_44 : decode cX6_see 44 = .ok (.ireturn, 1) := by decide +kernel
theorem dX6_see_45 : decode cX6_see 45 = .ok (.aload_n 0, 1) := by decide +kernel
theorem dX6_see_46 : decode cX6_see 46 = .ok (.getfield 26, 3) := by decide +kernel
theorem dX6_see_49 : decode cX6_see 49 = .ok (.iload_n 1, 1) := by decide +kernel
theorem dX6_see_50 : decode cX6_see 50 = .ok (.iload_n 2, 1) := by decide +kernel
theorem dX6_see_51 : decode cX6_see 51 = .ok (.iload_n 3, 1) := by decide +kernel
theorem dX6_see_52 : decode cX6_see 52 = .ok (.invokevirtual 187, 3) := by decide +kernel
theorem dX6_see_55 : decode cX6_see 55 = .ok (.aload_n 0, 1) := by decide +kernel
theorem dX6_see_56 : decode cX6_see 56 = .ok (.getfield 26, 3) := by decide +kernel
theorem dX6_see_59 : decode cX6_see 59 = .ok (.getfield 96, 3) := by decide +kernel
theorem dX6_see_62 : decode cX6_see 62 = .ok (.ireturn, 1) := by decide +kernel
theorem dX6_forget_0 : decode cX6_forget 0 = .ok (.aload_n 0, 1) := by decide +kernel
theorem dX6_forget_1 : decode cX6_forget 1 = .ok (.getfield 26, 3) := by decide +kernel
theorem dX6_forget_4 : decode cX6_forget 4 = .ok (.getfield 96, 3) := by decide +kernel
theorem dX6_forget_7 : decode cX6_forget 7 = .ok (.istore_n 1, 1) := by decide +kernel
theorem dX6_forget_8 : decode cX6_forget 8 = .ok (.aload_n 0, 1) := by decide +kernel
theorem dX6_forget_9 : decode cX6_forget 9 = .ok (.getfield 26, 3) := by decide +kernel
theorem dX6_forget_12 : decode cX6_forget 12 = .ok (.iconst 0, 1) := by decide +kernel
theorem dX6_forget_13 : decode cX6_forget 13 = .ok (.putfield 96, 3) := by decide +kernel
theorem dX6_forget_16 : decode cX6_forget 16 = .ok (.iload_n 1, 1) := by decide +kernel
theorem dX6_forget_17 : decode cX6_forget 17 = .ok (.ireturn, 1) := by decide +kernel
theorem dX6_could_0 : decode cX6_could 0 = .ok (.aload_n 0, 1) := by decide +kernel
theorem dX6_could_1 : decode cX6_could 1 = .ok (.invokevirtual 146, 3) := by decide +kernel
theorem dX6_could_4 : decode cX6_could 4 = .ok (.ifCond .eq 6, 3) := by decide +kernel
theorem dX6_could_7 : decode cX6_could 7 = .ok (.bipush (-103), 2) := by decide +kernel
theorem dX6_could_9 : decode cX6_could 9 = .ok (.ireturn, 1) := by decide +kernel
theorem dX6_could_10 : decode cX6_could 10 = .ok (.aload_n 0, 1) := by decide +kernel
theorem dX6_could_11 : decode cX6_could 11 = .ok (.getfield 60, 3) := by decide +kernel
theorem dX6_could_14 : decode cX6_could 14 = .ok (.invokevirtual 191, 3) := by decide +kernel
theorem dX6_could_17 : decode cX6_could 17 = .ok (.ireturn, 1) := by decide +kernel
theorem dX6_trial_0 : decode cX6_trial 0 = .ok (.aload_n 0, 1) := by decide +kernel
theorem dX6_trial_1 : decode cX6_trial 1 = .ok (.invokevirtual 146, 3) := by decide +kernel
theorem dX6_trial_4 : decode cX6_trial 4 = .ok (.ifCond .eq 6, 3) := by decide +kernel
theorem dX6_trial_7 : decode cX6_trial 7 = .ok (.bipush (-103), 2) := by decide +kernel
theorem dX6_trial_9 : decode cX6_trial 9 = .ok (.ireturn, 1) := by decide +kernel
theorem dX6_trial_10 : decode cX6_trial 10 = .ok (.aload_n 0, 1) := by decide +kernel
theorem dX6_trial_11 : decode cX6_trial 11 = .ok (.getfield 60, 3) := by decide +kernel
theorem dX6_trial_14 : decode cX6_trial 14 = .ok (.invokevirtual 194, 3) := by decide +kernel
theorem dX6_trial_17 : decode cX6_trial 17 = .ok (.ireturn, 1) := by decide +kernel
theorem dX6_shuffles_0 : decode cX6_shuffles 0 = .ok (.iload_n 1, 1) := by decide +kernel
theorem dX6_shuffles_1 : decode cX6_shuffles 1 = .ok (.iconst 1, 1) := by decide +kernel
theorem dX6_shuffles_2 : decode cX6_shuffles 2 = .ok (.if_icmp .lt 22, 3) := by decide +kernel
theorem dX6_shuffles_5 : decode cX6_shuffles 5 = .ok (.iload_n 1, 1) := by decide +kernel
theorem dX6_shuffles_6 : decode cX6_shuffles 6 = .ok (.bipush 99, 2) := by decide +kernel
theorem dX6_shuffles_8 : decode cX6_shuffles 8 = .ok (.if_icmp .gt 16, 3) := by decide +kernel
theorem dX6_shuffles_11 : decode cX6_shuffles 11 = .ok (.iload_n 2, 1) := by decide +kernel
theorem dX6_shuffles_12 : decode cX6_shuffles 12 = .ok (.ifCond .lt 12, 3) := by decide +kernel
theorem dX6_shuffles_15 : decode cX6_shuffles 15 = .ok (.iload_n 3, 1) := by decide +kernel
theorem dX6_shuffles_16 : decode cX6_shuffles 16 = .ok (.ifCond .lt 8, 3) := by decide +kernel
theorem dX6_shuffles_19 : decode cX6_shuffles 19 = .ok (.iload_n 3, 1) := by decide +kernel
theorem dX6_shuffles_20 : decode cX6_shuffles 20 = .ok (.iconst 2, 1) := by decide +kernel
theorem dX6_shuffles_21 : decode cX6_shuffles 21 = .ok (.if_icmp .le 6, 3) := by decide +kernel
theorem dX6_shuffles_24 : decode cX6_shuffles 24 = .ok (.bipush (-102), 2) := by decide +kernel
theorem dX6_shuffles_26 : decode cX6_shuffles 26 = .ok (.ireturn, 1) := by decide +kernel
theorem dX6_shuffles_27 : decode cX6_shuffles 27 = .ok (.aload_n 0, 1) := by decide +kernel
theorem dX6_shuffles_28 : decode cX6_shuffles 28 = .ok (.invokevirtual 146, 3) := by decide +kernel
theorem dX6_shuffles_31 : decode cX6_shuffles 31 = .ok (.ifCond .eq 6, 3) := by decide +kernel
theorem dX6_shuffles_34 : decode cX6_shuffles 34 = .ok (.bipush (-103), 2) := by decide +kernel
theorem dX6_shuffles_36 : decode cX6_shuffles 36 = .ok (.ireturn, 1) := by decide +kernel
theorem dX6_shuffles_37 : decode cX6_shuffles 37 = .ok (.aload_n 0, 1) := by decide +kernel
theorem dX6_shuffles_38 : decode cX6_shuffles 38 = .ok (.getfield 26, 3) := by decide +kernel
theorem dX6_shuffles_41 : decode cX6_shuffles 41 = .ok (.getfield 90, 3) := by decide +kernel
theorem dX6_shuffles_44 : decode cX6_shuffles 44 = .ok (.istore 4, 2) := by decide +kernel
theorem dX6_shuffles_46 : decode cX6_shuffles 46 = .ok (.iconst 0, 1) := by decide +kernel
theorem dX6_shuffles_47 : decode cX6_shuffles 47 = .ok (.istore 5, 2) := by decide +kernel
theorem dX6_shuffles_49 : decode cX6_shuffles 49 = .ok (.iload_n 2, 1) := by decide +kernel
theorem dX6_shuffles_50 : decode cX6_shuffles 50 = .ok (.istore 6, 2) := by decide +kernel
theorem dX6_shuffles_52 : decode cX6_shuffles 52 = .ok (.iconst 0, 1) := by decide +kernel
theorem dX6_shuffles_53 : decode cX6_shuffles 53 = .ok (.istore 7, 2) := by decide +kernel
theorem dX6_shuffles_55 : decode cX6_shuffles 55 = .ok (.iload 7, 2) := by decide +kernel
theorem dX6_shuffles_57 : decode cX6_shuffles 57 = .ok (.iload_n 1, 1) := by decide +kernel
theorem dX6_shuffles_58 : decode cX6_shuffles 58 = .ok (.if_icmp .ge 82, 3) := by decide +kernel
theorem dX6_shuffles_61 : decode cX6_shuffles 61 = .ok (.iload 6, 2) := by decide +kernel
theorem dX6_shuffles_63 : decode cX6_shuffles 63 = .ok (.invokestatic 197, 3) := by decide +kernel
theorem dX6_shuffles_66 : decode cX6_shuffles 66 = .ok (.istore 8, 2) := by decide +kernel
theorem dX6_shuffles_68 : decode cX6_shuffles 68 = .ok (.iload 8, 2) := by decide +kernel
theorem dX6_shuffles_70 : decode cX6_shuffles 70 = .ok (.invokestatic 197, 3) := by decide +kernel
theorem dX6_shuffles_73 : decode cX6_shuffles 73 = .ok (.istore 9, 2) := by decide +kernel
theorem dX6_shuffles_75 : decode cX6_shuffles 75 = .ok (.aload_n 0, 1) := by decide +kernel
theorem dX6_shuffles_76 : decode cX6_shuffles 76 = .ok (.getfield 19, 3) := by decide +kernel
theorem dX6_shuffles_79 : decode cX6_shuffles 79 = .ok (.iload 4, 2) := by decide +kernel
theorem dX6_shuffles_81 : decode cX6_shuffles 81 = .ok (.iload 8, 2) := by decide +kernel
theorem dX6_shuffles_83 : decode cX6_shuffles 83 = .ok (.aload_n 0, 1) := by decide +kernel
theorem dX6_shuffles_84 : decode cX6_shuffles 84 = .ok (.getfield 19, 3) := by decide +kernel
theorem dX6_shuffles_87 : decode cX6_shuffles 87 = .ok (.getfield 102, 3) := by decide +kernel
theorem dX6_shuffles_90 : decode cX6_shuffles 90 = .ok (.invokestatic 200, 3) := by decide +kernel
theorem dX6_shuffles_93 : decode cX6_shuffles 93 = .ok (.iload 9, 2) := by decide +kernel
theorem dX6_shuffles_95 : decode cX6_shuffles 95 = .ok (.aload_n 0, 1) := by decide +kernel
theorem dX6_shuffles_96 : decode cX6_shuffles 96 = .ok (.getfield 19, 3) := by decide +kernel
theorem dX6_shuffles_99 : decode cX6_shuffles 99 = .ok (.getfield 102, 3) := by decide +kernel
theorem dX6_shuffles_102 : decode cX6_shuffles 102 = .ok (.invokestatic 200, 3) := by decide +kernel
theorem dX6_shuffles_105 : decode cX6_shuffles 105 = .ok (.invokevirtual 139, 3) := by decide +kernel
theorem dX6_shuffles_108 : decode cX6_shuffles 108 = .ok (.istore 10, 2) := by decide +kernel
theorem dX6_shuffles_110 : decode cX6_shuffles 110 = .ok (.iload 10, 2) := by decide +kernel
theorem dX6_shuffles_112 : decode cX6_shuffles 112 = .ok (.iconst (-1), 1) := by decide +kernel
theorem dX6_shuffles_113 : decode cX6_shuffles 113 = .ok (.if_icmp .eq 17, 3) := by decide +kernel
theorem dX6_shuffles_116 : decode cX6_shuffles 116 = .ok (.iload 10, 2) := by decide +kernel
theorem dX6_shuffles_118 : decode cX6_shuffles 118 = .ok (.iload 4, 2) := by decide +kernel
theorem dX6_shuffles_120 : decode cX6_shuffles 120 = .ok (.if_icmp .eq 10, 3) := by decide +kernel
theorem dX6_shuffles_123 : decode cX6_shuffles 123 = .ok (.iload 10, 2) := by decide +kernel
theorem dX6_shuffles_125 : decode cX6_shuffles 125 = .ok (.istore 4, 2) := by decide +kernel
theorem dX6_shuffles_127 : decode cX6_shuffles 127 = .ok (.iinc 5 1, 3) := by decide +kernel
theorem dX6_shuffles_130 : decode cX6_shuffles 130 = .ok (.iload 9, 2) := by decide +kernel
theorem dX6_shuffles_132 : decode cX6_shuffles 132 = .ok (.istore 6, 2) := by decide +kernel
theorem dX6_shuffles_134 : decode cX6_shuffles 134 = .ok (.iinc 7 1, 3) := by decide +kernel
theorem dX6_shuffles_137 : decode cX6_shuffles 137 = .ok (.goto (-82), 3) := by decide +kernel
theorem dX6_shuffles_140 : decode cX6_shuffles 140 = .ok (.iload_n 3, 1) := by decide +kernel
theorem dX6_shuffles_141 : decode cX6_shuffles 141 = .ok (.ifCond .ne 6, 3) := by decide +kernel
theorem dX6_shuffles_144 : decode cX6_shuffles 144 = .ok (.iload 5, 2) := by decide +kernel
theorem dX6_shuffles_146 : decode cX6_shuffles 146 = .ok (.ireturn, 1) := by decide +kernel
theorem dX6_shuffles_147 : decode cX6_shuffles 147 = .ok (.iload_n 3, 1) := by decide +kernel
theorem dX6_shuffles_148 : decode cX6_shuffles 148 = .ok (.iconst 1, 1) := by decide +kernel
theorem dX6_shuffles_149 : decode cX6_shuffles 149 = .ok (.if_icmp .ne 8, 3) := by decide +kernel
theorem dX6_shuffles_152 : decode cX6_shuffles 152 = .ok (.iload 4, 2) := by decide +kernel
theorem dX6_shuffles_154 : decode cX6_shuffles 154 = .ok (.goto 5, 3) := by decide +kernel
theorem dX6_shuffles_157 : decode cX6_shuffles 157 = .ok (.iload 6, 2) := by decide +kernel
theorem dX6_shuffles_159 : decode cX6_shuffles 159 = .ok (.ireturn, 1) := by decide +kernel
theorem dX6_image_0 : decode cX6_image 0 = .ok (.aload_n 0, 1) := by decide +kernel
theorem dX6_image_1 : decode cX6_image 1 = .ok (.invokevirtual 146, 3) := by decide +kernel
theorem dX6_image_4 : decode cX6_image 4 = .ok (.ifCond .eq 6, 3) := by decide +kernel
theorem dX6_image_7 : decode cX6_image 7 = .ok (.bipush (-103), 2) := by decide +kernel
theorem dX6_image_9 : decode cX6_image 9 = .ok (.ireturn, 1) := by decide +kernel
theorem dX6_image_10 : decode cX6_image 10 = .ok (.aload_n 0, 1) := by decide +kernel
theorem dX6_image_11 : decode cX6_image 11 = .ok (.getfield 30, 3) := by decide +kernel
theorem dX6_image_14 : decode cX6_image 14 = .ok (.aload_n 0, 1) := by decide +kernel
theorem dX6_image_15 : decode cX6_image 15 = .ok (.getfield 26, 3) := by decide +kernel
theorem dX6_image_18 : decode cX6_image 18 = .ok (.invokevirtual 203, 3) := by decide +kernel
theorem dX6_image_21 : decode cX6_image 21 = .ok (.aload_n 0, 1) := by decide +kernel
theorem dX6_image_22 : decode cX6_image 22 = .ok (.iconst 1, 1) := by decide +kernel
theorem dX6_image_23 : decode cX6_image 23 = .ok (.putfield 64, 3) := by decide +kernel
theorem dX6_image_26 : decode cX6_image 26 = .ok (.aload_n 0, 1) := by decide +kernel
theorem dX6_image_27 : decode cX6_image 27 = .ok (.getfield 30, 3) := by decide +kernel
theorem dX6_image_30 : decode cX6_image 30 = .ok (.getfield 93, 3) := by decide +kernel
theorem dX6_image_33 : decode cX6_image 33 = .ok (.ireturn, 1) := by decide +kernel
theorem dX6_restore_0 : decode cX6_restore 0 = .ok (.aload_n 0, 1) := by decide +kernel
theorem dX6_restore_1 : decode cX6_restore 1 = .ok (.getfield 64, 3) := by decide +kernel
theorem dX6_restore_4 : decode cX6_restore 4 = .ok (.ifCond .ne 6, 3) := by decide +kernel
theorem dX6_restore_7 : decode cX6_restore 7 = .ok (.bipush (-103), 2) := by decide +kernel
theorem dX6_restore_9 : decode cX6_restore 9 = .ok (.ireturn, 1) := by decide +kernel
theorem dX6_restore_10 : decode cX6_restore 10 = .ok (.aload_n 0, 1) := by decide +kernel
theorem dX6_restore_11 : decode cX6_restore 11 = .ok (.getfield 26, 3) := by decide +kernel
theorem dX6_restore_14 : decode cX6_restore 14 = .ok (.aload_n 0, 1) := by decide +kernel
theorem dX6_restore_15 : decode cX6_restore 15 = .ok (.getfield 30, 3) := by decide +kernel
theorem dX6_restore_18 : decode cX6_restore 18 = .ok (.invokevirtual 203, 3) := by decide +kernel
theorem dX6_restore_21 : decode cX6_restore 21 = .ok (.aload_n 0, 1) := by decide +kernel
theorem dX6_restore_22 : decode cX6_restore 22 = .ok (.getfield 42, 3) := by decide +kernel
theorem dX6_restore_25 : decode cX6_restore 25 = .ok (.invokevirtual 99, 3) := by decide +kernel
theorem dX6_restore_28 : decode cX6_restore 28 = .ok (.aload_n 0, 1) := by decide +kernel
theorem dX6_restore_29 : decode cX6_restore 29 = .ok (.getfield 26, 3) := by decide +kernel
theorem dX6_restore_32 : decode cX6_restore 32 = .ok (.getfield 93, 3) := by decide +kernel
theorem dX6_restore_35 : decode cX6_restore 35 = .ok (.ireturn, 1) := by decide +kernel
theorem dX6_count_0 : decode cX6_count 0 = .ok (.iload_n 1, 1) := by decide +kernel
theorem dX6_count_1 : decode cX6_count 1 = .ok (.tableswitch 127 0 9 #[55, 63, 68, 83, 88, 93, 98, 106, 114, 122], 55) := by decide +kernel
theorem dX6_count_56 : decode cX6_count 56 = .ok (.aload_n 0, 1) := by decide +kernel
theorem dX6_count_57 : decode cX6_count 57 = .ok (.getfield 19, 3) := by decide +kernel
theorem dX6_count_60 : decode cX6_count 60 = .ok (.getfield 102, 3) := by decide +kernel
theorem dX6_count_63 : decode cX6_count 63 = .ok (.ireturn, 1) := by decide +kernel
theorem dX6_count_64 : decode cX6_count 64 = .ok (.aload_n 0, 1) := by decide +kernel
theorem dX6_count_65 : decode cX6_count 65 = .ok (.invokevirtual 207, 3) := by decide +kernel
theorem dX6_count_68 : decode cX6_count 68 = .ok (.ireturn, 1) := by decide +kernel
theorem dX6_count_69 : decode cX6_count 69 = .ok (.aload_n 0, 1) := by decide +kernel
theorem dX6_count_70 : decode cX6_count 70 = .ok (.getfield 42, 3) := by decide +kernel
theorem dX6_count_73 : decode cX6_count 73 = .ok (.aload_n 0, 1) := by decide +kernel
theorem dX6_count_74 : decode cX6_count 74 = .ok (.getfield 26, 3) := by decide +kernel
theorem dX6_count_77 : decode cX6_count 77 = .ok (.getfield 90, 3) := by decide +kernel
theorem dX6_count_80 : decode cX6_count 80 = .ok (.invokevirtual 163, 3) := by decide +kernel
theorem dX6_count_83 : decode cX6_count 83 = .ok (.ireturn, 1) := by decide +kernel
theorem dX6_count_84 : decode cX6_count 84 = .ok (.aload_n 0, 1) := by decide +kernel
theorem dX6_count_85 : decode cX6_count 85 = .ok (.invokevirtual 143, 3) := by decide +kernel
theorem dX6_count_88 : decode cX6_count 88 = .ok (.ireturn, 1) := by decide +kernel
theorem dX6_count_89 : decode cX6_count 89 = .ok (.aload_n 0, 1) := by decide +kernel
theorem dX6_count_90 : decode cX6_count 90 = .ok (.invokevirtual 210, 3) := by decide +kernel
theorem dX6_count_93 : decode cX6_count 93 = .ok (.ireturn, 1) := by decide +kernel
theorem dX6_count_94 : decode cX6_count 94 = .ok (.aload_n 0, 1) := by decide +kernel
theorem dX6_count_95 : decode cX6_count 95 = .ok (.invokevirtual 213, 3) := by decide +kernel
theorem dX6_count_98 : decode cX6_count 98 = .ok (.ireturn, 1) := by decide +kernel
theorem dX6_count_99 : decode cX6_count 99 = .ok (.aload_n 0, 1) := by decide +kernel
theorem dX6_count_100 : decode cX6_count 100 = .ok (.getfield 26, 3) := by decide +kernel
theorem dX6_count_103 : decode cX6_count 103 = .ok (.getfield 93, 3) := by decide +kernel
theorem dX6_count_106 : decode cX6_count 106 = .ok (.ireturn, 1) := by decide +kernel
theorem dX6_count_107 : decode cX6_count 107 = .ok (.aload_n 0, 1) := by decide +kernel
theorem dX6_count_108 : decode cX6_count 108 = .ok (.getfield 26, 3) := by decide +kernel
theorem dX6_count_111 : decode cX6_count 111 = .ok (.getfield 96, 3) := by decide +kernel
theorem dX6_count_114 : decode cX6_count 114 = .ok (.ireturn, 1) := by decide +kernel
theorem dX6_count_115 : decode cX6_count 115 = .ok (.aload_n 0, 1) := by decide +kernel
theorem dX6_count_116 : decode cX6_count 116 = .ok (.getfield 10, 3) := by decide +kernel
theorem dX6_count_119 : decode cX6_count 119 = .ok (.getfield 72, 3) := by decide +kernel
theorem dX6_count_122 : decode cX6_count 122 = .ok (.ireturn, 1) := by decide +kernel
theorem dX6_count_123 : decode cX6_count 123 = .ok (.aload_n 0, 1) := by decide +kernel
theorem dX6_count_124 : decode cX6_count 124 = .ok (.getfield 68, 3) := by decide +kernel
theorem dX6_count_127 : decode cX6_count 127 = .ok (.ireturn, 1) := by decide +kernel
theorem dX6_count_128 : decode cX6_count 128 = .ok (.bipush (-102), 2) := by decide +kernel
theorem dX6_count_130 : decode cX6_count 130 = .ok (.ireturn, 1) := by decide +kernel
theorem dX6_digest_0 : decode cX6_digest 0 = .ok (.ldc2_w 216, 3) := by decide +kernel
theorem dX6_digest_3 : decode cX6_digest 3 = .ok (.lstore_n 1, 1) := by decide +kernel
theorem dX6_digest_4 : decode cX6_digest 4 = .ok (.iconst 0, 1) := by decide +kernel
theorem dX6_digest_5 : decode cX6_digest 5 = .ok (.istore_n 3, 1) := by decide +kernel
theorem dX6_digest_6 : decode cX6_digest 6 = .ok (.iload_n 3, 1) := by decide +kernel
theorem dX6_digest_7 : decode cX6_digest 7 = .ok (.aload_n 0, 1) := by decide +kernel
theorem dX6_digest_8 : decode cX6_digest 8 = .ok (.getfield 19, 3) := by decide +kernel
theorem dX6_digest_11 : decode cX6_digest 11 = .ok (.getfield 102, 3) := by decide +kernel
theorem dX6_digest_14 : decode cX6_digest 14 = .ok (.if_icmp .ge 69, 3) := by decide +kernel
theorem dX6_digest_17 : decode cX6_digest 17 = .ok (.iconst 0, 1) := by decide +kernel
theorem dX6_digest_18 : decode cX6_digest 18 = .ok (.istore 4, 2) := by decide +kernel
theorem dX6_digest_20 : decode cX6_digest 20 = .ok (.iload 4, 2) := by decide +kernel
theorem dX6_digest_22 : decode cX6_digest 22 = .ok (.iconst 3, 1) := by decide +kernel
theorem dX6_digest_23 : decode cX6_digest 23 = .ok (.if_icmp .gt 24, 3) := by decide +kernel
theorem dX6_digest_26 : decode cX6_digest 26 = .ok (.ldc2_w 218, 3) := by decide +kernel
theorem dX6_digest_29 : decode cX6_digest 29 = .ok (.lload_n 1, 1) := by decide +kernel
theorem dX6_digest_30 : decode cX6_digest 30 = .ok (.lmul, 1) := by decide +kernel
theorem dX6_digest_31 : decode cX6_digest 31 = .ok (.aload_n 0, 1) := by decide +kernel
theorem dX6_digest_32 : decode cX6_digest 32 = .ok (.iload_n 3, 1) := by decide +kernel
theorem dX6_digest_33 : decode cX6_digest 33 = .ok (.iload 4, 2) := by decide +kernel
theorem dX6_digest_35 : decode cX6_digest 35 = .ok (.invokevirtual 220, 3) := by decide +kernel
theorem dX6_digest_38 : decode cX6_digest 38 = .ok (.i2l, 1) := by decide +kernel
theorem dX6_digest_39 : decode cX6_digest 39 = .ok (.ladd, 1) := by decide +kernel
theorem dX6_digest_40 : decode cX6_digest 40 = .ok (.lstore_n 1, 1) := by decide +kernel
theorem dX6_digest_41 : decode cX6_digest 41 = .ok (.iinc 4 1, 3) := by decide +kernel
theorem dX6_digest_44 : decode cX6_digest 44 = .ok (.goto (-24), 3) := by decide +kernel
theorem dX6_digest_47 : decode cX6_digest 47 = .ok (.iconst 0, 1) := by decide +kernel
theorem dX6_digest_48 : decode cX6_digest 48 = .ok (.istore 4, 2) := by decide +kernel
theorem dX6_digest_50 : decode cX6_digest 50 = .ok (.iload 4, 2) := by decide +kernel
theorem dX6_digest_52 : decode cX6_digest 52 = .ok (.iconst 1, 1) := by decide +kernel
theorem dX6_digest_53 : decode cX6_digest 53 = .ok (.if_icmp .gt 24, 3) := by decide +kernel
theorem dX6_digest_56 : decode cX6_digest 56 = .ok (.ldc2_w 218, 3) := by decide +kernel
theorem dX6_digest_59 : decode cX6_digest 59 = .ok (.lload_n 1, 1) := by decide +kernel
theorem dX6_digest_60 : decode cX6_digest 60 = .ok (.lmul, 1) := by decide +kernel
theorem dX6_digest_61 : decode cX6_digest 61 = .ok (.aload_n 0, 1) := by decide +kernel
theorem dX6_digest_62 : decode cX6_digest 62 = .ok (.iload_n 3, 1) := by decide +kernel
theorem dX6_digest_63 : decode cX6_digest 63 = .ok (.iload 4, 2) := by decide +kernel
theorem dX6_digest_65 : decode cX6_digest 65 = .ok (.invokevirtual 223, 3) := by decide +kernel
theorem dX6_digest_68 : decode cX6_digest 68 = .ok (.i2l, 1) := by decide +kernel
theorem dX6_digest_69 : decode cX6_digest 69 = .ok (.ladd, 1) := by decide +kernel
theorem dX6_digest_70 : decode cX6_digest 70 = .ok (.lstore_n 1, 1) := by decide +kernel
theorem dX6_digest_71 : decode cX6_digest 71 = .ok (.iinc 4 1, 3) := by decide +kernel
theorem dX6_digest_74 : decode cX6_digest 74 = .ok (.goto (-24), 3) := by decide +kernel
theorem dX6_digest_77 : decode cX6_digest 77 = .ok (.iinc 3 1, 3) := by decide +kernel
theorem dX6_digest_80 : decode cX6_digest 80 = .ok (.goto (-74), 3) := by decide +kernel
theorem dX6_digest_83 : decode cX6_digest 83 = .ok (.iconst 0, 1) := by decide +kernel
theorem dX6_digest_84 : decode cX6_digest 84 = .ok (.istore_n 3, 1) := by decide +kernel
theorem dX6_digest_85 : decode cX6_digest 85 = .ok (.iload_n 3, 1) := by decide +kernel
theorem dX6_digest_86 : decode cX6_digest 86 = .ok (.aload_n 0, 1) := by decide +kernel
theorem dX6_digest_87 : decode cX6_digest 87 = .ok (.getfield 19, 3) := by decide +kernel
theorem dX6_digest_90 : decode cX6_digest 90 = .ok (.getfield 102, 3) := by decide +kernel
theorem dX6_digest_93 : decode cX6_digest 93 = .ok (.iconst 1, 1) := by decide +kernel
theorem dX6_digest_94 : decode cX6_digest 94 = .ok (.isub, 1) := by decide +kernel
theorem dX6_digest_95 : decode cX6_digest 95 = .ok (.if_icmp .ge 39, 3) := by decide +kernel
theorem dX6_digest_98 : decode cX6_digest 98 = .ok (.iconst 0, 1) := by decide +kernel
theorem dX6_digest_99 : decode cX6_digest 99 = .ok (.istore 4, 2) := by decide +kernel
theorem dX6_digest_101 : decode cX6_digest 101 = .ok (.iload 4, 2) := by decide +kernel
theorem dX6_digest_103 : decode cX6_digest 103 = .ok (.iconst 1, 1) := by decide +kernel
theorem dX6_digest_104 : decode cX6_digest 104 = .ok (.if_icmp .gt 24, 3) := by decide +kernel
theorem dX6_digest_107 : decode cX6_digest 107 = .ok (.ldc2_w 218, 3) := by decide +kernel
theorem dX6_digest_110 : decode cX6_digest 110 = .ok (.lload_n 1, 1) := by decide +kernel
theorem dX6_digest_111 : decode cX6_digest 111 = .ok (.lmul, 1) := by decide +kernel
theorem dX6_digest_112 : decode cX6_digest 112 = .ok (.aload_n 0, 1) := by decide +kernel
theorem dX6_digest_113 : decode cX6_digest 113 = .ok (.iload_n 3, 1) := by decide +kernel
theorem dX6_digest_114 : decode cX6_digest 114 = .ok (.iload 4, 2) := by decide +kernel
theorem dX6_digest_116 : decode cX6_digest 116 = .ok (.invokevirtual 226, 3) := by decide +kernel
theorem dX6_digest_119 : decode cX6_digest 119 = .ok (.i2l, 1) := by decide +kernel
theorem dX6_digest_120 : decode cX6_digest 120 = .ok (.ladd, 1) := by decide +kernel
theorem dX6_digest_121 : decode cX6_digest 121 = .ok (.lstore_n 1, 1) := by decide +kernel
theorem dX6_digest_122 : decode cX6_digest 122 = .ok (.iinc 4 1, 3) := by decide +kernel
theorem dX6_digest_125 : decode cX6_digest 125 = .ok (.goto (-24), 3) := by decide +kernel
theorem dX6_digest_128 : decode cX6_digest 128 = .ok (.iinc 3 1, 3) := by decide +kernel
theorem dX6_digest_131 : decode cX6_digest 131 = .ok (.goto (-46), 3) := by decide +kernel
theorem dX6_digest_134 : decode cX6_digest 134 = .ok (.aload_n 0, 1) := by decide +kernel
theorem dX6_digest_135 : decode cX6_digest 135 = .ok (.invokevirtual 146, 3) := by decide +kernel
theorem dX6_digest_138 : decode cX6_digest 138 = .ok (.ifCond .ne 9, 3) := by decide +kernel
theorem dX6_digest_141 : decode cX6_digest 141 = .ok (.aload_n 0, 1) := by decide +kernel
theorem dX6_digest_142 : decode cX6_digest 142 = .ok (.lload_n 1, 1) := by decide +kernel
theorem dX6_digest_143 : decode cX6_digest 143 = .ok (.invokevirtual 229, 3) := by decide +kernel
theorem dX6_digest_146 : decode cX6_digest 146 = .ok (.lstore_n 1, 1) := by decide +kernel
theorem dX6_digest_147 : decode cX6_digest 147 = .ok (.iconst 0, 1) := by decide +kernel
theorem dX6_digest_148 : decode cX6_digest 148 = .ok (.istore_n 3, 1) := by decide +kernel
theorem dX6_digest_149 : decode cX6_digest 149 = .ok (.iload_n 3, 1) := by decide +kernel
theorem dX6_digest_150 : decode cX6_digest 150 = .ok (.aload_n 0, 1) := by decide +kernel
theorem dX6_digest_151 : decode cX6_digest 151 = .ok (.getfield 10, 3) := by decide +kernel
theorem dX6_digest_154 : decode cX6_digest 154 = .ok (.getfield 72, 3) := by decide +kernel
theorem dX6_digest_157 : decode cX6_digest 157 = .ok (.if_icmp .ge 26, 3) := by decide +kernel
theorem dX6_digest_160 : decode cX6_digest 160 = .ok (.ldc2_w 218, 3) := by decide +kernel
theorem dX6_digest_163 : decode cX6_digest 163 = .ok (.lload_n 1, 1) := by decide +kernel
theorem dX6_digest_164 : decode cX6_digest 164 = .ok (.lmul, 1) := by decide +kernel
theorem dX6_digest_165 : decode cX6_digest 165 = .ok (.aload_n 0, 1) := by decide +kernel
theorem dX6_digest_166 : decode cX6_digest 166 = .ok (.getfield 10, 3) := by decide +kernel
theorem dX6_digest_169 : decode cX6_digest 169 = .ok (.getfield 233, 3) := by decide +kernel
theorem dX6_digest_172 : decode cX6_digest 172 = .ok (.iload_n 3, 1) := by decide +kernel
theorem dX6_digest_173 : decode cX6_digest 173 = .ok (.iaload, 1) := by decide +kernel
theorem dX6_digest_174 : decode cX6_digest 174 = .ok (.i2l, 1) := by decide +kernel
theorem dX6_digest_175 : decode cX6_digest 175 = .ok (.ladd, 1) := by decide +kernel
theorem dX6_digest_176 : decode cX6_digest 176 = .ok (.lstore_n 1, 1) := by decide +kernel
theorem dX6_digest_177 : decode cX6_digest 177 = .ok (.iinc 3 1, 3) := by decide +kernel
theorem dX6_digest_180 : decode cX6_digest 180 = .ok (.goto (-31), 3) := by decide +kernel
theorem dX6_digest_183 : decode cX6_digest 183 = .ok (.iconst 0, 1) := by decide +kernel
theorem dX6_digest_184 : decode cX6_digest 184 = .ok (.istore_n 3, 1) := by decide +kernel
theorem dX6_digest_185 : decode cX6_digest 185 = .ok (.iload_n 3, 1) := by decide +kernel
theorem dX6_digest_186 : decode cX6_digest 186 = .ok (.bipush 9, 2) := by decide +kernel
theorem dX6_digest_188 : decode cX6_digest 188 = .ok (.if_icmp .gt 22, 3) := by decide +kernel
theorem dX6_digest_191 : decode cX6_digest 191 = .ok (.ldc2_w 218, 3) := by decide +kernel
theorem dX6_digest_194 : decode cX6_digest 194 = .ok (.lload_n 1, 1) := by decide +kernel
theorem dX6_digest_195 : decode cX6_digest 195 = .ok (.lmul, 1) := by decide +kernel
theorem dX6_digest_196 : decode cX6_digest 196 = .ok (.aload_n 0, 1) := by decide +kernel
theorem dX6_digest_197 : decode cX6_digest 197 = .ok (.iload_n 3, 1) := by decide +kernel
theorem dX6_digest_198 : decode cX6_digest 198 = .ok (.invokevirtual 236, 3) := by decide +kernel
theorem dX6_digest_201 : decode cX6_digest 201 = .ok (.i2l, 1) := by decide +kernel
theorem dX6_digest_202 : decode cX6_digest 202 = .ok (.ladd, 1) := by decide +kernel
theorem dX6_digest_203 : decode cX6_digest 203 = .ok (.lstore_n 1, 1) := by decide +kernel
theorem dX6_digest_204 : decode cX6_digest 204 = .ok (.iinc 3 1, 3) := by decide +kernel
theorem dX6_digest_207 : decode cX6_digest 207 = .ok (.goto (-22), 3) := by decide +kernel
theorem dX6_digest_210 : decode cX6_digest 210 = .ok (.lload_n 1, 1) := by decide +kernel
theorem dX6_digest_211 : decode cX6_digest 211 = .ok (.lreturn, 1) := by decide +kernel
theorem dX6_withOrders_0 : decode cX6_withOrders 0 = .ok (.lload_n 1, 1) := by decide +kernel
theorem dX6_withOrders_1 : decode cX6_withOrders 1 = .ok (.lstore_n 3, 1) := by decide +kernel
theorem dX6_withOrders_2 : decode cX6_withOrders 2 = .ok (.iconst 0, 1) := by decide +kernel
theorem dX6_withOrders_3 : decode cX6_withOrders 3 = .ok (.istore 5, 2) := by decide +kernel
theorem dX6_withOrders_5 : decode cX6_withOrders 5 = .ok (.iload 5, 2) := by decide +kernel
theorem dX6_withOrders_7 : decode cX6_withOrders 7 = .ok (.iconst 3, 1) := by decide +kernel
theorem dX6_withOrders_8 : decode cX6_withOrders 8 = .ok (.if_icmp .gt 23, 3) := by decide +kernel
theorem dX6_withOrders_11 : decode cX6_withOrders 11 = .ok (.ldc2_w 218, 3) := by decide +kernel
theorem dX6_withOrders_14 : decode cX6_withOrders 14 = .ok (.lload_n 3, 1) := by decide +kernel
theorem dX6_withOrders_15 : decode cX6_withOrders 15 = .ok (.lmul, 1) := by decide +kernel
theorem dX6_withOrders_16 : decode cX6_withOrders 16 = .ok (.aload_n 0, 1) := by decide +kernel
theorem dX6_withOrders_17 : decode cX6_withOrders 17 = .ok (.iload 5, 2) := by decide +kernel
theorem dX6_withOrders_19 : decode cX6_withOrders 19 = .ok (.invokevirtual 239, 3) := by decide +kernel
theorem dX6_withOrders_22 : decode cX6_withOrders 22 = .ok (.i2l, 1) := by decide +kernel
theorem dX6_withOrders_23 : decode cX6_withOrders 23 = .ok (.ladd, 1) := by decide +kernel
theorem dX6_withOrders_24 : decode cX6_withOrders 24 = .ok (.lstore_n 3, 1) := by decide +kernel
theorem dX6_withOrders_25 : decode cX6_withOrders 25 = .ok (.iinc 5 1, 3) := by decide +kernel
theorem dX6_withOrders_28 : decode cX6_withOrders 28 = .ok (.goto (-23), 3) := by decide +kernel
theorem dX6_withOrders_31 : decode cX6_withOrders 31 = .ok (.iconst 0, 1) := by decide +kernel
theorem dX6_withOrders_32 : decode cX6_withOrders 32 = .ok (.istore 5, 2) := by decide +kernel
theorem dX6_withOrders_34 : decode cX6_withOrders 34 = .ok (.iload 5, 2) := by decide +kernel
theorem dX6_withOrders_36 : decode cX6_withOrders 36 = .ok (.iconst 1, 1) := by decide +kernel
theorem dX6_withOrders_37 : decode cX6_withOrders 37 = .ok (.if_icmp .gt 23, 3) := by decide +kernel
theorem dX6_withOrders_40 : decode cX6_withOrders 40 = .ok (.ldc2_w 218, 3) := by decide +kernel
theorem dX6_withOrders_43 : decode cX6_withOrders 43 = .ok (.lload_n 3, 1) := by decide +kernel
theorem dX6_withOrders_44 : decode cX6_withOrders 44 = .ok (.lmul, 1) := by decide +kernel
theorem dX6_withOrders_45 : decode cX6_withOrders 45 = .ok (.aload_n 0, 1) := by decide +kernel
theorem dX6_withOrders_46 : decode cX6_withOrders 46 = .ok (.iload 5, 2) := by decide +kernel
theorem dX6_withOrders_48 : decode cX6_withOrders 48 = .ok (.invokevirtual 242, 3) := by decide +kernel
theorem dX6_withOrders_51 : decode cX6_withOrders 51 = .ok (.i2l, 1) := by decide +kernel
theorem dX6_withOrders_52 : decode cX6_withOrders 52 = .ok (.ladd, 1) := by decide +kernel
theorem dX6_withOrders_53 : decode cX6_withOrders 53 = .ok (.lstore_n 3, 1) := by decide +kernel
theorem dX6_withOrders_54 : decode cX6_withOrders 54 = .ok (.iinc 5 1, 3) := by decide +kernel
theorem dX6_withOrders_57 : decode cX6_withOrders 57 = .ok (.goto (-23), 3) := by decide +kernel
theorem dX6_withOrders_60 : decode cX6_withOrders 60 = .ok (.iconst 0, 1) := by decide +kernel
theorem dX6_withOrders_61 : decode cX6_withOrders 61 = .ok (.istore 5, 2) := by decide +kernel
theorem dX6_withOrders_63 : decode cX6_withOrders 63 = .ok (.iload 5, 2) := by decide +kernel
theorem dX6_withOrders_65 : decode cX6_withOrders 65 = .ok (.iconst 1, 1) := by decide +kernel
theorem dX6_withOrders_66 : decode cX6_withOrders 66 = .ok (.if_icmp .gt 25, 3) := by decide +kernel
theorem dX6_withOrders_69 : decode cX6_withOrders 69 = .ok (.ldc2_w 218, 3) := by decide +kernel
theorem dX6_withOrders_72 : decode cX6_withOrders 72 = .ok (.lload_n 3, 1) := by decide +kernel
theorem dX6_withOrders_73 : decode cX6_withOrders 73 = .ok (.lmul, 1) := by decide +kernel
theorem dX6_withOrders_74 : decode cX6_withOrders 74 = .ok (.aload_n 0, 1) := by decide +kernel
theorem dX6_withOrders_75 : decode cX6_withOrders 75 = .ok (.iconst 0, 1) := by decide +kernel
theorem dX6_withOrders_76 : decode cX6_withOrders 76 = .ok (.iconst 1, 1) := by decide +kernel
theorem dX6_withOrders_77 : decode cX6_withOrders 77 = .ok (.iload 5, 2) := by decide +kernel
theorem dX6_withOrders_79 : decode cX6_withOrders 79 = .ok (.invokevirtual 245, 3) := by decide +kernel
theorem dX6_withOrders_82 : decode cX6_withOrders 82 = .ok (.i2l, 1) := by decide +kernel
theorem dX6_withOrders_83 : decode cX6_withOrders 83 = .ok (.ladd, 1) := by decide +kernel
theorem dX6_withOrders_84 : decode cX6_withOrders 84 = .ok (.lstore_n 3, 1) := by decide +kernel
theorem dX6_withOrders_85 : decode cX6_withOrders 85 = .ok (.iinc 5 1, 3) := by decide +kernel
theorem dX6_withOrders_88 : decode cX6_withOrders 88 = .ok (.goto (-25), 3) := by decide +kernel
theorem dX6_withOrders_91 : decode cX6_withOrders 91 = .ok (.ldc2_w 218, 3) := by decide +kernel
theorem dX6_withOrders_94 : decode cX6_withOrders 94 = .ok (.lload_n 3, 1) := by decide +kernel
theorem dX6_withOrders_95 : decode cX6_withOrders 95 = .ok (.lmul, 1) := by decide +kernel
theorem dX6_withOrders_96 : decode cX6_withOrders 96 = .ok (.aload_n 0, 1) := by decide +kernel
theorem dX6_withOrders_97 : decode cX6_withOrders 97 = .ok (.invokevirtual 248, 3) := by decide +kernel
theorem dX6_withOrders_100 : decode cX6_withOrders 100 = .ok (.i2l, 1) := by decide +kernel
theorem dX6_withOrders_101 : decode cX6_withOrders 101 = .ok (.ladd, 1) := by decide +kernel
theorem dX6_withOrders_102 : decode cX6_withOrders 102 = .ok (.lreturn, 1) := by decide +kernel
theorem dX6_isWithoutStrip_0 : decode cX6_isWithoutStrip 0 = .ok (.aload_n 0, 1) := by decide +kernel
theorem dX6_isWithoutStrip_1 : decode cX6_isWithoutStrip 1 = .ok (.getfield 19, 3) := by decide +kernel
theorem dX6_isWithoutStrip_4 : decode cX6_isWithoutStrip 4 = .ok (.getfield 102, 3) := by decide +kernel
theorem dX6_isWithoutStrip_7 : decode cX6_isWithoutStrip 7 = .ok (.ifCond .ne 7, 3) := by decide +kernel
theorem dX6_isWithoutStrip_10 : decode cX6_isWithoutStrip 10 = .ok (.iconst 1, 1) := by decide +kernel
theorem dX6_isWithoutStrip_11 : decode cX6_isWithoutStrip 11 = .ok (.goto 4, 3) := by decide +kernel
theorem dX6_isWithoutStrip_14 : decode cX6_isWithoutStrip 14 = .ok (.iconst 0, 1) := by decide +kernel
theorem dX6_isWithoutStrip_15 : decode cX6_isWithoutStrip 15 = .ok (.ireturn, 1) := by decide +kernel
theorem dX6_isLeaf_0 : decode cX6_isLeaf 0 = .ok (.iload_n 1, 1) := by decide +kernel
theorem dX6_isLeaf_1 : decode cX6_isLeaf 1 = .ok (.ifCond .lt 18, 3) := by decide +kernel
theorem dX6_isLeaf_4 : decode cX6_isLeaf 4 = .ok (.iload_n 1, 1) := by decide +kernel
theorem dX6_isLeaf_5 : decode cX6_isLeaf 5 = .ok (.aload_n 0, 1) := by decide +kernel
theorem dX6_isLeaf_6 : decode cX6_isLeaf 6 = .ok (.getfield 19, 3) := by decide +kernel
theorem dX6_isLeaf_9 : decode cX6_isLeaf 9 = .ok (.getfield 102, 3) := by decide +kernel
theorem dX6_isLeaf_12 : decode cX6_isLeaf 12 = .ok (.if_icmp .ge 7, 3) := by decide +kernel
theorem dX6_isLeaf_15 : decode cX6_isLeaf 15 = .ok (.iconst 1, 1) := by decide +kernel
theorem dX6_isLeaf_16 : decode cX6_isLeaf 16 = .ok (.goto 4, 3) := by decide +kernel
theorem dX6_isLeaf_19 : decode cX6_isLeaf 19 = .ok (.iconst 0, 1) := by decide +kernel
theorem dX6_isLeaf_20 : decode cX6_isLeaf 20 = .ok (.ireturn, 1) := by decide +kernel
theorem dX6_isPlace_0 : decode cX6_isPlace 0 = .ok (.iload_n 1, 1) := by decide +kernel
theorem dX6_isPlace_1 : decode cX6_isPlace 1 = .ok (.ifCond .lt 18, 3) := by decide +kernel
theorem dX6_isPlace_4 : decode cX6_isPlace 4 = .ok (.iload_n 1, 1) := by decide +kernel
theorem dX6_isPlace_5 : decode cX6_isPlace 5 = .ok (.aload_n 0, 1) := by decide +kernel
theorem dX6_isPlace_6 : decode cX6_isPlace 6 = .ok (.getfield 19, 3) := by decide +kernel
theorem dX6_isPlace_9 : decode cX6_isPlace 9 = .ok (.getfield 102, 3) := by decide +kernel
theorem dX6_isPlace_12 : decode cX6_isPlace 12 = .ok (.if_icmp .ge 7, 3) := by decide +kernel
theorem dX6_isPlace_15 : decode cX6_isPlace 15 = .ok (.iconst 1, 1) := by decide +kernel
theorem dX6_isPlace_16 : decode cX6_isPlace 16 = .ok (.goto 4, 3) := by decide +kernel
theorem dX6_isPlace_19 : decode cX6_isPlace 19 = .ok (.iconst 0, 1) := by decide +kernel
theorem dX6_isPlace_20 : decode cX6_isPlace 20 = .ok (.ireturn, 1) := by decide +kernel
theorem dX6_isOrder_0 : decode cX6_isOrder 0 = .ok (.iload_n 1, 1) := by decide +kernel
theorem dX6_isOrder_1 : decode cX6_isOrder 1 = .ok (.ifCond .lt 18, 3) := by decide +kernel
theorem dX6_isOrder_4 : decode cX6_isOrder 4 = .ok (.iload_n 1, 1) := by decide +kernel
theorem dX6_isOrder_5 : decode cX6_isOrder 5 = .ok (.aload_n 0, 1) := by decide +kernel
theorem dX6_isOrder_6 : decode cX6_isOrder 6 = .ok (.getfield 19, 3) := by decide +kernel
theorem dX6_isOrder_9 : decode cX6_isOrder 9 = .ok (.getfield 156, 3) := by decide +kernel
theorem dX6_isOrder_12 : decode cX6_isOrder 12 = .ok (.if_icmp .ge 7, 3) := by decide +kernel
theorem dX6_isOrder_15 : decode cX6_isOrder 15 = .ok (.iconst 1, 1) := by decide +kernel
theorem dX6_isOrder_16 : decode cX6_isOrder 16 = .ok (.goto 4, 3) := by decide +kernel
theorem dX6_isOrder_19 : decode cX6_isOrder 19 = .ok (.iconst 0, 1) := by decide +kernel
theorem dX6_isOrder_20 : decode cX6_isOrder 20 = .ok (.ireturn, 1) := by decide +kernel
theorem dX6_farthest_0 : decode cX6_farthest 0 = .ok (.aload_n 0, 1) := by decide +kernel
theorem dX6_farthest_1 : decode cX6_farthest 1 = .ok (.getfield 26, 3) := by decide +kernel
theorem dX6_farthest_4 : decode cX6_farthest 4 = .ok (.getfield 90, 3) := by decide +kernel
theorem dX6_farthest_7 : decode cX6_farthest 7 = .ok (.istore_n 1, 1) := by decide +kernel
theorem dX6_farthest_8 : decode cX6_farthest 8 = .ok (.iconst 0, 1) := by decide +kernel
theorem dX6_farthest_9 : decode cX6_farthest 9 = .ok (.istore_n 2, 1) := by decide +kernel
theorem dX6_farthest_10 : decode cX6_farthest 10 = .ok (.iload_n 2, 1) := by decide +kernel
theorem dX6_farthest_11 : decode cX6_farthest 11 = .ok (.aload_n 0, 1) := by decide +kernel
theorem dX6_farthest_12 : decode cX6_farthest 12 = .ok (.getfield 19, 3) := by decide +kernel
theorem dX6_farthest_15 : decode cX6_farthest 15 = .ok (.getfield 156, 3) := by decide +kernel
theorem dX6_farthest_18 : decode cX6_farthest 18 = .ok (.if_icmp .ge 30, 3) := by decide +kernel
theorem dX6_farthest_21 : decode cX6_farthest 21 = .ok (.aload_n 0, 1) := by decide +kernel
theorem dX6_farthest_22 : decode cX6_farthest 22 = .ok (.getfield 51, 3) := by decide +kernel
theorem dX6_farthest_25 : decode cX6_farthest 25 = .ok (.iload_n 2, 1) := by decide +kernel
theorem dX6_farthest_26 : decode cX6_farthest 26 = .ok (.invokevirtual 169, 3) := by decide +kernel
theorem dX6_farthest_29 : decode cX6_farthest 29 = .ok (.aload_n 0, 1) := by decide +kernel
theorem dX6_farthest_30 : decode cX6_farthest 30 = .ok (.getfield 51, 3) := by decide +kernel
theorem dX6_farthest_33 : decode cX6_farthest 33 = .ok (.iload_n 1, 1) := by decide +kernel
theorem dX6_farthest_34 : decode cX6_farthest 34 = .ok (.invokevirtual 169, 3) := by decide +kernel
theorem dX6_farthest_37 : decode cX6_farthest 37 = .ok (.if_icmp .le 5, 3) := by decide +kernel
theorem dX6_farthest_40 : decode cX6_farthest 40 = .ok (.iload_n 2, 1) := by decide +kernel
theorem dX6_farthest_41 : decode cX6_farthest 41 = .ok (.istore_n 1, 1) := by decide +kernel
theorem dX6_farthest_42 : decode cX6_farthest 42 = .ok (.iinc 2 1, 3) := by decide +kernel
theorem dX6_farthest_45 : decode cX6_farthest 45 = .ok (.goto (-35), 3) := by decide +kernel
theorem dX6_farthest_48 : decode cX6_farthest 48 = .ok (.iload_n 1, 1) := by decide +kernel
theorem dX6_farthest_49 : decode cX6_farthest 49 = .ok (.ireturn, 1) := by decide +kernel
theorem dX6_home_0 : decode cX6_home 0 = .ok (.iconst (-1), 1) := by decide +kernel
theorem dX6_home_1 : decode cX6_home 1 = .ok (.istore_n 1, 1) := by decide +kernel
theorem dX6_home_2 : decode cX6_home 2 = .ok (.iconst 0, 1) := by decide +kernel
theorem dX6_home_3 : decode cX6_home 3 = .ok (.istore_n 2, 1) := by decide +kernel
theorem dX6_home_4 : decode cX6_home 4 = .ok (.iload_n 2, 1) := by decide +kernel
theorem dX6_home_5 : decode cX6_home 5 = .ok (.aload_n 0, 1) := by decide +kernel
theorem dX6_home_6 : decode cX6_home 6 = .ok (.getfield 19, 3) := by decide +kernel
theorem dX6_home_9 : decode cX6_home 9 = .ok (.getfield 156, 3) := by decide +kernel
theorem dX6_home_12 : decode cX6_home 12 = .ok (.if_icmp .ge 56, 3) := by decide +kernel
theorem dX6_home_15 : decode cX6_home 15 = .ok (.aload_n 0, 1) := by decide +kernel
theorem dX6_home_16 : decode cX6_home 16 = .ok (.getfield 51, 3) := by decide +kernel
theorem dX6_home_19 : decode cX6_home 19 = .ok (.iload_n 2, 1) := by decide +kernel
theorem dX6_home_20 : decode cX6_home 20 = .ok (.invokevirtual 169, 3) := by decide +kernel
theorem dX6_home_23 : decode cX6_home 23 = .ok (.istore_n 3, 1) := by decide +kernel
theorem dX6_home_24 : decode cX6_home 24 = .ok (.iload_n 3, 1) := by decide +kernel
theorem dX6_home_25 : decode cX6_home 25 = .ok (.iconst (-1), 1) := by decide +kernel
theorem dX6_home_26 : decode cX6_home 26 = .ok (.if_icmp .eq 36, 3) := by decide +kernel
theorem dX6_home_29 : decode cX6_home 29 = .ok (.aload_n 0, 1) := by decide +kernel
theorem dX6_home_30 : decode cX6_home 30 = .ok (.getfield 42, 3) := by decide +kernel
theorem dX6_home_33 : decode cX6_home 33 = .ok (.iload_n 2, 1) := by decide +kernel
theorem dX6_home_34 : decode cX6_home 34 = .ok (.invokevirtual 160, 3) := by decide +kernel
theorem dX6_home_37 : decode cX6_home 37 = .ok (.ifCond .ne 6, 3) := by decide +kernel
theorem dX6_home_40 : decode cX6_home 40 = .ok (.goto 22, 3) := by decide +kernel
theorem dX6_home_43 : decode cX6_home 43 = .ok (.iload_n 1, 1) := by decide +kernel
theorem dX6_home_44 : decode cX6_home 44 = .ok (.iconst (-1), 1) := by decide +kernel
theorem dX6_home_45 : decode cX6_home 45 = .ok (.if_icmp .eq 15, 3) := by decide +kernel
theorem dX6_home_48 : decode cX6_home 48 = .ok (.iload_n 3, 1) := by decide +kernel
theorem dX6_home_49 : decode cX6_home 49 = .ok (.aload_n 0, 1) := by decide +kernel
theorem dX6_home_50 : decode cX6_home 50 = .ok (.getfield 51, 3) := by decide +kernel
theorem dX6_home_53 : decode cX6_home 53 = .ok (.iload_n 1, 1) := by decide +kernel
theorem dX6_home_54 : decode cX6_home 54 = .ok (.invokevirtual 169, 3) := by decide +kernel
theorem dX6_home_57 : decode cX6_home 57 = .ok (.if_icmp .ge 5, 3) := by decide +kernel
theorem dX6_home_60 : decode cX6_home 60 = .ok (.iload_n 2, 1) := by decide +kernel
theorem dX6_home_61 : decode cX6_home 61 = .ok (.istore_n 1, 1) := by decide +kernel
theorem dX6_home_62 : decode cX6_home 62 = .ok (.iinc 2 1, 3) := by decide +kernel
theorem dX6_home_65 : decode cX6_home 65 = .ok (.goto (-61), 3) := by decide +kernel
theorem dX6_home_68 : decode cX6_home 68 = .ok (.iload_n 1, 1) := by decide +kernel
theorem dX6_home_69 : decode cX6_home 69 = .ok (.ireturn, 1) := by decide +kernel
theorem dX6_wholeThickness_0 : decode cX6_wholeThickness 0 = .ok (.iconst 0, 1) := by decide +kernel
theorem dX6_wholeThickness_1 : decode cX6_wholeThickness 1 = .ok (.istore_n 1, 1) := by decide +kernel
theorem dX6_wholeThickness_2 : decode cX6_wholeThickness 2 = .ok (.iconst 0, 1) := by decide +kernel
theorem dX6_wholeThickness_3 : decode cX6_wholeThickness 3 = .ok (.istore_n 2, 1) := by decide +kernel
theorem dX6_wholeThickness_4 : decode cX6_wholeThickness 4 = .ok (.iload_n 2, 1) := by decide +kernel
theorem dX6_wholeThickness_5 : decode cX6_wholeThickness 5 = .ok (.aload_n 0, 1) := by decide +kernel
theorem dX6_wholeThickness_6 : decode cX6_wholeThickness 6 = .ok (.getfield 19, 3) := by decide +kernel
theorem dX6_wholeThickness_9 : decode cX6_wholeThickness 9 = .ok (.getfield 102, 3) := by decide +kernel
theorem dX6_wholeThickness_12 : decode cX6_wholeThickness 12 = .ok (.if_icmp .ge 24, 3) := by decide +kernel
theorem dX6_wholeThickness_15 : decode cX6_wholeThickness 15 = .ok (.iload_n 1, 1) := by decide +kernel
theorem dX6_wholeThickness_16 : decode cX6_wholeThickness 16 = .ok (.aload_n 0, 1) := by decide +kernel
theorem dX6_wholeThickness_17 : decode cX6_wholeThickness 17 = .ok (.getfield 26, 3) := by decide +kernel
theorem dX6_wholeThickness_20 : decode cX6_wholeThickness 20 = .ok (.getfield 35, 3) := by decide +kernel
theorem dX6_wholeThickness_23 : decode cX6_wholeThickness 23 = .ok (.iload_n 2, 1) := by decide +kernel
theorem dX6_wholeThickness_24 : decode cX6_wholeThickness 24 = .ok (.iaload, 1) := by decide +kernel
theorem dX6_wholeThickness_25 : decode cX6_wholeThickness 25 = .ok (.invokestatic 109, 3) := by decide +kernel
theorem dX6_wholeThickness_28 : decode cX6_wholeThickness 28 = .ok (.iadd, 1) := by decide +kernel
theorem dX6_wholeThickness_29 : decode cX6_wholeThickness 29 = .ok (.istore_n 1, 1) := by decide +kernel
theorem dX6_wholeThickness_30 : decode cX6_wholeThickness 30 = .ok (.iinc 2 1, 3) := by decide +kernel
theorem dX6_wholeThickness_33 : decode cX6_wholeThickness 33 = .ok (.goto (-29), 3) := by decide +kernel
theorem dX6_wholeThickness_36 : decode cX6_wholeThickness 36 = .ok (.iload_n 1, 1) := by decide +kernel
theorem dX6_wholeThickness_37 : decode cX6_wholeThickness 37 = .ok (.ireturn, 1) := by decide +kernel
theorem dX6_openHinges_0 : decode cX6_openHinges 0 = .ok (.iconst 0, 1) := by decide +kernel
theorem dX6_openHinges_1 : decode cX6_openHinges 1 = .ok (.istore_n 1, 1) := by decide +kernel
theorem dX6_openHinges_2 : decode cX6_openHinges 2 = .ok (.iconst 0, 1) := by decide +kernel
theorem dX6_openHinges_3 : decode cX6_openHinges 3 = .ok (.istore_n 2, 1) := by decide +kernel
theorem dX6_openHinges_4 : decode cX6_openHinges 4 = .ok (.iload_n 2, 1) := by decide +kernel
theorem dX6_openHinges_5 : decode cX6_openHinges 5 = .ok (.aload_n 0, 1) := by decide +kernel
theorem dX6_openHinges_6 : decode cX6_openHinges 6 = .ok (.getfield 19, 3) := by decide +kernel
theorem dX6_openHinges_9 : decode cX6_openHinges 9 = .ok (.getfield 102, 3) := by decide +kernel
theorem dX6_openHinges_12 : decode cX6_openHinges 12 = .ok (.iconst 1, 1) := by decide +kernel
theorem dX6_openHinges_13 : decode cX6_openHinges 13 = .ok (.isub, 1) := by decide +kernel
theorem dX6_openHinges_14 : decode cX6_openHinges 14 = .ok (.if_icmp .ge 30, 3) := by decide +kernel
theorem dX6_openHinges_17 : decode cX6_openHinges 17 = .ok (.aload_n 0, 1) := by decide +kernel
theorem dX6_openHinges_18 : decode cX6_openHinges 18 = .ok (.getfield 42, 3) := by decide +kernel
theorem dX6_openHinges_21 : decode cX6_openHinges 21 = .ok (.aload_n 0, 1) := by decide +kernel
theorem dX6_openHinges_22 : decode cX6_openHinges 22 = .ok (.getfield 26, 3) := by decide +kernel
theorem dX6_openHinges_25 : decode cX6_openHinges 25 = .ok (.getfield 90, 3) := by decide +kernel
theorem dX6_openHinges_28 : decode cX6_openHinges 28 = .ok (.iload_n 2, 1) := by decide +kernel
theorem dX6_openHinges_29 : decode cX6_openHinges 29 = .ok (.invokevirtual 130, 3) := by decide +kernel
theorem dX6_openHinges_32 : decode cX6_openHinges 32 = .ok (.ifCond .le 6, 3) := by decide +kernel
theorem dX6_openHinges_35 : decode cX6_openHinges 35 = .ok (.iinc 1 1, 3) := by decide +kernel
theorem dX6_openHinges_38 : decode cX6_openHinges 38 = .ok (.iinc 2 1, 3) := by decide +kernel
theorem dX6_openHinges_41 : decode cX6_openHinges 41 = .ok (.goto (-37), 3) := by decide +kernel
theorem dX6_openHinges_44 : decode cX6_openHinges 44 = .ok (.iload_n 1, 1) := by decide +kernel
theorem dX6_openHinges_45 : decode cX6_openHinges 45 = .ok (.ireturn, 1) := by decide +kernel
theorem dX6_contentLeaves_0 : decode cX6_contentLeaves 0 = .ok (.iconst 0, 1) := by decide +kernel
theorem dX6_contentLeaves_1 : decode cX6_contentLeaves 1 = .ok (.istore_n 1, 1) := by decide +kernel
theorem dX6_contentLeaves_2 : decode cX6_contentLeaves 2 = .ok (.iconst 0, 1) := by decide +kernel
theorem dX6_contentLeaves_3 : decode cX6_contentLeaves 3 = .ok (.istore_n 2, 1) := by decide +kernel
theorem dX6_contentLeaves_4 : decode cX6_contentLeaves 4 = .ok (.iload_n 2, 1) := by decide +kernel
theorem dX6_contentLeaves_5 : decode cX6_contentLeaves 5 = .ok (.aload_n 0, 1) := by decide +kernel
theorem dX6_contentLeaves_6 : decode cX6_contentLeaves 6 = .ok (.getfield 19, 3) := by decide +kernel
theorem dX6_contentLeaves_9 : decode cX6_contentLeaves 9 = .ok (.getfield 102, 3) := by decide +kernel
theorem dX6_contentLeaves_12 : decode cX6_contentLeaves 12 = .ok (.if_icmp .ge 30, 3) := by decide +kernel
theorem dX6_contentLeaves_15 : decode cX6_contentLeaves 15 = .ok (.aload_n 0, 1) := by decide +kernel
theorem dX6_contentLeaves_16 : decode cX6_contentLeaves 16 = .ok (.getfield 42, 3) := by decide +kernel
theorem dX6_contentLeaves_19 : decode cX6_contentLeaves 19 = .ok (.aload_n 0, 1) := by decide +kernel
theorem dX6_contentLeaves_20 : decode cX6_contentLeaves 20 = .ok (.getfield 26, 3) := by decide +kernel
theorem dX6_contentLeaves_23 : decode cX6_contentLeaves 23 = .ok (.getfield 90, 3) := by decide +kernel
theorem dX6_contentLeaves_26 : decode cX6_contentLeaves 26 = .ok (.iload_n 2, 1) := by decide +kernel
theorem dX6_contentLeaves_27 : decode cX6_contentLeaves 27 = .ok (.invokevirtual 116, 3) := by decide +kernel
theorem dX6_contentLeaves_30 : decode cX6_contentLeaves 30 = .ok (.ifCond .eq 6, 3) := by decide +kernel
theorem dX6_contentLeaves_33 : decode cX6_contentLeaves 33 = .ok (.iinc 1 1, 3) := by decide +kernel
theorem dX6_contentLeaves_36 : decode cX6_contentLeaves 36 = .ok (.iinc 2 1, 3) := by decide +kernel
theorem dX6_contentLeaves_39 : decode cX6_contentLeaves 39 = .ok (.goto (-35), 3) := by decide +kernel
theorem dX6_contentLeaves_42 : decode cX6_contentLeaves 42 = .ok (.iload_n 1, 1) := by decide +kernel
theorem dX6_contentLeaves_43 : decode cX6_contentLeaves 43 = .ok (.ireturn, 1) := by decide +kernel
theorem dX6_possibleMoves_0 : decode cX6_possibleMoves 0 = .ok (.iconst 0, 1) := by decide +kernel
theorem dX6_possibleMoves_1 : decode cX6_possibleMoves 1 = .ok (.istore_n 1, 1) := by decide +kernel
theorem dX6_possibleMoves_2 : decode cX6_possibleMoves 2 = .ok (.iconst 0, 1) := by decide +kernel
theorem dX6_possibleMoves_3 : decode cX6_possibleMoves 3 = .ok (.istore_n 2, 1) := by decide +kernel
theorem dX6_possibleMoves_4 : decode cX6_possibleMoves 4 = .ok (.iload_n 2, 1) := by decide +kernel
theorem dX6_possibleMoves_5 : decode cX6_possibleMoves 5 = .ok (.aload_n 0, 1) := by decide +kernel
theorem dX6_possibleMoves_6 : decode cX6_possibleMoves 6 = .ok (.getfield 19, 3) := by decide +kernel
theorem dX6_possibleMoves_9 : decode cX6_possibleMoves 9 = .ok (.getfield 102, 3) := by decide +kernel
theorem dX6_possibleMoves_12 : decode cX6_possibleMoves 12 = .ok (.if_icmp .ge 67, 3) := by decide +kernel
theorem dX6_possibleMoves_15 : decode cX6_possibleMoves 15 = .ok (.iconst 0, 1) := by decide +kernel
theorem dX6_possibleMoves_16 : decode cX6_possibleMoves 16 = .ok (.istore_n 3, 1) := by decide +kernel
theorem dX6_possibleMoves_17 : decode cX6_possibleMoves 17 = .ok (.iload_n 3, 1) := by decide +kernel
theorem dX6_possibleMoves_18 : decode cX6_possibleMoves 18 = .ok (.aload_n 0, 1) := by decide +kernel
theorem dX6_possibleMoves_19 : decode cX6_possibleMoves 19 = .ok (.getfield 19, 3) := by decide +kernel
theorem dX6_possibleMoves_22 : decode cX6_possibleMoves 22 = .ok (.getfield 102, 3) := by decide +kernel
theorem dX6_possibleMoves_25 : decode cX6_possibleMoves 25 = .ok (.if_icmp .ge 48, 3) := by decide +kernel
theorem dX6_possibleMoves_28 : decode cX6_possibleMoves 28 = .ok (.aload_n 0, 1) := by decide +kernel
theorem dX6_possibleMoves_29 : decode cX6_possibleMoves 29 = .ok (.getfield 19, 3) := by decide +kernel
theorem dX6_possibleMoves_32 : decode cX6_possibleMoves 32 = .ok (.aload_n 0, 1) := by decide +kernel
theorem dX6_possibleMoves_33 : decode cX6_possibleMoves 33 = .ok (.getfield 26, 3) := by decide +kernel
theorem dX6_possibleMoves_36 : decode cX6_possibleMoves 36 = .ok (.getfield 90, 3) := by decide +kernel
theorem dX6_possibleMoves_39 : decode cX6_possibleMoves 39 = .ok (.iload_n 2, 1) := by decide +kernel
theorem dX6_possibleMoves_40 : decode cX6_possibleMoves 40 = .ok (.iload_n 3, 1) := by decide +kernel
theorem dX6_possibleMoves_41 : decode cX6_possibleMoves 41 = .ok (.invokevirtual 139, 3) := by decide +kernel
theorem dX6_possibleMoves_44 : decode cX6_possibleMoves 44 = .ok (.istore 4, 2) := by decide +kernel
theorem dX6_possibleMoves_46 : decode cX6_possibleMoves 46 = .ok (.iload 4, 2) := by decide +kernel
theorem dX6_possibleMoves_48 : decode cX6_possibleMoves 48 = .ok (.iconst (-1), 1) := by decide +kernel
theorem dX6_possibleMoves_49 : decode cX6_possibleMoves 49 = .ok (.if_icmp .eq 18, 3) := by decide +kernel
theorem dX6_possibleMoves_52 : decode cX6_possibleMoves 52 = .ok (.iload 4, 2) := by decide +kernel
theorem dX6_possibleMoves_54 : decode cX6_possibleMoves 54 = .ok (.aload_n 0, 1) := by decide +kernel
theorem dX6_possibleMoves_55 : decode cX6_possibleMoves 55 = .ok (.getfield 26, 3) := by decide +kernel
theorem dX6_possibleMoves_58 : decode cX6_possibleMoves 58 = .ok (.getfield 90, 3) := by decide +kernel
theorem dX6_possibleMoves_61 : decode cX6_possibleMoves 61 = .ok (.if_icmp .eq 6, 3) := by decide +kernel
theorem dX6_possibleMoves_64 : decode cX6_possibleMoves 64 = .ok (.iinc 1 1, 3) := by decide +kernel
theorem dX6_possibleMoves_67 : decode cX6_possibleMoves 67 = .ok (.iinc 3 1, 3) := by decide +kernel
theorem dX6_possibleMoves_70 : decode cX6_possibleMoves 70 = .ok (.goto (-53), 3) := by decide +kernel
theorem dX6_possibleMoves_73 : decode cX6_possibleMoves 73 = .ok (.iinc 2 1, 3) := by decide +kernel
theorem dX6_possibleMoves_76 : decode cX6_possibleMoves 76 = .ok (.goto (-72), 3) := by decide +kernel
theorem dX6_possibleMoves_79 : decode cX6_possibleMoves 79 = .ok (.iload_n 1, 1) := by decide +kernel
theorem dX6_possibleMoves_80 : decode cX6_possibleMoves 80 = .ok (.ireturn, 1) := by decide +kernel
theorem dX6_asNumber_0 : decode cX6_asNumber 0 = .ok (.iload_n 0, 1) := by decide +kernel
theorem dX6_asNumber_1 : decode cX6_asNumber 1 = .ok (.ifCond .eq 7, 3) := by decide +kernel
theorem dX6_asNumber_4 : decode cX6_asNumber 4 = .ok (.iconst 1, 1) := by decide +kernel
theorem dX6_asNumber_5 : decode cX6_asNumber 5 = .ok (.goto 4, 3) := by decide +kernel
theorem dX6_asNumber_8 : decode cX6_asNumber 8 = .ok (.iconst 0, 1) := by decide +kernel
theorem dX6_asNumber_9 : decode cX6_asNumber 9 = .ok (.ireturn, 1) := by decide +kernel
theorem dX6_isKind_0 : decode cX6_isKind 0 = .ok (.iload_n 0, 1) := by decide +kernel
theorem dX6_isKind_1 : decode cX6_isKind 1 = .ok (.ifCond .lt 16, 3) := by decide +kernel
theorem dX6_isKind_4 : decode cX6_isKind 4 = .ok (.iload_n 0, 1) := by decide +kernel
theorem dX6_isKind_5 : decode cX6_isKind 5 = .ok (.ldc 251, 2) := by decide +kernel
theorem dX6_isKind_7 : decode cX6_isKind 7 = .ok (.invokevirtual 253, 3) := by decide +kernel
theorem dX6_isKind_10 : decode cX6_isKind 10 = .ok (.if_icmp .ge 7, 3) := by decide +kernel
theorem dX6_isKind_13 : decode cX6_isKind 13 = .ok (.iconst 1, 1) := by decide +kernel
theorem dX6_isKind_14 : decode cX6_isKind 14 = .ok (.goto 4, 3) := by decide +kernel
theorem dX6_isKind_17 : decode cX6_isKind 17 = .ok (.iconst 0, 1) := by decide +kernel
theorem dX6_isKind_18 : decode cX6_isKind 18 = .ok (.ireturn, 1) := by decide +kernel
theorem dX6_isOfKind_0 : decode cX6_isOfKind 0 = .ok (.iload_n 1, 1) := by decide +kernel
theorem dX6_isOfKind_1 : decode cX6_isOfKind 1 = .ok (.ifCond .eq 28, 3) := by decide +kernel
theorem dX6_isOfKind_4 : decode cX6_isOfKind 4 = .ok (.iload_n 0, 1) := by decide +kernel
theorem dX6_isOfKind_5 : decode cX6_isOfKind 5 = .ok (.iload_n 1, 1) := by decide +kernel
theorem dX6_isOfKind_6 : decode cX6_isOfKind 6 = .ok (.if_icmp .eq 23, 3) := by decide +kernel
theorem dX6_isOfKind_9 : decode cX6_isOfKind 9 = .ok (.iload_n 1, 1) := by decide +kernel
theorem dX6_isOfKind_10 : decode cX6_isOfKind 10 = .ok (.iconst 1, 1) := by decide +kernel
theorem dX6_isOfKind_11 : decode cX6_isOfKind 11 = .ok (.if_icmp .ne 8, 3) := by decide +kernel
theorem dX6_isOfKind_14 : decode cX6_isOfKind 14 = .ok (.iload_n 0, 1) := by decide +kernel
theorem dX6_isOfKind_15 : decode cX6_isOfKind 15 = .ok (.iconst 3, 1) := by decide +kernel
theorem dX6_isOfKind_16 : decode cX6_isOfKind 16 = .ok (.if_icmp .eq 13, 3) := by decide +kernel
theorem dX6_isOfKind_19 : decode cX6_isOfKind 19 = .ok (.iload_n 1, 1) := by decide +kernel
theorem dX6_isOfKind_20 : decode cX6_isOfKind 20 = .ok (.iconst 2, 1) := by decide +kernel
theorem dX6_isOfKind_21 : decode cX6_isOfKind 21 = .ok (.if_icmp .ne 12, 3) := by decide +kernel
theorem dX6_isOfKind_24 : decode cX6_isOfKind 24 = .ok (.iload_n 0, 1) := by decide +kernel
theorem dX6_isOfKind_25 : decode cX6_isOfKind 25 = .ok (.iconst 4, 1) := by decide +kernel
theorem dX6_isOfKind_26 : decode cX6_isOfKind 26 = .ok (.if_icmp .ne 7, 3) := by decide +kernel
theorem dX6_isOfKind_29 : decode cX6_isOfKind 29 = .ok (.iconst 1, 1) := by decide +kernel
theorem dX6_isOfKind_30 : decode cX6_isOfKind 30 = .ok (.goto 4, 3) := by decide +kernel
theorem dX6_isOfKind_33 : decode cX6_isOfKind 33 = .ok (.iconst 0, 1) := by decide +kernel
theorem dX6_isOfKind_34 : decode cX6_isOfKind 34 = .ok (.ireturn, 1) := by decide +kernel
theorem dX6_thickness_0 : decode cX6_thickness 0 = .ok (.iload_n 0, 1) := by decide +kernel
theorem dX6_thickness_1 : decode cX6_thickness 1 = .ok (.iconst 1, 1) := by decide +kernel
theorem dX6_thickness_2 : decode cX6_thickness 2 = .ok (.invokestatic 127, 3) := by decide +kernel
theorem dX6_thickness_5 : decode cX6_thickness 5 = .ok (.ifCond .eq 7, 3) := by decide +kernel
theorem dX6_thickness_8 : decode cX6_thickness 8 = .ok (.iconst 3, 1) := by decide +kernel
theorem dX6_thickness_9 : decode cX6_thickness 9 = .ok (.goto 4, 3) := by decide +kernel
theorem dX6_thickness_12 : decode cX6_thickness 12 = .ok (.iconst 1, 1) := by decide +kernel
theorem dX6_thickness_13 : decode cX6_thickness 13 = .ok (.ireturn, 1) := by decide +kernel
theorem dX6_seedAfter_0 : decode cX6_seedAfter 0 = .ok (.ldc2_w 258, 3) := by decide +kernel
theorem dX6_seedAfter_3 : decode cX6_seedAfter 3 = .ok (.iload_n 0, 1) := by decide +kernel
theorem dX6_seedAfter_4 : decode cX6_seedAfter 4 = .ok (.i2l, 1) := by decide +kernel
theorem dX6_seedAfter_5 : decode cX6_seedAfter 5 = .ok (.lmul, 1) := by decide +kernel
theorem dX6_seedAfter_6 : decode cX6_seedAfter 6 = .ok (.ldc2_w 260, 3) := by decide +kernel
theorem dX6_seedAfter_9 : decode cX6_seedAfter 9 = .ok (.ladd, 1) := by decide +kernel
theorem dX6_seedAfter_10 : decode cX6_seedAfter 10 = .ok (.ldc2_w 262, 3) := by decide +kernel
theorem dX6_seedAfter_13 : decode cX6_seedAfter 13 = .ok (.lrem, 1) := by decide +kernel
theorem dX6_seedAfter_14 : decode cX6_seedAfter 14 = .ok (.l2i, 1) := by decide +kernel
theorem dX6_seedAfter_15 : decode cX6_seedAfter 15 = .ok (.ireturn, 1) := by decide +kernel
theorem dX6_draw_0 : decode cX6_draw 0 = .ok (.iload_n 1, 1) := by decide +kernel
theorem dX6_draw_1 : decode cX6_draw 1 = .ok (.ifCond .gt 7, 3) := by decide +kernel
theorem dX6_draw_4 : decode cX6_draw 4 = .ok (.iconst 0, 1) := by decide +kernel
theorem dX6_draw_5 : decode cX6_draw 5 = .ok (.goto 10, 3) := by decide +kernel
theorem dX6_draw_8 : decode cX6_draw 8 = .ok (.iload_n 0, 1) := by decide +kernel
theorem dX6_draw_9 : decode cX6_draw 9 = .ok (.ldc_w 264, 3) := by decide +kernel
theorem dX6_draw_12 : decode cX6_draw 12 = .ok (.idiv, 1) := by decide +kernel
theorem dX6_draw_13 : decode cX6_draw 13 = .ok (.iload_n 1, 1) := by decide +kernel
theorem dX6_draw_14 : decode cX6_draw 14 = .ok (.irem, 1) := by decide +kernel
theorem dX6_draw_15 : decode cX6_draw 15 = .ok (.ireturn, 1) := by decide +kernel
theorem dX6_commonDivisor_0 : decode cX6_commonDivisor 0 = .ok (.iload_n 0, 1) := by decide +kernel
theorem dX6_commonDivisor_1 : decode cX6_commonDivisor 1 = .ok (.istore_n 2, 1) := by decide +kernel
theorem dX6_commonDivisor_2 : decode cX6_commonDivisor 2 = .ok (.iload_n 1, 1) := by decide +kernel
theorem dX6_commonDivisor_3 : decode cX6_commonDivisor 3 = .ok (.istore_n 3, 1) := by decide +kernel
theorem dX6_commonDivisor_4 : decode cX6_commonDivisor 4 = .ok (.iconst 0, 1) := by decide +kernel
theorem dX6_commonDivisor_5 : decode cX6_commonDivisor 5 = .ok (.istore 4, 2) := by decide +kernel
theorem dX6_commonDivisor_7 : decode cX6_commonDivisor 7 = .ok (.iload 4, 2) := by decide +kernel
theorem dX6_commonDivisor_9 : decode cX6_commonDivisor 9 = .ok (.sipush 462, 3) := by decide +kernel
theorem dX6_commonDivisor_12 : decode cX6_commonDivisor 12 = .ok (.if_icmp .ge 23, 3) := by decide +kernel
theorem dX6_commonDivisor_15 : decode cX6_commonDivisor 15 = .ok (.iload_n 3, 1) := by decide +kernel
theorem dX6_commonDivisor_16 : decode cX6_commonDivisor 16 = .ok (.ifCond .eq 19, 3) := by decide +kernel
theorem dX6_commonDivisor_19 : decode cX6_commonDivisor 19 = .ok (.iload_n 2, 1) := by decide +kernel
theorem dX6_commonDivisor_20 : decode cX6_commonDivisor 20 = .ok (.iload_n 3, 1) := by decide +kernel
theorem dX6_commonDivisor_21 : decode cX6_commonDivisor 21 = .ok (.irem, 1) := by decide +kernel
theorem dX6_commonDivisor_22 : decode cX6_commonDivisor 22 = .ok (.istore 5, 2) := by decide +kernel
theorem dX6_commonDivisor_24 : decode cX6_commonDivisor 24 = .ok (.iload_n 3, 1) := by decide +kernel
theorem dX6_commonDivisor_25 : decode cX6_commonDivisor 25 = .ok (.istore_n 2, 1) := by decide +kernel
theorem dX6_commonDivisor_26 : decode cX6_commonDivisor 26 = .ok (.iload 5, 2) := by decide +kernel
theorem dX6_commonDivisor_28 : decode cX6_commonDivisor 28 = .ok (.istore_n 3, 1) := by decide +kernel
theorem dX6_commonDivisor_29 : decode cX6_commonDivisor 29 = .ok (.iinc 4 1, 3) := by decide +kernel
theorem dX6_commonDivisor_32 : decode cX6_commonDivisor 32 = .ok (.goto (-25), 3) := by decide +kernel
theorem dX6_commonDivisor_35 : decode cX6_commonDivisor 35 = .ok (.iconst 1, 1) := by decide +kernel
theorem dX6_commonDivisor_36 : decode cX6_commonDivisor 36 = .ok (.iload_n 2, 1) := by decide +kernel
theorem dX6_commonDivisor_37 : decode cX6_commonDivisor 37 = .ok (.invokestatic 265, 3) := by decide +kernel
theorem dX6_commonDivisor_40 : decode cX6_commonDivisor 40 = .ok (.ireturn, 1) := by decide +kernel
