theorem dX7_init_0 : decode cX7_init 0 = .ok (.aload_n 0, 1) := by decide +kernel
theorem dX7_init_1 : decode cX7_init 1 = .ok (.invokespecial 1, 3) := by decide +kernel
theorem dX7_init_4 : decode cX7_init 4 = .ok (.aload_n 0, 1) := by decide +kernel
theorem dX7_init_5 : decode cX7_init 5 = .ok (.bipush 9, 2) := by decide +kernel
theorem dX7_init_7 : decode cX7_init 7 = .ok (.newarray .int, 2) := by decide +kernel
theorem dX7_init_9 : decode cX7_init 9 = .ok (.putfield 7, 3) := by decide +kernel
theorem dX7_init_12 : decode cX7_init 12 = .ok (.aload_n 0, 1) := by decide +kernel
theorem dX7_init_13 : decode cX7_init 13 = .ok (.bipush 7, 2) := by decide +kernel
theorem dX7_init_15 : decode cX7_init 15 = .ok (.newarray .int, 2) := by decide +kernel
theorem dX7_init_17 : decode cX7_init 17 = .ok (.putfield 13, 3) := by decide +kernel
theorem dX7_init_20 : decode cX7_init 20 = .ok (.aload_n 0, 1) := by decide +kernel
theorem dX7_init_21 : decode cX7_init 21 = .ok (.bipush 7, 2) := by decide +kernel
theorem dX7_init_23 : decode cX7_init 23 = .ok (.newarray .int, 2) := by decide +kernel
theorem dX7_init_25 : decode cX7_init 25 = .ok (.putfield 16, 3) := by decide +kernel
theorem dX7_init_28 : decode cX7_init 28 = .ok (.aload_n 0, 1) := by decide +kernel
theorem dX7_init_29 : decode cX7_init 29 = .ok (.sipush 462, 3) := by decide +kernel
theorem dX7_init_32 : decode cX7_init 32 = .ok (.newarray .int, 2) := by decide +kernel
theorem dX7_init_34 : decode cX7_init 34 = .ok (.putfield 19, 3) := by decide +kernel
theorem dX7_init_37 : decode cX7_init 37 = .ok (.aload_n 0, 1) := by decide +kernel
theorem dX7_init_38 : decode cX7_init 38 = .ok (.bipush 7, 2) := by decide +kernel
theorem dX7_init_40 : decode cX7_init 40 = .ok (.newarray .int, 2) := by decide +kernel
theorem dX7_init_42 : decode cX7_init 42 = .ok (.putfield 22, 3) := by decide +kernel
theorem dX7_init_45 : decode cX7_init 45 = .ok (.aload_n 0, 1) := by decide +kernel
theorem dX7_init_46 : decode cX7_init 46 = .ok (.bipush 7, 2) := by decide +kernel
theorem dX7_init_48 : decode cX7_init 48 = .ok (.newarray .int, 2) := by decide +kernel
theorem dX7_init_50 : decode cX7_init 50 = .ok (.putfield 25, 3) := by decide +kernel
theorem dX7_init_53 : decode cX7_init 53 = .ok (.aload_n 0, 1) := by decide +kernel
theorem dX7_init_54 : decode cX7_init 54 = .ok (.bipush 7, 2) := by decide +kernel
theorem dX7_init_56 : decode cX7_init 56 = .ok (.newarray .int, 2) := by decide +kernel
theorem dX7_init_58 : decode cX7_init 58 = .ok (.putfield 28, 3) := by decide +kernel
theorem dX7_init_61 : decode cX7_init 61 = .ok (.aload_n 0, 1) := by decide +kernel
theorem dX7_init_62 : decode cX7_init 62 = .ok (.sipush 462, 3) := by decide +kernel
theorem dX7_init_65 : decode cX7_init 65 = .ok (.newarray .int, 2) := by decide +kernel
theorem dX7_init_67 : decode cX7_init 67 = .ok (.putfield 31, 3) := by decide +kernel
theorem dX7_init_70 : decode cX7_init 70 = .ok (.aload_n 0, 1) := by decide +kernel
theorem dX7_init_71 : decode cX7_init 71 = .ok (.sipush 462, 3) := by decide +kernel
theorem dX7_init_74 : decode cX7_init 74 = .ok (.newarray .int, 2) := by decide +kernel
theorem dX7_init_76 : decode cX7_init 76 = .ok (.putfield 34, 3) := by decide +kernel
theorem dX7_init_79 : decode cX7_init 79 = .ok (.aload_n 0, 1) := by decide +kernel
theorem dX7_init_80 : decode cX7_init 80 = .ok (.bipush 18, 2) := by decide +kernel
theorem dX7_init_82 : decode cX7_init 82 = .ok (.newarray .int, 2) := by decide +kernel
theorem dX7_init_84 : decode cX7_init 84 = .ok (.putfield 37, 3) := by decide +kernel
theorem dX7_init_87 : decode cX7_init 87 = .ok (.aload_n 0, 1) := by decide +kernel
theorem dX7_init_88 : decode cX7_init 88 = .ok (.bipush 7, 2) := by decide +kernel
theorem dX7_init_90 : decode cX7_init 90 = .ok (.newarray .int, 2) := by decide +kernel
theorem dX7_init_92 : decode cX7_init 92 = .ok (.putfield 40, 3) := by decide +kernel
theorem dX7_init_95 : decode cX7_init 95 = .ok (.aload_n 0, 1) := by decide +kernel
theorem dX7_init_96 : decode cX7_init 96 = .ok (.bipush 7, 2) := by decide +kernel
theorem dX7_init_98 : decode cX7_init 98 = .ok (.newarray .int, 2) := by decide +kernel
theorem dX7_init_100 : decode cX7_init 100 = .ok (.putfield 43, 3) := by decide +kernel
theorem dX7_init_103 : decode cX7_init 103 = .ok (.aload_n 0, 1) := by decide +kernel
theorem dX7_init_104 : decode cX7_init 104 = .ok (.bipush 7, 2) := by decide +kernel
theorem dX7_init_106 : decode cX7_init 106 = .ok (.newarray .int, 2) := by decide +kernel
theorem dX7_init_108 : decode cX7_init 108 = .ok (.putfield 46, 3) := by decide +kernel
theorem dX7_init_111 : decode cX7_init 111 = .ok (.aload_n 0, 1) := by decide +kernel
theorem dX7_init_112 : decode cX7_init 112 = .ok (.bipush 18, 2) := by decide +kernel
theorem dX7_init_114 : decode cX7_init 114 = .ok (.newarray .int, 2) := by decide +kernel
theorem dX7_init_116 : decode cX7_init 116 = .ok (.putfield 49, 3) := by decide +kernel
theorem dX7_init_119 : decode cX7_init 119 = .ok (.aload_n 0, 1) := by decide +kernel
theorem dX7_init_120 : decode cX7_init 120 = .ok (.iconst (-1), 1) := by decide +kernel
theorem dX7_init_121 : decode cX7_init 121 = .ok (.putfield 52, 3) := by decide +kernel
theorem dX7_init_124 : decode cX7_init 124 = .ok (.return_, 1) := by decide +kernel
theorem dX7_in_0 : decode cX7_in 0 = .ok (.lload_n 0, 1) := by decide +kernel
theorem dX7_in_1 : decode cX7_in 1 = .ok (.lload_n 2, 1) := by decide +kernel
theorem dX7_in_2 : decode cX7_in 2 = .ok (.lcmp, 1) := by decide +kernel
theorem dX7_in_3 : decode cX7_in 3 = .ok (.ifCond .lt 14, 3) := by decide +kernel
theorem dX7_in_6 : decode cX7_in 6 = .ok (.lload_n 0, 1) := by decide +kernel
theorem dX7_in_7 : decode cX7_in 7 = .ok (.lload 4, 2) := by decide +kernel
theorem dX7_in_9 : decode cX7_in 9 = .ok (.lcmp, 1) := by decide +kernel
theorem dX7_in_10 : decode cX7_in 10 = .ok (.ifCond .gt 7, 3) := by decide +kernel
theorem dX7_in_13 : decode cX7_in 13 = .ok (.iconst 1, 1) := by decide +kernel
theorem dX7_in_14 : decode cX7_in 14 = .ok (.goto 4, 3) := by decide +kernel
theorem dX7_in_17 : decode cX7_in 17 = .ok (.iconst 0, 1) := by decide +kernel
theorem dX7_in_18 : decode cX7_in 18 = .ok (.ireturn, 1) := by decide +kernel
theorem dX7_copy_0 : decode cX7_copy 0 = .ok (.iconst 0, 1) := by decide +kernel
theorem dX7_copy_1 : decode cX7_copy 1 = .ok (.istore_n 2, 1) := by decide +kernel
theorem dX7_copy_2 : decode cX7_copy 2 = .ok (.iload_n 2, 1) := by decide +kernel
theorem dX7_copy_3 : decode cX7_copy 3 = .ok (.aload_n 0, 1) := by decide +kernel
theorem dX7_copy_4 : decode cX7_copy 4 = .ok (.arraylength, 1) := by decide +kernel
theorem dX7_copy_5 : decode cX7_copy 5 = .ok (.if_icmp .ge 15, 3) := by decide +kernel
theorem dX7_copy_8 : decode cX7_copy 8 = .ok (.aload_n 1, 1) := by decide +kernel
theorem dX7_copy_9 : decode cX7_copy 9 = .ok (.iload_n 2, 1) := by decide +kernel
theorem dX7_copy_10 : decode cX7_copy 10 = .ok (.aload_n 0, 1) := by decide +kernel
theorem dX7_copy_11 : decode cX7_copy 11 = .ok (.iload_n 2, 1) := by decide +kernel
theorem dX7_copy_12 : decode cX7_copy 12 = .ok (.iaload, 1) := by decide +kernel
theorem dX7_copy_13 : decode cX7_copy 13 = .ok (.iastore, 1) := by decide +kernel
theorem dX7_copy_14 : decode cX7_copy 14 = .ok (.iinc 2 1, 3) := by decide +kernel
theorem dX7_copy_17 : decode cX7_copy 17 = .ok (.goto (-15), 3) := by decide +kernel
theorem dX7_copy_20 : decode cX7_copy 20 = .ok (.return_, 1) := by decide +kernel
theorem dX7_letter_0 : decode cX7_letter 0 = .ok (.iload_n 1, 1) := by decide +kernel
theorem dX7_letter_1 : decode cX7_letter 1 = .ok (.i2l, 1) := by decide +kernel
theorem dX7_letter_2 : decode cX7_letter 2 = .ok (.lconst 1, 1) := by decide +kernel
theorem dX7_letter_3 : decode cX7_letter 3 = .ok (.ldc2_w 56, 3) := by decide +kernel
theorem dX7_letter_6 : decode cX7_letter 6 = .ok (.invokestatic 58, 3) := by decide +kernel
theorem dX7_letter_9 : decode cX7_letter 9 = .ok (.ifCond .ne 6, 3) := by decide +kernel
theorem dX7_letter_12 : decode cX7_letter 12 = .ok (.bipush (-102), 2) := by decide +kernel
theorem dX7_letter_14 : decode cX7_letter 14 = .ok (.ireturn, 1) := by decide +kernel
theorem dX7_letter_15 : decode cX7_letter 15 = .ok (.aload_n 0, 1) := by decide +kernel
theorem dX7_letter_16 : decode cX7_letter 16 = .ok (.getfield 62, 3) := by decide +kernel
theorem dX7_letter_19 : decode cX7_letter 19 = .ok (.bipush 9, 2) := by decide +kernel
theorem dX7_letter_21 : decode cX7_letter 21 = .ok (.if_icmp .ne 6, 3) := by decide +kernel
theorem dX7_letter_24 : decode cX7_letter 24 = .ok (.bipush (-104), 2) := by decide +kernel
theorem dX7_letter_26 : decode cX7_letter 26 = .ok (.ireturn, 1) := by decide +kernel
theorem dX7_letter_27 : decode cX7_letter 27 = .ok (.aload_n 0, 1) := by decide +kernel
theorem dX7_letter_28 : decode cX7_letter 28 = .ok (.getfield 7, 3) := by decide +kernel
theorem dX7_letter_31 : decode cX7_letter 31 = .ok (.aload_n 0, 1) := by decide +kernel
theorem dX7_letter_32 : decode cX7_letter 32 = .ok (.getfield 62, 3) := by decide +kernel
theorem dX7_letter_35 : decode cX7_letter 35 = .ok (.iload_n 1, 1) := by decide +kernel
theorem dX7_letter_36 : decode cX7_letter 36 = .ok (.iastore, 1) := by decide +kernel
theorem dX7_letter_37 : decode cX7_letter 37 = .ok (.aload_n 0, 1) := by decide +kernel
theorem dX7_letter_38 : decode cX7_letter 38 = .ok (.dup, 1) := by decide +kernel
theorem dX7_letter_39 : decode cX7_letter 39 = .ok (.getfield 62, 3) := by decide +kernel
theorem dX7_letter_42 : decode cX7_letter 42 = .ok (.iconst 1, 1) := by decide +kernel
theorem dX7_letter_43 : decode cX7_letter 43 = .ok (.iadd, 1) := by decide +kernel
theorem dX7_letter_44 : decode cX7_letter 44 = .ok (.putfield 62, 3) := by decide +kernel
theorem dX7_letter_47 : decode cX7_letter 47 = .ok (.aload_n 0, 1) := by decide +kernel
theorem dX7_letter_48 : decode cX7_letter 48 = .ok (.getfield 62, 3) := by decide +kernel
theorem dX7_letter_51 : decode cX7_letter 51 = .ok (.ireturn, 1) := by decide +kernel
theorem dX7_blank_0 : decode cX7_blank 0 = .ok (.aload_n 0, 1) := by decide +kernel
theorem dX7_blank_1 : decode cX7_blank 1 = .ok (.getfield 62, 3) := by decide +kernel
theorem dX7_blank_4 : decode cX7_blank 4 = .ok (.istore_n 1, 1) := by decide +kernel
theorem dX7_blank_5 : decode cX7_blank 5 = .ok (.aload_n 0, 1) := by decide +kernel
theorem dX7_blank_6 : decode cX7_blank 6 = .ok (.iconst 0, 1) := by decide +kernel
theorem dX7_blank_7 : decode cX7_blank 7 = .ok (.putfield 62, 3) := by decide +kernel
theorem dX7_blank_10 : decode cX7_blank 10 = .ok (.iload_n 1, 1) := by decide +kernel
theorem dX7_blank_11 : decode cX7_blank 11 = .ok (.ireturn, 1) := by decide +kernel
theorem dX7_kindBy_0 : decode cX7_kindBy 0 = .ok (.iload_n 0, 1) := by decide +kernel
theorem dX7_kindBy_1 : decode cX7_kindBy 1 = .ok (.lookupswitch 61 #[(98, 53), (99, 57), (108, 51), (116, 59), (119, 55)], 51) := by decide +kernel
theorem dX7_kindBy_52 : decode cX7_kindBy 52 = .ok (.iconst 0, 1) := by decide +kernel
theorem dX7_kindBy_53 : decode cX7_kindBy 53 = .ok (.ireturn, 1) := by decide +kernel
theorem dX7_kindBy_54 : decode cX7_kindBy 54 = .ok (.iconst 1, 1) := by decide +kernel
theorem dX7_kindBy_55 : decode cX7_kindBy 55 = .ok (.ireturn, 1) := by decide +kernel
theorem dX7_kindBy_56 : decode cX7_kindBy 56 = .ok (.iconst 2, 1) := by decide +kernel
theorem dX7_kindBy_57 : decode cX7_kindBy 57 = .ok (.ireturn, 1) := by decide +kernel
theorem dX7_kindBy_58 : decode cX7_kindBy 58 = .ok (.iconst 3, 1) := by decide +kernel
theorem dX7_kindBy_59 : decode cX7_kindBy 59 = .ok (.ireturn, 1) := by decide +kernel
theorem dX7_kindBy_60 : decode cX7_kindBy 60 = .ok (.iconst 4, 1) := by decide +kernel
theorem dX7_kindBy_61 : decode cX7_kindBy 61 = .ok (.ireturn, 1) := by decide +kernel
theorem dX7_kindBy_62 : decode cX7_kindBy 62 = .ok (.iconst (-1), 1) := by decide +kernel
theorem dX7_kindBy_63 : decode cX7_kindBy 63 = .ok (.ireturn, 1) := by decide +kernel
theorem dX7_faultOf_0 : decode cX7_faultOf 0 = .ok (.iconst 0, 1) := by decide +kernel
theorem dX7_faultOf_1 : decode cX7_faultOf 1 = .ok (.istore_n 1, 1) := by decide +kernel
theorem dX7_faultOf_2 : decode cX7_faultOf 2 = .ok (.iload_n 1, 1) := by decide +kernel
theorem dX7_faultOf_3 : decode cX7_faultOf 3 = .ok (.aload_n 0, 1) := by decide +kernel
theorem dX7_faultOf_4 : decode cX7_faultOf 4 = .ok (.getfield 62, 3) := by decide +kernel
theorem dX7_faultOf_7 : decode cX7_faultOf 7 = .ok (.if_icmp .ge 28, 3) := by decide +kernel
theorem dX7_faultOf_10 : decode cX7_faultOf 10 = .ok (.iload_n 1, 1) := by decide +kernel
theorem dX7_faultOf_11 : decode cX7_faultOf 11 = .ok (.bipush 7, 2) := by decide +kernel
theorem dX7_faultOf_13 : decode cX7_faultOf 13 = .ok (.if_icmp .ge 22, 3) := by decide +kernel
theorem dX7_faultOf_16 : decode cX7_faultOf 16 = .ok (.aload_n 0, 1) := by decide +kernel
theorem dX7_faultOf_17 : decode cX7_faultOf 17 = .ok (.getfield 7, 3) := by decide +kernel
theorem dX7_faultOf_20 : decode cX7_faultOf 20 = .ok (.iload_n 1, 1) := by decide +kernel
theorem dX7_faultOf_21 : decode cX7_faultOf 21 = .ok (.iaload, 1) := by decide +kernel
theorem dX7_faultOf_22 : decode cX7_faultOf 22 = .ok (.invokestatic 65, 3) := by decide +kernel
theorem dX7_faultOf_25 : decode cX7_faultOf 25 = .ok (.iconst (-1), 1) := by decide +kernel
theorem dX7_faultOf_26 : decode cX7_faultOf 26 = .ok (.if_icmp .eq 9, 3) := by decide +kernel
theorem dX7_faultOf_29 : decode cX7_faultOf 29 = .ok (.iinc 1 1, 3) := by decide +kernel
theorem dX7_faultOf_32 : decode cX7_faultOf 32 = .ok (.goto (-30), 3) := by decide +kernel
theorem dX7_faultOf_35 : decode cX7_faultOf 35 = .ok (.iload_n 1, 1) := by decide +kernel
theorem dX7_faultOf_36 : decode cX7_faultOf 36 = .ok (.ireturn, 1) := by decide +kernel
theorem dX7_fault_0 : decode cX7_fault 0 = .ok (.aload_n 0, 1) := by decide +kernel
theorem dX7_fault_1 : decode cX7_fault 1 = .ok (.invokevirtual 69, 3) := by decide +kernel
theorem dX7_fault_4 : decode cX7_fault 4 = .ok (.ireturn, 1) := by decide +kernel
theorem dX7_strip_0 : decode cX7_strip 0 = .ok (.aload_n 0, 1) := by decide +kernel
theorem dX7_strip_1 : decode cX7_strip 1 = .ok (.invokevirtual 69, 3) := by decide +kernel
theorem dX7_strip_4 : decode cX7_strip 4 = .ok (.aload_n 0, 1) := by decide +kernel
theorem dX7_strip_5 : decode cX7_strip 5 = .ok (.getfield 62, 3) := by decide +kernel
theorem dX7_strip_8 : decode cX7_strip 8 = .ok (.if_icmp .lt 11, 3) := by decide +kernel
theorem dX7_strip_11 : decode cX7_strip 11 = .ok (.aload_n 0, 1) := by decide +kernel
theorem dX7_strip_12 : decode cX7_strip 12 = .ok (.getfield 62, 3) := by decide +kernel
theorem dX7_strip_15 : decode cX7_strip 15 = .ok (.iconst 2, 1) := by decide +kernel
theorem dX7_strip_16 : decode cX7_strip 16 = .ok (.if_icmp .ge 6, 3) := by decide +kernel
theorem dX7_strip_19 : decode cX7_strip 19 = .ok (.bipush (-103), 2) := by decide +kernel
theorem dX7_strip_21 : decode cX7_strip 21 = .ok (.ireturn, 1) := by decide +kernel
theorem dX7_strip_22 : decode cX7_strip 22 = .ok (.aload_n 0, 1) := by decide +kernel
theorem dX7_strip_23 : decode cX7_strip 23 = .ok (.aload_n 0, 1) := by decide +kernel
theorem dX7_strip_24 : decode cX7_strip 24 = .ok (.getfield 62, 3) := by decide +kernel
theorem dX7_strip_27 : decode cX7_strip 27 = .ok (.putfield 73, 3) := by decide +kernel
theorem dX7_strip_30 : decode cX7_strip 30 = .ok (.iconst 0, 1) := by decide +kernel
theorem dX7_strip_31 : decode cX7_strip 31 = .ok (.istore_n 1, 1) := by decide +kernel
theorem dX7_strip_32 : decode cX7_strip 32 = .ok (.iload_n 1, 1) := by decide +kernel
theorem dX7_strip_33 : decode cX7_strip 33 = .ok (.aload_n 0, 1) := by decide +kernel
theorem dX7_strip_34 : decode cX7_strip 34 = .ok (.getfield 73, 3) := by decide +kernel
theorem dX7_strip_37 : decode cX7_strip 37 = .ok (.if_icmp .ge 31, 3) := by decide +kernel
theorem dX7_strip_40 : decode cX7_strip 40 = .ok (.aload_n 0, 1) := by decide +kernel
theorem dX7_strip_41 : decode cX7_strip 41 = .ok (.getfield 13, 3) := by decide +kernel
theorem dX7_strip_44 : decode cX7_strip 44 = .ok (.iload_n 1, 1) := by decide +kernel
theorem dX7_strip_45 : decode cX7_strip 45 = .ok (.aload_n 0, 1) := by decide +kernel
theorem dX7_strip_46 : decode cX7_strip 46 = .ok (.getfield 7, 3) := by decide +kernel
theorem dX7_strip_49 : decode cX7_strip 49 = .ok (.iload_n 1, 1) := by decide +kernel
theorem dX7_strip_50 : decode cX7_strip 50 = .ok (.iaload, 1) := by decide +kernel
theorem dX7_strip_51 : decode cX7_strip 51 = .ok (.invokestatic 65, 3) := by decide +kernel
theorem dX7_strip_54 : decode cX7_strip 54 = .ok (.iastore, 1) := by decide +kernel
theorem dX7_strip_55 : decode cX7_strip 55 = .ok (.aload_n 0, 1) := by decide +kernel
theorem dX7_strip_56 : decode cX7_strip 56 = .ok (.getfield 16, 3) := by decide +kernel
theorem dX7_strip_59 : decode cX7_strip 59 = .ok (.iload_n 1, 1) := by decide +kernel
theorem dX7_strip_60 : decode cX7_strip 60 = .ok (.iload_n 1, 1) := by decide +kernel
theorem dX7_strip_61 : decode cX7_strip 61 = .ok (.iastore, 1) := by decide +kernel
theorem dX7_strip_62 : decode cX7_strip 62 = .ok (.iinc 1 1, 3) := by decide +kernel
theorem dX7_strip_65 : decode cX7_strip 65 = .ok (.goto (-33), 3) := by decide +kernel
theorem dX7_strip_68 : decode cX7_strip 68 = .ok (.aload_n 0, 1) := by decide +kernel
theorem dX7_strip_69 : decode cX7_strip 69 = .ok (.invokevirtual 76, 3) := by decide +kernel
theorem dX7_strip_72 : decode cX7_strip 72 = .ok (.aload_n 0, 1) := by decide +kernel
theorem dX7_strip_73 : decode cX7_strip 73 = .ok (.iconst 0, 1) := by decide +kernel
theorem dX7_strip_74 : decode cX7_strip 74 = .ok (.putfield 79, 3) := by decide +kernel
theorem dX7_strip_77 : decode cX7_strip 77 = .ok (.aload_n 0, 1) := by decide +kernel
theorem dX7_strip_78 : decode cX7_strip 78 = .ok (.iconst 0, 1) := by decide +kernel
theorem dX7_strip_79 : decode cX7_strip 79 = .ok (.putfield 82, 3) := by decide +kernel
theorem dX7_strip_82 : decode cX7_strip 82 = .ok (.aload_n 0, 1) := by decide +kernel
theorem dX7_strip_83 : decode cX7_strip 83 = .ok (.dup, 1) := by decide +kernel
theorem dX7_strip_84 : decode cX7_strip 84 = .ok (.getfield 85, 3) := by decide +kernel
theorem dX7_strip_87 : decode cX7_strip 87 = .ok (.iconst 1, 1) := by decide +kernel
theorem dX7_strip_88 : decode cX7_strip 88 = .ok (.iadd, 1) := by decide +kernel
theorem dX7_strip_89 : decode cX7_strip 89 = .ok (.putfield 85, 3) := by decide +kernel
theorem dX7_strip_92 : decode cX7_strip 92 = .ok (.aload_n 0, 1) := by decide +kernel
theorem dX7_strip_93 : decode cX7_strip 93 = .ok (.iconst 0, 1) := by decide +kernel
theorem dX7_strip_94 : decode cX7_strip 94 = .ok (.putfield 62, 3) := by decide +kernel
theorem dX7_strip_97 : decode cX7_strip 97 = .ok (.aload_n 0, 1) := by decide +kernel
theorem dX7_strip_98 : decode cX7_strip 98 = .ok (.getfield 73, 3) := by decide +kernel
theorem dX7_strip_101 : decode cX7_strip 101 = .ok (.ireturn, 1) := by decide +kernel
theorem dX7_lacks_0 : decode cX7_lacks 0 = .ok (.aload_n 0, 1) := by decide +kernel
theorem dX7_lacks_1 : decode cX7_lacks 1 = .ok (.getfield 73, 3) := by decide +kernel
theorem dX7_lacks_4 : decode cX7_lacks 4 = .ok (.ifCond .ne 7, 3) := by decide +kernel
theorem dX7_lacks_7 : decode cX7_lacks 7 = .ok (.iconst 1, 1) := by decide +kernel
theorem dX7_lacks_8 : decode cX7_lacks 8 = .ok (.goto 4, 3) := by decide +kernel
theorem dX7_lacks_11 : decode cX7_lacks 11 = .ok (.iconst 0, 1) := by decide +kernel
theorem dX7_lacks_12 : decode cX7_lacks 12 = .ok (.ireturn, 1) := by decide +kernel
theorem dX7_isLeaf_0 : decode cX7_isLeaf 0 = .ok (.iload_n 1, 1) := by decide +kernel
theorem dX7_isLeaf_1 : decode cX7_isLeaf 1 = .ok (.i2l, 1) := by decide +kernel
theorem dX7_isLeaf_2 : decode cX7_isLeaf 2 = .ok (.lconst 0, 1) := by decide +kernel
theorem dX7_isLeaf_3 : decode cX7_isLeaf 3 = .ok (.aload_n 0, 1) := by decide +kernel
theorem dX7_isLeaf_4 : decode cX7_isLeaf 4 = .ok (.getfield 73, 3) := by decide +kernel
theorem dX7_isLeaf_7 : decode cX7_isLeaf 7 = .ok (.iconst 1, 1) := by decide +kernel
theorem dX7_isLeaf_8 : decode cX7_isLeaf 8 = .ok (.isub, 1) := by decide +kernel
theorem dX7_isLeaf_9 : decode cX7_isLeaf 9 = .ok (.i2l, 1) := by decide +kernel
theorem dX7_isLeaf_10 : decode cX7_isLeaf 10 = .ok (.invokestatic 58, 3) := by decide +kernel
theorem dX7_isLeaf_13 : decode cX7_isLeaf 13 = .ok (.ireturn, 1) := by decide +kernel
theorem dX7_codeOf_0 : decode cX7_codeOf 0 = .ok (.iconst 0, 1) := by decide +kernel
theorem dX7_codeOf_1 : decode cX7_codeOf 1 = .ok (.istore_n 2, 1) := by decide +kernel
theorem dX7_codeOf_2 : decode cX7_codeOf 2 = .ok (.iconst 0, 1) := by decide +kernel
theorem dX7_codeOf_3 : decode cX7_codeOf 3 = .ok (.istore_n 3, 1) := by decide +kernel
theorem dX7_codeOf_4 : decode cX7_codeOf 4 = .ok (.iload_n 3, 1) := by decide +kernel
theorem dX7_codeOf_5 : decode cX7_codeOf 5 = .ok (.iload_n 1, 1) := by decide +kernel
theorem dX7_codeOf_6 : decode cX7_codeOf 6 = .ok (.if_icmp .ge 18, 3) := by decide +kernel
theorem dX7_codeOf_9 : decode cX7_codeOf 9 = .ok (.bipush 8, 2) := by decide +kernel
theorem dX7_codeOf_11 : decode cX7_codeOf 11 = .ok (.iload_n 2, 1) := by decide +kernel
theorem dX7_codeOf_12 : decode cX7_codeOf 12 = .ok (.imul, 1) := by decide +kernel
theorem dX7_codeOf_13 : decode cX7_codeOf 13 = .ok (.aload_n 0, 1) := by decide +kernel
theorem dX7_codeOf_14 : decode cX7_codeOf 14 = .ok (.iload_n 3, 1) := by decide +kernel
theorem dX7_codeOf_15 : decode cX7_codeOf 15 = .ok (.iaload, 1) := by decide +kernel
theorem dX7_codeOf_16 : decode cX7_codeOf 16 = .ok (.iadd, 1) := by decide +kernel
theorem dX7_codeOf_17 : decode cX7_codeOf 17 = .ok (.istore_n 2, 1) := by decide +kernel
theorem dX7_codeOf_18 : decode cX7_codeOf 18 = .ok (.iinc 3 1, 3) := by decide +kernel
theorem dX7_codeOf_21 : decode cX7_codeOf 21 = .ok (.goto (-17), 3) := by decide +kernel
theorem dX7_codeOf_24 : decode cX7_codeOf 24 = .ok (.iload_n 2, 1) := by decide +kernel
theorem dX7_codeOf_25 : decode cX7_codeOf 25 = .ok (.ireturn, 1) := by decide +kernel
theorem dX7_layRow_0 : decode cX7_layRow 0 = .ok (.iload_n 1, 1) := by decide +kernel
theorem dX7_layRow_1 : decode cX7_layRow 1 = .ok (.istore_n 3, 1) := by decide +kernel
theorem dX7_layRow_2 : decode cX7_layRow 2 = .ok (.aload_n 0, 1) := by decide +kernel
theorem dX7_layRow_3 : decode cX7_layRow 3 = .ok (.getfield 73, 3) := by decide +kernel
theorem dX7_layRow_6 : decode cX7_layRow 6 = .ok (.iconst 1, 1) := by decide +kernel
theorem dX7_layRow_7 : decode cX7_layRow 7 = .ok (.isub, 1) := by decide +kernel
theorem dX7_layRow_8 : decode cX7_layRow 8 = .ok (.istore 4, 2) := by decide +kernel
theorem dX7_layRow_10 : decode cX7_layRow 10 = .ok (.iload 4, 2) := by decide +kernel
theorem dX7_layRow_12 : decode cX7_layRow 12 = .ok (.ifCond .lt 22, 3) := by decide +kernel
theorem dX7_layRow_15 : decode cX7_layRow 15 = .ok (.aload_n 2, 1) := by decide +kernel
theorem dX7_layRow_16 : decode cX7_layRow 16 = .ok (.iload 4, 2) := by decide +kernel
theorem dX7_layRow_18 : decode cX7_layRow 18 = .ok (.iload_n 3, 1) := by decide +kernel
theorem dX7_layRow_19 : decode cX7_layRow 19 = .ok (.bipush 8, 2) := by decide +kernel
theorem dX7_layRow_21 : decode cX7_layRow 21 = .ok (.irem, 1) := by decide +kernel
theorem dX7_layRow_22 : decode cX7_layRow 22 = .ok (.iastore, 1) := by decide +kernel
theorem dX7_layRow_23 : decode cX7_layRow 23 = .ok (.iload_n 3, 1) := by decide +kernel
theorem dX7_layRow_24 : decode cX7_layRow 24 = .ok (.bipush 8, 2) := by decide +kernel
theorem dX7_layRow_26 : decode cX7_layRow 26 = .ok (.idiv, 1) := by decide +kernel
theorem dX7_layRow_27 : decode cX7_layRow 27 = .ok (.istore_n 3, 1) := by decide +kernel
theorem dX7_layRow_28 : decode cX7_layRow 28 = .ok (.iinc 4 (-1), 3) := by decide +kernel
theorem dX7_layRow_31 : decode cX7_layRow 31 = .ok (.goto (-21), 3) := by decide +kernel
theorem dX7_layRow_34 : decode cX7_layRow 34 = .ok (.return_, 1) := by decide +kernel
theorem dX7_layPlaces_0 : decode cX7_layPlaces 0 = .ok (.iconst 0, 1) := by decide +kernel
theorem dX7_layPlaces_1 : decode cX7_layPlaces 1 = .ok (.istore_n 2, 1) := by decide +kernel
theorem dX7_layPlaces_2 : decode cX7_layPlaces 2 = .ok (.iload_n 2, 1) := by decide +kernel
theorem dX7_layPlaces_3 : decode cX7_layPlaces 3 = .ok (.aload_n 0, 1) := by decide +kernel
theorem dX7_layPlaces_4 : decode cX7_layPlaces 4 = .ok (.getfield 73, 3) := by decide +kernel
theorem dX7_layPlaces_7 : decode cX7_layPlaces 7 = .ok (.if_icmp .ge 18, 3) := by decide +kernel
theorem dX7_layPlaces_10 : decode cX7_layPlaces 10 = .ok (.aload_n 0, 1) := by decide +kernel
theorem dX7_layPlaces_11 : decode cX7_layPlaces 11 = .ok (.getfield 22, 3) := by decide +kernel
theorem dX7_layPlaces_14 : decode cX7_layPlaces 14 = .ok (.aload_n 1, 1) := by decide +kernel
theorem dX7_layPlaces_15 : decode cX7_layPlaces 15 = .ok (.iload_n 2, 1) := by decide +kernel
theorem dX7_layPlaces_16 : decode cX7_layPlaces 16 = .ok (.iaload, 1) := by decide +kernel
theorem dX7_layPlaces_17 : decode cX7_layPlaces 17 = .ok (.iload_n 2, 1) := by decide +kernel
theorem dX7_layPlaces_18 : decode cX7_layPlaces 18 = .ok (.iastore, 1) := by decide +kernel
theorem dX7_layPlaces_19 : decode cX7_layPlaces 19 = .ok (.iinc 2 1, 3) := by decide +kernel
theorem dX7_layPlaces_22 : decode cX7_layPlaces 22 = .ok (.goto (-20), 3) := by decide +kernel
theorem dX7_layPlaces_25 : decode cX7_layPlaces 25 = .ok (.return_, 1) := by decide +kernel
theorem dX7_isWithin_0 : decode cX7_isWithin 0 = .ok (.iload_n 1, 1) := by decide +kernel
theorem dX7_isWithin_1 : decode cX7_isWithin 1 = .ok (.iload_n 2, 1) := by decide +kernel
theorem dX7_isWithin_2 : decode cX7_isWithin 2 = .ok (.if_icmp .ge 21, 3) := by decide +kernel
theorem dX7_isWithin_5 : decode cX7_isWithin 5 = .ok (.iload_n 0, 1) := by decide +kernel
theorem dX7_isWithin_6 : decode cX7_isWithin 6 = .ok (.iload_n 1, 1) := by decide +kernel
theorem dX7_isWithin_7 : decode cX7_isWithin 7 = .ok (.if_icmp .le 12, 3) := by decide +kernel
theorem dX7_isWithin_10 : decode cX7_isWithin 10 = .ok (.iload_n 0, 1) := by decide +kernel
theorem dX7_isWithin_11 : decode cX7_isWithin 11 = .ok (.iload_n 2, 1) := by decide +kernel
theorem dX7_isWithin_12 : decode cX7_isWithin 12 = .ok (.if_icmp .ge 7, 3) := by decide +kernel
theorem dX7_isWithin_15 : decode cX7_isWithin 15 = .ok (.iconst 1, 1) := by decide +kernel
theorem dX7_isWithin_16 : decode cX7_isWithin 16 = .ok (.goto 22, 3) := by decide +kernel
theorem dX7_isWithin_19 : decode cX7_isWithin 19 = .ok (.iconst 0, 1) := by decide +kernel
theorem dX7_isWithin_20 : decode cX7_isWithin 20 = .ok (.goto 18, 3) := by decide +kernel
theorem dX7_isWithin_23 : decode cX7_isWithin 23 = .ok (.iload_n 0, 1) := by decide +kernel
theorem dX7_isWithin_24 : decode cX7_isWithin 24 = .ok (.iload_n 2, 1) := by decide +kernel
theorem dX7_isWithin_25 : decode cX7_isWithin 25 = .ok (.if_icmp .le 12, 3) := by decide +kernel
theorem dX7_isWithin_28 : decode cX7_isWithin 28 = .ok (.iload_n 0, 1) := by decide +kernel
theorem dX7_isWithin_29 : decode cX7_isWithin 29 = .ok (.iload_n 1, 1) := by decide +kernel
theorem dX7_isWithin_30 : decode cX7_isWithin 30 = .ok (.if_icmp .ge 7, 3) := by decide +kernel
theorem dX7_isWithin_33 : decode cX7_isWithin 33 = .ok (.iconst 1, 1) := by decide +kernel
theorem dX7_isWithin_34 : decode cX7_isWithin 34 = .ok (.goto 4, 3) := by decide +kernel
theorem dX7_isWithin_37 : decode cX7_isWithin 37 = .ok (.iconst 0, 1) := by decide +kernel
theorem dX7_isWithin_38 : decode cX7_isWithin 38 = .ok (.ireturn, 1) := by decide +kernel
theorem dX7_isFolded_0 : decode cX7_isFolded 0 = .ok (.aload_n 0, 1) := by decide +kernel
theorem dX7_isFolded_1 : decode cX7_isFolded 1 = .ok (.aload_n 1, 1) := by decide +kernel
theorem dX7_isFolded_2 : decode cX7_isFolded 2 = .ok (.invokevirtual 88, 3) := by decide +kernel
theorem dX7_isFolded_5 : decode cX7_isFolded 5 = .ok (.iconst 0, 1) := by decide +kernel
theorem dX7_isFolded_6 : decode cX7_isFolded 6 = .ok (.istore_n 2, 1) := by decide +kernel
theorem dX7_isFolded_7 : decode cX7_isFolded 7 = .ok (.iload_n 2, 1) := by decide +kernel
theorem dX7_isFolded_8 : decode cX7_isFolded 8 = .ok (.iconst 1, 1) := by decide +kernel
theorem dX7_isFolded_9 : decode cX7_isFolded 9 = .ok (.iadd, 1) := by decide +kernel
theorem dX7_isFolded_10 : decode cX7_isFolded 10 = .ok (.aload_n 0, 1) := by decide +kernel
theorem dX7_isFolded_11 : decode cX7_isFolded 11 = .ok (.getfield 73, 3) := by decide +kernel
theorem dX7_isFolded_14 : decode cX7_isFolded 14 = .ok (.if_icmp .ge 90, 3) := by decide +kernel
theorem dX7_isFolded_17 : decode cX7_isFolded 17 = .ok (.iload_n 2, 1) := by decide +kernel
theorem dX7_isFolded_18 : decode cX7_isFolded 18 = .ok (.iconst 2, 1) := by decide +kernel
theorem dX7_isFolded_19 : decode cX7_isFolded 19 = .ok (.iadd, 1) := by decide +kernel
theorem dX7_isFolded_20 : decode cX7_isFolded 20 = .ok (.istore_n 3, 1) := by decide +kernel
theorem dX7_isFolded_21 : decode cX7_isFolded 21 = .ok (.iload_n 3, 1) := by decide +kernel
theorem dX7_isFolded_22 : decode cX7_isFolded 22 = .ok (.iconst 1, 1) := by decide +kernel
theorem dX7_isFolded_23 : decode cX7_isFolded 23 = .ok (.iadd, 1) := by decide +kernel
theorem dX7_isFolded_24 : decode cX7_isFolded 24 = .ok (.aload_n 0, 1) := by decide +kernel
theorem dX7_isFolded_25 : decode cX7_isFolded 25 = .ok (.getfield 73, 3) := by decide +kernel
theorem dX7_isFolded_28 : decode cX7_isFolded 28 = .ok (.if_icmp .ge 70, 3) := by decide +kernel
theorem dX7_isFolded_31 : decode cX7_isFolded 31 = .ok (.aload_n 0, 1) := by decide +kernel
theorem dX7_isFolded_32 : decode cX7_isFolded 32 = .ok (.getfield 22, 3) := by decide +kernel
theorem dX7_isFolded_35 : decode cX7_isFolded 35 = .ok (.iload_n 3, 1) := by decide +kernel
theorem dX7_isFolded_36 : decode cX7_isFolded 36 = .ok (.iaload, 1) := by decide +kernel
theorem dX7_isFolded_37 : decode cX7_isFolded 37 = .ok (.aload_n 0, 1) := by decide +kernel
theorem dX7_isFolded_38 : decode cX7_isFolded 38 = .ok (.getfield 22, 3) := by decide +kernel
theorem dX7_isFolded_41 : decode cX7_isFolded 41 = .ok (.iload_n 2, 1) := by decide +kernel
theorem dX7_isFolded_42 : decode cX7_isFolded 42 = .ok (.iaload, 1) := by decide +kernel
theorem dX7_isFolded_43 : decode cX7_isFolded 43 = .ok (.aload_n 0, 1) := by decide +kernel
theorem dX7_isFolded_44 : decode cX7_isFolded 44 = .ok (.getfield 22, 3) := by decide +kernel
theorem dX7_isFolded_47 : decode cX7_isFolded 47 = .ok (.iload_n 2, 1) := by decide +kernel
theorem dX7_isFolded_48 : decode cX7_isFolded 48 = .ok (.iconst 1, 1) := by decide +kernel
theorem dX7_isFolded_49 : decode cX7_isFolded 49 = .ok (.iadd, 1) := by decide +kernel
theorem dX7_isFolded_50 : decode cX7_isFolded 50 = .ok (.iaload, 1) := by decide +kernel
theorem dX7_isFolded_51 : decode cX7_isFolded 51 = .ok (.invokestatic 92, 3) := by decide +kernel
theorem dX7_isFolded_54 : decode cX7_isFolded 54 = .ok (.istore 4, 2) := by decide +kernel
theorem dX7_isFolded_56 : decode cX7_isFolded 56 = .ok (.aload_n 0, 1) := by decide +kernel
theorem dX7_isFolded_57 : decode cX7_isFolded 57 = .ok (.getfield 22, 3) := by decide +kernel
theorem dX7_isFolded_60 : decode cX7_isFolded 60 = .ok (.iload_n 3, 1) := by decide +kernel
theorem dX7_isFolded_61 : decode cX7_isFolded 61 = .ok (.iconst 1, 1) := by decide +kernel
theorem dX7_isFolded_62 : decode cX7_isFolded 62 = .ok (.iadd, 1) := by decide +kernel
theorem dX7_isFolded_63 : decode cX7_isFolded 63 = .ok (.iaload, 1) := by decide +kernel
theorem dX7_isFolded_64 : decode cX7_isFolded 64 = .ok (.aload_n 0, 1) := by decide +kernel
theorem dX7_isFolded_65 : decode cX7_isFolded 65 = .ok (.getfield 22, 3) := by decide +kernel
theorem dX7_isFolded_68 : decode cX7_isFolded 68 = .ok (.iload_n 2, 1) := by decide +kernel
theorem dX7_isFolded_69 : decode cX7_isFolded 69 = .ok (.iaload, 1) := by decide +kernel
theorem dX7_isFolded_70 : decode cX7_isFolded 70 = .ok (.aload_n 0, 1) := by decide +kernel
theorem dX7_isFolded_71 : decode cX7_isFolded 71 = .ok (.getfield 22, 3) := by decide +kernel
theorem dX7_isFolded_74 : decode cX7_isFolded 74 = .ok (.iload_n 2, 1) := by decide +kernel
theorem dX7_isFolded_75 : decode cX7_isFolded 75 = .ok (.iconst 1, 1) := by decide +kernel
theorem dX7_isFolded_76 : decode cX7_isFolded 76 = .ok (.iadd, 1) := by decide +kernel
theorem dX7_isFolded_77 : decode cX7_isFolded 77 = .ok (.iaload, 1) := by decide +kernel
theorem dX7_isFolded_78 : decode cX7_isFolded 78 = .ok (.invokestatic 92, 3) := by decide +kernel
theorem dX7_isFolded_81 : decode cX7_isFolded 81 = .ok (.istore 5, 2) := by decide +kernel
theorem dX7_isFolded_83 : decode cX7_isFolded 83 = .ok (.iload 4, 2) := by decide +kernel
theorem dX7_isFolded_85 : decode cX7_isFolded 85 = .ok (.iload 5, 2) := by decide +kernel
theorem dX7_isFolded_87 : decode cX7_isFolded 87 = .ok (.if_icmp .eq 5, 3) := by decide +kernel
theorem dX7_isFolded_90 : decode cX7_isFolded 90 = .ok (.iconst 0, 1) := by decide +kernel
theorem dX7_isFolded_91 : decode cX7_isFolded 91 = .ok (.ireturn, 1) := by decide +kernel
theorem dX7_isFolded_92 : decode cX7_isFolded 92 = .ok (.iinc 3 2, 3) := by decide +kernel
theorem dX7_isFolded_95 : decode cX7_isFolded 95 = .ok (.goto (-74), 3) := by decide +kernel
theorem dX7_isFolded_98 : decode cX7_isFolded 98 = .ok (.iinc 2 1, 3) := by decide +kernel
theorem dX7_isFolded_101 : decode cX7_isFolded 101 = .ok (.goto (-94), 3) := by decide +kernel
theorem dX7_isFolded_104 : decode cX7_isFolded 104 = .ok (.iconst 1, 1) := by decide +kernel
theorem dX7_isFolded_105 : decode cX7_isFolded 105 = .ok (.ireturn, 1) := by decide +kernel
theorem dX7_isStepped_0 : decode cX7_isStepped 0 = .ok (.aload_n 0, 1) := by decide +kernel
theorem dX7_isStepped_1 : decode cX7_isStepped 1 = .ok (.getfield 73, 3) := by decide +kernel
theorem dX7_isStepped_4 : decode cX7_isStepped 4 = .ok (.iconst 2, 1) := by decide +kernel
theorem dX7_isStepped_5 : decode cX7_isStepped 5 = .ok (.isub, 1) := by decide +kernel
theorem dX7_isStepped_6 : decode cX7_isStepped 6 = .ok (.istore_n 1, 1) := by decide +kernel
theorem dX7_isStepped_7 : decode cX7_isStepped 7 = .ok (.iload_n 1, 1) := by decide +kernel
theorem dX7_isStepped_8 : decode cX7_isStepped 8 = .ok (.ifCond .lt 26, 3) := by decide +kernel
theorem dX7_isStepped_11 : decode cX7_isStepped 11 = .ok (.aload_n 0, 1) := by decide +kernel
theorem dX7_isStepped_12 : decode cX7_isStepped 12 = .ok (.getfield 25, 3) := by decide +kernel
theorem dX7_isStepped_15 : decode cX7_isStepped 15 = .ok (.iload_n 1, 1) := by decide +kernel
theorem dX7_isStepped_16 : decode cX7_isStepped 16 = .ok (.iaload, 1) := by decide +kernel
theorem dX7_isStepped_17 : decode cX7_isStepped 17 = .ok (.aload_n 0, 1) := by decide +kernel
theorem dX7_isStepped_18 : decode cX7_isStepped 18 = .ok (.getfield 25, 3) := by decide +kernel
theorem dX7_isStepped_21 : decode cX7_isStepped 21 = .ok (.iload_n 1, 1) := by decide +kernel
theorem dX7_isStepped_22 : decode cX7_isStepped 22 = .ok (.iconst 1, 1) := by decide +kernel
theorem dX7_isStepped_23 : decode cX7_isStepped 23 = .ok (.iadd, 1) := by decide +kernel
theorem dX7_isStepped_24 : decode cX7_isStepped 24 = .ok (.iaload, 1) := by decide +kernel
theorem dX7_isStepped_25 : decode cX7_isStepped 25 = .ok (.if_icmp .le 9, 3) := by decide +kernel
theorem dX7_isStepped_28 : decode cX7_isStepped 28 = .ok (.iinc 1 (-1), 3) := by decide +kernel
theorem dX7_isStepped_31 : decode cX7_isStepped 31 = .ok (.goto (-24), 3) := by decide +kernel
theorem dX7_isStepped_34 : decode cX7_isStepped 34 = .ok (.iload_n 1, 1) := by decide +kernel
theorem dX7_isStepped_35 : decode cX7_isStepped 35 = .ok (.ifCond .ge 5, 3) := by decide +kernel
theorem dX7_isStepped_38 : decode cX7_isStepped 38 = .ok (.iconst 0, 1) := by decide +kernel
theorem dX7_isStepped_39 : decode cX7_isStepped 39 = .ok (.ireturn, 1) := by decide +kernel
theorem dX7_isStepped_40 : decode cX7_isStepped 40 = .ok (.aload_n 0, 1) := by decide +kernel
theorem dX7_isStepped_41 : decode cX7_isStepped 41 = .ok (.getfield 73, 3) := by decide +kernel
theorem dX7_isStepped_44 : decode cX7_isStepped 44 = .ok (.iconst 1, 1) := by decide +kernel
theorem dX7_isStepped_45 : decode cX7_isStepped 45 = .ok (.isub, 1) := by decide +kernel
theorem dX7_isStepped_46 : decode cX7_isStepped 46 = .ok (.istore_n 2, 1) := by decide +kernel
theorem dX7_isStepped_47 : decode cX7_isStepped 47 = .ok (.aload_n 0, 1) := by decide +kernel
theorem dX7_isStepped_48 : decode cX7_isStepped 48 = .ok (.getfield 25, 3) := by decide +kernel
theorem dX7_isStepped_51 : decode cX7_isStepped 51 = .ok (.iload_n 2, 1) := by decide +kernel
theorem dX7_isStepped_52 : decode cX7_isStepped 52 = .ok (.iaload, 1) := by decide +kernel
theorem dX7_isStepped_53 : decode cX7_isStepped 53 = .ok (.aload_n 0, 1) := by decide +kernel
theorem dX7_isStepped_54 : decode cX7_isStepped 54 = .ok (.getfield 25, 3) := by decide +kernel
theorem dX7_isStepped_57 : decode cX7_isStepped 57 = .ok (.iload_n 1, 1) := by decide +kernel
theorem dX7_isStepped_58 : decode cX7_isStepped 58 = .ok (.iaload, 1) := by decide +kernel
theorem dX7_isStepped_59 : decode cX7_isStepped 59 = .ok (.if_icmp .ge 9, 3) := by decide +kernel
theorem dX7_isStepped_62 : decode cX7_isStepped 62 = .ok (.iinc 2 (-1), 3) := by decide +kernel
theorem dX7_isStepped_65 : decode cX7_isStepped 65 = .ok (.goto (-18), 3) := by decide +kernel
theorem dX7_isStepped_68 : decode cX7_isStepped 68 = .ok (.aload_n 0, 1) := by decide +kernel
theorem dX7_isStepped_69 : decode cX7_isStepped 69 = .ok (.iload_n 1, 1) := by decide +kernel
theorem dX7_isStepped_70 : decode cX7_isStepped 70 = .ok (.iload_n 2, 1) := by decide +kernel
theorem dX7_isStepped_71 : decode cX7_isStepped 71 = .ok (.invokevirtual 96, 3) := by decide +kernel
theorem dX7_isStepped_74 : decode cX7_isStepped 74 = .ok (.iload_n 1, 1) := by decide +kernel
theorem dX7_isStepped_75 : decode cX7_isStepped 75 = .ok (.iconst 1, 1) := by decide +kernel
theorem dX7_isStepped_76 : decode cX7_isStepped 76 = .ok (.iadd, 1) := by decide +kernel
theorem dX7_isStepped_77 : decode cX7_isStepped 77 = .ok (.istore_n 3, 1) := by decide +kernel
theorem dX7_isStepped_78 : decode cX7_isStepped 78 = .ok (.aload_n 0, 1) := by decide +kernel
theorem dX7_isStepped_79 : decode cX7_isStepped 79 = .ok (.getfield 73, 3) := by decide +kernel
theorem dX7_isStepped_82 : decode cX7_isStepped 82 = .ok (.iconst 1, 1) := by decide +kernel
theorem dX7_isStepped_83 : decode cX7_isStepped 83 = .ok (.isub, 1) := by decide +kernel
theorem dX7_isStepped_84 : decode cX7_isStepped 84 = .ok (.istore 4, 2) := by decide +kernel
theorem dX7_isStepped_86 : decode cX7_isStepped 86 = .ok (.iload_n 3, 1) := by decide +kernel
theorem dX7_isStepped_87 : decode cX7_isStepped 87 = .ok (.iload 4, 2) := by decide +kernel
theorem dX7_isStepped_89 : decode cX7_isStepped 89 = .ok (.if_icmp .ge 19, 3) := by decide +kernel
theorem dX7_isStepped_92 : decode cX7_isStepped 92 = .ok (.aload_n 0, 1) := by decide +kernel
theorem dX7_isStepped_93 : decode cX7_isStepped 93 = .ok (.iload_n 3, 1) := by decide +kernel
theorem dX7_isStepped_94 : decode cX7_isStepped 94 = .ok (.iload 4, 2) := by decide +kernel
theorem dX7_isStepped_96 : decode cX7_isStepped 96 = .ok (.invokevirtual 96, 3) := by decide +kernel
theorem dX7_isStepped_99 : decode cX7_isStepped 99 = .ok (.iinc 3 1, 3) := by decide +kernel
theorem dX7_isStepped_102 : decode cX7_isStepped 102 = .ok (.iinc 4 (-1), 3) := by decide +kernel
theorem dX7_isStepped_105 : decode cX7_isStepped 105 = .ok (.goto (-19), 3) := by decide +kernel
theorem dX7_isStepped_108 : decode cX7_isStepped 108 = .ok (.iconst 1, 1) := by decide +kernel
theorem dX7_isStepped_109 : decode cX7_isStepped 109 = .ok (.ireturn, 1) := by decide +kernel
theorem dX7_trade_0 : decode cX7_trade 0 = .ok (.aload_n 0, 1) := by decide +kernel
theorem dX7_trade_1 : decode cX7_trade 1 = .ok (.getfield 25, 3) := by decide +kernel
theorem dX7_trade_4 : decode cX7_trade 4 = .ok (.iload_n 1, 1) := by decide +kernel
theorem dX7_trade_5 : decode cX7_trade 5 = .ok (.iaload, 1) := by decide +kernel
theorem dX7_trade_6 : decode cX7_trade 6 = .ok (.istore_n 3, 1) := by decide +kernel
theorem dX7_trade_7 : decode cX7_trade 7 = .ok (.aload_n 0, 1) := by decide +kernel
theorem dX7_trade_8 : decode cX7_trade 8 = .ok (.getfield 25, 3) := by decide +kernel
theorem dX7_trade_11 : decode cX7_trade 11 = .ok (.iload_n 1, 1) := by decide +kernel
theorem dX7_trade_12 : decode cX7_trade 12 = .ok (.aload_n 0, 1) := by decide +kernel
theorem dX7_trade_13 : decode cX7_trade 13 = .ok (.getfield 25, 3) := by decide +kernel
theorem dX7_trade_16 : decode cX7_trade 16 = .ok (.iload_n 2, 1) := by decide +kernel
theorem dX7_trade_17 : decode cX7_trade 17 = .ok (.iaload, 1) := by decide +kernel
theorem dX7_trade_18 : decode cX7_trade 18 = .ok (.iastore, 1) := by decide +kernel
theorem dX7_trade_19 : decode cX7_trade 19 = .ok (.aload_n 0, 1) := by decide +kernel
theorem dX7_trade_20 : decode cX7_trade 20 = .ok (.getfield 25, 3) := by decide +kernel
theorem dX7_trade_23 : decode cX7_trade 23 = .ok (.iload_n 2, 1) := by decide +kernel
theorem dX7_trade_24 : decode cX7_trade 24 = .ok (.iload_n 3, 1) := by decide +kernel
theorem dX7_trade_25 : decode cX7_trade 25 = .ok (.iastore, 1) := by decide +kernel
theorem dX7_trade_26 : decode cX7_trade 26 = .ok (.return_, 1) := by decide +kernel
theorem dX7_layOrders_0 : decode cX7_layOrders 0 = .ok (.iconst 0, 1) := by decide +kernel
theorem dX7_layOrders_1 : decode cX7_layOrders 1 = .ok (.istore_n 1, 1) := by decide +kernel
theorem dX7_layOrders_2 : decode cX7_layOrders 2 = .ok (.iload_n 1, 1) := by decide +kernel
theorem dX7_layOrders_3 : decode cX7_layOrders 3 = .ok (.aload_n 0, 1) := by decide +kernel
theorem dX7_layOrders_4 : decode cX7_layOrders 4 = .ok (.getfield 73, 3) := by decide +kernel
theorem dX7_layOrders_7 : decode cX7_layOrders 7 = .ok (.if_icmp .ge 16, 3) := by decide +kernel
theorem dX7_layOrders_10 : decode cX7_layOrders 10 = .ok (.aload_n 0, 1) := by decide +kernel
theorem dX7_layOrders_11 : decode cX7_layOrders 11 = .ok (.getfield 25, 3) := by decide +kernel
theorem dX7_layOrders_14 : decode cX7_layOrders 14 = .ok (.iload_n 1, 1) := by decide +kernel
theorem dX7_layOrders_15 : decode cX7_layOrders 15 = .ok (.iload_n 1, 1) := by decide +kernel
theorem dX7_layOrders_16 : decode cX7_layOrders 16 = .ok (.iastore, 1) := by decide +kernel
theorem dX7_layOrders_17 : decode cX7_layOrders 17 = .ok (.iinc 1 1, 3) := by decide +kernel
theorem dX7_layOrders_20 : decode cX7_layOrders 20 = .ok (.goto (-18), 3) := by decide +kernel
theorem dX7_layOrders_23 : decode cX7_layOrders 23 = .ok (.aload_n 0, 1) := by decide +kernel
theorem dX7_layOrders_24 : decode cX7_layOrders 24 = .ok (.iconst 0, 1) := by decide +kernel
theorem dX7_layOrders_25 : decode cX7_layOrders 25 = .ok (.putfield 100, 3) := by decide +kernel
theorem dX7_layOrders_28 : decode cX7_layOrders 28 = .ok (.iconst 1, 1) := by decide +kernel
theorem dX7_layOrders_29 : decode cX7_layOrders 29 = .ok (.istore_n 1, 1) := by decide +kernel
theorem dX7_layOrders_30 : decode cX7_layOrders 30 = .ok (.iload_n 1, 1) := by decide +kernel
theorem dX7_layOrders_31 : decode cX7_layOrders 31 = .ok (.ifCond .eq 52, 3) := by decide +kernel
theorem dX7_layOrders_34 : decode cX7_layOrders 34 = .ok (.aload_n 0, 1) := by decide +kernel
theorem dX7_layOrders_35 : decode cX7_layOrders 35 = .ok (.aload_n 0, 1) := by decide +kernel
theorem dX7_layOrders_36 : decode cX7_layOrders 36 = .ok (.getfield 25, 3) := by decide +kernel
theorem dX7_layOrders_39 : decode cX7_layOrders 39 = .ok (.invokevirtual 103, 3) := by decide +kernel
theorem dX7_layOrders_42 : decode cX7_layOrders 42 = .ok (.ifCond .eq 33, 3) := by decide +kernel
theorem dX7_layOrders_45 : decode cX7_layOrders 45 = .ok (.aload_n 0, 1) := by decide +kernel
theorem dX7_layOrders_46 : decode cX7_layOrders 46 = .ok (.getfield 19, 3) := by decide +kernel
theorem dX7_layOrders_49 : decode cX7_layOrders 49 = .ok (.aload_n 0, 1) := by decide +kernel
theorem dX7_layOrders_50 : decode cX7_layOrders 50 = .ok (.getfield 100, 3) := by decide +kernel
theorem dX7_layOrders_53 : decode cX7_layOrders 53 = .ok (.aload_n 0, 1) := by decide +kernel
theorem dX7_layOrders_54 : decode cX7_layOrders 54 = .ok (.getfield 25, 3) := by decide +kernel
theorem dX7_layOrders_57 : decode cX7_layOrders 57 = .ok (.aload_n 0, 1) := by decide +kernel
theorem dX7_layOrders_58 : decode cX7_layOrders 58 = .ok (.getfield 73, 3) := by decide +kernel
theorem dX7_layOrders_61 : decode cX7_layOrders 61 = .ok (.invokestatic 107, 3) := by decide +kernel
theorem dX7_layOrders_64 : decode cX7_layOrders 64 = .ok (.iastore, 1) := by decide +kernel
theorem dX7_layOrders_65 : decode cX7_layOrders 65 = .ok (.aload_n 0, 1) := by decide +kernel
theorem dX7_layOrders_66 : decode cX7_layOrders 66 = .ok (.dup, 1) := by decide +kernel
theorem dX7_layOrders_67 : decode cX7_layOrders 67 = .ok (.getfield 100, 3) := by decide +kernel
theorem dX7_layOrders_70 : decode cX7_layOrders 70 = .ok (.iconst 1, 1) := by decide +kernel
theorem dX7_layOrders_71 : decode cX7_layOrders 71 = .ok (.iadd, 1) := by decide +kernel
theorem dX7_layOrders_72 : decode cX7_layOrders 72 = .ok (.putfield 100, 3) := by decide +kernel
theorem dX7_layOrders_75 : decode cX7_layOrders 75 = .ok (.aload_n 0, 1) := by decide +kernel
theorem dX7_layOrders_76 : decode cX7_layOrders 76 = .ok (.invokevirtual 111, 3) := by decide +kernel
theorem dX7_layOrders_79 : decode cX7_layOrders 79 = .ok (.istore_n 1, 1) := by decide +kernel
theorem dX7_layOrders_80 : decode cX7_layOrders 80 = .ok (.goto (-50), 3) := by decide +kernel
theorem dX7_layOrders_83 : decode cX7_layOrders 83 = .ok (.return_, 1) := by decide +kernel
theorem dX7_orderOf_0 : decode cX7_orderOf 0 = .ok (.iconst 0, 1) := by decide +kernel
theorem dX7_orderOf_1 : decode cX7_orderOf 1 = .ok (.istore_n 2, 1) := by decide +kernel
theorem dX7_orderOf_2 : decode cX7_orderOf 2 = .ok (.aload_n 0, 1) := by decide +kernel
theorem dX7_orderOf_3 : decode cX7_orderOf 3 = .ok (.getfield 19, 3) := by decide +kernel
theorem dX7_orderOf_6 : decode cX7_orderOf 6 = .ok (.iload_n 2, 1) := by decide +kernel
theorem dX7_orderOf_7 : decode cX7_orderOf 7 = .ok (.iaload, 1) := by decide +kernel
theorem dX7_orderOf_8 : decode cX7_orderOf 8 = .ok (.iload_n 1, 1) := by decide +kernel
theorem dX7_orderOf_9 : decode cX7_orderOf 9 = .ok (.if_icmp .eq 9, 3) := by decide +kernel
theorem dX7_orderOf_12 : decode cX7_orderOf 12 = .ok (.iinc 2 1, 3) := by decide +kernel
theorem dX7_orderOf_15 : decode cX7_orderOf 15 = .ok (.goto (-13), 3) := by decide +kernel
theorem dX7_orderOf_18 : decode cX7_orderOf 18 = .ok (.iload_n 2, 1) := by decide +kernel
theorem dX7_orderOf_19 : decode cX7_orderOf 19 = .ok (.ireturn, 1) := by decide +kernel
theorem dX7_orderNow_0 : decode cX7_orderNow 0 = .ok (.aload_n 0, 1) := by decide +kernel
theorem dX7_orderNow_1 : decode cX7_orderNow 1 = .ok (.aload_n 0, 1) := by decide +kernel
theorem dX7_orderNow_2 : decode cX7_orderNow 2 = .ok (.getfield 16, 3) := by decide +kernel
theorem dX7_orderNow_5 : decode cX7_orderNow 5 = .ok (.aload_n 0, 1) := by decide +kernel
theorem dX7_orderNow_6 : decode cX7_orderNow 6 = .ok (.getfield 73, 3) := by decide +kernel
theorem dX7_orderNow_9 : decode cX7_orderNow 9 = .ok (.invokestatic 107, 3) := by decide +kernel
theorem dX7_orderNow_12 : decode cX7_orderNow 12 = .ok (.invokevirtual 115, 3) := by decide +kernel
theorem dX7_orderNow_15 : decode cX7_orderNow 15 = .ok (.ireturn, 1) := by decide +kernel
theorem dX7_isOrder_0 : decode cX7_isOrder 0 = .ok (.aload_n 0, 1) := by decide +kernel
theorem dX7_isOrder_1 : decode cX7_isOrder 1 = .ok (.invokevirtual 118, 3) := by decide +kernel
theorem dX7_isOrder_4 : decode cX7_isOrder 4 = .ok (.ifCond .ne 23, 3) := by decide +kernel
theorem dX7_isOrder_7 : decode cX7_isOrder 7 = .ok (.iload_n 1, 1) := by decide +kernel
theorem dX7_isOrder_8 : decode cX7_isOrder 8 = .ok (.i2l, 1) := by decide +kernel
theorem dX7_isOrder_9 : decode cX7_isOrder 9 = .ok (.lconst 0, 1) := by decide +kernel
theorem dX7_isOrder_10 : decode cX7_isOrder 10 = .ok (.aload_n 0, 1) := by decide +kernel
theorem dX7_isOrder_11 : decode cX7_isOrder 11 = .ok (.getfield 100, 3) := by decide +kernel
theorem dX7_isOrder_14 : decode cX7_isOrder 14 = .ok (.iconst 1, 1) := by decide +kernel
theorem dX7_isOrder_15 : decode cX7_isOrder 15 = .ok (.isub, 1) := by decide +kernel
theorem dX7_isOrder_16 : decode cX7_isOrder 16 = .ok (.i2l, 1) := by decide +kernel
theorem dX7_isOrder_17 : decode cX7_isOrder 17 = .ok (.invokestatic 58, 3) := by decide +kernel
theorem dX7_isOrder_20 : decode cX7_isOrder 20 = .ok (.ifCond .eq 7, 3) := by decide +kernel
theorem dX7_isOrder_23 : decode cX7_isOrder 23 = .ok (.iconst 1, 1) := by decide +kernel
theorem dX7_isOrder_24 : decode cX7_isOrder 24 = .ok (.goto 4, 3) := by decide +kernel
theorem dX7_isOrder_27 : decode cX7_isOrder 27 = .ok (.iconst 0, 1) := by decide +kernel
theorem dX7_isOrder_28 : decode cX7_isOrder 28 = .ok (.ireturn, 1) := by decide +kernel
theorem dX7_isSticky_0 : decode cX7_isSticky 0 = .ok (.aload_n 0, 1) := by decide +kernel
theorem dX7_isSticky_1 : decode cX7_isSticky 1 = .ok (.getfield 13, 3) := by decide +kernel
theorem dX7_isSticky_4 : decode cX7_isSticky 4 = .ok (.iload_n 1, 1) := by decide +kernel
theorem dX7_isSticky_5 : decode cX7_isSticky 5 = .ok (.iaload, 1) := by decide +kernel
theorem dX7_isSticky_6 : decode cX7_isSticky 6 = .ok (.iconst 2, 1) := by decide +kernel
theorem dX7_isSticky_7 : decode cX7_isSticky 7 = .ok (.if_icmp .eq 13, 3) := by decide +kernel
theorem dX7_isSticky_10 : decode cX7_isSticky 10 = .ok (.aload_n 0, 1) := by decide +kernel
theorem dX7_isSticky_11 : decode cX7_isSticky 11 = .ok (.getfield 13, 3) := by decide +kernel
theorem dX7_isSticky_14 : decode cX7_isSticky 14 = .ok (.iload_n 1, 1) := by decide +kernel
theorem dX7_isSticky_15 : decode cX7_isSticky 15 = .ok (.iaload, 1) := by decide +kernel
theorem dX7_isSticky_16 : decode cX7_isSticky 16 = .ok (.iconst 4, 1) := by decide +kernel
theorem dX7_isSticky_17 : decode cX7_isSticky 17 = .ok (.if_icmp .ne 7, 3) := by decide +kernel
theorem dX7_isSticky_20 : decode cX7_isSticky 20 = .ok (.iconst 1, 1) := by decide +kernel
theorem dX7_isSticky_21 : decode cX7_isSticky 21 = .ok (.goto 4, 3) := by decide +kernel
theorem dX7_isSticky_24 : decode cX7_isSticky 24 = .ok (.iconst 0, 1) := by decide +kernel
theorem dX7_isSticky_25 : decode cX7_isSticky 25 = .ok (.ireturn, 1) := by decide +kernel
theorem dX7_isRight_0 : decode cX7_isRight 0 = .ok (.iload_n 2, 1) := by decide +kernel
theorem dX7_isRight_1 : decode cX7_isRight 1 = .ok (.ifCond .eq 13, 3) := by decide +kernel
theorem dX7_isRight_4 : decode cX7_isRight 4 = .ok (.iload_n 2, 1) := by decide +kernel
theorem dX7_isRight_5 : decode cX7_isRight 5 = .ok (.aload_n 0, 1) := by decide +kernel
theorem dX7_isRight_6 : decode cX7_isRight 6 = .ok (.getfield 73, 3) := by decide +kernel
theorem dX7_isRight_9 : decode cX7_isRight 9 = .ok (.iconst 1, 1) := by decide +kernel
theorem dX7_isRight_10 : decode cX7_isRight 10 = .ok (.isub, 1) := by decide +kernel
theorem dX7_isRight_11 : decode cX7_isRight 11 = .ok (.if_icmp .ne 7, 3) := by decide +kernel
theorem dX7_isRight_14 : decode cX7_isRight 14 = .ok (.iconst 1, 1) := by decide +kernel
theorem dX7_isRight_15 : decode cX7_isRight 15 = .ok (.goto 4, 3) := by decide +kernel
theorem dX7_isRight_18 : decode cX7_isRight 18 = .ok (.iconst 0, 1) := by decide +kernel
theorem dX7_isRight_19 : decode cX7_isRight 19 = .ok (.istore_n 3, 1) := by decide +kernel
theorem dX7_isRight_20 : decode cX7_isRight 20 = .ok (.iload_n 2, 1) := by decide +kernel
theorem dX7_isRight_21 : decode cX7_isRight 21 = .ok (.ifCond .le 15, 3) := by decide +kernel
theorem dX7_isRight_24 : decode cX7_isRight 24 = .ok (.aload_n 0, 1) := by decide +kernel
theorem dX7_isRight_25 : decode cX7_isRight 25 = .ok (.aload_n 1, 1) := by decide +kernel
theorem dX7_isRight_26 : decode cX7_isRight 26 = .ok (.iload_n 2, 1) := by decide +kernel
theorem dX7_isRight_27 : decode cX7_isRight 27 = .ok (.iconst 1, 1) := by decide +kernel
theorem dX7_isRight_28 : decode cX7_isRight 28 = .ok (.isub, 1) := by decide +kernel
theorem dX7_isRight_29 : decode cX7_isRight 29 = .ok (.iaload, 1) := by decide +kernel
theorem dX7_isRight_30 : decode cX7_isRight 30 = .ok (.invokevirtual 121, 3) := by decide +kernel
theorem dX7_isRight_33 : decode cX7_isRight 33 = .ok (.ifCond .ne 25, 3) := by decide +kernel
theorem dX7_isRight_36 : decode cX7_isRight 36 = .ok (.iload_n 2, 1) := by decide +kernel
theorem dX7_isRight_37 : decode cX7_isRight 37 = .ok (.aload_n 0, 1) := by decide +kernel
theorem dX7_isRight_38 : decode cX7_isRight 38 = .ok (.getfield 73, 3) := by decide +kernel
theorem dX7_isRight_41 : decode cX7_isRight 41 = .ok (.iconst 1, 1) := by decide +kernel
theorem dX7_isRight_42 : decode cX7_isRight 42 = .ok (.isub, 1) := by decide +kernel
theorem dX7_isRight_43 : decode cX7_isRight 43 = .ok (.if_icmp .ge 19, 3) := by decide +kernel
theorem dX7_isRight_46 : decode cX7_isRight 46 = .ok (.aload_n 0, 1) := by decide +kernel
theorem dX7_isRight_47 : decode cX7_isRight 47 = .ok (.aload_n 1, 1) := by decide +kernel
theorem dX7_isRight_48 : decode cX7_isRight 48 = .ok (.iload_n 2, 1) := by decide +kernel
theorem dX7_isRight_49 : decode cX7_isRight 49 = .ok (.iconst 1, 1) := by decide +kernel
theorem dX7_isRight_50 : decode cX7_isRight 50 = .ok (.iadd, 1) := by decide +kernel
theorem dX7_isRight_51 : decode cX7_isRight 51 = .ok (.iaload, 1) := by decide +kernel
theorem dX7_isRight_52 : decode cX7_isRight 52 = .ok (.invokevirtual 121, 3) := by decide +kernel
theorem dX7_isRight_55 : decode cX7_isRight 55 = .ok (.ifCond .eq 7, 3) := by decide +kernel
theorem dX7_isRight_58 : decode cX7_isRight 58 = .ok (.iconst 1, 1) := by decide +kernel
theorem dX7_isRight_59 : decode cX7_isRight 59 = .ok (.goto 4, 3) := by decide +kernel
theorem dX7_isRight_62 : decode cX7_isRight 62 = .ok (.iconst 0, 1) := by decide +kernel
theorem dX7_isRight_63 : decode cX7_isRight 63 = .ok (.istore 4, 2) := by decide +kernel
theorem dX7_isRight_65 : decode cX7_isRight 65 = .ok (.aload_n 0, 1) := by decide +kernel
theorem dX7_isRight_66 : decode cX7_isRight 66 = .ok (.getfield 13, 3) := by decide +kernel
theorem dX7_isRight_69 : decode cX7_isRight 69 = .ok (.aload_n 1, 1) := by decide +kernel
theorem dX7_isRight_70 : decode cX7_isRight 70 = .ok (.iload_n 2, 1) := by decide +kernel
theorem dX7_isRight_71 : decode cX7_isRight 71 = .ok (.iaload, 1) := by decide +kernel
theorem dX7_isRight_72 : decode cX7_isRight 72 = .ok (.iaload, 1) := by decide +kernel
theorem dX7_isRight_73 : decode cX7_isRight 73 = .ok (.tableswitch 55 2 4 #[29, 27, 40], 27) := by decide +kernel
theorem dX7_isRight_100 : decode cX7_isRight 100 = .ok (.iload_n 3, 1) := by decide +kernel
theorem dX7_isRight_101 : decode cX7_isRight 101 = .ok (.ireturn, 1) := by decide +kernel
theorem dX7_isRight_102 : decode cX7_isRight 102 = .ok (.iload 4, 2) := by decide +kernel
theorem dX7_isRight_104 : decode cX7_isRight 104 = .ok (.ifCond .ne 7, 3) := by decide +kernel
theorem dX7_isRight_107 : decode cX7_isRight 107 = .ok (.iconst 1, 1) := by decide +kernel
theorem dX7_isRight_108 : decode cX7_isRight 108 = .ok (.goto 4, 3) := by decide +kernel
theorem dX7_isRight_111 : decode cX7_isRight 111 = .ok (.iconst 0, 1) := by decide +kernel
theorem dX7_isRight_112 : decode cX7_isRight 112 = .ok (.ireturn, 1) := by decide +kernel
theorem dX7_isRight_113 : decode cX7_isRight 113 = .ok (.iload 4, 2) := by decide +kernel
theorem dX7_isRight_115 : decode cX7_isRight 115 = .ok (.ifCond .ne 11, 3) := by decide +kernel
theorem dX7_isRight_118 : decode cX7_isRight 118 = .ok (.iload_n 3, 1) := by decide +kernel
theorem dX7_isRight_119 : decode cX7_isRight 119 = .ok (.ifCond .ne 7, 3) := by decide +kernel
theorem dX7_isRight_122 : decode cX7_isRight 122 = .ok (.iconst 1, 1) := by decide +kernel
theorem dX7_isRight_123 : decode cX7_isRight 123 = .ok (.goto 4, 3) := by decide +kernel
theorem dX7_isRight_126 : decode cX7_isRight 126 = .ok (.iconst 0, 1) := by decide +kernel
theorem dX7_isRight_127 : decode cX7_isRight 127 = .ok (.ireturn, 1) := by decide +kernel
theorem dX7_isRight_128 : decode cX7_isRight 128 = .ok (.iconst 1, 1) := by decide +kernel
theorem dX7_isRight_129 : decode cX7_isRight 129 = .ok (.ireturn, 1) := by decide +kernel
theorem dX7_rightMany_0 : decode cX7_rightMany 0 = .ok (.iconst 0, 1) := by decide +kernel
theorem dX7_rightMany_1 : decode cX7_rightMany 1 = .ok (.istore_n 2, 1) := by decide +kernel
theorem dX7_rightMany_2 : decode cX7_rightMany 2 = .ok (.iconst 0, 1) := by decide +kernel
theorem dX7_rightMany_3 : decode cX7_rightMany 3 = .ok (.istore_n 3, 1) := by decide +kernel
theorem dX7_rightMany_4 : decode cX7_rightMany 4 = .ok (.iload_n 3, 1) := by decide +kernel
theorem dX7_rightMany_5 : decode cX7_rightMany 5 = .ok (.aload_n 0, 1) := by decide +kernel
theorem dX7_rightMany_6 : decode cX7_rightMany 6 = .ok (.getfield 73, 3) := by decide +kernel
theorem dX7_rightMany_9 : decode cX7_rightMany 9 = .ok (.if_icmp .ge 26, 3) := by decide +kernel
theorem dX7_rightMany_12 : decode cX7_rightMany 12 = .ok (.iload_n 2, 1) := by decide +kernel
theorem dX7_rightMany_13 : decode cX7_rightMany 13 = .ok (.aload_n 0, 1) := by decide +kernel
theorem dX7_rightMany_14 : decode cX7_rightMany 14 = .ok (.aload_n 1, 1) := by decide +kernel
theorem dX7_rightMany_15 : decode cX7_rightMany 15 = .ok (.iload_n 3, 1) := by decide +kernel
theorem dX7_rightMany_16 : decode cX7_rightMany 16 = .ok (.invokevirtual 125, 3) := by decide +kernel
theorem dX7_rightMany_19 : decode cX7_rightMany 19 = .ok (.ifCond .eq 7, 3) := by decide +kernel
theorem dX7_rightMany_22 : decode cX7_rightMany 22 = .ok (.iconst 1, 1) := by decide +kernel
theorem dX7_rightMany_23 : decode cX7_rightMany 23 = .ok (.goto 4, 3) := by decide +kernel
theorem dX7_rightMany_26 : decode cX7_rightMany 26 = .ok (.iconst 0, 1) := by decide +kernel
theorem dX7_rightMany_27 : decode cX7_rightMany 27 = .ok (.iadd, 1) := by decide +kernel
theorem dX7_rightMany_28 : decode cX7_rightMany 28 = .ok (.istore_n 2, 1) := by decide +kernel
theorem dX7_rightMany_29 : decode cX7_rightMany 29 = .ok (.iinc 3 1, 3) := by decide +kernel
theorem dX7_rightMany_32 : decode cX7_rightMany 32 = .ok (.goto (-28), 3) := by decide +kernel
theorem dX7_rightMany_35 : decode cX7_rightMany 35 = .ok (.iload_n 2, 1) := by decide +kernel
theorem dX7_rightMany_36 : decode cX7_rightMany 36 = .ok (.ireturn, 1) := by decide +kernel
theorem dX7_isFit_0 : decode cX7_isFit 0 = .ok (.aload_n 0, 1) := by decide +kernel
theorem dX7_isFit_1 : decode cX7_isFit 1 = .ok (.aload_n 1, 1) := by decide +kernel
theorem dX7_isFit_2 : decode cX7_isFit 2 = .ok (.invokevirtual 129, 3) := by decide +kernel
theorem dX7_isFit_5 : decode cX7_isFit 5 = .ok (.aload_n 0, 1) := by decide +kernel
theorem dX7_isFit_6 : decode cX7_isFit 6 = .ok (.getfield 73, 3) := by decide +kernel
theorem dX7_isFit_9 : decode cX7_isFit 9 = .ok (.if_icmp .ne 7, 3) := by decide +kernel
theorem dX7_isFit_12 : decode cX7_isFit 12 = .ok (.iconst 1, 1) := by decide +kernel
theorem dX7_isFit_13 : decode cX7_isFit 13 = .ok (.goto 4, 3) := by decide +kernel
theorem dX7_isFit_16 : decode cX7_isFit 16 = .ok (.iconst 0, 1) := by decide +kernel
theorem dX7_isFit_17 : decode cX7_isFit 17 = .ok (.ireturn, 1) := by decide +kernel
theorem dX7_isFitOrder_0 : decode cX7_isFitOrder 0 = .ok (.aload_n 0, 1) := by decide +kernel
theorem dX7_isFitOrder_1 : decode cX7_isFitOrder 1 = .ok (.aload_n 0, 1) := by decide +kernel
theorem dX7_isFitOrder_2 : decode cX7_isFitOrder 2 = .ok (.getfield 19, 3) := by decide +kernel
theorem dX7_isFitOrder_5 : decode cX7_isFitOrder 5 = .ok (.iload_n 1, 1) := by decide +kernel
theorem dX7_isFitOrder_6 : decode cX7_isFitOrder 6 = .ok (.iaload, 1) := by decide +kernel
theorem dX7_isFitOrder_7 : decode cX7_isFitOrder 7 = .ok (.aload_n 0, 1) := by decide +kernel
theorem dX7_isFitOrder_8 : decode cX7_isFitOrder 8 = .ok (.getfield 25, 3) := by decide +kernel
theorem dX7_isFitOrder_11 : decode cX7_isFitOrder 11 = .ok (.invokevirtual 133, 3) := by decide +kernel
theorem dX7_isFitOrder_14 : decode cX7_isFitOrder 14 = .ok (.aload_n 0, 1) := by decide +kernel
theorem dX7_isFitOrder_15 : decode cX7_isFitOrder 15 = .ok (.aload_n 0, 1) := by decide +kernel
theorem dX7_isFitOrder_16 : decode cX7_isFitOrder 16 = .ok (.getfield 25, 3) := by decide +kernel
theorem dX7_isFitOrder_19 : decode cX7_isFitOrder 19 = .ok (.invokevirtual 137, 3) := by decide +kernel
theorem dX7_isFitOrder_22 : decode cX7_isFitOrder 22 = .ok (.ireturn, 1) := by decide +kernel
theorem dX7_thick_0 : decode cX7_thick 0 = .ok (.aload_n 0, 1) := by decide +kernel
theorem dX7_thick_1 : decode cX7_thick 1 = .ok (.getfield 13, 3) := by decide +kernel
theorem dX7_thick_4 : decode cX7_thick 4 = .ok (.iload_n 1, 1) := by decide +kernel
theorem dX7_thick_5 : decode cX7_thick 5 = .ok (.iaload, 1) := by decide +kernel
theorem dX7_thick_6 : decode cX7_thick 6 = .ok (.iconst 1, 1) := by decide +kernel
theorem dX7_thick_7 : decode cX7_thick 7 = .ok (.if_icmp .eq 13, 3) := by decide +kernel
theorem dX7_thick_10 : decode cX7_thick 10 = .ok (.aload_n 0, 1) := by decide +kernel
theorem dX7_thick_11 : decode cX7_thick 11 = .ok (.getfield 13, 3) := by decide +kernel
theorem dX7_thick_14 : decode cX7_thick 14 = .ok (.iload_n 1, 1) := by decide +kernel
theorem dX7_thick_15 : decode cX7_thick 15 = .ok (.iaload, 1) := by decide +kernel
theorem dX7_thick_16 : decode cX7_thick 16 = .ok (.iconst 3, 1) := by decide +kernel
theorem dX7_thick_17 : decode cX7_thick 17 = .ok (.if_icmp .ne 7, 3) := by decide +kernel
theorem dX7_thick_20 : decode cX7_thick 20 = .ok (.iconst 3, 1) := by decide +kernel
theorem dX7_thick_21 : decode cX7_thick 21 = .ok (.goto 4, 3) := by decide +kernel
theorem dX7_thick_24 : decode cX7_thick 24 = .ok (.iconst 1, 1) := by decide +kernel
theorem dX7_thick_25 : decode cX7_thick 25 = .ok (.ireturn, 1) := by decide +kernel
theorem dX7_wideOf_0 : decode cX7_wideOf 0 = .ok (.aload_n 0, 1) := by decide +kernel
theorem dX7_wideOf_1 : decode cX7_wideOf 1 = .ok (.aload_n 1, 1) := by decide +kernel
theorem dX7_wideOf_2 : decode cX7_wideOf 2 = .ok (.invokevirtual 88, 3) := by decide +kernel
theorem dX7_wideOf_5 : decode cX7_wideOf 5 = .ok (.iconst 0, 1) := by decide +kernel
theorem dX7_wideOf_6 : decode cX7_wideOf 6 = .ok (.istore_n 3, 1) := by decide +kernel
theorem dX7_wideOf_7 : decode cX7_wideOf 7 = .ok (.iconst 0, 1) := by decide +kernel
theorem dX7_wideOf_8 : decode cX7_wideOf 8 = .ok (.istore 4, 2) := by decide +kernel
theorem dX7_wideOf_10 : decode cX7_wideOf 10 = .ok (.iload 4, 2) := by decide +kernel
theorem dX7_wideOf_12 : decode cX7_wideOf 12 = .ok (.aload_n 0, 1) := by decide +kernel
theorem dX7_wideOf_13 : decode cX7_wideOf 13 = .ok (.getfield 73, 3) := by decide +kernel
theorem dX7_wideOf_16 : decode cX7_wideOf 16 = .ok (.if_icmp .ge 46, 3) := by decide +kernel
theorem dX7_wideOf_19 : decode cX7_wideOf 19 = .ok (.iload_n 3, 1) := by decide +kernel
theorem dX7_wideOf_20 : decode cX7_wideOf 20 = .ok (.iload 4, 2) := by decide +kernel
theorem dX7_wideOf_22 : decode cX7_wideOf 22 = .ok (.aload_n 0, 1) := by decide +kernel
theorem dX7_wideOf_23 : decode cX7_wideOf 23 = .ok (.getfield 22, 3) := by decide +kernel
theorem dX7_wideOf_26 : decode cX7_wideOf 26 = .ok (.iload_n 2, 1) := by decide +kernel
theorem dX7_wideOf_27 : decode cX7_wideOf 27 = .ok (.iaload, 1) := by decide +kernel
theorem dX7_wideOf_28 : decode cX7_wideOf 28 = .ok (.aload_n 0, 1) := by decide +kernel
theorem dX7_wideOf_29 : decode cX7_wideOf 29 = .ok (.getfield 22, 3) := by decide +kernel
theorem dX7_wideOf_32 : decode cX7_wideOf 32 = .ok (.iload_n 2, 1) := by decide +kernel
theorem dX7_wideOf_33 : decode cX7_wideOf 33 = .ok (.iconst 1, 1) := by decide +kernel
theorem dX7_wideOf_34 : decode cX7_wideOf 34 = .ok (.iadd, 1) := by decide +kernel
theorem dX7_wideOf_35 : decode cX7_wideOf 35 = .ok (.iaload, 1) := by decide +kernel
theorem dX7_wideOf_36 : decode cX7_wideOf 36 = .ok (.invokestatic 92, 3) := by decide +kernel
theorem dX7_wideOf_39 : decode cX7_wideOf 39 = .ok (.ifCond .eq 14, 3) := by decide +kernel
theorem dX7_wideOf_42 : decode cX7_wideOf 42 = .ok (.aload_n 0, 1) := by decide +kernel
theorem dX7_wideOf_43 : decode cX7_wideOf 43 = .ok (.aload_n 1, 1) := by decide +kernel
theorem dX7_wideOf_44 : decode cX7_wideOf 44 = .ok (.iload 4, 2) := by decide +kernel
theorem dX7_wideOf_46 : decode cX7_wideOf 46 = .ok (.iaload, 1) := by decide +kernel
theorem dX7_wideOf_47 : decode cX7_wideOf 47 = .ok (.invokevirtual 140, 3) := by decide +kernel
theorem dX7_wideOf_50 : decode cX7_wideOf 50 = .ok (.goto 4, 3) := by decide +kernel
theorem dX7_wideOf_53 : decode cX7_wideOf 53 = .ok (.iconst 0, 1) := by decide +kernel
theorem dX7_wideOf_54 : decode cX7_wideOf 54 = .ok (.iadd, 1) := by decide +kernel
theorem dX7_wideOf_55 : decode cX7_wideOf 55 = .ok (.istore_n 3, 1) := by decide +kernel
theorem dX7_wideOf_56 : decode cX7_wideOf 56 = .ok (.iinc 4 1, 3) := by decide +kernel
theorem dX7_wideOf_59 : decode cX7_wideOf 59 = .ok (.goto (-49), 3) := by decide +kernel
theorem dX7_wideOf_62 : decode cX7_wideOf 62 = .ok (.iload_n 3, 1) := by decide +kernel
theorem dX7_wideOf_63 : decode cX7_wideOf 63 = .ok (.ireturn, 1) := by decide +kernel
theorem dX7_widest_0 : decode cX7_widest 0 = .ok (.iconst 0, 1) := by decide +kernel
theorem dX7_widest_1 : decode cX7_widest 1 = .ok (.istore_n 2, 1) := by decide +kernel
theorem dX7_widest_2 : decode cX7_widest 2 = .ok (.iconst 0, 1) := by decide +kernel
theorem dX7_widest_3 : decode cX7_widest 3 = .ok (.istore_n 3, 1) := by decide +kernel
theorem dX7_widest_4 : decode cX7_widest 4 = .ok (.iload_n 3, 1) := by decide +kernel
theorem dX7_widest_5 : decode cX7_widest 5 = .ok (.iconst 1, 1) := by decide +kernel
theorem dX7_widest_6 : decode cX7_widest 6 = .ok (.iadd, 1) := by decide +kernel
theorem dX7_widest_7 : decode cX7_widest 7 = .ok (.aload_n 0, 1) := by decide +kernel
theorem dX7_widest_8 : decode cX7_widest 8 = .ok (.getfield 73, 3) := by decide +kernel
theorem dX7_widest_11 : decode cX7_widest 11 = .ok (.if_icmp .ge 30, 3) := by decide +kernel
theorem dX7_widest_14 : decode cX7_widest 14 = .ok (.aload_n 0, 1) := by decide +kernel
theorem dX7_widest_15 : decode cX7_widest 15 = .ok (.aload_n 1, 1) := by decide +kernel
theorem dX7_widest_16 : decode cX7_widest 16 = .ok (.iload_n 3, 1) := by decide +kernel
theorem dX7_widest_17 : decode cX7_widest 17 = .ok (.invokevirtual 143, 3) := by decide +kernel
theorem dX7_widest_20 : decode cX7_widest 20 = .ok (.istore 4, 2) := by decide +kernel
theorem dX7_widest_22 : decode cX7_widest 22 = .ok (.iload 4, 2) := by decide +kernel
theorem dX7_widest_24 : decode cX7_widest 24 = .ok (.iload_n 2, 1) := by decide +kernel
theorem dX7_widest_25 : decode cX7_widest 25 = .ok (.if_icmp .le 8, 3) := by decide +kernel
theorem dX7_widest_28 : decode cX7_widest 28 = .ok (.iload 4, 2) := by decide +kernel
theorem dX7_widest_30 : decode cX7_widest 30 = .ok (.goto 4, 3) := by decide +kernel
theorem dX7_widest_33 : decode cX7_widest 33 = .ok (.iload_n 2, 1) := by decide +kernel
theorem dX7_widest_34 : decode cX7_widest 34 = .ok (.istore_n 2, 1) := by decide +kernel
theorem dX7_widest_35 : decode cX7_widest 35 = .ok (.iinc 3 1, 3) := by decide +kernel
theorem dX7_widest_38 : decode cX7_widest 38 = .ok (.goto (-34), 3) := by decide +kernel
theorem dX7_widest_41 : decode cX7_widest 41 = .ok (.iload_n 2, 1) := by decide +kernel
theorem dX7_widest_42 : decode cX7_widest 42 = .ok (.ireturn, 1) := by decide +kernel
theorem dX7_widerMany_0 : decode cX7_widerMany 0 = .ok (.iconst 0, 1) := by decide +kernel
theorem dX7_widerMany_1 : decode cX7_widerMany 1 = .ok (.istore_n 2, 1) := by decide +kernel
theorem dX7_widerMany_2 : decode cX7_widerMany 2 = .ok (.iconst 0, 1) := by decide +kernel
theorem dX7_widerMany_3 : decode cX7_widerMany 3 = .ok (.istore_n 3, 1) := by decide +kernel
theorem dX7_widerMany_4 : decode cX7_widerMany 4 = .ok (.iload_n 3, 1) := by decide +kernel
theorem dX7_widerMany_5 : decode cX7_widerMany 5 = .ok (.iconst 1, 1) := by decide +kernel
theorem dX7_widerMany_6 : decode cX7_widerMany 6 = .ok (.iadd, 1) := by decide +kernel
theorem dX7_widerMany_7 : decode cX7_widerMany 7 = .ok (.aload_n 0, 1) := by decide +kernel
theorem dX7_widerMany_8 : decode cX7_widerMany 8 = .ok (.getfield 73, 3) := by decide +kernel
theorem dX7_widerMany_11 : decode cX7_widerMany 11 = .ok (.if_icmp .ge 26, 3) := by decide +kernel
theorem dX7_widerMany_14 : decode cX7_widerMany 14 = .ok (.iload_n 2, 1) := by decide +kernel
theorem dX7_widerMany_15 : decode cX7_widerMany 15 = .ok (.aload_n 0, 1) := by decide +kernel
theorem dX7_widerMany_16 : decode cX7_widerMany 16 = .ok (.aload_n 1, 1) := by decide +kernel
theorem dX7_widerMany_17 : decode cX7_widerMany 17 = .ok (.iload_n 3, 1) := by decide +kernel
theorem dX7_widerMany_18 : decode cX7_widerMany 18 = .ok (.invokevirtual 143, 3) := by decide +kernel
theorem dX7_widerMany_21 : decode cX7_widerMany 21 = .ok (.ifCond .le 7, 3) := by decide +kernel
theorem dX7_widerMany_24 : decode cX7_widerMany 24 = .ok (.iconst 1, 1) := by decide +kernel
theorem dX7_widerMany_25 : decode cX7_widerMany 25 = .ok (.goto 4, 3) := by decide +kernel
theorem dX7_widerMany_28 : decode cX7_widerMany 28 = .ok (.iconst 0, 1) := by decide +kernel
theorem dX7_widerMany_29 : decode cX7_widerMany 29 = .ok (.iadd, 1) := by decide +kernel
theorem dX7_widerMany_30 : decode cX7_widerMany 30 = .ok (.istore_n 2, 1) := by decide +kernel
theorem dX7_widerMany_31 : decode cX7_widerMany 31 = .ok (.iinc 3 1, 3) := by decide +kernel
theorem dX7_widerMany_34 : decode cX7_widerMany 34 = .ok (.goto (-30), 3) := by decide +kernel
theorem dX7_widerMany_37 : decode cX7_widerMany 37 = .ok (.iload_n 2, 1) := by decide +kernel
theorem dX7_widerMany_38 : decode cX7_widerMany 38 = .ok (.ireturn, 1) := by decide +kernel
theorem dX7_placeOf_0 : decode cX7_placeOf 0 = .ok (.iconst 0, 1) := by decide +kernel
theorem dX7_placeOf_1 : decode cX7_placeOf 1 = .ok (.istore_n 2, 1) := by decide +kernel
theorem dX7_placeOf_2 : decode cX7_placeOf 2 = .ok (.aload_n 0, 1) := by decide +kernel
theorem dX7_placeOf_3 : decode cX7_placeOf 3 = .ok (.iload_n 2, 1) := by decide +kernel
theorem dX7_placeOf_4 : decode cX7_placeOf 4 = .ok (.iaload, 1) := by decide +kernel
theorem dX7_placeOf_5 : decode cX7_placeOf 5 = .ok (.iload_n 1, 1) := by decide +kernel
theorem dX7_placeOf_6 : decode cX7_placeOf 6 = .ok (.if_icmp .eq 9, 3) := by decide +kernel
theorem dX7_placeOf_9 : decode cX7_placeOf 9 = .ok (.iinc 2 1, 3) := by decide +kernel
theorem dX7_placeOf_12 : decode cX7_placeOf 12 = .ok (.goto (-10), 3) := by decide +kernel
theorem dX7_placeOf_15 : decode cX7_placeOf 15 = .ok (.iload_n 2, 1) := by decide +kernel
theorem dX7_placeOf_16 : decode cX7_placeOf 16 = .ok (.ireturn, 1) := by decide +kernel
theorem dX7_shift_0 : decode cX7_shift 0 = .ok (.aload_n 0, 1) := by decide +kernel
theorem dX7_shift_1 : decode cX7_shift 1 = .ok (.iload_n 1, 1) := by decide +kernel
theorem dX7_shift_2 : decode cX7_shift 2 = .ok (.invokestatic 146, 3) := by decide +kernel
theorem dX7_shift_5 : decode cX7_shift 5 = .ok (.istore_n 3, 1) := by decide +kernel
theorem dX7_shift_6 : decode cX7_shift 6 = .ok (.iload_n 3, 1) := by decide +kernel
theorem dX7_shift_7 : decode cX7_shift 7 = .ok (.iload_n 2, 1) := by decide +kernel
theorem dX7_shift_8 : decode cX7_shift 8 = .ok (.if_icmp .ge 17, 3) := by decide +kernel
theorem dX7_shift_11 : decode cX7_shift 11 = .ok (.aload_n 0, 1) := by decide +kernel
theorem dX7_shift_12 : decode cX7_shift 12 = .ok (.iload_n 3, 1) := by decide +kernel
theorem dX7_shift_13 : decode cX7_shift 13 = .ok (.aload_n 0, 1) := by decide +kernel
theorem dX7_shift_14 : decode cX7_shift 14 = .ok (.iload_n 3, 1) := by decide +kernel
theorem dX7_shift_15 : decode cX7_shift 15 = .ok (.iconst 1, 1) := by decide +kernel
theorem dX7_shift_16 : decode cX7_shift 16 = .ok (.iadd, 1) := by decide +kernel
theorem dX7_shift_17 : decode cX7_shift 17 = .ok (.iaload, 1) := by decide +kernel
theorem dX7_shift_18 : decode cX7_shift 18 = .ok (.iastore, 1) := by decide +kernel
theorem dX7_shift_19 : decode cX7_shift 19 = .ok (.iinc 3 1, 3) := by decide +kernel
theorem dX7_shift_22 : decode cX7_shift 22 = .ok (.goto (-16), 3) := by decide +kernel
theorem dX7_shift_25 : decode cX7_shift 25 = .ok (.iload_n 3, 1) := by decide +kernel
theorem dX7_shift_26 : decode cX7_shift 26 = .ok (.iload_n 2, 1) := by decide +kernel
theorem dX7_shift_27 : decode cX7_shift 27 = .ok (.if_icmp .le 17, 3) := by decide +kernel
theorem dX7_shift_30 : decode cX7_shift 30 = .ok (.aload_n 0, 1) := by decide +kernel
theorem dX7_shift_31 : decode cX7_shift 31 = .ok (.iload_n 3, 1) := by decide +kernel
theorem dX7_shift_32 : decode cX7_shift 32 = .ok (.aload_n 0, 1) := by decide +kernel
theorem dX7_shift_33 : decode cX7_shift 33 = .ok (.iload_n 3, 1) := by decide +kernel
theorem dX7_shift_34 : decode cX7_shift 34 = .ok (.iconst 1, 1) := by decide +kernel
theorem dX7_shift_35 : decode cX7_shift 35 = .ok (.isub, 1) := by decide +kernel
theorem dX7_shift_36 : decode cX7_shift 36 = .ok (.iaload, 1) := by decide +kernel
theorem dX7_shift_37 : decode cX7_shift 37 = .ok (.iastore, 1) := by decide +kernel
theorem dX7_shift_38 : decode cX7_shift 38 = .ok (.iinc 3 (-1), 3) := by decide +kernel
theorem dX7_shift_41 : decode cX7_shift 41 = .ok (.goto (-16), 3) := by decide +kernel
theorem dX7_shift_44 : decode cX7_shift 44 = .ok (.aload_n 0, 1) := by decide +kernel
theorem dX7_shift_45 : decode cX7_shift 45 = .ok (.iload_n 3, 1) := by decide +kernel
theorem dX7_shift_46 : decode cX7_shift 46 = .ok (.iload_n 1, 1) := by decide +kernel
theorem dX7_shift_47 : decode cX7_shift 47 = .ok (.iastore, 1) := by decide +kernel
theorem dX7_shift_48 : decode cX7_shift 48 = .ok (.return_, 1) := by decide +kernel
theorem dX7_codeBy_0 : decode cX7_codeBy 0 = .ok (.aload_n 1, 1) := by decide +kernel
theorem dX7_codeBy_1 : decode cX7_codeBy 1 = .ok (.aload_n 0, 1) := by decide +kernel
theorem dX7_codeBy_2 : decode cX7_codeBy 2 = .ok (.getfield 28, 3) := by decide +kernel
theorem dX7_codeBy_5 : decode cX7_codeBy 5 = .ok (.invokestatic 149, 3) := by decide +kernel
theorem dX7_codeBy_8 : decode cX7_codeBy 8 = .ok (.aload_n 1, 1) := by decide +kernel
theorem dX7_codeBy_9 : decode cX7_codeBy 9 = .ok (.iload_n 2, 1) := by decide +kernel
theorem dX7_codeBy_10 : decode cX7_codeBy 10 = .ok (.invokestatic 146, 3) := by decide +kernel
theorem dX7_codeBy_13 : decode cX7_codeBy 13 = .ok (.iload_n 3, 1) := by decide +kernel
theorem dX7_codeBy_14 : decode cX7_codeBy 14 = .ok (.if_icmp .ne 5, 3) := by decide +kernel
theorem dX7_codeBy_17 : decode cX7_codeBy 17 = .ok (.iconst (-1), 1) := by decide +kernel
theorem dX7_codeBy_18 : decode cX7_codeBy 18 = .ok (.ireturn, 1) := by decide +kernel
theorem dX7_codeBy_19 : decode cX7_codeBy 19 = .ok (.aload_n 0, 1) := by decide +kernel
theorem dX7_codeBy_20 : decode cX7_codeBy 20 = .ok (.getfield 28, 3) := by decide +kernel
theorem dX7_codeBy_23 : decode cX7_codeBy 23 = .ok (.iload_n 2, 1) := by decide +kernel
theorem dX7_codeBy_24 : decode cX7_codeBy 24 = .ok (.iload_n 3, 1) := by decide +kernel
theorem dX7_codeBy_25 : decode cX7_codeBy 25 = .ok (.invokestatic 153, 3) := by decide +kernel
theorem dX7_codeBy_28 : decode cX7_codeBy 28 = .ok (.aload_n 0, 1) := by decide +kernel
theorem dX7_codeBy_29 : decode cX7_codeBy 29 = .ok (.aload_n 0, 1) := by decide +kernel
theorem dX7_codeBy_30 : decode cX7_codeBy 30 = .ok (.getfield 28, 3) := by decide +kernel
theorem dX7_codeBy_33 : decode cX7_codeBy 33 = .ok (.invokevirtual 103, 3) := by decide +kernel
theorem dX7_codeBy_36 : decode cX7_codeBy 36 = .ok (.ifCond .eq 17, 3) := by decide +kernel
theorem dX7_codeBy_39 : decode cX7_codeBy 39 = .ok (.aload_n 0, 1) := by decide +kernel
theorem dX7_codeBy_40 : decode cX7_codeBy 40 = .ok (.getfield 28, 3) := by decide +kernel
theorem dX7_codeBy_43 : decode cX7_codeBy 43 = .ok (.aload_n 0, 1) := by decide +kernel
theorem dX7_codeBy_44 : decode cX7_codeBy 44 = .ok (.getfield 73, 3) := by decide +kernel
theorem dX7_codeBy_47 : decode cX7_codeBy 47 = .ok (.invokestatic 107, 3) := by decide +kernel
theorem dX7_codeBy_50 : decode cX7_codeBy 50 = .ok (.goto 4, 3) := by decide +kernel
theorem dX7_codeBy_53 : decode cX7_codeBy 53 = .ok (.iconst (-1), 1) := by decide +kernel
theorem dX7_codeBy_54 : decode cX7_codeBy 54 = .ok (.ireturn, 1) := by decide +kernel
theorem dX7_layFar_0 : decode cX7_layFar 0 = .ok (.iconst 0, 1) := by decide +kernel
theorem dX7_layFar_1 : decode cX7_layFar 1 = .ok (.istore_n 1, 1) := by decide +kernel
theorem dX7_layFar_2 : decode cX7_layFar 2 = .ok (.iload_n 1, 1) := by decide +kernel
theorem dX7_layFar_3 : decode cX7_layFar 3 = .ok (.aload_n 0, 1) := by decide +kernel
theorem dX7_layFar_4 : decode cX7_layFar 4 = .ok (.getfield 100, 3) := by decide +kernel
theorem dX7_layFar_7 : decode cX7_layFar 7 = .ok (.if_icmp .ge 16, 3) := by decide +kernel
theorem dX7_layFar_10 : decode cX7_layFar 10 = .ok (.aload_n 0, 1) := by decide +kernel
theorem dX7_layFar_11 : decode cX7_layFar 11 = .ok (.getfield 31, 3) := by decide +kernel
theorem dX7_layFar_14 : decode cX7_layFar 14 = .ok (.iload_n 1, 1) := by decide +kernel
theorem dX7_layFar_15 : decode cX7_layFar 15 = .ok (.iconst (-1), 1) := by decide +kernel
theorem dX7_layFar_16 : decode cX7_layFar 16 = .ok (.iastore, 1) := by decide +kernel
theorem dX7_layFar_17 : decode cX7_layFar 17 = .ok (.iinc 1 1, 3) := by decide +kernel
theorem dX7_layFar_20 : decode cX7_layFar 20 = .ok (.goto (-18), 3) := by decide +kernel
theorem dX7_layFar_23 : decode cX7_layFar 23 = .ok (.aload_n 0, 1) := by decide +kernel
theorem dX7_layFar_24 : decode cX7_layFar 24 = .ok (.invokevirtual 157, 3) := by decide +kernel
theorem dX7_layFar_27 : decode cX7_layFar 27 = .ok (.istore_n 1, 1) := by decide +kernel
theorem dX7_layFar_28 : decode cX7_layFar 28 = .ok (.aload_n 0, 1) := by decide +kernel
theorem dX7_layFar_29 : decode cX7_layFar 29 = .ok (.getfield 31, 3) := by decide +kernel
theorem dX7_layFar_32 : decode cX7_layFar 32 = .ok (.iload_n 1, 1) := by decide +kernel
theorem dX7_layFar_33 : decode cX7_layFar 33 = .ok (.iconst 0, 1) := by decide +kernel
theorem dX7_layFar_34 : decode cX7_layFar 34 = .ok (.iastore, 1) := by decide +kernel
theorem dX7_layFar_35 : decode cX7_layFar 35 = .ok (.aload_n 0, 1) := by decide +kernel
theorem dX7_layFar_36 : decode cX7_layFar 36 = .ok (.getfield 34, 3) := by decide +kernel
theorem dX7_layFar_39 : decode cX7_layFar 39 = .ok (.iconst 0, 1) := by decide +kernel
theorem dX7_layFar_40 : decode cX7_layFar 40 = .ok (.iload_n 1, 1) := by decide +kernel
theorem dX7_layFar_41 : decode cX7_layFar 41 = .ok (.iastore, 1) := by decide +kernel
theorem dX7_layFar_42 : decode cX7_layFar 42 = .ok (.aload_n 0, 1) := by decide +kernel
theorem dX7_layFar_43 : decode cX7_layFar 43 = .ok (.iconst 1, 1) := by decide +kernel
theorem dX7_layFar_44 : decode cX7_layFar 44 = .ok (.putfield 160, 3) := by decide +kernel
theorem dX7_layFar_47 : decode cX7_layFar 47 = .ok (.iconst 0, 1) := by decide +kernel
theorem dX7_layFar_48 : decode cX7_layFar 48 = .ok (.istore_n 2, 1) := by decide +kernel
theorem dX7_layFar_49 : decode cX7_layFar 49 = .ok (.iload_n 2, 1) := by decide +kernel
theorem dX7_layFar_50 : decode cX7_layFar 50 = .ok (.aload_n 0, 1) := by decide +kernel
theorem dX7_layFar_51 : decode cX7_layFar 51 = .ok (.getfield 160, 3) := by decide +kernel
theorem dX7_layFar_54 : decode cX7_layFar 54 = .ok (.if_icmp .ge 141, 3) := by decide +kernel
theorem dX7_layFar_57 : decode cX7_layFar 57 = .ok (.aload_n 0, 1) := by decide +kernel
theorem dX7_layFar_58 : decode cX7_layFar 58 = .ok (.aload_n 0, 1) := by decide +kernel
theorem dX7_layFar_59 : decode cX7_layFar 59 = .ok (.getfield 19, 3) := by decide +kernel
theorem dX7_layFar_62 : decode cX7_layFar 62 = .ok (.aload_n 0, 1) := by decide +kernel
theorem dX7_layFar_63 : decode cX7_layFar 63 = .ok (.getfield 34, 3) := by decide +kernel
theorem dX7_layFar_66 : decode cX7_layFar 66 = .ok (.iload_n 2, 1) := by decide +kernel
theorem dX7_layFar_67 : decode cX7_layFar 67 = .ok (.iaload, 1) := by decide +kernel
theorem dX7_layFar_68 : decode cX7_layFar 68 = .ok (.iaload, 1) := by decide +kernel
theorem dX7_layFar_69 : decode cX7_layFar 69 = .ok (.aload_n 0, 1) := by decide +kernel
theorem dX7_layFar_70 : decode cX7_layFar 70 = .ok (.getfield 25, 3) := by decide +kernel
theorem dX7_layFar_73 : decode cX7_layFar 73 = .ok (.invokevirtual 133, 3) := by decide +kernel
theorem dX7_layFar_76 : decode cX7_layFar 76 = .ok (.iconst 0, 1) := by decide +kernel
theorem dX7_layFar_77 : decode cX7_layFar 77 = .ok (.istore_n 3, 1) := by decide +kernel
theorem dX7_layFar_78 : decode cX7_layFar 78 = .ok (.iload_n 3, 1) := by decide +kernel
theorem dX7_layFar_79 : decode cX7_layFar 79 = .ok (.aload_n 0, 1) := by decide +kernel
theorem dX7_layFar_80 : decode cX7_layFar 80 = .ok (.getfield 73, 3) := by decide +kernel
theorem dX7_layFar_83 : decode cX7_layFar 83 = .ok (.aload_n 0, 1) := by decide +kernel
theorem dX7_layFar_84 : decode cX7_layFar 84 = .ok (.getfield 73, 3) := by decide +kernel
theorem dX7_layFar_87 : decode cX7_layFar 87 = .ok (.imul, 1) := by decide +kernel
theorem dX7_layFar_88 : decode cX7_layFar 88 = .ok (.if_icmp .ge 101, 3) := by decide +kernel
theorem dX7_layFar_91 : decode cX7_layFar 91 = .ok (.aload_n 0, 1) := by decide +kernel
theorem dX7_layFar_92 : decode cX7_layFar 92 = .ok (.aload_n 0, 1) := by decide +kernel
theorem dX7_layFar_93 : decode cX7_layFar 93 = .ok (.getfield 25, 3) := by decide +kernel
theorem dX7_layFar_96 : decode cX7_layFar 96 = .ok (.iload_n 3, 1) := by decide +kernel
theorem dX7_layFar_97 : decode cX7_layFar 97 = .ok (.aload_n 0, 1) := by decide +kernel
theorem dX7_layFar_98 : decode cX7_layFar 98 = .ok (.getfield 73, 3) := by decide +kernel
theorem dX7_layFar_101 : decode cX7_layFar 101 = .ok (.idiv, 1) := by decide +kernel
theorem dX7_layFar_102 : decode cX7_layFar 102 = .ok (.iload_n 3, 1) := by decide +kernel
theorem dX7_layFar_103 : decode cX7_layFar 103 = .ok (.aload_n 0, 1) := by decide +kernel
theorem dX7_layFar_104 : decode cX7_layFar 104 = .ok (.getfield 73, 3) := by decide +kernel
theorem dX7_layFar_107 : decode cX7_layFar 107 = .ok (.irem, 1) := by decide +kernel
theorem dX7_layFar_108 : decode cX7_layFar 108 = .ok (.invokevirtual 163, 3) := by decide +kernel
theorem dX7_layFar_111 : decode cX7_layFar 111 = .ok (.istore 4, 2) := by decide +kernel
theorem dX7_layFar_113 : decode cX7_layFar 113 = .ok (.iload 4, 2) := by decide +kernel
theorem dX7_layFar_115 : decode cX7_layFar 115 = .ok (.iconst (-1), 1) := by decide +kernel
theorem dX7_layFar_116 : decode cX7_layFar 116 = .ok (.if_icmp .ne 7, 3) := by decide +kernel
theorem dX7_layFar_119 : decode cX7_layFar 119 = .ok (.iload_n 1, 1) := by decide +kernel
theorem dX7_layFar_120 : decode cX7_layFar 120 = .ok (.goto 9, 3) := by decide +kernel
theorem dX7_layFar_123 : decode cX7_layFar 123 = .ok (.aload_n 0, 1) := by decide +kernel
theorem dX7_layFar_124 : decode cX7_layFar 124 = .ok (.iload 4, 2) := by decide +kernel
theorem dX7_layFar_126 : decode cX7_layFar 126 = .ok (.invokevirtual 115, 3) := by decide +kernel
theorem dX7_layFar_129 : decode cX7_layFar 129 = .ok (.istore 5, 2) := by decide +kernel
theorem dX7_layFar_131 : decode cX7_layFar 131 = .ok (.aload_n 0, 1) := by decide +kernel
theorem dX7_layFar_132 : decode cX7_layFar 132 = .ok (.getfield 31, 3) := by decide +kernel
theorem dX7_layFar_135 : decode cX7_layFar 135 = .ok (.iload 5, 2) := by decide +kernel
theorem dX7_layFar_137 : decode cX7_layFar 137 = .ok (.iaload, 1) := by decide +kernel
theorem dX7_layFar_138 : decode cX7_layFar 138 = .ok (.iconst (-1), 1) := by decide +kernel
theorem dX7_layFar_139 : decode cX7_layFar 139 = .ok (.if_icmp .ne 44, 3) := by decide +kernel
theorem dX7_layFar_142 : decode cX7_layFar 142 = .ok (.aload_n 0, 1) := by decide +kernel
theorem dX7_layFar_143 : decode cX7_layFar 143 = .ok (.getfield 31, 3) := by decide +kernel
theorem dX7_layFar_146 : decode cX7_layFar 146 = .ok (.iload 5, 2) := by decide +kernel
theorem dX7_layFar_148 : decode cX7_layFar 148 = .ok (.aload_n 0, 1) := by decide +kernel
theorem dX7_layFar_149 : decode cX7_layFar 149 = .ok (.getfield 31, 3) := by decide +kernel
theorem dX7_layFar_152 : decode cX7_layFar 152 = .ok (.aload_n 0, 1) := by decide +kernel
theorem dX7_layFar_153 : decode cX7_layFar 153 = .ok (.getfield 34, 3) := by decide +kernel
theorem dX7_layFar_156 : decode cX7_layFar 156 = .ok (.iload_n 2, 1) := by decide +kernel
theorem dX7_layFar_157 : decode cX7_layFar 157 = .ok (.iaload, 1) := by decide +kernel
theorem dX7_layFar_158 : decode cX7_layFar 158 = .ok (.iaload, 1) := by decide +kernel
theorem dX7_layFar_159 : decode cX7_layFar 159 = .ok (.iconst 1, 1) := by decide +kernel
theorem dX7_layFar_160 : decode cX7_layFar 160 = .ok (.iadd, 1) := by decide +kernel
theorem dX7_layFar_161 : decode cX7_layFar 161 = .ok (.iastore, 1) := by decide +kernel
theorem dX7_layFar_162 : decode cX7_layFar 162 = .ok (.aload_n 0, 1) := by decide +kernel
theorem dX7_layFar_163 : decode cX7_layFar 163 = .ok (.getfield 34, 3) := by decide +kernel
theorem dX7_layFar_166 : decode cX7_layFar 166 = .ok (.aload_n 0, 1) := by decide +kernel
theorem dX7_layFar_167 : decode cX7_layFar 167 = .ok (.getfield 160, 3) := by decide +kernel
theorem dX7_layFar_170 : decode cX7_layFar 170 = .ok (.iload 5, 2) := by decide +kernel
theorem dX7_layFar_172 : decode cX7_layFar 172 = .ok (.iastore, 1) := by decide +kernel
theorem dX7_layFar_173 : decode cX7_layFar 173 = .ok (.aload_n 0, 1) := by decide +kernel
theorem dX7_layFar_174 : decode cX7_layFar 174 = .ok (.dup, 1) := by decide +kernel
theorem dX7_layFar_175 : decode cX7_layFar 175 = .ok (.getfield 160, 3) := by decide +kernel
theorem dX7_layFar_178 : decode cX7_layFar 178 = .ok (.iconst 1, 1) := by decide +kernel
theorem dX7_layFar_179 : decode cX7_layFar 179 = .ok (.iadd, 1) := by decide +kernel
theorem dX7_layFar_180 : decode cX7_layFar 180 = .ok (.putfield 160, 3) := by decide +kernel
theorem dX7_layFar_183 : decode cX7_layFar 183 = .ok (.iinc 3 1, 3) := by decide +kernel
theorem dX7_layFar_186 : decode cX7_layFar 186 = .ok (.goto (-108), 3) := by decide +kernel
theorem dX7_layFar_189 : decode cX7_layFar 189 = .ok (.iinc 2 1, 3) := by decide +kernel
theorem dX7_layFar_192 : decode cX7_layFar 192 = .ok (.goto (-143), 3) := by decide +kernel
theorem dX7_layFar_195 : decode cX7_layFar 195 = .ok (.return_, 1) := by decide +kernel
theorem dX7_nearOf_0 : decode cX7_nearOf 0 = .ok (.aload_n 0, 1) := by decide +kernel
theorem dX7_nearOf_1 : decode cX7_nearOf 1 = .ok (.invokevirtual 167, 3) := by decide +kernel
theorem dX7_nearOf_4 : decode cX7_nearOf 4 = .ok (.aload_n 0, 1) := by decide +kernel
theorem dX7_nearOf_5 : decode cX7_nearOf 5 = .ok (.getfield 31, 3) := by decide +kernel
theorem dX7_nearOf_8 : decode cX7_nearOf 8 = .ok (.iload_n 1, 1) := by decide +kernel
theorem dX7_nearOf_9 : decode cX7_nearOf 9 = .ok (.iaload, 1) := by decide +kernel
theorem dX7_nearOf_10 : decode cX7_nearOf 10 = .ok (.ireturn, 1) := by decide +kernel
theorem dX7_near_0 : decode cX7_near 0 = .ok (.aload_n 0, 1) := by decide +kernel
theorem dX7_near_1 : decode cX7_near 1 = .ok (.iload_n 1, 1) := by decide +kernel
theorem dX7_near_2 : decode cX7_near 2 = .ok (.invokevirtual 170, 3) := by decide +kernel
theorem dX7_near_5 : decode cX7_near 5 = .ok (.ifCond .eq 11, 3) := by decide +kernel
theorem dX7_near_8 : decode cX7_near 8 = .ok (.aload_n 0, 1) := by decide +kernel
theorem dX7_near_9 : decode cX7_near 9 = .ok (.iload_n 1, 1) := by decide +kernel
theorem dX7_near_10 : decode cX7_near 10 = .ok (.invokevirtual 173, 3) := by decide +kernel
theorem dX7_near_13 : decode cX7_near 13 = .ok (.goto 5, 3) := by decide +kernel
theorem dX7_near_16 : decode cX7_near 16 = .ok (.bipush (-101), 2) := by decide +kernel
theorem dX7_near_18 : decode cX7_near 18 = .ok (.ireturn, 1) := by decide +kernel
theorem dX7_farthestOf_0 : decode cX7_farthestOf 0 = .ok (.aload_n 0, 1) := by decide +kernel
theorem dX7_farthestOf_1 : decode cX7_farthestOf 1 = .ok (.invokevirtual 167, 3) := by decide +kernel
theorem dX7_farthestOf_4 : decode cX7_farthestOf 4 = .ok (.iconst 0, 1) := by decide +kernel
theorem dX7_farthestOf_5 : decode cX7_farthestOf 5 = .ok (.istore_n 2, 1) := by decide +kernel
theorem dX7_farthestOf_6 : decode cX7_farthestOf 6 = .ok (.iconst 1, 1) := by decide +kernel
theorem dX7_farthestOf_7 : decode cX7_farthestOf 7 = .ok (.istore_n 3, 1) := by decide +kernel
theorem dX7_farthestOf_8 : decode cX7_farthestOf 8 = .ok (.iload_n 3, 1) := by decide +kernel
theorem dX7_farthestOf_9 : decode cX7_farthestOf 9 = .ok (.aload_n 0, 1) := by decide +kernel
theorem dX7_farthestOf_10 : decode cX7_farthestOf 10 = .ok (.getfield 100, 3) := by decide +kernel
theorem dX7_farthestOf_13 : decode cX7_farthestOf 13 = .ok (.if_icmp .ge 30, 3) := by decide +kernel
theorem dX7_farthestOf_16 : decode cX7_farthestOf 16 = .ok (.aload_n 0, 1) := by decide +kernel
theorem dX7_farthestOf_17 : decode cX7_farthestOf 17 = .ok (.getfield 31, 3) := by decide +kernel
theorem dX7_farthestOf_20 : decode cX7_farthestOf 20 = .ok (.iload_n 3, 1) := by decide +kernel
theorem dX7_farthestOf_21 : decode cX7_farthestOf 21 = .ok (.iaload, 1) := by decide +kernel
theorem dX7_farthestOf_22 : decode cX7_farthestOf 22 = .ok (.aload_n 0, 1) := by decide +kernel
theorem dX7_farthestOf_23 : decode cX7_farthestOf 23 = .ok (.getfield 31, 3) := by decide +kernel
theorem dX7_farthestOf_26 : decode cX7_farthestOf 26 = .ok (.iload_n 2, 1) := by decide +kernel
theorem dX7_farthestOf_27 : decode cX7_farthestOf 27 = .ok (.iaload, 1) := by decide +kernel
theorem dX7_farthestOf_28 : decode cX7_farthestOf 28 = .ok (.if_icmp .le 7, 3) := by decide +kernel
theorem dX7_farthestOf_31 : decode cX7_farthestOf 31 = .ok (.iload_n 3, 1) := by decide +kernel
theorem dX7_farthestOf_32 : decode cX7_farthestOf 32 = .ok (.goto 4, 3) := by decide +kernel
theorem dX7_farthestOf_35 : decode cX7_farthestOf 35 = .ok (.iload_n 2, 1) := by decide +kernel
theorem dX7_farthestOf_36 : decode cX7_farthestOf 36 = .ok (.istore_n 2, 1) := by decide +kernel
theorem dX7_farthestOf_37 : decode cX7_farthestOf 37 = .ok (.iinc 3 1, 3) := by decide +kernel
theorem dX7_farthestOf_40 : decode cX7_farthestOf 40 = .ok (.goto (-32), 3) := by decide +kernel
theorem dX7_farthestOf_43 : decode cX7_farthestOf 43 = .ok (.iload_n 1, 1) := by decide +kernel
theorem dX7_farthestOf_44 : decode cX7_farthestOf 44 = .ok (.ifCond .ne 12, 3) := by decide +kernel
theorem dX7_farthestOf_47 : decode cX7_farthestOf 47 = .ok (.aload_n 0, 1) := by decide +kernel
theorem dX7_farthestOf_48 : decode cX7_farthestOf 48 = .ok (.getfield 31, 3) := by decide +kernel
theorem dX7_farthestOf_51 : decode cX7_farthestOf 51 = .ok (.iload_n 2, 1) := by decide +kernel
theorem dX7_farthestOf_52 : decode cX7_farthestOf 52 = .ok (.iaload, 1) := by decide +kernel
theorem dX7_farthestOf_53 : decode cX7_farthestOf 53 = .ok (.goto 4, 3) := by decide +kernel
theorem dX7_farthestOf_56 : decode cX7_farthestOf 56 = .ok (.iload_n 2, 1) := by decide +kernel
theorem dX7_farthestOf_57 : decode cX7_farthestOf 57 = .ok (.ireturn, 1) := by decide +kernel
theorem dX7_homeOf_0 : decode cX7_homeOf 0 = .ok (.aload_n 0, 1) := by decide +kernel
theorem dX7_homeOf_1 : decode cX7_homeOf 1 = .ok (.invokevirtual 167, 3) := by decide +kernel
theorem dX7_homeOf_4 : decode cX7_homeOf 4 = .ok (.iconst (-1), 1) := by decide +kernel
theorem dX7_homeOf_5 : decode cX7_homeOf 5 = .ok (.istore_n 2, 1) := by decide +kernel
theorem dX7_homeOf_6 : decode cX7_homeOf 6 = .ok (.iconst 0, 1) := by decide +kernel
theorem dX7_homeOf_7 : decode cX7_homeOf 7 = .ok (.istore_n 3, 1) := by decide +kernel
theorem dX7_homeOf_8 : decode cX7_homeOf 8 = .ok (.iload_n 3, 1) := by decide +kernel
theorem dX7_homeOf_9 : decode cX7_homeOf 9 = .ok (.aload_n 0, 1) := by decide +kernel
theorem dX7_homeOf_10 : decode cX7_homeOf 10 = .ok (.getfield 100, 3) := by decide +kernel
theorem dX7_homeOf_13 : decode cX7_homeOf 13 = .ok (.if_icmp .ge 65, 3) := by decide +kernel
theorem dX7_homeOf_16 : decode cX7_homeOf 16 = .ok (.aload_n 0, 1) := by decide +kernel
theorem dX7_homeOf_17 : decode cX7_homeOf 17 = .ok (.getfield 31, 3) := by decide +kernel
theorem dX7_homeOf_20 : decode cX7_homeOf 20 = .ok (.iload_n 3, 1) := by decide +kernel
theorem dX7_homeOf_21 : decode cX7_homeOf 21 = .ok (.iaload, 1) := by decide +kernel
theorem dX7_homeOf_22 : decode cX7_homeOf 22 = .ok (.iconst (-1), 1) := by decide +kernel
theorem dX7_homeOf_23 : decode cX7_homeOf 23 = .ok (.if_icmp .eq 35, 3) := by decide +kernel
theorem dX7_homeOf_26 : decode cX7_homeOf 26 = .ok (.iload_n 2, 1) := by decide +kernel
theorem dX7_homeOf_27 : decode cX7_homeOf 27 = .ok (.iconst (-1), 1) := by decide +kernel
theorem dX7_homeOf_28 : decode cX7_homeOf 28 = .ok (.if_icmp .eq 18, 3) := by decide +kernel
theorem dX7_homeOf_31 : decode cX7_homeOf 31 = .ok (.aload_n 0, 1) := by decide +kernel
theorem dX7_homeOf_32 : decode cX7_homeOf 32 = .ok (.getfield 31, 3) := by decide +kernel
theorem dX7_homeOf_35 : decode cX7_homeOf 35 = .ok (.iload_n 3, 1) := by decide +kernel
theorem dX7_homeOf_36 : decode cX7_homeOf 36 = .ok (.iaload, 1) := by decide +kernel
theorem dX7_homeOf_37 : decode cX7_homeOf 37 = .ok (.aload_n 0, 1) := by decide +kernel
theorem dX7_homeOf_38 : decode cX7_homeOf 38 = .ok (.getfield 31, 3) := by decide +kernel
theorem dX7_homeOf_41 : decode cX7_homeOf 41 = .ok (.iload_n 2, 1) := by decide +kernel
theorem dX7_homeOf_42 : decode cX7_homeOf 42 = .ok (.iaload, 1) := by decide +kernel
theorem dX7_homeOf_43 : decode cX7_homeOf 43 = .ok (.if_icmp .ge 15, 3) := by decide +kernel
theorem dX7_homeOf_46 : decode cX7_homeOf 46 = .ok (.aload_n 0, 1) := by decide +kernel
theorem dX7_homeOf_47 : decode cX7_homeOf 47 = .ok (.iload_n 3, 1) := by decide +kernel
theorem dX7_homeOf_48 : decode cX7_homeOf 48 = .ok (.invokevirtual 176, 3) := by decide +kernel
theorem dX7_homeOf_51 : decode cX7_homeOf 51 = .ok (.ifCond .eq 7, 3) := by decide +kernel
theorem dX7_homeOf_54 : decode cX7_homeOf 54 = .ok (.iconst 1, 1) := by decide +kernel
theorem dX7_homeOf_55 : decode cX7_homeOf 55 = .ok (.goto 4, 3) := by decide +kernel
theorem dX7_homeOf_58 : decode cX7_homeOf 58 = .ok (.iconst 0, 1) := by decide +kernel
theorem dX7_homeOf_59 : decode cX7_homeOf 59 = .ok (.istore 4, 2) := by decide +kernel
theorem dX7_homeOf_61 : decode cX7_homeOf 61 = .ok (.iload 4, 2) := by decide +kernel
theorem dX7_homeOf_63 : decode cX7_homeOf 63 = .ok (.ifCond .eq 7, 3) := by decide +kernel
theorem dX7_homeOf_66 : decode cX7_homeOf 66 = .ok (.iload_n 3, 1) := by decide +kernel
theorem dX7_homeOf_67 : decode cX7_homeOf 67 = .ok (.goto 4, 3) := by decide +kernel
theorem dX7_homeOf_70 : decode cX7_homeOf 70 = .ok (.iload_n 2, 1) := by decide +kernel
theorem dX7_homeOf_71 : decode cX7_homeOf 71 = .ok (.istore_n 2, 1) := by decide +kernel
theorem dX7_homeOf_72 : decode cX7_homeOf 72 = .ok (.iinc 3 1, 3) := by decide +kernel
theorem dX7_homeOf_75 : decode cX7_homeOf 75 = .ok (.goto (-67), 3) := by decide +kernel
theorem dX7_homeOf_78 : decode cX7_homeOf 78 = .ok (.iload_n 2, 1) := by decide +kernel
theorem dX7_homeOf_79 : decode cX7_homeOf 79 = .ok (.iconst (-1), 1) := by decide +kernel
theorem dX7_homeOf_80 : decode cX7_homeOf 80 = .ok (.if_icmp .eq 8, 3) := by decide +kernel
theorem dX7_homeOf_83 : decode cX7_homeOf 83 = .ok (.iload_n 1, 1) := by decide +kernel
theorem dX7_homeOf_84 : decode cX7_homeOf 84 = .ok (.iconst 3, 1) := by decide +kernel
theorem dX7_homeOf_85 : decode cX7_homeOf 85 = .ok (.if_icmp .ne 7, 3) := by decide +kernel
theorem dX7_homeOf_88 : decode cX7_homeOf 88 = .ok (.iload_n 2, 1) := by decide +kernel
theorem dX7_homeOf_89 : decode cX7_homeOf 89 = .ok (.goto 9, 3) := by decide +kernel
theorem dX7_homeOf_92 : decode cX7_homeOf 92 = .ok (.aload_n 0, 1) := by decide +kernel
theorem dX7_homeOf_93 : decode cX7_homeOf 93 = .ok (.getfield 31, 3) := by decide +kernel
theorem dX7_homeOf_96 : decode cX7_homeOf 96 = .ok (.iload_n 2, 1) := by decide +kernel
theorem dX7_homeOf_97 : decode cX7_homeOf 97 = .ok (.iaload, 1) := by decide +kernel
theorem dX7_homeOf_98 : decode cX7_homeOf 98 = .ok (.ireturn, 1) := by decide +kernel
theorem dX7_far_0 : decode cX7_far 0 = .ok (.iload_n 1, 1) := by decide +kernel
theorem dX7_far_1 : decode cX7_far 1 = .ok (.i2l, 1) := by decide +kernel
theorem dX7_far_2 : decode cX7_far 2 = .ok (.lconst 0, 1) := by decide +kernel
theorem dX7_far_3 : decode cX7_far 3 = .ok (.ldc2_w 179, 3) := by decide +kernel
theorem dX7_far_6 : decode cX7_far 6 = .ok (.invokestatic 58, 3) := by decide +kernel
theorem dX7_far_9 : decode cX7_far 9 = .ok (.ifCond .ne 6, 3) := by decide +kernel
theorem dX7_far_12 : decode cX7_far 12 = .ok (.bipush (-102), 2) := by decide +kernel
theorem dX7_far_14 : decode cX7_far 14 = .ok (.ireturn, 1) := by decide +kernel
theorem dX7_far_15 : decode cX7_far 15 = .ok (.aload_n 0, 1) := by decide +kernel
theorem dX7_far_16 : decode cX7_far 16 = .ok (.invokevirtual 118, 3) := by decide +kernel
theorem dX7_far_19 : decode cX7_far 19 = .ok (.ifCond .eq 8, 3) := by decide +kernel
theorem dX7_far_22 : decode cX7_far 22 = .ok (.bipush (-103), 2) := by decide +kernel
theorem dX7_far_24 : decode cX7_far 24 = .ok (.goto 21, 3) := by decide +kernel
theorem dX7_far_27 : decode cX7_far 27 = .ok (.iload_n 1, 1) := by decide +kernel
theorem dX7_far_28 : decode cX7_far 28 = .ok (.iconst 2, 1) := by decide +kernel
theorem dX7_far_29 : decode cX7_far 29 = .ok (.if_icmp .ge 11, 3) := by decide +kernel
theorem dX7_far_32 : decode cX7_far 32 = .ok (.aload_n 0, 1) := by decide +kernel
theorem dX7_far_33 : decode cX7_far 33 = .ok (.iload_n 1, 1) := by decide +kernel
theorem dX7_far_34 : decode cX7_far 34 = .ok (.invokevirtual 181, 3) := by decide +kernel
theorem dX7_far_37 : decode cX7_far 37 = .ok (.goto 8, 3) := by decide +kernel
theorem dX7_far_40 : decode cX7_far 40 = .ok (.aload_n 0, 1) := by decide +kernel
theorem dX7_far_41 : decode cX7_far 41 = .ok (.iload_n 1, 1) := by decide +kernel
theorem dX7_far_42 : decode cX7_far 42 = .ok (.invokevirtual 184, 3) := by decide +kernel
theorem dX7_far_45 : decode cX7_far 45 = .ok (.ireturn, 1) := by decide +kernel
theorem dX7_trimOf_0 : decode cX7_trimOf 0 = .ok (.iconst (-1), 1) := by decide +kernel
theorem dX7_trimOf_1 : decode cX7_trimOf 1 = .ok (.istore_n 2, 1) := by decide +kernel
theorem dX7_trimOf_2 : decode cX7_trimOf 2 = .ok (.bipush 99, 2) := by decide +kernel
theorem dX7_trimOf_4 : decode cX7_trimOf 4 = .ok (.istore_n 3, 1) := by decide +kernel
theorem dX7_trimOf_5 : decode cX7_trimOf 5 = .ok (.iconst 0, 1) := by decide +kernel
theorem dX7_trimOf_6 : decode cX7_trimOf 6 = .ok (.istore 4, 2) := by decide +kernel
theorem dX7_trimOf_8 : decode cX7_trimOf 8 = .ok (.iload 4, 2) := by decide +kernel
theorem dX7_trimOf_10 : decode cX7_trimOf 10 = .ok (.aload_n 0, 1) := by decide +kernel
theorem dX7_trimOf_11 : decode cX7_trimOf 11 = .ok (.getfield 100, 3) := by decide +kernel
theorem dX7_trimOf_14 : decode cX7_trimOf 14 = .ok (.if_icmp .ge 54, 3) := by decide +kernel
theorem dX7_trimOf_17 : decode cX7_trimOf 17 = .ok (.aload_n 0, 1) := by decide +kernel
theorem dX7_trimOf_18 : decode cX7_trimOf 18 = .ok (.iload 4, 2) := by decide +kernel
theorem dX7_trimOf_20 : decode cX7_trimOf 20 = .ok (.invokevirtual 176, 3) := by decide +kernel
theorem dX7_trimOf_23 : decode cX7_trimOf 23 = .ok (.ifCond .eq 39, 3) := by decide +kernel
theorem dX7_trimOf_26 : decode cX7_trimOf 26 = .ok (.aload_n 0, 1) := by decide +kernel
theorem dX7_trimOf_27 : decode cX7_trimOf 27 = .ok (.aload_n 0, 1) := by decide +kernel
theorem dX7_trimOf_28 : decode cX7_trimOf 28 = .ok (.getfield 25, 3) := by decide +kernel
theorem dX7_trimOf_31 : decode cX7_trimOf 31 = .ok (.invokevirtual 187, 3) := by decide +kernel
theorem dX7_trimOf_34 : decode cX7_trimOf 34 = .ok (.istore 5, 2) := by decide +kernel
theorem dX7_trimOf_36 : decode cX7_trimOf 36 = .ok (.iload 5, 2) := by decide +kernel
theorem dX7_trimOf_38 : decode cX7_trimOf 38 = .ok (.iload_n 3, 1) := by decide +kernel
theorem dX7_trimOf_39 : decode cX7_trimOf 39 = .ok (.if_icmp .ge 8, 3) := by decide +kernel
theorem dX7_trimOf_42 : decode cX7_trimOf 42 = .ok (.iload 4, 2) := by decide +kernel
theorem dX7_trimOf_44 : decode cX7_trimOf 44 = .ok (.goto 4, 3) := by decide +kernel
theorem dX7_trimOf_47 : decode cX7_trimOf 47 = .ok (.iload_n 2, 1) := by decide +kernel
theorem dX7_trimOf_48 : decode cX7_trimOf 48 = .ok (.istore_n 2, 1) := by decide +kernel
theorem dX7_trimOf_49 : decode cX7_trimOf 49 = .ok (.iload 5, 2) := by decide +kernel
theorem dX7_trimOf_51 : decode cX7_trimOf 51 = .ok (.iload_n 3, 1) := by decide +kernel
theorem dX7_trimOf_52 : decode cX7_trimOf 52 = .ok (.if_icmp .ge 8, 3) := by decide +kernel
theorem dX7_trimOf_55 : decode cX7_trimOf 55 = .ok (.iload 5, 2) := by decide +kernel
theorem dX7_trimOf_57 : decode cX7_trimOf 57 = .ok (.goto 4, 3) := by decide +kernel
theorem dX7_trimOf_60 : decode cX7_trimOf 60 = .ok (.iload_n 3, 1) := by decide +kernel
theorem dX7_trimOf_61 : decode cX7_trimOf 61 = .ok (.istore_n 3, 1) := by decide +kernel
theorem dX7_trimOf_62 : decode cX7_trimOf 62 = .ok (.iinc 4 1, 3) := by decide +kernel
theorem dX7_trimOf_65 : decode cX7_trimOf 65 = .ok (.goto (-57), 3) := by decide +kernel
theorem dX7_trimOf_68 : decode cX7_trimOf 68 = .ok (.iload_n 2, 1) := by decide +kernel
theorem dX7_trimOf_69 : decode cX7_trimOf 69 = .ok (.iconst (-1), 1) := by decide +kernel
theorem dX7_trimOf_70 : decode cX7_trimOf 70 = .ok (.if_icmp .eq 7, 3) := by decide +kernel
theorem dX7_trimOf_73 : decode cX7_trimOf 73 = .ok (.iload_n 1, 1) := by decide +kernel
theorem dX7_trimOf_74 : decode cX7_trimOf 74 = .ok (.ifCond .ne 7, 3) := by decide +kernel
theorem dX7_trimOf_77 : decode cX7_trimOf 77 = .ok (.iload_n 2, 1) := by decide +kernel
theorem dX7_trimOf_78 : decode cX7_trimOf 78 = .ok (.goto 4, 3) := by decide +kernel
theorem dX7_trimOf_81 : decode cX7_trimOf 81 = .ok (.iload_n 3, 1) := by decide +kernel
theorem dX7_trimOf_82 : decode cX7_trimOf 82 = .ok (.ireturn, 1) := by decide +kernel
theorem dX7_trim_0 : decode cX7_trim 0 = .ok (.iload_n 1, 1) := by decide +kernel
theorem dX7_trim_1 : decode cX7_trim 1 = .ok (.i2l, 1) := by decide +kernel
theorem dX7_trim_2 : decode cX7_trim 2 = .ok (.lconst 0, 1) := by decide +kernel
theorem dX7_trim_3 : decode cX7_trim 3 = .ok (.lconst 1, 1) := by decide +kernel
theorem dX7_trim_4 : decode cX7_trim 4 = .ok (.invokestatic 58, 3) := by decide +kernel
theorem dX7_trim_7 : decode cX7_trim 7 = .ok (.ifCond .ne 6, 3) := by decide +kernel
theorem dX7_trim_10 : decode cX7_trim 10 = .ok (.bipush (-102), 2) := by decide +kernel
theorem dX7_trim_12 : decode cX7_trim 12 = .ok (.ireturn, 1) := by decide +kernel
theorem dX7_trim_13 : decode cX7_trim 13 = .ok (.aload_n 0, 1) := by decide +kernel
theorem dX7_trim_14 : decode cX7_trim 14 = .ok (.invokevirtual 118, 3) := by decide +kernel
theorem dX7_trim_17 : decode cX7_trim 17 = .ok (.ifCond .eq 8, 3) := by decide +kernel
theorem dX7_trim_20 : decode cX7_trim 20 = .ok (.bipush (-103), 2) := by decide +kernel
theorem dX7_trim_22 : decode cX7_trim 22 = .ok (.goto 8, 3) := by decide +kernel
theorem dX7_trim_25 : decode cX7_trim 25 = .ok (.aload_n 0, 1) := by decide +kernel
theorem dX7_trim_26 : decode cX7_trim 26 = .ok (.iload_n 1, 1) := by decide +kernel
theorem dX7_trim_27 : decode cX7_trim 27 = .ok (.invokevirtual 190, 3) := by decide +kernel
theorem dX7_trim_30 : decode cX7_trim 30 = .ok (.ireturn, 1) := by decide +kernel
theorem dX7_oddsOf_0 : decode cX7_oddsOf 0 = .ok (.iconst 0, 1) := by decide +kernel
theorem dX7_oddsOf_1 : decode cX7_oddsOf 1 = .ok (.istore 4, 2) := by decide +kernel
theorem dX7_oddsOf_3 : decode cX7_oddsOf 3 = .ok (.iconst 0, 1) := by decide +kernel
theorem dX7_oddsOf_4 : decode cX7_oddsOf 4 = .ok (.istore 5, 2) := by decide +kernel
theorem dX7_oddsOf_6 : decode cX7_oddsOf 6 = .ok (.iconst 0, 1) := by decide +kernel
theorem dX7_oddsOf_7 : decode cX7_oddsOf 7 = .ok (.istore 6, 2) := by decide +kernel
theorem dX7_oddsOf_9 : decode cX7_oddsOf 9 = .ok (.iload 6, 2) := by decide +kernel
theorem dX7_oddsOf_11 : decode cX7_oddsOf 11 = .ok (.aload_n 0, 1) := by decide +kernel
theorem dX7_oddsOf_12 : decode cX7_oddsOf 12 = .ok (.getfield 100, 3) := by decide +kernel
theorem dX7_oddsOf_15 : decode cX7_oddsOf 15 = .ok (.if_icmp .ge 50, 3) := by decide +kernel
theorem dX7_oddsOf_18 : decode cX7_oddsOf 18 = .ok (.aload_n 0, 1) := by decide +kernel
theorem dX7_oddsOf_19 : decode cX7_oddsOf 19 = .ok (.iload 6, 2) := by decide +kernel
theorem dX7_oddsOf_21 : decode cX7_oddsOf 21 = .ok (.invokevirtual 176, 3) := by decide +kernel
theorem dX7_oddsOf_24 : decode cX7_oddsOf 24 = .ok (.ifCond .eq 35, 3) := by decide +kernel
theorem dX7_oddsOf_27 : decode cX7_oddsOf 27 = .ok (.iinc 5 1, 3) := by decide +kernel
theorem dX7_oddsOf_30 : decode cX7_oddsOf 30 = .ok (.iload 4, 2) := by decide +kernel
theorem dX7_oddsOf_32 : decode cX7_oddsOf 32 = .ok (.aload_n 0, 1) := by decide +kernel
theorem dX7_oddsOf_33 : decode cX7_oddsOf 33 = .ok (.getfield 25, 3) := by decide +kernel
theorem dX7_oddsOf_36 : decode cX7_oddsOf 36 = .ok (.iload_n 1, 1) := by decide +kernel
theorem dX7_oddsOf_37 : decode cX7_oddsOf 37 = .ok (.invokestatic 146, 3) := by decide +kernel
theorem dX7_oddsOf_40 : decode cX7_oddsOf 40 = .ok (.aload_n 0, 1) := by decide +kernel
theorem dX7_oddsOf_41 : decode cX7_oddsOf 41 = .ok (.getfield 25, 3) := by decide +kernel
theorem dX7_oddsOf_44 : decode cX7_oddsOf 44 = .ok (.iload_n 2, 1) := by decide +kernel
theorem dX7_oddsOf_45 : decode cX7_oddsOf 45 = .ok (.invokestatic 146, 3) := by decide +kernel
theorem dX7_oddsOf_48 : decode cX7_oddsOf 48 = .ok (.if_icmp .ge 7, 3) := by decide +kernel
theorem dX7_oddsOf_51 : decode cX7_oddsOf 51 = .ok (.iconst 1, 1) := by decide +kernel
theorem dX7_oddsOf_52 : decode cX7_oddsOf 52 = .ok (.goto 4, 3) := by decide +kernel
theorem dX7_oddsOf_55 : decode cX7_oddsOf 55 = .ok (.iconst 0, 1) := by decide +kernel
theorem dX7_oddsOf_56 : decode cX7_oddsOf 56 = .ok (.iadd, 1) := by decide +kernel
theorem dX7_oddsOf_57 : decode cX7_oddsOf 57 = .ok (.istore 4, 2) := by decide +kernel
theorem dX7_oddsOf_59 : decode cX7_oddsOf 59 = .ok (.iinc 6 1, 3) := by decide +kernel
theorem dX7_oddsOf_62 : decode cX7_oddsOf 62 = .ok (.goto (-53), 3) := by decide +kernel
theorem dX7_oddsOf_65 : decode cX7_oddsOf 65 = .ok (.iload 5, 2) := by decide +kernel
theorem dX7_oddsOf_67 : decode cX7_oddsOf 67 = .ok (.istore 6, 2) := by decide +kernel
theorem dX7_oddsOf_69 : decode cX7_oddsOf 69 = .ok (.iload 4, 2) := by decide +kernel
theorem dX7_oddsOf_71 : decode cX7_oddsOf 71 = .ok (.istore 7, 2) := by decide +kernel
theorem dX7_oddsOf_73 : decode cX7_oddsOf 73 = .ok (.iload 7, 2) := by decide +kernel
theorem dX7_oddsOf_75 : decode cX7_oddsOf 75 = .ok (.ifCond .le 21, 3) := by decide +kernel
theorem dX7_oddsOf_78 : decode cX7_oddsOf 78 = .ok (.iload 6, 2) := by decide +kernel
theorem dX7_oddsOf_80 : decode cX7_oddsOf 80 = .ok (.iload 7, 2) := by decide +kernel
theorem dX7_oddsOf_82 : decode cX7_oddsOf 82 = .ok (.irem, 1) := by decide +kernel
theorem dX7_oddsOf_83 : decode cX7_oddsOf 83 = .ok (.istore 8, 2) := by decide +kernel
theorem dX7_oddsOf_85 : decode cX7_oddsOf 85 = .ok (.iload 7, 2) := by decide +kernel
theorem dX7_oddsOf_87 : decode cX7_oddsOf 87 = .ok (.istore 6, 2) := by decide +kernel
theorem dX7_oddsOf_89 : decode cX7_oddsOf 89 = .ok (.iload 8, 2) := by decide +kernel
theorem dX7_oddsOf_91 : decode cX7_oddsOf 91 = .ok (.istore 7, 2) := by decide +kernel
theorem dX7_oddsOf_93 : decode cX7_oddsOf 93 = .ok (.goto (-20), 3) := by decide +kernel
theorem dX7_oddsOf_96 : decode cX7_oddsOf 96 = .ok (.iload 5, 2) := by decide +kernel
theorem dX7_oddsOf_98 : decode cX7_oddsOf 98 = .ok (.ifCond .ne 7, 3) := by decide +kernel
theorem dX7_oddsOf_101 : decode cX7_oddsOf 101 = .ok (.iload_n 3, 1) := by decide +kernel
theorem dX7_oddsOf_102 : decode cX7_oddsOf 102 = .ok (.goto 20, 3) := by decide +kernel
theorem dX7_oddsOf_105 : decode cX7_oddsOf 105 = .ok (.iload_n 3, 1) := by decide +kernel
theorem dX7_oddsOf_106 : decode cX7_oddsOf 106 = .ok (.ifCond .ne 11, 3) := by decide +kernel
theorem dX7_oddsOf_109 : decode cX7_oddsOf 109 = .ok (.iload 4, 2) := by decide +kernel
theorem dX7_oddsOf_111 : decode cX7_oddsOf 111 = .ok (.iload 6, 2) := by decide +kernel
theorem dX7_oddsOf_113 : decode cX7_oddsOf 113 = .ok (.idiv, 1) := by decide +kernel
theorem dX7_oddsOf_114 : decode cX7_oddsOf 114 = .ok (.goto 8, 3) := by decide +kernel
theorem dX7_oddsOf_117 : decode cX7_oddsOf 117 = .ok (.iload 5, 2) := by decide +kernel
theorem dX7_oddsOf_119 : decode cX7_oddsOf 119 = .ok (.iload 6, 2) := by decide +kernel
theorem dX7_oddsOf_121 : decode cX7_oddsOf 121 = .ok (.idiv, 1) := by decide +kernel
theorem dX7_oddsOf_122 : decode cX7_oddsOf 122 = .ok (.ireturn, 1) := by decide +kernel
theorem dX7_odds_0 : decode cX7_odds 0 = .ok (.aload_n 0, 1) := by decide +kernel
theorem dX7_odds_1 : decode cX7_odds 1 = .ok (.iload_n 1, 1) := by decide +kernel
theorem dX7_odds_2 : decode cX7_odds 2 = .ok (.invokevirtual 193, 3) := by decide +kernel
theorem dX7_odds_5 : decode cX7_odds 5 = .ok (.ifCond .eq 16, 3) := by decide +kernel
theorem dX7_odds_8 : decode cX7_odds 8 = .ok (.aload_n 0, 1) := by decide +kernel
theorem dX7_odds_9 : decode cX7_odds 9 = .ok (.iload_n 2, 1) := by decide +kernel
theorem dX7_odds_10 : decode cX7_odds 10 = .ok (.invokevirtual 193, 3) := by decide +kernel
theorem dX7_odds_13 : decode cX7_odds 13 = .ok (.ifCond .eq 8, 3) := by decide +kernel
theorem dX7_odds_16 : decode cX7_odds 16 = .ok (.iload_n 1, 1) := by decide +kernel
theorem dX7_odds_17 : decode cX7_odds 17 = .ok (.iload_n 2, 1) := by decide +kernel
theorem dX7_odds_18 : decode cX7_odds 18 = .ok (.if_icmp .ne 6, 3) := by decide +kernel
theorem dX7_odds_21 : decode cX7_odds 21 = .ok (.bipush (-101), 2) := by decide +kernel
theorem dX7_odds_23 : decode cX7_odds 23 = .ok (.ireturn, 1) := by decide +kernel
theorem dX7_odds_24 : decode cX7_odds 24 = .ok (.iload_n 3, 1) := by decide +kernel
theorem dX7_odds_25 : decode cX7_odds 25 = .ok (.i2l, 1) := by decide +kernel
theorem dX7_odds_26 : decode cX7_odds 26 = .ok (.lconst 0, 1) := by decide +kernel
theorem dX7_odds_27 : decode cX7_odds 27 = .ok (.lconst 1, 1) := by decide +kernel
theorem dX7_odds_28 : decode cX7_odds 28 = .ok (.invokestatic 58, 3) := by decide +kernel
theorem dX7_odds_31 : decode cX7_odds 31 = .ok (.ifCond .eq 13, 3) := by decide +kernel
theorem dX7_odds_34 : decode cX7_odds 34 = .ok (.aload_n 0, 1) := by decide +kernel
theorem dX7_odds_35 : decode cX7_odds 35 = .ok (.iload_n 1, 1) := by decide +kernel
theorem dX7_odds_36 : decode cX7_odds 36 = .ok (.iload_n 2, 1) := by decide +kernel
theorem dX7_odds_37 : decode cX7_odds 37 = .ok (.iload_n 3, 1) := by decide +kernel
theorem dX7_odds_38 : decode cX7_odds 38 = .ok (.invokevirtual 196, 3) := by decide +kernel
theorem dX7_odds_41 : decode cX7_odds 41 = .ok (.goto 5, 3) := by decide +kernel
theorem dX7_odds_44 : decode cX7_odds 44 = .ok (.bipush (-102), 2) := by decide +kernel
theorem dX7_odds_46 : decode cX7_odds 46 = .ok (.ireturn, 1) := by decide +kernel
theorem dX7_tellLeaf_0 : decode cX7_tellLeaf 0 = .ok (.iload_n 2, 1) := by decide +kernel
theorem dX7_tellLeaf_1 : decode cX7_tellLeaf 1 = .ok (.tableswitch 78 0 3 #[31, 38, 44, 53], 31) := by decide +kernel
theorem dX7_tellLeaf_32 : decode cX7_tellLeaf 32 = .ok (.aload_n 0, 1) := by decide +kernel
theorem dX7_tellLeaf_33 : decode cX7_tellLeaf 33 = .ok (.getfield 13, 3) := by decide +kernel
theorem dX7_tellLeaf_36 : decode cX7_tellLeaf 36 = .ok (.iload_n 1, 1) := by decide +kernel
theorem dX7_tellLeaf_37 : decode cX7_tellLeaf 37 = .ok (.iaload, 1) := by decide +kernel
theorem dX7_tellLeaf_38 : decode cX7_tellLeaf 38 = .ok (.ireturn, 1) := by decide +kernel
theorem dX7_tellLeaf_39 : decode cX7_tellLeaf 39 = .ok (.aload_n 0, 1) := by decide +kernel
theorem dX7_tellLeaf_40 : decode cX7_tellLeaf 40 = .ok (.iload_n 1, 1) := by decide +kernel
theorem dX7_tellLeaf_41 : decode cX7_tellLeaf 41 = .ok (.invokevirtual 140, 3) := by decide +kernel
theorem dX7_tellLeaf_44 : decode cX7_tellLeaf 44 = .ok (.ireturn, 1) := by decide +kernel
theorem dX7_tellLeaf_45 : decode cX7_tellLeaf 45 = .ok (.aload_n 0, 1) := by decide +kernel
theorem dX7_tellLeaf_46 : decode cX7_tellLeaf 46 = .ok (.getfield 16, 3) := by decide +kernel
theorem dX7_tellLeaf_49 : decode cX7_tellLeaf 49 = .ok (.iload_n 1, 1) := by decide +kernel
theorem dX7_tellLeaf_50 : decode cX7_tellLeaf 50 = .ok (.invokestatic 146, 3) := by decide +kernel
theorem dX7_tellLeaf_53 : decode cX7_tellLeaf 53 = .ok (.ireturn, 1) := by decide +kernel
theorem dX7_tellLeaf_54 : decode cX7_tellLeaf 54 = .ok (.aload_n 0, 1) := by decide +kernel
theorem dX7_tellLeaf_55 : decode cX7_tellLeaf 55 = .ok (.aload_n 0, 1) := by decide +kernel
theorem dX7_tellLeaf_56 : decode cX7_tellLeaf 56 = .ok (.getfield 16, 3) := by decide +kernel
theorem dX7_tellLeaf_59 : decode cX7_tellLeaf 59 = .ok (.aload_n 0, 1) := by decide +kernel
theorem dX7_tellLeaf_60 : decode cX7_tellLeaf 60 = .ok (.getfield 16, 3) := by decide +kernel
theorem dX7_tellLeaf_63 : decode cX7_tellLeaf 63 = .ok (.iload_n 1, 1) := by decide +kernel
theorem dX7_tellLeaf_64 : decode cX7_tellLeaf 64 = .ok (.invokestatic 146, 3) := by decide +kernel
theorem dX7_tellLeaf_67 : decode cX7_tellLeaf 67 = .ok (.invokevirtual 125, 3) := by decide +kernel
theorem dX7_tellLeaf_70 : decode cX7_tellLeaf 70 = .ok (.ifCond .eq 7, 3) := by decide +kernel
theorem dX7_tellLeaf_73 : decode cX7_tellLeaf 73 = .ok (.iconst 1, 1) := by decide +kernel
theorem dX7_tellLeaf_74 : decode cX7_tellLeaf 74 = .ok (.goto 4, 3) := by decide +kernel
theorem dX7_tellLeaf_77 : decode cX7_tellLeaf 77 = .ok (.iconst 0, 1) := by decide +kernel
theorem dX7_tellLeaf_78 : decode cX7_tellLeaf 78 = .ok (.ireturn, 1) := by decide +kernel
theorem dX7_tellLeaf_79 : decode cX7_tellLeaf 79 = .ok (.bipush (-102), 2) := by decide +kernel
theorem dX7_tellLeaf_81 : decode cX7_tellLeaf 81 = .ok (.ireturn, 1) := by decide +kernel
theorem dX7_leaf_0 : decode cX7_leaf 0 = .ok (.aload_n 0, 1) := by decide +kernel
theorem dX7_leaf_1 : decode cX7_leaf 1 = .ok (.iload_n 1, 1) := by decide +kernel
theorem dX7_leaf_2 : decode cX7_leaf 2 = .ok (.invokevirtual 193, 3) := by decide +kernel
theorem dX7_leaf_5 : decode cX7_leaf 5 = .ok (.ifCond .eq 12, 3) := by decide +kernel
theorem dX7_leaf_8 : decode cX7_leaf 8 = .ok (.aload_n 0, 1) := by decide +kernel
theorem dX7_leaf_9 : decode cX7_leaf 9 = .ok (.iload_n 1, 1) := by decide +kernel
theorem dX7_leaf_10 : decode cX7_leaf 10 = .ok (.iload_n 2, 1) := by decide +kernel
theorem dX7_leaf_11 : decode cX7_leaf 11 = .ok (.invokevirtual 200, 3) := by decide +kernel
theorem dX7_leaf_14 : decode cX7_leaf 14 = .ok (.goto 5, 3) := by decide +kernel
theorem dX7_leaf_17 : decode cX7_leaf 17 = .ok (.bipush (-101), 2) := by decide +kernel
theorem dX7_leaf_19 : decode cX7_leaf 19 = .ok (.ireturn, 1) := by decide +kernel
theorem dX7_as_0 : decode cX7_as 0 = .ok (.aload_n 0, 1) := by decide +kernel
theorem dX7_as_1 : decode cX7_as 1 = .ok (.iload_n 1, 1) := by decide +kernel
theorem dX7_as_2 : decode cX7_as 2 = .ok (.invokevirtual 193, 3) := by decide +kernel
theorem dX7_as_5 : decode cX7_as 5 = .ok (.ifCond .ne 6, 3) := by decide +kernel
theorem dX7_as_8 : decode cX7_as 8 = .ok (.bipush (-101), 2) := by decide +kernel
theorem dX7_as_10 : decode cX7_as 10 = .ok (.ireturn, 1) := by decide +kernel
theorem dX7_as_11 : decode cX7_as 11 = .ok (.iload_n 2, 1) := by decide +kernel
theorem dX7_as_12 : decode cX7_as 12 = .ok (.i2l, 1) := by decide +kernel
theorem dX7_as_13 : decode cX7_as 13 = .ok (.lconst 0, 1) := by decide +kernel
theorem dX7_as_14 : decode cX7_as 14 = .ok (.ldc2_w 204, 3) := by decide +kernel
theorem dX7_as_17 : decode cX7_as 17 = .ok (.invokestatic 58, 3) := by decide +kernel
theorem dX7_as_20 : decode cX7_as 20 = .ok (.ifCond .ne 6, 3) := by decide +kernel
theorem dX7_as_23 : decode cX7_as 23 = .ok (.bipush (-102), 2) := by decide +kernel
theorem dX7_as_25 : decode cX7_as 25 = .ok (.ireturn, 1) := by decide +kernel
theorem dX7_as_26 : decode cX7_as 26 = .ok (.iload_n 2, 1) := by decide +kernel
theorem dX7_as_27 : decode cX7_as 27 = .ok (.ifCond .eq 43, 3) := by decide +kernel
theorem dX7_as_30 : decode cX7_as 30 = .ok (.iload_n 2, 1) := by decide +kernel
theorem dX7_as_31 : decode cX7_as 31 = .ok (.aload_n 0, 1) := by decide +kernel
theorem dX7_as_32 : decode cX7_as 32 = .ok (.getfield 13, 3) := by decide +kernel
theorem dX7_as_35 : decode cX7_as 35 = .ok (.iload_n 1, 1) := by decide +kernel
theorem dX7_as_36 : decode cX7_as 36 = .ok (.iaload, 1) := by decide +kernel
theorem dX7_as_37 : decode cX7_as 37 = .ok (.if_icmp .eq 33, 3) := by decide +kernel
theorem dX7_as_40 : decode cX7_as 40 = .ok (.iload_n 2, 1) := by decide +kernel
theorem dX7_as_41 : decode cX7_as 41 = .ok (.iconst 1, 1) := by decide +kernel
theorem dX7_as_42 : decode cX7_as 42 = .ok (.if_icmp .ne 13, 3) := by decide +kernel
theorem dX7_as_45 : decode cX7_as 45 = .ok (.aload_n 0, 1) := by decide +kernel
theorem dX7_as_46 : decode cX7_as 46 = .ok (.getfield 13, 3) := by decide +kernel
theorem dX7_as_49 : decode cX7_as 49 = .ok (.iload_n 1, 1) := by decide +kernel
theorem dX7_as_50 : decode cX7_as 50 = .ok (.iaload, 1) := by decide +kernel
theorem dX7_as_51 : decode cX7_as 51 = .ok (.iconst 3, 1) := by decide +kernel
theorem dX7_as_52 : decode cX7_as 52 = .ok (.if_icmp .eq 18, 3) := by decide +kernel
theorem dX7_as_55 : decode cX7_as 55 = .ok (.iload_n 2, 1) := by decide +kernel
theorem dX7_as_56 : decode cX7_as 56 = .ok (.iconst 2, 1) := by decide +kernel
theorem dX7_as_57 : decode cX7_as 57 = .ok (.if_icmp .ne 17, 3) := by decide +kernel
theorem dX7_as_60 : decode cX7_as 60 = .ok (.aload_n 0, 1) := by decide +kernel
theorem dX7_as_61 : decode cX7_as 61 = .ok (.getfield 13, 3) := by decide +kernel
theorem dX7_as_64 : decode cX7_as 64 = .ok (.iload_n 1, 1) := by decide +kernel
theorem dX7_as_65 : decode cX7_as 65 = .ok (.iaload, 1) := by decide +kernel
theorem dX7_as_66 : decode cX7_as 66 = .ok (.iconst 4, 1) := by decide +kernel
theorem dX7_as_67 : decode cX7_as 67 = .ok (.if_icmp .ne 7, 3) := by decide +kernel
theorem dX7_as_70 : decode cX7_as 70 = .ok (.iconst 1, 1) := by decide +kernel
theorem dX7_as_71 : decode cX7_as 71 = .ok (.goto 4, 3) := by decide +kernel
theorem dX7_as_74 : decode cX7_as 74 = .ok (.iconst 0, 1) := by decide +kernel
theorem dX7_as_75 : decode cX7_as 75 = .ok (.istore_n 3, 1) := by decide +kernel
theorem dX7_as_76 : decode cX7_as 76 = .ok (.iload_n 3, 1) := by decide +kernel
theorem dX7_as_77 : decode cX7_as 77 = .ok (.ifCond .eq 7, 3) := by decide +kernel
theorem dX7_as_80 : decode cX7_as 80 = .ok (.iload_n 1, 1) := by decide +kernel
theorem dX7_as_81 : decode cX7_as 81 = .ok (.goto 4, 3) := by decide +kernel
theorem dX7_as_84 : decode cX7_as 84 = .ok (.iconst (-1), 1) := by decide +kernel
theorem dX7_as_85 : decode cX7_as 85 = .ok (.ireturn, 1) := by decide +kernel
theorem dX7_hinge_0 : decode cX7_hinge 0 = .ok (.iload_n 1, 1) := by decide +kernel
theorem dX7_hinge_1 : decode cX7_hinge 1 = .ok (.i2l, 1) := by decide +kernel
theorem dX7_hinge_2 : decode cX7_hinge 2 = .ok (.lconst 0, 1) := by decide +kernel
theorem dX7_hinge_3 : decode cX7_hinge 3 = .ok (.aload_n 0, 1) := by decide +kernel
theorem dX7_hinge_4 : decode cX7_hinge 4 = .ok (.getfield 73, 3) := by decide +kernel
theorem dX7_hinge_7 : decode cX7_hinge 7 = .ok (.iconst 2, 1) := by decide +kernel
theorem dX7_hinge_8 : decode cX7_hinge 8 = .ok (.isub, 1) := by decide +kernel
theorem dX7_hinge_9 : decode cX7_hinge 9 = .ok (.i2l, 1) := by decide +kernel
theorem dX7_hinge_10 : decode cX7_hinge 10 = .ok (.invokestatic 58, 3) := by decide +kernel
theorem dX7_hinge_13 : decode cX7_hinge 13 = .ok (.ifCond .ne 6, 3) := by decide +kernel
theorem dX7_hinge_16 : decode cX7_hinge 16 = .ok (.bipush (-101), 2) := by decide +kernel
theorem dX7_hinge_18 : decode cX7_hinge 18 = .ok (.ireturn, 1) := by decide +kernel
theorem dX7_hinge_19 : decode cX7_hinge 19 = .ok (.iload_n 2, 1) := by decide +kernel
theorem dX7_hinge_20 : decode cX7_hinge 20 = .ok (.i2l, 1) := by decide +kernel
theorem dX7_hinge_21 : decode cX7_hinge 21 = .ok (.lconst 0, 1) := by decide +kernel
theorem dX7_hinge_22 : decode cX7_hinge 22 = .ok (.lconst 1, 1) := by decide +kernel
theorem dX7_hinge_23 : decode cX7_hinge 23 = .ok (.invokestatic 58, 3) := by decide +kernel
theorem dX7_hinge_26 : decode cX7_hinge 26 = .ok (.ifCond .ne 6, 3) := by decide +kernel
theorem dX7_hinge_29 : decode cX7_hinge 29 = .ok (.bipush (-102), 2) := by decide +kernel
theorem dX7_hinge_31 : decode cX7_hinge 31 = .ok (.ireturn, 1) := by decide +kernel
theorem dX7_hinge_32 : decode cX7_hinge 32 = .ok (.iload_n 2, 1) := by decide +kernel
theorem dX7_hinge_33 : decode cX7_hinge 33 = .ok (.ifCond .ne 9, 3) := by decide +kernel
theorem dX7_hinge_36 : decode cX7_hinge 36 = .ok (.iload_n 1, 1) := by decide +kernel
theorem dX7_hinge_37 : decode cX7_hinge 37 = .ok (.iconst 2, 1) := by decide +kernel
theorem dX7_hinge_38 : decode cX7_hinge 38 = .ok (.irem, 1) := by decide +kernel
theorem dX7_hinge_39 : decode cX7_hinge 39 = .ok (.goto 12, 3) := by decide +kernel
theorem dX7_hinge_42 : decode cX7_hinge 42 = .ok (.aload_n 0, 1) := by decide +kernel
theorem dX7_hinge_43 : decode cX7_hinge 43 = .ok (.aload_n 0, 1) := by decide +kernel
theorem dX7_hinge_44 : decode cX7_hinge 44 = .ok (.getfield 16, 3) := by decide +kernel
theorem dX7_hinge_47 : decode cX7_hinge 47 = .ok (.iload_n 1, 1) := by decide +kernel
theorem dX7_hinge_48 : decode cX7_hinge 48 = .ok (.invokevirtual 143, 3) := by decide +kernel
theorem dX7_hinge_51 : decode cX7_hinge 51 = .ok (.ireturn, 1) := by decide +kernel
theorem dX7_at_0 : decode cX7_at 0 = .ok (.aload_n 0, 1) := by decide +kernel
theorem dX7_at_1 : decode cX7_at 1 = .ok (.iload_n 1, 1) := by decide +kernel
theorem dX7_at_2 : decode cX7_at 2 = .ok (.invokevirtual 193, 3) := by decide +kernel
theorem dX7_at_5 : decode cX7_at 5 = .ok (.ifCond .eq 12, 3) := by decide +kernel
theorem dX7_at_8 : decode cX7_at 8 = .ok (.aload_n 0, 1) := by decide +kernel
theorem dX7_at_9 : decode cX7_at 9 = .ok (.getfield 16, 3) := by decide +kernel
theorem dX7_at_12 : decode cX7_at 12 = .ok (.iload_n 1, 1) := by decide +kernel
theorem dX7_at_13 : decode cX7_at 13 = .ok (.iaload, 1) := by decide +kernel
theorem dX7_at_14 : decode cX7_at 14 = .ok (.goto 5, 3) := by decide +kernel
theorem dX7_at_17 : decode cX7_at 17 = .ok (.bipush (-101), 2) := by decide +kernel
theorem dX7_at_19 : decode cX7_at 19 = .ok (.ireturn, 1) := by decide +kernel
theorem dX7_may_0 : decode cX7_may 0 = .ok (.aload_n 0, 1) := by decide +kernel
theorem dX7_may_1 : decode cX7_may 1 = .ok (.iload_n 1, 1) := by decide +kernel
theorem dX7_may_2 : decode cX7_may 2 = .ok (.invokevirtual 193, 3) := by decide +kernel
theorem dX7_may_5 : decode cX7_may 5 = .ok (.ifCond .eq 11, 3) := by decide +kernel
theorem dX7_may_8 : decode cX7_may 8 = .ok (.aload_n 0, 1) := by decide +kernel
theorem dX7_may_9 : decode cX7_may 9 = .ok (.iload_n 2, 1) := by decide +kernel
theorem dX7_may_10 : decode cX7_may 10 = .ok (.invokevirtual 193, 3) := by decide +kernel
theorem dX7_may_13 : decode cX7_may 13 = .ok (.ifCond .ne 6, 3) := by decide +kernel
theorem dX7_may_16 : decode cX7_may 16 = .ok (.bipush (-101), 2) := by decide +kernel
theorem dX7_may_18 : decode cX7_may 18 = .ok (.ireturn, 1) := by decide +kernel
theorem dX7_may_19 : decode cX7_may 19 = .ok (.aload_n 0, 1) := by decide +kernel
theorem dX7_may_20 : decode cX7_may 20 = .ok (.getfield 16, 3) := by decide +kernel
theorem dX7_may_23 : decode cX7_may 23 = .ok (.iload_n 1, 1) := by decide +kernel
theorem dX7_may_24 : decode cX7_may 24 = .ok (.invokestatic 146, 3) := by decide +kernel
theorem dX7_may_27 : decode cX7_may 27 = .ok (.iload_n 2, 1) := by decide +kernel
theorem dX7_may_28 : decode cX7_may 28 = .ok (.if_icmp .eq 17, 3) := by decide +kernel
theorem dX7_may_31 : decode cX7_may 31 = .ok (.aload_n 0, 1) := by decide +kernel
theorem dX7_may_32 : decode cX7_may 32 = .ok (.aload_n 0, 1) := by decide +kernel
theorem dX7_may_33 : decode cX7_may 33 = .ok (.getfield 16, 3) := by decide +kernel
theorem dX7_may_36 : decode cX7_may 36 = .ok (.iload_n 1, 1) := by decide +kernel
theorem dX7_may_37 : decode cX7_may 37 = .ok (.iload_n 2, 1) := by decide +kernel
theorem dX7_may_38 : decode cX7_may 38 = .ok (.invokevirtual 163, 3) := by decide +kernel
theorem dX7_may_41 : decode cX7_may 41 = .ok (.iconst (-1), 1) := by decide +kernel
theorem dX7_may_42 : decode cX7_may 42 = .ok (.if_icmp .eq 7, 3) := by decide +kernel
theorem dX7_may_45 : decode cX7_may 45 = .ok (.iconst 1, 1) := by decide +kernel
theorem dX7_may_46 : decode cX7_may 46 = .ok (.goto 4, 3) := by decide +kernel
theorem dX7_may_49 : decode cX7_may 49 = .ok (.iconst 0, 1) := by decide +kernel
theorem dX7_may_50 : decode cX7_may 50 = .ok (.ireturn, 1) := by decide +kernel
theorem dX7_fitMany_0 : decode cX7_fitMany 0 = .ok (.iconst 0, 1) := by decide +kernel
theorem dX7_fitMany_1 : decode cX7_fitMany 1 = .ok (.istore_n 1, 1) := by decide +kernel
theorem dX7_fitMany_2 : decode cX7_fitMany 2 = .ok (.iconst 0, 1) := by decide +kernel
theorem dX7_fitMany_3 : decode cX7_fitMany 3 = .ok (.istore_n 2, 1) := by decide +kernel
theorem dX7_fitMany_4 : decode cX7_fitMany 4 = .ok (.iload_n 2, 1) := by decide +kernel
theorem dX7_fitMany_5 : decode cX7_fitMany 5 = .ok (.aload_n 0, 1) := by decide +kernel
theorem dX7_fitMany_6 : decode cX7_fitMany 6 = .ok (.getfield 100, 3) := by decide +kernel
theorem dX7_fitMany_9 : decode cX7_fitMany 9 = .ok (.if_icmp .ge 25, 3) := by decide +kernel
theorem dX7_fitMany_12 : decode cX7_fitMany 12 = .ok (.iload_n 1, 1) := by decide +kernel
theorem dX7_fitMany_13 : decode cX7_fitMany 13 = .ok (.aload_n 0, 1) := by decide +kernel
theorem dX7_fitMany_14 : decode cX7_fitMany 14 = .ok (.iload_n 2, 1) := by decide +kernel
theorem dX7_fitMany_15 : decode cX7_fitMany 15 = .ok (.invokevirtual 176, 3) := by decide +kernel
theorem dX7_fitMany_18 : decode cX7_fitMany 18 = .ok (.ifCond .eq 7, 3) := by decide +kernel
theorem dX7_fitMany_21 : decode cX7_fitMany 21 = .ok (.iconst 1, 1) := by decide +kernel
theorem dX7_fitMany_22 : decode cX7_fitMany 22 = .ok (.goto 4, 3) := by decide +kernel
theorem dX7_fitMany_25 : decode cX7_fitMany 25 = .ok (.iconst 0, 1) := by decide +kernel
theorem dX7_fitMany_26 : decode cX7_fitMany 26 = .ok (.iadd, 1) := by decide +kernel
theorem dX7_fitMany_27 : decode cX7_fitMany 27 = .ok (.istore_n 1, 1) := by decide +kernel
theorem dX7_fitMany_28 : decode cX7_fitMany 28 = .ok (.iinc 2 1, 3) := by decide +kernel
theorem dX7_fitMany_31 : decode cX7_fitMany 31 = .ok (.goto (-27), 3) := by decide +kernel
theorem dX7_fitMany_34 : decode cX7_fitMany 34 = .ok (.iload_n 1, 1) := by decide +kernel
theorem dX7_fitMany_35 : decode cX7_fitMany 35 = .ok (.ireturn, 1) := by decide +kernel
theorem dX7_ordersOf_0 : decode cX7_ordersOf 0 = .ok (.iload_n 1, 1) := by decide +kernel
theorem dX7_ordersOf_1 : decode cX7_ordersOf 1 = .ok (.tableswitch 42 0 2 #[27, 32, 37], 27) := by decide +kernel
theorem dX7_ordersOf_28 : decode cX7_ordersOf 28 = .ok (.aload_n 0, 1) := by decide +kernel
theorem dX7_ordersOf_29 : decode cX7_ordersOf 29 = .ok (.getfield 100, 3) := by decide +kernel
theorem dX7_ordersOf_32 : decode cX7_ordersOf 32 = .ok (.ireturn, 1) := by decide +kernel
theorem dX7_ordersOf_33 : decode cX7_ordersOf 33 = .ok (.aload_n 0, 1) := by decide +kernel
theorem dX7_ordersOf_34 : decode cX7_ordersOf 34 = .ok (.invokevirtual 206, 3) := by decide +kernel
theorem dX7_ordersOf_37 : decode cX7_ordersOf 37 = .ok (.ireturn, 1) := by decide +kernel
theorem dX7_ordersOf_38 : decode cX7_ordersOf 38 = .ok (.aload_n 0, 1) := by decide +kernel
theorem dX7_ordersOf_39 : decode cX7_ordersOf 39 = .ok (.invokevirtual 157, 3) := by decide +kernel
theorem dX7_ordersOf_42 : decode cX7_ordersOf 42 = .ok (.ireturn, 1) := by decide +kernel
theorem dX7_ordersOf_43 : decode cX7_ordersOf 43 = .ok (.aload_n 0, 1) := by decide +kernel
theorem dX7_ordersOf_44 : decode cX7_ordersOf 44 = .ok (.aload_n 0, 1) := by decide +kernel
theorem dX7_ordersOf_45 : decode cX7_ordersOf 45 = .ok (.getfield 16, 3) := by decide +kernel
theorem dX7_ordersOf_48 : decode cX7_ordersOf 48 = .ok (.invokevirtual 137, 3) := by decide +kernel
theorem dX7_ordersOf_51 : decode cX7_ordersOf 51 = .ok (.ifCond .eq 7, 3) := by decide +kernel
theorem dX7_ordersOf_54 : decode cX7_ordersOf 54 = .ok (.iconst 1, 1) := by decide +kernel
theorem dX7_ordersOf_55 : decode cX7_ordersOf 55 = .ok (.goto 4, 3) := by decide +kernel
theorem dX7_ordersOf_58 : decode cX7_ordersOf 58 = .ok (.iconst 0, 1) := by decide +kernel
theorem dX7_ordersOf_59 : decode cX7_ordersOf 59 = .ok (.ireturn, 1) := by decide +kernel
theorem dX7_orders_0 : decode cX7_orders 0 = .ok (.iload_n 1, 1) := by decide +kernel
theorem dX7_orders_1 : decode cX7_orders 1 = .ok (.i2l, 1) := by decide +kernel
theorem dX7_orders_2 : decode cX7_orders 2 = .ok (.lconst 0, 1) := by decide +kernel
theorem dX7_orders_3 : decode cX7_orders 3 = .ok (.ldc2_w 179, 3) := by decide +kernel
theorem dX7_orders_6 : decode cX7_orders 6 = .ok (.invokestatic 58, 3) := by decide +kernel
theorem dX7_orders_9 : decode cX7_orders 9 = .ok (.ifCond .ne 6, 3) := by decide +kernel
theorem dX7_orders_12 : decode cX7_orders 12 = .ok (.bipush (-102), 2) := by decide +kernel
theorem dX7_orders_14 : decode cX7_orders 14 = .ok (.ireturn, 1) := by decide +kernel
theorem dX7_orders_15 : decode cX7_orders 15 = .ok (.aload_n 0, 1) := by decide +kernel
theorem dX7_orders_16 : decode cX7_orders 16 = .ok (.invokevirtual 118, 3) := by decide +kernel
theorem dX7_orders_19 : decode cX7_orders 19 = .ok (.ifCond .eq 8, 3) := by decide +kernel
theorem dX7_orders_22 : decode cX7_orders 22 = .ok (.bipush (-103), 2) := by decide +kernel
theorem dX7_orders_24 : decode cX7_orders 24 = .ok (.goto 8, 3) := by decide +kernel
theorem dX7_orders_27 : decode cX7_orders 27 = .ok (.aload_n 0, 1) := by decide +kernel
theorem dX7_orders_28 : decode cX7_orders 28 = .ok (.iload_n 1, 1) := by decide +kernel
theorem dX7_orders_29 : decode cX7_orders 29 = .ok (.invokevirtual 209, 3) := by decide +kernel
theorem dX7_orders_32 : decode cX7_orders 32 = .ok (.ireturn, 1) := by decide +kernel
theorem dX7_tellOrder_0 : decode cX7_tellOrder 0 = .ok (.aload_n 0, 1) := by decide +kernel
theorem dX7_tellOrder_1 : decode cX7_tellOrder 1 = .ok (.aload_n 0, 1) := by decide +kernel
theorem dX7_tellOrder_2 : decode cX7_tellOrder 2 = .ok (.getfield 19, 3) := by decide +kernel
theorem dX7_tellOrder_5 : decode cX7_tellOrder 5 = .ok (.iload_n 1, 1) := by decide +kernel
theorem dX7_tellOrder_6 : decode cX7_tellOrder 6 = .ok (.iaload, 1) := by decide +kernel
theorem dX7_tellOrder_7 : decode cX7_tellOrder 7 = .ok (.aload_n 0, 1) := by decide +kernel
theorem dX7_tellOrder_8 : decode cX7_tellOrder 8 = .ok (.getfield 25, 3) := by decide +kernel
theorem dX7_tellOrder_11 : decode cX7_tellOrder 11 = .ok (.invokevirtual 133, 3) := by decide +kernel
theorem dX7_tellOrder_14 : decode cX7_tellOrder 14 = .ok (.iload_n 2, 1) := by decide +kernel
theorem dX7_tellOrder_15 : decode cX7_tellOrder 15 = .ok (.iconst 2, 1) := by decide +kernel
theorem dX7_tellOrder_16 : decode cX7_tellOrder 16 = .ok (.if_icmp .ge 36, 3) := by decide +kernel
theorem dX7_tellOrder_19 : decode cX7_tellOrder 19 = .ok (.iload_n 2, 1) := by decide +kernel
theorem dX7_tellOrder_20 : decode cX7_tellOrder 20 = .ok (.iconst 1, 1) := by decide +kernel
theorem dX7_tellOrder_21 : decode cX7_tellOrder 21 = .ok (.if_icmp .ne 14, 3) := by decide +kernel
theorem dX7_tellOrder_24 : decode cX7_tellOrder 24 = .ok (.aload_n 0, 1) := by decide +kernel
theorem dX7_tellOrder_25 : decode cX7_tellOrder 25 = .ok (.aload_n 0, 1) := by decide +kernel
theorem dX7_tellOrder_26 : decode cX7_tellOrder 26 = .ok (.getfield 25, 3) := by decide +kernel
theorem dX7_tellOrder_29 : decode cX7_tellOrder 29 = .ok (.invokevirtual 187, 3) := by decide +kernel
theorem dX7_tellOrder_32 : decode cX7_tellOrder 32 = .ok (.goto 19, 3) := by decide +kernel
theorem dX7_tellOrder_35 : decode cX7_tellOrder 35 = .ok (.aload_n 0, 1) := by decide +kernel
theorem dX7_tellOrder_36 : decode cX7_tellOrder 36 = .ok (.aload_n 0, 1) := by decide +kernel
theorem dX7_tellOrder_37 : decode cX7_tellOrder 37 = .ok (.getfield 25, 3) := by decide +kernel
theorem dX7_tellOrder_40 : decode cX7_tellOrder 40 = .ok (.invokevirtual 137, 3) := by decide +kernel
theorem dX7_tellOrder_43 : decode cX7_tellOrder 43 = .ok (.ifCond .eq 7, 3) := by decide +kernel
theorem dX7_tellOrder_46 : decode cX7_tellOrder 46 = .ok (.iconst 1, 1) := by decide +kernel
theorem dX7_tellOrder_47 : decode cX7_tellOrder 47 = .ok (.goto 4, 3) := by decide +kernel
theorem dX7_tellOrder_50 : decode cX7_tellOrder 50 = .ok (.iconst 0, 1) := by decide +kernel
theorem dX7_tellOrder_51 : decode cX7_tellOrder 51 = .ok (.ireturn, 1) := by decide +kernel
theorem dX7_tellOrder_52 : decode cX7_tellOrder 52 = .ok (.iload_n 2, 1) := by decide +kernel
theorem dX7_tellOrder_53 : decode cX7_tellOrder 53 = .ok (.bipush 10, 2) := by decide +kernel
theorem dX7_tellOrder_55 : decode cX7_tellOrder 55 = .ok (.isub, 1) := by decide +kernel
theorem dX7_tellOrder_56 : decode cX7_tellOrder 56 = .ok (.aload_n 0, 1) := by decide +kernel
theorem dX7_tellOrder_57 : decode cX7_tellOrder 57 = .ok (.getfield 73, 3) := by decide +kernel
theorem dX7_tellOrder_60 : decode cX7_tellOrder 60 = .ok (.if_icmp .ge 15, 3) := by decide +kernel
theorem dX7_tellOrder_63 : decode cX7_tellOrder 63 = .ok (.aload_n 0, 1) := by decide +kernel
theorem dX7_tellOrder_64 : decode cX7_tellOrder 64 = .ok (.getfield 25, 3) := by decide +kernel
theorem dX7_tellOrder_67 : decode cX7_tellOrder 67 = .ok (.iload_n 2, 1) := by decide +kernel
theorem dX7_tellOrder_68 : decode cX7_tellOrder 68 = .ok (.bipush 10, 2) := by decide +kernel
theorem dX7_tellOrder_70 : decode cX7_tellOrder 70 = .ok (.isub, 1) := by decide +kernel
theorem dX7_tellOrder_71 : decode cX7_tellOrder 71 = .ok (.iaload, 1) := by decide +kernel
theorem dX7_tellOrder_72 : decode cX7_tellOrder 72 = .ok (.goto 4, 3) := by decide +kernel
theorem dX7_tellOrder_75 : decode cX7_tellOrder 75 = .ok (.iconst (-1), 1) := by decide +kernel
theorem dX7_tellOrder_76 : decode cX7_tellOrder 76 = .ok (.ireturn, 1) := by decide +kernel
theorem dX7_order_0 : decode cX7_order 0 = .ok (.aload_n 0, 1) := by decide +kernel
theorem dX7_order_1 : decode cX7_order 1 = .ok (.iload_n 1, 1) := by decide +kernel
theorem dX7_order_2 : decode cX7_order 2 = .ok (.invokevirtual 170, 3) := by decide +kernel
theorem dX7_order_5 : decode cX7_order 5 = .ok (.ifCond .ne 6, 3) := by decide +kernel
theorem dX7_order_8 : decode cX7_order 8 = .ok (.bipush (-101), 2) := by decide +kernel
theorem dX7_order_10 : decode cX7_order 10 = .ok (.ireturn, 1) := by decide +kernel
theorem dX7_order_11 : decode cX7_order 11 = .ok (.iload_n 2, 1) := by decide +kernel
theorem dX7_order_12 : decode cX7_order 12 = .ok (.i2l, 1) := by decide +kernel
theorem dX7_order_13 : decode cX7_order 13 = .ok (.lconst 0, 1) := by decide +kernel
theorem dX7_order_14 : decode cX7_order 14 = .ok (.lconst 1, 1) := by decide +kernel
theorem dX7_order_15 : decode cX7_order 15 = .ok (.invokestatic 58, 3) := by decide +kernel
theorem dX7_order_18 : decode cX7_order 18 = .ok (.ifCond .ne 17, 3) := by decide +kernel
theorem dX7_order_21 : decode cX7_order 21 = .ok (.iload_n 2, 1) := by decide +kernel
theorem dX7_order_22 : decode cX7_order 22 = .ok (.i2l, 1) := by decide +kernel
theorem dX7_order_23 : decode cX7_order 23 = .ok (.ldc2_w 212, 3) := by decide +kernel
theorem dX7_order_26 : decode cX7_order 26 = .ok (.ldc2_w 214, 3) := by decide +kernel
theorem dX7_order_29 : decode cX7_order 29 = .ok (.invokestatic 58, 3) := by decide +kernel
theorem dX7_order_32 : decode cX7_order 32 = .ok (.ifCond .eq 12, 3) := by decide +kernel
theorem dX7_order_35 : decode cX7_order 35 = .ok (.aload_n 0, 1) := by decide +kernel
theorem dX7_order_36 : decode cX7_order 36 = .ok (.iload_n 1, 1) := by decide +kernel
theorem dX7_order_37 : decode cX7_order 37 = .ok (.iload_n 2, 1) := by decide +kernel
theorem dX7_order_38 : decode cX7_order 38 = .ok (.invokevirtual 216, 3) := by decide +kernel
theorem dX7_order_41 : decode cX7_order 41 = .ok (.goto 5, 3) := by decide +kernel
theorem dX7_order_44 : decode cX7_order 44 = .ok (.bipush (-102), 2) := by decide +kernel
theorem dX7_order_46 : decode cX7_order 46 = .ok (.ireturn, 1) := by decide +kernel
theorem dX7_topsOf_0 : decode cX7_topsOf 0 = .ok (.iconst 0, 1) := by decide +kernel
theorem dX7_topsOf_1 : decode cX7_topsOf 1 = .ok (.istore_n 3, 1) := by decide +kernel
theorem dX7_topsOf_2 : decode cX7_topsOf 2 = .ok (.iconst 0, 1) := by decide +kernel
theorem dX7_topsOf_3 : decode cX7_topsOf 3 = .ok (.istore 4, 2) := by decide +kernel
theorem dX7_topsOf_5 : decode cX7_topsOf 5 = .ok (.iload 4, 2) := by decide +kernel
theorem dX7_topsOf_7 : decode cX7_topsOf 7 = .ok (.aload_n 0, 1) := by decide +kernel
theorem dX7_topsOf_8 : decode cX7_topsOf 8 = .ok (.getfield 100, 3) := by decide +kernel
theorem dX7_topsOf_11 : decode cX7_topsOf 11 = .ok (.if_icmp .ge 67, 3) := by decide +kernel
theorem dX7_topsOf_14 : decode cX7_topsOf 14 = .ok (.iload_n 2, 1) := by decide +kernel
theorem dX7_topsOf_15 : decode cX7_topsOf 15 = .ok (.ifCond .eq 12, 3) := by decide +kernel
theorem dX7_topsOf_18 : decode cX7_topsOf 18 = .ok (.aload_n 0, 1) := by decide +kernel
theorem dX7_topsOf_19 : decode cX7_topsOf 19 = .ok (.iload 4, 2) := by decide +kernel
theorem dX7_topsOf_21 : decode cX7_topsOf 21 = .ok (.invokevirtual 176, 3) := by decide +kernel
theorem dX7_topsOf_24 : decode cX7_topsOf 24 = .ok (.ifCond .eq 7, 3) := by decide +kernel
theorem dX7_topsOf_27 : decode cX7_topsOf 27 = .ok (.iconst 1, 1) := by decide +kernel
theorem dX7_topsOf_28 : decode cX7_topsOf 28 = .ok (.goto 4, 3) := by decide +kernel
theorem dX7_topsOf_31 : decode cX7_topsOf 31 = .ok (.iconst 0, 1) := by decide +kernel
theorem dX7_topsOf_32 : decode cX7_topsOf 32 = .ok (.istore 5, 2) := by decide +kernel
theorem dX7_topsOf_34 : decode cX7_topsOf 34 = .ok (.aload_n 0, 1) := by decide +kernel
theorem dX7_topsOf_35 : decode cX7_topsOf 35 = .ok (.aload_n 0, 1) := by decide +kernel
theorem dX7_topsOf_36 : decode cX7_topsOf 36 = .ok (.getfield 19, 3) := by decide +kernel
theorem dX7_topsOf_39 : decode cX7_topsOf 39 = .ok (.iload 4, 2) := by decide +kernel
theorem dX7_topsOf_41 : decode cX7_topsOf 41 = .ok (.iaload, 1) := by decide +kernel
theorem dX7_topsOf_42 : decode cX7_topsOf 42 = .ok (.aload_n 0, 1) := by decide +kernel
theorem dX7_topsOf_43 : decode cX7_topsOf 43 = .ok (.getfield 25, 3) := by decide +kernel
theorem dX7_topsOf_46 : decode cX7_topsOf 46 = .ok (.invokevirtual 133, 3) := by decide +kernel
theorem dX7_topsOf_49 : decode cX7_topsOf 49 = .ok (.iload_n 3, 1) := by decide +kernel
theorem dX7_topsOf_50 : decode cX7_topsOf 50 = .ok (.iload 5, 2) := by decide +kernel
theorem dX7_topsOf_52 : decode cX7_topsOf 52 = .ok (.ifCond .eq 17, 3) := by decide +kernel
theorem dX7_topsOf_55 : decode cX7_topsOf 55 = .ok (.aload_n 0, 1) := by decide +kernel
theorem dX7_topsOf_56 : decode cX7_topsOf 56 = .ok (.getfield 25, 3) := by decide +kernel
theorem dX7_topsOf_59 : decode cX7_topsOf 59 = .ok (.iconst 0, 1) := by decide +kernel
theorem dX7_topsOf_60 : decode cX7_topsOf 60 = .ok (.iaload, 1) := by decide +kernel
theorem dX7_topsOf_61 : decode cX7_topsOf 61 = .ok (.iload_n 1, 1) := by decide +kernel
theorem dX7_topsOf_62 : decode cX7_topsOf 62 = .ok (.if_icmp .ne 7, 3) := by decide +kernel
theorem dX7_topsOf_65 : decode cX7_topsOf 65 = .ok (.iconst 1, 1) := by decide +kernel
theorem dX7_topsOf_66 : decode cX7_topsOf 66 = .ok (.goto 4, 3) := by decide +kernel
theorem dX7_topsOf_69 : decode cX7_topsOf 69 = .ok (.iconst 0, 1) := by decide +kernel
theorem dX7_topsOf_70 : decode cX7_topsOf 70 = .ok (.iadd, 1) := by decide +kernel
theorem dX7_topsOf_71 : decode cX7_topsOf 71 = .ok (.istore_n 3, 1) := by decide +kernel
theorem dX7_topsOf_72 : decode cX7_topsOf 72 = .ok (.iinc 4 1, 3) := by decide +kernel
theorem dX7_topsOf_75 : decode cX7_topsOf 75 = .ok (.goto (-70), 3) := by decide +kernel
theorem dX7_topsOf_78 : decode cX7_topsOf 78 = .ok (.iload_n 3, 1) := by decide +kernel
theorem dX7_topsOf_79 : decode cX7_topsOf 79 = .ok (.ireturn, 1) := by decide +kernel
theorem dX7_tops_0 : decode cX7_tops 0 = .ok (.aload_n 0, 1) := by decide +kernel
theorem dX7_tops_1 : decode cX7_tops 1 = .ok (.iload_n 1, 1) := by decide +kernel
theorem dX7_tops_2 : decode cX7_tops 2 = .ok (.invokevirtual 193, 3) := by decide +kernel
theorem dX7_tops_5 : decode cX7_tops 5 = .ok (.ifCond .ne 6, 3) := by decide +kernel
theorem dX7_tops_8 : decode cX7_tops 8 = .ok (.bipush (-101), 2) := by decide +kernel
theorem dX7_tops_10 : decode cX7_tops 10 = .ok (.ireturn, 1) := by decide +kernel
theorem dX7_tops_11 : decode cX7_tops 11 = .ok (.iload_n 2, 1) := by decide +kernel
theorem dX7_tops_12 : decode cX7_tops 12 = .ok (.i2l, 1) := by decide +kernel
theorem dX7_tops_13 : decode cX7_tops 13 = .ok (.lconst 0, 1) := by decide +kernel
theorem dX7_tops_14 : decode cX7_tops 14 = .ok (.lconst 1, 1) := by decide +kernel
theorem dX7_tops_15 : decode cX7_tops 15 = .ok (.invokestatic 58, 3) := by decide +kernel
theorem dX7_tops_18 : decode cX7_tops 18 = .ok (.ifCond .eq 12, 3) := by decide +kernel
theorem dX7_tops_21 : decode cX7_tops 21 = .ok (.aload_n 0, 1) := by decide +kernel
theorem dX7_tops_22 : decode cX7_tops 22 = .ok (.iload_n 1, 1) := by decide +kernel
theorem dX7_tops_23 : decode cX7_tops 23 = .ok (.iload_n 2, 1) := by decide +kernel
theorem dX7_tops_24 : decode cX7_tops 24 = .ok (.invokevirtual 219, 3) := by decide +kernel
theorem dX7_tops_27 : decode cX7_tops 27 = .ok (.goto 5, 3) := by decide +kernel
theorem dX7_tops_30 : decode cX7_tops 30 = .ok (.bipush (-102), 2) := by decide +kernel
theorem dX7_tops_32 : decode cX7_tops 32 = .ok (.ireturn, 1) := by decide +kernel
theorem dX7_move_0 : decode cX7_move 0 = .ok (.aload_n 0, 1) := by decide +kernel
theorem dX7_move_1 : decode cX7_move 1 = .ok (.iload_n 1, 1) := by decide +kernel
theorem dX7_move_2 : decode cX7_move 2 = .ok (.invokevirtual 193, 3) := by decide +kernel
theorem dX7_move_5 : decode cX7_move 5 = .ok (.ifCond .eq 11, 3) := by decide +kernel
theorem dX7_move_8 : decode cX7_move 8 = .ok (.aload_n 0, 1) := by decide +kernel
theorem dX7_move_9 : decode cX7_move 9 = .ok (.iload_n 2, 1) := by decide +kernel
theorem dX7_move_10 : decode cX7_move 10 = .ok (.invokevirtual 193, 3) := by decide +kernel
theorem dX7_move_13 : decode cX7_move 13 = .ok (.ifCond .ne 6, 3) := by decide +kernel
theorem dX7_move_16 : decode cX7_move 16 = .ok (.bipush (-101), 2) := by decide +kernel
theorem dX7_move_18 : decode cX7_move 18 = .ok (.ireturn, 1) := by decide +kernel
theorem dX7_move_19 : decode cX7_move 19 = .ok (.aload_n 0, 1) := by decide +kernel
theorem dX7_move_20 : decode cX7_move 20 = .ok (.aload_n 0, 1) := by decide +kernel
theorem dX7_move_21 : decode cX7_move 21 = .ok (.getfield 16, 3) := by decide +kernel
theorem dX7_move_24 : decode cX7_move 24 = .ok (.iload_n 1, 1) := by decide +kernel
theorem dX7_move_25 : decode cX7_move 25 = .ok (.iload_n 2, 1) := by decide +kernel
theorem dX7_move_26 : decode cX7_move 26 = .ok (.invokevirtual 163, 3) := by decide +kernel
theorem dX7_move_29 : decode cX7_move 29 = .ok (.iconst (-1), 1) := by decide +kernel
theorem dX7_move_30 : decode cX7_move 30 = .ok (.if_icmp .ne 6, 3) := by decide +kernel
theorem dX7_move_33 : decode cX7_move 33 = .ok (.bipush (-103), 2) := by decide +kernel
theorem dX7_move_35 : decode cX7_move 35 = .ok (.ireturn, 1) := by decide +kernel
theorem dX7_move_36 : decode cX7_move 36 = .ok (.aload_n 0, 1) := by decide +kernel
theorem dX7_move_37 : decode cX7_move 37 = .ok (.getfield 79, 3) := by decide +kernel
theorem dX7_move_40 : decode cX7_move 40 = .ok (.sipush 999, 3) := by decide +kernel
theorem dX7_move_43 : decode cX7_move 43 = .ok (.if_icmp .ne 6, 3) := by decide +kernel
theorem dX7_move_46 : decode cX7_move 46 = .ok (.bipush (-104), 2) := by decide +kernel
theorem dX7_move_48 : decode cX7_move 48 = .ok (.ireturn, 1) := by decide +kernel
theorem dX7_move_49 : decode cX7_move 49 = .ok (.aload_n 0, 1) := by decide +kernel
theorem dX7_move_50 : decode cX7_move 50 = .ok (.getfield 16, 3) := by decide +kernel
theorem dX7_move_53 : decode cX7_move 53 = .ok (.iload_n 1, 1) := by decide +kernel
theorem dX7_move_54 : decode cX7_move 54 = .ok (.iload_n 2, 1) := by decide +kernel
theorem dX7_move_55 : decode cX7_move 55 = .ok (.invokestatic 153, 3) := by decide +kernel
theorem dX7_move_58 : decode cX7_move 58 = .ok (.aload_n 0, 1) := by decide +kernel
theorem dX7_move_59 : decode cX7_move 59 = .ok (.dup, 1) := by decide +kernel
theorem dX7_move_60 : decode cX7_move 60 = .ok (.getfield 79, 3) := by decide +kernel
theorem dX7_move_63 : decode cX7_move 63 = .ok (.iconst 1, 1) := by decide +kernel
theorem dX7_move_64 : decode cX7_move 64 = .ok (.iadd, 1) := by decide +kernel
theorem dX7_move_65 : decode cX7_move 65 = .ok (.putfield 79, 3) := by decide +kernel
theorem dX7_move_68 : decode cX7_move 68 = .ok (.aload_n 0, 1) := by decide +kernel
theorem dX7_move_69 : decode cX7_move 69 = .ok (.aload_n 0, 1) := by decide +kernel
theorem dX7_move_70 : decode cX7_move 70 = .ok (.getfield 16, 3) := by decide +kernel
theorem dX7_move_73 : decode cX7_move 73 = .ok (.invokevirtual 222, 3) := by decide +kernel
theorem dX7_move_76 : decode cX7_move 76 = .ok (.ireturn, 1) := by decide +kernel
theorem dX7_turn_0 : decode cX7_turn 0 = .ok (.aload_n 0, 1) := by decide +kernel
theorem dX7_turn_1 : decode cX7_turn 1 = .ok (.invokevirtual 118, 3) := by decide +kernel
theorem dX7_turn_4 : decode cX7_turn 4 = .ok (.ifCond .eq 6, 3) := by decide +kernel
theorem dX7_turn_7 : decode cX7_turn 7 = .ok (.bipush (-103), 2) := by decide +kernel
theorem dX7_turn_9 : decode cX7_turn 9 = .ok (.ireturn, 1) := by decide +kernel
theorem dX7_turn_10 : decode cX7_turn 10 = .ok (.aload_n 0, 1) := by decide +kernel
theorem dX7_turn_11 : decode cX7_turn 11 = .ok (.getfield 16, 3) := by decide +kernel
theorem dX7_turn_14 : decode cX7_turn 14 = .ok (.aload_n 0, 1) := by decide +kernel
theorem dX7_turn_15 : decode cX7_turn 15 = .ok (.getfield 28, 3) := by decide +kernel
theorem dX7_turn_18 : decode cX7_turn 18 = .ok (.invokestatic 149, 3) := by decide +kernel
theorem dX7_turn_21 : decode cX7_turn 21 = .ok (.iconst 0, 1) := by decide +kernel
theorem dX7_turn_22 : decode cX7_turn 22 = .ok (.istore_n 1, 1) := by decide +kernel
theorem dX7_turn_23 : decode cX7_turn 23 = .ok (.iload_n 1, 1) := by decide +kernel
theorem dX7_turn_24 : decode cX7_turn 24 = .ok (.aload_n 0, 1) := by decide +kernel
theorem dX7_turn_25 : decode cX7_turn 25 = .ok (.getfield 73, 3) := by decide +kernel
theorem dX7_turn_28 : decode cX7_turn 28 = .ok (.if_icmp .ge 28, 3) := by decide +kernel
theorem dX7_turn_31 : decode cX7_turn 31 = .ok (.aload_n 0, 1) := by decide +kernel
theorem dX7_turn_32 : decode cX7_turn 32 = .ok (.getfield 16, 3) := by decide +kernel
theorem dX7_turn_35 : decode cX7_turn 35 = .ok (.iload_n 1, 1) := by decide +kernel
theorem dX7_turn_36 : decode cX7_turn 36 = .ok (.aload_n 0, 1) := by decide +kernel
theorem dX7_turn_37 : decode cX7_turn 37 = .ok (.getfield 28, 3) := by decide +kernel
theorem dX7_turn_40 : decode cX7_turn 40 = .ok (.aload_n 0, 1) := by decide +kernel
theorem dX7_turn_41 : decode cX7_turn 41 = .ok (.getfield 73, 3) := by decide +kernel
theorem dX7_turn_44 : decode cX7_turn 44 = .ok (.iconst 1, 1) := by decide +kernel
theorem dX7_turn_45 : decode cX7_turn 45 = .ok (.isub, 1) := by decide +kernel
theorem dX7_turn_46 : decode cX7_turn 46 = .ok (.iload_n 1, 1) := by decide +kernel
theorem dX7_turn_47 : decode cX7_turn 47 = .ok (.isub, 1) := by decide +kernel
theorem dX7_turn_48 : decode cX7_turn 48 = .ok (.iaload, 1) := by decide +kernel
theorem dX7_turn_49 : decode cX7_turn 49 = .ok (.iastore, 1) := by decide +kernel
theorem dX7_turn_50 : decode cX7_turn 50 = .ok (.iinc 1 1, 3) := by decide +kernel
theorem dX7_turn_53 : decode cX7_turn 53 = .ok (.goto (-30), 3) := by decide +kernel
theorem dX7_turn_56 : decode cX7_turn 56 = .ok (.aload_n 0, 1) := by decide +kernel
theorem dX7_turn_57 : decode cX7_turn 57 = .ok (.getfield 16, 3) := by decide +kernel
theorem dX7_turn_60 : decode cX7_turn 60 = .ok (.iconst 0, 1) := by decide +kernel
theorem dX7_turn_61 : decode cX7_turn 61 = .ok (.iaload, 1) := by decide +kernel
theorem dX7_turn_62 : decode cX7_turn 62 = .ok (.ireturn, 1) := by decide +kernel
theorem dX7_lay_0 : decode cX7_lay 0 = .ok (.aload_n 0, 1) := by decide +kernel
theorem dX7_lay_1 : decode cX7_lay 1 = .ok (.iload_n 1, 1) := by decide +kernel
theorem dX7_lay_2 : decode cX7_lay 2 = .ok (.invokevirtual 170, 3) := by decide +kernel
theorem dX7_lay_5 : decode cX7_lay 5 = .ok (.ifCond .ne 6, 3) := by decide +kernel
theorem dX7_lay_8 : decode cX7_lay 8 = .ok (.bipush (-101), 2) := by decide +kernel
theorem dX7_lay_10 : decode cX7_lay 10 = .ok (.ireturn, 1) := by decide +kernel
theorem dX7_lay_11 : decode cX7_lay 11 = .ok (.aload_n 0, 1) := by decide +kernel
theorem dX7_lay_12 : decode cX7_lay 12 = .ok (.invokevirtual 157, 3) := by decide +kernel
theorem dX7_lay_15 : decode cX7_lay 15 = .ok (.istore_n 2, 1) := by decide +kernel
theorem dX7_lay_16 : decode cX7_lay 16 = .ok (.aload_n 0, 1) := by decide +kernel
theorem dX7_lay_17 : decode cX7_lay 17 = .ok (.aload_n 0, 1) := by decide +kernel
theorem dX7_lay_18 : decode cX7_lay 18 = .ok (.getfield 19, 3) := by decide +kernel
theorem dX7_lay_21 : decode cX7_lay 21 = .ok (.iload_n 1, 1) := by decide +kernel
theorem dX7_lay_22 : decode cX7_lay 22 = .ok (.iaload, 1) := by decide +kernel
theorem dX7_lay_23 : decode cX7_lay 23 = .ok (.aload_n 0, 1) := by decide +kernel
theorem dX7_lay_24 : decode cX7_lay 24 = .ok (.getfield 16, 3) := by decide +kernel
theorem dX7_lay_27 : decode cX7_lay 27 = .ok (.invokevirtual 133, 3) := by decide +kernel
theorem dX7_lay_30 : decode cX7_lay 30 = .ok (.iload_n 2, 1) := by decide +kernel
theorem dX7_lay_31 : decode cX7_lay 31 = .ok (.ireturn, 1) := by decide +kernel
theorem dX7_change_0 : decode cX7_change 0 = .ok (.aload_n 0, 1) := by decide +kernel
theorem dX7_change_1 : decode cX7_change 1 = .ok (.iload_n 1, 1) := by decide +kernel
theorem dX7_change_2 : decode cX7_change 2 = .ok (.invokevirtual 193, 3) := by decide +kernel
theorem dX7_change_5 : decode cX7_change 5 = .ok (.ifCond .ne 6, 3) := by decide +kernel
theorem dX7_change_8 : decode cX7_change 8 = .ok (.bipush (-101), 2) := by decide +kernel
theorem dX7_change_10 : decode cX7_change 10 = .ok (.ireturn, 1) := by decide +kernel
theorem dX7_change_11 : decode cX7_change 11 = .ok (.iload_n 2, 1) := by decide +kernel
theorem dX7_change_12 : decode cX7_change 12 = .ok (.i2l, 1) := by decide +kernel
theorem dX7_change_13 : decode cX7_change 13 = .ok (.lconst 0, 1) := by decide +kernel
theorem dX7_change_14 : decode cX7_change 14 = .ok (.ldc2_w 204, 3) := by decide +kernel
theorem dX7_change_17 : decode cX7_change 17 = .ok (.invokestatic 58, 3) := by decide +kernel
theorem dX7_change_20 : decode cX7_change 20 = .ok (.ifCond .ne 6, 3) := by decide +kernel
theorem dX7_change_23 : decode cX7_change 23 = .ok (.bipush (-102), 2) := by decide +kernel
theorem dX7_change_25 : decode cX7_change 25 = .ok (.ireturn, 1) := by decide +kernel
theorem dX7_change_26 : decode cX7_change 26 = .ok (.aload_n 0, 1) := by decide +kernel
theorem dX7_change_27 : decode cX7_change 27 = .ok (.getfield 13, 3) := by decide +kernel
theorem dX7_change_30 : decode cX7_change 30 = .ok (.iload_n 1, 1) := by decide +kernel
theorem dX7_change_31 : decode cX7_change 31 = .ok (.iaload, 1) := by decide +kernel
theorem dX7_change_32 : decode cX7_change 32 = .ok (.istore_n 3, 1) := by decide +kernel
theorem dX7_change_33 : decode cX7_change 33 = .ok (.aload_n 0, 1) := by decide +kernel
theorem dX7_change_34 : decode cX7_change 34 = .ok (.getfield 13, 3) := by decide +kernel
theorem dX7_change_37 : decode cX7_change 37 = .ok (.iload_n 1, 1) := by decide +kernel
theorem dX7_change_38 : decode cX7_change 38 = .ok (.iload_n 2, 1) := by decide +kernel
theorem dX7_change_39 : decode cX7_change 39 = .ok (.iastore, 1) := by decide +kernel
theorem dX7_change_40 : decode cX7_change 40 = .ok (.iload_n 3, 1) := by decide +kernel
theorem dX7_change_41 : decode cX7_change 41 = .ok (.ireturn, 1) := by decide +kernel
theorem dX7_see_0 : decode cX7_see 0 = .ok (.aload_n 0, 1) := by decide +kernel
theorem dX7_see_1 : decode cX7_see 1 = .ok (.iload_n 1, 1) := by decide +kernel
theorem dX7_see_2 : decode cX7_see 2 = .ok (.invokevirtual 193, 3) := by decide +kernel
theorem dX7_see_5 : decode cX7_see 5 = .ok (.ifCond .ne 6, 3) := by decide +kernel
theorem dX7_see_8 : decode cX7_see 8 = .ok (.bipush (-101), 2) := by decide +kernel
theorem dX7_see_10 : decode cX7_see 10 = .ok (.ireturn, 1) := by decide +kernel
theorem dX7_see_11 : decode cX7_see 11 = .ok (.iload_n 2, 1) := by decide +kernel
theorem dX7_see_12 : decode cX7_see 12 = .ok (.i2l, 1) := by decide +kernel
theorem dX7_see_13 : decode cX7_see 13 = .ok (.lconst 1, 1) := by decide +kernel
theorem dX7_see_14 : decode cX7_see 14 = .ok (.aload_n 0, 1) := by decide +kernel
theorem dX7_see_15 : decode cX7_see 15 = .ok (.getfield 73, 3) := by decide +kernel
theorem dX7_see_18 : decode cX7_see 18 = .ok (.i2l, 1) := by decide +kernel
theorem dX7_see_19 : decode cX7_see 19 = .ok (.invokestatic 58, 3) := by decide +kernel
theorem dX7_see_22 : decode cX7_see 22 = .ok (.ifCond .ne 6, 3) := by decide +kernel
theorem dX7_see_25 : decode cX7_see 25 = .ok (.bipush (-102), 2) := by decide +kernel
theorem dX7_see_27 : decode cX7_see 27 = .ok (.ireturn, 1) := by decide +kernel
theorem dX7_see_28 : decode cX7_see 28 = .ok (.aload_n 0, 1) := by decide +kernel
theorem dX7_see_29 : decode cX7_see 29 = .ok (.getfield 82, 3) := by decide +kernel
theorem dX7_see_32 : decode cX7_see 32 = .ok (.bipush 6, 2) := by decide +kernel
theorem dX7_see_34 : decode cX7_see 34 = .ok (.if_icmp .ne 6, 3) := by decide +kernel
theorem dX7_see_37 : decode cX7_see 37 = .ok (.bipush (-104), 2) := by decide +kernel
theorem dX7_see_39 : decode cX7_see 39 = .ok (.ireturn, 1) := by decide +kernel
theorem dX7_see_40 : decode cX7_see 40 = .ok (.aload_n 0, 1) := by decide +kernel
theorem dX7_see_41 : decode cX7_see 41 = .ok (.getfield 37, 3) := by decide +kernel
theorem dX7_see_44 : decode cX7_see 44 = .ok (.iconst 3, 1) := by decide +kernel
theorem dX7_see_45 : decode cX7_see 45 = .ok (.aload_n 0, 1) := by decide +kernel
theorem dX7_see_46 : decode cX7_see 46 = .ok (.getfield 82, 3) := by decide +kernel
theorem dX7_see_49 : decode cX7_see 49 = .ok (.imul, 1) := by decide +kernel
theorem dX7_see_50 : decode cX7_see 50 = .ok (.iload_n 1, 1) := by decide +kernel
theorem dX7_see_51 : decode cX7_see 51 = .ok (.iastore, 1) := by decide +kernel
theorem dX7_see_52 : decode cX7_see 52 = .ok (.aload_n 0, 1) := by decide +kernel
theorem dX7_see_53 : decode cX7_see 53 = .ok (.getfield 37, 3) := by decide +kernel
theorem dX7_see_56 : decode cX7_see 56 = .ok (.iconst 3, 1) := by decide +kernel
theorem dX7_see_57 : decode cX7_see 57 = .ok (.aload_n 0, 1) := by decide +kernel
theorem dX7_see_58 : decode cX7_see 58 = .ok (.getfield 82, 3) := by decide +kernel
theorem dX7_see_61 : decode cX7_see 61 = .ok (.imul, 1) := by decide +kernel
theorem dX7_see_62 : decode cX7_see 62 = .ok (.iconst 1, 1) := by decide +kernel
theorem dX7_see_63 : decode cX7_see 63 = .ok (.iadd, 1) := by decide +kernel
theorem dX7_see_64 : decode cX7_see 64 = .ok (.iload_n 2, 1) := by decide +kernel
theorem dX7_see_65 : decode cX7_see 65 = .ok (.iastore, 1) := by decide +kernel
theorem dX7_see_66 : decode cX7_see 66 = .ok (.aload_n 0, 1) := by decide +kernel
theorem dX7_see_67 : decode cX7_see 67 = .ok (.getfield 37, 3) := by decide +kernel
theorem dX7_see_70 : decode cX7_see 70 = .ok (.iconst 3, 1) := by decide +kernel
theorem dX7_see_71 : decode cX7_see 71 = .ok (.aload_n 0, 1) := by decide +kernel
theorem dX7_see_72 : decode cX7_see 72 = .ok (.getfield 82, 3) := by decide +kernel
theorem dX7_see_75 : decode cX7_see 75 = .ok (.imul, 1) := by decide +kernel
theorem dX7_see_76 : decode cX7_see 76 = .ok (.iconst 2, 1) := by decide +kernel
theorem dX7_see_77 : decode cX7_see 77 = .ok (.iadd, 1) := by decide +kernel
theorem dX7_see_78 : decode cX7_see 78 = .ok (.iload_n 3, 1) := by decide +kernel
theorem dX7_see_79 : decode cX7_see 79 = .ok (.ifCond .eq 7, 3) := by decide +kernel
theorem dX7_see_82 : decode cX7_see 82 = .ok (.iconst 1, 1) := by decide +kernel
theorem dX7_see_83 : decode cX7_see 83 = .ok (.goto 4, 3) := by decide +kernel
theorem dX7_see_86 : decode cX7_see 86 = .ok (.iconst 0, 1) := by decide +kernel
theorem dX7_see_87 : decode cX7_see 87 = .ok (.iastore, 1) := by decide +kernel
theorem dX7_see_88 : decode cX7_see 88 = .ok (.aload_n 0, 1) := by decide +kernel
theorem dX7_see_89 : decode cX7_see 89 = .ok (.dup, 1) := by decide +kernel
theorem dX7_see_90 : decode cX7_see 90 = .ok (.getfield 82, 3) := by decide +kernel
theorem dX7_see_93 : decode cX7_see 93 = .ok (.iconst 1, 1) := by decide +kernel
theorem dX7_see_94 : decode cX7_see 94 = .ok (.iadd, 1) := by decide +kernel
theorem dX7_see_95 : decode cX7_see 95 = .ok (.putfield 82, 3) := by decide +kernel
theorem dX7_see_98 : decode cX7_see 98 = .ok (.aload_n 0, 1) := by decide +kernel
theorem dX7_see_99 : decode cX7_see 99 = .ok (.getfield 82, 3) := by decide +kernel
theorem dX7_see_102 : decode cX7_see 102 = .ok (.ireturn, 1) := by decide +kernel
theorem dX7_forget_0 : decode cX7_forget 0 = .ok (.aload_n 0, 1) := by decide +kernel
theorem dX7_forget_1 : decode cX7_forget 1 = .ok (.getfield 82, 3) := by decide +kernel
theorem dX7_forget_4 : decode cX7_forget 4 = .ok (.istore_n 1, 1) := by decide +kernel
theorem dX7_forget_5 : decode cX7_forget 5 = .ok (.aload_n 0, 1) := by decide +kernel
theorem dX7_forget_6 : decode cX7_forget 6 = .ok (.iconst 0, 1) := by decide +kernel
theorem dX7_forget_7 : decode cX7_forget 7 = .ok (.putfield 82, 3) := by decide +kernel
theorem dX7_forget_10 : decode cX7_forget 10 = .ok (.iload_n 1, 1) := by decide +kernel
theorem dX7_forget_11 : decode cX7_forget 11 = .ok (.ireturn, 1) := by decide +kernel
theorem dX7_isLikely_0 : decode cX7_isLikely 0 = .ok (.aload_n 0, 1) := by decide +kernel
theorem dX7_isLikely_1 : decode cX7_isLikely 1 = .ok (.aload_n 0, 1) := by decide +kernel
theorem dX7_isLikely_2 : decode cX7_isLikely 2 = .ok (.getfield 19, 3) := by decide +kernel
theorem dX7_isLikely_5 : decode cX7_isLikely 5 = .ok (.iload_n 1, 1) := by decide +kernel
theorem dX7_isLikely_6 : decode cX7_isLikely 6 = .ok (.iaload, 1) := by decide +kernel
theorem dX7_isLikely_7 : decode cX7_isLikely 7 = .ok (.aload_n 0, 1) := by decide +kernel
theorem dX7_isLikely_8 : decode cX7_isLikely 8 = .ok (.getfield 25, 3) := by decide +kernel
theorem dX7_isLikely_11 : decode cX7_isLikely 11 = .ok (.invokevirtual 133, 3) := by decide +kernel
theorem dX7_isLikely_14 : decode cX7_isLikely 14 = .ok (.iconst 1, 1) := by decide +kernel
theorem dX7_isLikely_15 : decode cX7_isLikely 15 = .ok (.istore_n 2, 1) := by decide +kernel
theorem dX7_isLikely_16 : decode cX7_isLikely 16 = .ok (.iconst 0, 1) := by decide +kernel
theorem dX7_isLikely_17 : decode cX7_isLikely 17 = .ok (.istore_n 3, 1) := by decide +kernel
theorem dX7_isLikely_18 : decode cX7_isLikely 18 = .ok (.iload_n 3, 1) := by decide +kernel
theorem dX7_isLikely_19 : decode cX7_isLikely 19 = .ok (.iconst 3, 1) := by decide +kernel
theorem dX7_isLikely_20 : decode cX7_isLikely 20 = .ok (.aload_n 0, 1) := by decide +kernel
theorem dX7_isLikely_21 : decode cX7_isLikely 21 = .ok (.getfield 82, 3) := by decide +kernel
theorem dX7_isLikely_24 : decode cX7_isLikely 24 = .ok (.imul, 1) := by decide +kernel
theorem dX7_isLikely_25 : decode cX7_isLikely 25 = .ok (.if_icmp .ge 63, 3) := by decide +kernel
theorem dX7_isLikely_28 : decode cX7_isLikely 28 = .ok (.aload_n 0, 1) := by decide +kernel
theorem dX7_isLikely_29 : decode cX7_isLikely 29 = .ok (.getfield 25, 3) := by decide +kernel
theorem dX7_isLikely_32 : decode cX7_isLikely 32 = .ok (.aload_n 0, 1) := by decide +kernel
theorem dX7_isLikely_33 : decode cX7_isLikely 33 = .ok (.getfield 37, 3) := by decide +kernel
theorem dX7_isLikely_36 : decode cX7_isLikely 36 = .ok (.iload_n 3, 1) := by decide +kernel
theorem dX7_isLikely_37 : decode cX7_isLikely 37 = .ok (.iaload, 1) := by decide +kernel
theorem dX7_isLikely_38 : decode cX7_isLikely 38 = .ok (.invokestatic 146, 3) := by decide +kernel
theorem dX7_isLikely_41 : decode cX7_isLikely 41 = .ok (.aload_n 0, 1) := by decide +kernel
theorem dX7_isLikely_42 : decode cX7_isLikely 42 = .ok (.getfield 37, 3) := by decide +kernel
theorem dX7_isLikely_45 : decode cX7_isLikely 45 = .ok (.iload_n 3, 1) := by decide +kernel
theorem dX7_isLikely_46 : decode cX7_isLikely 46 = .ok (.iconst 1, 1) := by decide +kernel
theorem dX7_isLikely_47 : decode cX7_isLikely 47 = .ok (.iadd, 1) := by decide +kernel
theorem dX7_isLikely_48 : decode cX7_isLikely 48 = .ok (.iaload, 1) := by decide +kernel
theorem dX7_isLikely_49 : decode cX7_isLikely 49 = .ok (.if_icmp .ge 7, 3) := by decide +kernel
theorem dX7_isLikely_52 : decode cX7_isLikely 52 = .ok (.iconst 1, 1) := by decide +kernel
theorem dX7_isLikely_53 : decode cX7_isLikely 53 = .ok (.goto 4, 3) := by decide +kernel
theorem dX7_isLikely_56 : decode cX7_isLikely 56 = .ok (.iconst 0, 1) := by decide +kernel
theorem dX7_isLikely_57 : decode cX7_isLikely 57 = .ok (.istore 4, 2) := by decide +kernel
theorem dX7_isLikely_59 : decode cX7_isLikely 59 = .ok (.iload_n 2, 1) := by decide +kernel
theorem dX7_isLikely_60 : decode cX7_isLikely 60 = .ok (.ifCond .eq 20, 3) := by decide +kernel
theorem dX7_isLikely_63 : decode cX7_isLikely 63 = .ok (.iload 4, 2) := by decide +kernel
theorem dX7_isLikely_65 : decode cX7_isLikely 65 = .ok (.aload_n 0, 1) := by decide +kernel
theorem dX7_isLikely_66 : decode cX7_isLikely 66 = .ok (.getfield 37, 3) := by decide +kernel
theorem dX7_isLikely_69 : decode cX7_isLikely 69 = .ok (.iload_n 3, 1) := by decide +kernel
theorem dX7_isLikely_70 : decode cX7_isLikely 70 = .ok (.iconst 2, 1) := by decide +kernel
theorem dX7_isLikely_71 : decode cX7_isLikely 71 = .ok (.iadd, 1) := by decide +kernel
theorem dX7_isLikely_72 : decode cX7_isLikely 72 = .ok (.iaload, 1) := by decide +kernel
theorem dX7_isLikely_73 : decode cX7_isLikely 73 = .ok (.if_icmp .ne 7, 3) := by decide +kernel
theorem dX7_isLikely_76 : decode cX7_isLikely 76 = .ok (.iconst 1, 1) := by decide +kernel
theorem dX7_isLikely_77 : decode cX7_isLikely 77 = .ok (.goto 4, 3) := by decide +kernel
theorem dX7_isLikely_80 : decode cX7_isLikely 80 = .ok (.iconst 0, 1) := by decide +kernel
theorem dX7_isLikely_81 : decode cX7_isLikely 81 = .ok (.istore_n 2, 1) := by decide +kernel
theorem dX7_isLikely_82 : decode cX7_isLikely 82 = .ok (.iinc 3 3, 3) := by decide +kernel
theorem dX7_isLikely_85 : decode cX7_isLikely 85 = .ok (.goto (-67), 3) := by decide +kernel
theorem dX7_isLikely_88 : decode cX7_isLikely 88 = .ok (.iload_n 2, 1) := by decide +kernel
theorem dX7_isLikely_89 : decode cX7_isLikely 89 = .ok (.ireturn, 1) := by decide +kernel
theorem dX7_couldOf_0 : decode cX7_couldOf 0 = .ok (.iconst 0, 1) := by decide +kernel
theorem dX7_couldOf_1 : decode cX7_couldOf 1 = .ok (.istore_n 1, 1) := by decide +kernel
theorem dX7_couldOf_2 : decode cX7_couldOf 2 = .ok (.iconst 0, 1) := by decide +kernel
theorem dX7_couldOf_3 : decode cX7_couldOf 3 = .ok (.istore_n 2, 1) := by decide +kernel
theorem dX7_couldOf_4 : decode cX7_couldOf 4 = .ok (.iload_n 2, 1) := by decide +kernel
theorem dX7_couldOf_5 : decode cX7_couldOf 5 = .ok (.aload_n 0, 1) := by decide +kernel
theorem dX7_couldOf_6 : decode cX7_couldOf 6 = .ok (.getfield 100, 3) := by decide +kernel
theorem dX7_couldOf_9 : decode cX7_couldOf 9 = .ok (.if_icmp .ge 25, 3) := by decide +kernel
theorem dX7_couldOf_12 : decode cX7_couldOf 12 = .ok (.iload_n 1, 1) := by decide +kernel
theorem dX7_couldOf_13 : decode cX7_couldOf 13 = .ok (.aload_n 0, 1) := by decide +kernel
theorem dX7_couldOf_14 : decode cX7_couldOf 14 = .ok (.iload_n 2, 1) := by decide +kernel
theorem dX7_couldOf_15 : decode cX7_couldOf 15 = .ok (.invokevirtual 225, 3) := by decide +kernel
theorem dX7_couldOf_18 : decode cX7_couldOf 18 = .ok (.ifCond .eq 7, 3) := by decide +kernel
theorem dX7_couldOf_21 : decode cX7_couldOf 21 = .ok (.iconst 1, 1) := by decide +kernel
theorem dX7_couldOf_22 : decode cX7_couldOf 22 = .ok (.goto 4, 3) := by decide +kernel
theorem dX7_couldOf_25 : decode cX7_couldOf 25 = .ok (.iconst 0, 1) := by decide +kernel
theorem dX7_couldOf_26 : decode cX7_couldOf 26 = .ok (.iadd, 1) := by decide +kernel
theorem dX7_couldOf_27 : decode cX7_couldOf 27 = .ok (.istore_n 1, 1) := by decide +kernel
theorem dX7_couldOf_28 : decode cX7_couldOf 28 = .ok (.iinc 2 1, 3) := by decide +kernel
theorem dX7_couldOf_31 : decode cX7_couldOf 31 = .ok (.goto (-27), 3) := by decide +kernel
theorem dX7_couldOf_34 : decode cX7_couldOf 34 = .ok (.iload_n 1, 1) := by decide +kernel
theorem dX7_couldOf_35 : decode cX7_couldOf 35 = .ok (.ireturn, 1) := by decide +kernel
theorem dX7_could_0 : decode cX7_could 0 = .ok (.aload_n 0, 1) := by decide +kernel
theorem dX7_could_1 : decode cX7_could 1 = .ok (.invokevirtual 118, 3) := by decide +kernel
theorem dX7_could_4 : decode cX7_could 4 = .ok (.ifCond .eq 8, 3) := by decide +kernel
theorem dX7_could_7 : decode cX7_could 7 = .ok (.bipush (-103), 2) := by decide +kernel
theorem dX7_could_9 : decode cX7_could 9 = .ok (.goto 7, 3) := by decide +kernel
theorem dX7_could_12 : decode cX7_could 12 = .ok (.aload_n 0, 1) := by decide +kernel
theorem dX7_could_13 : decode cX7_could 13 = .ok (.invokevirtual 228, 3) := by decide +kernel
theorem dX7_could_16 : decode cX7_could 16 = .ok (.ireturn, 1) := by decide +kernel
theorem dX7_worstBy_0 : decode cX7_worstBy 0 = .ok (.iconst 0, 1) := by decide +kernel
theorem dX7_worstBy_1 : decode cX7_worstBy 1 = .ok (.istore 4, 2) := by decide +kernel
theorem dX7_worstBy_3 : decode cX7_worstBy 3 = .ok (.iconst 0, 1) := by decide +kernel
theorem dX7_worstBy_4 : decode cX7_worstBy 4 = .ok (.istore 5, 2) := by decide +kernel
theorem dX7_worstBy_6 : decode cX7_worstBy 6 = .ok (.iload 5, 2) := by decide +kernel
theorem dX7_worstBy_8 : decode cX7_worstBy 8 = .ok (.aload_n 0, 1) := by decide +kernel
theorem dX7_worstBy_9 : decode cX7_worstBy 9 = .ok (.getfield 100, 3) := by decide +kernel
theorem dX7_worstBy_12 : decode cX7_worstBy 12 = .ok (.if_icmp .ge 40, 3) := by decide +kernel
theorem dX7_worstBy_15 : decode cX7_worstBy 15 = .ok (.iload 4, 2) := by decide +kernel
theorem dX7_worstBy_17 : decode cX7_worstBy 17 = .ok (.aload_n 0, 1) := by decide +kernel
theorem dX7_worstBy_18 : decode cX7_worstBy 18 = .ok (.iload 5, 2) := by decide +kernel
theorem dX7_worstBy_20 : decode cX7_worstBy 20 = .ok (.invokevirtual 225, 3) := by decide +kernel
theorem dX7_worstBy_23 : decode cX7_worstBy 23 = .ok (.ifCond .eq 19, 3) := by decide +kernel
theorem dX7_worstBy_26 : decode cX7_worstBy 26 = .ok (.aload_n 0, 1) := by decide +kernel
theorem dX7_worstBy_27 : decode cX7_worstBy 27 = .ok (.getfield 25, 3) := by decide +kernel
theorem dX7_worstBy_30 : decode cX7_worstBy 30 = .ok (.iload_n 2, 1) := by decide +kernel
theorem dX7_worstBy_31 : decode cX7_worstBy 31 = .ok (.invokestatic 146, 3) := by decide +kernel
theorem dX7_worstBy_34 : decode cX7_worstBy 34 = .ok (.iload_n 1, 1) := by decide +kernel
theorem dX7_worstBy_35 : decode cX7_worstBy 35 = .ok (.if_icmp .ge 7, 3) := by decide +kernel
theorem dX7_worstBy_38 : decode cX7_worstBy 38 = .ok (.iconst 1, 1) := by decide +kernel
theorem dX7_worstBy_39 : decode cX7_worstBy 39 = .ok (.goto 4, 3) := by decide +kernel
theorem dX7_worstBy_42 : decode cX7_worstBy 42 = .ok (.iconst 0, 1) := by decide +kernel
theorem dX7_worstBy_43 : decode cX7_worstBy 43 = .ok (.iadd, 1) := by decide +kernel
theorem dX7_worstBy_44 : decode cX7_worstBy 44 = .ok (.istore 4, 2) := by decide +kernel
theorem dX7_worstBy_46 : decode cX7_worstBy 46 = .ok (.iinc 5 1, 3) := by decide +kernel
theorem dX7_worstBy_49 : decode cX7_worstBy 49 = .ok (.goto (-43), 3) := by decide +kernel
theorem dX7_worstBy_52 : decode cX7_worstBy 52 = .ok (.iload 4, 2) := by decide +kernel
theorem dX7_worstBy_54 : decode cX7_worstBy 54 = .ok (.iload_n 3, 1) := by decide +kernel
theorem dX7_worstBy_55 : decode cX7_worstBy 55 = .ok (.iload 4, 2) := by decide +kernel
theorem dX7_worstBy_57 : decode cX7_worstBy 57 = .ok (.isub, 1) := by decide +kernel
theorem dX7_worstBy_58 : decode cX7_worstBy 58 = .ok (.if_icmp .le 8, 3) := by decide +kernel
theorem dX7_worstBy_61 : decode cX7_worstBy 61 = .ok (.iload 4, 2) := by decide +kernel
theorem dX7_worstBy_63 : decode cX7_worstBy 63 = .ok (.goto 7, 3) := by decide +kernel
theorem dX7_worstBy_66 : decode cX7_worstBy 66 = .ok (.iload_n 3, 1) := by decide +kernel
theorem dX7_worstBy_67 : decode cX7_worstBy 67 = .ok (.iload 4, 2) := by decide +kernel
theorem dX7_worstBy_69 : decode cX7_worstBy 69 = .ok (.isub, 1) := by decide +kernel
theorem dX7_worstBy_70 : decode cX7_worstBy 70 = .ok (.ireturn, 1) := by decide +kernel
theorem dX7_trialOf_0 : decode cX7_trialOf 0 = .ok (.aload_n 0, 1) := by decide +kernel
theorem dX7_trialOf_1 : decode cX7_trialOf 1 = .ok (.invokevirtual 228, 3) := by decide +kernel
theorem dX7_trialOf_4 : decode cX7_trialOf 4 = .ok (.istore_n 1, 1) := by decide +kernel
theorem dX7_trialOf_5 : decode cX7_trialOf 5 = .ok (.iconst (-1), 1) := by decide +kernel
theorem dX7_trialOf_6 : decode cX7_trialOf 6 = .ok (.istore_n 2, 1) := by decide +kernel
theorem dX7_trialOf_7 : decode cX7_trialOf 7 = .ok (.sipush 1000, 3) := by decide +kernel
theorem dX7_trialOf_10 : decode cX7_trialOf 10 = .ok (.istore_n 3, 1) := by decide +kernel
theorem dX7_trialOf_11 : decode cX7_trialOf 11 = .ok (.iconst 0, 1) := by decide +kernel
theorem dX7_trialOf_12 : decode cX7_trialOf 12 = .ok (.istore 4, 2) := by decide +kernel
theorem dX7_trialOf_14 : decode cX7_trialOf 14 = .ok (.iload 4, 2) := by decide +kernel
theorem dX7_trialOf_16 : decode cX7_trialOf 16 = .ok (.aload_n 0, 1) := by decide +kernel
theorem dX7_trialOf_17 : decode cX7_trialOf 17 = .ok (.getfield 73, 3) := by decide +kernel
theorem dX7_trialOf_20 : decode cX7_trialOf 20 = .ok (.aload_n 0, 1) := by decide +kernel
theorem dX7_trialOf_21 : decode cX7_trialOf 21 = .ok (.getfield 73, 3) := by decide +kernel
theorem dX7_trialOf_24 : decode cX7_trialOf 24 = .ok (.imul, 1) := by decide +kernel
theorem dX7_trialOf_25 : decode cX7_trialOf 25 = .ok (.if_icmp .ge 80, 3) := by decide +kernel
theorem dX7_trialOf_28 : decode cX7_trialOf 28 = .ok (.iload_n 1, 1) := by decide +kernel
theorem dX7_trialOf_29 : decode cX7_trialOf 29 = .ok (.ifCond .le 76, 3) := by decide +kernel
theorem dX7_trialOf_32 : decode cX7_trialOf 32 = .ok (.aload_n 0, 1) := by decide +kernel
theorem dX7_trialOf_33 : decode cX7_trialOf 33 = .ok (.iload 4, 2) := by decide +kernel
theorem dX7_trialOf_35 : decode cX7_trialOf 35 = .ok (.aload_n 0, 1) := by decide +kernel
theorem dX7_trialOf_36 : decode cX7_trialOf 36 = .ok (.getfield 73, 3) := by decide +kernel
theorem dX7_trialOf_39 : decode cX7_trialOf 39 = .ok (.idiv, 1) := by decide +kernel
theorem dX7_trialOf_40 : decode cX7_trialOf 40 = .ok (.iconst 1, 1) := by decide +kernel
theorem dX7_trialOf_41 : decode cX7_trialOf 41 = .ok (.iadd, 1) := by decide +kernel
theorem dX7_trialOf_42 : decode cX7_trialOf 42 = .ok (.iload 4, 2) := by decide +kernel
theorem dX7_trialOf_44 : decode cX7_trialOf 44 = .ok (.aload_n 0, 1) := by decide +kernel
theorem dX7_trialOf_45 : decode cX7_trialOf 45 = .ok (.getfield 73, 3) := by decide +kernel
theorem dX7_trialOf_48 : decode cX7_trialOf 48 = .ok (.irem, 1) := by decide +kernel
theorem dX7_trialOf_49 : decode cX7_trialOf 49 = .ok (.iload_n 1, 1) := by decide +kernel
theorem dX7_trialOf_50 : decode cX7_trialOf 50 = .ok (.invokevirtual 231, 3) := by decide +kernel
theorem dX7_trialOf_53 : decode cX7_trialOf 53 = .ok (.istore 5, 2) := by decide +kernel
theorem dX7_trialOf_55 : decode cX7_trialOf 55 = .ok (.iload 5, 2) := by decide +kernel
theorem dX7_trialOf_57 : decode cX7_trialOf 57 = .ok (.iload_n 3, 1) := by decide +kernel
theorem dX7_trialOf_58 : decode cX7_trialOf 58 = .ok (.if_icmp .ge 26, 3) := by decide +kernel
theorem dX7_trialOf_61 : decode cX7_trialOf 61 = .ok (.bipush 10, 2) := by decide +kernel
theorem dX7_trialOf_63 : decode cX7_trialOf 63 = .ok (.iload 4, 2) := by decide +kernel
theorem dX7_trialOf_65 : decode cX7_trialOf 65 = .ok (.aload_n 0, 1) := by decide +kernel
theorem dX7_trialOf_66 : decode cX7_trialOf 66 = .ok (.getfield 73, 3) := by decide +kernel
theorem dX7_trialOf_69 : decode cX7_trialOf 69 = .ok (.idiv, 1) := by decide +kernel
theorem dX7_trialOf_70 : decode cX7_trialOf 70 = .ok (.iconst 1, 1) := by decide +kernel
theorem dX7_trialOf_71 : decode cX7_trialOf 71 = .ok (.iadd, 1) := by decide +kernel
theorem dX7_trialOf_72 : decode cX7_trialOf 72 = .ok (.imul, 1) := by decide +kernel
theorem dX7_trialOf_73 : decode cX7_trialOf 73 = .ok (.iload 4, 2) := by decide +kernel
theorem dX7_trialOf_75 : decode cX7_trialOf 75 = .ok (.aload_n 0, 1) := by decide +kernel
theorem dX7_trialOf_76 : decode cX7_trialOf 76 = .ok (.getfield 73, 3) := by decide +kernel
theorem dX7_trialOf_79 : decode cX7_trialOf 79 = .ok (.irem, 1) := by decide +kernel
theorem dX7_trialOf_80 : decode cX7_trialOf 80 = .ok (.iadd, 1) := by decide +kernel
theorem dX7_trialOf_81 : decode cX7_trialOf 81 = .ok (.goto 4, 3) := by decide +kernel
theorem dX7_trialOf_84 : decode cX7_trialOf 84 = .ok (.iload_n 2, 1) := by decide +kernel
theorem dX7_trialOf_85 : decode cX7_trialOf 85 = .ok (.istore_n 2, 1) := by decide +kernel
theorem dX7_trialOf_86 : decode cX7_trialOf 86 = .ok (.iload 5, 2) := by decide +kernel
theorem dX7_trialOf_88 : decode cX7_trialOf 88 = .ok (.iload_n 3, 1) := by decide +kernel
theorem dX7_trialOf_89 : decode cX7_trialOf 89 = .ok (.if_icmp .ge 8, 3) := by decide +kernel
theorem dX7_trialOf_92 : decode cX7_trialOf 92 = .ok (.iload 5, 2) := by decide +kernel
theorem dX7_trialOf_94 : decode cX7_trialOf 94 = .ok (.goto 4, 3) := by decide +kernel
theorem dX7_trialOf_97 : decode cX7_trialOf 97 = .ok (.iload_n 3, 1) := by decide +kernel
theorem dX7_trialOf_98 : decode cX7_trialOf 98 = .ok (.istore_n 3, 1) := by decide +kernel
theorem dX7_trialOf_99 : decode cX7_trialOf 99 = .ok (.iinc 4 1, 3) := by decide +kernel
theorem dX7_trialOf_102 : decode cX7_trialOf 102 = .ok (.goto (-88), 3) := by decide +kernel
theorem dX7_trialOf_105 : decode cX7_trialOf 105 = .ok (.iload_n 2, 1) := by decide +kernel
theorem dX7_trialOf_106 : decode cX7_trialOf 106 = .ok (.ireturn, 1) := by decide +kernel
theorem dX7_trial_0 : decode cX7_trial 0 = .ok (.aload_n 0, 1) := by decide +kernel
theorem dX7_trial_1 : decode cX7_trial 1 = .ok (.invokevirtual 118, 3) := by decide +kernel
theorem dX7_trial_4 : decode cX7_trial 4 = .ok (.ifCond .eq 8, 3) := by decide +kernel
theorem dX7_trial_7 : decode cX7_trial 7 = .ok (.bipush (-103), 2) := by decide +kernel
theorem dX7_trial_9 : decode cX7_trial 9 = .ok (.goto 7, 3) := by decide +kernel
theorem dX7_trial_12 : decode cX7_trial 12 = .ok (.aload_n 0, 1) := by decide +kernel
theorem dX7_trial_13 : decode cX7_trial 13 = .ok (.invokevirtual 234, 3) := by decide +kernel
theorem dX7_trial_16 : decode cX7_trial 16 = .ok (.ireturn, 1) := by decide +kernel
theorem dX7_draw_0 : decode cX7_draw 0 = .ok (.aload_n 0, 1) := by decide +kernel
theorem dX7_draw_1 : decode cX7_draw 1 = .ok (.ldc2_w 237, 3) := by decide +kernel
theorem dX7_draw_4 : decode cX7_draw 4 = .ok (.aload_n 0, 1) := by decide +kernel
theorem dX7_draw_5 : decode cX7_draw 5 = .ok (.getfield 239, 3) := by decide +kernel
theorem dX7_draw_8 : decode cX7_draw 8 = .ok (.i2l, 1) := by decide +kernel
theorem dX7_draw_9 : decode cX7_draw 9 = .ok (.lmul, 1) := by decide +kernel
theorem dX7_draw_10 : decode cX7_draw 10 = .ok (.ldc2_w 242, 3) := by decide +kernel
theorem dX7_draw_13 : decode cX7_draw 13 = .ok (.ladd, 1) := by decide +kernel
theorem dX7_draw_14 : decode cX7_draw 14 = .ok (.ldc2_w 244, 3) := by decide +kernel
theorem dX7_draw_17 : decode cX7_draw 17 = .ok (.land, 1) := by decide +kernel
theorem dX7_draw_18 : decode cX7_draw 18 = .ok (.l2i, 1) := by decide +kernel
theorem dX7_draw_19 : decode cX7_draw 19 = .ok (.putfield 239, 3) := by decide +kernel
theorem dX7_draw_22 : decode cX7_draw 22 = .ok (.aload_n 0, 1) := by decide +kernel
theorem dX7_draw_23 : decode cX7_draw 23 = .ok (.getfield 239, 3) := by decide +kernel
theorem dX7_draw_26 : decode cX7_draw 26 = .ok (.ldc 246, 2) := by decide +kernel
theorem dX7_draw_28 : decode cX7_draw 28 = .ok (.idiv, 1) := by decide +kernel
theorem dX7_draw_29 : decode cX7_draw 29 = .ok (.iload_n 1, 1) := by decide +kernel
theorem dX7_draw_30 : decode cX7_draw 30 = .ok (.irem, 1) := by decide +kernel
theorem dX7_draw_31 : decode cX7_draw 31 = .ok (.ireturn, 1) := by decide +kernel
theorem dX7_shuffles_0 : decode cX7_shuffles 0 = .ok (.iload_n 1, 1) := by decide +kernel
theorem dX7_shuffles_1 : decode cX7_shuffles 1 = .ok (.i2l, 1) := by decide +kernel
theorem dX7_shuffles_2 : decode cX7_shuffles 2 = .ok (.lconst 1, 1) := by decide +kernel
theorem dX7_shuffles_3 : decode cX7_shuffles 3 = .ok (.ldc2_w 247, 3) := by decide +kernel
theorem dX7_shuffles_6 : decode cX7_shuffles 6 = .ok (.invokestatic 58, 3) := by decide +kernel
theorem dX7_shuffles_9 : decode cX7_shuffles 9 = .ok (.ifCond .eq 19, 3) := by decide +kernel
theorem dX7_shuffles_12 : decode cX7_shuffles 12 = .ok (.iload_n 2, 1) := by decide +kernel
theorem dX7_shuffles_13 : decode cX7_shuffles 13 = .ok (.ifCond .lt 15, 3) := by decide +kernel
theorem dX7_shuffles_16 : decode cX7_shuffles 16 = .ok (.iload_n 3, 1) := by decide +kernel
theorem dX7_shuffles_17 : decode cX7_shuffles 17 = .ok (.i2l, 1) := by decide +kernel
theorem dX7_shuffles_18 : decode cX7_shuffles 18 = .ok (.lconst 0, 1) := by decide +kernel
theorem dX7_shuffles_19 : decode cX7_shuffles 19 = .ok (.ldc2_w 249, 3) := by decide +kernel
theorem dX7_shuffles_22 : decode cX7_shuffles 22 = .ok (.invokestatic 58, 3) := by decide +kernel
theorem dX7_shuffles_25 : decode cX7_shuffles 25 = .ok (.ifCond .ne 6, 3) := by decide +kernel
theorem dX7_shuffles_28 : decode cX7_shuffles 28 = .ok (.bipush (-102), 2) := by decide +kernel
theorem dX7_shuffles_30 : decode cX7_shuffles 30 = .ok (.ireturn, 1) := by decide +kernel
theorem dX7_shuffles_31 : decode cX7_shuffles 31 = .ok (.aload_n 0, 1) := by decide +kernel
theorem dX7_shuffles_32 : decode cX7_shuffles 32 = .ok (.invokevirtual 118, 3) := by decide +kernel
theorem dX7_shuffles_35 : decode cX7_shuffles 35 = .ok (.ifCond .eq 6, 3) := by decide +kernel
theorem dX7_shuffles_38 : decode cX7_shuffles 38 = .ok (.bipush (-103), 2) := by decide +kernel
theorem dX7_shuffles_40 : decode cX7_shuffles 40 = .ok (.ireturn, 1) := by decide +kernel
theorem dX7_shuffles_41 : decode cX7_shuffles 41 = .ok (.aload_n 0, 1) := by decide +kernel
theorem dX7_shuffles_42 : decode cX7_shuffles 42 = .ok (.iload_n 2, 1) := by decide +kernel
theorem dX7_shuffles_43 : decode cX7_shuffles 43 = .ok (.putfield 239, 3) := by decide +kernel
theorem dX7_shuffles_46 : decode cX7_shuffles 46 = .ok (.aload_n 0, 1) := by decide +kernel
theorem dX7_shuffles_47 : decode cX7_shuffles 47 = .ok (.getfield 16, 3) := by decide +kernel
theorem dX7_shuffles_50 : decode cX7_shuffles 50 = .ok (.aload_n 0, 1) := by decide +kernel
theorem dX7_shuffles_51 : decode cX7_shuffles 51 = .ok (.getfield 40, 3) := by decide +kernel
theorem dX7_shuffles_54 : decode cX7_shuffles 54 = .ok (.invokestatic 149, 3) := by decide +kernel
theorem dX7_shuffles_57 : decode cX7_shuffles 57 = .ok (.iconst 0, 1) := by decide +kernel
theorem dX7_shuffles_58 : decode cX7_shuffles 58 = .ok (.istore 4, 2) := by decide +kernel
theorem dX7_shuffles_60 : decode cX7_shuffles 60 = .ok (.iconst 0, 1) := by decide +kernel
theorem dX7_shuffles_61 : decode cX7_shuffles 61 = .ok (.istore 5, 2) := by decide +kernel
theorem dX7_shuffles_63 : decode cX7_shuffles 63 = .ok (.iload 5, 2) := by decide +kernel
theorem dX7_shuffles_65 : decode cX7_shuffles 65 = .ok (.iload_n 1, 1) := by decide +kernel
theorem dX7_shuffles_66 : decode cX7_shuffles 66 = .ok (.if_icmp .ge 59, 3) := by decide +kernel
theorem dX7_shuffles_69 : decode cX7_shuffles 69 = .ok (.aload_n 0, 1) := by decide +kernel
theorem dX7_shuffles_70 : decode cX7_shuffles 70 = .ok (.aload_n 0, 1) := by decide +kernel
theorem dX7_shuffles_71 : decode cX7_shuffles 71 = .ok (.getfield 73, 3) := by decide +kernel
theorem dX7_shuffles_74 : decode cX7_shuffles 74 = .ok (.invokevirtual 251, 3) := by decide +kernel
theorem dX7_shuffles_77 : decode cX7_shuffles 77 = .ok (.istore 6, 2) := by decide +kernel
theorem dX7_shuffles_79 : decode cX7_shuffles 79 = .ok (.aload_n 0, 1) := by decide +kernel
theorem dX7_shuffles_80 : decode cX7_shuffles 80 = .ok (.aload_n 0, 1) := by decide +kernel
theorem dX7_shuffles_81 : decode cX7_shuffles 81 = .ok (.getfield 73, 3) := by decide +kernel
theorem dX7_shuffles_84 : decode cX7_shuffles 84 = .ok (.invokevirtual 251, 3) := by decide +kernel
theorem dX7_shuffles_87 : decode cX7_shuffles 87 = .ok (.istore 7, 2) := by decide +kernel
theorem dX7_shuffles_89 : decode cX7_shuffles 89 = .ok (.aload_n 0, 1) := by decide +kernel
theorem dX7_shuffles_90 : decode cX7_shuffles 90 = .ok (.aload_n 0, 1) := by decide +kernel
theorem dX7_shuffles_91 : decode cX7_shuffles 91 = .ok (.getfield 40, 3) := by decide +kernel
theorem dX7_shuffles_94 : decode cX7_shuffles 94 = .ok (.iload 6, 2) := by decide +kernel
theorem dX7_shuffles_96 : decode cX7_shuffles 96 = .ok (.iload 7, 2) := by decide +kernel
theorem dX7_shuffles_98 : decode cX7_shuffles 98 = .ok (.invokevirtual 163, 3) := by decide +kernel
theorem dX7_shuffles_101 : decode cX7_shuffles 101 = .ok (.iconst (-1), 1) := by decide +kernel
theorem dX7_shuffles_102 : decode cX7_shuffles 102 = .ok (.if_icmp .eq 17, 3) := by decide +kernel
theorem dX7_shuffles_105 : decode cX7_shuffles 105 = .ok (.aload_n 0, 1) := by decide +kernel
theorem dX7_shuffles_106 : decode cX7_shuffles 106 = .ok (.getfield 40, 3) := by decide +kernel
theorem dX7_shuffles_109 : decode cX7_shuffles 109 = .ok (.iload 6, 2) := by decide +kernel
theorem dX7_shuffles_111 : decode cX7_shuffles 111 = .ok (.iload 7, 2) := by decide +kernel
theorem dX7_shuffles_113 : decode cX7_shuffles 113 = .ok (.invokestatic 153, 3) := by decide +kernel
theorem dX7_shuffles_116 : decode cX7_shuffles 116 = .ok (.iinc 4 1, 3) := by decide +kernel
theorem dX7_shuffles_119 : decode cX7_shuffles 119 = .ok (.iinc 5 1, 3) := by decide +kernel
theorem dX7_shuffles_122 : decode cX7_shuffles 122 = .ok (.goto (-59), 3) := by decide +kernel
theorem dX7_shuffles_125 : decode cX7_shuffles 125 = .ok (.iload_n 3, 1) := by decide +kernel
theorem dX7_shuffles_126 : decode cX7_shuffles 126 = .ok (.ifCond .ne 8, 3) := by decide +kernel
theorem dX7_shuffles_129 : decode cX7_shuffles 129 = .ok (.iload 4, 2) := by decide +kernel
theorem dX7_shuffles_131 : decode cX7_shuffles 131 = .ok (.goto 30, 3) := by decide +kernel
theorem dX7_shuffles_134 : decode cX7_shuffles 134 = .ok (.iload_n 3, 1) := by decide +kernel
theorem dX7_shuffles_135 : decode cX7_shuffles 135 = .ok (.iconst 1, 1) := by decide +kernel
theorem dX7_shuffles_136 : decode cX7_shuffles 136 = .ok (.if_icmp .ne 21, 3) := by decide +kernel
theorem dX7_shuffles_139 : decode cX7_shuffles 139 = .ok (.aload_n 0, 1) := by decide +kernel
theorem dX7_shuffles_140 : decode cX7_shuffles 140 = .ok (.aload_n 0, 1) := by decide +kernel
theorem dX7_shuffles_141 : decode cX7_shuffles 141 = .ok (.getfield 40, 3) := by decide +kernel
theorem dX7_shuffles_144 : decode cX7_shuffles 144 = .ok (.aload_n 0, 1) := by decide +kernel
theorem dX7_shuffles_145 : decode cX7_shuffles 145 = .ok (.getfield 73, 3) := by decide +kernel
theorem dX7_shuffles_148 : decode cX7_shuffles 148 = .ok (.invokestatic 107, 3) := by decide +kernel
theorem dX7_shuffles_151 : decode cX7_shuffles 151 = .ok (.invokevirtual 115, 3) := by decide +kernel
theorem dX7_shuffles_154 : decode cX7_shuffles 154 = .ok (.goto 7, 3) := by decide +kernel
theorem dX7_shuffles_157 : decode cX7_shuffles 157 = .ok (.aload_n 0, 1) := by decide +kernel
theorem dX7_shuffles_158 : decode cX7_shuffles 158 = .ok (.getfield 239, 3) := by decide +kernel
theorem dX7_shuffles_161 : decode cX7_shuffles 161 = .ok (.ireturn, 1) := by decide +kernel
theorem dX7_image_0 : decode cX7_image 0 = .ok (.aload_n 0, 1) := by decide +kernel
theorem dX7_image_1 : decode cX7_image 1 = .ok (.invokevirtual 118, 3) := by decide +kernel
theorem dX7_image_4 : decode cX7_image 4 = .ok (.ifCond .eq 6, 3) := by decide +kernel
theorem dX7_image_7 : decode cX7_image 7 = .ok (.bipush (-103), 2) := by decide +kernel
theorem dX7_image_9 : decode cX7_image 9 = .ok (.ireturn, 1) := by decide +kernel
theorem dX7_image_10 : decode cX7_image 10 = .ok (.aload_n 0, 1) := by decide +kernel
theorem dX7_image_11 : decode cX7_image 11 = .ok (.getfield 13, 3) := by decide +kernel
theorem dX7_image_14 : decode cX7_image 14 = .ok (.aload_n 0, 1) := by decide +kernel
theorem dX7_image_15 : decode cX7_image 15 = .ok (.getfield 43, 3) := by decide +kernel
theorem dX7_image_18 : decode cX7_image 18 = .ok (.invokestatic 149, 3) := by decide +kernel
theorem dX7_image_21 : decode cX7_image 21 = .ok (.aload_n 0, 1) := by decide +kernel
theorem dX7_image_22 : decode cX7_image 22 = .ok (.getfield 16, 3) := by decide +kernel
theorem dX7_image_25 : decode cX7_image 25 = .ok (.aload_n 0, 1) := by decide +kernel
theorem dX7_image_26 : decode cX7_image 26 = .ok (.getfield 46, 3) := by decide +kernel
theorem dX7_image_29 : decode cX7_image 29 = .ok (.invokestatic 149, 3) := by decide +kernel
theorem dX7_image_32 : decode cX7_image 32 = .ok (.aload_n 0, 1) := by decide +kernel
theorem dX7_image_33 : decode cX7_image 33 = .ok (.getfield 37, 3) := by decide +kernel
theorem dX7_image_36 : decode cX7_image 36 = .ok (.aload_n 0, 1) := by decide +kernel
theorem dX7_image_37 : decode cX7_image 37 = .ok (.getfield 49, 3) := by decide +kernel
theorem dX7_image_40 : decode cX7_image 40 = .ok (.invokestatic 149, 3) := by decide +kernel
theorem dX7_image_43 : decode cX7_image 43 = .ok (.aload_n 0, 1) := by decide +kernel
theorem dX7_image_44 : decode cX7_image 44 = .ok (.aload_n 0, 1) := by decide +kernel
theorem dX7_image_45 : decode cX7_image 45 = .ok (.getfield 79, 3) := by decide +kernel
theorem dX7_image_48 : decode cX7_image 48 = .ok (.putfield 254, 3) := by decide +kernel
theorem dX7_image_51 : decode cX7_image 51 = .ok (.aload_n 0, 1) := by decide +kernel
theorem dX7_image_52 : decode cX7_image 52 = .ok (.aload_n 0, 1) := by decide +kernel
theorem dX7_image_53 : decode cX7_image 53 = .ok (.getfield 82, 3) := by decide +kernel
theorem dX7_image_56 : decode cX7_image 56 = .ok (.putfield 257, 3) := by decide +kernel
theorem dX7_image_59 : decode cX7_image 59 = .ok (.aload_n 0, 1) := by decide +kernel
theorem dX7_image_60 : decode cX7_image 60 = .ok (.aload_n 0, 1) := by decide +kernel
theorem dX7_image_61 : decode cX7_image 61 = .ok (.getfield 85, 3) := by decide +kernel
theorem dX7_image_64 : decode cX7_image 64 = .ok (.putfield 52, 3) := by decide +kernel
theorem dX7_image_67 : decode cX7_image 67 = .ok (.aload_n 0, 1) := by decide +kernel
theorem dX7_image_68 : decode cX7_image 68 = .ok (.getfield 79, 3) := by decide +kernel
theorem dX7_image_71 : decode cX7_image 71 = .ok (.ireturn, 1) := by decide +kernel
theorem dX7_restore_0 : decode cX7_restore 0 = .ok (.aload_n 0, 1) := by decide +kernel
theorem dX7_restore_1 : decode cX7_restore 1 = .ok (.getfield 52, 3) := by decide +kernel
theorem dX7_restore_4 : decode cX7_restore 4 = .ok (.aload_n 0, 1) := by decide +kernel
theorem dX7_restore_5 : decode cX7_restore 5 = .ok (.getfield 85, 3) := by decide +kernel
theorem dX7_restore_8 : decode cX7_restore 8 = .ok (.if_icmp .eq 6, 3) := by decide +kernel
theorem dX7_restore_11 : decode cX7_restore 11 = .ok (.bipush (-103), 2) := by decide +kernel
theorem dX7_restore_13 : decode cX7_restore 13 = .ok (.ireturn, 1) := by decide +kernel
theorem dX7_restore_14 : decode cX7_restore 14 = .ok (.aload_n 0, 1) := by decide +kernel
theorem dX7_restore_15 : decode cX7_restore 15 = .ok (.getfield 43, 3) := by decide +kernel
theorem dX7_restore_18 : decode cX7_restore 18 = .ok (.aload_n 0, 1) := by decide +kernel
theorem dX7_restore_19 : decode cX7_restore 19 = .ok (.getfield 13, 3) := by decide +kernel
theorem dX7_restore_22 : decode cX7_restore 22 = .ok (.invokestatic 149, 3) := by decide +kernel
theorem dX7_restore_25 : decode cX7_restore 25 = .ok (.aload_n 0, 1) := by decide +kernel
theorem dX7_restore_26 : decode cX7_restore 26 = .ok (.getfield 46, 3) := by decide +kernel
theorem dX7_restore_29 : decode cX7_restore 29 = .ok (.aload_n 0, 1) := by decide +kernel
theorem dX7_restore_30 : decode cX7_restore 30 = .ok (.getfield 16, 3) := by decide +kernel
theorem dX7_restore_33 : decode cX7_restore 33 = .ok (.invokestatic 149, 3) := by decide +kernel
theorem dX7_restore_36 : decode cX7_restore 36 = .ok (.aload_n 0, 1) := by decide +kernel
theorem dX7_restore_37 : decode cX7_restore 37 = .ok (.getfield 49, 3) := by decide +kernel
theorem dX7_restore_40 : decode cX7_restore 40 = .ok (.aload_n 0, 1) := by decide +kernel
theorem dX7_restore_41 : decode cX7_restore 41 = .ok (.getfield 37, 3) := by decide +kernel
theorem dX7_restore_44 : decode cX7_restore 44 = .ok (.invokestatic 149, 3) := by decide +kernel
theorem dX7_restore_47 : decode cX7_restore 47 = .ok (.aload_n 0, 1) := by decide +kernel
theorem dX7_restore_48 : decode cX7_restore 48 = .ok (.aload_n 0, 1) := by decide +kernel
theorem dX7_restore_49 : decode cX7_restore 49 = .ok (.getfield 254, 3) := by decide +kernel
theorem dX7_restore_52 : decode cX7_restore 52 = .ok (.putfield 79, 3) := by decide +kernel
theorem dX7_restore_55 : decode cX7_restore 55 = .ok (.aload_n 0, 1) := by decide +kernel
theorem dX7_restore_56 : decode cX7_restore 56 = .ok (.aload_n 0, 1) := by decide +kernel
theorem dX7_restore_57 : decode cX7_restore 57 = .ok (.getfield 257, 3) := by decide +kernel
theorem dX7_restore_60 : decode cX7_restore 60 = .ok (.putfield 82, 3) := by decide +kernel
theorem dX7_restore_63 : decode cX7_restore 63 = .ok (.aload_n 0, 1) := by decide +kernel
theorem dX7_restore_64 : decode cX7_restore 64 = .ok (.getfield 79, 3) := by decide +kernel
theorem dX7_restore_67 : decode cX7_restore 67 = .ok (.ireturn, 1) := by decide +kernel
theorem dX7_thickAll_0 : decode cX7_thickAll 0 = .ok (.iconst 0, 1) := by decide +kernel
theorem dX7_thickAll_1 : decode cX7_thickAll 1 = .ok (.istore_n 1, 1) := by decide +kernel
theorem dX7_thickAll_2 : decode cX7_thickAll 2 = .ok (.iconst 0, 1) := by decide +kernel
theorem dX7_thickAll_3 : decode cX7_thickAll 3 = .ok (.istore_n 2, 1) := by decide +kernel
theorem dX7_thickAll_4 : decode cX7_thickAll 4 = .ok (.iload_n 2, 1) := by decide +kernel
theorem dX7_thickAll_5 : decode cX7_thickAll 5 = .ok (.aload_n 0, 1) := by decide +kernel
theorem dX7_thickAll_6 : decode cX7_thickAll 6 = .ok (.getfield 73, 3) := by decide +kernel
theorem dX7_thickAll_9 : decode cX7_thickAll 9 = .ok (.if_icmp .ge 17, 3) := by decide +kernel
theorem dX7_thickAll_12 : decode cX7_thickAll 12 = .ok (.iload_n 1, 1) := by decide +kernel
theorem dX7_thickAll_13 : decode cX7_thickAll 13 = .ok (.aload_n 0, 1) := by decide +kernel
theorem dX7_thickAll_14 : decode cX7_thickAll 14 = .ok (.iload_n 2, 1) := by decide +kernel
theorem dX7_thickAll_15 : decode cX7_thickAll 15 = .ok (.invokevirtual 140, 3) := by decide +kernel
theorem dX7_thickAll_18 : decode cX7_thickAll 18 = .ok (.iadd, 1) := by decide +kernel
theorem dX7_thickAll_19 : decode cX7_thickAll 19 = .ok (.istore_n 1, 1) := by decide +kernel
theorem dX7_thickAll_20 : decode cX7_thickAll 20 = .ok (.iinc 2 1, 3) := by decide +kernel
theorem dX7_thickAll_23 : decode cX7_thickAll 23 = .ok (.goto (-19), 3) := by decide +kernel
theorem dX7_thickAll_26 : decode cX7_thickAll 26 = .ok (.iload_n 1, 1) := by decide +kernel
theorem dX7_thickAll_27 : decode cX7_thickAll 27 = .ok (.ireturn, 1) := by decide +kernel
theorem dX7_movesNow_0 : decode cX7_movesNow 0 = .ok (.iconst 0, 1) := by decide +kernel
theorem dX7_movesNow_1 : decode cX7_movesNow 1 = .ok (.istore_n 1, 1) := by decide +kernel
theorem dX7_movesNow_2 : decode cX7_movesNow 2 = .ok (.iconst 0, 1) := by decide +kernel
theorem dX7_movesNow_3 : decode cX7_movesNow 3 = .ok (.istore_n 2, 1) := by decide +kernel
theorem dX7_movesNow_4 : decode cX7_movesNow 4 = .ok (.iload_n 2, 1) := by decide +kernel
theorem dX7_movesNow_5 : decode cX7_movesNow 5 = .ok (.aload_n 0, 1) := by decide +kernel
theorem dX7_movesNow_6 : decode cX7_movesNow 6 = .ok (.getfield 73, 3) := by decide +kernel
theorem dX7_movesNow_9 : decode cX7_movesNow 9 = .ok (.aload_n 0, 1) := by decide +kernel
theorem dX7_movesNow_10 : decode cX7_movesNow 10 = .ok (.getfield 73, 3) := by decide +kernel
theorem dX7_movesNow_13 : decode cX7_movesNow 13 = .ok (.imul, 1) := by decide +kernel
theorem dX7_movesNow_14 : decode cX7_movesNow 14 = .ok (.if_icmp .ge 41, 3) := by decide +kernel
theorem dX7_movesNow_17 : decode cX7_movesNow 17 = .ok (.iload_n 1, 1) := by decide +kernel
theorem dX7_movesNow_18 : decode cX7_movesNow 18 = .ok (.aload_n 0, 1) := by decide +kernel
theorem dX7_movesNow_19 : decode cX7_movesNow 19 = .ok (.aload_n 0, 1) := by decide +kernel
theorem dX7_movesNow_20 : decode cX7_movesNow 20 = .ok (.getfield 16, 3) := by decide +kernel
theorem dX7_movesNow_23 : decode cX7_movesNow 23 = .ok (.iload_n 2, 1) := by decide +kernel
theorem dX7_movesNow_24 : decode cX7_movesNow 24 = .ok (.aload_n 0, 1) := by decide +kernel
theorem dX7_movesNow_25 : decode cX7_movesNow 25 = .ok (.getfield 73, 3) := by decide +kernel
theorem dX7_movesNow_28 : decode cX7_movesNow 28 = .ok (.idiv, 1) := by decide +kernel
theorem dX7_movesNow_29 : decode cX7_movesNow 29 = .ok (.iload_n 2, 1) := by decide +kernel
theorem dX7_movesNow_30 : decode cX7_movesNow 30 = .ok (.aload_n 0, 1) := by decide +kernel
theorem dX7_movesNow_31 : decode cX7_movesNow 31 = .ok (.getfield 73, 3) := by decide +kernel
theorem dX7_movesNow_34 : decode cX7_movesNow 34 = .ok (.irem, 1) := by decide +kernel
theorem dX7_movesNow_35 : decode cX7_movesNow 35 = .ok (.invokevirtual 163, 3) := by decide +kernel
theorem dX7_movesNow_38 : decode cX7_movesNow 38 = .ok (.iconst (-1), 1) := by decide +kernel
theorem dX7_movesNow_39 : decode cX7_movesNow 39 = .ok (.if_icmp .ne 7, 3) := by decide +kernel
theorem dX7_movesNow_42 : decode cX7_movesNow 42 = .ok (.iconst 0, 1) := by decide +kernel
theorem dX7_movesNow_43 : decode cX7_movesNow 43 = .ok (.goto 4, 3) := by decide +kernel
theorem dX7_movesNow_46 : decode cX7_movesNow 46 = .ok (.iconst 1, 1) := by decide +kernel
theorem dX7_movesNow_47 : decode cX7_movesNow 47 = .ok (.iadd, 1) := by decide +kernel
theorem dX7_movesNow_48 : decode cX7_movesNow 48 = .ok (.istore_n 1, 1) := by decide +kernel
theorem dX7_movesNow_49 : decode cX7_movesNow 49 = .ok (.iinc 2 1, 3) := by decide +kernel
theorem dX7_movesNow_52 : decode cX7_movesNow 52 = .ok (.goto (-48), 3) := by decide +kernel
theorem dX7_movesNow_55 : decode cX7_movesNow 55 = .ok (.iload_n 1, 1) := by decide +kernel
theorem dX7_movesNow_56 : decode cX7_movesNow 56 = .ok (.ireturn, 1) := by decide +kernel
theorem dX7_countOf_0 : decode cX7_countOf 0 = .ok (.iload_n 1, 1) := by decide +kernel
theorem dX7_countOf_1 : decode cX7_countOf 1 = .ok (.tableswitch 117 0 9 #[55, 60, 65, 74, 83, 92, 97, 102, 107, 112], 55) := by decide +kernel
theorem dX7_countOf_56 : decode cX7_countOf 56 = .ok (.aload_n 0, 1) := by decide +kernel
theorem dX7_countOf_57 : decode cX7_countOf 57 = .ok (.getfield 73, 3) := by decide +kernel
theorem dX7_countOf_60 : decode cX7_countOf 60 = .ok (.ireturn, 1) := by decide +kernel
theorem dX7_countOf_61 : decode cX7_countOf 61 = .ok (.aload_n 0, 1) := by decide +kernel
theorem dX7_countOf_62 : decode cX7_countOf 62 = .ok (.invokevirtual 260, 3) := by decide +kernel
theorem dX7_countOf_65 : decode cX7_countOf 65 = .ok (.ireturn, 1) := by decide +kernel
theorem dX7_countOf_66 : decode cX7_countOf 66 = .ok (.aload_n 0, 1) := by decide +kernel
theorem dX7_countOf_67 : decode cX7_countOf 67 = .ok (.aload_n 0, 1) := by decide +kernel
theorem dX7_countOf_68 : decode cX7_countOf 68 = .ok (.getfield 16, 3) := by decide +kernel
theorem dX7_countOf_71 : decode cX7_countOf 71 = .ok (.invokevirtual 187, 3) := by decide +kernel
theorem dX7_countOf_74 : decode cX7_countOf 74 = .ok (.ireturn, 1) := by decide +kernel
theorem dX7_countOf_75 : decode cX7_countOf 75 = .ok (.aload_n 0, 1) := by decide +kernel
theorem dX7_countOf_76 : decode cX7_countOf 76 = .ok (.aload_n 0, 1) := by decide +kernel
theorem dX7_countOf_77 : decode cX7_countOf 77 = .ok (.getfield 16, 3) := by decide +kernel
theorem dX7_countOf_80 : decode cX7_countOf 80 = .ok (.invokevirtual 222, 3) := by decide +kernel
theorem dX7_countOf_83 : decode cX7_countOf 83 = .ok (.ireturn, 1) := by decide +kernel
theorem dX7_countOf_84 : decode cX7_countOf 84 = .ok (.aload_n 0, 1) := by decide +kernel
theorem dX7_countOf_85 : decode cX7_countOf 85 = .ok (.aload_n 0, 1) := by decide +kernel
theorem dX7_countOf_86 : decode cX7_countOf 86 = .ok (.getfield 16, 3) := by decide +kernel
theorem dX7_countOf_89 : decode cX7_countOf 89 = .ok (.invokevirtual 129, 3) := by decide +kernel
theorem dX7_countOf_92 : decode cX7_countOf 92 = .ok (.ireturn, 1) := by decide +kernel
theorem dX7_countOf_93 : decode cX7_countOf 93 = .ok (.aload_n 0, 1) := by decide +kernel
theorem dX7_countOf_94 : decode cX7_countOf 94 = .ok (.invokevirtual 263, 3) := by decide +kernel
theorem dX7_countOf_97 : decode cX7_countOf 97 = .ok (.ireturn, 1) := by decide +kernel
theorem dX7_countOf_98 : decode cX7_countOf 98 = .ok (.aload_n 0, 1) := by decide +kernel
theorem dX7_countOf_99 : decode cX7_countOf 99 = .ok (.getfield 79, 3) := by decide +kernel
theorem dX7_countOf_102 : decode cX7_countOf 102 = .ok (.ireturn, 1) := by decide +kernel
theorem dX7_countOf_103 : decode cX7_countOf 103 = .ok (.aload_n 0, 1) := by decide +kernel
theorem dX7_countOf_104 : decode cX7_countOf 104 = .ok (.getfield 82, 3) := by decide +kernel
theorem dX7_countOf_107 : decode cX7_countOf 107 = .ok (.ireturn, 1) := by decide +kernel
theorem dX7_countOf_108 : decode cX7_countOf 108 = .ok (.aload_n 0, 1) := by decide +kernel
theorem dX7_countOf_109 : decode cX7_countOf 109 = .ok (.getfield 62, 3) := by decide +kernel
theorem dX7_countOf_112 : decode cX7_countOf 112 = .ok (.ireturn, 1) := by decide +kernel
theorem dX7_countOf_113 : decode cX7_countOf 113 = .ok (.aload_n 0, 1) := by decide +kernel
theorem dX7_countOf_114 : decode cX7_countOf 114 = .ok (.getfield 85, 3) := by decide +kernel
theorem dX7_countOf_117 : decode cX7_countOf 117 = .ok (.ireturn, 1) := by decide +kernel
theorem dX7_countOf_118 : decode cX7_countOf 118 = .ok (.bipush (-102), 2) := by decide +kernel
theorem dX7_countOf_120 : decode cX7_countOf 120 = .ok (.ireturn, 1) := by decide +kernel
theorem dX7_count_0 : decode cX7_count 0 = .ok (.aload_n 0, 1) := by decide +kernel
theorem dX7_count_1 : decode cX7_count 1 = .ok (.iload_n 1, 1) := by decide +kernel
theorem dX7_count_2 : decode cX7_count 2 = .ok (.invokevirtual 266, 3) := by decide +kernel
theorem dX7_count_5 : decode cX7_count 5 = .ok (.ireturn, 1) := by decide +kernel
theorem dX7_say_0 : decode cX7_say 0 = .ok (.aload_n 0, 1) := by decide +kernel
theorem dX7_say_1 : decode cX7_say 1 = .ok (.ldc2_w 269, 3) := by decide +kernel
theorem dX7_say_4 : decode cX7_say 4 = .ok (.aload_n 0, 1) := by decide +kernel
theorem dX7_say_5 : decode cX7_say 5 = .ok (.getfield 271, 3) := by decide +kernel
theorem dX7_say_8 : decode cX7_say 8 = .ok (.lmul, 1) := by decide +kernel
theorem dX7_say_9 : decode cX7_say 9 = .ok (.lload_n 1, 1) := by decide +kernel
theorem dX7_say_10 : decode cX7_say 10 = .ok (.ladd, 1) := by decide +kernel
theorem dX7_say_11 : decode cX7_say 11 = .ok (.putfield 271, 3) := by decide +kernel
theorem dX7_say_14 : decode cX7_say 14 = .ok (.return_, 1) := by decide +kernel
theorem dX7_sayStrip_0 : decode cX7_sayStrip 0 = .ok (.iconst 0, 1) := by decide +kernel
theorem dX7_sayStrip_1 : decode cX7_sayStrip 1 = .ok (.istore_n 1, 1) := by decide +kernel
theorem dX7_sayStrip_2 : decode cX7_sayStrip 2 = .ok (.iload_n 1, 1) := by decide +kernel
theorem dX7_sayStrip_3 : decode cX7_sayStrip 3 = .ok (.iconst 4, 1) := by decide +kernel
theorem dX7_sayStrip_4 : decode cX7_sayStrip 4 = .ok (.if_icmp .ge 19, 3) := by decide +kernel
theorem dX7_sayStrip_7 : decode cX7_sayStrip 7 = .ok (.aload_n 0, 1) := by decide +kernel
theorem dX7_sayStrip_8 : decode cX7_sayStrip 8 = .ok (.aload_n 0, 1) := by decide +kernel
theorem dX7_sayStrip_9 : decode cX7_sayStrip 9 = .ok (.iload_n 1, 1) := by decide +kernel
theorem dX7_sayStrip_10 : decode cX7_sayStrip 10 = .ok (.invokevirtual 209, 3) := by decide +kernel
theorem dX7_sayStrip_13 : decode cX7_sayStrip 13 = .ok (.i2l, 1) := by decide +kernel
theorem dX7_sayStrip_14 : decode cX7_sayStrip 14 = .ok (.invokevirtual 275, 3) := by decide +kernel
theorem dX7_sayStrip_17 : decode cX7_sayStrip 17 = .ok (.iinc 1 1, 3) := by decide +kernel
theorem dX7_sayStrip_20 : decode cX7_sayStrip 20 = .ok (.goto (-18), 3) := by decide +kernel
theorem dX7_sayStrip_23 : decode cX7_sayStrip 23 = .ok (.aload_n 0, 1) := by decide +kernel
theorem dX7_sayStrip_24 : decode cX7_sayStrip 24 = .ok (.aload_n 0, 1) := by decide +kernel
theorem dX7_sayStrip_25 : decode cX7_sayStrip 25 = .ok (.iconst 0, 1) := by decide +kernel
theorem dX7_sayStrip_26 : decode cX7_sayStrip 26 = .ok (.invokevirtual 190, 3) := by decide +kernel
theorem dX7_sayStrip_29 : decode cX7_sayStrip 29 = .ok (.i2l, 1) := by decide +kernel
theorem dX7_sayStrip_30 : decode cX7_sayStrip 30 = .ok (.invokevirtual 275, 3) := by decide +kernel
theorem dX7_sayStrip_33 : decode cX7_sayStrip 33 = .ok (.aload_n 0, 1) := by decide +kernel
theorem dX7_sayStrip_34 : decode cX7_sayStrip 34 = .ok (.aload_n 0, 1) := by decide +kernel
theorem dX7_sayStrip_35 : decode cX7_sayStrip 35 = .ok (.iconst 1, 1) := by decide +kernel
theorem dX7_sayStrip_36 : decode cX7_sayStrip 36 = .ok (.invokevirtual 190, 3) := by decide +kernel
theorem dX7_sayStrip_39 : decode cX7_sayStrip 39 = .ok (.i2l, 1) := by decide +kernel
theorem dX7_sayStrip_40 : decode cX7_sayStrip 40 = .ok (.invokevirtual 275, 3) := by decide +kernel
theorem dX7_sayStrip_43 : decode cX7_sayStrip 43 = .ok (.aload_n 0, 1) := by decide +kernel
theorem dX7_sayStrip_44 : decode cX7_sayStrip 44 = .ok (.aload_n 0, 1) := by decide +kernel
theorem dX7_sayStrip_45 : decode cX7_sayStrip 45 = .ok (.iconst 0, 1) := by decide +kernel
theorem dX7_sayStrip_46 : decode cX7_sayStrip 46 = .ok (.iconst 1, 1) := by decide +kernel
theorem dX7_sayStrip_47 : decode cX7_sayStrip 47 = .ok (.iconst 0, 1) := by decide +kernel
theorem dX7_sayStrip_48 : decode cX7_sayStrip 48 = .ok (.invokevirtual 196, 3) := by decide +kernel
theorem dX7_sayStrip_51 : decode cX7_sayStrip 51 = .ok (.i2l, 1) := by decide +kernel
theorem dX7_sayStrip_52 : decode cX7_sayStrip 52 = .ok (.invokevirtual 275, 3) := by decide +kernel
theorem dX7_sayStrip_55 : decode cX7_sayStrip 55 = .ok (.aload_n 0, 1) := by decide +kernel
theorem dX7_sayStrip_56 : decode cX7_sayStrip 56 = .ok (.aload_n 0, 1) := by decide +kernel
theorem dX7_sayStrip_57 : decode cX7_sayStrip 57 = .ok (.iconst 0, 1) := by decide +kernel
theorem dX7_sayStrip_58 : decode cX7_sayStrip 58 = .ok (.iconst 1, 1) := by decide +kernel
theorem dX7_sayStrip_59 : decode cX7_sayStrip 59 = .ok (.iconst 1, 1) := by decide +kernel
theorem dX7_sayStrip_60 : decode cX7_sayStrip 60 = .ok (.invokevirtual 196, 3) := by decide +kernel
theorem dX7_sayStrip_63 : decode cX7_sayStrip 63 = .ok (.i2l, 1) := by decide +kernel
theorem dX7_sayStrip_64 : decode cX7_sayStrip 64 = .ok (.invokevirtual 275, 3) := by decide +kernel
theorem dX7_sayStrip_67 : decode cX7_sayStrip 67 = .ok (.aload_n 0, 1) := by decide +kernel
theorem dX7_sayStrip_68 : decode cX7_sayStrip 68 = .ok (.aload_n 0, 1) := by decide +kernel
theorem dX7_sayStrip_69 : decode cX7_sayStrip 69 = .ok (.invokevirtual 228, 3) := by decide +kernel
theorem dX7_sayStrip_72 : decode cX7_sayStrip 72 = .ok (.i2l, 1) := by decide +kernel
theorem dX7_sayStrip_73 : decode cX7_sayStrip 73 = .ok (.invokevirtual 275, 3) := by decide +kernel
theorem dX7_sayStrip_76 : decode cX7_sayStrip 76 = .ok (.return_, 1) := by decide +kernel
theorem dX7_digest_0 : decode cX7_digest 0 = .ok (.aload_n 0, 1) := by decide +kernel
theorem dX7_digest_1 : decode cX7_digest 1 = .ok (.ldc2_w 279, 3) := by decide +kernel
theorem dX7_digest_4 : decode cX7_digest 4 = .ok (.putfield 271, 3) := by decide +kernel
theorem dX7_digest_7 : decode cX7_digest 7 = .ok (.iconst 0, 1) := by decide +kernel
theorem dX7_digest_8 : decode cX7_digest 8 = .ok (.istore_n 1, 1) := by decide +kernel
theorem dX7_digest_9 : decode cX7_digest 9 = .ok (.iload_n 1, 1) := by decide +kernel
theorem dX7_digest_10 : decode cX7_digest 10 = .ok (.aload_n 0, 1) := by decide +kernel
theorem dX7_digest_11 : decode cX7_digest 11 = .ok (.getfield 73, 3) := by decide +kernel
theorem dX7_digest_14 : decode cX7_digest 14 = .ok (.if_icmp .ge 55, 3) := by decide +kernel
theorem dX7_digest_17 : decode cX7_digest 17 = .ok (.iconst 0, 1) := by decide +kernel
theorem dX7_digest_18 : decode cX7_digest 18 = .ok (.istore_n 2, 1) := by decide +kernel
theorem dX7_digest_19 : decode cX7_digest 19 = .ok (.iload_n 2, 1) := by decide +kernel
theorem dX7_digest_20 : decode cX7_digest 20 = .ok (.iconst 4, 1) := by decide +kernel
theorem dX7_digest_21 : decode cX7_digest 21 = .ok (.if_icmp .ge 20, 3) := by decide +kernel
theorem dX7_digest_24 : decode cX7_digest 24 = .ok (.aload_n 0, 1) := by decide +kernel
theorem dX7_digest_25 : decode cX7_digest 25 = .ok (.aload_n 0, 1) := by decide +kernel
theorem dX7_digest_26 : decode cX7_digest 26 = .ok (.iload_n 1, 1) := by decide +kernel
theorem dX7_digest_27 : decode cX7_digest 27 = .ok (.iload_n 2, 1) := by decide +kernel
theorem dX7_digest_28 : decode cX7_digest 28 = .ok (.invokevirtual 200, 3) := by decide +kernel
theorem dX7_digest_31 : decode cX7_digest 31 = .ok (.i2l, 1) := by decide +kernel
theorem dX7_digest_32 : decode cX7_digest 32 = .ok (.invokevirtual 275, 3) := by decide +kernel
theorem dX7_digest_35 : decode cX7_digest 35 = .ok (.iinc 2 1, 3) := by decide +kernel
theorem dX7_digest_38 : decode cX7_digest 38 = .ok (.goto (-19), 3) := by decide +kernel
theorem dX7_digest_41 : decode cX7_digest 41 = .ok (.aload_n 0, 1) := by decide +kernel
theorem dX7_digest_42 : decode cX7_digest 42 = .ok (.aload_n 0, 1) := by decide +kernel
theorem dX7_digest_43 : decode cX7_digest 43 = .ok (.iload_n 1, 1) := by decide +kernel
theorem dX7_digest_44 : decode cX7_digest 44 = .ok (.iconst 0, 1) := by decide +kernel
theorem dX7_digest_45 : decode cX7_digest 45 = .ok (.invokevirtual 219, 3) := by decide +kernel
theorem dX7_digest_48 : decode cX7_digest 48 = .ok (.i2l, 1) := by decide +kernel
theorem dX7_digest_49 : decode cX7_digest 49 = .ok (.invokevirtual 275, 3) := by decide +kernel
theorem dX7_digest_52 : decode cX7_digest 52 = .ok (.aload_n 0, 1) := by decide +kernel
theorem dX7_digest_53 : decode cX7_digest 53 = .ok (.aload_n 0, 1) := by decide +kernel
theorem dX7_digest_54 : decode cX7_digest 54 = .ok (.iload_n 1, 1) := by decide +kernel
theorem dX7_digest_55 : decode cX7_digest 55 = .ok (.iconst 1, 1) := by decide +kernel
theorem dX7_digest_56 : decode cX7_digest 56 = .ok (.invokevirtual 219, 3) := by decide +kernel
theorem dX7_digest_59 : decode cX7_digest 59 = .ok (.i2l, 1) := by decide +kernel
theorem dX7_digest_60 : decode cX7_digest 60 = .ok (.invokevirtual 275, 3) := by decide +kernel
theorem dX7_digest_63 : decode cX7_digest 63 = .ok (.iinc 1 1, 3) := by decide +kernel
theorem dX7_digest_66 : decode cX7_digest 66 = .ok (.goto (-57), 3) := by decide +kernel
theorem dX7_digest_69 : decode cX7_digest 69 = .ok (.iconst 0, 1) := by decide +kernel
theorem dX7_digest_70 : decode cX7_digest 70 = .ok (.istore_n 1, 1) := by decide +kernel
theorem dX7_digest_71 : decode cX7_digest 71 = .ok (.iload_n 1, 1) := by decide +kernel
theorem dX7_digest_72 : decode cX7_digest 72 = .ok (.iconst 1, 1) := by decide +kernel
theorem dX7_digest_73 : decode cX7_digest 73 = .ok (.iadd, 1) := by decide +kernel
theorem dX7_digest_74 : decode cX7_digest 74 = .ok (.aload_n 0, 1) := by decide +kernel
theorem dX7_digest_75 : decode cX7_digest 75 = .ok (.getfield 73, 3) := by decide +kernel
theorem dX7_digest_78 : decode cX7_digest 78 = .ok (.if_icmp .ge 31, 3) := by decide +kernel
theorem dX7_digest_81 : decode cX7_digest 81 = .ok (.aload_n 0, 1) := by decide +kernel
theorem dX7_digest_82 : decode cX7_digest 82 = .ok (.iload_n 1, 1) := by decide +kernel
theorem dX7_digest_83 : decode cX7_digest 83 = .ok (.iconst 2, 1) := by decide +kernel
theorem dX7_digest_84 : decode cX7_digest 84 = .ok (.irem, 1) := by decide +kernel
theorem dX7_digest_85 : decode cX7_digest 85 = .ok (.i2l, 1) := by decide +kernel
theorem dX7_digest_86 : decode cX7_digest 86 = .ok (.invokevirtual 275, 3) := by decide +kernel
theorem dX7_digest_89 : decode cX7_digest 89 = .ok (.aload_n 0, 1) := by decide +kernel
theorem dX7_digest_90 : decode cX7_digest 90 = .ok (.aload_n 0, 1) := by decide +kernel
theorem dX7_digest_91 : decode cX7_digest 91 = .ok (.aload_n 0, 1) := by decide +kernel
theorem dX7_digest_92 : decode cX7_digest 92 = .ok (.getfield 16, 3) := by decide +kernel
theorem dX7_digest_95 : decode cX7_digest 95 = .ok (.iload_n 1, 1) := by decide +kernel
theorem dX7_digest_96 : decode cX7_digest 96 = .ok (.invokevirtual 143, 3) := by decide +kernel
theorem dX7_digest_99 : decode cX7_digest 99 = .ok (.i2l, 1) := by decide +kernel
theorem dX7_digest_100 : decode cX7_digest 100 = .ok (.invokevirtual 275, 3) := by decide +kernel
theorem dX7_digest_103 : decode cX7_digest 103 = .ok (.iinc 1 1, 3) := by decide +kernel
theorem dX7_digest_106 : decode cX7_digest 106 = .ok (.goto (-35), 3) := by decide +kernel
theorem dX7_digest_109 : decode cX7_digest 109 = .ok (.aload_n 0, 1) := by decide +kernel
theorem dX7_digest_110 : decode cX7_digest 110 = .ok (.invokevirtual 118, 3) := by decide +kernel
theorem dX7_digest_113 : decode cX7_digest 113 = .ok (.ifCond .ne 7, 3) := by decide +kernel
theorem dX7_digest_116 : decode cX7_digest 116 = .ok (.aload_n 0, 1) := by decide +kernel
theorem dX7_digest_117 : decode cX7_digest 117 = .ok (.invokevirtual 281, 3) := by decide +kernel
theorem dX7_digest_120 : decode cX7_digest 120 = .ok (.iconst 0, 1) := by decide +kernel
theorem dX7_digest_121 : decode cX7_digest 121 = .ok (.istore_n 1, 1) := by decide +kernel
theorem dX7_digest_122 : decode cX7_digest 122 = .ok (.iload_n 1, 1) := by decide +kernel
theorem dX7_digest_123 : decode cX7_digest 123 = .ok (.aload_n 0, 1) := by decide +kernel
theorem dX7_digest_124 : decode cX7_digest 124 = .ok (.getfield 62, 3) := by decide +kernel
theorem dX7_digest_127 : decode cX7_digest 127 = .ok (.if_icmp .ge 20, 3) := by decide +kernel
theorem dX7_digest_130 : decode cX7_digest 130 = .ok (.aload_n 0, 1) := by decide +kernel
theorem dX7_digest_131 : decode cX7_digest 131 = .ok (.aload_n 0, 1) := by decide +kernel
theorem dX7_digest_132 : decode cX7_digest 132 = .ok (.getfield 7, 3) := by decide +kernel
theorem dX7_digest_135 : decode cX7_digest 135 = .ok (.iload_n 1, 1) := by decide +kernel
theorem dX7_digest_136 : decode cX7_digest 136 = .ok (.iaload, 1) := by decide +kernel
theorem dX7_digest_137 : decode cX7_digest 137 = .ok (.i2l, 1) := by decide +kernel
theorem dX7_digest_138 : decode cX7_digest 138 = .ok (.invokevirtual 275, 3) := by decide +kernel
theorem dX7_digest_141 : decode cX7_digest 141 = .ok (.iinc 1 1, 3) := by decide +kernel
theorem dX7_digest_144 : decode cX7_digest 144 = .ok (.goto (-22), 3) := by decide +kernel
theorem dX7_digest_147 : decode cX7_digest 147 = .ok (.iconst 0, 1) := by decide +kernel
theorem dX7_digest_148 : decode cX7_digest 148 = .ok (.istore_n 1, 1) := by decide +kernel
theorem dX7_digest_149 : decode cX7_digest 149 = .ok (.iload_n 1, 1) := by decide +kernel
theorem dX7_digest_150 : decode cX7_digest 150 = .ok (.bipush 10, 2) := by decide +kernel
theorem dX7_digest_152 : decode cX7_digest 152 = .ok (.if_icmp .ge 19, 3) := by decide +kernel
theorem dX7_digest_155 : decode cX7_digest 155 = .ok (.aload_n 0, 1) := by decide +kernel
theorem dX7_digest_156 : decode cX7_digest 156 = .ok (.aload_n 0, 1) := by decide +kernel
theorem dX7_digest_157 : decode cX7_digest 157 = .ok (.iload_n 1, 1) := by decide +kernel
theorem dX7_digest_158 : decode cX7_digest 158 = .ok (.invokevirtual 266, 3) := by decide +kernel
theorem dX7_digest_161 : decode cX7_digest 161 = .ok (.i2l, 1) := by decide +kernel
theorem dX7_digest_162 : decode cX7_digest 162 = .ok (.invokevirtual 275, 3) := by decide +kernel
theorem dX7_digest_165 : decode cX7_digest 165 = .ok (.iinc 1 1, 3) := by decide +kernel
theorem dX7_digest_168 : decode cX7_digest 168 = .ok (.goto (-19), 3) := by decide +kernel
theorem dX7_digest_171 : decode cX7_digest 171 = .ok (.aload_n 0, 1) := by decide +kernel
theorem dX7_digest_172 : decode cX7_digest 172 = .ok (.getfield 271, 3) := by decide +kernel
theorem dX7_digest_175 : decode cX7_digest 175 = .ok (.lreturn, 1) := by decide +kernel
