theorem dX0_init_0 : decode cX0_init 0 = .ok (.aload_n 0, 1) := by decide +kernel
theorem dX0_init_1 : decode cX0_init 1 = .ok (.invokespecial 3, 3) := by decide +kernel
theorem dX0_init_4 : decode cX0_init 4 = .ok (.aload_n 0, 1) := by decide +kernel
theorem dX0_init_5 : decode cX0_init 5 = .ok (.iconst 0, 1) := by decide +kernel
theorem dX0_init_6 : decode cX0_init 6 = .ok (.putfield 9, 3) := by decide +kernel
theorem dX0_init_9 : decode cX0_init 9 = .ok (.aload_n 0, 1) := by decide +kernel
theorem dX0_init_10 : decode cX0_init 10 = .ok (.iconst 0, 1) := by decide +kernel
theorem dX0_init_11 : decode cX0_init 11 = .ok (.putfield 15, 3) := by decide +kernel
theorem dX0_init_14 : decode cX0_init 14 = .ok (.aload_n 0, 1) := by decide +kernel
theorem dX0_init_15 : decode cX0_init 15 = .ok (.sipush 462, 3) := by decide +kernel
theorem dX0_init_18 : decode cX0_init 18 = .ok (.newarray .int, 2) := by decide +kernel
theorem dX0_init_20 : decode cX0_init 20 = .ok (.putfield 18, 3) := by decide +kernel
theorem dX0_init_23 : decode cX0_init 23 = .ok (.aload_n 0, 1) := by decide +kernel
theorem dX0_init_24 : decode cX0_init 24 = .ok (.sipush 462, 3) := by decide +kernel
theorem dX0_init_27 : decode cX0_init 27 = .ok (.newarray .int, 2) := by decide +kernel
theorem dX0_init_29 : decode cX0_init 29 = .ok (.putfield 22, 3) := by decide +kernel
theorem dX0_init_32 : decode cX0_init 32 = .ok (.aload_n 0, 1) := by decide +kernel
theorem dX0_init_33 : decode cX0_init 33 = .ok (.bipush 7, 2) := by decide +kernel
theorem dX0_init_35 : decode cX0_init 35 = .ok (.newarray .int, 2) := by decide +kernel
theorem dX0_init_37 : decode cX0_init 37 = .ok (.putfield 25, 3) := by decide +kernel
theorem dX0_init_40 : decode cX0_init 40 = .ok (.return_, 1) := by decide +kernel
theorem dX0_foldAll_0 : decode cX0_foldAll 0 = .ok (.iload_n 1, 1) := by decide +kernel
theorem dX0_foldAll_1 : decode cX0_foldAll 1 = .ok (.aload_n 0, 1) := by decide +kernel
theorem dX0_foldAll_2 : decode cX0_foldAll 2 = .ok (.getfield 9, 3) := by decide +kernel
theorem dX0_foldAll_5 : decode cX0_foldAll 5 = .ok (.if_icmp .eq 9, 3) := by decide +kernel
theorem dX0_foldAll_8 : decode cX0_foldAll 8 = .ok (.iload_n 1, 1) := by decide +kernel
theorem dX0_foldAll_9 : decode cX0_foldAll 9 = .ok (.bipush 7, 2) := by decide +kernel
theorem dX0_foldAll_11 : decode cX0_foldAll 11 = .ok (.if_icmp .le 4, 3) := by decide +kernel
theorem dX0_foldAll_14 : decode cX0_foldAll 14 = .ok (.return_, 1) := by decide +kernel
theorem dX0_foldAll_15 : decode cX0_foldAll 15 = .ok (.aload_n 0, 1) := by decide +kernel
theorem dX0_foldAll_16 : decode cX0_foldAll 16 = .ok (.iload_n 1, 1) := by decide +kernel
theorem dX0_foldAll_17 : decode cX0_foldAll 17 = .ok (.putfield 9, 3) := by decide +kernel
theorem dX0_foldAll_20 : decode cX0_foldAll 20 = .ok (.aload_n 0, 1) := by decide +kernel
theorem dX0_foldAll_21 : decode cX0_foldAll 21 = .ok (.iconst 0, 1) := by decide +kernel
theorem dX0_foldAll_22 : decode cX0_foldAll 22 = .ok (.putfield 15, 3) := by decide +kernel
theorem dX0_foldAll_25 : decode cX0_foldAll 25 = .ok (.iconst 0, 1) := by decide +kernel
theorem dX0_foldAll_26 : decode cX0_foldAll 26 = .ok (.istore_n 2, 1) := by decide +kernel
theorem dX0_foldAll_27 : decode cX0_foldAll 27 = .ok (.iload_n 2, 1) := by decide +kernel
theorem dX0_foldAll_28 : decode cX0_foldAll 28 = .ok (.bipush 7, 2) := by decide +kernel
theorem dX0_foldAll_30 : decode cX0_foldAll 30 = .ok (.if_icmp .ge 16, 3) := by decide +kernel
theorem dX0_foldAll_33 : decode cX0_foldAll 33 = .ok (.aload_n 0, 1) := by decide +kernel
theorem dX0_foldAll_34 : decode cX0_foldAll 34 = .ok (.getfield 25, 3) := by decide +kernel
theorem dX0_foldAll_37 : decode cX0_foldAll 37 = .ok (.iload_n 2, 1) := by decide +kernel
theorem dX0_foldAll_38 : decode cX0_foldAll 38 = .ok (.iconst (-1), 1) := by decide +kernel
theorem dX0_foldAll_39 : decode cX0_foldAll 39 = .ok (.iastore, 1) := by decide +kernel
theorem dX0_foldAll_40 : decode cX0_foldAll 40 = .ok (.iinc 2 1, 3) := by decide +kernel
theorem dX0_foldAll_43 : decode cX0_foldAll 43 = .ok (.goto (-16), 3) := by decide +kernel
theorem dX0_foldAll_46 : decode cX0_foldAll 46 = .ok (.aload_n 0, 1) := by decide +kernel
theorem dX0_foldAll_47 : decode cX0_foldAll 47 = .ok (.iconst 0, 1) := by decide +kernel
theorem dX0_foldAll_48 : decode cX0_foldAll 48 = .ok (.iconst 0, 1) := by decide +kernel
theorem dX0_foldAll_49 : decode cX0_foldAll 49 = .ok (.invokestatic 28, 3) := by decide +kernel
theorem dX0_foldAll_52 : decode cX0_foldAll 52 = .ok (.return_, 1) := by decide +kernel
theorem dX0_leafAt_0 : decode cX0_leafAt 0 = .ok (.iload_n 1, 1) := by decide +kernel
theorem dX0_leafAt_1 : decode cX0_leafAt 1 = .ok (.ifCond .lt 23, 3) := by decide +kernel
theorem dX0_leafAt_4 : decode cX0_leafAt 4 = .ok (.iload_n 1, 1) := by decide +kernel
theorem dX0_leafAt_5 : decode cX0_leafAt 5 = .ok (.aload_n 0, 1) := by decide +kernel
theorem dX0_leafAt_6 : decode cX0_leafAt 6 = .ok (.getfield 15, 3) := by decide +kernel
theorem dX0_leafAt_9 : decode cX0_leafAt 9 = .ok (.if_icmp .ge 15, 3) := by decide +kernel
theorem dX0_leafAt_12 : decode cX0_leafAt 12 = .ok (.iload_n 2, 1) := by decide +kernel
theorem dX0_leafAt_13 : decode cX0_leafAt 13 = .ok (.ifCond .lt 11, 3) := by decide +kernel
theorem dX0_leafAt_16 : decode cX0_leafAt 16 = .ok (.iload_n 2, 1) := by decide +kernel
theorem dX0_leafAt_17 : decode cX0_leafAt 17 = .ok (.aload_n 0, 1) := by decide +kernel
theorem dX0_leafAt_18 : decode cX0_leafAt 18 = .ok (.getfield 9, 3) := by decide +kernel
theorem dX0_leafAt_21 : decode cX0_leafAt 21 = .ok (.if_icmp .lt 5, 3) := by decide +kernel
theorem dX0_leafAt_24 : decode cX0_leafAt 24 = .ok (.iconst (-1), 1) := by decide +kernel
theorem dX0_leafAt_25 : decode cX0_leafAt 25 = .ok (.ireturn, 1) := by decide +kernel
theorem dX0_leafAt_26 : decode cX0_leafAt 26 = .ok (.aload_n 0, 1) := by decide +kernel
theorem dX0_leafAt_27 : decode cX0_leafAt 27 = .ok (.getfield 18, 3) := by decide +kernel
theorem dX0_leafAt_30 : decode cX0_leafAt 30 = .ok (.iload_n 1, 1) := by decide +kernel
theorem dX0_leafAt_31 : decode cX0_leafAt 31 = .ok (.iaload, 1) := by decide +kernel
theorem dX0_leafAt_32 : decode cX0_leafAt 32 = .ok (.iload_n 2, 1) := by decide +kernel
theorem dX0_leafAt_33 : decode cX0_leafAt 33 = .ok (.invokestatic 32, 3) := by decide +kernel
theorem dX0_leafAt_36 : decode cX0_leafAt 36 = .ok (.ireturn, 1) := by decide +kernel
theorem dX0_placeOf_0 : decode cX0_placeOf 0 = .ok (.iload_n 1, 1) := by decide +kernel
theorem dX0_placeOf_1 : decode cX0_placeOf 1 = .ok (.ifCond .lt 23, 3) := by decide +kernel
theorem dX0_placeOf_4 : decode cX0_placeOf 4 = .ok (.iload_n 1, 1) := by decide +kernel
theorem dX0_placeOf_5 : decode cX0_placeOf 5 = .ok (.aload_n 0, 1) := by decide +kernel
theorem dX0_placeOf_6 : decode cX0_placeOf 6 = .ok (.getfield 15, 3) := by decide +kernel
theorem dX0_placeOf_9 : decode cX0_placeOf 9 = .ok (.if_icmp .ge 15, 3) := by decide +kernel
theorem dX0_placeOf_12 : decode cX0_placeOf 12 = .ok (.iload_n 2, 1) := by decide +kernel
theorem dX0_placeOf_13 : decode cX0_placeOf 13 = .ok (.ifCond .lt 11, 3) := by decide +kernel
theorem dX0_placeOf_16 : decode cX0_placeOf 16 = .ok (.iload_n 2, 1) := by decide +kernel
theorem dX0_placeOf_17 : decode cX0_placeOf 17 = .ok (.aload_n 0, 1) := by decide +kernel
theorem dX0_placeOf_18 : decode cX0_placeOf 18 = .ok (.getfield 9, 3) := by decide +kernel
theorem dX0_placeOf_21 : decode cX0_placeOf 21 = .ok (.if_icmp .lt 5, 3) := by decide +kernel
theorem dX0_placeOf_24 : decode cX0_placeOf 24 = .ok (.iconst (-1), 1) := by decide +kernel
theorem dX0_placeOf_25 : decode cX0_placeOf 25 = .ok (.ireturn, 1) := by decide +kernel
theorem dX0_placeOf_26 : decode cX0_placeOf 26 = .ok (.aload_n 0, 1) := by decide +kernel
theorem dX0_placeOf_27 : decode cX0_placeOf 27 = .ok (.getfield 22, 3) := by decide +kernel
theorem dX0_placeOf_30 : decode cX0_placeOf 30 = .ok (.iload_n 1, 1) := by decide +kernel
theorem dX0_placeOf_31 : decode cX0_placeOf 31 = .ok (.iaload, 1) := by decide +kernel
theorem dX0_placeOf_32 : decode cX0_placeOf 32 = .ok (.iconst 3, 1) := by decide +kernel
theorem dX0_placeOf_33 : decode cX0_placeOf 33 = .ok (.iload_n 2, 1) := by decide +kernel
theorem dX0_placeOf_34 : decode cX0_placeOf 34 = .ok (.imul, 1) := by decide +kernel
theorem dX0_placeOf_35 : decode cX0_placeOf 35 = .ok (.ishr, 1) := by decide +kernel
theorem dX0_placeOf_36 : decode cX0_placeOf 36 = .ok (.bipush 7, 2) := by decide +kernel
theorem dX0_placeOf_38 : decode cX0_placeOf 38 = .ok (.iand, 1) := by decide +kernel
theorem dX0_placeOf_39 : decode cX0_placeOf 39 = .ok (.ireturn, 1) := by decide +kernel
theorem dX0_afterMove_0 : decode cX0_afterMove 0 = .ok (.aload_n 0, 1) := by decide +kernel
theorem dX0_afterMove_1 : decode cX0_afterMove 1 = .ok (.iload_n 1, 1) := by decide +kernel
theorem dX0_afterMove_2 : decode cX0_afterMove 2 = .ok (.iload_n 2, 1) := by decide +kernel
theorem dX0_afterMove_3 : decode cX0_afterMove 3 = .ok (.invokevirtual 36, 3) := by decide +kernel
theorem dX0_afterMove_6 : decode cX0_afterMove 6 = .ok (.istore 4, 2) := by decide +kernel
theorem dX0_afterMove_8 : decode cX0_afterMove 8 = .ok (.iload 4, 2) := by decide +kernel
theorem dX0_afterMove_10 : decode cX0_afterMove 10 = .ok (.iconst (-1), 1) := by decide +kernel
theorem dX0_afterMove_11 : decode cX0_afterMove 11 = .ok (.if_icmp .eq 15, 3) := by decide +kernel
theorem dX0_afterMove_14 : decode cX0_afterMove 14 = .ok (.iload_n 3, 1) := by decide +kernel
theorem dX0_afterMove_15 : decode cX0_afterMove 15 = .ok (.ifCond .lt 11, 3) := by decide +kernel
theorem dX0_afterMove_18 : decode cX0_afterMove 18 = .ok (.iload_n 3, 1) := by decide +kernel
theorem dX0_afterMove_19 : decode cX0_afterMove 19 = .ok (.aload_n 0, 1) := by decide +kernel
theorem dX0_afterMove_20 : decode cX0_afterMove 20 = .ok (.getfield 9, 3) := by decide +kernel
theorem dX0_afterMove_23 : decode cX0_afterMove 23 = .ok (.if_icmp .lt 5, 3) := by decide +kernel
theorem dX0_afterMove_26 : decode cX0_afterMove 26 = .ok (.iconst (-1), 1) := by decide +kernel
theorem dX0_afterMove_27 : decode cX0_afterMove 27 = .ok (.ireturn, 1) := by decide +kernel
theorem dX0_afterMove_28 : decode cX0_afterMove 28 = .ok (.aload_n 0, 1) := by decide +kernel
theorem dX0_afterMove_29 : decode cX0_afterMove 29 = .ok (.aload_n 0, 1) := by decide +kernel
theorem dX0_afterMove_30 : decode cX0_afterMove 30 = .ok (.getfield 18, 3) := by decide +kernel
theorem dX0_afterMove_33 : decode cX0_afterMove 33 = .ok (.iload_n 1, 1) := by decide +kernel
theorem dX0_afterMove_34 : decode cX0_afterMove 34 = .ok (.iaload, 1) := by decide +kernel
theorem dX0_afterMove_35 : decode cX0_afterMove 35 = .ok (.iload 4, 2) := by decide +kernel
theorem dX0_afterMove_37 : decode cX0_afterMove 37 = .ok (.invokestatic 39, 3) := by decide +kernel
theorem dX0_afterMove_40 : decode cX0_afterMove 40 = .ok (.iload_n 2, 1) := by decide +kernel
theorem dX0_afterMove_41 : decode cX0_afterMove 41 = .ok (.iload_n 3, 1) := by decide +kernel
theorem dX0_afterMove_42 : decode cX0_afterMove 42 = .ok (.invokestatic 42, 3) := by decide +kernel
theorem dX0_afterMove_45 : decode cX0_afterMove 45 = .ok (.invokevirtual 46, 3) := by decide +kernel
theorem dX0_afterMove_48 : decode cX0_afterMove 48 = .ok (.ireturn, 1) := by decide +kernel
theorem dX0_afterTurn_0 : decode cX0_afterTurn 0 = .ok (.iconst 0, 1) := by decide +kernel
theorem dX0_afterTurn_1 : decode cX0_afterTurn 1 = .ok (.istore_n 2, 1) := by decide +kernel
theorem dX0_afterTurn_2 : decode cX0_afterTurn 2 = .ok (.iconst 0, 1) := by decide +kernel
theorem dX0_afterTurn_3 : decode cX0_afterTurn 3 = .ok (.istore_n 3, 1) := by decide +kernel
theorem dX0_afterTurn_4 : decode cX0_afterTurn 4 = .ok (.iload_n 3, 1) := by decide +kernel
theorem dX0_afterTurn_5 : decode cX0_afterTurn 5 = .ok (.aload_n 0, 1) := by decide +kernel
theorem dX0_afterTurn_6 : decode cX0_afterTurn 6 = .ok (.getfield 9, 3) := by decide +kernel
theorem dX0_afterTurn_9 : decode cX0_afterTurn 9 = .ok (.if_icmp .ge 30, 3) := by decide +kernel
theorem dX0_afterTurn_12 : decode cX0_afterTurn 12 = .ok (.iload_n 2, 1) := by decide +kernel
theorem dX0_afterTurn_13 : decode cX0_afterTurn 13 = .ok (.aload_n 0, 1) := by decide +kernel
theorem dX0_afterTurn_14 : decode cX0_afterTurn 14 = .ok (.iload_n 1, 1) := by decide +kernel
theorem dX0_afterTurn_15 : decode cX0_afterTurn 15 = .ok (.aload_n 0, 1) := by decide +kernel
theorem dX0_afterTurn_16 : decode cX0_afterTurn 16 = .ok (.getfield 9, 3) := by decide +kernel
theorem dX0_afterTurn_19 : decode cX0_afterTurn 19 = .ok (.iconst 1, 1) := by decide +kernel
theorem dX0_afterTurn_20 : decode cX0_afterTurn 20 = .ok (.isub, 1) := by decide +kernel
theorem dX0_afterTurn_21 : decode cX0_afterTurn 21 = .ok (.iload_n 3, 1) := by decide +kernel
theorem dX0_afterTurn_22 : decode cX0_afterTurn 22 = .ok (.isub, 1) := by decide +kernel
theorem dX0_afterTurn_23 : decode cX0_afterTurn 23 = .ok (.invokevirtual 50, 3) := by decide +kernel
theorem dX0_afterTurn_26 : decode cX0_afterTurn 26 = .ok (.iload_n 3, 1) := by decide +kernel
theorem dX0_afterTurn_27 : decode cX0_afterTurn 27 = .ok (.invokestatic 53, 3) := by decide +kernel
theorem dX0_afterTurn_30 : decode cX0_afterTurn 30 = .ok (.ishl, 1) := by decide +kernel
theorem dX0_afterTurn_31 : decode cX0_afterTurn 31 = .ok (.ior, 1) := by decide +kernel
theorem dX0_afterTurn_32 : decode cX0_afterTurn 32 = .ok (.istore_n 2, 1) := by decide +kernel
theorem dX0_afterTurn_33 : decode cX0_afterTurn 33 = .ok (.iinc 3 1, 3) := by decide +kernel
theorem dX0_afterTurn_36 : decode cX0_afterTurn 36 = .ok (.goto (-32), 3) := by decide +kernel
theorem dX0_afterTurn_39 : decode cX0_afterTurn 39 = .ok (.aload_n 0, 1) := by decide +kernel
theorem dX0_afterTurn_40 : decode cX0_afterTurn 40 = .ok (.iload_n 2, 1) := by decide +kernel
theorem dX0_afterTurn_41 : decode cX0_afterTurn 41 = .ok (.invokevirtual 46, 3) := by decide +kernel
theorem dX0_afterTurn_44 : decode cX0_afterTurn 44 = .ok (.ireturn, 1) := by decide +kernel
theorem dX0_addBelow_0 : decode cX0_addBelow 0 = .ok (.iload_n 1, 1) := by decide +kernel
theorem dX0_addBelow_1 : decode cX0_addBelow 1 = .ok (.aload_n 0, 1) := by decide +kernel
theorem dX0_addBelow_2 : decode cX0_addBelow 2 = .ok (.getfield 9, 3) := by decide +kernel
theorem dX0_addBelow_5 : decode cX0_addBelow 5 = .ok (.if_icmp .lt 9, 3) := by decide +kernel
theorem dX0_addBelow_8 : decode cX0_addBelow 8 = .ok (.aload_n 0, 1) := by decide +kernel
theorem dX0_addBelow_9 : decode cX0_addBelow 9 = .ok (.iload_n 2, 1) := by decide +kernel
theorem dX0_addBelow_10 : decode cX0_addBelow 10 = .ok (.invokevirtual 56, 3) := by decide +kernel
theorem dX0_addBelow_13 : decode cX0_addBelow 13 = .ok (.return_, 1) := by decide +kernel
theorem dX0_addBelow_14 : decode cX0_addBelow 14 = .ok (.iconst 0, 1) := by decide +kernel
theorem dX0_addBelow_15 : decode cX0_addBelow 15 = .ok (.istore_n 3, 1) := by decide +kernel
theorem dX0_addBelow_16 : decode cX0_addBelow 16 = .ok (.iload_n 3, 1) := by decide +kernel
theorem dX0_addBelow_17 : decode cX0_addBelow 17 = .ok (.aload_n 0, 1) := by decide +kernel
theorem dX0_addBelow_18 : decode cX0_addBelow 18 = .ok (.getfield 9, 3) := by decide +kernel
theorem dX0_addBelow_21 : decode cX0_addBelow 21 = .ok (.if_icmp .ge 49, 3) := by decide +kernel
theorem dX0_addBelow_24 : decode cX0_addBelow 24 = .ok (.aload_n 0, 1) := by decide +kernel
theorem dX0_addBelow_25 : decode cX0_addBelow 25 = .ok (.iload_n 3, 1) := by decide +kernel
theorem dX0_addBelow_26 : decode cX0_addBelow 26 = .ok (.invokevirtual 60, 3) := by decide +kernel
theorem dX0_addBelow_29 : decode cX0_addBelow 29 = .ok (.ifCond .ne 6, 3) := by decide +kernel
theorem dX0_addBelow_32 : decode cX0_addBelow 32 = .ok (.goto 32, 3) := by decide +kernel
theorem dX0_addBelow_35 : decode cX0_addBelow 35 = .ok (.aload_n 0, 1) := by decide +kernel
theorem dX0_addBelow_36 : decode cX0_addBelow 36 = .ok (.getfield 25, 3) := by decide +kernel
theorem dX0_addBelow_39 : decode cX0_addBelow 39 = .ok (.iload_n 3, 1) := by decide +kernel
theorem dX0_addBelow_40 : decode cX0_addBelow 40 = .ok (.iload_n 1, 1) := by decide +kernel
theorem dX0_addBelow_41 : decode cX0_addBelow 41 = .ok (.iastore, 1) := by decide +kernel
theorem dX0_addBelow_42 : decode cX0_addBelow 42 = .ok (.aload_n 0, 1) := by decide +kernel
theorem dX0_addBelow_43 : decode cX0_addBelow 43 = .ok (.iload_n 1, 1) := by decide +kernel
theorem dX0_addBelow_44 : decode cX0_addBelow 44 = .ok (.iconst 1, 1) := by decide +kernel
theorem dX0_addBelow_45 : decode cX0_addBelow 45 = .ok (.iadd, 1) := by decide +kernel
theorem dX0_addBelow_46 : decode cX0_addBelow 46 = .ok (.iload_n 2, 1) := by decide +kernel
theorem dX0_addBelow_47 : decode cX0_addBelow 47 = .ok (.iload_n 3, 1) := by decide +kernel
theorem dX0_addBelow_48 : decode cX0_addBelow 48 = .ok (.iload_n 1, 1) := by decide +kernel
theorem dX0_addBelow_49 : decode cX0_addBelow 49 = .ok (.invokestatic 53, 3) := by decide +kernel
theorem dX0_addBelow_52 : decode cX0_addBelow 52 = .ok (.ishl, 1) := by decide +kernel
theorem dX0_addBelow_53 : decode cX0_addBelow 53 = .ok (.ior, 1) := by decide +kernel
theorem dX0_addBelow_54 : decode cX0_addBelow 54 = .ok (.invokestatic 28, 3) := by decide +kernel
theorem dX0_addBelow_57 : decode cX0_addBelow 57 = .ok (.aload_n 0, 1) := by decide +kernel
theorem dX0_addBelow_58 : decode cX0_addBelow 58 = .ok (.getfield 25, 3) := by decide +kernel
theorem dX0_addBelow_61 : decode cX0_addBelow 61 = .ok (.iload_n 3, 1) := by decide +kernel
theorem dX0_addBelow_62 : decode cX0_addBelow 62 = .ok (.iconst (-1), 1) := by decide +kernel
theorem dX0_addBelow_63 : decode cX0_addBelow 63 = .ok (.iastore, 1) := by decide +kernel
theorem dX0_addBelow_64 : decode cX0_addBelow 64 = .ok (.iinc 3 1, 3) := by decide +kernel
theorem dX0_addBelow_67 : decode cX0_addBelow 67 = .ok (.goto (-51), 3) := by decide +kernel
theorem dX0_addBelow_70 : decode cX0_addBelow 70 = .ok (.return_, 1) := by decide +kernel
theorem dX0_canComeNext_0 : decode cX0_canComeNext 0 = .ok (.aload_n 0, 1) := by decide +kernel
theorem dX0_canComeNext_1 : decode cX0_canComeNext 1 = .ok (.getfield 25, 3) := by decide +kernel
theorem dX0_canComeNext_4 : decode cX0_canComeNext 4 = .ok (.iload_n 1, 1) := by decide +kernel
theorem dX0_canComeNext_5 : decode cX0_canComeNext 5 = .ok (.iaload, 1) := by decide +kernel
theorem dX0_canComeNext_6 : decode cX0_canComeNext 6 = .ok (.iconst (-1), 1) := by decide +kernel
theorem dX0_canComeNext_7 : decode cX0_canComeNext 7 = .ok (.if_icmp .ne 25, 3) := by decide +kernel
theorem dX0_canComeNext_10 : decode cX0_canComeNext 10 = .ok (.aload_n 0, 1) := by decide +kernel
theorem dX0_canComeNext_11 : decode cX0_canComeNext 11 = .ok (.iload_n 1, 1) := by decide +kernel
theorem dX0_canComeNext_12 : decode cX0_canComeNext 12 = .ok (.iconst 0, 1) := by decide +kernel
theorem dX0_canComeNext_13 : decode cX0_canComeNext 13 = .ok (.invokevirtual 64, 3) := by decide +kernel
theorem dX0_canComeNext_16 : decode cX0_canComeNext 16 = .ok (.ifCond .ne 16, 3) := by decide +kernel
theorem dX0_canComeNext_19 : decode cX0_canComeNext 19 = .ok (.aload_n 0, 1) := by decide +kernel
theorem dX0_canComeNext_20 : decode cX0_canComeNext 20 = .ok (.iload_n 1, 1) := by decide +kernel
theorem dX0_canComeNext_21 : decode cX0_canComeNext 21 = .ok (.iconst 1, 1) := by decide +kernel
theorem dX0_canComeNext_22 : decode cX0_canComeNext 22 = .ok (.invokevirtual 64, 3) := by decide +kernel
theorem dX0_canComeNext_25 : decode cX0_canComeNext 25 = .ok (.ifCond .ne 7, 3) := by decide +kernel
theorem dX0_canComeNext_28 : decode cX0_canComeNext 28 = .ok (.iconst 1, 1) := by decide +kernel
theorem dX0_canComeNext_29 : decode cX0_canComeNext 29 = .ok (.goto 4, 3) := by decide +kernel
theorem dX0_canComeNext_32 : decode cX0_canComeNext 32 = .ok (.iconst 0, 1) := by decide +kernel
theorem dX0_canComeNext_33 : decode cX0_canComeNext 33 = .ok (.ireturn, 1) := by decide +kernel
theorem dX0_keep_0 : decode cX0_keep 0 = .ok (.aload_n 0, 1) := by decide +kernel
theorem dX0_keep_1 : decode cX0_keep 1 = .ok (.getfield 15, 3) := by decide +kernel
theorem dX0_keep_4 : decode cX0_keep 4 = .ok (.sipush 462, 3) := by decide +kernel
theorem dX0_keep_7 : decode cX0_keep 7 = .ok (.if_icmp .lt 4, 3) := by decide +kernel
theorem dX0_keep_10 : decode cX0_keep 10 = .ok (.return_, 1) := by decide +kernel
theorem dX0_keep_11 : decode cX0_keep 11 = .ok (.aload_n 0, 1) := by decide +kernel
theorem dX0_keep_12 : decode cX0_keep 12 = .ok (.getfield 18, 3) := by decide +kernel
theorem dX0_keep_15 : decode cX0_keep 15 = .ok (.aload_n 0, 1) := by decide +kernel
theorem dX0_keep_16 : decode cX0_keep 16 = .ok (.getfield 15, 3) := by decide +kernel
theorem dX0_keep_19 : decode cX0_keep 19 = .ok (.iload_n 1, 1) := by decide +kernel
theorem dX0_keep_20 : decode cX0_keep 20 = .ok (.iastore, 1) := by decide +kernel
theorem dX0_keep_21 : decode cX0_keep 21 = .ok (.iconst 0, 1) := by decide +kernel
theorem dX0_keep_22 : decode cX0_keep 22 = .ok (.istore_n 2, 1) := by decide +kernel
theorem dX0_keep_23 : decode cX0_keep 23 = .ok (.iconst 0, 1) := by decide +kernel
theorem dX0_keep_24 : decode cX0_keep 24 = .ok (.istore_n 3, 1) := by decide +kernel
theorem dX0_keep_25 : decode cX0_keep 25 = .ok (.iload_n 3, 1) := by decide +kernel
theorem dX0_keep_26 : decode cX0_keep 26 = .ok (.aload_n 0, 1) := by decide +kernel
theorem dX0_keep_27 : decode cX0_keep 27 = .ok (.getfield 9, 3) := by decide +kernel
theorem dX0_keep_30 : decode cX0_keep 30 = .ok (.if_icmp .ge 22, 3) := by decide +kernel
theorem dX0_keep_33 : decode cX0_keep 33 = .ok (.iload_n 2, 1) := by decide +kernel
theorem dX0_keep_34 : decode cX0_keep 34 = .ok (.aload_n 0, 1) := by decide +kernel
theorem dX0_keep_35 : decode cX0_keep 35 = .ok (.getfield 25, 3) := by decide +kernel
theorem dX0_keep_38 : decode cX0_keep 38 = .ok (.iload_n 3, 1) := by decide +kernel
theorem dX0_keep_39 : decode cX0_keep 39 = .ok (.iaload, 1) := by decide +kernel
theorem dX0_keep_40 : decode cX0_keep 40 = .ok (.iconst 3, 1) := by decide +kernel
theorem dX0_keep_41 : decode cX0_keep 41 = .ok (.iload_n 3, 1) := by decide +kernel
theorem dX0_keep_42 : decode cX0_keep 42 = .ok (.imul, 1) := by decide +kernel
theorem dX0_keep_43 : decode cX0_keep 43 = .ok (.ishl, 1) := by decide +kernel
theorem dX0_keep_44 : decode cX0_keep 44 = .ok (.ior, 1) := by decide +kernel
theorem dX0_keep_45 : decode cX0_keep 45 = .ok (.istore_n 2, 1) := by decide +kernel
theorem dX0_keep_46 : decode cX0_keep 46 = .ok (.iinc 3 1, 3) := by decide +kernel
theorem dX0_keep_49 : decode cX0_keep 49 = .ok (.goto (-24), 3) := by decide +kernel
theorem dX0_keep_52 : decode cX0_keep 52 = .ok (.aload_n 0, 1) := by decide +kernel
theorem dX0_keep_53 : decode cX0_keep 53 = .ok (.getfield 22, 3) := by decide +kernel
theorem dX0_keep_56 : decode cX0_keep 56 = .ok (.aload_n 0, 1) := by decide +kernel
theorem dX0_keep_57 : decode cX0_keep 57 = .ok (.getfield 15, 3) := by decide +kernel
theorem dX0_keep_60 : decode cX0_keep 60 = .ok (.iload_n 2, 1) := by decide +kernel
theorem dX0_keep_61 : decode cX0_keep 61 = .ok (.iastore, 1) := by decide +kernel
theorem dX0_keep_62 : decode cX0_keep 62 = .ok (.aload_n 0, 1) := by decide +kernel
theorem dX0_keep_63 : decode cX0_keep 63 = .ok (.dup, 1) := by decide +kernel
theorem dX0_keep_64 : decode cX0_keep 64 = .ok (.getfield 15, 3) := by decide +kernel
theorem dX0_keep_67 : decode cX0_keep 67 = .ok (.iconst 1, 1) := by decide +kernel
theorem dX0_keep_68 : decode cX0_keep 68 = .ok (.iadd, 1) := by decide +kernel
theorem dX0_keep_69 : decode cX0_keep 69 = .ok (.putfield 15, 3) := by decide +kernel
theorem dX0_keep_72 : decode cX0_keep 72 = .ok (.return_, 1) := by decide +kernel
theorem dX0_crossesAbove_0 : decode cX0_crossesAbove 0 = .ok (.aload_n 0, 1) := by decide +kernel
theorem dX0_crossesAbove_1 : decode cX0_crossesAbove 1 = .ok (.iload_n 1, 1) := by decide +kernel
theorem dX0_crossesAbove_2 : decode cX0_crossesAbove 2 = .ok (.iload_n 2, 1) := by decide +kernel
theorem dX0_crossesAbove_3 : decode cX0_crossesAbove 3 = .ok (.invokevirtual 68, 3) := by decide +kernel
theorem dX0_crossesAbove_6 : decode cX0_crossesAbove 6 = .ok (.istore_n 3, 1) := by decide +kernel
theorem dX0_crossesAbove_7 : decode cX0_crossesAbove 7 = .ok (.iload_n 3, 1) := by decide +kernel
theorem dX0_crossesAbove_8 : decode cX0_crossesAbove 8 = .ok (.iconst (-1), 1) := by decide +kernel
theorem dX0_crossesAbove_9 : decode cX0_crossesAbove 9 = .ok (.if_icmp .eq 13, 3) := by decide +kernel
theorem dX0_crossesAbove_12 : decode cX0_crossesAbove 12 = .ok (.aload_n 0, 1) := by decide +kernel
theorem dX0_crossesAbove_13 : decode cX0_crossesAbove 13 = .ok (.getfield 25, 3) := by decide +kernel
theorem dX0_crossesAbove_16 : decode cX0_crossesAbove 16 = .ok (.iload_n 3, 1) := by decide +kernel
theorem dX0_crossesAbove_17 : decode cX0_crossesAbove 17 = .ok (.iaload, 1) := by decide +kernel
theorem dX0_crossesAbove_18 : decode cX0_crossesAbove 18 = .ok (.iconst (-1), 1) := by decide +kernel
theorem dX0_crossesAbove_19 : decode cX0_crossesAbove 19 = .ok (.if_icmp .ne 5, 3) := by decide +kernel
theorem dX0_crossesAbove_22 : decode cX0_crossesAbove 22 = .ok (.iconst 0, 1) := by decide +kernel
theorem dX0_crossesAbove_23 : decode cX0_crossesAbove 23 = .ok (.ireturn, 1) := by decide +kernel
theorem dX0_crossesAbove_24 : decode cX0_crossesAbove 24 = .ok (.iconst 0, 1) := by decide +kernel
theorem dX0_crossesAbove_25 : decode cX0_crossesAbove 25 = .ok (.istore 4, 2) := by decide +kernel
theorem dX0_crossesAbove_27 : decode cX0_crossesAbove 27 = .ok (.iload 4, 2) := by decide +kernel
theorem dX0_crossesAbove_29 : decode cX0_crossesAbove 29 = .ok (.aload_n 0, 1) := by decide +kernel
theorem dX0_crossesAbove_30 : decode cX0_crossesAbove 30 = .ok (.getfield 9, 3) := by decide +kernel
theorem dX0_crossesAbove_33 : decode cX0_crossesAbove 33 = .ok (.if_icmp .ge 61, 3) := by decide +kernel
theorem dX0_crossesAbove_36 : decode cX0_crossesAbove 36 = .ok (.aload_n 0, 1) := by decide +kernel
theorem dX0_crossesAbove_37 : decode cX0_crossesAbove 37 = .ok (.getfield 25, 3) := by decide +kernel
theorem dX0_crossesAbove_40 : decode cX0_crossesAbove 40 = .ok (.iload 4, 2) := by decide +kernel
theorem dX0_crossesAbove_42 : decode cX0_crossesAbove 42 = .ok (.iaload, 1) := by decide +kernel
theorem dX0_crossesAbove_43 : decode cX0_crossesAbove 43 = .ok (.aload_n 0, 1) := by decide +kernel
theorem dX0_crossesAbove_44 : decode cX0_crossesAbove 44 = .ok (.getfield 25, 3) := by decide +kernel
theorem dX0_crossesAbove_47 : decode cX0_crossesAbove 47 = .ok (.iload_n 3, 1) := by decide +kernel
theorem dX0_crossesAbove_48 : decode cX0_crossesAbove 48 = .ok (.iaload, 1) := by decide +kernel
theorem dX0_crossesAbove_49 : decode cX0_crossesAbove 49 = .ok (.if_icmp .gt 6, 3) := by decide +kernel
theorem dX0_crossesAbove_52 : decode cX0_crossesAbove 52 = .ok (.goto 36, 3) := by decide +kernel
theorem dX0_crossesAbove_55 : decode cX0_crossesAbove 55 = .ok (.aload_n 0, 1) := by decide +kernel
theorem dX0_crossesAbove_56 : decode cX0_crossesAbove 56 = .ok (.iload 4, 2) := by decide +kernel
theorem dX0_crossesAbove_58 : decode cX0_crossesAbove 58 = .ok (.iload_n 2, 1) := by decide +kernel
theorem dX0_crossesAbove_59 : decode cX0_crossesAbove 59 = .ok (.invokevirtual 68, 3) := by decide +kernel
theorem dX0_crossesAbove_62 : decode cX0_crossesAbove 62 = .ok (.istore 5, 2) := by decide +kernel
theorem dX0_crossesAbove_64 : decode cX0_crossesAbove 64 = .ok (.iload 5, 2) := by decide +kernel
theorem dX0_crossesAbove_66 : decode cX0_crossesAbove 66 = .ok (.iconst (-1), 1) := by decide +kernel
theorem dX0_crossesAbove_67 : decode cX0_crossesAbove 67 = .ok (.if_icmp .eq 21, 3) := by decide +kernel
theorem dX0_crossesAbove_70 : decode cX0_crossesAbove 70 = .ok (.aload_n 0, 1) := by decide +kernel
theorem dX0_crossesAbove_71 : decode cX0_crossesAbove 71 = .ok (.getfield 25, 3) := by decide +kernel
theorem dX0_crossesAbove_74 : decode cX0_crossesAbove 74 = .ok (.iload 5, 2) := by decide +kernel
theorem dX0_crossesAbove_76 : decode cX0_crossesAbove 76 = .ok (.iaload, 1) := by decide +kernel
theorem dX0_crossesAbove_77 : decode cX0_crossesAbove 77 = .ok (.aload_n 0, 1) := by decide +kernel
theorem dX0_crossesAbove_78 : decode cX0_crossesAbove 78 = .ok (.getfield 25, 3) := by decide +kernel
theorem dX0_crossesAbove_81 : decode cX0_crossesAbove 81 = .ok (.iload_n 3, 1) := by decide +kernel
theorem dX0_crossesAbove_82 : decode cX0_crossesAbove 82 = .ok (.iaload, 1) := by decide +kernel
theorem dX0_crossesAbove_83 : decode cX0_crossesAbove 83 = .ok (.if_icmp .ge 5, 3) := by decide +kernel
theorem dX0_crossesAbove_86 : decode cX0_crossesAbove 86 = .ok (.iconst 1, 1) := by decide +kernel
theorem dX0_crossesAbove_87 : decode cX0_crossesAbove 87 = .ok (.ireturn, 1) := by decide +kernel
theorem dX0_crossesAbove_88 : decode cX0_crossesAbove 88 = .ok (.iinc 4 1, 3) := by decide +kernel
theorem dX0_crossesAbove_91 : decode cX0_crossesAbove 91 = .ok (.goto (-64), 3) := by decide +kernel
theorem dX0_crossesAbove_94 : decode cX0_crossesAbove 94 = .ok (.iconst 0, 1) := by decide +kernel
theorem dX0_crossesAbove_95 : decode cX0_crossesAbove 95 = .ok (.ireturn, 1) := by decide +kernel
theorem dX0_mateOf_0 : decode cX0_mateOf 0 = .ok (.iload_n 1, 1) := by decide +kernel
theorem dX0_mateOf_1 : decode cX0_mateOf 1 = .ok (.iconst 2, 1) := by decide +kernel
theorem dX0_mateOf_2 : decode cX0_mateOf 2 = .ok (.irem, 1) := by decide +kernel
theorem dX0_mateOf_3 : decode cX0_mateOf 3 = .ok (.iload_n 2, 1) := by decide +kernel
theorem dX0_mateOf_4 : decode cX0_mateOf 4 = .ok (.if_icmp .ne 9, 3) := by decide +kernel
theorem dX0_mateOf_7 : decode cX0_mateOf 7 = .ok (.iload_n 1, 1) := by decide +kernel
theorem dX0_mateOf_8 : decode cX0_mateOf 8 = .ok (.iconst 1, 1) := by decide +kernel
theorem dX0_mateOf_9 : decode cX0_mateOf 9 = .ok (.iadd, 1) := by decide +kernel
theorem dX0_mateOf_10 : decode cX0_mateOf 10 = .ok (.goto 6, 3) := by decide +kernel
theorem dX0_mateOf_13 : decode cX0_mateOf 13 = .ok (.iload_n 1, 1) := by decide +kernel
theorem dX0_mateOf_14 : decode cX0_mateOf 14 = .ok (.iconst 1, 1) := by decide +kernel
theorem dX0_mateOf_15 : decode cX0_mateOf 15 = .ok (.isub, 1) := by decide +kernel
theorem dX0_mateOf_16 : decode cX0_mateOf 16 = .ok (.istore_n 3, 1) := by decide +kernel
theorem dX0_mateOf_17 : decode cX0_mateOf 17 = .ok (.iload_n 3, 1) := by decide +kernel
theorem dX0_mateOf_18 : decode cX0_mateOf 18 = .ok (.ifCond .lt 15, 3) := by decide +kernel
theorem dX0_mateOf_21 : decode cX0_mateOf 21 = .ok (.iload_n 3, 1) := by decide +kernel
theorem dX0_mateOf_22 : decode cX0_mateOf 22 = .ok (.aload_n 0, 1) := by decide +kernel
theorem dX0_mateOf_23 : decode cX0_mateOf 23 = .ok (.getfield 9, 3) := by decide +kernel
theorem dX0_mateOf_26 : decode cX0_mateOf 26 = .ok (.if_icmp .ge 7, 3) := by decide +kernel
theorem dX0_mateOf_29 : decode cX0_mateOf 29 = .ok (.iload_n 3, 1) := by decide +kernel
theorem dX0_mateOf_30 : decode cX0_mateOf 30 = .ok (.goto 4, 3) := by decide +kernel
theorem dX0_mateOf_33 : decode cX0_mateOf 33 = .ok (.iconst (-1), 1) := by decide +kernel
theorem dX0_mateOf_34 : decode cX0_mateOf 34 = .ok (.ireturn, 1) := by decide +kernel
theorem dX0_find_0 : decode cX0_find 0 = .ok (.iconst 0, 1) := by decide +kernel
theorem dX0_find_1 : decode cX0_find 1 = .ok (.istore_n 2, 1) := by decide +kernel
theorem dX0_find_2 : decode cX0_find 2 = .ok (.sipush 256, 3) := by decide +kernel
theorem dX0_find_5 : decode cX0_find 5 = .ok (.istore_n 3, 1) := by decide +kernel
theorem dX0_find_6 : decode cX0_find 6 = .ok (.iload_n 3, 1) := by decide +kernel
theorem dX0_find_7 : decode cX0_find 7 = .ok (.ifCond .le 36, 3) := by decide +kernel
theorem dX0_find_10 : decode cX0_find 10 = .ok (.iload_n 2, 1) := by decide +kernel
theorem dX0_find_11 : decode cX0_find 11 = .ok (.iload_n 3, 1) := by decide +kernel
theorem dX0_find_12 : decode cX0_find 12 = .ok (.iadd, 1) := by decide +kernel
theorem dX0_find_13 : decode cX0_find 13 = .ok (.aload_n 0, 1) := by decide +kernel
theorem dX0_find_14 : decode cX0_find 14 = .ok (.getfield 15, 3) := by decide +kernel
theorem dX0_find_17 : decode cX0_find 17 = .ok (.if_icmp .ge 19, 3) := by decide +kernel
theorem dX0_find_20 : decode cX0_find 20 = .ok (.aload_n 0, 1) := by decide +kernel
theorem dX0_find_21 : decode cX0_find 21 = .ok (.getfield 18, 3) := by decide +kernel
theorem dX0_find_24 : decode cX0_find 24 = .ok (.iload_n 2, 1) := by decide +kernel
theorem dX0_find_25 : decode cX0_find 25 = .ok (.iload_n 3, 1) := by decide +kernel
theorem dX0_find_26 : decode cX0_find 26 = .ok (.iadd, 1) := by decide +kernel
theorem dX0_find_27 : decode cX0_find 27 = .ok (.iaload, 1) := by decide +kernel
theorem dX0_find_28 : decode cX0_find 28 = .ok (.iload_n 1, 1) := by decide +kernel
theorem dX0_find_29 : decode cX0_find 29 = .ok (.if_icmp .gt 7, 3) := by decide +kernel
theorem dX0_find_32 : decode cX0_find 32 = .ok (.iload_n 2, 1) := by decide +kernel
theorem dX0_find_33 : decode cX0_find 33 = .ok (.iload_n 3, 1) := by decide +kernel
theorem dX0_find_34 : decode cX0_find 34 = .ok (.iadd, 1) := by decide +kernel
theorem dX0_find_35 : decode cX0_find 35 = .ok (.istore_n 2, 1) := by decide +kernel
theorem dX0_find_36 : decode cX0_find 36 = .ok (.iload_n 3, 1) := by decide +kernel
theorem dX0_find_37 : decode cX0_find 37 = .ok (.iconst 2, 1) := by decide +kernel
theorem dX0_find_38 : decode cX0_find 38 = .ok (.idiv, 1) := by decide +kernel
theorem dX0_find_39 : decode cX0_find 39 = .ok (.istore_n 3, 1) := by decide +kernel
theorem dX0_find_40 : decode cX0_find 40 = .ok (.goto (-34), 3) := by decide +kernel
theorem dX0_find_43 : decode cX0_find 43 = .ok (.iload_n 2, 1) := by decide +kernel
theorem dX0_find_44 : decode cX0_find 44 = .ok (.aload_n 0, 1) := by decide +kernel
theorem dX0_find_45 : decode cX0_find 45 = .ok (.getfield 15, 3) := by decide +kernel
theorem dX0_find_48 : decode cX0_find 48 = .ok (.if_icmp .ge 17, 3) := by decide +kernel
theorem dX0_find_51 : decode cX0_find 51 = .ok (.aload_n 0, 1) := by decide +kernel
theorem dX0_find_52 : decode cX0_find 52 = .ok (.getfield 18, 3) := by decide +kernel
theorem dX0_find_55 : decode cX0_find 55 = .ok (.iload_n 2, 1) := by decide +kernel
theorem dX0_find_56 : decode cX0_find 56 = .ok (.iaload, 1) := by decide +kernel
theorem dX0_find_57 : decode cX0_find 57 = .ok (.iload_n 1, 1) := by decide +kernel
theorem dX0_find_58 : decode cX0_find 58 = .ok (.if_icmp .ne 7, 3) := by decide +kernel
theorem dX0_find_61 : decode cX0_find 61 = .ok (.iload_n 2, 1) := by decide +kernel
theorem dX0_find_62 : decode cX0_find 62 = .ok (.goto 4, 3) := by decide +kernel
theorem dX0_find_65 : decode cX0_find 65 = .ok (.iconst (-1), 1) := by decide +kernel
theorem dX0_find_66 : decode cX0_find 66 = .ok (.ireturn, 1) := by decide +kernel
theorem dX0_shiftOf_0 : decode cX0_shiftOf 0 = .ok (.iconst 3, 1) := by decide +kernel
theorem dX0_shiftOf_1 : decode cX0_shiftOf 1 = .ok (.bipush 6, 2) := by decide +kernel
theorem dX0_shiftOf_3 : decode cX0_shiftOf 3 = .ok (.iload_n 0, 1) := by decide +kernel
theorem dX0_shiftOf_4 : decode cX0_shiftOf 4 = .ok (.isub, 1) := by decide +kernel
theorem dX0_shiftOf_5 : decode cX0_shiftOf 5 = .ok (.imul, 1) := by decide +kernel
theorem dX0_shiftOf_6 : decode cX0_shiftOf 6 = .ok (.ireturn, 1) := by decide +kernel
theorem dX0_leafIn_0 : decode cX0_leafIn 0 = .ok (.iload_n 0, 1) := by decide +kernel
theorem dX0_leafIn_1 : decode cX0_leafIn 1 = .ok (.iload_n 1, 1) := by decide +kernel
theorem dX0_leafIn_2 : decode cX0_leafIn 2 = .ok (.invokestatic 53, 3) := by decide +kernel
theorem dX0_leafIn_5 : decode cX0_leafIn 5 = .ok (.ishr, 1) := by decide +kernel
theorem dX0_leafIn_6 : decode cX0_leafIn 6 = .ok (.bipush 7, 2) := by decide +kernel
theorem dX0_leafIn_8 : decode cX0_leafIn 8 = .ok (.iand, 1) := by decide +kernel
theorem dX0_leafIn_9 : decode cX0_leafIn 9 = .ok (.ireturn, 1) := by decide +kernel
theorem dX0_takeOut_0 : decode cX0_takeOut 0 = .ok (.iload_n 1, 1) := by decide +kernel
theorem dX0_takeOut_1 : decode cX0_takeOut 1 = .ok (.invokestatic 53, 3) := by decide +kernel
theorem dX0_takeOut_4 : decode cX0_takeOut 4 = .ok (.istore_n 2, 1) := by decide +kernel
theorem dX0_takeOut_5 : decode cX0_takeOut 5 = .ok (.iload_n 0, 1) := by decide +kernel
theorem dX0_takeOut_6 : decode cX0_takeOut 6 = .ok (.iconst 1, 1) := by decide +kernel
theorem dX0_takeOut_7 : decode cX0_takeOut 7 = .ok (.iload_n 2, 1) := by decide +kernel
theorem dX0_takeOut_8 : decode cX0_takeOut 8 = .ok (.ishl, 1) := by decide +kernel
theorem dX0_takeOut_9 : decode cX0_takeOut 9 = .ok (.iconst 1, 1) := by decide +kernel
theorem dX0_takeOut_10 : decode cX0_takeOut 10 = .ok (.isub, 1) := by decide +kernel
theorem dX0_takeOut_11 : decode cX0_takeOut 11 = .ok (.iand, 1) := by decide +kernel
theorem dX0_takeOut_12 : decode cX0_takeOut 12 = .ok (.istore_n 3, 1) := by decide +kernel
theorem dX0_takeOut_13 : decode cX0_takeOut 13 = .ok (.iload_n 0, 1) := by decide +kernel
theorem dX0_takeOut_14 : decode cX0_takeOut 14 = .ok (.iload_n 2, 1) := by decide +kernel
theorem dX0_takeOut_15 : decode cX0_takeOut 15 = .ok (.invokestatic 71, 3) := by decide +kernel
theorem dX0_takeOut_18 : decode cX0_takeOut 18 = .ok (.iload_n 3, 1) := by decide +kernel
theorem dX0_takeOut_19 : decode cX0_takeOut 19 = .ok (.iconst 3, 1) := by decide +kernel
theorem dX0_takeOut_20 : decode cX0_takeOut 20 = .ok (.ishl, 1) := by decide +kernel
theorem dX0_takeOut_21 : decode cX0_takeOut 21 = .ok (.ior, 1) := by decide +kernel
theorem dX0_takeOut_22 : decode cX0_takeOut 22 = .ok (.ireturn, 1) := by decide +kernel
theorem dX0_putIn_0 : decode cX0_putIn 0 = .ok (.iload_n 2, 1) := by decide +kernel
theorem dX0_putIn_1 : decode cX0_putIn 1 = .ok (.invokestatic 53, 3) := by decide +kernel
theorem dX0_putIn_4 : decode cX0_putIn 4 = .ok (.istore_n 3, 1) := by decide +kernel
theorem dX0_putIn_5 : decode cX0_putIn 5 = .ok (.iload_n 0, 1) := by decide +kernel
theorem dX0_putIn_6 : decode cX0_putIn 6 = .ok (.iconst 1, 1) := by decide +kernel
theorem dX0_putIn_7 : decode cX0_putIn 7 = .ok (.iload_n 3, 1) := by decide +kernel
theorem dX0_putIn_8 : decode cX0_putIn 8 = .ok (.iconst 3, 1) := by decide +kernel
theorem dX0_putIn_9 : decode cX0_putIn 9 = .ok (.iadd, 1) := by decide +kernel
theorem dX0_putIn_10 : decode cX0_putIn 10 = .ok (.ishl, 1) := by decide +kernel
theorem dX0_putIn_11 : decode cX0_putIn 11 = .ok (.iconst 1, 1) := by decide +kernel
theorem dX0_putIn_12 : decode cX0_putIn 12 = .ok (.isub, 1) := by decide +kernel
theorem dX0_putIn_13 : decode cX0_putIn 13 = .ok (.iand, 1) := by decide +kernel
theorem dX0_putIn_14 : decode cX0_putIn 14 = .ok (.istore 4, 2) := by decide +kernel
theorem dX0_putIn_16 : decode cX0_putIn 16 = .ok (.iload_n 0, 1) := by decide +kernel
theorem dX0_putIn_17 : decode cX0_putIn 17 = .ok (.iload_n 3, 1) := by decide +kernel
theorem dX0_putIn_18 : decode cX0_putIn 18 = .ok (.invokestatic 71, 3) := by decide +kernel
theorem dX0_putIn_21 : decode cX0_putIn 21 = .ok (.iload_n 1, 1) := by decide +kernel
theorem dX0_putIn_22 : decode cX0_putIn 22 = .ok (.iload_n 3, 1) := by decide +kernel
theorem dX0_putIn_23 : decode cX0_putIn 23 = .ok (.ishl, 1) := by decide +kernel
theorem dX0_putIn_24 : decode cX0_putIn 24 = .ok (.ior, 1) := by decide +kernel
theorem dX0_putIn_25 : decode cX0_putIn 25 = .ok (.iload 4, 2) := by decide +kernel
theorem dX0_putIn_27 : decode cX0_putIn 27 = .ok (.iconst 3, 1) := by decide +kernel
theorem dX0_putIn_28 : decode cX0_putIn 28 = .ok (.ishr, 1) := by decide +kernel
theorem dX0_putIn_29 : decode cX0_putIn 29 = .ok (.ior, 1) := by decide +kernel
theorem dX0_putIn_30 : decode cX0_putIn 30 = .ok (.ireturn, 1) := by decide +kernel
theorem dX0_upTo_0 : decode cX0_upTo 0 = .ok (.iload_n 0, 1) := by decide +kernel
theorem dX0_upTo_1 : decode cX0_upTo 1 = .ok (.iload_n 1, 1) := by decide +kernel
theorem dX0_upTo_2 : decode cX0_upTo 2 = .ok (.iconst 3, 1) := by decide +kernel
theorem dX0_upTo_3 : decode cX0_upTo 3 = .ok (.iadd, 1) := by decide +kernel
theorem dX0_upTo_4 : decode cX0_upTo 4 = .ok (.ishr, 1) := by decide +kernel
theorem dX0_upTo_5 : decode cX0_upTo 5 = .ok (.iload_n 1, 1) := by decide +kernel
theorem dX0_upTo_6 : decode cX0_upTo 6 = .ok (.iconst 3, 1) := by decide +kernel
theorem dX0_upTo_7 : decode cX0_upTo 7 = .ok (.iadd, 1) := by decide +kernel
theorem dX0_upTo_8 : decode cX0_upTo 8 = .ok (.ishl, 1) := by decide +kernel
theorem dX0_upTo_9 : decode cX0_upTo 9 = .ok (.ireturn, 1) := by decide +kernel
theorem dX1_init_0 : decode cX1_init 0 = .ok (.aload_n 0, 1) := by decide +kernel
theorem dX1_init_1 : decode cX1_init 1 = .ok (.invokespecial 3, 3) := by decide +kernel
theorem dX1_init_4 : decode cX1_init 4 = .ok (.aload_n 0, 1) := by decide +kernel
theorem dX1_init_5 : decode cX1_init 5 = .ok (.bipush 49, 2) := by decide +kernel
theorem dX1_init_7 : decode cX1_init 7 = .ok (.newarray .int, 2) := by decide +kernel
theorem dX1_init_9 : decode cX1_init 9 = .ok (.putfield 9, 3) := by decide +kernel
theorem dX1_init_12 : decode cX1_init 12 = .ok (.aload_n 0, 1) := by decide +kernel
theorem dX1_init_13 : decode cX1_init 13 = .ok (.aload_n 1, 1) := by decide +kernel
theorem dX1_init_14 : decode cX1_init 14 = .ok (.putfield 15, 3) := by decide +kernel
theorem dX1_init_17 : decode cX1_init 17 = .ok (.aload_n 0, 1) := by decide +kernel
theorem dX1_init_18 : decode cX1_init 18 = .ok (.aload_n 2, 1) := by decide +kernel
theorem dX1_init_19 : decode cX1_init 19 = .ok (.putfield 19, 3) := by decide +kernel
theorem dX1_init_22 : decode cX1_init 22 = .ok (.return_, 1) := by decide +kernel
theorem dX1_countPossible_0 : decode cX1_countPossible 0 = .ok (.iconst 0, 1) := by decide +kernel
theorem dX1_countPossible_1 : decode cX1_countPossible 1 = .ok (.istore_n 1, 1) := by decide +kernel
theorem dX1_countPossible_2 : decode cX1_countPossible 2 = .ok (.iconst 0, 1) := by decide +kernel
theorem dX1_countPossible_3 : decode cX1_countPossible 3 = .ok (.istore_n 2, 1) := by decide +kernel
theorem dX1_countPossible_4 : decode cX1_countPossible 4 = .ok (.iload_n 2, 1) := by decide +kernel
theorem dX1_countPossible_5 : decode cX1_countPossible 5 = .ok (.aload_n 0, 1) := by decide +kernel
theorem dX1_countPossible_6 : decode cX1_countPossible 6 = .ok (.getfield 15, 3) := by decide +kernel
theorem dX1_countPossible_9 : decode cX1_countPossible 9 = .ok (.getfield 23, 3) := by decide +kernel
theorem dX1_countPossible_12 : decode cX1_countPossible 12 = .ok (.if_icmp .ge 20, 3) := by decide +kernel
theorem dX1_countPossible_15 : decode cX1_countPossible 15 = .ok (.aload_n 0, 1) := by decide +kernel
theorem dX1_countPossible_16 : decode cX1_countPossible 16 = .ok (.iload_n 2, 1) := by decide +kernel
theorem dX1_countPossible_17 : decode cX1_countPossible 17 = .ok (.invokevirtual 29, 3) := by decide +kernel
theorem dX1_countPossible_20 : decode cX1_countPossible 20 = .ok (.ifCond .eq 6, 3) := by decide +kernel
theorem dX1_countPossible_23 : decode cX1_countPossible 23 = .ok (.iinc 1 1, 3) := by decide +kernel
theorem dX1_countPossible_26 : decode cX1_countPossible 26 = .ok (.iinc 2 1, 3) := by decide +kernel
theorem dX1_countPossible_29 : decode cX1_countPossible 29 = .ok (.goto (-25), 3) := by decide +kernel
theorem dX1_countPossible_32 : decode cX1_countPossible 32 = .ok (.iload_n 1, 1) := by decide +kernel
theorem dX1_countPossible_33 : decode cX1_countPossible 33 = .ok (.ireturn, 1) := by decide +kernel
theorem dX1_bestTry_0 : decode cX1_bestTry 0 = .ok (.aload_n 0, 1) := by decide +kernel
theorem dX1_bestTry_1 : decode cX1_bestTry 1 = .ok (.invokevirtual 33, 3) := by decide +kernel
theorem dX1_bestTry_4 : decode cX1_bestTry 4 = .ok (.istore_n 1, 1) := by decide +kernel
theorem dX1_bestTry_5 : decode cX1_bestTry 5 = .ok (.iconst (-1), 1) := by decide +kernel
theorem dX1_bestTry_6 : decode cX1_bestTry 6 = .ok (.istore_n 2, 1) := by decide +kernel
theorem dX1_bestTry_7 : decode cX1_bestTry 7 = .ok (.iload_n 1, 1) := by decide +kernel
theorem dX1_bestTry_8 : decode cX1_bestTry 8 = .ok (.istore_n 3, 1) := by decide +kernel
theorem dX1_bestTry_9 : decode cX1_bestTry 9 = .ok (.iconst 1, 1) := by decide +kernel
theorem dX1_bestTry_10 : decode cX1_bestTry 10 = .ok (.istore 4, 2) := by decide +kernel
theorem dX1_bestTry_12 : decode cX1_bestTry 12 = .ok (.iload 4, 2) := by decide +kernel
theorem dX1_bestTry_14 : decode cX1_bestTry 14 = .ok (.aload_n 0, 1) := by decide +kernel
theorem dX1_bestTry_15 : decode cX1_bestTry 15 = .ok (.getfield 15, 3) := by decide +kernel
theorem dX1_bestTry_18 : decode cX1_bestTry 18 = .ok (.getfield 37, 3) := by decide +kernel
theorem dX1_bestTry_21 : decode cX1_bestTry 21 = .ok (.if_icmp .gt 83, 3) := by decide +kernel
theorem dX1_bestTry_24 : decode cX1_bestTry 24 = .ok (.iconst 0, 1) := by decide +kernel
theorem dX1_bestTry_25 : decode cX1_bestTry 25 = .ok (.istore 5, 2) := by decide +kernel
theorem dX1_bestTry_27 : decode cX1_bestTry 27 = .ok (.iload 5, 2) := by decide +kernel
theorem dX1_bestTry_29 : decode cX1_bestTry 29 = .ok (.aload_n 0, 1) := by decide +kernel
theorem dX1_bestTry_30 : decode cX1_bestTry 30 = .ok (.getfield 15, 3) := by decide +kernel
theorem dX1_bestTry_33 : decode cX1_bestTry 33 = .ok (.getfield 37, 3) := by decide +kernel
theorem dX1_bestTry_36 : decode cX1_bestTry 36 = .ok (.if_icmp .ge 62, 3) := by decide +kernel
theorem dX1_bestTry_39 : decode cX1_bestTry 39 = .ok (.aload_n 0, 1) := by decide +kernel
theorem dX1_bestTry_40 : decode cX1_bestTry 40 = .ok (.getfield 9, 3) := by decide +kernel
theorem dX1_bestTry_43 : decode cX1_bestTry 43 = .ok (.iload 4, 2) := by decide +kernel
theorem dX1_bestTry_45 : decode cX1_bestTry 45 = .ok (.invokestatic 40, 3) := by decide +kernel
theorem dX1_bestTry_48 : decode cX1_bestTry 48 = .ok (.iload 5, 2) := by decide +kernel
theorem dX1_bestTry_50 : decode cX1_bestTry 50 = .ok (.iadd, 1) := by decide +kernel
theorem dX1_bestTry_51 : decode cX1_bestTry 51 = .ok (.iaload, 1) := by decide +kernel
theorem dX1_bestTry_52 : decode cX1_bestTry 52 = .ok (.istore 6, 2) := by decide +kernel
theorem dX1_bestTry_54 : decode cX1_bestTry 54 = .ok (.iload 6, 2) := by decide +kernel
theorem dX1_bestTry_56 : decode cX1_bestTry 56 = .ok (.iload_n 1, 1) := by decide +kernel
theorem dX1_bestTry_57 : decode cX1_bestTry 57 = .ok (.iload 6, 2) := by decide +kernel
theorem dX1_bestTry_59 : decode cX1_bestTry 59 = .ok (.isub, 1) := by decide +kernel
theorem dX1_bestTry_60 : decode cX1_bestTry 60 = .ok (.invokestatic 44, 3) := by decide +kernel
theorem dX1_bestTry_63 : decode cX1_bestTry 63 = .ok (.istore 7, 2) := by decide +kernel
theorem dX1_bestTry_65 : decode cX1_bestTry 65 = .ok (.iload_n 1, 1) := by decide +kernel
theorem dX1_bestTry_66 : decode cX1_bestTry 66 = .ok (.ifCond .le 26, 3) := by decide +kernel
theorem dX1_bestTry_69 : decode cX1_bestTry 69 = .ok (.iload_n 2, 1) := by decide +kernel
theorem dX1_bestTry_70 : decode cX1_bestTry 70 = .ok (.iconst (-1), 1) := by decide +kernel
theorem dX1_bestTry_71 : decode cX1_bestTry 71 = .ok (.if_icmp .eq 9, 3) := by decide +kernel
theorem dX1_bestTry_74 : decode cX1_bestTry 74 = .ok (.iload 7, 2) := by decide +kernel
theorem dX1_bestTry_76 : decode cX1_bestTry 76 = .ok (.iload_n 3, 1) := by decide +kernel
theorem dX1_bestTry_77 : decode cX1_bestTry 77 = .ok (.if_icmp .ge 15, 3) := by decide +kernel
theorem dX1_bestTry_80 : decode cX1_bestTry 80 = .ok (.bipush 10, 2) := by decide +kernel
theorem dX1_bestTry_82 : decode cX1_bestTry 82 = .ok (.iload 4, 2) := by decide +kernel
theorem dX1_bestTry_84 : decode cX1_bestTry 84 = .ok (.imul, 1) := by decide +kernel
theorem dX1_bestTry_85 : decode cX1_bestTry 85 = .ok (.iload 5, 2) := by decide +kernel
theorem dX1_bestTry_87 : decode cX1_bestTry 87 = .ok (.iadd, 1) := by decide +kernel
theorem dX1_bestTry_88 : decode cX1_bestTry 88 = .ok (.istore_n 2, 1) := by decide +kernel
theorem dX1_bestTry_89 : decode cX1_bestTry 89 = .ok (.iload 7, 2) := by decide +kernel
theorem dX1_bestTry_91 : decode cX1_bestTry 91 = .ok (.istore_n 3, 1) := by decide +kernel
theorem dX1_bestTry_92 : decode cX1_bestTry 92 = .ok (.iinc 5 1, 3) := by decide +kernel
theorem dX1_bestTry_95 : decode cX1_bestTry 95 = .ok (.goto (-68), 3) := by decide +kernel
theorem dX1_bestTry_98 : decode cX1_bestTry 98 = .ok (.iinc 4 1, 3) := by decide +kernel
theorem dX1_bestTry_101 : decode cX1_bestTry 101 = .ok (.goto (-89), 3) := by decide +kernel
theorem dX1_bestTry_104 : decode cX1_bestTry 104 = .ok (.iload_n 2, 1) := by decide +kernel
theorem dX1_bestTry_105 : decode cX1_bestTry 105 = .ok (.ireturn, 1) := by decide +kernel
theorem dX1_countThrough_0 : decode cX1_countThrough 0 = .ok (.iconst 0, 1) := by decide +kernel
theorem dX1_countThrough_1 : decode cX1_countThrough 1 = .ok (.istore_n 1, 1) := by decide +kernel
theorem dX1_countThrough_2 : decode cX1_countThrough 2 = .ok (.iload_n 1, 1) := by decide +kernel
theorem dX1_countThrough_3 : decode cX1_countThrough 3 = .ok (.aload_n 0, 1) := by decide +kernel
theorem dX1_countThrough_4 : decode cX1_countThrough 4 = .ok (.getfield 9, 3) := by decide +kernel
theorem dX1_countThrough_7 : decode cX1_countThrough 7 = .ok (.arraylength, 1) := by decide +kernel
theorem dX1_countThrough_8 : decode cX1_countThrough 8 = .ok (.if_icmp .ge 16, 3) := by decide +kernel
theorem dX1_countThrough_11 : decode cX1_countThrough 11 = .ok (.aload_n 0, 1) := by decide +kernel
theorem dX1_countThrough_12 : decode cX1_countThrough 12 = .ok (.getfield 9, 3) := by decide +kernel
theorem dX1_countThrough_15 : decode cX1_countThrough 15 = .ok (.iload_n 1, 1) := by decide +kernel
theorem dX1_countThrough_16 : decode cX1_countThrough 16 = .ok (.iconst 0, 1) := by decide +kernel
theorem dX1_countThrough_17 : decode cX1_countThrough 17 = .ok (.iastore, 1) := by decide +kernel
theorem dX1_countThrough_18 : decode cX1_countThrough 18 = .ok (.iinc 1 1, 3) := by decide +kernel
theorem dX1_countThrough_21 : decode cX1_countThrough 21 = .ok (.goto (-19), 3) := by decide +kernel
theorem dX1_countThrough_24 : decode cX1_countThrough 24 = .ok (.iconst 0, 1) := by decide +kernel
theorem dX1_countThrough_25 : decode cX1_countThrough 25 = .ok (.istore_n 1, 1) := by decide +kernel
theorem dX1_countThrough_26 : decode cX1_countThrough 26 = .ok (.iconst 0, 1) := by decide +kernel
theorem dX1_countThrough_27 : decode cX1_countThrough 27 = .ok (.istore_n 2, 1) := by decide +kernel
theorem dX1_countThrough_28 : decode cX1_countThrough 28 = .ok (.iload_n 2, 1) := by decide +kernel
theorem dX1_countThrough_29 : decode cX1_countThrough 29 = .ok (.aload_n 0, 1) := by decide +kernel
theorem dX1_countThrough_30 : decode cX1_countThrough 30 = .ok (.getfield 15, 3) := by decide +kernel
theorem dX1_countThrough_33 : decode cX1_countThrough 33 = .ok (.getfield 23, 3) := by decide +kernel
theorem dX1_countThrough_36 : decode cX1_countThrough 36 = .ok (.if_icmp .ge 67, 3) := by decide +kernel
theorem dX1_countThrough_39 : decode cX1_countThrough 39 = .ok (.aload_n 0, 1) := by decide +kernel
theorem dX1_countThrough_40 : decode cX1_countThrough 40 = .ok (.iload_n 2, 1) := by decide +kernel
theorem dX1_countThrough_41 : decode cX1_countThrough 41 = .ok (.invokevirtual 29, 3) := by decide +kernel
theorem dX1_countThrough_44 : decode cX1_countThrough 44 = .ok (.ifCond .ne 6, 3) := by decide +kernel
theorem dX1_countThrough_47 : decode cX1_countThrough 47 = .ok (.goto 50, 3) := by decide +kernel
theorem dX1_countThrough_50 : decode cX1_countThrough 50 = .ok (.iinc 1 1, 3) := by decide +kernel
theorem dX1_countThrough_53 : decode cX1_countThrough 53 = .ok (.iconst 0, 1) := by decide +kernel
theorem dX1_countThrough_54 : decode cX1_countThrough 54 = .ok (.istore_n 3, 1) := by decide +kernel
theorem dX1_countThrough_55 : decode cX1_countThrough 55 = .ok (.iload_n 3, 1) := by decide +kernel
theorem dX1_countThrough_56 : decode cX1_countThrough 56 = .ok (.aload_n 0, 1) := by decide +kernel
theorem dX1_countThrough_57 : decode cX1_countThrough 57 = .ok (.getfield 15, 3) := by decide +kernel
theorem dX1_countThrough_60 : decode cX1_countThrough 60 = .ok (.getfield 37, 3) := by decide +kernel
theorem dX1_countThrough_63 : decode cX1_countThrough 63 = .ok (.if_icmp .ge 34, 3) := by decide +kernel
theorem dX1_countThrough_66 : decode cX1_countThrough 66 = .ok (.aload_n 0, 1) := by decide +kernel
theorem dX1_countThrough_67 : decode cX1_countThrough 67 = .ok (.getfield 9, 3) := by decide +kernel
theorem dX1_countThrough_70 : decode cX1_countThrough 70 = .ok (.aload_n 0, 1) := by decide +kernel
theorem dX1_countThrough_71 : decode cX1_countThrough 71 = .ok (.getfield 15, 3) := by decide +kernel
theorem dX1_countThrough_74 : decode cX1_countThrough 74 = .ok (.iload_n 2, 1) := by decide +kernel
theorem dX1_countThrough_75 : decode cX1_countThrough 75 = .ok (.iload_n 3, 1) := by decide +kernel
theorem dX1_countThrough_76 : decode cX1_countThrough 76 = .ok (.invokevirtual 50, 3) := by decide +kernel
theorem dX1_countThrough_79 : decode cX1_countThrough 79 = .ok (.iconst 1, 1) := by decide +kernel
theorem dX1_countThrough_80 : decode cX1_countThrough 80 = .ok (.iadd, 1) := by decide +kernel
theorem dX1_countThrough_81 : decode cX1_countThrough 81 = .ok (.invokestatic 40, 3) := by decide +kernel
theorem dX1_countThrough_84 : decode cX1_countThrough 84 = .ok (.iload_n 3, 1) := by decide +kernel
theorem dX1_countThrough_85 : decode cX1_countThrough 85 = .ok (.iadd, 1) := by decide +kernel
theorem dX1_countThrough_86 : decode cX1_countThrough 86 = .ok (.dup2, 1) := by decide +kernel
theorem dX1_countThrough_87 : decode cX1_countThrough 87 = .ok (.iaload, 1) := by decide +kernel
theorem dX1_countThrough_88 : decode cX1_countThrough 88 = .ok (.iconst 1, 1) := by decide +kernel
theorem dX1_countThrough_89 : decode cX1_countThrough 89 = .ok (.iadd, 1) := by decide +kernel
theorem dX1_countThrough_90 : decode cX1_countThrough 90 = .ok (.iastore, 1) := by decide +kernel
theorem dX1_countThrough_91 : decode cX1_countThrough 91 = .ok (.iinc 3 1, 3) := by decide +kernel
theorem dX1_countThrough_94 : decode cX1_countThrough 94 = .ok (.goto (-39), 3) := by decide +kernel
theorem dX1_countThrough_97 : decode cX1_countThrough 97 = .ok (.iinc 2 1, 3) := by decide +kernel
theorem dX1_countThrough_100 : decode cX1_countThrough 100 = .ok (.goto (-72), 3) := by decide +kernel
theorem dX1_countThrough_103 : decode cX1_countThrough 103 = .ok (.iconst 2, 1) := by decide +kernel
theorem dX1_countThrough_104 : decode cX1_countThrough 104 = .ok (.istore_n 2, 1) := by decide +kernel
theorem dX1_countThrough_105 : decode cX1_countThrough 105 = .ok (.iload_n 2, 1) := by decide +kernel
theorem dX1_countThrough_106 : decode cX1_countThrough 106 = .ok (.aload_n 0, 1) := by decide +kernel
theorem dX1_countThrough_107 : decode cX1_countThrough 107 = .ok (.getfield 15, 3) := by decide +kernel
theorem dX1_countThrough_110 : decode cX1_countThrough 110 = .ok (.getfield 37, 3) := by decide +kernel
theorem dX1_countThrough_113 : decode cX1_countThrough 113 = .ok (.if_icmp .gt 55, 3) := by decide +kernel
theorem dX1_countThrough_116 : decode cX1_countThrough 116 = .ok (.iconst 0, 1) := by decide +kernel
theorem dX1_countThrough_117 : decode cX1_countThrough 117 = .ok (.istore_n 3, 1) := by decide +kernel
theorem dX1_countThrough_118 : decode cX1_countThrough 118 = .ok (.iload_n 3, 1) := by decide +kernel
theorem dX1_countThrough_119 : decode cX1_countThrough 119 = .ok (.aload_n 0, 1) := by decide +kernel
theorem dX1_countThrough_120 : decode cX1_countThrough 120 = .ok (.getfield 15, 3) := by decide +kernel
theorem dX1_countThrough_123 : decode cX1_countThrough 123 = .ok (.getfield 37, 3) := by decide +kernel
theorem dX1_countThrough_126 : decode cX1_countThrough 126 = .ok (.if_icmp .ge 36, 3) := by decide +kernel
theorem dX1_countThrough_129 : decode cX1_countThrough 129 = .ok (.aload_n 0, 1) := by decide +kernel
theorem dX1_countThrough_130 : decode cX1_countThrough 130 = .ok (.getfield 9, 3) := by decide +kernel
theorem dX1_countThrough_133 : decode cX1_countThrough 133 = .ok (.iload_n 2, 1) := by decide +kernel
theorem dX1_countThrough_134 : decode cX1_countThrough 134 = .ok (.invokestatic 40, 3) := by decide +kernel
theorem dX1_countThrough_137 : decode cX1_countThrough 137 = .ok (.iload_n 3, 1) := by decide +kernel
theorem dX1_countThrough_138 : decode cX1_countThrough 138 = .ok (.iadd, 1) := by decide +kernel
theorem dX1_countThrough_139 : decode cX1_countThrough 139 = .ok (.dup2, 1) := by decide +kernel
theorem dX1_countThrough_140 : decode cX1_countThrough 140 = .ok (.iaload, 1) := by decide +kernel
theorem dX1_countThrough_141 : decode cX1_countThrough 141 = .ok (.aload_n 0, 1) := by decide +kernel
theorem dX1_countThrough_142 : decode cX1_countThrough 142 = .ok (.getfield 9, 3) := by decide +kernel
theorem dX1_countThrough_145 : decode cX1_countThrough 145 = .ok (.iload_n 2, 1) := by decide +kernel
theorem dX1_countThrough_146 : decode cX1_countThrough 146 = .ok (.iconst 1, 1) := by decide +kernel
theorem dX1_countThrough_147 : decode cX1_countThrough 147 = .ok (.isub, 1) := by decide +kernel
theorem dX1_countThrough_148 : decode cX1_countThrough 148 = .ok (.invokestatic 40, 3) := by decide +kernel
theorem dX1_countThrough_151 : decode cX1_countThrough 151 = .ok (.iload_n 3, 1) := by decide +kernel
theorem dX1_countThrough_152 : decode cX1_countThrough 152 = .ok (.iadd, 1) := by decide +kernel
theorem dX1_countThrough_153 : decode cX1_countThrough 153 = .ok (.iaload, 1) := by decide +kernel
theorem dX1_countThrough_154 : decode cX1_countThrough 154 = .ok (.iadd, 1) := by decide +kernel
theorem dX1_countThrough_155 : decode cX1_countThrough 155 = .ok (.iastore, 1) := by decide +kernel
theorem dX1_countThrough_156 : decode cX1_countThrough 156 = .ok (.iinc 3 1, 3) := by decide +kernel
theorem dX1_countThrough_159 : decode cX1_countThrough 159 = .ok (.goto (-41), 3) := by decide +kernel
theorem dX1_countThrough_162 : decode cX1_countThrough 162 = .ok (.iinc 2 1, 3) := by decide +kernel
theorem dX1_countThrough_165 : decode cX1_countThrough 165 = .ok (.goto (-60), 3) := by decide +kernel
theorem dX1_countThrough_168 : decode cX1_countThrough 168 = .ok (.iload_n 1, 1) := by decide +kernel
theorem dX1_countThrough_169 : decode cX1_countThrough 169 = .ok (.ireturn, 1) := by decide +kernel
theorem dX1_isPossible_0 : decode cX1_isPossible 0 = .ok (.iconst 0, 1) := by decide +kernel
theorem dX1_isPossible_1 : decode cX1_isPossible 1 = .ok (.istore_n 2, 1) := by decide +kernel
theorem dX1_isPossible_2 : decode cX1_isPossible 2 = .ok (.iload_n 2, 1) := by decide +kernel
theorem dX1_isPossible_3 : decode cX1_isPossible 3 = .ok (.aload_n 0, 1) := by decide +kernel
theorem dX1_isPossible_4 : decode cX1_isPossible 4 = .ok (.getfield 19, 3) := by decide +kernel
theorem dX1_isPossible_7 : decode cX1_isPossible 7 = .ok (.getfield 53, 3) := by decide +kernel
theorem dX1_isPossible_10 : decode cX1_isPossible 10 = .ok (.if_icmp .ge 59, 3) := by decide +kernel
theorem dX1_isPossible_13 : decode cX1_isPossible 13 = .ok (.aload_n 0, 1) := by decide +kernel
theorem dX1_isPossible_14 : decode cX1_isPossible 14 = .ok (.getfield 15, 3) := by decide +kernel
theorem dX1_isPossible_17 : decode cX1_isPossible 17 = .ok (.iload_n 1, 1) := by decide +kernel
theorem dX1_isPossible_18 : decode cX1_isPossible 18 = .ok (.aload_n 0, 1) := by decide +kernel
theorem dX1_isPossible_19 : decode cX1_isPossible 19 = .ok (.getfield 19, 3) := by decide +kernel
theorem dX1_isPossible_22 : decode cX1_isPossible 22 = .ok (.getfield 58, 3) := by decide +kernel
theorem dX1_isPossible_25 : decode cX1_isPossible 25 = .ok (.iload_n 2, 1) := by decide +kernel
theorem dX1_isPossible_26 : decode cX1_isPossible 26 = .ok (.iaload, 1) := by decide +kernel
theorem dX1_isPossible_27 : decode cX1_isPossible 27 = .ok (.invokevirtual 50, 3) := by decide +kernel
theorem dX1_isPossible_30 : decode cX1_isPossible 30 = .ok (.aload_n 0, 1) := by decide +kernel
theorem dX1_isPossible_31 : decode cX1_isPossible 31 = .ok (.getfield 19, 3) := by decide +kernel
theorem dX1_isPossible_34 : decode cX1_isPossible 34 = .ok (.getfield 61, 3) := by decide +kernel
theorem dX1_isPossible_37 : decode cX1_isPossible 37 = .ok (.iload_n 2, 1) := by decide +kernel
theorem dX1_isPossible_38 : decode cX1_isPossible 38 = .ok (.iaload, 1) := by decide +kernel
theorem dX1_isPossible_39 : decode cX1_isPossible 39 = .ok (.if_icmp .ge 7, 3) := by decide +kernel
theorem dX1_isPossible_42 : decode cX1_isPossible 42 = .ok (.iconst 1, 1) := by decide +kernel
theorem dX1_isPossible_43 : decode cX1_isPossible 43 = .ok (.goto 4, 3) := by decide +kernel
theorem dX1_isPossible_46 : decode cX1_isPossible 46 = .ok (.iconst 0, 1) := by decide +kernel
theorem dX1_isPossible_47 : decode cX1_isPossible 47 = .ok (.istore_n 3, 1) := by decide +kernel
theorem dX1_isPossible_48 : decode cX1_isPossible 48 = .ok (.iload_n 3, 1) := by decide +kernel
theorem dX1_isPossible_49 : decode cX1_isPossible 49 = .ok (.aload_n 0, 1) := by decide +kernel
theorem dX1_isPossible_50 : decode cX1_isPossible 50 = .ok (.getfield 19, 3) := by decide +kernel
theorem dX1_isPossible_53 : decode cX1_isPossible 53 = .ok (.getfield 64, 3) := by decide +kernel
theorem dX1_isPossible_56 : decode cX1_isPossible 56 = .ok (.iload_n 2, 1) := by decide +kernel
theorem dX1_isPossible_57 : decode cX1_isPossible 57 = .ok (.baload, 1) := by decide +kernel
theorem dX1_isPossible_58 : decode cX1_isPossible 58 = .ok (.if_icmp .eq 5, 3) := by decide +kernel
theorem dX1_isPossible_61 : decode cX1_isPossible 61 = .ok (.iconst 0, 1) := by decide +kernel
theorem dX1_isPossible_62 : decode cX1_isPossible 62 = .ok (.ireturn, 1) := by decide +kernel
theorem dX1_isPossible_63 : decode cX1_isPossible 63 = .ok (.iinc 2 1, 3) := by decide +kernel
theorem dX1_isPossible_66 : decode cX1_isPossible 66 = .ok (.goto (-64), 3) := by decide +kernel
theorem dX1_isPossible_69 : decode cX1_isPossible 69 = .ok (.iconst 1, 1) := by decide +kernel
theorem dX1_isPossible_70 : decode cX1_isPossible 70 = .ok (.ireturn, 1) := by decide +kernel
theorem dX1_rowOf_0 : decode cX1_rowOf 0 = .ok (.iload_n 0, 1) := by decide +kernel
theorem dX1_rowOf_1 : decode cX1_rowOf 1 = .ok (.iconst 1, 1) := by decide +kernel
theorem dX1_rowOf_2 : decode cX1_rowOf 2 = .ok (.isub, 1) := by decide +kernel
theorem dX1_rowOf_3 : decode cX1_rowOf 3 = .ok (.bipush 7, 2) := by decide +kernel
theorem dX1_rowOf_5 : decode cX1_rowOf 5 = .ok (.imul, 1) := by decide +kernel
theorem dX1_rowOf_6 : decode cX1_rowOf 6 = .ok (.ireturn, 1) := by decide +kernel
theorem dX2_init_0 : decode cX2_init 0 = .ok (.aload_n 0, 1) := by decide +kernel
theorem dX2_init_1 : decode cX2_init 1 = .ok (.invokespecial 3, 3) := by decide +kernel
theorem dX2_init_4 : decode cX2_init 4 = .ok (.aload_n 0, 1) := by decide +kernel
theorem dX2_init_5 : decode cX2_init 5 = .ok (.bipush 9, 2) := by decide +kernel
theorem dX2_init_7 : decode cX2_init 7 = .ok (.newarray .int, 2) := by decide +kernel
theorem dX2_init_9 : decode cX2_init 9 = .ok (.putfield 9, 3) := by decide +kernel
theorem dX2_init_12 : decode cX2_init 12 = .ok (.aload_n 0, 1) := by decide +kernel
theorem dX2_init_13 : decode cX2_init 13 = .ok (.iconst 0, 1) := by decide +kernel
theorem dX2_init_14 : decode cX2_init 14 = .ok (.putfield 15, 3) := by decide +kernel
theorem dX2_init_17 : decode cX2_init 17 = .ok (.return_, 1) := by decide +kernel
theorem dX2_add_0 : decode cX2_add 0 = .ok (.aload_n 0, 1) := by decide +kernel
theorem dX2_add_1 : decode cX2_add 1 = .ok (.getfield 15, 3) := by decide +kernel
theorem dX2_add_4 : decode cX2_add 4 = .ok (.aload_n 0, 1) := by decide +kernel
theorem dX2_add_5 : decode cX2_add 5 = .ok (.getfield 9, 3) := by decide +kernel
theorem dX2_add_8 : decode cX2_add 8 = .ok (.arraylength, 1) := by decide +kernel
theorem dX2_add_9 : decode cX2_add 9 = .ok (.if_icmp .lt 4, 3) := by decide +kernel
theorem dX2_add_12 : decode cX2_add 12 = .ok (.return_, 1) := by decide +kernel
theorem dX2_add_13 : decode cX2_add 13 = .ok (.aload_n 0, 1) := by decide +kernel
theorem dX2_add_14 : decode cX2_add 14 = .ok (.getfield 9, 3) := by decide +kernel
theorem dX2_add_17 : decode cX2_add 17 = .ok (.aload_n 0, 1) := by decide +kernel
theorem dX2_add_18 : decode cX2_add 18 = .ok (.getfield 15, 3) := by decide +kernel
theorem dX2_add_21 : decode cX2_add 21 = .ok (.iload_n 1, 1) := by decide +kernel
theorem dX2_add_22 : decode cX2_add 22 = .ok (.iastore, 1) := by decide +kernel
theorem dX2_add_23 : decode cX2_add 23 = .ok (.aload_n 0, 1) := by decide +kernel
theorem dX2_add_24 : decode cX2_add 24 = .ok (.dup, 1) := by decide +kernel
theorem dX2_add_25 : decode cX2_add 25 = .ok (.getfield 15, 3) := by decide +kernel
theorem dX2_add_28 : decode cX2_add 28 = .ok (.iconst 1, 1) := by decide +kernel
theorem dX2_add_29 : decode cX2_add 29 = .ok (.iadd, 1) := by decide +kernel
theorem dX2_add_30 : decode cX2_add 30 = .ok (.putfield 15, 3) := by decide +kernel
theorem dX2_add_33 : decode cX2_add 33 = .ok (.return_, 1) := by decide +kernel
theorem dX2_kindAt_0 : decode cX2_kindAt 0 = .ok (.iload_n 1, 1) := by decide +kernel
theorem dX2_kindAt_1 : decode cX2_kindAt 1 = .ok (.ifCond .lt 11, 3) := by decide +kernel
theorem dX2_kindAt_4 : decode cX2_kindAt 4 = .ok (.iload_n 1, 1) := by decide +kernel
theorem dX2_kindAt_5 : decode cX2_kindAt 5 = .ok (.aload_n 0, 1) := by decide +kernel
theorem dX2_kindAt_6 : decode cX2_kindAt 6 = .ok (.getfield 15, 3) := by decide +kernel
theorem dX2_kindAt_9 : decode cX2_kindAt 9 = .ok (.if_icmp .lt 5, 3) := by decide +kernel
theorem dX2_kindAt_12 : decode cX2_kindAt 12 = .ok (.iconst (-1), 1) := by decide +kernel
theorem dX2_kindAt_13 : decode cX2_kindAt 13 = .ok (.ireturn, 1) := by decide +kernel
theorem dX2_kindAt_14 : decode cX2_kindAt 14 = .ok (.ldc 19, 2) := by decide +kernel
theorem dX2_kindAt_16 : decode cX2_kindAt 16 = .ok (.aload_n 0, 1) := by decide +kernel
theorem dX2_kindAt_17 : decode cX2_kindAt 17 = .ok (.getfield 9, 3) := by decide +kernel
theorem dX2_kindAt_20 : decode cX2_kindAt 20 = .ok (.iload_n 1, 1) := by decide +kernel
theorem dX2_kindAt_21 : decode cX2_kindAt 21 = .ok (.iaload, 1) := by decide +kernel
theorem dX2_kindAt_22 : decode cX2_kindAt 22 = .ok (.i2c, 1) := by decide +kernel
theorem dX2_kindAt_23 : decode cX2_kindAt 23 = .ok (.invokevirtual 21, 3) := by decide +kernel
theorem dX2_kindAt_26 : decode cX2_kindAt 26 = .ok (.ireturn, 1) := by decide +kernel
theorem dX2_firstWrong_0 : decode cX2_firstWrong 0 = .ok (.iconst 0, 1) := by decide +kernel
theorem dX2_firstWrong_1 : decode cX2_firstWrong 1 = .ok (.istore_n 1, 1) := by decide +kernel
theorem dX2_firstWrong_2 : decode cX2_firstWrong 2 = .ok (.iload_n 1, 1) := by decide +kernel
theorem dX2_firstWrong_3 : decode cX2_firstWrong 3 = .ok (.aload_n 0, 1) := by decide +kernel
theorem dX2_firstWrong_4 : decode cX2_firstWrong 4 = .ok (.getfield 15, 3) := by decide +kernel
theorem dX2_firstWrong_7 : decode cX2_firstWrong 7 = .ok (.if_icmp .ge 26, 3) := by decide +kernel
theorem dX2_firstWrong_10 : decode cX2_firstWrong 10 = .ok (.iload_n 1, 1) := by decide +kernel
theorem dX2_firstWrong_11 : decode cX2_firstWrong 11 = .ok (.bipush 7, 2) := by decide +kernel
theorem dX2_firstWrong_13 : decode cX2_firstWrong 13 = .ok (.if_icmp .ge 12, 3) := by decide +kernel
theorem dX2_firstWrong_16 : decode cX2_firstWrong 16 = .ok (.aload_n 0, 1) := by decide +kernel
theorem dX2_firstWrong_17 : decode cX2_firstWrong 17 = .ok (.iload_n 1, 1) := by decide +kernel
theorem dX2_firstWrong_18 : decode cX2_firstWrong 18 = .ok (.invokevirtual 27, 3) := by decide +kernel
theorem dX2_firstWrong_21 : decode cX2_firstWrong 21 = .ok (.iconst (-1), 1) := by decide +kernel
theorem dX2_firstWrong_22 : decode cX2_firstWrong 22 = .ok (.if_icmp .ne 5, 3) := by decide +kernel
theorem dX2_firstWrong_25 : decode cX2_firstWrong 25 = .ok (.iload_n 1, 1) := by decide +kernel
theorem dX2_firstWrong_26 : decode cX2_firstWrong 26 = .ok (.ireturn, 1) := by decide +kernel
theorem dX2_firstWrong_27 : decode cX2_firstWrong 27 = .ok (.iinc 1 1, 3) := by decide +kernel
theorem dX2_firstWrong_30 : decode cX2_firstWrong 30 = .ok (.goto (-28), 3) := by decide +kernel
theorem dX2_firstWrong_33 : decode cX2_firstWrong 33 = .ok (.aload_n 0, 1) := by decide +kernel
theorem dX2_firstWrong_34 : decode cX2_firstWrong 34 = .ok (.getfield 15, 3) := by decide +kernel
theorem dX2_firstWrong_37 : decode cX2_firstWrong 37 = .ok (.ireturn, 1) := by decide +kernel
theorem dX3_init_0 : decode cX3_init 0 = .ok (.aload_n 0, 1) := by decide +kernel
theorem dX3_init_1 : decode cX3_init 1 = .ok (.invokespecial 3, 3) := by decide +kernel
theorem dX3_init_4 : decode cX3_init 4 = .ok (.aload_n 0, 1) := by decide +kernel
theorem dX3_init_5 : decode cX3_init 5 = .ok (.iconst 0, 1) := by decide +kernel
theorem dX3_init_6 : decode cX3_init 6 = .ok (.putfield 9, 3) := by decide +kernel
theorem dX3_init_9 : decode cX3_init 9 = .ok (.aload_n 0, 1) := by decide +kernel
theorem dX3_init_10 : decode cX3_init 10 = .ok (.iconst (-1), 1) := by decide +kernel
theorem dX3_init_11 : decode cX3_init 11 = .ok (.putfield 15, 3) := by decide +kernel
theorem dX3_init_14 : decode cX3_init 14 = .ok (.aload_n 0, 1) := by decide +kernel
theorem dX3_init_15 : decode cX3_init 15 = .ok (.iconst 0, 1) := by decide +kernel
theorem dX3_init_16 : decode cX3_init 16 = .ok (.putfield 18, 3) := by decide +kernel
theorem dX3_init_19 : decode cX3_init 19 = .ok (.aload_n 0, 1) := by decide +kernel
theorem dX3_init_20 : decode cX3_init 20 = .ok (.sipush 463, 3) := by decide +kernel
theorem dX3_init_23 : decode cX3_init 23 = .ok (.newarray .int, 2) := by decide +kernel
theorem dX3_init_25 : decode cX3_init 25 = .ok (.putfield 21, 3) := by decide +kernel
theorem dX3_init_28 : decode cX3_init 28 = .ok (.aload_n 0, 1) := by decide +kernel
theorem dX3_init_29 : decode cX3_init 29 = .ok (.sipush 3964, 3) := by decide +kernel
theorem dX3_init_32 : decode cX3_init 32 = .ok (.newarray .int, 2) := by decide +kernel
theorem dX3_init_34 : decode cX3_init 34 = .ok (.putfield 25, 3) := by decide +kernel
theorem dX3_init_37 : decode cX3_init 37 = .ok (.aload_n 0, 1) := by decide +kernel
theorem dX3_init_38 : decode cX3_init 38 = .ok (.sipush 462, 3) := by decide +kernel
theorem dX3_init_41 : decode cX3_init 41 = .ok (.newarray .int, 2) := by decide +kernel
theorem dX3_init_43 : decode cX3_init 43 = .ok (.putfield 28, 3) := by decide +kernel
theorem dX3_init_46 : decode cX3_init 46 = .ok (.aload_n 0, 1) := by decide +kernel
theorem dX3_init_47 : decode cX3_init 47 = .ok (.sipush 462, 3) := by decide +kernel
theorem dX3_init_50 : decode cX3_init 50 = .ok (.newarray .int, 2) := by decide +kernel
theorem dX3_init_52 : decode cX3_init 52 = .ok (.putfield 31, 3) := by decide +kernel
theorem dX3_init_55 : decode cX3_init 55 = .ok (.aload_n 0, 1) := by decide +kernel
theorem dX3_init_56 : decode cX3_init 56 = .ok (.aload_n 1, 1) := by decide +kernel
theorem dX3_init_57 : decode cX3_init 57 = .ok (.putfield 34, 3) := by decide +kernel
theorem dX3_init_60 : decode cX3_init 60 = .ok (.return_, 1) := by decide +kernel
theorem dX3_distanceTo_0 : decode cX3_distanceTo 0 = .ok (.iload_n 1, 1) := by decide +kernel
theorem dX3_distanceTo_1 : decode cX3_distanceTo 1 = .ok (.ifCond .lt 23, 3) := by decide +kernel
theorem dX3_distanceTo_4 : decode cX3_distanceTo 4 = .ok (.iload_n 1, 1) := by decide +kernel
theorem dX3_distanceTo_5 : decode cX3_distanceTo 5 = .ok (.aload_n 0, 1) := by decide +kernel
theorem dX3_distanceTo_6 : decode cX3_distanceTo 6 = .ok (.getfield 34, 3) := by decide +kernel
theorem dX3_distanceTo_9 : decode cX3_distanceTo 9 = .ok (.getfield 38, 3) := by decide +kernel
theorem dX3_distanceTo_12 : decode cX3_distanceTo 12 = .ok (.if_icmp .ge 12, 3) := by decide +kernel
theorem dX3_distanceTo_15 : decode cX3_distanceTo 15 = .ok (.aload_n 0, 1) := by decide +kernel
theorem dX3_distanceTo_16 : decode cX3_distanceTo 16 = .ok (.getfield 28, 3) := by decide +kernel
theorem dX3_distanceTo_19 : decode cX3_distanceTo 19 = .ok (.iload_n 1, 1) := by decide +kernel
theorem dX3_distanceTo_20 : decode cX3_distanceTo 20 = .ok (.iaload, 1) := by decide +kernel
theorem dX3_distanceTo_21 : decode cX3_distanceTo 21 = .ok (.goto 4, 3) := by decide +kernel
theorem dX3_distanceTo_24 : decode cX3_distanceTo 24 = .ok (.iconst (-1), 1) := by decide +kernel
theorem dX3_distanceTo_25 : decode cX3_distanceTo 25 = .ok (.ireturn, 1) := by decide +kernel
theorem dX3_measureFrom_0 : decode cX3_measureFrom 0 = .ok (.iload_n 1, 1) := by decide +kernel
theorem dX3_measureFrom_1 : decode cX3_measureFrom 1 = .ok (.ifCond .lt 14, 3) := by decide +kernel
theorem dX3_measureFrom_4 : decode cX3_measureFrom 4 = .ok (.iload_n 1, 1) := by decide +kernel
theorem dX3_measureFrom_5 : decode cX3_measureFrom 5 = .ok (.aload_n 0, 1) := by decide +kernel
theorem dX3_measureFrom_6 : decode cX3_measureFrom 6 = .ok (.getfield 34, 3) := by decide +kernel
theorem dX3_measureFrom_9 : decode cX3_measureFrom 9 = .ok (.getfield 38, 3) := by decide +kernel
theorem dX3_measureFrom_12 : decode cX3_measureFrom 12 = .ok (.if_icmp .lt 4, 3) := by decide +kernel
theorem dX3_measureFrom_15 : decode cX3_measureFrom 15 = .ok (.return_, 1) := by decide +kernel
theorem dX3_measureFrom_16 : decode cX3_measureFrom 16 = .ok (.aload_n 0, 1) := by decide +kernel
theorem dX3_measureFrom_17 : decode cX3_measureFrom 17 = .ok (.getfield 9, 3) := by decide +kernel
theorem dX3_measureFrom_20 : decode cX3_measureFrom 20 = .ok (.aload_n 0, 1) := by decide +kernel
theorem dX3_measureFrom_21 : decode cX3_measureFrom 21 = .ok (.getfield 34, 3) := by decide +kernel
theorem dX3_measureFrom_24 : decode cX3_measureFrom 24 = .ok (.getfield 43, 3) := by decide +kernel
theorem dX3_measureFrom_27 : decode cX3_measureFrom 27 = .ok (.if_icmp .eq 7, 3) := by decide +kernel
theorem dX3_measureFrom_30 : decode cX3_measureFrom 30 = .ok (.aload_n 0, 1) := by decide +kernel
theorem dX3_measureFrom_31 : decode cX3_measureFrom 31 = .ok (.invokevirtual 44, 3) := by decide +kernel
theorem dX3_measureFrom_34 : decode cX3_measureFrom 34 = .ok (.iload_n 1, 1) := by decide +kernel
theorem dX3_measureFrom_35 : decode cX3_measureFrom 35 = .ok (.aload_n 0, 1) := by decide +kernel
theorem dX3_measureFrom_36 : decode cX3_measureFrom 36 = .ok (.getfield 15, 3) := by decide +kernel
theorem dX3_measureFrom_39 : decode cX3_measureFrom 39 = .ok (.if_icmp .ne 4, 3) := by decide +kernel
theorem dX3_measureFrom_42 : decode cX3_measureFrom 42 = .ok (.return_, 1) := by decide +kernel
theorem dX3_measureFrom_43 : decode cX3_measureFrom 43 = .ok (.aload_n 0, 1) := by decide +kernel
theorem dX3_measureFrom_44 : decode cX3_measureFrom 44 = .ok (.iload_n 1, 1) := by decide +kernel
theorem dX3_measureFrom_45 : decode cX3_measureFrom 45 = .ok (.putfield 15, 3) := by decide +kernel
theorem dX3_measureFrom_48 : decode cX3_measureFrom 48 = .ok (.iconst 0, 1) := by decide +kernel
theorem dX3_measureFrom_49 : decode cX3_measureFrom 49 = .ok (.istore_n 2, 1) := by decide +kernel
theorem dX3_measureFrom_50 : decode cX3_measureFrom 50 = .ok (.iload_n 2, 1) := by decide +kernel
theorem dX3_measureFrom_51 : decode cX3_measureFrom 51 = .ok (.aload_n 0, 1) := by decide +kernel
theorem dX3_measureFrom_52 : decode cX3_measureFrom 52 = .ok (.getfield 34, 3) := by decide +kernel
theorem dX3_measureFrom_55 : decode cX3_measureFrom 55 = .ok (.getfield 38, 3) := by decide +kernel
theorem dX3_measureFrom_58 : decode cX3_measureFrom 58 = .ok (.if_icmp .ge 16, 3) := by decide +kernel
theorem dX3_measureFrom_61 : decode cX3_measureFrom 61 = .ok (.aload_n 0, 1) := by decide +kernel
theorem dX3_measureFrom_62 : decode cX3_measureFrom 62 = .ok (.getfield 28, 3) := by decide +kernel
theorem dX3_measureFrom_65 : decode cX3_measureFrom 65 = .ok (.iload_n 2, 1) := by decide +kernel
theorem dX3_measureFrom_66 : decode cX3_measureFrom 66 = .ok (.iconst (-1), 1) := by decide +kernel
theorem dX3_measureFrom_67 : decode cX3_measureFrom 67 = .ok (.iastore, 1) := by decide +kernel
theorem dX3_measureFrom_68 : decode cX3_measureFrom 68 = .ok (.iinc 2 1, 3) := by decide +kernel
theorem dX3_measureFrom_71 : decode cX3_measureFrom 71 = .ok (.goto (-21), 3) := by decide +kernel
theorem dX3_measureFrom_74 : decode cX3_measureFrom 74 = .ok (.aload_n 0, 1) := by decide +kernel
theorem dX3_measureFrom_75 : decode cX3_measureFrom 75 = .ok (.getfield 28, 3) := by decide +kernel
theorem dX3_measureFrom_78 : decode cX3_measureFrom 78 = .ok (.iload_n 1, 1) := by decide +kernel
theorem dX3_measureFrom_79 : decode cX3_measureFrom 79 = .ok (.iconst 0, 1) := by decide +kernel
theorem dX3_measureFrom_80 : decode cX3_measureFrom 80 = .ok (.iastore, 1) := by decide +kernel
theorem dX3_measureFrom_81 : decode cX3_measureFrom 81 = .ok (.aload_n 0, 1) := by decide +kernel
theorem dX3_measureFrom_82 : decode cX3_measureFrom 82 = .ok (.getfield 31, 3) := by decide +kernel
theorem dX3_measureFrom_85 : decode cX3_measureFrom 85 = .ok (.iconst 0, 1) := by decide +kernel
theorem dX3_measureFrom_86 : decode cX3_measureFrom 86 = .ok (.iload_n 1, 1) := by decide +kernel
theorem dX3_measureFrom_87 : decode cX3_measureFrom 87 = .ok (.iastore, 1) := by decide +kernel
theorem dX3_measureFrom_88 : decode cX3_measureFrom 88 = .ok (.iconst 1, 1) := by decide +kernel
theorem dX3_measureFrom_89 : decode cX3_measureFrom 89 = .ok (.istore_n 2, 1) := by decide +kernel
theorem dX3_measureFrom_90 : decode cX3_measureFrom 90 = .ok (.iconst 0, 1) := by decide +kernel
theorem dX3_measureFrom_91 : decode cX3_measureFrom 91 = .ok (.istore_n 3, 1) := by decide +kernel
theorem dX3_measureFrom_92 : decode cX3_measureFrom 92 = .ok (.iload_n 3, 1) := by decide +kernel
theorem dX3_measureFrom_93 : decode cX3_measureFrom 93 = .ok (.iload_n 2, 1) := by decide +kernel
theorem dX3_measureFrom_94 : decode cX3_measureFrom 94 = .ok (.if_icmp .ge 32, 3) := by decide +kernel
theorem dX3_measureFrom_97 : decode cX3_measureFrom 97 = .ok (.iload_n 3, 1) := by decide +kernel
theorem dX3_measureFrom_98 : decode cX3_measureFrom 98 = .ok (.aload_n 0, 1) := by decide +kernel
theorem dX3_measureFrom_99 : decode cX3_measureFrom 99 = .ok (.getfield 34, 3) := by decide +kernel
theorem dX3_measureFrom_102 : decode cX3_measureFrom 102 = .ok (.getfield 38, 3) := by decide +kernel
theorem dX3_measureFrom_105 : decode cX3_measureFrom 105 = .ok (.if_icmp .ge 21, 3) := by decide +kernel
theorem dX3_measureFrom_108 : decode cX3_measureFrom 108 = .ok (.aload_n 0, 1) := by decide +kernel
theorem dX3_measureFrom_109 : decode cX3_measureFrom 109 = .ok (.aload_n 0, 1) := by decide +kernel
theorem dX3_measureFrom_110 : decode cX3_measureFrom 110 = .ok (.getfield 31, 3) := by decide +kernel
theorem dX3_measureFrom_113 : decode cX3_measureFrom 113 = .ok (.iload_n 3, 1) := by decide +kernel
theorem dX3_measureFrom_114 : decode cX3_measureFrom 114 = .ok (.iaload, 1) := by decide +kernel
theorem dX3_measureFrom_115 : decode cX3_measureFrom 115 = .ok (.iload_n 2, 1) := by decide +kernel
theorem dX3_measureFrom_116 : decode cX3_measureFrom 116 = .ok (.invokevirtual 47, 3) := by decide +kernel
theorem dX3_measureFrom_119 : decode cX3_measureFrom 119 = .ok (.istore_n 2, 1) := by decide +kernel
theorem dX3_measureFrom_120 : decode cX3_measureFrom 120 = .ok (.iinc 3 1, 3) := by decide +kernel
theorem dX3_measureFrom_123 : decode cX3_measureFrom 123 = .ok (.goto (-31), 3) := by decide +kernel
theorem dX3_measureFrom_126 : decode cX3_measureFrom 126 = .ok (.return_, 1) := by decide +kernel
theorem dX3_spread_0 : decode cX3_spread 0 = .ok (.iload_n 2, 1) := by decide +kernel
theorem dX3_spread_1 : decode cX3_spread 1 = .ok (.istore_n 3, 1) := by decide +kernel
theorem dX3_spread_2 : decode cX3_spread 2 = .ok (.aload_n 0, 1) := by decide +kernel
theorem dX3_spread_3 : decode cX3_spread 3 = .ok (.getfield 21, 3) := by decide +kernel
theorem dX3_spread_6 : decode cX3_spread 6 = .ok (.iload_n 1, 1) := by decide +kernel
theorem dX3_spread_7 : decode cX3_spread 7 = .ok (.iaload, 1) := by decide +kernel
theorem dX3_spread_8 : decode cX3_spread 8 = .ok (.istore 4, 2) := by decide +kernel
theorem dX3_spread_10 : decode cX3_spread 10 = .ok (.iload 4, 2) := by decide +kernel
theorem dX3_spread_12 : decode cX3_spread 12 = .ok (.aload_n 0, 1) := by decide +kernel
theorem dX3_spread_13 : decode cX3_spread 13 = .ok (.getfield 21, 3) := by decide +kernel
theorem dX3_spread_16 : decode cX3_spread 16 = .ok (.iload_n 1, 1) := by decide +kernel
theorem dX3_spread_17 : decode cX3_spread 17 = .ok (.iconst 1, 1) := by decide +kernel
theorem dX3_spread_18 : decode cX3_spread 18 = .ok (.iadd, 1) := by decide +kernel
theorem dX3_spread_19 : decode cX3_spread 19 = .ok (.iaload, 1) := by decide +kernel
theorem dX3_spread_20 : decode cX3_spread 20 = .ok (.if_icmp .ge 65, 3) := by decide +kernel
theorem dX3_spread_23 : decode cX3_spread 23 = .ok (.aload_n 0, 1) := by decide +kernel
theorem dX3_spread_24 : decode cX3_spread 24 = .ok (.getfield 25, 3) := by decide +kernel
theorem dX3_spread_27 : decode cX3_spread 27 = .ok (.iload 4, 2) := by decide +kernel
theorem dX3_spread_29 : decode cX3_spread 29 = .ok (.iaload, 1) := by decide +kernel
theorem dX3_spread_30 : decode cX3_spread 30 = .ok (.istore 5, 2) := by decide +kernel
theorem dX3_spread_32 : decode cX3_spread 32 = .ok (.aload_n 0, 1) := by decide +kernel
theorem dX3_spread_33 : decode cX3_spread 33 = .ok (.getfield 28, 3) := by decide +kernel
theorem dX3_spread_36 : decode cX3_spread 36 = .ok (.iload 5, 2) := by decide +kernel
theorem dX3_spread_38 : decode cX3_spread 38 = .ok (.iaload, 1) := by decide +kernel
theorem dX3_spread_39 : decode cX3_spread 39 = .ok (.iconst (-1), 1) := by decide +kernel
theorem dX3_spread_40 : decode cX3_spread 40 = .ok (.if_icmp .ne 39, 3) := by decide +kernel
theorem dX3_spread_43 : decode cX3_spread 43 = .ok (.iload_n 3, 1) := by decide +kernel
theorem dX3_spread_44 : decode cX3_spread 44 = .ok (.sipush 462, 3) := by decide +kernel
theorem dX3_spread_47 : decode cX3_spread 47 = .ok (.if_icmp .lt 6, 3) := by decide +kernel
theorem dX3_spread_50 : decode cX3_spread 50 = .ok (.goto 29, 3) := by decide +kernel
theorem dX3_spread_53 : decode cX3_spread 53 = .ok (.aload_n 0, 1) := by decide +kernel
theorem dX3_spread_54 : decode cX3_spread 54 = .ok (.getfield 28, 3) := by decide +kernel
theorem dX3_spread_57 : decode cX3_spread 57 = .ok (.iload 5, 2) := by decide +kernel
theorem dX3_spread_59 : decode cX3_spread 59 = .ok (.aload_n 0, 1) := by decide +kernel
theorem dX3_spread_60 : decode cX3_spread 60 = .ok (.getfield 28, 3) := by decide +kernel
theorem dX3_spread_63 : decode cX3_spread 63 = .ok (.iload_n 1, 1) := by decide +kernel
theorem dX3_spread_64 : decode cX3_spread 64 = .ok (.iaload, 1) := by decide +kernel
theorem dX3_spread_65 : decode cX3_spread 65 = .ok (.iconst 1, 1) := by decide +kernel
theorem dX3_spread_66 : decode cX3_spread 66 = .ok (.iadd, 1) := by decide +kernel
theorem dX3_spread_67 : decode cX3_spread 67 = .ok (.iastore, 1) := by decide +kernel
theorem dX3_spread_68 : decode cX3_spread 68 = .ok (.aload_n 0, 1) := by decide +kernel
theorem dX3_spread_69 : decode cX3_spread 69 = .ok (.getfield 31, 3) := by decide +kernel
theorem dX3_spread_72 : decode cX3_spread 72 = .ok (.iload_n 3, 1) := by decide +kernel
theorem dX3_spread_73 : decode cX3_spread 73 = .ok (.iload 5, 2) := by decide +kernel
theorem dX3_spread_75 : decode cX3_spread 75 = .ok (.iastore, 1) := by decide +kernel
theorem dX3_spread_76 : decode cX3_spread 76 = .ok (.iinc 3 1, 3) := by decide +kernel
theorem dX3_spread_79 : decode cX3_spread 79 = .ok (.iinc 4 1, 3) := by decide +kernel
theorem dX3_spread_82 : decode cX3_spread 82 = .ok (.goto (-72), 3) := by decide +kernel
theorem dX3_spread_85 : decode cX3_spread 85 = .ok (.iload_n 3, 1) := by decide +kernel
theorem dX3_spread_86 : decode cX3_spread 86 = .ok (.ireturn, 1) := by decide +kernel
theorem dX3_findSteps_0 : decode cX3_findSteps 0 = .ok (.aload_n 0, 1) := by decide +kernel
theorem dX3_findSteps_1 : decode cX3_findSteps 1 = .ok (.aload_n 0, 1) := by decide +kernel
theorem dX3_findSteps_2 : decode cX3_findSteps 2 = .ok (.getfield 34, 3) := by decide +kernel
theorem dX3_findSteps_5 : decode cX3_findSteps 5 = .ok (.getfield 43, 3) := by decide +kernel
theorem dX3_findSteps_8 : decode cX3_findSteps 8 = .ok (.putfield 9, 3) := by decide +kernel
theorem dX3_findSteps_11 : decode cX3_findSteps 11 = .ok (.aload_n 0, 1) := by decide +kernel
theorem dX3_findSteps_12 : decode cX3_findSteps 12 = .ok (.iconst (-1), 1) := by decide +kernel
theorem dX3_findSteps_13 : decode cX3_findSteps 13 = .ok (.putfield 15, 3) := by decide +kernel
theorem dX3_findSteps_16 : decode cX3_findSteps 16 = .ok (.aload_n 0, 1) := by decide +kernel
theorem dX3_findSteps_17 : decode cX3_findSteps 17 = .ok (.iconst 0, 1) := by decide +kernel
theorem dX3_findSteps_18 : decode cX3_findSteps 18 = .ok (.putfield 18, 3) := by decide +kernel
theorem dX3_findSteps_21 : decode cX3_findSteps 21 = .ok (.iconst 0, 1) := by decide +kernel
theorem dX3_findSteps_22 : decode cX3_findSteps 22 = .ok (.istore_n 1, 1) := by decide +kernel
theorem dX3_findSteps_23 : decode cX3_findSteps 23 = .ok (.iload_n 1, 1) := by decide +kernel
theorem dX3_findSteps_24 : decode cX3_findSteps 24 = .ok (.aload_n 0, 1) := by decide +kernel
theorem dX3_findSteps_25 : decode cX3_findSteps 25 = .ok (.getfield 34, 3) := by decide +kernel
theorem dX3_findSteps_28 : decode cX3_findSteps 28 = .ok (.getfield 38, 3) := by decide +kernel
theorem dX3_findSteps_31 : decode cX3_findSteps 31 = .ok (.if_icmp .ge 24, 3) := by decide +kernel
theorem dX3_findSteps_34 : decode cX3_findSteps 34 = .ok (.aload_n 0, 1) := by decide +kernel
theorem dX3_findSteps_35 : decode cX3_findSteps 35 = .ok (.getfield 21, 3) := by decide +kernel
theorem dX3_findSteps_38 : decode cX3_findSteps 38 = .ok (.iload_n 1, 1) := by decide +kernel
theorem dX3_findSteps_39 : decode cX3_findSteps 39 = .ok (.aload_n 0, 1) := by decide +kernel
theorem dX3_findSteps_40 : decode cX3_findSteps 40 = .ok (.getfield 18, 3) := by decide +kernel
theorem dX3_findSteps_43 : decode cX3_findSteps 43 = .ok (.iastore, 1) := by decide +kernel
theorem dX3_findSteps_44 : decode cX3_findSteps 44 = .ok (.aload_n 0, 1) := by decide +kernel
theorem dX3_findSteps_45 : decode cX3_findSteps 45 = .ok (.iload_n 1, 1) := by decide +kernel
theorem dX3_findSteps_46 : decode cX3_findSteps 46 = .ok (.invokevirtual 51, 3) := by decide +kernel
theorem dX3_findSteps_49 : decode cX3_findSteps 49 = .ok (.iinc 1 1, 3) := by decide +kernel
theorem dX3_findSteps_52 : decode cX3_findSteps 52 = .ok (.goto (-29), 3) := by decide +kernel
theorem dX3_findSteps_55 : decode cX3_findSteps 55 = .ok (.aload_n 0, 1) := by decide +kernel
theorem dX3_findSteps_56 : decode cX3_findSteps 56 = .ok (.getfield 21, 3) := by decide +kernel
theorem dX3_findSteps_59 : decode cX3_findSteps 59 = .ok (.aload_n 0, 1) := by decide +kernel
theorem dX3_findSteps_60 : decode cX3_findSteps 60 = .ok (.getfield 34, 3) := by decide +kernel
theorem dX3_findSteps_63 : decode cX3_findSteps 63 = .ok (.getfield 38, 3) := by decide +kernel
theorem dX3_findSteps_66 : decode cX3_findSteps 66 = .ok (.aload_n 0, 1) := by decide +kernel
theorem dX3_findSteps_67 : decode cX3_findSteps 67 = .ok (.getfield 18, 3) := by decide +kernel
theorem dX3_findSteps_70 : decode cX3_findSteps 70 = .ok (.iastore, 1) := by decide +kernel
theorem dX3_findSteps_71 : decode cX3_findSteps 71 = .ok (.return_, 1) := by decide +kernel
theorem dX3_findStepsFrom_0 : decode cX3_findStepsFrom 0 = .ok (.iconst 0, 1) := by decide +kernel
theorem dX3_findStepsFrom_1 : decode cX3_findStepsFrom 1 = .ok (.istore_n 2, 1) := by decide +kernel
theorem dX3_findStepsFrom_2 : decode cX3_findStepsFrom 2 = .ok (.iload_n 2, 1) := by decide +kernel
theorem dX3_findStepsFrom_3 : decode cX3_findStepsFrom 3 = .ok (.aload_n 0, 1) := by decide +kernel
theorem dX3_findStepsFrom_4 : decode cX3_findStepsFrom 4 = .ok (.getfield 9, 3) := by decide +kernel
theorem dX3_findStepsFrom_7 : decode cX3_findStepsFrom 7 = .ok (.if_icmp .ge 69, 3) := by decide +kernel
theorem dX3_findStepsFrom_10 : decode cX3_findStepsFrom 10 = .ok (.aload_n 0, 1) := by decide +kernel
theorem dX3_findStepsFrom_11 : decode cX3_findStepsFrom 11 = .ok (.getfield 34, 3) := by decide +kernel
theorem dX3_findStepsFrom_14 : decode cX3_findStepsFrom 14 = .ok (.iload_n 1, 1) := by decide +kernel
theorem dX3_findStepsFrom_15 : decode cX3_findStepsFrom 15 = .ok (.iload_n 2, 1) := by decide +kernel
theorem dX3_findStepsFrom_16 : decode cX3_findStepsFrom 16 = .ok (.invokevirtual 55, 3) := by decide +kernel
theorem dX3_findStepsFrom_19 : decode cX3_findStepsFrom 19 = .ok (.istore_n 3, 1) := by decide +kernel
theorem dX3_findStepsFrom_20 : decode cX3_findStepsFrom 20 = .ok (.iconst 0, 1) := by decide +kernel
theorem dX3_findStepsFrom_21 : decode cX3_findStepsFrom 21 = .ok (.istore 4, 2) := by decide +kernel
theorem dX3_findStepsFrom_23 : decode cX3_findStepsFrom 23 = .ok (.iload 4, 2) := by decide +kernel
theorem dX3_findStepsFrom_25 : decode cX3_findStepsFrom 25 = .ok (.aload_n 0, 1) := by decide +kernel
theorem dX3_findStepsFrom_26 : decode cX3_findStepsFrom 26 = .ok (.getfield 9, 3) := by decide +kernel
theorem dX3_findStepsFrom_29 : decode cX3_findStepsFrom 29 = .ok (.if_icmp .ge 41, 3) := by decide +kernel
theorem dX3_findStepsFrom_32 : decode cX3_findStepsFrom 32 = .ok (.iload 4, 2) := by decide +kernel
theorem dX3_findStepsFrom_34 : decode cX3_findStepsFrom 34 = .ok (.iload_n 2, 1) := by decide +kernel
theorem dX3_findStepsFrom_35 : decode cX3_findStepsFrom 35 = .ok (.if_icmp .eq 29, 3) := by decide +kernel
theorem dX3_findStepsFrom_38 : decode cX3_findStepsFrom 38 = .ok (.iload 4, 2) := by decide +kernel
theorem dX3_findStepsFrom_40 : decode cX3_findStepsFrom 40 = .ok (.iload_n 2, 1) := by decide +kernel
theorem dX3_findStepsFrom_41 : decode cX3_findStepsFrom 41 = .ok (.iconst 1, 1) := by decide +kernel
theorem dX3_findStepsFrom_42 : decode cX3_findStepsFrom 42 = .ok (.isub, 1) := by decide +kernel
theorem dX3_findStepsFrom_43 : decode cX3_findStepsFrom 43 = .ok (.if_icmp .ne 6, 3) := by decide +kernel
theorem dX3_findStepsFrom_46 : decode cX3_findStepsFrom 46 = .ok (.goto 18, 3) := by decide +kernel
theorem dX3_findStepsFrom_49 : decode cX3_findStepsFrom 49 = .ok (.aload_n 0, 1) := by decide +kernel
theorem dX3_findStepsFrom_50 : decode cX3_findStepsFrom 50 = .ok (.aload_n 0, 1) := by decide +kernel
theorem dX3_findStepsFrom_51 : decode cX3_findStepsFrom 51 = .ok (.getfield 34, 3) := by decide +kernel
theorem dX3_findStepsFrom_54 : decode cX3_findStepsFrom 54 = .ok (.iload_n 1, 1) := by decide +kernel
theorem dX3_findStepsFrom_55 : decode cX3_findStepsFrom 55 = .ok (.iload_n 3, 1) := by decide +kernel
theorem dX3_findStepsFrom_56 : decode cX3_findStepsFrom 56 = .ok (.iload 4, 2) := by decide +kernel
theorem dX3_findStepsFrom_58 : decode cX3_findStepsFrom 58 = .ok (.invokevirtual 58, 3) := by decide +kernel
theorem dX3_findStepsFrom_61 : decode cX3_findStepsFrom 61 = .ok (.invokevirtual 62, 3) := by decide +kernel
theorem dX3_findStepsFrom_64 : decode cX3_findStepsFrom 64 = .ok (.iinc 4 1, 3) := by decide +kernel
theorem dX3_findStepsFrom_67 : decode cX3_findStepsFrom 67 = .ok (.goto (-44), 3) := by decide +kernel
theorem dX3_findStepsFrom_70 : decode cX3_findStepsFrom 70 = .ok (.iinc 2 1, 3) := by decide +kernel
theorem dX3_findStepsFrom_73 : decode cX3_findStepsFrom 73 = .ok (.goto (-71), 3) := by decide +kernel
theorem dX3_findStepsFrom_76 : decode cX3_findStepsFrom 76 = .ok (.return_, 1) := by decide +kernel
theorem dX3_addStep_0 : decode cX3_addStep 0 = .ok (.iload_n 1, 1) := by decide +kernel
theorem dX3_addStep_1 : decode cX3_addStep 1 = .ok (.iconst (-1), 1) := by decide +kernel
theorem dX3_addStep_2 : decode cX3_addStep 2 = .ok (.if_icmp .eq 13, 3) := by decide +kernel
theorem dX3_addStep_5 : decode cX3_addStep 5 = .ok (.aload_n 0, 1) := by decide +kernel
theorem dX3_addStep_6 : decode cX3_addStep 6 = .ok (.getfield 18, 3) := by decide +kernel
theorem dX3_addStep_9 : decode cX3_addStep 9 = .ok (.sipush 3964, 3) := by decide +kernel
theorem dX3_addStep_12 : decode cX3_addStep 12 = .ok (.if_icmp .lt 4, 3) := by decide +kernel
theorem dX3_addStep_15 : decode cX3_addStep 15 = .ok (.return_, 1) := by decide +kernel
theorem dX3_addStep_16 : decode cX3_addStep 16 = .ok (.aload_n 0, 1) := by decide +kernel
theorem dX3_addStep_17 : decode cX3_addStep 17 = .ok (.getfield 25, 3) := by decide +kernel
theorem dX3_addStep_20 : decode cX3_addStep 20 = .ok (.aload_n 0, 1) := by decide +kernel
theorem dX3_addStep_21 : decode cX3_addStep 21 = .ok (.getfield 18, 3) := by decide +kernel
theorem dX3_addStep_24 : decode cX3_addStep 24 = .ok (.iload_n 1, 1) := by decide +kernel
theorem dX3_addStep_25 : decode cX3_addStep 25 = .ok (.iastore, 1) := by decide +kernel
theorem dX3_addStep_26 : decode cX3_addStep 26 = .ok (.aload_n 0, 1) := by decide +kernel
theorem dX3_addStep_27 : decode cX3_addStep 27 = .ok (.dup, 1) := by decide +kernel
theorem dX3_addStep_28 : decode cX3_addStep 28 = .ok (.getfield 18, 3) := by decide +kernel
theorem dX3_addStep_31 : decode cX3_addStep 31 = .ok (.iconst 1, 1) := by decide +kernel
theorem dX3_addStep_32 : decode cX3_addStep 32 = .ok (.iadd, 1) := by decide +kernel
theorem dX3_addStep_33 : decode cX3_addStep 33 = .ok (.putfield 18, 3) := by decide +kernel
theorem dX3_addStep_36 : decode cX3_addStep 36 = .ok (.return_, 1) := by decide +kernel
theorem dX4_init_0 : decode cX4_init 0 = .ok (.aload_n 0, 1) := by decide +kernel
theorem dX4_init_1 : decode cX4_init 1 = .ok (.invokespecial 3, 3) := by decide +kernel
theorem dX4_init_4 : decode cX4_init 4 = .ok (.aload_n 0, 1) := by decide +kernel
theorem dX4_init_5 : decode cX4_init 5 = .ok (.bipush 7, 2) := by decide +kernel
theorem dX4_init_7 : decode cX4_init 7 = .ok (.newarray .int, 2) := by decide +kernel
theorem dX4_init_9 : decode cX4_init 9 = .ok (.putfield 9, 3) := by decide +kernel
theorem dX4_init_12 : decode cX4_init 12 = .ok (.aload_n 0, 1) := by decide +kernel
theorem dX4_init_13 : decode cX4_init 13 = .ok (.iconst 0, 1) := by decide +kernel
theorem dX4_init_14 : decode cX4_init 14 = .ok (.putfield 15, 3) := by decide +kernel
theorem dX4_init_17 : decode cX4_init 17 = .ok (.aload_n 0, 1) := by decide +kernel
theorem dX4_init_18 : decode cX4_init 18 = .ok (.iconst 0, 1) := by decide +kernel
theorem dX4_init_19 : decode cX4_init 19 = .ok (.putfield 19, 3) := by decide +kernel
theorem dX4_init_22 : decode cX4_init 22 = .ok (.aload_n 0, 1) := by decide +kernel
theorem dX4_init_23 : decode cX4_init 23 = .ok (.iconst 0, 1) := by decide +kernel
theorem dX4_init_24 : decode cX4_init 24 = .ok (.putfield 22, 3) := by decide +kernel
theorem dX4_init_27 : decode cX4_init 27 = .ok (.aload_n 0, 1) := by decide +kernel
theorem dX4_init_28 : decode cX4_init 28 = .ok (.bipush 6, 2) := by decide +kernel
theorem dX4_init_30 : decode cX4_init 30 = .ok (.newarray .int, 2) := by decide +kernel
theorem dX4_init_32 : decode cX4_init 32 = .ok (.putfield 25, 3) := by decide +kernel
theorem dX4_init_35 : decode cX4_init 35 = .ok (.aload_n 0, 1) := by decide +kernel
theorem dX4_init_36 : decode cX4_init 36 = .ok (.bipush 6, 2) := by decide +kernel
theorem dX4_init_38 : decode cX4_init 38 = .ok (.newarray .int, 2) := by decide +kernel
theorem dX4_init_40 : decode cX4_init 40 = .ok (.putfield 28, 3) := by decide +kernel
theorem dX4_init_43 : decode cX4_init 43 = .ok (.aload_n 0, 1) := by decide +kernel
theorem dX4_init_44 : decode cX4_init 44 = .ok (.bipush 6, 2) := by decide +kernel
theorem dX4_init_46 : decode cX4_init 46 = .ok (.newarray .boolean, 2) := by decide +kernel
theorem dX4_init_48 : decode cX4_init 48 = .ok (.putfield 31, 3) := by decide +kernel
theorem dX4_init_51 : decode cX4_init 51 = .ok (.return_, 1) := by decide +kernel
theorem dX4_addSeen_0 : decode cX4_addSeen 0 = .ok (.aload_n 0, 1) := by decide +kernel
theorem dX4_addSeen_1 : decode cX4_addSeen 1 = .ok (.getfield 22, 3) := by decide +kernel
theorem dX4_addSeen_4 : decode cX4_addSeen 4 = .ok (.bipush 6, 2) := by decide +kernel
theorem dX4_addSeen_6 : decode cX4_addSeen 6 = .ok (.if_icmp .lt 4, 3) := by decide +kernel
theorem dX4_addSeen_9 : decode cX4_addSeen 9 = .ok (.return_, 1) := by decide +kernel
theorem dX4_addSeen_10 : decode cX4_addSeen 10 = .ok (.aload_n 0, 1) := by decide +kernel
theorem dX4_addSeen_11 : decode cX4_addSeen 11 = .ok (.getfield 25, 3) := by decide +kernel
theorem dX4_addSeen_14 : decode cX4_addSeen 14 = .ok (.aload_n 0, 1) := by decide +kernel
theorem dX4_addSeen_15 : decode cX4_addSeen 15 = .ok (.getfield 22, 3) := by decide +kernel
theorem dX4_addSeen_18 : decode cX4_addSeen 18 = .ok (.iload_n 1, 1) := by decide +kernel
theorem dX4_addSeen_19 : decode cX4_addSeen 19 = .ok (.iastore, 1) := by decide +kernel
theorem dX4_addSeen_20 : decode cX4_addSeen 20 = .ok (.aload_n 0, 1) := by decide +kernel
theorem dX4_addSeen_21 : decode cX4_addSeen 21 = .ok (.getfield 28, 3) := by decide +kernel
theorem dX4_addSeen_24 : decode cX4_addSeen 24 = .ok (.aload_n 0, 1) := by decide +kernel
theorem dX4_addSeen_25 : decode cX4_addSeen 25 = .ok (.getfield 22, 3) := by decide +kernel
theorem dX4_addSeen_28 : decode cX4_addSeen 28 = .ok (.iload_n 2, 1) := by decide +kernel
theorem dX4_addSeen_29 : decode cX4_addSeen 29 = .ok (.iastore, 1) := by decide +kernel
theorem dX4_addSeen_30 : decode cX4_addSeen 30 = .ok (.aload_n 0, 1) := by decide +kernel
theorem dX4_addSeen_31 : decode cX4_addSeen 31 = .ok (.getfield 31, 3) := by decide +kernel
theorem dX4_addSeen_34 : decode cX4_addSeen 34 = .ok (.aload_n 0, 1) := by decide +kernel
theorem dX4_addSeen_35 : decode cX4_addSeen 35 = .ok (.getfield 22, 3) := by decide +kernel
theorem dX4_addSeen_38 : decode cX4_addSeen 38 = .ok (.iload_n 3, 1) := by decide +kernel
theorem dX4_addSeen_39 : decode cX4_addSeen 39 = .ok (.bastore, 1) := by decide +kernel
theorem dX4_addSeen_40 : decode cX4_addSeen 40 = .ok (.aload_n 0, 1) := by decide +kernel
theorem dX4_addSeen_41 : decode cX4_addSeen 41 = .ok (.dup, 1) := by decide +kernel
theorem dX4_addSeen_42 : decode cX4_addSeen 42 = .ok (.getfield 22, 3) := by decide +kernel
theorem dX4_addSeen_45 : decode cX4_addSeen 45 = .ok (.iconst 1, 1) := by decide +kernel
theorem dX4_addSeen_46 : decode cX4_addSeen 46 = .ok (.iadd, 1) := by decide +kernel
theorem dX4_addSeen_47 : decode cX4_addSeen 47 = .ok (.putfield 22, 3) := by decide +kernel
theorem dX4_addSeen_50 : decode cX4_addSeen 50 = .ok (.return_, 1) := by decide +kernel
theorem dX4_copyFrom_0 : decode cX4_copyFrom 0 = .ok (.iconst 0, 1) := by decide +kernel
theorem dX4_copyFrom_1 : decode cX4_copyFrom 1 = .ok (.istore_n 2, 1) := by decide +kernel
theorem dX4_copyFrom_2 : decode cX4_copyFrom 2 = .ok (.iload_n 2, 1) := by decide +kernel
theorem dX4_copyFrom_3 : decode cX4_copyFrom 3 = .ok (.bipush 7, 2) := by decide +kernel
theorem dX4_copyFrom_5 : decode cX4_copyFrom 5 = .ok (.if_icmp .ge 21, 3) := by decide +kernel
theorem dX4_copyFrom_8 : decode cX4_copyFrom 8 = .ok (.aload_n 0, 1) := by decide +kernel
theorem dX4_copyFrom_9 : decode cX4_copyFrom 9 = .ok (.getfield 9, 3) := by decide +kernel
theorem dX4_copyFrom_12 : decode cX4_copyFrom 12 = .ok (.iload_n 2, 1) := by decide +kernel
theorem dX4_copyFrom_13 : decode cX4_copyFrom 13 = .ok (.aload_n 1, 1) := by decide +kernel
theorem dX4_copyFrom_14 : decode cX4_copyFrom 14 = .ok (.getfield 9, 3) := by decide +kernel
theorem dX4_copyFrom_17 : decode cX4_copyFrom 17 = .ok (.iload_n 2, 1) := by decide +kernel
theorem dX4_copyFrom_18 : decode cX4_copyFrom 18 = .ok (.iaload, 1) := by decide +kernel
theorem dX4_copyFrom_19 : decode cX4_copyFrom 19 = .ok (.iastore, 1) := by decide +kernel
theorem dX4_copyFrom_20 : decode cX4_copyFrom 20 = .ok (.iinc 2 1, 3) := by decide +kernel
theorem dX4_copyFrom_23 : decode cX4_copyFrom 23 = .ok (.goto (-21), 3) := by decide +kernel
theorem dX4_copyFrom_26 : decode cX4_copyFrom 26 = .ok (.aload_n 0, 1) := by decide +kernel
theorem dX4_copyFrom_27 : decode cX4_copyFrom 27 = .ok (.aload_n 1, 1) := by decide +kernel
theorem dX4_copyFrom_28 : decode cX4_copyFrom 28 = .ok (.getfield 15, 3) := by decide +kernel
theorem dX4_copyFrom_31 : decode cX4_copyFrom 31 = .ok (.putfield 15, 3) := by decide +kernel
theorem dX4_copyFrom_34 : decode cX4_copyFrom 34 = .ok (.aload_n 0, 1) := by decide +kernel
theorem dX4_copyFrom_35 : decode cX4_copyFrom 35 = .ok (.aload_n 1, 1) := by decide +kernel
theorem dX4_copyFrom_36 : decode cX4_copyFrom 36 = .ok (.getfield 19, 3) := by decide +kernel
theorem dX4_copyFrom_39 : decode cX4_copyFrom 39 = .ok (.putfield 19, 3) := by decide +kernel
theorem dX4_copyFrom_42 : decode cX4_copyFrom 42 = .ok (.aload_n 0, 1) := by decide +kernel
theorem dX4_copyFrom_43 : decode cX4_copyFrom 43 = .ok (.aload_n 1, 1) := by decide +kernel
theorem dX4_copyFrom_44 : decode cX4_copyFrom 44 = .ok (.getfield 22, 3) := by decide +kernel
theorem dX4_copyFrom_47 : decode cX4_copyFrom 47 = .ok (.putfield 22, 3) := by decide +kernel
theorem dX4_copyFrom_50 : decode cX4_copyFrom 50 = .ok (.iconst 0, 1) := by decide +kernel
theorem dX4_copyFrom_51 : decode cX4_copyFrom 51 = .ok (.istore_n 2, 1) := by decide +kernel
theorem dX4_copyFrom_52 : decode cX4_copyFrom 52 = .ok (.iload_n 2, 1) := by decide +kernel
theorem dX4_copyFrom_53 : decode cX4_copyFrom 53 = .ok (.bipush 6, 2) := by decide +kernel
theorem dX4_copyFrom_55 : decode cX4_copyFrom 55 = .ok (.if_icmp .ge 45, 3) := by decide +kernel
theorem dX4_copyFrom_58 : decode cX4_copyFrom 58 = .ok (.aload_n 0, 1) := by decide +kernel
theorem dX4_copyFrom_59 : decode cX4_copyFrom 59 = .ok (.getfield 25, 3) := by decide +kernel
theorem dX4_copyFrom_62 : decode cX4_copyFrom 62 = .ok (.iload_n 2, 1) := by decide +kernel
theorem dX4_copyFrom_63 : decode cX4_copyFrom 63 = .ok (.aload_n 1, 1) := by decide +kernel
theorem dX4_copyFrom_64 : decode cX4_copyFrom 64 = .ok (.getfield 25, 3) := by decide +kernel
theorem dX4_copyFrom_67 : decode cX4_copyFrom 67 = .ok (.iload_n 2, 1) := by decide +kernel
theorem dX4_copyFrom_68 : decode cX4_copyFrom 68 = .ok (.iaload, 1) := by decide +kernel
theorem dX4_copyFrom_69 : decode cX4_copyFrom 69 = .ok (.iastore, 1) := by decide +kernel
theorem dX4_copyFrom_70 : decode cX4_copyFrom 70 = .ok (.aload_n 0, 1) := by decide +kernel
theorem dX4_copyFrom_71 : decode cX4_copyFrom 71 = .ok (.getfield 28, 3) := by decide +kernel
theorem dX4_copyFrom_74 : decode cX4_copyFrom 74 = .ok (.iload_n 2, 1) := by decide +kernel
theorem dX4_copyFrom_75 : decode cX4_copyFrom 75 = .ok (.aload_n 1, 1) := by decide +kernel
theorem dX4_copyFrom_76 : decode cX4_copyFrom 76 = .ok (.getfield 28, 3) := by decide +kernel
theorem dX4_copyFrom_79 : decode cX4_copyFrom 79 = .ok (.iload_n 2, 1) := by decide +kernel
theorem dX4_copyFrom_80 : decode cX4_copyFrom 80 = .ok (.iaload, 1) := by decide +kernel
theorem dX4_copyFrom_81 : decode cX4_copyFrom 81 = .ok (.iastore, 1) := by decide +kernel
theorem dX4_copyFrom_82 : decode cX4_copyFrom 82 = .ok (.aload_n 0, 1) := by decide +kernel
theorem dX4_copyFrom_83 : decode cX4_copyFrom 83 = .ok (.getfield 31, 3) := by decide +kernel
theorem dX4_copyFrom_86 : decode cX4_copyFrom 86 = .ok (.iload_n 2, 1) := by decide +kernel
theorem dX4_copyFrom_87 : decode cX4_copyFrom 87 = .ok (.aload_n 1, 1) := by decide +kernel
theorem dX4_copyFrom_88 : decode cX4_copyFrom 88 = .ok (.getfield 31, 3) := by decide +kernel
theorem dX4_copyFrom_91 : decode cX4_copyFrom 91 = .ok (.iload_n 2, 1) := by decide +kernel
theorem dX4_copyFrom_92 : decode cX4_copyFrom 92 = .ok (.baload, 1) := by decide +kernel
theorem dX4_copyFrom_93 : decode cX4_copyFrom 93 = .ok (.bastore, 1) := by decide +kernel
theorem dX4_copyFrom_94 : decode cX4_copyFrom 94 = .ok (.iinc 2 1, 3) := by decide +kernel
theorem dX4_copyFrom_97 : decode cX4_copyFrom 97 = .ok (.goto (-45), 3) := by decide +kernel
theorem dX4_copyFrom_100 : decode cX4_copyFrom 100 = .ok (.return_, 1) := by decide +kernel
theorem dX5_init_0 : decode cX5_init 0 = .ok (.aload_n 0, 1) := by decide +kernel
theorem dX5_init_1 : decode cX5_init 1 = .ok (.invokespecial 3, 3) := by decide +kernel
theorem dX5_init_4 : decode cX5_init 4 = .ok (.aload_n 0, 1) := by decide +kernel
theorem dX5_init_5 : decode cX5_init 5 = .ok (.iconst 0, 1) := by decide +kernel
theorem dX5_init_6 : decode cX5_init 6 = .ok (.putfield 9, 3) := by decide +kernel
theorem dX5_init_9 : decode cX5_init 9 = .ok (.aload_n 0, 1) := by decide +kernel
theorem dX5_init_10 : decode cX5_init 10 = .ok (.sipush 462, 3) := by decide +kernel
theorem dX5_init_13 : decode cX5_init 13 = .ok (.newarray .boolean, 2) := by decide +kernel
theorem dX5_init_15 : decode cX5_init 15 = .ok (.putfield 15, 3) := by decide +kernel
theorem dX5_init_18 : decode cX5_init 18 = .ok (.aload_n 0, 1) := by decide +kernel
theorem dX5_init_19 : decode cX5_init 19 = .ok (.sipush 462, 3) := by decide +kernel
theorem dX5_init_22 : decode cX5_init 22 = .ok (.newarray .int, 2) := by decide +kernel
theorem dX5_init_24 : decode cX5_init 24 = .ok (.putfield 19, 3) := by decide +kernel
theorem dX5_init_27 : decode cX5_init 27 = .ok (.aload_n 0, 1) := by decide +kernel
theorem dX5_init_28 : decode cX5_init 28 = .ok (.aload_n 1, 1) := by decide +kernel
theorem dX5_init_29 : decode cX5_init 29 = .ok (.putfield 23, 3) := by decide +kernel
theorem dX5_init_32 : decode cX5_init 32 = .ok (.aload_n 0, 1) := by decide +kernel
theorem dX5_init_33 : decode cX5_init 33 = .ok (.aload_n 2, 1) := by decide +kernel
theorem dX5_init_34 : decode cX5_init 34 = .ok (.putfield 27, 3) := by decide +kernel
theorem dX5_init_37 : decode cX5_init 37 = .ok (.return_, 1) := by decide +kernel
theorem dX5_judgeAll_0 : decode cX5_judgeAll 0 = .ok (.aload_n 0, 1) := by decide +kernel
theorem dX5_judgeAll_1 : decode cX5_judgeAll 1 = .ok (.iconst 0, 1) := by decide +kernel
theorem dX5_judgeAll_2 : decode cX5_judgeAll 2 = .ok (.putfield 9, 3) := by decide +kernel
theorem dX5_judgeAll_5 : decode cX5_judgeAll 5 = .ok (.iconst 0, 1) := by decide +kernel
theorem dX5_judgeAll_6 : decode cX5_judgeAll 6 = .ok (.istore_n 1, 1) := by decide +kernel
theorem dX5_judgeAll_7 : decode cX5_judgeAll 7 = .ok (.iload_n 1, 1) := by decide +kernel
theorem dX5_judgeAll_8 : decode cX5_judgeAll 8 = .ok (.aload_n 0, 1) := by decide +kernel
theorem dX5_judgeAll_9 : decode cX5_judgeAll 9 = .ok (.getfield 23, 3) := by decide +kernel
theorem dX5_judgeAll_12 : decode cX5_judgeAll 12 = .ok (.getfield 30, 3) := by decide +kernel
theorem dX5_judgeAll_15 : decode cX5_judgeAll 15 = .ok (.if_icmp .ge 50, 3) := by decide +kernel
theorem dX5_judgeAll_18 : decode cX5_judgeAll 18 = .ok (.aload_n 0, 1) := by decide +kernel
theorem dX5_judgeAll_19 : decode cX5_judgeAll 19 = .ok (.getfield 15, 3) := by decide +kernel
theorem dX5_judgeAll_22 : decode cX5_judgeAll 22 = .ok (.iload_n 1, 1) := by decide +kernel
theorem dX5_judgeAll_23 : decode cX5_judgeAll 23 = .ok (.aload_n 0, 1) := by decide +kernel
theorem dX5_judgeAll_24 : decode cX5_judgeAll 24 = .ok (.iload_n 1, 1) := by decide +kernel
theorem dX5_judgeAll_25 : decode cX5_judgeAll 25 = .ok (.invokevirtual 35, 3) := by decide +kernel
theorem dX5_judgeAll_28 : decode cX5_judgeAll 28 = .ok (.bastore, 1) := by decide +kernel
theorem dX5_judgeAll_29 : decode cX5_judgeAll 29 = .ok (.aload_n 0, 1) := by decide +kernel
theorem dX5_judgeAll_30 : decode cX5_judgeAll 30 = .ok (.getfield 19, 3) := by decide +kernel
theorem dX5_judgeAll_33 : decode cX5_judgeAll 33 = .ok (.iload_n 1, 1) := by decide +kernel
theorem dX5_judgeAll_34 : decode cX5_judgeAll 34 = .ok (.aload_n 0, 1) := by decide +kernel
theorem dX5_judgeAll_35 : decode cX5_judgeAll 35 = .ok (.iload_n 1, 1) := by decide +kernel
theorem dX5_judgeAll_36 : decode cX5_judgeAll 36 = .ok (.invokevirtual 39, 3) := by decide +kernel
theorem dX5_judgeAll_39 : decode cX5_judgeAll 39 = .ok (.iastore, 1) := by decide +kernel
theorem dX5_judgeAll_40 : decode cX5_judgeAll 40 = .ok (.aload_n 0, 1) := by decide +kernel
theorem dX5_judgeAll_41 : decode cX5_judgeAll 41 = .ok (.getfield 15, 3) := by decide +kernel
theorem dX5_judgeAll_44 : decode cX5_judgeAll 44 = .ok (.iload_n 1, 1) := by decide +kernel
theorem dX5_judgeAll_45 : decode cX5_judgeAll 45 = .ok (.baload, 1) := by decide +kernel
theorem dX5_judgeAll_46 : decode cX5_judgeAll 46 = .ok (.ifCond .eq 13, 3) := by decide +kernel
theorem dX5_judgeAll_49 : decode cX5_judgeAll 49 = .ok (.aload_n 0, 1) := by decide +kernel
theorem dX5_judgeAll_50 : decode cX5_judgeAll 50 = .ok (.dup, 1) := by decide +kernel
theorem dX5_judgeAll_51 : decode cX5_judgeAll 51 = .ok (.getfield 9, 3) := by decide +kernel
theorem dX5_judgeAll_54 : decode cX5_judgeAll 54 = .ok (.iconst 1, 1) := by decide +kernel
theorem dX5_judgeAll_55 : decode cX5_judgeAll 55 = .ok (.iadd, 1) := by decide +kernel
theorem dX5_judgeAll_56 : decode cX5_judgeAll 56 = .ok (.putfield 9, 3) := by decide +kernel
theorem dX5_judgeAll_59 : decode cX5_judgeAll 59 = .ok (.iinc 1 1, 3) := by decide +kernel
theorem dX5_judgeAll_62 : decode cX5_judgeAll 62 = .ok (.goto (-55), 3) := by decide +kernel
theorem dX5_judgeAll_65 : decode cX5_judgeAll 65 = .ok (.return_, 1) := by decide +kernel
theorem dX5_isFit_0 : decode cX5_isFit 0 = .ok (.iload_n 1, 1) := by decide +kernel
theorem dX5_isFit_1 : decode cX5_isFit 1 = .ok (.ifCond .lt 27, 3) := by decide +kernel
theorem dX5_isFit_4 : decode cX5_isFit 4 = .ok (.iload_n 1, 1) := by decide +kernel
theorem dX5_isFit_5 : decode cX5_isFit 5 = .ok (.aload_n 0, 1) := by decide +kernel
theorem dX5_isFit_6 : decode cX5_isFit 6 = .ok (.getfield 23, 3) := by decide +kernel
theorem dX5_isFit_9 : decode cX5_isFit 9 = .ok (.getfield 30, 3) := by decide +kernel
theorem dX5_isFit_12 : decode cX5_isFit 12 = .ok (.if_icmp .ge 16, 3) := by decide +kernel
theorem dX5_isFit_15 : decode cX5_isFit 15 = .ok (.aload_n 0, 1) := by decide +kernel
theorem dX5_isFit_16 : decode cX5_isFit 16 = .ok (.getfield 15, 3) := by decide +kernel
theorem dX5_isFit_19 : decode cX5_isFit 19 = .ok (.iload_n 1, 1) := by decide +kernel
theorem dX5_isFit_20 : decode cX5_isFit 20 = .ok (.baload, 1) := by decide +kernel
theorem dX5_isFit_21 : decode cX5_isFit 21 = .ok (.ifCond .eq 7, 3) := by decide +kernel
theorem dX5_isFit_24 : decode cX5_isFit 24 = .ok (.iconst 1, 1) := by decide +kernel
theorem dX5_isFit_25 : decode cX5_isFit 25 = .ok (.goto 4, 3) := by decide +kernel
theorem dX5_isFit_28 : decode cX5_isFit 28 = .ok (.iconst 0, 1) := by decide +kernel
theorem dX5_isFit_29 : decode cX5_isFit 29 = .ok (.ireturn, 1) := by decide +kernel
theorem dX5_widestOf_0 : decode cX5_widestOf 0 = .ok (.iload_n 1, 1) := by decide +kernel
theorem dX5_widestOf_1 : decode cX5_widestOf 1 = .ok (.ifCond .lt 23, 3) := by decide +kernel
theorem dX5_widestOf_4 : decode cX5_widestOf 4 = .ok (.iload_n 1, 1) := by decide +kernel
theorem dX5_widestOf_5 : decode cX5_widestOf 5 = .ok (.aload_n 0, 1) := by decide +kernel
theorem dX5_widestOf_6 : decode cX5_widestOf 6 = .ok (.getfield 23, 3) := by decide +kernel
theorem dX5_widestOf_9 : decode cX5_widestOf 9 = .ok (.getfield 30, 3) := by decide +kernel
theorem dX5_widestOf_12 : decode cX5_widestOf 12 = .ok (.if_icmp .ge 12, 3) := by decide +kernel
theorem dX5_widestOf_15 : decode cX5_widestOf 15 = .ok (.aload_n 0, 1) := by decide +kernel
theorem dX5_widestOf_16 : decode cX5_widestOf 16 = .ok (.getfield 19, 3) := by decide +kernel
theorem dX5_widestOf_19 : decode cX5_widestOf 19 = .ok (.iload_n 1, 1) := by decide +kernel
theorem dX5_widestOf_20 : decode cX5_widestOf 20 = .ok (.iaload, 1) := by decide +kernel
theorem dX5_widestOf_21 : decode cX5_widestOf 21 = .ok (.goto 4, 3) := by decide +kernel
theorem dX5_widestOf_24 : decode cX5_widestOf 24 = .ok (.iconst 0, 1) := by decide +kernel
theorem dX5_widestOf_25 : decode cX5_widestOf 25 = .ok (.ireturn, 1) := by decide +kernel
theorem dX5_trimmest_0 : decode cX5_trimmest 0 = .ok (.iconst (-1), 1) := by decide +kernel
theorem dX5_trimmest_1 : decode cX5_trimmest 1 = .ok (.istore_n 1, 1) := by decide +kernel
theorem dX5_trimmest_2 : decode cX5_trimmest 2 = .ok (.iconst 0, 1) := by decide +kernel
theorem dX5_trimmest_3 : decode cX5_trimmest 3 = .ok (.istore_n 2, 1) := by decide +kernel
theorem dX5_trimmest_4 : decode cX5_trimmest 4 = .ok (.iload_n 2, 1) := by decide +kernel
theorem dX5_trimmest_5 : decode cX5_trimmest 5 = .ok (.aload_n 0, 1) := by decide +kernel
theorem dX5_trimmest_6 : decode cX5_trimmest 6 = .ok (.getfield 23, 3) := by decide +kernel
theorem dX5_trimmest_9 : decode cX5_trimmest 9 = .ok (.getfield 30, 3) := by decide +kernel
theorem dX5_trimmest_12 : decode cX5_trimmest 12 = .ok (.if_icmp .ge 40, 3) := by decide +kernel
theorem dX5_trimmest_15 : decode cX5_trimmest 15 = .ok (.aload_n 0, 1) := by decide +kernel
theorem dX5_trimmest_16 : decode cX5_trimmest 16 = .ok (.getfield 15, 3) := by decide +kernel
theorem dX5_trimmest_19 : decode cX5_trimmest 19 = .ok (.iload_n 2, 1) := by decide +kernel
theorem dX5_trimmest_20 : decode cX5_trimmest 20 = .ok (.baload, 1) := by decide +kernel
theorem dX5_trimmest_21 : decode cX5_trimmest 21 = .ok (.ifCond .eq 25, 3) := by decide +kernel
theorem dX5_trimmest_24 : decode cX5_trimmest 24 = .ok (.iload_n 1, 1) := by decide +kernel
theorem dX5_trimmest_25 : decode cX5_trimmest 25 = .ok (.iconst (-1), 1) := by decide +kernel
theorem dX5_trimmest_26 : decode cX5_trimmest 26 = .ok (.if_icmp .eq 18, 3) := by decide +kernel
theorem dX5_trimmest_29 : decode cX5_trimmest 29 = .ok (.aload_n 0, 1) := by decide +kernel
theorem dX5_trimmest_30 : decode cX5_trimmest 30 = .ok (.getfield 19, 3) := by decide +kernel
theorem dX5_trimmest_33 : decode cX5_trimmest 33 = .ok (.iload_n 2, 1) := by decide +kernel
theorem dX5_trimmest_34 : decode cX5_trimmest 34 = .ok (.iaload, 1) := by decide +kernel
theorem dX5_trimmest_35 : decode cX5_trimmest 35 = .ok (.aload_n 0, 1) := by decide +kernel
theorem dX5_trimmest_36 : decode cX5_trimmest 36 = .ok (.getfield 19, 3) := by decide +kernel
theorem dX5_trimmest_39 : decode cX5_trimmest 39 = .ok (.iload_n 1, 1) := by decide +kernel
theorem dX5_trimmest_40 : decode cX5_trimmest 40 = .ok (.iaload, 1) := by decide +kernel
theorem dX5_trimmest_41 : decode cX5_trimmest 41 = .ok (.if_icmp .ge 5, 3) := by decide +kernel
theorem dX5_trimmest_44 : decode cX5_trimmest 44 = .ok (.iload_n 2, 1) := by decide +kernel
theorem dX5_trimmest_45 : decode cX5_trimmest 45 = .ok (.istore_n 1, 1) := by decide +kernel
theorem dX5_trimmest_46 : decode cX5_trimmest 46 = .ok (.iinc 2 1, 3) := by decide +kernel
theorem dX5_trimmest_49 : decode cX5_trimmest 49 = .ok (.goto (-45), 3) := by decide +kernel
theorem dX5_trimmest_52 : decode cX5_trimmest 52 = .ok (.iload_n 1, 1) := by decide +kernel
theorem dX5_trimmest_53 : decode cX5_trimmest 53 = .ok (.ireturn, 1) := by decide +kernel
theorem dX5_fitsWithAbove_0 : decode cX5_fitsWithAbove 0 = .ok (.iconst 0, 1) := by decide +kernel
theorem dX5_fitsWithAbove_1 : decode cX5_fitsWithAbove 1 = .ok (.istore_n 3, 1) := by decide +kernel
theorem dX5_fitsWithAbove_2 : decode cX5_fitsWithAbove 2 = .ok (.iconst 0, 1) := by decide +kernel
theorem dX5_fitsWithAbove_3 : decode cX5_fitsWithAbove 3 = .ok (.istore 4, 2) := by decide +kernel
theorem dX5_fitsWithAbove_5 : decode cX5_fitsWithAbove 5 = .ok (.iload 4, 2) := by decide +kernel
theorem dX5_fitsWithAbove_7 : decode cX5_fitsWithAbove 7 = .ok (.aload_n 0, 1) := by decide +kernel
theorem dX5_fitsWithAbove_8 : decode cX5_fitsWithAbove 8 = .ok (.getfield 23, 3) := by decide +kernel
theorem dX5_fitsWithAbove_11 : decode cX5_fitsWithAbove 11 = .ok (.getfield 30, 3) := by decide +kernel
theorem dX5_fitsWithAbove_14 : decode cX5_fitsWithAbove 14 = .ok (.if_icmp .ge 45, 3) := by decide +kernel
theorem dX5_fitsWithAbove_17 : decode cX5_fitsWithAbove 17 = .ok (.aload_n 0, 1) := by decide +kernel
theorem dX5_fitsWithAbove_18 : decode cX5_fitsWithAbove 18 = .ok (.getfield 15, 3) := by decide +kernel
theorem dX5_fitsWithAbove_21 : decode cX5_fitsWithAbove 21 = .ok (.iload 4, 2) := by decide +kernel
theorem dX5_fitsWithAbove_23 : decode cX5_fitsWithAbove 23 = .ok (.baload, 1) := by decide +kernel
theorem dX5_fitsWithAbove_24 : decode cX5_fitsWithAbove 24 = .ok (.ifCond .eq 29, 3) := by decide +kernel
theorem dX5_fitsWithAbove_27 : decode cX5_fitsWithAbove 27 = .ok (.aload_n 0, 1) := by decide +kernel
theorem dX5_fitsWithAbove_28 : decode cX5_fitsWithAbove 28 = .ok (.getfield 23, 3) := by decide +kernel
theorem dX5_fitsWithAbove_31 : decode cX5_fitsWithAbove 31 = .ok (.iload 4, 2) := by decide +kernel
theorem dX5_fitsWithAbove_33 : decode cX5_fitsWithAbove 33 = .ok (.iload_n 1, 1) := by decide +kernel
theorem dX5_fitsWithAbove_34 : decode cX5_fitsWithAbove 34 = .ok (.invokevirtual 43, 3) := by decide +kernel
theorem dX5_fitsWithAbove_37 : decode cX5_fitsWithAbove 37 = .ok (.aload_n 0, 1) := by decide +kernel
theorem dX5_fitsWithAbove_38 : decode cX5_fitsWithAbove 38 = .ok (.getfield 23, 3) := by decide +kernel
theorem dX5_fitsWithAbove_41 : decode cX5_fitsWithAbove 41 = .ok (.iload 4, 2) := by decide +kernel
theorem dX5_fitsWithAbove_43 : decode cX5_fitsWithAbove 43 = .ok (.iload_n 2, 1) := by decide +kernel
theorem dX5_fitsWithAbove_44 : decode cX5_fitsWithAbove 44 = .ok (.invokevirtual 43, 3) := by decide +kernel
theorem dX5_fitsWithAbove_47 : decode cX5_fitsWithAbove 47 = .ok (.if_icmp .ge 6, 3) := by decide +kernel
theorem dX5_fitsWithAbove_50 : decode cX5_fitsWithAbove 50 = .ok (.iinc 3 1, 3) := by decide +kernel
theorem dX5_fitsWithAbove_53 : decode cX5_fitsWithAbove 53 = .ok (.iinc 4 1, 3) := by decide +kernel
theorem dX5_fitsWithAbove_56 : decode cX5_fitsWithAbove 56 = .ok (.goto (-51), 3) := by decide +kernel
theorem dX5_fitsWithAbove_59 : decode cX5_fitsWithAbove 59 = .ok (.iload_n 3, 1) := by decide +kernel
theorem dX5_fitsWithAbove_60 : decode cX5_fitsWithAbove 60 = .ok (.ireturn, 1) := by decide +kernel
theorem dX5_isContent_0 : decode cX5_isContent 0 = .ok (.aload_n 0, 1) := by decide +kernel
theorem dX5_isContent_1 : decode cX5_isContent 1 = .ok (.getfield 23, 3) := by decide +kernel
theorem dX5_isContent_4 : decode cX5_isContent 4 = .ok (.iload_n 1, 1) := by decide +kernel
theorem dX5_isContent_5 : decode cX5_isContent 5 = .ok (.iload_n 2, 1) := by decide +kernel
theorem dX5_isContent_6 : decode cX5_isContent 6 = .ok (.invokevirtual 43, 3) := by decide +kernel
theorem dX5_isContent_9 : decode cX5_isContent 9 = .ok (.istore_n 3, 1) := by decide +kernel
theorem dX5_isContent_10 : decode cX5_isContent 10 = .ok (.iload_n 3, 1) := by decide +kernel
theorem dX5_isContent_11 : decode cX5_isContent 11 = .ok (.iconst (-1), 1) := by decide +kernel
theorem dX5_isContent_12 : decode cX5_isContent 12 = .ok (.if_icmp .ne 5, 3) := by decide +kernel
theorem dX5_isContent_15 : decode cX5_isContent 15 = .ok (.iconst 0, 1) := by decide +kernel
theorem dX5_isContent_16 : decode cX5_isContent 16 = .ok (.ireturn, 1) := by decide +kernel
theorem dX5_isContent_17 : decode cX5_isContent 17 = .ok (.iload_n 3, 1) := by decide +kernel
theorem dX5_isContent_18 : decode cX5_isContent 18 = .ok (.ifCond .eq 16, 3) := by decide +kernel
theorem dX5_isContent_21 : decode cX5_isContent 21 = .ok (.iload_n 3, 1) := by decide +kernel
theorem dX5_isContent_22 : decode cX5_isContent 22 = .ok (.aload_n 0, 1) := by decide +kernel
theorem dX5_isContent_23 : decode cX5_isContent 23 = .ok (.getfield 23, 3) := by decide +kernel
theorem dX5_isContent_26 : decode cX5_isContent 26 = .ok (.getfield 47, 3) := by decide +kernel
theorem dX5_isContent_29 : decode cX5_isContent 29 = .ok (.iconst 1, 1) := by decide +kernel
theorem dX5_isContent_30 : decode cX5_isContent 30 = .ok (.isub, 1) := by decide +kernel
theorem dX5_isContent_31 : decode cX5_isContent 31 = .ok (.if_icmp .ne 7, 3) := by decide +kernel
theorem dX5_isContent_34 : decode cX5_isContent 34 = .ok (.iconst 1, 1) := by decide +kernel
theorem dX5_isContent_35 : decode cX5_isContent 35 = .ok (.goto 4, 3) := by decide +kernel
theorem dX5_isContent_38 : decode cX5_isContent 38 = .ok (.iconst 0, 1) := by decide +kernel
theorem dX5_isContent_39 : decode cX5_isContent 39 = .ok (.istore 4, 2) := by decide +kernel
theorem dX5_isContent_41 : decode cX5_isContent 41 = .ok (.aload_n 0, 1) := by decide +kernel
theorem dX5_isContent_42 : decode cX5_isContent 42 = .ok (.getfield 27, 3) := by decide +kernel
theorem dX5_isContent_45 : decode cX5_isContent 45 = .ok (.iload_n 2, 1) := by decide +kernel
theorem dX5_isContent_46 : decode cX5_isContent 46 = .ok (.iaload, 1) := by decide +kernel
theorem dX5_isContent_47 : decode cX5_isContent 47 = .ok (.iconst 3, 1) := by decide +kernel
theorem dX5_isContent_48 : decode cX5_isContent 48 = .ok (.if_icmp .ne 6, 3) := by decide +kernel
theorem dX5_isContent_51 : decode cX5_isContent 51 = .ok (.iload 4, 2) := by decide +kernel
theorem dX5_isContent_53 : decode cX5_isContent 53 = .ok (.ireturn, 1) := by decide +kernel
theorem dX5_isContent_54 : decode cX5_isContent 54 = .ok (.aload_n 0, 1) := by decide +kernel
theorem dX5_isContent_55 : decode cX5_isContent 55 = .ok (.getfield 27, 3) := by decide +kernel
theorem dX5_isContent_58 : decode cX5_isContent 58 = .ok (.iload_n 2, 1) := by decide +kernel
theorem dX5_isContent_59 : decode cX5_isContent 59 = .ok (.iaload, 1) := by decide +kernel
theorem dX5_isContent_60 : decode cX5_isContent 60 = .ok (.iconst 4, 1) := by decide +kernel
theorem dX5_isContent_61 : decode cX5_isContent 61 = .ok (.if_icmp .ne 10, 3) := by decide +kernel
theorem dX5_isContent_64 : decode cX5_isContent 64 = .ok (.iload 4, 2) := by decide +kernel
theorem dX5_isContent_66 : decode cX5_isContent 66 = .ok (.ifCond .eq 5, 3) := by decide +kernel
theorem dX5_isContent_69 : decode cX5_isContent 69 = .ok (.iconst 0, 1) := by decide +kernel
theorem dX5_isContent_70 : decode cX5_isContent 70 = .ok (.ireturn, 1) := by decide +kernel
theorem dX5_isContent_71 : decode cX5_isContent 71 = .ok (.aload_n 0, 1) := by decide +kernel
theorem dX5_isContent_72 : decode cX5_isContent 72 = .ok (.getfield 27, 3) := by decide +kernel
theorem dX5_isContent_75 : decode cX5_isContent 75 = .ok (.iload_n 2, 1) := by decide +kernel
theorem dX5_isContent_76 : decode cX5_isContent 76 = .ok (.iaload, 1) := by decide +kernel
theorem dX5_isContent_77 : decode cX5_isContent 77 = .ok (.iconst 2, 1) := by decide +kernel
theorem dX5_isContent_78 : decode cX5_isContent 78 = .ok (.invokestatic 50, 3) := by decide +kernel
theorem dX5_isContent_81 : decode cX5_isContent 81 = .ok (.ifCond .eq 25, 3) := by decide +kernel
theorem dX5_isContent_84 : decode cX5_isContent 84 = .ok (.aload_n 0, 1) := by decide +kernel
theorem dX5_isContent_85 : decode cX5_isContent 85 = .ok (.iload_n 1, 1) := by decide +kernel
theorem dX5_isContent_86 : decode cX5_isContent 86 = .ok (.iload_n 3, 1) := by decide +kernel
theorem dX5_isContent_87 : decode cX5_isContent 87 = .ok (.iconst 1, 1) := by decide +kernel
theorem dX5_isContent_88 : decode cX5_isContent 88 = .ok (.isub, 1) := by decide +kernel
theorem dX5_isContent_89 : decode cX5_isContent 89 = .ok (.invokevirtual 54, 3) := by decide +kernel
theorem dX5_isContent_92 : decode cX5_isContent 92 = .ok (.ifCond .ne 18, 3) := by decide +kernel
theorem dX5_isContent_95 : decode cX5_isContent 95 = .ok (.aload_n 0, 1) := by decide +kernel
theorem dX5_isContent_96 : decode cX5_isContent 96 = .ok (.iload_n 1, 1) := by decide +kernel
theorem dX5_isContent_97 : decode cX5_isContent 97 = .ok (.iload_n 3, 1) := by decide +kernel
theorem dX5_isContent_98 : decode cX5_isContent 98 = .ok (.iconst 1, 1) := by decide +kernel
theorem dX5_isContent_99 : decode cX5_isContent 99 = .ok (.iadd, 1) := by decide +kernel
theorem dX5_isContent_100 : decode cX5_isContent 100 = .ok (.invokevirtual 54, 3) := by decide +kernel
theorem dX5_isContent_103 : decode cX5_isContent 103 = .ok (.ifCond .ne 7, 3) := by decide +kernel
theorem dX5_isContent_106 : decode cX5_isContent 106 = .ok (.iconst 1, 1) := by decide +kernel
theorem dX5_isContent_107 : decode cX5_isContent 107 = .ok (.goto 4, 3) := by decide +kernel
theorem dX5_isContent_110 : decode cX5_isContent 110 = .ok (.iconst 0, 1) := by decide +kernel
theorem dX5_isContent_111 : decode cX5_isContent 111 = .ok (.ireturn, 1) := by decide +kernel
theorem dX5_width_0 : decode cX5_width 0 = .ok (.aload_n 0, 1) := by decide +kernel
theorem dX5_width_1 : decode cX5_width 1 = .ok (.getfield 23, 3) := by decide +kernel
theorem dX5_width_4 : decode cX5_width 4 = .ok (.iload_n 1, 1) := by decide +kernel
theorem dX5_width_5 : decode cX5_width 5 = .ok (.iload_n 2, 1) := by decide +kernel
theorem dX5_width_6 : decode cX5_width 6 = .ok (.invokevirtual 43, 3) := by decide +kernel
theorem dX5_width_9 : decode cX5_width 9 = .ok (.istore_n 3, 1) := by decide +kernel
theorem dX5_width_10 : decode cX5_width 10 = .ok (.aload_n 0, 1) := by decide +kernel
theorem dX5_width_11 : decode cX5_width 11 = .ok (.getfield 23, 3) := by decide +kernel
theorem dX5_width_14 : decode cX5_width 14 = .ok (.iload_n 1, 1) := by decide +kernel
theorem dX5_width_15 : decode cX5_width 15 = .ok (.iload_n 2, 1) := by decide +kernel
theorem dX5_width_16 : decode cX5_width 16 = .ok (.iconst 1, 1) := by decide +kernel
theorem dX5_width_17 : decode cX5_width 17 = .ok (.iadd, 1) := by decide +kernel
theorem dX5_width_18 : decode cX5_width 18 = .ok (.invokevirtual 43, 3) := by decide +kernel
theorem dX5_width_21 : decode cX5_width 21 = .ok (.istore 4, 2) := by decide +kernel
theorem dX5_width_23 : decode cX5_width 23 = .ok (.iconst 0, 1) := by decide +kernel
theorem dX5_width_24 : decode cX5_width 24 = .ok (.istore 5, 2) := by decide +kernel
theorem dX5_width_26 : decode cX5_width 26 = .ok (.iload_n 3, 1) := by decide +kernel
theorem dX5_width_27 : decode cX5_width 27 = .ok (.iload 4, 2) := by decide +kernel
theorem dX5_width_29 : decode cX5_width 29 = .ok (.invokestatic 57, 3) := by decide +kernel
theorem dX5_width_32 : decode cX5_width 32 = .ok (.iconst 1, 1) := by decide +kernel
theorem dX5_width_33 : decode cX5_width 33 = .ok (.iadd, 1) := by decide +kernel
theorem dX5_width_34 : decode cX5_width 34 = .ok (.istore 6, 2) := by decide +kernel
theorem dX5_width_36 : decode cX5_width 36 = .ok (.iload 6, 2) := by decide +kernel
theorem dX5_width_38 : decode cX5_width 38 = .ok (.iload_n 3, 1) := by decide +kernel
theorem dX5_width_39 : decode cX5_width 39 = .ok (.iload 4, 2) := by decide +kernel
theorem dX5_width_41 : decode cX5_width 41 = .ok (.invokestatic 62, 3) := by decide +kernel
theorem dX5_width_44 : decode cX5_width 44 = .ok (.if_icmp .ge 42, 3) := by decide +kernel
theorem dX5_width_47 : decode cX5_width 47 = .ok (.aload_n 0, 1) := by decide +kernel
theorem dX5_width_48 : decode cX5_width 48 = .ok (.getfield 23, 3) := by decide +kernel
theorem dX5_width_51 : decode cX5_width 51 = .ok (.iload_n 1, 1) := by decide +kernel
theorem dX5_width_52 : decode cX5_width 52 = .ok (.iload 6, 2) := by decide +kernel
theorem dX5_width_54 : decode cX5_width 54 = .ok (.invokevirtual 65, 3) := by decide +kernel
theorem dX5_width_57 : decode cX5_width 57 = .ok (.istore 7, 2) := by decide +kernel
theorem dX5_width_59 : decode cX5_width 59 = .ok (.iload 7, 2) := by decide +kernel
theorem dX5_width_61 : decode cX5_width 61 = .ok (.iconst (-1), 1) := by decide +kernel
theorem dX5_width_62 : decode cX5_width 62 = .ok (.if_icmp .eq 18, 3) := by decide +kernel
theorem dX5_width_65 : decode cX5_width 65 = .ok (.iload 5, 2) := by decide +kernel
theorem dX5_width_67 : decode cX5_width 67 = .ok (.aload_n 0, 1) := by decide +kernel
theorem dX5_width_68 : decode cX5_width 68 = .ok (.getfield 27, 3) := by decide +kernel
theorem dX5_width_71 : decode cX5_width 71 = .ok (.iload 7, 2) := by decide +kernel
theorem dX5_width_73 : decode cX5_width 73 = .ok (.iaload, 1) := by decide +kernel
theorem dX5_width_74 : decode cX5_width 74 = .ok (.invokestatic 68, 3) := by decide +kernel
theorem dX5_width_77 : decode cX5_width 77 = .ok (.iadd, 1) := by decide +kernel
theorem dX5_width_78 : decode cX5_width 78 = .ok (.istore 5, 2) := by decide +kernel
theorem dX5_width_80 : decode cX5_width 80 = .ok (.iinc 6 1, 3) := by decide +kernel
theorem dX5_width_83 : decode cX5_width 83 = .ok (.goto (-47), 3) := by decide +kernel
theorem dX5_width_86 : decode cX5_width 86 = .ok (.iload 5, 2) := by decide +kernel
theorem dX5_width_88 : decode cX5_width 88 = .ok (.ireturn, 1) := by decide +kernel
theorem dX5_areAllContent_0 : decode cX5_areAllContent 0 = .ok (.iconst 0, 1) := by decide +kernel
theorem dX5_areAllContent_1 : decode cX5_areAllContent 1 = .ok (.istore_n 2, 1) := by decide +kernel
theorem dX5_areAllContent_2 : decode cX5_areAllContent 2 = .ok (.iload_n 2, 1) := by decide +kernel
theorem dX5_areAllContent_3 : decode cX5_areAllContent 3 = .ok (.aload_n 0, 1) := by decide +kernel
theorem dX5_areAllContent_4 : decode cX5_areAllContent 4 = .ok (.getfield 23, 3) := by decide +kernel
theorem dX5_areAllContent_7 : decode cX5_areAllContent 7 = .ok (.getfield 47, 3) := by decide +kernel
theorem dX5_areAllContent_10 : decode cX5_areAllContent 10 = .ok (.if_icmp .ge 20, 3) := by decide +kernel
theorem dX5_areAllContent_13 : decode cX5_areAllContent 13 = .ok (.aload_n 0, 1) := by decide +kernel
theorem dX5_areAllContent_14 : decode cX5_areAllContent 14 = .ok (.iload_n 1, 1) := by decide +kernel
theorem dX5_areAllContent_15 : decode cX5_areAllContent 15 = .ok (.iload_n 2, 1) := by decide +kernel
theorem dX5_areAllContent_16 : decode cX5_areAllContent 16 = .ok (.invokevirtual 71, 3) := by decide +kernel
theorem dX5_areAllContent_19 : decode cX5_areAllContent 19 = .ok (.ifCond .ne 5, 3) := by decide +kernel
theorem dX5_areAllContent_22 : decode cX5_areAllContent 22 = .ok (.iconst 0, 1) := by decide +kernel
theorem dX5_areAllContent_23 : decode cX5_areAllContent 23 = .ok (.ireturn, 1) := by decide +kernel
theorem dX5_areAllContent_24 : decode cX5_areAllContent 24 = .ok (.iinc 2 1, 3) := by decide +kernel
theorem dX5_areAllContent_27 : decode cX5_areAllContent 27 = .ok (.goto (-25), 3) := by decide +kernel
theorem dX5_areAllContent_30 : decode cX5_areAllContent 30 = .ok (.iconst 1, 1) := by decide +kernel
theorem dX5_areAllContent_31 : decode cX5_areAllContent 31 = .ok (.ireturn, 1) := by decide +kernel
theorem dX5_widestHinge_0 : decode cX5_widestHinge 0 = .ok (.iconst 0, 1) := by decide +kernel
theorem dX5_widestHinge_1 : decode cX5_widestHinge 1 = .ok (.istore_n 2, 1) := by decide +kernel
theorem dX5_widestHinge_2 : decode cX5_widestHinge 2 = .ok (.iconst 0, 1) := by decide +kernel
theorem dX5_widestHinge_3 : decode cX5_widestHinge 3 = .ok (.istore_n 3, 1) := by decide +kernel
theorem dX5_widestHinge_4 : decode cX5_widestHinge 4 = .ok (.iload_n 3, 1) := by decide +kernel
theorem dX5_widestHinge_5 : decode cX5_widestHinge 5 = .ok (.aload_n 0, 1) := by decide +kernel
theorem dX5_widestHinge_6 : decode cX5_widestHinge 6 = .ok (.getfield 23, 3) := by decide +kernel
theorem dX5_widestHinge_9 : decode cX5_widestHinge 9 = .ok (.getfield 47, 3) := by decide +kernel
theorem dX5_widestHinge_12 : decode cX5_widestHinge 12 = .ok (.iconst 1, 1) := by decide +kernel
theorem dX5_widestHinge_13 : decode cX5_widestHinge 13 = .ok (.isub, 1) := by decide +kernel
theorem dX5_widestHinge_14 : decode cX5_widestHinge 14 = .ok (.if_icmp .ge 20, 3) := by decide +kernel
theorem dX5_widestHinge_17 : decode cX5_widestHinge 17 = .ok (.iload_n 2, 1) := by decide +kernel
theorem dX5_widestHinge_18 : decode cX5_widestHinge 18 = .ok (.aload_n 0, 1) := by decide +kernel
theorem dX5_widestHinge_19 : decode cX5_widestHinge 19 = .ok (.iload_n 1, 1) := by decide +kernel
theorem dX5_widestHinge_20 : decode cX5_widestHinge 20 = .ok (.iload_n 3, 1) := by decide +kernel
theorem dX5_widestHinge_21 : decode cX5_widestHinge 21 = .ok (.invokevirtual 74, 3) := by decide +kernel
theorem dX5_widestHinge_24 : decode cX5_widestHinge 24 = .ok (.invokestatic 62, 3) := by decide +kernel
theorem dX5_widestHinge_27 : decode cX5_widestHinge 27 = .ok (.istore_n 2, 1) := by decide +kernel
theorem dX5_widestHinge_28 : decode cX5_widestHinge 28 = .ok (.iinc 3 1, 3) := by decide +kernel
theorem dX5_widestHinge_31 : decode cX5_widestHinge 31 = .ok (.goto (-27), 3) := by decide +kernel
theorem dX5_widestHinge_34 : decode cX5_widestHinge 34 = .ok (.iload_n 2, 1) := by decide +kernel
theorem dX5_widestHinge_35 : decode cX5_widestHinge 35 = .ok (.ireturn, 1) := by decide +kernel
theorem dX5_hasWaxAt_0 : decode cX5_hasWaxAt 0 = .ok (.aload_n 0, 1) := by decide +kernel
theorem dX5_hasWaxAt_1 : decode cX5_hasWaxAt 1 = .ok (.getfield 23, 3) := by decide +kernel
theorem dX5_hasWaxAt_4 : decode cX5_hasWaxAt 4 = .ok (.iload_n 1, 1) := by decide +kernel
theorem dX5_hasWaxAt_5 : decode cX5_hasWaxAt 5 = .ok (.iload_n 2, 1) := by decide +kernel
theorem dX5_hasWaxAt_6 : decode cX5_hasWaxAt 6 = .ok (.invokevirtual 65, 3) := by decide +kernel
theorem dX5_hasWaxAt_9 : decode cX5_hasWaxAt 9 = .ok (.istore_n 3, 1) := by decide +kernel
theorem dX5_hasWaxAt_10 : decode cX5_hasWaxAt 10 = .ok (.iload_n 3, 1) := by decide +kernel
theorem dX5_hasWaxAt_11 : decode cX5_hasWaxAt 11 = .ok (.iconst (-1), 1) := by decide +kernel
theorem dX5_hasWaxAt_12 : decode cX5_hasWaxAt 12 = .ok (.if_icmp .eq 20, 3) := by decide +kernel
theorem dX5_hasWaxAt_15 : decode cX5_hasWaxAt 15 = .ok (.aload_n 0, 1) := by decide +kernel
theorem dX5_hasWaxAt_16 : decode cX5_hasWaxAt 16 = .ok (.getfield 27, 3) := by decide +kernel
theorem dX5_hasWaxAt_19 : decode cX5_hasWaxAt 19 = .ok (.iload_n 3, 1) := by decide +kernel
theorem dX5_hasWaxAt_20 : decode cX5_hasWaxAt 20 = .ok (.iaload, 1) := by decide +kernel
theorem dX5_hasWaxAt_21 : decode cX5_hasWaxAt 21 = .ok (.iconst 2, 1) := by decide +kernel
theorem dX5_hasWaxAt_22 : decode cX5_hasWaxAt 22 = .ok (.invokestatic 50, 3) := by decide +kernel
theorem dX5_hasWaxAt_25 : decode cX5_hasWaxAt 25 = .ok (.ifCond .eq 7, 3) := by decide +kernel
theorem dX5_hasWaxAt_28 : decode cX5_hasWaxAt 28 = .ok (.iconst 1, 1) := by decide +kernel
theorem dX5_hasWaxAt_29 : decode cX5_hasWaxAt 29 = .ok (.goto 4, 3) := by decide +kernel
theorem dX5_hasWaxAt_32 : decode cX5_hasWaxAt 32 = .ok (.iconst 0, 1) := by decide +kernel
theorem dX5_hasWaxAt_33 : decode cX5_hasWaxAt 33 = .ok (.ireturn, 1) := by decide +kernel
