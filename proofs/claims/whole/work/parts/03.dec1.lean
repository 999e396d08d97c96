theorem dX0_init_0 : decode cX0_init 0 = .ok (.aload_n 0, 1) := by decide +kernel
theorem dX0_init_1 : decode cX0_init 1 = .ok (.invokespecial 3, 3) := by decide +kernel
theorem dX0_init_4 : decode cX0_init 4 = .ok (.aload_n 0, 1) := by decide +kernel
theorem dX0_init_5 : decode cX0_init 5 = .ok (.bipush 8, 2) := by decide +kernel
theorem dX0_init_7 : decode cX0_init 7 = .ok (.anewarray 9, 3) := by decide +kernel
theorem dX0_init_10 : decode cX0_init 10 = .ok (.putfield 11, 3) := by decide +kernel
theorem dX0_init_13 : decode cX0_init 13 = .ok (.iconst 0, 1) := by decide +kernel
theorem dX0_init_14 : decode cX0_init 14 = .ok (.istore_n 1, 1) := by decide +kernel
theorem dX0_init_15 : decode cX0_init 15 = .ok (.iload_n 1, 1) := by decide +kernel
theorem dX0_init_16 : decode cX0_init 16 = .ok (.aload_n 0, 1) := by decide +kernel
theorem dX0_init_17 : decode cX0_init 17 = .ok (.getfield 11, 3) := by decide +kernel
theorem dX0_init_20 : decode cX0_init 20 = .ok (.arraylength, 1) := by decide +kernel
theorem dX0_init_21 : decode cX0_init 21 = .ok (.if_icmp .ge 22, 3) := by decide +kernel
theorem dX0_init_24 : decode cX0_init 24 = .ok (.aload_n 0, 1) := by decide +kernel
theorem dX0_init_25 : decode cX0_init 25 = .ok (.getfield 11, 3) := by decide +kernel
theorem dX0_init_28 : decode cX0_init 28 = .ok (.iload_n 1, 1) := by decide +kernel
theorem dX0_init_29 : decode cX0_init 29 = .ok (.new 9, 3) := by decide +kernel
theorem dX0_init_32 : decode cX0_init 32 = .ok (.dup, 1) := by decide +kernel
theorem dX0_init_33 : decode cX0_init 33 = .ok (.invokespecial 17, 3) := by decide +kernel
theorem dX0_init_36 : decode cX0_init 36 = .ok (.aastore, 1) := by decide +kernel
theorem dX0_init_37 : decode cX0_init 37 = .ok (.iinc 1 1, 3) := by decide +kernel
theorem dX0_init_40 : decode cX0_init 40 = .ok (.goto (-25), 3) := by decide +kernel
theorem dX0_init_43 : decode cX0_init 43 = .ok (.return_, 1) := by decide +kernel
theorem dX0_another_0 : decode cX0_another 0 = .ok (.aload_n 0, 1) := by decide +kernel
theorem dX0_another_1 : decode cX0_another 1 = .ok (.aload_n 0, 1) := by decide +kernel
theorem dX0_another_2 : decode cX0_another 2 = .ok (.getfield 18, 3) := by decide +kernel
theorem dX0_another_5 : decode cX0_another 5 = .ok (.invokevirtual 22, 3) := by decide +kernel
theorem dX0_another_8 : decode cX0_another 8 = .ok (.astore_n 1, 1) := by decide +kernel
theorem dX0_another_9 : decode cX0_another 9 = .ok (.aload_n 0, 1) := by decide +kernel
theorem dX0_another_10 : decode cX0_another 10 = .ok (.aload_n 0, 1) := by decide +kernel
theorem dX0_another_11 : decode cX0_another 11 = .ok (.getfield 18, 3) := by decide +kernel
theorem dX0_another_14 : decode cX0_another 14 = .ok (.iconst 1, 1) := by decide +kernel
theorem dX0_another_15 : decode cX0_another 15 = .ok (.iadd, 1) := by decide +kernel
theorem dX0_another_16 : decode cX0_another 16 = .ok (.bipush 8, 2) := by decide +kernel
theorem dX0_another_18 : decode cX0_another 18 = .ok (.irem, 1) := by decide +kernel
theorem dX0_another_19 : decode cX0_another 19 = .ok (.putfield 18, 3) := by decide +kernel
theorem dX0_another_22 : decode cX0_another 22 = .ok (.aload_n 0, 1) := by decide +kernel
theorem dX0_another_23 : decode cX0_another 23 = .ok (.aload_n 0, 1) := by decide +kernel
theorem dX0_another_24 : decode cX0_another 24 = .ok (.getfield 26, 3) := by decide +kernel
theorem dX0_another_27 : decode cX0_another 27 = .ok (.iconst 1, 1) := by decide +kernel
theorem dX0_another_28 : decode cX0_another 28 = .ok (.iadd, 1) := by decide +kernel
theorem dX0_another_29 : decode cX0_another 29 = .ok (.bipush 8, 2) := by decide +kernel
theorem dX0_another_31 : decode cX0_another 31 = .ok (.invokestatic 29, 3) := by decide +kernel
theorem dX0_another_34 : decode cX0_another 34 = .ok (.putfield 26, 3) := by decide +kernel
theorem dX0_another_37 : decode cX0_another 37 = .ok (.aload_n 1, 1) := by decide +kernel
theorem dX0_another_38 : decode cX0_another 38 = .ok (.areturn, 1) := by decide +kernel
theorem dX0_takeLast_0 : decode cX0_takeLast 0 = .ok (.aload_n 0, 1) := by decide +kernel
theorem dX0_takeLast_1 : decode cX0_takeLast 1 = .ok (.getfield 26, 3) := by decide +kernel
theorem dX0_takeLast_4 : decode cX0_takeLast 4 = .ok (.ifCond .ne 5, 3) := by decide +kernel
theorem dX0_takeLast_7 : decode cX0_takeLast 7 = .ok (.aconst_null, 1) := by decide +kernel
theorem dX0_takeLast_8 : decode cX0_takeLast 8 = .ok (.areturn, 1) := by decide +kernel
theorem dX0_takeLast_9 : decode cX0_takeLast 9 = .ok (.aload_n 0, 1) := by decide +kernel
theorem dX0_takeLast_10 : decode cX0_takeLast 10 = .ok (.dup, 1) := by decide +kernel
theorem dX0_takeLast_11 : decode cX0_takeLast 11 = .ok (.getfield 26, 3) := by decide +kernel
theorem dX0_takeLast_14 : decode cX0_takeLast 14 = .ok (.iconst 1, 1) := by decide +kernel
theorem dX0_takeLast_15 : decode cX0_takeLast 15 = .ok (.isub, 1) := by decide +kernel
theorem dX0_takeLast_16 : decode cX0_takeLast 16 = .ok (.putfield 26, 3) := by decide +kernel
theorem dX0_takeLast_19 : decode cX0_takeLast 19 = .ok (.aload_n 0, 1) := by decide +kernel
theorem dX0_takeLast_20 : decode cX0_takeLast 20 = .ok (.aload_n 0, 1) := by decide +kernel
theorem dX0_takeLast_21 : decode cX0_takeLast 21 = .ok (.getfield 18, 3) := by decide +kernel
theorem dX0_takeLast_24 : decode cX0_takeLast 24 = .ok (.bipush 8, 2) := by decide +kernel
theorem dX0_takeLast_26 : decode cX0_takeLast 26 = .ok (.iadd, 1) := by decide +kernel
theorem dX0_takeLast_27 : decode cX0_takeLast 27 = .ok (.iconst 1, 1) := by decide +kernel
theorem dX0_takeLast_28 : decode cX0_takeLast 28 = .ok (.isub, 1) := by decide +kernel
theorem dX0_takeLast_29 : decode cX0_takeLast 29 = .ok (.bipush 8, 2) := by decide +kernel
theorem dX0_takeLast_31 : decode cX0_takeLast 31 = .ok (.irem, 1) := by decide +kernel
theorem dX0_takeLast_32 : decode cX0_takeLast 32 = .ok (.putfield 18, 3) := by decide +kernel
theorem dX0_takeLast_35 : decode cX0_takeLast 35 = .ok (.aload_n 0, 1) := by decide +kernel
theorem dX0_takeLast_36 : decode cX0_takeLast 36 = .ok (.aload_n 0, 1) := by decide +kernel
theorem dX0_takeLast_37 : decode cX0_takeLast 37 = .ok (.getfield 18, 3) := by decide +kernel
theorem dX0_takeLast_40 : decode cX0_takeLast 40 = .ok (.invokevirtual 22, 3) := by decide +kernel
theorem dX0_takeLast_43 : decode cX0_takeLast 43 = .ok (.areturn, 1) := by decide +kernel
theorem dX0_stepAt_0 : decode cX0_stepAt 0 = .ok (.iload_n 1, 1) := by decide +kernel
theorem dX0_stepAt_1 : decode cX0_stepAt 1 = .ok (.ifCond .lt 12, 3) := by decide +kernel
theorem dX0_stepAt_4 : decode cX0_stepAt 4 = .ok (.iload_n 1, 1) := by decide +kernel
theorem dX0_stepAt_5 : decode cX0_stepAt 5 = .ok (.aload_n 0, 1) := by decide +kernel
theorem dX0_stepAt_6 : decode cX0_stepAt 6 = .ok (.getfield 11, 3) := by decide +kernel
theorem dX0_stepAt_9 : decode cX0_stepAt 9 = .ok (.arraylength, 1) := by decide +kernel
theorem dX0_stepAt_10 : decode cX0_stepAt 10 = .ok (.if_icmp .lt 7, 3) := by decide +kernel
theorem dX0_stepAt_13 : decode cX0_stepAt 13 = .ok (.aconst_null, 1) := by decide +kernel
theorem dX0_stepAt_14 : decode cX0_stepAt 14 = .ok (.goto 9, 3) := by decide +kernel
theorem dX0_stepAt_17 : decode cX0_stepAt 17 = .ok (.aload_n 0, 1) := by decide +kernel
theorem dX0_stepAt_18 : decode cX0_stepAt 18 = .ok (.getfield 11, 3) := by decide +kernel
theorem dX0_stepAt_21 : decode cX0_stepAt 21 = .ok (.iload_n 1, 1) := by decide +kernel
theorem dX0_stepAt_22 : decode cX0_stepAt 22 = .ok (.aaload, 1) := by decide +kernel
theorem dX0_stepAt_23 : decode cX0_stepAt 23 = .ok (.areturn, 1) := by decide +kernel
theorem dX1_init_0 : decode cX1_init 0 = .ok (.aload_n 0, 1) := by decide +kernel
theorem dX1_init_1 : decode cX1_init 1 = .ok (.invokespecial 3, 3) := by decide +kernel
theorem dX1_init_4 : decode cX1_init 4 = .ok (.aload_n 0, 1) := by decide +kernel
theorem dX1_init_5 : decode cX1_init 5 = .ok (.sipush 4336, 3) := by decide +kernel
theorem dX1_init_8 : decode cX1_init 8 = .ok (.newarray .long, 2) := by decide +kernel
theorem dX1_init_10 : decode cX1_init 10 = .ok (.putfield 9, 3) := by decide +kernel
theorem dX1_init_13 : decode cX1_init 13 = .ok (.aload_n 0, 1) := by decide +kernel
theorem dX1_init_14 : decode cX1_init 14 = .ok (.sipush 271, 3) := by decide +kernel
theorem dX1_init_17 : decode cX1_init 17 = .ok (.newarray .int, 2) := by decide +kernel
theorem dX1_init_19 : decode cX1_init 19 = .ok (.putfield 15, 3) := by decide +kernel
theorem dX1_init_22 : decode cX1_init 22 = .ok (.aload_n 0, 1) := by decide +kernel
theorem dX1_init_23 : decode cX1_init 23 = .ok (.sipush 271, 3) := by decide +kernel
theorem dX1_init_26 : decode cX1_init 26 = .ok (.newarray .int, 2) := by decide +kernel
theorem dX1_init_28 : decode cX1_init 28 = .ok (.putfield 19, 3) := by decide +kernel
theorem dX1_init_31 : decode cX1_init 31 = .ok (.aload_n 0, 1) := by decide +kernel
theorem dX1_init_32 : decode cX1_init 32 = .ok (.sipush 4336, 3) := by decide +kernel
theorem dX1_init_35 : decode cX1_init 35 = .ok (.newarray .int, 2) := by decide +kernel
theorem dX1_init_37 : decode cX1_init 37 = .ok (.putfield 22, 3) := by decide +kernel
theorem dX1_init_40 : decode cX1_init 40 = .ok (.return_, 1) := by decide +kernel
theorem dX1_open_0 : decode cX1_open 0 = .ok (.aload_n 0, 1) := by decide +kernel
theorem dX1_open_1 : decode cX1_open 1 = .ok (.iconst 1, 1) := by decide +kernel
theorem dX1_open_2 : decode cX1_open 2 = .ok (.putfield 25, 3) := by decide +kernel
theorem dX1_open_5 : decode cX1_open 5 = .ok (.aload_n 0, 1) := by decide +kernel
theorem dX1_open_6 : decode cX1_open 6 = .ok (.iload_n 1, 1) := by decide +kernel
theorem dX1_open_7 : decode cX1_open 7 = .ok (.putfield 29, 3) := by decide +kernel
theorem dX1_open_10 : decode cX1_open 10 = .ok (.aload_n 0, 1) := by decide +kernel
theorem dX1_open_11 : decode cX1_open 11 = .ok (.iload_n 2, 1) := by decide +kernel
theorem dX1_open_12 : decode cX1_open 12 = .ok (.putfield 33, 3) := by decide +kernel
theorem dX1_open_15 : decode cX1_open 15 = .ok (.aload_n 0, 1) := by decide +kernel
theorem dX1_open_16 : decode cX1_open 16 = .ok (.lload_n 3, 1) := by decide +kernel
theorem dX1_open_17 : decode cX1_open 17 = .ok (.putfield 36, 3) := by decide +kernel
theorem dX1_open_20 : decode cX1_open 20 = .ok (.aload_n 0, 1) := by decide +kernel
theorem dX1_open_21 : decode cX1_open 21 = .ok (.iload_n 2, 1) := by decide +kernel
theorem dX1_open_22 : decode cX1_open 22 = .ok (.lload_n 3, 1) := by decide +kernel
theorem dX1_open_23 : decode cX1_open 23 = .ok (.invokestatic 40, 3) := by decide +kernel
theorem dX1_open_26 : decode cX1_open 26 = .ok (.iconst 1, 1) := by decide +kernel
theorem dX1_open_27 : decode cX1_open 27 = .ok (.iadd, 1) := by decide +kernel
theorem dX1_open_28 : decode cX1_open 28 = .ok (.aload_n 0, 1) := by decide +kernel
theorem dX1_open_29 : decode cX1_open 29 = .ok (.getfield 9, 3) := by decide +kernel
theorem dX1_open_32 : decode cX1_open 32 = .ok (.arraylength, 1) := by decide +kernel
theorem dX1_open_33 : decode cX1_open 33 = .ok (.invokestatic 44, 3) := by decide +kernel
theorem dX1_open_36 : decode cX1_open 36 = .ok (.putfield 50, 3) := by decide +kernel
theorem dX1_open_39 : decode cX1_open 39 = .ok (.aload_n 0, 1) := by decide +kernel
theorem dX1_open_40 : decode cX1_open 40 = .ok (.aload_n 0, 1) := by decide +kernel
theorem dX1_open_41 : decode cX1_open 41 = .ok (.getfield 50, 3) := by decide +kernel
theorem dX1_open_44 : decode cX1_open 44 = .ok (.bipush 16, 2) := by decide +kernel
theorem dX1_open_46 : decode cX1_open 46 = .ok (.iadd, 1) := by decide +kernel
theorem dX1_open_47 : decode cX1_open 47 = .ok (.iconst 1, 1) := by decide +kernel
theorem dX1_open_48 : decode cX1_open 48 = .ok (.isub, 1) := by decide +kernel
theorem dX1_open_49 : decode cX1_open 49 = .ok (.bipush 16, 2) := by decide +kernel
theorem dX1_open_51 : decode cX1_open 51 = .ok (.idiv, 1) := by decide +kernel
theorem dX1_open_52 : decode cX1_open 52 = .ok (.aload_n 0, 1) := by decide +kernel
theorem dX1_open_53 : decode cX1_open 53 = .ok (.getfield 15, 3) := by decide +kernel
theorem dX1_open_56 : decode cX1_open 56 = .ok (.arraylength, 1) := by decide +kernel
theorem dX1_open_57 : decode cX1_open 57 = .ok (.invokestatic 44, 3) := by decide +kernel
theorem dX1_open_60 : decode cX1_open 60 = .ok (.putfield 53, 3) := by decide +kernel
theorem dX1_open_63 : decode cX1_open 63 = .ok (.aload_n 0, 1) := by decide +kernel
theorem dX1_open_64 : decode cX1_open 64 = .ok (.invokevirtual 56, 3) := by decide +kernel
theorem dX1_open_67 : decode cX1_open 67 = .ok (.return_, 1) := by decide +kernel
theorem dX1_clear_0 : decode cX1_clear 0 = .ok (.aload_n 0, 1) := by decide +kernel
theorem dX1_clear_1 : decode cX1_clear 1 = .ok (.getfield 9, 3) := by decide +kernel
theorem dX1_clear_4 : decode cX1_clear 4 = .ok (.lconst 0, 1) := by decide +kernel
theorem dX1_clear_5 : decode cX1_clear 5 = .ok (.invokestatic 59, 3) := by decide +kernel
theorem dX1_clear_8 : decode cX1_clear 8 = .ok (.aload_n 0, 1) := by decide +kernel
theorem dX1_clear_9 : decode cX1_clear 9 = .ok (.getfield 15, 3) := by decide +kernel
theorem dX1_clear_12 : decode cX1_clear 12 = .ok (.iconst 0, 1) := by decide +kernel
theorem dX1_clear_13 : decode cX1_clear 13 = .ok (.invokestatic 65, 3) := by decide +kernel
theorem dX1_clear_16 : decode cX1_clear 16 = .ok (.aload_n 0, 1) := by decide +kernel
theorem dX1_clear_17 : decode cX1_clear 17 = .ok (.getfield 19, 3) := by decide +kernel
theorem dX1_clear_20 : decode cX1_clear 20 = .ok (.iconst 0, 1) := by decide +kernel
theorem dX1_clear_21 : decode cX1_clear 21 = .ok (.invokestatic 65, 3) := by decide +kernel
theorem dX1_clear_24 : decode cX1_clear 24 = .ok (.aload_n 0, 1) := by decide +kernel
theorem dX1_clear_25 : decode cX1_clear 25 = .ok (.getfield 22, 3) := by decide +kernel
theorem dX1_clear_28 : decode cX1_clear 28 = .ok (.iconst 0, 1) := by decide +kernel
theorem dX1_clear_29 : decode cX1_clear 29 = .ok (.invokestatic 65, 3) := by decide +kernel
theorem dX1_clear_32 : decode cX1_clear 32 = .ok (.return_, 1) := by decide +kernel
theorem dX1_become_0 : decode cX1_become 0 = .ok (.aload_n 0, 1) := by decide +kernel
theorem dX1_become_1 : decode cX1_become 1 = .ok (.aload_n 1, 1) := by decide +kernel
theorem dX1_become_2 : decode cX1_become 2 = .ok (.getfield 25, 3) := by decide +kernel
theorem dX1_become_5 : decode cX1_become 5 = .ok (.putfield 25, 3) := by decide +kernel
theorem dX1_become_8 : decode cX1_become 8 = .ok (.aload_n 0, 1) := by decide +kernel
theorem dX1_become_9 : decode cX1_become 9 = .ok (.aload_n 1, 1) := by decide +kernel
theorem dX1_become_10 : decode cX1_become 10 = .ok (.getfield 29, 3) := by decide +kernel
theorem dX1_become_13 : decode cX1_become 13 = .ok (.putfield 29, 3) := by decide +kernel
theorem dX1_become_16 : decode cX1_become 16 = .ok (.aload_n 0, 1) := by decide +kernel
theorem dX1_become_17 : decode cX1_become 17 = .ok (.aload_n 1, 1) := by decide +kernel
theorem dX1_become_18 : decode cX1_become 18 = .ok (.getfield 33, 3) := by decide +kernel
theorem dX1_become_21 : decode cX1_become 21 = .ok (.putfield 33, 3) := by decide +kernel
theorem dX1_become_24 : decode cX1_become 24 = .ok (.aload_n 0, 1) := by decide +kernel
theorem dX1_become_25 : decode cX1_become 25 = .ok (.aload_n 1, 1) := by decide +kernel
theorem dX1_become_26 : decode cX1_become 26 = .ok (.getfield 50, 3) := by decide +kernel
theorem dX1_become_29 : decode cX1_become 29 = .ok (.putfield 50, 3) := by decide +kernel
theorem dX1_become_32 : decode cX1_become 32 = .ok (.aload_n 0, 1) := by decide +kernel
theorem dX1_become_33 : decode cX1_become 33 = .ok (.aload_n 1, 1) := by decide +kernel
theorem dX1_become_34 : decode cX1_become 34 = .ok (.getfield 53, 3) := by decide +kernel
theorem dX1_become_37 : decode cX1_become 37 = .ok (.putfield 53, 3) := by decide +kernel
theorem dX1_become_40 : decode cX1_become 40 = .ok (.aload_n 0, 1) := by decide +kernel
theorem dX1_become_41 : decode cX1_become 41 = .ok (.aload_n 1, 1) := by decide +kernel
theorem dX1_become_42 : decode cX1_become 42 = .ok (.getfield 36, 3) := by decide +kernel
theorem dX1_become_45 : decode cX1_become 45 = .ok (.putfield 36, 3) := by decide +kernel
theorem dX1_become_48 : decode cX1_become 48 = .ok (.iconst 0, 1) := by decide +kernel
theorem dX1_become_49 : decode cX1_become 49 = .ok (.aload_n 0, 1) := by decide +kernel
theorem dX1_become_50 : decode cX1_become 50 = .ok (.getfield 53, 3) := by decide +kernel
theorem dX1_become_53 : decode cX1_become 53 = .ok (.sipush 271, 3) := by decide +kernel
theorem dX1_become_56 : decode cX1_become 56 = .ok (.invokestatic 44, 3) := by decide +kernel
theorem dX1_become_59 : decode cX1_become 59 = .ok (.invokestatic 68, 3) := by decide +kernel
theorem dX1_become_62 : decode cX1_become 62 = .ok (.istore_n 2, 1) := by decide +kernel
theorem dX1_become_63 : decode cX1_become 63 = .ok (.aload_n 1, 1) := by decide +kernel
theorem dX1_become_64 : decode cX1_become 64 = .ok (.getfield 9, 3) := by decide +kernel
theorem dX1_become_67 : decode cX1_become 67 = .ok (.iconst 0, 1) := by decide +kernel
theorem dX1_become_68 : decode cX1_become 68 = .ok (.aload_n 0, 1) := by decide +kernel
theorem dX1_become_69 : decode cX1_become 69 = .ok (.getfield 9, 3) := by decide +kernel
theorem dX1_become_72 : decode cX1_become 72 = .ok (.iconst 0, 1) := by decide +kernel
theorem dX1_become_73 : decode cX1_become 73 = .ok (.bipush 16, 2) := by decide +kernel
theorem dX1_become_75 : decode cX1_become 75 = .ok (.iload_n 2, 1) := by decide +kernel
theorem dX1_become_76 : decode cX1_become 76 = .ok (.imul, 1) := by decide +kernel
theorem dX1_become_77 : decode cX1_become 77 = .ok (.invokestatic 71, 3) := by decide +kernel
theorem dX1_become_80 : decode cX1_become 80 = .ok (.aload_n 1, 1) := by decide +kernel
theorem dX1_become_81 : decode cX1_become 81 = .ok (.getfield 15, 3) := by decide +kernel
theorem dX1_become_84 : decode cX1_become 84 = .ok (.iconst 0, 1) := by decide +kernel
theorem dX1_become_85 : decode cX1_become 85 = .ok (.aload_n 0, 1) := by decide +kernel
theorem dX1_become_86 : decode cX1_become 86 = .ok (.getfield 15, 3) := by decide +kernel
theorem dX1_become_89 : decode cX1_become 89 = .ok (.iconst 0, 1) := by decide +kernel
theorem dX1_become_90 : decode cX1_become 90 = .ok (.iload_n 2, 1) := by decide +kernel
theorem dX1_become_91 : decode cX1_become 91 = .ok (.invokestatic 71, 3) := by decide +kernel
theorem dX1_become_94 : decode cX1_become 94 = .ok (.aload_n 1, 1) := by decide +kernel
theorem dX1_become_95 : decode cX1_become 95 = .ok (.getfield 19, 3) := by decide +kernel
theorem dX1_become_98 : decode cX1_become 98 = .ok (.iconst 0, 1) := by decide +kernel
theorem dX1_become_99 : decode cX1_become 99 = .ok (.aload_n 0, 1) := by decide +kernel
theorem dX1_become_100 : decode cX1_become 100 = .ok (.getfield 19, 3) := by decide +kernel
theorem dX1_become_103 : decode cX1_become 103 = .ok (.iconst 0, 1) := by decide +kernel
theorem dX1_become_104 : decode cX1_become 104 = .ok (.iload_n 2, 1) := by decide +kernel
theorem dX1_become_105 : decode cX1_become 105 = .ok (.invokestatic 71, 3) := by decide +kernel
theorem dX1_become_108 : decode cX1_become 108 = .ok (.aload_n 1, 1) := by decide +kernel
theorem dX1_become_109 : decode cX1_become 109 = .ok (.getfield 22, 3) := by decide +kernel
theorem dX1_become_112 : decode cX1_become 112 = .ok (.iconst 0, 1) := by decide +kernel
theorem dX1_become_113 : decode cX1_become 113 = .ok (.aload_n 0, 1) := by decide +kernel
theorem dX1_become_114 : decode cX1_become 114 = .ok (.getfield 22, 3) := by decide +kernel
theorem dX1_become_117 : decode cX1_become 117 = .ok (.iconst 0, 1) := by decide +kernel
theorem dX1_become_118 : decode cX1_become 118 = .ok (.bipush 16, 2) := by decide +kernel
theorem dX1_become_120 : decode cX1_become 120 = .ok (.iload_n 2, 1) := by decide +kernel
theorem dX1_become_121 : decode cX1_become 121 = .ok (.imul, 1) := by decide +kernel
theorem dX1_become_122 : decode cX1_become 122 = .ok (.invokestatic 71, 3) := by decide +kernel
theorem dX1_become_125 : decode cX1_become 125 = .ok (.return_, 1) := by decide +kernel
theorem dX1_reaches_0 : decode cX1_reaches 0 = .ok (.lload_n 1, 1) := by decide +kernel
theorem dX1_reaches_1 : decode cX1_reaches 1 = .ok (.lconst 0, 1) := by decide +kernel
theorem dX1_reaches_2 : decode cX1_reaches 2 = .ok (.lcmp, 1) := by decide +kernel
theorem dX1_reaches_3 : decode cX1_reaches 3 = .ok (.ifCond .lt 16, 3) := by decide +kernel
theorem dX1_reaches_6 : decode cX1_reaches 6 = .ok (.lload_n 1, 1) := by decide +kernel
theorem dX1_reaches_7 : decode cX1_reaches 7 = .ok (.aload_n 0, 1) := by decide +kernel
theorem dX1_reaches_8 : decode cX1_reaches 8 = .ok (.getfield 36, 3) := by decide +kernel
theorem dX1_reaches_11 : decode cX1_reaches 11 = .ok (.lcmp, 1) := by decide +kernel
theorem dX1_reaches_12 : decode cX1_reaches 12 = .ok (.ifCond .gt 7, 3) := by decide +kernel
theorem dX1_reaches_15 : decode cX1_reaches 15 = .ok (.iconst 1, 1) := by decide +kernel
theorem dX1_reaches_16 : decode cX1_reaches 16 = .ok (.goto 4, 3) := by decide +kernel
theorem dX1_reaches_19 : decode cX1_reaches 19 = .ok (.iconst 0, 1) := by decide +kernel
theorem dX1_reaches_20 : decode cX1_reaches 20 = .ok (.ireturn, 1) := by decide +kernel
theorem dX1_hasPage_0 : decode cX1_hasPage 0 = .ok (.iload_n 1, 1) := by decide +kernel
theorem dX1_hasPage_1 : decode cX1_hasPage 1 = .ok (.ifCond .lt 15, 3) := by decide +kernel
theorem dX1_hasPage_4 : decode cX1_hasPage 4 = .ok (.iload_n 1, 1) := by decide +kernel
theorem dX1_hasPage_5 : decode cX1_hasPage 5 = .ok (.aload_n 0, 1) := by decide +kernel
theorem dX1_hasPage_6 : decode cX1_hasPage 6 = .ok (.getfield 53, 3) := by decide +kernel
theorem dX1_hasPage_9 : decode cX1_hasPage 9 = .ok (.if_icmp .ge 7, 3) := by decide +kernel
theorem dX1_hasPage_12 : decode cX1_hasPage 12 = .ok (.iconst 1, 1) := by decide +kernel
theorem dX1_hasPage_13 : decode cX1_hasPage 13 = .ok (.goto 4, 3) := by decide +kernel
theorem dX1_hasPage_16 : decode cX1_hasPage 16 = .ok (.iconst 0, 1) := by decide +kernel
theorem dX1_hasPage_17 : decode cX1_hasPage 17 = .ok (.ireturn, 1) := by decide +kernel
theorem dX1_unitsOf_0 : decode cX1_unitsOf 0 = .ok (.iload_n 1, 1) := by decide +kernel
theorem dX1_unitsOf_1 : decode cX1_unitsOf 1 = .ok (.ifCond .lt 12, 3) := by decide +kernel
theorem dX1_unitsOf_4 : decode cX1_unitsOf 4 = .ok (.iload_n 1, 1) := by decide +kernel
theorem dX1_unitsOf_5 : decode cX1_unitsOf 5 = .ok (.aload_n 0, 1) := by decide +kernel
theorem dX1_unitsOf_6 : decode cX1_unitsOf 6 = .ok (.getfield 9, 3) := by decide +kernel
theorem dX1_unitsOf_9 : decode cX1_unitsOf 9 = .ok (.arraylength, 1) := by decide +kernel
theorem dX1_unitsOf_10 : decode cX1_unitsOf 10 = .ok (.if_icmp .lt 7, 3) := by decide +kernel
theorem dX1_unitsOf_13 : decode cX1_unitsOf 13 = .ok (.lconst 0, 1) := by decide +kernel
theorem dX1_unitsOf_14 : decode cX1_unitsOf 14 = .ok (.goto 9, 3) := by decide +kernel
theorem dX1_unitsOf_17 : decode cX1_unitsOf 17 = .ok (.aload_n 0, 1) := by decide +kernel
theorem dX1_unitsOf_18 : decode cX1_unitsOf 18 = .ok (.getfield 9, 3) := by decide +kernel
theorem dX1_unitsOf_21 : decode cX1_unitsOf 21 = .ok (.iload_n 1, 1) := by decide +kernel
theorem dX1_unitsOf_22 : decode cX1_unitsOf 22 = .ok (.laload, 1) := by decide +kernel
theorem dX1_unitsOf_23 : decode cX1_unitsOf 23 = .ok (.lreturn, 1) := by decide +kernel
theorem dX1_kindOf_0 : decode cX1_kindOf 0 = .ok (.iload_n 1, 1) := by decide +kernel
theorem dX1_kindOf_1 : decode cX1_kindOf 1 = .ok (.ifCond .lt 12, 3) := by decide +kernel
theorem dX1_kindOf_4 : decode cX1_kindOf 4 = .ok (.iload_n 1, 1) := by decide +kernel
theorem dX1_kindOf_5 : decode cX1_kindOf 5 = .ok (.aload_n 0, 1) := by decide +kernel
theorem dX1_kindOf_6 : decode cX1_kindOf 6 = .ok (.getfield 15, 3) := by decide +kernel
theorem dX1_kindOf_9 : decode cX1_kindOf 9 = .ok (.arraylength, 1) := by decide +kernel
theorem dX1_kindOf_10 : decode cX1_kindOf 10 = .ok (.if_icmp .lt 7, 3) := by decide +kernel
theorem dX1_kindOf_13 : decode cX1_kindOf 13 = .ok (.iconst 0, 1) := by decide +kernel
theorem dX1_kindOf_14 : decode cX1_kindOf 14 = .ok (.goto 9, 3) := by decide +kernel
theorem dX1_kindOf_17 : decode cX1_kindOf 17 = .ok (.aload_n 0, 1) := by decide +kernel
theorem dX1_kindOf_18 : decode cX1_kindOf 18 = .ok (.getfield 15, 3) := by decide +kernel
theorem dX1_kindOf_21 : decode cX1_kindOf 21 = .ok (.iload_n 1, 1) := by decide +kernel
theorem dX1_kindOf_22 : decode cX1_kindOf 22 = .ok (.iaload, 1) := by decide +kernel
theorem dX1_kindOf_23 : decode cX1_kindOf 23 = .ok (.ireturn, 1) := by decide +kernel
theorem dX1_rowOf_0 : decode cX1_rowOf 0 = .ok (.iload_n 1, 1) := by decide +kernel
theorem dX1_rowOf_1 : decode cX1_rowOf 1 = .ok (.ifCond .lt 12, 3) := by decide +kernel
theorem dX1_rowOf_4 : decode cX1_rowOf 4 = .ok (.iload_n 1, 1) := by decide +kernel
theorem dX1_rowOf_5 : decode cX1_rowOf 5 = .ok (.aload_n 0, 1) := by decide +kernel
theorem dX1_rowOf_6 : decode cX1_rowOf 6 = .ok (.getfield 19, 3) := by decide +kernel
theorem dX1_rowOf_9 : decode cX1_rowOf 9 = .ok (.arraylength, 1) := by decide +kernel
theorem dX1_rowOf_10 : decode cX1_rowOf 10 = .ok (.if_icmp .lt 7, 3) := by decide +kernel
theorem dX1_rowOf_13 : decode cX1_rowOf 13 = .ok (.iconst 0, 1) := by decide +kernel
theorem dX1_rowOf_14 : decode cX1_rowOf 14 = .ok (.goto 9, 3) := by decide +kernel
theorem dX1_rowOf_17 : decode cX1_rowOf 17 = .ok (.aload_n 0, 1) := by decide +kernel
theorem dX1_rowOf_18 : decode cX1_rowOf 18 = .ok (.getfield 19, 3) := by decide +kernel
theorem dX1_rowOf_21 : decode cX1_rowOf 21 = .ok (.iload_n 1, 1) := by decide +kernel
theorem dX1_rowOf_22 : decode cX1_rowOf 22 = .ok (.iaload, 1) := by decide +kernel
theorem dX1_rowOf_23 : decode cX1_rowOf 23 = .ok (.ireturn, 1) := by decide +kernel
theorem dX1_markOf_0 : decode cX1_markOf 0 = .ok (.iload_n 1, 1) := by decide +kernel
theorem dX1_markOf_1 : decode cX1_markOf 1 = .ok (.ifCond .lt 12, 3) := by decide +kernel
theorem dX1_markOf_4 : decode cX1_markOf 4 = .ok (.iload_n 1, 1) := by decide +kernel
theorem dX1_markOf_5 : decode cX1_markOf 5 = .ok (.aload_n 0, 1) := by decide +kernel
theorem dX1_markOf_6 : decode cX1_markOf 6 = .ok (.getfield 22, 3) := by decide +kernel
theorem dX1_markOf_9 : decode cX1_markOf 9 = .ok (.arraylength, 1) := by decide +kernel
theorem dX1_markOf_10 : decode cX1_markOf 10 = .ok (.if_icmp .lt 7, 3) := by decide +kernel
theorem dX1_markOf_13 : decode cX1_markOf 13 = .ok (.iconst (-1), 1) := by decide +kernel
theorem dX1_markOf_14 : decode cX1_markOf 14 = .ok (.goto 11, 3) := by decide +kernel
theorem dX1_markOf_17 : decode cX1_markOf 17 = .ok (.aload_n 0, 1) := by decide +kernel
theorem dX1_markOf_18 : decode cX1_markOf 18 = .ok (.getfield 22, 3) := by decide +kernel
theorem dX1_markOf_21 : decode cX1_markOf 21 = .ok (.iload_n 1, 1) := by decide +kernel
theorem dX1_markOf_22 : decode cX1_markOf 22 = .ok (.iaload, 1) := by decide +kernel
theorem dX1_markOf_23 : decode cX1_markOf 23 = .ok (.iconst 1, 1) := by decide +kernel
theorem dX1_markOf_24 : decode cX1_markOf 24 = .ok (.isub, 1) := by decide +kernel
theorem dX1_markOf_25 : decode cX1_markOf 25 = .ok (.ireturn, 1) := by decide +kernel
theorem dX1_putRow_0 : decode cX1_putRow 0 = .ok (.iload_n 1, 1) := by decide +kernel
theorem dX1_putRow_1 : decode cX1_putRow 1 = .ok (.ifCond .lt 19, 3) := by decide +kernel
theorem dX1_putRow_4 : decode cX1_putRow 4 = .ok (.iload_n 1, 1) := by decide +kernel
theorem dX1_putRow_5 : decode cX1_putRow 5 = .ok (.aload_n 0, 1) := by decide +kernel
theorem dX1_putRow_6 : decode cX1_putRow 6 = .ok (.getfield 19, 3) := by decide +kernel
theorem dX1_putRow_9 : decode cX1_putRow 9 = .ok (.arraylength, 1) := by decide +kernel
theorem dX1_putRow_10 : decode cX1_putRow 10 = .ok (.if_icmp .ge 10, 3) := by decide +kernel
theorem dX1_putRow_13 : decode cX1_putRow 13 = .ok (.aload_n 0, 1) := by decide +kernel
theorem dX1_putRow_14 : decode cX1_putRow 14 = .ok (.getfield 19, 3) := by decide +kernel
theorem dX1_putRow_17 : decode cX1_putRow 17 = .ok (.iload_n 1, 1) := by decide +kernel
theorem dX1_putRow_18 : decode cX1_putRow 18 = .ok (.iload_n 2, 1) := by decide +kernel
theorem dX1_putRow_19 : decode cX1_putRow 19 = .ok (.iastore, 1) := by decide +kernel
theorem dX1_putRow_20 : decode cX1_putRow 20 = .ok (.return_, 1) := by decide +kernel
theorem dX1_putMark_0 : decode cX1_putMark 0 = .ok (.iload_n 1, 1) := by decide +kernel
theorem dX1_putMark_1 : decode cX1_putMark 1 = .ok (.ifCond .lt 21, 3) := by decide +kernel
theorem dX1_putMark_4 : decode cX1_putMark 4 = .ok (.iload_n 1, 1) := by decide +kernel
theorem dX1_putMark_5 : decode cX1_putMark 5 = .ok (.aload_n 0, 1) := by decide +kernel
theorem dX1_putMark_6 : decode cX1_putMark 6 = .ok (.getfield 22, 3) := by decide +kernel
theorem dX1_putMark_9 : decode cX1_putMark 9 = .ok (.arraylength, 1) := by decide +kernel
theorem dX1_putMark_10 : decode cX1_putMark 10 = .ok (.if_icmp .ge 12, 3) := by decide +kernel
theorem dX1_putMark_13 : decode cX1_putMark 13 = .ok (.aload_n 0, 1) := by decide +kernel
theorem dX1_putMark_14 : decode cX1_putMark 14 = .ok (.getfield 22, 3) := by decide +kernel
theorem dX1_putMark_17 : decode cX1_putMark 17 = .ok (.iload_n 1, 1) := by decide +kernel
theorem dX1_putMark_18 : decode cX1_putMark 18 = .ok (.iload_n 2, 1) := by decide +kernel
theorem dX1_putMark_19 : decode cX1_putMark 19 = .ok (.iconst 1, 1) := by decide +kernel
theorem dX1_putMark_20 : decode cX1_putMark 20 = .ok (.iadd, 1) := by decide +kernel
theorem dX1_putMark_21 : decode cX1_putMark 21 = .ok (.iastore, 1) := by decide +kernel
theorem dX1_putMark_22 : decode cX1_putMark 22 = .ok (.return_, 1) := by decide +kernel
theorem dX1_marksInAll_0 : decode cX1_marksInAll 0 = .ok (.iconst 0, 1) := by decide +kernel
theorem dX1_marksInAll_1 : decode cX1_marksInAll 1 = .ok (.istore_n 1, 1) := by decide +kernel
theorem dX1_marksInAll_2 : decode cX1_marksInAll 2 = .ok (.iconst 0, 1) := by decide +kernel
theorem dX1_marksInAll_3 : decode cX1_marksInAll 3 = .ok (.istore_n 2, 1) := by decide +kernel
theorem dX1_marksInAll_4 : decode cX1_marksInAll 4 = .ok (.iload_n 2, 1) := by decide +kernel
theorem dX1_marksInAll_5 : decode cX1_marksInAll 5 = .ok (.bipush 16, 2) := by decide +kernel
theorem dX1_marksInAll_7 : decode cX1_marksInAll 7 = .ok (.aload_n 0, 1) := by decide +kernel
theorem dX1_marksInAll_8 : decode cX1_marksInAll 8 = .ok (.getfield 53, 3) := by decide +kernel
theorem dX1_marksInAll_11 : decode cX1_marksInAll 11 = .ok (.imul, 1) := by decide +kernel
theorem dX1_marksInAll_12 : decode cX1_marksInAll 12 = .ok (.if_icmp .ge 21, 3) := by decide +kernel
theorem dX1_marksInAll_15 : decode cX1_marksInAll 15 = .ok (.aload_n 0, 1) := by decide +kernel
theorem dX1_marksInAll_16 : decode cX1_marksInAll 16 = .ok (.iload_n 2, 1) := by decide +kernel
theorem dX1_marksInAll_17 : decode cX1_marksInAll 17 = .ok (.invokevirtual 77, 3) := by decide +kernel
theorem dX1_marksInAll_20 : decode cX1_marksInAll 20 = .ok (.iconst (-1), 1) := by decide +kernel
theorem dX1_marksInAll_21 : decode cX1_marksInAll 21 = .ok (.if_icmp .eq 6, 3) := by decide +kernel
theorem dX1_marksInAll_24 : decode cX1_marksInAll 24 = .ok (.iinc 1 1, 3) := by decide +kernel
theorem dX1_marksInAll_27 : decode cX1_marksInAll 27 = .ok (.iinc 2 1, 3) := by decide +kernel
theorem dX1_marksInAll_30 : decode cX1_marksInAll 30 = .ok (.goto (-26), 3) := by decide +kernel
theorem dX1_marksInAll_33 : decode cX1_marksInAll 33 = .ok (.iload_n 1, 1) := by decide +kernel
theorem dX1_marksInAll_34 : decode cX1_marksInAll 34 = .ok (.ireturn, 1) := by decide +kernel
theorem dX1_rewrite_0 : decode cX1_rewrite 0 = .ok (.iload_n 1, 1) := by decide +kernel
theorem dX1_rewrite_1 : decode cX1_rewrite 1 = .ok (.ifCond .lt 23, 3) := by decide +kernel
theorem dX1_rewrite_4 : decode cX1_rewrite 4 = .ok (.iload_n 1, 1) := by decide +kernel
theorem dX1_rewrite_5 : decode cX1_rewrite 5 = .ok (.aload_n 0, 1) := by decide +kernel
theorem dX1_rewrite_6 : decode cX1_rewrite 6 = .ok (.getfield 9, 3) := by decide +kernel
theorem dX1_rewrite_9 : decode cX1_rewrite 9 = .ok (.arraylength, 1) := by decide +kernel
theorem dX1_rewrite_10 : decode cX1_rewrite 10 = .ok (.if_icmp .ge 14, 3) := by decide +kernel
theorem dX1_rewrite_13 : decode cX1_rewrite 13 = .ok (.aload_n 0, 1) := by decide +kernel
theorem dX1_rewrite_14 : decode cX1_rewrite 14 = .ok (.getfield 9, 3) := by decide +kernel
theorem dX1_rewrite_17 : decode cX1_rewrite 17 = .ok (.iload_n 1, 1) := by decide +kernel
theorem dX1_rewrite_18 : decode cX1_rewrite 18 = .ok (.laload, 1) := by decide +kernel
theorem dX1_rewrite_19 : decode cX1_rewrite 19 = .ok (.lload_n 2, 1) := by decide +kernel
theorem dX1_rewrite_20 : decode cX1_rewrite 20 = .ok (.lcmp, 1) := by decide +kernel
theorem dX1_rewrite_21 : decode cX1_rewrite 21 = .ok (.ifCond .ne 4, 3) := by decide +kernel
theorem dX1_rewrite_24 : decode cX1_rewrite 24 = .ok (.return_, 1) := by decide +kernel
theorem dX1_rewrite_25 : decode cX1_rewrite 25 = .ok (.iload_n 1, 1) := by decide +kernel
theorem dX1_rewrite_26 : decode cX1_rewrite 26 = .ok (.bipush 16, 2) := by decide +kernel
theorem dX1_rewrite_28 : decode cX1_rewrite 28 = .ok (.idiv, 1) := by decide +kernel
theorem dX1_rewrite_29 : decode cX1_rewrite 29 = .ok (.istore 4, 2) := by decide +kernel
theorem dX1_rewrite_31 : decode cX1_rewrite 31 = .ok (.iload 4, 2) := by decide +kernel
theorem dX1_rewrite_33 : decode cX1_rewrite 33 = .ok (.aload_n 0, 1) := by decide +kernel
theorem dX1_rewrite_34 : decode cX1_rewrite 34 = .ok (.getfield 15, 3) := by decide +kernel
theorem dX1_rewrite_37 : decode cX1_rewrite 37 = .ok (.arraylength, 1) := by decide +kernel
theorem dX1_rewrite_38 : decode cX1_rewrite 38 = .ok (.if_icmp .ge 17, 3) := by decide +kernel
theorem dX1_rewrite_41 : decode cX1_rewrite 41 = .ok (.aload_n 0, 1) := by decide +kernel
theorem dX1_rewrite_42 : decode cX1_rewrite 42 = .ok (.getfield 15, 3) := by decide +kernel
theorem dX1_rewrite_45 : decode cX1_rewrite 45 = .ok (.iload 4, 2) := by decide +kernel
theorem dX1_rewrite_47 : decode cX1_rewrite 47 = .ok (.aload_n 0, 1) := by decide +kernel
theorem dX1_rewrite_48 : decode cX1_rewrite 48 = .ok (.iload 4, 2) := by decide +kernel
theorem dX1_rewrite_50 : decode cX1_rewrite 50 = .ok (.lload_n 2, 1) := by decide +kernel
theorem dX1_rewrite_51 : decode cX1_rewrite 51 = .ok (.invokevirtual 81, 3) := by decide +kernel
theorem dX1_rewrite_54 : decode cX1_rewrite 54 = .ok (.iastore, 1) := by decide +kernel
theorem dX1_rewrite_55 : decode cX1_rewrite 55 = .ok (.aload_n 0, 1) := by decide +kernel
theorem dX1_rewrite_56 : decode cX1_rewrite 56 = .ok (.getfield 9, 3) := by decide +kernel
theorem dX1_rewrite_59 : decode cX1_rewrite 59 = .ok (.iload_n 1, 1) := by decide +kernel
theorem dX1_rewrite_60 : decode cX1_rewrite 60 = .ok (.lload_n 2, 1) := by decide +kernel
theorem dX1_rewrite_61 : decode cX1_rewrite 61 = .ok (.lastore, 1) := by decide +kernel
theorem dX1_rewrite_62 : decode cX1_rewrite 62 = .ok (.return_, 1) := by decide +kernel
theorem dX1_rowToWrite_0 : decode cX1_rowToWrite 0 = .ok (.aload_n 0, 1) := by decide +kernel
theorem dX1_rowToWrite_1 : decode cX1_rowToWrite 1 = .ok (.iload_n 1, 1) := by decide +kernel
theorem dX1_rowToWrite_2 : decode cX1_rowToWrite 2 = .ok (.invokevirtual 84, 3) := by decide +kernel
theorem dX1_rowToWrite_5 : decode cX1_rowToWrite 5 = .ok (.istore 4, 2) := by decide +kernel
theorem dX1_rowToWrite_7 : decode cX1_rowToWrite 7 = .ok (.iload 4, 2) := by decide +kernel
theorem dX1_rowToWrite_9 : decode cX1_rowToWrite 9 = .ok (.iconst 1, 1) := by decide +kernel
theorem dX1_rowToWrite_10 : decode cX1_rowToWrite 10 = .ok (.if_icmp .lt 14, 3) := by decide +kernel
theorem dX1_rowToWrite_13 : decode cX1_rowToWrite 13 = .ok (.iload 4, 2) := by decide +kernel
theorem dX1_rowToWrite_15 : decode cX1_rowToWrite 15 = .ok (.bipush 8, 2) := by decide +kernel
theorem dX1_rowToWrite_17 : decode cX1_rowToWrite 17 = .ok (.if_icmp .gt 7, 3) := by decide +kernel
theorem dX1_rowToWrite_20 : decode cX1_rowToWrite 20 = .ok (.iconst 1, 1) := by decide +kernel
theorem dX1_rowToWrite_21 : decode cX1_rowToWrite 21 = .ok (.goto 4, 3) := by decide +kernel
theorem dX1_rowToWrite_24 : decode cX1_rowToWrite 24 = .ok (.iconst 0, 1) := by decide +kernel
theorem dX1_rowToWrite_25 : decode cX1_rowToWrite 25 = .ok (.istore 5, 2) := by decide +kernel
theorem dX1_rowToWrite_27 : decode cX1_rowToWrite 27 = .ok (.aload_n 0, 1) := by decide +kernel
theorem dX1_rowToWrite_28 : decode cX1_rowToWrite 28 = .ok (.iload 5, 2) := by decide +kernel
theorem dX1_rowToWrite_30 : decode cX1_rowToWrite 30 = .ok (.ifCond .eq 8, 3) := by decide +kernel
theorem dX1_rowToWrite_33 : decode cX1_rowToWrite 33 = .ok (.iload 4, 2) := by decide +kernel
theorem dX1_rowToWrite_35 : decode cX1_rowToWrite 35 = .ok (.goto 16, 3) := by decide +kernel
theorem dX1_rowToWrite_38 : decode cX1_rowToWrite 38 = .ok (.aload_n 0, 1) := by decide +kernel
theorem dX1_rowToWrite_39 : decode cX1_rowToWrite 39 = .ok (.aload_n 0, 1) := by decide +kernel
theorem dX1_rowToWrite_40 : decode cX1_rowToWrite 40 = .ok (.invokevirtual 87, 3) := by decide +kernel
theorem dX1_rowToWrite_43 : decode cX1_rowToWrite 43 = .ok (.aload_n 0, 1) := by decide +kernel
theorem dX1_rowToWrite_44 : decode cX1_rowToWrite 44 = .ok (.iload_n 1, 1) := by decide +kernel
theorem dX1_rowToWrite_45 : decode cX1_rowToWrite 45 = .ok (.invokevirtual 91, 3) := by decide +kernel
theorem dX1_rowToWrite_48 : decode cX1_rowToWrite 48 = .ok (.invokevirtual 95, 3) := by decide +kernel
theorem dX1_rowToWrite_51 : decode cX1_rowToWrite 51 = .ok (.lload_n 2, 1) := by decide +kernel
theorem dX1_rowToWrite_52 : decode cX1_rowToWrite 52 = .ok (.invokevirtual 95, 3) := by decide +kernel
theorem dX1_rowToWrite_55 : decode cX1_rowToWrite 55 = .ok (.ireturn, 1) := by decide +kernel
theorem dX1_firstRow_0 : decode cX1_firstRow 0 = .ok (.aload_n 0, 1) := by decide +kernel
theorem dX1_firstRow_1 : decode cX1_firstRow 1 = .ok (.getfield 29, 3) := by decide +kernel
theorem dX1_firstRow_4 : decode cX1_firstRow 4 = .ok (.ifCond .ne 7, 3) := by decide +kernel
theorem dX1_firstRow_7 : decode cX1_firstRow 7 = .ok (.iconst 1, 1) := by decide +kernel
theorem dX1_firstRow_8 : decode cX1_firstRow 8 = .ok (.goto 5, 3) := by decide +kernel
theorem dX1_firstRow_11 : decode cX1_firstRow 11 = .ok (.bipush 7, 2) := by decide +kernel
theorem dX1_firstRow_13 : decode cX1_firstRow 13 = .ok (.ireturn, 1) := by decide +kernel
theorem dX1_rowThatHolds_0 : decode cX1_rowThatHolds 0 = .ok (.aload_n 0, 1) := by decide +kernel
theorem dX1_rowThatHolds_1 : decode cX1_rowThatHolds 1 = .ok (.getfield 29, 3) := by decide +kernel
theorem dX1_rowThatHolds_4 : decode cX1_rowThatHolds 4 = .ok (.ifCond .ne 8, 3) := by decide +kernel
theorem dX1_rowThatHolds_7 : decode cX1_rowThatHolds 7 = .ok (.bipush 6, 2) := by decide +kernel
theorem dX1_rowThatHolds_9 : decode cX1_rowThatHolds 9 = .ok (.goto 5, 3) := by decide +kernel
theorem dX1_rowThatHolds_12 : decode cX1_rowThatHolds 12 = .ok (.bipush 8, 2) := by decide +kernel
theorem dX1_rowThatHolds_14 : decode cX1_rowThatHolds 14 = .ok (.istore 4, 2) := by decide +kernel
theorem dX1_rowThatHolds_16 : decode cX1_rowThatHolds 16 = .ok (.iconst 0, 1) := by decide +kernel
theorem dX1_rowThatHolds_17 : decode cX1_rowThatHolds 17 = .ok (.iload_n 1, 1) := by decide +kernel
theorem dX1_rowThatHolds_18 : decode cX1_rowThatHolds 18 = .ok (.invokestatic 68, 3) := by decide +kernel
theorem dX1_rowThatHolds_21 : decode cX1_rowThatHolds 21 = .ok (.istore 5, 2) := by decide +kernel
theorem dX1_rowThatHolds_23 : decode cX1_rowThatHolds 23 = .ok (.iload 5, 2) := by decide +kernel
theorem dX1_rowThatHolds_25 : decode cX1_rowThatHolds 25 = .ok (.iload 4, 2) := by decide +kernel
theorem dX1_rowThatHolds_27 : decode cX1_rowThatHolds 27 = .ok (.if_icmp .ge 32, 3) := by decide +kernel
theorem dX1_rowThatHolds_30 : decode cX1_rowThatHolds 30 = .ok (.iload 5, 2) := by decide +kernel
theorem dX1_rowThatHolds_32 : decode cX1_rowThatHolds 32 = .ok (.getstatic 98, 3) := by decide +kernel
theorem dX1_rowThatHolds_35 : decode cX1_rowThatHolds 35 = .ok (.arraylength, 1) := by decide +kernel
theorem dX1_rowThatHolds_36 : decode cX1_rowThatHolds 36 = .ok (.if_icmp .ge 23, 3) := by decide +kernel
theorem dX1_rowThatHolds_39 : decode cX1_rowThatHolds 39 = .ok (.getstatic 98, 3) := by decide +kernel
theorem dX1_rowThatHolds_42 : decode cX1_rowThatHolds 42 = .ok (.iload 5, 2) := by decide +kernel
theorem dX1_rowThatHolds_44 : decode cX1_rowThatHolds 44 = .ok (.laload, 1) := by decide +kernel
theorem dX1_rowThatHolds_45 : decode cX1_rowThatHolds 45 = .ok (.lload_n 2, 1) := by decide +kernel
theorem dX1_rowThatHolds_46 : decode cX1_rowThatHolds 46 = .ok (.lcmp, 1) := by decide +kernel
theorem dX1_rowThatHolds_47 : decode cX1_rowThatHolds 47 = .ok (.ifCond .lt 6, 3) := by decide +kernel
theorem dX1_rowThatHolds_50 : decode cX1_rowThatHolds 50 = .ok (.iload 5, 2) := by decide +kernel
theorem dX1_rowThatHolds_52 : decode cX1_rowThatHolds 52 = .ok (.ireturn, 1) := by decide +kernel
theorem dX1_rowThatHolds_53 : decode cX1_rowThatHolds 53 = .ok (.iinc 5 1, 3) := by decide +kernel
theorem dX1_rowThatHolds_56 : decode cX1_rowThatHolds 56 = .ok (.goto (-33), 3) := by decide +kernel
theorem dX1_rowThatHolds_59 : decode cX1_rowThatHolds 59 = .ok (.iload 4, 2) := by decide +kernel
theorem dX1_rowThatHolds_61 : decode cX1_rowThatHolds 61 = .ok (.ireturn, 1) := by decide +kernel
theorem dX1_mostOf_0 : decode cX1_mostOf 0 = .ok (.lconst 0, 1) := by decide +kernel
theorem dX1_mostOf_1 : decode cX1_mostOf 1 = .ok (.lstore_n 2, 1) := by decide +kernel
theorem dX1_mostOf_2 : decode cX1_mostOf 2 = .ok (.iconst 0, 1) := by decide +kernel
theorem dX1_mostOf_3 : decode cX1_mostOf 3 = .ok (.istore 4, 2) := by decide +kernel
theorem dX1_mostOf_5 : decode cX1_mostOf 5 = .ok (.iload 4, 2) := by decide +kernel
theorem dX1_mostOf_7 : decode cX1_mostOf 7 = .ok (.bipush 16, 2) := by decide +kernel
theorem dX1_mostOf_9 : decode cX1_mostOf 9 = .ok (.if_icmp .ge 25, 3) := by decide +kernel
theorem dX1_mostOf_12 : decode cX1_mostOf 12 = .ok (.lload_n 2, 1) := by decide +kernel
theorem dX1_mostOf_13 : decode cX1_mostOf 13 = .ok (.aload_n 0, 1) := by decide +kernel
theorem dX1_mostOf_14 : decode cX1_mostOf 14 = .ok (.bipush 16, 2) := by decide +kernel
theorem dX1_mostOf_16 : decode cX1_mostOf 16 = .ok (.iload_n 1, 1) := by decide +kernel
theorem dX1_mostOf_17 : decode cX1_mostOf 17 = .ok (.imul, 1) := by decide +kernel
theorem dX1_mostOf_18 : decode cX1_mostOf 18 = .ok (.iload 4, 2) := by decide +kernel
theorem dX1_mostOf_20 : decode cX1_mostOf 20 = .ok (.iadd, 1) := by decide +kernel
theorem dX1_mostOf_21 : decode cX1_mostOf 21 = .ok (.invokevirtual 101, 3) := by decide +kernel
theorem dX1_mostOf_24 : decode cX1_mostOf 24 = .ok (.invokestatic 104, 3) := by decide +kernel
theorem dX1_mostOf_27 : decode cX1_mostOf 27 = .ok (.lstore_n 2, 1) := by decide +kernel
theorem dX1_mostOf_28 : decode cX1_mostOf 28 = .ok (.iinc 4 1, 3) := by decide +kernel
theorem dX1_mostOf_31 : decode cX1_mostOf 31 = .ok (.goto (-26), 3) := by decide +kernel
theorem dX1_mostOf_34 : decode cX1_mostOf 34 = .ok (.lload_n 2, 1) := by decide +kernel
theorem dX1_mostOf_35 : decode cX1_mostOf 35 = .ok (.lreturn, 1) := by decide +kernel
theorem dX1_isLevel_0 : decode cX1_isLevel 0 = .ok (.iconst 1, 1) := by decide +kernel
theorem dX1_isLevel_1 : decode cX1_isLevel 1 = .ok (.istore_n 2, 1) := by decide +kernel
theorem dX1_isLevel_2 : decode cX1_isLevel 2 = .ok (.iload_n 2, 1) := by decide +kernel
theorem dX1_isLevel_3 : decode cX1_isLevel 3 = .ok (.bipush 16, 2) := by decide +kernel
theorem dX1_isLevel_5 : decode cX1_isLevel 5 = .ok (.if_icmp .ge 33, 3) := by decide +kernel
theorem dX1_isLevel_8 : decode cX1_isLevel 8 = .ok (.aload_n 0, 1) := by decide +kernel
theorem dX1_isLevel_9 : decode cX1_isLevel 9 = .ok (.bipush 16, 2) := by decide +kernel
theorem dX1_isLevel_11 : decode cX1_isLevel 11 = .ok (.iload_n 1, 1) := by decide +kernel
theorem dX1_isLevel_12 : decode cX1_isLevel 12 = .ok (.imul, 1) := by decide +kernel
theorem dX1_isLevel_13 : decode cX1_isLevel 13 = .ok (.iload_n 2, 1) := by decide +kernel
theorem dX1_isLevel_14 : decode cX1_isLevel 14 = .ok (.iadd, 1) := by decide +kernel
theorem dX1_isLevel_15 : decode cX1_isLevel 15 = .ok (.invokevirtual 101, 3) := by decide +kernel
theorem dX1_isLevel_18 : decode cX1_isLevel 18 = .ok (.aload_n 0, 1) := by decide +kernel
theorem dX1_isLevel_19 : decode cX1_isLevel 19 = .ok (.bipush 16, 2) := by decide +kernel
theorem dX1_isLevel_21 : decode cX1_isLevel 21 = .ok (.iload_n 1, 1) := by decide +kernel
theorem dX1_isLevel_22 : decode cX1_isLevel 22 = .ok (.imul, 1) := by decide +kernel
theorem dX1_isLevel_23 : decode cX1_isLevel 23 = .ok (.invokevirtual 101, 3) := by decide +kernel
theorem dX1_isLevel_26 : decode cX1_isLevel 26 = .ok (.lcmp, 1) := by decide +kernel
theorem dX1_isLevel_27 : decode cX1_isLevel 27 = .ok (.ifCond .eq 5, 3) := by decide +kernel
theorem dX1_isLevel_30 : decode cX1_isLevel 30 = .ok (.iconst 0, 1) := by decide +kernel
theorem dX1_isLevel_31 : decode cX1_isLevel 31 = .ok (.ireturn, 1) := by decide +kernel
theorem dX1_isLevel_32 : decode cX1_isLevel 32 = .ok (.iinc 2 1, 3) := by decide +kernel
theorem dX1_isLevel_35 : decode cX1_isLevel 35 = .ok (.goto (-33), 3) := by decide +kernel
theorem dX1_isLevel_38 : decode cX1_isLevel 38 = .ok (.iconst 1, 1) := by decide +kernel
theorem dX1_isLevel_39 : decode cX1_isLevel 39 = .ok (.ireturn, 1) := by decide +kernel
theorem dX1_shelfOf_0 : decode cX1_shelfOf 0 = .ok (.aload_n 0, 1) := by decide +kernel
theorem dX1_shelfOf_1 : decode cX1_shelfOf 1 = .ok (.iload_n 1, 1) := by decide +kernel
theorem dX1_shelfOf_2 : decode cX1_shelfOf 2 = .ok (.invokevirtual 91, 3) := by decide +kernel
theorem dX1_shelfOf_5 : decode cX1_shelfOf 5 = .ok (.lstore_n 2, 1) := by decide +kernel
theorem dX1_shelfOf_6 : decode cX1_shelfOf 6 = .ok (.lload_n 2, 1) := by decide +kernel
theorem dX1_shelfOf_7 : decode cX1_shelfOf 7 = .ok (.lconst 0, 1) := by decide +kernel
theorem dX1_shelfOf_8 : decode cX1_shelfOf 8 = .ok (.lcmp, 1) := by decide +kernel
theorem dX1_shelfOf_9 : decode cX1_shelfOf 9 = .ok (.ifCond .ne 5, 3) := by decide +kernel
theorem dX1_shelfOf_12 : decode cX1_shelfOf 12 = .ok (.iconst 0, 1) := by decide +kernel
theorem dX1_shelfOf_13 : decode cX1_shelfOf 13 = .ok (.ireturn, 1) := by decide +kernel
theorem dX1_shelfOf_14 : decode cX1_shelfOf 14 = .ok (.aload_n 0, 1) := by decide +kernel
theorem dX1_shelfOf_15 : decode cX1_shelfOf 15 = .ok (.iload_n 1, 1) := by decide +kernel
theorem dX1_shelfOf_16 : decode cX1_shelfOf 16 = .ok (.invokevirtual 107, 3) := by decide +kernel
theorem dX1_shelfOf_19 : decode cX1_shelfOf 19 = .ok (.ifCond .eq 6, 3) := by decide +kernel
theorem dX1_shelfOf_22 : decode cX1_shelfOf 22 = .ok (.bipush 9, 2) := by decide +kernel
theorem dX1_shelfOf_24 : decode cX1_shelfOf 24 = .ok (.ireturn, 1) := by decide +kernel
theorem dX1_shelfOf_25 : decode cX1_shelfOf 25 = .ok (.aload_n 0, 1) := by decide +kernel
theorem dX1_shelfOf_26 : decode cX1_shelfOf 26 = .ok (.getfield 29, 3) := by decide +kernel
theorem dX1_shelfOf_29 : decode cX1_shelfOf 29 = .ok (.ifCond .ne 16, 3) := by decide +kernel
theorem dX1_shelfOf_32 : decode cX1_shelfOf 32 = .ok (.lload_n 2, 1) := by decide +kernel
theorem dX1_shelfOf_33 : decode cX1_shelfOf 33 = .ok (.ldc2_w 111, 3) := by decide +kernel
theorem dX1_shelfOf_36 : decode cX1_shelfOf 36 = .ok (.lcmp, 1) := by decide +kernel
theorem dX1_shelfOf_37 : decode cX1_shelfOf 37 = .ok (.ifCond .gt 8, 3) := by decide +kernel
theorem dX1_shelfOf_40 : decode cX1_shelfOf 40 = .ok (.bipush 10, 2) := by decide +kernel
theorem dX1_shelfOf_42 : decode cX1_shelfOf 42 = .ok (.goto 12, 3) := by decide +kernel
theorem dX1_shelfOf_45 : decode cX1_shelfOf 45 = .ok (.aload_n 0, 1) := by decide +kernel
theorem dX1_shelfOf_46 : decode cX1_shelfOf 46 = .ok (.aload_n 0, 1) := by decide +kernel
theorem dX1_shelfOf_47 : decode cX1_shelfOf 47 = .ok (.invokevirtual 87, 3) := by decide +kernel
theorem dX1_shelfOf_50 : decode cX1_shelfOf 50 = .ok (.lload_n 2, 1) := by decide +kernel
theorem dX1_shelfOf_51 : decode cX1_shelfOf 51 = .ok (.invokevirtual 95, 3) := by decide +kernel
theorem dX1_shelfOf_54 : decode cX1_shelfOf 54 = .ok (.ireturn, 1) := by decide +kernel
theorem dX1_shelveAll_0 : decode cX1_shelveAll 0 = .ok (.iconst 0, 1) := by decide +kernel
theorem dX1_shelveAll_1 : decode cX1_shelveAll 1 = .ok (.istore_n 1, 1) := by decide +kernel
theorem dX1_shelveAll_2 : decode cX1_shelveAll 2 = .ok (.iconst 0, 1) := by decide +kernel
theorem dX1_shelveAll_3 : decode cX1_shelveAll 3 = .ok (.istore_n 2, 1) := by decide +kernel
theorem dX1_shelveAll_4 : decode cX1_shelveAll 4 = .ok (.iload_n 2, 1) := by decide +kernel
theorem dX1_shelveAll_5 : decode cX1_shelveAll 5 = .ok (.aload_n 0, 1) := by decide +kernel
theorem dX1_shelveAll_6 : decode cX1_shelveAll 6 = .ok (.getfield 53, 3) := by decide +kernel
theorem dX1_shelveAll_9 : decode cX1_shelveAll 9 = .ok (.if_icmp .ge 57, 3) := by decide +kernel
theorem dX1_shelveAll_12 : decode cX1_shelveAll 12 = .ok (.iload_n 2, 1) := by decide +kernel
theorem dX1_shelveAll_13 : decode cX1_shelveAll 13 = .ok (.aload_n 0, 1) := by decide +kernel
theorem dX1_shelveAll_14 : decode cX1_shelveAll 14 = .ok (.getfield 15, 3) := by decide +kernel
theorem dX1_shelveAll_17 : decode cX1_shelveAll 17 = .ok (.arraylength, 1) := by decide +kernel
theorem dX1_shelveAll_18 : decode cX1_shelveAll 18 = .ok (.if_icmp .ge 48, 3) := by decide +kernel
theorem dX1_shelveAll_21 : decode cX1_shelveAll 21 = .ok (.aload_n 0, 1) := by decide +kernel
theorem dX1_shelveAll_22 : decode cX1_shelveAll 22 = .ok (.getfield 15, 3) := by decide +kernel
theorem dX1_shelveAll_25 : decode cX1_shelveAll 25 = .ok (.iload_n 2, 1) := by decide +kernel
theorem dX1_shelveAll_26 : decode cX1_shelveAll 26 = .ok (.iaload, 1) := by decide +kernel
theorem dX1_shelveAll_27 : decode cX1_shelveAll 27 = .ok (.ifCond .ne 7, 3) := by decide +kernel
theorem dX1_shelveAll_30 : decode cX1_shelveAll 30 = .ok (.iconst 0, 1) := by decide +kernel
theorem dX1_shelveAll_31 : decode cX1_shelveAll 31 = .ok (.goto 8, 3) := by decide +kernel
theorem dX1_shelveAll_34 : decode cX1_shelveAll 34 = .ok (.aload_n 0, 1) := by decide +kernel
theorem dX1_shelveAll_35 : decode cX1_shelveAll 35 = .ok (.iload_n 2, 1) := by decide +kernel
theorem dX1_shelveAll_36 : decode cX1_shelveAll 36 = .ok (.invokevirtual 113, 3) := by decide +kernel
theorem dX1_shelveAll_39 : decode cX1_shelveAll 39 = .ok (.istore_n 3, 1) := by decide +kernel
theorem dX1_shelveAll_40 : decode cX1_shelveAll 40 = .ok (.iload_n 3, 1) := by decide +kernel
theorem dX1_shelveAll_41 : decode cX1_shelveAll 41 = .ok (.aload_n 0, 1) := by decide +kernel
theorem dX1_shelveAll_42 : decode cX1_shelveAll 42 = .ok (.getfield 15, 3) := by decide +kernel
theorem dX1_shelveAll_45 : decode cX1_shelveAll 45 = .ok (.iload_n 2, 1) := by decide +kernel
theorem dX1_shelveAll_46 : decode cX1_shelveAll 46 = .ok (.iaload, 1) := by decide +kernel
theorem dX1_shelveAll_47 : decode cX1_shelveAll 47 = .ok (.if_icmp .eq 13, 3) := by decide +kernel
theorem dX1_shelveAll_50 : decode cX1_shelveAll 50 = .ok (.aload_n 0, 1) := by decide +kernel
theorem dX1_shelveAll_51 : decode cX1_shelveAll 51 = .ok (.getfield 15, 3) := by decide +kernel
theorem dX1_shelveAll_54 : decode cX1_shelveAll 54 = .ok (.iload_n 2, 1) := by decide +kernel
theorem dX1_shelveAll_55 : decode cX1_shelveAll 55 = .ok (.iload_n 3, 1) := by decide +kernel
theorem dX1_shelveAll_56 : decode cX1_shelveAll 56 = .ok (.iastore, 1) := by decide +kernel
theorem dX1_shelveAll_57 : decode cX1_shelveAll 57 = .ok (.iinc 1 1, 3) := by decide +kernel
theorem dX1_shelveAll_60 : decode cX1_shelveAll 60 = .ok (.iinc 2 1, 3) := by decide +kernel
theorem dX1_shelveAll_63 : decode cX1_shelveAll 63 = .ok (.goto (-59), 3) := by decide +kernel
theorem dX1_shelveAll_66 : decode cX1_shelveAll 66 = .ok (.iload_n 1, 1) := by decide +kernel
theorem dX1_shelveAll_67 : decode cX1_shelveAll 67 = .ok (.ireturn, 1) := by decide +kernel
theorem dX1_bytesOfPages_0 : decode cX1_bytesOfPages 0 = .ok (.iconst 0, 1) := by decide +kernel
theorem dX1_bytesOfPages_1 : decode cX1_bytesOfPages 1 = .ok (.istore_n 1, 1) := by decide +kernel
theorem dX1_bytesOfPages_2 : decode cX1_bytesOfPages 2 = .ok (.iconst 0, 1) := by decide +kernel
theorem dX1_bytesOfPages_3 : decode cX1_bytesOfPages 3 = .ok (.istore_n 2, 1) := by decide +kernel
theorem dX1_bytesOfPages_4 : decode cX1_bytesOfPages 4 = .ok (.iload_n 2, 1) := by decide +kernel
theorem dX1_bytesOfPages_5 : decode cX1_bytesOfPages 5 = .ok (.aload_n 0, 1) := by decide +kernel
theorem dX1_bytesOfPages_6 : decode cX1_bytesOfPages 6 = .ok (.getfield 53, 3) := by decide +kernel
theorem dX1_bytesOfPages_9 : decode cX1_bytesOfPages 9 = .ok (.if_icmp .ge 39, 3) := by decide +kernel
theorem dX1_bytesOfPages_12 : decode cX1_bytesOfPages 12 = .ok (.aload_n 0, 1) := by decide +kernel
theorem dX1_bytesOfPages_13 : decode cX1_bytesOfPages 13 = .ok (.iload_n 2, 1) := by decide +kernel
theorem dX1_bytesOfPages_14 : decode cX1_bytesOfPages 14 = .ok (.invokevirtual 84, 3) := by decide +kernel
theorem dX1_bytesOfPages_17 : decode cX1_bytesOfPages 17 = .ok (.istore_n 3, 1) := by decide +kernel
theorem dX1_bytesOfPages_18 : decode cX1_bytesOfPages 18 = .ok (.iload_n 1, 1) := by decide +kernel
theorem dX1_bytesOfPages_19 : decode cX1_bytesOfPages 19 = .ok (.iload_n 3, 1) := by decide +kernel
theorem dX1_bytesOfPages_20 : decode cX1_bytesOfPages 20 = .ok (.ifCond .lt 19, 3) := by decide +kernel
theorem dX1_bytesOfPages_23 : decode cX1_bytesOfPages 23 = .ok (.iload_n 3, 1) := by decide +kernel
theorem dX1_bytesOfPages_24 : decode cX1_bytesOfPages 24 = .ok (.getstatic 116, 3) := by decide +kernel
theorem dX1_bytesOfPages_27 : decode cX1_bytesOfPages 27 = .ok (.arraylength, 1) := by decide +kernel
theorem dX1_bytesOfPages_28 : decode cX1_bytesOfPages 28 = .ok (.if_icmp .ge 11, 3) := by decide +kernel
theorem dX1_bytesOfPages_31 : decode cX1_bytesOfPages 31 = .ok (.getstatic 116, 3) := by decide +kernel
theorem dX1_bytesOfPages_34 : decode cX1_bytesOfPages 34 = .ok (.iload_n 3, 1) := by decide +kernel
theorem dX1_bytesOfPages_35 : decode cX1_bytesOfPages 35 = .ok (.iaload, 1) := by decide +kernel
theorem dX1_bytesOfPages_36 : decode cX1_bytesOfPages 36 = .ok (.goto 4, 3) := by decide +kernel
theorem dX1_bytesOfPages_39 : decode cX1_bytesOfPages 39 = .ok (.iconst 0, 1) := by decide +kernel
theorem dX1_bytesOfPages_40 : decode cX1_bytesOfPages 40 = .ok (.iadd, 1) := by decide +kernel
theorem dX1_bytesOfPages_41 : decode cX1_bytesOfPages 41 = .ok (.istore_n 1, 1) := by decide +kernel
theorem dX1_bytesOfPages_42 : decode cX1_bytesOfPages 42 = .ok (.iinc 2 1, 3) := by decide +kernel
theorem dX1_bytesOfPages_45 : decode cX1_bytesOfPages 45 = .ok (.goto (-41), 3) := by decide +kernel
theorem dX1_bytesOfPages_48 : decode cX1_bytesOfPages 48 = .ok (.iload_n 1, 1) := by decide +kernel
theorem dX1_bytesOfPages_49 : decode cX1_bytesOfPages 49 = .ok (.ireturn, 1) := by decide +kernel
theorem dX1_endOf_0 : decode cX1_endOf 0 = .ok (.aload_n 0, 1) := by decide +kernel
theorem dX1_endOf_1 : decode cX1_endOf 1 = .ok (.iload_n 1, 1) := by decide +kernel
theorem dX1_endOf_2 : decode cX1_endOf 2 = .ok (.invokevirtual 84, 3) := by decide +kernel
theorem dX1_endOf_5 : decode cX1_endOf 5 = .ok (.ifCond .ne 10, 3) := by decide +kernel
theorem dX1_endOf_8 : decode cX1_endOf 8 = .ok (.bipush 16, 2) := by decide +kernel
theorem dX1_endOf_10 : decode cX1_endOf 10 = .ok (.iload_n 1, 1) := by decide +kernel
theorem dX1_endOf_11 : decode cX1_endOf 11 = .ok (.imul, 1) := by decide +kernel
theorem dX1_endOf_12 : decode cX1_endOf 12 = .ok (.goto 17, 3) := by decide +kernel
theorem dX1_endOf_15 : decode cX1_endOf 15 = .ok (.aload_n 0, 1) := by decide +kernel
theorem dX1_endOf_16 : decode cX1_endOf 16 = .ok (.getfield 50, 3) := by decide +kernel
theorem dX1_endOf_19 : decode cX1_endOf 19 = .ok (.bipush 16, 2) := by decide +kernel
theorem dX1_endOf_21 : decode cX1_endOf 21 = .ok (.iload_n 1, 1) := by decide +kernel
theorem dX1_endOf_22 : decode cX1_endOf 22 = .ok (.imul, 1) := by decide +kernel
theorem dX1_endOf_23 : decode cX1_endOf 23 = .ok (.bipush 16, 2) := by decide +kernel
theorem dX1_endOf_25 : decode cX1_endOf 25 = .ok (.iadd, 1) := by decide +kernel
theorem dX1_endOf_26 : decode cX1_endOf 26 = .ok (.invokestatic 44, 3) := by decide +kernel
theorem dX1_endOf_29 : decode cX1_endOf 29 = .ok (.ireturn, 1) := by decide +kernel
theorem dX1_unitsAhead_0 : decode cX1_unitsAhead 0 = .ok (.lconst 0, 1) := by decide +kernel
theorem dX1_unitsAhead_1 : decode cX1_unitsAhead 1 = .ok (.lstore_n 2, 1) := by decide +kernel
theorem dX1_unitsAhead_2 : decode cX1_unitsAhead 2 = .ok (.iconst 0, 1) := by decide +kernel
theorem dX1_unitsAhead_3 : decode cX1_unitsAhead 3 = .ok (.istore 4, 2) := by decide +kernel
theorem dX1_unitsAhead_5 : decode cX1_unitsAhead 5 = .ok (.iload 4, 2) := by decide +kernel
theorem dX1_unitsAhead_7 : decode cX1_unitsAhead 7 = .ok (.aload_n 0, 1) := by decide +kernel
theorem dX1_unitsAhead_8 : decode cX1_unitsAhead 8 = .ok (.getfield 53, 3) := by decide +kernel
theorem dX1_unitsAhead_11 : decode cX1_unitsAhead 11 = .ok (.if_icmp .ge 50, 3) := by decide +kernel
theorem dX1_unitsAhead_14 : decode cX1_unitsAhead 14 = .ok (.iload_n 1, 1) := by decide +kernel
theorem dX1_unitsAhead_15 : decode cX1_unitsAhead 15 = .ok (.aload_n 0, 1) := by decide +kernel
theorem dX1_unitsAhead_16 : decode cX1_unitsAhead 16 = .ok (.iload 4, 2) := by decide +kernel
theorem dX1_unitsAhead_18 : decode cX1_unitsAhead 18 = .ok (.invokevirtual 119, 3) := by decide +kernel
theorem dX1_unitsAhead_21 : decode cX1_unitsAhead 21 = .ok (.invokestatic 44, 3) := by decide +kernel
theorem dX1_unitsAhead_24 : decode cX1_unitsAhead 24 = .ok (.istore 5, 2) := by decide +kernel
theorem dX1_unitsAhead_26 : decode cX1_unitsAhead 26 = .ok (.bipush 16, 2) := by decide +kernel
theorem dX1_unitsAhead_28 : decode cX1_unitsAhead 28 = .ok (.iload 4, 2) := by decide +kernel
theorem dX1_unitsAhead_30 : decode cX1_unitsAhead 30 = .ok (.imul, 1) := by decide +kernel
theorem dX1_unitsAhead_31 : decode cX1_unitsAhead 31 = .ok (.istore 6, 2) := by decide +kernel
theorem dX1_unitsAhead_33 : decode cX1_unitsAhead 33 = .ok (.iload 6, 2) := by decide +kernel
theorem dX1_unitsAhead_35 : decode cX1_unitsAhead 35 = .ok (.iload 5, 2) := by decide +kernel
theorem dX1_unitsAhead_37 : decode cX1_unitsAhead 37 = .ok (.if_icmp .ge 18, 3) := by decide +kernel
theorem dX1_unitsAhead_40 : decode cX1_unitsAhead 40 = .ok (.lload_n 2, 1) := by decide +kernel
theorem dX1_unitsAhead_41 : decode cX1_unitsAhead 41 = .ok (.aload_n 0, 1) := by decide +kernel
theorem dX1_unitsAhead_42 : decode cX1_unitsAhead 42 = .ok (.iload 6, 2) := by decide +kernel
theorem dX1_unitsAhead_44 : decode cX1_unitsAhead 44 = .ok (.invokevirtual 101, 3) := by decide +kernel
theorem dX1_unitsAhead_47 : decode cX1_unitsAhead 47 = .ok (.ladd, 1) := by decide +kernel
theorem dX1_unitsAhead_48 : decode cX1_unitsAhead 48 = .ok (.lstore_n 2, 1) := by decide +kernel
theorem dX1_unitsAhead_49 : decode cX1_unitsAhead 49 = .ok (.iinc 6 1, 3) := by decide +kernel
theorem dX1_unitsAhead_52 : decode cX1_unitsAhead 52 = .ok (.goto (-19), 3) := by decide +kernel
theorem dX1_unitsAhead_55 : decode cX1_unitsAhead 55 = .ok (.iinc 4 1, 3) := by decide +kernel
theorem dX1_unitsAhead_58 : decode cX1_unitsAhead 58 = .ok (.goto (-53), 3) := by decide +kernel
theorem dX1_unitsAhead_61 : decode cX1_unitsAhead 61 = .ok (.lload_n 2, 1) := by decide +kernel
theorem dX1_unitsAhead_62 : decode cX1_unitsAhead 62 = .ok (.lreturn, 1) := by decide +kernel
theorem dX1_allUnits_0 : decode cX1_allUnits 0 = .ok (.aload_n 0, 1) := by decide +kernel
theorem dX1_allUnits_1 : decode cX1_allUnits 1 = .ok (.aload_n 0, 1) := by decide +kernel
theorem dX1_allUnits_2 : decode cX1_allUnits 2 = .ok (.getfield 50, 3) := by decide +kernel
theorem dX1_allUnits_5 : decode cX1_allUnits 5 = .ok (.invokevirtual 122, 3) := by decide +kernel
theorem dX1_allUnits_8 : decode cX1_allUnits 8 = .ok (.lreturn, 1) := by decide +kernel
theorem dX1_usedSlots_0 : decode cX1_usedSlots 0 = .ok (.iconst 0, 1) := by decide +kernel
theorem dX1_usedSlots_1 : decode cX1_usedSlots 1 = .ok (.istore_n 1, 1) := by decide +kernel
theorem dX1_usedSlots_2 : decode cX1_usedSlots 2 = .ok (.iconst 0, 1) := by decide +kernel
theorem dX1_usedSlots_3 : decode cX1_usedSlots 3 = .ok (.istore_n 2, 1) := by decide +kernel
theorem dX1_usedSlots_4 : decode cX1_usedSlots 4 = .ok (.iload_n 2, 1) := by decide +kernel
theorem dX1_usedSlots_5 : decode cX1_usedSlots 5 = .ok (.aload_n 0, 1) := by decide +kernel
theorem dX1_usedSlots_6 : decode cX1_usedSlots 6 = .ok (.getfield 53, 3) := by decide +kernel
theorem dX1_usedSlots_9 : decode cX1_usedSlots 9 = .ok (.if_icmp .ge 52, 3) := by decide +kernel
theorem dX1_usedSlots_12 : decode cX1_usedSlots 12 = .ok (.aload_n 0, 1) := by decide +kernel
theorem dX1_usedSlots_13 : decode cX1_usedSlots 13 = .ok (.iload_n 2, 1) := by decide +kernel
theorem dX1_usedSlots_14 : decode cX1_usedSlots 14 = .ok (.invokevirtual 119, 3) := by decide +kernel
theorem dX1_usedSlots_17 : decode cX1_usedSlots 17 = .ok (.istore_n 3, 1) := by decide +kernel
theorem dX1_usedSlots_18 : decode cX1_usedSlots 18 = .ok (.bipush 16, 2) := by decide +kernel
theorem dX1_usedSlots_20 : decode cX1_usedSlots 20 = .ok (.iload_n 2, 1) := by decide +kernel
theorem dX1_usedSlots_21 : decode cX1_usedSlots 21 = .ok (.imul, 1) := by decide +kernel
theorem dX1_usedSlots_22 : decode cX1_usedSlots 22 = .ok (.istore 4, 2) := by decide +kernel
theorem dX1_usedSlots_24 : decode cX1_usedSlots 24 = .ok (.iload 4, 2) := by decide +kernel
theorem dX1_usedSlots_26 : decode cX1_usedSlots 26 = .ok (.iload_n 3, 1) := by decide +kernel
theorem dX1_usedSlots_27 : decode cX1_usedSlots 27 = .ok (.if_icmp .ge 28, 3) := by decide +kernel
theorem dX1_usedSlots_30 : decode cX1_usedSlots 30 = .ok (.iload_n 1, 1) := by decide +kernel
theorem dX1_usedSlots_31 : decode cX1_usedSlots 31 = .ok (.aload_n 0, 1) := by decide +kernel
theorem dX1_usedSlots_32 : decode cX1_usedSlots 32 = .ok (.iload 4, 2) := by decide +kernel
theorem dX1_usedSlots_34 : decode cX1_usedSlots 34 = .ok (.invokevirtual 101, 3) := by decide +kernel
theorem dX1_usedSlots_37 : decode cX1_usedSlots 37 = .ok (.lconst 0, 1) := by decide +kernel
theorem dX1_usedSlots_38 : decode cX1_usedSlots 38 = .ok (.lcmp, 1) := by decide +kernel
theorem dX1_usedSlots_39 : decode cX1_usedSlots 39 = .ok (.ifCond .ne 7, 3) := by decide +kernel
theorem dX1_usedSlots_42 : decode cX1_usedSlots 42 = .ok (.iconst 0, 1) := by decide +kernel
theorem dX1_usedSlots_43 : decode cX1_usedSlots 43 = .ok (.goto 4, 3) := by decide +kernel
theorem dX1_usedSlots_46 : decode cX1_usedSlots 46 = .ok (.iconst 1, 1) := by decide +kernel
theorem dX1_usedSlots_47 : decode cX1_usedSlots 47 = .ok (.iadd, 1) := by decide +kernel
theorem dX1_usedSlots_48 : decode cX1_usedSlots 48 = .ok (.istore_n 1, 1) := by decide +kernel
theorem dX1_usedSlots_49 : decode cX1_usedSlots 49 = .ok (.iinc 4 1, 3) := by decide +kernel
theorem dX1_usedSlots_52 : decode cX1_usedSlots 52 = .ok (.goto (-28), 3) := by decide +kernel
theorem dX1_usedSlots_55 : decode cX1_usedSlots 55 = .ok (.iinc 2 1, 3) := by decide +kernel
theorem dX1_usedSlots_58 : decode cX1_usedSlots 58 = .ok (.goto (-54), 3) := by decide +kernel
theorem dX1_usedSlots_61 : decode cX1_usedSlots 61 = .ok (.iload_n 1, 1) := by decide +kernel
theorem dX1_usedSlots_62 : decode cX1_usedSlots 62 = .ok (.ireturn, 1) := by decide +kernel
theorem dX1_firstUsed_0 : decode cX1_firstUsed 0 = .ok (.iconst 0, 1) := by decide +kernel
theorem dX1_firstUsed_1 : decode cX1_firstUsed 1 = .ok (.istore_n 1, 1) := by decide +kernel
theorem dX1_firstUsed_2 : decode cX1_firstUsed 2 = .ok (.iload_n 1, 1) := by decide +kernel
theorem dX1_firstUsed_3 : decode cX1_firstUsed 3 = .ok (.aload_n 0, 1) := by decide +kernel
theorem dX1_firstUsed_4 : decode cX1_firstUsed 4 = .ok (.getfield 53, 3) := by decide +kernel
theorem dX1_firstUsed_7 : decode cX1_firstUsed 7 = .ok (.if_icmp .ge 43, 3) := by decide +kernel
theorem dX1_firstUsed_10 : decode cX1_firstUsed 10 = .ok (.aload_n 0, 1) := by decide +kernel
theorem dX1_firstUsed_11 : decode cX1_firstUsed 11 = .ok (.iload_n 1, 1) := by decide +kernel
theorem dX1_firstUsed_12 : decode cX1_firstUsed 12 = .ok (.invokevirtual 119, 3) := by decide +kernel
theorem dX1_firstUsed_15 : decode cX1_firstUsed 15 = .ok (.istore_n 2, 1) := by decide +kernel
theorem dX1_firstUsed_16 : decode cX1_firstUsed 16 = .ok (.bipush 16, 2) := by decide +kernel
theorem dX1_firstUsed_18 : decode cX1_firstUsed 18 = .ok (.iload_n 1, 1) := by decide +kernel
theorem dX1_firstUsed_19 : decode cX1_firstUsed 19 = .ok (.imul, 1) := by decide +kernel
theorem dX1_firstUsed_20 : decode cX1_firstUsed 20 = .ok (.istore_n 3, 1) := by decide +kernel
theorem dX1_firstUsed_21 : decode cX1_firstUsed 21 = .ok (.iload_n 3, 1) := by decide +kernel
theorem dX1_firstUsed_22 : decode cX1_firstUsed 22 = .ok (.iload_n 2, 1) := by decide +kernel
theorem dX1_firstUsed_23 : decode cX1_firstUsed 23 = .ok (.if_icmp .ge 21, 3) := by decide +kernel
theorem dX1_firstUsed_26 : decode cX1_firstUsed 26 = .ok (.aload_n 0, 1) := by decide +kernel
theorem dX1_firstUsed_27 : decode cX1_firstUsed 27 = .ok (.iload_n 3, 1) := by decide +kernel
theorem dX1_firstUsed_28 : decode cX1_firstUsed 28 = .ok (.invokevirtual 101, 3) := by decide +kernel
theorem dX1_firstUsed_31 : decode cX1_firstUsed 31 = .ok (.lconst 0, 1) := by decide +kernel
theorem dX1_firstUsed_32 : decode cX1_firstUsed 32 = .ok (.lcmp, 1) := by decide +kernel
theorem dX1_firstUsed_33 : decode cX1_firstUsed 33 = .ok (.ifCond .eq 5, 3) := by decide +kernel
theorem dX1_firstUsed_36 : decode cX1_firstUsed 36 = .ok (.iload_n 3, 1) := by decide +kernel
theorem dX1_firstUsed_37 : decode cX1_firstUsed 37 = .ok (.ireturn, 1) := by decide +kernel
theorem dX1_firstUsed_38 : decode cX1_firstUsed 38 = .ok (.iinc 3 1, 3) := by decide +kernel
theorem dX1_firstUsed_41 : decode cX1_firstUsed 41 = .ok (.goto (-20), 3) := by decide +kernel
theorem dX1_firstUsed_44 : decode cX1_firstUsed 44 = .ok (.iinc 1 1, 3) := by decide +kernel
theorem dX1_firstUsed_47 : decode cX1_firstUsed 47 = .ok (.goto (-45), 3) := by decide +kernel
theorem dX1_firstUsed_50 : decode cX1_firstUsed 50 = .ok (.iconst (-1), 1) := by decide +kernel
theorem dX1_firstUsed_51 : decode cX1_firstUsed 51 = .ok (.ireturn, 1) := by decide +kernel
theorem dX1_lastUsed_0 : decode cX1_lastUsed 0 = .ok (.aload_n 0, 1) := by decide +kernel
theorem dX1_lastUsed_1 : decode cX1_lastUsed 1 = .ok (.getfield 53, 3) := by decide +kernel
theorem dX1_lastUsed_4 : decode cX1_lastUsed 4 = .ok (.iconst 1, 1) := by decide +kernel
theorem dX1_lastUsed_5 : decode cX1_lastUsed 5 = .ok (.isub, 1) := by decide +kernel
theorem dX1_lastUsed_6 : decode cX1_lastUsed 6 = .ok (.istore_n 1, 1) := by decide +kernel
theorem dX1_lastUsed_7 : decode cX1_lastUsed 7 = .ok (.iload_n 1, 1) := by decide +kernel
theorem dX1_lastUsed_8 : decode cX1_lastUsed 8 = .ok (.ifCond .lt 43, 3) := by decide +kernel
theorem dX1_lastUsed_11 : decode cX1_lastUsed 11 = .ok (.aload_n 0, 1) := by decide +kernel
theorem dX1_lastUsed_12 : decode cX1_lastUsed 12 = .ok (.iload_n 1, 1) := by decide +kernel
theorem dX1_lastUsed_13 : decode cX1_lastUsed 13 = .ok (.invokevirtual 119, 3) := by decide +kernel
theorem dX1_lastUsed_16 : decode cX1_lastUsed 16 = .ok (.iconst 1, 1) := by decide +kernel
theorem dX1_lastUsed_17 : decode cX1_lastUsed 17 = .ok (.isub, 1) := by decide +kernel
theorem dX1_lastUsed_18 : decode cX1_lastUsed 18 = .ok (.istore_n 2, 1) := by decide +kernel
theorem dX1_lastUsed_19 : decode cX1_lastUsed 19 = .ok (.iload_n 2, 1) := by decide +kernel
theorem dX1_lastUsed_20 : decode cX1_lastUsed 20 = .ok (.bipush 16, 2) := by decide +kernel
theorem dX1_lastUsed_22 : decode cX1_lastUsed 22 = .ok (.iload_n 1, 1) := by decide +kernel
theorem dX1_lastUsed_23 : decode cX1_lastUsed 23 = .ok (.imul, 1) := by decide +kernel
theorem dX1_lastUsed_24 : decode cX1_lastUsed 24 = .ok (.if_icmp .lt 21, 3) := by decide +kernel
theorem dX1_lastUsed_27 : decode cX1_lastUsed 27 = .ok (.aload_n 0, 1) := by decide +kernel
theorem dX1_lastUsed_28 : decode cX1_lastUsed 28 = .ok (.iload_n 2, 1) := by decide +kernel
theorem dX1_lastUsed_29 : decode cX1_lastUsed 29 = .ok (.invokevirtual 101, 3) := by decide +kernel
theorem dX1_lastUsed_32 : decode cX1_lastUsed 32 = .ok (.lconst 0, 1) := by decide +kernel
theorem dX1_lastUsed_33 : decode cX1_lastUsed 33 = .ok (.lcmp, 1) := by decide +kernel
theorem dX1_lastUsed_34 : decode cX1_lastUsed 34 = .ok (.ifCond .eq 5, 3) := by decide +kernel
theorem dX1_lastUsed_37 : decode cX1_lastUsed 37 = .ok (.iload_n 2, 1) := by decide +kernel
theorem dX1_lastUsed_38 : decode cX1_lastUsed 38 = .ok (.ireturn, 1) := by decide +kernel
theorem dX1_lastUsed_39 : decode cX1_lastUsed 39 = .ok (.iinc 2 (-1), 3) := by decide +kernel
theorem dX1_lastUsed_42 : decode cX1_lastUsed 42 = .ok (.goto (-23), 3) := by decide +kernel
theorem dX1_lastUsed_45 : decode cX1_lastUsed 45 = .ok (.iinc 1 (-1), 3) := by decide +kernel
theorem dX1_lastUsed_48 : decode cX1_lastUsed 48 = .ok (.goto (-41), 3) := by decide +kernel
theorem dX1_lastUsed_51 : decode cX1_lastUsed 51 = .ok (.iconst (-1), 1) := by decide +kernel
theorem dX1_lastUsed_52 : decode cX1_lastUsed 52 = .ok (.ireturn, 1) := by decide +kernel
theorem dX1_least_0 : decode cX1_least 0 = .ok (.aload_n 0, 1) := by decide +kernel
theorem dX1_least_1 : decode cX1_least 1 = .ok (.getfield 33, 3) := by decide +kernel
theorem dX1_least_4 : decode cX1_least 4 = .ok (.iconst 0, 1) := by decide +kernel
theorem dX1_least_5 : decode cX1_least 5 = .ok (.aload_n 0, 1) := by decide +kernel
theorem dX1_least_6 : decode cX1_least 6 = .ok (.invokevirtual 125, 3) := by decide +kernel
theorem dX1_least_9 : decode cX1_least 9 = .ok (.invokestatic 68, 3) := by decide +kernel
theorem dX1_least_12 : decode cX1_least 12 = .ok (.invokestatic 128, 3) := by decide +kernel
theorem dX1_least_15 : decode cX1_least 15 = .ok (.lreturn, 1) := by decide +kernel
theorem dX1_greatest_0 : decode cX1_greatest 0 = .ok (.aload_n 0, 1) := by decide +kernel
theorem dX1_greatest_1 : decode cX1_greatest 1 = .ok (.iconst 0, 1) := by decide +kernel
theorem dX1_greatest_2 : decode cX1_greatest 2 = .ok (.aload_n 0, 1) := by decide +kernel
theorem dX1_greatest_3 : decode cX1_greatest 3 = .ok (.invokevirtual 132, 3) := by decide +kernel
theorem dX1_greatest_6 : decode cX1_greatest 6 = .ok (.invokestatic 68, 3) := by decide +kernel
theorem dX1_greatest_9 : decode cX1_greatest 9 = .ok (.invokevirtual 135, 3) := by decide +kernel
theorem dX1_greatest_12 : decode cX1_greatest 12 = .ok (.lreturn, 1) := by decide +kernel
theorem dX1_cappedHigh_0 : decode cX1_cappedHigh 0 = .ok (.aload_n 0, 1) := by decide +kernel
theorem dX1_cappedHigh_1 : decode cX1_cappedHigh 1 = .ok (.getfield 36, 3) := by decide +kernel
theorem dX1_cappedHigh_4 : decode cX1_cappedHigh 4 = .ok (.aload_n 0, 1) := by decide +kernel
theorem dX1_cappedHigh_5 : decode cX1_cappedHigh 5 = .ok (.getfield 33, 3) := by decide +kernel
theorem dX1_cappedHigh_8 : decode cX1_cappedHigh 8 = .ok (.iload_n 1, 1) := by decide +kernel
theorem dX1_cappedHigh_9 : decode cX1_cappedHigh 9 = .ok (.invokestatic 138, 3) := by decide +kernel
theorem dX1_cappedHigh_12 : decode cX1_cappedHigh 12 = .ok (.invokestatic 141, 3) := by decide +kernel
theorem dX1_cappedHigh_15 : decode cX1_cappedHigh 15 = .ok (.lreturn, 1) := by decide +kernel
theorem dX1_valueWith_0 : decode cX1_valueWith 0 = .ok (.lconst 0, 1) := by decide +kernel
theorem dX1_valueWith_1 : decode cX1_valueWith 1 = .ok (.lstore_n 3, 1) := by decide +kernel
theorem dX1_valueWith_2 : decode cX1_valueWith 2 = .ok (.iconst 0, 1) := by decide +kernel
theorem dX1_valueWith_3 : decode cX1_valueWith 3 = .ok (.istore 5, 2) := by decide +kernel
theorem dX1_valueWith_5 : decode cX1_valueWith 5 = .ok (.iload 5, 2) := by decide +kernel
theorem dX1_valueWith_7 : decode cX1_valueWith 7 = .ok (.aload_n 0, 1) := by decide +kernel
theorem dX1_valueWith_8 : decode cX1_valueWith 8 = .ok (.getfield 53, 3) := by decide +kernel
theorem dX1_valueWith_11 : decode cX1_valueWith 11 = .ok (.if_icmp .ge 59, 3) := by decide +kernel
theorem dX1_valueWith_14 : decode cX1_valueWith 14 = .ok (.aload_n 0, 1) := by decide +kernel
theorem dX1_valueWith_15 : decode cX1_valueWith 15 = .ok (.iload 5, 2) := by decide +kernel
theorem dX1_valueWith_17 : decode cX1_valueWith 17 = .ok (.invokevirtual 119, 3) := by decide +kernel
theorem dX1_valueWith_20 : decode cX1_valueWith 20 = .ok (.istore 6, 2) := by decide +kernel
theorem dX1_valueWith_22 : decode cX1_valueWith 22 = .ok (.bipush 16, 2) := by decide +kernel
theorem dX1_valueWith_24 : decode cX1_valueWith 24 = .ok (.iload 5, 2) := by decide +kernel
theorem dX1_valueWith_26 : decode cX1_valueWith 26 = .ok (.imul, 1) := by decide +kernel
theorem dX1_valueWith_27 : decode cX1_valueWith 27 = .ok (.istore 7, 2) := by decide +kernel
theorem dX1_valueWith_29 : decode cX1_valueWith 29 = .ok (.iload 7, 2) := by decide +kernel
theorem dX1_valueWith_31 : decode cX1_valueWith 31 = .ok (.iload 6, 2) := by decide +kernel
theorem dX1_valueWith_33 : decode cX1_valueWith 33 = .ok (.if_icmp .ge 31, 3) := by decide +kernel
theorem dX1_valueWith_36 : decode cX1_valueWith 36 = .ok (.lload_n 3, 1) := by decide +kernel
theorem dX1_valueWith_37 : decode cX1_valueWith 37 = .ok (.aload_n 0, 1) := by decide +kernel
theorem dX1_valueWith_38 : decode cX1_valueWith 38 = .ok (.iload 7, 2) := by decide +kernel
theorem dX1_valueWith_40 : decode cX1_valueWith 40 = .ok (.invokevirtual 101, 3) := by decide +kernel
theorem dX1_valueWith_43 : decode cX1_valueWith 43 = .ok (.ladd, 1) := by decide +kernel
theorem dX1_valueWith_44 : decode cX1_valueWith 44 = .ok (.lstore_n 3, 1) := by decide +kernel
theorem dX1_valueWith_45 : decode cX1_valueWith 45 = .ok (.lload_n 3, 1) := by decide +kernel
theorem dX1_valueWith_46 : decode cX1_valueWith 46 = .ok (.lload_n 1, 1) := by decide +kernel
theorem dX1_valueWith_47 : decode cX1_valueWith 47 = .ok (.lcmp, 1) := by decide +kernel
theorem dX1_valueWith_48 : decode cX1_valueWith 48 = .ok (.ifCond .lt 10, 3) := by decide +kernel
theorem dX1_valueWith_51 : decode cX1_valueWith 51 = .ok (.aload_n 0, 1) := by decide +kernel
theorem dX1_valueWith_52 : decode cX1_valueWith 52 = .ok (.iload 7, 2) := by decide +kernel
theorem dX1_valueWith_54 : decode cX1_valueWith 54 = .ok (.invokevirtual 135, 3) := by decide +kernel
theorem dX1_valueWith_57 : decode cX1_valueWith 57 = .ok (.lreturn, 1) := by decide +kernel
theorem dX1_valueWith_58 : decode cX1_valueWith 58 = .ok (.iinc 7 1, 3) := by decide +kernel
theorem dX1_valueWith_61 : decode cX1_valueWith 61 = .ok (.goto (-32), 3) := by decide +kernel
theorem dX1_valueWith_64 : decode cX1_valueWith 64 = .ok (.iinc 5 1, 3) := by decide +kernel
theorem dX1_valueWith_67 : decode cX1_valueWith 67 = .ok (.goto (-62), 3) := by decide +kernel
theorem dX1_valueWith_70 : decode cX1_valueWith 70 = .ok (.aload_n 0, 1) := by decide +kernel
theorem dX1_valueWith_71 : decode cX1_valueWith 71 = .ok (.getfield 36, 3) := by decide +kernel
theorem dX1_valueWith_74 : decode cX1_valueWith 74 = .ok (.lreturn, 1) := by decide +kernel
theorem dX1_mean_0 : decode cX1_mean 0 = .ok (.new 143, 3) := by decide +kernel
theorem dX1_mean_3 : decode cX1_mean 3 = .ok (.dup, 1) := by decide +kernel
theorem dX1_mean_4 : decode cX1_mean 4 = .ok (.invokespecial 145, 3) := by decide +kernel
theorem dX1_mean_7 : decode cX1_mean 7 = .ok (.astore_n 1, 1) := by decide +kernel
theorem dX1_mean_8 : decode cX1_mean 8 = .ok (.iconst 0, 1) := by decide +kernel
theorem dX1_mean_9 : decode cX1_mean 9 = .ok (.istore_n 2, 1) := by decide +kernel
theorem dX1_mean_10 : decode cX1_mean 10 = .ok (.iload_n 2, 1) := by decide +kernel
theorem dX1_mean_11 : decode cX1_mean 11 = .ok (.aload_n 0, 1) := by decide +kernel
theorem dX1_mean_12 : decode cX1_mean 12 = .ok (.getfield 53, 3) := by decide +kernel
theorem dX1_mean_15 : decode cX1_mean 15 = .ok (.if_icmp .ge 52, 3) := by decide +kernel
theorem dX1_mean_18 : decode cX1_mean 18 = .ok (.aload_n 0, 1) := by decide +kernel
theorem dX1_mean_19 : decode cX1_mean 19 = .ok (.iload_n 2, 1) := by decide +kernel
theorem dX1_mean_20 : decode cX1_mean 20 = .ok (.invokevirtual 119, 3) := by decide +kernel
theorem dX1_mean_23 : decode cX1_mean 23 = .ok (.istore_n 3, 1) := by decide +kernel
theorem dX1_mean_24 : decode cX1_mean 24 = .ok (.bipush 16, 2) := by decide +kernel
theorem dX1_mean_26 : decode cX1_mean 26 = .ok (.iload_n 2, 1) := by decide +kernel
theorem dX1_mean_27 : decode cX1_mean 27 = .ok (.imul, 1) := by decide +kernel
theorem dX1_mean_28 : decode cX1_mean 28 = .ok (.istore 4, 2) := by decide +kernel
theorem dX1_mean_30 : decode cX1_mean 30 = .ok (.iload 4, 2) := by decide +kernel
theorem dX1_mean_32 : decode cX1_mean 32 = .ok (.iload_n 3, 1) := by decide +kernel
theorem dX1_mean_33 : decode cX1_mean 33 = .ok (.if_icmp .ge 28, 3) := by decide +kernel
theorem dX1_mean_36 : decode cX1_mean 36 = .ok (.aload_n 1, 1) := by decide +kernel
theorem dX1_mean_37 : decode cX1_mean 37 = .ok (.aload_n 0, 1) := by decide +kernel
theorem dX1_mean_38 : decode cX1_mean 38 = .ok (.getfield 33, 3) := by decide +kernel
theorem dX1_mean_41 : decode cX1_mean 41 = .ok (.iload 4, 2) := by decide +kernel
theorem dX1_mean_43 : decode cX1_mean 43 = .ok (.invokestatic 146, 3) := by decide +kernel
theorem dX1_mean_46 : decode cX1_mean 46 = .ok (.aload_n 0, 1) := by decide +kernel
theorem dX1_mean_47 : decode cX1_mean 47 = .ok (.iload 4, 2) := by decide +kernel
theorem dX1_mean_49 : decode cX1_mean 49 = .ok (.invokevirtual 101, 3) := by decide +kernel
theorem dX1_mean_52 : decode cX1_mean 52 = .ok (.invokevirtual 149, 3) := by decide +kernel
theorem dX1_mean_55 : decode cX1_mean 55 = .ok (.iinc 4 1, 3) := by decide +kernel
theorem dX1_mean_58 : decode cX1_mean 58 = .ok (.goto (-28), 3) := by decide +kernel
theorem dX1_mean_61 : decode cX1_mean 61 = .ok (.iinc 2 1, 3) := by decide +kernel
theorem dX1_mean_64 : decode cX1_mean 64 = .ok (.goto (-54), 3) := by decide +kernel
theorem dX1_mean_67 : decode cX1_mean 67 = .ok (.aload_n 1, 1) := by decide +kernel
theorem dX1_mean_68 : decode cX1_mean 68 = .ok (.aload_n 0, 1) := by decide +kernel
theorem dX1_mean_69 : decode cX1_mean 69 = .ok (.invokevirtual 153, 3) := by decide +kernel
theorem dX1_mean_72 : decode cX1_mean 72 = .ok (.invokevirtual 157, 3) := by decide +kernel
theorem dX1_mean_75 : decode cX1_mean 75 = .ok (.lreturn, 1) := by decide +kernel
theorem dX1_isLike_0 : decode cX1_isLike 0 = .ok (.aload_n 0, 1) := by decide +kernel
theorem dX1_isLike_1 : decode cX1_isLike 1 = .ok (.getfield 29, 3) := by decide +kernel
theorem dX1_isLike_4 : decode cX1_isLike 4 = .ok (.aload_n 1, 1) := by decide +kernel
theorem dX1_isLike_5 : decode cX1_isLike 5 = .ok (.getfield 29, 3) := by decide +kernel
theorem dX1_isLike_8 : decode cX1_isLike 8 = .ok (.if_icmp .ne 26, 3) := by decide +kernel
theorem dX1_isLike_11 : decode cX1_isLike 11 = .ok (.aload_n 0, 1) := by decide +kernel
theorem dX1_isLike_12 : decode cX1_isLike 12 = .ok (.getfield 33, 3) := by decide +kernel
theorem dX1_isLike_15 : decode cX1_isLike 15 = .ok (.aload_n 1, 1) := by decide +kernel
theorem dX1_isLike_16 : decode cX1_isLike 16 = .ok (.getfield 33, 3) := by decide +kernel
theorem dX1_isLike_19 : decode cX1_isLike 19 = .ok (.if_icmp .ne 15, 3) := by decide +kernel
theorem dX1_isLike_22 : decode cX1_isLike 22 = .ok (.aload_n 0, 1) := by decide +kernel
theorem dX1_isLike_23 : decode cX1_isLike 23 = .ok (.getfield 36, 3) := by decide +kernel
theorem dX1_isLike_26 : decode cX1_isLike 26 = .ok (.aload_n 1, 1) := by decide +kernel
theorem dX1_isLike_27 : decode cX1_isLike 27 = .ok (.getfield 36, 3) := by decide +kernel
theorem dX1_isLike_30 : decode cX1_isLike 30 = .ok (.lcmp, 1) := by decide +kernel
theorem dX1_isLike_31 : decode cX1_isLike 31 = .ok (.ifCond .eq 5, 3) := by decide +kernel
theorem dX1_isLike_34 : decode cX1_isLike 34 = .ok (.iconst 0, 1) := by decide +kernel
theorem dX1_isLike_35 : decode cX1_isLike 35 = .ok (.ireturn, 1) := by decide +kernel
theorem dX1_isLike_36 : decode cX1_isLike 36 = .ok (.iconst 0, 1) := by decide +kernel
theorem dX1_isLike_37 : decode cX1_isLike 37 = .ok (.istore_n 2, 1) := by decide +kernel
theorem dX1_isLike_38 : decode cX1_isLike 38 = .ok (.iload_n 2, 1) := by decide +kernel
theorem dX1_isLike_39 : decode cX1_isLike 39 = .ok (.aload_n 0, 1) := by decide +kernel
theorem dX1_isLike_40 : decode cX1_isLike 40 = .ok (.getfield 53, 3) := by decide +kernel
theorem dX1_isLike_43 : decode cX1_isLike 43 = .ok (.if_icmp .ge 59, 3) := by decide +kernel
theorem dX1_isLike_46 : decode cX1_isLike 46 = .ok (.aload_n 0, 1) := by decide +kernel
theorem dX1_isLike_47 : decode cX1_isLike 47 = .ok (.iload_n 2, 1) := by decide +kernel
theorem dX1_isLike_48 : decode cX1_isLike 48 = .ok (.invokevirtual 119, 3) := by decide +kernel
theorem dX1_isLike_51 : decode cX1_isLike 51 = .ok (.aload_n 1, 1) := by decide +kernel
theorem dX1_isLike_52 : decode cX1_isLike 52 = .ok (.iload_n 2, 1) := by decide +kernel
theorem dX1_isLike_53 : decode cX1_isLike 53 = .ok (.invokevirtual 119, 3) := by decide +kernel
theorem dX1_isLike_56 : decode cX1_isLike 56 = .ok (.invokestatic 68, 3) := by decide +kernel
theorem dX1_isLike_59 : decode cX1_isLike 59 = .ok (.istore_n 3, 1) := by decide +kernel
theorem dX1_isLike_60 : decode cX1_isLike 60 = .ok (.bipush 16, 2) := by decide +kernel
theorem dX1_isLike_62 : decode cX1_isLike 62 = .ok (.iload_n 2, 1) := by decide +kernel
theorem dX1_isLike_63 : decode cX1_isLike 63 = .ok (.imul, 1) := by decide +kernel
theorem dX1_isLike_64 : decode cX1_isLike 64 = .ok (.istore 4, 2) := by decide +kernel
theorem dX1_isLike_66 : decode cX1_isLike 66 = .ok (.iload 4, 2) := by decide +kernel
theorem dX1_isLike_68 : decode cX1_isLike 68 = .ok (.iload_n 3, 1) := by decide +kernel
theorem dX1_isLike_69 : decode cX1_isLike 69 = .ok (.if_icmp .ge 27, 3) := by decide +kernel
theorem dX1_isLike_72 : decode cX1_isLike 72 = .ok (.aload_n 0, 1) := by decide +kernel
theorem dX1_isLike_73 : decode cX1_isLike 73 = .ok (.iload 4, 2) := by decide +kernel
theorem dX1_isLike_75 : decode cX1_isLike 75 = .ok (.invokevirtual 101, 3) := by decide +kernel
theorem dX1_isLike_78 : decode cX1_isLike 78 = .ok (.aload_n 1, 1) := by decide +kernel
theorem dX1_isLike_79 : decode cX1_isLike 79 = .ok (.iload 4, 2) := by decide +kernel
theorem dX1_isLike_81 : decode cX1_isLike 81 = .ok (.invokevirtual 101, 3) := by decide +kernel
theorem dX1_isLike_84 : decode cX1_isLike 84 = .ok (.lcmp, 1) := by decide +kernel
theorem dX1_isLike_85 : decode cX1_isLike 85 = .ok (.ifCond .eq 5, 3) := by decide +kernel
theorem dX1_isLike_88 : decode cX1_isLike 88 = .ok (.iconst 0, 1) := by decide +kernel
theorem dX1_isLike_89 : decode cX1_isLike 89 = .ok (.ireturn, 1) := by decide +kernel
theorem dX1_isLike_90 : decode cX1_isLike 90 = .ok (.iinc 4 1, 3) := by decide +kernel
theorem dX1_isLike_93 : decode cX1_isLike 93 = .ok (.goto (-27), 3) := by decide +kernel
theorem dX1_isLike_96 : decode cX1_isLike 96 = .ok (.iinc 2 1, 3) := by decide +kernel
theorem dX1_isLike_99 : decode cX1_isLike 99 = .ok (.goto (-61), 3) := by decide +kernel
theorem dX1_isLike_102 : decode cX1_isLike 102 = .ok (.iconst 1, 1) := by decide +kernel
theorem dX1_isLike_103 : decode cX1_isLike 103 = .ok (.ireturn, 1) := by decide +kernel
theorem dX1_pour_0 : decode cX1_pour 0 = .ok (.aload_n 0, 1) := by decide +kernel
theorem dX1_pour_1 : decode cX1_pour 1 = .ok (.lload_n 1, 1) := by decide +kernel
theorem dX1_pour_2 : decode cX1_pour 2 = .ok (.invokevirtual 161, 3) := by decide +kernel
theorem dX1_pour_5 : decode cX1_pour 5 = .ok (.ifCond .eq 23, 3) := by decide +kernel
theorem dX1_pour_8 : decode cX1_pour 8 = .ok (.lload 5, 2) := by decide +kernel
theorem dX1_pour_10 : decode cX1_pour 10 = .ok (.lconst 0, 1) := by decide +kernel
theorem dX1_pour_11 : decode cX1_pour 11 = .ok (.lcmp, 1) := by decide +kernel
theorem dX1_pour_12 : decode cX1_pour 12 = .ok (.ifCond .le 18, 3) := by decide +kernel
theorem dX1_pour_15 : decode cX1_pour 15 = .ok (.lload_n 1, 1) := by decide +kernel
theorem dX1_pour_16 : decode cX1_pour 16 = .ok (.lload 5, 2) := by decide +kernel
theorem dX1_pour_18 : decode cX1_pour 18 = .ok (.ldiv, 1) := by decide +kernel
theorem dX1_pour_19 : decode cX1_pour 19 = .ok (.lconst 1, 1) := by decide +kernel
theorem dX1_pour_20 : decode cX1_pour 20 = .ok (.lsub, 1) := by decide +kernel
theorem dX1_pour_21 : decode cX1_pour 21 = .ok (.ldc2_w 165, 3) := by decide +kernel
theorem dX1_pour_24 : decode cX1_pour 24 = .ok (.lcmp, 1) := by decide +kernel
theorem dX1_pour_25 : decode cX1_pour 25 = .ok (.ifCond .le 5, 3) := by decide +kernel
theorem dX1_pour_28 : decode cX1_pour 28 = .ok (.iconst 0, 1) := by decide +kernel
theorem dX1_pour_29 : decode cX1_pour 29 = .ok (.ireturn, 1) := by decide +kernel
theorem dX1_pour_30 : decode cX1_pour 30 = .ok (.lload_n 1, 1) := by decide +kernel
theorem dX1_pour_31 : decode cX1_pour 31 = .ok (.lstore 8, 2) := by decide +kernel
theorem dX1_pour_33 : decode cX1_pour 33 = .ok (.iconst 0, 1) := by decide +kernel
theorem dX1_pour_34 : decode cX1_pour 34 = .ok (.istore 10, 2) := by decide +kernel
theorem dX1_pour_36 : decode cX1_pour 36 = .ok (.iload 10, 2) := by decide +kernel
theorem dX1_pour_38 : decode cX1_pour 38 = .ok (.sipush 1000, 3) := by decide +kernel
theorem dX1_pour_41 : decode cX1_pour 41 = .ok (.if_icmp .gt 96, 3) := by decide +kernel
theorem dX1_pour_44 : decode cX1_pour 44 = .ok (.aload_n 0, 1) := by decide +kernel
theorem dX1_pour_45 : decode cX1_pour 45 = .ok (.getfield 33, 3) := by decide +kernel
theorem dX1_pour_48 : decode cX1_pour 48 = .ok (.lload 8, 2) := by decide +kernel
theorem dX1_pour_50 : decode cX1_pour 50 = .ok (.invokestatic 40, 3) := by decide +kernel
theorem dX1_pour_53 : decode cX1_pour 53 = .ok (.istore 11, 2) := by decide +kernel
theorem dX1_pour_55 : decode cX1_pour 55 = .ok (.aload_n 0, 1) := by decide +kernel
theorem dX1_pour_56 : decode cX1_pour 56 = .ok (.iload 11, 2) := by decide +kernel
theorem dX1_pour_58 : decode cX1_pour 58 = .ok (.lload 8, 2) := by decide +kernel
theorem dX1_pour_60 : decode cX1_pour 60 = .ok (.lload 5, 2) := by decide +kernel
theorem dX1_pour_62 : decode cX1_pour 62 = .ok (.invokevirtual 167, 3) := by decide +kernel
theorem dX1_pour_65 : decode cX1_pour 65 = .ok (.lstore 12, 2) := by decide +kernel
theorem dX1_pour_67 : decode cX1_pour 67 = .ok (.aload_n 0, 1) := by decide +kernel
theorem dX1_pour_68 : decode cX1_pour 68 = .ok (.iload 11, 2) := by decide +kernel
theorem dX1_pour_70 : decode cX1_pour 70 = .ok (.invokevirtual 101, 3) := by decide +kernel
theorem dX1_pour_73 : decode cX1_pour 73 = .ok (.lload 12, 2) := by decide +kernel
theorem dX1_pour_75 : decode cX1_pour 75 = .ok (.lload_n 3, 1) := by decide +kernel
theorem dX1_pour_76 : decode cX1_pour 76 = .ok (.lmul, 1) := by decide +kernel
theorem dX1_pour_77 : decode cX1_pour 77 = .ok (.ladd, 1) := by decide +kernel
theorem dX1_pour_78 : decode cX1_pour 78 = .ok (.lstore 14, 2) := by decide +kernel
theorem dX1_pour_80 : decode cX1_pour 80 = .ok (.lload 14, 2) := by decide +kernel
theorem dX1_pour_82 : decode cX1_pour 82 = .ok (.ldc2_w 171, 3) := by decide +kernel
theorem dX1_pour_85 : decode cX1_pour 85 = .ok (.lcmp, 1) := by decide +kernel
theorem dX1_pour_86 : decode cX1_pour 86 = .ok (.ifCond .le 5, 3) := by decide +kernel
theorem dX1_pour_89 : decode cX1_pour 89 = .ok (.iconst 0, 1) := by decide +kernel
theorem dX1_pour_90 : decode cX1_pour 90 = .ok (.ireturn, 1) := by decide +kernel
theorem dX1_pour_91 : decode cX1_pour 91 = .ok (.iload 7, 2) := by decide +kernel
theorem dX1_pour_93 : decode cX1_pour 93 = .ok (.ifCond .eq 11, 3) := by decide +kernel
theorem dX1_pour_96 : decode cX1_pour 96 = .ok (.aload_n 0, 1) := by decide +kernel
theorem dX1_pour_97 : decode cX1_pour 97 = .ok (.iload 11, 2) := by decide +kernel
theorem dX1_pour_99 : decode cX1_pour 99 = .ok (.lload 14, 2) := by decide +kernel
theorem dX1_pour_101 : decode cX1_pour 101 = .ok (.invokevirtual 173, 3) := by decide +kernel
theorem dX1_pour_104 : decode cX1_pour 104 = .ok (.lload 8, 2) := by decide +kernel
theorem dX1_pour_106 : decode cX1_pour 106 = .ok (.lload 12, 2) := by decide +kernel
theorem dX1_pour_108 : decode cX1_pour 108 = .ok (.lload 5, 2) := by decide +kernel
theorem dX1_pour_110 : decode cX1_pour 110 = .ok (.lmul, 1) := by decide +kernel
theorem dX1_pour_111 : decode cX1_pour 111 = .ok (.lsub, 1) := by decide +kernel
theorem dX1_pour_112 : decode cX1_pour 112 = .ok (.lstore 8, 2) := by decide +kernel
theorem dX1_pour_114 : decode cX1_pour 114 = .ok (.lload 5, 2) := by decide +kernel
theorem dX1_pour_116 : decode cX1_pour 116 = .ok (.lconst 0, 1) := by decide +kernel
theorem dX1_pour_117 : decode cX1_pour 117 = .ok (.lcmp, 1) := by decide +kernel
theorem dX1_pour_118 : decode cX1_pour 118 = .ok (.ifCond .eq 11, 3) := by decide +kernel
theorem dX1_pour_121 : decode cX1_pour 121 = .ok (.lload 8, 2) := by decide +kernel
theorem dX1_pour_123 : decode cX1_pour 123 = .ok (.lload 5, 2) := by decide +kernel
theorem dX1_pour_125 : decode cX1_pour 125 = .ok (.lcmp, 1) := by decide +kernel
theorem dX1_pour_126 : decode cX1_pour 126 = .ok (.ifCond .ge 5, 3) := by decide +kernel
theorem dX1_pour_129 : decode cX1_pour 129 = .ok (.iconst 1, 1) := by decide +kernel
theorem dX1_pour_130 : decode cX1_pour 130 = .ok (.ireturn, 1) := by decide +kernel
theorem dX1_pour_131 : decode cX1_pour 131 = .ok (.iinc 10 1, 3) := by decide +kernel
theorem dX1_pour_134 : decode cX1_pour 134 = .ok (.goto (-98), 3) := by decide +kernel
theorem dX1_pour_137 : decode cX1_pour 137 = .ok (.iconst 1, 1) := by decide +kernel
theorem dX1_pour_138 : decode cX1_pour 138 = .ok (.ireturn, 1) := by decide +kernel
theorem dX1_awaitedIn_0 : decode cX1_awaitedIn 0 = .ok (.aload_n 0, 1) := by decide +kernel
theorem dX1_awaitedIn_1 : decode cX1_awaitedIn 1 = .ok (.getfield 33, 3) := by decide +kernel
theorem dX1_awaitedIn_4 : decode cX1_awaitedIn 4 = .ok (.iload_n 1, 1) := by decide +kernel
theorem dX1_awaitedIn_5 : decode cX1_awaitedIn 5 = .ok (.invokestatic 128, 3) := by decide +kernel
theorem dX1_awaitedIn_8 : decode cX1_awaitedIn 8 = .ok (.lload 4, 2) := by decide +kernel
theorem dX1_awaitedIn_10 : decode cX1_awaitedIn 10 = .ok (.invokestatic 104, 3) := by decide +kernel
theorem dX1_awaitedIn_13 : decode cX1_awaitedIn 13 = .ok (.lstore 6, 2) := by decide +kernel
theorem dX1_awaitedIn_15 : decode cX1_awaitedIn 15 = .ok (.lload 4, 2) := by decide +kernel
theorem dX1_awaitedIn_17 : decode cX1_awaitedIn 17 = .ok (.lconst 0, 1) := by decide +kernel
theorem dX1_awaitedIn_18 : decode cX1_awaitedIn 18 = .ok (.lcmp, 1) := by decide +kernel
theorem dX1_awaitedIn_19 : decode cX1_awaitedIn 19 = .ok (.ifCond .le 10, 3) := by decide +kernel
theorem dX1_awaitedIn_22 : decode cX1_awaitedIn 22 = .ok (.lload_n 2, 1) := by decide +kernel
theorem dX1_awaitedIn_23 : decode cX1_awaitedIn 23 = .ok (.lload 6, 2) := by decide +kernel
theorem dX1_awaitedIn_25 : decode cX1_awaitedIn 25 = .ok (.lcmp, 1) := by decide +kernel
theorem dX1_awaitedIn_26 : decode cX1_awaitedIn 26 = .ok (.ifCond .ge 7, 3) := by decide +kernel
theorem dX1_awaitedIn_29 : decode cX1_awaitedIn 29 = .ok (.lconst 1, 1) := by decide +kernel
theorem dX1_awaitedIn_30 : decode cX1_awaitedIn 30 = .ok (.goto 12, 3) := by decide +kernel
theorem dX1_awaitedIn_33 : decode cX1_awaitedIn 33 = .ok (.lload_n 2, 1) := by decide +kernel
theorem dX1_awaitedIn_34 : decode cX1_awaitedIn 34 = .ok (.lload 6, 2) := by decide +kernel
theorem dX1_awaitedIn_36 : decode cX1_awaitedIn 36 = .ok (.lsub, 1) := by decide +kernel
theorem dX1_awaitedIn_37 : decode cX1_awaitedIn 37 = .ok (.lload 4, 2) := by decide +kernel
theorem dX1_awaitedIn_39 : decode cX1_awaitedIn 39 = .ok (.ldiv, 1) := by decide +kernel
theorem dX1_awaitedIn_40 : decode cX1_awaitedIn 40 = .ok (.lconst 1, 1) := by decide +kernel
theorem dX1_awaitedIn_41 : decode cX1_awaitedIn 41 = .ok (.ladd, 1) := by decide +kernel
theorem dX1_awaitedIn_42 : decode cX1_awaitedIn 42 = .ok (.lreturn, 1) := by decide +kernel
theorem dX1_canMerge_0 : decode cX1_canMerge 0 = .ok (.aload_n 1, 1) := by decide +kernel
theorem dX1_canMerge_1 : decode cX1_canMerge 1 = .ok (.invokevirtual 132, 3) := by decide +kernel
theorem dX1_canMerge_4 : decode cX1_canMerge 4 = .ok (.istore_n 3, 1) := by decide +kernel
theorem dX1_canMerge_5 : decode cX1_canMerge 5 = .ok (.aload_n 0, 1) := by decide +kernel
theorem dX1_canMerge_6 : decode cX1_canMerge 6 = .ok (.getfield 29, 3) := by decide +kernel
theorem dX1_canMerge_9 : decode cX1_canMerge 9 = .ok (.aload_n 1, 1) := by decide +kernel
theorem dX1_canMerge_10 : decode cX1_canMerge 10 = .ok (.getfield 29, 3) := by decide +kernel
theorem dX1_canMerge_13 : decode cX1_canMerge 13 = .ok (.if_icmp .ne 24, 3) := by decide +kernel
theorem dX1_canMerge_16 : decode cX1_canMerge 16 = .ok (.iload_n 3, 1) := by decide +kernel
theorem dX1_canMerge_17 : decode cX1_canMerge 17 = .ok (.iconst (-1), 1) := by decide +kernel
theorem dX1_canMerge_18 : decode cX1_canMerge 18 = .ok (.if_icmp .eq 21, 3) := by decide +kernel
theorem dX1_canMerge_21 : decode cX1_canMerge 21 = .ok (.aload_n 1, 1) := by decide +kernel
theorem dX1_canMerge_22 : decode cX1_canMerge 22 = .ok (.getfield 33, 3) := by decide +kernel
theorem dX1_canMerge_25 : decode cX1_canMerge 25 = .ok (.iload_n 3, 1) := by decide +kernel
theorem dX1_canMerge_26 : decode cX1_canMerge 26 = .ok (.invokestatic 128, 3) := by decide +kernel
theorem dX1_canMerge_29 : decode cX1_canMerge 29 = .ok (.aload_n 0, 1) := by decide +kernel
theorem dX1_canMerge_30 : decode cX1_canMerge 30 = .ok (.getfield 36, 3) := by decide +kernel
theorem dX1_canMerge_33 : decode cX1_canMerge 33 = .ok (.lcmp, 1) := by decide +kernel
theorem dX1_canMerge_34 : decode cX1_canMerge 34 = .ok (.ifCond .le 5, 3) := by decide +kernel
theorem dX1_canMerge_37 : decode cX1_canMerge 37 = .ok (.iconst 0, 1) := by decide +kernel
theorem dX1_canMerge_38 : decode cX1_canMerge 38 = .ok (.ireturn, 1) := by decide +kernel
theorem dX1_canMerge_39 : decode cX1_canMerge 39 = .ok (.iconst (-1), 1) := by decide +kernel
theorem dX1_canMerge_40 : decode cX1_canMerge 40 = .ok (.istore 4, 2) := by decide +kernel
theorem dX1_canMerge_42 : decode cX1_canMerge 42 = .ok (.lconst 0, 1) := by decide +kernel
theorem dX1_canMerge_43 : decode cX1_canMerge 43 = .ok (.lstore 5, 2) := by decide +kernel
theorem dX1_canMerge_45 : decode cX1_canMerge 45 = .ok (.iconst 0, 1) := by decide +kernel
theorem dX1_canMerge_46 : decode cX1_canMerge 46 = .ok (.istore 7, 2) := by decide +kernel
theorem dX1_canMerge_48 : decode cX1_canMerge 48 = .ok (.iload 7, 2) := by decide +kernel
theorem dX1_canMerge_50 : decode cX1_canMerge 50 = .ok (.aload_n 1, 1) := by decide +kernel
theorem dX1_canMerge_51 : decode cX1_canMerge 51 = .ok (.getfield 53, 3) := by decide +kernel
theorem dX1_canMerge_54 : decode cX1_canMerge 54 = .ok (.if_icmp .ge 123, 3) := by decide +kernel
theorem dX1_canMerge_57 : decode cX1_canMerge 57 = .ok (.aload_n 1, 1) := by decide +kernel
theorem dX1_canMerge_58 : decode cX1_canMerge 58 = .ok (.iload 7, 2) := by decide +kernel
theorem dX1_canMerge_60 : decode cX1_canMerge 60 = .ok (.invokevirtual 119, 3) := by decide +kernel
theorem dX1_canMerge_63 : decode cX1_canMerge 63 = .ok (.istore 8, 2) := by decide +kernel
theorem dX1_canMerge_65 : decode cX1_canMerge 65 = .ok (.bipush 16, 2) := by decide +kernel
theorem dX1_canMerge_67 : decode cX1_canMerge 67 = .ok (.iload 7, 2) := by decide +kernel
theorem dX1_canMerge_69 : decode cX1_canMerge 69 = .ok (.imul, 1) := by decide +kernel
theorem dX1_canMerge_70 : decode cX1_canMerge 70 = .ok (.istore 9, 2) := by decide +kernel
theorem dX1_canMerge_72 : decode cX1_canMerge 72 = .ok (.iload 9, 2) := by decide +kernel
theorem dX1_canMerge_74 : decode cX1_canMerge 74 = .ok (.iload 8, 2) := by decide +kernel
theorem dX1_canMerge_76 : decode cX1_canMerge 76 = .ok (.if_icmp .ge 95, 3) := by decide +kernel
theorem dX1_canMerge_79 : decode cX1_canMerge 79 = .ok (.aload_n 1, 1) := by decide +kernel
theorem dX1_canMerge_80 : decode cX1_canMerge 80 = .ok (.iload 9, 2) := by decide +kernel
theorem dX1_canMerge_82 : decode cX1_canMerge 82 = .ok (.invokevirtual 101, 3) := by decide +kernel
theorem dX1_canMerge_85 : decode cX1_canMerge 85 = .ok (.lstore 10, 2) := by decide +kernel
theorem dX1_canMerge_87 : decode cX1_canMerge 87 = .ok (.lload 10, 2) := by decide +kernel
theorem dX1_canMerge_89 : decode cX1_canMerge 89 = .ok (.lconst 0, 1) := by decide +kernel
theorem dX1_canMerge_90 : decode cX1_canMerge 90 = .ok (.lcmp, 1) := by decide +kernel
theorem dX1_canMerge_91 : decode cX1_canMerge 91 = .ok (.ifCond .ne 8, 3) := by decide +kernel
theorem dX1_canMerge_94 : decode cX1_canMerge 94 = .ok (.iload 4, 2) := by decide +kernel
theorem dX1_canMerge_96 : decode cX1_canMerge 96 = .ok (.goto 19, 3) := by decide +kernel
theorem dX1_canMerge_99 : decode cX1_canMerge 99 = .ok (.aload_n 0, 1) := by decide +kernel
theorem dX1_canMerge_100 : decode cX1_canMerge 100 = .ok (.getfield 33, 3) := by decide +kernel
theorem dX1_canMerge_103 : decode cX1_canMerge 103 = .ok (.aload_n 1, 1) := by decide +kernel
theorem dX1_canMerge_104 : decode cX1_canMerge 104 = .ok (.getfield 33, 3) := by decide +kernel
theorem dX1_canMerge_107 : decode cX1_canMerge 107 = .ok (.iload 9, 2) := by decide +kernel
theorem dX1_canMerge_109 : decode cX1_canMerge 109 = .ok (.invokestatic 128, 3) := by decide +kernel
theorem dX1_canMerge_112 : decode cX1_canMerge 112 = .ok (.invokestatic 40, 3) := by decide +kernel
theorem dX1_canMerge_115 : decode cX1_canMerge 115 = .ok (.istore 12, 2) := by decide +kernel
theorem dX1_canMerge_117 : decode cX1_canMerge 117 = .ok (.iload 12, 2) := by decide +kernel
theorem dX1_canMerge_119 : decode cX1_canMerge 119 = .ok (.iload 4, 2) := by decide +kernel
theorem dX1_canMerge_121 : decode cX1_canMerge 121 = .ok (.if_icmp .ne 8, 3) := by decide +kernel
theorem dX1_canMerge_124 : decode cX1_canMerge 124 = .ok (.lload 5, 2) := by decide +kernel
theorem dX1_canMerge_126 : decode cX1_canMerge 126 = .ok (.goto 9, 3) := by decide +kernel
theorem dX1_canMerge_129 : decode cX1_canMerge 129 = .ok (.aload_n 0, 1) := by decide +kernel
theorem dX1_canMerge_130 : decode cX1_canMerge 130 = .ok (.iload 12, 2) := by decide +kernel
theorem dX1_canMerge_132 : decode cX1_canMerge 132 = .ok (.invokevirtual 101, 3) := by decide +kernel
theorem dX1_canMerge_135 : decode cX1_canMerge 135 = .ok (.iload_n 2, 1) := by decide +kernel
theorem dX1_canMerge_136 : decode cX1_canMerge 136 = .ok (.i2l, 1) := by decide +kernel
theorem dX1_canMerge_137 : decode cX1_canMerge 137 = .ok (.lload 10, 2) := by decide +kernel
theorem dX1_canMerge_139 : decode cX1_canMerge 139 = .ok (.lmul, 1) := by decide +kernel
theorem dX1_canMerge_140 : decode cX1_canMerge 140 = .ok (.ladd, 1) := by decide +kernel
theorem dX1_canMerge_141 : decode cX1_canMerge 141 = .ok (.lstore 5, 2) := by decide +kernel
theorem dX1_canMerge_143 : decode cX1_canMerge 143 = .ok (.iload 12, 2) := by decide +kernel
theorem dX1_canMerge_145 : decode cX1_canMerge 145 = .ok (.istore 4, 2) := by decide +kernel
theorem dX1_canMerge_147 : decode cX1_canMerge 147 = .ok (.lload 5, 2) := by decide +kernel
theorem dX1_canMerge_149 : decode cX1_canMerge 149 = .ok (.lconst 0, 1) := by decide +kernel
theorem dX1_canMerge_150 : decode cX1_canMerge 150 = .ok (.lcmp, 1) := by decide +kernel
theorem dX1_canMerge_151 : decode cX1_canMerge 151 = .ok (.ifCond .lt 12, 3) := by decide +kernel
theorem dX1_canMerge_154 : decode cX1_canMerge 154 = .ok (.lload 5, 2) := by decide +kernel
theorem dX1_canMerge_156 : decode cX1_canMerge 156 = .ok (.ldc2_w 171, 3) := by decide +kernel
theorem dX1_canMerge_159 : decode cX1_canMerge 159 = .ok (.lcmp, 1) := by decide +kernel
theorem dX1_canMerge_160 : decode cX1_canMerge 160 = .ok (.ifCond .le 5, 3) := by decide +kernel
theorem dX1_canMerge_163 : decode cX1_canMerge 163 = .ok (.iconst 0, 1) := by decide +kernel
theorem dX1_canMerge_164 : decode cX1_canMerge 164 = .ok (.ireturn, 1) := by decide +kernel
theorem dX1_canMerge_165 : decode cX1_canMerge 165 = .ok (.iinc 9 1, 3) := by decide +kernel
theorem dX1_canMerge_168 : decode cX1_canMerge 168 = .ok (.goto (-96), 3) := by decide +kernel
theorem dX1_canMerge_171 : decode cX1_canMerge 171 = .ok (.iinc 7 1, 3) := by decide +kernel
theorem dX1_canMerge_174 : decode cX1_canMerge 174 = .ok (.goto (-126), 3) := by decide +kernel
theorem dX1_canMerge_177 : decode cX1_canMerge 177 = .ok (.iconst 1, 1) := by decide +kernel
theorem dX1_canMerge_178 : decode cX1_canMerge 178 = .ok (.ireturn, 1) := by decide +kernel
theorem dX1_mergeFrom_0 : decode cX1_mergeFrom 0 = .ok (.iconst 0, 1) := by decide +kernel
theorem dX1_mergeFrom_1 : decode cX1_mergeFrom 1 = .ok (.istore_n 3, 1) := by decide +kernel
theorem dX1_mergeFrom_2 : decode cX1_mergeFrom 2 = .ok (.iload_n 3, 1) := by decide +kernel
theorem dX1_mergeFrom_3 : decode cX1_mergeFrom 3 = .ok (.aload_n 1, 1) := by decide +kernel
theorem dX1_mergeFrom_4 : decode cX1_mergeFrom 4 = .ok (.getfield 53, 3) := by decide +kernel
theorem dX1_mergeFrom_7 : decode cX1_mergeFrom 7 = .ok (.if_icmp .ge 86, 3) := by decide +kernel
theorem dX1_mergeFrom_10 : decode cX1_mergeFrom 10 = .ok (.aload_n 1, 1) := by decide +kernel
theorem dX1_mergeFrom_11 : decode cX1_mergeFrom 11 = .ok (.iload_n 3, 1) := by decide +kernel
theorem dX1_mergeFrom_12 : decode cX1_mergeFrom 12 = .ok (.invokevirtual 119, 3) := by decide +kernel
theorem dX1_mergeFrom_15 : decode cX1_mergeFrom 15 = .ok (.istore 4, 2) := by decide +kernel
theorem dX1_mergeFrom_17 : decode cX1_mergeFrom 17 = .ok (.bipush 16, 2) := by decide +kernel
theorem dX1_mergeFrom_19 : decode cX1_mergeFrom 19 = .ok (.iload_n 3, 1) := by decide +kernel
theorem dX1_mergeFrom_20 : decode cX1_mergeFrom 20 = .ok (.imul, 1) := by decide +kernel
theorem dX1_mergeFrom_21 : decode cX1_mergeFrom 21 = .ok (.istore 5, 2) := by decide +kernel
theorem dX1_mergeFrom_23 : decode cX1_mergeFrom 23 = .ok (.iload 5, 2) := by decide +kernel
theorem dX1_mergeFrom_25 : decode cX1_mergeFrom 25 = .ok (.iload 4, 2) := by decide +kernel
theorem dX1_mergeFrom_27 : decode cX1_mergeFrom 27 = .ok (.if_icmp .ge 60, 3) := by decide +kernel
theorem dX1_mergeFrom_30 : decode cX1_mergeFrom 30 = .ok (.aload_n 1, 1) := by decide +kernel
theorem dX1_mergeFrom_31 : decode cX1_mergeFrom 31 = .ok (.iload 5, 2) := by decide +kernel
theorem dX1_mergeFrom_33 : decode cX1_mergeFrom 33 = .ok (.invokevirtual 101, 3) := by decide +kernel
theorem dX1_mergeFrom_36 : decode cX1_mergeFrom 36 = .ok (.lstore 6, 2) := by decide +kernel
theorem dX1_mergeFrom_38 : decode cX1_mergeFrom 38 = .ok (.lload 6, 2) := by decide +kernel
theorem dX1_mergeFrom_40 : decode cX1_mergeFrom 40 = .ok (.lconst 0, 1) := by decide +kernel
theorem dX1_mergeFrom_41 : decode cX1_mergeFrom 41 = .ok (.lcmp, 1) := by decide +kernel
theorem dX1_mergeFrom_42 : decode cX1_mergeFrom 42 = .ok (.ifCond .eq 39, 3) := by decide +kernel
theorem dX1_mergeFrom_45 : decode cX1_mergeFrom 45 = .ok (.aload_n 0, 1) := by decide +kernel
theorem dX1_mergeFrom_46 : decode cX1_mergeFrom 46 = .ok (.getfield 33, 3) := by decide +kernel
theorem dX1_mergeFrom_49 : decode cX1_mergeFrom 49 = .ok (.aload_n 1, 1) := by decide +kernel
theorem dX1_mergeFrom_50 : decode cX1_mergeFrom 50 = .ok (.getfield 33, 3) := by decide +kernel
theorem dX1_mergeFrom_53 : decode cX1_mergeFrom 53 = .ok (.iload 5, 2) := by decide +kernel
theorem dX1_mergeFrom_55 : decode cX1_mergeFrom 55 = .ok (.invokestatic 128, 3) := by decide +kernel
theorem dX1_mergeFrom_58 : decode cX1_mergeFrom 58 = .ok (.invokestatic 40, 3) := by decide +kernel
theorem dX1_mergeFrom_61 : decode cX1_mergeFrom 61 = .ok (.istore 8, 2) := by decide +kernel
theorem dX1_mergeFrom_63 : decode cX1_mergeFrom 63 = .ok (.aload_n 0, 1) := by decide +kernel
theorem dX1_mergeFrom_64 : decode cX1_mergeFrom 64 = .ok (.iload 8, 2) := by decide +kernel
theorem dX1_mergeFrom_66 : decode cX1_mergeFrom 66 = .ok (.aload_n 0, 1) := by decide +kernel
theorem dX1_mergeFrom_67 : decode cX1_mergeFrom 67 = .ok (.iload 8, 2) := by decide +kernel
theorem dX1_mergeFrom_69 : decode cX1_mergeFrom 69 = .ok (.invokevirtual 101, 3) := by decide +kernel
theorem dX1_mergeFrom_72 : decode cX1_mergeFrom 72 = .ok (.iload_n 2, 1) := by decide +kernel
theorem dX1_mergeFrom_73 : decode cX1_mergeFrom 73 = .ok (.i2l, 1) := by decide +kernel
theorem dX1_mergeFrom_74 : decode cX1_mergeFrom 74 = .ok (.lload 6, 2) := by decide +kernel
theorem dX1_mergeFrom_76 : decode cX1_mergeFrom 76 = .ok (.lmul, 1) := by decide +kernel
theorem dX1_mergeFrom_77 : decode cX1_mergeFrom 77 = .ok (.ladd, 1) := by decide +kernel
theorem dX1_mergeFrom_78 : decode cX1_mergeFrom 78 = .ok (.invokevirtual 173, 3) := by decide +kernel
theorem dX1_mergeFrom_81 : decode cX1_mergeFrom 81 = .ok (.iinc 5 1, 3) := by decide +kernel
theorem dX1_mergeFrom_84 : decode cX1_mergeFrom 84 = .ok (.goto (-61), 3) := by decide +kernel
theorem dX1_mergeFrom_87 : decode cX1_mergeFrom 87 = .ok (.iinc 3 1, 3) := by decide +kernel
theorem dX1_mergeFrom_90 : decode cX1_mergeFrom 90 = .ok (.goto (-88), 3) := by decide +kernel
theorem dX1_mergeFrom_93 : decode cX1_mergeFrom 93 = .ok (.return_, 1) := by decide +kernel
theorem dX1_halveAll_0 : decode cX1_halveAll 0 = .ok (.iconst 0, 1) := by decide +kernel
theorem dX1_halveAll_1 : decode cX1_halveAll 1 = .ok (.istore_n 1, 1) := by decide +kernel
theorem dX1_halveAll_2 : decode cX1_halveAll 2 = .ok (.iload_n 1, 1) := by decide +kernel
theorem dX1_halveAll_3 : decode cX1_halveAll 3 = .ok (.aload_n 0, 1) := by decide +kernel
theorem dX1_halveAll_4 : decode cX1_halveAll 4 = .ok (.getfield 53, 3) := by decide +kernel
theorem dX1_halveAll_7 : decode cX1_halveAll 7 = .ok (.if_icmp .ge 45, 3) := by decide +kernel
theorem dX1_halveAll_10 : decode cX1_halveAll 10 = .ok (.aload_n 0, 1) := by decide +kernel
theorem dX1_halveAll_11 : decode cX1_halveAll 11 = .ok (.iload_n 1, 1) := by decide +kernel
theorem dX1_halveAll_12 : decode cX1_halveAll 12 = .ok (.invokevirtual 119, 3) := by decide +kernel
theorem dX1_halveAll_15 : decode cX1_halveAll 15 = .ok (.istore_n 2, 1) := by decide +kernel
theorem dX1_halveAll_16 : decode cX1_halveAll 16 = .ok (.bipush 16, 2) := by decide +kernel
theorem dX1_halveAll_18 : decode cX1_halveAll 18 = .ok (.iload_n 1, 1) := by decide +kernel
theorem dX1_halveAll_19 : decode cX1_halveAll 19 = .ok (.imul, 1) := by decide +kernel
theorem dX1_halveAll_20 : decode cX1_halveAll 20 = .ok (.istore_n 3, 1) := by decide +kernel
theorem dX1_halveAll_21 : decode cX1_halveAll 21 = .ok (.iload_n 3, 1) := by decide +kernel
theorem dX1_halveAll_22 : decode cX1_halveAll 22 = .ok (.iload_n 2, 1) := by decide +kernel
theorem dX1_halveAll_23 : decode cX1_halveAll 23 = .ok (.if_icmp .ge 23, 3) := by decide +kernel
theorem dX1_halveAll_26 : decode cX1_halveAll 26 = .ok (.aload_n 0, 1) := by decide +kernel
theorem dX1_halveAll_27 : decode cX1_halveAll 27 = .ok (.iload_n 3, 1) := by decide +kernel
theorem dX1_halveAll_28 : decode cX1_halveAll 28 = .ok (.aload_n 0, 1) := by decide +kernel
theorem dX1_halveAll_29 : decode cX1_halveAll 29 = .ok (.iload_n 3, 1) := by decide +kernel
theorem dX1_halveAll_30 : decode cX1_halveAll 30 = .ok (.invokevirtual 101, 3) := by decide +kernel
theorem dX1_halveAll_33 : decode cX1_halveAll 33 = .ok (.ldc2_w 177, 3) := by decide +kernel
theorem dX1_halveAll_36 : decode cX1_halveAll 36 = .ok (.ldiv, 1) := by decide +kernel
theorem dX1_halveAll_37 : decode cX1_halveAll 37 = .ok (.invokevirtual 173, 3) := by decide +kernel
theorem dX1_halveAll_40 : decode cX1_halveAll 40 = .ok (.iinc 3 1, 3) := by decide +kernel
theorem dX1_halveAll_43 : decode cX1_halveAll 43 = .ok (.goto (-22), 3) := by decide +kernel
theorem dX1_halveAll_46 : decode cX1_halveAll 46 = .ok (.iinc 1 1, 3) := by decide +kernel
theorem dX1_halveAll_49 : decode cX1_halveAll 49 = .ok (.goto (-47), 3) := by decide +kernel
theorem dX1_halveAll_52 : decode cX1_halveAll 52 = .ok (.return_, 1) := by decide +kernel
theorem dX1_packTo_0 : decode cX1_packTo 0 = .ok (.aload_n 1, 1) := by decide +kernel
theorem dX1_packTo_1 : decode cX1_packTo 1 = .ok (.sipush 165, 3) := by decide +kernel
theorem dX1_packTo_4 : decode cX1_packTo 4 = .ok (.invokevirtual 181, 3) := by decide +kernel
theorem dX1_packTo_7 : decode cX1_packTo 7 = .ok (.ifCond .eq 40, 3) := by decide +kernel
theorem dX1_packTo_10 : decode cX1_packTo 10 = .ok (.aload_n 1, 1) := by decide +kernel
theorem dX1_packTo_11 : decode cX1_packTo 11 = .ok (.aload_n 0, 1) := by decide +kernel
theorem dX1_packTo_12 : decode cX1_packTo 12 = .ok (.getfield 29, 3) := by decide +kernel
theorem dX1_packTo_15 : decode cX1_packTo 15 = .ok (.invokevirtual 181, 3) := by decide +kernel
theorem dX1_packTo_18 : decode cX1_packTo 18 = .ok (.ifCond .eq 29, 3) := by decide +kernel
theorem dX1_packTo_21 : decode cX1_packTo 21 = .ok (.aload_n 1, 1) := by decide +kernel
theorem dX1_packTo_22 : decode cX1_packTo 22 = .ok (.aload_n 0, 1) := by decide +kernel
theorem dX1_packTo_23 : decode cX1_packTo 23 = .ok (.getfield 33, 3) := by decide +kernel
theorem dX1_packTo_26 : decode cX1_packTo 26 = .ok (.invokevirtual 181, 3) := by decide +kernel
theorem dX1_packTo_29 : decode cX1_packTo 29 = .ok (.ifCond .eq 18, 3) := by decide +kernel
theorem dX1_packTo_32 : decode cX1_packTo 32 = .ok (.aload_n 1, 1) := by decide +kernel
theorem dX1_packTo_33 : decode cX1_packTo 33 = .ok (.aload_n 0, 1) := by decide +kernel
theorem dX1_packTo_34 : decode cX1_packTo 34 = .ok (.getfield 36, 3) := by decide +kernel
theorem dX1_packTo_37 : decode cX1_packTo 37 = .ok (.invokevirtual 184, 3) := by decide +kernel
theorem dX1_packTo_40 : decode cX1_packTo 40 = .ok (.ifCond .eq 7, 3) := by decide +kernel
theorem dX1_packTo_43 : decode cX1_packTo 43 = .ok (.iconst 1, 1) := by decide +kernel
theorem dX1_packTo_44 : decode cX1_packTo 44 = .ok (.goto 4, 3) := by decide +kernel
theorem dX1_packTo_47 : decode cX1_packTo 47 = .ok (.iconst 0, 1) := by decide +kernel
theorem dX1_packTo_48 : decode cX1_packTo 48 = .ok (.istore_n 2, 1) := by decide +kernel
theorem dX1_packTo_49 : decode cX1_packTo 49 = .ok (.lconst 0, 1) := by decide +kernel
theorem dX1_packTo_50 : decode cX1_packTo 50 = .ok (.lstore_n 3, 1) := by decide +kernel
theorem dX1_packTo_51 : decode cX1_packTo 51 = .ok (.aload_n 0, 1) := by decide +kernel
theorem dX1_packTo_52 : decode cX1_packTo 52 = .ok (.invokevirtual 132, 3) := by decide +kernel
theorem dX1_packTo_55 : decode cX1_packTo 55 = .ok (.istore 5, 2) := by decide +kernel
theorem dX1_packTo_57 : decode cX1_packTo 57 = .ok (.iconst 0, 1) := by decide +kernel
theorem dX1_packTo_58 : decode cX1_packTo 58 = .ok (.istore 6, 2) := by decide +kernel
theorem dX1_packTo_60 : decode cX1_packTo 60 = .ok (.iload 6, 2) := by decide +kernel
theorem dX1_packTo_62 : decode cX1_packTo 62 = .ok (.iload 5, 2) := by decide +kernel
theorem dX1_packTo_64 : decode cX1_packTo 64 = .ok (.if_icmp .gt 76, 3) := by decide +kernel
theorem dX1_packTo_67 : decode cX1_packTo 67 = .ok (.iload_n 2, 1) := by decide +kernel
theorem dX1_packTo_68 : decode cX1_packTo 68 = .ok (.ifCond .eq 72, 3) := by decide +kernel
theorem dX1_packTo_71 : decode cX1_packTo 71 = .ok (.aload_n 0, 1) := by decide +kernel
theorem dX1_packTo_72 : decode cX1_packTo 72 = .ok (.iload 6, 2) := by decide +kernel
theorem dX1_packTo_74 : decode cX1_packTo 74 = .ok (.invokevirtual 101, 3) := by decide +kernel
theorem dX1_packTo_77 : decode cX1_packTo 77 = .ok (.lstore 7, 2) := by decide +kernel
theorem dX1_packTo_79 : decode cX1_packTo 79 = .ok (.lload 7, 2) := by decide +kernel
theorem dX1_packTo_81 : decode cX1_packTo 81 = .ok (.lconst 0, 1) := by decide +kernel
theorem dX1_packTo_82 : decode cX1_packTo 82 = .ok (.lcmp, 1) := by decide +kernel
theorem dX1_packTo_83 : decode cX1_packTo 83 = .ok (.ifCond .ne 10, 3) := by decide +kernel
theorem dX1_packTo_86 : decode cX1_packTo 86 = .ok (.lload_n 3, 1) := by decide +kernel
theorem dX1_packTo_87 : decode cX1_packTo 87 = .ok (.lconst 1, 1) := by decide +kernel
theorem dX1_packTo_88 : decode cX1_packTo 88 = .ok (.ladd, 1) := by decide +kernel
theorem dX1_packTo_89 : decode cX1_packTo 89 = .ok (.lstore_n 3, 1) := by decide +kernel
theorem dX1_packTo_90 : decode cX1_packTo 90 = .ok (.goto 44, 3) := by decide +kernel
theorem dX1_packTo_93 : decode cX1_packTo 93 = .ok (.lload_n 3, 1) := by decide +kernel
theorem dX1_packTo_94 : decode cX1_packTo 94 = .ok (.lconst 0, 1) := by decide +kernel
theorem dX1_packTo_95 : decode cX1_packTo 95 = .ok (.lcmp, 1) := by decide +kernel
theorem dX1_packTo_96 : decode cX1_packTo 96 = .ok (.ifCond .eq 17, 3) := by decide +kernel
theorem dX1_packTo_99 : decode cX1_packTo 99 = .ok (.aload_n 1, 1) := by decide +kernel
theorem dX1_packTo_100 : decode cX1_packTo 100 = .ok (.ldc2_w 177, 3) := by decide +kernel
theorem dX1_packTo_103 : decode cX1_packTo 103 = .ok (.lload_n 3, 1) := by decide +kernel
theorem dX1_packTo_104 : decode cX1_packTo 104 = .ok (.lmul, 1) := by decide +kernel
theorem dX1_packTo_105 : decode cX1_packTo 105 = .ok (.lconst 1, 1) := by decide +kernel
theorem dX1_packTo_106 : decode cX1_packTo 106 = .ok (.lsub, 1) := by decide +kernel
theorem dX1_packTo_107 : decode cX1_packTo 107 = .ok (.invokevirtual 184, 3) := by decide +kernel
theorem dX1_packTo_110 : decode cX1_packTo 110 = .ok (.ifCond .eq 20, 3) := by decide +kernel
theorem dX1_packTo_113 : decode cX1_packTo 113 = .ok (.aload_n 1, 1) := by decide +kernel
theorem dX1_packTo_114 : decode cX1_packTo 114 = .ok (.ldc2_w 177, 3) := by decide +kernel
theorem dX1_packTo_117 : decode cX1_packTo 117 = .ok (.lload 7, 2) := by decide +kernel
theorem dX1_packTo_119 : decode cX1_packTo 119 = .ok (.lmul, 1) := by decide +kernel
theorem dX1_packTo_120 : decode cX1_packTo 120 = .ok (.invokevirtual 184, 3) := by decide +kernel
theorem dX1_packTo_123 : decode cX1_packTo 123 = .ok (.ifCond .eq 7, 3) := by decide +kernel
theorem dX1_packTo_126 : decode cX1_packTo 126 = .ok (.iconst 1, 1) := by decide +kernel
theorem dX1_packTo_127 : decode cX1_packTo 127 = .ok (.goto 4, 3) := by decide +kernel
theorem dX1_packTo_130 : decode cX1_packTo 130 = .ok (.iconst 0, 1) := by decide +kernel
theorem dX1_packTo_131 : decode cX1_packTo 131 = .ok (.istore_n 2, 1) := by decide +kernel
theorem dX1_packTo_132 : decode cX1_packTo 132 = .ok (.lconst 0, 1) := by decide +kernel
theorem dX1_packTo_133 : decode cX1_packTo 133 = .ok (.lstore_n 3, 1) := by decide +kernel
theorem dX1_packTo_134 : decode cX1_packTo 134 = .ok (.iinc 6 1, 3) := by decide +kernel
theorem dX1_packTo_137 : decode cX1_packTo 137 = .ok (.goto (-77), 3) := by decide +kernel
theorem dX1_packTo_140 : decode cX1_packTo 140 = .ok (.iload_n 2, 1) := by decide +kernel
theorem dX1_packTo_141 : decode cX1_packTo 141 = .ok (.ireturn, 1) := by decide +kernel
theorem dX2_init_0 : decode cX2_init 0 = .ok (.aload_n 0, 1) := by decide +kernel
theorem dX2_init_1 : decode cX2_init 1 = .ok (.invokespecial 3, 3) := by decide +kernel
theorem dX2_init_4 : decode cX2_init 4 = .ok (.aload_n 0, 1) := by decide +kernel
theorem dX2_init_5 : decode cX2_init 5 = .ok (.iconst (-1), 1) := by decide +kernel
theorem dX2_init_6 : decode cX2_init 6 = .ok (.putfield 9, 3) := by decide +kernel
theorem dX2_init_9 : decode cX2_init 9 = .ok (.aload_n 0, 1) := by decide +kernel
theorem dX2_init_10 : decode cX2_init 10 = .ok (.iconst 4, 1) := by decide +kernel
theorem dX2_init_11 : decode cX2_init 11 = .ok (.newarray .int, 2) := by decide +kernel
theorem dX2_init_13 : decode cX2_init 13 = .ok (.putfield 15, 3) := by decide +kernel
theorem dX2_init_16 : decode cX2_init 16 = .ok (.aload_n 0, 1) := by decide +kernel
theorem dX2_init_17 : decode cX2_init 17 = .ok (.getfield 15, 3) := by decide +kernel
theorem dX2_init_20 : decode cX2_init 20 = .ok (.iconst (-1), 1) := by decide +kernel
theorem dX2_init_21 : decode cX2_init 21 = .ok (.invokestatic 19, 3) := by decide +kernel
theorem dX2_init_24 : decode cX2_init 24 = .ok (.return_, 1) := by decide +kernel
theorem dX2_become_0 : decode cX2_become 0 = .ok (.aload_n 0, 1) := by decide +kernel
theorem dX2_become_1 : decode cX2_become 1 = .ok (.aload_n 1, 1) := by decide +kernel
theorem dX2_become_2 : decode cX2_become 2 = .ok (.getfield 25, 3) := by decide +kernel
theorem dX2_become_5 : decode cX2_become 5 = .ok (.putfield 25, 3) := by decide +kernel
theorem dX2_become_8 : decode cX2_become 8 = .ok (.aload_n 0, 1) := by decide +kernel
theorem dX2_become_9 : decode cX2_become 9 = .ok (.aload_n 1, 1) := by decide +kernel
theorem dX2_become_10 : decode cX2_become 10 = .ok (.getfield 9, 3) := by decide +kernel
theorem dX2_become_13 : decode cX2_become 13 = .ok (.putfield 9, 3) := by decide +kernel
theorem dX2_become_16 : decode cX2_become 16 = .ok (.iconst 0, 1) := by decide +kernel
theorem dX2_become_17 : decode cX2_become 17 = .ok (.istore_n 2, 1) := by decide +kernel
theorem dX2_become_18 : decode cX2_become 18 = .ok (.iload_n 2, 1) := by decide +kernel
theorem dX2_become_19 : decode cX2_become 19 = .ok (.iconst 4, 1) := by decide +kernel
theorem dX2_become_20 : decode cX2_become 20 = .ok (.if_icmp .ge 19, 3) := by decide +kernel
theorem dX2_become_23 : decode cX2_become 23 = .ok (.aload_n 0, 1) := by decide +kernel
theorem dX2_become_24 : decode cX2_become 24 = .ok (.iload_n 2, 1) := by decide +kernel
theorem dX2_become_25 : decode cX2_become 25 = .ok (.aload_n 1, 1) := by decide +kernel
theorem dX2_become_26 : decode cX2_become 26 = .ok (.iload_n 2, 1) := by decide +kernel
theorem dX2_become_27 : decode cX2_become 27 = .ok (.invokevirtual 28, 3) := by decide +kernel
theorem dX2_become_30 : decode cX2_become 30 = .ok (.invokevirtual 32, 3) := by decide +kernel
theorem dX2_become_33 : decode cX2_become 33 = .ok (.iinc 2 1, 3) := by decide +kernel
theorem dX2_become_36 : decode cX2_become 36 = .ok (.goto (-18), 3) := by decide +kernel
theorem dX2_become_39 : decode cX2_become 39 = .ok (.return_, 1) := by decide +kernel
theorem dX2_recorderOf_0 : decode cX2_recorderOf 0 = .ok (.iload_n 1, 1) := by decide +kernel
theorem dX2_recorderOf_1 : decode cX2_recorderOf 1 = .ok (.ifCond .lt 12, 3) := by decide +kernel
theorem dX2_recorderOf_4 : decode cX2_recorderOf 4 = .ok (.iload_n 1, 1) := by decide +kernel
theorem dX2_recorderOf_5 : decode cX2_recorderOf 5 = .ok (.aload_n 0, 1) := by decide +kernel
theorem dX2_recorderOf_6 : decode cX2_recorderOf 6 = .ok (.getfield 15, 3) := by decide +kernel
theorem dX2_recorderOf_9 : decode cX2_recorderOf 9 = .ok (.arraylength, 1) := by decide +kernel
theorem dX2_recorderOf_10 : decode cX2_recorderOf 10 = .ok (.if_icmp .lt 7, 3) := by decide +kernel
theorem dX2_recorderOf_13 : decode cX2_recorderOf 13 = .ok (.iconst (-1), 1) := by decide +kernel
theorem dX2_recorderOf_14 : decode cX2_recorderOf 14 = .ok (.goto 9, 3) := by decide +kernel
theorem dX2_recorderOf_17 : decode cX2_recorderOf 17 = .ok (.aload_n 0, 1) := by decide +kernel
theorem dX2_recorderOf_18 : decode cX2_recorderOf 18 = .ok (.getfield 15, 3) := by decide +kernel
theorem dX2_recorderOf_21 : decode cX2_recorderOf 21 = .ok (.iload_n 1, 1) := by decide +kernel
theorem dX2_recorderOf_22 : decode cX2_recorderOf 22 = .ok (.iaload, 1) := by decide +kernel
theorem dX2_recorderOf_23 : decode cX2_recorderOf 23 = .ok (.ireturn, 1) := by decide +kernel
theorem dX2_setRecorderOf_0 : decode cX2_setRecorderOf 0 = .ok (.iload_n 1, 1) := by decide +kernel
theorem dX2_setRecorderOf_1 : decode cX2_setRecorderOf 1 = .ok (.ifCond .lt 19, 3) := by decide +kernel
theorem dX2_setRecorderOf_4 : decode cX2_setRecorderOf 4 = .ok (.iload_n 1, 1) := by decide +kernel
theorem dX2_setRecorderOf_5 : decode cX2_setRecorderOf 5 = .ok (.aload_n 0, 1) := by decide +kernel
theorem dX2_setRecorderOf_6 : decode cX2_setRecorderOf 6 = .ok (.getfield 15, 3) := by decide +kernel
theorem dX2_setRecorderOf_9 : decode cX2_setRecorderOf 9 = .ok (.arraylength, 1) := by decide +kernel
theorem dX2_setRecorderOf_10 : decode cX2_setRecorderOf 10 = .ok (.if_icmp .ge 10, 3) := by decide +kernel
theorem dX2_setRecorderOf_13 : decode cX2_setRecorderOf 13 = .ok (.aload_n 0, 1) := by decide +kernel
theorem dX2_setRecorderOf_14 : decode cX2_setRecorderOf 14 = .ok (.getfield 15, 3) := by decide +kernel
theorem dX2_setRecorderOf_17 : decode cX2_setRecorderOf 17 = .ok (.iload_n 1, 1) := by decide +kernel
theorem dX2_setRecorderOf_18 : decode cX2_setRecorderOf 18 = .ok (.iload_n 2, 1) := by decide +kernel
theorem dX2_setRecorderOf_19 : decode cX2_setRecorderOf 19 = .ok (.iastore, 1) := by decide +kernel
theorem dX2_setRecorderOf_20 : decode cX2_setRecorderOf 20 = .ok (.return_, 1) := by decide +kernel
theorem dX2_isWrittenTo_0 : decode cX2_isWrittenTo 0 = .ok (.iconst 0, 1) := by decide +kernel
theorem dX2_isWrittenTo_1 : decode cX2_isWrittenTo 1 = .ok (.istore_n 2, 1) := by decide +kernel
theorem dX2_isWrittenTo_2 : decode cX2_isWrittenTo 2 = .ok (.iload_n 2, 1) := by decide +kernel
theorem dX2_isWrittenTo_3 : decode cX2_isWrittenTo 3 = .ok (.iconst 4, 1) := by decide +kernel
theorem dX2_isWrittenTo_4 : decode cX2_isWrittenTo 4 = .ok (.if_icmp .ge 20, 3) := by decide +kernel
theorem dX2_isWrittenTo_7 : decode cX2_isWrittenTo 7 = .ok (.aload_n 0, 1) := by decide +kernel
theorem dX2_isWrittenTo_8 : decode cX2_isWrittenTo 8 = .ok (.iload_n 2, 1) := by decide +kernel
theorem dX2_isWrittenTo_9 : decode cX2_isWrittenTo 9 = .ok (.invokevirtual 28, 3) := by decide +kernel
theorem dX2_isWrittenTo_12 : decode cX2_isWrittenTo 12 = .ok (.iload_n 1, 1) := by decide +kernel
theorem dX2_isWrittenTo_13 : decode cX2_isWrittenTo 13 = .ok (.if_icmp .ne 5, 3) := by decide +kernel
theorem dX2_isWrittenTo_16 : decode cX2_isWrittenTo 16 = .ok (.iconst 1, 1) := by decide +kernel
theorem dX2_isWrittenTo_17 : decode cX2_isWrittenTo 17 = .ok (.ireturn, 1) := by decide +kernel
theorem dX2_isWrittenTo_18 : decode cX2_isWrittenTo 18 = .ok (.iinc 2 1, 3) := by decide +kernel
theorem dX2_isWrittenTo_21 : decode cX2_isWrittenTo 21 = .ok (.goto (-19), 3) := by decide +kernel
theorem dX2_isWrittenTo_24 : decode cX2_isWrittenTo 24 = .ok (.iconst 0, 1) := by decide +kernel
theorem dX2_isWrittenTo_25 : decode cX2_isWrittenTo 25 = .ok (.ireturn, 1) := by decide +kernel
theorem dX2_writerBits_0 : decode cX2_writerBits 0 = .ok (.iconst 0, 1) := by decide +kernel
theorem dX2_writerBits_1 : decode cX2_writerBits 1 = .ok (.istore_n 1, 1) := by decide +kernel
theorem dX2_writerBits_2 : decode cX2_writerBits 2 = .ok (.iconst 0, 1) := by decide +kernel
theorem dX2_writerBits_3 : decode cX2_writerBits 3 = .ok (.istore_n 2, 1) := by decide +kernel
theorem dX2_writerBits_4 : decode cX2_writerBits 4 = .ok (.iload_n 2, 1) := by decide +kernel
theorem dX2_writerBits_5 : decode cX2_writerBits 5 = .ok (.iconst 4, 1) := by decide +kernel
theorem dX2_writerBits_6 : decode cX2_writerBits 6 = .ok (.if_icmp .ge 24, 3) := by decide +kernel
theorem dX2_writerBits_9 : decode cX2_writerBits 9 = .ok (.aload_n 0, 1) := by decide +kernel
theorem dX2_writerBits_10 : decode cX2_writerBits 10 = .ok (.iload_n 2, 1) := by decide +kernel
theorem dX2_writerBits_11 : decode cX2_writerBits 11 = .ok (.invokevirtual 28, 3) := by decide +kernel
theorem dX2_writerBits_14 : decode cX2_writerBits 14 = .ok (.iconst (-1), 1) := by decide +kernel
theorem dX2_writerBits_15 : decode cX2_writerBits 15 = .ok (.if_icmp .eq 9, 3) := by decide +kernel
theorem dX2_writerBits_18 : decode cX2_writerBits 18 = .ok (.iload_n 1, 1) := by decide +kernel
theorem dX2_writerBits_19 : decode cX2_writerBits 19 = .ok (.iconst 1, 1) := by decide +kernel
theorem dX2_writerBits_20 : decode cX2_writerBits 20 = .ok (.iload_n 2, 1) := by decide +kernel
theorem dX2_writerBits_21 : decode cX2_writerBits 21 = .ok (.ishl, 1) := by decide +kernel
theorem dX2_writerBits_22 : decode cX2_writerBits 22 = .ok (.ior, 1) := by decide +kernel
theorem dX2_writerBits_23 : decode cX2_writerBits 23 = .ok (.istore_n 1, 1) := by decide +kernel
theorem dX2_writerBits_24 : decode cX2_writerBits 24 = .ok (.iinc 2 1, 3) := by decide +kernel
theorem dX2_writerBits_27 : decode cX2_writerBits 27 = .ok (.goto (-23), 3) := by decide +kernel
theorem dX2_writerBits_30 : decode cX2_writerBits 30 = .ok (.iload_n 1, 1) := by decide +kernel
theorem dX2_writerBits_31 : decode cX2_writerBits 31 = .ok (.ireturn, 1) := by decide +kernel
theorem dX3_init_0 : decode cX3_init 0 = .ok (.aload_n 0, 1) := by decide +kernel
theorem dX3_init_1 : decode cX3_init 1 = .ok (.invokespecial 5, 3) := by decide +kernel
theorem dX3_init_4 : decode cX3_init 4 = .ok (.return_, 1) := by decide +kernel
theorem dX3_include_0 : decode cX3_include 0 = .ok (.lload_n 1, 1) := by decide +kernel
theorem dX3_include_1 : decode cX3_include 1 = .ok (.bipush 20, 2) := by decide +kernel
theorem dX3_include_3 : decode cX3_include 3 = .ok (.lshr, 1) := by decide +kernel
theorem dX3_include_4 : decode cX3_include 4 = .ok (.lstore 5, 2) := by decide +kernel
theorem dX3_include_6 : decode cX3_include 6 = .ok (.lload_n 1, 1) := by decide +kernel
theorem dX3_include_7 : decode cX3_include 7 = .ok (.ldc2_w 11, 3) := by decide +kernel
theorem dX3_include_10 : decode cX3_include 10 = .ok (.land, 1) := by decide +kernel
theorem dX3_include_11 : decode cX3_include 11 = .ok (.lstore 7, 2) := by decide +kernel
theorem dX3_include_13 : decode cX3_include 13 = .ok (.lload_n 3, 1) := by decide +kernel
theorem dX3_include_14 : decode cX3_include 14 = .ok (.bipush 25, 2) := by decide +kernel
theorem dX3_include_16 : decode cX3_include 16 = .ok (.lshr, 1) := by decide +kernel
theorem dX3_include_17 : decode cX3_include 17 = .ok (.lstore 9, 2) := by decide +kernel
theorem dX3_include_19 : decode cX3_include 19 = .ok (.lload_n 3, 1) := by decide +kernel
theorem dX3_include_20 : decode cX3_include 20 = .ok (.ldc2_w 13, 3) := by decide +kernel
theorem dX3_include_23 : decode cX3_include 23 = .ok (.land, 1) := by decide +kernel
theorem dX3_include_24 : decode cX3_include 24 = .ok (.lstore 11, 2) := by decide +kernel
theorem dX3_include_26 : decode cX3_include 26 = .ok (.aload_n 0, 1) := by decide +kernel
theorem dX3_include_27 : decode cX3_include 27 = .ok (.dup, 1) := by decide +kernel
theorem dX3_include_28 : decode cX3_include 28 = .ok (.getfield 15, 3) := by decide +kernel
theorem dX3_include_31 : decode cX3_include 31 = .ok (.lload 5, 2) := by decide +kernel
theorem dX3_include_33 : decode cX3_include 33 = .ok (.lload 9, 2) := by decide +kernel
theorem dX3_include_35 : decode cX3_include 35 = .ok (.lmul, 1) := by decide +kernel
theorem dX3_include_36 : decode cX3_include 36 = .ok (.ladd, 1) := by decide +kernel
theorem dX3_include_37 : decode cX3_include 37 = .ok (.putfield 15, 3) := by decide +kernel
theorem dX3_include_40 : decode cX3_include 40 = .ok (.aload_n 0, 1) := by decide +kernel
theorem dX3_include_41 : decode cX3_include 41 = .ok (.dup, 1) := by decide +kernel
theorem dX3_include_42 : decode cX3_include 42 = .ok (.getfield 19, 3) := by decide +kernel
theorem dX3_include_45 : decode cX3_include 45 = .ok (.lload 5, 2) := by decide +kernel
theorem dX3_include_47 : decode cX3_include 47 = .ok (.lload 11, 2) := by decide +kernel
theorem dX3_include_49 : decode cX3_include 49 = .ok (.lmul, 1) := by decide +kernel
theorem dX3_include_50 : decode cX3_include 50 = .ok (.ladd, 1) := by decide +kernel
theorem dX3_include_51 : decode cX3_include 51 = .ok (.putfield 19, 3) := by decide +kernel
theorem dX3_include_54 : decode cX3_include 54 = .ok (.aload_n 0, 1) := by decide +kernel
theorem dX3_include_55 : decode cX3_include 55 = .ok (.dup, 1) := by decide +kernel
theorem dX3_include_56 : decode cX3_include 56 = .ok (.getfield 22, 3) := by decide +kernel
theorem dX3_include_59 : decode cX3_include 59 = .ok (.lload 7, 2) := by decide +kernel
theorem dX3_include_61 : decode cX3_include 61 = .ok (.lload 9, 2) := by decide +kernel
theorem dX3_include_63 : decode cX3_include 63 = .ok (.lmul, 1) := by decide +kernel
theorem dX3_include_64 : decode cX3_include 64 = .ok (.ladd, 1) := by decide +kernel
theorem dX3_include_65 : decode cX3_include 65 = .ok (.putfield 22, 3) := by decide +kernel
theorem dX3_include_68 : decode cX3_include 68 = .ok (.aload_n 0, 1) := by decide +kernel
theorem dX3_include_69 : decode cX3_include 69 = .ok (.dup, 1) := by decide +kernel
theorem dX3_include_70 : decode cX3_include 70 = .ok (.getfield 25, 3) := by decide +kernel
theorem dX3_include_73 : decode cX3_include 73 = .ok (.lload 7, 2) := by decide +kernel
theorem dX3_include_75 : decode cX3_include 75 = .ok (.lload 11, 2) := by decide +kernel
theorem dX3_include_77 : decode cX3_include 77 = .ok (.lmul, 1) := by decide +kernel
theorem dX3_include_78 : decode cX3_include 78 = .ok (.ladd, 1) := by decide +kernel
theorem dX3_include_79 : decode cX3_include 79 = .ok (.putfield 25, 3) := by decide +kernel
theorem dX3_include_82 : decode cX3_include 82 = .ok (.return_, 1) := by decide +kernel
theorem dX3_dividedBy_0 : decode cX3_dividedBy 0 = .ok (.lload_n 1, 1) := by decide +kernel
theorem dX3_dividedBy_1 : decode cX3_dividedBy 1 = .ok (.lconst 0, 1) := by decide +kernel
theorem dX3_dividedBy_2 : decode cX3_dividedBy 2 = .ok (.lcmp, 1) := by decide +kernel
theorem dX3_dividedBy_3 : decode cX3_dividedBy 3 = .ok (.ifCond .gt 7, 3) := by decide +kernel
theorem dX3_dividedBy_6 : decode cX3_dividedBy 6 = .ok (.ldc2_w 28, 3) := by decide +kernel
theorem dX3_dividedBy_9 : decode cX3_dividedBy 9 = .ok (.lreturn, 1) := by decide +kernel
theorem dX3_dividedBy_10 : decode cX3_dividedBy 10 = .ok (.aload_n 0, 1) := by decide +kernel
theorem dX3_dividedBy_11 : decode cX3_dividedBy 11 = .ok (.getfield 19, 3) := by decide +kernel
theorem dX3_dividedBy_14 : decode cX3_dividedBy 14 = .ok (.ldc2_w 13, 3) := by decide +kernel
theorem dX3_dividedBy_17 : decode cX3_dividedBy 17 = .ok (.land, 1) := by decide +kernel
theorem dX3_dividedBy_18 : decode cX3_dividedBy 18 = .ok (.bipush 20, 2) := by decide +kernel
theorem dX3_dividedBy_20 : decode cX3_dividedBy 20 = .ok (.lshl, 1) := by decide +kernel
theorem dX3_dividedBy_21 : decode cX3_dividedBy 21 = .ok (.aload_n 0, 1) := by decide +kernel
theorem dX3_dividedBy_22 : decode cX3_dividedBy 22 = .ok (.getfield 22, 3) := by decide +kernel
theorem dX3_dividedBy_25 : decode cX3_dividedBy 25 = .ok (.ldc2_w 11, 3) := by decide +kernel
theorem dX3_dividedBy_28 : decode cX3_dividedBy 28 = .ok (.land, 1) := by decide +kernel
theorem dX3_dividedBy_29 : decode cX3_dividedBy 29 = .ok (.bipush 25, 2) := by decide +kernel
theorem dX3_dividedBy_31 : decode cX3_dividedBy 31 = .ok (.lshl, 1) := by decide +kernel
theorem dX3_dividedBy_32 : decode cX3_dividedBy 32 = .ok (.ladd, 1) := by decide +kernel
theorem dX3_dividedBy_33 : decode cX3_dividedBy 33 = .ok (.aload_n 0, 1) := by decide +kernel
theorem dX3_dividedBy_34 : decode cX3_dividedBy 34 = .ok (.getfield 25, 3) := by decide +kernel
theorem dX3_dividedBy_37 : decode cX3_dividedBy 37 = .ok (.ladd, 1) := by decide +kernel
theorem dX3_dividedBy_38 : decode cX3_dividedBy 38 = .ok (.lstore_n 3, 1) := by decide +kernel
theorem dX3_dividedBy_39 : decode cX3_dividedBy 39 = .ok (.aload_n 0, 1) := by decide +kernel
theorem dX3_dividedBy_40 : decode cX3_dividedBy 40 = .ok (.getfield 15, 3) := by decide +kernel
theorem dX3_dividedBy_43 : decode cX3_dividedBy 43 = .ok (.aload_n 0, 1) := by decide +kernel
theorem dX3_dividedBy_44 : decode cX3_dividedBy 44 = .ok (.getfield 19, 3) := by decide +kernel
theorem dX3_dividedBy_47 : decode cX3_dividedBy 47 = .ok (.bipush 25, 2) := by decide +kernel
theorem dX3_dividedBy_49 : decode cX3_dividedBy 49 = .ok (.lshr, 1) := by decide +kernel
theorem dX3_dividedBy_50 : decode cX3_dividedBy 50 = .ok (.ladd, 1) := by decide +kernel
theorem dX3_dividedBy_51 : decode cX3_dividedBy 51 = .ok (.aload_n 0, 1) := by decide +kernel
theorem dX3_dividedBy_52 : decode cX3_dividedBy 52 = .ok (.getfield 22, 3) := by decide +kernel
theorem dX3_dividedBy_55 : decode cX3_dividedBy 55 = .ok (.bipush 20, 2) := by decide +kernel
theorem dX3_dividedBy_57 : decode cX3_dividedBy 57 = .ok (.lshr, 1) := by decide +kernel
theorem dX3_dividedBy_58 : decode cX3_dividedBy 58 = .ok (.ladd, 1) := by decide +kernel
theorem dX3_dividedBy_59 : decode cX3_dividedBy 59 = .ok (.lload_n 3, 1) := by decide +kernel
theorem dX3_dividedBy_60 : decode cX3_dividedBy 60 = .ok (.bipush 45, 2) := by decide +kernel
theorem dX3_dividedBy_62 : decode cX3_dividedBy 62 = .ok (.lshr, 1) := by decide +kernel
theorem dX3_dividedBy_63 : decode cX3_dividedBy 63 = .ok (.ladd, 1) := by decide +kernel
theorem dX3_dividedBy_64 : decode cX3_dividedBy 64 = .ok (.lstore 5, 2) := by decide +kernel
theorem dX3_dividedBy_66 : decode cX3_dividedBy 66 = .ok (.lload 5, 2) := by decide +kernel
theorem dX3_dividedBy_68 : decode cX3_dividedBy 68 = .ok (.lload_n 1, 1) := by decide +kernel
theorem dX3_dividedBy_69 : decode cX3_dividedBy 69 = .ok (.ldiv, 1) := by decide +kernel
theorem dX3_dividedBy_70 : decode cX3_dividedBy 70 = .ok (.lstore 7, 2) := by decide +kernel
theorem dX3_dividedBy_72 : decode cX3_dividedBy 72 = .ok (.lload 5, 2) := by decide +kernel
theorem dX3_dividedBy_74 : decode cX3_dividedBy 74 = .ok (.lload_n 1, 1) := by decide +kernel
theorem dX3_dividedBy_75 : decode cX3_dividedBy 75 = .ok (.lrem, 1) := by decide +kernel
theorem dX3_dividedBy_76 : decode cX3_dividedBy 76 = .ok (.lstore 9, 2) := by decide +kernel
theorem dX3_dividedBy_78 : decode cX3_dividedBy 78 = .ok (.bipush 44, 2) := by decide +kernel
theorem dX3_dividedBy_80 : decode cX3_dividedBy 80 = .ok (.istore 11, 2) := by decide +kernel
theorem dX3_dividedBy_82 : decode cX3_dividedBy 82 = .ok (.iload 11, 2) := by decide +kernel
theorem dX3_dividedBy_84 : decode cX3_dividedBy 84 = .ok (.ifCond .lt 63, 3) := by decide +kernel
theorem dX3_dividedBy_87 : decode cX3_dividedBy 87 = .ok (.ldc2_w 30, 3) := by decide +kernel
theorem dX3_dividedBy_90 : decode cX3_dividedBy 90 = .ok (.lload 9, 2) := by decide +kernel
theorem dX3_dividedBy_92 : decode cX3_dividedBy 92 = .ok (.lmul, 1) := by decide +kernel
theorem dX3_dividedBy_93 : decode cX3_dividedBy 93 = .ok (.lload_n 3, 1) := by decide +kernel
theorem dX3_dividedBy_94 : decode cX3_dividedBy 94 = .ok (.iload 11, 2) := by decide +kernel
theorem dX3_dividedBy_96 : decode cX3_dividedBy 96 = .ok (.lshr, 1) := by decide +kernel
theorem dX3_dividedBy_97 : decode cX3_dividedBy 97 = .ok (.lconst 1, 1) := by decide +kernel
theorem dX3_dividedBy_98 : decode cX3_dividedBy 98 = .ok (.land, 1) := by decide +kernel
theorem dX3_dividedBy_99 : decode cX3_dividedBy 99 = .ok (.ladd, 1) := by decide +kernel
theorem dX3_dividedBy_100 : decode cX3_dividedBy 100 = .ok (.lstore 9, 2) := by decide +kernel
theorem dX3_dividedBy_102 : decode cX3_dividedBy 102 = .ok (.ldc2_w 30, 3) := by decide +kernel
theorem dX3_dividedBy_105 : decode cX3_dividedBy 105 = .ok (.lload 7, 2) := by decide +kernel
theorem dX3_dividedBy_107 : decode cX3_dividedBy 107 = .ok (.lmul, 1) := by decide +kernel
theorem dX3_dividedBy_108 : decode cX3_dividedBy 108 = .ok (.lload 9, 2) := by decide +kernel
theorem dX3_dividedBy_110 : decode cX3_dividedBy 110 = .ok (.lload_n 1, 1) := by decide +kernel
theorem dX3_dividedBy_111 : decode cX3_dividedBy 111 = .ok (.lcmp, 1) := by decide +kernel
theorem dX3_dividedBy_112 : decode cX3_dividedBy 112 = .ok (.ifCond .lt 7, 3) := by decide +kernel
theorem dX3_dividedBy_115 : decode cX3_dividedBy 115 = .ok (.iconst 1, 1) := by decide +kernel
theorem dX3_dividedBy_116 : decode cX3_dividedBy 116 = .ok (.goto 4, 3) := by decide +kernel
theorem dX3_dividedBy_119 : decode cX3_dividedBy 119 = .ok (.iconst 0, 1) := by decide +kernel
theorem dX3_dividedBy_120 : decode cX3_dividedBy 120 = .ok (.i2l, 1) := by decide +kernel
theorem dX3_dividedBy_121 : decode cX3_dividedBy 121 = .ok (.ladd, 1) := by decide +kernel
theorem dX3_dividedBy_122 : decode cX3_dividedBy 122 = .ok (.lstore 7, 2) := by decide +kernel
theorem dX3_dividedBy_124 : decode cX3_dividedBy 124 = .ok (.lload 9, 2) := by decide +kernel
theorem dX3_dividedBy_126 : decode cX3_dividedBy 126 = .ok (.lload 9, 2) := by decide +kernel
theorem dX3_dividedBy_128 : decode cX3_dividedBy 128 = .ok (.lload_n 1, 1) := by decide +kernel
theorem dX3_dividedBy_129 : decode cX3_dividedBy 129 = .ok (.lcmp, 1) := by decide +kernel
theorem dX3_dividedBy_130 : decode cX3_dividedBy 130 = .ok (.ifCond .lt 7, 3) := by decide +kernel
theorem dX3_dividedBy_133 : decode cX3_dividedBy 133 = .ok (.lload_n 1, 1) := by decide +kernel
theorem dX3_dividedBy_134 : decode cX3_dividedBy 134 = .ok (.goto 4, 3) := by decide +kernel
theorem dX3_dividedBy_137 : decode cX3_dividedBy 137 = .ok (.lconst 0, 1) := by decide +kernel
theorem dX3_dividedBy_138 : decode cX3_dividedBy 138 = .ok (.lsub, 1) := by decide +kernel
theorem dX3_dividedBy_139 : decode cX3_dividedBy 139 = .ok (.lstore 9, 2) := by decide +kernel
theorem dX3_dividedBy_141 : decode cX3_dividedBy 141 = .ok (.iinc 11 (-1), 3) := by decide +kernel
theorem dX3_dividedBy_144 : decode cX3_dividedBy 144 = .ok (.goto (-62), 3) := by decide +kernel
theorem dX3_dividedBy_147 : decode cX3_dividedBy 147 = .ok (.lload 7, 2) := by decide +kernel
theorem dX3_dividedBy_149 : decode cX3_dividedBy 149 = .ok (.lreturn, 1) := by decide +kernel
theorem dX4_init_0 : decode cX4_init 0 = .ok (.aload_n 0, 1) := by decide +kernel
theorem dX4_init_1 : decode cX4_init 1 = .ok (.invokespecial 3, 3) := by decide +kernel
theorem dX4_init_4 : decode cX4_init 4 = .ok (.aload_n 0, 1) := by decide +kernel
theorem dX4_init_5 : decode cX4_init 5 = .ok (.iconst (-1), 1) := by decide +kernel
theorem dX4_init_6 : decode cX4_init 6 = .ok (.putfield 9, 3) := by decide +kernel
theorem dX4_init_9 : decode cX4_init 9 = .ok (.aload_n 0, 1) := by decide +kernel
theorem dX4_init_10 : decode cX4_init 10 = .ok (.new 15, 3) := by decide +kernel
theorem dX4_init_13 : decode cX4_init 13 = .ok (.dup, 1) := by decide +kernel
theorem dX4_init_14 : decode cX4_init 14 = .ok (.invokespecial 17, 3) := by decide +kernel
theorem dX4_init_17 : decode cX4_init 17 = .ok (.putfield 18, 3) := by decide +kernel
theorem dX4_init_20 : decode cX4_init 20 = .ok (.aload_n 0, 1) := by decide +kernel
theorem dX4_init_21 : decode cX4_init 21 = .ok (.new 22, 3) := by decide +kernel
theorem dX4_init_24 : decode cX4_init 24 = .ok (.dup, 1) := by decide +kernel
theorem dX4_init_25 : decode cX4_init 25 = .ok (.invokespecial 24, 3) := by decide +kernel
theorem dX4_init_28 : decode cX4_init 28 = .ok (.putfield 25, 3) := by decide +kernel
theorem dX4_init_31 : decode cX4_init 31 = .ok (.return_, 1) := by decide +kernel
theorem dX5_init_0 : decode cX5_init 0 = .ok (.aload_n 0, 1) := by decide +kernel
theorem dX5_init_1 : decode cX5_init 1 = .ok (.invokespecial 3, 3) := by decide +kernel
theorem dX5_init_4 : decode cX5_init 4 = .ok (.aload_n 0, 1) := by decide +kernel
theorem dX5_init_5 : decode cX5_init 5 = .ok (.sipush 400, 3) := by decide +kernel
theorem dX5_init_8 : decode cX5_init 8 = .ok (.newarray .int, 2) := by decide +kernel
theorem dX5_init_10 : decode cX5_init 10 = .ok (.putfield 9, 3) := by decide +kernel
theorem dX5_init_13 : decode cX5_init 13 = .ok (.return_, 1) := by decide +kernel
theorem dX5_byteAt_0 : decode cX5_byteAt 0 = .ok (.iload_n 1, 1) := by decide +kernel
theorem dX5_byteAt_1 : decode cX5_byteAt 1 = .ok (.ifCond .lt 20, 3) := by decide +kernel
theorem dX5_byteAt_4 : decode cX5_byteAt 4 = .ok (.iload_n 1, 1) := by decide +kernel
theorem dX5_byteAt_5 : decode cX5_byteAt 5 = .ok (.aload_n 0, 1) := by decide +kernel
theorem dX5_byteAt_6 : decode cX5_byteAt 6 = .ok (.getfield 15, 3) := by decide +kernel
theorem dX5_byteAt_9 : decode cX5_byteAt 9 = .ok (.if_icmp .ge 12, 3) := by decide +kernel
theorem dX5_byteAt_12 : decode cX5_byteAt 12 = .ok (.iload_n 1, 1) := by decide +kernel
theorem dX5_byteAt_13 : decode cX5_byteAt 13 = .ok (.aload_n 0, 1) := by decide +kernel
theorem dX5_byteAt_14 : decode cX5_byteAt 14 = .ok (.getfield 9, 3) := by decide +kernel
theorem dX5_byteAt_17 : decode cX5_byteAt 17 = .ok (.arraylength, 1) := by decide +kernel
theorem dX5_byteAt_18 : decode cX5_byteAt 18 = .ok (.if_icmp .lt 7, 3) := by decide +kernel
theorem dX5_byteAt_21 : decode cX5_byteAt 21 = .ok (.iconst (-1), 1) := by decide +kernel
theorem dX5_byteAt_22 : decode cX5_byteAt 22 = .ok (.goto 9, 3) := by decide +kernel
theorem dX5_byteAt_25 : decode cX5_byteAt 25 = .ok (.aload_n 0, 1) := by decide +kernel
theorem dX5_byteAt_26 : decode cX5_byteAt 26 = .ok (.getfield 9, 3) := by decide +kernel
theorem dX5_byteAt_29 : decode cX5_byteAt 29 = .ok (.iload_n 1, 1) := by decide +kernel
theorem dX5_byteAt_30 : decode cX5_byteAt 30 = .ok (.iaload, 1) := by decide +kernel
theorem dX5_byteAt_31 : decode cX5_byteAt 31 = .ok (.ireturn, 1) := by decide +kernel
theorem dX5_append_0 : decode cX5_append 0 = .ok (.aload_n 0, 1) := by decide +kernel
theorem dX5_append_1 : decode cX5_append 1 = .ok (.getfield 15, 3) := by decide +kernel
theorem dX5_append_4 : decode cX5_append 4 = .ok (.ifCond .lt 15, 3) := by decide +kernel
theorem dX5_append_7 : decode cX5_append 7 = .ok (.aload_n 0, 1) := by decide +kernel
theorem dX5_append_8 : decode cX5_append 8 = .ok (.getfield 15, 3) := by decide +kernel
theorem dX5_append_11 : decode cX5_append 11 = .ok (.aload_n 0, 1) := by decide +kernel
theorem dX5_append_12 : decode cX5_append 12 = .ok (.getfield 9, 3) := by decide +kernel
theorem dX5_append_15 : decode cX5_append 15 = .ok (.arraylength, 1) := by decide +kernel
theorem dX5_append_16 : decode cX5_append 16 = .ok (.if_icmp .lt 5, 3) := by decide +kernel
theorem dX5_append_19 : decode cX5_append 19 = .ok (.iconst 0, 1) := by decide +kernel
theorem dX5_append_20 : decode cX5_append 20 = .ok (.ireturn, 1) := by decide +kernel
theorem dX5_append_21 : decode cX5_append 21 = .ok (.aload_n 0, 1) := by decide +kernel
theorem dX5_append_22 : decode cX5_append 22 = .ok (.getfield 9, 3) := by decide +kernel
theorem dX5_append_25 : decode cX5_append 25 = .ok (.aload_n 0, 1) := by decide +kernel
theorem dX5_append_26 : decode cX5_append 26 = .ok (.getfield 15, 3) := by decide +kernel
theorem dX5_append_29 : decode cX5_append 29 = .ok (.iload_n 1, 1) := by decide +kernel
theorem dX5_append_30 : decode cX5_append 30 = .ok (.iastore, 1) := by decide +kernel
theorem dX5_append_31 : decode cX5_append 31 = .ok (.aload_n 0, 1) := by decide +kernel
theorem dX5_append_32 : decode cX5_append 32 = .ok (.dup, 1) := by decide +kernel
theorem dX5_append_33 : decode cX5_append 33 = .ok (.getfield 15, 3) := by decide +kernel
theorem dX5_append_36 : decode cX5_append 36 = .ok (.iconst 1, 1) := by decide +kernel
theorem dX5_append_37 : decode cX5_append 37 = .ok (.iadd, 1) := by decide +kernel
theorem dX5_append_38 : decode cX5_append 38 = .ok (.putfield 15, 3) := by decide +kernel
theorem dX5_append_41 : decode cX5_append 41 = .ok (.iconst 1, 1) := by decide +kernel
theorem dX5_append_42 : decode cX5_append 42 = .ok (.ireturn, 1) := by decide +kernel
theorem dX5_appendInt_0 : decode cX5_appendInt 0 = .ok (.aload_n 0, 1) := by decide +kernel
theorem dX5_appendInt_1 : decode cX5_appendInt 1 = .ok (.iload_n 1, 1) := by decide +kernel
theorem dX5_appendInt_2 : decode cX5_appendInt 2 = .ok (.bipush 24, 2) := by decide +kernel
theorem dX5_appendInt_4 : decode cX5_appendInt 4 = .ok (.ishr, 1) := by decide +kernel
theorem dX5_appendInt_5 : decode cX5_appendInt 5 = .ok (.sipush 255, 3) := by decide +kernel
theorem dX5_appendInt_8 : decode cX5_appendInt 8 = .ok (.iand, 1) := by decide +kernel
theorem dX5_appendInt_9 : decode cX5_appendInt 9 = .ok (.invokevirtual 19, 3) := by decide +kernel
theorem dX5_appendInt_12 : decode cX5_appendInt 12 = .ok (.pop, 1) := by decide +kernel
theorem dX5_appendInt_13 : decode cX5_appendInt 13 = .ok (.aload_n 0, 1) := by decide +kernel
theorem dX5_appendInt_14 : decode cX5_appendInt 14 = .ok (.iload_n 1, 1) := by decide +kernel
theorem dX5_appendInt_15 : decode cX5_appendInt 15 = .ok (.bipush 16, 2) := by decide +kernel
theorem dX5_appendInt_17 : decode cX5_appendInt 17 = .ok (.ishr, 1) := by decide +kernel
theorem dX5_appendInt_18 : decode cX5_appendInt 18 = .ok (.sipush 255, 3) := by decide +kernel
theorem dX5_appendInt_21 : decode cX5_appendInt 21 = .ok (.iand, 1) := by decide +kernel
theorem dX5_appendInt_22 : decode cX5_appendInt 22 = .ok (.invokevirtual 19, 3) := by decide +kernel
theorem dX5_appendInt_25 : decode cX5_appendInt 25 = .ok (.pop, 1) := by decide +kernel
theorem dX5_appendInt_26 : decode cX5_appendInt 26 = .ok (.aload_n 0, 1) := by decide +kernel
theorem dX5_appendInt_27 : decode cX5_appendInt 27 = .ok (.iload_n 1, 1) := by decide +kernel
theorem dX5_appendInt_28 : decode cX5_appendInt 28 = .ok (.bipush 8, 2) := by decide +kernel
theorem dX5_appendInt_30 : decode cX5_appendInt 30 = .ok (.ishr, 1) := by decide +kernel
theorem dX5_appendInt_31 : decode cX5_appendInt 31 = .ok (.sipush 255, 3) := by decide +kernel
theorem dX5_appendInt_34 : decode cX5_appendInt 34 = .ok (.iand, 1) := by decide +kernel
theorem dX5_appendInt_35 : decode cX5_appendInt 35 = .ok (.invokevirtual 19, 3) := by decide +kernel
theorem dX5_appendInt_38 : decode cX5_appendInt 38 = .ok (.pop, 1) := by decide +kernel
theorem dX5_appendInt_39 : decode cX5_appendInt 39 = .ok (.aload_n 0, 1) := by decide +kernel
theorem dX5_appendInt_40 : decode cX5_appendInt 40 = .ok (.iload_n 1, 1) := by decide +kernel
theorem dX5_appendInt_41 : decode cX5_appendInt 41 = .ok (.sipush 255, 3) := by decide +kernel
theorem dX5_appendInt_44 : decode cX5_appendInt 44 = .ok (.iand, 1) := by decide +kernel
theorem dX5_appendInt_45 : decode cX5_appendInt 45 = .ok (.invokevirtual 19, 3) := by decide +kernel
theorem dX5_appendInt_48 : decode cX5_appendInt 48 = .ok (.pop, 1) := by decide +kernel
theorem dX5_appendInt_49 : decode cX5_appendInt 49 = .ok (.return_, 1) := by decide +kernel
theorem dX5_appendNumber_0 : decode cX5_appendNumber 0 = .ok (.lload_n 1, 1) := by decide +kernel
theorem dX5_appendNumber_1 : decode cX5_appendNumber 1 = .ok (.lstore_n 3, 1) := by decide +kernel
theorem dX5_appendNumber_2 : decode cX5_appendNumber 2 = .ok (.iconst 1, 1) := by decide +kernel
theorem dX5_appendNumber_3 : decode cX5_appendNumber 3 = .ok (.istore 5, 2) := by decide +kernel
theorem dX5_appendNumber_5 : decode cX5_appendNumber 5 = .ok (.iload 5, 2) := by decide +kernel
theorem dX5_appendNumber_7 : decode cX5_appendNumber 7 = .ok (.bipush 9, 2) := by decide +kernel
theorem dX5_appendNumber_9 : decode cX5_appendNumber 9 = .ok (.if_icmp .ge 41, 3) := by decide +kernel
theorem dX5_appendNumber_12 : decode cX5_appendNumber 12 = .ok (.lload_n 3, 1) := by decide +kernel
theorem dX5_appendNumber_13 : decode cX5_appendNumber 13 = .ok (.ldc2_w 23, 3) := by decide +kernel
theorem dX5_appendNumber_16 : decode cX5_appendNumber 16 = .ok (.lcmp, 1) := by decide +kernel
theorem dX5_appendNumber_17 : decode cX5_appendNumber 17 = .ok (.ifCond .le 33, 3) := by decide +kernel
theorem dX5_appendNumber_20 : decode cX5_appendNumber 20 = .ok (.aload_n 0, 1) := by decide +kernel
theorem dX5_appendNumber_21 : decode cX5_appendNumber 21 = .ok (.lload_n 3, 1) := by decide +kernel
theorem dX5_appendNumber_22 : decode cX5_appendNumber 22 = .ok (.ldc2_w 23, 3) := by decide +kernel
theorem dX5_appendNumber_25 : decode cX5_appendNumber 25 = .ok (.land, 1) := by decide +kernel
theorem dX5_appendNumber_26 : decode cX5_appendNumber 26 = .ok (.l2i, 1) := by decide +kernel
theorem dX5_appendNumber_27 : decode cX5_appendNumber 27 = .ok (.sipush 128, 3) := by decide +kernel
theorem dX5_appendNumber_30 : decode cX5_appendNumber 30 = .ok (.iadd, 1) := by decide +kernel
theorem dX5_appendNumber_31 : decode cX5_appendNumber 31 = .ok (.invokevirtual 19, 3) := by decide +kernel
theorem dX5_appendNumber_34 : decode cX5_appendNumber 34 = .ok (.ifCond .ne 5, 3) := by decide +kernel
theorem dX5_appendNumber_37 : decode cX5_appendNumber 37 = .ok (.iconst 0, 1) := by decide +kernel
theorem dX5_appendNumber_38 : decode cX5_appendNumber 38 = .ok (.ireturn, 1) := by decide +kernel
theorem dX5_appendNumber_39 : decode cX5_appendNumber 39 = .ok (.lload_n 3, 1) := by decide +kernel
theorem dX5_appendNumber_40 : decode cX5_appendNumber 40 = .ok (.bipush 7, 2) := by decide +kernel
theorem dX5_appendNumber_42 : decode cX5_appendNumber 42 = .ok (.lshr, 1) := by decide +kernel
theorem dX5_appendNumber_43 : decode cX5_appendNumber 43 = .ok (.lstore_n 3, 1) := by decide +kernel
theorem dX5_appendNumber_44 : decode cX5_appendNumber 44 = .ok (.iinc 5 1, 3) := by decide +kernel
theorem dX5_appendNumber_47 : decode cX5_appendNumber 47 = .ok (.goto (-42), 3) := by decide +kernel
theorem dX5_appendNumber_50 : decode cX5_appendNumber 50 = .ok (.aload_n 0, 1) := by decide +kernel
theorem dX5_appendNumber_51 : decode cX5_appendNumber 51 = .ok (.lload_n 3, 1) := by decide +kernel
theorem dX5_appendNumber_52 : decode cX5_appendNumber 52 = .ok (.ldc2_w 23, 3) := by decide +kernel
theorem dX5_appendNumber_55 : decode cX5_appendNumber 55 = .ok (.land, 1) := by decide +kernel
theorem dX5_appendNumber_56 : decode cX5_appendNumber 56 = .ok (.l2i, 1) := by decide +kernel
theorem dX5_appendNumber_57 : decode cX5_appendNumber 57 = .ok (.invokevirtual 19, 3) := by decide +kernel
theorem dX5_appendNumber_60 : decode cX5_appendNumber 60 = .ok (.ireturn, 1) := by decide +kernel
theorem dX5_become_0 : decode cX5_become 0 = .ok (.aload_n 0, 1) := by decide +kernel
theorem dX5_become_1 : decode cX5_become 1 = .ok (.iconst 0, 1) := by decide +kernel
theorem dX5_become_2 : decode cX5_become 2 = .ok (.aload_n 1, 1) := by decide +kernel
theorem dX5_become_3 : decode cX5_become 3 = .ok (.getfield 15, 3) := by decide +kernel
theorem dX5_become_6 : decode cX5_become 6 = .ok (.aload_n 0, 1) := by decide +kernel
theorem dX5_become_7 : decode cX5_become 7 = .ok (.getfield 9, 3) := by decide +kernel
theorem dX5_become_10 : decode cX5_become 10 = .ok (.arraylength, 1) := by decide +kernel
theorem dX5_become_11 : decode cX5_become 11 = .ok (.invokestatic 25, 3) := by decide +kernel
theorem dX5_become_14 : decode cX5_become 14 = .ok (.invokestatic 31, 3) := by decide +kernel
theorem dX5_become_17 : decode cX5_become 17 = .ok (.putfield 15, 3) := by decide +kernel
theorem dX5_become_20 : decode cX5_become 20 = .ok (.aload_n 1, 1) := by decide +kernel
theorem dX5_become_21 : decode cX5_become 21 = .ok (.getfield 9, 3) := by decide +kernel
theorem dX5_become_24 : decode cX5_become 24 = .ok (.iconst 0, 1) := by decide +kernel
theorem dX5_become_25 : decode cX5_become 25 = .ok (.aload_n 0, 1) := by decide +kernel
theorem dX5_become_26 : decode cX5_become 26 = .ok (.getfield 9, 3) := by decide +kernel
theorem dX5_become_29 : decode cX5_become 29 = .ok (.iconst 0, 1) := by decide +kernel
theorem dX5_become_30 : decode cX5_become 30 = .ok (.aload_n 0, 1) := by decide +kernel
theorem dX5_become_31 : decode cX5_become 31 = .ok (.getfield 15, 3) := by decide +kernel
theorem dX5_become_34 : decode cX5_become 34 = .ok (.invokestatic 34, 3) := by decide +kernel
theorem dX5_become_37 : decode cX5_become 37 = .ok (.return_, 1) := by decide +kernel
theorem dX6_init_0 : decode cX6_init 0 = .ok (.aload_n 0, 1) := by decide +kernel
theorem dX6_init_1 : decode cX6_init 1 = .ok (.invokespecial 3, 3) := by decide +kernel
theorem dX6_init_4 : decode cX6_init 4 = .ok (.aload_n 0, 1) := by decide +kernel
theorem dX6_init_5 : decode cX6_init 5 = .ok (.aload_n 1, 1) := by decide +kernel
theorem dX6_init_6 : decode cX6_init 6 = .ok (.putfield 9, 3) := by decide +kernel
theorem dX6_init_9 : decode cX6_init 9 = .ok (.return_, 1) := by decide +kernel
theorem dX6_faultOfAll_0 : decode cX6_faultOfAll 0 = .ok (.aload_n 0, 1) := by decide +kernel
theorem dX6_faultOfAll_1 : decode cX6_faultOfAll 1 = .ok (.invokevirtual 15, 3) := by decide +kernel
theorem dX6_faultOfAll_4 : decode cX6_faultOfAll 4 = .ok (.aload_n 0, 1) := by decide +kernel
theorem dX6_faultOfAll_5 : decode cX6_faultOfAll 5 = .ok (.getfield 18, 3) := by decide +kernel
theorem dX6_faultOfAll_8 : decode cX6_faultOfAll 8 = .ok (.ifCond .ne 20, 3) := by decide +kernel
theorem dX6_faultOfAll_11 : decode cX6_faultOfAll 11 = .ok (.aload_n 0, 1) := by decide +kernel
theorem dX6_faultOfAll_12 : decode cX6_faultOfAll 12 = .ok (.aload_n 0, 1) := by decide +kernel
theorem dX6_faultOfAll_13 : decode cX6_faultOfAll 13 = .ok (.getfield 22, 3) := by decide +kernel
theorem dX6_faultOfAll_16 : decode cX6_faultOfAll 16 = .ok (.aload_n 0, 1) := by decide +kernel
theorem dX6_faultOfAll_17 : decode cX6_faultOfAll 17 = .ok (.getfield 25, 3) := by decide +kernel
theorem dX6_faultOfAll_20 : decode cX6_faultOfAll 20 = .ok (.invokestatic 29, 3) := by decide +kernel
theorem dX6_faultOfAll_23 : decode cX6_faultOfAll 23 = .ok (.iconst 1, 1) := by decide +kernel
theorem dX6_faultOfAll_24 : decode cX6_faultOfAll 24 = .ok (.iadd, 1) := by decide +kernel
theorem dX6_faultOfAll_25 : decode cX6_faultOfAll 25 = .ok (.invokevirtual 33, 3) := by decide +kernel
theorem dX6_faultOfAll_28 : decode cX6_faultOfAll 28 = .ok (.aload_n 0, 1) := by decide +kernel
theorem dX6_faultOfAll_29 : decode cX6_faultOfAll 29 = .ok (.getfield 18, 3) := by decide +kernel
theorem dX6_faultOfAll_32 : decode cX6_faultOfAll 32 = .ok (.ireturn, 1) := by decide +kernel
theorem dX6_fill_0 : decode cX6_fill 0 = .ok (.aload_n 0, 1) := by decide +kernel
theorem dX6_fill_1 : decode cX6_fill 1 = .ok (.invokevirtual 15, 3) := by decide +kernel
theorem dX6_fill_4 : decode cX6_fill 4 = .ok (.aload_n 1, 1) := by decide +kernel
theorem dX6_fill_5 : decode cX6_fill 5 = .ok (.aload_n 0, 1) := by decide +kernel
theorem dX6_fill_6 : decode cX6_fill 6 = .ok (.getfield 37, 3) := by decide +kernel
theorem dX6_fill_9 : decode cX6_fill 9 = .ok (.aload_n 0, 1) := by decide +kernel
theorem dX6_fill_10 : decode cX6_fill 10 = .ok (.getfield 22, 3) := by decide +kernel
theorem dX6_fill_13 : decode cX6_fill 13 = .ok (.aload_n 0, 1) := by decide +kernel
theorem dX6_fill_14 : decode cX6_fill 14 = .ok (.getfield 25, 3) := by decide +kernel
theorem dX6_fill_17 : decode cX6_fill 17 = .ok (.invokevirtual 40, 3) := by decide +kernel
theorem dX6_fill_20 : decode cX6_fill 20 = .ok (.lconst 0, 1) := by decide +kernel
theorem dX6_fill_21 : decode cX6_fill 21 = .ok (.lstore_n 2, 1) := by decide +kernel
theorem dX6_fill_22 : decode cX6_fill 22 = .ok (.iconst 0, 1) := by decide +kernel
theorem dX6_fill_23 : decode cX6_fill 23 = .ok (.istore 4, 2) := by decide +kernel
theorem dX6_fill_25 : decode cX6_fill 25 = .ok (.iload 4, 2) := by decide +kernel
theorem dX6_fill_27 : decode cX6_fill 27 = .ok (.sipush 400, 3) := by decide +kernel
theorem dX6_fill_30 : decode cX6_fill 30 = .ok (.if_icmp .ge 64, 3) := by decide +kernel
theorem dX6_fill_33 : decode cX6_fill 33 = .ok (.aload_n 0, 1) := by decide +kernel
theorem dX6_fill_34 : decode cX6_fill 34 = .ok (.getfield 46, 3) := by decide +kernel
theorem dX6_fill_37 : decode cX6_fill 37 = .ok (.aload_n 0, 1) := by decide +kernel
theorem dX6_fill_38 : decode cX6_fill 38 = .ok (.getfield 9, 3) := by decide +kernel
theorem dX6_fill_41 : decode cX6_fill 41 = .ok (.getfield 49, 3) := by decide +kernel
theorem dX6_fill_44 : decode cX6_fill 44 = .ok (.if_icmp .ge 50, 3) := by decide +kernel
theorem dX6_fill_47 : decode cX6_fill 47 = .ok (.aload_n 0, 1) := by decide +kernel
theorem dX6_fill_48 : decode cX6_fill 48 = .ok (.invokevirtual 54, 3) := by decide +kernel
theorem dX6_fill_51 : decode cX6_fill 51 = .ok (.lstore 5, 2) := by decide +kernel
theorem dX6_fill_53 : decode cX6_fill 53 = .ok (.lload 5, 2) := by decide +kernel
theorem dX6_fill_55 : decode cX6_fill 55 = .ok (.invokestatic 58, 3) := by decide +kernel
theorem dX6_fill_58 : decode cX6_fill 58 = .ok (.ifCond .eq 14, 3) := by decide +kernel
theorem dX6_fill_61 : decode cX6_fill 61 = .ok (.lload_n 2, 1) := by decide +kernel
theorem dX6_fill_62 : decode cX6_fill 62 = .ok (.lload 5, 2) := by decide +kernel
theorem dX6_fill_64 : decode cX6_fill 64 = .ok (.invokestatic 62, 3) := by decide +kernel
theorem dX6_fill_67 : decode cX6_fill 67 = .ok (.ladd, 1) := by decide +kernel
theorem dX6_fill_68 : decode cX6_fill 68 = .ok (.lstore_n 2, 1) := by decide +kernel
theorem dX6_fill_69 : decode cX6_fill 69 = .ok (.goto 19, 3) := by decide +kernel
theorem dX6_fill_72 : decode cX6_fill 72 = .ok (.aload_n 1, 1) := by decide +kernel
theorem dX6_fill_73 : decode cX6_fill 73 = .ok (.lload_n 2, 1) := by decide +kernel
theorem dX6_fill_74 : decode cX6_fill 74 = .ok (.l2i, 1) := by decide +kernel
theorem dX6_fill_75 : decode cX6_fill 75 = .ok (.lload 5, 2) := by decide +kernel
theorem dX6_fill_77 : decode cX6_fill 77 = .ok (.ldc2_w 66, 3) := by decide +kernel
theorem dX6_fill_80 : decode cX6_fill 80 = .ok (.ldiv, 1) := by decide +kernel
theorem dX6_fill_81 : decode cX6_fill 81 = .ok (.invokevirtual 68, 3) := by decide +kernel
theorem dX6_fill_84 : decode cX6_fill 84 = .ok (.lload_n 2, 1) := by decide +kernel
theorem dX6_fill_85 : decode cX6_fill 85 = .ok (.lconst 1, 1) := by decide +kernel
theorem dX6_fill_86 : decode cX6_fill 86 = .ok (.ladd, 1) := by decide +kernel
theorem dX6_fill_87 : decode cX6_fill 87 = .ok (.lstore_n 2, 1) := by decide +kernel
theorem dX6_fill_88 : decode cX6_fill 88 = .ok (.iinc 4 1, 3) := by decide +kernel
theorem dX6_fill_91 : decode cX6_fill 91 = .ok (.goto (-66), 3) := by decide +kernel
theorem dX6_fill_94 : decode cX6_fill 94 = .ok (.aload_n 1, 1) := by decide +kernel
theorem dX6_fill_95 : decode cX6_fill 95 = .ok (.invokevirtual 72, 3) := by decide +kernel
theorem dX6_fill_98 : decode cX6_fill 98 = .ok (.pop, 1) := by decide +kernel
theorem dX6_fill_99 : decode cX6_fill 99 = .ok (.return_, 1) := by decide +kernel
theorem dX6_readHead_0 : decode cX6_readHead 0 = .ok (.aload_n 0, 1) := by decide +kernel
theorem dX6_readHead_1 : decode cX6_readHead 1 = .ok (.iconst 0, 1) := by decide +kernel
theorem dX6_readHead_2 : decode cX6_readHead 2 = .ok (.putfield 46, 3) := by decide +kernel
theorem dX6_readHead_5 : decode cX6_readHead 5 = .ok (.aload_n 0, 1) := by decide +kernel
theorem dX6_readHead_6 : decode cX6_readHead 6 = .ok (.sipush 165, 3) := by decide +kernel
theorem dX6_readHead_9 : decode cX6_readHead 9 = .ok (.sipush 165, 3) := by decide +kernel
theorem dX6_readHead_12 : decode cX6_readHead 12 = .ok (.invokevirtual 76, 3) := by decide +kernel
theorem dX6_readHead_15 : decode cX6_readHead 15 = .ok (.iconst (-1), 1) := by decide +kernel
theorem dX6_readHead_16 : decode cX6_readHead 16 = .ok (.if_icmp .ne 4, 3) := by decide +kernel
theorem dX6_readHead_19 : decode cX6_readHead 19 = .ok (.return_, 1) := by decide +kernel
theorem dX6_readHead_20 : decode cX6_readHead 20 = .ok (.aload_n 0, 1) := by decide +kernel
theorem dX6_readHead_21 : decode cX6_readHead 21 = .ok (.aload_n 0, 1) := by decide +kernel
theorem dX6_readHead_22 : decode cX6_readHead 22 = .ok (.iconst 0, 1) := by decide +kernel
theorem dX6_readHead_23 : decode cX6_readHead 23 = .ok (.iconst 1, 1) := by decide +kernel
theorem dX6_readHead_24 : decode cX6_readHead 24 = .ok (.invokevirtual 76, 3) := by decide +kernel
theorem dX6_readHead_27 : decode cX6_readHead 27 = .ok (.putfield 37, 3) := by decide +kernel
theorem dX6_readHead_30 : decode cX6_readHead 30 = .ok (.aload_n 0, 1) := by decide +kernel
theorem dX6_readHead_31 : decode cX6_readHead 31 = .ok (.getfield 37, 3) := by decide +kernel
theorem dX6_readHead_34 : decode cX6_readHead 34 = .ok (.iconst (-1), 1) := by decide +kernel
theorem dX6_readHead_35 : decode cX6_readHead 35 = .ok (.if_icmp .ne 4, 3) := by decide +kernel
theorem dX6_readHead_38 : decode cX6_readHead 38 = .ok (.return_, 1) := by decide +kernel
theorem dX6_readHead_39 : decode cX6_readHead 39 = .ok (.aload_n 0, 1) := by decide +kernel
theorem dX6_readHead_40 : decode cX6_readHead 40 = .ok (.aload_n 0, 1) := by decide +kernel
theorem dX6_readHead_41 : decode cX6_readHead 41 = .ok (.iconst 1, 1) := by decide +kernel
theorem dX6_readHead_42 : decode cX6_readHead 42 = .ok (.iconst 2, 1) := by decide +kernel
theorem dX6_readHead_43 : decode cX6_readHead 43 = .ok (.invokevirtual 76, 3) := by decide +kernel
theorem dX6_readHead_46 : decode cX6_readHead 46 = .ok (.putfield 22, 3) := by decide +kernel
theorem dX6_readHead_49 : decode cX6_readHead 49 = .ok (.aload_n 0, 1) := by decide +kernel
theorem dX6_readHead_50 : decode cX6_readHead 50 = .ok (.getfield 22, 3) := by decide +kernel
theorem dX6_readHead_53 : decode cX6_readHead 53 = .ok (.iconst (-1), 1) := by decide +kernel
theorem dX6_readHead_54 : decode cX6_readHead 54 = .ok (.if_icmp .ne 4, 3) := by decide +kernel
theorem dX6_readHead_57 : decode cX6_readHead 57 = .ok (.return_, 1) := by decide +kernel
theorem dX6_readHead_58 : decode cX6_readHead 58 = .ok (.aload_n 0, 1) := by decide +kernel
theorem dX6_readHead_59 : decode cX6_readHead 59 = .ok (.getfield 46, 3) := by decide +kernel
theorem dX6_readHead_62 : decode cX6_readHead 62 = .ok (.istore_n 1, 1) := by decide +kernel
theorem dX6_readHead_63 : decode cX6_readHead 63 = .ok (.aload_n 0, 1) := by decide +kernel
theorem dX6_readHead_64 : decode cX6_readHead 64 = .ok (.aload_n 0, 1) := by decide +kernel
theorem dX6_readHead_65 : decode cX6_readHead 65 = .ok (.invokevirtual 54, 3) := by decide +kernel
theorem dX6_readHead_68 : decode cX6_readHead 68 = .ok (.putfield 25, 3) := by decide +kernel
theorem dX6_readHead_71 : decode cX6_readHead 71 = .ok (.aload_n 0, 1) := by decide +kernel
theorem dX6_readHead_72 : decode cX6_readHead 72 = .ok (.getfield 18, 3) := by decide +kernel
theorem dX6_readHead_75 : decode cX6_readHead 75 = .ok (.ifCond .ne 27, 3) := by decide +kernel
theorem dX6_readHead_78 : decode cX6_readHead 78 = .ok (.aload_n 0, 1) := by decide +kernel
theorem dX6_readHead_79 : decode cX6_readHead 79 = .ok (.getfield 37, 3) := by decide +kernel
theorem dX6_readHead_82 : decode cX6_readHead 82 = .ok (.aload_n 0, 1) := by decide +kernel
theorem dX6_readHead_83 : decode cX6_readHead 83 = .ok (.getfield 22, 3) := by decide +kernel
theorem dX6_readHead_86 : decode cX6_readHead 86 = .ok (.aload_n 0, 1) := by decide +kernel
theorem dX6_readHead_87 : decode cX6_readHead 87 = .ok (.getfield 25, 3) := by decide +kernel
theorem dX6_readHead_90 : decode cX6_readHead 90 = .ok (.invokestatic 80, 3) := by decide +kernel
theorem dX6_readHead_93 : decode cX6_readHead 93 = .ok (.ifCond .ne 9, 3) := by decide +kernel
theorem dX6_readHead_96 : decode cX6_readHead 96 = .ok (.aload_n 0, 1) := by decide +kernel
theorem dX6_readHead_97 : decode cX6_readHead 97 = .ok (.iload_n 1, 1) := by decide +kernel
theorem dX6_readHead_98 : decode cX6_readHead 98 = .ok (.iconst 2, 1) := by decide +kernel
theorem dX6_readHead_99 : decode cX6_readHead 99 = .ok (.invokevirtual 84, 3) := by decide +kernel
theorem dX6_readHead_102 : decode cX6_readHead 102 = .ok (.return_, 1) := by decide +kernel
theorem dX6_checkSlots_0 : decode cX6_checkSlots 0 = .ok (.lconst 0, 1) := by decide +kernel
theorem dX6_checkSlots_1 : decode cX6_checkSlots 1 = .ok (.lstore_n 2, 1) := by decide +kernel
theorem dX6_checkSlots_2 : decode cX6_checkSlots 2 = .ok (.iconst (-1), 1) := by decide +kernel
theorem dX6_checkSlots_3 : decode cX6_checkSlots 3 = .ok (.istore 4, 2) := by decide +kernel
theorem dX6_checkSlots_5 : decode cX6_checkSlots 5 = .ok (.iconst 0, 1) := by decide +kernel
theorem dX6_checkSlots_6 : decode cX6_checkSlots 6 = .ok (.istore 5, 2) := by decide +kernel
theorem dX6_checkSlots_8 : decode cX6_checkSlots 8 = .ok (.iload 5, 2) := by decide +kernel
theorem dX6_checkSlots_10 : decode cX6_checkSlots 10 = .ok (.sipush 400, 3) := by decide +kernel
theorem dX6_checkSlots_13 : decode cX6_checkSlots 13 = .ok (.if_icmp .ge 138, 3) := by decide +kernel
theorem dX6_checkSlots_16 : decode cX6_checkSlots 16 = .ok (.aload_n 0, 1) := by decide +kernel
theorem dX6_checkSlots_17 : decode cX6_checkSlots 17 = .ok (.getfield 46, 3) := by decide +kernel
theorem dX6_checkSlots_20 : decode cX6_checkSlots 20 = .ok (.aload_n 0, 1) := by decide +kernel
theorem dX6_checkSlots_21 : decode cX6_checkSlots 21 = .ok (.getfield 9, 3) := by decide +kernel
theorem dX6_checkSlots_24 : decode cX6_checkSlots 24 = .ok (.getfield 49, 3) := by decide +kernel
theorem dX6_checkSlots_27 : decode cX6_checkSlots 27 = .ok (.if_icmp .ge 124, 3) := by decide +kernel
theorem dX6_checkSlots_30 : decode cX6_checkSlots 30 = .ok (.aload_n 0, 1) := by decide +kernel
theorem dX6_checkSlots_31 : decode cX6_checkSlots 31 = .ok (.getfield 46, 3) := by decide +kernel
theorem dX6_checkSlots_34 : decode cX6_checkSlots 34 = .ok (.istore 6, 2) := by decide +kernel
theorem dX6_checkSlots_36 : decode cX6_checkSlots 36 = .ok (.aload_n 0, 1) := by decide +kernel
theorem dX6_checkSlots_37 : decode cX6_checkSlots 37 = .ok (.invokevirtual 54, 3) := by decide +kernel
theorem dX6_checkSlots_40 : decode cX6_checkSlots 40 = .ok (.lstore 7, 2) := by decide +kernel
theorem dX6_checkSlots_42 : decode cX6_checkSlots 42 = .ok (.aload_n 0, 1) := by decide +kernel
theorem dX6_checkSlots_43 : decode cX6_checkSlots 43 = .ok (.getfield 18, 3) := by decide +kernel
theorem dX6_checkSlots_46 : decode cX6_checkSlots 46 = .ok (.ifCond .eq 4, 3) := by decide +kernel
theorem dX6_checkSlots_49 : decode cX6_checkSlots 49 = .ok (.return_, 1) := by decide +kernel
theorem dX6_checkSlots_50 : decode cX6_checkSlots 50 = .ok (.lload 7, 2) := by decide +kernel
theorem dX6_checkSlots_52 : decode cX6_checkSlots 52 = .ok (.invokestatic 58, 3) := by decide +kernel
theorem dX6_checkSlots_55 : decode cX6_checkSlots 55 = .ok (.ifCond .ne 24, 3) := by decide +kernel
theorem dX6_checkSlots_58 : decode cX6_checkSlots 58 = .ok (.lload 7, 2) := by decide +kernel
theorem dX6_checkSlots_60 : decode cX6_checkSlots 60 = .ok (.ldc2_w 66, 3) := by decide +kernel
theorem dX6_checkSlots_63 : decode cX6_checkSlots 63 = .ok (.ldiv, 1) := by decide +kernel
theorem dX6_checkSlots_64 : decode cX6_checkSlots 64 = .ok (.ldc2_w 88, 3) := by decide +kernel
theorem dX6_checkSlots_67 : decode cX6_checkSlots 67 = .ok (.lcmp, 1) := by decide +kernel
theorem dX6_checkSlots_68 : decode cX6_checkSlots 68 = .ok (.ifCond .le 11, 3) := by decide +kernel
theorem dX6_checkSlots_71 : decode cX6_checkSlots 71 = .ok (.aload_n 0, 1) := by decide +kernel
theorem dX6_checkSlots_72 : decode cX6_checkSlots 72 = .ok (.iload 6, 2) := by decide +kernel
theorem dX6_checkSlots_74 : decode cX6_checkSlots 74 = .ok (.iconst 2, 1) := by decide +kernel
theorem dX6_checkSlots_75 : decode cX6_checkSlots 75 = .ok (.invokevirtual 84, 3) := by decide +kernel
theorem dX6_checkSlots_78 : decode cX6_checkSlots 78 = .ok (.return_, 1) := by decide +kernel
theorem dX6_checkSlots_79 : decode cX6_checkSlots 79 = .ok (.lload 7, 2) := by decide +kernel
theorem dX6_checkSlots_81 : decode cX6_checkSlots 81 = .ok (.lconst 0, 1) := by decide +kernel
theorem dX6_checkSlots_82 : decode cX6_checkSlots 82 = .ok (.lcmp, 1) := by decide +kernel
theorem dX6_checkSlots_83 : decode cX6_checkSlots 83 = .ok (.ifCond .eq 30, 3) := by decide +kernel
theorem dX6_checkSlots_86 : decode cX6_checkSlots 86 = .ok (.lload 7, 2) := by decide +kernel
theorem dX6_checkSlots_88 : decode cX6_checkSlots 88 = .ok (.invokestatic 62, 3) := by decide +kernel
theorem dX6_checkSlots_91 : decode cX6_checkSlots 91 = .ok (.iload_n 1, 1) := by decide +kernel
theorem dX6_checkSlots_92 : decode cX6_checkSlots 92 = .ok (.i2l, 1) := by decide +kernel
theorem dX6_checkSlots_93 : decode cX6_checkSlots 93 = .ok (.lload_n 2, 1) := by decide +kernel
theorem dX6_checkSlots_94 : decode cX6_checkSlots 94 = .ok (.lsub, 1) := by decide +kernel
theorem dX6_checkSlots_95 : decode cX6_checkSlots 95 = .ok (.lcmp, 1) := by decide +kernel
theorem dX6_checkSlots_96 : decode cX6_checkSlots 96 = .ok (.ifCond .gt 17, 3) := by decide +kernel
theorem dX6_checkSlots_99 : decode cX6_checkSlots 99 = .ok (.lload 7, 2) := by decide +kernel
theorem dX6_checkSlots_101 : decode cX6_checkSlots 101 = .ok (.invokestatic 58, 3) := by decide +kernel
theorem dX6_checkSlots_104 : decode cX6_checkSlots 104 = .ok (.ifCond .eq 17, 3) := by decide +kernel
theorem dX6_checkSlots_107 : decode cX6_checkSlots 107 = .ok (.iload 4, 2) := by decide +kernel
theorem dX6_checkSlots_109 : decode cX6_checkSlots 109 = .ok (.iconst (-1), 1) := by decide +kernel
theorem dX6_checkSlots_110 : decode cX6_checkSlots 110 = .ok (.if_icmp .eq 11, 3) := by decide +kernel
theorem dX6_checkSlots_113 : decode cX6_checkSlots 113 = .ok (.aload_n 0, 1) := by decide +kernel
theorem dX6_checkSlots_114 : decode cX6_checkSlots 114 = .ok (.iload 6, 2) := by decide +kernel
theorem dX6_checkSlots_116 : decode cX6_checkSlots 116 = .ok (.iconst 3, 1) := by decide +kernel
theorem dX6_checkSlots_117 : decode cX6_checkSlots 117 = .ok (.invokevirtual 84, 3) := by decide +kernel
theorem dX6_checkSlots_120 : decode cX6_checkSlots 120 = .ok (.return_, 1) := by decide +kernel
theorem dX6_checkSlots_121 : decode cX6_checkSlots 121 = .ok (.lload_n 2, 1) := by decide +kernel
theorem dX6_checkSlots_122 : decode cX6_checkSlots 122 = .ok (.lload 7, 2) := by decide +kernel
theorem dX6_checkSlots_124 : decode cX6_checkSlots 124 = .ok (.invokestatic 62, 3) := by decide +kernel
theorem dX6_checkSlots_127 : decode cX6_checkSlots 127 = .ok (.ladd, 1) := by decide +kernel
theorem dX6_checkSlots_128 : decode cX6_checkSlots 128 = .ok (.lstore_n 2, 1) := by decide +kernel
theorem dX6_checkSlots_129 : decode cX6_checkSlots 129 = .ok (.lload 7, 2) := by decide +kernel
theorem dX6_checkSlots_131 : decode cX6_checkSlots 131 = .ok (.invokestatic 58, 3) := by decide +kernel
theorem dX6_checkSlots_134 : decode cX6_checkSlots 134 = .ok (.ifCond .eq 8, 3) := by decide +kernel
theorem dX6_checkSlots_137 : decode cX6_checkSlots 137 = .ok (.iload 6, 2) := by decide +kernel
theorem dX6_checkSlots_139 : decode cX6_checkSlots 139 = .ok (.goto 4, 3) := by decide +kernel
theorem dX6_checkSlots_142 : decode cX6_checkSlots 142 = .ok (.iconst (-1), 1) := by decide +kernel
theorem dX6_checkSlots_143 : decode cX6_checkSlots 143 = .ok (.istore 4, 2) := by decide +kernel
theorem dX6_checkSlots_145 : decode cX6_checkSlots 145 = .ok (.iinc 5 1, 3) := by decide +kernel
theorem dX6_checkSlots_148 : decode cX6_checkSlots 148 = .ok (.goto (-140), 3) := by decide +kernel
theorem dX6_checkSlots_151 : decode cX6_checkSlots 151 = .ok (.iload 4, 2) := by decide +kernel
theorem dX6_checkSlots_153 : decode cX6_checkSlots 153 = .ok (.iconst (-1), 1) := by decide +kernel
theorem dX6_checkSlots_154 : decode cX6_checkSlots 154 = .ok (.if_icmp .eq 10, 3) := by decide +kernel
theorem dX6_checkSlots_157 : decode cX6_checkSlots 157 = .ok (.aload_n 0, 1) := by decide +kernel
theorem dX6_checkSlots_158 : decode cX6_checkSlots 158 = .ok (.iload 4, 2) := by decide +kernel
theorem dX6_checkSlots_160 : decode cX6_checkSlots 160 = .ok (.iconst 4, 1) := by decide +kernel
theorem dX6_checkSlots_161 : decode cX6_checkSlots 161 = .ok (.invokevirtual 84, 3) := by decide +kernel
theorem dX6_checkSlots_164 : decode cX6_checkSlots 164 = .ok (.return_, 1) := by decide +kernel
theorem dX6_isZeros_0 : decode cX6_isZeros 0 = .ok (.lload_n 0, 1) := by decide +kernel
theorem dX6_isZeros_1 : decode cX6_isZeros 1 = .ok (.lconst 1, 1) := by decide +kernel
theorem dX6_isZeros_2 : decode cX6_isZeros 2 = .ok (.land, 1) := by decide +kernel
theorem dX6_isZeros_3 : decode cX6_isZeros 3 = .ok (.lconst 1, 1) := by decide +kernel
theorem dX6_isZeros_4 : decode cX6_isZeros 4 = .ok (.lcmp, 1) := by decide +kernel
theorem dX6_isZeros_5 : decode cX6_isZeros 5 = .ok (.ifCond .ne 7, 3) := by decide +kernel
theorem dX6_isZeros_8 : decode cX6_isZeros 8 = .ok (.iconst 1, 1) := by decide +kernel
theorem dX6_isZeros_9 : decode cX6_isZeros 9 = .ok (.goto 4, 3) := by decide +kernel
theorem dX6_isZeros_12 : decode cX6_isZeros 12 = .ok (.iconst 0, 1) := by decide +kernel
theorem dX6_isZeros_13 : decode cX6_isZeros 13 = .ok (.ireturn, 1) := by decide +kernel
theorem dX6_slotsOf_0 : decode cX6_slotsOf 0 = .ok (.lload_n 0, 1) := by decide +kernel
theorem dX6_slotsOf_1 : decode cX6_slotsOf 1 = .ok (.invokestatic 58, 3) := by decide +kernel
theorem dX6_slotsOf_4 : decode cX6_slotsOf 4 = .ok (.ifCond .eq 13, 3) := by decide +kernel
theorem dX6_slotsOf_7 : decode cX6_slotsOf 7 = .ok (.lload_n 0, 1) := by decide +kernel
theorem dX6_slotsOf_8 : decode cX6_slotsOf 8 = .ok (.ldc2_w 66, 3) := by decide +kernel
theorem dX6_slotsOf_11 : decode cX6_slotsOf 11 = .ok (.ldiv, 1) := by decide +kernel
theorem dX6_slotsOf_12 : decode cX6_slotsOf 12 = .ok (.lconst 1, 1) := by decide +kernel
theorem dX6_slotsOf_13 : decode cX6_slotsOf 13 = .ok (.ladd, 1) := by decide +kernel
theorem dX6_slotsOf_14 : decode cX6_slotsOf 14 = .ok (.goto 4, 3) := by decide +kernel
theorem dX6_slotsOf_17 : decode cX6_slotsOf 17 = .ok (.lconst 1, 1) := by decide +kernel
theorem dX6_slotsOf_18 : decode cX6_slotsOf 18 = .ok (.lreturn, 1) := by decide +kernel
theorem dX6_nextByte_0 : decode cX6_nextByte 0 = .ok (.aload_n 0, 1) := by decide +kernel
theorem dX6_nextByte_1 : decode cX6_nextByte 1 = .ok (.getfield 9, 3) := by decide +kernel
theorem dX6_nextByte_4 : decode cX6_nextByte 4 = .ok (.aload_n 0, 1) := by decide +kernel
theorem dX6_nextByte_5 : decode cX6_nextByte 5 = .ok (.getfield 46, 3) := by decide +kernel
theorem dX6_nextByte_8 : decode cX6_nextByte 8 = .ok (.invokevirtual 90, 3) := by decide +kernel
theorem dX6_nextByte_11 : decode cX6_nextByte 11 = .ok (.istore_n 3, 1) := by decide +kernel
theorem dX6_nextByte_12 : decode cX6_nextByte 12 = .ok (.iload_n 3, 1) := by decide +kernel
theorem dX6_nextByte_13 : decode cX6_nextByte 13 = .ok (.iload_n 1, 1) := by decide +kernel
theorem dX6_nextByte_14 : decode cX6_nextByte 14 = .ok (.if_icmp .lt 8, 3) := by decide +kernel
theorem dX6_nextByte_17 : decode cX6_nextByte 17 = .ok (.iload_n 3, 1) := by decide +kernel
theorem dX6_nextByte_18 : decode cX6_nextByte 18 = .ok (.iload_n 2, 1) := by decide +kernel
theorem dX6_nextByte_19 : decode cX6_nextByte 19 = .ok (.if_icmp .le 14, 3) := by decide +kernel
theorem dX6_nextByte_22 : decode cX6_nextByte 22 = .ok (.aload_n 0, 1) := by decide +kernel
theorem dX6_nextByte_23 : decode cX6_nextByte 23 = .ok (.aload_n 0, 1) := by decide +kernel
theorem dX6_nextByte_24 : decode cX6_nextByte 24 = .ok (.getfield 46, 3) := by decide +kernel
theorem dX6_nextByte_27 : decode cX6_nextByte 27 = .ok (.iconst 1, 1) := by decide +kernel
theorem dX6_nextByte_28 : decode cX6_nextByte 28 = .ok (.invokevirtual 84, 3) := by decide +kernel
theorem dX6_nextByte_31 : decode cX6_nextByte 31 = .ok (.iconst (-1), 1) := by decide +kernel
theorem dX6_nextByte_32 : decode cX6_nextByte 32 = .ok (.ireturn, 1) := by decide +kernel
theorem dX6_nextByte_33 : decode cX6_nextByte 33 = .ok (.aload_n 0, 1) := by decide +kernel
theorem dX6_nextByte_34 : decode cX6_nextByte 34 = .ok (.dup, 1) := by decide +kernel
theorem dX6_nextByte_35 : decode cX6_nextByte 35 = .ok (.getfield 46, 3) := by decide +kernel
theorem dX6_nextByte_38 : decode cX6_nextByte 38 = .ok (.iconst 1, 1) := by decide +kernel
theorem dX6_nextByte_39 : decode cX6_nextByte 39 = .ok (.iadd, 1) := by decide +kernel
theorem dX6_nextByte_40 : decode cX6_nextByte 40 = .ok (.putfield 46, 3) := by decide +kernel
theorem dX6_nextByte_43 : decode cX6_nextByte 43 = .ok (.iload_n 3, 1) := by decide +kernel
theorem dX6_nextByte_44 : decode cX6_nextByte 44 = .ok (.ireturn, 1) := by decide +kernel
theorem dX6_nextNumber_0 : decode cX6_nextNumber 0 = .ok (.aload_n 0, 1) := by decide +kernel
theorem dX6_nextNumber_1 : decode cX6_nextNumber 1 = .ok (.getfield 46, 3) := by decide +kernel
theorem dX6_nextNumber_4 : decode cX6_nextNumber 4 = .ok (.istore_n 1, 1) := by decide +kernel
theorem dX6_nextNumber_5 : decode cX6_nextNumber 5 = .ok (.lconst 0, 1) := by decide +kernel
theorem dX6_nextNumber_6 : decode cX6_nextNumber 6 = .ok (.lstore_n 2, 1) := by decide +kernel
theorem dX6_nextNumber_7 : decode cX6_nextNumber 7 = .ok (.iconst 0, 1) := by decide +kernel
theorem dX6_nextNumber_8 : decode cX6_nextNumber 8 = .ok (.istore 4, 2) := by decide +kernel
theorem dX6_nextNumber_10 : decode cX6_nextNumber 10 = .ok (.iload 4, 2) := by decide +kernel
theorem dX6_nextNumber_12 : decode cX6_nextNumber 12 = .ok (.bipush 9, 2) := by decide +kernel
theorem dX6_nextNumber_14 : decode cX6_nextNumber 14 = .ok (.if_icmp .ge 75, 3) := by decide +kernel
theorem dX6_nextNumber_17 : decode cX6_nextNumber 17 = .ok (.aload_n 0, 1) := by decide +kernel
theorem dX6_nextNumber_18 : decode cX6_nextNumber 18 = .ok (.getfield 9, 3) := by decide +kernel
theorem dX6_nextNumber_21 : decode cX6_nextNumber 21 = .ok (.aload_n 0, 1) := by decide +kernel
theorem dX6_nextNumber_22 : decode cX6_nextNumber 22 = .ok (.getfield 46, 3) := by decide +kernel
theorem dX6_nextNumber_25 : decode cX6_nextNumber 25 = .ok (.invokevirtual 90, 3) := by decide +kernel
theorem dX6_nextNumber_28 : decode cX6_nextNumber 28 = .ok (.istore 5, 2) := by decide +kernel
theorem dX6_nextNumber_30 : decode cX6_nextNumber 30 = .ok (.iload 5, 2) := by decide +kernel
theorem dX6_nextNumber_32 : decode cX6_nextNumber 32 = .ok (.iconst (-1), 1) := by decide +kernel
theorem dX6_nextNumber_33 : decode cX6_nextNumber 33 = .ok (.if_icmp .ne 14, 3) := by decide +kernel
theorem dX6_nextNumber_36 : decode cX6_nextNumber 36 = .ok (.aload_n 0, 1) := by decide +kernel
theorem dX6_nextNumber_37 : decode cX6_nextNumber 37 = .ok (.aload_n 0, 1) := by decide +kernel
theorem dX6_nextNumber_38 : decode cX6_nextNumber 38 = .ok (.getfield 46, 3) := by decide +kernel
theorem dX6_nextNumber_41 : decode cX6_nextNumber 41 = .ok (.iconst 1, 1) := by decide +kernel
theorem dX6_nextNumber_42 : decode cX6_nextNumber 42 = .ok (.invokevirtual 84, 3) := by decide +kernel
theorem dX6_nextNumber_45 : decode cX6_nextNumber 45 = .ok (.lconst 0, 1) := by decide +kernel
theorem dX6_nextNumber_46 : decode cX6_nextNumber 46 = .ok (.lreturn, 1) := by decide +kernel
theorem dX6_nextNumber_47 : decode cX6_nextNumber 47 = .ok (.aload_n 0, 1) := by decide +kernel
theorem dX6_nextNumber_48 : decode cX6_nextNumber 48 = .ok (.dup, 1) := by decide +kernel
theorem dX6_nextNumber_49 : decode cX6_nextNumber 49 = .ok (.getfield 46, 3) := by decide +kernel
theorem dX6_nextNumber_52 : decode cX6_nextNumber 52 = .ok (.iconst 1, 1) := by decide +kernel
theorem dX6_nextNumber_53 : decode cX6_nextNumber 53 = .ok (.iadd, 1) := by decide +kernel
theorem dX6_nextNumber_54 : decode cX6_nextNumber 54 = .ok (.putfield 46, 3) := by decide +kernel
theorem dX6_nextNumber_57 : decode cX6_nextNumber 57 = .ok (.lload_n 2, 1) := by decide +kernel
theorem dX6_nextNumber_58 : decode cX6_nextNumber 58 = .ok (.iload 5, 2) := by decide +kernel
theorem dX6_nextNumber_60 : decode cX6_nextNumber 60 = .ok (.i2l, 1) := by decide +kernel
theorem dX6_nextNumber_61 : decode cX6_nextNumber 61 = .ok (.ldc2_w 94, 3) := by decide +kernel
theorem dX6_nextNumber_64 : decode cX6_nextNumber 64 = .ok (.land, 1) := by decide +kernel
theorem dX6_nextNumber_65 : decode cX6_nextNumber 65 = .ok (.bipush 7, 2) := by decide +kernel
theorem dX6_nextNumber_67 : decode cX6_nextNumber 67 = .ok (.iload 4, 2) := by decide +kernel
theorem dX6_nextNumber_69 : decode cX6_nextNumber 69 = .ok (.imul, 1) := by decide +kernel
theorem dX6_nextNumber_70 : decode cX6_nextNumber 70 = .ok (.lshl, 1) := by decide +kernel
theorem dX6_nextNumber_71 : decode cX6_nextNumber 71 = .ok (.lor, 1) := by decide +kernel
theorem dX6_nextNumber_72 : decode cX6_nextNumber 72 = .ok (.lstore_n 2, 1) := by decide +kernel
theorem dX6_nextNumber_73 : decode cX6_nextNumber 73 = .ok (.iload 5, 2) := by decide +kernel
theorem dX6_nextNumber_75 : decode cX6_nextNumber 75 = .ok (.sipush 128, 3) := by decide +kernel
theorem dX6_nextNumber_78 : decode cX6_nextNumber 78 = .ok (.if_icmp .ge 5, 3) := by decide +kernel
theorem dX6_nextNumber_81 : decode cX6_nextNumber 81 = .ok (.lload_n 2, 1) := by decide +kernel
theorem dX6_nextNumber_82 : decode cX6_nextNumber 82 = .ok (.lreturn, 1) := by decide +kernel
theorem dX6_nextNumber_83 : decode cX6_nextNumber 83 = .ok (.iinc 4 1, 3) := by decide +kernel
theorem dX6_nextNumber_86 : decode cX6_nextNumber 86 = .ok (.goto (-76), 3) := by decide +kernel
theorem dX6_nextNumber_89 : decode cX6_nextNumber 89 = .ok (.aload_n 0, 1) := by decide +kernel
theorem dX6_nextNumber_90 : decode cX6_nextNumber 90 = .ok (.iload_n 1, 1) := by decide +kernel
theorem dX6_nextNumber_91 : decode cX6_nextNumber 91 = .ok (.iconst 2, 1) := by decide +kernel
theorem dX6_nextNumber_92 : decode cX6_nextNumber 92 = .ok (.invokevirtual 84, 3) := by decide +kernel
theorem dX6_nextNumber_95 : decode cX6_nextNumber 95 = .ok (.lconst 0, 1) := by decide +kernel
theorem dX6_nextNumber_96 : decode cX6_nextNumber 96 = .ok (.lreturn, 1) := by decide +kernel
theorem dX6_fail_0 : decode cX6_fail 0 = .ok (.aload_n 0, 1) := by decide +kernel
theorem dX6_fail_1 : decode cX6_fail 1 = .ok (.bipush 8, 2) := by decide +kernel
theorem dX6_fail_3 : decode cX6_fail 3 = .ok (.iload_n 1, 1) := by decide +kernel
theorem dX6_fail_4 : decode cX6_fail 4 = .ok (.imul, 1) := by decide +kernel
theorem dX6_fail_5 : decode cX6_fail 5 = .ok (.iload_n 2, 1) := by decide +kernel
theorem dX6_fail_6 : decode cX6_fail 6 = .ok (.iadd, 1) := by decide +kernel
theorem dX6_fail_7 : decode cX6_fail 7 = .ok (.putfield 18, 3) := by decide +kernel
theorem dX6_fail_10 : decode cX6_fail 10 = .ok (.return_, 1) := by decide +kernel
theorem dX7_init_0 : decode cX7_init 0 = .ok (.aload_n 0, 1) := by decide +kernel
theorem dX7_init_1 : decode cX7_init 1 = .ok (.invokespecial 1, 3) := by decide +kernel
theorem dX7_init_4 : decode cX7_init 4 = .ok (.aload_n 0, 1) := by decide +kernel
theorem dX7_init_5 : decode cX7_init 5 = .ok (.iconst 4, 1) := by decide +kernel
theorem dX7_init_6 : decode cX7_init 6 = .ok (.anewarray 9, 3) := by decide +kernel
theorem dX7_init_9 : decode cX7_init 9 = .ok (.putfield 11, 3) := by decide +kernel
theorem dX7_init_12 : decode cX7_init 12 = .ok (.aload_n 0, 1) := by decide +kernel
theorem dX7_init_13 : decode cX7_init 13 = .ok (.new 15, 3) := by decide +kernel
theorem dX7_init_16 : decode cX7_init 16 = .ok (.dup, 1) := by decide +kernel
theorem dX7_init_17 : decode cX7_init 17 = .ok (.invokespecial 17, 3) := by decide +kernel
theorem dX7_init_20 : decode cX7_init 20 = .ok (.putfield 18, 3) := by decide +kernel
theorem dX7_init_23 : decode cX7_init 23 = .ok (.aload_n 0, 1) := by decide +kernel
theorem dX7_init_24 : decode cX7_init 24 = .ok (.new 22, 3) := by decide +kernel
theorem dX7_init_27 : decode cX7_init 27 = .ok (.dup, 1) := by decide +kernel
theorem dX7_init_28 : decode cX7_init 28 = .ok (.invokespecial 24, 3) := by decide +kernel
theorem dX7_init_31 : decode cX7_init 31 = .ok (.putfield 25, 3) := by decide +kernel
theorem dX7_init_34 : decode cX7_init 34 = .ok (.aload_n 0, 1) := by decide +kernel
theorem dX7_init_35 : decode cX7_init 35 = .ok (.new 22, 3) := by decide +kernel
theorem dX7_init_38 : decode cX7_init 38 = .ok (.dup, 1) := by decide +kernel
theorem dX7_init_39 : decode cX7_init 39 = .ok (.invokespecial 24, 3) := by decide +kernel
theorem dX7_init_42 : decode cX7_init 42 = .ok (.putfield 29, 3) := by decide +kernel
theorem dX7_init_45 : decode cX7_init 45 = .ok (.aload_n 0, 1) := by decide +kernel
theorem dX7_init_46 : decode cX7_init 46 = .ok (.new 32, 3) := by decide +kernel
theorem dX7_init_49 : decode cX7_init 49 = .ok (.dup, 1) := by decide +kernel
theorem dX7_init_50 : decode cX7_init 50 = .ok (.invokespecial 34, 3) := by decide +kernel
theorem dX7_init_53 : decode cX7_init 53 = .ok (.putfield 35, 3) := by decide +kernel
theorem dX7_init_56 : decode cX7_init 56 = .ok (.iconst 0, 1) := by decide +kernel
theorem dX7_init_57 : decode cX7_init 57 = .ok (.istore_n 1, 1) := by decide +kernel
theorem dX7_init_58 : decode cX7_init 58 = .ok (.iload_n 1, 1) := by decide +kernel
theorem dX7_init_59 : decode cX7_init 59 = .ok (.aload_n 0, 1) := by decide +kernel
theorem dX7_init_60 : decode cX7_init 60 = .ok (.getfield 11, 3) := by decide +kernel
theorem dX7_init_63 : decode cX7_init 63 = .ok (.arraylength, 1) := by decide +kernel
theorem dX7_init_64 : decode cX7_init 64 = .ok (.if_icmp .ge 22, 3) := by decide +kernel
theorem dX7_init_67 : decode cX7_init 67 = .ok (.aload_n 0, 1) := by decide +kernel
theorem dX7_init_68 : decode cX7_init 68 = .ok (.getfield 11, 3) := by decide +kernel
theorem dX7_init_71 : decode cX7_init 71 = .ok (.iload_n 1, 1) := by decide +kernel
theorem dX7_init_72 : decode cX7_init 72 = .ok (.new 9, 3) := by decide +kernel
theorem dX7_init_75 : decode cX7_init 75 = .ok (.dup, 1) := by decide +kernel
theorem dX7_init_76 : decode cX7_init 76 = .ok (.invokespecial 39, 3) := by decide +kernel
theorem dX7_init_79 : decode cX7_init 79 = .ok (.aastore, 1) := by decide +kernel
theorem dX7_init_80 : decode cX7_init 80 = .ok (.iinc 1 1, 3) := by decide +kernel
theorem dX7_init_83 : decode cX7_init 83 = .ok (.goto (-25), 3) := by decide +kernel
theorem dX7_init_86 : decode cX7_init 86 = .ok (.return_, 1) := by decide +kernel
theorem dX7_feed_0 : decode cX7_feed 0 = .ok (.aload_n 0, 1) := by decide +kernel
theorem dX7_feed_1 : decode cX7_feed 1 = .ok (.getfield 25, 3) := by decide +kernel
theorem dX7_feed_4 : decode cX7_feed 4 = .ok (.getfield 40, 3) := by decide +kernel
theorem dX7_feed_7 : decode cX7_feed 7 = .ok (.sipush 380, 3) := by decide +kernel
theorem dX7_feed_10 : decode cX7_feed 10 = .ok (.if_icmp .le 5, 3) := by decide +kernel
theorem dX7_feed_13 : decode cX7_feed 13 = .ok (.iconst (-1), 1) := by decide +kernel
theorem dX7_feed_14 : decode cX7_feed 14 = .ok (.ireturn, 1) := by decide +kernel
theorem dX7_feed_15 : decode cX7_feed 15 = .ok (.aload_n 0, 1) := by decide +kernel
theorem dX7_feed_16 : decode cX7_feed 16 = .ok (.getfield 25, 3) := by decide +kernel
theorem dX7_feed_19 : decode cX7_feed 19 = .ok (.iload_n 1, 1) := by decide +kernel
theorem dX7_feed_20 : decode cX7_feed 20 = .ok (.invokevirtual 44, 3) := by decide +kernel
theorem dX7_feed_23 : decode cX7_feed 23 = .ok (.aload_n 0, 1) := by decide +kernel
theorem dX7_feed_24 : decode cX7_feed 24 = .ok (.getfield 25, 3) := by decide +kernel
theorem dX7_feed_27 : decode cX7_feed 27 = .ok (.iload_n 2, 1) := by decide +kernel
theorem dX7_feed_28 : decode cX7_feed 28 = .ok (.invokevirtual 44, 3) := by decide +kernel
theorem dX7_feed_31 : decode cX7_feed 31 = .ok (.aload_n 0, 1) := by decide +kernel
theorem dX7_feed_32 : decode cX7_feed 32 = .ok (.getfield 25, 3) := by decide +kernel
theorem dX7_feed_35 : decode cX7_feed 35 = .ok (.iload_n 3, 1) := by decide +kernel
theorem dX7_feed_36 : decode cX7_feed 36 = .ok (.invokevirtual 44, 3) := by decide +kernel
theorem dX7_feed_39 : decode cX7_feed 39 = .ok (.aload_n 0, 1) := by decide +kernel
theorem dX7_feed_40 : decode cX7_feed 40 = .ok (.getfield 25, 3) := by decide +kernel
theorem dX7_feed_43 : decode cX7_feed 43 = .ok (.iload 4, 2) := by decide +kernel
theorem dX7_feed_45 : decode cX7_feed 45 = .ok (.invokevirtual 44, 3) := by decide +kernel
theorem dX7_feed_48 : decode cX7_feed 48 = .ok (.aload_n 0, 1) := by decide +kernel
theorem dX7_feed_49 : decode cX7_feed 49 = .ok (.getfield 25, 3) := by decide +kernel
theorem dX7_feed_52 : decode cX7_feed 52 = .ok (.iload 5, 2) := by decide +kernel
theorem dX7_feed_54 : decode cX7_feed 54 = .ok (.invokevirtual 44, 3) := by decide +kernel
theorem dX7_feed_57 : decode cX7_feed 57 = .ok (.aload_n 0, 1) := by decide +kernel
theorem dX7_feed_58 : decode cX7_feed 58 = .ok (.getfield 25, 3) := by decide +kernel
theorem dX7_feed_61 : decode cX7_feed 61 = .ok (.getfield 40, 3) := by decide +kernel
theorem dX7_feed_64 : decode cX7_feed 64 = .ok (.ireturn, 1) := by decide +kernel
theorem dX7_end_0 : decode cX7_end 0 = .ok (.iload_n 1, 1) := by decide +kernel
theorem dX7_end_1 : decode cX7_end 1 = .ok (.ifCond .lt 14, 3) := by decide +kernel
theorem dX7_end_4 : decode cX7_end 4 = .ok (.iload_n 1, 1) := by decide +kernel
theorem dX7_end_5 : decode cX7_end 5 = .ok (.aload_n 0, 1) := by decide +kernel
theorem dX7_end_6 : decode cX7_end 6 = .ok (.getfield 25, 3) := by decide +kernel
theorem dX7_end_9 : decode cX7_end 9 = .ok (.getfield 40, 3) := by decide +kernel
theorem dX7_end_12 : decode cX7_end 12 = .ok (.if_icmp .le 5, 3) := by decide +kernel
theorem dX7_end_15 : decode cX7_end 15 = .ok (.iconst (-1), 1) := by decide +kernel
theorem dX7_end_16 : decode cX7_end 16 = .ok (.ireturn, 1) := by decide +kernel
theorem dX7_end_17 : decode cX7_end 17 = .ok (.aload_n 0, 1) := by decide +kernel
theorem dX7_end_18 : decode cX7_end 18 = .ok (.getfield 25, 3) := by decide +kernel
theorem dX7_end_21 : decode cX7_end 21 = .ok (.iload_n 1, 1) := by decide +kernel
theorem dX7_end_22 : decode cX7_end 22 = .ok (.putfield 40, 3) := by decide +kernel
theorem dX7_end_25 : decode cX7_end 25 = .ok (.iload_n 1, 1) := by decide +kernel
theorem dX7_end_26 : decode cX7_end 26 = .ok (.ireturn, 1) := by decide +kernel
theorem dX7_octet_0 : decode cX7_octet 0 = .ok (.aload_n 0, 1) := by decide +kernel
theorem dX7_octet_1 : decode cX7_octet 1 = .ok (.getfield 25, 3) := by decide +kernel
theorem dX7_octet_4 : decode cX7_octet 4 = .ok (.iload_n 1, 1) := by decide +kernel
theorem dX7_octet_5 : decode cX7_octet 5 = .ok (.invokevirtual 48, 3) := by decide +kernel
theorem dX7_octet_8 : decode cX7_octet 8 = .ok (.ireturn, 1) := by decide +kernel
theorem dX7_pack_0 : decode cX7_pack 0 = .ok (.aload_n 0, 1) := by decide +kernel
theorem dX7_pack_1 : decode cX7_pack 1 = .ok (.iload_n 1, 1) := by decide +kernel
theorem dX7_pack_2 : decode cX7_pack 2 = .ok (.invokevirtual 52, 3) := by decide +kernel
theorem dX7_pack_5 : decode cX7_pack 5 = .ok (.astore_n 2, 1) := by decide +kernel
theorem dX7_pack_6 : decode cX7_pack 6 = .ok (.aload_n 2, 1) := by decide +kernel
theorem dX7_pack_7 : decode cX7_pack 7 = .ok (.ifnonnull 5, 3) := by decide +kernel
theorem dX7_pack_10 : decode cX7_pack 10 = .ok (.iconst (-1), 1) := by decide +kernel
theorem dX7_pack_11 : decode cX7_pack 11 = .ok (.ireturn, 1) := by decide +kernel
theorem dX7_pack_12 : decode cX7_pack 12 = .ok (.aload_n 0, 1) := by decide +kernel
theorem dX7_pack_13 : decode cX7_pack 13 = .ok (.getfield 29, 3) := by decide +kernel
theorem dX7_pack_16 : decode cX7_pack 16 = .ok (.iconst 0, 1) := by decide +kernel
theorem dX7_pack_17 : decode cX7_pack 17 = .ok (.putfield 40, 3) := by decide +kernel
theorem dX7_pack_20 : decode cX7_pack 20 = .ok (.aload_n 2, 1) := by decide +kernel
theorem dX7_pack_21 : decode cX7_pack 21 = .ok (.aload_n 0, 1) := by decide +kernel
theorem dX7_pack_22 : decode cX7_pack 22 = .ok (.getfield 29, 3) := by decide +kernel
theorem dX7_pack_25 : decode cX7_pack 25 = .ok (.invokevirtual 56, 3) := by decide +kernel
theorem dX7_pack_28 : decode cX7_pack 28 = .ok (.ifCond .ne 6, 3) := by decide +kernel
theorem dX7_pack_31 : decode cX7_pack 31 = .ok (.bipush (-2), 2) := by decide +kernel
theorem dX7_pack_33 : decode cX7_pack 33 = .ok (.ireturn, 1) := by decide +kernel
theorem dX7_pack_34 : decode cX7_pack 34 = .ok (.aload_n 0, 1) := by decide +kernel
theorem dX7_pack_35 : decode cX7_pack 35 = .ok (.getfield 25, 3) := by decide +kernel
theorem dX7_pack_38 : decode cX7_pack 38 = .ok (.aload_n 0, 1) := by decide +kernel
theorem dX7_pack_39 : decode cX7_pack 39 = .ok (.getfield 29, 3) := by decide +kernel
theorem dX7_pack_42 : decode cX7_pack 42 = .ok (.invokevirtual 60, 3) := by decide +kernel
theorem dX7_pack_45 : decode cX7_pack 45 = .ok (.aload_n 0, 1) := by decide +kernel
theorem dX7_pack_46 : decode cX7_pack 46 = .ok (.getfield 25, 3) := by decide +kernel
theorem dX7_pack_49 : decode cX7_pack 49 = .ok (.getfield 40, 3) := by decide +kernel
theorem dX7_pack_52 : decode cX7_pack 52 = .ok (.ireturn, 1) := by decide +kernel
