theorem dX7_unpack_0 : decode cX7_unpack 0 = .ok (.aload_n 0, 1) := by decide +kernel
theorem dX7_unpack_1 : decode cX7_unpack 1 = .ok (.iload_n 1, 1) := by decide +kernel
theorem dX7_unpack_2 : decode cX7_unpack 2 = .ok (.invokevirtual 64, 3) := by decide +kernel
theorem dX7_unpack_5 : decode cX7_unpack 5 = .ok (.astore_n 2, 1) := by decide +kernel
theorem dX7_unpack_6 : decode cX7_unpack 6 = .ok (.aload_n 2, 1) := by decide +kernel
theorem dX7_unpack_7 : decode cX7_unpack 7 = .ok (.ifnonnull 5, 3) := by decide +kernel
theorem dX7_unpack_10 : decode cX7_unpack 10 = .ok (.iconst (-1), 1) := by decide +kernel
theorem dX7_unpack_11 : decode cX7_unpack 11 = .ok (.ireturn, 1) := by decide +kernel
theorem dX7_unpack_12 : decode cX7_unpack 12 = .ok (.new 67, 3) := by decide +kernel
theorem dX7_unpack_15 : decode cX7_unpack 15 = .ok (.dup, 1) := by decide +kernel
theorem dX7_unpack_16 : decode cX7_unpack 16 = .ok (.aload_n 0, 1) := by decide +kernel
theorem dX7_unpack_17 : decode cX7_unpack 17 = .ok (.getfield 25, 3) := by decide +kernel
theorem dX7_unpack_20 : decode cX7_unpack 20 = .ok (.invokespecial 69, 3) := by decide +kernel
theorem dX7_unpack_23 : decode cX7_unpack 23 = .ok (.astore_n 3, 1) := by decide +kernel
theorem dX7_unpack_24 : decode cX7_unpack 24 = .ok (.aload_n 3, 1) := by decide +kernel
theorem dX7_unpack_25 : decode cX7_unpack 25 = .ok (.invokevirtual 71, 3) := by decide +kernel
theorem dX7_unpack_28 : decode cX7_unpack 28 = .ok (.istore 4, 2) := by decide +kernel
theorem dX7_unpack_30 : decode cX7_unpack 30 = .ok (.iload 4, 2) := by decide +kernel
theorem dX7_unpack_32 : decode cX7_unpack 32 = .ok (.ifCond .ne 13, 3) := by decide +kernel
theorem dX7_unpack_35 : decode cX7_unpack 35 = .ok (.aload_n 0, 1) := by decide +kernel
theorem dX7_unpack_36 : decode cX7_unpack 36 = .ok (.iload_n 1, 1) := by decide +kernel
theorem dX7_unpack_37 : decode cX7_unpack 37 = .ok (.invokevirtual 75, 3) := by decide +kernel
theorem dX7_unpack_40 : decode cX7_unpack 40 = .ok (.aload_n 3, 1) := by decide +kernel
theorem dX7_unpack_41 : decode cX7_unpack 41 = .ok (.aload_n 2, 1) := by decide +kernel
theorem dX7_unpack_42 : decode cX7_unpack 42 = .ok (.invokevirtual 78, 3) := by decide +kernel
theorem dX7_unpack_45 : decode cX7_unpack 45 = .ok (.aload_n 0, 1) := by decide +kernel
theorem dX7_unpack_46 : decode cX7_unpack 46 = .ok (.getfield 25, 3) := by decide +kernel
theorem dX7_unpack_49 : decode cX7_unpack 49 = .ok (.iconst 0, 1) := by decide +kernel
theorem dX7_unpack_50 : decode cX7_unpack 50 = .ok (.putfield 40, 3) := by decide +kernel
theorem dX7_unpack_53 : decode cX7_unpack 53 = .ok (.iload 4, 2) := by decide +kernel
theorem dX7_unpack_55 : decode cX7_unpack 55 = .ok (.ifCond .ne 10, 3) := by decide +kernel
theorem dX7_unpack_58 : decode cX7_unpack 58 = .ok (.aload_n 2, 1) := by decide +kernel
theorem dX7_unpack_59 : decode cX7_unpack 59 = .ok (.getfield 82, 3) := by decide +kernel
theorem dX7_unpack_62 : decode cX7_unpack 62 = .ok (.goto 8, 3) := by decide +kernel
theorem dX7_unpack_65 : decode cX7_unpack 65 = .ok (.bipush (-2), 2) := by decide +kernel
theorem dX7_unpack_67 : decode cX7_unpack 67 = .ok (.iload 4, 2) := by decide +kernel
theorem dX7_unpack_69 : decode cX7_unpack 69 = .ok (.isub, 1) := by decide +kernel
theorem dX7_unpack_70 : decode cX7_unpack 70 = .ok (.ireturn, 1) := by decide +kernel
theorem dX7_slot_0 : decode cX7_slot 0 = .ok (.iload_n 1, 1) := by decide +kernel
theorem dX7_slot_1 : decode cX7_slot 1 = .ok (.iconst 1, 1) := by decide +kernel
theorem dX7_slot_2 : decode cX7_slot 2 = .ok (.if_icmp .lt 14, 3) := by decide +kernel
theorem dX7_slot_5 : decode cX7_slot 5 = .ok (.iload_n 1, 1) := by decide +kernel
theorem dX7_slot_6 : decode cX7_slot 6 = .ok (.iconst 2, 1) := by decide +kernel
theorem dX7_slot_7 : decode cX7_slot 7 = .ok (.if_icmp .gt 9, 3) := by decide +kernel
theorem dX7_slot_10 : decode cX7_slot 10 = .ok (.lload_n 2, 1) := by decide +kernel
theorem dX7_slot_11 : decode cX7_slot 11 = .ok (.lconst 0, 1) := by decide +kernel
theorem dX7_slot_12 : decode cX7_slot 12 = .ok (.lcmp, 1) := by decide +kernel
theorem dX7_slot_13 : decode cX7_slot 13 = .ok (.ifCond .ge 7, 3) := by decide +kernel
theorem dX7_slot_16 : decode cX7_slot 16 = .ok (.iconst (-1), 1) := by decide +kernel
theorem dX7_slot_17 : decode cX7_slot 17 = .ok (.goto 8, 3) := by decide +kernel
theorem dX7_slot_20 : decode cX7_slot 20 = .ok (.iload_n 1, 1) := by decide +kernel
theorem dX7_slot_21 : decode cX7_slot 21 = .ok (.lload_n 2, 1) := by decide +kernel
theorem dX7_slot_22 : decode cX7_slot 22 = .ok (.invokestatic 85, 3) := by decide +kernel
theorem dX7_slot_25 : decode cX7_slot 25 = .ok (.ireturn, 1) := by decide +kernel
theorem dX7_edge_0 : decode cX7_edge 0 = .ok (.iload_n 1, 1) := by decide +kernel
theorem dX7_edge_1 : decode cX7_edge 1 = .ok (.iconst 1, 1) := by decide +kernel
theorem dX7_edge_2 : decode cX7_edge 2 = .ok (.if_icmp .lt 25, 3) := by decide +kernel
theorem dX7_edge_5 : decode cX7_edge 5 = .ok (.iload_n 1, 1) := by decide +kernel
theorem dX7_edge_6 : decode cX7_edge 6 = .ok (.iconst 2, 1) := by decide +kernel
theorem dX7_edge_7 : decode cX7_edge 7 = .ok (.if_icmp .gt 20, 3) := by decide +kernel
theorem dX7_edge_10 : decode cX7_edge 10 = .ok (.lload_n 2, 1) := by decide +kernel
theorem dX7_edge_11 : decode cX7_edge 11 = .ok (.lconst 0, 1) := by decide +kernel
theorem dX7_edge_12 : decode cX7_edge 12 = .ok (.lcmp, 1) := by decide +kernel
theorem dX7_edge_13 : decode cX7_edge 13 = .ok (.ifCond .lt 14, 3) := by decide +kernel
theorem dX7_edge_16 : decode cX7_edge 16 = .ok (.iload 4, 2) := by decide +kernel
theorem dX7_edge_18 : decode cX7_edge 18 = .ok (.ifCond .lt 9, 3) := by decide +kernel
theorem dX7_edge_21 : decode cX7_edge 21 = .ok (.iload 4, 2) := by decide +kernel
theorem dX7_edge_23 : decode cX7_edge 23 = .ok (.iconst 2, 1) := by decide +kernel
theorem dX7_edge_24 : decode cX7_edge 24 = .ok (.if_icmp .le 7, 3) := by decide +kernel
theorem dX7_edge_27 : decode cX7_edge 27 = .ok (.ldc2_w 89, 3) := by decide +kernel
theorem dX7_edge_30 : decode cX7_edge 30 = .ok (.lreturn, 1) := by decide +kernel
theorem dX7_edge_31 : decode cX7_edge 31 = .ok (.iload_n 1, 1) := by decide +kernel
theorem dX7_edge_32 : decode cX7_edge 32 = .ok (.lload_n 2, 1) := by decide +kernel
theorem dX7_edge_33 : decode cX7_edge 33 = .ok (.invokestatic 85, 3) := by decide +kernel
theorem dX7_edge_36 : decode cX7_edge 36 = .ok (.istore 5, 2) := by decide +kernel
theorem dX7_edge_38 : decode cX7_edge 38 = .ok (.iload 4, 2) := by decide +kernel
theorem dX7_edge_40 : decode cX7_edge 40 = .ok (.ifCond .ne 12, 3) := by decide +kernel
theorem dX7_edge_43 : decode cX7_edge 43 = .ok (.iload_n 1, 1) := by decide +kernel
theorem dX7_edge_44 : decode cX7_edge 44 = .ok (.iload 5, 2) := by decide +kernel
theorem dX7_edge_46 : decode cX7_edge 46 = .ok (.invokestatic 91, 3) := by decide +kernel
theorem dX7_edge_49 : decode cX7_edge 49 = .ok (.goto 24, 3) := by decide +kernel
theorem dX7_edge_52 : decode cX7_edge 52 = .ok (.iload 4, 2) := by decide +kernel
theorem dX7_edge_54 : decode cX7_edge 54 = .ok (.iconst 1, 1) := by decide +kernel
theorem dX7_edge_55 : decode cX7_edge 55 = .ok (.if_icmp .ne 12, 3) := by decide +kernel
theorem dX7_edge_58 : decode cX7_edge 58 = .ok (.iload_n 1, 1) := by decide +kernel
theorem dX7_edge_59 : decode cX7_edge 59 = .ok (.iload 5, 2) := by decide +kernel
theorem dX7_edge_61 : decode cX7_edge 61 = .ok (.invokestatic 95, 3) := by decide +kernel
theorem dX7_edge_64 : decode cX7_edge 64 = .ok (.goto 9, 3) := by decide +kernel
theorem dX7_edge_67 : decode cX7_edge 67 = .ok (.iload_n 1, 1) := by decide +kernel
theorem dX7_edge_68 : decode cX7_edge 68 = .ok (.iload 5, 2) := by decide +kernel
theorem dX7_edge_70 : decode cX7_edge 70 = .ok (.invokestatic 98, 3) := by decide +kernel
theorem dX7_edge_73 : decode cX7_edge 73 = .ok (.lreturn, 1) := by decide +kernel
theorem dX7_make_0 : decode cX7_make 0 = .ok (.aload_n 0, 1) := by decide +kernel
theorem dX7_make_1 : decode cX7_make 1 = .ok (.iload_n 1, 1) := by decide +kernel
theorem dX7_make_2 : decode cX7_make 2 = .ok (.invokevirtual 64, 3) := by decide +kernel
theorem dX7_make_5 : decode cX7_make 5 = .ok (.astore 6, 2) := by decide +kernel
theorem dX7_make_7 : decode cX7_make 7 = .ok (.aload 6, 2) := by decide +kernel
theorem dX7_make_9 : decode cX7_make 9 = .ok (.ifnull 13, 3) := by decide +kernel
theorem dX7_make_12 : decode cX7_make 12 = .ok (.iload_n 2, 1) := by decide +kernel
theorem dX7_make_13 : decode cX7_make 13 = .ok (.iload_n 3, 1) := by decide +kernel
theorem dX7_make_14 : decode cX7_make 14 = .ok (.lload 4, 2) := by decide +kernel
theorem dX7_make_16 : decode cX7_make 16 = .ok (.invokestatic 101, 3) := by decide +kernel
theorem dX7_make_19 : decode cX7_make 19 = .ok (.ifCond .ne 5, 3) := by decide +kernel
theorem dX7_make_22 : decode cX7_make 22 = .ok (.iconst (-1), 1) := by decide +kernel
theorem dX7_make_23 : decode cX7_make 23 = .ok (.ireturn, 1) := by decide +kernel
theorem dX7_make_24 : decode cX7_make 24 = .ok (.aload_n 0, 1) := by decide +kernel
theorem dX7_make_25 : decode cX7_make 25 = .ok (.iload_n 1, 1) := by decide +kernel
theorem dX7_make_26 : decode cX7_make 26 = .ok (.invokevirtual 75, 3) := by decide +kernel
theorem dX7_make_29 : decode cX7_make 29 = .ok (.aload 6, 2) := by decide +kernel
theorem dX7_make_31 : decode cX7_make 31 = .ok (.iload_n 2, 1) := by decide +kernel
theorem dX7_make_32 : decode cX7_make 32 = .ok (.iload_n 3, 1) := by decide +kernel
theorem dX7_make_33 : decode cX7_make 33 = .ok (.lload 4, 2) := by decide +kernel
theorem dX7_make_35 : decode cX7_make 35 = .ok (.invokevirtual 105, 3) := by decide +kernel
theorem dX7_make_38 : decode cX7_make 38 = .ok (.aload 6, 2) := by decide +kernel
theorem dX7_make_40 : decode cX7_make 40 = .ok (.getfield 82, 3) := by decide +kernel
theorem dX7_make_43 : decode cX7_make 43 = .ok (.ireturn, 1) := by decide +kernel
theorem dX7_record_0 : decode cX7_record 0 = .ok (.aload_n 0, 1) := by decide +kernel
theorem dX7_record_1 : decode cX7_record 1 = .ok (.iload_n 1, 1) := by decide +kernel
theorem dX7_record_2 : decode cX7_record 2 = .ok (.invokevirtual 52, 3) := by decide +kernel
theorem dX7_record_5 : decode cX7_record 5 = .ok (.astore 8, 2) := by decide +kernel
theorem dX7_record_7 : decode cX7_record 7 = .ok (.aload 8, 2) := by decide +kernel
theorem dX7_record_9 : decode cX7_record 9 = .ok (.ifnull 26, 3) := by decide +kernel
theorem dX7_record_12 : decode cX7_record 12 = .ok (.lload 4, 2) := by decide +kernel
theorem dX7_record_14 : decode cX7_record 14 = .ok (.lconst 1, 1) := by decide +kernel
theorem dX7_record_15 : decode cX7_record 15 = .ok (.lcmp, 1) := by decide +kernel
theorem dX7_record_16 : decode cX7_record 16 = .ok (.ifCond .lt 19, 3) := by decide +kernel
theorem dX7_record_19 : decode cX7_record 19 = .ok (.lload 4, 2) := by decide +kernel
theorem dX7_record_21 : decode cX7_record 21 = .ok (.ldc2_w 109, 3) := by decide +kernel
theorem dX7_record_24 : decode cX7_record 24 = .ok (.lcmp, 1) := by decide +kernel
theorem dX7_record_25 : decode cX7_record 25 = .ok (.ifCond .gt 10, 3) := by decide +kernel
theorem dX7_record_28 : decode cX7_record 28 = .ok (.lload 6, 2) := by decide +kernel
theorem dX7_record_30 : decode cX7_record 30 = .ok (.lconst 0, 1) := by decide +kernel
theorem dX7_record_31 : decode cX7_record 31 = .ok (.lcmp, 1) := by decide +kernel
theorem dX7_record_32 : decode cX7_record 32 = .ok (.ifCond .ge 7, 3) := by decide +kernel
theorem dX7_record_35 : decode cX7_record 35 = .ok (.ldc2_w 89, 3) := by decide +kernel
theorem dX7_record_38 : decode cX7_record 38 = .ok (.lreturn, 1) := by decide +kernel
theorem dX7_record_39 : decode cX7_record 39 = .ok (.aload 8, 2) := by decide +kernel
theorem dX7_record_41 : decode cX7_record 41 = .ok (.lload_n 2, 1) := by decide +kernel
theorem dX7_record_42 : decode cX7_record 42 = .ok (.lload 4, 2) := by decide +kernel
theorem dX7_record_44 : decode cX7_record 44 = .ok (.lload 6, 2) := by decide +kernel
theorem dX7_record_46 : decode cX7_record 46 = .ok (.iconst 0, 1) := by decide +kernel
theorem dX7_record_47 : decode cX7_record 47 = .ok (.invokevirtual 111, 3) := by decide +kernel
theorem dX7_record_50 : decode cX7_record 50 = .ok (.ifCond .ne 7, 3) := by decide +kernel
theorem dX7_record_53 : decode cX7_record 53 = .ok (.ldc2_w 115, 3) := by decide +kernel
theorem dX7_record_56 : decode cX7_record 56 = .ok (.lreturn, 1) := by decide +kernel
theorem dX7_record_57 : decode cX7_record 57 = .ok (.aload_n 0, 1) := by decide +kernel
theorem dX7_record_58 : decode cX7_record 58 = .ok (.iload_n 1, 1) := by decide +kernel
theorem dX7_record_59 : decode cX7_record 59 = .ok (.invokevirtual 75, 3) := by decide +kernel
theorem dX7_record_62 : decode cX7_record 62 = .ok (.aload 8, 2) := by decide +kernel
theorem dX7_record_64 : decode cX7_record 64 = .ok (.lload_n 2, 1) := by decide +kernel
theorem dX7_record_65 : decode cX7_record 65 = .ok (.lload 4, 2) := by decide +kernel
theorem dX7_record_67 : decode cX7_record 67 = .ok (.lload 6, 2) := by decide +kernel
theorem dX7_record_69 : decode cX7_record 69 = .ok (.iconst 1, 1) := by decide +kernel
theorem dX7_record_70 : decode cX7_record 70 = .ok (.invokevirtual 111, 3) := by decide +kernel
theorem dX7_record_73 : decode cX7_record 73 = .ok (.pop, 1) := by decide +kernel
theorem dX7_record_74 : decode cX7_record 74 = .ok (.aload 8, 2) := by decide +kernel
theorem dX7_record_76 : decode cX7_record 76 = .ok (.aload 8, 2) := by decide +kernel
theorem dX7_record_78 : decode cX7_record 78 = .ok (.getfield 117, 3) := by decide +kernel
theorem dX7_record_81 : decode cX7_record 81 = .ok (.lload_n 2, 1) := by decide +kernel
theorem dX7_record_82 : decode cX7_record 82 = .ok (.invokestatic 85, 3) := by decide +kernel
theorem dX7_record_85 : decode cX7_record 85 = .ok (.invokevirtual 120, 3) := by decide +kernel
theorem dX7_record_88 : decode cX7_record 88 = .ok (.lreturn, 1) := by decide +kernel
theorem dX7_at_0 : decode cX7_at 0 = .ok (.aload_n 0, 1) := by decide +kernel
theorem dX7_at_1 : decode cX7_at 1 = .ok (.iload_n 1, 1) := by decide +kernel
theorem dX7_at_2 : decode cX7_at 2 = .ok (.invokevirtual 52, 3) := by decide +kernel
theorem dX7_at_5 : decode cX7_at 5 = .ok (.astore 4, 2) := by decide +kernel
theorem dX7_at_7 : decode cX7_at 7 = .ok (.aload 4, 2) := by decide +kernel
theorem dX7_at_9 : decode cX7_at 9 = .ok (.ifnull 12, 3) := by decide +kernel
theorem dX7_at_12 : decode cX7_at 12 = .ok (.aload 4, 2) := by decide +kernel
theorem dX7_at_14 : decode cX7_at 14 = .ok (.lload_n 2, 1) := by decide +kernel
theorem dX7_at_15 : decode cX7_at 15 = .ok (.invokevirtual 124, 3) := by decide +kernel
theorem dX7_at_18 : decode cX7_at 18 = .ok (.ifCond .ne 9, 3) := by decide +kernel
theorem dX7_at_21 : decode cX7_at 21 = .ok (.ldc2_w 89, 3) := by decide +kernel
theorem dX7_at_24 : decode cX7_at 24 = .ok (.goto 17, 3) := by decide +kernel
theorem dX7_at_27 : decode cX7_at 27 = .ok (.aload 4, 2) := by decide +kernel
theorem dX7_at_29 : decode cX7_at 29 = .ok (.aload 4, 2) := by decide +kernel
theorem dX7_at_31 : decode cX7_at 31 = .ok (.getfield 117, 3) := by decide +kernel
theorem dX7_at_34 : decode cX7_at 34 = .ok (.lload_n 2, 1) := by decide +kernel
theorem dX7_at_35 : decode cX7_at 35 = .ok (.invokestatic 85, 3) := by decide +kernel
theorem dX7_at_38 : decode cX7_at 38 = .ok (.invokevirtual 120, 3) := by decide +kernel
theorem dX7_at_41 : decode cX7_at 41 = .ok (.lreturn, 1) := by decide +kernel
theorem dX7_below_0 : decode cX7_below 0 = .ok (.aload_n 0, 1) := by decide +kernel
theorem dX7_below_1 : decode cX7_below 1 = .ok (.iload_n 1, 1) := by decide +kernel
theorem dX7_below_2 : decode cX7_below 2 = .ok (.invokevirtual 52, 3) := by decide +kernel
theorem dX7_below_5 : decode cX7_below 5 = .ok (.astore 4, 2) := by decide +kernel
theorem dX7_below_7 : decode cX7_below 7 = .ok (.aload 4, 2) := by decide +kernel
theorem dX7_below_9 : decode cX7_below 9 = .ok (.ifnull 12, 3) := by decide +kernel
theorem dX7_below_12 : decode cX7_below 12 = .ok (.aload 4, 2) := by decide +kernel
theorem dX7_below_14 : decode cX7_below 14 = .ok (.lload_n 2, 1) := by decide +kernel
theorem dX7_below_15 : decode cX7_below 15 = .ok (.invokevirtual 124, 3) := by decide +kernel
theorem dX7_below_18 : decode cX7_below 18 = .ok (.ifCond .ne 9, 3) := by decide +kernel
theorem dX7_below_21 : decode cX7_below 21 = .ok (.ldc2_w 89, 3) := by decide +kernel
theorem dX7_below_24 : decode cX7_below 24 = .ok (.goto 17, 3) := by decide +kernel
theorem dX7_below_27 : decode cX7_below 27 = .ok (.aload 4, 2) := by decide +kernel
theorem dX7_below_29 : decode cX7_below 29 = .ok (.aload 4, 2) := by decide +kernel
theorem dX7_below_31 : decode cX7_below 31 = .ok (.getfield 117, 3) := by decide +kernel
theorem dX7_below_34 : decode cX7_below 34 = .ok (.lload_n 2, 1) := by decide +kernel
theorem dX7_below_35 : decode cX7_below 35 = .ok (.invokestatic 85, 3) := by decide +kernel
theorem dX7_below_38 : decode cX7_below 38 = .ok (.invokevirtual 128, 3) := by decide +kernel
theorem dX7_below_41 : decode cX7_below 41 = .ok (.lreturn, 1) := by decide +kernel
theorem dX7_total_0 : decode cX7_total 0 = .ok (.aload_n 0, 1) := by decide +kernel
theorem dX7_total_1 : decode cX7_total 1 = .ok (.iload_n 1, 1) := by decide +kernel
theorem dX7_total_2 : decode cX7_total 2 = .ok (.invokevirtual 52, 3) := by decide +kernel
theorem dX7_total_5 : decode cX7_total 5 = .ok (.astore_n 2, 1) := by decide +kernel
theorem dX7_total_6 : decode cX7_total 6 = .ok (.aload_n 2, 1) := by decide +kernel
theorem dX7_total_7 : decode cX7_total 7 = .ok (.ifnonnull 9, 3) := by decide +kernel
theorem dX7_total_10 : decode cX7_total 10 = .ok (.ldc2_w 89, 3) := by decide +kernel
theorem dX7_total_13 : decode cX7_total 13 = .ok (.goto 7, 3) := by decide +kernel
theorem dX7_total_16 : decode cX7_total 16 = .ok (.aload_n 2, 1) := by decide +kernel
theorem dX7_total_17 : decode cX7_total 17 = .ok (.invokevirtual 131, 3) := by decide +kernel
theorem dX7_total_20 : decode cX7_total 20 = .ok (.lreturn, 1) := by decide +kernel
theorem dX7_rank_0 : decode cX7_rank 0 = .ok (.aload_n 0, 1) := by decide +kernel
theorem dX7_rank_1 : decode cX7_rank 1 = .ok (.iload_n 1, 1) := by decide +kernel
theorem dX7_rank_2 : decode cX7_rank 2 = .ok (.invokevirtual 52, 3) := by decide +kernel
theorem dX7_rank_5 : decode cX7_rank 5 = .ok (.astore_n 3, 1) := by decide +kernel
theorem dX7_rank_6 : decode cX7_rank 6 = .ok (.aload_n 3, 1) := by decide +kernel
theorem dX7_rank_7 : decode cX7_rank 7 = .ok (.ifnull 13, 3) := by decide +kernel
theorem dX7_rank_10 : decode cX7_rank 10 = .ok (.iload_n 2, 1) := by decide +kernel
theorem dX7_rank_11 : decode cX7_rank 11 = .ok (.ifCond .lt 9, 3) := by decide +kernel
theorem dX7_rank_14 : decode cX7_rank 14 = .ok (.iload_n 2, 1) := by decide +kernel
theorem dX7_rank_15 : decode cX7_rank 15 = .ok (.ldc 135, 2) := by decide +kernel
theorem dX7_rank_17 : decode cX7_rank 17 = .ok (.if_icmp .le 7, 3) := by decide +kernel
theorem dX7_rank_20 : decode cX7_rank 20 = .ok (.ldc2_w 89, 3) := by decide +kernel
theorem dX7_rank_23 : decode cX7_rank 23 = .ok (.lreturn, 1) := by decide +kernel
theorem dX7_rank_24 : decode cX7_rank 24 = .ok (.aload_n 3, 1) := by decide +kernel
theorem dX7_rank_25 : decode cX7_rank 25 = .ok (.invokevirtual 131, 3) := by decide +kernel
theorem dX7_rank_28 : decode cX7_rank 28 = .ok (.lstore 4, 2) := by decide +kernel
theorem dX7_rank_30 : decode cX7_rank 30 = .ok (.lload 4, 2) := by decide +kernel
theorem dX7_rank_32 : decode cX7_rank 32 = .ok (.lconst 0, 1) := by decide +kernel
theorem dX7_rank_33 : decode cX7_rank 33 = .ok (.lcmp, 1) := by decide +kernel
theorem dX7_rank_34 : decode cX7_rank 34 = .ok (.ifCond .ne 9, 3) := by decide +kernel
theorem dX7_rank_37 : decode cX7_rank 37 = .ok (.ldc2_w 115, 3) := by decide +kernel
theorem dX7_rank_40 : decode cX7_rank 40 = .ok (.goto 13, 3) := by decide +kernel
theorem dX7_rank_43 : decode cX7_rank 43 = .ok (.aload_n 3, 1) := by decide +kernel
theorem dX7_rank_44 : decode cX7_rank 44 = .ok (.iload_n 2, 1) := by decide +kernel
theorem dX7_rank_45 : decode cX7_rank 45 = .ok (.lload 4, 2) := by decide +kernel
theorem dX7_rank_47 : decode cX7_rank 47 = .ok (.invokestatic 136, 3) := by decide +kernel
theorem dX7_rank_50 : decode cX7_rank 50 = .ok (.invokevirtual 140, 3) := by decide +kernel
theorem dX7_rank_53 : decode cX7_rank 53 = .ok (.lreturn, 1) := by decide +kernel
theorem dX7_about_0 : decode cX7_about 0 = .ok (.aload_n 0, 1) := by decide +kernel
theorem dX7_about_1 : decode cX7_about 1 = .ok (.iload_n 1, 1) := by decide +kernel
theorem dX7_about_2 : decode cX7_about 2 = .ok (.invokevirtual 52, 3) := by decide +kernel
theorem dX7_about_5 : decode cX7_about 5 = .ok (.astore_n 3, 1) := by decide +kernel
theorem dX7_about_6 : decode cX7_about 6 = .ok (.aload_n 3, 1) := by decide +kernel
theorem dX7_about_7 : decode cX7_about 7 = .ok (.ifnull 12, 3) := by decide +kernel
theorem dX7_about_10 : decode cX7_about 10 = .ok (.iload_n 2, 1) := by decide +kernel
theorem dX7_about_11 : decode cX7_about 11 = .ok (.ifCond .lt 8, 3) := by decide +kernel
theorem dX7_about_14 : decode cX7_about 14 = .ok (.iload_n 2, 1) := by decide +kernel
theorem dX7_about_15 : decode cX7_about 15 = .ok (.iconst 2, 1) := by decide +kernel
theorem dX7_about_16 : decode cX7_about 16 = .ok (.if_icmp .le 7, 3) := by decide +kernel
theorem dX7_about_19 : decode cX7_about 19 = .ok (.ldc2_w 89, 3) := by decide +kernel
theorem dX7_about_22 : decode cX7_about 22 = .ok (.lreturn, 1) := by decide +kernel
theorem dX7_about_23 : decode cX7_about 23 = .ok (.aload_n 3, 1) := by decide +kernel
theorem dX7_about_24 : decode cX7_about 24 = .ok (.invokevirtual 144, 3) := by decide +kernel
theorem dX7_about_27 : decode cX7_about 27 = .ok (.iconst (-1), 1) := by decide +kernel
theorem dX7_about_28 : decode cX7_about 28 = .ok (.if_icmp .ne 7, 3) := by decide +kernel
theorem dX7_about_31 : decode cX7_about 31 = .ok (.ldc2_w 115, 3) := by decide +kernel
theorem dX7_about_34 : decode cX7_about 34 = .ok (.lreturn, 1) := by decide +kernel
theorem dX7_about_35 : decode cX7_about 35 = .ok (.iload_n 2, 1) := by decide +kernel
theorem dX7_about_36 : decode cX7_about 36 = .ok (.ifCond .ne 10, 3) := by decide +kernel
theorem dX7_about_39 : decode cX7_about 39 = .ok (.aload_n 3, 1) := by decide +kernel
theorem dX7_about_40 : decode cX7_about 40 = .ok (.invokevirtual 147, 3) := by decide +kernel
theorem dX7_about_43 : decode cX7_about 43 = .ok (.goto 19, 3) := by decide +kernel
theorem dX7_about_46 : decode cX7_about 46 = .ok (.iload_n 2, 1) := by decide +kernel
theorem dX7_about_47 : decode cX7_about 47 = .ok (.iconst 1, 1) := by decide +kernel
theorem dX7_about_48 : decode cX7_about 48 = .ok (.if_icmp .ne 10, 3) := by decide +kernel
theorem dX7_about_51 : decode cX7_about 51 = .ok (.aload_n 3, 1) := by decide +kernel
theorem dX7_about_52 : decode cX7_about 52 = .ok (.invokevirtual 150, 3) := by decide +kernel
theorem dX7_about_55 : decode cX7_about 55 = .ok (.goto 7, 3) := by decide +kernel
theorem dX7_about_58 : decode cX7_about 58 = .ok (.aload_n 3, 1) := by decide +kernel
theorem dX7_about_59 : decode cX7_about 59 = .ok (.invokevirtual 153, 3) := by decide +kernel
theorem dX7_about_62 : decode cX7_about 62 = .ok (.lreturn, 1) := by decide +kernel
theorem dX7_add_0 : decode cX7_add 0 = .ok (.aload_n 0, 1) := by decide +kernel
theorem dX7_add_1 : decode cX7_add 1 = .ok (.iload_n 1, 1) := by decide +kernel
theorem dX7_add_2 : decode cX7_add 2 = .ok (.iload_n 2, 1) := by decide +kernel
theorem dX7_add_3 : decode cX7_add 3 = .ok (.iconst 1, 1) := by decide +kernel
theorem dX7_add_4 : decode cX7_add 4 = .ok (.invokevirtual 156, 3) := by decide +kernel
theorem dX7_add_7 : decode cX7_add 7 = .ok (.lreturn, 1) := by decide +kernel
theorem dX7_takeOff_0 : decode cX7_takeOff 0 = .ok (.aload_n 0, 1) := by decide +kernel
theorem dX7_takeOff_1 : decode cX7_takeOff 1 = .ok (.iload_n 1, 1) := by decide +kernel
theorem dX7_takeOff_2 : decode cX7_takeOff 2 = .ok (.iload_n 2, 1) := by decide +kernel
theorem dX7_takeOff_3 : decode cX7_takeOff 3 = .ok (.iconst (-1), 1) := by decide +kernel
theorem dX7_takeOff_4 : decode cX7_takeOff 4 = .ok (.invokevirtual 156, 3) := by decide +kernel
theorem dX7_takeOff_7 : decode cX7_takeOff 7 = .ok (.lreturn, 1) := by decide +kernel
theorem dX7_halve_0 : decode cX7_halve 0 = .ok (.aload_n 0, 1) := by decide +kernel
theorem dX7_halve_1 : decode cX7_halve 1 = .ok (.iload_n 1, 1) := by decide +kernel
theorem dX7_halve_2 : decode cX7_halve 2 = .ok (.invokevirtual 52, 3) := by decide +kernel
theorem dX7_halve_5 : decode cX7_halve 5 = .ok (.astore_n 2, 1) := by decide +kernel
theorem dX7_halve_6 : decode cX7_halve 6 = .ok (.aload_n 2, 1) := by decide +kernel
theorem dX7_halve_7 : decode cX7_halve 7 = .ok (.ifnonnull 7, 3) := by decide +kernel
theorem dX7_halve_10 : decode cX7_halve 10 = .ok (.ldc2_w 89, 3) := by decide +kernel
theorem dX7_halve_13 : decode cX7_halve 13 = .ok (.lreturn, 1) := by decide +kernel
theorem dX7_halve_14 : decode cX7_halve 14 = .ok (.aload_n 0, 1) := by decide +kernel
theorem dX7_halve_15 : decode cX7_halve 15 = .ok (.iload_n 1, 1) := by decide +kernel
theorem dX7_halve_16 : decode cX7_halve 16 = .ok (.invokevirtual 75, 3) := by decide +kernel
theorem dX7_halve_19 : decode cX7_halve 19 = .ok (.aload_n 2, 1) := by decide +kernel
theorem dX7_halve_20 : decode cX7_halve 20 = .ok (.invokevirtual 160, 3) := by decide +kernel
theorem dX7_halve_23 : decode cX7_halve 23 = .ok (.aload_n 2, 1) := by decide +kernel
theorem dX7_halve_24 : decode cX7_halve 24 = .ok (.invokevirtual 131, 3) := by decide +kernel
theorem dX7_halve_27 : decode cX7_halve 27 = .ok (.lreturn, 1) := by decide +kernel
theorem dX7_same_0 : decode cX7_same 0 = .ok (.aload_n 0, 1) := by decide +kernel
theorem dX7_same_1 : decode cX7_same 1 = .ok (.iload_n 1, 1) := by decide +kernel
theorem dX7_same_2 : decode cX7_same 2 = .ok (.invokevirtual 52, 3) := by decide +kernel
theorem dX7_same_5 : decode cX7_same 5 = .ok (.astore_n 3, 1) := by decide +kernel
theorem dX7_same_6 : decode cX7_same 6 = .ok (.aload_n 0, 1) := by decide +kernel
theorem dX7_same_7 : decode cX7_same 7 = .ok (.iload_n 2, 1) := by decide +kernel
theorem dX7_same_8 : decode cX7_same 8 = .ok (.invokevirtual 52, 3) := by decide +kernel
theorem dX7_same_11 : decode cX7_same 11 = .ok (.astore 4, 2) := by decide +kernel
theorem dX7_same_13 : decode cX7_same 13 = .ok (.aload_n 3, 1) := by decide +kernel
theorem dX7_same_14 : decode cX7_same 14 = .ok (.ifnull 8, 3) := by decide +kernel
theorem dX7_same_17 : decode cX7_same 17 = .ok (.aload 4, 2) := by decide +kernel
theorem dX7_same_19 : decode cX7_same 19 = .ok (.ifnonnull 5, 3) := by decide +kernel
theorem dX7_same_22 : decode cX7_same 22 = .ok (.iconst (-1), 1) := by decide +kernel
theorem dX7_same_23 : decode cX7_same 23 = .ok (.ireturn, 1) := by decide +kernel
theorem dX7_same_24 : decode cX7_same 24 = .ok (.aload_n 3, 1) := by decide +kernel
theorem dX7_same_25 : decode cX7_same 25 = .ok (.aload 4, 2) := by decide +kernel
theorem dX7_same_27 : decode cX7_same 27 = .ok (.invokevirtual 163, 3) := by decide +kernel
theorem dX7_same_30 : decode cX7_same 30 = .ok (.ifCond .eq 7, 3) := by decide +kernel
theorem dX7_same_33 : decode cX7_same 33 = .ok (.iconst 1, 1) := by decide +kernel
theorem dX7_same_34 : decode cX7_same 34 = .ok (.goto 4, 3) := by decide +kernel
theorem dX7_same_37 : decode cX7_same 37 = .ok (.iconst 0, 1) := by decide +kernel
theorem dX7_same_38 : decode cX7_same 38 = .ok (.ireturn, 1) := by decide +kernel
theorem dX7_setting_0 : decode cX7_setting 0 = .ok (.aload_n 0, 1) := by decide +kernel
theorem dX7_setting_1 : decode cX7_setting 1 = .ok (.iload_n 1, 1) := by decide +kernel
theorem dX7_setting_2 : decode cX7_setting 2 = .ok (.invokevirtual 52, 3) := by decide +kernel
theorem dX7_setting_5 : decode cX7_setting 5 = .ok (.astore_n 3, 1) := by decide +kernel
theorem dX7_setting_6 : decode cX7_setting 6 = .ok (.aload_n 3, 1) := by decide +kernel
theorem dX7_setting_7 : decode cX7_setting 7 = .ok (.ifnonnull 7, 3) := by decide +kernel
theorem dX7_setting_10 : decode cX7_setting 10 = .ok (.ldc2_w 89, 3) := by decide +kernel
theorem dX7_setting_13 : decode cX7_setting 13 = .ok (.lreturn, 1) := by decide +kernel
theorem dX7_setting_14 : decode cX7_setting 14 = .ok (.iload_n 2, 1) := by decide +kernel
theorem dX7_setting_15 : decode cX7_setting 15 = .ok (.tableswitch 62 0 4 #[33, 39, 45, 50, 56], 33) := by decide +kernel
theorem dX7_setting_48 : decode cX7_setting 48 = .ok (.aload_n 3, 1) := by decide +kernel
theorem dX7_setting_49 : decode cX7_setting 49 = .ok (.getfield 167, 3) := by decide +kernel
theorem dX7_setting_52 : decode cX7_setting 52 = .ok (.i2l, 1) := by decide +kernel
theorem dX7_setting_53 : decode cX7_setting 53 = .ok (.lreturn, 1) := by decide +kernel
theorem dX7_setting_54 : decode cX7_setting 54 = .ok (.aload_n 3, 1) := by decide +kernel
theorem dX7_setting_55 : decode cX7_setting 55 = .ok (.getfield 117, 3) := by decide +kernel
theorem dX7_setting_58 : decode cX7_setting 58 = .ok (.i2l, 1) := by decide +kernel
theorem dX7_setting_59 : decode cX7_setting 59 = .ok (.lreturn, 1) := by decide +kernel
theorem dX7_setting_60 : decode cX7_setting 60 = .ok (.aload_n 3, 1) := by decide +kernel
theorem dX7_setting_61 : decode cX7_setting 61 = .ok (.getfield 170, 3) := by decide +kernel
theorem dX7_setting_64 : decode cX7_setting 64 = .ok (.lreturn, 1) := by decide +kernel
theorem dX7_setting_65 : decode cX7_setting 65 = .ok (.aload_n 3, 1) := by decide +kernel
theorem dX7_setting_66 : decode cX7_setting 66 = .ok (.getfield 82, 3) := by decide +kernel
theorem dX7_setting_69 : decode cX7_setting 69 = .ok (.i2l, 1) := by decide +kernel
theorem dX7_setting_70 : decode cX7_setting 70 = .ok (.lreturn, 1) := by decide +kernel
theorem dX7_setting_71 : decode cX7_setting 71 = .ok (.aload_n 3, 1) := by decide +kernel
theorem dX7_setting_72 : decode cX7_setting 72 = .ok (.invokevirtual 174, 3) := by decide +kernel
theorem dX7_setting_75 : decode cX7_setting 75 = .ok (.i2l, 1) := by decide +kernel
theorem dX7_setting_76 : decode cX7_setting 76 = .ok (.lreturn, 1) := by decide +kernel
theorem dX7_setting_77 : decode cX7_setting 77 = .ok (.ldc2_w 89, 3) := by decide +kernel
theorem dX7_setting_80 : decode cX7_setting 80 = .ok (.lreturn, 1) := by decide +kernel
theorem dX7_shelve_0 : decode cX7_shelve 0 = .ok (.aload_n 0, 1) := by decide +kernel
theorem dX7_shelve_1 : decode cX7_shelve 1 = .ok (.iload_n 1, 1) := by decide +kernel
theorem dX7_shelve_2 : decode cX7_shelve 2 = .ok (.invokevirtual 52, 3) := by decide +kernel
theorem dX7_shelve_5 : decode cX7_shelve 5 = .ok (.astore_n 2, 1) := by decide +kernel
theorem dX7_shelve_6 : decode cX7_shelve 6 = .ok (.aload_n 2, 1) := by decide +kernel
theorem dX7_shelve_7 : decode cX7_shelve 7 = .ok (.ifnonnull 5, 3) := by decide +kernel
theorem dX7_shelve_10 : decode cX7_shelve 10 = .ok (.iconst (-1), 1) := by decide +kernel
theorem dX7_shelve_11 : decode cX7_shelve 11 = .ok (.ireturn, 1) := by decide +kernel
theorem dX7_shelve_12 : decode cX7_shelve 12 = .ok (.aload_n 0, 1) := by decide +kernel
theorem dX7_shelve_13 : decode cX7_shelve 13 = .ok (.iload_n 1, 1) := by decide +kernel
theorem dX7_shelve_14 : decode cX7_shelve 14 = .ok (.invokevirtual 75, 3) := by decide +kernel
theorem dX7_shelve_17 : decode cX7_shelve 17 = .ok (.aload_n 2, 1) := by decide +kernel
theorem dX7_shelve_18 : decode cX7_shelve 18 = .ok (.invokevirtual 177, 3) := by decide +kernel
theorem dX7_shelve_21 : decode cX7_shelve 21 = .ok (.ireturn, 1) := by decide +kernel
theorem dX7_kind_0 : decode cX7_kind 0 = .ok (.aload_n 0, 1) := by decide +kernel
theorem dX7_kind_1 : decode cX7_kind 1 = .ok (.iload_n 1, 1) := by decide +kernel
theorem dX7_kind_2 : decode cX7_kind 2 = .ok (.invokevirtual 52, 3) := by decide +kernel
theorem dX7_kind_5 : decode cX7_kind 5 = .ok (.astore_n 3, 1) := by decide +kernel
theorem dX7_kind_6 : decode cX7_kind 6 = .ok (.aload_n 3, 1) := by decide +kernel
theorem dX7_kind_7 : decode cX7_kind 7 = .ok (.ifnonnull 5, 3) := by decide +kernel
theorem dX7_kind_10 : decode cX7_kind 10 = .ok (.iconst (-1), 1) := by decide +kernel
theorem dX7_kind_11 : decode cX7_kind 11 = .ok (.ireturn, 1) := by decide +kernel
theorem dX7_kind_12 : decode cX7_kind 12 = .ok (.iload_n 2, 1) := by decide +kernel
theorem dX7_kind_13 : decode cX7_kind 13 = .ok (.iconst (-1), 1) := by decide +kernel
theorem dX7_kind_14 : decode cX7_kind 14 = .ok (.if_icmp .ne 8, 3) := by decide +kernel
theorem dX7_kind_17 : decode cX7_kind 17 = .ok (.aload_n 3, 1) := by decide +kernel
theorem dX7_kind_18 : decode cX7_kind 18 = .ok (.getfield 180, 3) := by decide +kernel
theorem dX7_kind_21 : decode cX7_kind 21 = .ok (.ireturn, 1) := by decide +kernel
theorem dX7_kind_22 : decode cX7_kind 22 = .ok (.aload_n 3, 1) := by decide +kernel
theorem dX7_kind_23 : decode cX7_kind 23 = .ok (.iload_n 2, 1) := by decide +kernel
theorem dX7_kind_24 : decode cX7_kind 24 = .ok (.invokevirtual 183, 3) := by decide +kernel
theorem dX7_kind_27 : decode cX7_kind 27 = .ok (.ifCond .eq 11, 3) := by decide +kernel
theorem dX7_kind_30 : decode cX7_kind 30 = .ok (.aload_n 3, 1) := by decide +kernel
theorem dX7_kind_31 : decode cX7_kind 31 = .ok (.iload_n 2, 1) := by decide +kernel
theorem dX7_kind_32 : decode cX7_kind 32 = .ok (.invokevirtual 187, 3) := by decide +kernel
theorem dX7_kind_35 : decode cX7_kind 35 = .ok (.goto 4, 3) := by decide +kernel
theorem dX7_kind_38 : decode cX7_kind 38 = .ok (.iconst (-1), 1) := by decide +kernel
theorem dX7_kind_39 : decode cX7_kind 39 = .ok (.ireturn, 1) := by decide +kernel
theorem dX7_room_0 : decode cX7_room 0 = .ok (.aload_n 0, 1) := by decide +kernel
theorem dX7_room_1 : decode cX7_room 1 = .ok (.iload_n 1, 1) := by decide +kernel
theorem dX7_room_2 : decode cX7_room 2 = .ok (.invokevirtual 52, 3) := by decide +kernel
theorem dX7_room_5 : decode cX7_room 5 = .ok (.astore_n 2, 1) := by decide +kernel
theorem dX7_room_6 : decode cX7_room 6 = .ok (.aload_n 2, 1) := by decide +kernel
theorem dX7_room_7 : decode cX7_room 7 = .ok (.ifnonnull 7, 3) := by decide +kernel
theorem dX7_room_10 : decode cX7_room 10 = .ok (.iconst (-1), 1) := by decide +kernel
theorem dX7_room_11 : decode cX7_room 11 = .ok (.goto 7, 3) := by decide +kernel
theorem dX7_room_14 : decode cX7_room 14 = .ok (.aload_n 2, 1) := by decide +kernel
theorem dX7_room_15 : decode cX7_room 15 = .ok (.invokevirtual 190, 3) := by decide +kernel
theorem dX7_room_18 : decode cX7_room 18 = .ok (.ireturn, 1) := by decide +kernel
theorem dX7_peek_0 : decode cX7_peek 0 = .ok (.aload_n 0, 1) := by decide +kernel
theorem dX7_peek_1 : decode cX7_peek 1 = .ok (.iload_n 1, 1) := by decide +kernel
theorem dX7_peek_2 : decode cX7_peek 2 = .ok (.invokevirtual 52, 3) := by decide +kernel
theorem dX7_peek_5 : decode cX7_peek 5 = .ok (.astore 6, 2) := by decide +kernel
theorem dX7_peek_7 : decode cX7_peek 7 = .ok (.aload 6, 2) := by decide +kernel
theorem dX7_peek_9 : decode cX7_peek 9 = .ok (.ifnull 33, 3) := by decide +kernel
theorem dX7_peek_12 : decode cX7_peek 12 = .ok (.iload_n 2, 1) := by decide +kernel
theorem dX7_peek_13 : decode cX7_peek 13 = .ok (.ifCond .lt 29, 3) := by decide +kernel
theorem dX7_peek_16 : decode cX7_peek 16 = .ok (.iload_n 2, 1) := by decide +kernel
theorem dX7_peek_17 : decode cX7_peek 17 = .ok (.iconst 1, 1) := by decide +kernel
theorem dX7_peek_18 : decode cX7_peek 18 = .ok (.if_icmp .gt 24, 3) := by decide +kernel
theorem dX7_peek_21 : decode cX7_peek 21 = .ok (.aload 6, 2) := by decide +kernel
theorem dX7_peek_23 : decode cX7_peek 23 = .ok (.iload_n 3, 1) := by decide +kernel
theorem dX7_peek_24 : decode cX7_peek 24 = .ok (.invokevirtual 183, 3) := by decide +kernel
theorem dX7_peek_27 : decode cX7_peek 27 = .ok (.ifCond .eq 15, 3) := by decide +kernel
theorem dX7_peek_30 : decode cX7_peek 30 = .ok (.iload 5, 2) := by decide +kernel
theorem dX7_peek_32 : decode cX7_peek 32 = .ok (.ifCond .lt 10, 3) := by decide +kernel
theorem dX7_peek_35 : decode cX7_peek 35 = .ok (.iload 5, 2) := by decide +kernel
theorem dX7_peek_37 : decode cX7_peek 37 = .ok (.bipush 8, 2) := by decide +kernel
theorem dX7_peek_39 : decode cX7_peek 39 = .ok (.if_icmp .le 7, 3) := by decide +kernel
theorem dX7_peek_42 : decode cX7_peek 42 = .ok (.ldc2_w 193, 3) := by decide +kernel
theorem dX7_peek_45 : decode cX7_peek 45 = .ok (.lreturn, 1) := by decide +kernel
theorem dX7_peek_46 : decode cX7_peek 46 = .ok (.iload_n 2, 1) := by decide +kernel
theorem dX7_peek_47 : decode cX7_peek 47 = .ok (.ifCond .ne 12, 3) := by decide +kernel
theorem dX7_peek_50 : decode cX7_peek 50 = .ok (.aload 6, 2) := by decide +kernel
theorem dX7_peek_52 : decode cX7_peek 52 = .ok (.iload_n 3, 1) := by decide +kernel
theorem dX7_peek_53 : decode cX7_peek 53 = .ok (.invokevirtual 187, 3) := by decide +kernel
theorem dX7_peek_56 : decode cX7_peek 56 = .ok (.goto 9, 3) := by decide +kernel
theorem dX7_peek_59 : decode cX7_peek 59 = .ok (.aload 6, 2) := by decide +kernel
theorem dX7_peek_61 : decode cX7_peek 61 = .ok (.iload_n 3, 1) := by decide +kernel
theorem dX7_peek_62 : decode cX7_peek 62 = .ok (.invokevirtual 195, 3) := by decide +kernel
theorem dX7_peek_65 : decode cX7_peek 65 = .ok (.istore 7, 2) := by decide +kernel
theorem dX7_peek_67 : decode cX7_peek 67 = .ok (.getstatic 198, 3) := by decide +kernel
theorem dX7_peek_70 : decode cX7_peek 70 = .ok (.iload 7, 2) := by decide +kernel
theorem dX7_peek_72 : decode cX7_peek 72 = .ok (.iload 4, 2) := by decide +kernel
theorem dX7_peek_74 : decode cX7_peek 74 = .ok (.iload 5, 2) := by decide +kernel
theorem dX7_peek_76 : decode cX7_peek 76 = .ok (.invokestatic 202, 3) := by decide +kernel
theorem dX7_peek_79 : decode cX7_peek 79 = .ok (.istore 8, 2) := by decide +kernel
theorem dX7_peek_81 : decode cX7_peek 81 = .ok (.iload 8, 2) := by decide +kernel
theorem dX7_peek_83 : decode cX7_peek 83 = .ok (.ifCond .eq 7, 3) := by decide +kernel
theorem dX7_peek_86 : decode cX7_peek 86 = .ok (.iload 8, 2) := by decide +kernel
theorem dX7_peek_88 : decode cX7_peek 88 = .ok (.i2l, 1) := by decide +kernel
theorem dX7_peek_89 : decode cX7_peek 89 = .ok (.lreturn, 1) := by decide +kernel
theorem dX7_peek_90 : decode cX7_peek 90 = .ok (.bipush 16, 2) := by decide +kernel
theorem dX7_peek_92 : decode cX7_peek 92 = .ok (.iload_n 3, 1) := by decide +kernel
theorem dX7_peek_93 : decode cX7_peek 93 = .ok (.imul, 1) := by decide +kernel
theorem dX7_peek_94 : decode cX7_peek 94 = .ok (.iload 4, 2) := by decide +kernel
theorem dX7_peek_96 : decode cX7_peek 96 = .ok (.iadd, 1) := by decide +kernel
theorem dX7_peek_97 : decode cX7_peek 97 = .ok (.istore 9, 2) := by decide +kernel
theorem dX7_peek_99 : decode cX7_peek 99 = .ok (.iload_n 2, 1) := by decide +kernel
theorem dX7_peek_100 : decode cX7_peek 100 = .ok (.ifCond .ne 20, 3) := by decide +kernel
theorem dX7_peek_103 : decode cX7_peek 103 = .ok (.iload 7, 2) := by decide +kernel
theorem dX7_peek_105 : decode cX7_peek 105 = .ok (.iload 5, 2) := by decide +kernel
theorem dX7_peek_107 : decode cX7_peek 107 = .ok (.aload 6, 2) := by decide +kernel
theorem dX7_peek_109 : decode cX7_peek 109 = .ok (.iload 9, 2) := by decide +kernel
theorem dX7_peek_111 : decode cX7_peek 111 = .ok (.invokevirtual 120, 3) := by decide +kernel
theorem dX7_peek_114 : decode cX7_peek 114 = .ok (.invokestatic 206, 3) := by decide +kernel
theorem dX7_peek_117 : decode cX7_peek 117 = .ok (.goto 11, 3) := by decide +kernel
theorem dX7_peek_120 : decode cX7_peek 120 = .ok (.aload 6, 2) := by decide +kernel
theorem dX7_peek_122 : decode cX7_peek 122 = .ok (.iload 9, 2) := by decide +kernel
theorem dX7_peek_124 : decode cX7_peek 124 = .ok (.invokevirtual 210, 3) := by decide +kernel
theorem dX7_peek_127 : decode cX7_peek 127 = .ok (.i2l, 1) := by decide +kernel
theorem dX7_peek_128 : decode cX7_peek 128 = .ok (.lreturn, 1) := by decide +kernel
theorem dX7_poke_0 : decode cX7_poke 0 = .ok (.aload_n 0, 1) := by decide +kernel
theorem dX7_poke_1 : decode cX7_poke 1 = .ok (.iload_n 1, 1) := by decide +kernel
theorem dX7_poke_2 : decode cX7_poke 2 = .ok (.invokevirtual 52, 3) := by decide +kernel
theorem dX7_poke_5 : decode cX7_poke 5 = .ok (.astore 7, 2) := by decide +kernel
theorem dX7_poke_7 : decode cX7_poke 7 = .ok (.aload 7, 2) := by decide +kernel
theorem dX7_poke_9 : decode cX7_poke 9 = .ok (.ifnull 37, 3) := by decide +kernel
theorem dX7_poke_12 : decode cX7_poke 12 = .ok (.iload_n 2, 1) := by decide +kernel
theorem dX7_poke_13 : decode cX7_poke 13 = .ok (.ifCond .lt 33, 3) := by decide +kernel
theorem dX7_poke_16 : decode cX7_poke 16 = .ok (.iload_n 2, 1) := by decide +kernel
theorem dX7_poke_17 : decode cX7_poke 17 = .ok (.iconst 1, 1) := by decide +kernel
theorem dX7_poke_18 : decode cX7_poke 18 = .ok (.if_icmp .gt 28, 3) := by decide +kernel
theorem dX7_poke_21 : decode cX7_poke 21 = .ok (.aload 7, 2) := by decide +kernel
theorem dX7_poke_23 : decode cX7_poke 23 = .ok (.iload_n 3, 1) := by decide +kernel
theorem dX7_poke_24 : decode cX7_poke 24 = .ok (.invokevirtual 183, 3) := by decide +kernel
theorem dX7_poke_27 : decode cX7_poke 27 = .ok (.ifCond .eq 19, 3) := by decide +kernel
theorem dX7_poke_30 : decode cX7_poke 30 = .ok (.iload 5, 2) := by decide +kernel
theorem dX7_poke_32 : decode cX7_poke 32 = .ok (.invokestatic 213, 3) := by decide +kernel
theorem dX7_poke_35 : decode cX7_poke 35 = .ok (.ifCond .eq 11, 3) := by decide +kernel
theorem dX7_poke_38 : decode cX7_poke 38 = .ok (.iload 6, 2) := by decide +kernel
theorem dX7_poke_40 : decode cX7_poke 40 = .ok (.invokestatic 216, 3) := by decide +kernel
theorem dX7_poke_43 : decode cX7_poke 43 = .ok (.ifCond .ne 5, 3) := by decide +kernel
theorem dX7_poke_46 : decode cX7_poke 46 = .ok (.iconst (-1), 1) := by decide +kernel
theorem dX7_poke_47 : decode cX7_poke 47 = .ok (.ireturn, 1) := by decide +kernel
theorem dX7_poke_48 : decode cX7_poke 48 = .ok (.iload 5, 2) := by decide +kernel
theorem dX7_poke_50 : decode cX7_poke 50 = .ok (.bipush 10, 2) := by decide +kernel
theorem dX7_poke_52 : decode cX7_poke 52 = .ok (.if_icmp .le 18, 3) := by decide +kernel
theorem dX7_poke_55 : decode cX7_poke 55 = .ok (.iload 5, 2) := by decide +kernel
theorem dX7_poke_57 : decode cX7_poke 57 = .ok (.bipush 19, 2) := by decide +kernel
theorem dX7_poke_59 : decode cX7_poke 59 = .ok (.if_icmp .ge 11, 3) := by decide +kernel
theorem dX7_poke_62 : decode cX7_poke 62 = .ok (.iload 5, 2) := by decide +kernel
theorem dX7_poke_64 : decode cX7_poke 64 = .ok (.bipush 10, 2) := by decide +kernel
theorem dX7_poke_66 : decode cX7_poke 66 = .ok (.isub, 1) := by decide +kernel
theorem dX7_poke_67 : decode cX7_poke 67 = .ok (.goto 5, 3) := by decide +kernel
theorem dX7_poke_70 : decode cX7_poke 70 = .ok (.iload 5, 2) := by decide +kernel
theorem dX7_poke_72 : decode cX7_poke 72 = .ok (.istore 8, 2) := by decide +kernel
theorem dX7_poke_74 : decode cX7_poke 74 = .ok (.getstatic 219, 3) := by decide +kernel
theorem dX7_poke_77 : decode cX7_poke 77 = .ok (.iload_n 2, 1) := by decide +kernel
theorem dX7_poke_78 : decode cX7_poke 78 = .ok (.ifCond .ne 12, 3) := by decide +kernel
theorem dX7_poke_81 : decode cX7_poke 81 = .ok (.aload 7, 2) := by decide +kernel
theorem dX7_poke_83 : decode cX7_poke 83 = .ok (.iload_n 3, 1) := by decide +kernel
theorem dX7_poke_84 : decode cX7_poke 84 = .ok (.invokevirtual 187, 3) := by decide +kernel
theorem dX7_poke_87 : decode cX7_poke 87 = .ok (.goto 9, 3) := by decide +kernel
theorem dX7_poke_90 : decode cX7_poke 90 = .ok (.aload 7, 2) := by decide +kernel
theorem dX7_poke_92 : decode cX7_poke 92 = .ok (.iload_n 3, 1) := by decide +kernel
theorem dX7_poke_93 : decode cX7_poke 93 = .ok (.invokevirtual 195, 3) := by decide +kernel
theorem dX7_poke_96 : decode cX7_poke 96 = .ok (.iload 4, 2) := by decide +kernel
theorem dX7_poke_98 : decode cX7_poke 98 = .ok (.iload 8, 2) := by decide +kernel
theorem dX7_poke_100 : decode cX7_poke 100 = .ok (.invokestatic 202, 3) := by decide +kernel
theorem dX7_poke_103 : decode cX7_poke 103 = .ok (.istore 9, 2) := by decide +kernel
theorem dX7_poke_105 : decode cX7_poke 105 = .ok (.iload 9, 2) := by decide +kernel
theorem dX7_poke_107 : decode cX7_poke 107 = .ok (.ifCond .eq 6, 3) := by decide +kernel
theorem dX7_poke_110 : decode cX7_poke 110 = .ok (.iload 9, 2) := by decide +kernel
theorem dX7_poke_112 : decode cX7_poke 112 = .ok (.ireturn, 1) := by decide +kernel
theorem dX7_poke_113 : decode cX7_poke 113 = .ok (.aload_n 0, 1) := by decide +kernel
theorem dX7_poke_114 : decode cX7_poke 114 = .ok (.iload_n 1, 1) := by decide +kernel
theorem dX7_poke_115 : decode cX7_poke 115 = .ok (.invokevirtual 75, 3) := by decide +kernel
theorem dX7_poke_118 : decode cX7_poke 118 = .ok (.bipush 16, 2) := by decide +kernel
theorem dX7_poke_120 : decode cX7_poke 120 = .ok (.iload_n 3, 1) := by decide +kernel
theorem dX7_poke_121 : decode cX7_poke 121 = .ok (.imul, 1) := by decide +kernel
theorem dX7_poke_122 : decode cX7_poke 122 = .ok (.iload 4, 2) := by decide +kernel
theorem dX7_poke_124 : decode cX7_poke 124 = .ok (.iadd, 1) := by decide +kernel
theorem dX7_poke_125 : decode cX7_poke 125 = .ok (.istore 10, 2) := by decide +kernel
theorem dX7_poke_127 : decode cX7_poke 127 = .ok (.iload_n 2, 1) := by decide +kernel
theorem dX7_poke_128 : decode cX7_poke 128 = .ok (.iconst 1, 1) := by decide +kernel
theorem dX7_poke_129 : decode cX7_poke 129 = .ok (.if_icmp .ne 26, 3) := by decide +kernel
theorem dX7_poke_132 : decode cX7_poke 132 = .ok (.aload 7, 2) := by decide +kernel
theorem dX7_poke_134 : decode cX7_poke 134 = .ok (.iload 10, 2) := by decide +kernel
theorem dX7_poke_136 : decode cX7_poke 136 = .ok (.iload 8, 2) := by decide +kernel
theorem dX7_poke_138 : decode cX7_poke 138 = .ok (.bipush 19, 2) := by decide +kernel
theorem dX7_poke_140 : decode cX7_poke 140 = .ok (.if_icmp .ne 7, 3) := by decide +kernel
theorem dX7_poke_143 : decode cX7_poke 143 = .ok (.iconst (-1), 1) := by decide +kernel
theorem dX7_poke_144 : decode cX7_poke 144 = .ok (.goto 5, 3) := by decide +kernel
theorem dX7_poke_147 : decode cX7_poke 147 = .ok (.iload 6, 2) := by decide +kernel
theorem dX7_poke_149 : decode cX7_poke 149 = .ok (.invokevirtual 222, 3) := by decide +kernel
theorem dX7_poke_152 : decode cX7_poke 152 = .ok (.goto 50, 3) := by decide +kernel
theorem dX7_poke_155 : decode cX7_poke 155 = .ok (.iload 8, 2) := by decide +kernel
theorem dX7_poke_157 : decode cX7_poke 157 = .ok (.iconst 1, 1) := by decide +kernel
theorem dX7_poke_158 : decode cX7_poke 158 = .ok (.if_icmp .ne 12, 3) := by decide +kernel
theorem dX7_poke_161 : decode cX7_poke 161 = .ok (.iload 6, 2) := by decide +kernel
theorem dX7_poke_163 : decode cX7_poke 163 = .ok (.iconst 1, 1) := by decide +kernel
theorem dX7_poke_164 : decode cX7_poke 164 = .ok (.invokestatic 226, 3) := by decide +kernel
theorem dX7_poke_167 : decode cX7_poke 167 = .ok (.goto 5, 3) := by decide +kernel
theorem dX7_poke_170 : decode cX7_poke 170 = .ok (.iload 6, 2) := by decide +kernel
theorem dX7_poke_172 : decode cX7_poke 172 = .ok (.istore 11, 2) := by decide +kernel
theorem dX7_poke_174 : decode cX7_poke 174 = .ok (.aload 7, 2) := by decide +kernel
theorem dX7_poke_176 : decode cX7_poke 176 = .ok (.iload 10, 2) := by decide +kernel
theorem dX7_poke_178 : decode cX7_poke 178 = .ok (.aload 7, 2) := by decide +kernel
theorem dX7_poke_180 : decode cX7_poke 180 = .ok (.getfield 167, 3) := by decide +kernel
theorem dX7_poke_183 : decode cX7_poke 183 = .ok (.iconst 1, 1) := by decide +kernel
theorem dX7_poke_184 : decode cX7_poke 184 = .ok (.if_icmp .ne 12, 3) := by decide +kernel
theorem dX7_poke_187 : decode cX7_poke 187 = .ok (.bipush 16, 2) := by decide +kernel
theorem dX7_poke_189 : decode cX7_poke 189 = .ok (.iload 11, 2) := by decide +kernel
theorem dX7_poke_191 : decode cX7_poke 191 = .ok (.imul, 1) := by decide +kernel
theorem dX7_poke_192 : decode cX7_poke 192 = .ok (.i2l, 1) := by decide +kernel
theorem dX7_poke_193 : decode cX7_poke 193 = .ok (.goto 6, 3) := by decide +kernel
theorem dX7_poke_196 : decode cX7_poke 196 = .ok (.iload 11, 2) := by decide +kernel
theorem dX7_poke_198 : decode cX7_poke 198 = .ok (.i2l, 1) := by decide +kernel
theorem dX7_poke_199 : decode cX7_poke 199 = .ok (.invokevirtual 232, 3) := by decide +kernel
theorem dX7_poke_202 : decode cX7_poke 202 = .ok (.iconst 0, 1) := by decide +kernel
theorem dX7_poke_203 : decode cX7_poke 203 = .ok (.ireturn, 1) := by decide +kernel
theorem dX7_example_0 : decode cX7_example 0 = .ok (.aload_n 0, 1) := by decide +kernel
theorem dX7_example_1 : decode cX7_example 1 = .ok (.iload_n 1, 1) := by decide +kernel
theorem dX7_example_2 : decode cX7_example 2 = .ok (.invokevirtual 52, 3) := by decide +kernel
theorem dX7_example_5 : decode cX7_example 5 = .ok (.astore 6, 2) := by decide +kernel
theorem dX7_example_7 : decode cX7_example 7 = .ok (.aload 6, 2) := by decide +kernel
theorem dX7_example_9 : decode cX7_example 9 = .ok (.ifnull 20, 3) := by decide +kernel
theorem dX7_example_12 : decode cX7_example 12 = .ok (.aload 6, 2) := by decide +kernel
theorem dX7_example_14 : decode cX7_example 14 = .ok (.lload_n 2, 1) := by decide +kernel
theorem dX7_example_15 : decode cX7_example 15 = .ok (.invokevirtual 124, 3) := by decide +kernel
theorem dX7_example_18 : decode cX7_example 18 = .ok (.ifCond .eq 11, 3) := by decide +kernel
theorem dX7_example_21 : decode cX7_example 21 = .ok (.iload 5, 2) := by decide +kernel
theorem dX7_example_23 : decode cX7_example 23 = .ok (.invokestatic 216, 3) := by decide +kernel
theorem dX7_example_26 : decode cX7_example 26 = .ok (.ifCond .ne 5, 3) := by decide +kernel
theorem dX7_example_29 : decode cX7_example 29 = .ok (.iconst (-1), 1) := by decide +kernel
theorem dX7_example_30 : decode cX7_example 30 = .ok (.ireturn, 1) := by decide +kernel
theorem dX7_example_31 : decode cX7_example 31 = .ok (.aload 6, 2) := by decide +kernel
theorem dX7_example_33 : decode cX7_example 33 = .ok (.getfield 117, 3) := by decide +kernel
theorem dX7_example_36 : decode cX7_example 36 = .ok (.lload_n 2, 1) := by decide +kernel
theorem dX7_example_37 : decode cX7_example 37 = .ok (.invokestatic 85, 3) := by decide +kernel
theorem dX7_example_40 : decode cX7_example 40 = .ok (.istore 7, 2) := by decide +kernel
theorem dX7_example_42 : decode cX7_example 42 = .ok (.aload 6, 2) := by decide +kernel
theorem dX7_example_44 : decode cX7_example 44 = .ok (.iload 7, 2) := by decide +kernel
theorem dX7_example_46 : decode cX7_example 46 = .ok (.bipush 16, 2) := by decide +kernel
theorem dX7_example_48 : decode cX7_example 48 = .ok (.idiv, 1) := by decide +kernel
theorem dX7_example_49 : decode cX7_example 49 = .ok (.invokevirtual 195, 3) := by decide +kernel
theorem dX7_example_52 : decode cX7_example 52 = .ok (.istore 8, 2) := by decide +kernel
theorem dX7_example_54 : decode cX7_example 54 = .ok (.iload 4, 2) := by decide +kernel
theorem dX7_example_56 : decode cX7_example 56 = .ok (.ifCond .eq 8, 3) := by decide +kernel
theorem dX7_example_59 : decode cX7_example 59 = .ok (.bipush 12, 2) := by decide +kernel
theorem dX7_example_61 : decode cX7_example 61 = .ok (.goto 5, 3) := by decide +kernel
theorem dX7_example_64 : decode cX7_example 64 = .ok (.bipush 11, 2) := by decide +kernel
theorem dX7_example_66 : decode cX7_example 66 = .ok (.istore 9, 2) := by decide +kernel
theorem dX7_example_68 : decode cX7_example 68 = .ok (.iload 8, 2) := by decide +kernel
theorem dX7_example_70 : decode cX7_example 70 = .ok (.ifCond .eq 13, 3) := by decide +kernel
theorem dX7_example_73 : decode cX7_example 73 = .ok (.iload 8, 2) := by decide +kernel
theorem dX7_example_75 : decode cX7_example 75 = .ok (.iload 9, 2) := by decide +kernel
theorem dX7_example_77 : decode cX7_example 77 = .ok (.if_icmp .eq 6, 3) := by decide +kernel
theorem dX7_example_80 : decode cX7_example 80 = .ok (.bipush (-3), 2) := by decide +kernel
theorem dX7_example_82 : decode cX7_example 82 = .ok (.ireturn, 1) := by decide +kernel
theorem dX7_example_83 : decode cX7_example 83 = .ok (.aload_n 0, 1) := by decide +kernel
theorem dX7_example_84 : decode cX7_example 84 = .ok (.iload_n 1, 1) := by decide +kernel
theorem dX7_example_85 : decode cX7_example 85 = .ok (.invokevirtual 75, 3) := by decide +kernel
theorem dX7_example_88 : decode cX7_example 88 = .ok (.aload 6, 2) := by decide +kernel
theorem dX7_example_90 : decode cX7_example 90 = .ok (.iload 7, 2) := by decide +kernel
theorem dX7_example_92 : decode cX7_example 92 = .ok (.bipush 16, 2) := by decide +kernel
theorem dX7_example_94 : decode cX7_example 94 = .ok (.idiv, 1) := by decide +kernel
theorem dX7_example_95 : decode cX7_example 95 = .ok (.iload 9, 2) := by decide +kernel
theorem dX7_example_97 : decode cX7_example 97 = .ok (.invokevirtual 236, 3) := by decide +kernel
theorem dX7_example_100 : decode cX7_example 100 = .ok (.aload 6, 2) := by decide +kernel
theorem dX7_example_102 : decode cX7_example 102 = .ok (.iload 7, 2) := by decide +kernel
theorem dX7_example_104 : decode cX7_example 104 = .ok (.iload 5, 2) := by decide +kernel
theorem dX7_example_106 : decode cX7_example 106 = .ok (.invokevirtual 222, 3) := by decide +kernel
theorem dX7_example_109 : decode cX7_example 109 = .ok (.iconst 0, 1) := by decide +kernel
theorem dX7_example_110 : decode cX7_example 110 = .ok (.ireturn, 1) := by decide +kernel
theorem dX7_examples_0 : decode cX7_examples 0 = .ok (.aload_n 0, 1) := by decide +kernel
theorem dX7_examples_1 : decode cX7_examples 1 = .ok (.iload_n 1, 1) := by decide +kernel
theorem dX7_examples_2 : decode cX7_examples 2 = .ok (.invokevirtual 52, 3) := by decide +kernel
theorem dX7_examples_5 : decode cX7_examples 5 = .ok (.astore_n 2, 1) := by decide +kernel
theorem dX7_examples_6 : decode cX7_examples 6 = .ok (.aload_n 2, 1) := by decide +kernel
theorem dX7_examples_7 : decode cX7_examples 7 = .ok (.ifnonnull 7, 3) := by decide +kernel
theorem dX7_examples_10 : decode cX7_examples 10 = .ok (.iconst (-1), 1) := by decide +kernel
theorem dX7_examples_11 : decode cX7_examples 11 = .ok (.goto 7, 3) := by decide +kernel
theorem dX7_examples_14 : decode cX7_examples 14 = .ok (.aload_n 2, 1) := by decide +kernel
theorem dX7_examples_15 : decode cX7_examples 15 = .ok (.invokevirtual 239, 3) := by decide +kernel
theorem dX7_examples_18 : decode cX7_examples 18 = .ok (.ireturn, 1) := by decide +kernel
theorem dX7_begin_0 : decode cX7_begin 0 = .ok (.iload_n 1, 1) := by decide +kernel
theorem dX7_begin_1 : decode cX7_begin 1 = .ok (.ifCond .lt 34, 3) := by decide +kernel
theorem dX7_begin_4 : decode cX7_begin 4 = .ok (.iload_n 1, 1) := by decide +kernel
theorem dX7_begin_5 : decode cX7_begin 5 = .ok (.iconst 4, 1) := by decide +kernel
theorem dX7_begin_6 : decode cX7_begin 6 = .ok (.if_icmp .ge 29, 3) := by decide +kernel
theorem dX7_begin_9 : decode cX7_begin 9 = .ok (.aload_n 0, 1) := by decide +kernel
theorem dX7_begin_10 : decode cX7_begin 10 = .ok (.getfield 18, 3) := by decide +kernel
theorem dX7_begin_13 : decode cX7_begin 13 = .ok (.iload_n 1, 1) := by decide +kernel
theorem dX7_begin_14 : decode cX7_begin 14 = .ok (.invokevirtual 242, 3) := by decide +kernel
theorem dX7_begin_17 : decode cX7_begin 17 = .ok (.iconst (-1), 1) := by decide +kernel
theorem dX7_begin_18 : decode cX7_begin 18 = .ok (.if_icmp .ne 17, 3) := by decide +kernel
theorem dX7_begin_21 : decode cX7_begin 21 = .ok (.aload_n 0, 1) := by decide +kernel
theorem dX7_begin_22 : decode cX7_begin 22 = .ok (.aload_n 0, 1) := by decide +kernel
theorem dX7_begin_23 : decode cX7_begin 23 = .ok (.getfield 18, 3) := by decide +kernel
theorem dX7_begin_26 : decode cX7_begin 26 = .ok (.getfield 245, 3) := by decide +kernel
theorem dX7_begin_29 : decode cX7_begin 29 = .ok (.invokevirtual 52, 3) := by decide +kernel
theorem dX7_begin_32 : decode cX7_begin 32 = .ok (.ifnonnull 5, 3) := by decide +kernel
theorem dX7_begin_35 : decode cX7_begin 35 = .ok (.iconst (-1), 1) := by decide +kernel
theorem dX7_begin_36 : decode cX7_begin 36 = .ok (.ireturn, 1) := by decide +kernel
theorem dX7_begin_37 : decode cX7_begin 37 = .ok (.aload_n 0, 1) := by decide +kernel
theorem dX7_begin_38 : decode cX7_begin 38 = .ok (.iconst (-1), 1) := by decide +kernel
theorem dX7_begin_39 : decode cX7_begin 39 = .ok (.invokevirtual 75, 3) := by decide +kernel
theorem dX7_begin_42 : decode cX7_begin 42 = .ok (.aload_n 0, 1) := by decide +kernel
theorem dX7_begin_43 : decode cX7_begin 43 = .ok (.getfield 18, 3) := by decide +kernel
theorem dX7_begin_46 : decode cX7_begin 46 = .ok (.iload_n 1, 1) := by decide +kernel
theorem dX7_begin_47 : decode cX7_begin 47 = .ok (.aload_n 0, 1) := by decide +kernel
theorem dX7_begin_48 : decode cX7_begin 48 = .ok (.getfield 18, 3) := by decide +kernel
theorem dX7_begin_51 : decode cX7_begin 51 = .ok (.getfield 245, 3) := by decide +kernel
theorem dX7_begin_54 : decode cX7_begin 54 = .ok (.invokevirtual 248, 3) := by decide +kernel
theorem dX7_begin_57 : decode cX7_begin 57 = .ok (.aload_n 0, 1) := by decide +kernel
theorem dX7_begin_58 : decode cX7_begin 58 = .ok (.getfield 18, 3) := by decide +kernel
theorem dX7_begin_61 : decode cX7_begin 61 = .ok (.getfield 245, 3) := by decide +kernel
theorem dX7_begin_64 : decode cX7_begin 64 = .ok (.ireturn, 1) := by decide +kernel
theorem dX7_write_0 : decode cX7_write 0 = .ok (.aload_n 0, 1) := by decide +kernel
theorem dX7_write_1 : decode cX7_write 1 = .ok (.aload_n 0, 1) := by decide +kernel
theorem dX7_write_2 : decode cX7_write 2 = .ok (.getfield 18, 3) := by decide +kernel
theorem dX7_write_5 : decode cX7_write 5 = .ok (.iload_n 1, 1) := by decide +kernel
theorem dX7_write_6 : decode cX7_write 6 = .ok (.invokevirtual 242, 3) := by decide +kernel
theorem dX7_write_9 : decode cX7_write 9 = .ok (.lload_n 2, 1) := by decide +kernel
theorem dX7_write_10 : decode cX7_write 10 = .ok (.lload 4, 2) := by decide +kernel
theorem dX7_write_12 : decode cX7_write 12 = .ok (.lload 6, 2) := by decide +kernel
theorem dX7_write_14 : decode cX7_write 14 = .ok (.invokevirtual 251, 3) := by decide +kernel
theorem dX7_write_17 : decode cX7_write 17 = .ok (.lreturn, 1) := by decide +kernel
theorem dX7_stop_0 : decode cX7_stop 0 = .ok (.aload_n 0, 1) := by decide +kernel
theorem dX7_stop_1 : decode cX7_stop 1 = .ok (.getfield 18, 3) := by decide +kernel
theorem dX7_stop_4 : decode cX7_stop 4 = .ok (.iload_n 1, 1) := by decide +kernel
theorem dX7_stop_5 : decode cX7_stop 5 = .ok (.invokevirtual 242, 3) := by decide +kernel
theorem dX7_stop_8 : decode cX7_stop 8 = .ok (.iconst (-1), 1) := by decide +kernel
theorem dX7_stop_9 : decode cX7_stop 9 = .ok (.if_icmp .ne 5, 3) := by decide +kernel
theorem dX7_stop_12 : decode cX7_stop 12 = .ok (.iconst (-1), 1) := by decide +kernel
theorem dX7_stop_13 : decode cX7_stop 13 = .ok (.ireturn, 1) := by decide +kernel
theorem dX7_stop_14 : decode cX7_stop 14 = .ok (.aload_n 0, 1) := by decide +kernel
theorem dX7_stop_15 : decode cX7_stop 15 = .ok (.iconst (-1), 1) := by decide +kernel
theorem dX7_stop_16 : decode cX7_stop 16 = .ok (.invokevirtual 75, 3) := by decide +kernel
theorem dX7_stop_19 : decode cX7_stop 19 = .ok (.aload_n 0, 1) := by decide +kernel
theorem dX7_stop_20 : decode cX7_stop 20 = .ok (.getfield 18, 3) := by decide +kernel
theorem dX7_stop_23 : decode cX7_stop 23 = .ok (.iload_n 1, 1) := by decide +kernel
theorem dX7_stop_24 : decode cX7_stop 24 = .ok (.iconst (-1), 1) := by decide +kernel
theorem dX7_stop_25 : decode cX7_stop 25 = .ok (.invokevirtual 248, 3) := by decide +kernel
theorem dX7_stop_28 : decode cX7_stop 28 = .ok (.aload_n 0, 1) := by decide +kernel
theorem dX7_stop_29 : decode cX7_stop 29 = .ok (.getfield 18, 3) := by decide +kernel
theorem dX7_stop_32 : decode cX7_stop 32 = .ok (.invokevirtual 255, 3) := by decide +kernel
theorem dX7_stop_35 : decode cX7_stop 35 = .ok (.invokestatic 258, 3) := by decide +kernel
theorem dX7_stop_38 : decode cX7_stop 38 = .ok (.ireturn, 1) := by decide +kernel
theorem dX7_swap_0 : decode cX7_swap 0 = .ok (.aload_n 0, 1) := by decide +kernel
theorem dX7_swap_1 : decode cX7_swap 1 = .ok (.iconst 1, 1) := by decide +kernel
theorem dX7_swap_2 : decode cX7_swap 2 = .ok (.aload_n 0, 1) := by decide +kernel
theorem dX7_swap_3 : decode cX7_swap 3 = .ok (.getfield 18, 3) := by decide +kernel
theorem dX7_swap_6 : decode cX7_swap 6 = .ok (.getfield 245, 3) := by decide +kernel
theorem dX7_swap_9 : decode cX7_swap 9 = .ok (.isub, 1) := by decide +kernel
theorem dX7_swap_10 : decode cX7_swap 10 = .ok (.invokevirtual 52, 3) := by decide +kernel
theorem dX7_swap_13 : decode cX7_swap 13 = .ok (.astore_n 1, 1) := by decide +kernel
theorem dX7_swap_14 : decode cX7_swap 14 = .ok (.aload_n 1, 1) := by decide +kernel
theorem dX7_swap_15 : decode cX7_swap 15 = .ok (.ifnull 17, 3) := by decide +kernel
theorem dX7_swap_18 : decode cX7_swap 18 = .ok (.aload_n 0, 1) := by decide +kernel
theorem dX7_swap_19 : decode cX7_swap 19 = .ok (.aload_n 0, 1) := by decide +kernel
theorem dX7_swap_20 : decode cX7_swap 20 = .ok (.getfield 18, 3) := by decide +kernel
theorem dX7_swap_23 : decode cX7_swap 23 = .ok (.getfield 245, 3) := by decide +kernel
theorem dX7_swap_26 : decode cX7_swap 26 = .ok (.invokevirtual 52, 3) := by decide +kernel
theorem dX7_swap_29 : decode cX7_swap 29 = .ok (.ifnonnull 5, 3) := by decide +kernel
theorem dX7_swap_32 : decode cX7_swap 32 = .ok (.iconst (-1), 1) := by decide +kernel
theorem dX7_swap_33 : decode cX7_swap 33 = .ok (.ireturn, 1) := by decide +kernel
theorem dX7_swap_34 : decode cX7_swap 34 = .ok (.aload_n 0, 1) := by decide +kernel
theorem dX7_swap_35 : decode cX7_swap 35 = .ok (.getfield 18, 3) := by decide +kernel
theorem dX7_swap_38 : decode cX7_swap 38 = .ok (.iconst 1, 1) := by decide +kernel
theorem dX7_swap_39 : decode cX7_swap 39 = .ok (.aload_n 0, 1) := by decide +kernel
theorem dX7_swap_40 : decode cX7_swap 40 = .ok (.getfield 18, 3) := by decide +kernel
theorem dX7_swap_43 : decode cX7_swap 43 = .ok (.getfield 245, 3) := by decide +kernel
theorem dX7_swap_46 : decode cX7_swap 46 = .ok (.isub, 1) := by decide +kernel
theorem dX7_swap_47 : decode cX7_swap 47 = .ok (.invokevirtual 263, 3) := by decide +kernel
theorem dX7_swap_50 : decode cX7_swap 50 = .ok (.ifCond .eq 6, 3) := by decide +kernel
theorem dX7_swap_53 : decode cX7_swap 53 = .ok (.bipush (-2), 2) := by decide +kernel
theorem dX7_swap_55 : decode cX7_swap 55 = .ok (.ireturn, 1) := by decide +kernel
theorem dX7_swap_56 : decode cX7_swap 56 = .ok (.aload_n 0, 1) := by decide +kernel
theorem dX7_swap_57 : decode cX7_swap 57 = .ok (.iconst 1, 1) := by decide +kernel
theorem dX7_swap_58 : decode cX7_swap 58 = .ok (.aload_n 0, 1) := by decide +kernel
theorem dX7_swap_59 : decode cX7_swap 59 = .ok (.getfield 18, 3) := by decide +kernel
theorem dX7_swap_62 : decode cX7_swap 62 = .ok (.getfield 245, 3) := by decide +kernel
theorem dX7_swap_65 : decode cX7_swap 65 = .ok (.isub, 1) := by decide +kernel
theorem dX7_swap_66 : decode cX7_swap 66 = .ok (.invokevirtual 75, 3) := by decide +kernel
theorem dX7_swap_69 : decode cX7_swap 69 = .ok (.aload_n 1, 1) := by decide +kernel
theorem dX7_swap_70 : decode cX7_swap 70 = .ok (.invokevirtual 266, 3) := by decide +kernel
theorem dX7_swap_73 : decode cX7_swap 73 = .ok (.aload_n 0, 1) := by decide +kernel
theorem dX7_swap_74 : decode cX7_swap 74 = .ok (.getfield 18, 3) := by decide +kernel
theorem dX7_swap_77 : decode cX7_swap 77 = .ok (.aload_n 0, 1) := by decide +kernel
theorem dX7_swap_78 : decode cX7_swap 78 = .ok (.getfield 18, 3) := by decide +kernel
theorem dX7_swap_81 : decode cX7_swap 81 = .ok (.getfield 245, 3) := by decide +kernel
theorem dX7_swap_84 : decode cX7_swap 84 = .ok (.putfield 269, 3) := by decide +kernel
theorem dX7_swap_87 : decode cX7_swap 87 = .ok (.aload_n 0, 1) := by decide +kernel
theorem dX7_swap_88 : decode cX7_swap 88 = .ok (.getfield 18, 3) := by decide +kernel
theorem dX7_swap_91 : decode cX7_swap 91 = .ok (.iconst 1, 1) := by decide +kernel
theorem dX7_swap_92 : decode cX7_swap 92 = .ok (.aload_n 0, 1) := by decide +kernel
theorem dX7_swap_93 : decode cX7_swap 93 = .ok (.getfield 18, 3) := by decide +kernel
theorem dX7_swap_96 : decode cX7_swap 96 = .ok (.getfield 245, 3) := by decide +kernel
theorem dX7_swap_99 : decode cX7_swap 99 = .ok (.isub, 1) := by decide +kernel
theorem dX7_swap_100 : decode cX7_swap 100 = .ok (.putfield 245, 3) := by decide +kernel
theorem dX7_swap_103 : decode cX7_swap 103 = .ok (.aload_n 0, 1) := by decide +kernel
theorem dX7_swap_104 : decode cX7_swap 104 = .ok (.getfield 18, 3) := by decide +kernel
theorem dX7_swap_107 : decode cX7_swap 107 = .ok (.getfield 245, 3) := by decide +kernel
theorem dX7_swap_110 : decode cX7_swap 110 = .ok (.ireturn, 1) := by decide +kernel
theorem dX7_read_0 : decode cX7_read 0 = .ok (.aload_n 0, 1) := by decide +kernel
theorem dX7_read_1 : decode cX7_read 1 = .ok (.aload_n 0, 1) := by decide +kernel
theorem dX7_read_2 : decode cX7_read 2 = .ok (.getfield 18, 3) := by decide +kernel
theorem dX7_read_5 : decode cX7_read 5 = .ok (.getfield 269, 3) := by decide +kernel
theorem dX7_read_8 : decode cX7_read 8 = .ok (.invokevirtual 52, 3) := by decide +kernel
theorem dX7_read_11 : decode cX7_read 11 = .ok (.astore_n 1, 1) := by decide +kernel
theorem dX7_read_12 : decode cX7_read 12 = .ok (.aload_n 1, 1) := by decide +kernel
theorem dX7_read_13 : decode cX7_read 13 = .ok (.ifnonnull 7, 3) := by decide +kernel
theorem dX7_read_16 : decode cX7_read 16 = .ok (.ldc2_w 89, 3) := by decide +kernel
theorem dX7_read_19 : decode cX7_read 19 = .ok (.lreturn, 1) := by decide +kernel
theorem dX7_read_20 : decode cX7_read 20 = .ok (.aload_n 0, 1) := by decide +kernel
theorem dX7_read_21 : decode cX7_read 21 = .ok (.getfield 18, 3) := by decide +kernel
theorem dX7_read_24 : decode cX7_read 24 = .ok (.aload_n 0, 1) := by decide +kernel
theorem dX7_read_25 : decode cX7_read 25 = .ok (.getfield 18, 3) := by decide +kernel
theorem dX7_read_28 : decode cX7_read 28 = .ok (.getfield 269, 3) := by decide +kernel
theorem dX7_read_31 : decode cX7_read 31 = .ok (.invokevirtual 263, 3) := by decide +kernel
theorem dX7_read_34 : decode cX7_read 34 = .ok (.ifCond .eq 9, 3) := by decide +kernel
theorem dX7_read_37 : decode cX7_read 37 = .ok (.ldc2_w 115, 3) := by decide +kernel
theorem dX7_read_40 : decode cX7_read 40 = .ok (.goto 7, 3) := by decide +kernel
theorem dX7_read_43 : decode cX7_read 43 = .ok (.aload_n 1, 1) := by decide +kernel
theorem dX7_read_44 : decode cX7_read 44 = .ok (.invokevirtual 131, 3) := by decide +kernel
theorem dX7_read_47 : decode cX7_read 47 = .ok (.lreturn, 1) := by decide +kernel
theorem dX7_undo_0 : decode cX7_undo 0 = .ok (.aload_n 0, 1) := by decide +kernel
theorem dX7_undo_1 : decode cX7_undo 1 = .ok (.getfield 35, 3) := by decide +kernel
theorem dX7_undo_4 : decode cX7_undo 4 = .ok (.invokevirtual 272, 3) := by decide +kernel
theorem dX7_undo_7 : decode cX7_undo 7 = .ok (.astore_n 1, 1) := by decide +kernel
theorem dX7_undo_8 : decode cX7_undo 8 = .ok (.aload_n 1, 1) := by decide +kernel
theorem dX7_undo_9 : decode cX7_undo 9 = .ok (.ifnonnull 5, 3) := by decide +kernel
theorem dX7_undo_12 : decode cX7_undo 12 = .ok (.iconst (-1), 1) := by decide +kernel
theorem dX7_undo_13 : decode cX7_undo 13 = .ok (.ireturn, 1) := by decide +kernel
theorem dX7_undo_14 : decode cX7_undo 14 = .ok (.aload_n 0, 1) := by decide +kernel
theorem dX7_undo_15 : decode cX7_undo 15 = .ok (.aload_n 1, 1) := by decide +kernel
theorem dX7_undo_16 : decode cX7_undo 16 = .ok (.getfield 276, 3) := by decide +kernel
theorem dX7_undo_19 : decode cX7_undo 19 = .ok (.invokevirtual 64, 3) := by decide +kernel
theorem dX7_undo_22 : decode cX7_undo 22 = .ok (.astore_n 2, 1) := by decide +kernel
theorem dX7_undo_23 : decode cX7_undo 23 = .ok (.aload_n 2, 1) := by decide +kernel
theorem dX7_undo_24 : decode cX7_undo 24 = .ok (.ifnull 11, 3) := by decide +kernel
theorem dX7_undo_27 : decode cX7_undo 27 = .ok (.aload_n 2, 1) := by decide +kernel
theorem dX7_undo_28 : decode cX7_undo 28 = .ok (.aload_n 1, 1) := by decide +kernel
theorem dX7_undo_29 : decode cX7_undo 29 = .ok (.getfield 281, 3) := by decide +kernel
theorem dX7_undo_32 : decode cX7_undo 32 = .ok (.invokevirtual 285, 3) := by decide +kernel
theorem dX7_undo_35 : decode cX7_undo 35 = .ok (.aload_n 0, 1) := by decide +kernel
theorem dX7_undo_36 : decode cX7_undo 36 = .ok (.getfield 18, 3) := by decide +kernel
theorem dX7_undo_39 : decode cX7_undo 39 = .ok (.aload_n 1, 1) := by decide +kernel
theorem dX7_undo_40 : decode cX7_undo 40 = .ok (.getfield 287, 3) := by decide +kernel
theorem dX7_undo_43 : decode cX7_undo 43 = .ok (.invokevirtual 288, 3) := by decide +kernel
theorem dX7_undo_46 : decode cX7_undo 46 = .ok (.aload_n 0, 1) := by decide +kernel
theorem dX7_undo_47 : decode cX7_undo 47 = .ok (.getfield 35, 3) := by decide +kernel
theorem dX7_undo_50 : decode cX7_undo 50 = .ok (.getfield 291, 3) := by decide +kernel
theorem dX7_undo_53 : decode cX7_undo 53 = .ok (.ireturn, 1) := by decide +kernel
theorem dX7_count_0 : decode cX7_count 0 = .ok (.iload_n 1, 1) := by decide +kernel
theorem dX7_count_1 : decode cX7_count 1 = .ok (.tableswitch 84 0 5 #[39, 44, 52, 60, 68, 76], 39) := by decide +kernel
theorem dX7_count_40 : decode cX7_count 40 = .ok (.aload_n 0, 1) := by decide +kernel
theorem dX7_count_41 : decode cX7_count 41 = .ok (.invokevirtual 294, 3) := by decide +kernel
theorem dX7_count_44 : decode cX7_count 44 = .ok (.ireturn, 1) := by decide +kernel
theorem dX7_count_45 : decode cX7_count 45 = .ok (.aload_n 0, 1) := by decide +kernel
theorem dX7_count_46 : decode cX7_count 46 = .ok (.getfield 18, 3) := by decide +kernel
theorem dX7_count_49 : decode cX7_count 49 = .ok (.getfield 245, 3) := by decide +kernel
theorem dX7_count_52 : decode cX7_count 52 = .ok (.ireturn, 1) := by decide +kernel
theorem dX7_count_53 : decode cX7_count 53 = .ok (.aload_n 0, 1) := by decide +kernel
theorem dX7_count_54 : decode cX7_count 54 = .ok (.getfield 18, 3) := by decide +kernel
theorem dX7_count_57 : decode cX7_count 57 = .ok (.invokevirtual 255, 3) := by decide +kernel
theorem dX7_count_60 : decode cX7_count 60 = .ok (.ireturn, 1) := by decide +kernel
theorem dX7_count_61 : decode cX7_count 61 = .ok (.aload_n 0, 1) := by decide +kernel
theorem dX7_count_62 : decode cX7_count 62 = .ok (.getfield 18, 3) := by decide +kernel
theorem dX7_count_65 : decode cX7_count 65 = .ok (.getfield 269, 3) := by decide +kernel
theorem dX7_count_68 : decode cX7_count 68 = .ok (.ireturn, 1) := by decide +kernel
theorem dX7_count_69 : decode cX7_count 69 = .ok (.aload_n 0, 1) := by decide +kernel
theorem dX7_count_70 : decode cX7_count 70 = .ok (.getfield 35, 3) := by decide +kernel
theorem dX7_count_73 : decode cX7_count 73 = .ok (.getfield 291, 3) := by decide +kernel
theorem dX7_count_76 : decode cX7_count 76 = .ok (.ireturn, 1) := by decide +kernel
theorem dX7_count_77 : decode cX7_count 77 = .ok (.aload_n 0, 1) := by decide +kernel
theorem dX7_count_78 : decode cX7_count 78 = .ok (.getfield 25, 3) := by decide +kernel
theorem dX7_count_81 : decode cX7_count 81 = .ok (.getfield 40, 3) := by decide +kernel
theorem dX7_count_84 : decode cX7_count 84 = .ok (.ireturn, 1) := by decide +kernel
theorem dX7_count_85 : decode cX7_count 85 = .ok (.iconst (-1), 1) := by decide +kernel
theorem dX7_count_86 : decode cX7_count 86 = .ok (.ireturn, 1) := by decide +kernel
theorem dX7_ledgerAt_0 : decode cX7_ledgerAt 0 = .ok (.iload_n 1, 1) := by decide +kernel
theorem dX7_ledgerAt_1 : decode cX7_ledgerAt 1 = .ok (.ifCond .lt 12, 3) := by decide +kernel
theorem dX7_ledgerAt_4 : decode cX7_ledgerAt 4 = .ok (.iload_n 1, 1) := by decide +kernel
theorem dX7_ledgerAt_5 : decode cX7_ledgerAt 5 = .ok (.aload_n 0, 1) := by decide +kernel
theorem dX7_ledgerAt_6 : decode cX7_ledgerAt 6 = .ok (.getfield 11, 3) := by decide +kernel
theorem dX7_ledgerAt_9 : decode cX7_ledgerAt 9 = .ok (.arraylength, 1) := by decide +kernel
theorem dX7_ledgerAt_10 : decode cX7_ledgerAt 10 = .ok (.if_icmp .lt 7, 3) := by decide +kernel
theorem dX7_ledgerAt_13 : decode cX7_ledgerAt 13 = .ok (.aconst_null, 1) := by decide +kernel
theorem dX7_ledgerAt_14 : decode cX7_ledgerAt 14 = .ok (.goto 9, 3) := by decide +kernel
theorem dX7_ledgerAt_17 : decode cX7_ledgerAt 17 = .ok (.aload_n 0, 1) := by decide +kernel
theorem dX7_ledgerAt_18 : decode cX7_ledgerAt 18 = .ok (.getfield 11, 3) := by decide +kernel
theorem dX7_ledgerAt_21 : decode cX7_ledgerAt 21 = .ok (.iload_n 1, 1) := by decide +kernel
theorem dX7_ledgerAt_22 : decode cX7_ledgerAt 22 = .ok (.aaload, 1) := by decide +kernel
theorem dX7_ledgerAt_23 : decode cX7_ledgerAt 23 = .ok (.areturn, 1) := by decide +kernel
theorem dX7_madeAt_0 : decode cX7_madeAt 0 = .ok (.aload_n 0, 1) := by decide +kernel
theorem dX7_madeAt_1 : decode cX7_madeAt 1 = .ok (.iload_n 1, 1) := by decide +kernel
theorem dX7_madeAt_2 : decode cX7_madeAt 2 = .ok (.invokevirtual 64, 3) := by decide +kernel
theorem dX7_madeAt_5 : decode cX7_madeAt 5 = .ok (.astore_n 2, 1) := by decide +kernel
theorem dX7_madeAt_6 : decode cX7_madeAt 6 = .ok (.aload_n 2, 1) := by decide +kernel
theorem dX7_madeAt_7 : decode cX7_madeAt 7 = .ok (.ifnull 10, 3) := by decide +kernel
theorem dX7_madeAt_10 : decode cX7_madeAt 10 = .ok (.aload_n 2, 1) := by decide +kernel
theorem dX7_madeAt_11 : decode cX7_madeAt 11 = .ok (.getfield 297, 3) := by decide +kernel
theorem dX7_madeAt_14 : decode cX7_madeAt 14 = .ok (.ifCond .ne 7, 3) := by decide +kernel
theorem dX7_madeAt_17 : decode cX7_madeAt 17 = .ok (.aconst_null, 1) := by decide +kernel
theorem dX7_madeAt_18 : decode cX7_madeAt 18 = .ok (.goto 4, 3) := by decide +kernel
theorem dX7_madeAt_21 : decode cX7_madeAt 21 = .ok (.aload_n 2, 1) := by decide +kernel
theorem dX7_madeAt_22 : decode cX7_madeAt 22 = .ok (.areturn, 1) := by decide +kernel
theorem dX7_madeBits_0 : decode cX7_madeBits 0 = .ok (.iconst 0, 1) := by decide +kernel
theorem dX7_madeBits_1 : decode cX7_madeBits 1 = .ok (.istore_n 1, 1) := by decide +kernel
theorem dX7_madeBits_2 : decode cX7_madeBits 2 = .ok (.iconst 0, 1) := by decide +kernel
theorem dX7_madeBits_3 : decode cX7_madeBits 3 = .ok (.istore_n 2, 1) := by decide +kernel
theorem dX7_madeBits_4 : decode cX7_madeBits 4 = .ok (.iload_n 2, 1) := by decide +kernel
theorem dX7_madeBits_5 : decode cX7_madeBits 5 = .ok (.iconst 4, 1) := by decide +kernel
theorem dX7_madeBits_6 : decode cX7_madeBits 6 = .ok (.if_icmp .ge 23, 3) := by decide +kernel
theorem dX7_madeBits_9 : decode cX7_madeBits 9 = .ok (.aload_n 0, 1) := by decide +kernel
theorem dX7_madeBits_10 : decode cX7_madeBits 10 = .ok (.iload_n 2, 1) := by decide +kernel
theorem dX7_madeBits_11 : decode cX7_madeBits 11 = .ok (.invokevirtual 52, 3) := by decide +kernel
theorem dX7_madeBits_14 : decode cX7_madeBits 14 = .ok (.ifnull 9, 3) := by decide +kernel
theorem dX7_madeBits_17 : decode cX7_madeBits 17 = .ok (.iload_n 1, 1) := by decide +kernel
theorem dX7_madeBits_18 : decode cX7_madeBits 18 = .ok (.iconst 1, 1) := by decide +kernel
theorem dX7_madeBits_19 : decode cX7_madeBits 19 = .ok (.iload_n 2, 1) := by decide +kernel
theorem dX7_madeBits_20 : decode cX7_madeBits 20 = .ok (.ishl, 1) := by decide +kernel
theorem dX7_madeBits_21 : decode cX7_madeBits 21 = .ok (.ior, 1) := by decide +kernel
theorem dX7_madeBits_22 : decode cX7_madeBits 22 = .ok (.istore_n 1, 1) := by decide +kernel
theorem dX7_madeBits_23 : decode cX7_madeBits 23 = .ok (.iinc 2 1, 3) := by decide +kernel
theorem dX7_madeBits_26 : decode cX7_madeBits 26 = .ok (.goto (-22), 3) := by decide +kernel
theorem dX7_madeBits_29 : decode cX7_madeBits 29 = .ok (.iload_n 1, 1) := by decide +kernel
theorem dX7_madeBits_30 : decode cX7_madeBits 30 = .ok (.ireturn, 1) := by decide +kernel
theorem dX7_remember_0 : decode cX7_remember 0 = .ok (.aload_n 0, 1) := by decide +kernel
theorem dX7_remember_1 : decode cX7_remember 1 = .ok (.getfield 35, 3) := by decide +kernel
theorem dX7_remember_4 : decode cX7_remember 4 = .ok (.invokevirtual 301, 3) := by decide +kernel
theorem dX7_remember_7 : decode cX7_remember 7 = .ok (.astore_n 2, 1) := by decide +kernel
theorem dX7_remember_8 : decode cX7_remember 8 = .ok (.aload_n 2, 1) := by decide +kernel
theorem dX7_remember_9 : decode cX7_remember 9 = .ok (.ifnonnull 4, 3) := by decide +kernel
theorem dX7_remember_12 : decode cX7_remember 12 = .ok (.return_, 1) := by decide +kernel
theorem dX7_remember_13 : decode cX7_remember 13 = .ok (.aload_n 2, 1) := by decide +kernel
theorem dX7_remember_14 : decode cX7_remember 14 = .ok (.iload_n 1, 1) := by decide +kernel
theorem dX7_remember_15 : decode cX7_remember 15 = .ok (.putfield 276, 3) := by decide +kernel
theorem dX7_remember_18 : decode cX7_remember 18 = .ok (.aload_n 2, 1) := by decide +kernel
theorem dX7_remember_19 : decode cX7_remember 19 = .ok (.getfield 287, 3) := by decide +kernel
theorem dX7_remember_22 : decode cX7_remember 22 = .ok (.aload_n 0, 1) := by decide +kernel
theorem dX7_remember_23 : decode cX7_remember 23 = .ok (.getfield 18, 3) := by decide +kernel
theorem dX7_remember_26 : decode cX7_remember 26 = .ok (.invokevirtual 288, 3) := by decide +kernel
theorem dX7_remember_29 : decode cX7_remember 29 = .ok (.aload_n 0, 1) := by decide +kernel
theorem dX7_remember_30 : decode cX7_remember 30 = .ok (.iload_n 1, 1) := by decide +kernel
theorem dX7_remember_31 : decode cX7_remember 31 = .ok (.invokevirtual 64, 3) := by decide +kernel
theorem dX7_remember_34 : decode cX7_remember 34 = .ok (.astore_n 3, 1) := by decide +kernel
theorem dX7_remember_35 : decode cX7_remember 35 = .ok (.aload_n 3, 1) := by decide +kernel
theorem dX7_remember_36 : decode cX7_remember 36 = .ok (.ifnull 11, 3) := by decide +kernel
theorem dX7_remember_39 : decode cX7_remember 39 = .ok (.aload_n 2, 1) := by decide +kernel
theorem dX7_remember_40 : decode cX7_remember 40 = .ok (.getfield 281, 3) := by decide +kernel
theorem dX7_remember_43 : decode cX7_remember 43 = .ok (.aload_n 3, 1) := by decide +kernel
theorem dX7_remember_44 : decode cX7_remember 44 = .ok (.invokevirtual 285, 3) := by decide +kernel
theorem dX7_remember_47 : decode cX7_remember 47 = .ok (.return_, 1) := by decide +kernel
theorem dX7_merge_0 : decode cX7_merge 0 = .ok (.aload_n 0, 1) := by decide +kernel
theorem dX7_merge_1 : decode cX7_merge 1 = .ok (.iload_n 1, 1) := by decide +kernel
theorem dX7_merge_2 : decode cX7_merge 2 = .ok (.invokevirtual 52, 3) := by decide +kernel
theorem dX7_merge_5 : decode cX7_merge 5 = .ok (.astore 4, 2) := by decide +kernel
theorem dX7_merge_7 : decode cX7_merge 7 = .ok (.aload_n 0, 1) := by decide +kernel
theorem dX7_merge_8 : decode cX7_merge 8 = .ok (.iload_n 2, 1) := by decide +kernel
theorem dX7_merge_9 : decode cX7_merge 9 = .ok (.invokevirtual 52, 3) := by decide +kernel
theorem dX7_merge_12 : decode cX7_merge 12 = .ok (.astore 5, 2) := by decide +kernel
theorem dX7_merge_14 : decode cX7_merge 14 = .ok (.aload 4, 2) := by decide +kernel
theorem dX7_merge_16 : decode cX7_merge 16 = .ok (.ifnull 8, 3) := by decide +kernel
theorem dX7_merge_19 : decode cX7_merge 19 = .ok (.aload 5, 2) := by decide +kernel
theorem dX7_merge_21 : decode cX7_merge 21 = .ok (.ifnonnull 7, 3) := by decide +kernel
theorem dX7_merge_24 : decode cX7_merge 24 = .ok (.ldc2_w 89, 3) := by decide +kernel
theorem dX7_merge_27 : decode cX7_merge 27 = .ok (.lreturn, 1) := by decide +kernel
theorem dX7_merge_28 : decode cX7_merge 28 = .ok (.aload 4, 2) := by decide +kernel
theorem dX7_merge_30 : decode cX7_merge 30 = .ok (.aload 5, 2) := by decide +kernel
theorem dX7_merge_32 : decode cX7_merge 32 = .ok (.iload_n 3, 1) := by decide +kernel
theorem dX7_merge_33 : decode cX7_merge 33 = .ok (.invokevirtual 304, 3) := by decide +kernel
theorem dX7_merge_36 : decode cX7_merge 36 = .ok (.ifCond .ne 7, 3) := by decide +kernel
theorem dX7_merge_39 : decode cX7_merge 39 = .ok (.ldc2_w 115, 3) := by decide +kernel
theorem dX7_merge_42 : decode cX7_merge 42 = .ok (.lreturn, 1) := by decide +kernel
theorem dX7_merge_43 : decode cX7_merge 43 = .ok (.aload_n 0, 1) := by decide +kernel
theorem dX7_merge_44 : decode cX7_merge 44 = .ok (.iload_n 1, 1) := by decide +kernel
theorem dX7_merge_45 : decode cX7_merge 45 = .ok (.invokevirtual 75, 3) := by decide +kernel
theorem dX7_merge_48 : decode cX7_merge 48 = .ok (.aload 4, 2) := by decide +kernel
theorem dX7_merge_50 : decode cX7_merge 50 = .ok (.aload 5, 2) := by decide +kernel
theorem dX7_merge_52 : decode cX7_merge 52 = .ok (.iload_n 3, 1) := by decide +kernel
theorem dX7_merge_53 : decode cX7_merge 53 = .ok (.invokevirtual 308, 3) := by decide +kernel
theorem dX7_merge_56 : decode cX7_merge 56 = .ok (.aload 4, 2) := by decide +kernel
theorem dX7_merge_58 : decode cX7_merge 58 = .ok (.invokevirtual 131, 3) := by decide +kernel
theorem dX7_merge_61 : decode cX7_merge 61 = .ok (.lreturn, 1) := by decide +kernel
theorem dX7_isSetting_0 : decode cX7_isSetting 0 = .ok (.iload_n 0, 1) := by decide +kernel
theorem dX7_isSetting_1 : decode cX7_isSetting 1 = .ok (.ifCond .eq 8, 3) := by decide +kernel
theorem dX7_isSetting_4 : decode cX7_isSetting 4 = .ok (.iload_n 0, 1) := by decide +kernel
theorem dX7_isSetting_5 : decode cX7_isSetting 5 = .ok (.iconst 1, 1) := by decide +kernel
theorem dX7_isSetting_6 : decode cX7_isSetting 6 = .ok (.if_icmp .ne 33, 3) := by decide +kernel
theorem dX7_isSetting_9 : decode cX7_isSetting 9 = .ok (.iload_n 1, 1) := by decide +kernel
theorem dX7_isSetting_10 : decode cX7_isSetting 10 = .ok (.iconst 1, 1) := by decide +kernel
theorem dX7_isSetting_11 : decode cX7_isSetting 11 = .ok (.if_icmp .eq 8, 3) := by decide +kernel
theorem dX7_isSetting_14 : decode cX7_isSetting 14 = .ok (.iload_n 1, 1) := by decide +kernel
theorem dX7_isSetting_15 : decode cX7_isSetting 15 = .ok (.iconst 2, 1) := by decide +kernel
theorem dX7_isSetting_16 : decode cX7_isSetting 16 = .ok (.if_icmp .ne 23, 3) := by decide +kernel
theorem dX7_isSetting_19 : decode cX7_isSetting 19 = .ok (.lload_n 2, 1) := by decide +kernel
theorem dX7_isSetting_20 : decode cX7_isSetting 20 = .ok (.ldc2_w 312, 3) := by decide +kernel
theorem dX7_isSetting_23 : decode cX7_isSetting 23 = .ok (.lcmp, 1) := by decide +kernel
theorem dX7_isSetting_24 : decode cX7_isSetting 24 = .ok (.ifCond .lt 15, 3) := by decide +kernel
theorem dX7_isSetting_27 : decode cX7_isSetting 27 = .ok (.lload_n 2, 1) := by decide +kernel
theorem dX7_isSetting_28 : decode cX7_isSetting 28 = .ok (.ldc2_w 109, 3) := by decide +kernel
theorem dX7_isSetting_31 : decode cX7_isSetting 31 = .ok (.lcmp, 1) := by decide +kernel
theorem dX7_isSetting_32 : decode cX7_isSetting 32 = .ok (.ifCond .gt 7, 3) := by decide +kernel
theorem dX7_isSetting_35 : decode cX7_isSetting 35 = .ok (.iconst 1, 1) := by decide +kernel
theorem dX7_isSetting_36 : decode cX7_isSetting 36 = .ok (.goto 4, 3) := by decide +kernel
theorem dX7_isSetting_39 : decode cX7_isSetting 39 = .ok (.iconst 0, 1) := by decide +kernel
theorem dX7_isSetting_40 : decode cX7_isSetting 40 = .ok (.ireturn, 1) := by decide +kernel
theorem dX7_isMark_0 : decode cX7_isMark 0 = .ok (.iload_n 0, 1) := by decide +kernel
theorem dX7_isMark_1 : decode cX7_isMark 1 = .ok (.ifCond .lt 13, 3) := by decide +kernel
theorem dX7_isMark_4 : decode cX7_isMark 4 = .ok (.iload_n 0, 1) := by decide +kernel
theorem dX7_isMark_5 : decode cX7_isMark 5 = .ok (.bipush 100, 2) := by decide +kernel
theorem dX7_isMark_7 : decode cX7_isMark 7 = .ok (.if_icmp .gt 7, 3) := by decide +kernel
theorem dX7_isMark_10 : decode cX7_isMark 10 = .ok (.iconst 1, 1) := by decide +kernel
theorem dX7_isMark_11 : decode cX7_isMark 11 = .ok (.goto 4, 3) := by decide +kernel
theorem dX7_isMark_14 : decode cX7_isMark 14 = .ok (.iconst 0, 1) := by decide +kernel
theorem dX7_isMark_15 : decode cX7_isMark 15 = .ok (.ireturn, 1) := by decide +kernel
theorem dX7_isPokeHow_0 : decode cX7_isPokeHow 0 = .ok (.iload_n 0, 1) := by decide +kernel
theorem dX7_isPokeHow_1 : decode cX7_isPokeHow 1 = .ok (.iconst 1, 1) := by decide +kernel
theorem dX7_isPokeHow_2 : decode cX7_isPokeHow 2 = .ok (.if_icmp .lt 9, 3) := by decide +kernel
theorem dX7_isPokeHow_5 : decode cX7_isPokeHow 5 = .ok (.iload_n 0, 1) := by decide +kernel
theorem dX7_isPokeHow_6 : decode cX7_isPokeHow 6 = .ok (.bipush 8, 2) := by decide +kernel
theorem dX7_isPokeHow_8 : decode cX7_isPokeHow 8 = .ok (.if_icmp .le 15, 3) := by decide +kernel
theorem dX7_isPokeHow_11 : decode cX7_isPokeHow 11 = .ok (.iload_n 0, 1) := by decide +kernel
theorem dX7_isPokeHow_12 : decode cX7_isPokeHow 12 = .ok (.bipush 10, 2) := by decide +kernel
theorem dX7_isPokeHow_14 : decode cX7_isPokeHow 14 = .ok (.if_icmp .le 13, 3) := by decide +kernel
theorem dX7_isPokeHow_17 : decode cX7_isPokeHow 17 = .ok (.iload_n 0, 1) := by decide +kernel
theorem dX7_isPokeHow_18 : decode cX7_isPokeHow 18 = .ok (.bipush 21, 2) := by decide +kernel
theorem dX7_isPokeHow_20 : decode cX7_isPokeHow 20 = .ok (.if_icmp .gt 7, 3) := by decide +kernel
theorem dX7_isPokeHow_23 : decode cX7_isPokeHow 23 = .ok (.iconst 1, 1) := by decide +kernel
theorem dX7_isPokeHow_24 : decode cX7_isPokeHow 24 = .ok (.goto 4, 3) := by decide +kernel
theorem dX7_isPokeHow_27 : decode cX7_isPokeHow 27 = .ok (.iconst 0, 1) := by decide +kernel
theorem dX7_isPokeHow_28 : decode cX7_isPokeHow 28 = .ok (.ireturn, 1) := by decide +kernel
theorem dX7_bitsOf_0 : decode cX7_bitsOf 0 = .ok (.iload_n 0, 1) := by decide +kernel
theorem dX7_bitsOf_1 : decode cX7_bitsOf 1 = .ok (.iconst 1, 1) := by decide +kernel
theorem dX7_bitsOf_2 : decode cX7_bitsOf 2 = .ok (.if_icmp .ne 7, 3) := by decide +kernel
theorem dX7_bitsOf_5 : decode cX7_bitsOf 5 = .ok (.iconst 5, 1) := by decide +kernel
theorem dX7_bitsOf_6 : decode cX7_bitsOf 6 = .ok (.goto 5, 3) := by decide +kernel
theorem dX7_bitsOf_9 : decode cX7_bitsOf 9 = .ok (.bipush 8, 2) := by decide +kernel
theorem dX7_bitsOf_11 : decode cX7_bitsOf 11 = .ok (.ireturn, 1) := by decide +kernel
theorem dX7_slotOf_0 : decode cX7_slotOf 0 = .ok (.iload_n 0, 1) := by decide +kernel
theorem dX7_slotOf_1 : decode cX7_slotOf 1 = .ok (.invokestatic 314, 3) := by decide +kernel
theorem dX7_slotOf_4 : decode cX7_slotOf 4 = .ok (.istore_n 3, 1) := by decide +kernel
theorem dX7_slotOf_5 : decode cX7_slotOf 5 = .ok (.iconst 0, 1) := by decide +kernel
theorem dX7_slotOf_6 : decode cX7_slotOf 6 = .ok (.bipush 64, 2) := by decide +kernel
theorem dX7_slotOf_8 : decode cX7_slotOf 8 = .ok (.lload_n 1, 1) := by decide +kernel
theorem dX7_slotOf_9 : decode cX7_slotOf 9 = .ok (.invokestatic 317, 3) := by decide +kernel
theorem dX7_slotOf_12 : decode cX7_slotOf 12 = .ok (.isub, 1) := by decide +kernel
theorem dX7_slotOf_13 : decode cX7_slotOf 13 = .ok (.iload_n 3, 1) := by decide +kernel
theorem dX7_slotOf_14 : decode cX7_slotOf 14 = .ok (.isub, 1) := by decide +kernel
theorem dX7_slotOf_15 : decode cX7_slotOf 15 = .ok (.invokestatic 323, 3) := by decide +kernel
theorem dX7_slotOf_18 : decode cX7_slotOf 18 = .ok (.istore 4, 2) := by decide +kernel
theorem dX7_slotOf_20 : decode cX7_slotOf 20 = .ok (.iload 4, 2) := by decide +kernel
theorem dX7_slotOf_22 : decode cX7_slotOf 22 = .ok (.iload_n 3, 1) := by decide +kernel
theorem dX7_slotOf_23 : decode cX7_slotOf 23 = .ok (.iconst 1, 1) := by decide +kernel
theorem dX7_slotOf_24 : decode cX7_slotOf 24 = .ok (.isub, 1) := by decide +kernel
theorem dX7_slotOf_25 : decode cX7_slotOf 25 = .ok (.ishl, 1) := by decide +kernel
theorem dX7_slotOf_26 : decode cX7_slotOf 26 = .ok (.lload_n 1, 1) := by decide +kernel
theorem dX7_slotOf_27 : decode cX7_slotOf 27 = .ok (.iload 4, 2) := by decide +kernel
theorem dX7_slotOf_29 : decode cX7_slotOf 29 = .ok (.lshr, 1) := by decide +kernel
theorem dX7_slotOf_30 : decode cX7_slotOf 30 = .ok (.l2i, 1) := by decide +kernel
theorem dX7_slotOf_31 : decode cX7_slotOf 31 = .ok (.iadd, 1) := by decide +kernel
theorem dX7_slotOf_32 : decode cX7_slotOf 32 = .ok (.ireturn, 1) := by decide +kernel
theorem dX7_shiftOf_0 : decode cX7_shiftOf 0 = .ok (.iconst 0, 1) := by decide +kernel
theorem dX7_shiftOf_1 : decode cX7_shiftOf 1 = .ok (.iload_n 1, 1) := by decide +kernel
theorem dX7_shiftOf_2 : decode cX7_shiftOf 2 = .ok (.iload_n 0, 1) := by decide +kernel
theorem dX7_shiftOf_3 : decode cX7_shiftOf 3 = .ok (.iconst 1, 1) := by decide +kernel
theorem dX7_shiftOf_4 : decode cX7_shiftOf 4 = .ok (.isub, 1) := by decide +kernel
theorem dX7_shiftOf_5 : decode cX7_shiftOf 5 = .ok (.ishr, 1) := by decide +kernel
theorem dX7_shiftOf_6 : decode cX7_shiftOf 6 = .ok (.iconst 1, 1) := by decide +kernel
theorem dX7_shiftOf_7 : decode cX7_shiftOf 7 = .ok (.isub, 1) := by decide +kernel
theorem dX7_shiftOf_8 : decode cX7_shiftOf 8 = .ok (.invokestatic 323, 3) := by decide +kernel
theorem dX7_shiftOf_11 : decode cX7_shiftOf 11 = .ok (.ireturn, 1) := by decide +kernel
theorem dX7_lowOf_0 : decode cX7_lowOf 0 = .ok (.iload_n 0, 1) := by decide +kernel
theorem dX7_lowOf_1 : decode cX7_lowOf 1 = .ok (.invokestatic 314, 3) := by decide +kernel
theorem dX7_lowOf_4 : decode cX7_lowOf 4 = .ok (.istore_n 2, 1) := by decide +kernel
theorem dX7_lowOf_5 : decode cX7_lowOf 5 = .ok (.iload_n 2, 1) := by decide +kernel
theorem dX7_lowOf_6 : decode cX7_lowOf 6 = .ok (.iload_n 1, 1) := by decide +kernel
theorem dX7_lowOf_7 : decode cX7_lowOf 7 = .ok (.invokestatic 326, 3) := by decide +kernel
theorem dX7_lowOf_10 : decode cX7_lowOf 10 = .ok (.istore_n 3, 1) := by decide +kernel
theorem dX7_lowOf_11 : decode cX7_lowOf 11 = .ok (.iload_n 1, 1) := by decide +kernel
theorem dX7_lowOf_12 : decode cX7_lowOf 12 = .ok (.iload_n 3, 1) := by decide +kernel
theorem dX7_lowOf_13 : decode cX7_lowOf 13 = .ok (.iload_n 2, 1) := by decide +kernel
theorem dX7_lowOf_14 : decode cX7_lowOf 14 = .ok (.iconst 1, 1) := by decide +kernel
theorem dX7_lowOf_15 : decode cX7_lowOf 15 = .ok (.isub, 1) := by decide +kernel
theorem dX7_lowOf_16 : decode cX7_lowOf 16 = .ok (.ishl, 1) := by decide +kernel
theorem dX7_lowOf_17 : decode cX7_lowOf 17 = .ok (.isub, 1) := by decide +kernel
theorem dX7_lowOf_18 : decode cX7_lowOf 18 = .ok (.i2l, 1) := by decide +kernel
theorem dX7_lowOf_19 : decode cX7_lowOf 19 = .ok (.iload_n 3, 1) := by decide +kernel
theorem dX7_lowOf_20 : decode cX7_lowOf 20 = .ok (.lshl, 1) := by decide +kernel
theorem dX7_lowOf_21 : decode cX7_lowOf 21 = .ok (.lreturn, 1) := by decide +kernel
theorem dX7_reachOf_0 : decode cX7_reachOf 0 = .ok (.lconst 1, 1) := by decide +kernel
theorem dX7_reachOf_1 : decode cX7_reachOf 1 = .ok (.iload_n 0, 1) := by decide +kernel
theorem dX7_reachOf_2 : decode cX7_reachOf 2 = .ok (.invokestatic 314, 3) := by decide +kernel
theorem dX7_reachOf_5 : decode cX7_reachOf 5 = .ok (.iload_n 1, 1) := by decide +kernel
theorem dX7_reachOf_6 : decode cX7_reachOf 6 = .ok (.invokestatic 326, 3) := by decide +kernel
theorem dX7_reachOf_9 : decode cX7_reachOf 9 = .ok (.lshl, 1) := by decide +kernel
theorem dX7_reachOf_10 : decode cX7_reachOf 10 = .ok (.lconst 1, 1) := by decide +kernel
theorem dX7_reachOf_11 : decode cX7_reachOf 11 = .ok (.lsub, 1) := by decide +kernel
theorem dX7_reachOf_12 : decode cX7_reachOf 12 = .ok (.lreturn, 1) := by decide +kernel
theorem dX7_highOf_0 : decode cX7_highOf 0 = .ok (.iload_n 0, 1) := by decide +kernel
theorem dX7_highOf_1 : decode cX7_highOf 1 = .ok (.iload_n 1, 1) := by decide +kernel
theorem dX7_highOf_2 : decode cX7_highOf 2 = .ok (.invokestatic 91, 3) := by decide +kernel
theorem dX7_highOf_5 : decode cX7_highOf 5 = .ok (.iload_n 0, 1) := by decide +kernel
theorem dX7_highOf_6 : decode cX7_highOf 6 = .ok (.iload_n 1, 1) := by decide +kernel
theorem dX7_highOf_7 : decode cX7_highOf 7 = .ok (.invokestatic 329, 3) := by decide +kernel
theorem dX7_highOf_10 : decode cX7_highOf 10 = .ok (.ladd, 1) := by decide +kernel
theorem dX7_highOf_11 : decode cX7_highOf 11 = .ok (.lreturn, 1) := by decide +kernel
theorem dX7_middleOf_0 : decode cX7_middleOf 0 = .ok (.iload_n 0, 1) := by decide +kernel
theorem dX7_middleOf_1 : decode cX7_middleOf 1 = .ok (.iload_n 1, 1) := by decide +kernel
theorem dX7_middleOf_2 : decode cX7_middleOf 2 = .ok (.invokestatic 91, 3) := by decide +kernel
theorem dX7_middleOf_5 : decode cX7_middleOf 5 = .ok (.iload_n 0, 1) := by decide +kernel
theorem dX7_middleOf_6 : decode cX7_middleOf 6 = .ok (.iload_n 1, 1) := by decide +kernel
theorem dX7_middleOf_7 : decode cX7_middleOf 7 = .ok (.invokestatic 329, 3) := by decide +kernel
theorem dX7_middleOf_10 : decode cX7_middleOf 10 = .ok (.ldc2_w 332, 3) := by decide +kernel
theorem dX7_middleOf_13 : decode cX7_middleOf 13 = .ok (.ldiv, 1) := by decide +kernel
theorem dX7_middleOf_14 : decode cX7_middleOf 14 = .ok (.ladd, 1) := by decide +kernel
theorem dX7_middleOf_15 : decode cX7_middleOf 15 = .ok (.lreturn, 1) := by decide +kernel
theorem dX7_wanted_0 : decode cX7_wanted 0 = .ok (.lload_n 1, 1) := by decide +kernel
theorem dX7_wanted_1 : decode cX7_wanted 1 = .ok (.ldc2_w 334, 3) := by decide +kernel
theorem dX7_wanted_4 : decode cX7_wanted 4 = .ok (.lrem, 1) := by decide +kernel
theorem dX7_wanted_5 : decode cX7_wanted 5 = .ok (.iload_n 0, 1) := by decide +kernel
theorem dX7_wanted_6 : decode cX7_wanted 6 = .ok (.i2l, 1) := by decide +kernel
theorem dX7_wanted_7 : decode cX7_wanted 7 = .ok (.lmul, 1) := by decide +kernel
theorem dX7_wanted_8 : decode cX7_wanted 8 = .ok (.ldc2_w 334, 3) := by decide +kernel
theorem dX7_wanted_11 : decode cX7_wanted 11 = .ok (.ladd, 1) := by decide +kernel
theorem dX7_wanted_12 : decode cX7_wanted 12 = .ok (.lconst 1, 1) := by decide +kernel
theorem dX7_wanted_13 : decode cX7_wanted 13 = .ok (.lsub, 1) := by decide +kernel
theorem dX7_wanted_14 : decode cX7_wanted 14 = .ok (.ldc2_w 334, 3) := by decide +kernel
theorem dX7_wanted_17 : decode cX7_wanted 17 = .ok (.ldiv, 1) := by decide +kernel
theorem dX7_wanted_18 : decode cX7_wanted 18 = .ok (.lstore_n 3, 1) := by decide +kernel
theorem dX7_wanted_19 : decode cX7_wanted 19 = .ok (.lconst 1, 1) := by decide +kernel
theorem dX7_wanted_20 : decode cX7_wanted 20 = .ok (.lload_n 1, 1) := by decide +kernel
theorem dX7_wanted_21 : decode cX7_wanted 21 = .ok (.ldc2_w 334, 3) := by decide +kernel
theorem dX7_wanted_24 : decode cX7_wanted 24 = .ok (.ldiv, 1) := by decide +kernel
theorem dX7_wanted_25 : decode cX7_wanted 25 = .ok (.iload_n 0, 1) := by decide +kernel
theorem dX7_wanted_26 : decode cX7_wanted 26 = .ok (.i2l, 1) := by decide +kernel
theorem dX7_wanted_27 : decode cX7_wanted 27 = .ok (.lmul, 1) := by decide +kernel
theorem dX7_wanted_28 : decode cX7_wanted 28 = .ok (.lload_n 3, 1) := by decide +kernel
theorem dX7_wanted_29 : decode cX7_wanted 29 = .ok (.ladd, 1) := by decide +kernel
theorem dX7_wanted_30 : decode cX7_wanted 30 = .ok (.invokestatic 336, 3) := by decide +kernel
theorem dX7_wanted_33 : decode cX7_wanted 33 = .ok (.lreturn, 1) := by decide +kernel
theorem dX7_refusal_0 : decode cX7_refusal 0 = .ok (.iload_n 1, 1) := by decide +kernel
theorem dX7_refusal_1 : decode cX7_refusal 1 = .ok (.ifCond .ne 6, 3) := by decide +kernel
theorem dX7_refusal_4 : decode cX7_refusal 4 = .ok (.bipush (-4), 2) := by decide +kernel
theorem dX7_refusal_6 : decode cX7_refusal 6 = .ok (.ireturn, 1) := by decide +kernel
theorem dX7_refusal_7 : decode cX7_refusal 7 = .ok (.iload_n 2, 1) := by decide +kernel
theorem dX7_refusal_8 : decode cX7_refusal 8 = .ok (.ifCond .lt 9, 3) := by decide +kernel
theorem dX7_refusal_11 : decode cX7_refusal 11 = .ok (.iload_n 2, 1) := by decide +kernel
theorem dX7_refusal_12 : decode cX7_refusal 12 = .ok (.bipush 16, 2) := by decide +kernel
theorem dX7_refusal_14 : decode cX7_refusal 14 = .ok (.if_icmp .lt 6, 3) := by decide +kernel
theorem dX7_refusal_17 : decode cX7_refusal 17 = .ok (.bipush (-2), 2) := by decide +kernel
theorem dX7_refusal_19 : decode cX7_refusal 19 = .ok (.ireturn, 1) := by decide +kernel
theorem dX7_refusal_20 : decode cX7_refusal 20 = .ok (.iload_n 1, 1) := by decide +kernel
theorem dX7_refusal_21 : decode cX7_refusal 21 = .ok (.ifCond .le 24, 3) := by decide +kernel
theorem dX7_refusal_24 : decode cX7_refusal 24 = .ok (.iload_n 1, 1) := by decide +kernel
theorem dX7_refusal_25 : decode cX7_refusal 25 = .ok (.aload_n 0, 1) := by decide +kernel
theorem dX7_refusal_26 : decode cX7_refusal 26 = .ok (.arraylength, 1) := by decide +kernel
theorem dX7_refusal_27 : decode cX7_refusal 27 = .ok (.if_icmp .ge 18, 3) := by decide +kernel
theorem dX7_refusal_30 : decode cX7_refusal 30 = .ok (.aload_n 0, 1) := by decide +kernel
theorem dX7_refusal_31 : decode cX7_refusal 31 = .ok (.iload_n 1, 1) := by decide +kernel
theorem dX7_refusal_32 : decode cX7_refusal 32 = .ok (.iaload, 1) := by decide +kernel
theorem dX7_refusal_33 : decode cX7_refusal 33 = .ok (.iload_n 3, 1) := by decide +kernel
theorem dX7_refusal_34 : decode cX7_refusal 34 = .ok (.ishr, 1) := by decide +kernel
theorem dX7_refusal_35 : decode cX7_refusal 35 = .ok (.iconst 1, 1) := by decide +kernel
theorem dX7_refusal_36 : decode cX7_refusal 36 = .ok (.iand, 1) := by decide +kernel
theorem dX7_refusal_37 : decode cX7_refusal 37 = .ok (.iconst 1, 1) := by decide +kernel
theorem dX7_refusal_38 : decode cX7_refusal 38 = .ok (.if_icmp .ne 7, 3) := by decide +kernel
theorem dX7_refusal_41 : decode cX7_refusal 41 = .ok (.iconst 1, 1) := by decide +kernel
theorem dX7_refusal_42 : decode cX7_refusal 42 = .ok (.goto 4, 3) := by decide +kernel
theorem dX7_refusal_45 : decode cX7_refusal 45 = .ok (.iconst 0, 1) := by decide +kernel
theorem dX7_refusal_46 : decode cX7_refusal 46 = .ok (.istore 4, 2) := by decide +kernel
theorem dX7_refusal_48 : decode cX7_refusal 48 = .ok (.iload 4, 2) := by decide +kernel
theorem dX7_refusal_50 : decode cX7_refusal 50 = .ok (.ifCond .eq 7, 3) := by decide +kernel
theorem dX7_refusal_53 : decode cX7_refusal 53 = .ok (.iconst 0, 1) := by decide +kernel
theorem dX7_refusal_54 : decode cX7_refusal 54 = .ok (.goto 5, 3) := by decide +kernel
theorem dX7_refusal_57 : decode cX7_refusal 57 = .ok (.bipush (-3), 2) := by decide +kernel
theorem dX7_refusal_59 : decode cX7_refusal 59 = .ok (.ireturn, 1) := by decide +kernel
theorem dX7_told_0 : decode cX7_told 0 = .ok (.iload_n 0, 1) := by decide +kernel
theorem dX7_told_1 : decode cX7_told 1 = .ok (.bipush 7, 2) := by decide +kernel
theorem dX7_told_3 : decode cX7_told 3 = .ok (.if_icmp .eq 9, 3) := by decide +kernel
theorem dX7_told_6 : decode cX7_told 6 = .ok (.iload_n 0, 1) := by decide +kernel
theorem dX7_told_7 : decode cX7_told 7 = .ok (.bipush 8, 2) := by decide +kernel
theorem dX7_told_9 : decode cX7_told 9 = .ok (.if_icmp .ne 7, 3) := by decide +kernel
theorem dX7_told_12 : decode cX7_told 12 = .ok (.iconst 4, 1) := by decide +kernel
theorem dX7_told_13 : decode cX7_told 13 = .ok (.goto 4, 3) := by decide +kernel
theorem dX7_told_16 : decode cX7_told 16 = .ok (.iconst 0, 1) := by decide +kernel
theorem dX7_told_17 : decode cX7_told 17 = .ok (.istore 4, 2) := by decide +kernel
theorem dX7_told_19 : decode cX7_told 19 = .ok (.iload_n 1, 1) := by decide +kernel
theorem dX7_told_20 : decode cX7_told 20 = .ok (.bipush 7, 2) := by decide +kernel
theorem dX7_told_22 : decode cX7_told 22 = .ok (.if_icmp .eq 13, 3) := by decide +kernel
theorem dX7_told_25 : decode cX7_told 25 = .ok (.iload_n 1, 1) := by decide +kernel
theorem dX7_told_26 : decode cX7_told 26 = .ok (.ifCond .ne 16, 3) := by decide +kernel
theorem dX7_told_29 : decode cX7_told 29 = .ok (.iload_n 0, 1) := by decide +kernel
theorem dX7_told_30 : decode cX7_told 30 = .ok (.bipush 7, 2) := by decide +kernel
theorem dX7_told_32 : decode cX7_told 32 = .ok (.if_icmp .ne 10, 3) := by decide +kernel
theorem dX7_told_35 : decode cX7_told 35 = .ok (.lload_n 2, 1) := by decide +kernel
theorem dX7_told_36 : decode cX7_told 36 = .ok (.iload 4, 2) := by decide +kernel
theorem dX7_told_38 : decode cX7_told 38 = .ok (.invokestatic 339, 3) := by decide +kernel
theorem dX7_told_41 : decode cX7_told 41 = .ok (.lreturn, 1) := by decide +kernel
theorem dX7_told_42 : decode cX7_told 42 = .ok (.iload_n 1, 1) := by decide +kernel
theorem dX7_told_43 : decode cX7_told 43 = .ok (.bipush 8, 2) := by decide +kernel
theorem dX7_told_45 : decode cX7_told 45 = .ok (.if_icmp .eq 13, 3) := by decide +kernel
theorem dX7_told_48 : decode cX7_told 48 = .ok (.iload_n 1, 1) := by decide +kernel
theorem dX7_told_49 : decode cX7_told 49 = .ok (.ifCond .ne 16, 3) := by decide +kernel
theorem dX7_told_52 : decode cX7_told 52 = .ok (.iload_n 0, 1) := by decide +kernel
theorem dX7_told_53 : decode cX7_told 53 = .ok (.bipush 8, 2) := by decide +kernel
theorem dX7_told_55 : decode cX7_told 55 = .ok (.if_icmp .ne 10, 3) := by decide +kernel
theorem dX7_told_58 : decode cX7_told 58 = .ok (.lload_n 2, 1) := by decide +kernel
theorem dX7_told_59 : decode cX7_told 59 = .ok (.iload 4, 2) := by decide +kernel
theorem dX7_told_61 : decode cX7_told 61 = .ok (.invokestatic 343, 3) := by decide +kernel
theorem dX7_told_64 : decode cX7_told 64 = .ok (.lreturn, 1) := by decide +kernel
theorem dX7_told_65 : decode cX7_told 65 = .ok (.lload_n 2, 1) := by decide +kernel
theorem dX7_told_66 : decode cX7_told 66 = .ok (.lreturn, 1) := by decide +kernel
theorem dX7_floatBits_0 : decode cX7_floatBits 0 = .ok (.lload_n 0, 1) := by decide +kernel
theorem dX7_floatBits_1 : decode cX7_floatBits 1 = .ok (.lconst 0, 1) := by decide +kernel
theorem dX7_floatBits_2 : decode cX7_floatBits 2 = .ok (.lcmp, 1) := by decide +kernel
theorem dX7_floatBits_3 : decode cX7_floatBits 3 = .ok (.ifCond .gt 5, 3) := by decide +kernel
theorem dX7_floatBits_6 : decode cX7_floatBits 6 = .ok (.lconst 0, 1) := by decide +kernel
theorem dX7_floatBits_7 : decode cX7_floatBits 7 = .ok (.lreturn, 1) := by decide +kernel
theorem dX7_floatBits_8 : decode cX7_floatBits 8 = .ok (.bipush 63, 2) := by decide +kernel
theorem dX7_floatBits_10 : decode cX7_floatBits 10 = .ok (.lload_n 0, 1) := by decide +kernel
theorem dX7_floatBits_11 : decode cX7_floatBits 11 = .ok (.invokestatic 317, 3) := by decide +kernel
theorem dX7_floatBits_14 : decode cX7_floatBits 14 = .ok (.isub, 1) := by decide +kernel
theorem dX7_floatBits_15 : decode cX7_floatBits 15 = .ok (.istore_n 3, 1) := by decide +kernel
theorem dX7_floatBits_16 : decode cX7_floatBits 16 = .ok (.lload_n 0, 1) := by decide +kernel
theorem dX7_floatBits_17 : decode cX7_floatBits 17 = .ok (.iconst 0, 1) := by decide +kernel
theorem dX7_floatBits_18 : decode cX7_floatBits 18 = .ok (.bipush 23, 2) := by decide +kernel
theorem dX7_floatBits_20 : decode cX7_floatBits 20 = .ok (.iload_n 3, 1) := by decide +kernel
theorem dX7_floatBits_21 : decode cX7_floatBits 21 = .ok (.isub, 1) := by decide +kernel
theorem dX7_floatBits_22 : decode cX7_floatBits 22 = .ok (.invokestatic 323, 3) := by decide +kernel
theorem dX7_floatBits_25 : decode cX7_floatBits 25 = .ok (.lshl, 1) := by decide +kernel
theorem dX7_floatBits_26 : decode cX7_floatBits 26 = .ok (.lstore 4, 2) := by decide +kernel
theorem dX7_floatBits_28 : decode cX7_floatBits 28 = .ok (.iload_n 3, 1) := by decide +kernel
theorem dX7_floatBits_29 : decode cX7_floatBits 29 = .ok (.bipush 23, 2) := by decide +kernel
theorem dX7_floatBits_31 : decode cX7_floatBits 31 = .ok (.if_icmp .le 63, 3) := by decide +kernel
theorem dX7_floatBits_34 : decode cX7_floatBits 34 = .ok (.iload_n 3, 1) := by decide +kernel
theorem dX7_floatBits_35 : decode cX7_floatBits 35 = .ok (.bipush 23, 2) := by decide +kernel
theorem dX7_floatBits_37 : decode cX7_floatBits 37 = .ok (.isub, 1) := by decide +kernel
theorem dX7_floatBits_38 : decode cX7_floatBits 38 = .ok (.istore 6, 2) := by decide +kernel
theorem dX7_floatBits_40 : decode cX7_floatBits 40 = .ok (.lload_n 0, 1) := by decide +kernel
theorem dX7_floatBits_41 : decode cX7_floatBits 41 = .ok (.iload 6, 2) := by decide +kernel
theorem dX7_floatBits_43 : decode cX7_floatBits 43 = .ok (.lshr, 1) := by decide +kernel
theorem dX7_floatBits_44 : decode cX7_floatBits 44 = .ok (.lstore 4, 2) := by decide +kernel
theorem dX7_floatBits_46 : decode cX7_floatBits 46 = .ok (.lload_n 0, 1) := by decide +kernel
theorem dX7_floatBits_47 : decode cX7_floatBits 47 = .ok (.lload 4, 2) := by decide +kernel
theorem dX7_floatBits_49 : decode cX7_floatBits 49 = .ok (.iload 6, 2) := by decide +kernel
theorem dX7_floatBits_51 : decode cX7_floatBits 51 = .ok (.lshl, 1) := by decide +kernel
theorem dX7_floatBits_52 : decode cX7_floatBits 52 = .ok (.lsub, 1) := by decide +kernel
theorem dX7_floatBits_53 : decode cX7_floatBits 53 = .ok (.lstore 7, 2) := by decide +kernel
theorem dX7_floatBits_55 : decode cX7_floatBits 55 = .ok (.lconst 1, 1) := by decide +kernel
theorem dX7_floatBits_56 : decode cX7_floatBits 56 = .ok (.iload 6, 2) := by decide +kernel
theorem dX7_floatBits_58 : decode cX7_floatBits 58 = .ok (.iconst 1, 1) := by decide +kernel
theorem dX7_floatBits_59 : decode cX7_floatBits 59 = .ok (.isub, 1) := by decide +kernel
theorem dX7_floatBits_60 : decode cX7_floatBits 60 = .ok (.lshl, 1) := by decide +kernel
theorem dX7_floatBits_61 : decode cX7_floatBits 61 = .ok (.lstore 9, 2) := by decide +kernel
theorem dX7_floatBits_63 : decode cX7_floatBits 63 = .ok (.lload 7, 2) := by decide +kernel
theorem dX7_floatBits_65 : decode cX7_floatBits 65 = .ok (.lload 9, 2) := by decide +kernel
theorem dX7_floatBits_67 : decode cX7_floatBits 67 = .ok (.lcmp, 1) := by decide +kernel
theorem dX7_floatBits_68 : decode cX7_floatBits 68 = .ok (.ifCond .gt 20, 3) := by decide +kernel
theorem dX7_floatBits_71 : decode cX7_floatBits 71 = .ok (.lload 7, 2) := by decide +kernel
theorem dX7_floatBits_73 : decode cX7_floatBits 73 = .ok (.lload 9, 2) := by decide +kernel
theorem dX7_floatBits_75 : decode cX7_floatBits 75 = .ok (.lcmp, 1) := by decide +kernel
theorem dX7_floatBits_76 : decode cX7_floatBits 76 = .ok (.ifCond .ne 18, 3) := by decide +kernel
theorem dX7_floatBits_79 : decode cX7_floatBits 79 = .ok (.lload 4, 2) := by decide +kernel
theorem dX7_floatBits_81 : decode cX7_floatBits 81 = .ok (.lconst 1, 1) := by decide +kernel
theorem dX7_floatBits_82 : decode cX7_floatBits 82 = .ok (.land, 1) := by decide +kernel
theorem dX7_floatBits_83 : decode cX7_floatBits 83 = .ok (.lconst 1, 1) := by decide +kernel
theorem dX7_floatBits_84 : decode cX7_floatBits 84 = .ok (.lcmp, 1) := by decide +kernel
theorem dX7_floatBits_85 : decode cX7_floatBits 85 = .ok (.ifCond .ne 9, 3) := by decide +kernel
theorem dX7_floatBits_88 : decode cX7_floatBits 88 = .ok (.lload 4, 2) := by decide +kernel
theorem dX7_floatBits_90 : decode cX7_floatBits 90 = .ok (.lconst 1, 1) := by decide +kernel
theorem dX7_floatBits_91 : decode cX7_floatBits 91 = .ok (.ladd, 1) := by decide +kernel
theorem dX7_floatBits_92 : decode cX7_floatBits 92 = .ok (.lstore 4, 2) := by decide +kernel
theorem dX7_floatBits_94 : decode cX7_floatBits 94 = .ok (.bipush 126, 2) := by decide +kernel
theorem dX7_floatBits_96 : decode cX7_floatBits 96 = .ok (.iload_n 3, 1) := by decide +kernel
theorem dX7_floatBits_97 : decode cX7_floatBits 97 = .ok (.iadd, 1) := by decide +kernel
theorem dX7_floatBits_98 : decode cX7_floatBits 98 = .ok (.iload_n 2, 1) := by decide +kernel
theorem dX7_floatBits_99 : decode cX7_floatBits 99 = .ok (.isub, 1) := by decide +kernel
theorem dX7_floatBits_100 : decode cX7_floatBits 100 = .ok (.bipush 23, 2) := by decide +kernel
theorem dX7_floatBits_102 : decode cX7_floatBits 102 = .ok (.lload 4, 2) := by decide +kernel
theorem dX7_floatBits_104 : decode cX7_floatBits 104 = .ok (.invokestatic 346, 3) := by decide +kernel
theorem dX7_floatBits_107 : decode cX7_floatBits 107 = .ok (.lreturn, 1) := by decide +kernel
theorem dX7_doubleBits_0 : decode cX7_doubleBits 0 = .ok (.lload_n 0, 1) := by decide +kernel
theorem dX7_doubleBits_1 : decode cX7_doubleBits 1 = .ok (.lconst 0, 1) := by decide +kernel
theorem dX7_doubleBits_2 : decode cX7_doubleBits 2 = .ok (.lcmp, 1) := by decide +kernel
theorem dX7_doubleBits_3 : decode cX7_doubleBits 3 = .ok (.ifCond .gt 5, 3) := by decide +kernel
theorem dX7_doubleBits_6 : decode cX7_doubleBits 6 = .ok (.lconst 0, 1) := by decide +kernel
theorem dX7_doubleBits_7 : decode cX7_doubleBits 7 = .ok (.lreturn, 1) := by decide +kernel
theorem dX7_doubleBits_8 : decode cX7_doubleBits 8 = .ok (.bipush 63, 2) := by decide +kernel
theorem dX7_doubleBits_10 : decode cX7_doubleBits 10 = .ok (.lload_n 0, 1) := by decide +kernel
theorem dX7_doubleBits_11 : decode cX7_doubleBits 11 = .ok (.invokestatic 317, 3) := by decide +kernel
theorem dX7_doubleBits_14 : decode cX7_doubleBits 14 = .ok (.isub, 1) := by decide +kernel
theorem dX7_doubleBits_15 : decode cX7_doubleBits 15 = .ok (.istore_n 3, 1) := by decide +kernel
theorem dX7_doubleBits_16 : decode cX7_doubleBits 16 = .ok (.sipush 1022, 3) := by decide +kernel
theorem dX7_doubleBits_19 : decode cX7_doubleBits 19 = .ok (.iload_n 3, 1) := by decide +kernel
theorem dX7_doubleBits_20 : decode cX7_doubleBits 20 = .ok (.iadd, 1) := by decide +kernel
theorem dX7_doubleBits_21 : decode cX7_doubleBits 21 = .ok (.iload_n 2, 1) := by decide +kernel
theorem dX7_doubleBits_22 : decode cX7_doubleBits 22 = .ok (.isub, 1) := by decide +kernel
theorem dX7_doubleBits_23 : decode cX7_doubleBits 23 = .ok (.bipush 52, 2) := by decide +kernel
theorem dX7_doubleBits_25 : decode cX7_doubleBits 25 = .ok (.lload_n 0, 1) := by decide +kernel
theorem dX7_doubleBits_26 : decode cX7_doubleBits 26 = .ok (.iconst 0, 1) := by decide +kernel
theorem dX7_doubleBits_27 : decode cX7_doubleBits 27 = .ok (.bipush 52, 2) := by decide +kernel
theorem dX7_doubleBits_29 : decode cX7_doubleBits 29 = .ok (.iload_n 3, 1) := by decide +kernel
theorem dX7_doubleBits_30 : decode cX7_doubleBits 30 = .ok (.isub, 1) := by decide +kernel
theorem dX7_doubleBits_31 : decode cX7_doubleBits 31 = .ok (.invokestatic 323, 3) := by decide +kernel
theorem dX7_doubleBits_34 : decode cX7_doubleBits 34 = .ok (.lshl, 1) := by decide +kernel
theorem dX7_doubleBits_35 : decode cX7_doubleBits 35 = .ok (.invokestatic 346, 3) := by decide +kernel
theorem dX7_doubleBits_38 : decode cX7_doubleBits 38 = .ok (.lreturn, 1) := by decide +kernel
theorem dX7_withExponent_0 : decode cX7_withExponent 0 = .ok (.iload_n 0, 1) := by decide +kernel
theorem dX7_withExponent_1 : decode cX7_withExponent 1 = .ok (.i2l, 1) := by decide +kernel
theorem dX7_withExponent_2 : decode cX7_withExponent 2 = .ok (.iload_n 1, 1) := by decide +kernel
theorem dX7_withExponent_3 : decode cX7_withExponent 3 = .ok (.lshl, 1) := by decide +kernel
theorem dX7_withExponent_4 : decode cX7_withExponent 4 = .ok (.lload_n 2, 1) := by decide +kernel
theorem dX7_withExponent_5 : decode cX7_withExponent 5 = .ok (.ladd, 1) := by decide +kernel
theorem dX7_withExponent_6 : decode cX7_withExponent 6 = .ok (.lreturn, 1) := by decide +kernel
theorem dX8_init_0 : decode cX8_init 0 = .ok (.aload_n 0, 1) := by decide +kernel
theorem dX8_init_1 : decode cX8_init 1 = .ok (.invokespecial 1, 3) := by decide +kernel
theorem dX8_init_4 : decode cX8_init 4 = .ok (.aload_n 0, 1) := by decide +kernel
theorem dX8_init_5 : decode cX8_init 5 = .ok (.sipush 400, 3) := by decide +kernel
theorem dX8_init_8 : decode cX8_init 8 = .ok (.newarray .byte, 2) := by decide +kernel
theorem dX8_init_10 : decode cX8_init 10 = .ok (.putfield 7, 3) := by decide +kernel
theorem dX8_init_13 : decode cX8_init 13 = .ok (.aload_n 0, 1) := by decide +kernel
theorem dX8_init_14 : decode cX8_init 14 = .ok (.bipush 16, 2) := by decide +kernel
theorem dX8_init_16 : decode cX8_init 16 = .ok (.newarray .int, 2) := by decide +kernel
theorem dX8_init_18 : decode cX8_init 18 = .ok (.putfield 13, 3) := by decide +kernel
theorem dX8_init_21 : decode cX8_init 21 = .ok (.aload_n 0, 1) := by decide +kernel
theorem dX8_init_22 : decode cX8_init 22 = .ok (.iconst 4, 1) := by decide +kernel
theorem dX8_init_23 : decode cX8_init 23 = .ok (.newarray .long, 2) := by decide +kernel
theorem dX8_init_25 : decode cX8_init 25 = .ok (.putfield 17, 3) := by decide +kernel
theorem dX8_init_28 : decode cX8_init 28 = .ok (.aload_n 0, 1) := by decide +kernel
theorem dX8_init_29 : decode cX8_init 29 = .ok (.sipush 17408, 3) := by decide +kernel
theorem dX8_init_32 : decode cX8_init 32 = .ok (.newarray .long, 2) := by decide +kernel
theorem dX8_init_34 : decode cX8_init 34 = .ok (.putfield 21, 3) := by decide +kernel
theorem dX8_init_37 : decode cX8_init 37 = .ok (.aload_n 0, 1) := by decide +kernel
theorem dX8_init_38 : decode cX8_init 38 = .ok (.sipush 1088, 3) := by decide +kernel
theorem dX8_init_41 : decode cX8_init 41 = .ok (.newarray .byte, 2) := by decide +kernel
theorem dX8_init_43 : decode cX8_init 43 = .ok (.putfield 24, 3) := by decide +kernel
theorem dX8_init_46 : decode cX8_init 46 = .ok (.aload_n 0, 1) := by decide +kernel
theorem dX8_init_47 : decode cX8_init 47 = .ok (.sipush 1088, 3) := by decide +kernel
theorem dX8_init_50 : decode cX8_init 50 = .ok (.newarray .byte, 2) := by decide +kernel
theorem dX8_init_52 : decode cX8_init 52 = .ok (.putfield 27, 3) := by decide +kernel
theorem dX8_init_55 : decode cX8_init 55 = .ok (.aload_n 0, 1) := by decide +kernel
theorem dX8_init_56 : decode cX8_init 56 = .ok (.sipush 17408, 3) := by decide +kernel
theorem dX8_init_59 : decode cX8_init 59 = .ok (.newarray .byte, 2) := by decide +kernel
theorem dX8_init_61 : decode cX8_init 61 = .ok (.putfield 30, 3) := by decide +kernel
theorem dX8_init_64 : decode cX8_init 64 = .ok (.aload_n 0, 1) := by decide +kernel
theorem dX8_init_65 : decode cX8_init 65 = .ok (.iconst (-1), 1) := by decide +kernel
theorem dX8_init_66 : decode cX8_init 66 = .ok (.putfield 33, 3) := by decide +kernel
theorem dX8_init_69 : decode cX8_init 69 = .ok (.aload_n 0, 1) := by decide +kernel
theorem dX8_init_70 : decode cX8_init 70 = .ok (.iconst 4, 1) := by decide +kernel
theorem dX8_init_71 : decode cX8_init 71 = .ok (.newarray .int, 2) := by decide +kernel
theorem dX8_init_73 : decode cX8_init 73 = .ok (.putfield 37, 3) := by decide +kernel
theorem dX8_init_76 : decode cX8_init 76 = .ok (.aload_n 0, 1) := by decide +kernel
theorem dX8_init_77 : decode cX8_init 77 = .ok (.sipush 4352, 3) := by decide +kernel
theorem dX8_init_80 : decode cX8_init 80 = .ok (.newarray .long, 2) := by decide +kernel
theorem dX8_init_82 : decode cX8_init 82 = .ok (.putfield 40, 3) := by decide +kernel
theorem dX8_init_85 : decode cX8_init 85 = .ok (.aload_n 0, 1) := by decide +kernel
theorem dX8_init_86 : decode cX8_init 86 = .ok (.sipush 400, 3) := by decide +kernel
theorem dX8_init_89 : decode cX8_init 89 = .ok (.newarray .byte, 2) := by decide +kernel
theorem dX8_init_91 : decode cX8_init 91 = .ok (.putfield 43, 3) := by decide +kernel
theorem dX8_init_94 : decode cX8_init 94 = .ok (.aload_n 0, 1) := by decide +kernel
theorem dX8_init_95 : decode cX8_init 95 = .ok (.sipush 176, 3) := by decide +kernel
theorem dX8_init_98 : decode cX8_init 98 = .ok (.newarray .int, 2) := by decide +kernel
theorem dX8_init_100 : decode cX8_init 100 = .ok (.putfield 46, 3) := by decide +kernel
theorem dX8_init_103 : decode cX8_init 103 = .ok (.aload_n 0, 1) := by decide +kernel
theorem dX8_init_104 : decode cX8_init 104 = .ok (.bipush 32, 2) := by decide +kernel
theorem dX8_init_106 : decode cX8_init 106 = .ok (.newarray .long, 2) := by decide +kernel
theorem dX8_init_108 : decode cX8_init 108 = .ok (.putfield 49, 3) := by decide +kernel
theorem dX8_init_111 : decode cX8_init 111 = .ok (.aload_n 0, 1) := by decide +kernel
theorem dX8_init_112 : decode cX8_init 112 = .ok (.ldc 52, 2) := by decide +kernel
theorem dX8_init_114 : decode cX8_init 114 = .ok (.newarray .long, 2) := by decide +kernel
theorem dX8_init_116 : decode cX8_init 116 = .ok (.putfield 53, 3) := by decide +kernel
theorem dX8_init_119 : decode cX8_init 119 = .ok (.aload_n 0, 1) := by decide +kernel
theorem dX8_init_120 : decode cX8_init 120 = .ok (.sipush 8704, 3) := by decide +kernel
theorem dX8_init_123 : decode cX8_init 123 = .ok (.newarray .byte, 2) := by decide +kernel
theorem dX8_init_125 : decode cX8_init 125 = .ok (.putfield 56, 3) := by decide +kernel
theorem dX8_init_128 : decode cX8_init 128 = .ok (.aload_n 0, 1) := by decide +kernel
theorem dX8_init_129 : decode cX8_init 129 = .ok (.sipush 8704, 3) := by decide +kernel
theorem dX8_init_132 : decode cX8_init 132 = .ok (.newarray .byte, 2) := by decide +kernel
theorem dX8_init_134 : decode cX8_init 134 = .ok (.putfield 59, 3) := by decide +kernel
theorem dX8_init_137 : decode cX8_init 137 = .ok (.aload_n 0, 1) := by decide +kernel
theorem dX8_init_138 : decode cX8_init 138 = .ok (.ldc 52, 2) := by decide +kernel
theorem dX8_init_140 : decode cX8_init 140 = .ok (.newarray .byte, 2) := by decide +kernel
theorem dX8_init_142 : decode cX8_init 142 = .ok (.putfield 62, 3) := by decide +kernel
theorem dX8_init_145 : decode cX8_init 145 = .ok (.iconst 0, 1) := by decide +kernel
theorem dX8_init_146 : decode cX8_init 146 = .ok (.istore_n 1, 1) := by decide +kernel
theorem dX8_init_147 : decode cX8_init 147 = .ok (.iload_n 1, 1) := by decide +kernel
theorem dX8_init_148 : decode cX8_init 148 = .ok (.iconst 4, 1) := by decide +kernel
theorem dX8_init_149 : decode cX8_init 149 = .ok (.if_icmp .ge 16, 3) := by decide +kernel
theorem dX8_init_152 : decode cX8_init 152 = .ok (.aload_n 0, 1) := by decide +kernel
theorem dX8_init_153 : decode cX8_init 153 = .ok (.getfield 37, 3) := by decide +kernel
theorem dX8_init_156 : decode cX8_init 156 = .ok (.iload_n 1, 1) := by decide +kernel
theorem dX8_init_157 : decode cX8_init 157 = .ok (.iconst (-1), 1) := by decide +kernel
theorem dX8_init_158 : decode cX8_init 158 = .ok (.iastore, 1) := by decide +kernel
theorem dX8_init_159 : decode cX8_init 159 = .ok (.iinc 1 1, 3) := by decide +kernel
theorem dX8_init_162 : decode cX8_init 162 = .ok (.goto (-15), 3) := by decide +kernel
theorem dX8_init_165 : decode cX8_init 165 = .ok (.return_, 1) := by decide +kernel
theorem dX8_isIn_0 : decode cX8_isIn 0 = .ok (.lload_n 0, 1) := by decide +kernel
theorem dX8_isIn_1 : decode cX8_isIn 1 = .ok (.lload_n 2, 1) := by decide +kernel
theorem dX8_isIn_2 : decode cX8_isIn 2 = .ok (.lcmp, 1) := by decide +kernel
theorem dX8_isIn_3 : decode cX8_isIn 3 = .ok (.ifCond .lt 14, 3) := by decide +kernel
theorem dX8_isIn_6 : decode cX8_isIn 6 = .ok (.lload_n 0, 1) := by decide +kernel
theorem dX8_isIn_7 : decode cX8_isIn 7 = .ok (.lload 4, 2) := by decide +kernel
theorem dX8_isIn_9 : decode cX8_isIn 9 = .ok (.lcmp, 1) := by decide +kernel
theorem dX8_isIn_10 : decode cX8_isIn 10 = .ok (.ifCond .gt 7, 3) := by decide +kernel
theorem dX8_isIn_13 : decode cX8_isIn 13 = .ok (.iconst 1, 1) := by decide +kernel
theorem dX8_isIn_14 : decode cX8_isIn 14 = .ok (.goto 4, 3) := by decide +kernel
theorem dX8_isIn_17 : decode cX8_isIn 17 = .ok (.iconst 0, 1) := by decide +kernel
theorem dX8_isIn_18 : decode cX8_isIn 18 = .ok (.ireturn, 1) := by decide +kernel
theorem dX8_feed_0 : decode cX8_feed 0 = .ok (.aload_n 0, 1) := by decide +kernel
theorem dX8_feed_1 : decode cX8_feed 1 = .ok (.getfield 65, 3) := by decide +kernel
theorem dX8_feed_4 : decode cX8_feed 4 = .ok (.sipush 380, 3) := by decide +kernel
theorem dX8_feed_7 : decode cX8_feed 7 = .ok (.if_icmp .le 5, 3) := by decide +kernel
theorem dX8_feed_10 : decode cX8_feed 10 = .ok (.iconst (-1), 1) := by decide +kernel
theorem dX8_feed_11 : decode cX8_feed 11 = .ok (.ireturn, 1) := by decide +kernel
theorem dX8_feed_12 : decode cX8_feed 12 = .ok (.iconst 0, 1) := by decide +kernel
theorem dX8_feed_13 : decode cX8_feed 13 = .ok (.istore 6, 2) := by decide +kernel
theorem dX8_feed_15 : decode cX8_feed 15 = .ok (.iload 6, 2) := by decide +kernel
theorem dX8_feed_17 : decode cX8_feed 17 = .ok (.bipush 20, 2) := by decide +kernel
theorem dX8_feed_19 : decode cX8_feed 19 = .ok (.if_icmp .ge 83, 3) := by decide +kernel
theorem dX8_feed_22 : decode cX8_feed 22 = .ok (.iload 6, 2) := by decide +kernel
theorem dX8_feed_24 : decode cX8_feed 24 = .ok (.iconst 4, 1) := by decide +kernel
theorem dX8_feed_25 : decode cX8_feed 25 = .ok (.if_icmp .ge 7, 3) := by decide +kernel
theorem dX8_feed_28 : decode cX8_feed 28 = .ok (.iload_n 1, 1) := by decide +kernel
theorem dX8_feed_29 : decode cX8_feed 29 = .ok (.goto 39, 3) := by decide +kernel
theorem dX8_feed_32 : decode cX8_feed 32 = .ok (.iload 6, 2) := by decide +kernel
theorem dX8_feed_34 : decode cX8_feed 34 = .ok (.bipush 8, 2) := by decide +kernel
theorem dX8_feed_36 : decode cX8_feed 36 = .ok (.if_icmp .ge 7, 3) := by decide +kernel
theorem dX8_feed_39 : decode cX8_feed 39 = .ok (.iload_n 2, 1) := by decide +kernel
theorem dX8_feed_40 : decode cX8_feed 40 = .ok (.goto 28, 3) := by decide +kernel
theorem dX8_feed_43 : decode cX8_feed 43 = .ok (.iload 6, 2) := by decide +kernel
theorem dX8_feed_45 : decode cX8_feed 45 = .ok (.bipush 12, 2) := by decide +kernel
theorem dX8_feed_47 : decode cX8_feed 47 = .ok (.if_icmp .ge 7, 3) := by decide +kernel
theorem dX8_feed_50 : decode cX8_feed 50 = .ok (.iload_n 3, 1) := by decide +kernel
theorem dX8_feed_51 : decode cX8_feed 51 = .ok (.goto 17, 3) := by decide +kernel
theorem dX8_feed_54 : decode cX8_feed 54 = .ok (.iload 6, 2) := by decide +kernel
theorem dX8_feed_56 : decode cX8_feed 56 = .ok (.bipush 16, 2) := by decide +kernel
theorem dX8_feed_58 : decode cX8_feed 58 = .ok (.if_icmp .ge 8, 3) := by decide +kernel
theorem dX8_feed_61 : decode cX8_feed 61 = .ok (.iload 4, 2) := by decide +kernel
theorem dX8_feed_63 : decode cX8_feed 63 = .ok (.goto 5, 3) := by decide +kernel
theorem dX8_feed_66 : decode cX8_feed 66 = .ok (.iload 5, 2) := by decide +kernel
theorem dX8_feed_68 : decode cX8_feed 68 = .ok (.istore 7, 2) := by decide +kernel
theorem dX8_feed_70 : decode cX8_feed 70 = .ok (.aload_n 0, 1) := by decide +kernel
theorem dX8_feed_71 : decode cX8_feed 71 = .ok (.getfield 7, 3) := by decide +kernel
theorem dX8_feed_74 : decode cX8_feed 74 = .ok (.aload_n 0, 1) := by decide +kernel
theorem dX8_feed_75 : decode cX8_feed 75 = .ok (.getfield 65, 3) := by decide +kernel
theorem dX8_feed_78 : decode cX8_feed 78 = .ok (.iload 6, 2) := by decide +kernel
theorem dX8_feed_80 : decode cX8_feed 80 = .ok (.iadd, 1) := by decide +kernel
theorem dX8_feed_81 : decode cX8_feed 81 = .ok (.iload 7, 2) := by decide +kernel
theorem dX8_feed_83 : decode cX8_feed 83 = .ok (.bipush 24, 2) := by decide +kernel
theorem dX8_feed_85 : decode cX8_feed 85 = .ok (.bipush 8, 2) := by decide +kernel
theorem dX8_feed_87 : decode cX8_feed 87 = .ok (.iload 6, 2) := by decide +kernel
theorem dX8_feed_89 : decode cX8_feed 89 = .ok (.iconst 4, 1) := by decide +kernel
theorem dX8_feed_90 : decode cX8_feed 90 = .ok (.irem, 1) := by decide +kernel
theorem dX8_feed_91 : decode cX8_feed 91 = .ok (.imul, 1) := by decide +kernel
theorem dX8_feed_92 : decode cX8_feed 92 = .ok (.isub, 1) := by decide +kernel
theorem dX8_feed_93 : decode cX8_feed 93 = .ok (.ishr, 1) := by decide +kernel
theorem dX8_feed_94 : decode cX8_feed 94 = .ok (.i2b, 1) := by decide +kernel
theorem dX8_feed_95 : decode cX8_feed 95 = .ok (.bastore, 1) := by decide +kernel
theorem dX8_feed_96 : decode cX8_feed 96 = .ok (.iinc 6 1, 3) := by decide +kernel
theorem dX8_feed_99 : decode cX8_feed 99 = .ok (.goto (-84), 3) := by decide +kernel
theorem dX8_feed_102 : decode cX8_feed 102 = .ok (.aload_n 0, 1) := by decide +kernel
theorem dX8_feed_103 : decode cX8_feed 103 = .ok (.dup, 1) := by decide +kernel
theorem dX8_feed_104 : decode cX8_feed 104 = .ok (.getfield 65, 3) := by decide +kernel
theorem dX8_feed_107 : decode cX8_feed 107 = .ok (.bipush 20, 2) := by decide +kernel
theorem dX8_feed_109 : decode cX8_feed 109 = .ok (.iadd, 1) := by decide +kernel
theorem dX8_feed_110 : decode cX8_feed 110 = .ok (.putfield 65, 3) := by decide +kernel
theorem dX8_feed_113 : decode cX8_feed 113 = .ok (.aload_n 0, 1) := by decide +kernel
theorem dX8_feed_114 : decode cX8_feed 114 = .ok (.getfield 65, 3) := by decide +kernel
theorem dX8_feed_117 : decode cX8_feed 117 = .ok (.ireturn, 1) := by decide +kernel
theorem dX8_end_0 : decode cX8_end 0 = .ok (.iload_n 1, 1) := by decide +kernel
theorem dX8_end_1 : decode cX8_end 1 = .ok (.i2l, 1) := by decide +kernel
theorem dX8_end_2 : decode cX8_end 2 = .ok (.lconst 0, 1) := by decide +kernel
theorem dX8_end_3 : decode cX8_end 3 = .ok (.aload_n 0, 1) := by decide +kernel
theorem dX8_end_4 : decode cX8_end 4 = .ok (.getfield 65, 3) := by decide +kernel
theorem dX8_end_7 : decode cX8_end 7 = .ok (.i2l, 1) := by decide +kernel
theorem dX8_end_8 : decode cX8_end 8 = .ok (.invokestatic 68, 3) := by decide +kernel
theorem dX8_end_11 : decode cX8_end 11 = .ok (.ifCond .ne 5, 3) := by decide +kernel
theorem dX8_end_14 : decode cX8_end 14 = .ok (.iconst (-1), 1) := by decide +kernel
theorem dX8_end_15 : decode cX8_end 15 = .ok (.ireturn, 1) := by decide +kernel
theorem dX8_end_16 : decode cX8_end 16 = .ok (.aload_n 0, 1) := by decide +kernel
theorem dX8_end_17 : decode cX8_end 17 = .ok (.iload_n 1, 1) := by decide +kernel
theorem dX8_end_18 : decode cX8_end 18 = .ok (.putfield 65, 3) := by decide +kernel
theorem dX8_end_21 : decode cX8_end 21 = .ok (.iload_n 1, 1) := by decide +kernel
theorem dX8_end_22 : decode cX8_end 22 = .ok (.ireturn, 1) := by decide +kernel
theorem dX8_octet_0 : decode cX8_octet 0 = .ok (.iload_n 1, 1) := by decide +kernel
theorem dX8_octet_1 : decode cX8_octet 1 = .ok (.i2l, 1) := by decide +kernel
theorem dX8_octet_2 : decode cX8_octet 2 = .ok (.lconst 0, 1) := by decide +kernel
theorem dX8_octet_3 : decode cX8_octet 3 = .ok (.aload_n 0, 1) := by decide +kernel
theorem dX8_octet_4 : decode cX8_octet 4 = .ok (.getfield 65, 3) := by decide +kernel
theorem dX8_octet_7 : decode cX8_octet 7 = .ok (.iconst 1, 1) := by decide +kernel
theorem dX8_octet_8 : decode cX8_octet 8 = .ok (.isub, 1) := by decide +kernel
theorem dX8_octet_9 : decode cX8_octet 9 = .ok (.i2l, 1) := by decide +kernel
theorem dX8_octet_10 : decode cX8_octet 10 = .ok (.invokestatic 68, 3) := by decide +kernel
theorem dX8_octet_13 : decode cX8_octet 13 = .ok (.ifCond .eq 16, 3) := by decide +kernel
theorem dX8_octet_16 : decode cX8_octet 16 = .ok (.aload_n 0, 1) := by decide +kernel
theorem dX8_octet_17 : decode cX8_octet 17 = .ok (.getfield 7, 3) := by decide +kernel
theorem dX8_octet_20 : decode cX8_octet 20 = .ok (.iload_n 1, 1) := by decide +kernel
theorem dX8_octet_21 : decode cX8_octet 21 = .ok (.baload, 1) := by decide +kernel
theorem dX8_octet_22 : decode cX8_octet 22 = .ok (.sipush 255, 3) := by decide +kernel
theorem dX8_octet_25 : decode cX8_octet 25 = .ok (.iand, 1) := by decide +kernel
theorem dX8_octet_26 : decode cX8_octet 26 = .ok (.goto 4, 3) := by decide +kernel
theorem dX8_octet_29 : decode cX8_octet 29 = .ok (.iconst (-1), 1) := by decide +kernel
theorem dX8_octet_30 : decode cX8_octet 30 = .ok (.ireturn, 1) := by decide +kernel
theorem dX8_bitsOf_0 : decode cX8_bitsOf 0 = .ok (.iload_n 0, 1) := by decide +kernel
theorem dX8_bitsOf_1 : decode cX8_bitsOf 1 = .ok (.iconst 1, 1) := by decide +kernel
theorem dX8_bitsOf_2 : decode cX8_bitsOf 2 = .ok (.if_icmp .ne 7, 3) := by decide +kernel
theorem dX8_bitsOf_5 : decode cX8_bitsOf 5 = .ok (.iconst 5, 1) := by decide +kernel
theorem dX8_bitsOf_6 : decode cX8_bitsOf 6 = .ok (.goto 5, 3) := by decide +kernel
theorem dX8_bitsOf_9 : decode cX8_bitsOf 9 = .ok (.bipush 8, 2) := by decide +kernel
theorem dX8_bitsOf_11 : decode cX8_bitsOf 11 = .ok (.ireturn, 1) := by decide +kernel
theorem dX8_lengthOf_0 : decode cX8_lengthOf 0 = .ok (.iconst 0, 1) := by decide +kernel
theorem dX8_lengthOf_1 : decode cX8_lengthOf 1 = .ok (.istore_n 2, 1) := by decide +kernel
theorem dX8_lengthOf_2 : decode cX8_lengthOf 2 = .ok (.lload_n 0, 1) := by decide +kernel
theorem dX8_lengthOf_3 : decode cX8_lengthOf 3 = .ok (.lstore_n 3, 1) := by decide +kernel
theorem dX8_lengthOf_4 : decode cX8_lengthOf 4 = .ok (.lload_n 3, 1) := by decide +kernel
theorem dX8_lengthOf_5 : decode cX8_lengthOf 5 = .ok (.lconst 0, 1) := by decide +kernel
theorem dX8_lengthOf_6 : decode cX8_lengthOf 6 = .ok (.lcmp, 1) := by decide +kernel
theorem dX8_lengthOf_7 : decode cX8_lengthOf 7 = .ok (.ifCond .le 13, 3) := by decide +kernel
theorem dX8_lengthOf_10 : decode cX8_lengthOf 10 = .ok (.iinc 2 1, 3) := by decide +kernel
theorem dX8_lengthOf_13 : decode cX8_lengthOf 13 = .ok (.lload_n 3, 1) := by decide +kernel
theorem dX8_lengthOf_14 : decode cX8_lengthOf 14 = .ok (.iconst 1, 1) := by decide +kernel
theorem dX8_lengthOf_15 : decode cX8_lengthOf 15 = .ok (.lshr, 1) := by decide +kernel
theorem dX8_lengthOf_16 : decode cX8_lengthOf 16 = .ok (.lstore_n 3, 1) := by decide +kernel
theorem dX8_lengthOf_17 : decode cX8_lengthOf 17 = .ok (.goto (-13), 3) := by decide +kernel
theorem dX8_lengthOf_20 : decode cX8_lengthOf 20 = .ok (.iload_n 2, 1) := by decide +kernel
theorem dX8_lengthOf_21 : decode cX8_lengthOf 21 = .ok (.ireturn, 1) := by decide +kernel
theorem dX8_slotOf_0 : decode cX8_slotOf 0 = .ok (.iload_n 0, 1) := by decide +kernel
theorem dX8_slotOf_1 : decode cX8_slotOf 1 = .ok (.invokestatic 72, 3) := by decide +kernel
theorem dX8_slotOf_4 : decode cX8_slotOf 4 = .ok (.istore_n 3, 1) := by decide +kernel
theorem dX8_slotOf_5 : decode cX8_slotOf 5 = .ok (.lload_n 1, 1) := by decide +kernel
theorem dX8_slotOf_6 : decode cX8_slotOf 6 = .ok (.invokestatic 76, 3) := by decide +kernel
theorem dX8_slotOf_9 : decode cX8_slotOf 9 = .ok (.iload_n 3, 1) := by decide +kernel
theorem dX8_slotOf_10 : decode cX8_slotOf 10 = .ok (.isub, 1) := by decide +kernel
theorem dX8_slotOf_11 : decode cX8_slotOf 11 = .ok (.istore 4, 2) := by decide +kernel
theorem dX8_slotOf_13 : decode cX8_slotOf 13 = .ok (.iload 4, 2) := by decide +kernel
theorem dX8_slotOf_15 : decode cX8_slotOf 15 = .ok (.ifCond .ge 6, 3) := by decide +kernel
theorem dX8_slotOf_18 : decode cX8_slotOf 18 = .ok (.iconst 0, 1) := by decide +kernel
theorem dX8_slotOf_19 : decode cX8_slotOf 19 = .ok (.istore 4, 2) := by decide +kernel
theorem dX8_slotOf_21 : decode cX8_slotOf 21 = .ok (.iload 4, 2) := by decide +kernel
theorem dX8_slotOf_23 : decode cX8_slotOf 23 = .ok (.iload_n 3, 1) := by decide +kernel
theorem dX8_slotOf_24 : decode cX8_slotOf 24 = .ok (.iconst 1, 1) := by decide +kernel
theorem dX8_slotOf_25 : decode cX8_slotOf 25 = .ok (.isub, 1) := by decide +kernel
theorem dX8_slotOf_26 : decode cX8_slotOf 26 = .ok (.ishl, 1) := by decide +kernel
theorem dX8_slotOf_27 : decode cX8_slotOf 27 = .ok (.lload_n 1, 1) := by decide +kernel
theorem dX8_slotOf_28 : decode cX8_slotOf 28 = .ok (.iload 4, 2) := by decide +kernel
theorem dX8_slotOf_30 : decode cX8_slotOf 30 = .ok (.lshr, 1) := by decide +kernel
theorem dX8_slotOf_31 : decode cX8_slotOf 31 = .ok (.l2i, 1) := by decide +kernel
theorem dX8_slotOf_32 : decode cX8_slotOf 32 = .ok (.iadd, 1) := by decide +kernel
theorem dX8_slotOf_33 : decode cX8_slotOf 33 = .ok (.ireturn, 1) := by decide +kernel
theorem dX8_shiftOf_0 : decode cX8_shiftOf 0 = .ok (.iconst 1, 1) := by decide +kernel
theorem dX8_shiftOf_1 : decode cX8_shiftOf 1 = .ok (.iload_n 0, 1) := by decide +kernel
theorem dX8_shiftOf_2 : decode cX8_shiftOf 2 = .ok (.invokestatic 72, 3) := by decide +kernel
theorem dX8_shiftOf_5 : decode cX8_shiftOf 5 = .ok (.iconst 1, 1) := by decide +kernel
theorem dX8_shiftOf_6 : decode cX8_shiftOf 6 = .ok (.isub, 1) := by decide +kernel
theorem dX8_shiftOf_7 : decode cX8_shiftOf 7 = .ok (.ishl, 1) := by decide +kernel
theorem dX8_shiftOf_8 : decode cX8_shiftOf 8 = .ok (.istore_n 2, 1) := by decide +kernel
theorem dX8_shiftOf_9 : decode cX8_shiftOf 9 = .ok (.iload_n 1, 1) := by decide +kernel
theorem dX8_shiftOf_10 : decode cX8_shiftOf 10 = .ok (.iconst 2, 1) := by decide +kernel
theorem dX8_shiftOf_11 : decode cX8_shiftOf 11 = .ok (.iload_n 2, 1) := by decide +kernel
theorem dX8_shiftOf_12 : decode cX8_shiftOf 12 = .ok (.imul, 1) := by decide +kernel
theorem dX8_shiftOf_13 : decode cX8_shiftOf 13 = .ok (.if_icmp .ge 7, 3) := by decide +kernel
theorem dX8_shiftOf_16 : decode cX8_shiftOf 16 = .ok (.iconst 0, 1) := by decide +kernel
theorem dX8_shiftOf_17 : decode cX8_shiftOf 17 = .ok (.goto 8, 3) := by decide +kernel
theorem dX8_shiftOf_20 : decode cX8_shiftOf 20 = .ok (.iload_n 1, 1) := by decide +kernel
theorem dX8_shiftOf_21 : decode cX8_shiftOf 21 = .ok (.iload_n 2, 1) := by decide +kernel
theorem dX8_shiftOf_22 : decode cX8_shiftOf 22 = .ok (.idiv, 1) := by decide +kernel
theorem dX8_shiftOf_23 : decode cX8_shiftOf 23 = .ok (.iconst 1, 1) := by decide +kernel
theorem dX8_shiftOf_24 : decode cX8_shiftOf 24 = .ok (.isub, 1) := by decide +kernel
theorem dX8_shiftOf_25 : decode cX8_shiftOf 25 = .ok (.ireturn, 1) := by decide +kernel
theorem dX8_lowOf_0 : decode cX8_lowOf 0 = .ok (.iload_n 0, 1) := by decide +kernel
theorem dX8_lowOf_1 : decode cX8_lowOf 1 = .ok (.iload_n 1, 1) := by decide +kernel
theorem dX8_lowOf_2 : decode cX8_lowOf 2 = .ok (.invokestatic 80, 3) := by decide +kernel
theorem dX8_lowOf_5 : decode cX8_lowOf 5 = .ok (.istore_n 2, 1) := by decide +kernel
theorem dX8_lowOf_6 : decode cX8_lowOf 6 = .ok (.iload_n 1, 1) := by decide +kernel
theorem dX8_lowOf_7 : decode cX8_lowOf 7 = .ok (.iload_n 2, 1) := by decide +kernel
theorem dX8_lowOf_8 : decode cX8_lowOf 8 = .ok (.iload_n 0, 1) := by decide +kernel
theorem dX8_lowOf_9 : decode cX8_lowOf 9 = .ok (.invokestatic 72, 3) := by decide +kernel
theorem dX8_lowOf_12 : decode cX8_lowOf 12 = .ok (.iconst 1, 1) := by decide +kernel
theorem dX8_lowOf_13 : decode cX8_lowOf 13 = .ok (.isub, 1) := by decide +kernel
theorem dX8_lowOf_14 : decode cX8_lowOf 14 = .ok (.ishl, 1) := by decide +kernel
theorem dX8_lowOf_15 : decode cX8_lowOf 15 = .ok (.isub, 1) := by decide +kernel
theorem dX8_lowOf_16 : decode cX8_lowOf 16 = .ok (.i2l, 1) := by decide +kernel
theorem dX8_lowOf_17 : decode cX8_lowOf 17 = .ok (.iload_n 2, 1) := by decide +kernel
theorem dX8_lowOf_18 : decode cX8_lowOf 18 = .ok (.lshl, 1) := by decide +kernel
theorem dX8_lowOf_19 : decode cX8_lowOf 19 = .ok (.lreturn, 1) := by decide +kernel
theorem dX8_highOf_0 : decode cX8_highOf 0 = .ok (.iload_n 0, 1) := by decide +kernel
theorem dX8_highOf_1 : decode cX8_highOf 1 = .ok (.iload_n 1, 1) := by decide +kernel
theorem dX8_highOf_2 : decode cX8_highOf 2 = .ok (.invokestatic 84, 3) := by decide +kernel
theorem dX8_highOf_5 : decode cX8_highOf 5 = .ok (.lconst 1, 1) := by decide +kernel
theorem dX8_highOf_6 : decode cX8_highOf 6 = .ok (.iload_n 0, 1) := by decide +kernel
theorem dX8_highOf_7 : decode cX8_highOf 7 = .ok (.iload_n 1, 1) := by decide +kernel
theorem dX8_highOf_8 : decode cX8_highOf 8 = .ok (.invokestatic 80, 3) := by decide +kernel
theorem dX8_highOf_11 : decode cX8_highOf 11 = .ok (.lshl, 1) := by decide +kernel
theorem dX8_highOf_12 : decode cX8_highOf 12 = .ok (.lconst 1, 1) := by decide +kernel
theorem dX8_highOf_13 : decode cX8_highOf 13 = .ok (.lsub, 1) := by decide +kernel
theorem dX8_highOf_14 : decode cX8_highOf 14 = .ok (.ladd, 1) := by decide +kernel
theorem dX8_highOf_15 : decode cX8_highOf 15 = .ok (.lreturn, 1) := by decide +kernel
theorem dX8_middleOf_0 : decode cX8_middleOf 0 = .ok (.iload_n 0, 1) := by decide +kernel
theorem dX8_middleOf_1 : decode cX8_middleOf 1 = .ok (.iload_n 1, 1) := by decide +kernel
theorem dX8_middleOf_2 : decode cX8_middleOf 2 = .ok (.invokestatic 84, 3) := by decide +kernel
theorem dX8_middleOf_5 : decode cX8_middleOf 5 = .ok (.lconst 1, 1) := by decide +kernel
theorem dX8_middleOf_6 : decode cX8_middleOf 6 = .ok (.iload_n 0, 1) := by decide +kernel
theorem dX8_middleOf_7 : decode cX8_middleOf 7 = .ok (.iload_n 1, 1) := by decide +kernel
theorem dX8_middleOf_8 : decode cX8_middleOf 8 = .ok (.invokestatic 80, 3) := by decide +kernel
theorem dX8_middleOf_11 : decode cX8_middleOf 11 = .ok (.lshl, 1) := by decide +kernel
theorem dX8_middleOf_12 : decode cX8_middleOf 12 = .ok (.lconst 1, 1) := by decide +kernel
theorem dX8_middleOf_13 : decode cX8_middleOf 13 = .ok (.lsub, 1) := by decide +kernel
theorem dX8_middleOf_14 : decode cX8_middleOf 14 = .ok (.ldc2_w 88, 3) := by decide +kernel
theorem dX8_middleOf_17 : decode cX8_middleOf 17 = .ok (.ldiv, 1) := by decide +kernel
theorem dX8_middleOf_18 : decode cX8_middleOf 18 = .ok (.ladd, 1) := by decide +kernel
theorem dX8_middleOf_19 : decode cX8_middleOf 19 = .ok (.lreturn, 1) := by decide +kernel
theorem dX8_slot_0 : decode cX8_slot 0 = .ok (.iload_n 1, 1) := by decide +kernel
theorem dX8_slot_1 : decode cX8_slot 1 = .ok (.i2l, 1) := by decide +kernel
theorem dX8_slot_2 : decode cX8_slot 2 = .ok (.lconst 1, 1) := by decide +kernel
theorem dX8_slot_3 : decode cX8_slot 3 = .ok (.ldc2_w 88, 3) := by decide +kernel
theorem dX8_slot_6 : decode cX8_slot 6 = .ok (.invokestatic 68, 3) := by decide +kernel
theorem dX8_slot_9 : decode cX8_slot 9 = .ok (.ifCond .eq 17, 3) := by decide +kernel
theorem dX8_slot_12 : decode cX8_slot 12 = .ok (.lload_n 2, 1) := by decide +kernel
theorem dX8_slot_13 : decode cX8_slot 13 = .ok (.lconst 0, 1) := by decide +kernel
theorem dX8_slot_14 : decode cX8_slot 14 = .ok (.lcmp, 1) := by decide +kernel
theorem dX8_slot_15 : decode cX8_slot 15 = .ok (.ifCond .lt 11, 3) := by decide +kernel
theorem dX8_slot_18 : decode cX8_slot 18 = .ok (.iload_n 1, 1) := by decide +kernel
theorem dX8_slot_19 : decode cX8_slot 19 = .ok (.lload_n 2, 1) := by decide +kernel
theorem dX8_slot_20 : decode cX8_slot 20 = .ok (.invokestatic 90, 3) := by decide +kernel
theorem dX8_slot_23 : decode cX8_slot 23 = .ok (.goto 4, 3) := by decide +kernel
theorem dX8_slot_26 : decode cX8_slot 26 = .ok (.iconst (-1), 1) := by decide +kernel
theorem dX8_slot_27 : decode cX8_slot 27 = .ok (.ireturn, 1) := by decide +kernel
theorem dX8_edge_0 : decode cX8_edge 0 = .ok (.iload_n 1, 1) := by decide +kernel
theorem dX8_edge_1 : decode cX8_edge 1 = .ok (.i2l, 1) := by decide +kernel
theorem dX8_edge_2 : decode cX8_edge 2 = .ok (.lconst 1, 1) := by decide +kernel
theorem dX8_edge_3 : decode cX8_edge 3 = .ok (.ldc2_w 88, 3) := by decide +kernel
theorem dX8_edge_6 : decode cX8_edge 6 = .ok (.invokestatic 68, 3) := by decide +kernel
theorem dX8_edge_9 : decode cX8_edge 9 = .ok (.ifCond .eq 22, 3) := by decide +kernel
theorem dX8_edge_12 : decode cX8_edge 12 = .ok (.lload_n 2, 1) := by decide +kernel
theorem dX8_edge_13 : decode cX8_edge 13 = .ok (.lconst 0, 1) := by decide +kernel
theorem dX8_edge_14 : decode cX8_edge 14 = .ok (.lcmp, 1) := by decide +kernel
theorem dX8_edge_15 : decode cX8_edge 15 = .ok (.ifCond .lt 16, 3) := by decide +kernel
theorem dX8_edge_18 : decode cX8_edge 18 = .ok (.iload 4, 2) := by decide +kernel
theorem dX8_edge_20 : decode cX8_edge 20 = .ok (.i2l, 1) := by decide +kernel
theorem dX8_edge_21 : decode cX8_edge 21 = .ok (.lconst 0, 1) := by decide +kernel
theorem dX8_edge_22 : decode cX8_edge 22 = .ok (.ldc2_w 88, 3) := by decide +kernel
theorem dX8_edge_25 : decode cX8_edge 25 = .ok (.invokestatic 68, 3) := by decide +kernel
theorem dX8_edge_28 : decode cX8_edge 28 = .ok (.ifCond .ne 7, 3) := by decide +kernel
theorem dX8_edge_31 : decode cX8_edge 31 = .ok (.ldc2_w 94, 3) := by decide +kernel
theorem dX8_edge_34 : decode cX8_edge 34 = .ok (.lreturn, 1) := by decide +kernel
theorem dX8_edge_35 : decode cX8_edge 35 = .ok (.iload_n 1, 1) := by decide +kernel
theorem dX8_edge_36 : decode cX8_edge 36 = .ok (.lload_n 2, 1) := by decide +kernel
theorem dX8_edge_37 : decode cX8_edge 37 = .ok (.invokestatic 90, 3) := by decide +kernel
theorem dX8_edge_40 : decode cX8_edge 40 = .ok (.istore 5, 2) := by decide +kernel
theorem dX8_edge_42 : decode cX8_edge 42 = .ok (.iload 4, 2) := by decide +kernel
theorem dX8_edge_44 : decode cX8_edge 44 = .ok (.ifCond .ne 12, 3) := by decide +kernel
theorem dX8_edge_47 : decode cX8_edge 47 = .ok (.iload_n 1, 1) := by decide +kernel
theorem dX8_edge_48 : decode cX8_edge 48 = .ok (.iload 5, 2) := by decide +kernel
theorem dX8_edge_50 : decode cX8_edge 50 = .ok (.invokestatic 84, 3) := by decide +kernel
theorem dX8_edge_53 : decode cX8_edge 53 = .ok (.goto 24, 3) := by decide +kernel
theorem dX8_edge_56 : decode cX8_edge 56 = .ok (.iload 4, 2) := by decide +kernel
theorem dX8_edge_58 : decode cX8_edge 58 = .ok (.iconst 1, 1) := by decide +kernel
theorem dX8_edge_59 : decode cX8_edge 59 = .ok (.if_icmp .ne 12, 3) := by decide +kernel
theorem dX8_edge_62 : decode cX8_edge 62 = .ok (.iload_n 1, 1) := by decide +kernel
theorem dX8_edge_63 : decode cX8_edge 63 = .ok (.iload 5, 2) := by decide +kernel
theorem dX8_edge_65 : decode cX8_edge 65 = .ok (.invokestatic 96, 3) := by decide +kernel
theorem dX8_edge_68 : decode cX8_edge 68 = .ok (.goto 9, 3) := by decide +kernel
theorem dX8_edge_71 : decode cX8_edge 71 = .ok (.iload_n 1, 1) := by decide +kernel
theorem dX8_edge_72 : decode cX8_edge 72 = .ok (.iload 5, 2) := by decide +kernel
theorem dX8_edge_74 : decode cX8_edge 74 = .ok (.invokestatic 99, 3) := by decide +kernel
theorem dX8_edge_77 : decode cX8_edge 77 = .ok (.lreturn, 1) := by decide +kernel
theorem dX8_of_0 : decode cX8_of 0 = .ok (.aload_n 0, 1) := by decide +kernel
theorem dX8_of_1 : decode cX8_of 1 = .ok (.getfield 13, 3) := by decide +kernel
theorem dX8_of_4 : decode cX8_of 4 = .ok (.iconst 4, 1) := by decide +kernel
theorem dX8_of_5 : decode cX8_of 5 = .ok (.iload_n 1, 1) := by decide +kernel
theorem dX8_of_6 : decode cX8_of 6 = .ok (.imul, 1) := by decide +kernel
theorem dX8_of_7 : decode cX8_of 7 = .ok (.iload_n 2, 1) := by decide +kernel
theorem dX8_of_8 : decode cX8_of 8 = .ok (.iadd, 1) := by decide +kernel
theorem dX8_of_9 : decode cX8_of 9 = .ok (.iaload, 1) := by decide +kernel
theorem dX8_of_10 : decode cX8_of 10 = .ok (.ireturn, 1) := by decide +kernel
theorem dX8_isMade_0 : decode cX8_isMade 0 = .ok (.iload_n 1, 1) := by decide +kernel
theorem dX8_isMade_1 : decode cX8_isMade 1 = .ok (.i2l, 1) := by decide +kernel
theorem dX8_isMade_2 : decode cX8_isMade 2 = .ok (.lconst 0, 1) := by decide +kernel
theorem dX8_isMade_3 : decode cX8_isMade 3 = .ok (.ldc2_w 102, 3) := by decide +kernel
theorem dX8_isMade_6 : decode cX8_isMade 6 = .ok (.invokestatic 68, 3) := by decide +kernel
theorem dX8_isMade_9 : decode cX8_isMade 9 = .ok (.ifCond .eq 17, 3) := by decide +kernel
theorem dX8_isMade_12 : decode cX8_isMade 12 = .ok (.aload_n 0, 1) := by decide +kernel
theorem dX8_isMade_13 : decode cX8_isMade 13 = .ok (.iload_n 1, 1) := by decide +kernel
theorem dX8_isMade_14 : decode cX8_isMade 14 = .ok (.iconst 3, 1) := by decide +kernel
theorem dX8_isMade_15 : decode cX8_isMade 15 = .ok (.invokevirtual 104, 3) := by decide +kernel
theorem dX8_isMade_18 : decode cX8_isMade 18 = .ok (.iconst 1, 1) := by decide +kernel
theorem dX8_isMade_19 : decode cX8_isMade 19 = .ok (.if_icmp .ne 7, 3) := by decide +kernel
theorem dX8_isMade_22 : decode cX8_isMade 22 = .ok (.iconst 1, 1) := by decide +kernel
theorem dX8_isMade_23 : decode cX8_isMade 23 = .ok (.goto 4, 3) := by decide +kernel
theorem dX8_isMade_26 : decode cX8_isMade 26 = .ok (.iconst 0, 1) := by decide +kernel
theorem dX8_isMade_27 : decode cX8_isMade 27 = .ok (.ireturn, 1) := by decide +kernel
theorem dX8_pagesOf_0 : decode cX8_pagesOf 0 = .ok (.aload_n 0, 1) := by decide +kernel
theorem dX8_pagesOf_1 : decode cX8_pagesOf 1 = .ok (.iload_n 1, 1) := by decide +kernel
theorem dX8_pagesOf_2 : decode cX8_pagesOf 2 = .ok (.iconst 2, 1) := by decide +kernel
theorem dX8_pagesOf_3 : decode cX8_pagesOf 3 = .ok (.invokevirtual 104, 3) := by decide +kernel
theorem dX8_pagesOf_6 : decode cX8_pagesOf 6 = .ok (.bipush 16, 2) := by decide +kernel
theorem dX8_pagesOf_8 : decode cX8_pagesOf 8 = .ok (.iadd, 1) := by decide +kernel
theorem dX8_pagesOf_9 : decode cX8_pagesOf 9 = .ok (.iconst 1, 1) := by decide +kernel
theorem dX8_pagesOf_10 : decode cX8_pagesOf 10 = .ok (.isub, 1) := by decide +kernel
theorem dX8_pagesOf_11 : decode cX8_pagesOf 11 = .ok (.bipush 16, 2) := by decide +kernel
theorem dX8_pagesOf_13 : decode cX8_pagesOf 13 = .ok (.idiv, 1) := by decide +kernel
theorem dX8_pagesOf_14 : decode cX8_pagesOf 14 = .ok (.ireturn, 1) := by decide +kernel
theorem dX8_clears_0 : decode cX8_clears 0 = .ok (.iconst 0, 1) := by decide +kernel
theorem dX8_clears_1 : decode cX8_clears 1 = .ok (.istore_n 2, 1) := by decide +kernel
theorem dX8_clears_2 : decode cX8_clears 2 = .ok (.iload_n 2, 1) := by decide +kernel
theorem dX8_clears_3 : decode cX8_clears 3 = .ok (.sipush 4352, 3) := by decide +kernel
theorem dX8_clears_6 : decode cX8_clears 6 = .ok (.if_icmp .ge 35, 3) := by decide +kernel
theorem dX8_clears_9 : decode cX8_clears 9 = .ok (.aload_n 0, 1) := by decide +kernel
theorem dX8_clears_10 : decode cX8_clears 10 = .ok (.getfield 21, 3) := by decide +kernel
theorem dX8_clears_13 : decode cX8_clears 13 = .ok (.sipush 4352, 3) := by decide +kernel
theorem dX8_clears_16 : decode cX8_clears 16 = .ok (.iload_n 1, 1) := by decide +kernel
theorem dX8_clears_17 : decode cX8_clears 17 = .ok (.imul, 1) := by decide +kernel
theorem dX8_clears_18 : decode cX8_clears 18 = .ok (.iload_n 2, 1) := by decide +kernel
theorem dX8_clears_19 : decode cX8_clears 19 = .ok (.iadd, 1) := by decide +kernel
theorem dX8_clears_20 : decode cX8_clears 20 = .ok (.lconst 0, 1) := by decide +kernel
theorem dX8_clears_21 : decode cX8_clears 21 = .ok (.lastore, 1) := by decide +kernel
theorem dX8_clears_22 : decode cX8_clears 22 = .ok (.aload_n 0, 1) := by decide +kernel
theorem dX8_clears_23 : decode cX8_clears 23 = .ok (.getfield 30, 3) := by decide +kernel
theorem dX8_clears_26 : decode cX8_clears 26 = .ok (.sipush 4352, 3) := by decide +kernel
theorem dX8_clears_29 : decode cX8_clears 29 = .ok (.iload_n 1, 1) := by decide +kernel
theorem dX8_clears_30 : decode cX8_clears 30 = .ok (.imul, 1) := by decide +kernel
theorem dX8_clears_31 : decode cX8_clears 31 = .ok (.iload_n 2, 1) := by decide +kernel
theorem dX8_clears_32 : decode cX8_clears 32 = .ok (.iadd, 1) := by decide +kernel
theorem dX8_clears_33 : decode cX8_clears 33 = .ok (.iconst 0, 1) := by decide +kernel
theorem dX8_clears_34 : decode cX8_clears 34 = .ok (.bastore, 1) := by decide +kernel
theorem dX8_clears_35 : decode cX8_clears 35 = .ok (.iinc 2 1, 3) := by decide +kernel
theorem dX8_clears_38 : decode cX8_clears 38 = .ok (.goto (-36), 3) := by decide +kernel
theorem dX8_clears_41 : decode cX8_clears 41 = .ok (.iconst 0, 1) := by decide +kernel
theorem dX8_clears_42 : decode cX8_clears 42 = .ok (.istore_n 2, 1) := by decide +kernel
theorem dX8_clears_43 : decode cX8_clears 43 = .ok (.iload_n 2, 1) := by decide +kernel
theorem dX8_clears_44 : decode cX8_clears 44 = .ok (.sipush 272, 3) := by decide +kernel
theorem dX8_clears_47 : decode cX8_clears 47 = .ok (.if_icmp .ge 35, 3) := by decide +kernel
theorem dX8_clears_50 : decode cX8_clears 50 = .ok (.aload_n 0, 1) := by decide +kernel
theorem dX8_clears_51 : decode cX8_clears 51 = .ok (.getfield 24, 3) := by decide +kernel
theorem dX8_clears_54 : decode cX8_clears 54 = .ok (.sipush 272, 3) := by decide +kernel
theorem dX8_clears_57 : decode cX8_clears 57 = .ok (.iload_n 1, 1) := by decide +kernel
theorem dX8_clears_58 : decode cX8_clears 58 = .ok (.imul, 1) := by decide +kernel
theorem dX8_clears_59 : decode cX8_clears 59 = .ok (.iload_n 2, 1) := by decide +kernel
theorem dX8_clears_60 : decode cX8_clears 60 = .ok (.iadd, 1) := by decide +kernel
theorem dX8_clears_61 : decode cX8_clears 61 = .ok (.iconst 0, 1) := by decide +kernel
theorem dX8_clears_62 : decode cX8_clears 62 = .ok (.bastore, 1) := by decide +kernel
theorem dX8_clears_63 : decode cX8_clears 63 = .ok (.aload_n 0, 1) := by decide +kernel
theorem dX8_clears_64 : decode cX8_clears 64 = .ok (.getfield 27, 3) := by decide +kernel
theorem dX8_clears_67 : decode cX8_clears 67 = .ok (.sipush 272, 3) := by decide +kernel
theorem dX8_clears_70 : decode cX8_clears 70 = .ok (.iload_n 1, 1) := by decide +kernel
theorem dX8_clears_71 : decode cX8_clears 71 = .ok (.imul, 1) := by decide +kernel
theorem dX8_clears_72 : decode cX8_clears 72 = .ok (.iload_n 2, 1) := by decide +kernel
theorem dX8_clears_73 : decode cX8_clears 73 = .ok (.iadd, 1) := by decide +kernel
theorem dX8_clears_74 : decode cX8_clears 74 = .ok (.iconst 0, 1) := by decide +kernel
theorem dX8_clears_75 : decode cX8_clears 75 = .ok (.bastore, 1) := by decide +kernel
theorem dX8_clears_76 : decode cX8_clears 76 = .ok (.iinc 2 1, 3) := by decide +kernel
theorem dX8_clears_79 : decode cX8_clears 79 = .ok (.goto (-36), 3) := by decide +kernel
theorem dX8_clears_82 : decode cX8_clears 82 = .ok (.return_, 1) := by decide +kernel
theorem dX8_becomes_0 : decode cX8_becomes 0 = .ok (.aload_n 0, 1) := by decide +kernel
theorem dX8_becomes_1 : decode cX8_becomes 1 = .ok (.iload_n 1, 1) := by decide +kernel
theorem dX8_becomes_2 : decode cX8_becomes 2 = .ok (.invokevirtual 107, 3) := by decide +kernel
theorem dX8_becomes_5 : decode cX8_becomes 5 = .ok (.aload_n 0, 1) := by decide +kernel
theorem dX8_becomes_6 : decode cX8_becomes 6 = .ok (.getfield 13, 3) := by decide +kernel
theorem dX8_becomes_9 : decode cX8_becomes 9 = .ok (.iconst 4, 1) := by decide +kernel
theorem dX8_becomes_10 : decode cX8_becomes 10 = .ok (.iload_n 1, 1) := by decide +kernel
theorem dX8_becomes_11 : decode cX8_becomes 11 = .ok (.imul, 1) := by decide +kernel
theorem dX8_becomes_12 : decode cX8_becomes 12 = .ok (.iconst 0, 1) := by decide +kernel
theorem dX8_becomes_13 : decode cX8_becomes 13 = .ok (.iadd, 1) := by decide +kernel
theorem dX8_becomes_14 : decode cX8_becomes 14 = .ok (.iload_n 2, 1) := by decide +kernel
theorem dX8_becomes_15 : decode cX8_becomes 15 = .ok (.iastore, 1) := by decide +kernel
theorem dX8_becomes_16 : decode cX8_becomes 16 = .ok (.aload_n 0, 1) := by decide +kernel
theorem dX8_becomes_17 : decode cX8_becomes 17 = .ok (.getfield 13, 3) := by decide +kernel
theorem dX8_becomes_20 : decode cX8_becomes 20 = .ok (.iconst 4, 1) := by decide +kernel
theorem dX8_becomes_21 : decode cX8_becomes 21 = .ok (.iload_n 1, 1) := by decide +kernel
theorem dX8_becomes_22 : decode cX8_becomes 22 = .ok (.imul, 1) := by decide +kernel
theorem dX8_becomes_23 : decode cX8_becomes 23 = .ok (.iconst 1, 1) := by decide +kernel
theorem dX8_becomes_24 : decode cX8_becomes 24 = .ok (.iadd, 1) := by decide +kernel
theorem dX8_becomes_25 : decode cX8_becomes 25 = .ok (.iload_n 3, 1) := by decide +kernel
theorem dX8_becomes_26 : decode cX8_becomes 26 = .ok (.iastore, 1) := by decide +kernel
theorem dX8_becomes_27 : decode cX8_becomes 27 = .ok (.aload_n 0, 1) := by decide +kernel
theorem dX8_becomes_28 : decode cX8_becomes 28 = .ok (.getfield 13, 3) := by decide +kernel
theorem dX8_becomes_31 : decode cX8_becomes 31 = .ok (.iconst 4, 1) := by decide +kernel
theorem dX8_becomes_32 : decode cX8_becomes 32 = .ok (.iload_n 1, 1) := by decide +kernel
theorem dX8_becomes_33 : decode cX8_becomes 33 = .ok (.imul, 1) := by decide +kernel
theorem dX8_becomes_34 : decode cX8_becomes 34 = .ok (.iconst 2, 1) := by decide +kernel
theorem dX8_becomes_35 : decode cX8_becomes 35 = .ok (.iadd, 1) := by decide +kernel
theorem dX8_becomes_36 : decode cX8_becomes 36 = .ok (.iload_n 3, 1) := by decide +kernel
theorem dX8_becomes_37 : decode cX8_becomes 37 = .ok (.lload 4, 2) := by decide +kernel
theorem dX8_becomes_39 : decode cX8_becomes 39 = .ok (.invokestatic 90, 3) := by decide +kernel
theorem dX8_becomes_42 : decode cX8_becomes 42 = .ok (.iconst 1, 1) := by decide +kernel
theorem dX8_becomes_43 : decode cX8_becomes 43 = .ok (.iadd, 1) := by decide +kernel
theorem dX8_becomes_44 : decode cX8_becomes 44 = .ok (.iastore, 1) := by decide +kernel
theorem dX8_becomes_45 : decode cX8_becomes 45 = .ok (.aload_n 0, 1) := by decide +kernel
theorem dX8_becomes_46 : decode cX8_becomes 46 = .ok (.getfield 13, 3) := by decide +kernel
theorem dX8_becomes_49 : decode cX8_becomes 49 = .ok (.iconst 4, 1) := by decide +kernel
theorem dX8_becomes_50 : decode cX8_becomes 50 = .ok (.iload_n 1, 1) := by decide +kernel
theorem dX8_becomes_51 : decode cX8_becomes 51 = .ok (.imul, 1) := by decide +kernel
theorem dX8_becomes_52 : decode cX8_becomes 52 = .ok (.iconst 3, 1) := by decide +kernel
theorem dX8_becomes_53 : decode cX8_becomes 53 = .ok (.iadd, 1) := by decide +kernel
theorem dX8_becomes_54 : decode cX8_becomes 54 = .ok (.iconst 1, 1) := by decide +kernel
theorem dX8_becomes_55 : decode cX8_becomes 55 = .ok (.iastore, 1) := by decide +kernel
theorem dX8_becomes_56 : decode cX8_becomes 56 = .ok (.aload_n 0, 1) := by decide +kernel
theorem dX8_becomes_57 : decode cX8_becomes 57 = .ok (.getfield 17, 3) := by decide +kernel
theorem dX8_becomes_60 : decode cX8_becomes 60 = .ok (.iload_n 1, 1) := by decide +kernel
theorem dX8_becomes_61 : decode cX8_becomes 61 = .ok (.lload 4, 2) := by decide +kernel
theorem dX8_becomes_63 : decode cX8_becomes 63 = .ok (.lastore, 1) := by decide +kernel
theorem dX8_becomes_64 : decode cX8_becomes 64 = .ok (.return_, 1) := by decide +kernel
theorem dX8_make_0 : decode cX8_make 0 = .ok (.iload_n 1, 1) := by decide +kernel
theorem dX8_make_1 : decode cX8_make 1 = .ok (.i2l, 1) := by decide +kernel
theorem dX8_make_2 : decode cX8_make 2 = .ok (.lconst 0, 1) := by decide +kernel
theorem dX8_make_3 : decode cX8_make 3 = .ok (.ldc2_w 102, 3) := by decide +kernel
theorem dX8_make_6 : decode cX8_make 6 = .ok (.invokestatic 68, 3) := by decide +kernel
theorem dX8_make_9 : decode cX8_make 9 = .ok (.ifCond .eq 39, 3) := by decide +kernel
theorem dX8_make_12 : decode cX8_make 12 = .ok (.iload_n 2, 1) := by decide +kernel
theorem dX8_make_13 : decode cX8_make 13 = .ok (.i2l, 1) := by decide +kernel
theorem dX8_make_14 : decode cX8_make 14 = .ok (.lconst 0, 1) := by decide +kernel
theorem dX8_make_15 : decode cX8_make 15 = .ok (.lconst 1, 1) := by decide +kernel
theorem dX8_make_16 : decode cX8_make 16 = .ok (.invokestatic 68, 3) := by decide +kernel
theorem dX8_make_19 : decode cX8_make 19 = .ok (.ifCond .eq 29, 3) := by decide +kernel
theorem dX8_make_22 : decode cX8_make 22 = .ok (.iload_n 3, 1) := by decide +kernel
theorem dX8_make_23 : decode cX8_make 23 = .ok (.i2l, 1) := by decide +kernel
theorem dX8_make_24 : decode cX8_make 24 = .ok (.lconst 1, 1) := by decide +kernel
theorem dX8_make_25 : decode cX8_make 25 = .ok (.ldc2_w 88, 3) := by decide +kernel
theorem dX8_make_28 : decode cX8_make 28 = .ok (.invokestatic 68, 3) := by decide +kernel
theorem dX8_make_31 : decode cX8_make 31 = .ok (.ifCond .eq 17, 3) := by decide +kernel
theorem dX8_make_34 : decode cX8_make 34 = .ok (.lload 4, 2) := by decide +kernel
theorem dX8_make_36 : decode cX8_make 36 = .ok (.ldc2_w 111, 3) := by decide +kernel
theorem dX8_make_39 : decode cX8_make 39 = .ok (.ldc2_w 113, 3) := by decide +kernel
theorem dX8_make_42 : decode cX8_make 42 = .ok (.invokestatic 68, 3) := by decide +kernel
theorem dX8_make_45 : decode cX8_make 45 = .ok (.ifCond .ne 5, 3) := by decide +kernel
theorem dX8_make_48 : decode cX8_make 48 = .ok (.iconst (-1), 1) := by decide +kernel
theorem dX8_make_49 : decode cX8_make 49 = .ok (.ireturn, 1) := by decide +kernel
theorem dX8_make_50 : decode cX8_make 50 = .ok (.aload_n 0, 1) := by decide +kernel
theorem dX8_make_51 : decode cX8_make 51 = .ok (.invokevirtual 115, 3) := by decide +kernel
theorem dX8_make_54 : decode cX8_make 54 = .ok (.aload_n 0, 1) := by decide +kernel
theorem dX8_make_55 : decode cX8_make 55 = .ok (.iload_n 1, 1) := by decide +kernel
theorem dX8_make_56 : decode cX8_make 56 = .ok (.iload_n 2, 1) := by decide +kernel
theorem dX8_make_57 : decode cX8_make 57 = .ok (.iload_n 3, 1) := by decide +kernel
theorem dX8_make_58 : decode cX8_make 58 = .ok (.lload 4, 2) := by decide +kernel
theorem dX8_make_60 : decode cX8_make 60 = .ok (.invokevirtual 118, 3) := by decide +kernel
theorem dX8_make_63 : decode cX8_make 63 = .ok (.aload_n 0, 1) := by decide +kernel
theorem dX8_make_64 : decode cX8_make 64 = .ok (.iload_n 1, 1) := by decide +kernel
theorem dX8_make_65 : decode cX8_make 65 = .ok (.iconst 2, 1) := by decide +kernel
theorem dX8_make_66 : decode cX8_make 66 = .ok (.invokevirtual 104, 3) := by decide +kernel
theorem dX8_make_69 : decode cX8_make 69 = .ok (.ireturn, 1) := by decide +kernel
theorem dX8_holds_0 : decode cX8_holds 0 = .ok (.iload_n 0, 1) := by decide +kernel
theorem dX8_holds_1 : decode cX8_holds 1 = .ok (.tableswitch 125 1 7 #[43, 55, 69, 83, 97, 125, 111], 43) := by decide +kernel
theorem dX8_holds_44 : decode cX8_holds 44 = .ok (.lload_n 1, 1) := by decide +kernel
theorem dX8_holds_45 : decode cX8_holds 45 = .ok (.lconst 1, 1) := by decide +kernel
theorem dX8_holds_46 : decode cX8_holds 46 = .ok (.lcmp, 1) := by decide +kernel
theorem dX8_holds_47 : decode cX8_holds 47 = .ok (.ifCond .gt 7, 3) := by decide +kernel
theorem dX8_holds_50 : decode cX8_holds 50 = .ok (.iconst 1, 1) := by decide +kernel
theorem dX8_holds_51 : decode cX8_holds 51 = .ok (.goto 4, 3) := by decide +kernel
theorem dX8_holds_54 : decode cX8_holds 54 = .ok (.iconst 0, 1) := by decide +kernel
theorem dX8_holds_55 : decode cX8_holds 55 = .ok (.ireturn, 1) := by decide +kernel
theorem dX8_holds_56 : decode cX8_holds 56 = .ok (.lload_n 1, 1) := by decide +kernel
theorem dX8_holds_57 : decode cX8_holds 57 = .ok (.ldc2_w 122, 3) := by decide +kernel
theorem dX8_holds_60 : decode cX8_holds 60 = .ok (.lcmp, 1) := by decide +kernel
theorem dX8_holds_61 : decode cX8_holds 61 = .ok (.ifCond .gt 7, 3) := by decide +kernel
theorem dX8_holds_64 : decode cX8_holds 64 = .ok (.iconst 1, 1) := by decide +kernel
theorem dX8_holds_65 : decode cX8_holds 65 = .ok (.goto 4, 3) := by decide +kernel
theorem dX8_holds_68 : decode cX8_holds 68 = .ok (.iconst 0, 1) := by decide +kernel
theorem dX8_holds_69 : decode cX8_holds 69 = .ok (.ireturn, 1) := by decide +kernel
theorem dX8_holds_70 : decode cX8_holds 70 = .ok (.lload_n 1, 1) := by decide +kernel
theorem dX8_holds_71 : decode cX8_holds 71 = .ok (.ldc2_w 124, 3) := by decide +kernel
theorem dX8_holds_74 : decode cX8_holds 74 = .ok (.lcmp, 1) := by decide +kernel
theorem dX8_holds_75 : decode cX8_holds 75 = .ok (.ifCond .gt 7, 3) := by decide +kernel
theorem dX8_holds_78 : decode cX8_holds 78 = .ok (.iconst 1, 1) := by decide +kernel
theorem dX8_holds_79 : decode cX8_holds 79 = .ok (.goto 4, 3) := by decide +kernel
theorem dX8_holds_82 : decode cX8_holds 82 = .ok (.iconst 0, 1) := by decide +kernel
theorem dX8_holds_83 : decode cX8_holds 83 = .ok (.ireturn, 1) := by decide +kernel
theorem dX8_holds_84 : decode cX8_holds 84 = .ok (.lload_n 1, 1) := by decide +kernel
theorem dX8_holds_85 : decode cX8_holds 85 = .ok (.ldc2_w 126, 3) := by decide +kernel
theorem dX8_holds_88 : decode cX8_holds 88 = .ok (.lcmp, 1) := by decide +kernel
theorem dX8_holds_89 : decode cX8_holds 89 = .ok (.ifCond .gt 7, 3) := by decide +kernel
theorem dX8_holds_92 : decode cX8_holds 92 = .ok (.iconst 1, 1) := by decide +kernel
theorem dX8_holds_93 : decode cX8_holds 93 = .ok (.goto 4, 3) := by decide +kernel
theorem dX8_holds_96 : decode cX8_holds 96 = .ok (.iconst 0, 1) := by decide +kernel
theorem dX8_holds_97 : decode cX8_holds 97 = .ok (.ireturn, 1) := by decide +kernel
theorem dX8_holds_98 : decode cX8_holds 98 = .ok (.lload_n 1, 1) := by decide +kernel
theorem dX8_holds_99 : decode cX8_holds 99 = .ok (.ldc2_w 128, 3) := by decide +kernel
theorem dX8_holds_102 : decode cX8_holds 102 = .ok (.lcmp, 1) := by decide +kernel
theorem dX8_holds_103 : decode cX8_holds 103 = .ok (.ifCond .gt 7, 3) := by decide +kernel
theorem dX8_holds_106 : decode cX8_holds 106 = .ok (.iconst 1, 1) := by decide +kernel
theorem dX8_holds_107 : decode cX8_holds 107 = .ok (.goto 4, 3) := by decide +kernel
theorem dX8_holds_110 : decode cX8_holds 110 = .ok (.iconst 0, 1) := by decide +kernel
theorem dX8_holds_111 : decode cX8_holds 111 = .ok (.ireturn, 1) := by decide +kernel
theorem dX8_holds_112 : decode cX8_holds 112 = .ok (.lload_n 1, 1) := by decide +kernel
theorem dX8_holds_113 : decode cX8_holds 113 = .ok (.ldc2_w 130, 3) := by decide +kernel
theorem dX8_holds_116 : decode cX8_holds 116 = .ok (.lcmp, 1) := by decide +kernel
theorem dX8_holds_117 : decode cX8_holds 117 = .ok (.ifCond .gt 7, 3) := by decide +kernel
theorem dX8_holds_120 : decode cX8_holds 120 = .ok (.iconst 1, 1) := by decide +kernel
theorem dX8_holds_121 : decode cX8_holds 121 = .ok (.goto 4, 3) := by decide +kernel
theorem dX8_holds_124 : decode cX8_holds 124 = .ok (.iconst 0, 1) := by decide +kernel
theorem dX8_holds_125 : decode cX8_holds 125 = .ok (.ireturn, 1) := by decide +kernel
theorem dX8_holds_126 : decode cX8_holds 126 = .ok (.iconst 1, 1) := by decide +kernel
theorem dX8_holds_127 : decode cX8_holds 127 = .ok (.ireturn, 1) := by decide +kernel
theorem dX8_isRow_0 : decode cX8_isRow 0 = .ok (.aload_n 0, 1) := by decide +kernel
theorem dX8_isRow_1 : decode cX8_isRow 1 = .ok (.getfield 24, 3) := by decide +kernel
theorem dX8_isRow_4 : decode cX8_isRow 4 = .ok (.sipush 272, 3) := by decide +kernel
theorem dX8_isRow_7 : decode cX8_isRow 7 = .ok (.iload_n 1, 1) := by decide +kernel
theorem dX8_isRow_8 : decode cX8_isRow 8 = .ok (.imul, 1) := by decide +kernel
theorem dX8_isRow_9 : decode cX8_isRow 9 = .ok (.iload_n 2, 1) := by decide +kernel
theorem dX8_isRow_10 : decode cX8_isRow 10 = .ok (.iadd, 1) := by decide +kernel
theorem dX8_isRow_11 : decode cX8_isRow 11 = .ok (.baload, 1) := by decide +kernel
theorem dX8_isRow_12 : decode cX8_isRow 12 = .ok (.i2l, 1) := by decide +kernel
theorem dX8_isRow_13 : decode cX8_isRow 13 = .ok (.lconst 1, 1) := by decide +kernel
theorem dX8_isRow_14 : decode cX8_isRow 14 = .ok (.ldc2_w 132, 3) := by decide +kernel
theorem dX8_isRow_17 : decode cX8_isRow 17 = .ok (.invokestatic 68, 3) := by decide +kernel
theorem dX8_isRow_20 : decode cX8_isRow 20 = .ok (.ireturn, 1) := by decide +kernel
theorem dX8_kindFor_0 : decode cX8_kindFor 0 = .ok (.iload_n 0, 1) := by decide +kernel
theorem dX8_kindFor_1 : decode cX8_kindFor 1 = .ok (.istore_n 3, 1) := by decide +kernel
theorem dX8_kindFor_2 : decode cX8_kindFor 2 = .ok (.iload_n 3, 1) := by decide +kernel
theorem dX8_kindFor_3 : decode cX8_kindFor 3 = .ok (.lload_n 1, 1) := by decide +kernel
theorem dX8_kindFor_4 : decode cX8_kindFor 4 = .ok (.invokestatic 134, 3) := by decide +kernel
theorem dX8_kindFor_7 : decode cX8_kindFor 7 = .ok (.ifCond .ne 9, 3) := by decide +kernel
theorem dX8_kindFor_10 : decode cX8_kindFor 10 = .ok (.iinc 3 1, 3) := by decide +kernel
theorem dX8_kindFor_13 : decode cX8_kindFor 13 = .ok (.goto (-11), 3) := by decide +kernel
theorem dX8_kindFor_16 : decode cX8_kindFor 16 = .ok (.iload_n 3, 1) := by decide +kernel
theorem dX8_kindFor_17 : decode cX8_kindFor 17 = .ok (.ireturn, 1) := by decide +kernel
theorem dX8_mostOf_0 : decode cX8_mostOf 0 = .ok (.lconst 0, 1) := by decide +kernel
theorem dX8_mostOf_1 : decode cX8_mostOf 1 = .ok (.lstore_n 3, 1) := by decide +kernel
theorem dX8_mostOf_2 : decode cX8_mostOf 2 = .ok (.iconst 0, 1) := by decide +kernel
theorem dX8_mostOf_3 : decode cX8_mostOf 3 = .ok (.istore 5, 2) := by decide +kernel
theorem dX8_mostOf_5 : decode cX8_mostOf 5 = .ok (.iload 5, 2) := by decide +kernel
theorem dX8_mostOf_7 : decode cX8_mostOf 7 = .ok (.bipush 16, 2) := by decide +kernel
theorem dX8_mostOf_9 : decode cX8_mostOf 9 = .ok (.if_icmp .ge 43, 3) := by decide +kernel
theorem dX8_mostOf_12 : decode cX8_mostOf 12 = .ok (.aload_n 0, 1) := by decide +kernel
theorem dX8_mostOf_13 : decode cX8_mostOf 13 = .ok (.getfield 21, 3) := by decide +kernel
theorem dX8_mostOf_16 : decode cX8_mostOf 16 = .ok (.sipush 4352, 3) := by decide +kernel
theorem dX8_mostOf_19 : decode cX8_mostOf 19 = .ok (.iload_n 1, 1) := by decide +kernel
theorem dX8_mostOf_20 : decode cX8_mostOf 20 = .ok (.imul, 1) := by decide +kernel
theorem dX8_mostOf_21 : decode cX8_mostOf 21 = .ok (.bipush 16, 2) := by decide +kernel
theorem dX8_mostOf_23 : decode cX8_mostOf 23 = .ok (.iload_n 2, 1) := by decide +kernel
theorem dX8_mostOf_24 : decode cX8_mostOf 24 = .ok (.imul, 1) := by decide +kernel
theorem dX8_mostOf_25 : decode cX8_mostOf 25 = .ok (.iadd, 1) := by decide +kernel
theorem dX8_mostOf_26 : decode cX8_mostOf 26 = .ok (.iload 5, 2) := by decide +kernel
theorem dX8_mostOf_28 : decode cX8_mostOf 28 = .ok (.iadd, 1) := by decide +kernel
theorem dX8_mostOf_29 : decode cX8_mostOf 29 = .ok (.laload, 1) := by decide +kernel
theorem dX8_mostOf_30 : decode cX8_mostOf 30 = .ok (.lstore 6, 2) := by decide +kernel
theorem dX8_mostOf_32 : decode cX8_mostOf 32 = .ok (.lload 6, 2) := by decide +kernel
theorem dX8_mostOf_34 : decode cX8_mostOf 34 = .ok (.lload_n 3, 1) := by decide +kernel
theorem dX8_mostOf_35 : decode cX8_mostOf 35 = .ok (.lcmp, 1) := by decide +kernel
theorem dX8_mostOf_36 : decode cX8_mostOf 36 = .ok (.ifCond .le 8, 3) := by decide +kernel
theorem dX8_mostOf_39 : decode cX8_mostOf 39 = .ok (.lload 6, 2) := by decide +kernel
theorem dX8_mostOf_41 : decode cX8_mostOf 41 = .ok (.goto 4, 3) := by decide +kernel
theorem dX8_mostOf_44 : decode cX8_mostOf 44 = .ok (.lload_n 3, 1) := by decide +kernel
theorem dX8_mostOf_45 : decode cX8_mostOf 45 = .ok (.lstore_n 3, 1) := by decide +kernel
theorem dX8_mostOf_46 : decode cX8_mostOf 46 = .ok (.iinc 5 1, 3) := by decide +kernel
theorem dX8_mostOf_49 : decode cX8_mostOf 49 = .ok (.goto (-44), 3) := by decide +kernel
theorem dX8_mostOf_52 : decode cX8_mostOf 52 = .ok (.lload_n 3, 1) := by decide +kernel
theorem dX8_mostOf_53 : decode cX8_mostOf 53 = .ok (.lreturn, 1) := by decide +kernel
theorem dX8_firstKind_0 : decode cX8_firstKind 0 = .ok (.aload_n 0, 1) := by decide +kernel
theorem dX8_firstKind_1 : decode cX8_firstKind 1 = .ok (.iload_n 1, 1) := by decide +kernel
theorem dX8_firstKind_2 : decode cX8_firstKind 2 = .ok (.iconst 0, 1) := by decide +kernel
theorem dX8_firstKind_3 : decode cX8_firstKind 3 = .ok (.invokevirtual 104, 3) := by decide +kernel
theorem dX8_firstKind_6 : decode cX8_firstKind 6 = .ok (.ifCond .ne 7, 3) := by decide +kernel
theorem dX8_firstKind_9 : decode cX8_firstKind 9 = .ok (.iconst 1, 1) := by decide +kernel
theorem dX8_firstKind_10 : decode cX8_firstKind 10 = .ok (.goto 5, 3) := by decide +kernel
theorem dX8_firstKind_13 : decode cX8_firstKind 13 = .ok (.bipush 7, 2) := by decide +kernel
theorem dX8_firstKind_15 : decode cX8_firstKind 15 = .ok (.ireturn, 1) := by decide +kernel
theorem dX8_writesPlace_0 : decode cX8_writesPlace 0 = .ok (.aload_n 0, 1) := by decide +kernel
theorem dX8_writesPlace_1 : decode cX8_writesPlace 1 = .ok (.getfield 21, 3) := by decide +kernel
theorem dX8_writesPlace_4 : decode cX8_writesPlace 4 = .ok (.sipush 4352, 3) := by decide +kernel
theorem dX8_writesPlace_7 : decode cX8_writesPlace 7 = .ok (.iload_n 1, 1) := by decide +kernel
theorem dX8_writesPlace_8 : decode cX8_writesPlace 8 = .ok (.imul, 1) := by decide +kernel
theorem dX8_writesPlace_9 : decode cX8_writesPlace 9 = .ok (.iload_n 2, 1) := by decide +kernel
theorem dX8_writesPlace_10 : decode cX8_writesPlace 10 = .ok (.iadd, 1) := by decide +kernel
theorem dX8_writesPlace_11 : decode cX8_writesPlace 11 = .ok (.laload, 1) := by decide +kernel
theorem dX8_writesPlace_12 : decode cX8_writesPlace 12 = .ok (.lload_n 3, 1) := by decide +kernel
theorem dX8_writesPlace_13 : decode cX8_writesPlace 13 = .ok (.lcmp, 1) := by decide +kernel
theorem dX8_writesPlace_14 : decode cX8_writesPlace 14 = .ok (.ifCond .ne 4, 3) := by decide +kernel
theorem dX8_writesPlace_17 : decode cX8_writesPlace 17 = .ok (.return_, 1) := by decide +kernel
theorem dX8_writesPlace_18 : decode cX8_writesPlace 18 = .ok (.iload_n 2, 1) := by decide +kernel
theorem dX8_writesPlace_19 : decode cX8_writesPlace 19 = .ok (.bipush 16, 2) := by decide +kernel
theorem dX8_writesPlace_21 : decode cX8_writesPlace 21 = .ok (.idiv, 1) := by decide +kernel
theorem dX8_writesPlace_22 : decode cX8_writesPlace 22 = .ok (.istore 5, 2) := by decide +kernel
theorem dX8_writesPlace_24 : decode cX8_writesPlace 24 = .ok (.aload_n 0, 1) := by decide +kernel
theorem dX8_writesPlace_25 : decode cX8_writesPlace 25 = .ok (.iload_n 1, 1) := by decide +kernel
theorem dX8_writesPlace_26 : decode cX8_writesPlace 26 = .ok (.iload 5, 2) := by decide +kernel
theorem dX8_writesPlace_28 : decode cX8_writesPlace 28 = .ok (.invokevirtual 138, 3) := by decide +kernel
theorem dX8_writesPlace_31 : decode cX8_writesPlace 31 = .ok (.ifCond .eq 19, 3) := by decide +kernel
theorem dX8_writesPlace_34 : decode cX8_writesPlace 34 = .ok (.aload_n 0, 1) := by decide +kernel
theorem dX8_writesPlace_35 : decode cX8_writesPlace 35 = .ok (.getfield 24, 3) := by decide +kernel
theorem dX8_writesPlace_38 : decode cX8_writesPlace 38 = .ok (.sipush 272, 3) := by decide +kernel
theorem dX8_writesPlace_41 : decode cX8_writesPlace 41 = .ok (.iload_n 1, 1) := by decide +kernel
theorem dX8_writesPlace_42 : decode cX8_writesPlace 42 = .ok (.imul, 1) := by decide +kernel
theorem dX8_writesPlace_43 : decode cX8_writesPlace 43 = .ok (.iload 5, 2) := by decide +kernel
theorem dX8_writesPlace_45 : decode cX8_writesPlace 45 = .ok (.iadd, 1) := by decide +kernel
theorem dX8_writesPlace_46 : decode cX8_writesPlace 46 = .ok (.baload, 1) := by decide +kernel
theorem dX8_writesPlace_47 : decode cX8_writesPlace 47 = .ok (.goto 18, 3) := by decide +kernel
theorem dX8_writesPlace_50 : decode cX8_writesPlace 50 = .ok (.aload_n 0, 1) := by decide +kernel
theorem dX8_writesPlace_51 : decode cX8_writesPlace 51 = .ok (.iload_n 1, 1) := by decide +kernel
theorem dX8_writesPlace_52 : decode cX8_writesPlace 52 = .ok (.invokevirtual 142, 3) := by decide +kernel
theorem dX8_writesPlace_55 : decode cX8_writesPlace 55 = .ok (.aload_n 0, 1) := by decide +kernel
theorem dX8_writesPlace_56 : decode cX8_writesPlace 56 = .ok (.iload_n 1, 1) := by decide +kernel
theorem dX8_writesPlace_57 : decode cX8_writesPlace 57 = .ok (.iload 5, 2) := by decide +kernel
theorem dX8_writesPlace_59 : decode cX8_writesPlace 59 = .ok (.invokevirtual 145, 3) := by decide +kernel
theorem dX8_writesPlace_62 : decode cX8_writesPlace 62 = .ok (.invokestatic 148, 3) := by decide +kernel
theorem dX8_writesPlace_65 : decode cX8_writesPlace 65 = .ok (.istore 6, 2) := by decide +kernel
theorem dX8_writesPlace_67 : decode cX8_writesPlace 67 = .ok (.aload_n 0, 1) := by decide +kernel
theorem dX8_writesPlace_68 : decode cX8_writesPlace 68 = .ok (.getfield 24, 3) := by decide +kernel
theorem dX8_writesPlace_71 : decode cX8_writesPlace 71 = .ok (.sipush 272, 3) := by decide +kernel
theorem dX8_writesPlace_74 : decode cX8_writesPlace 74 = .ok (.iload_n 1, 1) := by decide +kernel
theorem dX8_writesPlace_75 : decode cX8_writesPlace 75 = .ok (.imul, 1) := by decide +kernel
theorem dX8_writesPlace_76 : decode cX8_writesPlace 76 = .ok (.iload 5, 2) := by decide +kernel
theorem dX8_writesPlace_78 : decode cX8_writesPlace 78 = .ok (.iadd, 1) := by decide +kernel
theorem dX8_writesPlace_79 : decode cX8_writesPlace 79 = .ok (.iload 6, 2) := by decide +kernel
theorem dX8_writesPlace_81 : decode cX8_writesPlace 81 = .ok (.lload_n 3, 1) := by decide +kernel
theorem dX8_writesPlace_82 : decode cX8_writesPlace 82 = .ok (.invokestatic 148, 3) := by decide +kernel
theorem dX8_writesPlace_85 : decode cX8_writesPlace 85 = .ok (.i2b, 1) := by decide +kernel
theorem dX8_writesPlace_86 : decode cX8_writesPlace 86 = .ok (.bastore, 1) := by decide +kernel
theorem dX8_writesPlace_87 : decode cX8_writesPlace 87 = .ok (.aload_n 0, 1) := by decide +kernel
theorem dX8_writesPlace_88 : decode cX8_writesPlace 88 = .ok (.getfield 21, 3) := by decide +kernel
theorem dX8_writesPlace_91 : decode cX8_writesPlace 91 = .ok (.sipush 4352, 3) := by decide +kernel
theorem dX8_writesPlace_94 : decode cX8_writesPlace 94 = .ok (.iload_n 1, 1) := by decide +kernel
theorem dX8_writesPlace_95 : decode cX8_writesPlace 95 = .ok (.imul, 1) := by decide +kernel
theorem dX8_writesPlace_96 : decode cX8_writesPlace 96 = .ok (.iload_n 2, 1) := by decide +kernel
theorem dX8_writesPlace_97 : decode cX8_writesPlace 97 = .ok (.iadd, 1) := by decide +kernel
theorem dX8_writesPlace_98 : decode cX8_writesPlace 98 = .ok (.lload_n 3, 1) := by decide +kernel
theorem dX8_writesPlace_99 : decode cX8_writesPlace 99 = .ok (.lastore, 1) := by decide +kernel
theorem dX8_writesPlace_100 : decode cX8_writesPlace 100 = .ok (.return_, 1) := by decide +kernel
theorem dX8_isLevel_0 : decode cX8_isLevel 0 = .ok (.iconst 1, 1) := by decide +kernel
theorem dX8_isLevel_1 : decode cX8_isLevel 1 = .ok (.istore_n 3, 1) := by decide +kernel
theorem dX8_isLevel_2 : decode cX8_isLevel 2 = .ok (.iload_n 3, 1) := by decide +kernel
theorem dX8_isLevel_3 : decode cX8_isLevel 3 = .ok (.bipush 16, 2) := by decide +kernel
theorem dX8_isLevel_5 : decode cX8_isLevel 5 = .ok (.if_icmp .ge 47, 3) := by decide +kernel
theorem dX8_isLevel_8 : decode cX8_isLevel 8 = .ok (.aload_n 0, 1) := by decide +kernel
theorem dX8_isLevel_9 : decode cX8_isLevel 9 = .ok (.getfield 21, 3) := by decide +kernel
theorem dX8_isLevel_12 : decode cX8_isLevel 12 = .ok (.sipush 4352, 3) := by decide +kernel
theorem dX8_isLevel_15 : decode cX8_isLevel 15 = .ok (.iload_n 1, 1) := by decide +kernel
theorem dX8_isLevel_16 : decode cX8_isLevel 16 = .ok (.imul, 1) := by decide +kernel
theorem dX8_isLevel_17 : decode cX8_isLevel 17 = .ok (.bipush 16, 2) := by decide +kernel
theorem dX8_isLevel_19 : decode cX8_isLevel 19 = .ok (.iload_n 2, 1) := by decide +kernel
theorem dX8_isLevel_20 : decode cX8_isLevel 20 = .ok (.imul, 1) := by decide +kernel
theorem dX8_isLevel_21 : decode cX8_isLevel 21 = .ok (.iadd, 1) := by decide +kernel
theorem dX8_isLevel_22 : decode cX8_isLevel 22 = .ok (.iload_n 3, 1) := by decide +kernel
theorem dX8_isLevel_23 : decode cX8_isLevel 23 = .ok (.iadd, 1) := by decide +kernel
theorem dX8_isLevel_24 : decode cX8_isLevel 24 = .ok (.laload, 1) := by decide +kernel
theorem dX8_isLevel_25 : decode cX8_isLevel 25 = .ok (.aload_n 0, 1) := by decide +kernel
theorem dX8_isLevel_26 : decode cX8_isLevel 26 = .ok (.getfield 21, 3) := by decide +kernel
theorem dX8_isLevel_29 : decode cX8_isLevel 29 = .ok (.sipush 4352, 3) := by decide +kernel
theorem dX8_isLevel_32 : decode cX8_isLevel 32 = .ok (.iload_n 1, 1) := by decide +kernel
theorem dX8_isLevel_33 : decode cX8_isLevel 33 = .ok (.imul, 1) := by decide +kernel
theorem dX8_isLevel_34 : decode cX8_isLevel 34 = .ok (.bipush 16, 2) := by decide +kernel
theorem dX8_isLevel_36 : decode cX8_isLevel 36 = .ok (.iload_n 2, 1) := by decide +kernel
theorem dX8_isLevel_37 : decode cX8_isLevel 37 = .ok (.imul, 1) := by decide +kernel
theorem dX8_isLevel_38 : decode cX8_isLevel 38 = .ok (.iadd, 1) := by decide +kernel
theorem dX8_isLevel_39 : decode cX8_isLevel 39 = .ok (.laload, 1) := by decide +kernel
theorem dX8_isLevel_40 : decode cX8_isLevel 40 = .ok (.lcmp, 1) := by decide +kernel
theorem dX8_isLevel_41 : decode cX8_isLevel 41 = .ok (.ifCond .eq 5, 3) := by decide +kernel
theorem dX8_isLevel_44 : decode cX8_isLevel 44 = .ok (.iconst 0, 1) := by decide +kernel
theorem dX8_isLevel_45 : decode cX8_isLevel 45 = .ok (.ireturn, 1) := by decide +kernel
theorem dX8_isLevel_46 : decode cX8_isLevel 46 = .ok (.iinc 3 1, 3) := by decide +kernel
theorem dX8_isLevel_49 : decode cX8_isLevel 49 = .ok (.goto (-47), 3) := by decide +kernel
theorem dX8_isLevel_52 : decode cX8_isLevel 52 = .ok (.iconst 1, 1) := by decide +kernel
theorem dX8_isLevel_53 : decode cX8_isLevel 53 = .ok (.ireturn, 1) := by decide +kernel
theorem dX8_shelvedKind_0 : decode cX8_shelvedKind 0 = .ok (.aload_n 0, 1) := by decide +kernel
theorem dX8_shelvedKind_1 : decode cX8_shelvedKind 1 = .ok (.iload_n 1, 1) := by decide +kernel
theorem dX8_shelvedKind_2 : decode cX8_shelvedKind 2 = .ok (.iload_n 2, 1) := by decide +kernel
theorem dX8_shelvedKind_3 : decode cX8_shelvedKind 3 = .ok (.invokevirtual 145, 3) := by decide +kernel
theorem dX8_shelvedKind_6 : decode cX8_shelvedKind 6 = .ok (.lstore_n 3, 1) := by decide +kernel
theorem dX8_shelvedKind_7 : decode cX8_shelvedKind 7 = .ok (.lload_n 3, 1) := by decide +kernel
theorem dX8_shelvedKind_8 : decode cX8_shelvedKind 8 = .ok (.lconst 0, 1) := by decide +kernel
theorem dX8_shelvedKind_9 : decode cX8_shelvedKind 9 = .ok (.lcmp, 1) := by decide +kernel
theorem dX8_shelvedKind_10 : decode cX8_shelvedKind 10 = .ok (.ifCond .ne 5, 3) := by decide +kernel
theorem dX8_shelvedKind_13 : decode cX8_shelvedKind 13 = .ok (.iconst 0, 1) := by decide +kernel
theorem dX8_shelvedKind_14 : decode cX8_shelvedKind 14 = .ok (.ireturn, 1) := by decide +kernel
theorem dX8_shelvedKind_15 : decode cX8_shelvedKind 15 = .ok (.aload_n 0, 1) := by decide +kernel
theorem dX8_shelvedKind_16 : decode cX8_shelvedKind 16 = .ok (.iload_n 1, 1) := by decide +kernel
theorem dX8_shelvedKind_17 : decode cX8_shelvedKind 17 = .ok (.iload_n 2, 1) := by decide +kernel
theorem dX8_shelvedKind_18 : decode cX8_shelvedKind 18 = .ok (.invokevirtual 151, 3) := by decide +kernel
theorem dX8_shelvedKind_21 : decode cX8_shelvedKind 21 = .ok (.ifCond .eq 6, 3) := by decide +kernel
theorem dX8_shelvedKind_24 : decode cX8_shelvedKind 24 = .ok (.bipush 9, 2) := by decide +kernel
theorem dX8_shelvedKind_26 : decode cX8_shelvedKind 26 = .ok (.ireturn, 1) := by decide +kernel
theorem dX8_shelvedKind_27 : decode cX8_shelvedKind 27 = .ok (.aload_n 0, 1) := by decide +kernel
theorem dX8_shelvedKind_28 : decode cX8_shelvedKind 28 = .ok (.iload_n 1, 1) := by decide +kernel
theorem dX8_shelvedKind_29 : decode cX8_shelvedKind 29 = .ok (.iconst 0, 1) := by decide +kernel
theorem dX8_shelvedKind_30 : decode cX8_shelvedKind 30 = .ok (.invokevirtual 104, 3) := by decide +kernel
theorem dX8_shelvedKind_33 : decode cX8_shelvedKind 33 = .ok (.ifCond .ne 16, 3) := by decide +kernel
theorem dX8_shelvedKind_36 : decode cX8_shelvedKind 36 = .ok (.lload_n 3, 1) := by decide +kernel
theorem dX8_shelvedKind_37 : decode cX8_shelvedKind 37 = .ok (.ldc2_w 126, 3) := by decide +kernel
theorem dX8_shelvedKind_40 : decode cX8_shelvedKind 40 = .ok (.lcmp, 1) := by decide +kernel
theorem dX8_shelvedKind_41 : decode cX8_shelvedKind 41 = .ok (.ifCond .gt 8, 3) := by decide +kernel
theorem dX8_shelvedKind_44 : decode cX8_shelvedKind 44 = .ok (.bipush 10, 2) := by decide +kernel
theorem dX8_shelvedKind_46 : decode cX8_shelvedKind 46 = .ok (.goto 12, 3) := by decide +kernel
theorem dX8_shelvedKind_49 : decode cX8_shelvedKind 49 = .ok (.aload_n 0, 1) := by decide +kernel
theorem dX8_shelvedKind_50 : decode cX8_shelvedKind 50 = .ok (.iload_n 1, 1) := by decide +kernel
theorem dX8_shelvedKind_51 : decode cX8_shelvedKind 51 = .ok (.invokevirtual 142, 3) := by decide +kernel
theorem dX8_shelvedKind_54 : decode cX8_shelvedKind 54 = .ok (.lload_n 3, 1) := by decide +kernel
theorem dX8_shelvedKind_55 : decode cX8_shelvedKind 55 = .ok (.invokestatic 148, 3) := by decide +kernel
theorem dX8_shelvedKind_58 : decode cX8_shelvedKind 58 = .ok (.ireturn, 1) := by decide +kernel
theorem dX8_shelves_0 : decode cX8_shelves 0 = .ok (.iconst 0, 1) := by decide +kernel
theorem dX8_shelves_1 : decode cX8_shelves 1 = .ok (.istore_n 2, 1) := by decide +kernel
theorem dX8_shelves_2 : decode cX8_shelves 2 = .ok (.iconst 0, 1) := by decide +kernel
theorem dX8_shelves_3 : decode cX8_shelves 3 = .ok (.istore_n 3, 1) := by decide +kernel
theorem dX8_shelves_4 : decode cX8_shelves 4 = .ok (.iload_n 3, 1) := by decide +kernel
theorem dX8_shelves_5 : decode cX8_shelves 5 = .ok (.aload_n 0, 1) := by decide +kernel
theorem dX8_shelves_6 : decode cX8_shelves 6 = .ok (.iload_n 1, 1) := by decide +kernel
theorem dX8_shelves_7 : decode cX8_shelves 7 = .ok (.invokevirtual 154, 3) := by decide +kernel
theorem dX8_shelves_10 : decode cX8_shelves 10 = .ok (.if_icmp .ge 57, 3) := by decide +kernel
theorem dX8_shelves_13 : decode cX8_shelves 13 = .ok (.aload_n 0, 1) := by decide +kernel
theorem dX8_shelves_14 : decode cX8_shelves 14 = .ok (.iload_n 1, 1) := by decide +kernel
theorem dX8_shelves_15 : decode cX8_shelves 15 = .ok (.iload_n 3, 1) := by decide +kernel
theorem dX8_shelves_16 : decode cX8_shelves 16 = .ok (.invokevirtual 157, 3) := by decide +kernel
theorem dX8_shelves_19 : decode cX8_shelves 19 = .ok (.istore 4, 2) := by decide +kernel
theorem dX8_shelves_21 : decode cX8_shelves 21 = .ok (.iload_n 2, 1) := by decide +kernel
theorem dX8_shelves_22 : decode cX8_shelves 22 = .ok (.iload 4, 2) := by decide +kernel
theorem dX8_shelves_24 : decode cX8_shelves 24 = .ok (.aload_n 0, 1) := by decide +kernel
theorem dX8_shelves_25 : decode cX8_shelves 25 = .ok (.getfield 24, 3) := by decide +kernel
theorem dX8_shelves_28 : decode cX8_shelves 28 = .ok (.sipush 272, 3) := by decide +kernel
theorem dX8_shelves_31 : decode cX8_shelves 31 = .ok (.iload_n 1, 1) := by decide +kernel
theorem dX8_shelves_32 : decode cX8_shelves 32 = .ok (.imul, 1) := by decide +kernel
theorem dX8_shelves_33 : decode cX8_shelves 33 = .ok (.iload_n 3, 1) := by decide +kernel
theorem dX8_shelves_34 : decode cX8_shelves 34 = .ok (.iadd, 1) := by decide +kernel
theorem dX8_shelves_35 : decode cX8_shelves 35 = .ok (.baload, 1) := by decide +kernel
theorem dX8_shelves_36 : decode cX8_shelves 36 = .ok (.if_icmp .ne 7, 3) := by decide +kernel
theorem dX8_shelves_39 : decode cX8_shelves 39 = .ok (.iconst 0, 1) := by decide +kernel
theorem dX8_shelves_40 : decode cX8_shelves 40 = .ok (.goto 4, 3) := by decide +kernel
theorem dX8_shelves_43 : decode cX8_shelves 43 = .ok (.iconst 1, 1) := by decide +kernel
theorem dX8_shelves_44 : decode cX8_shelves 44 = .ok (.iadd, 1) := by decide +kernel
theorem dX8_shelves_45 : decode cX8_shelves 45 = .ok (.istore_n 2, 1) := by decide +kernel
theorem dX8_shelves_46 : decode cX8_shelves 46 = .ok (.aload_n 0, 1) := by decide +kernel
theorem dX8_shelves_47 : decode cX8_shelves 47 = .ok (.getfield 24, 3) := by decide +kernel
theorem dX8_shelves_50 : decode cX8_shelves 50 = .ok (.sipush 272, 3) := by decide +kernel
theorem dX8_shelves_53 : decode cX8_shelves 53 = .ok (.iload_n 1, 1) := by decide +kernel
theorem dX8_shelves_54 : decode cX8_shelves 54 = .ok (.imul, 1) := by decide +kernel
theorem dX8_shelves_55 : decode cX8_shelves 55 = .ok (.iload_n 3, 1) := by decide +kernel
theorem dX8_shelves_56 : decode cX8_shelves 56 = .ok (.iadd, 1) := by decide +kernel
theorem dX8_shelves_57 : decode cX8_shelves 57 = .ok (.iload 4, 2) := by decide +kernel
theorem dX8_shelves_59 : decode cX8_shelves 59 = .ok (.i2b, 1) := by decide +kernel
theorem dX8_shelves_60 : decode cX8_shelves 60 = .ok (.bastore, 1) := by decide +kernel
theorem dX8_shelves_61 : decode cX8_shelves 61 = .ok (.iinc 3 1, 3) := by decide +kernel
theorem dX8_shelves_64 : decode cX8_shelves 64 = .ok (.goto (-60), 3) := by decide +kernel
theorem dX8_shelves_67 : decode cX8_shelves 67 = .ok (.iload_n 2, 1) := by decide +kernel
theorem dX8_shelves_68 : decode cX8_shelves 68 = .ok (.ireturn, 1) := by decide +kernel
theorem dX8_shelve_0 : decode cX8_shelve 0 = .ok (.aload_n 0, 1) := by decide +kernel
theorem dX8_shelve_1 : decode cX8_shelve 1 = .ok (.iload_n 1, 1) := by decide +kernel
theorem dX8_shelve_2 : decode cX8_shelve 2 = .ok (.invokevirtual 160, 3) := by decide +kernel
theorem dX8_shelve_5 : decode cX8_shelve 5 = .ok (.ifCond .ne 5, 3) := by decide +kernel
theorem dX8_shelve_8 : decode cX8_shelve 8 = .ok (.iconst (-1), 1) := by decide +kernel
theorem dX8_shelve_9 : decode cX8_shelve 9 = .ok (.ireturn, 1) := by decide +kernel
theorem dX8_shelve_10 : decode cX8_shelve 10 = .ok (.aload_n 0, 1) := by decide +kernel
theorem dX8_shelve_11 : decode cX8_shelve 11 = .ok (.invokevirtual 115, 3) := by decide +kernel
theorem dX8_shelve_14 : decode cX8_shelve 14 = .ok (.aload_n 0, 1) := by decide +kernel
theorem dX8_shelve_15 : decode cX8_shelve 15 = .ok (.iload_n 1, 1) := by decide +kernel
theorem dX8_shelve_16 : decode cX8_shelve 16 = .ok (.invokevirtual 164, 3) := by decide +kernel
theorem dX8_shelve_19 : decode cX8_shelve 19 = .ok (.ireturn, 1) := by decide +kernel
theorem dX8_kind_0 : decode cX8_kind 0 = .ok (.aload_n 0, 1) := by decide +kernel
theorem dX8_kind_1 : decode cX8_kind 1 = .ok (.iload_n 1, 1) := by decide +kernel
theorem dX8_kind_2 : decode cX8_kind 2 = .ok (.invokevirtual 160, 3) := by decide +kernel
theorem dX8_kind_5 : decode cX8_kind 5 = .ok (.ifCond .ne 5, 3) := by decide +kernel
theorem dX8_kind_8 : decode cX8_kind 8 = .ok (.iconst (-1), 1) := by decide +kernel
theorem dX8_kind_9 : decode cX8_kind 9 = .ok (.ireturn, 1) := by decide +kernel
theorem dX8_kind_10 : decode cX8_kind 10 = .ok (.iload_n 2, 1) := by decide +kernel
theorem dX8_kind_11 : decode cX8_kind 11 = .ok (.iconst (-1), 1) := by decide +kernel
theorem dX8_kind_12 : decode cX8_kind 12 = .ok (.if_icmp .ne 9, 3) := by decide +kernel
theorem dX8_kind_15 : decode cX8_kind 15 = .ok (.aload_n 0, 1) := by decide +kernel
theorem dX8_kind_16 : decode cX8_kind 16 = .ok (.iload_n 1, 1) := by decide +kernel
theorem dX8_kind_17 : decode cX8_kind 17 = .ok (.invokevirtual 154, 3) := by decide +kernel
theorem dX8_kind_20 : decode cX8_kind 20 = .ok (.ireturn, 1) := by decide +kernel
theorem dX8_kind_21 : decode cX8_kind 21 = .ok (.iload_n 2, 1) := by decide +kernel
theorem dX8_kind_22 : decode cX8_kind 22 = .ok (.i2l, 1) := by decide +kernel
theorem dX8_kind_23 : decode cX8_kind 23 = .ok (.lconst 0, 1) := by decide +kernel
theorem dX8_kind_24 : decode cX8_kind 24 = .ok (.aload_n 0, 1) := by decide +kernel
theorem dX8_kind_25 : decode cX8_kind 25 = .ok (.iload_n 1, 1) := by decide +kernel
theorem dX8_kind_26 : decode cX8_kind 26 = .ok (.invokevirtual 154, 3) := by decide +kernel
theorem dX8_kind_29 : decode cX8_kind 29 = .ok (.iconst 1, 1) := by decide +kernel
