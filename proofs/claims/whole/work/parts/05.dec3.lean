theorem dX8_kind_30 : decode cX8_kind 30 = .ok (.isub, 1) := by decide +kernel
theorem dX8_kind_31 : decode cX8_kind 31 = .ok (.i2l, 1) := by decide +kernel
theorem dX8_kind_32 : decode cX8_kind 32 = .ok (.invokestatic 68, 3) := by decide +kernel
theorem dX8_kind_35 : decode cX8_kind 35 = .ok (.ifCond .eq 18, 3) := by decide +kernel
theorem dX8_kind_38 : decode cX8_kind 38 = .ok (.aload_n 0, 1) := by decide +kernel
theorem dX8_kind_39 : decode cX8_kind 39 = .ok (.getfield 24, 3) := by decide +kernel
theorem dX8_kind_42 : decode cX8_kind 42 = .ok (.sipush 272, 3) := by decide +kernel
theorem dX8_kind_45 : decode cX8_kind 45 = .ok (.iload_n 1, 1) := by decide +kernel
theorem dX8_kind_46 : decode cX8_kind 46 = .ok (.imul, 1) := by decide +kernel
theorem dX8_kind_47 : decode cX8_kind 47 = .ok (.iload_n 2, 1) := by decide +kernel
theorem dX8_kind_48 : decode cX8_kind 48 = .ok (.iadd, 1) := by decide +kernel
theorem dX8_kind_49 : decode cX8_kind 49 = .ok (.baload, 1) := by decide +kernel
theorem dX8_kind_50 : decode cX8_kind 50 = .ok (.goto 4, 3) := by decide +kernel
theorem dX8_kind_53 : decode cX8_kind 53 = .ok (.iconst (-1), 1) := by decide +kernel
theorem dX8_kind_54 : decode cX8_kind 54 = .ok (.ireturn, 1) := by decide +kernel
theorem dX8_roomOf_0 : decode cX8_roomOf 0 = .ok (.iload_n 0, 1) := by decide +kernel
theorem dX8_roomOf_1 : decode cX8_roomOf 1 = .ok (.tableswitch 71 1 10 #[55, 55, 58, 58, 61, 64, 61, 64, 68, 58], 55) := by decide +kernel
theorem dX8_roomOf_56 : decode cX8_roomOf 56 = .ok (.bipush 16, 2) := by decide +kernel
theorem dX8_roomOf_58 : decode cX8_roomOf 58 = .ok (.ireturn, 1) := by decide +kernel
theorem dX8_roomOf_59 : decode cX8_roomOf 59 = .ok (.bipush 32, 2) := by decide +kernel
theorem dX8_roomOf_61 : decode cX8_roomOf 61 = .ok (.ireturn, 1) := by decide +kernel
theorem dX8_roomOf_62 : decode cX8_roomOf 62 = .ok (.bipush 64, 2) := by decide +kernel
theorem dX8_roomOf_64 : decode cX8_roomOf 64 = .ok (.ireturn, 1) := by decide +kernel
theorem dX8_roomOf_65 : decode cX8_roomOf 65 = .ok (.sipush 128, 3) := by decide +kernel
theorem dX8_roomOf_68 : decode cX8_roomOf 68 = .ok (.ireturn, 1) := by decide +kernel
theorem dX8_roomOf_69 : decode cX8_roomOf 69 = .ok (.bipush 8, 2) := by decide +kernel
theorem dX8_roomOf_71 : decode cX8_roomOf 71 = .ok (.ireturn, 1) := by decide +kernel
theorem dX8_roomOf_72 : decode cX8_roomOf 72 = .ok (.iconst 0, 1) := by decide +kernel
theorem dX8_roomOf_73 : decode cX8_roomOf 73 = .ok (.ireturn, 1) := by decide +kernel
theorem dX8_room_0 : decode cX8_room 0 = .ok (.aload_n 0, 1) := by decide +kernel
theorem dX8_room_1 : decode cX8_room 1 = .ok (.iload_n 1, 1) := by decide +kernel
theorem dX8_room_2 : decode cX8_room 2 = .ok (.invokevirtual 160, 3) := by decide +kernel
theorem dX8_room_5 : decode cX8_room 5 = .ok (.ifCond .ne 5, 3) := by decide +kernel
theorem dX8_room_8 : decode cX8_room 8 = .ok (.iconst (-1), 1) := by decide +kernel
theorem dX8_room_9 : decode cX8_room 9 = .ok (.ireturn, 1) := by decide +kernel
theorem dX8_room_10 : decode cX8_room 10 = .ok (.iconst 0, 1) := by decide +kernel
theorem dX8_room_11 : decode cX8_room 11 = .ok (.istore_n 2, 1) := by decide +kernel
theorem dX8_room_12 : decode cX8_room 12 = .ok (.iconst 0, 1) := by decide +kernel
theorem dX8_room_13 : decode cX8_room 13 = .ok (.istore_n 3, 1) := by decide +kernel
theorem dX8_room_14 : decode cX8_room 14 = .ok (.iload_n 3, 1) := by decide +kernel
theorem dX8_room_15 : decode cX8_room 15 = .ok (.aload_n 0, 1) := by decide +kernel
theorem dX8_room_16 : decode cX8_room 16 = .ok (.iload_n 1, 1) := by decide +kernel
theorem dX8_room_17 : decode cX8_room 17 = .ok (.invokevirtual 154, 3) := by decide +kernel
theorem dX8_room_20 : decode cX8_room 20 = .ok (.if_icmp .ge 27, 3) := by decide +kernel
theorem dX8_room_23 : decode cX8_room 23 = .ok (.iload_n 2, 1) := by decide +kernel
theorem dX8_room_24 : decode cX8_room 24 = .ok (.aload_n 0, 1) := by decide +kernel
theorem dX8_room_25 : decode cX8_room 25 = .ok (.getfield 24, 3) := by decide +kernel
theorem dX8_room_28 : decode cX8_room 28 = .ok (.sipush 272, 3) := by decide +kernel
theorem dX8_room_31 : decode cX8_room 31 = .ok (.iload_n 1, 1) := by decide +kernel
theorem dX8_room_32 : decode cX8_room 32 = .ok (.imul, 1) := by decide +kernel
theorem dX8_room_33 : decode cX8_room 33 = .ok (.iload_n 3, 1) := by decide +kernel
theorem dX8_room_34 : decode cX8_room 34 = .ok (.iadd, 1) := by decide +kernel
theorem dX8_room_35 : decode cX8_room 35 = .ok (.baload, 1) := by decide +kernel
theorem dX8_room_36 : decode cX8_room 36 = .ok (.invokestatic 167, 3) := by decide +kernel
theorem dX8_room_39 : decode cX8_room 39 = .ok (.iadd, 1) := by decide +kernel
theorem dX8_room_40 : decode cX8_room 40 = .ok (.istore_n 2, 1) := by decide +kernel
theorem dX8_room_41 : decode cX8_room 41 = .ok (.iinc 3 1, 3) := by decide +kernel
theorem dX8_room_44 : decode cX8_room 44 = .ok (.goto (-30), 3) := by decide +kernel
theorem dX8_room_47 : decode cX8_room 47 = .ok (.iload_n 2, 1) := by decide +kernel
theorem dX8_room_48 : decode cX8_room 48 = .ok (.ireturn, 1) := by decide +kernel
theorem dX8_laysNone_0 : decode cX8_laysNone 0 = .ok (.iconst 0, 1) := by decide +kernel
theorem dX8_laysNone_1 : decode cX8_laysNone 1 = .ok (.istore_n 1, 1) := by decide +kernel
theorem dX8_laysNone_2 : decode cX8_laysNone 2 = .ok (.iload_n 1, 1) := by decide +kernel
theorem dX8_laysNone_3 : decode cX8_laysNone 3 = .ok (.sipush 4352, 3) := by decide +kernel
theorem dX8_laysNone_6 : decode cX8_laysNone 6 = .ok (.if_icmp .ge 16, 3) := by decide +kernel
theorem dX8_laysNone_9 : decode cX8_laysNone 9 = .ok (.aload_n 0, 1) := by decide +kernel
theorem dX8_laysNone_10 : decode cX8_laysNone 10 = .ok (.getfield 40, 3) := by decide +kernel
theorem dX8_laysNone_13 : decode cX8_laysNone 13 = .ok (.iload_n 1, 1) := by decide +kernel
theorem dX8_laysNone_14 : decode cX8_laysNone 14 = .ok (.lconst 0, 1) := by decide +kernel
theorem dX8_laysNone_15 : decode cX8_laysNone 15 = .ok (.lastore, 1) := by decide +kernel
theorem dX8_laysNone_16 : decode cX8_laysNone 16 = .ok (.iinc 1 1, 3) := by decide +kernel
theorem dX8_laysNone_19 : decode cX8_laysNone 19 = .ok (.goto (-17), 3) := by decide +kernel
theorem dX8_laysNone_22 : decode cX8_laysNone 22 = .ok (.return_, 1) := by decide +kernel
theorem dX8_isRoom_0 : decode cX8_isRoom 0 = .ok (.iconst 0, 1) := by decide +kernel
theorem dX8_isRoom_1 : decode cX8_isRoom 1 = .ok (.istore_n 2, 1) := by decide +kernel
theorem dX8_isRoom_2 : decode cX8_isRoom 2 = .ok (.iload_n 2, 1) := by decide +kernel
theorem dX8_isRoom_3 : decode cX8_isRoom 3 = .ok (.aload_n 0, 1) := by decide +kernel
theorem dX8_isRoom_4 : decode cX8_isRoom 4 = .ok (.iload_n 1, 1) := by decide +kernel
theorem dX8_isRoom_5 : decode cX8_isRoom 5 = .ok (.iconst 2, 1) := by decide +kernel
theorem dX8_isRoom_6 : decode cX8_isRoom 6 = .ok (.invokevirtual 104, 3) := by decide +kernel
theorem dX8_isRoom_9 : decode cX8_isRoom 9 = .ok (.if_icmp .ge 50, 3) := by decide +kernel
theorem dX8_isRoom_12 : decode cX8_isRoom 12 = .ok (.aload_n 0, 1) := by decide +kernel
theorem dX8_isRoom_13 : decode cX8_isRoom 13 = .ok (.getfield 40, 3) := by decide +kernel
theorem dX8_isRoom_16 : decode cX8_isRoom 16 = .ok (.iload_n 2, 1) := by decide +kernel
theorem dX8_isRoom_17 : decode cX8_isRoom 17 = .ok (.laload, 1) := by decide +kernel
theorem dX8_isRoom_18 : decode cX8_isRoom 18 = .ok (.ldc2_w 170, 3) := by decide +kernel
theorem dX8_isRoom_21 : decode cX8_isRoom 21 = .ok (.lcmp, 1) := by decide +kernel
theorem dX8_isRoom_22 : decode cX8_isRoom 22 = .ok (.ifCond .gt 29, 3) := by decide +kernel
theorem dX8_isRoom_25 : decode cX8_isRoom 25 = .ok (.aload_n 0, 1) := by decide +kernel
theorem dX8_isRoom_26 : decode cX8_isRoom 26 = .ok (.getfield 21, 3) := by decide +kernel
theorem dX8_isRoom_29 : decode cX8_isRoom 29 = .ok (.sipush 4352, 3) := by decide +kernel
theorem dX8_isRoom_32 : decode cX8_isRoom 32 = .ok (.iload_n 1, 1) := by decide +kernel
theorem dX8_isRoom_33 : decode cX8_isRoom 33 = .ok (.imul, 1) := by decide +kernel
theorem dX8_isRoom_34 : decode cX8_isRoom 34 = .ok (.iload_n 2, 1) := by decide +kernel
theorem dX8_isRoom_35 : decode cX8_isRoom 35 = .ok (.iadd, 1) := by decide +kernel
theorem dX8_isRoom_36 : decode cX8_isRoom 36 = .ok (.laload, 1) := by decide +kernel
theorem dX8_isRoom_37 : decode cX8_isRoom 37 = .ok (.aload_n 0, 1) := by decide +kernel
theorem dX8_isRoom_38 : decode cX8_isRoom 38 = .ok (.getfield 40, 3) := by decide +kernel
theorem dX8_isRoom_41 : decode cX8_isRoom 41 = .ok (.iload_n 2, 1) := by decide +kernel
theorem dX8_isRoom_42 : decode cX8_isRoom 42 = .ok (.laload, 1) := by decide +kernel
theorem dX8_isRoom_43 : decode cX8_isRoom 43 = .ok (.ladd, 1) := by decide +kernel
theorem dX8_isRoom_44 : decode cX8_isRoom 44 = .ok (.ldc2_w 170, 3) := by decide +kernel
theorem dX8_isRoom_47 : decode cX8_isRoom 47 = .ok (.lcmp, 1) := by decide +kernel
theorem dX8_isRoom_48 : decode cX8_isRoom 48 = .ok (.ifCond .le 5, 3) := by decide +kernel
theorem dX8_isRoom_51 : decode cX8_isRoom 51 = .ok (.iconst 0, 1) := by decide +kernel
theorem dX8_isRoom_52 : decode cX8_isRoom 52 = .ok (.ireturn, 1) := by decide +kernel
theorem dX8_isRoom_53 : decode cX8_isRoom 53 = .ok (.iinc 2 1, 3) := by decide +kernel
theorem dX8_isRoom_56 : decode cX8_isRoom 56 = .ok (.goto (-54), 3) := by decide +kernel
theorem dX8_isRoom_59 : decode cX8_isRoom 59 = .ok (.iconst 1, 1) := by decide +kernel
theorem dX8_isRoom_60 : decode cX8_isRoom 60 = .ok (.ireturn, 1) := by decide +kernel
theorem dX8_laysRecording_0 : decode cX8_laysRecording 0 = .ok (.lload_n 2, 1) := by decide +kernel
theorem dX8_laysRecording_1 : decode cX8_laysRecording 1 = .ok (.lconst 0, 1) := by decide +kernel
theorem dX8_laysRecording_2 : decode cX8_laysRecording 2 = .ok (.aload_n 0, 1) := by decide +kernel
theorem dX8_laysRecording_3 : decode cX8_laysRecording 3 = .ok (.getfield 17, 3) := by decide +kernel
theorem dX8_laysRecording_6 : decode cX8_laysRecording 6 = .ok (.iload_n 1, 1) := by decide +kernel
theorem dX8_laysRecording_7 : decode cX8_laysRecording 7 = .ok (.laload, 1) := by decide +kernel
theorem dX8_laysRecording_8 : decode cX8_laysRecording 8 = .ok (.invokestatic 68, 3) := by decide +kernel
theorem dX8_laysRecording_11 : decode cX8_laysRecording 11 = .ok (.ifCond .ne 5, 3) := by decide +kernel
theorem dX8_laysRecording_14 : decode cX8_laysRecording 14 = .ok (.iconst 0, 1) := by decide +kernel
theorem dX8_laysRecording_15 : decode cX8_laysRecording 15 = .ok (.ireturn, 1) := by decide +kernel
theorem dX8_laysRecording_16 : decode cX8_laysRecording 16 = .ok (.aload_n 0, 1) := by decide +kernel
theorem dX8_laysRecording_17 : decode cX8_laysRecording 17 = .ok (.invokevirtual 172, 3) := by decide +kernel
theorem dX8_laysRecording_20 : decode cX8_laysRecording 20 = .ok (.aload_n 0, 1) := by decide +kernel
theorem dX8_laysRecording_21 : decode cX8_laysRecording 21 = .ok (.getfield 40, 3) := by decide +kernel
theorem dX8_laysRecording_24 : decode cX8_laysRecording 24 = .ok (.aload_n 0, 1) := by decide +kernel
theorem dX8_laysRecording_25 : decode cX8_laysRecording 25 = .ok (.iload_n 1, 1) := by decide +kernel
theorem dX8_laysRecording_26 : decode cX8_laysRecording 26 = .ok (.iconst 1, 1) := by decide +kernel
theorem dX8_laysRecording_27 : decode cX8_laysRecording 27 = .ok (.invokevirtual 104, 3) := by decide +kernel
theorem dX8_laysRecording_30 : decode cX8_laysRecording 30 = .ok (.lload_n 2, 1) := by decide +kernel
theorem dX8_laysRecording_31 : decode cX8_laysRecording 31 = .ok (.invokestatic 90, 3) := by decide +kernel
theorem dX8_laysRecording_34 : decode cX8_laysRecording 34 = .ok (.dup2, 1) := by decide +kernel
theorem dX8_laysRecording_35 : decode cX8_laysRecording 35 = .ok (.laload, 1) := by decide +kernel
theorem dX8_laysRecording_36 : decode cX8_laysRecording 36 = .ok (.lload 4, 2) := by decide +kernel
theorem dX8_laysRecording_38 : decode cX8_laysRecording 38 = .ok (.ladd, 1) := by decide +kernel
theorem dX8_laysRecording_39 : decode cX8_laysRecording 39 = .ok (.lastore, 1) := by decide +kernel
theorem dX8_laysRecording_40 : decode cX8_laysRecording 40 = .ok (.lload 6, 2) := by decide +kernel
theorem dX8_laysRecording_42 : decode cX8_laysRecording 42 = .ok (.lconst 0, 1) := by decide +kernel
theorem dX8_laysRecording_43 : decode cX8_laysRecording 43 = .ok (.lcmp, 1) := by decide +kernel
theorem dX8_laysRecording_44 : decode cX8_laysRecording 44 = .ok (.ifCond .le 63, 3) := by decide +kernel
theorem dX8_laysRecording_47 : decode cX8_laysRecording 47 = .ok (.lload_n 2, 1) := by decide +kernel
theorem dX8_laysRecording_48 : decode cX8_laysRecording 48 = .ok (.lload 6, 2) := by decide +kernel
theorem dX8_laysRecording_50 : decode cX8_laysRecording 50 = .ok (.ldiv, 1) := by decide +kernel
theorem dX8_laysRecording_51 : decode cX8_laysRecording 51 = .ok (.lconst 1, 1) := by decide +kernel
theorem dX8_laysRecording_52 : decode cX8_laysRecording 52 = .ok (.lsub, 1) := by decide +kernel
theorem dX8_laysRecording_53 : decode cX8_laysRecording 53 = .ok (.ldc2_w 111, 3) := by decide +kernel
theorem dX8_laysRecording_56 : decode cX8_laysRecording 56 = .ok (.lcmp, 1) := by decide +kernel
theorem dX8_laysRecording_57 : decode cX8_laysRecording 57 = .ok (.ifCond .le 5, 3) := by decide +kernel
theorem dX8_laysRecording_60 : decode cX8_laysRecording 60 = .ok (.iconst 0, 1) := by decide +kernel
theorem dX8_laysRecording_61 : decode cX8_laysRecording 61 = .ok (.ireturn, 1) := by decide +kernel
theorem dX8_laysRecording_62 : decode cX8_laysRecording 62 = .ok (.lload_n 2, 1) := by decide +kernel
theorem dX8_laysRecording_63 : decode cX8_laysRecording 63 = .ok (.lload 6, 2) := by decide +kernel
theorem dX8_laysRecording_65 : decode cX8_laysRecording 65 = .ok (.lsub, 1) := by decide +kernel
theorem dX8_laysRecording_66 : decode cX8_laysRecording 66 = .ok (.lstore 8, 2) := by decide +kernel
theorem dX8_laysRecording_68 : decode cX8_laysRecording 68 = .ok (.lload 8, 2) := by decide +kernel
theorem dX8_laysRecording_70 : decode cX8_laysRecording 70 = .ok (.lload 6, 2) := by decide +kernel
theorem dX8_laysRecording_72 : decode cX8_laysRecording 72 = .ok (.lcmp, 1) := by decide +kernel
theorem dX8_laysRecording_73 : decode cX8_laysRecording 73 = .ok (.ifCond .lt 34, 3) := by decide +kernel
theorem dX8_laysRecording_76 : decode cX8_laysRecording 76 = .ok (.aload_n 0, 1) := by decide +kernel
theorem dX8_laysRecording_77 : decode cX8_laysRecording 77 = .ok (.getfield 40, 3) := by decide +kernel
theorem dX8_laysRecording_80 : decode cX8_laysRecording 80 = .ok (.aload_n 0, 1) := by decide +kernel
theorem dX8_laysRecording_81 : decode cX8_laysRecording 81 = .ok (.iload_n 1, 1) := by decide +kernel
theorem dX8_laysRecording_82 : decode cX8_laysRecording 82 = .ok (.iconst 1, 1) := by decide +kernel
theorem dX8_laysRecording_83 : decode cX8_laysRecording 83 = .ok (.invokevirtual 104, 3) := by decide +kernel
theorem dX8_laysRecording_86 : decode cX8_laysRecording 86 = .ok (.lload 8, 2) := by decide +kernel
theorem dX8_laysRecording_88 : decode cX8_laysRecording 88 = .ok (.invokestatic 90, 3) := by decide +kernel
theorem dX8_laysRecording_91 : decode cX8_laysRecording 91 = .ok (.dup2, 1) := by decide +kernel
theorem dX8_laysRecording_92 : decode cX8_laysRecording 92 = .ok (.laload, 1) := by decide +kernel
theorem dX8_laysRecording_93 : decode cX8_laysRecording 93 = .ok (.lload 4, 2) := by decide +kernel
theorem dX8_laysRecording_95 : decode cX8_laysRecording 95 = .ok (.ladd, 1) := by decide +kernel
theorem dX8_laysRecording_96 : decode cX8_laysRecording 96 = .ok (.lastore, 1) := by decide +kernel
theorem dX8_laysRecording_97 : decode cX8_laysRecording 97 = .ok (.lload 8, 2) := by decide +kernel
theorem dX8_laysRecording_99 : decode cX8_laysRecording 99 = .ok (.lload 6, 2) := by decide +kernel
theorem dX8_laysRecording_101 : decode cX8_laysRecording 101 = .ok (.lsub, 1) := by decide +kernel
theorem dX8_laysRecording_102 : decode cX8_laysRecording 102 = .ok (.lstore 8, 2) := by decide +kernel
theorem dX8_laysRecording_104 : decode cX8_laysRecording 104 = .ok (.goto (-36), 3) := by decide +kernel
theorem dX8_laysRecording_107 : decode cX8_laysRecording 107 = .ok (.aload_n 0, 1) := by decide +kernel
theorem dX8_laysRecording_108 : decode cX8_laysRecording 108 = .ok (.iload_n 1, 1) := by decide +kernel
theorem dX8_laysRecording_109 : decode cX8_laysRecording 109 = .ok (.invokevirtual 175, 3) := by decide +kernel
theorem dX8_laysRecording_112 : decode cX8_laysRecording 112 = .ok (.ireturn, 1) := by decide +kernel
theorem dX8_addsLaid_0 : decode cX8_addsLaid 0 = .ok (.iconst 0, 1) := by decide +kernel
theorem dX8_addsLaid_1 : decode cX8_addsLaid 1 = .ok (.istore_n 2, 1) := by decide +kernel
theorem dX8_addsLaid_2 : decode cX8_addsLaid 2 = .ok (.iload_n 2, 1) := by decide +kernel
theorem dX8_addsLaid_3 : decode cX8_addsLaid 3 = .ok (.aload_n 0, 1) := by decide +kernel
theorem dX8_addsLaid_4 : decode cX8_addsLaid 4 = .ok (.iload_n 1, 1) := by decide +kernel
theorem dX8_addsLaid_5 : decode cX8_addsLaid 5 = .ok (.iconst 2, 1) := by decide +kernel
theorem dX8_addsLaid_6 : decode cX8_addsLaid 6 = .ok (.invokevirtual 104, 3) := by decide +kernel
theorem dX8_addsLaid_9 : decode cX8_addsLaid 9 = .ok (.if_icmp .ge 45, 3) := by decide +kernel
theorem dX8_addsLaid_12 : decode cX8_addsLaid 12 = .ok (.aload_n 0, 1) := by decide +kernel
theorem dX8_addsLaid_13 : decode cX8_addsLaid 13 = .ok (.getfield 40, 3) := by decide +kernel
theorem dX8_addsLaid_16 : decode cX8_addsLaid 16 = .ok (.iload_n 2, 1) := by decide +kernel
theorem dX8_addsLaid_17 : decode cX8_addsLaid 17 = .ok (.laload, 1) := by decide +kernel
theorem dX8_addsLaid_18 : decode cX8_addsLaid 18 = .ok (.lconst 0, 1) := by decide +kernel
theorem dX8_addsLaid_19 : decode cX8_addsLaid 19 = .ok (.lcmp, 1) := by decide +kernel
theorem dX8_addsLaid_20 : decode cX8_addsLaid 20 = .ok (.ifCond .le 28, 3) := by decide +kernel
theorem dX8_addsLaid_23 : decode cX8_addsLaid 23 = .ok (.aload_n 0, 1) := by decide +kernel
theorem dX8_addsLaid_24 : decode cX8_addsLaid 24 = .ok (.iload_n 1, 1) := by decide +kernel
theorem dX8_addsLaid_25 : decode cX8_addsLaid 25 = .ok (.iload_n 2, 1) := by decide +kernel
theorem dX8_addsLaid_26 : decode cX8_addsLaid 26 = .ok (.aload_n 0, 1) := by decide +kernel
theorem dX8_addsLaid_27 : decode cX8_addsLaid 27 = .ok (.getfield 21, 3) := by decide +kernel
theorem dX8_addsLaid_30 : decode cX8_addsLaid 30 = .ok (.sipush 4352, 3) := by decide +kernel
theorem dX8_addsLaid_33 : decode cX8_addsLaid 33 = .ok (.iload_n 1, 1) := by decide +kernel
theorem dX8_addsLaid_34 : decode cX8_addsLaid 34 = .ok (.imul, 1) := by decide +kernel
theorem dX8_addsLaid_35 : decode cX8_addsLaid 35 = .ok (.iload_n 2, 1) := by decide +kernel
theorem dX8_addsLaid_36 : decode cX8_addsLaid 36 = .ok (.iadd, 1) := by decide +kernel
theorem dX8_addsLaid_37 : decode cX8_addsLaid 37 = .ok (.laload, 1) := by decide +kernel
theorem dX8_addsLaid_38 : decode cX8_addsLaid 38 = .ok (.aload_n 0, 1) := by decide +kernel
theorem dX8_addsLaid_39 : decode cX8_addsLaid 39 = .ok (.getfield 40, 3) := by decide +kernel
theorem dX8_addsLaid_42 : decode cX8_addsLaid 42 = .ok (.iload_n 2, 1) := by decide +kernel
theorem dX8_addsLaid_43 : decode cX8_addsLaid 43 = .ok (.laload, 1) := by decide +kernel
theorem dX8_addsLaid_44 : decode cX8_addsLaid 44 = .ok (.ladd, 1) := by decide +kernel
theorem dX8_addsLaid_45 : decode cX8_addsLaid 45 = .ok (.invokevirtual 178, 3) := by decide +kernel
theorem dX8_addsLaid_48 : decode cX8_addsLaid 48 = .ok (.iinc 2 1, 3) := by decide +kernel
theorem dX8_addsLaid_51 : decode cX8_addsLaid 51 = .ok (.goto (-49), 3) := by decide +kernel
theorem dX8_addsLaid_54 : decode cX8_addsLaid 54 = .ok (.return_, 1) := by decide +kernel
theorem dX8_records_0 : decode cX8_records 0 = .ok (.lload 4, 2) := by decide +kernel
theorem dX8_records_2 : decode cX8_records 2 = .ok (.lconst 1, 1) := by decide +kernel
theorem dX8_records_3 : decode cX8_records 3 = .ok (.ldc2_w 113, 3) := by decide +kernel
theorem dX8_records_6 : decode cX8_records 6 = .ok (.invokestatic 68, 3) := by decide +kernel
theorem dX8_records_9 : decode cX8_records 9 = .ok (.ifCond .eq 10, 3) := by decide +kernel
theorem dX8_records_12 : decode cX8_records 12 = .ok (.lload 6, 2) := by decide +kernel
theorem dX8_records_14 : decode cX8_records 14 = .ok (.lconst 0, 1) := by decide +kernel
theorem dX8_records_15 : decode cX8_records 15 = .ok (.lcmp, 1) := by decide +kernel
theorem dX8_records_16 : decode cX8_records 16 = .ok (.ifCond .ge 7, 3) := by decide +kernel
theorem dX8_records_19 : decode cX8_records 19 = .ok (.ldc2_w 94, 3) := by decide +kernel
theorem dX8_records_22 : decode cX8_records 22 = .ok (.lreturn, 1) := by decide +kernel
theorem dX8_records_23 : decode cX8_records 23 = .ok (.aload_n 0, 1) := by decide +kernel
theorem dX8_records_24 : decode cX8_records 24 = .ok (.iload_n 1, 1) := by decide +kernel
theorem dX8_records_25 : decode cX8_records 25 = .ok (.lload_n 2, 1) := by decide +kernel
theorem dX8_records_26 : decode cX8_records 26 = .ok (.lload 4, 2) := by decide +kernel
theorem dX8_records_28 : decode cX8_records 28 = .ok (.lload 6, 2) := by decide +kernel
theorem dX8_records_30 : decode cX8_records 30 = .ok (.invokevirtual 182, 3) := by decide +kernel
theorem dX8_records_33 : decode cX8_records 33 = .ok (.ifCond .ne 7, 3) := by decide +kernel
theorem dX8_records_36 : decode cX8_records 36 = .ok (.ldc2_w 186, 3) := by decide +kernel
theorem dX8_records_39 : decode cX8_records 39 = .ok (.lreturn, 1) := by decide +kernel
theorem dX8_records_40 : decode cX8_records 40 = .ok (.aload_n 0, 1) := by decide +kernel
theorem dX8_records_41 : decode cX8_records 41 = .ok (.invokevirtual 115, 3) := by decide +kernel
theorem dX8_records_44 : decode cX8_records 44 = .ok (.aload_n 0, 1) := by decide +kernel
theorem dX8_records_45 : decode cX8_records 45 = .ok (.iload_n 1, 1) := by decide +kernel
theorem dX8_records_46 : decode cX8_records 46 = .ok (.invokevirtual 188, 3) := by decide +kernel
theorem dX8_records_49 : decode cX8_records 49 = .ok (.aload_n 0, 1) := by decide +kernel
theorem dX8_records_50 : decode cX8_records 50 = .ok (.getfield 21, 3) := by decide +kernel
theorem dX8_records_53 : decode cX8_records 53 = .ok (.sipush 4352, 3) := by decide +kernel
theorem dX8_records_56 : decode cX8_records 56 = .ok (.iload_n 1, 1) := by decide +kernel
theorem dX8_records_57 : decode cX8_records 57 = .ok (.imul, 1) := by decide +kernel
theorem dX8_records_58 : decode cX8_records 58 = .ok (.aload_n 0, 1) := by decide +kernel
theorem dX8_records_59 : decode cX8_records 59 = .ok (.iload_n 1, 1) := by decide +kernel
theorem dX8_records_60 : decode cX8_records 60 = .ok (.iconst 1, 1) := by decide +kernel
theorem dX8_records_61 : decode cX8_records 61 = .ok (.invokevirtual 104, 3) := by decide +kernel
theorem dX8_records_64 : decode cX8_records 64 = .ok (.lload_n 2, 1) := by decide +kernel
theorem dX8_records_65 : decode cX8_records 65 = .ok (.invokestatic 90, 3) := by decide +kernel
theorem dX8_records_68 : decode cX8_records 68 = .ok (.iadd, 1) := by decide +kernel
theorem dX8_records_69 : decode cX8_records 69 = .ok (.laload, 1) := by decide +kernel
theorem dX8_records_70 : decode cX8_records 70 = .ok (.lreturn, 1) := by decide +kernel
theorem dX8_record_0 : decode cX8_record 0 = .ok (.aload_n 0, 1) := by decide +kernel
theorem dX8_record_1 : decode cX8_record 1 = .ok (.iload_n 1, 1) := by decide +kernel
theorem dX8_record_2 : decode cX8_record 2 = .ok (.invokevirtual 160, 3) := by decide +kernel
theorem dX8_record_5 : decode cX8_record 5 = .ok (.ifCond .eq 16, 3) := by decide +kernel
theorem dX8_record_8 : decode cX8_record 8 = .ok (.aload_n 0, 1) := by decide +kernel
theorem dX8_record_9 : decode cX8_record 9 = .ok (.iload_n 1, 1) := by decide +kernel
theorem dX8_record_10 : decode cX8_record 10 = .ok (.lload_n 2, 1) := by decide +kernel
theorem dX8_record_11 : decode cX8_record 11 = .ok (.lload 4, 2) := by decide +kernel
theorem dX8_record_13 : decode cX8_record 13 = .ok (.lload 6, 2) := by decide +kernel
theorem dX8_record_15 : decode cX8_record 15 = .ok (.invokevirtual 191, 3) := by decide +kernel
theorem dX8_record_18 : decode cX8_record 18 = .ok (.goto 6, 3) := by decide +kernel
theorem dX8_record_21 : decode cX8_record 21 = .ok (.ldc2_w 94, 3) := by decide +kernel
theorem dX8_record_24 : decode cX8_record 24 = .ok (.lreturn, 1) := by decide +kernel
theorem dX8_at_0 : decode cX8_at 0 = .ok (.aload_n 0, 1) := by decide +kernel
theorem dX8_at_1 : decode cX8_at 1 = .ok (.iload_n 1, 1) := by decide +kernel
theorem dX8_at_2 : decode cX8_at 2 = .ok (.invokevirtual 160, 3) := by decide +kernel
theorem dX8_at_5 : decode cX8_at 5 = .ok (.ifCond .eq 41, 3) := by decide +kernel
theorem dX8_at_8 : decode cX8_at 8 = .ok (.lload_n 2, 1) := by decide +kernel
theorem dX8_at_9 : decode cX8_at 9 = .ok (.lconst 0, 1) := by decide +kernel
theorem dX8_at_10 : decode cX8_at 10 = .ok (.aload_n 0, 1) := by decide +kernel
theorem dX8_at_11 : decode cX8_at 11 = .ok (.getfield 17, 3) := by decide +kernel
theorem dX8_at_14 : decode cX8_at 14 = .ok (.iload_n 1, 1) := by decide +kernel
theorem dX8_at_15 : decode cX8_at 15 = .ok (.laload, 1) := by decide +kernel
theorem dX8_at_16 : decode cX8_at 16 = .ok (.invokestatic 68, 3) := by decide +kernel
theorem dX8_at_19 : decode cX8_at 19 = .ok (.ifCond .eq 27, 3) := by decide +kernel
theorem dX8_at_22 : decode cX8_at 22 = .ok (.aload_n 0, 1) := by decide +kernel
theorem dX8_at_23 : decode cX8_at 23 = .ok (.getfield 21, 3) := by decide +kernel
theorem dX8_at_26 : decode cX8_at 26 = .ok (.sipush 4352, 3) := by decide +kernel
theorem dX8_at_29 : decode cX8_at 29 = .ok (.iload_n 1, 1) := by decide +kernel
theorem dX8_at_30 : decode cX8_at 30 = .ok (.imul, 1) := by decide +kernel
theorem dX8_at_31 : decode cX8_at 31 = .ok (.aload_n 0, 1) := by decide +kernel
theorem dX8_at_32 : decode cX8_at 32 = .ok (.iload_n 1, 1) := by decide +kernel
theorem dX8_at_33 : decode cX8_at 33 = .ok (.iconst 1, 1) := by decide +kernel
theorem dX8_at_34 : decode cX8_at 34 = .ok (.invokevirtual 104, 3) := by decide +kernel
theorem dX8_at_37 : decode cX8_at 37 = .ok (.lload_n 2, 1) := by decide +kernel
theorem dX8_at_38 : decode cX8_at 38 = .ok (.invokestatic 90, 3) := by decide +kernel
theorem dX8_at_41 : decode cX8_at 41 = .ok (.iadd, 1) := by decide +kernel
theorem dX8_at_42 : decode cX8_at 42 = .ok (.laload, 1) := by decide +kernel
theorem dX8_at_43 : decode cX8_at 43 = .ok (.goto 6, 3) := by decide +kernel
theorem dX8_at_46 : decode cX8_at 46 = .ok (.ldc2_w 94, 3) := by decide +kernel
theorem dX8_at_49 : decode cX8_at 49 = .ok (.lreturn, 1) := by decide +kernel
theorem dX8_sumOf_0 : decode cX8_sumOf 0 = .ok (.lconst 0, 1) := by decide +kernel
theorem dX8_sumOf_1 : decode cX8_sumOf 1 = .ok (.lstore_n 3, 1) := by decide +kernel
theorem dX8_sumOf_2 : decode cX8_sumOf 2 = .ok (.iconst 0, 1) := by decide +kernel
theorem dX8_sumOf_3 : decode cX8_sumOf 3 = .ok (.istore 5, 2) := by decide +kernel
theorem dX8_sumOf_5 : decode cX8_sumOf 5 = .ok (.iload 5, 2) := by decide +kernel
theorem dX8_sumOf_7 : decode cX8_sumOf 7 = .ok (.iload_n 2, 1) := by decide +kernel
theorem dX8_sumOf_8 : decode cX8_sumOf 8 = .ok (.if_icmp .ge 25, 3) := by decide +kernel
theorem dX8_sumOf_11 : decode cX8_sumOf 11 = .ok (.lload_n 3, 1) := by decide +kernel
theorem dX8_sumOf_12 : decode cX8_sumOf 12 = .ok (.aload_n 0, 1) := by decide +kernel
theorem dX8_sumOf_13 : decode cX8_sumOf 13 = .ok (.getfield 21, 3) := by decide +kernel
theorem dX8_sumOf_16 : decode cX8_sumOf 16 = .ok (.sipush 4352, 3) := by decide +kernel
theorem dX8_sumOf_19 : decode cX8_sumOf 19 = .ok (.iload_n 1, 1) := by decide +kernel
theorem dX8_sumOf_20 : decode cX8_sumOf 20 = .ok (.imul, 1) := by decide +kernel
theorem dX8_sumOf_21 : decode cX8_sumOf 21 = .ok (.iload 5, 2) := by decide +kernel
theorem dX8_sumOf_23 : decode cX8_sumOf 23 = .ok (.iadd, 1) := by decide +kernel
theorem dX8_sumOf_24 : decode cX8_sumOf 24 = .ok (.laload, 1) := by decide +kernel
theorem dX8_sumOf_25 : decode cX8_sumOf 25 = .ok (.ladd, 1) := by decide +kernel
theorem dX8_sumOf_26 : decode cX8_sumOf 26 = .ok (.lstore_n 3, 1) := by decide +kernel
theorem dX8_sumOf_27 : decode cX8_sumOf 27 = .ok (.iinc 5 1, 3) := by decide +kernel
theorem dX8_sumOf_30 : decode cX8_sumOf 30 = .ok (.goto (-25), 3) := by decide +kernel
theorem dX8_sumOf_33 : decode cX8_sumOf 33 = .ok (.lload_n 3, 1) := by decide +kernel
theorem dX8_sumOf_34 : decode cX8_sumOf 34 = .ok (.lreturn, 1) := by decide +kernel
theorem dX8_below_0 : decode cX8_below 0 = .ok (.aload_n 0, 1) := by decide +kernel
theorem dX8_below_1 : decode cX8_below 1 = .ok (.iload_n 1, 1) := by decide +kernel
theorem dX8_below_2 : decode cX8_below 2 = .ok (.invokevirtual 160, 3) := by decide +kernel
theorem dX8_below_5 : decode cX8_below 5 = .ok (.ifCond .eq 35, 3) := by decide +kernel
theorem dX8_below_8 : decode cX8_below 8 = .ok (.lload_n 2, 1) := by decide +kernel
theorem dX8_below_9 : decode cX8_below 9 = .ok (.lconst 0, 1) := by decide +kernel
theorem dX8_below_10 : decode cX8_below 10 = .ok (.aload_n 0, 1) := by decide +kernel
theorem dX8_below_11 : decode cX8_below 11 = .ok (.getfield 17, 3) := by decide +kernel
theorem dX8_below_14 : decode cX8_below 14 = .ok (.iload_n 1, 1) := by decide +kernel
theorem dX8_below_15 : decode cX8_below 15 = .ok (.laload, 1) := by decide +kernel
theorem dX8_below_16 : decode cX8_below 16 = .ok (.invokestatic 68, 3) := by decide +kernel
theorem dX8_below_19 : decode cX8_below 19 = .ok (.ifCond .eq 21, 3) := by decide +kernel
theorem dX8_below_22 : decode cX8_below 22 = .ok (.aload_n 0, 1) := by decide +kernel
theorem dX8_below_23 : decode cX8_below 23 = .ok (.iload_n 1, 1) := by decide +kernel
theorem dX8_below_24 : decode cX8_below 24 = .ok (.aload_n 0, 1) := by decide +kernel
theorem dX8_below_25 : decode cX8_below 25 = .ok (.iload_n 1, 1) := by decide +kernel
theorem dX8_below_26 : decode cX8_below 26 = .ok (.iconst 1, 1) := by decide +kernel
theorem dX8_below_27 : decode cX8_below 27 = .ok (.invokevirtual 104, 3) := by decide +kernel
theorem dX8_below_30 : decode cX8_below 30 = .ok (.lload_n 2, 1) := by decide +kernel
theorem dX8_below_31 : decode cX8_below 31 = .ok (.invokestatic 90, 3) := by decide +kernel
theorem dX8_below_34 : decode cX8_below 34 = .ok (.invokevirtual 195, 3) := by decide +kernel
theorem dX8_below_37 : decode cX8_below 37 = .ok (.goto 6, 3) := by decide +kernel
theorem dX8_below_40 : decode cX8_below 40 = .ok (.ldc2_w 94, 3) := by decide +kernel
theorem dX8_below_43 : decode cX8_below 43 = .ok (.lreturn, 1) := by decide +kernel
theorem dX8_totalOf_0 : decode cX8_totalOf 0 = .ok (.aload_n 0, 1) := by decide +kernel
theorem dX8_totalOf_1 : decode cX8_totalOf 1 = .ok (.iload_n 1, 1) := by decide +kernel
theorem dX8_totalOf_2 : decode cX8_totalOf 2 = .ok (.aload_n 0, 1) := by decide +kernel
theorem dX8_totalOf_3 : decode cX8_totalOf 3 = .ok (.iload_n 1, 1) := by decide +kernel
theorem dX8_totalOf_4 : decode cX8_totalOf 4 = .ok (.iconst 2, 1) := by decide +kernel
theorem dX8_totalOf_5 : decode cX8_totalOf 5 = .ok (.invokevirtual 104, 3) := by decide +kernel
theorem dX8_totalOf_8 : decode cX8_totalOf 8 = .ok (.invokevirtual 195, 3) := by decide +kernel
theorem dX8_totalOf_11 : decode cX8_totalOf 11 = .ok (.lreturn, 1) := by decide +kernel
theorem dX8_total_0 : decode cX8_total 0 = .ok (.aload_n 0, 1) := by decide +kernel
theorem dX8_total_1 : decode cX8_total 1 = .ok (.iload_n 1, 1) := by decide +kernel
theorem dX8_total_2 : decode cX8_total 2 = .ok (.invokevirtual 160, 3) := by decide +kernel
theorem dX8_total_5 : decode cX8_total 5 = .ok (.ifCond .eq 11, 3) := by decide +kernel
theorem dX8_total_8 : decode cX8_total 8 = .ok (.aload_n 0, 1) := by decide +kernel
theorem dX8_total_9 : decode cX8_total 9 = .ok (.iload_n 1, 1) := by decide +kernel
theorem dX8_total_10 : decode cX8_total 10 = .ok (.invokevirtual 198, 3) := by decide +kernel
theorem dX8_total_13 : decode cX8_total 13 = .ok (.goto 6, 3) := by decide +kernel
theorem dX8_total_16 : decode cX8_total 16 = .ok (.ldc2_w 94, 3) := by decide +kernel
theorem dX8_total_19 : decode cX8_total 19 = .ok (.lreturn, 1) := by decide +kernel
theorem dX8_highAt_0 : decode cX8_highAt 0 = .ok (.aload_n 0, 1) := by decide +kernel
theorem dX8_highAt_1 : decode cX8_highAt 1 = .ok (.iload_n 1, 1) := by decide +kernel
theorem dX8_highAt_2 : decode cX8_highAt 2 = .ok (.iconst 1, 1) := by decide +kernel
theorem dX8_highAt_3 : decode cX8_highAt 3 = .ok (.invokevirtual 104, 3) := by decide +kernel
theorem dX8_highAt_6 : decode cX8_highAt 6 = .ok (.iload_n 2, 1) := by decide +kernel
theorem dX8_highAt_7 : decode cX8_highAt 7 = .ok (.invokestatic 96, 3) := by decide +kernel
theorem dX8_highAt_10 : decode cX8_highAt 10 = .ok (.lstore_n 3, 1) := by decide +kernel
theorem dX8_highAt_11 : decode cX8_highAt 11 = .ok (.lload_n 3, 1) := by decide +kernel
theorem dX8_highAt_12 : decode cX8_highAt 12 = .ok (.aload_n 0, 1) := by decide +kernel
theorem dX8_highAt_13 : decode cX8_highAt 13 = .ok (.getfield 17, 3) := by decide +kernel
theorem dX8_highAt_16 : decode cX8_highAt 16 = .ok (.iload_n 1, 1) := by decide +kernel
theorem dX8_highAt_17 : decode cX8_highAt 17 = .ok (.laload, 1) := by decide +kernel
theorem dX8_highAt_18 : decode cX8_highAt 18 = .ok (.lcmp, 1) := by decide +kernel
theorem dX8_highAt_19 : decode cX8_highAt 19 = .ok (.ifCond .ge 7, 3) := by decide +kernel
theorem dX8_highAt_22 : decode cX8_highAt 22 = .ok (.lload_n 3, 1) := by decide +kernel
theorem dX8_highAt_23 : decode cX8_highAt 23 = .ok (.goto 9, 3) := by decide +kernel
theorem dX8_highAt_26 : decode cX8_highAt 26 = .ok (.aload_n 0, 1) := by decide +kernel
theorem dX8_highAt_27 : decode cX8_highAt 27 = .ok (.getfield 17, 3) := by decide +kernel
theorem dX8_highAt_30 : decode cX8_highAt 30 = .ok (.iload_n 1, 1) := by decide +kernel
theorem dX8_highAt_31 : decode cX8_highAt 31 = .ok (.laload, 1) := by decide +kernel
theorem dX8_highAt_32 : decode cX8_highAt 32 = .ok (.lreturn, 1) := by decide +kernel
theorem dX8_rank_0 : decode cX8_rank 0 = .ok (.aload_n 0, 1) := by decide +kernel
theorem dX8_rank_1 : decode cX8_rank 1 = .ok (.iload_n 1, 1) := by decide +kernel
theorem dX8_rank_2 : decode cX8_rank 2 = .ok (.invokevirtual 160, 3) := by decide +kernel
theorem dX8_rank_5 : decode cX8_rank 5 = .ok (.ifCond .eq 15, 3) := by decide +kernel
theorem dX8_rank_8 : decode cX8_rank 8 = .ok (.iload_n 2, 1) := by decide +kernel
theorem dX8_rank_9 : decode cX8_rank 9 = .ok (.i2l, 1) := by decide +kernel
theorem dX8_rank_10 : decode cX8_rank 10 = .ok (.lconst 0, 1) := by decide +kernel
theorem dX8_rank_11 : decode cX8_rank 11 = .ok (.ldc2_w 202, 3) := by decide +kernel
theorem dX8_rank_14 : decode cX8_rank 14 = .ok (.invokestatic 68, 3) := by decide +kernel
theorem dX8_rank_17 : decode cX8_rank 17 = .ok (.ifCond .ne 7, 3) := by decide +kernel
theorem dX8_rank_20 : decode cX8_rank 20 = .ok (.ldc2_w 94, 3) := by decide +kernel
theorem dX8_rank_23 : decode cX8_rank 23 = .ok (.lreturn, 1) := by decide +kernel
theorem dX8_rank_24 : decode cX8_rank 24 = .ok (.aload_n 0, 1) := by decide +kernel
theorem dX8_rank_25 : decode cX8_rank 25 = .ok (.iload_n 1, 1) := by decide +kernel
theorem dX8_rank_26 : decode cX8_rank 26 = .ok (.invokevirtual 198, 3) := by decide +kernel
theorem dX8_rank_29 : decode cX8_rank 29 = .ok (.lstore_n 3, 1) := by decide +kernel
theorem dX8_rank_30 : decode cX8_rank 30 = .ok (.lload_n 3, 1) := by decide +kernel
theorem dX8_rank_31 : decode cX8_rank 31 = .ok (.lconst 0, 1) := by decide +kernel
theorem dX8_rank_32 : decode cX8_rank 32 = .ok (.lcmp, 1) := by decide +kernel
theorem dX8_rank_33 : decode cX8_rank 33 = .ok (.ifCond .ne 7, 3) := by decide +kernel
theorem dX8_rank_36 : decode cX8_rank 36 = .ok (.ldc2_w 186, 3) := by decide +kernel
theorem dX8_rank_39 : decode cX8_rank 39 = .ok (.lreturn, 1) := by decide +kernel
theorem dX8_rank_40 : decode cX8_rank 40 = .ok (.lload_n 3, 1) := by decide +kernel
theorem dX8_rank_41 : decode cX8_rank 41 = .ok (.ldc2_w 202, 3) := by decide +kernel
theorem dX8_rank_44 : decode cX8_rank 44 = .ok (.ldiv, 1) := by decide +kernel
theorem dX8_rank_45 : decode cX8_rank 45 = .ok (.iload_n 2, 1) := by decide +kernel
theorem dX8_rank_46 : decode cX8_rank 46 = .ok (.i2l, 1) := by decide +kernel
theorem dX8_rank_47 : decode cX8_rank 47 = .ok (.lmul, 1) := by decide +kernel
theorem dX8_rank_48 : decode cX8_rank 48 = .ok (.lload_n 3, 1) := by decide +kernel
theorem dX8_rank_49 : decode cX8_rank 49 = .ok (.ldc2_w 202, 3) := by decide +kernel
theorem dX8_rank_52 : decode cX8_rank 52 = .ok (.lrem, 1) := by decide +kernel
theorem dX8_rank_53 : decode cX8_rank 53 = .ok (.iload_n 2, 1) := by decide +kernel
theorem dX8_rank_54 : decode cX8_rank 54 = .ok (.i2l, 1) := by decide +kernel
theorem dX8_rank_55 : decode cX8_rank 55 = .ok (.lmul, 1) := by decide +kernel
theorem dX8_rank_56 : decode cX8_rank 56 = .ok (.ldc2_w 202, 3) := by decide +kernel
theorem dX8_rank_59 : decode cX8_rank 59 = .ok (.ladd, 1) := by decide +kernel
theorem dX8_rank_60 : decode cX8_rank 60 = .ok (.lconst 1, 1) := by decide +kernel
theorem dX8_rank_61 : decode cX8_rank 61 = .ok (.lsub, 1) := by decide +kernel
theorem dX8_rank_62 : decode cX8_rank 62 = .ok (.ldc2_w 202, 3) := by decide +kernel
theorem dX8_rank_65 : decode cX8_rank 65 = .ok (.ldiv, 1) := by decide +kernel
theorem dX8_rank_66 : decode cX8_rank 66 = .ok (.ladd, 1) := by decide +kernel
theorem dX8_rank_67 : decode cX8_rank 67 = .ok (.lstore 5, 2) := by decide +kernel
theorem dX8_rank_69 : decode cX8_rank 69 = .ok (.lload 5, 2) := by decide +kernel
theorem dX8_rank_71 : decode cX8_rank 71 = .ok (.lconst 1, 1) := by decide +kernel
theorem dX8_rank_72 : decode cX8_rank 72 = .ok (.lcmp, 1) := by decide +kernel
theorem dX8_rank_73 : decode cX8_rank 73 = .ok (.ifCond .ge 7, 3) := by decide +kernel
theorem dX8_rank_76 : decode cX8_rank 76 = .ok (.lconst 1, 1) := by decide +kernel
theorem dX8_rank_77 : decode cX8_rank 77 = .ok (.goto 5, 3) := by decide +kernel
theorem dX8_rank_80 : decode cX8_rank 80 = .ok (.lload 5, 2) := by decide +kernel
theorem dX8_rank_82 : decode cX8_rank 82 = .ok (.lstore 5, 2) := by decide +kernel
theorem dX8_rank_84 : decode cX8_rank 84 = .ok (.iconst 0, 1) := by decide +kernel
theorem dX8_rank_85 : decode cX8_rank 85 = .ok (.istore 7, 2) := by decide +kernel
theorem dX8_rank_87 : decode cX8_rank 87 = .ok (.aload_n 0, 1) := by decide +kernel
theorem dX8_rank_88 : decode cX8_rank 88 = .ok (.getfield 21, 3) := by decide +kernel
theorem dX8_rank_91 : decode cX8_rank 91 = .ok (.sipush 4352, 3) := by decide +kernel
theorem dX8_rank_94 : decode cX8_rank 94 = .ok (.iload_n 1, 1) := by decide +kernel
theorem dX8_rank_95 : decode cX8_rank 95 = .ok (.imul, 1) := by decide +kernel
theorem dX8_rank_96 : decode cX8_rank 96 = .ok (.laload, 1) := by decide +kernel
theorem dX8_rank_97 : decode cX8_rank 97 = .ok (.lstore 8, 2) := by decide +kernel
theorem dX8_rank_99 : decode cX8_rank 99 = .ok (.lload 8, 2) := by decide +kernel
theorem dX8_rank_101 : decode cX8_rank 101 = .ok (.lload 5, 2) := by decide +kernel
theorem dX8_rank_103 : decode cX8_rank 103 = .ok (.lcmp, 1) := by decide +kernel
theorem dX8_rank_104 : decode cX8_rank 104 = .ok (.ifCond .ge 27, 3) := by decide +kernel
theorem dX8_rank_107 : decode cX8_rank 107 = .ok (.iinc 7 1, 3) := by decide +kernel
theorem dX8_rank_110 : decode cX8_rank 110 = .ok (.lload 8, 2) := by decide +kernel
theorem dX8_rank_112 : decode cX8_rank 112 = .ok (.aload_n 0, 1) := by decide +kernel
theorem dX8_rank_113 : decode cX8_rank 113 = .ok (.getfield 21, 3) := by decide +kernel
theorem dX8_rank_116 : decode cX8_rank 116 = .ok (.sipush 4352, 3) := by decide +kernel
theorem dX8_rank_119 : decode cX8_rank 119 = .ok (.iload_n 1, 1) := by decide +kernel
theorem dX8_rank_120 : decode cX8_rank 120 = .ok (.imul, 1) := by decide +kernel
theorem dX8_rank_121 : decode cX8_rank 121 = .ok (.iload 7, 2) := by decide +kernel
theorem dX8_rank_123 : decode cX8_rank 123 = .ok (.iadd, 1) := by decide +kernel
theorem dX8_rank_124 : decode cX8_rank 124 = .ok (.laload, 1) := by decide +kernel
theorem dX8_rank_125 : decode cX8_rank 125 = .ok (.ladd, 1) := by decide +kernel
theorem dX8_rank_126 : decode cX8_rank 126 = .ok (.lstore 8, 2) := by decide +kernel
theorem dX8_rank_128 : decode cX8_rank 128 = .ok (.goto (-29), 3) := by decide +kernel
theorem dX8_rank_131 : decode cX8_rank 131 = .ok (.aload_n 0, 1) := by decide +kernel
theorem dX8_rank_132 : decode cX8_rank 132 = .ok (.iload_n 1, 1) := by decide +kernel
theorem dX8_rank_133 : decode cX8_rank 133 = .ok (.iload 7, 2) := by decide +kernel
theorem dX8_rank_135 : decode cX8_rank 135 = .ok (.invokevirtual 204, 3) := by decide +kernel
theorem dX8_rank_138 : decode cX8_rank 138 = .ok (.lreturn, 1) := by decide +kernel
theorem dX8_firstSlot_0 : decode cX8_firstSlot 0 = .ok (.iconst 0, 1) := by decide +kernel
theorem dX8_firstSlot_1 : decode cX8_firstSlot 1 = .ok (.istore_n 2, 1) := by decide +kernel
theorem dX8_firstSlot_2 : decode cX8_firstSlot 2 = .ok (.aload_n 0, 1) := by decide +kernel
theorem dX8_firstSlot_3 : decode cX8_firstSlot 3 = .ok (.getfield 21, 3) := by decide +kernel
theorem dX8_firstSlot_6 : decode cX8_firstSlot 6 = .ok (.sipush 4352, 3) := by decide +kernel
theorem dX8_firstSlot_9 : decode cX8_firstSlot 9 = .ok (.iload_n 1, 1) := by decide +kernel
theorem dX8_firstSlot_10 : decode cX8_firstSlot 10 = .ok (.imul, 1) := by decide +kernel
theorem dX8_firstSlot_11 : decode cX8_firstSlot 11 = .ok (.iload_n 2, 1) := by decide +kernel
theorem dX8_firstSlot_12 : decode cX8_firstSlot 12 = .ok (.iadd, 1) := by decide +kernel
theorem dX8_firstSlot_13 : decode cX8_firstSlot 13 = .ok (.laload, 1) := by decide +kernel
theorem dX8_firstSlot_14 : decode cX8_firstSlot 14 = .ok (.lconst 0, 1) := by decide +kernel
theorem dX8_firstSlot_15 : decode cX8_firstSlot 15 = .ok (.lcmp, 1) := by decide +kernel
theorem dX8_firstSlot_16 : decode cX8_firstSlot 16 = .ok (.ifCond .ne 9, 3) := by decide +kernel
theorem dX8_firstSlot_19 : decode cX8_firstSlot 19 = .ok (.iinc 2 1, 3) := by decide +kernel
theorem dX8_firstSlot_22 : decode cX8_firstSlot 22 = .ok (.goto (-20), 3) := by decide +kernel
theorem dX8_firstSlot_25 : decode cX8_firstSlot 25 = .ok (.iload_n 2, 1) := by decide +kernel
theorem dX8_firstSlot_26 : decode cX8_firstSlot 26 = .ok (.ireturn, 1) := by decide +kernel
theorem dX8_lastSlot_0 : decode cX8_lastSlot 0 = .ok (.aload_n 0, 1) := by decide +kernel
theorem dX8_lastSlot_1 : decode cX8_lastSlot 1 = .ok (.iload_n 1, 1) := by decide +kernel
theorem dX8_lastSlot_2 : decode cX8_lastSlot 2 = .ok (.iconst 2, 1) := by decide +kernel
theorem dX8_lastSlot_3 : decode cX8_lastSlot 3 = .ok (.invokevirtual 104, 3) := by decide +kernel
theorem dX8_lastSlot_6 : decode cX8_lastSlot 6 = .ok (.iconst 1, 1) := by decide +kernel
theorem dX8_lastSlot_7 : decode cX8_lastSlot 7 = .ok (.isub, 1) := by decide +kernel
theorem dX8_lastSlot_8 : decode cX8_lastSlot 8 = .ok (.istore_n 2, 1) := by decide +kernel
theorem dX8_lastSlot_9 : decode cX8_lastSlot 9 = .ok (.iload_n 2, 1) := by decide +kernel
theorem dX8_lastSlot_10 : decode cX8_lastSlot 10 = .ok (.ifCond .lt 26, 3) := by decide +kernel
theorem dX8_lastSlot_13 : decode cX8_lastSlot 13 = .ok (.aload_n 0, 1) := by decide +kernel
theorem dX8_lastSlot_14 : decode cX8_lastSlot 14 = .ok (.getfield 21, 3) := by decide +kernel
theorem dX8_lastSlot_17 : decode cX8_lastSlot 17 = .ok (.sipush 4352, 3) := by decide +kernel
theorem dX8_lastSlot_20 : decode cX8_lastSlot 20 = .ok (.iload_n 1, 1) := by decide +kernel
theorem dX8_lastSlot_21 : decode cX8_lastSlot 21 = .ok (.imul, 1) := by decide +kernel
theorem dX8_lastSlot_22 : decode cX8_lastSlot 22 = .ok (.iload_n 2, 1) := by decide +kernel
theorem dX8_lastSlot_23 : decode cX8_lastSlot 23 = .ok (.iadd, 1) := by decide +kernel
theorem dX8_lastSlot_24 : decode cX8_lastSlot 24 = .ok (.laload, 1) := by decide +kernel
theorem dX8_lastSlot_25 : decode cX8_lastSlot 25 = .ok (.lconst 0, 1) := by decide +kernel
theorem dX8_lastSlot_26 : decode cX8_lastSlot 26 = .ok (.lcmp, 1) := by decide +kernel
theorem dX8_lastSlot_27 : decode cX8_lastSlot 27 = .ok (.ifCond .ne 9, 3) := by decide +kernel
theorem dX8_lastSlot_30 : decode cX8_lastSlot 30 = .ok (.iinc 2 (-1), 3) := by decide +kernel
theorem dX8_lastSlot_33 : decode cX8_lastSlot 33 = .ok (.goto (-24), 3) := by decide +kernel
theorem dX8_lastSlot_36 : decode cX8_lastSlot 36 = .ok (.iload_n 2, 1) := by decide +kernel
theorem dX8_lastSlot_37 : decode cX8_lastSlot 37 = .ok (.ireturn, 1) := by decide +kernel
theorem dX8_meanOf_0 : decode cX8_meanOf 0 = .ok (.lconst 0, 1) := by decide +kernel
theorem dX8_meanOf_1 : decode cX8_meanOf 1 = .ok (.lstore 4, 2) := by decide +kernel
theorem dX8_meanOf_3 : decode cX8_meanOf 3 = .ok (.lconst 0, 1) := by decide +kernel
theorem dX8_meanOf_4 : decode cX8_meanOf 4 = .ok (.lstore 6, 2) := by decide +kernel
theorem dX8_meanOf_6 : decode cX8_meanOf 6 = .ok (.bipush 40, 2) := by decide +kernel
theorem dX8_meanOf_8 : decode cX8_meanOf 8 = .ok (.istore 8, 2) := by decide +kernel
theorem dX8_meanOf_10 : decode cX8_meanOf 10 = .ok (.iload 8, 2) := by decide +kernel
theorem dX8_meanOf_12 : decode cX8_meanOf 12 = .ok (.ifCond .lt 132, 3) := by decide +kernel
theorem dX8_meanOf_15 : decode cX8_meanOf 15 = .ok (.lconst 0, 1) := by decide +kernel
theorem dX8_meanOf_16 : decode cX8_meanOf 16 = .ok (.lstore 9, 2) := by decide +kernel
theorem dX8_meanOf_18 : decode cX8_meanOf 18 = .ok (.iconst 0, 1) := by decide +kernel
theorem dX8_meanOf_19 : decode cX8_meanOf 19 = .ok (.istore 11, 2) := by decide +kernel
theorem dX8_meanOf_21 : decode cX8_meanOf 21 = .ok (.iload 11, 2) := by decide +kernel
theorem dX8_meanOf_23 : decode cX8_meanOf 23 = .ok (.aload_n 0, 1) := by decide +kernel
theorem dX8_meanOf_24 : decode cX8_meanOf 24 = .ok (.iload_n 1, 1) := by decide +kernel
theorem dX8_meanOf_25 : decode cX8_meanOf 25 = .ok (.iconst 2, 1) := by decide +kernel
theorem dX8_meanOf_26 : decode cX8_meanOf 26 = .ok (.invokevirtual 104, 3) := by decide +kernel
theorem dX8_meanOf_29 : decode cX8_meanOf 29 = .ok (.if_icmp .ge 48, 3) := by decide +kernel
theorem dX8_meanOf_32 : decode cX8_meanOf 32 = .ok (.aload_n 0, 1) := by decide +kernel
theorem dX8_meanOf_33 : decode cX8_meanOf 33 = .ok (.iload_n 1, 1) := by decide +kernel
theorem dX8_meanOf_34 : decode cX8_meanOf 34 = .ok (.iconst 1, 1) := by decide +kernel
theorem dX8_meanOf_35 : decode cX8_meanOf 35 = .ok (.invokevirtual 104, 3) := by decide +kernel
theorem dX8_meanOf_38 : decode cX8_meanOf 38 = .ok (.iload 11, 2) := by decide +kernel
theorem dX8_meanOf_40 : decode cX8_meanOf 40 = .ok (.invokestatic 99, 3) := by decide +kernel
theorem dX8_meanOf_43 : decode cX8_meanOf 43 = .ok (.iload 8, 2) := by decide +kernel
theorem dX8_meanOf_45 : decode cX8_meanOf 45 = .ok (.lshr, 1) := by decide +kernel
theorem dX8_meanOf_46 : decode cX8_meanOf 46 = .ok (.lconst 1, 1) := by decide +kernel
theorem dX8_meanOf_47 : decode cX8_meanOf 47 = .ok (.land, 1) := by decide +kernel
theorem dX8_meanOf_48 : decode cX8_meanOf 48 = .ok (.lconst 1, 1) := by decide +kernel
theorem dX8_meanOf_49 : decode cX8_meanOf 49 = .ok (.lcmp, 1) := by decide +kernel
theorem dX8_meanOf_50 : decode cX8_meanOf 50 = .ok (.ifCond .ne 21, 3) := by decide +kernel
theorem dX8_meanOf_53 : decode cX8_meanOf 53 = .ok (.lload 9, 2) := by decide +kernel
theorem dX8_meanOf_55 : decode cX8_meanOf 55 = .ok (.aload_n 0, 1) := by decide +kernel
theorem dX8_meanOf_56 : decode cX8_meanOf 56 = .ok (.getfield 21, 3) := by decide +kernel
theorem dX8_meanOf_59 : decode cX8_meanOf 59 = .ok (.sipush 4352, 3) := by decide +kernel
theorem dX8_meanOf_62 : decode cX8_meanOf 62 = .ok (.iload_n 1, 1) := by decide +kernel
theorem dX8_meanOf_63 : decode cX8_meanOf 63 = .ok (.imul, 1) := by decide +kernel
theorem dX8_meanOf_64 : decode cX8_meanOf 64 = .ok (.iload 11, 2) := by decide +kernel
theorem dX8_meanOf_66 : decode cX8_meanOf 66 = .ok (.iadd, 1) := by decide +kernel
theorem dX8_meanOf_67 : decode cX8_meanOf 67 = .ok (.laload, 1) := by decide +kernel
theorem dX8_meanOf_68 : decode cX8_meanOf 68 = .ok (.ladd, 1) := by decide +kernel
theorem dX8_meanOf_69 : decode cX8_meanOf 69 = .ok (.lstore 9, 2) := by decide +kernel
theorem dX8_meanOf_71 : decode cX8_meanOf 71 = .ok (.iinc 11 1, 3) := by decide +kernel
theorem dX8_meanOf_74 : decode cX8_meanOf 74 = .ok (.goto (-53), 3) := by decide +kernel
theorem dX8_meanOf_77 : decode cX8_meanOf 77 = .ok (.lload 4, 2) := by decide +kernel
theorem dX8_meanOf_79 : decode cX8_meanOf 79 = .ok (.ldc2_w 88, 3) := by decide +kernel
theorem dX8_meanOf_82 : decode cX8_meanOf 82 = .ok (.lmul, 1) := by decide +kernel
theorem dX8_meanOf_83 : decode cX8_meanOf 83 = .ok (.lstore 4, 2) := by decide +kernel
theorem dX8_meanOf_85 : decode cX8_meanOf 85 = .ok (.lload 6, 2) := by decide +kernel
theorem dX8_meanOf_87 : decode cX8_meanOf 87 = .ok (.ldc2_w 88, 3) := by decide +kernel
theorem dX8_meanOf_90 : decode cX8_meanOf 90 = .ok (.lmul, 1) := by decide +kernel
theorem dX8_meanOf_91 : decode cX8_meanOf 91 = .ok (.lstore 6, 2) := by decide +kernel
theorem dX8_meanOf_93 : decode cX8_meanOf 93 = .ok (.lload 6, 2) := by decide +kernel
theorem dX8_meanOf_95 : decode cX8_meanOf 95 = .ok (.lload_n 2, 1) := by decide +kernel
theorem dX8_meanOf_96 : decode cX8_meanOf 96 = .ok (.lcmp, 1) := by decide +kernel
theorem dX8_meanOf_97 : decode cX8_meanOf 97 = .ok (.ifCond .lt 15, 3) := by decide +kernel
theorem dX8_meanOf_100 : decode cX8_meanOf 100 = .ok (.lload 6, 2) := by decide +kernel
theorem dX8_meanOf_102 : decode cX8_meanOf 102 = .ok (.lload_n 2, 1) := by decide +kernel
theorem dX8_meanOf_103 : decode cX8_meanOf 103 = .ok (.lsub, 1) := by decide +kernel
theorem dX8_meanOf_104 : decode cX8_meanOf 104 = .ok (.lstore 6, 2) := by decide +kernel
theorem dX8_meanOf_106 : decode cX8_meanOf 106 = .ok (.lload 4, 2) := by decide +kernel
theorem dX8_meanOf_108 : decode cX8_meanOf 108 = .ok (.lconst 1, 1) := by decide +kernel
theorem dX8_meanOf_109 : decode cX8_meanOf 109 = .ok (.ladd, 1) := by decide +kernel
theorem dX8_meanOf_110 : decode cX8_meanOf 110 = .ok (.lstore 4, 2) := by decide +kernel
theorem dX8_meanOf_112 : decode cX8_meanOf 112 = .ok (.lload 6, 2) := by decide +kernel
theorem dX8_meanOf_114 : decode cX8_meanOf 114 = .ok (.lload 9, 2) := by decide +kernel
theorem dX8_meanOf_116 : decode cX8_meanOf 116 = .ok (.ladd, 1) := by decide +kernel
theorem dX8_meanOf_117 : decode cX8_meanOf 117 = .ok (.lstore 6, 2) := by decide +kernel
theorem dX8_meanOf_119 : decode cX8_meanOf 119 = .ok (.lload 6, 2) := by decide +kernel
theorem dX8_meanOf_121 : decode cX8_meanOf 121 = .ok (.lload_n 2, 1) := by decide +kernel
theorem dX8_meanOf_122 : decode cX8_meanOf 122 = .ok (.lcmp, 1) := by decide +kernel
theorem dX8_meanOf_123 : decode cX8_meanOf 123 = .ok (.ifCond .lt 15, 3) := by decide +kernel
theorem dX8_meanOf_126 : decode cX8_meanOf 126 = .ok (.lload 6, 2) := by decide +kernel
theorem dX8_meanOf_128 : decode cX8_meanOf 128 = .ok (.lload_n 2, 1) := by decide +kernel
theorem dX8_meanOf_129 : decode cX8_meanOf 129 = .ok (.lsub, 1) := by decide +kernel
theorem dX8_meanOf_130 : decode cX8_meanOf 130 = .ok (.lstore 6, 2) := by decide +kernel
theorem dX8_meanOf_132 : decode cX8_meanOf 132 = .ok (.lload 4, 2) := by decide +kernel
theorem dX8_meanOf_134 : decode cX8_meanOf 134 = .ok (.lconst 1, 1) := by decide +kernel
theorem dX8_meanOf_135 : decode cX8_meanOf 135 = .ok (.ladd, 1) := by decide +kernel
theorem dX8_meanOf_136 : decode cX8_meanOf 136 = .ok (.lstore 4, 2) := by decide +kernel
theorem dX8_meanOf_138 : decode cX8_meanOf 138 = .ok (.iinc 8 (-1), 3) := by decide +kernel
theorem dX8_meanOf_141 : decode cX8_meanOf 141 = .ok (.goto (-131), 3) := by decide +kernel
theorem dX8_meanOf_144 : decode cX8_meanOf 144 = .ok (.lload 4, 2) := by decide +kernel
theorem dX8_meanOf_146 : decode cX8_meanOf 146 = .ok (.lreturn, 1) := by decide +kernel
theorem dX8_about_0 : decode cX8_about 0 = .ok (.aload_n 0, 1) := by decide +kernel
theorem dX8_about_1 : decode cX8_about 1 = .ok (.iload_n 1, 1) := by decide +kernel
theorem dX8_about_2 : decode cX8_about 2 = .ok (.invokevirtual 160, 3) := by decide +kernel
theorem dX8_about_5 : decode cX8_about 5 = .ok (.ifCond .eq 15, 3) := by decide +kernel
theorem dX8_about_8 : decode cX8_about 8 = .ok (.iload_n 2, 1) := by decide +kernel
theorem dX8_about_9 : decode cX8_about 9 = .ok (.i2l, 1) := by decide +kernel
theorem dX8_about_10 : decode cX8_about 10 = .ok (.lconst 0, 1) := by decide +kernel
theorem dX8_about_11 : decode cX8_about 11 = .ok (.ldc2_w 88, 3) := by decide +kernel
theorem dX8_about_14 : decode cX8_about 14 = .ok (.invokestatic 68, 3) := by decide +kernel
theorem dX8_about_17 : decode cX8_about 17 = .ok (.ifCond .ne 7, 3) := by decide +kernel
theorem dX8_about_20 : decode cX8_about 20 = .ok (.ldc2_w 94, 3) := by decide +kernel
theorem dX8_about_23 : decode cX8_about 23 = .ok (.lreturn, 1) := by decide +kernel
theorem dX8_about_24 : decode cX8_about 24 = .ok (.aload_n 0, 1) := by decide +kernel
theorem dX8_about_25 : decode cX8_about 25 = .ok (.iload_n 1, 1) := by decide +kernel
theorem dX8_about_26 : decode cX8_about 26 = .ok (.invokevirtual 198, 3) := by decide +kernel
theorem dX8_about_29 : decode cX8_about 29 = .ok (.lstore_n 3, 1) := by decide +kernel
theorem dX8_about_30 : decode cX8_about 30 = .ok (.lload_n 3, 1) := by decide +kernel
theorem dX8_about_31 : decode cX8_about 31 = .ok (.lconst 0, 1) := by decide +kernel
theorem dX8_about_32 : decode cX8_about 32 = .ok (.lcmp, 1) := by decide +kernel
theorem dX8_about_33 : decode cX8_about 33 = .ok (.ifCond .ne 7, 3) := by decide +kernel
theorem dX8_about_36 : decode cX8_about 36 = .ok (.ldc2_w 186, 3) := by decide +kernel
theorem dX8_about_39 : decode cX8_about 39 = .ok (.lreturn, 1) := by decide +kernel
theorem dX8_about_40 : decode cX8_about 40 = .ok (.iload_n 2, 1) := by decide +kernel
theorem dX8_about_41 : decode cX8_about 41 = .ok (.ifCond .ne 18, 3) := by decide +kernel
theorem dX8_about_44 : decode cX8_about 44 = .ok (.aload_n 0, 1) := by decide +kernel
theorem dX8_about_45 : decode cX8_about 45 = .ok (.iload_n 1, 1) := by decide +kernel
theorem dX8_about_46 : decode cX8_about 46 = .ok (.iconst 1, 1) := by decide +kernel
theorem dX8_about_47 : decode cX8_about 47 = .ok (.invokevirtual 104, 3) := by decide +kernel
theorem dX8_about_50 : decode cX8_about 50 = .ok (.aload_n 0, 1) := by decide +kernel
theorem dX8_about_51 : decode cX8_about 51 = .ok (.iload_n 1, 1) := by decide +kernel
theorem dX8_about_52 : decode cX8_about 52 = .ok (.invokevirtual 207, 3) := by decide +kernel
theorem dX8_about_55 : decode cX8_about 55 = .ok (.invokestatic 84, 3) := by decide +kernel
theorem dX8_about_58 : decode cX8_about 58 = .ok (.lreturn, 1) := by decide +kernel
theorem dX8_about_59 : decode cX8_about 59 = .ok (.iload_n 2, 1) := by decide +kernel
theorem dX8_about_60 : decode cX8_about 60 = .ok (.iconst 1, 1) := by decide +kernel
theorem dX8_about_61 : decode cX8_about 61 = .ok (.if_icmp .ne 16, 3) := by decide +kernel
theorem dX8_about_64 : decode cX8_about 64 = .ok (.aload_n 0, 1) := by decide +kernel
theorem dX8_about_65 : decode cX8_about 65 = .ok (.iload_n 1, 1) := by decide +kernel
theorem dX8_about_66 : decode cX8_about 66 = .ok (.aload_n 0, 1) := by decide +kernel
theorem dX8_about_67 : decode cX8_about 67 = .ok (.iload_n 1, 1) := by decide +kernel
theorem dX8_about_68 : decode cX8_about 68 = .ok (.invokevirtual 210, 3) := by decide +kernel
theorem dX8_about_71 : decode cX8_about 71 = .ok (.invokevirtual 204, 3) := by decide +kernel
theorem dX8_about_74 : decode cX8_about 74 = .ok (.goto 9, 3) := by decide +kernel
theorem dX8_about_77 : decode cX8_about 77 = .ok (.aload_n 0, 1) := by decide +kernel
theorem dX8_about_78 : decode cX8_about 78 = .ok (.iload_n 1, 1) := by decide +kernel
theorem dX8_about_79 : decode cX8_about 79 = .ok (.lload_n 3, 1) := by decide +kernel
theorem dX8_about_80 : decode cX8_about 80 = .ok (.invokevirtual 213, 3) := by decide +kernel
theorem dX8_about_83 : decode cX8_about 83 = .ok (.lreturn, 1) := by decide +kernel
theorem dX8_laysOther_0 : decode cX8_laysOther 0 = .ok (.aload_n 0, 1) := by decide +kernel
theorem dX8_laysOther_1 : decode cX8_laysOther 1 = .ok (.iload_n 1, 1) := by decide +kernel
theorem dX8_laysOther_2 : decode cX8_laysOther 2 = .ok (.iconst 0, 1) := by decide +kernel
theorem dX8_laysOther_3 : decode cX8_laysOther 3 = .ok (.invokevirtual 104, 3) := by decide +kernel
theorem dX8_laysOther_6 : decode cX8_laysOther 6 = .ok (.aload_n 0, 1) := by decide +kernel
theorem dX8_laysOther_7 : decode cX8_laysOther 7 = .ok (.iload_n 2, 1) := by decide +kernel
theorem dX8_laysOther_8 : decode cX8_laysOther 8 = .ok (.iconst 0, 1) := by decide +kernel
theorem dX8_laysOther_9 : decode cX8_laysOther 9 = .ok (.invokevirtual 104, 3) := by decide +kernel
theorem dX8_laysOther_12 : decode cX8_laysOther 12 = .ok (.if_icmp .eq 5, 3) := by decide +kernel
theorem dX8_laysOther_15 : decode cX8_laysOther 15 = .ok (.iconst 0, 1) := by decide +kernel
theorem dX8_laysOther_16 : decode cX8_laysOther 16 = .ok (.ireturn, 1) := by decide +kernel
theorem dX8_laysOther_17 : decode cX8_laysOther 17 = .ok (.aload_n 0, 1) := by decide +kernel
theorem dX8_laysOther_18 : decode cX8_laysOther 18 = .ok (.iload_n 2, 1) := by decide +kernel
theorem dX8_laysOther_19 : decode cX8_laysOther 19 = .ok (.invokevirtual 210, 3) := by decide +kernel
theorem dX8_laysOther_22 : decode cX8_laysOther 22 = .ok (.istore_n 3, 1) := by decide +kernel
theorem dX8_laysOther_23 : decode cX8_laysOther 23 = .ok (.iload_n 3, 1) := by decide +kernel
theorem dX8_laysOther_24 : decode cX8_laysOther 24 = .ok (.ifCond .lt 25, 3) := by decide +kernel
theorem dX8_laysOther_27 : decode cX8_laysOther 27 = .ok (.aload_n 0, 1) := by decide +kernel
theorem dX8_laysOther_28 : decode cX8_laysOther 28 = .ok (.iload_n 2, 1) := by decide +kernel
theorem dX8_laysOther_29 : decode cX8_laysOther 29 = .ok (.iconst 1, 1) := by decide +kernel
theorem dX8_laysOther_30 : decode cX8_laysOther 30 = .ok (.invokevirtual 104, 3) := by decide +kernel
theorem dX8_laysOther_33 : decode cX8_laysOther 33 = .ok (.iload_n 3, 1) := by decide +kernel
theorem dX8_laysOther_34 : decode cX8_laysOther 34 = .ok (.invokestatic 84, 3) := by decide +kernel
theorem dX8_laysOther_37 : decode cX8_laysOther 37 = .ok (.aload_n 0, 1) := by decide +kernel
theorem dX8_laysOther_38 : decode cX8_laysOther 38 = .ok (.getfield 17, 3) := by decide +kernel
theorem dX8_laysOther_41 : decode cX8_laysOther 41 = .ok (.iload_n 1, 1) := by decide +kernel
theorem dX8_laysOther_42 : decode cX8_laysOther 42 = .ok (.laload, 1) := by decide +kernel
theorem dX8_laysOther_43 : decode cX8_laysOther 43 = .ok (.lcmp, 1) := by decide +kernel
theorem dX8_laysOther_44 : decode cX8_laysOther 44 = .ok (.ifCond .le 5, 3) := by decide +kernel
theorem dX8_laysOther_47 : decode cX8_laysOther 47 = .ok (.iconst 0, 1) := by decide +kernel
theorem dX8_laysOther_48 : decode cX8_laysOther 48 = .ok (.ireturn, 1) := by decide +kernel
theorem dX8_laysOther_49 : decode cX8_laysOther 49 = .ok (.aload_n 0, 1) := by decide +kernel
theorem dX8_laysOther_50 : decode cX8_laysOther 50 = .ok (.invokevirtual 172, 3) := by decide +kernel
theorem dX8_laysOther_53 : decode cX8_laysOther 53 = .ok (.iconst 0, 1) := by decide +kernel
theorem dX8_laysOther_54 : decode cX8_laysOther 54 = .ok (.istore 4, 2) := by decide +kernel
theorem dX8_laysOther_56 : decode cX8_laysOther 56 = .ok (.iload 4, 2) := by decide +kernel
theorem dX8_laysOther_58 : decode cX8_laysOther 58 = .ok (.iload_n 3, 1) := by decide +kernel
theorem dX8_laysOther_59 : decode cX8_laysOther 59 = .ok (.if_icmp .gt 86, 3) := by decide +kernel
theorem dX8_laysOther_62 : decode cX8_laysOther 62 = .ok (.aload_n 0, 1) := by decide +kernel
theorem dX8_laysOther_63 : decode cX8_laysOther 63 = .ok (.iload_n 1, 1) := by decide +kernel
theorem dX8_laysOther_64 : decode cX8_laysOther 64 = .ok (.iconst 1, 1) := by decide +kernel
theorem dX8_laysOther_65 : decode cX8_laysOther 65 = .ok (.invokevirtual 104, 3) := by decide +kernel
theorem dX8_laysOther_68 : decode cX8_laysOther 68 = .ok (.aload_n 0, 1) := by decide +kernel
theorem dX8_laysOther_69 : decode cX8_laysOther 69 = .ok (.iload_n 2, 1) := by decide +kernel
theorem dX8_laysOther_70 : decode cX8_laysOther 70 = .ok (.iconst 1, 1) := by decide +kernel
theorem dX8_laysOther_71 : decode cX8_laysOther 71 = .ok (.invokevirtual 104, 3) := by decide +kernel
theorem dX8_laysOther_74 : decode cX8_laysOther 74 = .ok (.iload 4, 2) := by decide +kernel
theorem dX8_laysOther_76 : decode cX8_laysOther 76 = .ok (.invokestatic 84, 3) := by decide +kernel
theorem dX8_laysOther_79 : decode cX8_laysOther 79 = .ok (.invokestatic 90, 3) := by decide +kernel
theorem dX8_laysOther_82 : decode cX8_laysOther 82 = .ok (.istore 5, 2) := by decide +kernel
theorem dX8_laysOther_84 : decode cX8_laysOther 84 = .ok (.aload_n 0, 1) := by decide +kernel
theorem dX8_laysOther_85 : decode cX8_laysOther 85 = .ok (.getfield 21, 3) := by decide +kernel
theorem dX8_laysOther_88 : decode cX8_laysOther 88 = .ok (.sipush 4352, 3) := by decide +kernel
theorem dX8_laysOther_91 : decode cX8_laysOther 91 = .ok (.iload_n 2, 1) := by decide +kernel
theorem dX8_laysOther_92 : decode cX8_laysOther 92 = .ok (.imul, 1) := by decide +kernel
theorem dX8_laysOther_93 : decode cX8_laysOther 93 = .ok (.iload 4, 2) := by decide +kernel
theorem dX8_laysOther_95 : decode cX8_laysOther 95 = .ok (.iadd, 1) := by decide +kernel
theorem dX8_laysOther_96 : decode cX8_laysOther 96 = .ok (.laload, 1) := by decide +kernel
theorem dX8_laysOther_97 : decode cX8_laysOther 97 = .ok (.lstore 6, 2) := by decide +kernel
theorem dX8_laysOther_99 : decode cX8_laysOther 99 = .ok (.aload_n 0, 1) := by decide +kernel
theorem dX8_laysOther_100 : decode cX8_laysOther 100 = .ok (.getfield 40, 3) := by decide +kernel
theorem dX8_laysOther_103 : decode cX8_laysOther 103 = .ok (.iload 5, 2) := by decide +kernel
theorem dX8_laysOther_105 : decode cX8_laysOther 105 = .ok (.aload_n 0, 1) := by decide +kernel
theorem dX8_laysOther_106 : decode cX8_laysOther 106 = .ok (.getfield 40, 3) := by decide +kernel
theorem dX8_laysOther_109 : decode cX8_laysOther 109 = .ok (.iload 5, 2) := by decide +kernel
theorem dX8_laysOther_111 : decode cX8_laysOther 111 = .ok (.laload, 1) := by decide +kernel
theorem dX8_laysOther_112 : decode cX8_laysOther 112 = .ok (.lload 6, 2) := by decide +kernel
theorem dX8_laysOther_114 : decode cX8_laysOther 114 = .ok (.ladd, 1) := by decide +kernel
theorem dX8_laysOther_115 : decode cX8_laysOther 115 = .ok (.ldc2_w 217, 3) := by decide +kernel
theorem dX8_laysOther_118 : decode cX8_laysOther 118 = .ok (.lcmp, 1) := by decide +kernel
theorem dX8_laysOther_119 : decode cX8_laysOther 119 = .ok (.ifCond .le 9, 3) := by decide +kernel
theorem dX8_laysOther_122 : decode cX8_laysOther 122 = .ok (.ldc2_w 217, 3) := by decide +kernel
theorem dX8_laysOther_125 : decode cX8_laysOther 125 = .ok (.goto 13, 3) := by decide +kernel
theorem dX8_laysOther_128 : decode cX8_laysOther 128 = .ok (.aload_n 0, 1) := by decide +kernel
theorem dX8_laysOther_129 : decode cX8_laysOther 129 = .ok (.getfield 40, 3) := by decide +kernel
theorem dX8_laysOther_132 : decode cX8_laysOther 132 = .ok (.iload 5, 2) := by decide +kernel
theorem dX8_laysOther_134 : decode cX8_laysOther 134 = .ok (.laload, 1) := by decide +kernel
theorem dX8_laysOther_135 : decode cX8_laysOther 135 = .ok (.lload 6, 2) := by decide +kernel
theorem dX8_laysOther_137 : decode cX8_laysOther 137 = .ok (.ladd, 1) := by decide +kernel
theorem dX8_laysOther_138 : decode cX8_laysOther 138 = .ok (.lastore, 1) := by decide +kernel
theorem dX8_laysOther_139 : decode cX8_laysOther 139 = .ok (.iinc 4 1, 3) := by decide +kernel
theorem dX8_laysOther_142 : decode cX8_laysOther 142 = .ok (.goto (-86), 3) := by decide +kernel
theorem dX8_laysOther_145 : decode cX8_laysOther 145 = .ok (.iconst 1, 1) := by decide +kernel
theorem dX8_laysOther_146 : decode cX8_laysOther 146 = .ok (.ireturn, 1) := by decide +kernel
theorem dX8_add_0 : decode cX8_add 0 = .ok (.aload_n 0, 1) := by decide +kernel
theorem dX8_add_1 : decode cX8_add 1 = .ok (.iload_n 1, 1) := by decide +kernel
theorem dX8_add_2 : decode cX8_add 2 = .ok (.invokevirtual 160, 3) := by decide +kernel
theorem dX8_add_5 : decode cX8_add 5 = .ok (.ifCond .eq 11, 3) := by decide +kernel
theorem dX8_add_8 : decode cX8_add 8 = .ok (.aload_n 0, 1) := by decide +kernel
theorem dX8_add_9 : decode cX8_add 9 = .ok (.iload_n 2, 1) := by decide +kernel
theorem dX8_add_10 : decode cX8_add 10 = .ok (.invokevirtual 160, 3) := by decide +kernel
theorem dX8_add_13 : decode cX8_add 13 = .ok (.ifCond .ne 7, 3) := by decide +kernel
theorem dX8_add_16 : decode cX8_add 16 = .ok (.ldc2_w 94, 3) := by decide +kernel
theorem dX8_add_19 : decode cX8_add 19 = .ok (.lreturn, 1) := by decide +kernel
theorem dX8_add_20 : decode cX8_add 20 = .ok (.aload_n 0, 1) := by decide +kernel
theorem dX8_add_21 : decode cX8_add 21 = .ok (.iload_n 1, 1) := by decide +kernel
theorem dX8_add_22 : decode cX8_add 22 = .ok (.iload_n 2, 1) := by decide +kernel
theorem dX8_add_23 : decode cX8_add 23 = .ok (.invokevirtual 219, 3) := by decide +kernel
theorem dX8_add_26 : decode cX8_add 26 = .ok (.ifCond .eq 11, 3) := by decide +kernel
theorem dX8_add_29 : decode cX8_add 29 = .ok (.aload_n 0, 1) := by decide +kernel
theorem dX8_add_30 : decode cX8_add 30 = .ok (.iload_n 1, 1) := by decide +kernel
theorem dX8_add_31 : decode cX8_add 31 = .ok (.invokevirtual 175, 3) := by decide +kernel
theorem dX8_add_34 : decode cX8_add 34 = .ok (.ifCond .ne 7, 3) := by decide +kernel
theorem dX8_add_37 : decode cX8_add 37 = .ok (.ldc2_w 186, 3) := by decide +kernel
theorem dX8_add_40 : decode cX8_add 40 = .ok (.lreturn, 1) := by decide +kernel
theorem dX8_add_41 : decode cX8_add 41 = .ok (.aload_n 0, 1) := by decide +kernel
theorem dX8_add_42 : decode cX8_add 42 = .ok (.invokevirtual 115, 3) := by decide +kernel
theorem dX8_add_45 : decode cX8_add 45 = .ok (.aload_n 0, 1) := by decide +kernel
theorem dX8_add_46 : decode cX8_add 46 = .ok (.iload_n 1, 1) := by decide +kernel
theorem dX8_add_47 : decode cX8_add 47 = .ok (.invokevirtual 188, 3) := by decide +kernel
theorem dX8_add_50 : decode cX8_add 50 = .ok (.aload_n 0, 1) := by decide +kernel
theorem dX8_add_51 : decode cX8_add 51 = .ok (.iload_n 1, 1) := by decide +kernel
theorem dX8_add_52 : decode cX8_add 52 = .ok (.invokevirtual 198, 3) := by decide +kernel
theorem dX8_add_55 : decode cX8_add 55 = .ok (.lreturn, 1) := by decide +kernel
theorem dX8_isEnough_0 : decode cX8_isEnough 0 = .ok (.iconst 0, 1) := by decide +kernel
theorem dX8_isEnough_1 : decode cX8_isEnough 1 = .ok (.istore_n 2, 1) := by decide +kernel
theorem dX8_isEnough_2 : decode cX8_isEnough 2 = .ok (.iload_n 2, 1) := by decide +kernel
theorem dX8_isEnough_3 : decode cX8_isEnough 3 = .ok (.aload_n 0, 1) := by decide +kernel
theorem dX8_isEnough_4 : decode cX8_isEnough 4 = .ok (.iload_n 1, 1) := by decide +kernel
theorem dX8_isEnough_5 : decode cX8_isEnough 5 = .ok (.iconst 2, 1) := by decide +kernel
theorem dX8_isEnough_6 : decode cX8_isEnough 6 = .ok (.invokevirtual 104, 3) := by decide +kernel
theorem dX8_isEnough_9 : decode cX8_isEnough 9 = .ok (.if_icmp .ge 33, 3) := by decide +kernel
theorem dX8_isEnough_12 : decode cX8_isEnough 12 = .ok (.aload_n 0, 1) := by decide +kernel
theorem dX8_isEnough_13 : decode cX8_isEnough 13 = .ok (.getfield 40, 3) := by decide +kernel
theorem dX8_isEnough_16 : decode cX8_isEnough 16 = .ok (.iload_n 2, 1) := by decide +kernel
theorem dX8_isEnough_17 : decode cX8_isEnough 17 = .ok (.laload, 1) := by decide +kernel
theorem dX8_isEnough_18 : decode cX8_isEnough 18 = .ok (.aload_n 0, 1) := by decide +kernel
theorem dX8_isEnough_19 : decode cX8_isEnough 19 = .ok (.getfield 21, 3) := by decide +kernel
theorem dX8_isEnough_22 : decode cX8_isEnough 22 = .ok (.sipush 4352, 3) := by decide +kernel
theorem dX8_isEnough_25 : decode cX8_isEnough 25 = .ok (.iload_n 1, 1) := by decide +kernel
theorem dX8_isEnough_26 : decode cX8_isEnough 26 = .ok (.imul, 1) := by decide +kernel
theorem dX8_isEnough_27 : decode cX8_isEnough 27 = .ok (.iload_n 2, 1) := by decide +kernel
theorem dX8_isEnough_28 : decode cX8_isEnough 28 = .ok (.iadd, 1) := by decide +kernel
theorem dX8_isEnough_29 : decode cX8_isEnough 29 = .ok (.laload, 1) := by decide +kernel
theorem dX8_isEnough_30 : decode cX8_isEnough 30 = .ok (.lcmp, 1) := by decide +kernel
theorem dX8_isEnough_31 : decode cX8_isEnough 31 = .ok (.ifCond .le 5, 3) := by decide +kernel
theorem dX8_isEnough_34 : decode cX8_isEnough 34 = .ok (.iconst 0, 1) := by decide +kernel
theorem dX8_isEnough_35 : decode cX8_isEnough 35 = .ok (.ireturn, 1) := by decide +kernel
theorem dX8_isEnough_36 : decode cX8_isEnough 36 = .ok (.iinc 2 1, 3) := by decide +kernel
theorem dX8_isEnough_39 : decode cX8_isEnough 39 = .ok (.goto (-37), 3) := by decide +kernel
theorem dX8_isEnough_42 : decode cX8_isEnough 42 = .ok (.iconst 1, 1) := by decide +kernel
theorem dX8_isEnough_43 : decode cX8_isEnough 43 = .ok (.ireturn, 1) := by decide +kernel
theorem dX8_takeOff_0 : decode cX8_takeOff 0 = .ok (.aload_n 0, 1) := by decide +kernel
theorem dX8_takeOff_1 : decode cX8_takeOff 1 = .ok (.iload_n 1, 1) := by decide +kernel
theorem dX8_takeOff_2 : decode cX8_takeOff 2 = .ok (.invokevirtual 160, 3) := by decide +kernel
theorem dX8_takeOff_5 : decode cX8_takeOff 5 = .ok (.ifCond .eq 11, 3) := by decide +kernel
theorem dX8_takeOff_8 : decode cX8_takeOff 8 = .ok (.aload_n 0, 1) := by decide +kernel
theorem dX8_takeOff_9 : decode cX8_takeOff 9 = .ok (.iload_n 2, 1) := by decide +kernel
theorem dX8_takeOff_10 : decode cX8_takeOff 10 = .ok (.invokevirtual 160, 3) := by decide +kernel
theorem dX8_takeOff_13 : decode cX8_takeOff 13 = .ok (.ifCond .ne 7, 3) := by decide +kernel
theorem dX8_takeOff_16 : decode cX8_takeOff 16 = .ok (.ldc2_w 94, 3) := by decide +kernel
theorem dX8_takeOff_19 : decode cX8_takeOff 19 = .ok (.lreturn, 1) := by decide +kernel
theorem dX8_takeOff_20 : decode cX8_takeOff 20 = .ok (.aload_n 0, 1) := by decide +kernel
theorem dX8_takeOff_21 : decode cX8_takeOff 21 = .ok (.iload_n 1, 1) := by decide +kernel
theorem dX8_takeOff_22 : decode cX8_takeOff 22 = .ok (.iload_n 2, 1) := by decide +kernel
theorem dX8_takeOff_23 : decode cX8_takeOff 23 = .ok (.invokevirtual 219, 3) := by decide +kernel
theorem dX8_takeOff_26 : decode cX8_takeOff 26 = .ok (.ifCond .eq 11, 3) := by decide +kernel
theorem dX8_takeOff_29 : decode cX8_takeOff 29 = .ok (.aload_n 0, 1) := by decide +kernel
theorem dX8_takeOff_30 : decode cX8_takeOff 30 = .ok (.iload_n 1, 1) := by decide +kernel
theorem dX8_takeOff_31 : decode cX8_takeOff 31 = .ok (.invokevirtual 222, 3) := by decide +kernel
theorem dX8_takeOff_34 : decode cX8_takeOff 34 = .ok (.ifCond .ne 7, 3) := by decide +kernel
theorem dX8_takeOff_37 : decode cX8_takeOff 37 = .ok (.ldc2_w 186, 3) := by decide +kernel
theorem dX8_takeOff_40 : decode cX8_takeOff 40 = .ok (.lreturn, 1) := by decide +kernel
theorem dX8_takeOff_41 : decode cX8_takeOff 41 = .ok (.aload_n 0, 1) := by decide +kernel
theorem dX8_takeOff_42 : decode cX8_takeOff 42 = .ok (.invokevirtual 115, 3) := by decide +kernel
theorem dX8_takeOff_45 : decode cX8_takeOff 45 = .ok (.iconst 0, 1) := by decide +kernel
theorem dX8_takeOff_46 : decode cX8_takeOff 46 = .ok (.istore_n 3, 1) := by decide +kernel
theorem dX8_takeOff_47 : decode cX8_takeOff 47 = .ok (.iload_n 3, 1) := by decide +kernel
theorem dX8_takeOff_48 : decode cX8_takeOff 48 = .ok (.aload_n 0, 1) := by decide +kernel
theorem dX8_takeOff_49 : decode cX8_takeOff 49 = .ok (.iload_n 1, 1) := by decide +kernel
theorem dX8_takeOff_50 : decode cX8_takeOff 50 = .ok (.iconst 2, 1) := by decide +kernel
theorem dX8_takeOff_51 : decode cX8_takeOff 51 = .ok (.invokevirtual 104, 3) := by decide +kernel
theorem dX8_takeOff_54 : decode cX8_takeOff 54 = .ok (.if_icmp .ge 45, 3) := by decide +kernel
theorem dX8_takeOff_57 : decode cX8_takeOff 57 = .ok (.aload_n 0, 1) := by decide +kernel
theorem dX8_takeOff_58 : decode cX8_takeOff 58 = .ok (.getfield 40, 3) := by decide +kernel
theorem dX8_takeOff_61 : decode cX8_takeOff 61 = .ok (.iload_n 3, 1) := by decide +kernel
theorem dX8_takeOff_62 : decode cX8_takeOff 62 = .ok (.laload, 1) := by decide +kernel
theorem dX8_takeOff_63 : decode cX8_takeOff 63 = .ok (.lconst 0, 1) := by decide +kernel
theorem dX8_takeOff_64 : decode cX8_takeOff 64 = .ok (.lcmp, 1) := by decide +kernel
theorem dX8_takeOff_65 : decode cX8_takeOff 65 = .ok (.ifCond .le 28, 3) := by decide +kernel
theorem dX8_takeOff_68 : decode cX8_takeOff 68 = .ok (.aload_n 0, 1) := by decide +kernel
theorem dX8_takeOff_69 : decode cX8_takeOff 69 = .ok (.iload_n 1, 1) := by decide +kernel
theorem dX8_takeOff_70 : decode cX8_takeOff 70 = .ok (.iload_n 3, 1) := by decide +kernel
theorem dX8_takeOff_71 : decode cX8_takeOff 71 = .ok (.aload_n 0, 1) := by decide +kernel
theorem dX8_takeOff_72 : decode cX8_takeOff 72 = .ok (.getfield 21, 3) := by decide +kernel
theorem dX8_takeOff_75 : decode cX8_takeOff 75 = .ok (.sipush 4352, 3) := by decide +kernel
theorem dX8_takeOff_78 : decode cX8_takeOff 78 = .ok (.iload_n 1, 1) := by decide +kernel
theorem dX8_takeOff_79 : decode cX8_takeOff 79 = .ok (.imul, 1) := by decide +kernel
theorem dX8_takeOff_80 : decode cX8_takeOff 80 = .ok (.iload_n 3, 1) := by decide +kernel
theorem dX8_takeOff_81 : decode cX8_takeOff 81 = .ok (.iadd, 1) := by decide +kernel
theorem dX8_takeOff_82 : decode cX8_takeOff 82 = .ok (.laload, 1) := by decide +kernel
theorem dX8_takeOff_83 : decode cX8_takeOff 83 = .ok (.aload_n 0, 1) := by decide +kernel
theorem dX8_takeOff_84 : decode cX8_takeOff 84 = .ok (.getfield 40, 3) := by decide +kernel
theorem dX8_takeOff_87 : decode cX8_takeOff 87 = .ok (.iload_n 3, 1) := by decide +kernel
theorem dX8_takeOff_88 : decode cX8_takeOff 88 = .ok (.laload, 1) := by decide +kernel
theorem dX8_takeOff_89 : decode cX8_takeOff 89 = .ok (.lsub, 1) := by decide +kernel
theorem dX8_takeOff_90 : decode cX8_takeOff 90 = .ok (.invokevirtual 178, 3) := by decide +kernel
theorem dX8_takeOff_93 : decode cX8_takeOff 93 = .ok (.iinc 3 1, 3) := by decide +kernel
theorem dX8_takeOff_96 : decode cX8_takeOff 96 = .ok (.goto (-49), 3) := by decide +kernel
theorem dX8_takeOff_99 : decode cX8_takeOff 99 = .ok (.aload_n 0, 1) := by decide +kernel
theorem dX8_takeOff_100 : decode cX8_takeOff 100 = .ok (.iload_n 1, 1) := by decide +kernel
theorem dX8_takeOff_101 : decode cX8_takeOff 101 = .ok (.invokevirtual 198, 3) := by decide +kernel
theorem dX8_takeOff_104 : decode cX8_takeOff 104 = .ok (.lreturn, 1) := by decide +kernel
theorem dX8_halve_0 : decode cX8_halve 0 = .ok (.aload_n 0, 1) := by decide +kernel
theorem dX8_halve_1 : decode cX8_halve 1 = .ok (.iload_n 1, 1) := by decide +kernel
theorem dX8_halve_2 : decode cX8_halve 2 = .ok (.invokevirtual 160, 3) := by decide +kernel
theorem dX8_halve_5 : decode cX8_halve 5 = .ok (.ifCond .ne 7, 3) := by decide +kernel
theorem dX8_halve_8 : decode cX8_halve 8 = .ok (.ldc2_w 94, 3) := by decide +kernel
theorem dX8_halve_11 : decode cX8_halve 11 = .ok (.lreturn, 1) := by decide +kernel
theorem dX8_halve_12 : decode cX8_halve 12 = .ok (.aload_n 0, 1) := by decide +kernel
theorem dX8_halve_13 : decode cX8_halve 13 = .ok (.invokevirtual 115, 3) := by decide +kernel
theorem dX8_halve_16 : decode cX8_halve 16 = .ok (.iconst 0, 1) := by decide +kernel
theorem dX8_halve_17 : decode cX8_halve 17 = .ok (.istore_n 2, 1) := by decide +kernel
theorem dX8_halve_18 : decode cX8_halve 18 = .ok (.iload_n 2, 1) := by decide +kernel
theorem dX8_halve_19 : decode cX8_halve 19 = .ok (.aload_n 0, 1) := by decide +kernel
theorem dX8_halve_20 : decode cX8_halve 20 = .ok (.iload_n 1, 1) := by decide +kernel
theorem dX8_halve_21 : decode cX8_halve 21 = .ok (.iconst 2, 1) := by decide +kernel
theorem dX8_halve_22 : decode cX8_halve 22 = .ok (.invokevirtual 104, 3) := by decide +kernel
theorem dX8_halve_25 : decode cX8_halve 25 = .ok (.if_icmp .ge 31, 3) := by decide +kernel
theorem dX8_halve_28 : decode cX8_halve 28 = .ok (.aload_n 0, 1) := by decide +kernel
theorem dX8_halve_29 : decode cX8_halve 29 = .ok (.iload_n 1, 1) := by decide +kernel
theorem dX8_halve_30 : decode cX8_halve 30 = .ok (.iload_n 2, 1) := by decide +kernel
theorem dX8_halve_31 : decode cX8_halve 31 = .ok (.aload_n 0, 1) := by decide +kernel
theorem dX8_halve_32 : decode cX8_halve 32 = .ok (.getfield 21, 3) := by decide +kernel
theorem dX8_halve_35 : decode cX8_halve 35 = .ok (.sipush 4352, 3) := by decide +kernel
theorem dX8_halve_38 : decode cX8_halve 38 = .ok (.iload_n 1, 1) := by decide +kernel
theorem dX8_halve_39 : decode cX8_halve 39 = .ok (.imul, 1) := by decide +kernel
theorem dX8_halve_40 : decode cX8_halve 40 = .ok (.iload_n 2, 1) := by decide +kernel
theorem dX8_halve_41 : decode cX8_halve 41 = .ok (.iadd, 1) := by decide +kernel
theorem dX8_halve_42 : decode cX8_halve 42 = .ok (.laload, 1) := by decide +kernel
theorem dX8_halve_43 : decode cX8_halve 43 = .ok (.ldc2_w 88, 3) := by decide +kernel
theorem dX8_halve_46 : decode cX8_halve 46 = .ok (.ldiv, 1) := by decide +kernel
theorem dX8_halve_47 : decode cX8_halve 47 = .ok (.invokevirtual 178, 3) := by decide +kernel
theorem dX8_halve_50 : decode cX8_halve 50 = .ok (.iinc 2 1, 3) := by decide +kernel
theorem dX8_halve_53 : decode cX8_halve 53 = .ok (.goto (-35), 3) := by decide +kernel
theorem dX8_halve_56 : decode cX8_halve 56 = .ok (.aload_n 0, 1) := by decide +kernel
theorem dX8_halve_57 : decode cX8_halve 57 = .ok (.iload_n 1, 1) := by decide +kernel
theorem dX8_halve_58 : decode cX8_halve 58 = .ok (.invokevirtual 198, 3) := by decide +kernel
theorem dX8_halve_61 : decode cX8_halve 61 = .ok (.lreturn, 1) := by decide +kernel
theorem dX8_tells_0 : decode cX8_tells 0 = .ok (.iload_n 1, 1) := by decide +kernel
theorem dX8_tells_1 : decode cX8_tells 1 = .ok (.ifCond .ne 5, 3) := by decide +kernel
theorem dX8_tells_4 : decode cX8_tells 4 = .ok (.iconst 1, 1) := by decide +kernel
theorem dX8_tells_5 : decode cX8_tells 5 = .ok (.ireturn, 1) := by decide +kernel
theorem dX8_tells_6 : decode cX8_tells 6 = .ok (.iload_n 0, 1) := by decide +kernel
theorem dX8_tells_7 : decode cX8_tells 7 = .ok (.tableswitch 135 1 7 #[41, 52, 73, 89, 100, 111, 123], 41) := by decide +kernel
theorem dX8_tells_48 : decode cX8_tells 48 = .ok (.iload_n 1, 1) := by decide +kernel
theorem dX8_tells_49 : decode cX8_tells 49 = .ok (.iconst 1, 1) := by decide +kernel
theorem dX8_tells_50 : decode cX8_tells 50 = .ok (.if_icmp .ne 7, 3) := by decide +kernel
theorem dX8_tells_53 : decode cX8_tells 53 = .ok (.iconst 1, 1) := by decide +kernel
theorem dX8_tells_54 : decode cX8_tells 54 = .ok (.goto 4, 3) := by decide +kernel
theorem dX8_tells_57 : decode cX8_tells 57 = .ok (.iconst 0, 1) := by decide +kernel
theorem dX8_tells_58 : decode cX8_tells 58 = .ok (.ireturn, 1) := by decide +kernel
theorem dX8_tells_59 : decode cX8_tells 59 = .ok (.iload_n 1, 1) := by decide +kernel
theorem dX8_tells_60 : decode cX8_tells 60 = .ok (.iconst 2, 1) := by decide +kernel
theorem dX8_tells_61 : decode cX8_tells 61 = .ok (.if_icmp .eq 13, 3) := by decide +kernel
theorem dX8_tells_64 : decode cX8_tells 64 = .ok (.iload_n 1, 1) := by decide +kernel
theorem dX8_tells_65 : decode cX8_tells 65 = .ok (.iconst 3, 1) := by decide +kernel
theorem dX8_tells_66 : decode cX8_tells 66 = .ok (.if_icmp .eq 8, 3) := by decide +kernel
theorem dX8_tells_69 : decode cX8_tells 69 = .ok (.iload_n 1, 1) := by decide +kernel
theorem dX8_tells_70 : decode cX8_tells 70 = .ok (.iconst 5, 1) := by decide +kernel
theorem dX8_tells_71 : decode cX8_tells 71 = .ok (.if_icmp .lt 7, 3) := by decide +kernel
theorem dX8_tells_74 : decode cX8_tells 74 = .ok (.iconst 1, 1) := by decide +kernel
theorem dX8_tells_75 : decode cX8_tells 75 = .ok (.goto 4, 3) := by decide +kernel
theorem dX8_tells_78 : decode cX8_tells 78 = .ok (.iconst 0, 1) := by decide +kernel
theorem dX8_tells_79 : decode cX8_tells 79 = .ok (.ireturn, 1) := by decide +kernel
theorem dX8_tells_80 : decode cX8_tells 80 = .ok (.iload_n 1, 1) := by decide +kernel
theorem dX8_tells_81 : decode cX8_tells 81 = .ok (.iconst 3, 1) := by decide +kernel
theorem dX8_tells_82 : decode cX8_tells 82 = .ok (.if_icmp .eq 8, 3) := by decide +kernel
theorem dX8_tells_85 : decode cX8_tells 85 = .ok (.iload_n 1, 1) := by decide +kernel
theorem dX8_tells_86 : decode cX8_tells 86 = .ok (.iconst 5, 1) := by decide +kernel
theorem dX8_tells_87 : decode cX8_tells 87 = .ok (.if_icmp .lt 7, 3) := by decide +kernel
theorem dX8_tells_90 : decode cX8_tells 90 = .ok (.iconst 1, 1) := by decide +kernel
theorem dX8_tells_91 : decode cX8_tells 91 = .ok (.goto 4, 3) := by decide +kernel
theorem dX8_tells_94 : decode cX8_tells 94 = .ok (.iconst 0, 1) := by decide +kernel
theorem dX8_tells_95 : decode cX8_tells 95 = .ok (.ireturn, 1) := by decide +kernel
theorem dX8_tells_96 : decode cX8_tells 96 = .ok (.iload_n 1, 1) := by decide +kernel
theorem dX8_tells_97 : decode cX8_tells 97 = .ok (.iconst 4, 1) := by decide +kernel
theorem dX8_tells_98 : decode cX8_tells 98 = .ok (.if_icmp .lt 7, 3) := by decide +kernel
theorem dX8_tells_101 : decode cX8_tells 101 = .ok (.iconst 1, 1) := by decide +kernel
theorem dX8_tells_102 : decode cX8_tells 102 = .ok (.goto 4, 3) := by decide +kernel
theorem dX8_tells_105 : decode cX8_tells 105 = .ok (.iconst 0, 1) := by decide +kernel
theorem dX8_tells_106 : decode cX8_tells 106 = .ok (.ireturn, 1) := by decide +kernel
theorem dX8_tells_107 : decode cX8_tells 107 = .ok (.iload_n 1, 1) := by decide +kernel
theorem dX8_tells_108 : decode cX8_tells 108 = .ok (.iconst 5, 1) := by decide +kernel
theorem dX8_tells_109 : decode cX8_tells 109 = .ok (.if_icmp .lt 7, 3) := by decide +kernel
theorem dX8_tells_112 : decode cX8_tells 112 = .ok (.iconst 1, 1) := by decide +kernel
theorem dX8_tells_113 : decode cX8_tells 113 = .ok (.goto 4, 3) := by decide +kernel
theorem dX8_tells_116 : decode cX8_tells 116 = .ok (.iconst 0, 1) := by decide +kernel
theorem dX8_tells_117 : decode cX8_tells 117 = .ok (.ireturn, 1) := by decide +kernel
theorem dX8_tells_118 : decode cX8_tells 118 = .ok (.iload_n 1, 1) := by decide +kernel
theorem dX8_tells_119 : decode cX8_tells 119 = .ok (.bipush 6, 2) := by decide +kernel
theorem dX8_tells_121 : decode cX8_tells 121 = .ok (.if_icmp .lt 7, 3) := by decide +kernel
theorem dX8_tells_124 : decode cX8_tells 124 = .ok (.iconst 1, 1) := by decide +kernel
theorem dX8_tells_125 : decode cX8_tells 125 = .ok (.goto 4, 3) := by decide +kernel
theorem dX8_tells_128 : decode cX8_tells 128 = .ok (.iconst 0, 1) := by decide +kernel
theorem dX8_tells_129 : decode cX8_tells 129 = .ok (.ireturn, 1) := by decide +kernel
theorem dX8_tells_130 : decode cX8_tells 130 = .ok (.iload_n 1, 1) := by decide +kernel
theorem dX8_tells_131 : decode cX8_tells 131 = .ok (.bipush 7, 2) := by decide +kernel
theorem dX8_tells_133 : decode cX8_tells 133 = .ok (.if_icmp .lt 7, 3) := by decide +kernel
theorem dX8_tells_136 : decode cX8_tells 136 = .ok (.iconst 1, 1) := by decide +kernel
theorem dX8_tells_137 : decode cX8_tells 137 = .ok (.goto 4, 3) := by decide +kernel
theorem dX8_tells_140 : decode cX8_tells 140 = .ok (.iconst 0, 1) := by decide +kernel
theorem dX8_tells_141 : decode cX8_tells 141 = .ok (.ireturn, 1) := by decide +kernel
theorem dX8_tells_142 : decode cX8_tells 142 = .ok (.iload_n 1, 1) := by decide +kernel
theorem dX8_tells_143 : decode cX8_tells 143 = .ok (.bipush 8, 2) := by decide +kernel
theorem dX8_tells_145 : decode cX8_tells 145 = .ok (.if_icmp .ne 7, 3) := by decide +kernel
theorem dX8_tells_148 : decode cX8_tells 148 = .ok (.iconst 1, 1) := by decide +kernel
theorem dX8_tells_149 : decode cX8_tells 149 = .ok (.goto 4, 3) := by decide +kernel
theorem dX8_tells_152 : decode cX8_tells 152 = .ok (.iconst 0, 1) := by decide +kernel
theorem dX8_tells_153 : decode cX8_tells 153 = .ok (.ireturn, 1) := by decide +kernel
theorem dX8_toldBy_0 : decode cX8_toldBy 0 = .ok (.iload_n 0, 1) := by decide +kernel
theorem dX8_toldBy_1 : decode cX8_toldBy 1 = .ok (.bipush 7, 2) := by decide +kernel
theorem dX8_toldBy_3 : decode cX8_toldBy 3 = .ok (.if_icmp .ne 32, 3) := by decide +kernel
theorem dX8_toldBy_6 : decode cX8_toldBy 6 = .ok (.lload_n 1, 1) := by decide +kernel
theorem dX8_toldBy_7 : decode cX8_toldBy 7 = .ok (.l2f, 1) := by decide +kernel
theorem dX8_toldBy_8 : decode cX8_toldBy 8 = .ok (.ldc 225, 2) := by decide +kernel
theorem dX8_toldBy_10 : decode cX8_toldBy 10 = .ok (.fdiv, 1) := by decide +kernel
theorem dX8_toldBy_11 : decode cX8_toldBy 11 = .ok (.fstore 4, 2) := by decide +kernel
theorem dX8_toldBy_13 : decode cX8_toldBy 13 = .ok (.iload_n 3, 1) := by decide +kernel
theorem dX8_toldBy_14 : decode cX8_toldBy 14 = .ok (.bipush 8, 2) := by decide +kernel
theorem dX8_toldBy_16 : decode cX8_toldBy 16 = .ok (.if_icmp .ne 12, 3) := by decide +kernel
theorem dX8_toldBy_19 : decode cX8_toldBy 19 = .ok (.fload 4, 2) := by decide +kernel
theorem dX8_toldBy_21 : decode cX8_toldBy 21 = .ok (.f2d, 1) := by decide +kernel
theorem dX8_toldBy_22 : decode cX8_toldBy 22 = .ok (.invokestatic 226, 3) := by decide +kernel
theorem dX8_toldBy_25 : decode cX8_toldBy 25 = .ok (.goto 9, 3) := by decide +kernel
theorem dX8_toldBy_28 : decode cX8_toldBy 28 = .ok (.fload 4, 2) := by decide +kernel
theorem dX8_toldBy_30 : decode cX8_toldBy 30 = .ok (.invokestatic 232, 3) := by decide +kernel
theorem dX8_toldBy_33 : decode cX8_toldBy 33 = .ok (.i2l, 1) := by decide +kernel
theorem dX8_toldBy_34 : decode cX8_toldBy 34 = .ok (.lreturn, 1) := by decide +kernel
theorem dX8_toldBy_35 : decode cX8_toldBy 35 = .ok (.iload_n 0, 1) := by decide +kernel
theorem dX8_toldBy_36 : decode cX8_toldBy 36 = .ok (.bipush 8, 2) := by decide +kernel
theorem dX8_toldBy_38 : decode cX8_toldBy 38 = .ok (.if_icmp .ne 13, 3) := by decide +kernel
theorem dX8_toldBy_41 : decode cX8_toldBy 41 = .ok (.lload_n 1, 1) := by decide +kernel
theorem dX8_toldBy_42 : decode cX8_toldBy 42 = .ok (.l2d, 1) := by decide +kernel
theorem dX8_toldBy_43 : decode cX8_toldBy 43 = .ok (.ldc2_w 238, 3) := by decide +kernel
theorem dX8_toldBy_46 : decode cX8_toldBy 46 = .ok (.ddiv, 1) := by decide +kernel
theorem dX8_toldBy_47 : decode cX8_toldBy 47 = .ok (.invokestatic 226, 3) := by decide +kernel
theorem dX8_toldBy_50 : decode cX8_toldBy 50 = .ok (.lreturn, 1) := by decide +kernel
theorem dX8_toldBy_51 : decode cX8_toldBy 51 = .ok (.iload_n 3, 1) := by decide +kernel
theorem dX8_toldBy_52 : decode cX8_toldBy 52 = .ok (.bipush 7, 2) := by decide +kernel
theorem dX8_toldBy_54 : decode cX8_toldBy 54 = .ok (.if_icmp .ne 12, 3) := by decide +kernel
theorem dX8_toldBy_57 : decode cX8_toldBy 57 = .ok (.lload_n 1, 1) := by decide +kernel
theorem dX8_toldBy_58 : decode cX8_toldBy 58 = .ok (.l2f, 1) := by decide +kernel
theorem dX8_toldBy_59 : decode cX8_toldBy 59 = .ok (.invokestatic 232, 3) := by decide +kernel
theorem dX8_toldBy_62 : decode cX8_toldBy 62 = .ok (.i2l, 1) := by decide +kernel
theorem dX8_toldBy_63 : decode cX8_toldBy 63 = .ok (.goto 18, 3) := by decide +kernel
theorem dX8_toldBy_66 : decode cX8_toldBy 66 = .ok (.iload_n 3, 1) := by decide +kernel
theorem dX8_toldBy_67 : decode cX8_toldBy 67 = .ok (.bipush 8, 2) := by decide +kernel
theorem dX8_toldBy_69 : decode cX8_toldBy 69 = .ok (.if_icmp .ne 11, 3) := by decide +kernel
theorem dX8_toldBy_72 : decode cX8_toldBy 72 = .ok (.lload_n 1, 1) := by decide +kernel
theorem dX8_toldBy_73 : decode cX8_toldBy 73 = .ok (.l2d, 1) := by decide +kernel
theorem dX8_toldBy_74 : decode cX8_toldBy 74 = .ok (.invokestatic 226, 3) := by decide +kernel
theorem dX8_toldBy_77 : decode cX8_toldBy 77 = .ok (.goto 4, 3) := by decide +kernel
theorem dX8_toldBy_80 : decode cX8_toldBy 80 = .ok (.lload_n 1, 1) := by decide +kernel
theorem dX8_toldBy_81 : decode cX8_toldBy 81 = .ok (.lreturn, 1) := by decide +kernel
theorem dX8_isPage_0 : decode cX8_isPage 0 = .ok (.aload_n 0, 1) := by decide +kernel
theorem dX8_isPage_1 : decode cX8_isPage 1 = .ok (.iload_n 1, 1) := by decide +kernel
theorem dX8_isPage_2 : decode cX8_isPage 2 = .ok (.invokevirtual 160, 3) := by decide +kernel
theorem dX8_isPage_5 : decode cX8_isPage 5 = .ok (.ifCond .eq 24, 3) := by decide +kernel
theorem dX8_isPage_8 : decode cX8_isPage 8 = .ok (.iload_n 2, 1) := by decide +kernel
theorem dX8_isPage_9 : decode cX8_isPage 9 = .ok (.i2l, 1) := by decide +kernel
theorem dX8_isPage_10 : decode cX8_isPage 10 = .ok (.lconst 0, 1) := by decide +kernel
theorem dX8_isPage_11 : decode cX8_isPage 11 = .ok (.aload_n 0, 1) := by decide +kernel
theorem dX8_isPage_12 : decode cX8_isPage 12 = .ok (.iload_n 1, 1) := by decide +kernel
theorem dX8_isPage_13 : decode cX8_isPage 13 = .ok (.invokevirtual 154, 3) := by decide +kernel
theorem dX8_isPage_16 : decode cX8_isPage 16 = .ok (.iconst 1, 1) := by decide +kernel
theorem dX8_isPage_17 : decode cX8_isPage 17 = .ok (.isub, 1) := by decide +kernel
theorem dX8_isPage_18 : decode cX8_isPage 18 = .ok (.i2l, 1) := by decide +kernel
theorem dX8_isPage_19 : decode cX8_isPage 19 = .ok (.invokestatic 68, 3) := by decide +kernel
theorem dX8_isPage_22 : decode cX8_isPage 22 = .ok (.ifCond .eq 7, 3) := by decide +kernel
theorem dX8_isPage_25 : decode cX8_isPage 25 = .ok (.iconst 1, 1) := by decide +kernel
theorem dX8_isPage_26 : decode cX8_isPage 26 = .ok (.goto 4, 3) := by decide +kernel
theorem dX8_isPage_29 : decode cX8_isPage 29 = .ok (.iconst 0, 1) := by decide +kernel
theorem dX8_isPage_30 : decode cX8_isPage 30 = .ok (.ireturn, 1) := by decide +kernel
theorem dX8_peek_0 : decode cX8_peek 0 = .ok (.aload_n 0, 1) := by decide +kernel
theorem dX8_peek_1 : decode cX8_peek 1 = .ok (.iload_n 1, 1) := by decide +kernel
theorem dX8_peek_2 : decode cX8_peek 2 = .ok (.iload_n 3, 1) := by decide +kernel
theorem dX8_peek_3 : decode cX8_peek 3 = .ok (.invokevirtual 240, 3) := by decide +kernel
theorem dX8_peek_6 : decode cX8_peek 6 = .ok (.ifCond .eq 26, 3) := by decide +kernel
theorem dX8_peek_9 : decode cX8_peek 9 = .ok (.iload_n 2, 1) := by decide +kernel
theorem dX8_peek_10 : decode cX8_peek 10 = .ok (.i2l, 1) := by decide +kernel
theorem dX8_peek_11 : decode cX8_peek 11 = .ok (.lconst 0, 1) := by decide +kernel
theorem dX8_peek_12 : decode cX8_peek 12 = .ok (.lconst 1, 1) := by decide +kernel
theorem dX8_peek_13 : decode cX8_peek 13 = .ok (.invokestatic 68, 3) := by decide +kernel
theorem dX8_peek_16 : decode cX8_peek 16 = .ok (.ifCond .eq 16, 3) := by decide +kernel
theorem dX8_peek_19 : decode cX8_peek 19 = .ok (.iload 5, 2) := by decide +kernel
theorem dX8_peek_21 : decode cX8_peek 21 = .ok (.i2l, 1) := by decide +kernel
theorem dX8_peek_22 : decode cX8_peek 22 = .ok (.lconst 0, 1) := by decide +kernel
theorem dX8_peek_23 : decode cX8_peek 23 = .ok (.ldc2_w 132, 3) := by decide +kernel
theorem dX8_peek_26 : decode cX8_peek 26 = .ok (.invokestatic 68, 3) := by decide +kernel
theorem dX8_peek_29 : decode cX8_peek 29 = .ok (.ifCond .ne 7, 3) := by decide +kernel
theorem dX8_peek_32 : decode cX8_peek 32 = .ok (.ldc2_w 245, 3) := by decide +kernel
theorem dX8_peek_35 : decode cX8_peek 35 = .ok (.lreturn, 1) := by decide +kernel
theorem dX8_peek_36 : decode cX8_peek 36 = .ok (.iload_n 2, 1) := by decide +kernel
theorem dX8_peek_37 : decode cX8_peek 37 = .ok (.ifCond .ne 18, 3) := by decide +kernel
theorem dX8_peek_40 : decode cX8_peek 40 = .ok (.aload_n 0, 1) := by decide +kernel
theorem dX8_peek_41 : decode cX8_peek 41 = .ok (.getfield 24, 3) := by decide +kernel
theorem dX8_peek_44 : decode cX8_peek 44 = .ok (.sipush 272, 3) := by decide +kernel
theorem dX8_peek_47 : decode cX8_peek 47 = .ok (.iload_n 1, 1) := by decide +kernel
theorem dX8_peek_48 : decode cX8_peek 48 = .ok (.imul, 1) := by decide +kernel
theorem dX8_peek_49 : decode cX8_peek 49 = .ok (.iload_n 3, 1) := by decide +kernel
theorem dX8_peek_50 : decode cX8_peek 50 = .ok (.iadd, 1) := by decide +kernel
theorem dX8_peek_51 : decode cX8_peek 51 = .ok (.baload, 1) := by decide +kernel
theorem dX8_peek_52 : decode cX8_peek 52 = .ok (.goto 15, 3) := by decide +kernel
theorem dX8_peek_55 : decode cX8_peek 55 = .ok (.aload_n 0, 1) := by decide +kernel
theorem dX8_peek_56 : decode cX8_peek 56 = .ok (.getfield 27, 3) := by decide +kernel
theorem dX8_peek_59 : decode cX8_peek 59 = .ok (.sipush 272, 3) := by decide +kernel
theorem dX8_peek_62 : decode cX8_peek 62 = .ok (.iload_n 1, 1) := by decide +kernel
theorem dX8_peek_63 : decode cX8_peek 63 = .ok (.imul, 1) := by decide +kernel
theorem dX8_peek_64 : decode cX8_peek 64 = .ok (.iload_n 3, 1) := by decide +kernel
theorem dX8_peek_65 : decode cX8_peek 65 = .ok (.iadd, 1) := by decide +kernel
theorem dX8_peek_66 : decode cX8_peek 66 = .ok (.baload, 1) := by decide +kernel
theorem dX8_peek_67 : decode cX8_peek 67 = .ok (.istore 6, 2) := by decide +kernel
theorem dX8_peek_69 : decode cX8_peek 69 = .ok (.iload 6, 2) := by decide +kernel
theorem dX8_peek_71 : decode cX8_peek 71 = .ok (.ifCond .ne 7, 3) := by decide +kernel
theorem dX8_peek_74 : decode cX8_peek 74 = .ok (.ldc2_w 247, 3) := by decide +kernel
theorem dX8_peek_77 : decode cX8_peek 77 = .ok (.lreturn, 1) := by decide +kernel
theorem dX8_peek_78 : decode cX8_peek 78 = .ok (.iload 4, 2) := by decide +kernel
theorem dX8_peek_80 : decode cX8_peek 80 = .ok (.i2l, 1) := by decide +kernel
theorem dX8_peek_81 : decode cX8_peek 81 = .ok (.lconst 0, 1) := by decide +kernel
theorem dX8_peek_82 : decode cX8_peek 82 = .ok (.ldc2_w 249, 3) := by decide +kernel
theorem dX8_peek_85 : decode cX8_peek 85 = .ok (.invokestatic 68, 3) := by decide +kernel
theorem dX8_peek_88 : decode cX8_peek 88 = .ok (.ifCond .ne 7, 3) := by decide +kernel
theorem dX8_peek_91 : decode cX8_peek 91 = .ok (.ldc2_w 186, 3) := by decide +kernel
theorem dX8_peek_94 : decode cX8_peek 94 = .ok (.lreturn, 1) := by decide +kernel
theorem dX8_peek_95 : decode cX8_peek 95 = .ok (.sipush 4352, 3) := by decide +kernel
theorem dX8_peek_98 : decode cX8_peek 98 = .ok (.iload_n 1, 1) := by decide +kernel
theorem dX8_peek_99 : decode cX8_peek 99 = .ok (.imul, 1) := by decide +kernel
theorem dX8_peek_100 : decode cX8_peek 100 = .ok (.bipush 16, 2) := by decide +kernel
theorem dX8_peek_102 : decode cX8_peek 102 = .ok (.iload_n 3, 1) := by decide +kernel
theorem dX8_peek_103 : decode cX8_peek 103 = .ok (.imul, 1) := by decide +kernel
theorem dX8_peek_104 : decode cX8_peek 104 = .ok (.iadd, 1) := by decide +kernel
theorem dX8_peek_105 : decode cX8_peek 105 = .ok (.iload 4, 2) := by decide +kernel
theorem dX8_peek_107 : decode cX8_peek 107 = .ok (.iadd, 1) := by decide +kernel
theorem dX8_peek_108 : decode cX8_peek 108 = .ok (.istore 7, 2) := by decide +kernel
theorem dX8_peek_110 : decode cX8_peek 110 = .ok (.iload_n 2, 1) := by decide +kernel
theorem dX8_peek_111 : decode cX8_peek 111 = .ok (.iconst 1, 1) := by decide +kernel
theorem dX8_peek_112 : decode cX8_peek 112 = .ok (.if_icmp .ne 25, 3) := by decide +kernel
theorem dX8_peek_115 : decode cX8_peek 115 = .ok (.iload 5, 2) := by decide +kernel
theorem dX8_peek_117 : decode cX8_peek 117 = .ok (.ifCond .ne 16, 3) := by decide +kernel
theorem dX8_peek_120 : decode cX8_peek 120 = .ok (.aload_n 0, 1) := by decide +kernel
theorem dX8_peek_121 : decode cX8_peek 121 = .ok (.getfield 30, 3) := by decide +kernel
theorem dX8_peek_124 : decode cX8_peek 124 = .ok (.iload 7, 2) := by decide +kernel
theorem dX8_peek_126 : decode cX8_peek 126 = .ok (.baload, 1) := by decide +kernel
theorem dX8_peek_127 : decode cX8_peek 127 = .ok (.iconst 1, 1) := by decide +kernel
theorem dX8_peek_128 : decode cX8_peek 128 = .ok (.isub, 1) := by decide +kernel
theorem dX8_peek_129 : decode cX8_peek 129 = .ok (.i2l, 1) := by decide +kernel
theorem dX8_peek_130 : decode cX8_peek 130 = .ok (.goto 6, 3) := by decide +kernel
theorem dX8_peek_133 : decode cX8_peek 133 = .ok (.ldc2_w 251, 3) := by decide +kernel
theorem dX8_peek_136 : decode cX8_peek 136 = .ok (.lreturn, 1) := by decide +kernel
theorem dX8_peek_137 : decode cX8_peek 137 = .ok (.iload 6, 2) := by decide +kernel
theorem dX8_peek_139 : decode cX8_peek 139 = .ok (.bipush 8, 2) := by decide +kernel
theorem dX8_peek_141 : decode cX8_peek 141 = .ok (.if_icmp .gt 13, 3) := by decide +kernel
theorem dX8_peek_144 : decode cX8_peek 144 = .ok (.iload 6, 2) := by decide +kernel
theorem dX8_peek_146 : decode cX8_peek 146 = .ok (.iload 5, 2) := by decide +kernel
theorem dX8_peek_148 : decode cX8_peek 148 = .ok (.invokestatic 253, 3) := by decide +kernel
theorem dX8_peek_151 : decode cX8_peek 151 = .ok (.ifCond .ne 7, 3) := by decide +kernel
theorem dX8_peek_154 : decode cX8_peek 154 = .ok (.ldc2_w 251, 3) := by decide +kernel
theorem dX8_peek_157 : decode cX8_peek 157 = .ok (.lreturn, 1) := by decide +kernel
theorem dX8_peek_158 : decode cX8_peek 158 = .ok (.iload 6, 2) := by decide +kernel
theorem dX8_peek_160 : decode cX8_peek 160 = .ok (.aload_n 0, 1) := by decide +kernel
theorem dX8_peek_161 : decode cX8_peek 161 = .ok (.getfield 21, 3) := by decide +kernel
theorem dX8_peek_164 : decode cX8_peek 164 = .ok (.iload 7, 2) := by decide +kernel
theorem dX8_peek_166 : decode cX8_peek 166 = .ok (.laload, 1) := by decide +kernel
theorem dX8_peek_167 : decode cX8_peek 167 = .ok (.iload 5, 2) := by decide +kernel
theorem dX8_peek_169 : decode cX8_peek 169 = .ok (.invokestatic 256, 3) := by decide +kernel
theorem dX8_peek_172 : decode cX8_peek 172 = .ok (.lreturn, 1) := by decide +kernel
theorem dX8_takes_0 : decode cX8_takes 0 = .ok (.iload_n 0, 1) := by decide +kernel
theorem dX8_takes_1 : decode cX8_takes 1 = .ok (.tableswitch 163 1 8 #[47, 58, 69, 85, 96, 112, 129, 146], 47) := by decide +kernel
theorem dX8_takes_48 : decode cX8_takes 48 = .ok (.iload_n 1, 1) := by decide +kernel
theorem dX8_takes_49 : decode cX8_takes 49 = .ok (.iconst 1, 1) := by decide +kernel
theorem dX8_takes_50 : decode cX8_takes 50 = .ok (.if_icmp .ne 7, 3) := by decide +kernel
theorem dX8_takes_53 : decode cX8_takes 53 = .ok (.iconst 1, 1) := by decide +kernel
theorem dX8_takes_54 : decode cX8_takes 54 = .ok (.goto 4, 3) := by decide +kernel
theorem dX8_takes_57 : decode cX8_takes 57 = .ok (.iconst 0, 1) := by decide +kernel
theorem dX8_takes_58 : decode cX8_takes 58 = .ok (.ireturn, 1) := by decide +kernel
theorem dX8_takes_59 : decode cX8_takes 59 = .ok (.iload_n 1, 1) := by decide +kernel
theorem dX8_takes_60 : decode cX8_takes 60 = .ok (.iconst 2, 1) := by decide +kernel
theorem dX8_takes_61 : decode cX8_takes 61 = .ok (.if_icmp .ne 7, 3) := by decide +kernel
theorem dX8_takes_64 : decode cX8_takes 64 = .ok (.iconst 1, 1) := by decide +kernel
theorem dX8_takes_65 : decode cX8_takes 65 = .ok (.goto 4, 3) := by decide +kernel
theorem dX8_takes_68 : decode cX8_takes 68 = .ok (.iconst 0, 1) := by decide +kernel
theorem dX8_takes_69 : decode cX8_takes 69 = .ok (.ireturn, 1) := by decide +kernel
theorem dX8_takes_70 : decode cX8_takes 70 = .ok (.iload_n 1, 1) := by decide +kernel
theorem dX8_takes_71 : decode cX8_takes 71 = .ok (.iconst 2, 1) := by decide +kernel
theorem dX8_takes_72 : decode cX8_takes 72 = .ok (.if_icmp .eq 8, 3) := by decide +kernel
theorem dX8_takes_75 : decode cX8_takes 75 = .ok (.iload_n 1, 1) := by decide +kernel
theorem dX8_takes_76 : decode cX8_takes 76 = .ok (.iconst 3, 1) := by decide +kernel
theorem dX8_takes_77 : decode cX8_takes 77 = .ok (.if_icmp .ne 7, 3) := by decide +kernel
theorem dX8_takes_80 : decode cX8_takes 80 = .ok (.iconst 1, 1) := by decide +kernel
theorem dX8_takes_81 : decode cX8_takes 81 = .ok (.goto 4, 3) := by decide +kernel
theorem dX8_takes_84 : decode cX8_takes 84 = .ok (.iconst 0, 1) := by decide +kernel
theorem dX8_takes_85 : decode cX8_takes 85 = .ok (.ireturn, 1) := by decide +kernel
theorem dX8_takes_86 : decode cX8_takes 86 = .ok (.iload_n 1, 1) := by decide +kernel
theorem dX8_takes_87 : decode cX8_takes 87 = .ok (.iconst 4, 1) := by decide +kernel
theorem dX8_takes_88 : decode cX8_takes 88 = .ok (.if_icmp .ne 7, 3) := by decide +kernel
theorem dX8_takes_91 : decode cX8_takes 91 = .ok (.iconst 1, 1) := by decide +kernel
theorem dX8_takes_92 : decode cX8_takes 92 = .ok (.goto 4, 3) := by decide +kernel
theorem dX8_takes_95 : decode cX8_takes 95 = .ok (.iconst 0, 1) := by decide +kernel
theorem dX8_takes_96 : decode cX8_takes 96 = .ok (.ireturn, 1) := by decide +kernel
theorem dX8_takes_97 : decode cX8_takes 97 = .ok (.iload_n 1, 1) := by decide +kernel
theorem dX8_takes_98 : decode cX8_takes 98 = .ok (.iconst 2, 1) := by decide +kernel
theorem dX8_takes_99 : decode cX8_takes 99 = .ok (.if_icmp .lt 12, 3) := by decide +kernel
theorem dX8_takes_102 : decode cX8_takes 102 = .ok (.iload_n 1, 1) := by decide +kernel
theorem dX8_takes_103 : decode cX8_takes 103 = .ok (.iconst 5, 1) := by decide +kernel
theorem dX8_takes_104 : decode cX8_takes 104 = .ok (.if_icmp .gt 7, 3) := by decide +kernel
theorem dX8_takes_107 : decode cX8_takes 107 = .ok (.iconst 1, 1) := by decide +kernel
theorem dX8_takes_108 : decode cX8_takes 108 = .ok (.goto 4, 3) := by decide +kernel
theorem dX8_takes_111 : decode cX8_takes 111 = .ok (.iconst 0, 1) := by decide +kernel
theorem dX8_takes_112 : decode cX8_takes 112 = .ok (.ireturn, 1) := by decide +kernel
theorem dX8_takes_113 : decode cX8_takes 113 = .ok (.iload_n 1, 1) := by decide +kernel
theorem dX8_takes_114 : decode cX8_takes 114 = .ok (.iconst 2, 1) := by decide +kernel
theorem dX8_takes_115 : decode cX8_takes 115 = .ok (.if_icmp .lt 13, 3) := by decide +kernel
theorem dX8_takes_118 : decode cX8_takes 118 = .ok (.iload_n 1, 1) := by decide +kernel
theorem dX8_takes_119 : decode cX8_takes 119 = .ok (.bipush 6, 2) := by decide +kernel
theorem dX8_takes_121 : decode cX8_takes 121 = .ok (.if_icmp .gt 7, 3) := by decide +kernel
theorem dX8_takes_124 : decode cX8_takes 124 = .ok (.iconst 1, 1) := by decide +kernel
theorem dX8_takes_125 : decode cX8_takes 125 = .ok (.goto 4, 3) := by decide +kernel
theorem dX8_takes_128 : decode cX8_takes 128 = .ok (.iconst 0, 1) := by decide +kernel
theorem dX8_takes_129 : decode cX8_takes 129 = .ok (.ireturn, 1) := by decide +kernel
theorem dX8_takes_130 : decode cX8_takes 130 = .ok (.iload_n 1, 1) := by decide +kernel
theorem dX8_takes_131 : decode cX8_takes 131 = .ok (.iconst 2, 1) := by decide +kernel
theorem dX8_takes_132 : decode cX8_takes 132 = .ok (.if_icmp .lt 13, 3) := by decide +kernel
theorem dX8_takes_135 : decode cX8_takes 135 = .ok (.iload_n 1, 1) := by decide +kernel
theorem dX8_takes_136 : decode cX8_takes 136 = .ok (.bipush 7, 2) := by decide +kernel
theorem dX8_takes_138 : decode cX8_takes 138 = .ok (.if_icmp .gt 7, 3) := by decide +kernel
theorem dX8_takes_141 : decode cX8_takes 141 = .ok (.iconst 1, 1) := by decide +kernel
theorem dX8_takes_142 : decode cX8_takes 142 = .ok (.goto 4, 3) := by decide +kernel
theorem dX8_takes_145 : decode cX8_takes 145 = .ok (.iconst 0, 1) := by decide +kernel
theorem dX8_takes_146 : decode cX8_takes 146 = .ok (.ireturn, 1) := by decide +kernel
theorem dX8_takes_147 : decode cX8_takes 147 = .ok (.iload_n 1, 1) := by decide +kernel
theorem dX8_takes_148 : decode cX8_takes 148 = .ok (.iconst 2, 1) := by decide +kernel
theorem dX8_takes_149 : decode cX8_takes 149 = .ok (.if_icmp .lt 13, 3) := by decide +kernel
theorem dX8_takes_152 : decode cX8_takes 152 = .ok (.iload_n 1, 1) := by decide +kernel
theorem dX8_takes_153 : decode cX8_takes 153 = .ok (.bipush 8, 2) := by decide +kernel
theorem dX8_takes_155 : decode cX8_takes 155 = .ok (.if_icmp .gt 7, 3) := by decide +kernel
theorem dX8_takes_158 : decode cX8_takes 158 = .ok (.iconst 1, 1) := by decide +kernel
theorem dX8_takes_159 : decode cX8_takes 159 = .ok (.goto 4, 3) := by decide +kernel
theorem dX8_takes_162 : decode cX8_takes 162 = .ok (.iconst 0, 1) := by decide +kernel
theorem dX8_takes_163 : decode cX8_takes 163 = .ok (.ireturn, 1) := by decide +kernel
theorem dX8_takes_164 : decode cX8_takes 164 = .ok (.iconst 0, 1) := by decide +kernel
theorem dX8_takes_165 : decode cX8_takes 165 = .ok (.ireturn, 1) := by decide +kernel
theorem dX8_isHow_0 : decode cX8_isHow 0 = .ok (.iload_n 0, 1) := by decide +kernel
theorem dX8_isHow_1 : decode cX8_isHow 1 = .ok (.i2l, 1) := by decide +kernel
theorem dX8_isHow_2 : decode cX8_isHow 2 = .ok (.lconst 1, 1) := by decide +kernel
theorem dX8_isHow_3 : decode cX8_isHow 3 = .ok (.ldc2_w 132, 3) := by decide +kernel
theorem dX8_isHow_6 : decode cX8_isHow 6 = .ok (.invokestatic 68, 3) := by decide +kernel
theorem dX8_isHow_9 : decode cX8_isHow 9 = .ok (.ifCond .ne 17, 3) := by decide +kernel
theorem dX8_isHow_12 : decode cX8_isHow 12 = .ok (.iload_n 0, 1) := by decide +kernel
theorem dX8_isHow_13 : decode cX8_isHow 13 = .ok (.i2l, 1) := by decide +kernel
theorem dX8_isHow_14 : decode cX8_isHow 14 = .ok (.ldc2_w 260, 3) := by decide +kernel
theorem dX8_isHow_17 : decode cX8_isHow 17 = .ok (.ldc2_w 262, 3) := by decide +kernel
theorem dX8_isHow_20 : decode cX8_isHow 20 = .ok (.invokestatic 68, 3) := by decide +kernel
theorem dX8_isHow_23 : decode cX8_isHow 23 = .ok (.ifCond .eq 7, 3) := by decide +kernel
theorem dX8_isHow_26 : decode cX8_isHow 26 = .ok (.iconst 1, 1) := by decide +kernel
theorem dX8_isHow_27 : decode cX8_isHow 27 = .ok (.goto 4, 3) := by decide +kernel
theorem dX8_isHow_30 : decode cX8_isHow 30 = .ok (.iconst 0, 1) := by decide +kernel
theorem dX8_isHow_31 : decode cX8_isHow 31 = .ok (.ireturn, 1) := by decide +kernel
theorem dX8_poke_0 : decode cX8_poke 0 = .ok (.aload_n 0, 1) := by decide +kernel
theorem dX8_poke_1 : decode cX8_poke 1 = .ok (.iload_n 1, 1) := by decide +kernel
theorem dX8_poke_2 : decode cX8_poke 2 = .ok (.iload_n 3, 1) := by decide +kernel
theorem dX8_poke_3 : decode cX8_poke 3 = .ok (.invokevirtual 240, 3) := by decide +kernel
theorem dX8_poke_6 : decode cX8_poke 6 = .ok (.ifCond .eq 34, 3) := by decide +kernel
theorem dX8_poke_9 : decode cX8_poke 9 = .ok (.iload_n 2, 1) := by decide +kernel
theorem dX8_poke_10 : decode cX8_poke 10 = .ok (.i2l, 1) := by decide +kernel
theorem dX8_poke_11 : decode cX8_poke 11 = .ok (.lconst 0, 1) := by decide +kernel
theorem dX8_poke_12 : decode cX8_poke 12 = .ok (.lconst 1, 1) := by decide +kernel
theorem dX8_poke_13 : decode cX8_poke 13 = .ok (.invokestatic 68, 3) := by decide +kernel
theorem dX8_poke_16 : decode cX8_poke 16 = .ok (.ifCond .eq 24, 3) := by decide +kernel
theorem dX8_poke_19 : decode cX8_poke 19 = .ok (.iload 5, 2) := by decide +kernel
theorem dX8_poke_21 : decode cX8_poke 21 = .ok (.invokestatic 264, 3) := by decide +kernel
theorem dX8_poke_24 : decode cX8_poke 24 = .ok (.ifCond .eq 16, 3) := by decide +kernel
theorem dX8_poke_27 : decode cX8_poke 27 = .ok (.iload 6, 2) := by decide +kernel
theorem dX8_poke_29 : decode cX8_poke 29 = .ok (.i2l, 1) := by decide +kernel
theorem dX8_poke_30 : decode cX8_poke 30 = .ok (.lconst 0, 1) := by decide +kernel
theorem dX8_poke_31 : decode cX8_poke 31 = .ok (.ldc2_w 267, 3) := by decide +kernel
theorem dX8_poke_34 : decode cX8_poke 34 = .ok (.invokestatic 68, 3) := by decide +kernel
theorem dX8_poke_37 : decode cX8_poke 37 = .ok (.ifCond .ne 5, 3) := by decide +kernel
theorem dX8_poke_40 : decode cX8_poke 40 = .ok (.iconst (-1), 1) := by decide +kernel
theorem dX8_poke_41 : decode cX8_poke 41 = .ok (.ireturn, 1) := by decide +kernel
theorem dX8_poke_42 : decode cX8_poke 42 = .ok (.iload_n 2, 1) := by decide +kernel
theorem dX8_poke_43 : decode cX8_poke 43 = .ok (.ifCond .ne 18, 3) := by decide +kernel
theorem dX8_poke_46 : decode cX8_poke 46 = .ok (.aload_n 0, 1) := by decide +kernel
theorem dX8_poke_47 : decode cX8_poke 47 = .ok (.getfield 24, 3) := by decide +kernel
theorem dX8_poke_50 : decode cX8_poke 50 = .ok (.sipush 272, 3) := by decide +kernel
theorem dX8_poke_53 : decode cX8_poke 53 = .ok (.iload_n 1, 1) := by decide +kernel
theorem dX8_poke_54 : decode cX8_poke 54 = .ok (.imul, 1) := by decide +kernel
theorem dX8_poke_55 : decode cX8_poke 55 = .ok (.iload_n 3, 1) := by decide +kernel
theorem dX8_poke_56 : decode cX8_poke 56 = .ok (.iadd, 1) := by decide +kernel
theorem dX8_poke_57 : decode cX8_poke 57 = .ok (.baload, 1) := by decide +kernel
theorem dX8_poke_58 : decode cX8_poke 58 = .ok (.goto 15, 3) := by decide +kernel
theorem dX8_poke_61 : decode cX8_poke 61 = .ok (.aload_n 0, 1) := by decide +kernel
theorem dX8_poke_62 : decode cX8_poke 62 = .ok (.getfield 27, 3) := by decide +kernel
theorem dX8_poke_65 : decode cX8_poke 65 = .ok (.sipush 272, 3) := by decide +kernel
theorem dX8_poke_68 : decode cX8_poke 68 = .ok (.iload_n 1, 1) := by decide +kernel
theorem dX8_poke_69 : decode cX8_poke 69 = .ok (.imul, 1) := by decide +kernel
theorem dX8_poke_70 : decode cX8_poke 70 = .ok (.iload_n 3, 1) := by decide +kernel
theorem dX8_poke_71 : decode cX8_poke 71 = .ok (.iadd, 1) := by decide +kernel
theorem dX8_poke_72 : decode cX8_poke 72 = .ok (.baload, 1) := by decide +kernel
theorem dX8_poke_73 : decode cX8_poke 73 = .ok (.istore 7, 2) := by decide +kernel
theorem dX8_poke_75 : decode cX8_poke 75 = .ok (.iload 7, 2) := by decide +kernel
theorem dX8_poke_77 : decode cX8_poke 77 = .ok (.ifCond .ne 6, 3) := by decide +kernel
theorem dX8_poke_80 : decode cX8_poke 80 = .ok (.bipush (-4), 2) := by decide +kernel
theorem dX8_poke_82 : decode cX8_poke 82 = .ok (.ireturn, 1) := by decide +kernel
theorem dX8_poke_83 : decode cX8_poke 83 = .ok (.iload 4, 2) := by decide +kernel
theorem dX8_poke_85 : decode cX8_poke 85 = .ok (.i2l, 1) := by decide +kernel
theorem dX8_poke_86 : decode cX8_poke 86 = .ok (.lconst 0, 1) := by decide +kernel
theorem dX8_poke_87 : decode cX8_poke 87 = .ok (.ldc2_w 249, 3) := by decide +kernel
theorem dX8_poke_90 : decode cX8_poke 90 = .ok (.invokestatic 68, 3) := by decide +kernel
theorem dX8_poke_93 : decode cX8_poke 93 = .ok (.ifCond .ne 6, 3) := by decide +kernel
theorem dX8_poke_96 : decode cX8_poke 96 = .ok (.bipush (-2), 2) := by decide +kernel
theorem dX8_poke_98 : decode cX8_poke 98 = .ok (.ireturn, 1) := by decide +kernel
theorem dX8_poke_99 : decode cX8_poke 99 = .ok (.iload_n 2, 1) := by decide +kernel
theorem dX8_poke_100 : decode cX8_poke 100 = .ok (.iconst 1, 1) := by decide +kernel
theorem dX8_poke_101 : decode cX8_poke 101 = .ok (.if_icmp .ne 28, 3) := by decide +kernel
theorem dX8_poke_104 : decode cX8_poke 104 = .ok (.iload 5, 2) := by decide +kernel
theorem dX8_poke_106 : decode cX8_poke 106 = .ok (.bipush 19, 2) := by decide +kernel
theorem dX8_poke_108 : decode cX8_poke 108 = .ok (.if_icmp .eq 13, 3) := by decide +kernel
theorem dX8_poke_111 : decode cX8_poke 111 = .ok (.iload 5, 2) := by decide +kernel
theorem dX8_poke_113 : decode cX8_poke 113 = .ok (.bipush 19, 2) := by decide +kernel
theorem dX8_poke_115 : decode cX8_poke 115 = .ok (.iload 7, 2) := by decide +kernel
theorem dX8_poke_117 : decode cX8_poke 117 = .ok (.iadd, 1) := by decide +kernel
theorem dX8_poke_118 : decode cX8_poke 118 = .ok (.if_icmp .ne 7, 3) := by decide +kernel
theorem dX8_poke_121 : decode cX8_poke 121 = .ok (.iconst 1, 1) := by decide +kernel
theorem dX8_poke_122 : decode cX8_poke 122 = .ok (.goto 32, 3) := by decide +kernel
theorem dX8_poke_125 : decode cX8_poke 125 = .ok (.iconst 0, 1) := by decide +kernel
theorem dX8_poke_126 : decode cX8_poke 126 = .ok (.goto 28, 3) := by decide +kernel
theorem dX8_poke_129 : decode cX8_poke 129 = .ok (.iload 5, 2) := by decide +kernel
theorem dX8_poke_131 : decode cX8_poke 131 = .ok (.bipush 19, 2) := by decide +kernel
theorem dX8_poke_133 : decode cX8_poke 133 = .ok (.if_icmp .ge 20, 3) := by decide +kernel
theorem dX8_poke_136 : decode cX8_poke 136 = .ok (.iload 7, 2) := by decide +kernel
theorem dX8_poke_138 : decode cX8_poke 138 = .ok (.iload 5, 2) := by decide +kernel
theorem dX8_poke_140 : decode cX8_poke 140 = .ok (.bipush 10, 2) := by decide +kernel
theorem dX8_poke_142 : decode cX8_poke 142 = .ok (.irem, 1) := by decide +kernel
theorem dX8_poke_143 : decode cX8_poke 143 = .ok (.invokestatic 269, 3) := by decide +kernel
theorem dX8_poke_146 : decode cX8_poke 146 = .ok (.ifCond .eq 7, 3) := by decide +kernel
theorem dX8_poke_149 : decode cX8_poke 149 = .ok (.iconst 1, 1) := by decide +kernel
theorem dX8_poke_150 : decode cX8_poke 150 = .ok (.goto 4, 3) := by decide +kernel
theorem dX8_poke_153 : decode cX8_poke 153 = .ok (.iconst 0, 1) := by decide +kernel
theorem dX8_poke_154 : decode cX8_poke 154 = .ok (.istore 8, 2) := by decide +kernel
theorem dX8_poke_156 : decode cX8_poke 156 = .ok (.iload 8, 2) := by decide +kernel
theorem dX8_poke_158 : decode cX8_poke 158 = .ok (.ifCond .ne 6, 3) := by decide +kernel
theorem dX8_poke_161 : decode cX8_poke 161 = .ok (.bipush (-3), 2) := by decide +kernel
theorem dX8_poke_163 : decode cX8_poke 163 = .ok (.ireturn, 1) := by decide +kernel
theorem dX8_poke_164 : decode cX8_poke 164 = .ok (.aload_n 0, 1) := by decide +kernel
theorem dX8_poke_165 : decode cX8_poke 165 = .ok (.invokevirtual 115, 3) := by decide +kernel
theorem dX8_poke_168 : decode cX8_poke 168 = .ok (.sipush 4352, 3) := by decide +kernel
theorem dX8_poke_171 : decode cX8_poke 171 = .ok (.iload_n 1, 1) := by decide +kernel
theorem dX8_poke_172 : decode cX8_poke 172 = .ok (.imul, 1) := by decide +kernel
theorem dX8_poke_173 : decode cX8_poke 173 = .ok (.bipush 16, 2) := by decide +kernel
theorem dX8_poke_175 : decode cX8_poke 175 = .ok (.iload_n 3, 1) := by decide +kernel
theorem dX8_poke_176 : decode cX8_poke 176 = .ok (.imul, 1) := by decide +kernel
theorem dX8_poke_177 : decode cX8_poke 177 = .ok (.iadd, 1) := by decide +kernel
theorem dX8_poke_178 : decode cX8_poke 178 = .ok (.iload 4, 2) := by decide +kernel
theorem dX8_poke_180 : decode cX8_poke 180 = .ok (.iadd, 1) := by decide +kernel
theorem dX8_poke_181 : decode cX8_poke 181 = .ok (.istore 9, 2) := by decide +kernel
theorem dX8_poke_183 : decode cX8_poke 183 = .ok (.iload_n 2, 1) := by decide +kernel
theorem dX8_poke_184 : decode cX8_poke 184 = .ok (.iconst 1, 1) := by decide +kernel
theorem dX8_poke_185 : decode cX8_poke 185 = .ok (.if_icmp .ne 29, 3) := by decide +kernel
theorem dX8_poke_188 : decode cX8_poke 188 = .ok (.aload_n 0, 1) := by decide +kernel
theorem dX8_poke_189 : decode cX8_poke 189 = .ok (.getfield 30, 3) := by decide +kernel
theorem dX8_poke_192 : decode cX8_poke 192 = .ok (.iload 9, 2) := by decide +kernel
theorem dX8_poke_194 : decode cX8_poke 194 = .ok (.iload 5, 2) := by decide +kernel
theorem dX8_poke_196 : decode cX8_poke 196 = .ok (.bipush 19, 2) := by decide +kernel
theorem dX8_poke_198 : decode cX8_poke 198 = .ok (.if_icmp .ne 7, 3) := by decide +kernel
theorem dX8_poke_201 : decode cX8_poke 201 = .ok (.iconst 0, 1) := by decide +kernel
theorem dX8_poke_202 : decode cX8_poke 202 = .ok (.goto 7, 3) := by decide +kernel
theorem dX8_poke_205 : decode cX8_poke 205 = .ok (.iload 6, 2) := by decide +kernel
theorem dX8_poke_207 : decode cX8_poke 207 = .ok (.iconst 1, 1) := by decide +kernel
theorem dX8_poke_208 : decode cX8_poke 208 = .ok (.iadd, 1) := by decide +kernel
theorem dX8_poke_209 : decode cX8_poke 209 = .ok (.i2b, 1) := by decide +kernel
theorem dX8_poke_210 : decode cX8_poke 210 = .ok (.bastore, 1) := by decide +kernel
theorem dX8_poke_211 : decode cX8_poke 211 = .ok (.goto 49, 3) := by decide +kernel
theorem dX8_poke_214 : decode cX8_poke 214 = .ok (.aload_n 0, 1) := by decide +kernel
theorem dX8_poke_215 : decode cX8_poke 215 = .ok (.getfield 21, 3) := by decide +kernel
theorem dX8_poke_218 : decode cX8_poke 218 = .ok (.iload 9, 2) := by decide +kernel
theorem dX8_poke_220 : decode cX8_poke 220 = .ok (.iload 7, 2) := by decide +kernel
theorem dX8_poke_222 : decode cX8_poke 222 = .ok (.iconst 1, 1) := by decide +kernel
theorem dX8_poke_223 : decode cX8_poke 223 = .ok (.if_icmp .ne 16, 3) := by decide +kernel
theorem dX8_poke_226 : decode cX8_poke 226 = .ok (.iload 6, 2) := by decide +kernel
theorem dX8_poke_228 : decode cX8_poke 228 = .ok (.ifCond .le 7, 3) := by decide +kernel
theorem dX8_poke_231 : decode cX8_poke 231 = .ok (.lconst 1, 1) := by decide +kernel
theorem dX8_poke_232 : decode cX8_poke 232 = .ok (.goto 27, 3) := by decide +kernel
theorem dX8_poke_235 : decode cX8_poke 235 = .ok (.lconst 0, 1) := by decide +kernel
theorem dX8_poke_236 : decode cX8_poke 236 = .ok (.goto 23, 3) := by decide +kernel
theorem dX8_poke_239 : decode cX8_poke 239 = .ok (.iload 7, 2) := by decide +kernel
theorem dX8_poke_241 : decode cX8_poke 241 = .ok (.bipush 6, 2) := by decide +kernel
theorem dX8_poke_243 : decode cX8_poke 243 = .ok (.if_icmp .le 13, 3) := by decide +kernel
theorem dX8_poke_246 : decode cX8_poke 246 = .ok (.ldc2_w 272, 3) := by decide +kernel
theorem dX8_poke_249 : decode cX8_poke 249 = .ok (.iload 6, 2) := by decide +kernel
theorem dX8_poke_251 : decode cX8_poke 251 = .ok (.i2l, 1) := by decide +kernel
theorem dX8_poke_252 : decode cX8_poke 252 = .ok (.lmul, 1) := by decide +kernel
theorem dX8_poke_253 : decode cX8_poke 253 = .ok (.goto 6, 3) := by decide +kernel
theorem dX8_poke_256 : decode cX8_poke 256 = .ok (.iload 6, 2) := by decide +kernel
theorem dX8_poke_258 : decode cX8_poke 258 = .ok (.i2l, 1) := by decide +kernel
theorem dX8_poke_259 : decode cX8_poke 259 = .ok (.lastore, 1) := by decide +kernel
theorem dX8_poke_260 : decode cX8_poke 260 = .ok (.iconst 0, 1) := by decide +kernel
theorem dX8_poke_261 : decode cX8_poke 261 = .ok (.ireturn, 1) := by decide +kernel
theorem dX8_example_0 : decode cX8_example 0 = .ok (.aload_n 0, 1) := by decide +kernel
theorem dX8_example_1 : decode cX8_example 1 = .ok (.iload_n 1, 1) := by decide +kernel
theorem dX8_example_2 : decode cX8_example 2 = .ok (.invokevirtual 160, 3) := by decide +kernel
theorem dX8_example_5 : decode cX8_example 5 = .ok (.ifCond .eq 30, 3) := by decide +kernel
theorem dX8_example_8 : decode cX8_example 8 = .ok (.lload_n 2, 1) := by decide +kernel
theorem dX8_example_9 : decode cX8_example 9 = .ok (.lconst 0, 1) := by decide +kernel
theorem dX8_example_10 : decode cX8_example 10 = .ok (.aload_n 0, 1) := by decide +kernel
theorem dX8_example_11 : decode cX8_example 11 = .ok (.getfield 17, 3) := by decide +kernel
theorem dX8_example_14 : decode cX8_example 14 = .ok (.iload_n 1, 1) := by decide +kernel
theorem dX8_example_15 : decode cX8_example 15 = .ok (.laload, 1) := by decide +kernel
theorem dX8_example_16 : decode cX8_example 16 = .ok (.invokestatic 68, 3) := by decide +kernel
theorem dX8_example_19 : decode cX8_example 19 = .ok (.ifCond .eq 16, 3) := by decide +kernel
theorem dX8_example_22 : decode cX8_example 22 = .ok (.iload 5, 2) := by decide +kernel
theorem dX8_example_24 : decode cX8_example 24 = .ok (.i2l, 1) := by decide +kernel
theorem dX8_example_25 : decode cX8_example 25 = .ok (.lconst 0, 1) := by decide +kernel
theorem dX8_example_26 : decode cX8_example 26 = .ok (.ldc2_w 267, 3) := by decide +kernel
theorem dX8_example_29 : decode cX8_example 29 = .ok (.invokestatic 68, 3) := by decide +kernel
theorem dX8_example_32 : decode cX8_example 32 = .ok (.ifCond .ne 5, 3) := by decide +kernel
theorem dX8_example_35 : decode cX8_example 35 = .ok (.iconst (-1), 1) := by decide +kernel
theorem dX8_example_36 : decode cX8_example 36 = .ok (.ireturn, 1) := by decide +kernel
theorem dX8_example_37 : decode cX8_example 37 = .ok (.aload_n 0, 1) := by decide +kernel
theorem dX8_example_38 : decode cX8_example 38 = .ok (.iload_n 1, 1) := by decide +kernel
theorem dX8_example_39 : decode cX8_example 39 = .ok (.iconst 1, 1) := by decide +kernel
theorem dX8_example_40 : decode cX8_example 40 = .ok (.invokevirtual 104, 3) := by decide +kernel
theorem dX8_example_43 : decode cX8_example 43 = .ok (.lload_n 2, 1) := by decide +kernel
theorem dX8_example_44 : decode cX8_example 44 = .ok (.invokestatic 90, 3) := by decide +kernel
theorem dX8_example_47 : decode cX8_example 47 = .ok (.istore 6, 2) := by decide +kernel
theorem dX8_example_49 : decode cX8_example 49 = .ok (.sipush 272, 3) := by decide +kernel
theorem dX8_example_52 : decode cX8_example 52 = .ok (.iload_n 1, 1) := by decide +kernel
theorem dX8_example_53 : decode cX8_example 53 = .ok (.imul, 1) := by decide +kernel
theorem dX8_example_54 : decode cX8_example 54 = .ok (.iload 6, 2) := by decide +kernel
theorem dX8_example_56 : decode cX8_example 56 = .ok (.bipush 16, 2) := by decide +kernel
theorem dX8_example_58 : decode cX8_example 58 = .ok (.idiv, 1) := by decide +kernel
theorem dX8_example_59 : decode cX8_example 59 = .ok (.iadd, 1) := by decide +kernel
theorem dX8_example_60 : decode cX8_example 60 = .ok (.istore 7, 2) := by decide +kernel
theorem dX8_example_62 : decode cX8_example 62 = .ok (.iload 4, 2) := by decide +kernel
theorem dX8_example_64 : decode cX8_example 64 = .ok (.ifCond .eq 7, 3) := by decide +kernel
theorem dX8_example_67 : decode cX8_example 67 = .ok (.iconst 2, 1) := by decide +kernel
theorem dX8_example_68 : decode cX8_example 68 = .ok (.goto 4, 3) := by decide +kernel
theorem dX8_example_71 : decode cX8_example 71 = .ok (.iconst 1, 1) := by decide +kernel
theorem dX8_example_72 : decode cX8_example 72 = .ok (.istore 8, 2) := by decide +kernel
theorem dX8_example_74 : decode cX8_example 74 = .ok (.aload_n 0, 1) := by decide +kernel
theorem dX8_example_75 : decode cX8_example 75 = .ok (.getfield 27, 3) := by decide +kernel
theorem dX8_example_78 : decode cX8_example 78 = .ok (.iload 7, 2) := by decide +kernel
theorem dX8_example_80 : decode cX8_example 80 = .ok (.baload, 1) := by decide +kernel
theorem dX8_example_81 : decode cX8_example 81 = .ok (.ifCond .eq 18, 3) := by decide +kernel
theorem dX8_example_84 : decode cX8_example 84 = .ok (.aload_n 0, 1) := by decide +kernel
theorem dX8_example_85 : decode cX8_example 85 = .ok (.getfield 27, 3) := by decide +kernel
theorem dX8_example_88 : decode cX8_example 88 = .ok (.iload 7, 2) := by decide +kernel
theorem dX8_example_90 : decode cX8_example 90 = .ok (.baload, 1) := by decide +kernel
theorem dX8_example_91 : decode cX8_example 91 = .ok (.iload 8, 2) := by decide +kernel
theorem dX8_example_93 : decode cX8_example 93 = .ok (.if_icmp .eq 6, 3) := by decide +kernel
theorem dX8_example_96 : decode cX8_example 96 = .ok (.bipush (-3), 2) := by decide +kernel
theorem dX8_example_98 : decode cX8_example 98 = .ok (.ireturn, 1) := by decide +kernel
theorem dX8_example_99 : decode cX8_example 99 = .ok (.aload_n 0, 1) := by decide +kernel
theorem dX8_example_100 : decode cX8_example 100 = .ok (.invokevirtual 115, 3) := by decide +kernel
theorem dX8_example_103 : decode cX8_example 103 = .ok (.aload_n 0, 1) := by decide +kernel
theorem dX8_example_104 : decode cX8_example 104 = .ok (.getfield 27, 3) := by decide +kernel
theorem dX8_example_107 : decode cX8_example 107 = .ok (.iload 7, 2) := by decide +kernel
theorem dX8_example_109 : decode cX8_example 109 = .ok (.iload 8, 2) := by decide +kernel
theorem dX8_example_111 : decode cX8_example 111 = .ok (.i2b, 1) := by decide +kernel
theorem dX8_example_112 : decode cX8_example 112 = .ok (.bastore, 1) := by decide +kernel
theorem dX8_example_113 : decode cX8_example 113 = .ok (.aload_n 0, 1) := by decide +kernel
theorem dX8_example_114 : decode cX8_example 114 = .ok (.getfield 30, 3) := by decide +kernel
theorem dX8_example_117 : decode cX8_example 117 = .ok (.sipush 4352, 3) := by decide +kernel
theorem dX8_example_120 : decode cX8_example 120 = .ok (.iload_n 1, 1) := by decide +kernel
theorem dX8_example_121 : decode cX8_example 121 = .ok (.imul, 1) := by decide +kernel
theorem dX8_example_122 : decode cX8_example 122 = .ok (.iload 6, 2) := by decide +kernel
theorem dX8_example_124 : decode cX8_example 124 = .ok (.iadd, 1) := by decide +kernel
theorem dX8_example_125 : decode cX8_example 125 = .ok (.iload 5, 2) := by decide +kernel
theorem dX8_example_127 : decode cX8_example 127 = .ok (.iconst 1, 1) := by decide +kernel
theorem dX8_example_128 : decode cX8_example 128 = .ok (.iadd, 1) := by decide +kernel
theorem dX8_example_129 : decode cX8_example 129 = .ok (.i2b, 1) := by decide +kernel
theorem dX8_example_130 : decode cX8_example 130 = .ok (.bastore, 1) := by decide +kernel
theorem dX8_example_131 : decode cX8_example 131 = .ok (.iconst 0, 1) := by decide +kernel
theorem dX8_example_132 : decode cX8_example 132 = .ok (.ireturn, 1) := by decide +kernel
theorem dX8_examples_0 : decode cX8_examples 0 = .ok (.aload_n 0, 1) := by decide +kernel
theorem dX8_examples_1 : decode cX8_examples 1 = .ok (.iload_n 1, 1) := by decide +kernel
theorem dX8_examples_2 : decode cX8_examples 2 = .ok (.invokevirtual 160, 3) := by decide +kernel
theorem dX8_examples_5 : decode cX8_examples 5 = .ok (.ifCond .ne 5, 3) := by decide +kernel
theorem dX8_examples_8 : decode cX8_examples 8 = .ok (.iconst (-1), 1) := by decide +kernel
theorem dX8_examples_9 : decode cX8_examples 9 = .ok (.ireturn, 1) := by decide +kernel
theorem dX8_examples_10 : decode cX8_examples 10 = .ok (.iconst 0, 1) := by decide +kernel
theorem dX8_examples_11 : decode cX8_examples 11 = .ok (.istore_n 2, 1) := by decide +kernel
theorem dX8_examples_12 : decode cX8_examples 12 = .ok (.iconst 0, 1) := by decide +kernel
theorem dX8_examples_13 : decode cX8_examples 13 = .ok (.istore_n 3, 1) := by decide +kernel
theorem dX8_examples_14 : decode cX8_examples 14 = .ok (.iload_n 3, 1) := by decide +kernel
theorem dX8_examples_15 : decode cX8_examples 15 = .ok (.sipush 4352, 3) := by decide +kernel
theorem dX8_examples_18 : decode cX8_examples 18 = .ok (.if_icmp .ge 32, 3) := by decide +kernel
theorem dX8_examples_21 : decode cX8_examples 21 = .ok (.iload_n 2, 1) := by decide +kernel
theorem dX8_examples_22 : decode cX8_examples 22 = .ok (.aload_n 0, 1) := by decide +kernel
theorem dX8_examples_23 : decode cX8_examples 23 = .ok (.getfield 30, 3) := by decide +kernel
theorem dX8_examples_26 : decode cX8_examples 26 = .ok (.sipush 4352, 3) := by decide +kernel
theorem dX8_examples_29 : decode cX8_examples 29 = .ok (.iload_n 1, 1) := by decide +kernel
theorem dX8_examples_30 : decode cX8_examples 30 = .ok (.imul, 1) := by decide +kernel
theorem dX8_examples_31 : decode cX8_examples 31 = .ok (.iload_n 3, 1) := by decide +kernel
theorem dX8_examples_32 : decode cX8_examples 32 = .ok (.iadd, 1) := by decide +kernel
theorem dX8_examples_33 : decode cX8_examples 33 = .ok (.baload, 1) := by decide +kernel
theorem dX8_examples_34 : decode cX8_examples 34 = .ok (.ifCond .le 7, 3) := by decide +kernel
theorem dX8_examples_37 : decode cX8_examples 37 = .ok (.iconst 1, 1) := by decide +kernel
theorem dX8_examples_38 : decode cX8_examples 38 = .ok (.goto 4, 3) := by decide +kernel
theorem dX8_examples_41 : decode cX8_examples 41 = .ok (.iconst 0, 1) := by decide +kernel
theorem dX8_examples_42 : decode cX8_examples 42 = .ok (.iadd, 1) := by decide +kernel
theorem dX8_examples_43 : decode cX8_examples 43 = .ok (.istore_n 2, 1) := by decide +kernel
theorem dX8_examples_44 : decode cX8_examples 44 = .ok (.iinc 3 1, 3) := by decide +kernel
theorem dX8_examples_47 : decode cX8_examples 47 = .ok (.goto (-33), 3) := by decide +kernel
theorem dX8_examples_50 : decode cX8_examples 50 = .ok (.iload_n 2, 1) := by decide +kernel
theorem dX8_examples_51 : decode cX8_examples 51 = .ok (.ireturn, 1) := by decide +kernel
theorem dX8_puts_0 : decode cX8_puts 0 = .ok (.aload_n 0, 1) := by decide +kernel
theorem dX8_puts_1 : decode cX8_puts 1 = .ok (.getfield 274, 3) := by decide +kernel
theorem dX8_puts_4 : decode cX8_puts 4 = .ok (.sipush 400, 3) := by decide +kernel
theorem dX8_puts_7 : decode cX8_puts 7 = .ok (.if_icmp .ne 5, 3) := by decide +kernel
theorem dX8_puts_10 : decode cX8_puts 10 = .ok (.iconst 0, 1) := by decide +kernel
theorem dX8_puts_11 : decode cX8_puts 11 = .ok (.ireturn, 1) := by decide +kernel
theorem dX8_puts_12 : decode cX8_puts 12 = .ok (.aload_n 0, 1) := by decide +kernel
theorem dX8_puts_13 : decode cX8_puts 13 = .ok (.getfield 43, 3) := by decide +kernel
theorem dX8_puts_16 : decode cX8_puts 16 = .ok (.aload_n 0, 1) := by decide +kernel
theorem dX8_puts_17 : decode cX8_puts 17 = .ok (.getfield 274, 3) := by decide +kernel
theorem dX8_puts_20 : decode cX8_puts 20 = .ok (.iload_n 1, 1) := by decide +kernel
theorem dX8_puts_21 : decode cX8_puts 21 = .ok (.i2b, 1) := by decide +kernel
theorem dX8_puts_22 : decode cX8_puts 22 = .ok (.bastore, 1) := by decide +kernel
theorem dX8_puts_23 : decode cX8_puts 23 = .ok (.aload_n 0, 1) := by decide +kernel
theorem dX8_puts_24 : decode cX8_puts 24 = .ok (.dup, 1) := by decide +kernel
theorem dX8_puts_25 : decode cX8_puts 25 = .ok (.getfield 274, 3) := by decide +kernel
theorem dX8_puts_28 : decode cX8_puts 28 = .ok (.iconst 1, 1) := by decide +kernel
theorem dX8_puts_29 : decode cX8_puts 29 = .ok (.iadd, 1) := by decide +kernel
theorem dX8_puts_30 : decode cX8_puts 30 = .ok (.putfield 274, 3) := by decide +kernel
theorem dX8_puts_33 : decode cX8_puts 33 = .ok (.iconst 1, 1) := by decide +kernel
theorem dX8_puts_34 : decode cX8_puts 34 = .ok (.ireturn, 1) := by decide +kernel
theorem dX8_putsNumber_0 : decode cX8_putsNumber 0 = .ok (.lload_n 1, 1) := by decide +kernel
theorem dX8_putsNumber_1 : decode cX8_putsNumber 1 = .ok (.lstore_n 3, 1) := by decide +kernel
theorem dX8_putsNumber_2 : decode cX8_putsNumber 2 = .ok (.lload_n 3, 1) := by decide +kernel
theorem dX8_putsNumber_3 : decode cX8_putsNumber 3 = .ok (.ldc2_w 122, 3) := by decide +kernel
theorem dX8_putsNumber_6 : decode cX8_putsNumber 6 = .ok (.lcmp, 1) := by decide +kernel
theorem dX8_putsNumber_7 : decode cX8_putsNumber 7 = .ok (.ifCond .le 30, 3) := by decide +kernel
theorem dX8_putsNumber_10 : decode cX8_putsNumber 10 = .ok (.aload_n 0, 1) := by decide +kernel
theorem dX8_putsNumber_11 : decode cX8_putsNumber 11 = .ok (.lload_n 3, 1) := by decide +kernel
theorem dX8_putsNumber_12 : decode cX8_putsNumber 12 = .ok (.ldc2_w 122, 3) := by decide +kernel
theorem dX8_putsNumber_15 : decode cX8_putsNumber 15 = .ok (.land, 1) := by decide +kernel
theorem dX8_putsNumber_16 : decode cX8_putsNumber 16 = .ok (.l2i, 1) := by decide +kernel
theorem dX8_putsNumber_17 : decode cX8_putsNumber 17 = .ok (.sipush 128, 3) := by decide +kernel
theorem dX8_putsNumber_20 : decode cX8_putsNumber 20 = .ok (.ior, 1) := by decide +kernel
theorem dX8_putsNumber_21 : decode cX8_putsNumber 21 = .ok (.invokevirtual 277, 3) := by decide +kernel
theorem dX8_putsNumber_24 : decode cX8_putsNumber 24 = .ok (.ifCond .ne 5, 3) := by decide +kernel
theorem dX8_putsNumber_27 : decode cX8_putsNumber 27 = .ok (.iconst 0, 1) := by decide +kernel
theorem dX8_putsNumber_28 : decode cX8_putsNumber 28 = .ok (.ireturn, 1) := by decide +kernel
theorem dX8_putsNumber_29 : decode cX8_putsNumber 29 = .ok (.lload_n 3, 1) := by decide +kernel
theorem dX8_putsNumber_30 : decode cX8_putsNumber 30 = .ok (.bipush 7, 2) := by decide +kernel
theorem dX8_putsNumber_32 : decode cX8_putsNumber 32 = .ok (.lshr, 1) := by decide +kernel
theorem dX8_putsNumber_33 : decode cX8_putsNumber 33 = .ok (.lstore_n 3, 1) := by decide +kernel
theorem dX8_putsNumber_34 : decode cX8_putsNumber 34 = .ok (.goto (-32), 3) := by decide +kernel
theorem dX8_putsNumber_37 : decode cX8_putsNumber 37 = .ok (.aload_n 0, 1) := by decide +kernel
theorem dX8_putsNumber_38 : decode cX8_putsNumber 38 = .ok (.lload_n 3, 1) := by decide +kernel
theorem dX8_putsNumber_39 : decode cX8_putsNumber 39 = .ok (.l2i, 1) := by decide +kernel
theorem dX8_putsNumber_40 : decode cX8_putsNumber 40 = .ok (.invokevirtual 277, 3) := by decide +kernel
theorem dX8_putsNumber_43 : decode cX8_putsNumber 43 = .ok (.ireturn, 1) := by decide +kernel
theorem dX8_packs_0 : decode cX8_packs 0 = .ok (.aload_n 0, 1) := by decide +kernel
theorem dX8_packs_1 : decode cX8_packs 1 = .ok (.iconst 0, 1) := by decide +kernel
theorem dX8_packs_2 : decode cX8_packs 2 = .ok (.putfield 274, 3) := by decide +kernel
theorem dX8_packs_5 : decode cX8_packs 5 = .ok (.aload_n 0, 1) := by decide +kernel
theorem dX8_packs_6 : decode cX8_packs 6 = .ok (.sipush 165, 3) := by decide +kernel
theorem dX8_packs_9 : decode cX8_packs 9 = .ok (.invokevirtual 277, 3) := by decide +kernel
theorem dX8_packs_12 : decode cX8_packs 12 = .ok (.ifCond .eq 42, 3) := by decide +kernel
theorem dX8_packs_15 : decode cX8_packs 15 = .ok (.aload_n 0, 1) := by decide +kernel
theorem dX8_packs_16 : decode cX8_packs 16 = .ok (.aload_n 0, 1) := by decide +kernel
theorem dX8_packs_17 : decode cX8_packs 17 = .ok (.iload_n 1, 1) := by decide +kernel
theorem dX8_packs_18 : decode cX8_packs 18 = .ok (.iconst 0, 1) := by decide +kernel
theorem dX8_packs_19 : decode cX8_packs 19 = .ok (.invokevirtual 104, 3) := by decide +kernel
theorem dX8_packs_22 : decode cX8_packs 22 = .ok (.invokevirtual 277, 3) := by decide +kernel
theorem dX8_packs_25 : decode cX8_packs 25 = .ok (.ifCond .eq 29, 3) := by decide +kernel
theorem dX8_packs_28 : decode cX8_packs 28 = .ok (.aload_n 0, 1) := by decide +kernel
theorem dX8_packs_29 : decode cX8_packs 29 = .ok (.aload_n 0, 1) := by decide +kernel
theorem dX8_packs_30 : decode cX8_packs 30 = .ok (.iload_n 1, 1) := by decide +kernel
theorem dX8_packs_31 : decode cX8_packs 31 = .ok (.iconst 1, 1) := by decide +kernel
theorem dX8_packs_32 : decode cX8_packs 32 = .ok (.invokevirtual 104, 3) := by decide +kernel
theorem dX8_packs_35 : decode cX8_packs 35 = .ok (.invokevirtual 277, 3) := by decide +kernel
theorem dX8_packs_38 : decode cX8_packs 38 = .ok (.ifCond .eq 16, 3) := by decide +kernel
theorem dX8_packs_41 : decode cX8_packs 41 = .ok (.aload_n 0, 1) := by decide +kernel
theorem dX8_packs_42 : decode cX8_packs 42 = .ok (.aload_n 0, 1) := by decide +kernel
theorem dX8_packs_43 : decode cX8_packs 43 = .ok (.getfield 17, 3) := by decide +kernel
theorem dX8_packs_46 : decode cX8_packs 46 = .ok (.iload_n 1, 1) := by decide +kernel
theorem dX8_packs_47 : decode cX8_packs 47 = .ok (.laload, 1) := by decide +kernel
theorem dX8_packs_48 : decode cX8_packs 48 = .ok (.invokevirtual 280, 3) := by decide +kernel
theorem dX8_packs_51 : decode cX8_packs 51 = .ok (.ifCond .ne 5, 3) := by decide +kernel
theorem dX8_packs_54 : decode cX8_packs 54 = .ok (.iconst 0, 1) := by decide +kernel
theorem dX8_packs_55 : decode cX8_packs 55 = .ok (.ireturn, 1) := by decide +kernel
theorem dX8_packs_56 : decode cX8_packs 56 = .ok (.aload_n 0, 1) := by decide +kernel
theorem dX8_packs_57 : decode cX8_packs 57 = .ok (.iload_n 1, 1) := by decide +kernel
theorem dX8_packs_58 : decode cX8_packs 58 = .ok (.invokevirtual 210, 3) := by decide +kernel
theorem dX8_packs_61 : decode cX8_packs 61 = .ok (.istore_n 2, 1) := by decide +kernel
theorem dX8_packs_62 : decode cX8_packs 62 = .ok (.iconst 0, 1) := by decide +kernel
theorem dX8_packs_63 : decode cX8_packs 63 = .ok (.istore_n 3, 1) := by decide +kernel
theorem dX8_packs_64 : decode cX8_packs 64 = .ok (.iconst 0, 1) := by decide +kernel
theorem dX8_packs_65 : decode cX8_packs 65 = .ok (.istore 4, 2) := by decide +kernel
theorem dX8_packs_67 : decode cX8_packs 67 = .ok (.iload 4, 2) := by decide +kernel
theorem dX8_packs_69 : decode cX8_packs 69 = .ok (.iload_n 2, 1) := by decide +kernel
theorem dX8_packs_70 : decode cX8_packs 70 = .ok (.if_icmp .gt 75, 3) := by decide +kernel
theorem dX8_packs_73 : decode cX8_packs 73 = .ok (.aload_n 0, 1) := by decide +kernel
theorem dX8_packs_74 : decode cX8_packs 74 = .ok (.getfield 21, 3) := by decide +kernel
theorem dX8_packs_77 : decode cX8_packs 77 = .ok (.sipush 4352, 3) := by decide +kernel
theorem dX8_packs_80 : decode cX8_packs 80 = .ok (.iload_n 1, 1) := by decide +kernel
theorem dX8_packs_81 : decode cX8_packs 81 = .ok (.imul, 1) := by decide +kernel
theorem dX8_packs_82 : decode cX8_packs 82 = .ok (.iload 4, 2) := by decide +kernel
theorem dX8_packs_84 : decode cX8_packs 84 = .ok (.iadd, 1) := by decide +kernel
theorem dX8_packs_85 : decode cX8_packs 85 = .ok (.laload, 1) := by decide +kernel
theorem dX8_packs_86 : decode cX8_packs 86 = .ok (.lstore 5, 2) := by decide +kernel
theorem dX8_packs_88 : decode cX8_packs 88 = .ok (.lload 5, 2) := by decide +kernel
theorem dX8_packs_90 : decode cX8_packs 90 = .ok (.lconst 0, 1) := by decide +kernel
theorem dX8_packs_91 : decode cX8_packs 91 = .ok (.lcmp, 1) := by decide +kernel
theorem dX8_packs_92 : decode cX8_packs 92 = .ok (.ifCond .ne 9, 3) := by decide +kernel
theorem dX8_packs_95 : decode cX8_packs 95 = .ok (.iinc 3 1, 3) := by decide +kernel
theorem dX8_packs_98 : decode cX8_packs 98 = .ok (.goto 41, 3) := by decide +kernel
theorem dX8_packs_101 : decode cX8_packs 101 = .ok (.iload_n 3, 1) := by decide +kernel
theorem dX8_packs_102 : decode cX8_packs 102 = .ok (.ifCond .le 20, 3) := by decide +kernel
theorem dX8_packs_105 : decode cX8_packs 105 = .ok (.aload_n 0, 1) := by decide +kernel
theorem dX8_packs_106 : decode cX8_packs 106 = .ok (.ldc2_w 88, 3) := by decide +kernel
theorem dX8_packs_109 : decode cX8_packs 109 = .ok (.iload_n 3, 1) := by decide +kernel
theorem dX8_packs_110 : decode cX8_packs 110 = .ok (.i2l, 1) := by decide +kernel
theorem dX8_packs_111 : decode cX8_packs 111 = .ok (.lmul, 1) := by decide +kernel
theorem dX8_packs_112 : decode cX8_packs 112 = .ok (.lconst 1, 1) := by decide +kernel
theorem dX8_packs_113 : decode cX8_packs 113 = .ok (.lsub, 1) := by decide +kernel
theorem dX8_packs_114 : decode cX8_packs 114 = .ok (.invokevirtual 280, 3) := by decide +kernel
theorem dX8_packs_117 : decode cX8_packs 117 = .ok (.ifCond .ne 5, 3) := by decide +kernel
theorem dX8_packs_120 : decode cX8_packs 120 = .ok (.iconst 0, 1) := by decide +kernel
theorem dX8_packs_121 : decode cX8_packs 121 = .ok (.ireturn, 1) := by decide +kernel
theorem dX8_packs_122 : decode cX8_packs 122 = .ok (.iconst 0, 1) := by decide +kernel
theorem dX8_packs_123 : decode cX8_packs 123 = .ok (.istore_n 3, 1) := by decide +kernel
theorem dX8_packs_124 : decode cX8_packs 124 = .ok (.aload_n 0, 1) := by decide +kernel
theorem dX8_packs_125 : decode cX8_packs 125 = .ok (.ldc2_w 88, 3) := by decide +kernel
theorem dX8_packs_128 : decode cX8_packs 128 = .ok (.lload 5, 2) := by decide +kernel
theorem dX8_packs_130 : decode cX8_packs 130 = .ok (.lmul, 1) := by decide +kernel
theorem dX8_packs_131 : decode cX8_packs 131 = .ok (.invokevirtual 280, 3) := by decide +kernel
theorem dX8_packs_134 : decode cX8_packs 134 = .ok (.ifCond .ne 5, 3) := by decide +kernel
theorem dX8_packs_137 : decode cX8_packs 137 = .ok (.iconst 0, 1) := by decide +kernel
theorem dX8_packs_138 : decode cX8_packs 138 = .ok (.ireturn, 1) := by decide +kernel
theorem dX8_packs_139 : decode cX8_packs 139 = .ok (.iinc 4 1, 3) := by decide +kernel
theorem dX8_packs_142 : decode cX8_packs 142 = .ok (.goto (-75), 3) := by decide +kernel
theorem dX8_packs_145 : decode cX8_packs 145 = .ok (.iconst 1, 1) := by decide +kernel
theorem dX8_packs_146 : decode cX8_packs 146 = .ok (.ireturn, 1) := by decide +kernel
theorem dX8_pack_0 : decode cX8_pack 0 = .ok (.aload_n 0, 1) := by decide +kernel
theorem dX8_pack_1 : decode cX8_pack 1 = .ok (.iload_n 1, 1) := by decide +kernel
theorem dX8_pack_2 : decode cX8_pack 2 = .ok (.invokevirtual 160, 3) := by decide +kernel
theorem dX8_pack_5 : decode cX8_pack 5 = .ok (.ifCond .ne 5, 3) := by decide +kernel
theorem dX8_pack_8 : decode cX8_pack 8 = .ok (.iconst (-1), 1) := by decide +kernel
theorem dX8_pack_9 : decode cX8_pack 9 = .ok (.ireturn, 1) := by decide +kernel
theorem dX8_pack_10 : decode cX8_pack 10 = .ok (.aload_n 0, 1) := by decide +kernel
theorem dX8_pack_11 : decode cX8_pack 11 = .ok (.iload_n 1, 1) := by decide +kernel
theorem dX8_pack_12 : decode cX8_pack 12 = .ok (.invokevirtual 284, 3) := by decide +kernel
theorem dX8_pack_15 : decode cX8_pack 15 = .ok (.ifCond .ne 6, 3) := by decide +kernel
theorem dX8_pack_18 : decode cX8_pack 18 = .ok (.bipush (-2), 2) := by decide +kernel
theorem dX8_pack_20 : decode cX8_pack 20 = .ok (.ireturn, 1) := by decide +kernel
theorem dX8_pack_21 : decode cX8_pack 21 = .ok (.iconst 0, 1) := by decide +kernel
theorem dX8_pack_22 : decode cX8_pack 22 = .ok (.istore_n 2, 1) := by decide +kernel
theorem dX8_pack_23 : decode cX8_pack 23 = .ok (.iload_n 2, 1) := by decide +kernel
theorem dX8_pack_24 : decode cX8_pack 24 = .ok (.aload_n 0, 1) := by decide +kernel
theorem dX8_pack_25 : decode cX8_pack 25 = .ok (.getfield 274, 3) := by decide +kernel
theorem dX8_pack_28 : decode cX8_pack 28 = .ok (.if_icmp .ge 21, 3) := by decide +kernel
theorem dX8_pack_31 : decode cX8_pack 31 = .ok (.aload_n 0, 1) := by decide +kernel
theorem dX8_pack_32 : decode cX8_pack 32 = .ok (.getfield 7, 3) := by decide +kernel
theorem dX8_pack_35 : decode cX8_pack 35 = .ok (.iload_n 2, 1) := by decide +kernel
theorem dX8_pack_36 : decode cX8_pack 36 = .ok (.aload_n 0, 1) := by decide +kernel
theorem dX8_pack_37 : decode cX8_pack 37 = .ok (.getfield 43, 3) := by decide +kernel
theorem dX8_pack_40 : decode cX8_pack 40 = .ok (.iload_n 2, 1) := by decide +kernel
theorem dX8_pack_41 : decode cX8_pack 41 = .ok (.baload, 1) := by decide +kernel
theorem dX8_pack_42 : decode cX8_pack 42 = .ok (.bastore, 1) := by decide +kernel
theorem dX8_pack_43 : decode cX8_pack 43 = .ok (.iinc 2 1, 3) := by decide +kernel
theorem dX8_pack_46 : decode cX8_pack 46 = .ok (.goto (-23), 3) := by decide +kernel
theorem dX8_pack_49 : decode cX8_pack 49 = .ok (.aload_n 0, 1) := by decide +kernel
theorem dX8_pack_50 : decode cX8_pack 50 = .ok (.aload_n 0, 1) := by decide +kernel
theorem dX8_pack_51 : decode cX8_pack 51 = .ok (.getfield 274, 3) := by decide +kernel
theorem dX8_pack_54 : decode cX8_pack 54 = .ok (.putfield 65, 3) := by decide +kernel
theorem dX8_pack_57 : decode cX8_pack 57 = .ok (.aload_n 0, 1) := by decide +kernel
theorem dX8_pack_58 : decode cX8_pack 58 = .ok (.getfield 65, 3) := by decide +kernel
theorem dX8_pack_61 : decode cX8_pack 61 = .ok (.ireturn, 1) := by decide +kernel
theorem dX8_fails_0 : decode cX8_fails 0 = .ok (.aload_n 0, 1) := by decide +kernel
theorem dX8_fails_1 : decode cX8_fails 1 = .ok (.bipush 8, 2) := by decide +kernel
theorem dX8_fails_3 : decode cX8_fails 3 = .ok (.iload_n 2, 1) := by decide +kernel
theorem dX8_fails_4 : decode cX8_fails 4 = .ok (.imul, 1) := by decide +kernel
theorem dX8_fails_5 : decode cX8_fails 5 = .ok (.iload_n 1, 1) := by decide +kernel
theorem dX8_fails_6 : decode cX8_fails 6 = .ok (.iadd, 1) := by decide +kernel
theorem dX8_fails_7 : decode cX8_fails 7 = .ok (.putfield 287, 3) := by decide +kernel
theorem dX8_fails_10 : decode cX8_fails 10 = .ok (.iconst 0, 1) := by decide +kernel
theorem dX8_fails_11 : decode cX8_fails 11 = .ok (.ireturn, 1) := by decide +kernel
theorem dX8_readsNumber_0 : decode cX8_readsNumber 0 = .ok (.aload_n 0, 1) := by decide +kernel
theorem dX8_readsNumber_1 : decode cX8_readsNumber 1 = .ok (.getfield 290, 3) := by decide +kernel
theorem dX8_readsNumber_4 : decode cX8_readsNumber 4 = .ok (.istore_n 1, 1) := by decide +kernel
theorem dX8_readsNumber_5 : decode cX8_readsNumber 5 = .ok (.aload_n 0, 1) := by decide +kernel
theorem dX8_readsNumber_6 : decode cX8_readsNumber 6 = .ok (.lconst 0, 1) := by decide +kernel
theorem dX8_readsNumber_7 : decode cX8_readsNumber 7 = .ok (.putfield 293, 3) := by decide +kernel
theorem dX8_readsNumber_10 : decode cX8_readsNumber 10 = .ok (.iconst 0, 1) := by decide +kernel
theorem dX8_readsNumber_11 : decode cX8_readsNumber 11 = .ok (.istore_n 2, 1) := by decide +kernel
theorem dX8_readsNumber_12 : decode cX8_readsNumber 12 = .ok (.iload_n 2, 1) := by decide +kernel
theorem dX8_readsNumber_13 : decode cX8_readsNumber 13 = .ok (.bipush 9, 2) := by decide +kernel
theorem dX8_readsNumber_15 : decode cX8_readsNumber 15 = .ok (.if_icmp .ge 84, 3) := by decide +kernel
theorem dX8_readsNumber_18 : decode cX8_readsNumber 18 = .ok (.aload_n 0, 1) := by decide +kernel
theorem dX8_readsNumber_19 : decode cX8_readsNumber 19 = .ok (.getfield 290, 3) := by decide +kernel
theorem dX8_readsNumber_22 : decode cX8_readsNumber 22 = .ok (.aload_n 0, 1) := by decide +kernel
theorem dX8_readsNumber_23 : decode cX8_readsNumber 23 = .ok (.getfield 65, 3) := by decide +kernel
theorem dX8_readsNumber_26 : decode cX8_readsNumber 26 = .ok (.if_icmp .ne 13, 3) := by decide +kernel
theorem dX8_readsNumber_29 : decode cX8_readsNumber 29 = .ok (.aload_n 0, 1) := by decide +kernel
theorem dX8_readsNumber_30 : decode cX8_readsNumber 30 = .ok (.iconst 1, 1) := by decide +kernel
theorem dX8_readsNumber_31 : decode cX8_readsNumber 31 = .ok (.aload_n 0, 1) := by decide +kernel
theorem dX8_readsNumber_32 : decode cX8_readsNumber 32 = .ok (.getfield 290, 3) := by decide +kernel
theorem dX8_readsNumber_35 : decode cX8_readsNumber 35 = .ok (.invokevirtual 297, 3) := by decide +kernel
theorem dX8_readsNumber_38 : decode cX8_readsNumber 38 = .ok (.ireturn, 1) := by decide +kernel
theorem dX8_readsNumber_39 : decode cX8_readsNumber 39 = .ok (.aload_n 0, 1) := by decide +kernel
theorem dX8_readsNumber_40 : decode cX8_readsNumber 40 = .ok (.getfield 7, 3) := by decide +kernel
theorem dX8_readsNumber_43 : decode cX8_readsNumber 43 = .ok (.aload_n 0, 1) := by decide +kernel
theorem dX8_readsNumber_44 : decode cX8_readsNumber 44 = .ok (.getfield 290, 3) := by decide +kernel
theorem dX8_readsNumber_47 : decode cX8_readsNumber 47 = .ok (.baload, 1) := by decide +kernel
theorem dX8_readsNumber_48 : decode cX8_readsNumber 48 = .ok (.sipush 255, 3) := by decide +kernel
theorem dX8_readsNumber_51 : decode cX8_readsNumber 51 = .ok (.iand, 1) := by decide +kernel
theorem dX8_readsNumber_52 : decode cX8_readsNumber 52 = .ok (.i2l, 1) := by decide +kernel
theorem dX8_readsNumber_53 : decode cX8_readsNumber 53 = .ok (.lstore_n 3, 1) := by decide +kernel
theorem dX8_readsNumber_54 : decode cX8_readsNumber 54 = .ok (.aload_n 0, 1) := by decide +kernel
theorem dX8_readsNumber_55 : decode cX8_readsNumber 55 = .ok (.dup, 1) := by decide +kernel
theorem dX8_readsNumber_56 : decode cX8_readsNumber 56 = .ok (.getfield 290, 3) := by decide +kernel
theorem dX8_readsNumber_59 : decode cX8_readsNumber 59 = .ok (.iconst 1, 1) := by decide +kernel
theorem dX8_readsNumber_60 : decode cX8_readsNumber 60 = .ok (.iadd, 1) := by decide +kernel
theorem dX8_readsNumber_61 : decode cX8_readsNumber 61 = .ok (.putfield 290, 3) := by decide +kernel
theorem dX8_readsNumber_64 : decode cX8_readsNumber 64 = .ok (.aload_n 0, 1) := by decide +kernel
theorem dX8_readsNumber_65 : decode cX8_readsNumber 65 = .ok (.dup, 1) := by decide +kernel
theorem dX8_readsNumber_66 : decode cX8_readsNumber 66 = .ok (.getfield 293, 3) := by decide +kernel
theorem dX8_readsNumber_69 : decode cX8_readsNumber 69 = .ok (.lload_n 3, 1) := by decide +kernel
theorem dX8_readsNumber_70 : decode cX8_readsNumber 70 = .ok (.ldc2_w 122, 3) := by decide +kernel
theorem dX8_readsNumber_73 : decode cX8_readsNumber 73 = .ok (.land, 1) := by decide +kernel
theorem dX8_readsNumber_74 : decode cX8_readsNumber 74 = .ok (.bipush 7, 2) := by decide +kernel
theorem dX8_readsNumber_76 : decode cX8_readsNumber 76 = .ok (.iload_n 2, 1) := by decide +kernel
theorem dX8_readsNumber_77 : decode cX8_readsNumber 77 = .ok (.imul, 1) := by decide +kernel
theorem dX8_readsNumber_78 : decode cX8_readsNumber 78 = .ok (.lshl, 1) := by decide +kernel
theorem dX8_readsNumber_79 : decode cX8_readsNumber 79 = .ok (.lor, 1) := by decide +kernel
theorem dX8_readsNumber_80 : decode cX8_readsNumber 80 = .ok (.putfield 293, 3) := by decide +kernel
theorem dX8_readsNumber_83 : decode cX8_readsNumber 83 = .ok (.lload_n 3, 1) := by decide +kernel
theorem dX8_readsNumber_84 : decode cX8_readsNumber 84 = .ok (.ldc2_w 300, 3) := by decide +kernel
theorem dX8_readsNumber_87 : decode cX8_readsNumber 87 = .ok (.lcmp, 1) := by decide +kernel
theorem dX8_readsNumber_88 : decode cX8_readsNumber 88 = .ok (.ifCond .ge 5, 3) := by decide +kernel
theorem dX8_readsNumber_91 : decode cX8_readsNumber 91 = .ok (.iconst 1, 1) := by decide +kernel
theorem dX8_readsNumber_92 : decode cX8_readsNumber 92 = .ok (.ireturn, 1) := by decide +kernel
theorem dX8_readsNumber_93 : decode cX8_readsNumber 93 = .ok (.iinc 2 1, 3) := by decide +kernel
theorem dX8_readsNumber_96 : decode cX8_readsNumber 96 = .ok (.goto (-84), 3) := by decide +kernel
theorem dX8_readsNumber_99 : decode cX8_readsNumber 99 = .ok (.aload_n 0, 1) := by decide +kernel
theorem dX8_readsNumber_100 : decode cX8_readsNumber 100 = .ok (.iconst 2, 1) := by decide +kernel
theorem dX8_readsNumber_101 : decode cX8_readsNumber 101 = .ok (.iload_n 1, 1) := by decide +kernel
theorem dX8_readsNumber_102 : decode cX8_readsNumber 102 = .ok (.invokevirtual 297, 3) := by decide +kernel
theorem dX8_readsNumber_105 : decode cX8_readsNumber 105 = .ok (.ireturn, 1) := by decide +kernel
theorem dX8_readsHead_0 : decode cX8_readsHead 0 = .ok (.aload_n 0, 1) := by decide +kernel
theorem dX8_readsHead_1 : decode cX8_readsHead 1 = .ok (.iconst 0, 1) := by decide +kernel
theorem dX8_readsHead_2 : decode cX8_readsHead 2 = .ok (.putfield 290, 3) := by decide +kernel
theorem dX8_readsHead_5 : decode cX8_readsHead 5 = .ok (.aload_n 0, 1) := by decide +kernel
theorem dX8_readsHead_6 : decode cX8_readsHead 6 = .ok (.getfield 65, 3) := by decide +kernel
theorem dX8_readsHead_9 : decode cX8_readsHead 9 = .ok (.iconst 1, 1) := by decide +kernel
theorem dX8_readsHead_10 : decode cX8_readsHead 10 = .ok (.if_icmp .lt 19, 3) := by decide +kernel
theorem dX8_readsHead_13 : decode cX8_readsHead 13 = .ok (.aload_n 0, 1) := by decide +kernel
theorem dX8_readsHead_14 : decode cX8_readsHead 14 = .ok (.getfield 7, 3) := by decide +kernel
theorem dX8_readsHead_17 : decode cX8_readsHead 17 = .ok (.iconst 0, 1) := by decide +kernel
theorem dX8_readsHead_18 : decode cX8_readsHead 18 = .ok (.baload, 1) := by decide +kernel
theorem dX8_readsHead_19 : decode cX8_readsHead 19 = .ok (.sipush 255, 3) := by decide +kernel
theorem dX8_readsHead_22 : decode cX8_readsHead 22 = .ok (.iand, 1) := by decide +kernel
theorem dX8_readsHead_23 : decode cX8_readsHead 23 = .ok (.sipush 165, 3) := by decide +kernel
theorem dX8_readsHead_26 : decode cX8_readsHead 26 = .ok (.if_icmp .eq 10, 3) := by decide +kernel
theorem dX8_readsHead_29 : decode cX8_readsHead 29 = .ok (.aload_n 0, 1) := by decide +kernel
theorem dX8_readsHead_30 : decode cX8_readsHead 30 = .ok (.iconst 1, 1) := by decide +kernel
theorem dX8_readsHead_31 : decode cX8_readsHead 31 = .ok (.iconst 0, 1) := by decide +kernel
theorem dX8_readsHead_32 : decode cX8_readsHead 32 = .ok (.invokevirtual 297, 3) := by decide +kernel
theorem dX8_readsHead_35 : decode cX8_readsHead 35 = .ok (.ireturn, 1) := by decide +kernel
theorem dX8_readsHead_36 : decode cX8_readsHead 36 = .ok (.aload_n 0, 1) := by decide +kernel
theorem dX8_readsHead_37 : decode cX8_readsHead 37 = .ok (.getfield 65, 3) := by decide +kernel
theorem dX8_readsHead_40 : decode cX8_readsHead 40 = .ok (.iconst 2, 1) := by decide +kernel
theorem dX8_readsHead_41 : decode cX8_readsHead 41 = .ok (.if_icmp .lt 18, 3) := by decide +kernel
theorem dX8_readsHead_44 : decode cX8_readsHead 44 = .ok (.aload_n 0, 1) := by decide +kernel
theorem dX8_readsHead_45 : decode cX8_readsHead 45 = .ok (.getfield 7, 3) := by decide +kernel
theorem dX8_readsHead_48 : decode cX8_readsHead 48 = .ok (.iconst 1, 1) := by decide +kernel
theorem dX8_readsHead_49 : decode cX8_readsHead 49 = .ok (.baload, 1) := by decide +kernel
theorem dX8_readsHead_50 : decode cX8_readsHead 50 = .ok (.i2l, 1) := by decide +kernel
theorem dX8_readsHead_51 : decode cX8_readsHead 51 = .ok (.lconst 0, 1) := by decide +kernel
theorem dX8_readsHead_52 : decode cX8_readsHead 52 = .ok (.lconst 1, 1) := by decide +kernel
theorem dX8_readsHead_53 : decode cX8_readsHead 53 = .ok (.invokestatic 68, 3) := by decide +kernel
theorem dX8_readsHead_56 : decode cX8_readsHead 56 = .ok (.ifCond .ne 10, 3) := by decide +kernel
theorem dX8_readsHead_59 : decode cX8_readsHead 59 = .ok (.aload_n 0, 1) := by decide +kernel
theorem dX8_readsHead_60 : decode cX8_readsHead 60 = .ok (.iconst 1, 1) := by decide +kernel
theorem dX8_readsHead_61 : decode cX8_readsHead 61 = .ok (.iconst 1, 1) := by decide +kernel
theorem dX8_readsHead_62 : decode cX8_readsHead 62 = .ok (.invokevirtual 297, 3) := by decide +kernel
theorem dX8_readsHead_65 : decode cX8_readsHead 65 = .ok (.ireturn, 1) := by decide +kernel
theorem dX8_readsHead_66 : decode cX8_readsHead 66 = .ok (.aload_n 0, 1) := by decide +kernel
theorem dX8_readsHead_67 : decode cX8_readsHead 67 = .ok (.getfield 65, 3) := by decide +kernel
theorem dX8_readsHead_70 : decode cX8_readsHead 70 = .ok (.iconst 3, 1) := by decide +kernel
theorem dX8_readsHead_71 : decode cX8_readsHead 71 = .ok (.if_icmp .lt 20, 3) := by decide +kernel
theorem dX8_readsHead_74 : decode cX8_readsHead 74 = .ok (.aload_n 0, 1) := by decide +kernel
theorem dX8_readsHead_75 : decode cX8_readsHead 75 = .ok (.getfield 7, 3) := by decide +kernel
theorem dX8_readsHead_78 : decode cX8_readsHead 78 = .ok (.iconst 2, 1) := by decide +kernel
theorem dX8_readsHead_79 : decode cX8_readsHead 79 = .ok (.baload, 1) := by decide +kernel
theorem dX8_readsHead_80 : decode cX8_readsHead 80 = .ok (.i2l, 1) := by decide +kernel
theorem dX8_readsHead_81 : decode cX8_readsHead 81 = .ok (.lconst 1, 1) := by decide +kernel
theorem dX8_readsHead_82 : decode cX8_readsHead 82 = .ok (.ldc2_w 88, 3) := by decide +kernel
theorem dX8_readsHead_85 : decode cX8_readsHead 85 = .ok (.invokestatic 68, 3) := by decide +kernel
theorem dX8_readsHead_88 : decode cX8_readsHead 88 = .ok (.ifCond .ne 10, 3) := by decide +kernel
theorem dX8_readsHead_91 : decode cX8_readsHead 91 = .ok (.aload_n 0, 1) := by decide +kernel
theorem dX8_readsHead_92 : decode cX8_readsHead 92 = .ok (.iconst 1, 1) := by decide +kernel
theorem dX8_readsHead_93 : decode cX8_readsHead 93 = .ok (.iconst 2, 1) := by decide +kernel
theorem dX8_readsHead_94 : decode cX8_readsHead 94 = .ok (.invokevirtual 297, 3) := by decide +kernel
theorem dX8_readsHead_97 : decode cX8_readsHead 97 = .ok (.ireturn, 1) := by decide +kernel
theorem dX8_readsHead_98 : decode cX8_readsHead 98 = .ok (.aload_n 0, 1) := by decide +kernel
theorem dX8_readsHead_99 : decode cX8_readsHead 99 = .ok (.aload_n 0, 1) := by decide +kernel
theorem dX8_readsHead_100 : decode cX8_readsHead 100 = .ok (.getfield 7, 3) := by decide +kernel
theorem dX8_readsHead_103 : decode cX8_readsHead 103 = .ok (.iconst 1, 1) := by decide +kernel
theorem dX8_readsHead_104 : decode cX8_readsHead 104 = .ok (.baload, 1) := by decide +kernel
theorem dX8_readsHead_105 : decode cX8_readsHead 105 = .ok (.putfield 302, 3) := by decide +kernel
theorem dX8_readsHead_108 : decode cX8_readsHead 108 = .ok (.aload_n 0, 1) := by decide +kernel
theorem dX8_readsHead_109 : decode cX8_readsHead 109 = .ok (.aload_n 0, 1) := by decide +kernel
theorem dX8_readsHead_110 : decode cX8_readsHead 110 = .ok (.getfield 7, 3) := by decide +kernel
theorem dX8_readsHead_113 : decode cX8_readsHead 113 = .ok (.iconst 2, 1) := by decide +kernel
theorem dX8_readsHead_114 : decode cX8_readsHead 114 = .ok (.baload, 1) := by decide +kernel
theorem dX8_readsHead_115 : decode cX8_readsHead 115 = .ok (.putfield 305, 3) := by decide +kernel
theorem dX8_readsHead_118 : decode cX8_readsHead 118 = .ok (.aload_n 0, 1) := by decide +kernel
theorem dX8_readsHead_119 : decode cX8_readsHead 119 = .ok (.iconst 3, 1) := by decide +kernel
theorem dX8_readsHead_120 : decode cX8_readsHead 120 = .ok (.putfield 290, 3) := by decide +kernel
theorem dX8_readsHead_123 : decode cX8_readsHead 123 = .ok (.aload_n 0, 1) := by decide +kernel
theorem dX8_readsHead_124 : decode cX8_readsHead 124 = .ok (.invokevirtual 308, 3) := by decide +kernel
theorem dX8_readsHead_127 : decode cX8_readsHead 127 = .ok (.ifCond .ne 5, 3) := by decide +kernel
theorem dX8_readsHead_130 : decode cX8_readsHead 130 = .ok (.iconst 0, 1) := by decide +kernel
theorem dX8_readsHead_131 : decode cX8_readsHead 131 = .ok (.ireturn, 1) := by decide +kernel
theorem dX8_readsHead_132 : decode cX8_readsHead 132 = .ok (.aload_n 0, 1) := by decide +kernel
theorem dX8_readsHead_133 : decode cX8_readsHead 133 = .ok (.getfield 293, 3) := by decide +kernel
theorem dX8_readsHead_136 : decode cX8_readsHead 136 = .ok (.ldc2_w 111, 3) := by decide +kernel
theorem dX8_readsHead_139 : decode cX8_readsHead 139 = .ok (.ldc2_w 113, 3) := by decide +kernel
theorem dX8_readsHead_142 : decode cX8_readsHead 142 = .ok (.invokestatic 68, 3) := by decide +kernel
theorem dX8_readsHead_145 : decode cX8_readsHead 145 = .ok (.ifCond .ne 10, 3) := by decide +kernel
theorem dX8_readsHead_148 : decode cX8_readsHead 148 = .ok (.aload_n 0, 1) := by decide +kernel
theorem dX8_readsHead_149 : decode cX8_readsHead 149 = .ok (.iconst 2, 1) := by decide +kernel
theorem dX8_readsHead_150 : decode cX8_readsHead 150 = .ok (.iconst 3, 1) := by decide +kernel
theorem dX8_readsHead_151 : decode cX8_readsHead 151 = .ok (.invokevirtual 297, 3) := by decide +kernel
theorem dX8_readsHead_154 : decode cX8_readsHead 154 = .ok (.ireturn, 1) := by decide +kernel
theorem dX8_readsHead_155 : decode cX8_readsHead 155 = .ok (.aload_n 0, 1) := by decide +kernel
theorem dX8_readsHead_156 : decode cX8_readsHead 156 = .ok (.aload_n 0, 1) := by decide +kernel
theorem dX8_readsHead_157 : decode cX8_readsHead 157 = .ok (.getfield 293, 3) := by decide +kernel
theorem dX8_readsHead_160 : decode cX8_readsHead 160 = .ok (.putfield 312, 3) := by decide +kernel
theorem dX8_readsHead_163 : decode cX8_readsHead 163 = .ok (.iconst 1, 1) := by decide +kernel
theorem dX8_readsHead_164 : decode cX8_readsHead 164 = .ok (.ireturn, 1) := by decide +kernel
theorem dX8_readsSlots_0 : decode cX8_readsSlots 0 = .ok (.aload_n 0, 1) := by decide +kernel
theorem dX8_readsSlots_1 : decode cX8_readsSlots 1 = .ok (.invokevirtual 172, 3) := by decide +kernel
theorem dX8_readsSlots_4 : decode cX8_readsSlots 4 = .ok (.aload_n 0, 1) := by decide +kernel
theorem dX8_readsSlots_5 : decode cX8_readsSlots 5 = .ok (.getfield 305, 3) := by decide +kernel
theorem dX8_readsSlots_8 : decode cX8_readsSlots 8 = .ok (.aload_n 0, 1) := by decide +kernel
theorem dX8_readsSlots_9 : decode cX8_readsSlots 9 = .ok (.getfield 312, 3) := by decide +kernel
theorem dX8_readsSlots_12 : decode cX8_readsSlots 12 = .ok (.invokestatic 90, 3) := by decide +kernel
theorem dX8_readsSlots_15 : decode cX8_readsSlots 15 = .ok (.iconst 1, 1) := by decide +kernel
theorem dX8_readsSlots_16 : decode cX8_readsSlots 16 = .ok (.iadd, 1) := by decide +kernel
theorem dX8_readsSlots_17 : decode cX8_readsSlots 17 = .ok (.istore_n 1, 1) := by decide +kernel
theorem dX8_readsSlots_18 : decode cX8_readsSlots 18 = .ok (.iconst 0, 1) := by decide +kernel
theorem dX8_readsSlots_19 : decode cX8_readsSlots 19 = .ok (.istore_n 2, 1) := by decide +kernel
theorem dX8_readsSlots_20 : decode cX8_readsSlots 20 = .ok (.iconst (-1), 1) := by decide +kernel
theorem dX8_readsSlots_21 : decode cX8_readsSlots 21 = .ok (.istore_n 3, 1) := by decide +kernel
theorem dX8_readsSlots_22 : decode cX8_readsSlots 22 = .ok (.aload_n 0, 1) := by decide +kernel
theorem dX8_readsSlots_23 : decode cX8_readsSlots 23 = .ok (.getfield 290, 3) := by decide +kernel
theorem dX8_readsSlots_26 : decode cX8_readsSlots 26 = .ok (.aload_n 0, 1) := by decide +kernel
theorem dX8_readsSlots_27 : decode cX8_readsSlots 27 = .ok (.getfield 65, 3) := by decide +kernel
theorem dX8_readsSlots_30 : decode cX8_readsSlots 30 = .ok (.if_icmp .ge 175, 3) := by decide +kernel
theorem dX8_readsSlots_33 : decode cX8_readsSlots 33 = .ok (.aload_n 0, 1) := by decide +kernel
theorem dX8_readsSlots_34 : decode cX8_readsSlots 34 = .ok (.getfield 290, 3) := by decide +kernel
theorem dX8_readsSlots_37 : decode cX8_readsSlots 37 = .ok (.istore 4, 2) := by decide +kernel
theorem dX8_readsSlots_39 : decode cX8_readsSlots 39 = .ok (.aload_n 0, 1) := by decide +kernel
theorem dX8_readsSlots_40 : decode cX8_readsSlots 40 = .ok (.invokevirtual 308, 3) := by decide +kernel
theorem dX8_readsSlots_43 : decode cX8_readsSlots 43 = .ok (.ifCond .ne 5, 3) := by decide +kernel
theorem dX8_readsSlots_46 : decode cX8_readsSlots 46 = .ok (.iconst 0, 1) := by decide +kernel
theorem dX8_readsSlots_47 : decode cX8_readsSlots 47 = .ok (.ireturn, 1) := by decide +kernel
theorem dX8_readsSlots_48 : decode cX8_readsSlots 48 = .ok (.aload_n 0, 1) := by decide +kernel
theorem dX8_readsSlots_49 : decode cX8_readsSlots 49 = .ok (.getfield 293, 3) := by decide +kernel
theorem dX8_readsSlots_52 : decode cX8_readsSlots 52 = .ok (.ldc2_w 88, 3) := by decide +kernel
theorem dX8_readsSlots_55 : decode cX8_readsSlots 55 = .ok (.lrem, 1) := by decide +kernel
theorem dX8_readsSlots_56 : decode cX8_readsSlots 56 = .ok (.lconst 1, 1) := by decide +kernel
theorem dX8_readsSlots_57 : decode cX8_readsSlots 57 = .ok (.lcmp, 1) := by decide +kernel
theorem dX8_readsSlots_58 : decode cX8_readsSlots 58 = .ok (.ifCond .ne 7, 3) := by decide +kernel
theorem dX8_readsSlots_61 : decode cX8_readsSlots 61 = .ok (.iconst 1, 1) := by decide +kernel
theorem dX8_readsSlots_62 : decode cX8_readsSlots 62 = .ok (.goto 4, 3) := by decide +kernel
theorem dX8_readsSlots_65 : decode cX8_readsSlots 65 = .ok (.iconst 0, 1) := by decide +kernel
theorem dX8_readsSlots_66 : decode cX8_readsSlots 66 = .ok (.istore 5, 2) := by decide +kernel
theorem dX8_readsSlots_68 : decode cX8_readsSlots 68 = .ok (.iload 5, 2) := by decide +kernel
theorem dX8_readsSlots_70 : decode cX8_readsSlots 70 = .ok (.ifCond .eq 16, 3) := by decide +kernel
theorem dX8_readsSlots_73 : decode cX8_readsSlots 73 = .ok (.aload_n 0, 1) := by decide +kernel
theorem dX8_readsSlots_74 : decode cX8_readsSlots 74 = .ok (.getfield 293, 3) := by decide +kernel
theorem dX8_readsSlots_77 : decode cX8_readsSlots 77 = .ok (.ldc2_w 88, 3) := by decide +kernel
theorem dX8_readsSlots_80 : decode cX8_readsSlots 80 = .ok (.ldiv, 1) := by decide +kernel
theorem dX8_readsSlots_81 : decode cX8_readsSlots 81 = .ok (.lconst 1, 1) := by decide +kernel
theorem dX8_readsSlots_82 : decode cX8_readsSlots 82 = .ok (.ladd, 1) := by decide +kernel
theorem dX8_readsSlots_83 : decode cX8_readsSlots 83 = .ok (.goto 11, 3) := by decide +kernel
theorem dX8_readsSlots_86 : decode cX8_readsSlots 86 = .ok (.aload_n 0, 1) := by decide +kernel
theorem dX8_readsSlots_87 : decode cX8_readsSlots 87 = .ok (.getfield 293, 3) := by decide +kernel
theorem dX8_readsSlots_90 : decode cX8_readsSlots 90 = .ok (.ldc2_w 88, 3) := by decide +kernel
theorem dX8_readsSlots_93 : decode cX8_readsSlots 93 = .ok (.ldiv, 1) := by decide +kernel
theorem dX8_readsSlots_94 : decode cX8_readsSlots 94 = .ok (.lstore 6, 2) := by decide +kernel
theorem dX8_readsSlots_96 : decode cX8_readsSlots 96 = .ok (.iload 5, 2) := by decide +kernel
theorem dX8_readsSlots_98 : decode cX8_readsSlots 98 = .ok (.ifCond .ne 20, 3) := by decide +kernel
theorem dX8_readsSlots_101 : decode cX8_readsSlots 101 = .ok (.lload 6, 2) := by decide +kernel
theorem dX8_readsSlots_103 : decode cX8_readsSlots 103 = .ok (.ldc2_w 170, 3) := by decide +kernel
theorem dX8_readsSlots_106 : decode cX8_readsSlots 106 = .ok (.lcmp, 1) := by decide +kernel
theorem dX8_readsSlots_107 : decode cX8_readsSlots 107 = .ok (.ifCond .le 11, 3) := by decide +kernel
theorem dX8_readsSlots_110 : decode cX8_readsSlots 110 = .ok (.aload_n 0, 1) := by decide +kernel
theorem dX8_readsSlots_111 : decode cX8_readsSlots 111 = .ok (.iconst 2, 1) := by decide +kernel
theorem dX8_readsSlots_112 : decode cX8_readsSlots 112 = .ok (.iload 4, 2) := by decide +kernel
theorem dX8_readsSlots_114 : decode cX8_readsSlots 114 = .ok (.invokevirtual 297, 3) := by decide +kernel
theorem dX8_readsSlots_117 : decode cX8_readsSlots 117 = .ok (.ireturn, 1) := by decide +kernel
theorem dX8_readsSlots_118 : decode cX8_readsSlots 118 = .ok (.lload 6, 2) := by decide +kernel
theorem dX8_readsSlots_120 : decode cX8_readsSlots 120 = .ok (.lconst 0, 1) := by decide +kernel
theorem dX8_readsSlots_121 : decode cX8_readsSlots 121 = .ok (.lcmp, 1) := by decide +kernel
theorem dX8_readsSlots_122 : decode cX8_readsSlots 122 = .ok (.ifCond .eq 32, 3) := by decide +kernel
theorem dX8_readsSlots_125 : decode cX8_readsSlots 125 = .ok (.iload 5, 2) := by decide +kernel
theorem dX8_readsSlots_127 : decode cX8_readsSlots 127 = .ok (.ifCond .eq 7, 3) := by decide +kernel
theorem dX8_readsSlots_130 : decode cX8_readsSlots 130 = .ok (.iload_n 3, 1) := by decide +kernel
theorem dX8_readsSlots_131 : decode cX8_readsSlots 131 = .ok (.ifCond .ge 23, 3) := by decide +kernel
theorem dX8_readsSlots_134 : decode cX8_readsSlots 134 = .ok (.iload_n 2, 1) := by decide +kernel
theorem dX8_readsSlots_135 : decode cX8_readsSlots 135 = .ok (.i2l, 1) := by decide +kernel
theorem dX8_readsSlots_136 : decode cX8_readsSlots 136 = .ok (.iload 5, 2) := by decide +kernel
theorem dX8_readsSlots_138 : decode cX8_readsSlots 138 = .ok (.ifCond .eq 8, 3) := by decide +kernel
theorem dX8_readsSlots_141 : decode cX8_readsSlots 141 = .ok (.lload 6, 2) := by decide +kernel
theorem dX8_readsSlots_143 : decode cX8_readsSlots 143 = .ok (.goto 4, 3) := by decide +kernel
theorem dX8_readsSlots_146 : decode cX8_readsSlots 146 = .ok (.lconst 1, 1) := by decide +kernel
theorem dX8_readsSlots_147 : decode cX8_readsSlots 147 = .ok (.ladd, 1) := by decide +kernel
theorem dX8_readsSlots_148 : decode cX8_readsSlots 148 = .ok (.iload_n 1, 1) := by decide +kernel
theorem dX8_readsSlots_149 : decode cX8_readsSlots 149 = .ok (.i2l, 1) := by decide +kernel
theorem dX8_readsSlots_150 : decode cX8_readsSlots 150 = .ok (.lcmp, 1) := by decide +kernel
theorem dX8_readsSlots_151 : decode cX8_readsSlots 151 = .ok (.ifCond .le 11, 3) := by decide +kernel
theorem dX8_readsSlots_154 : decode cX8_readsSlots 154 = .ok (.aload_n 0, 1) := by decide +kernel
theorem dX8_readsSlots_155 : decode cX8_readsSlots 155 = .ok (.iconst 3, 1) := by decide +kernel
theorem dX8_readsSlots_156 : decode cX8_readsSlots 156 = .ok (.iload 4, 2) := by decide +kernel
theorem dX8_readsSlots_158 : decode cX8_readsSlots 158 = .ok (.invokevirtual 297, 3) := by decide +kernel
theorem dX8_readsSlots_161 : decode cX8_readsSlots 161 = .ok (.ireturn, 1) := by decide +kernel
theorem dX8_readsSlots_162 : decode cX8_readsSlots 162 = .ok (.iload 5, 2) := by decide +kernel
theorem dX8_readsSlots_164 : decode cX8_readsSlots 164 = .ok (.ifCond .ne 11, 3) := by decide +kernel
theorem dX8_readsSlots_167 : decode cX8_readsSlots 167 = .ok (.aload_n 0, 1) := by decide +kernel
theorem dX8_readsSlots_168 : decode cX8_readsSlots 168 = .ok (.getfield 40, 3) := by decide +kernel
theorem dX8_readsSlots_171 : decode cX8_readsSlots 171 = .ok (.iload_n 2, 1) := by decide +kernel
theorem dX8_readsSlots_172 : decode cX8_readsSlots 172 = .ok (.lload 6, 2) := by decide +kernel
theorem dX8_readsSlots_174 : decode cX8_readsSlots 174 = .ok (.lastore, 1) := by decide +kernel
theorem dX8_readsSlots_175 : decode cX8_readsSlots 175 = .ok (.iload_n 2, 1) := by decide +kernel
theorem dX8_readsSlots_176 : decode cX8_readsSlots 176 = .ok (.iload 5, 2) := by decide +kernel
theorem dX8_readsSlots_178 : decode cX8_readsSlots 178 = .ok (.ifCond .eq 9, 3) := by decide +kernel
theorem dX8_readsSlots_181 : decode cX8_readsSlots 181 = .ok (.lload 6, 2) := by decide +kernel
theorem dX8_readsSlots_183 : decode cX8_readsSlots 183 = .ok (.l2i, 1) := by decide +kernel
theorem dX8_readsSlots_184 : decode cX8_readsSlots 184 = .ok (.goto 4, 3) := by decide +kernel
theorem dX8_readsSlots_187 : decode cX8_readsSlots 187 = .ok (.iconst 1, 1) := by decide +kernel
theorem dX8_readsSlots_188 : decode cX8_readsSlots 188 = .ok (.iadd, 1) := by decide +kernel
theorem dX8_readsSlots_189 : decode cX8_readsSlots 189 = .ok (.istore_n 2, 1) := by decide +kernel
theorem dX8_readsSlots_190 : decode cX8_readsSlots 190 = .ok (.iload 5, 2) := by decide +kernel
theorem dX8_readsSlots_192 : decode cX8_readsSlots 192 = .ok (.ifCond .eq 8, 3) := by decide +kernel
theorem dX8_readsSlots_195 : decode cX8_readsSlots 195 = .ok (.iload 4, 2) := by decide +kernel
theorem dX8_readsSlots_197 : decode cX8_readsSlots 197 = .ok (.goto 4, 3) := by decide +kernel
theorem dX8_readsSlots_200 : decode cX8_readsSlots 200 = .ok (.iconst (-1), 1) := by decide +kernel
theorem dX8_readsSlots_201 : decode cX8_readsSlots 201 = .ok (.istore_n 3, 1) := by decide +kernel
theorem dX8_readsSlots_202 : decode cX8_readsSlots 202 = .ok (.goto (-180), 3) := by decide +kernel
theorem dX8_readsSlots_205 : decode cX8_readsSlots 205 = .ok (.iload_n 3, 1) := by decide +kernel
theorem dX8_readsSlots_206 : decode cX8_readsSlots 206 = .ok (.ifCond .lt 12, 3) := by decide +kernel
theorem dX8_readsSlots_209 : decode cX8_readsSlots 209 = .ok (.aload_n 0, 1) := by decide +kernel
theorem dX8_readsSlots_210 : decode cX8_readsSlots 210 = .ok (.iconst 4, 1) := by decide +kernel
theorem dX8_readsSlots_211 : decode cX8_readsSlots 211 = .ok (.iload_n 3, 1) := by decide +kernel
theorem dX8_readsSlots_212 : decode cX8_readsSlots 212 = .ok (.invokevirtual 297, 3) := by decide +kernel
theorem dX8_readsSlots_215 : decode cX8_readsSlots 215 = .ok (.ifCond .eq 7, 3) := by decide +kernel
theorem dX8_readsSlots_218 : decode cX8_readsSlots 218 = .ok (.iconst 1, 1) := by decide +kernel
theorem dX8_readsSlots_219 : decode cX8_readsSlots 219 = .ok (.goto 4, 3) := by decide +kernel
theorem dX8_readsSlots_222 : decode cX8_readsSlots 222 = .ok (.iconst 0, 1) := by decide +kernel
theorem dX8_readsSlots_223 : decode cX8_readsSlots 223 = .ok (.ireturn, 1) := by decide +kernel
theorem dX8_unpack_0 : decode cX8_unpack 0 = .ok (.iload_n 1, 1) := by decide +kernel
theorem dX8_unpack_1 : decode cX8_unpack 1 = .ok (.i2l, 1) := by decide +kernel
theorem dX8_unpack_2 : decode cX8_unpack 2 = .ok (.lconst 0, 1) := by decide +kernel
theorem dX8_unpack_3 : decode cX8_unpack 3 = .ok (.ldc2_w 102, 3) := by decide +kernel
theorem dX8_unpack_6 : decode cX8_unpack 6 = .ok (.invokestatic 68, 3) := by decide +kernel
theorem dX8_unpack_9 : decode cX8_unpack 9 = .ok (.ifCond .ne 5, 3) := by decide +kernel
theorem dX8_unpack_12 : decode cX8_unpack 12 = .ok (.iconst (-1), 1) := by decide +kernel
theorem dX8_unpack_13 : decode cX8_unpack 13 = .ok (.ireturn, 1) := by decide +kernel
theorem dX8_unpack_14 : decode cX8_unpack 14 = .ok (.aload_n 0, 1) := by decide +kernel
theorem dX8_unpack_15 : decode cX8_unpack 15 = .ok (.invokevirtual 315, 3) := by decide +kernel
theorem dX8_unpack_18 : decode cX8_unpack 18 = .ok (.ifCond .eq 14, 3) := by decide +kernel
theorem dX8_unpack_21 : decode cX8_unpack 21 = .ok (.aload_n 0, 1) := by decide +kernel
theorem dX8_unpack_22 : decode cX8_unpack 22 = .ok (.invokevirtual 318, 3) := by decide +kernel
theorem dX8_unpack_25 : decode cX8_unpack 25 = .ok (.ifCond .eq 7, 3) := by decide +kernel
theorem dX8_unpack_28 : decode cX8_unpack 28 = .ok (.iconst 1, 1) := by decide +kernel
theorem dX8_unpack_29 : decode cX8_unpack 29 = .ok (.goto 4, 3) := by decide +kernel
theorem dX8_unpack_32 : decode cX8_unpack 32 = .ok (.iconst 0, 1) := by decide +kernel
theorem dX8_unpack_33 : decode cX8_unpack 33 = .ok (.istore_n 2, 1) := by decide +kernel
theorem dX8_unpack_34 : decode cX8_unpack 34 = .ok (.aload_n 0, 1) := by decide +kernel
theorem dX8_unpack_35 : decode cX8_unpack 35 = .ok (.iconst 0, 1) := by decide +kernel
theorem dX8_unpack_36 : decode cX8_unpack 36 = .ok (.putfield 65, 3) := by decide +kernel
theorem dX8_unpack_39 : decode cX8_unpack 39 = .ok (.iload_n 2, 1) := by decide +kernel
theorem dX8_unpack_40 : decode cX8_unpack 40 = .ok (.ifCond .ne 11, 3) := by decide +kernel
theorem dX8_unpack_43 : decode cX8_unpack 43 = .ok (.bipush (-2), 2) := by decide +kernel
theorem dX8_unpack_45 : decode cX8_unpack 45 = .ok (.aload_n 0, 1) := by decide +kernel
theorem dX8_unpack_46 : decode cX8_unpack 46 = .ok (.getfield 287, 3) := by decide +kernel
theorem dX8_unpack_49 : decode cX8_unpack 49 = .ok (.isub, 1) := by decide +kernel
theorem dX8_unpack_50 : decode cX8_unpack 50 = .ok (.ireturn, 1) := by decide +kernel
theorem dX8_unpack_51 : decode cX8_unpack 51 = .ok (.aload_n 0, 1) := by decide +kernel
theorem dX8_unpack_52 : decode cX8_unpack 52 = .ok (.invokevirtual 115, 3) := by decide +kernel
theorem dX8_unpack_55 : decode cX8_unpack 55 = .ok (.aload_n 0, 1) := by decide +kernel
theorem dX8_unpack_56 : decode cX8_unpack 56 = .ok (.iload_n 1, 1) := by decide +kernel
theorem dX8_unpack_57 : decode cX8_unpack 57 = .ok (.aload_n 0, 1) := by decide +kernel
theorem dX8_unpack_58 : decode cX8_unpack 58 = .ok (.getfield 302, 3) := by decide +kernel
theorem dX8_unpack_61 : decode cX8_unpack 61 = .ok (.aload_n 0, 1) := by decide +kernel
theorem dX8_unpack_62 : decode cX8_unpack 62 = .ok (.getfield 305, 3) := by decide +kernel
theorem dX8_unpack_65 : decode cX8_unpack 65 = .ok (.aload_n 0, 1) := by decide +kernel
theorem dX8_unpack_66 : decode cX8_unpack 66 = .ok (.getfield 312, 3) := by decide +kernel
theorem dX8_unpack_69 : decode cX8_unpack 69 = .ok (.invokevirtual 118, 3) := by decide +kernel
theorem dX8_unpack_72 : decode cX8_unpack 72 = .ok (.iconst 0, 1) := by decide +kernel
theorem dX8_unpack_73 : decode cX8_unpack 73 = .ok (.istore_n 3, 1) := by decide +kernel
theorem dX8_unpack_74 : decode cX8_unpack 74 = .ok (.iload_n 3, 1) := by decide +kernel
theorem dX8_unpack_75 : decode cX8_unpack 75 = .ok (.aload_n 0, 1) := by decide +kernel
theorem dX8_unpack_76 : decode cX8_unpack 76 = .ok (.iload_n 1, 1) := by decide +kernel
theorem dX8_unpack_77 : decode cX8_unpack 77 = .ok (.iconst 2, 1) := by decide +kernel
theorem dX8_unpack_78 : decode cX8_unpack 78 = .ok (.invokevirtual 104, 3) := by decide +kernel
theorem dX8_unpack_81 : decode cX8_unpack 81 = .ok (.if_icmp .ge 27, 3) := by decide +kernel
theorem dX8_unpack_84 : decode cX8_unpack 84 = .ok (.aload_n 0, 1) := by decide +kernel
theorem dX8_unpack_85 : decode cX8_unpack 85 = .ok (.getfield 21, 3) := by decide +kernel
theorem dX8_unpack_88 : decode cX8_unpack 88 = .ok (.sipush 4352, 3) := by decide +kernel
theorem dX8_unpack_91 : decode cX8_unpack 91 = .ok (.iload_n 1, 1) := by decide +kernel
theorem dX8_unpack_92 : decode cX8_unpack 92 = .ok (.imul, 1) := by decide +kernel
theorem dX8_unpack_93 : decode cX8_unpack 93 = .ok (.iload_n 3, 1) := by decide +kernel
theorem dX8_unpack_94 : decode cX8_unpack 94 = .ok (.iadd, 1) := by decide +kernel
theorem dX8_unpack_95 : decode cX8_unpack 95 = .ok (.aload_n 0, 1) := by decide +kernel
theorem dX8_unpack_96 : decode cX8_unpack 96 = .ok (.getfield 40, 3) := by decide +kernel
theorem dX8_unpack_99 : decode cX8_unpack 99 = .ok (.iload_n 3, 1) := by decide +kernel
theorem dX8_unpack_100 : decode cX8_unpack 100 = .ok (.laload, 1) := by decide +kernel
theorem dX8_unpack_101 : decode cX8_unpack 101 = .ok (.lastore, 1) := by decide +kernel
theorem dX8_unpack_102 : decode cX8_unpack 102 = .ok (.iinc 3 1, 3) := by decide +kernel
theorem dX8_unpack_105 : decode cX8_unpack 105 = .ok (.goto (-31), 3) := by decide +kernel
theorem dX8_unpack_108 : decode cX8_unpack 108 = .ok (.aload_n 0, 1) := by decide +kernel
theorem dX8_unpack_109 : decode cX8_unpack 109 = .ok (.iload_n 1, 1) := by decide +kernel
theorem dX8_unpack_110 : decode cX8_unpack 110 = .ok (.invokevirtual 164, 3) := by decide +kernel
theorem dX8_unpack_113 : decode cX8_unpack 113 = .ok (.istore_n 3, 1) := by decide +kernel
theorem dX8_unpack_114 : decode cX8_unpack 114 = .ok (.aload_n 0, 1) := by decide +kernel
theorem dX8_unpack_115 : decode cX8_unpack 115 = .ok (.iload_n 1, 1) := by decide +kernel
theorem dX8_unpack_116 : decode cX8_unpack 116 = .ok (.iconst 2, 1) := by decide +kernel
theorem dX8_unpack_117 : decode cX8_unpack 117 = .ok (.invokevirtual 104, 3) := by decide +kernel
theorem dX8_unpack_120 : decode cX8_unpack 120 = .ok (.ireturn, 1) := by decide +kernel
theorem dX8_isWriting_0 : decode cX8_isWriting 0 = .ok (.iload_n 1, 1) := by decide +kernel
theorem dX8_isWriting_1 : decode cX8_isWriting 1 = .ok (.i2l, 1) := by decide +kernel
theorem dX8_isWriting_2 : decode cX8_isWriting 2 = .ok (.lconst 0, 1) := by decide +kernel
theorem dX8_isWriting_3 : decode cX8_isWriting 3 = .ok (.ldc2_w 102, 3) := by decide +kernel
theorem dX8_isWriting_6 : decode cX8_isWriting 6 = .ok (.invokestatic 68, 3) := by decide +kernel
theorem dX8_isWriting_9 : decode cX8_isWriting 9 = .ok (.ifCond .eq 17, 3) := by decide +kernel
theorem dX8_isWriting_12 : decode cX8_isWriting 12 = .ok (.aload_n 0, 1) := by decide +kernel
theorem dX8_isWriting_13 : decode cX8_isWriting 13 = .ok (.getfield 37, 3) := by decide +kernel
theorem dX8_isWriting_16 : decode cX8_isWriting 16 = .ok (.iload_n 1, 1) := by decide +kernel
theorem dX8_isWriting_17 : decode cX8_isWriting 17 = .ok (.iaload, 1) := by decide +kernel
theorem dX8_isWriting_18 : decode cX8_isWriting 18 = .ok (.iconst (-1), 1) := by decide +kernel
theorem dX8_isWriting_19 : decode cX8_isWriting 19 = .ok (.if_icmp .eq 7, 3) := by decide +kernel
theorem dX8_isWriting_22 : decode cX8_isWriting 22 = .ok (.iconst 1, 1) := by decide +kernel
theorem dX8_isWriting_23 : decode cX8_isWriting 23 = .ok (.goto 4, 3) := by decide +kernel
theorem dX8_isWriting_26 : decode cX8_isWriting 26 = .ok (.iconst 0, 1) := by decide +kernel
theorem dX8_isWriting_27 : decode cX8_isWriting 27 = .ok (.ireturn, 1) := by decide +kernel
theorem dX8_begin_0 : decode cX8_begin 0 = .ok (.iload_n 1, 1) := by decide +kernel
theorem dX8_begin_1 : decode cX8_begin 1 = .ok (.i2l, 1) := by decide +kernel
theorem dX8_begin_2 : decode cX8_begin 2 = .ok (.lconst 0, 1) := by decide +kernel
theorem dX8_begin_3 : decode cX8_begin 3 = .ok (.ldc2_w 102, 3) := by decide +kernel
theorem dX8_begin_6 : decode cX8_begin 6 = .ok (.invokestatic 68, 3) := by decide +kernel
theorem dX8_begin_9 : decode cX8_begin 9 = .ok (.ifCond .eq 22, 3) := by decide +kernel
theorem dX8_begin_12 : decode cX8_begin 12 = .ok (.aload_n 0, 1) := by decide +kernel
theorem dX8_begin_13 : decode cX8_begin 13 = .ok (.iload_n 1, 1) := by decide +kernel
theorem dX8_begin_14 : decode cX8_begin 14 = .ok (.invokevirtual 321, 3) := by decide +kernel
theorem dX8_begin_17 : decode cX8_begin 17 = .ok (.ifCond .ne 14, 3) := by decide +kernel
theorem dX8_begin_20 : decode cX8_begin 20 = .ok (.aload_n 0, 1) := by decide +kernel
theorem dX8_begin_21 : decode cX8_begin 21 = .ok (.aload_n 0, 1) := by decide +kernel
theorem dX8_begin_22 : decode cX8_begin 22 = .ok (.getfield 324, 3) := by decide +kernel
theorem dX8_begin_25 : decode cX8_begin 25 = .ok (.invokevirtual 160, 3) := by decide +kernel
theorem dX8_begin_28 : decode cX8_begin 28 = .ok (.ifCond .ne 5, 3) := by decide +kernel
theorem dX8_begin_31 : decode cX8_begin 31 = .ok (.iconst (-1), 1) := by decide +kernel
theorem dX8_begin_32 : decode cX8_begin 32 = .ok (.ireturn, 1) := by decide +kernel
theorem dX8_begin_33 : decode cX8_begin 33 = .ok (.aload_n 0, 1) := by decide +kernel
theorem dX8_begin_34 : decode cX8_begin 34 = .ok (.invokevirtual 115, 3) := by decide +kernel
theorem dX8_begin_37 : decode cX8_begin 37 = .ok (.aload_n 0, 1) := by decide +kernel
theorem dX8_begin_38 : decode cX8_begin 38 = .ok (.getfield 37, 3) := by decide +kernel
theorem dX8_begin_41 : decode cX8_begin 41 = .ok (.iload_n 1, 1) := by decide +kernel
theorem dX8_begin_42 : decode cX8_begin 42 = .ok (.aload_n 0, 1) := by decide +kernel
theorem dX8_begin_43 : decode cX8_begin 43 = .ok (.getfield 324, 3) := by decide +kernel
theorem dX8_begin_46 : decode cX8_begin 46 = .ok (.iastore, 1) := by decide +kernel
theorem dX8_begin_47 : decode cX8_begin 47 = .ok (.aload_n 0, 1) := by decide +kernel
theorem dX8_begin_48 : decode cX8_begin 48 = .ok (.getfield 324, 3) := by decide +kernel
theorem dX8_begin_51 : decode cX8_begin 51 = .ok (.ireturn, 1) := by decide +kernel
theorem dX8_write_0 : decode cX8_write 0 = .ok (.aload_n 0, 1) := by decide +kernel
theorem dX8_write_1 : decode cX8_write 1 = .ok (.iload_n 1, 1) := by decide +kernel
theorem dX8_write_2 : decode cX8_write 2 = .ok (.invokevirtual 321, 3) := by decide +kernel
theorem dX8_write_5 : decode cX8_write 5 = .ok (.ifCond .eq 21, 3) := by decide +kernel
theorem dX8_write_8 : decode cX8_write 8 = .ok (.aload_n 0, 1) := by decide +kernel
theorem dX8_write_9 : decode cX8_write 9 = .ok (.aload_n 0, 1) := by decide +kernel
theorem dX8_write_10 : decode cX8_write 10 = .ok (.getfield 37, 3) := by decide +kernel
theorem dX8_write_13 : decode cX8_write 13 = .ok (.iload_n 1, 1) := by decide +kernel
theorem dX8_write_14 : decode cX8_write 14 = .ok (.iaload, 1) := by decide +kernel
theorem dX8_write_15 : decode cX8_write 15 = .ok (.lload_n 2, 1) := by decide +kernel
theorem dX8_write_16 : decode cX8_write 16 = .ok (.lload 4, 2) := by decide +kernel
theorem dX8_write_18 : decode cX8_write 18 = .ok (.lload 6, 2) := by decide +kernel
theorem dX8_write_20 : decode cX8_write 20 = .ok (.invokevirtual 191, 3) := by decide +kernel
theorem dX8_write_23 : decode cX8_write 23 = .ok (.goto 6, 3) := by decide +kernel
theorem dX8_write_26 : decode cX8_write 26 = .ok (.ldc2_w 94, 3) := by decide +kernel
theorem dX8_write_29 : decode cX8_write 29 = .ok (.lreturn, 1) := by decide +kernel
theorem dX8_writing_0 : decode cX8_writing 0 = .ok (.iconst 0, 1) := by decide +kernel
theorem dX8_writing_1 : decode cX8_writing 1 = .ok (.istore_n 1, 1) := by decide +kernel
theorem dX8_writing_2 : decode cX8_writing 2 = .ok (.iconst 0, 1) := by decide +kernel
theorem dX8_writing_3 : decode cX8_writing 3 = .ok (.istore_n 2, 1) := by decide +kernel
theorem dX8_writing_4 : decode cX8_writing 4 = .ok (.iload_n 2, 1) := by decide +kernel
theorem dX8_writing_5 : decode cX8_writing 5 = .ok (.iconst 4, 1) := by decide +kernel
theorem dX8_writing_6 : decode cX8_writing 6 = .ok (.if_icmp .ge 27, 3) := by decide +kernel
theorem dX8_writing_9 : decode cX8_writing 9 = .ok (.iload_n 1, 1) := by decide +kernel
theorem dX8_writing_10 : decode cX8_writing 10 = .ok (.aload_n 0, 1) := by decide +kernel
theorem dX8_writing_11 : decode cX8_writing 11 = .ok (.getfield 37, 3) := by decide +kernel
theorem dX8_writing_14 : decode cX8_writing 14 = .ok (.iload_n 2, 1) := by decide +kernel
theorem dX8_writing_15 : decode cX8_writing 15 = .ok (.iaload, 1) := by decide +kernel
theorem dX8_writing_16 : decode cX8_writing 16 = .ok (.iconst (-1), 1) := by decide +kernel
theorem dX8_writing_17 : decode cX8_writing 17 = .ok (.if_icmp .ne 7, 3) := by decide +kernel
theorem dX8_writing_20 : decode cX8_writing 20 = .ok (.iconst 0, 1) := by decide +kernel
theorem dX8_writing_21 : decode cX8_writing 21 = .ok (.goto 4, 3) := by decide +kernel
theorem dX8_writing_24 : decode cX8_writing 24 = .ok (.iconst 1, 1) := by decide +kernel
theorem dX8_writing_25 : decode cX8_writing 25 = .ok (.iadd, 1) := by decide +kernel
theorem dX8_writing_26 : decode cX8_writing 26 = .ok (.istore_n 1, 1) := by decide +kernel
theorem dX8_writing_27 : decode cX8_writing 27 = .ok (.iinc 2 1, 3) := by decide +kernel
theorem dX8_writing_30 : decode cX8_writing 30 = .ok (.goto (-26), 3) := by decide +kernel
theorem dX8_writing_33 : decode cX8_writing 33 = .ok (.iload_n 1, 1) := by decide +kernel
theorem dX8_writing_34 : decode cX8_writing 34 = .ok (.ireturn, 1) := by decide +kernel
theorem dX8_stop_0 : decode cX8_stop 0 = .ok (.aload_n 0, 1) := by decide +kernel
theorem dX8_stop_1 : decode cX8_stop 1 = .ok (.iload_n 1, 1) := by decide +kernel
theorem dX8_stop_2 : decode cX8_stop 2 = .ok (.invokevirtual 321, 3) := by decide +kernel
theorem dX8_stop_5 : decode cX8_stop 5 = .ok (.ifCond .ne 5, 3) := by decide +kernel
theorem dX8_stop_8 : decode cX8_stop 8 = .ok (.iconst (-1), 1) := by decide +kernel
theorem dX8_stop_9 : decode cX8_stop 9 = .ok (.ireturn, 1) := by decide +kernel
theorem dX8_stop_10 : decode cX8_stop 10 = .ok (.aload_n 0, 1) := by decide +kernel
theorem dX8_stop_11 : decode cX8_stop 11 = .ok (.invokevirtual 115, 3) := by decide +kernel
theorem dX8_stop_14 : decode cX8_stop 14 = .ok (.aload_n 0, 1) := by decide +kernel
theorem dX8_stop_15 : decode cX8_stop 15 = .ok (.getfield 37, 3) := by decide +kernel
theorem dX8_stop_18 : decode cX8_stop 18 = .ok (.iload_n 1, 1) := by decide +kernel
theorem dX8_stop_19 : decode cX8_stop 19 = .ok (.iconst (-1), 1) := by decide +kernel
theorem dX8_stop_20 : decode cX8_stop 20 = .ok (.iastore, 1) := by decide +kernel
theorem dX8_stop_21 : decode cX8_stop 21 = .ok (.aload_n 0, 1) := by decide +kernel
theorem dX8_stop_22 : decode cX8_stop 22 = .ok (.invokevirtual 327, 3) := by decide +kernel
theorem dX8_stop_25 : decode cX8_stop 25 = .ok (.ireturn, 1) := by decide +kernel
theorem dX8_isWrittenTo_0 : decode cX8_isWrittenTo 0 = .ok (.iconst 0, 1) := by decide +kernel
theorem dX8_isWrittenTo_1 : decode cX8_isWrittenTo 1 = .ok (.istore_n 2, 1) := by decide +kernel
theorem dX8_isWrittenTo_2 : decode cX8_isWrittenTo 2 = .ok (.iload_n 2, 1) := by decide +kernel
theorem dX8_isWrittenTo_3 : decode cX8_isWrittenTo 3 = .ok (.iconst 4, 1) := by decide +kernel
theorem dX8_isWrittenTo_4 : decode cX8_isWrittenTo 4 = .ok (.if_icmp .ge 21, 3) := by decide +kernel
theorem dX8_isWrittenTo_7 : decode cX8_isWrittenTo 7 = .ok (.aload_n 0, 1) := by decide +kernel
theorem dX8_isWrittenTo_8 : decode cX8_isWrittenTo 8 = .ok (.getfield 37, 3) := by decide +kernel
theorem dX8_isWrittenTo_11 : decode cX8_isWrittenTo 11 = .ok (.iload_n 2, 1) := by decide +kernel
theorem dX8_isWrittenTo_12 : decode cX8_isWrittenTo 12 = .ok (.iaload, 1) := by decide +kernel
theorem dX8_isWrittenTo_13 : decode cX8_isWrittenTo 13 = .ok (.iload_n 1, 1) := by decide +kernel
theorem dX8_isWrittenTo_14 : decode cX8_isWrittenTo 14 = .ok (.if_icmp .ne 5, 3) := by decide +kernel
theorem dX8_isWrittenTo_17 : decode cX8_isWrittenTo 17 = .ok (.iconst 1, 1) := by decide +kernel
theorem dX8_isWrittenTo_18 : decode cX8_isWrittenTo 18 = .ok (.ireturn, 1) := by decide +kernel
theorem dX8_isWrittenTo_19 : decode cX8_isWrittenTo 19 = .ok (.iinc 2 1, 3) := by decide +kernel
theorem dX8_isWrittenTo_22 : decode cX8_isWrittenTo 22 = .ok (.goto (-20), 3) := by decide +kernel
theorem dX8_isWrittenTo_25 : decode cX8_isWrittenTo 25 = .ok (.iconst 0, 1) := by decide +kernel
theorem dX8_isWrittenTo_26 : decode cX8_isWrittenTo 26 = .ok (.ireturn, 1) := by decide +kernel
theorem dX8_swap_0 : decode cX8_swap 0 = .ok (.aload_n 0, 1) := by decide +kernel
theorem dX8_swap_1 : decode cX8_swap 1 = .ok (.iconst 0, 1) := by decide +kernel
theorem dX8_swap_2 : decode cX8_swap 2 = .ok (.invokevirtual 160, 3) := by decide +kernel
theorem dX8_swap_5 : decode cX8_swap 5 = .ok (.ifCond .eq 11, 3) := by decide +kernel
theorem dX8_swap_8 : decode cX8_swap 8 = .ok (.aload_n 0, 1) := by decide +kernel
theorem dX8_swap_9 : decode cX8_swap 9 = .ok (.iconst 1, 1) := by decide +kernel
theorem dX8_swap_10 : decode cX8_swap 10 = .ok (.invokevirtual 160, 3) := by decide +kernel
theorem dX8_swap_13 : decode cX8_swap 13 = .ok (.ifCond .ne 5, 3) := by decide +kernel
theorem dX8_swap_16 : decode cX8_swap 16 = .ok (.iconst (-1), 1) := by decide +kernel
theorem dX8_swap_17 : decode cX8_swap 17 = .ok (.ireturn, 1) := by decide +kernel
theorem dX8_swap_18 : decode cX8_swap 18 = .ok (.aload_n 0, 1) := by decide +kernel
theorem dX8_swap_19 : decode cX8_swap 19 = .ok (.iconst 1, 1) := by decide +kernel
theorem dX8_swap_20 : decode cX8_swap 20 = .ok (.aload_n 0, 1) := by decide +kernel
theorem dX8_swap_21 : decode cX8_swap 21 = .ok (.getfield 324, 3) := by decide +kernel
theorem dX8_swap_24 : decode cX8_swap 24 = .ok (.isub, 1) := by decide +kernel
theorem dX8_swap_25 : decode cX8_swap 25 = .ok (.invokevirtual 331, 3) := by decide +kernel
theorem dX8_swap_28 : decode cX8_swap 28 = .ok (.ifCond .eq 6, 3) := by decide +kernel
theorem dX8_swap_31 : decode cX8_swap 31 = .ok (.bipush (-2), 2) := by decide +kernel
theorem dX8_swap_33 : decode cX8_swap 33 = .ok (.ireturn, 1) := by decide +kernel
theorem dX8_swap_34 : decode cX8_swap 34 = .ok (.aload_n 0, 1) := by decide +kernel
theorem dX8_swap_35 : decode cX8_swap 35 = .ok (.invokevirtual 115, 3) := by decide +kernel
theorem dX8_swap_38 : decode cX8_swap 38 = .ok (.aload_n 0, 1) := by decide +kernel
theorem dX8_swap_39 : decode cX8_swap 39 = .ok (.iconst 1, 1) := by decide +kernel
theorem dX8_swap_40 : decode cX8_swap 40 = .ok (.aload_n 0, 1) := by decide +kernel
theorem dX8_swap_41 : decode cX8_swap 41 = .ok (.getfield 324, 3) := by decide +kernel
theorem dX8_swap_44 : decode cX8_swap 44 = .ok (.isub, 1) := by decide +kernel
theorem dX8_swap_45 : decode cX8_swap 45 = .ok (.invokevirtual 107, 3) := by decide +kernel
theorem dX8_swap_48 : decode cX8_swap 48 = .ok (.aload_n 0, 1) := by decide +kernel
theorem dX8_swap_49 : decode cX8_swap 49 = .ok (.aload_n 0, 1) := by decide +kernel
theorem dX8_swap_50 : decode cX8_swap 50 = .ok (.getfield 324, 3) := by decide +kernel
theorem dX8_swap_53 : decode cX8_swap 53 = .ok (.putfield 33, 3) := by decide +kernel
theorem dX8_swap_56 : decode cX8_swap 56 = .ok (.aload_n 0, 1) := by decide +kernel
theorem dX8_swap_57 : decode cX8_swap 57 = .ok (.iconst 1, 1) := by decide +kernel
theorem dX8_swap_58 : decode cX8_swap 58 = .ok (.aload_n 0, 1) := by decide +kernel
theorem dX8_swap_59 : decode cX8_swap 59 = .ok (.getfield 324, 3) := by decide +kernel
