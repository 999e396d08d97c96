set_option maxHeartbeats 4000000 in
set_option maxRecDepth 100000 in
theorem c_X8_init {l : Launch} {D : va_G} {cB cI cJ cL cS : ClassId} {T : Nat × Nat × Nat × Nat} {a0 : Nat} : CtN l D (Z5 cB cI cJ cL cS) T yX8_init cX8_init 2 ({ frames := 1, cells := 16, slots := 338312, locals := 20 } : Room) [.ref a0] [(a0, .inr (8, [.null, .int 0, .null, .null, .null, .null, .null, .null, .int 0, .int 0, .null, .null, .null, .int 0, .int 0, .int 0, .long 0, .int 0, .int 0, .long 0, .null, .null, .null, .null, .null, .null, .int 0]))] (fun (x : (Nat → Nat) × (Nat → Int32)) => (wM cB cI cJ x.1 (fun _ => 0) 0 (fun _ => 0) (fun _ => 0) (fun _ => 0) (fun _ => 0) (fun _ => 0) (fun _ => 0) 0 (-1) x.2 (fun _ => 0) (fun _ => 0) 0 0 0 0 0 0 0 (fun _ => 0) (fun _ => 0) (fun _ => 0) (fun _ => 0) (fun _ => 0) (fun _ => 0) 0)) (fun x => x.1 0 = a0 ∧ ∀ j : Nat, j < 4 → x.2 j = -1) 16 338312 := by
  refine ctN_of (own := RX8) (by decide +kernel) rfl rfl (Nat.le_of_ble_eq_true rfl) (fun p e s m below meth c A C hin => ?_)
  refine w_sub (lv' := [(0, .ref a0)]) C [0] rfl ?_
  refine w_aload_n C 0 dX8_init_0 rfl ?_
  refine w_objInit C k_816 (Nat.le_of_ble_eq_true rfl) (Nat.le_of_ble_eq_true rfl) dX8_init_1 ?_
  refine w_aload_n C 0 dX8_init_4 rfl ?_
  refine w_sipush C (v := (400 : Int32)) dX8_init_5 (by decide) ?_
  refine w_newaB C 400 0 k_900 rfl (by decide) (by decide) (Nat.le_of_ble_eq_true rfl) (Nat.le_of_ble_eq_true rfl) (Nat.le_of_ble_eq_true rfl) dX8_init_8 (fun q1 => ?_)
  refine w_putF C (T1 := TX8) (ty := .array .byte) 0 0 u_X8 tyX8 tyX8_ok nmX8 k_818 rfl (by decide) rfl rfl hin rfl (by decide +kernel) rfl rfl (Nat.le_of_ble_eq_true rfl) ((a0, .inr (8, [.ref q1, .int 0, .null, .null, .null, .null, .null, .null, .int 0, .int (0), .null, .null, .null, .int 0, .int 0, .int 0, .long 0, .int 0, .int 0, .long 0, .null, .null, .null, .null, .null, .null, .int 0])) :: [(q1, .inl (cB, 400, .inl (fun _ => 0)))]) rfl dX8_init_10 ?_
  refine w_aload_n C 0 dX8_init_13 rfl ?_
  refine w_bipush C (v := (16 : Int32)) dX8_init_14 (by decide) ?_
  refine w_newaI C 16 1 k_111 rfl (by decide) (by decide) (Nat.le_of_ble_eq_true rfl) (Nat.le_of_ble_eq_true rfl) (Nat.le_of_ble_eq_true rfl) dX8_init_16 (fun q2 => ?_)
  refine w_putF C (T1 := TX8) (ty := .array .int) 0 2 u_X8 tyX8 tyX8_ok nmX8 k_820 rfl (by decide) rfl rfl hin rfl (by decide +kernel) rfl rfl (Nat.le_of_ble_eq_true rfl) ((a0, .inr (8, [.ref q1, .int 0, .ref q2, .null, .null, .null, .null, .null, .int 0, .int (0), .null, .null, .null, .int 0, .int 0, .int 0, .long 0, .int 0, .int 0, .long 0, .null, .null, .null, .null, .null, .null, .int 0])) :: [(q1, .inl (cB, 400, .inl (fun _ => 0))), (q2, .inl (cI, 16, .inl (fun _ => 0)))]) rfl dX8_init_18 ?_
  refine w_aload_n C 0 dX8_init_21 rfl ?_
  refine w_iconst C (v := (4 : Int32)) dX8_init_22 (by decide) ?_
  refine w_newaJ C 4 2 k_183 rfl (by decide) (by decide) (Nat.le_of_ble_eq_true rfl) (Nat.le_of_ble_eq_true rfl) (Nat.le_of_ble_eq_true rfl) dX8_init_23 (fun q3 => ?_)
  refine w_putF C (T1 := TX8) (ty := .array .long) 0 3 u_X8 tyX8 tyX8_ok nmX8 k_821 rfl (by decide) rfl rfl hin rfl (by decide +kernel) rfl rfl (Nat.le_of_ble_eq_true rfl) ((a0, .inr (8, [.ref q1, .int 0, .ref q2, .ref q3, .null, .null, .null, .null, .int 0, .int (0), .null, .null, .null, .int 0, .int 0, .int 0, .long 0, .int 0, .int 0, .long 0, .null, .null, .null, .null, .null, .null, .int 0])) :: [(q1, .inl (cB, 400, .inl (fun _ => 0))), (q2, .inl (cI, 16, .inl (fun _ => 0))), (q3, .inl (cJ, 4, .inr (.inl (fun _ => 0))))]) rfl dX8_init_25 ?_
  refine w_aload_n C 0 dX8_init_28 rfl ?_
  refine w_sipush C (v := (17408 : Int32)) dX8_init_29 (by decide) ?_
  refine w_newaJ C 17408 2 k_183 rfl (by decide) (by decide) (Nat.le_of_ble_eq_true rfl) (Nat.le_of_ble_eq_true rfl) (Nat.le_of_ble_eq_true rfl) dX8_init_32 (fun q4 => ?_)
  refine w_putF C (T1 := TX8) (ty := .array .long) 0 4 u_X8 tyX8 tyX8_ok nmX8 k_822 rfl (by decide) rfl rfl hin rfl (by decide +kernel) rfl rfl (Nat.le_of_ble_eq_true rfl) ((a0, .inr (8, [.ref q1, .int 0, .ref q2, .ref q3, .ref q4, .null, .null, .null, .int 0, .int (0), .null, .null, .null, .int 0, .int 0, .int 0, .long 0, .int 0, .int 0, .long 0, .null, .null, .null, .null, .null, .null, .int 0])) :: [(q1, .inl (cB, 400, .inl (fun _ => 0))), (q2, .inl (cI, 16, .inl (fun _ => 0))), (q3, .inl (cJ, 4, .inr (.inl (fun _ => 0)))), (q4, .inl (cJ, 17408, .inr (.inl (fun _ => 0))))]) rfl dX8_init_34 ?_
  refine w_aload_n C 0 dX8_init_37 rfl ?_
  refine w_sipush C (v := (1088 : Int32)) dX8_init_38 (by decide) ?_
  refine w_newaB C 1088 0 k_900 rfl (by decide) (by decide) (Nat.le_of_ble_eq_true rfl) (Nat.le_of_ble_eq_true rfl) (Nat.le_of_ble_eq_true rfl) dX8_init_41 (fun q5 => ?_)
  refine w_putF C (T1 := TX8) (ty := .array .byte) 0 5 u_X8 tyX8 tyX8_ok nmX8 k_823 rfl (by decide) rfl rfl hin rfl (by decide +kernel) rfl rfl (Nat.le_of_ble_eq_true rfl) ((a0, .inr (8, [.ref q1, .int 0, .ref q2, .ref q3, .ref q4, .ref q5, .null, .null, .int 0, .int (0), .null, .null, .null, .int 0, .int 0, .int 0, .long 0, .int 0, .int 0, .long 0, .null, .null, .null, .null, .null, .null, .int 0])) :: [(q1, .inl (cB, 400, .inl (fun _ => 0))), (q2, .inl (cI, 16, .inl (fun _ => 0))), (q3, .inl (cJ, 4, .inr (.inl (fun _ => 0)))), (q4, .inl (cJ, 17408, .inr (.inl (fun _ => 0)))), (q5, .inl (cB, 1088, .inl (fun _ => 0)))]) rfl dX8_init_43 ?_
  refine w_aload_n C 0 dX8_init_46 rfl ?_
  refine w_sipush C (v := (1088 : Int32)) dX8_init_47 (by decide) ?_
  refine w_newaB C 1088 0 k_900 rfl (by decide) (by decide) (Nat.le_of_ble_eq_true rfl) (Nat.le_of_ble_eq_true rfl) (Nat.le_of_ble_eq_true rfl) dX8_init_50 (fun q6 => ?_)
  refine w_putF C (T1 := TX8) (ty := .array .byte) 0 6 u_X8 tyX8 tyX8_ok nmX8 k_824 rfl (by decide) rfl rfl hin rfl (by decide +kernel) rfl rfl (Nat.le_of_ble_eq_true rfl) ((a0, .inr (8, [.ref q1, .int 0, .ref q2, .ref q3, .ref q4, .ref q5, .ref q6, .null, .int 0, .int (0), .null, .null, .null, .int 0, .int 0, .int 0, .long 0, .int 0, .int 0, .long 0, .null, .null, .null, .null, .null, .null, .int 0])) :: [(q1, .inl (cB, 400, .inl (fun _ => 0))), (q2, .inl (cI, 16, .inl (fun _ => 0))), (q3, .inl (cJ, 4, .inr (.inl (fun _ => 0)))), (q4, .inl (cJ, 17408, .inr (.inl (fun _ => 0)))), (q5, .inl (cB, 1088, .inl (fun _ => 0))), (q6, .inl (cB, 1088, .inl (fun _ => 0)))]) rfl dX8_init_52 ?_
  refine w_aload_n C 0 dX8_init_55 rfl ?_
  refine w_sipush C (v := (17408 : Int32)) dX8_init_56 (by decide) ?_
  refine w_newaB C 17408 0 k_900 rfl (by decide) (by decide) (Nat.le_of_ble_eq_true rfl) (Nat.le_of_ble_eq_true rfl) (Nat.le_of_ble_eq_true rfl) dX8_init_59 (fun q7 => ?_)
  refine w_putF C (T1 := TX8) (ty := .array .byte) 0 7 u_X8 tyX8 tyX8_ok nmX8 k_825 rfl (by decide) rfl rfl hin rfl (by decide +kernel) rfl rfl (Nat.le_of_ble_eq_true rfl) ((a0, .inr (8, [.ref q1, .int 0, .ref q2, .ref q3, .ref q4, .ref q5, .ref q6, .ref q7, .int 0, .int (0), .null, .null, .null, .int 0, .int 0, .int 0, .long 0, .int 0, .int 0, .long 0, .null, .null, .null, .null, .null, .null, .int 0])) :: [(q1, .inl (cB, 400, .inl (fun _ => 0))), (q2, .inl (cI, 16, .inl (fun _ => 0))), (q3, .inl (cJ, 4, .inr (.inl (fun _ => 0)))), (q4, .inl (cJ, 17408, .inr (.inl (fun _ => 0)))), (q5, .inl (cB, 1088, .inl (fun _ => 0))), (q6, .inl (cB, 1088, .inl (fun _ => 0))), (q7, .inl (cB, 17408, .inl (fun _ => 0)))]) rfl dX8_init_61 ?_
  refine w_aload_n C 0 dX8_init_64 rfl ?_
  refine w_iconst C (v := (-1 : Int32)) dX8_init_65 (by decide) ?_
  refine w_puti C (T1 := TX8) (ty := .int) 0 9 (fun z => ((a0, .inr (8, [.ref q1, .int 0, .ref q2, .ref q3, .ref q4, .ref q5, .ref q6, .ref q7, .int 0, .int (z), .null, .null, .null, .int 0, .int 0, .int 0, .long 0, .int 0, .int 0, .long 0, .null, .null, .null, .null, .null, .null, .int 0])) :: [(q1, .inl (cB, 400, .inl (fun _ => 0))), (q2, .inl (cI, 16, .inl (fun _ => 0))), (q3, .inl (cJ, 4, .inr (.inl (fun _ => 0)))), (q4, .inl (cJ, 17408, .inr (.inl (fun _ => 0)))), (q5, .inl (cB, 1088, .inl (fun _ => 0))), (q6, .inl (cB, 1088, .inl (fun _ => 0))), (q7, .inl (cB, 17408, .inl (fun _ => 0)))])) u_X8 tyX8 tyX8_ok nmX8 k_827 rfl (by decide) rfl rfl (by decide +kernel) rfl rfl (Nat.le_of_ble_eq_true rfl) (fun _ => rfl) dX8_init_66 (fun x e_x => ?_)
  subst e_x
  refine w_aload_n C 0 dX8_init_69 rfl ?_
  refine w_iconst C (v := (4 : Int32)) dX8_init_70 (by decide) ?_
  refine w_newaI C 4 1 k_111 rfl (by decide) (by decide) (Nat.le_of_ble_eq_true rfl) (Nat.le_of_ble_eq_true rfl) (Nat.le_of_ble_eq_true rfl) dX8_init_71 (fun q8 => ?_)
  refine w_putF C (T1 := TX8) (ty := .array .int) 0 10 u_X8 tyX8 tyX8_ok nmX8 k_828 rfl (by decide) rfl rfl hin rfl (by decide +kernel) rfl rfl (Nat.le_of_ble_eq_true rfl) ((a0, .inr (8, [.ref q1, .int 0, .ref q2, .ref q3, .ref q4, .ref q5, .ref q6, .ref q7, .int 0, .int (-1), .ref q8, .null, .null, .int 0, .int 0, .int 0, .long 0, .int 0, .int 0, .long 0, .null, .null, .null, .null, .null, .null, .int 0])) :: [(q1, .inl (cB, 400, .inl (fun _ => 0))), (q2, .inl (cI, 16, .inl (fun _ => 0))), (q3, .inl (cJ, 4, .inr (.inl (fun _ => 0)))), (q4, .inl (cJ, 17408, .inr (.inl (fun _ => 0)))), (q5, .inl (cB, 1088, .inl (fun _ => 0))), (q6, .inl (cB, 1088, .inl (fun _ => 0))), (q7, .inl (cB, 17408, .inl (fun _ => 0))), (q8, .inl (cI, 4, .inl (fun _ => 0)))]) rfl dX8_init_73 ?_
  refine w_aload_n C 0 dX8_init_76 rfl ?_
  refine w_sipush C (v := (4352 : Int32)) dX8_init_77 (by decide) ?_
  refine w_newaJ C 4352 2 k_183 rfl (by decide) (by decide) (Nat.le_of_ble_eq_true rfl) (Nat.le_of_ble_eq_true rfl) (Nat.le_of_ble_eq_true rfl) dX8_init_80 (fun q9 => ?_)
  refine w_putF C (T1 := TX8) (ty := .array .long) 0 11 u_X8 tyX8 tyX8_ok nmX8 k_829 rfl (by decide) rfl rfl hin rfl (by decide +kernel) rfl rfl (Nat.le_of_ble_eq_true rfl) ((a0, .inr (8, [.ref q1, .int 0, .ref q2, .ref q3, .ref q4, .ref q5, .ref q6, .ref q7, .int 0, .int (-1), .ref q8, .ref q9, .null, .int 0, .int 0, .int 0, .long 0, .int 0, .int 0, .long 0, .null, .null, .null, .null, .null, .null, .int 0])) :: [(q1, .inl (cB, 400, .inl (fun _ => 0))), (q2, .inl (cI, 16, .inl (fun _ => 0))), (q3, .inl (cJ, 4, .inr (.inl (fun _ => 0)))), (q4, .inl (cJ, 17408, .inr (.inl (fun _ => 0)))), (q5, .inl (cB, 1088, .inl (fun _ => 0))), (q6, .inl (cB, 1088, .inl (fun _ => 0))), (q7, .inl (cB, 17408, .inl (fun _ => 0))), (q8, .inl (cI, 4, .inl (fun _ => 0))), (q9, .inl (cJ, 4352, .inr (.inl (fun _ => 0))))]) rfl dX8_init_82 ?_
  refine w_aload_n C 0 dX8_init_85 rfl ?_
  refine w_sipush C (v := (400 : Int32)) dX8_init_86 (by decide) ?_
  refine w_newaB C 400 0 k_900 rfl (by decide) (by decide) (Nat.le_of_ble_eq_true rfl) (Nat.le_of_ble_eq_true rfl) (Nat.le_of_ble_eq_true rfl) dX8_init_89 (fun q10 => ?_)
  refine w_putF C (T1 := TX8) (ty := .array .byte) 0 12 u_X8 tyX8 tyX8_ok nmX8 k_830 rfl (by decide) rfl rfl hin rfl (by decide +kernel) rfl rfl (Nat.le_of_ble_eq_true rfl) ((a0, .inr (8, [.ref q1, .int 0, .ref q2, .ref q3, .ref q4, .ref q5, .ref q6, .ref q7, .int 0, .int (-1), .ref q8, .ref q9, .ref q10, .int 0, .int 0, .int 0, .long 0, .int 0, .int 0, .long 0, .null, .null, .null, .null, .null, .null, .int 0])) :: [(q1, .inl (cB, 400, .inl (fun _ => 0))), (q2, .inl (cI, 16, .inl (fun _ => 0))), (q3, .inl (cJ, 4, .inr (.inl (fun _ => 0)))), (q4, .inl (cJ, 17408, .inr (.inl (fun _ => 0)))), (q5, .inl (cB, 1088, .inl (fun _ => 0))), (q6, .inl (cB, 1088, .inl (fun _ => 0))), (q7, .inl (cB, 17408, .inl (fun _ => 0))), (q8, .inl (cI, 4, .inl (fun _ => 0))), (q9, .inl (cJ, 4352, .inr (.inl (fun _ => 0)))), (q10, .inl (cB, 400, .inl (fun _ => 0)))]) rfl dX8_init_91 ?_
  refine w_aload_n C 0 dX8_init_94 rfl ?_
  refine w_sipush C (v := (176 : Int32)) dX8_init_95 (by decide) ?_
  refine w_newaI C 176 1 k_111 rfl (by decide) (by decide) (Nat.le_of_ble_eq_true rfl) (Nat.le_of_ble_eq_true rfl) (Nat.le_of_ble_eq_true rfl) dX8_init_98 (fun q11 => ?_)
  refine w_putF C (T1 := TX8) (ty := .array .int) 0 20 u_X8 tyX8 tyX8_ok nmX8 k_838 rfl (by decide) rfl rfl hin rfl (by decide +kernel) rfl rfl (Nat.le_of_ble_eq_true rfl) ((a0, .inr (8, [.ref q1, .int 0, .ref q2, .ref q3, .ref q4, .ref q5, .ref q6, .ref q7, .int 0, .int (-1), .ref q8, .ref q9, .ref q10, .int 0, .int 0, .int 0, .long 0, .int 0, .int 0, .long 0, .ref q11, .null, .null, .null, .null, .null, .int 0])) :: [(q1, .inl (cB, 400, .inl (fun _ => 0))), (q2, .inl (cI, 16, .inl (fun _ => 0))), (q3, .inl (cJ, 4, .inr (.inl (fun _ => 0)))), (q4, .inl (cJ, 17408, .inr (.inl (fun _ => 0)))), (q5, .inl (cB, 1088, .inl (fun _ => 0))), (q6, .inl (cB, 1088, .inl (fun _ => 0))), (q7, .inl (cB, 17408, .inl (fun _ => 0))), (q8, .inl (cI, 4, .inl (fun _ => 0))), (q9, .inl (cJ, 4352, .inr (.inl (fun _ => 0)))), (q10, .inl (cB, 400, .inl (fun _ => 0))), (q11, .inl (cI, 176, .inl (fun _ => 0)))]) rfl dX8_init_100 ?_
  refine w_aload_n C 0 dX8_init_103 rfl ?_
  refine w_bipush C (v := (32 : Int32)) dX8_init_104 (by decide) ?_
  refine w_newaJ C 32 2 k_183 rfl (by decide) (by decide) (Nat.le_of_ble_eq_true rfl) (Nat.le_of_ble_eq_true rfl) (Nat.le_of_ble_eq_true rfl) dX8_init_106 (fun q12 => ?_)
  refine w_putF C (T1 := TX8) (ty := .array .long) 0 21 u_X8 tyX8 tyX8_ok nmX8 k_839 rfl (by decide) rfl rfl hin rfl (by decide +kernel) rfl rfl (Nat.le_of_ble_eq_true rfl) ((a0, .inr (8, [.ref q1, .int 0, .ref q2, .ref q3, .ref q4, .ref q5, .ref q6, .ref q7, .int 0, .int (-1), .ref q8, .ref q9, .ref q10, .int 0, .int 0, .int 0, .long 0, .int 0, .int 0, .long 0, .ref q11, .ref q12, .null, .null, .null, .null, .int 0])) :: [(q1, .inl (cB, 400, .inl (fun _ => 0))), (q2, .inl (cI, 16, .inl (fun _ => 0))), (q3, .inl (cJ, 4, .inr (.inl (fun _ => 0)))), (q4, .inl (cJ, 17408, .inr (.inl (fun _ => 0)))), (q5, .inl (cB, 1088, .inl (fun _ => 0))), (q6, .inl (cB, 1088, .inl (fun _ => 0))), (q7, .inl (cB, 17408, .inl (fun _ => 0))), (q8, .inl (cI, 4, .inl (fun _ => 0))), (q9, .inl (cJ, 4352, .inr (.inl (fun _ => 0)))), (q10, .inl (cB, 400, .inl (fun _ => 0))), (q11, .inl (cI, 176, .inl (fun _ => 0))), (q12, .inl (cJ, 32, .inr (.inl (fun _ => 0))))]) rfl dX8_init_108 ?_
  refine w_aload_n C 0 dX8_init_111 rfl ?_
  refine w_ldc C (v := (139264 : Int32)) dX8_init_112 k_817 ?_
  refine w_newaJ C 139264 2 k_183 rfl (by decide) (by decide) (Nat.le_of_ble_eq_true rfl) (Nat.le_of_ble_eq_true rfl) (Nat.le_of_ble_eq_true rfl) dX8_init_114 (fun q13 => ?_)
  refine w_putF C (T1 := TX8) (ty := .array .long) 0 22 u_X8 tyX8 tyX8_ok nmX8 k_840 rfl (by decide) rfl rfl hin rfl (by decide +kernel) rfl rfl (Nat.le_of_ble_eq_true rfl) ((a0, .inr (8, [.ref q1, .int 0, .ref q2, .ref q3, .ref q4, .ref q5, .ref q6, .ref q7, .int 0, .int (-1), .ref q8, .ref q9, .ref q10, .int 0, .int 0, .int 0, .long 0, .int 0, .int 0, .long 0, .ref q11, .ref q12, .ref q13, .null, .null, .null, .int 0])) :: [(q1, .inl (cB, 400, .inl (fun _ => 0))), (q2, .inl (cI, 16, .inl (fun _ => 0))), (q3, .inl (cJ, 4, .inr (.inl (fun _ => 0)))), (q4, .inl (cJ, 17408, .inr (.inl (fun _ => 0)))), (q5, .inl (cB, 1088, .inl (fun _ => 0))), (q6, .inl (cB, 1088, .inl (fun _ => 0))), (q7, .inl (cB, 17408, .inl (fun _ => 0))), (q8, .inl (cI, 4, .inl (fun _ => 0))), (q9, .inl (cJ, 4352, .inr (.inl (fun _ => 0)))), (q10, .inl (cB, 400, .inl (fun _ => 0))), (q11, .inl (cI, 176, .inl (fun _ => 0))), (q12, .inl (cJ, 32, .inr (.inl (fun _ => 0)))), (q13, .inl (cJ, 139264, .inr (.inl (fun _ => 0))))]) rfl dX8_init_116 ?_
  refine w_aload_n C 0 dX8_init_119 rfl ?_
  refine w_sipush C (v := (8704 : Int32)) dX8_init_120 (by decide) ?_
  refine w_newaB C 8704 0 k_900 rfl (by decide) (by decide) (Nat.le_of_ble_eq_true rfl) (Nat.le_of_ble_eq_true rfl) (Nat.le_of_ble_eq_true rfl) dX8_init_123 (fun q14 => ?_)
  refine w_putF C (T1 := TX8) (ty := .array .byte) 0 23 u_X8 tyX8 tyX8_ok nmX8 k_841 rfl (by decide) rfl rfl hin rfl (by decide +kernel) rfl rfl (Nat.le_of_ble_eq_true rfl) ((a0, .inr (8, [.ref q1, .int 0, .ref q2, .ref q3, .ref q4, .ref q5, .ref q6, .ref q7, .int 0, .int (-1), .ref q8, .ref q9, .ref q10, .int 0, .int 0, .int 0, .long 0, .int 0, .int 0, .long 0, .ref q11, .ref q12, .ref q13, .ref q14, .null, .null, .int 0])) :: [(q1, .inl (cB, 400, .inl (fun _ => 0))), (q2, .inl (cI, 16, .inl (fun _ => 0))), (q3, .inl (cJ, 4, .inr (.inl (fun _ => 0)))), (q4, .inl (cJ, 17408, .inr (.inl (fun _ => 0)))), (q5, .inl (cB, 1088, .inl (fun _ => 0))), (q6, .inl (cB, 1088, .inl (fun _ => 0))), (q7, .inl (cB, 17408, .inl (fun _ => 0))), (q8, .inl (cI, 4, .inl (fun _ => 0))), (q9, .inl (cJ, 4352, .inr (.inl (fun _ => 0)))), (q10, .inl (cB, 400, .inl (fun _ => 0))), (q11, .inl (cI, 176, .inl (fun _ => 0))), (q12, .inl (cJ, 32, .inr (.inl (fun _ => 0)))), (q13, .inl (cJ, 139264, .inr (.inl (fun _ => 0)))), (q14, .inl (cB, 8704, .inl (fun _ => 0)))]) rfl dX8_init_125 ?_
  refine w_aload_n C 0 dX8_init_128 rfl ?_
  refine w_sipush C (v := (8704 : Int32)) dX8_init_129 (by decide) ?_
  refine w_newaB C 8704 0 k_900 rfl (by decide) (by decide) (Nat.le_of_ble_eq_true rfl) (Nat.le_of_ble_eq_true rfl) (Nat.le_of_ble_eq_true rfl) dX8_init_132 (fun q15 => ?_)
  refine w_putF C (T1 := TX8) (ty := .array .byte) 0 24 u_X8 tyX8 tyX8_ok nmX8 k_842 rfl (by decide) rfl rfl hin rfl (by decide +kernel) rfl rfl (Nat.le_of_ble_eq_true rfl) ((a0, .inr (8, [.ref q1, .int 0, .ref q2, .ref q3, .ref q4, .ref q5, .ref q6, .ref q7, .int 0, .int (-1), .ref q8, .ref q9, .ref q10, .int 0, .int 0, .int 0, .long 0, .int 0, .int 0, .long 0, .ref q11, .ref q12, .ref q13, .ref q14, .ref q15, .null, .int 0])) :: [(q1, .inl (cB, 400, .inl (fun _ => 0))), (q2, .inl (cI, 16, .inl (fun _ => 0))), (q3, .inl (cJ, 4, .inr (.inl (fun _ => 0)))), (q4, .inl (cJ, 17408, .inr (.inl (fun _ => 0)))), (q5, .inl (cB, 1088, .inl (fun _ => 0))), (q6, .inl (cB, 1088, .inl (fun _ => 0))), (q7, .inl (cB, 17408, .inl (fun _ => 0))), (q8, .inl (cI, 4, .inl (fun _ => 0))), (q9, .inl (cJ, 4352, .inr (.inl (fun _ => 0)))), (q10, .inl (cB, 400, .inl (fun _ => 0))), (q11, .inl (cI, 176, .inl (fun _ => 0))), (q12, .inl (cJ, 32, .inr (.inl (fun _ => 0)))), (q13, .inl (cJ, 139264, .inr (.inl (fun _ => 0)))), (q14, .inl (cB, 8704, .inl (fun _ => 0))), (q15, .inl (cB, 8704, .inl (fun _ => 0)))]) rfl dX8_init_134 ?_
  refine w_aload_n C 0 dX8_init_137 rfl ?_
  refine w_ldc C (v := (139264 : Int32)) dX8_init_138 k_817 ?_
  refine w_newaB C 139264 0 k_900 rfl (by decide) (by decide) (Nat.le_of_ble_eq_true rfl) (Nat.le_of_ble_eq_true rfl) (Nat.le_of_ble_eq_true rfl) dX8_init_140 (fun q16 => ?_)
  refine w_putF C (T1 := TX8) (ty := .array .byte) 0 25 u_X8 tyX8 tyX8_ok nmX8 k_843 rfl (by decide) rfl rfl hin rfl (by decide +kernel) rfl rfl (Nat.le_of_ble_eq_true rfl) ((a0, .inr (8, [.ref q1, .int 0, .ref q2, .ref q3, .ref q4, .ref q5, .ref q6, .ref q7, .int 0, .int (-1), .ref q8, .ref q9, .ref q10, .int 0, .int 0, .int 0, .long 0, .int 0, .int 0, .long 0, .ref q11, .ref q12, .ref q13, .ref q14, .ref q15, .ref q16, .int 0])) :: [(q1, .inl (cB, 400, .inl (fun _ => 0))), (q2, .inl (cI, 16, .inl (fun _ => 0))), (q3, .inl (cJ, 4, .inr (.inl (fun _ => 0)))), (q4, .inl (cJ, 17408, .inr (.inl (fun _ => 0)))), (q5, .inl (cB, 1088, .inl (fun _ => 0))), (q6, .inl (cB, 1088, .inl (fun _ => 0))), (q7, .inl (cB, 17408, .inl (fun _ => 0))), (q8, .inl (cI, 4, .inl (fun _ => 0))), (q9, .inl (cJ, 4352, .inr (.inl (fun _ => 0)))), (q10, .inl (cB, 400, .inl (fun _ => 0))), (q11, .inl (cI, 176, .inl (fun _ => 0))), (q12, .inl (cJ, 32, .inr (.inl (fun _ => 0)))), (q13, .inl (cJ, 139264, .inr (.inl (fun _ => 0)))), (q14, .inl (cB, 8704, .inl (fun _ => 0))), (q15, .inl (cB, 8704, .inl (fun _ => 0))), (q16, .inl (cB, 139264, .inl (fun _ => 0)))]) rfl dX8_init_142 ?_
  refine w_iconst C (v := (0 : Int32)) dX8_init_145 (by decide) ?_
  refine w_istore_n C (fun x => [(1, .int x), (0, .ref a0)]) dX8_init_146 (by decide) (fun _ => rfl) (fun x e_x => ?_)
  obtain ⟨U, rfl, rfl, rfl, rfl, rfl, rfl, rfl, rfl, rfl, rfl, rfl, rfl, rfl, rfl, rfl, rfl, rfl⟩ : ∃ U : Nat → Nat, U 0 = a0 ∧ U 1 = q1 ∧ U 2 = q2 ∧ U 3 = q3 ∧ U 4 = q4 ∧ U 5 = q5 ∧ U 6 = q6 ∧ U 7 = q7 ∧ U 8 = q8 ∧ U 9 = q9 ∧ U 10 = q10 ∧ U 11 = q11 ∧ U 12 = q12 ∧ U 13 = q13 ∧ U 14 = q14 ∧ U 15 = q15 ∧ U 16 = q16 := ⟨(fun i => if i = 0 then a0 else if i = 1 then q1 else if i = 2 then q2 else if i = 3 then q3 else if i = 4 then q4 else if i = 5 then q5 else if i = 6 then q6 else if i = 7 then q7 else if i = 8 then q8 else if i = 9 then q9 else if i = 10 then q10 else if i = 11 then q11 else if i = 12 then q12 else if i = 13 then q13 else if i = 14 then q14 else if i = 15 then q15 else q16), rfl, rfl, rfl, rfl, rfl, rfl, rfl, rfl, rfl, rfl, rfl, rfl, rfl, rfl, rfl, rfl, rfl⟩
  have key : ∀ (n i : Nat) (w : Nat → Int32), i ≤ 4 → 5 ≤ i + n → (∀ j : Nat, j < i → w j = -1) → ww p l e ({ frames := 1, cells := 16, slots := 338312, locals := 20 } : Room) s m #[Value.ref (U 0)] below meth c D A 2 (MQ below (va_Qv (fun (x : (Nat → Nat) × (Nat → Int32)) => x.1 0 = U 0 ∧ ∀ j : Nat, j < 4 → x.2 j = -1) (OutN D A (fun (x : (Nat → Nat) × (Nat → Int32)) => (wM cB cI cJ x.1 (fun _ => 0) 0 (fun _ => 0) (fun _ => 0) (fun _ => 0) (fun _ => 0) (fun _ => 0) (fun _ => 0) 0 (-1) x.2 (fun _ => 0) (fun _ => 0) 0 0 0 0 0 0 0 (fun _ => 0) (fun _ => 0) (fun _ => 0) (fun _ => 0) (fun _ => 0) (fun _ => 0) 0))) A) #[Value.ref (U 0)] s 16 338312 A) 16 338312 (wM cB cI cJ U (fun _ => 0) 0 (fun _ => 0) (fun _ => 0) (fun _ => 0) (fun _ => 0) (fun _ => 0) (fun _ => 0) 0 (-1) w (fun _ => 0) (fun _ => 0) 0 0 0 0 0 0 0 (fun _ => 0) (fun _ => 0) (fun _ => 0) (fun _ => 0) (fun _ => 0) (fun _ => 0) 0) 147 [(1, .int (nI i)), (0, .ref (U 0))] [] := by
    intro n
    induction n with
    | zero => intro i w h1 h2; exact absurd h2 (by omega)
    | succ n ih =>
      intro i w h1 h2 h3
      refine w_iload_n C 0 dX8_init_147 rfl ?_
      refine w_iconst C (v := nI 4) dX8_init_148 (by decide) ?_
      refine w_icmp_ge C 165 (by decide) dX8_init_149 (fun z => ?_) (fun z => ?_)
      · have hz : ¬ i < 4 := fun h => nI_ge h (by decide) z
        exact w_nret C (U, w) ⟨rfl, fun j hj => h3 j (by omega)⟩ rfl (Nat.le_of_ble_eq_true rfl) (Nat.le_of_ble_eq_true rfl) dX8_init_165
      · have hz : i < 4 := by
          rcases Nat.lt_or_ge i 4 with h | h
          · exact h
          · exact absurd (nI_le h (by omega)) z
        refine w_aload_n C 1 dX8_init_152 rfl ?_
        refine w_get C (T1 := TX8) 0 10 u_X8 k_828 rfl (by decide) rfl rfl dX8_init_153 ?_
        refine w_iload_n C 0 dX8_init_156 rfl ?_
        refine w_iconst C (v := (-1 : Int32)) dX8_init_157 (by decide) ?_
        refine w_iastore C 8 1 (fun z => (wM cB cI cJ U (fun _ => 0) 0 (fun _ => 0) (fun _ => 0) (fun _ => 0) (fun _ => 0) (fun _ => 0) (fun _ => 0) 0 (-1) z (fun _ => 0) (fun _ => 0) 0 0 0 0 0 0 0 (fun _ => 0) (fun _ => 0) (fun _ => 0) (fun _ => 0) (fun _ => 0) (fun _ => 0) 0)) rfl rfl (vp_in_nI hz (by decide)) (fun _ => rfl) dX8_init_158 (fun w2 e2 => ?_)
        refine w_iinc C (v := nI (i + 1)) 0 (fun x => [(1, .int x), (0, .ref (U 0))]) dX8_init_159 rfl (by rw [nI_succ]; rfl) (by decide) (fun _ => rfl) (fun x6 e6 => ?_)
        subst e6
        refine w_goto C 147 (by decide) dX8_init_162 ?_
        refine ih (i + 1) w2 hz (by omega) (fun j hj => ?_)
        rw [e2, nI_clamp (by omega)]
        by_cases h : j = i
        · subst h; exact pk_us
        · rw [pk_un h]; exact h3 j (by omega)
  rw [e_x]
  have k0 := key 5 0 (fun _ => 0) (by decide) (by decide) (fun j hj => absurd hj (Nat.not_lt_zero _))
  exact k0
def wLs (cB cI cJ : ClassId) (ls : List (Nat → Nat)) : va_W := ls.flatMap (fun u => wL cB cI cJ u 0 0 0 0 0 0 (fun _ => 0) (fun _ => 0) (fun _ => 0) (fun _ => 0))
def wTR (cB cI cJ cL cS : ClassId) (a0 q1 : Nat) (pu : Nat → Nat) (pw : Nat → Int32) (t d : Nat → Nat) (h hq : Nat) (vs : List (Nat × (Nat → Nat) × (Nat → Nat) × (Nat → Int32))) (ls : List (Nat → Nat)) : va_W := [(a0, .inr (7, [.ref q1, .ref (pu 0), .ref (t 0), .ref (d 0), .ref h])), (q1, .inl (cL, 4, .inr (.inr (.inr (.inr (fun j => (ls[j]?).map (fun u => u 0)))))))] ++ (wPr cB cI cJ pu 0 (-1) pw ++ (wTp cB cI cJ t (fun _ => 0) 0 ++ (wTp cB cI cJ d (fun _ => 0) 0 ++ (wHi cB cI cJ cS h hq vs ++ wLs cB cI cJ ls))))
/-- what a new recorder is made of: the ledgers' array, the pair's cells and writers, tape, draft, history, its array, its steps, the ledgers -/
abbrev XR : Type := Nat × (Nat → Nat) × (Nat → Int32) × (Nat → Nat) × (Nat → Nat) × Nat × Nat × List (Nat × (Nat → Nat) × (Nat → Nat) × (Nat → Int32)) × List (Nat → Nat)
def wXR (cB cI cJ cL cS : ClassId) (a0 : Nat) (x : XR) : va_W := wTR cB cI cJ cL cS a0 x.1 x.2.1 x.2.2.1 x.2.2.2.1 x.2.2.2.2.1 x.2.2.2.2.2.1 x.2.2.2.2.2.2.1 x.2.2.2.2.2.2.2.1 x.2.2.2.2.2.2.2.2
def qXR (x : XR) : Prop := (∀ j : Nat, j < 4 → x.2.2.1 j = -1) ∧ x.2.2.2.2.2.2.2.1.length = 8 ∧ (∀ v ∈ x.2.2.2.2.2.2.2.1, ∀ j : Nat, j < 4 → v.2.2.2 j = -1) ∧ x.2.2.2.2.2.2.2.2.length = 4
set_option maxHeartbeats 4000000 in
set_option maxRecDepth 100000 in
theorem c_X7_init {l : Launch} {D : va_G} {cB cI cJ cL cS : ClassId} {T : Nat × Nat × Nat × Nat} {a0 : Nat} : CtN l D (Z5 cB cI cJ cL cS) T yX7_init cX7_init 2 ({ frames := 4, cells := 93, slots := 111594, locals := 180 } : Room) [.ref a0] [(a0, .inr (7, [.null, .null, .null, .null, .null]))] (fun (x : XR) => wXR cB cI cJ cL cS a0 x) (fun x => qXR x) 93 111594 := by
  refine ctN_of (own := RX7) (by decide +kernel) rfl rfl (Nat.le_of_ble_eq_true rfl) (fun p e s m below meth c A C hin => ?_)
  refine w_sub (lv' := [(0, .ref a0)]) C [0] rfl ?_
  refine w_aload_n C 0 dX7_init_0 rfl ?_
  refine w_objInit C k_85 (Nat.le_of_ble_eq_true rfl) (Nat.le_of_ble_eq_true rfl) dX7_init_1 ?_
  refine w_aload_n C 0 dX7_init_4 rfl ?_
  refine w_iconst C (v := (4 : Int32)) dX7_init_5 (by decide) ?_
  refine w_newq C (Cn := "TailRecorder$Ledger") 4 3 k_88 n_89 rfl (by decide) (by decide) (by decide) (Nat.le_of_ble_eq_true rfl) (Nat.le_of_ble_eq_true rfl) dX7_init_6 (fun q1 => ?_)
  refine w_putF C (T1 := TX7) (ty := .array (.object "TailRecorder$Ledger")) 0 0 u_X7 tyX7 tyX7_ok nmX7 k_211 rfl (by decide) rfl rfl hin rfl (by decide +kernel) rfl rfl (Nat.le_of_ble_eq_true rfl) [(a0, .inr (7, [.ref q1, .null, .null, .null, .null])), (q1, .inl (cL, 4, .inr (.inr (.inr (.inr (fun _ => none))))))] rfl dX7_init_9 ?_
  refine w_aload_n C 0 dX7_init_12 rfl ?_
  refine w_new C (ci := 2) (T1 := TX2) u_X2 tyX2 tyX2_ok k_90 k_91 k_64 rfl [.int 0, .int 0, .null] (fun j hj => by rcases (show j = 0 ∨ j = 1 ∨ j = 2 by omega) with rfl | rfl | rfl <;> rfl) (Nat.le_of_ble_eq_true rfl) (Nat.le_of_ble_eq_true rfl) dX7_init_13 (fun qp => ?_)
  refine w_dup C rfl dX7_init_16 ?_
  refine w_iapp C c_X2_init f_X2_init rfl k_92 rfl ⟨(Nat.le_of_ble_eq_true rfl), (Nat.le_of_ble_eq_true rfl)⟩ rfl rfl ⟨(Nat.le_of_ble_eq_true rfl), (Nat.le_of_ble_eq_true rfl)⟩ rfl (Nat.le_of_ble_eq_true rfl) dX7_init_17 (fun pp hpp => ?_)
  obtain ⟨pu, pw⟩ := pp
  obtain ⟨hpu, hpw⟩ := hpp
  dsimp only at hpu hpw
  subst hpu
  refine w_putF C (T1 := TX7) (ty := .object "TailRecorder$Pair") 0 1 u_X7 tyX7 tyX7_ok nmX7 k_212 rfl (by decide) rfl rfl hin rfl (by decide +kernel) rfl rfl (Nat.le_of_ble_eq_true rfl) ([(a0, .inr (7, [.ref q1, .ref (pu 0), .null, .null, .null])), (q1, .inl (cL, 4, .inr (.inr (.inr (.inr (fun _ => none))))))] ++ wPr cB cI cJ pu 0 (-1) pw) rfl dX7_init_20 ?_
  refine w_aload_n C 0 dX7_init_23 rfl ?_
  refine w_new C (ci := 5) (T1 := TX5) u_X5 tyX5 tyX5_ok k_112 k_113 k_66 rfl [.null, .int 0] (fun j hj => by rcases (show j = 0 ∨ j = 1 by omega) with rfl | rfl <;> rfl) (Nat.le_of_ble_eq_true rfl) (Nat.le_of_ble_eq_true rfl) dX7_init_24 (fun qt => ?_)
  refine w_dup C rfl dX7_init_27 ?_
  refine w_iappN C c_X5_init f_X5_init rfl n_114 rfl ⟨(Nat.le_of_ble_eq_true rfl), (Nat.le_of_ble_eq_true rfl)⟩ rfl rfl ⟨(Nat.le_of_ble_eq_true rfl), (Nat.le_of_ble_eq_true rfl)⟩ rfl (Nat.le_of_ble_eq_true rfl) dX7_init_28 (fun t ht => ?_)
  subst ht
  refine w_putF C (T1 := TX7) (ty := .object "TailRecorder$Tape") 0 2 u_X7 tyX7 tyX7_ok nmX7 k_213 rfl (by decide) rfl rfl hin rfl (by decide +kernel) rfl rfl (Nat.le_of_ble_eq_true rfl) ([(a0, .inr (7, [.ref q1, .ref (pu 0), .ref (t 0), .null, .null])), (q1, .inl (cL, 4, .inr (.inr (.inr (.inr (fun _ => none))))))] ++ wPr cB cI cJ pu 0 (-1) pw ++ wTp cB cI cJ t (fun _ => 0) 0) rfl dX7_init_31 ?_
  refine w_aload_n C 0 dX7_init_34 rfl ?_
  refine w_new C (ci := 5) (T1 := TX5) u_X5 tyX5 tyX5_ok k_112 k_113 k_66 rfl [.null, .int 0] (fun j hj => by rcases (show j = 0 ∨ j = 1 by omega) with rfl | rfl <;> rfl) (Nat.le_of_ble_eq_true rfl) (Nat.le_of_ble_eq_true rfl) dX7_init_35 (fun qd => ?_)
  refine w_dup C rfl dX7_init_38 ?_
  refine w_iappN C c_X5_init f_X5_init rfl n_114 rfl ⟨(Nat.le_of_ble_eq_true rfl), (Nat.le_of_ble_eq_true rfl)⟩ rfl rfl ⟨(Nat.le_of_ble_eq_true rfl), (Nat.le_of_ble_eq_true rfl)⟩ rfl (Nat.le_of_ble_eq_true rfl) dX7_init_39 (fun d hd => ?_)
  subst hd
  refine w_putF C (T1 := TX7) (ty := .object "TailRecorder$Tape") 0 3 u_X7 tyX7 tyX7_ok nmX7 k_214 rfl (by decide) rfl rfl hin rfl (by decide +kernel) rfl rfl (Nat.le_of_ble_eq_true rfl) ([(a0, .inr (7, [.ref q1, .ref (pu 0), .ref (t 0), .ref (d 0), .null])), (q1, .inl (cL, 4, .inr (.inr (.inr (.inr (fun _ => none))))))] ++ wPr cB cI cJ pu 0 (-1) pw ++ wTp cB cI cJ t (fun _ => 0) 0 ++ wTp cB cI cJ d (fun _ => 0) 0) rfl dX7_init_42 ?_
  refine w_aload_n C 0 dX7_init_45 rfl ?_
  refine w_new C (ci := 0) (T1 := TX0) u_X0 tyX0 tyX0_ok k_127 k_128 k_67 rfl [.null, .int 0, .int 0] (fun j hj => by rcases (show j = 0 ∨ j = 1 ∨ j = 2 by omega) with rfl | rfl | rfl <;> rfl) (Nat.le_of_ble_eq_true rfl) (Nat.le_of_ble_eq_true rfl) dX7_init_46 (fun hh => ?_)
  refine w_dup C rfl dX7_init_49 ?_
  refine w_iapp C c_X0_init f_X0_init rfl k_129 rfl ⟨(Nat.le_of_ble_eq_true rfl), (Nat.le_of_ble_eq_true rfl)⟩ rfl rfl ⟨(Nat.le_of_ble_eq_true rfl), (Nat.le_of_ble_eq_true rfl)⟩ rfl (Nat.le_of_ble_eq_true rfl) dX7_init_50 (fun hx hhx => ?_)
  obtain ⟨hq, vs⟩ := hx
  obtain ⟨hvl, hvw⟩ := hhx
  dsimp only at hvl hvw
  refine w_putF C (T1 := TX7) (ty := .object "TailRecorder$History") 0 4 u_X7 tyX7 tyX7_ok nmX7 k_215 rfl (by decide) rfl rfl hin rfl (by decide +kernel) rfl rfl (Nat.le_of_ble_eq_true rfl) ([(a0, .inr (7, [.ref q1, .ref (pu 0), .ref (t 0), .ref (d 0), .ref hh])), (q1, .inl (cL, 4, .inr (.inr (.inr (.inr (fun _ => none))))))] ++ wPr cB cI cJ pu 0 (-1) pw ++ wTp cB cI cJ t (fun _ => 0) 0 ++ wTp cB cI cJ d (fun _ => 0) 0 ++ wHi cB cI cJ cS hh hq vs) rfl dX7_init_53 ?_
  refine w_iconst C (v := (0 : Int32)) dX7_init_56 (by decide) ?_
  refine w_istore_n C (fun x => [(1, .int x), (0, .ref a0)]) dX7_init_57 (by decide) (fun _ => rfl) (fun x e_x => ?_)
  have key : ∀ (n : Nat) (ls : List (Nat → Nat)), ls.length ≤ 4 → 5 ≤ ls.length + n → ww p l e ({ frames := 4, cells := 93, slots := 111594, locals := 180 } : Room) s m #[Value.ref a0] below meth c D A 2 (MQ below (va_Qv (fun (x : XR) => qXR x) (OutN D A (fun (x : XR) => wXR cB cI cJ cL cS a0 x)) A) #[Value.ref a0] s 93 111594 A) (73 + 5 * ls.length) (74698 + 9224 * ls.length) (wTR cB cI cJ cL cS a0 q1 pu pw t d hh hq vs ls) 58 [(1, .int (nI ls.length)), (0, .ref a0)] [] := by
    intro n
    induction n with
    | zero => intro ls h1 h2; exact absurd h2 (by omega)
    | succ n ih =>
      intro ls h1 h2
      refine w_iload_n C 0 dX7_init_58 rfl ?_
      refine w_aload_n C 1 dX7_init_59 rfl ?_
      refine w_get C (T1 := TX7) 0 0 u_X7 k_211 rfl (by decide) rfl rfl dX7_init_60 ?_
      refine w_alen C (v := nI 4) 1 3 rfl rfl rfl dX7_init_63 ?_
      refine w_icmp_ge C 86 (by decide) dX7_init_64 (fun z => ?_) (fun z => ?_)
      · have hz : ¬ ls.length < 4 := fun h => nI_ge h (by decide) z
        exact w_nret C (q1, pu, pw, t, d, hh, hq, vs, ls) ⟨hpw, hvl, hvw, by show ls.length = 4; omega⟩ rfl (by omega) (by omega) dX7_init_86
      · have hz : ls.length < 4 := by
          rcases Nat.lt_or_ge ls.length 4 with h | h
          · exact h
          · exact absurd (nI_le h (by omega)) z
        refine w_aload_n C 1 dX7_init_67 rfl ?_
        refine w_get C (T1 := TX7) 0 0 u_X7 k_211 rfl (by decide) rfl rfl dX7_init_68 ?_
        refine w_iload_n C 0 dX7_init_71 rfl ?_
        refine w_new C (ci := 1) (T1 := TX1) u_X1 tyX1 tyX1_ok k_88 k_141 k_69 rfl [.int 0, .int 0, .int 0, .int 0, .int 0, .long 0, .null, .null, .null, .null] (fun j hj => by rcases (show j = 0 ∨ j = 1 ∨ j = 2 ∨ j = 3 ∨ j = 4 ∨ j = 5 ∨ j = 6 ∨ j = 7 ∨ j = 8 ∨ j = 9 by omega) with rfl | rfl | rfl | rfl | rfl | rfl | rfl | rfl | rfl | rfl <;> rfl) (by show 73 + 5 * ls.length + 1 ≤ 93; omega) (by show 74698 + 9224 * ls.length + 10 ≤ 111594; omega) dX7_init_72 (fun ql => ?_)
        refine w_dup C rfl dX7_init_75 ?_
        refine w_iappN C c_X1_init f_X1_init rfl n_210 rfl ⟨(Nat.le_of_ble_eq_true rfl), (Nat.le_of_ble_eq_true rfl)⟩ rfl rfl ⟨by show 73 + 5 * ls.length + 1 + 4 ≤ 93; omega, by show 74698 + 9224 * ls.length + 10 + 9214 ≤ 111594; omega⟩ rfl (Nat.le_of_ble_eq_true rfl) dX7_init_76 (fun u hu => ?_)
        subst hu
        have hlen : (wTR cB cI cJ cL cS a0 q1 pu pw t d hh hq vs ls ++ wL cB cI cJ u 0 0 0 0 0 0 (fun _ => 0) (fun _ => 0) (fun _ => 0) (fun _ => 0))[(wTR cB cI cJ cL cS a0 q1 pu pw t d hh hq vs ls).length]? = some (u 0, .inr (1, [.int 0, .int 0, .int 0, .int 0, .int 0, .long 0, .ref (u 1), .ref (u 2), .ref (u 3), .ref (u 4)])) := by
          rw [List.getElem?_append_right (Nat.le_refl _), Nat.sub_self]; rfl
        refine w_aastore C (rr := (RX1, TX1, 10)) 1 3 (wTR cB cI cJ cL cS a0 q1 pu pw t d hh hq vs ls).length rfl rfl hlen rfl (vp_in_nI hz (by decide)) (wTR cB cI cJ cL cS a0 q1 pu pw t d hh hq vs (ls ++ [u])) ?_ dX7_init_79 ?_
        · rw [nI_clamp (by omega)]
          unfold wTR
          rw [← up_app (fun u : Nat → Nat => u 0) ls u]
          simp [wLs, List.flatMap_append]
        · refine w_iinc C (v := nI (ls.length + 1)) 0 (fun x => [(1, .int x), (0, .ref a0)]) dX7_init_80 rfl (by rw [nI_succ]; rfl) (by decide) (fun _ => rfl) (fun x6 e6 => ?_)
          subst e6
          refine w_goto C 58 (by decide) dX7_init_83 ?_
          have ihh := ih (ls ++ [u]) (by simp; omega) (by simp; omega)
          rw [List.length_append, List.length_singleton] at ihh
          exact W_le ihh (by omega) (by omega)
  rw [e_x]
  have k0 := key 5 [] (by decide) (by decide)
  refine w_conv (ws2 := wTR cB cI cJ cL cS a0 q1 pu pw t d hh hq vs []) (fun H h => ?_) (fun h => ?_) k0
  · have e : ([(a0, .inr (7, [.ref q1, .ref (pu 0), .ref (t 0), .ref (d 0), .ref hh])), (q1, .inl (cL, 4, .inr (.inr (.inr (.inr (fun _ => none))))))] ++ wPr cB cI cJ pu 0 (-1) pw ++ wTp cB cI cJ t (fun _ => 0) 0 ++ wTp cB cI cJ d (fun _ => 0) 0 ++ wHi cB cI cJ cS hh hq vs) = wTR cB cI cJ cL cS a0 q1 pu pw t d hh hq vs [] := by simp [wTR, wLs]
    rw [← e]; exact h
  · have e : ([(a0, .inr (7, [.ref q1, .ref (pu 0), .ref (t 0), .ref (d 0), .ref hh])), (q1, .inl (cL, 4, .inr (.inr (.inr (.inr (fun _ => none))))))] ++ wPr cB cI cJ pu 0 (-1) pw ++ wTp cB cI cJ t (fun _ => 0) 0 ++ wTp cB cI cJ d (fun _ => 0) 0 ++ wHi cB cI cJ cS hh hq vs) = wTR cB cI cJ cL cS a0 q1 pu pw t d hh hq vs [] := by simp [wTR, wLs]
    rw [← e]; exact h
