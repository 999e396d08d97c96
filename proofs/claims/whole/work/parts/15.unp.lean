def wp_X6_fail (p0 : Int32) (p1 : Int32) (t_fault : Int32) (Q : Int32 → Prop) : Prop := ∀ t_fault_7 : Int32, t_fault_7 = (((8 : Int32) * p0) + p1) → Q t_fault_7
set_option maxHeartbeats 4000000 in
set_option maxRecDepth 100000 in
theorem c_X6_fail {l : Launch} {D : va_G} {cB cI cJ cL cS : ClassId} {T : Nat × Nat × Nat × Nat} {a : Nat → Nat} {t : Nat → Nat} {p0 : Int32} {p1 : Int32} {t_place : Int32} {t_fault : Int32} {t_sort : Int32} {t_digits : Int32} {t_highest : Int64} {p_bytes : Nat → Int32} {p_length : Int32} {Q : Int32 → Prop} (hw : wp_X6_fail p0 p1 t_fault Q) : CtV l D (Z5 cB cI cJ cL cS) T yX6_fail cX6_fail 3 ({ frames := 0, cells := 0, slots := 0, locals := 0 } : Room) (Option.none : Option Jvm.ClassFile.FieldType) [.ref (a 0), .int p0, .int p1] (wU cB cI cJ a (t 0) t_place t_fault t_sort t_digits t_highest ++ (wTp cB cI cJ t p_bytes p_length)) (fun (u : Int32) => (wU cB cI cJ a (t 0) t_place u t_sort t_digits t_highest ++ (wTp cB cI cJ t p_bytes p_length))) (fun (u : Int32) => Q u) 0 0 := by
  refine ctV_of (own := RX6) (by decide +kernel) rfl (Nat.le_of_ble_eq_true rfl) (fun p e s m below meth c A C => ?_)
  refine w_sub (lv' := [(0, .ref (a 0)), (1, .int p0), (2, .int p1)]) C [0, 1, 2] rfl ?_
  unfold wp_X6_fail at hw
  refine w_aload_n C 0 dX6_fail_0 rfl ?_
  refine w_bipush C (v := (8 : Int32)) dX6_fail_1 (by decide) ?_
  refine w_iload_n C 1 dX6_fail_3 rfl ?_
  refine w_imul C dX6_fail_4 ?_
  refine w_iload_n C 2 dX6_fail_5 rfl ?_
  refine w_iadd C dX6_fail_6 ?_
  refine w_puti C (T1 := TX6) (ty := .int) 0 2 (fun z => (wU cB cI cJ a (t 0) t_place z t_sort t_digits t_highest ++ (wTp cB cI cJ t p_bytes p_length))) u_X6 tyX6 tyX6_ok nmX6 k_316 rfl (by decide) rfl rfl (by decide +kernel) rfl rfl (Nat.le_of_ble_eq_true rfl) (fun _ => rfl) dX6_fail_7 (fun t_fault_7 e_t_fault_7 => ?_)
  replace hw := hw t_fault_7 e_t_fault_7
  exact w_vret C t_fault_7 hw rfl (Nat.le_of_ble_eq_true rfl) (Nat.le_of_ble_eq_true rfl) dX6_fail_10
def blk_X6_nextByte_22 (p_bytes : Nat → Int32) (p_length : Int32)  (Q : Int32 → Int32 → Int32 → Prop) (t_place : Int32) (t_fault : Int32) : Prop := wp_X6_fail t_place (1 : Int32) t_fault (fun (t_fault_28 : Int32) => Q (-1 : Int32) t_place t_fault_28)
def wp_X6_nextByte (p0 : Int32) (p1 : Int32) (t_place : Int32) (t_fault : Int32) (p_bytes : Nat → Int32) (p_length : Int32) (Q : Int32 → Int32 → Int32 → Prop) : Prop := wp_X5_byteAt t_place p_bytes p_length (fun (r_8 : Int32) => ∀ x3_11 : Int32, x3_11 = r_8 → ((x3_11 < p0 → ((blk_X6_nextByte_22 p_bytes p_length  Q t_place t_fault))) ∧ (¬ x3_11 < p0 → (((x3_11 ≤ p1 → (∀ t_place_40 : Int32, t_place_40 = (t_place + (1 : Int32)) → Q x3_11 t_place_40 t_fault)) ∧ (¬ x3_11 ≤ p1 → ((blk_X6_nextByte_22 p_bytes p_length  Q t_place t_fault))))))))
set_option maxHeartbeats 4000000 in
set_option maxRecDepth 100000 in
theorem wk_X6_nextByte_22 {p : Program} {l : Launch} {e : Env} {s : State} {m : MethodId} {args : Array Value} {below : List Frame} {meth : Method} {c : Code} {D : va_G} {cB cI cJ cL cS : ClassId} {T : Nat × Nat × Nat × Nat} {A : Nat → Prop} {a : Nat → Nat} {t : Nat → Nat} {t_sort : Int32} {t_digits : Int32} {t_highest : Int64} {p_bytes : Nat → Int32} {p_length : Int32} {Q : Int32 → Int32 → Int32 → Prop} (C : Cq p s m args meth c D (Z5 cB cI cJ cL cS) T A cX6_nextByte RX6 4 (Option.some Jvm.ClassFile.FieldType.int)) {t_place : Int32} {t_fault : Int32}  (hw : blk_X6_nextByte_22 p_bytes p_length  Q t_place t_fault) : ww p l e ({ frames := 1, cells := 0, slots := 0, locals := 22 } : Room) s m args below meth c D A 4 (MQ below (va_Qi (fun (r : Int32) (u : Int32 × Int32) => Q r u.1 u.2) (OutP D (fun (u : Int32 × Int32) => (wU cB cI cJ a (t 0) u.1 u.2 t_sort t_digits t_highest ++ (wTp cB cI cJ t p_bytes p_length)))) A) args s 0 0 A) 0 0 (wU cB cI cJ a (t 0) t_place t_fault t_sort t_digits t_highest ++ (wTp cB cI cJ t p_bytes p_length)) 22 [(0, .ref (a 0))] [] := by
  unfold blk_X6_nextByte_22 at hw
  refine w_aload_n C 0 dX6_nextByte_22 rfl ?_
  refine w_aload_n C 0 dX6_nextByte_23 rfl ?_
  refine w_get C (T1 := TX6) 0 1 u_X6 k_315 rfl (by decide) rfl rfl dX6_nextByte_24 ?_
  refine w_iconst C (v := (1 : Int32)) dX6_nextByte_27 (by decide) ?_
  refine w_callVV C (c_X6_fail hw) f_X6_fail k_5 k_346 rfl ⟨Nat.le_of_ble_eq_true rfl, Nat.le_of_ble_eq_true rfl⟩ rfl rfl ⟨Nat.le_of_ble_eq_true rfl, Nat.le_of_ble_eq_true rfl⟩ 0 rfl (rr := (RX6, TX6, 6)) rfl rfl (fun _ => rfl) rfl (Nat.le_of_ble_eq_true rfl) dX6_nextByte_28 (fun u_28 hw => ?_)
  obtain ⟨t_fault_28, rfl⟩ : ∃ z, z = u_28 := ⟨_, rfl⟩
  try dsimp only at hw
  refine w_iconst C (v := (-1 : Int32)) dX6_nextByte_31 (by decide) ?_
  exact w_iret C (t_place, t_fault_28) hw rfl (Nat.le_of_ble_eq_true rfl) (Nat.le_of_ble_eq_true rfl) dX6_nextByte_32
set_option maxHeartbeats 4000000 in
set_option maxRecDepth 100000 in
theorem c_X6_nextByte {l : Launch} {D : va_G} {cB cI cJ cL cS : ClassId} {T : Nat × Nat × Nat × Nat} {a : Nat → Nat} {t : Nat → Nat} {p0 : Int32} {p1 : Int32} {t_place : Int32} {t_fault : Int32} {t_sort : Int32} {t_digits : Int32} {t_highest : Int64} {p_bytes : Nat → Int32} {p_length : Int32} {Q : Int32 → Int32 → Int32 → Prop} (hw : wp_X6_nextByte p0 p1 t_place t_fault p_bytes p_length Q) : CtI l D (Z5 cB cI cJ cL cS) T yX6_nextByte cX6_nextByte 4 ({ frames := 1, cells := 0, slots := 0, locals := 22 } : Room) (Option.some Jvm.ClassFile.FieldType.int) [.ref (a 0), .int p0, .int p1] (wU cB cI cJ a (t 0) t_place t_fault t_sort t_digits t_highest ++ (wTp cB cI cJ t p_bytes p_length)) (fun (u : Int32 × Int32) => (wU cB cI cJ a (t 0) u.1 u.2 t_sort t_digits t_highest ++ (wTp cB cI cJ t p_bytes p_length))) (fun (r : Int32) (u : Int32 × Int32) => Q r u.1 u.2) 0 0 := by
  refine ctI_of (own := RX6) (by decide +kernel) rfl (Nat.le_of_ble_eq_true rfl) (fun p e s m below meth c A C => ?_)
  refine w_sub (lv' := [(0, .ref (a 0)), (1, .int p0), (2, .int p1)]) C [0, 1, 2] rfl ?_
  unfold wp_X6_nextByte at hw
  refine w_aload_n C 0 dX6_nextByte_0 rfl ?_
  refine w_get C (T1 := TX6) 0 0 u_X6 k_314 rfl (by decide) rfl rfl dX6_nextByte_1 ?_
  refine w_aload_n C 0 dX6_nextByte_4 rfl ?_
  refine w_get C (T1 := TX6) 0 1 u_X6 k_315 rfl (by decide) rfl rfl dX6_nextByte_5 ?_
  refine w_callPI C (c_X5_byteAt hw) f_X5_byteAt k_249 k_345 rfl ⟨Nat.le_of_ble_eq_true rfl, Nat.le_of_ble_eq_true rfl⟩ rfl rfl ⟨Nat.le_of_ble_eq_true rfl, Nat.le_of_ble_eq_true rfl⟩ 0 rfl (rr := (RX5, TX5, 2)) rfl rfl (wU cB cI cJ a (t 0) t_place t_fault t_sort t_digits t_highest) (fun (u : Unit) => (wU cB cI cJ a (t 0) t_place t_fault t_sort t_digits t_highest ++ (wTp cB cI cJ t p_bytes p_length))) [1, 2] [0] [0, 1, 2] rfl rfl (by decide) (by decide) (by decide) (by decide) (fun _ => rfl) (fun _ => rfl) rfl (Nat.le_of_ble_eq_true rfl) dX6_nextByte_8 (fun r_8 u_8 hw => ?_)
  try dsimp only at hw
  refine w_istore_n C (fun x3_11 => [(3, .int x3_11), (0, .ref (a 0)), (1, .int p0), (2, .int p1)]) dX6_nextByte_11 (by decide) (fun _ => rfl) (fun x3_11 e_x3_11 => ?_)
  replace hw := hw x3_11 e_x3_11
  refine w_iload_n C 0 dX6_nextByte_12 rfl ?_
  refine w_iload_n C 2 dX6_nextByte_13 rfl ?_
  refine w_icmp_lt C 22 (by decide) dX6_nextByte_14 (fun c_14 => ?_) (fun c_14 => ?_)
  · replace hw := hw.1 c_14
    refine w_sub (lv' := [(0, .ref (a 0))]) C [1] rfl ?_
    exact wk_X6_nextByte_22 C  hw
  · replace hw := hw.2 c_14
    refine w_iload_n C 0 dX6_nextByte_17 rfl ?_
    refine w_iload_n C 3 dX6_nextByte_18 rfl ?_
    refine w_icmp_le C 33 (by decide) dX6_nextByte_19 (fun c_19 => ?_) (fun c_19 => ?_)
    · replace hw := hw.1 c_19
      refine w_aload_n C 1 dX6_nextByte_33 rfl ?_
      refine w_dup C rfl dX6_nextByte_34 ?_
      refine w_get C (T1 := TX6) 0 1 u_X6 k_315 rfl (by decide) rfl rfl dX6_nextByte_35 ?_
      refine w_iconst C (v := (1 : Int32)) dX6_nextByte_38 (by decide) ?_
      refine w_iadd C dX6_nextByte_39 ?_
      refine w_puti C (T1 := TX6) (ty := .int) 0 1 (fun z => (wU cB cI cJ a (t 0) z t_fault t_sort t_digits t_highest ++ (wTp cB cI cJ t p_bytes p_length))) u_X6 tyX6 tyX6_ok nmX6 k_315 rfl (by decide) rfl rfl (by decide +kernel) rfl rfl (Nat.le_of_ble_eq_true rfl) (fun _ => rfl) dX6_nextByte_40 (fun t_place_40 e_t_place_40 => ?_)
      replace hw := hw t_place_40 e_t_place_40
      refine w_iload_n C 0 dX6_nextByte_43 rfl ?_
      exact w_iret C (t_place_40, t_fault) hw rfl (Nat.le_of_ble_eq_true rfl) (Nat.le_of_ble_eq_true rfl) dX6_nextByte_44
    · replace hw := hw.2 c_19
      refine w_sub (lv' := [(0, .ref (a 0))]) C [1] rfl ?_
      exact wk_X6_nextByte_22 C  hw
def bod_X6_nextNumber_10 (p_bytes : Nat → Int32) (p_length : Int32)  (Q : Int64 → Int32 → Int32 → Prop) (x1 : Int32) (t_fault : Int32) (K10 : Int64 → Int32 → Int32 → Prop) (x2 : Int64) (x4 : Int32) (t_place : Int32) : Prop := (((9 : Int32) ≤ x4 → (wp_X6_fail x1 (2 : Int32) t_fault (fun (t_fault_92 : Int32) => Q (0 : Int64) t_place t_fault_92))) ∧ (¬ (9 : Int32) ≤ x4 → (wp_X5_byteAt t_place p_bytes p_length (fun (r_25 : Int32) => ∀ x5_28 : Int32, x5_28 = r_25 → ((¬ x5_28 = (-1 : Int32) → (∀ t_place_54 : Int32, t_place_54 = (t_place + (1 : Int32)) → ∀ x2_72 : Int64, x2_72 = (x2 ||| ((((x5_28).toInt64) &&& (127 : Int64)) <<< ((((7 : Int32) * x4)).toInt64 &&& 63))) → (((128 : Int32) ≤ x5_28 → (∀ x4_83 : Int32, x4_83 = x4 + (1 : Int32) → K10 x2_72 x4_83 t_place_54)) ∧ (¬ (128 : Int32) ≤ x5_28 → (Q x2_72 t_place_54 t_fault))))) ∧ (x5_28 = (-1 : Int32) → (wp_X6_fail t_place (1 : Int32) t_fault (fun (t_fault_42 : Int32) => Q (0 : Int64) t_place t_fault_42))))))))
def lp_X6_nextNumber_10 (p_bytes : Nat → Int32) (p_length : Int32)  (Q : Int64 → Int32 → Int32 → Prop) (x1 : Int32) (t_fault : Int32) : Nat → Int64 → Int32 → Int32 → Prop
  | 0, _, _, _ => False
  | j + 1, x2, x4, t_place => bod_X6_nextNumber_10 p_bytes p_length  Q x1 t_fault (fun v0 v1 v2 => lp_X6_nextNumber_10 p_bytes p_length  Q x1 t_fault j v0 v1 v2) x2 x4 t_place
def wp_X6_nextNumber  (t_place : Int32) (t_fault : Int32) (p_bytes : Nat → Int32) (p_length : Int32) (Q : Int64 → Int32 → Int32 → Prop) : Prop := ∀ x1_4 : Int32, x1_4 = t_place → ∀ x2_6 : Int64, x2_6 = (0 : Int64) → ∀ x4_8 : Int32, x4_8 = (0 : Int32) → (∃ j : Nat, lp_X6_nextNumber_10 p_bytes p_length  Q x1_4 t_fault j x2_6 x4_8 t_place)
set_option maxHeartbeats 4000000 in
set_option maxRecDepth 100000 in
theorem wl_X6_nextNumber_10 {p : Program} {l : Launch} {e : Env} {s : State} {m : MethodId} {args : Array Value} {below : List Frame} {meth : Method} {c : Code} {D : va_G} {cB cI cJ cL cS : ClassId} {T : Nat × Nat × Nat × Nat} {A : Nat → Prop} {a : Nat → Nat} {t : Nat → Nat} {t_sort : Int32} {t_digits : Int32} {t_highest : Int64} {p_bytes : Nat → Int32} {p_length : Int32} {Q : Int64 → Int32 → Int32 → Prop} (C : Cq p s m args meth c D (Z5 cB cI cJ cL cS) T A cX6_nextNumber RX6 6 (Option.some Jvm.ClassFile.FieldType.long)) {x1 : Int32} {t_fault : Int32}  : ∀ (j : Nat) (x2 : Int64) (x4 : Int32) (t_place : Int32), lp_X6_nextNumber_10 p_bytes p_length  Q x1 t_fault j x2 x4 t_place → ww p l e ({ frames := 1, cells := 0, slots := 0, locals := 22 } : Room) s m args below meth c D A 6 (MQ below (va_Ql (fun (r : Int64) (u : Int32 × Int32) => Q r u.1 u.2) (OutP D (fun (u : Int32 × Int32) => (wU cB cI cJ a (t 0) u.1 u.2 t_sort t_digits t_highest ++ (wTp cB cI cJ t p_bytes p_length)))) A) args s 0 0 A) 0 0 (wU cB cI cJ a (t 0) t_place t_fault t_sort t_digits t_highest ++ (wTp cB cI cJ t p_bytes p_length)) 10 [(0, .ref (a 0)), (1, .int x1), (2, .long x2), (4, .int x4)] [] := by
  intro j
  induction j with
  | zero => intro _ _ _ hw; exact hw.elim
  | succ j hK10 =>
    intro x2 x4 t_place hw
    have hw : bod_X6_nextNumber_10 p_bytes p_length  Q x1 t_fault (fun v0 v1 v2 => lp_X6_nextNumber_10 p_bytes p_length  Q x1 t_fault j v0 v1 v2) x2 x4 t_place := hw
    unfold bod_X6_nextNumber_10 at hw
    refine w_iload C 3 dX6_nextNumber_10 rfl ?_
    refine w_bipush C (v := (9 : Int32)) dX6_nextNumber_12 (by decide) ?_
    refine w_icmp_ge C 89 (by decide) dX6_nextNumber_14 (fun c_14 => ?_) (fun c_14 => ?_)
    · replace hw := hw.1 c_14
      refine w_aload_n C 0 dX6_nextNumber_89 rfl ?_
      refine w_iload_n C 1 dX6_nextNumber_90 rfl ?_
      refine w_iconst C (v := (2 : Int32)) dX6_nextNumber_91 (by decide) ?_
      refine w_callVV C (c_X6_fail hw) f_X6_fail k_5 k_346 rfl ⟨Nat.le_of_ble_eq_true rfl, Nat.le_of_ble_eq_true rfl⟩ rfl rfl ⟨Nat.le_of_ble_eq_true rfl, Nat.le_of_ble_eq_true rfl⟩ 0 rfl (rr := (RX6, TX6, 6)) rfl rfl (fun _ => rfl) rfl (Nat.le_of_ble_eq_true rfl) dX6_nextNumber_92 (fun u_92 hw => ?_)
      obtain ⟨t_fault_92, rfl⟩ : ∃ z, z = u_92 := ⟨_, rfl⟩
      try dsimp only at hw
      refine w_lconst C (v := (0 : Int64)) dX6_nextNumber_95 (by decide) ?_
      exact w_lret C (t_place, t_fault_92) hw rfl (Nat.le_of_ble_eq_true rfl) (Nat.le_of_ble_eq_true rfl) dX6_nextNumber_96
    · replace hw := hw.2 c_14
      refine w_aload_n C 0 dX6_nextNumber_17 rfl ?_
      refine w_get C (T1 := TX6) 0 0 u_X6 k_314 rfl (by decide) rfl rfl dX6_nextNumber_18 ?_
      refine w_aload_n C 0 dX6_nextNumber_21 rfl ?_
      refine w_get C (T1 := TX6) 0 1 u_X6 k_315 rfl (by decide) rfl rfl dX6_nextNumber_22 ?_
      refine w_callPI C (c_X5_byteAt hw) f_X5_byteAt k_249 k_345 rfl ⟨Nat.le_of_ble_eq_true rfl, Nat.le_of_ble_eq_true rfl⟩ rfl rfl ⟨Nat.le_of_ble_eq_true rfl, Nat.le_of_ble_eq_true rfl⟩ 0 rfl (rr := (RX5, TX5, 2)) rfl rfl (wU cB cI cJ a (t 0) t_place t_fault t_sort t_digits t_highest) (fun (u : Unit) => (wU cB cI cJ a (t 0) t_place t_fault t_sort t_digits t_highest ++ (wTp cB cI cJ t p_bytes p_length))) [1, 2] [0] [0, 1, 2] rfl rfl (by decide) (by decide) (by decide) (by decide) (fun _ => rfl) (fun _ => rfl) rfl (Nat.le_of_ble_eq_true rfl) dX6_nextNumber_25 (fun r_25 u_25 hw => ?_)
      try dsimp only at hw
      refine w_istore C (fun x5_28 => [(5, .int x5_28), (0, .ref (a 0)), (1, .int x1), (2, .long x2), (4, .int x4)]) dX6_nextNumber_28 (by decide) (fun _ => rfl) (fun x5_28 e_x5_28 => ?_)
      replace hw := hw x5_28 e_x5_28
      refine w_iload C 0 dX6_nextNumber_30 rfl ?_
      refine w_iconst C (v := (-1 : Int32)) dX6_nextNumber_32 (by decide) ?_
      refine w_icmp_ne C 47 (by decide) dX6_nextNumber_33 (fun c_33 => ?_) (fun c_33 => ?_)
      · replace hw := hw.1 c_33
        refine w_aload_n C 1 dX6_nextNumber_47 rfl ?_
        refine w_dup C rfl dX6_nextNumber_48 ?_
        refine w_get C (T1 := TX6) 0 1 u_X6 k_315 rfl (by decide) rfl rfl dX6_nextNumber_49 ?_
        refine w_iconst C (v := (1 : Int32)) dX6_nextNumber_52 (by decide) ?_
        refine w_iadd C dX6_nextNumber_53 ?_
        refine w_puti C (T1 := TX6) (ty := .int) 0 1 (fun z => (wU cB cI cJ a (t 0) z t_fault t_sort t_digits t_highest ++ (wTp cB cI cJ t p_bytes p_length))) u_X6 tyX6 tyX6_ok nmX6 k_315 rfl (by decide) rfl rfl (by decide +kernel) rfl rfl (Nat.le_of_ble_eq_true rfl) (fun _ => rfl) dX6_nextNumber_54 (fun t_place_54 e_t_place_54 => ?_)
        replace hw := hw t_place_54 e_t_place_54
        refine w_lload_n C 3 dX6_nextNumber_57 rfl ?_
        refine w_iload C 0 dX6_nextNumber_58 rfl ?_
        refine w_i2l C dX6_nextNumber_60 ?_
        refine w_ldc2 C (v := (127 : Int64)) dX6_nextNumber_61 k_354 ?_
        refine w_land C dX6_nextNumber_64 ?_
        refine w_bipush C (v := (7 : Int32)) dX6_nextNumber_65 (by decide) ?_
        refine w_iload C 4 dX6_nextNumber_67 rfl ?_
        refine w_imul C dX6_nextNumber_69 ?_
        refine w_lshl C dX6_nextNumber_70 ?_
        refine w_lor C dX6_nextNumber_71 ?_
        refine w_lstore_n C (fun x2_72 => [(2, .long x2_72), (5, .int x5_28), (0, .ref (a 0)), (1, .int x1), (4, .int x4)]) dX6_nextNumber_72 (by decide) (fun _ => rfl) (fun x2_72 e_x2_72 => ?_)
        replace hw := hw x2_72 e_x2_72
        refine w_iload C 1 dX6_nextNumber_73 rfl ?_
        refine w_sipush C (v := (128 : Int32)) dX6_nextNumber_75 (by decide) ?_
        refine w_icmp_ge C 83 (by decide) dX6_nextNumber_78 (fun c_78 => ?_) (fun c_78 => ?_)
        · replace hw := hw.1 c_78
          refine w_iinc C (v := x4 + (1 : Int32)) 4 (fun x4_83 => [(4, .int x4_83), (2, .long x2_72), (5, .int x5_28), (0, .ref (a 0)), (1, .int x1)]) dX6_nextNumber_83 rfl rfl (by decide) (fun _ => rfl) (fun x4_83 e_x4_83 => ?_)
          replace hw := hw x4_83 e_x4_83
          refine w_goto C 10 (by decide) dX6_nextNumber_86 ?_
          refine w_sub (lv' := [(0, .ref (a 0)), (1, .int x1), (2, .long x2_72), (4, .int x4_83)]) C [3, 4, 1, 0] rfl ?_
          exact hK10 _ _ _ hw
        · replace hw := hw.2 c_78
          refine w_lload_n C 0 dX6_nextNumber_81 rfl ?_
          exact w_lret C (t_place_54, t_fault) hw rfl (Nat.le_of_ble_eq_true rfl) (Nat.le_of_ble_eq_true rfl) dX6_nextNumber_82
      · replace hw := hw.2 c_33
        refine w_aload_n C 1 dX6_nextNumber_36 rfl ?_
        refine w_aload_n C 1 dX6_nextNumber_37 rfl ?_
        refine w_get C (T1 := TX6) 0 1 u_X6 k_315 rfl (by decide) rfl rfl dX6_nextNumber_38 ?_
        refine w_iconst C (v := (1 : Int32)) dX6_nextNumber_41 (by decide) ?_
        refine w_callVV C (c_X6_fail hw) f_X6_fail k_5 k_346 rfl ⟨Nat.le_of_ble_eq_true rfl, Nat.le_of_ble_eq_true rfl⟩ rfl rfl ⟨Nat.le_of_ble_eq_true rfl, Nat.le_of_ble_eq_true rfl⟩ 0 rfl (rr := (RX6, TX6, 6)) rfl rfl (fun _ => rfl) rfl (Nat.le_of_ble_eq_true rfl) dX6_nextNumber_42 (fun u_42 hw => ?_)
        obtain ⟨t_fault_42, rfl⟩ : ∃ z, z = u_42 := ⟨_, rfl⟩
        try dsimp only at hw
        refine w_lconst C (v := (0 : Int64)) dX6_nextNumber_45 (by decide) ?_
        exact w_lret C (t_place, t_fault_42) hw rfl (Nat.le_of_ble_eq_true rfl) (Nat.le_of_ble_eq_true rfl) dX6_nextNumber_46
set_option maxHeartbeats 4000000 in
set_option maxRecDepth 100000 in
theorem c_X6_nextNumber {l : Launch} {D : va_G} {cB cI cJ cL cS : ClassId} {T : Nat × Nat × Nat × Nat} {a : Nat → Nat} {t : Nat → Nat}  {t_place : Int32} {t_fault : Int32} {t_sort : Int32} {t_digits : Int32} {t_highest : Int64} {p_bytes : Nat → Int32} {p_length : Int32} {Q : Int64 → Int32 → Int32 → Prop} (hw : wp_X6_nextNumber  t_place t_fault p_bytes p_length Q) : CtL l D (Z5 cB cI cJ cL cS) T yX6_nextNumber cX6_nextNumber 6 ({ frames := 1, cells := 0, slots := 0, locals := 22 } : Room) (Option.some Jvm.ClassFile.FieldType.long) [.ref (a 0)] (wU cB cI cJ a (t 0) t_place t_fault t_sort t_digits t_highest ++ (wTp cB cI cJ t p_bytes p_length)) (fun (u : Int32 × Int32) => (wU cB cI cJ a (t 0) u.1 u.2 t_sort t_digits t_highest ++ (wTp cB cI cJ t p_bytes p_length))) (fun (r : Int64) (u : Int32 × Int32) => Q r u.1 u.2) 0 0 := by
  refine ctL_of (own := RX6) (by decide +kernel) rfl (Nat.le_of_ble_eq_true rfl) (fun p e s m below meth c A C => ?_)
  refine w_sub (lv' := [(0, .ref (a 0))]) C [0] rfl ?_
  unfold wp_X6_nextNumber at hw
  refine w_aload_n C 0 dX6_nextNumber_0 rfl ?_
  refine w_get C (T1 := TX6) 0 1 u_X6 k_315 rfl (by decide) rfl rfl dX6_nextNumber_1 ?_
  refine w_istore_n C (fun x1_4 => [(1, .int x1_4), (0, .ref (a 0))]) dX6_nextNumber_4 (by decide) (fun _ => rfl) (fun x1_4 e_x1_4 => ?_)
  replace hw := hw x1_4 e_x1_4
  refine w_lconst C (v := (0 : Int64)) dX6_nextNumber_5 (by decide) ?_
  refine w_lstore_n C (fun x2_6 => [(2, .long x2_6), (1, .int x1_4), (0, .ref (a 0))]) dX6_nextNumber_6 (by decide) (fun _ => rfl) (fun x2_6 e_x2_6 => ?_)
  replace hw := hw x2_6 e_x2_6
  refine w_iconst C (v := (0 : Int32)) dX6_nextNumber_7 (by decide) ?_
  refine w_istore C (fun x4_8 => [(4, .int x4_8), (2, .long x2_6), (1, .int x1_4), (0, .ref (a 0))]) dX6_nextNumber_8 (by decide) (fun _ => rfl) (fun x4_8 e_x4_8 => ?_)
  replace hw := hw x4_8 e_x4_8
  refine w_sub (lv' := [(0, .ref (a 0)), (1, .int x1_4), (2, .long x2_6), (4, .int x4_8)]) C [3, 2, 1, 0] rfl ?_
  obtain ⟨j, hw⟩ := hw
  exact wl_X6_nextNumber_10 C  j _ _ _ hw
def wp_X6_readHead  (t_place : Int32) (t_fault : Int32) (t_sort : Int32) (t_digits : Int32) (t_highest : Int64) (p_bytes : Nat → Int32) (p_length : Int32) (Q : Int32 → Int32 → Int32 → Int32 → Int64 → Prop) : Prop := ∀ t_place_2 : Int32, t_place_2 = (0 : Int32) → wp_X6_nextByte (165 : Int32) (165 : Int32) t_place_2 t_fault p_bytes p_length (fun (r_12 : Int32) (t_place_12 : Int32) (t_fault_12 : Int32) => ((¬ r_12 = (-1 : Int32) → (wp_X6_nextByte (0 : Int32) (1 : Int32) t_place_12 t_fault_12 p_bytes p_length (fun (r_24 : Int32) (t_place_24 : Int32) (t_fault_24 : Int32) => ∀ t_sort_27 : Int32, t_sort_27 = r_24 → ((¬ t_sort_27 = (-1 : Int32) → (wp_X6_nextByte (1 : Int32) (2 : Int32) t_place_24 t_fault_24 p_bytes p_length (fun (r_43 : Int32) (t_place_43 : Int32) (t_fault_43 : Int32) => ∀ t_digits_46 : Int32, t_digits_46 = r_43 → ((¬ t_digits_46 = (-1 : Int32) → (∀ x1_62 : Int32, x1_62 = t_place_43 → wp_X6_nextNumber  t_place_43 t_fault_43 p_bytes p_length (fun (r_65 : Int64) (t_place_65 : Int32) (t_fault_65 : Int32) => ∀ t_highest_68 : Int64, t_highest_68 = r_65 → ((¬ t_fault_65 = 0 → (Q t_place_65 t_fault_65 t_sort_27 t_digits_46 t_highest_68)) ∧ (t_fault_65 = 0 → (wp_X7_isSetting t_sort_27 t_digits_46 t_highest_68  (fun (r_90 : Int32) => ((¬ r_90 = 0 → (Q t_place_65 t_fault_65 t_sort_27 t_digits_46 t_highest_68)) ∧ (r_90 = 0 → (wp_X6_fail x1_62 (2 : Int32) t_fault_65 (fun (t_fault_99 : Int32) => Q t_place_65 t_fault_99 t_sort_27 t_digits_46 t_highest_68))))))))))) ∧ (t_digits_46 = (-1 : Int32) → (Q t_place_43 t_fault_43 t_sort_27 t_digits_46 t_highest)))))) ∧ (t_sort_27 = (-1 : Int32) → (Q t_place_24 t_fault_24 t_sort_27 t_digits t_highest)))))) ∧ (r_12 = (-1 : Int32) → (Q t_place_12 t_fault_12 t_sort t_digits t_highest))))
set_option maxHeartbeats 4000000 in
set_option maxRecDepth 100000 in
theorem c_X6_readHead {l : Launch} {D : va_G} {cB cI cJ cL cS : ClassId} {T : Nat × Nat × Nat × Nat} {a : Nat → Nat} {t : Nat → Nat}  {t_place : Int32} {t_fault : Int32} {t_sort : Int32} {t_digits : Int32} {t_highest : Int64} {p_bytes : Nat → Int32} {p_length : Int32} {Q : Int32 → Int32 → Int32 → Int32 → Int64 → Prop} (hw : wp_X6_readHead  t_place t_fault t_sort t_digits t_highest p_bytes p_length Q) : CtV l D (Z5 cB cI cJ cL cS) T yX6_readHead cX6_readHead 2 ({ frames := 2, cells := 0, slots := 0, locals := 47 } : Room) (Option.none : Option Jvm.ClassFile.FieldType) [.ref (a 0)] (wU cB cI cJ a (t 0) t_place t_fault t_sort t_digits t_highest ++ (wTp cB cI cJ t p_bytes p_length)) (fun (u : Int32 × Int32 × Int32 × Int32 × Int64) => (wU cB cI cJ a (t 0) u.1 u.2.1 u.2.2.1 u.2.2.2.1 u.2.2.2.2 ++ (wTp cB cI cJ t p_bytes p_length))) (fun (u : Int32 × Int32 × Int32 × Int32 × Int64) => Q u.1 u.2.1 u.2.2.1 u.2.2.2.1 u.2.2.2.2) 0 0 := by
  refine ctV_of (own := RX6) (by decide +kernel) rfl (Nat.le_of_ble_eq_true rfl) (fun p e s m below meth c A C => ?_)
  refine w_sub (lv' := [(0, .ref (a 0))]) C [0] rfl ?_
  unfold wp_X6_readHead at hw
  refine w_aload_n C 0 dX6_readHead_0 rfl ?_
  refine w_iconst C (v := (0 : Int32)) dX6_readHead_1 (by decide) ?_
  refine w_puti C (T1 := TX6) (ty := .int) 0 1 (fun z => (wU cB cI cJ a (t 0) z t_fault t_sort t_digits t_highest ++ (wTp cB cI cJ t p_bytes p_length))) u_X6 tyX6 tyX6_ok nmX6 k_315 rfl (by decide) rfl rfl (by decide +kernel) rfl rfl (Nat.le_of_ble_eq_true rfl) (fun _ => rfl) dX6_readHead_2 (fun t_place_2 e_t_place_2 => ?_)
  replace hw := hw t_place_2 e_t_place_2
  refine w_aload_n C 0 dX6_readHead_5 rfl ?_
  refine w_sipush C (v := (165 : Int32)) dX6_readHead_6 (by decide) ?_
  refine w_sipush C (v := (165 : Int32)) dX6_readHead_9 (by decide) ?_
  refine w_callVI C (c_X6_nextByte hw) f_X6_nextByte k_4 k_341 rfl ⟨Nat.le_of_ble_eq_true rfl, Nat.le_of_ble_eq_true rfl⟩ rfl rfl ⟨Nat.le_of_ble_eq_true rfl, Nat.le_of_ble_eq_true rfl⟩ 0 rfl (rr := (RX6, TX6, 6)) rfl rfl (fun _ => rfl) rfl (Nat.le_of_ble_eq_true rfl) dX6_readHead_12 (fun r_12 u_12 hw => ?_)
  obtain ⟨t_place_12, t_fault_12⟩ := u_12
  try dsimp only at hw
  refine w_iconst C (v := (-1 : Int32)) dX6_readHead_15 (by decide) ?_
  refine w_icmp_ne C 20 (by decide) dX6_readHead_16 (fun c_16 => ?_) (fun c_16 => ?_)
  · replace hw := hw.1 c_16
    refine w_aload_n C 0 dX6_readHead_20 rfl ?_
    refine w_aload_n C 0 dX6_readHead_21 rfl ?_
    refine w_iconst C (v := (0 : Int32)) dX6_readHead_22 (by decide) ?_
    refine w_iconst C (v := (1 : Int32)) dX6_readHead_23 (by decide) ?_
    refine w_callVI C (c_X6_nextByte hw) f_X6_nextByte k_4 k_341 rfl ⟨Nat.le_of_ble_eq_true rfl, Nat.le_of_ble_eq_true rfl⟩ rfl rfl ⟨Nat.le_of_ble_eq_true rfl, Nat.le_of_ble_eq_true rfl⟩ 0 rfl (rr := (RX6, TX6, 6)) rfl rfl (fun _ => rfl) rfl (Nat.le_of_ble_eq_true rfl) dX6_readHead_24 (fun r_24 u_24 hw => ?_)
    obtain ⟨t_place_24, t_fault_24⟩ := u_24
    try dsimp only at hw
    refine w_puti C (T1 := TX6) (ty := .int) 0 3 (fun z => (wU cB cI cJ a (t 0) t_place_24 t_fault_24 z t_digits t_highest ++ (wTp cB cI cJ t p_bytes p_length))) u_X6 tyX6 tyX6_ok nmX6 k_317 rfl (by decide) rfl rfl (by decide +kernel) rfl rfl (Nat.le_of_ble_eq_true rfl) (fun _ => rfl) dX6_readHead_27 (fun t_sort_27 e_t_sort_27 => ?_)
    replace hw := hw t_sort_27 e_t_sort_27
    refine w_aload_n C 0 dX6_readHead_30 rfl ?_
    refine w_get C (T1 := TX6) 0 3 u_X6 k_317 rfl (by decide) rfl rfl dX6_readHead_31 ?_
    refine w_iconst C (v := (-1 : Int32)) dX6_readHead_34 (by decide) ?_
    refine w_icmp_ne C 39 (by decide) dX6_readHead_35 (fun c_35 => ?_) (fun c_35 => ?_)
    · replace hw := hw.1 c_35
      refine w_aload_n C 0 dX6_readHead_39 rfl ?_
      refine w_aload_n C 0 dX6_readHead_40 rfl ?_
      refine w_iconst C (v := (1 : Int32)) dX6_readHead_41 (by decide) ?_
      refine w_iconst C (v := (2 : Int32)) dX6_readHead_42 (by decide) ?_
      refine w_callVI C (c_X6_nextByte hw) f_X6_nextByte k_4 k_341 rfl ⟨Nat.le_of_ble_eq_true rfl, Nat.le_of_ble_eq_true rfl⟩ rfl rfl ⟨Nat.le_of_ble_eq_true rfl, Nat.le_of_ble_eq_true rfl⟩ 0 rfl (rr := (RX6, TX6, 6)) rfl rfl (fun _ => rfl) rfl (Nat.le_of_ble_eq_true rfl) dX6_readHead_43 (fun r_43 u_43 hw => ?_)
      obtain ⟨t_place_43, t_fault_43⟩ := u_43
      try dsimp only at hw
      refine w_puti C (T1 := TX6) (ty := .int) 0 4 (fun z => (wU cB cI cJ a (t 0) t_place_43 t_fault_43 t_sort_27 z t_highest ++ (wTp cB cI cJ t p_bytes p_length))) u_X6 tyX6 tyX6_ok nmX6 k_318 rfl (by decide) rfl rfl (by decide +kernel) rfl rfl (Nat.le_of_ble_eq_true rfl) (fun _ => rfl) dX6_readHead_46 (fun t_digits_46 e_t_digits_46 => ?_)
      replace hw := hw t_digits_46 e_t_digits_46
      refine w_aload_n C 0 dX6_readHead_49 rfl ?_
      refine w_get C (T1 := TX6) 0 4 u_X6 k_318 rfl (by decide) rfl rfl dX6_readHead_50 ?_
      refine w_iconst C (v := (-1 : Int32)) dX6_readHead_53 (by decide) ?_
      refine w_icmp_ne C 58 (by decide) dX6_readHead_54 (fun c_54 => ?_) (fun c_54 => ?_)
      · replace hw := hw.1 c_54
        refine w_aload_n C 0 dX6_readHead_58 rfl ?_
        refine w_get C (T1 := TX6) 0 1 u_X6 k_315 rfl (by decide) rfl rfl dX6_readHead_59 ?_
        refine w_istore_n C (fun x1_62 => [(1, .int x1_62), (0, .ref (a 0))]) dX6_readHead_62 (by decide) (fun _ => rfl) (fun x1_62 e_x1_62 => ?_)
        replace hw := hw x1_62 e_x1_62
        refine w_aload_n C 1 dX6_readHead_63 rfl ?_
        refine w_aload_n C 1 dX6_readHead_64 rfl ?_
        refine w_callVL C (c_X6_nextNumber hw) f_X6_nextNumber k_6 k_350 rfl ⟨Nat.le_of_ble_eq_true rfl, Nat.le_of_ble_eq_true rfl⟩ rfl rfl ⟨Nat.le_of_ble_eq_true rfl, Nat.le_of_ble_eq_true rfl⟩ 0 rfl (rr := (RX6, TX6, 6)) rfl rfl (fun _ => rfl) rfl (Nat.le_of_ble_eq_true rfl) dX6_readHead_65 (fun r_65 u_65 hw => ?_)
        obtain ⟨t_place_65, t_fault_65⟩ := u_65
        try dsimp only at hw
        refine w_putl C (T1 := TX6) (ty := .long) 0 5 (fun z => (wU cB cI cJ a (t 0) t_place_65 t_fault_65 t_sort_27 t_digits_46 z ++ (wTp cB cI cJ t p_bytes p_length))) u_X6 tyX6 tyX6_ok nmX6 k_319 rfl (by decide) rfl rfl (by decide +kernel) rfl rfl (Nat.le_of_ble_eq_true rfl) (fun _ => rfl) dX6_readHead_68 (fun t_highest_68 e_t_highest_68 => ?_)
        replace hw := hw t_highest_68 e_t_highest_68
        refine w_aload_n C 1 dX6_readHead_71 rfl ?_
        refine w_get C (T1 := TX6) 0 2 u_X6 k_316 rfl (by decide) rfl rfl dX6_readHead_72 ?_
        refine w_if_ne C 102 (by decide) dX6_readHead_75 (fun c_75 => ?_) (fun c_75 => ?_)
        · replace hw := hw.1 c_75
          exact w_vret C (t_place_65, t_fault_65, t_sort_27, t_digits_46, t_highest_68) hw rfl (Nat.le_of_ble_eq_true rfl) (Nat.le_of_ble_eq_true rfl) dX6_readHead_102
        · replace hw := hw.2 c_75
          refine w_aload_n C 1 dX6_readHead_78 rfl ?_
          refine w_get C (T1 := TX6) 0 3 u_X6 k_317 rfl (by decide) rfl rfl dX6_readHead_79 ?_
          refine w_aload_n C 1 dX6_readHead_82 rfl ?_
          refine w_get C (T1 := TX6) 0 4 u_X6 k_318 rfl (by decide) rfl rfl dX6_readHead_83 ?_
          refine w_aload_n C 1 dX6_readHead_86 rfl ?_
          refine w_get C (T1 := TX6) 0 5 u_X6 k_319 rfl (by decide) rfl rfl dX6_readHead_87 ?_
          refine w_callSIN C (c_X7_isSetting hw) f_X7_isSetting n_355 rfl ⟨Nat.le_of_ble_eq_true rfl, Nat.le_of_ble_eq_true rfl⟩ rfl rfl ⟨Nat.le_of_ble_eq_true rfl, Nat.le_of_ble_eq_true rfl⟩ rfl (Nat.le_of_ble_eq_true rfl) dX6_readHead_90 (fun r_90 u_90 hw => ?_)
          try dsimp only at hw
          refine w_if_ne C 102 (by decide) dX6_readHead_93 (fun c_93 => ?_) (fun c_93 => ?_)
          · replace hw := hw.1 c_93
            exact w_vret C (t_place_65, t_fault_65, t_sort_27, t_digits_46, t_highest_68) hw rfl (Nat.le_of_ble_eq_true rfl) (Nat.le_of_ble_eq_true rfl) dX6_readHead_102
          · replace hw := hw.2 c_93
            refine w_aload_n C 1 dX6_readHead_96 rfl ?_
            refine w_iload_n C 0 dX6_readHead_97 rfl ?_
            refine w_iconst C (v := (2 : Int32)) dX6_readHead_98 (by decide) ?_
            refine w_callVV C (c_X6_fail hw) f_X6_fail k_5 k_346 rfl ⟨Nat.le_of_ble_eq_true rfl, Nat.le_of_ble_eq_true rfl⟩ rfl rfl ⟨Nat.le_of_ble_eq_true rfl, Nat.le_of_ble_eq_true rfl⟩ 0 rfl (rr := (RX6, TX6, 6)) rfl rfl (fun _ => rfl) rfl (Nat.le_of_ble_eq_true rfl) dX6_readHead_99 (fun u_99 hw => ?_)
            obtain ⟨t_fault_99, rfl⟩ : ∃ z, z = u_99 := ⟨_, rfl⟩
            try dsimp only at hw
            exact w_vret C (t_place_65, t_fault_99, t_sort_27, t_digits_46, t_highest_68) hw rfl (Nat.le_of_ble_eq_true rfl) (Nat.le_of_ble_eq_true rfl) dX6_readHead_102
      · replace hw := hw.2 c_54
        exact w_vret C (t_place_43, t_fault_43, t_sort_27, t_digits_46, t_highest) hw rfl (Nat.le_of_ble_eq_true rfl) (Nat.le_of_ble_eq_true rfl) dX6_readHead_57
    · replace hw := hw.2 c_35
      exact w_vret C (t_place_24, t_fault_24, t_sort_27, t_digits, t_highest) hw rfl (Nat.le_of_ble_eq_true rfl) (Nat.le_of_ble_eq_true rfl) dX6_readHead_38
  · replace hw := hw.2 c_16
    exact w_vret C (t_place_12, t_fault_12, t_sort, t_digits, t_highest) hw rfl (Nat.le_of_ble_eq_true rfl) (Nat.le_of_ble_eq_true rfl) dX6_readHead_19
def wp_X6_isZeros (p0 : Int64)  (Q : Int32 → Prop) : Prop := ((¬ (p0 &&& (1 : Int64)) = (1 : Int64) → (Q (0 : Int32))) ∧ ((p0 &&& (1 : Int64)) = (1 : Int64) → (Q (1 : Int32))))
set_option maxHeartbeats 4000000 in
set_option maxRecDepth 100000 in
theorem c_X6_isZeros {l : Launch} {D : va_G} {cB cI cJ cL cS : ClassId} {T : Nat × Nat × Nat × Nat}  {p0 : Int64}  {Q : Int32 → Prop} (hw : wp_X6_isZeros p0  Q) : CtI l D (Z5 cB cI cJ cL cS) T yX6_isZeros cX6_isZeros 2 ({ frames := 0, cells := 0, slots := 0, locals := 0 } : Room) (Option.some Jvm.ClassFile.FieldType.boolean) [.long p0] [] (fun (u : Unit) => []) (fun (r : Int32) (u : Unit) => Q r ) 0 0 := by
  refine ctI_of (own := RX6) (by decide +kernel) rfl (Nat.le_of_ble_eq_true rfl) (fun p e s m below meth c A C => ?_)
  refine w_sub (lv' := [(0, .long p0)]) C [0] rfl ?_
  unfold wp_X6_isZeros at hw
  refine w_lload_n C 0 dX6_isZeros_0 rfl ?_
  refine w_lconst C (v := (1 : Int64)) dX6_isZeros_1 (by decide) ?_
  refine w_land C dX6_isZeros_2 ?_
  refine w_lconst C (v := (1 : Int64)) dX6_isZeros_3 (by decide) ?_
  refine w_lcmp_ne C 5 12 rfl (by decide) dX6_isZeros_4 dX6_isZeros_5 (fun c_4 => ?_) (fun c_4 => ?_)
  · replace hw := hw.1 c_4
    refine w_iconst C (v := (0 : Int32)) dX6_isZeros_12 (by decide) ?_
    exact w_zret C () (Or.inl rfl) hw rfl (Nat.le_of_ble_eq_true rfl) (Nat.le_of_ble_eq_true rfl) dX6_isZeros_13
  · replace hw := hw.2 c_4
    refine w_iconst C (v := (1 : Int32)) dX6_isZeros_8 (by decide) ?_
    refine w_goto C 13 (by decide) dX6_isZeros_9 ?_
    exact w_zret C () (Or.inr rfl) hw rfl (Nat.le_of_ble_eq_true rfl) (Nat.le_of_ble_eq_true rfl) dX6_isZeros_13
def wp_X6_slotsOf (p0 : Int64)  (Q : Int64 → Prop) : Prop := wp_X6_isZeros p0  (fun (r_1 : Int32) => ((r_1 = 0 → (Q (1 : Int64))) ∧ (¬ r_1 = 0 → (Q ((p0 / (2 : Int64)) + (1 : Int64))))))
set_option maxHeartbeats 4000000 in
set_option maxRecDepth 100000 in
theorem c_X6_slotsOf {l : Launch} {D : va_G} {cB cI cJ cL cS : ClassId} {T : Nat × Nat × Nat × Nat}  {p0 : Int64}  {Q : Int64 → Prop} (hw : wp_X6_slotsOf p0  Q) : CtL l D (Z5 cB cI cJ cL cS) T yX6_slotsOf cX6_slotsOf 2 ({ frames := 1, cells := 0, slots := 0, locals := 21 } : Room) (Option.some Jvm.ClassFile.FieldType.long) [.long p0] [] (fun (u : Unit) => []) (fun (r : Int64) (u : Unit) => Q r ) 0 0 := by
  refine ctL_of (own := RX6) (by decide +kernel) rfl (Nat.le_of_ble_eq_true rfl) (fun p e s m below meth c A C => ?_)
  refine w_sub (lv' := [(0, .long p0)]) C [0] rfl ?_
  unfold wp_X6_slotsOf at hw
  refine w_lload_n C 0 dX6_slotsOf_0 rfl ?_
  refine w_callSI C (c_X6_isZeros hw) f_X6_isZeros k_378 rfl ⟨Nat.le_of_ble_eq_true rfl, Nat.le_of_ble_eq_true rfl⟩ rfl rfl ⟨Nat.le_of_ble_eq_true rfl, Nat.le_of_ble_eq_true rfl⟩ rfl (Nat.le_of_ble_eq_true rfl) dX6_slotsOf_1 (fun r_1 u_1 hw => ?_)
  try dsimp only at hw
  refine w_if_eq C 17 (by decide) dX6_slotsOf_4 (fun c_4 => ?_) (fun c_4 => ?_)
  · replace hw := hw.1 c_4
    refine w_lconst C (v := (1 : Int64)) dX6_slotsOf_17 (by decide) ?_
    exact w_lret C () hw rfl (Nat.le_of_ble_eq_true rfl) (Nat.le_of_ble_eq_true rfl) dX6_slotsOf_18
  · replace hw := hw.2 c_4
    refine w_lload_n C 0 dX6_slotsOf_7 rfl ?_
    refine w_ldc2 C (v := (2 : Int64)) dX6_slotsOf_8 k_381 ?_
    refine w_ldiv C (by decide) dX6_slotsOf_11 ?_
    refine w_lconst C (v := (1 : Int64)) dX6_slotsOf_12 (by decide) ?_
    refine w_ladd C dX6_slotsOf_13 ?_
    refine w_goto C 18 (by decide) dX6_slotsOf_14 ?_
    exact w_lret C () hw rfl (Nat.le_of_ble_eq_true rfl) (Nat.le_of_ble_eq_true rfl) dX6_slotsOf_18
def blk_X6_checkSlots_151 (p_bytes : Nat → Int32) (p_length : Int32)  (Q : Int32 → Int32 → Prop) (x4 : Int32) (t_place : Int32) (t_fault : Int32) : Prop := ((x4 = (-1 : Int32) → (Q t_place t_fault)) ∧ (¬ x4 = (-1 : Int32) → (wp_X6_fail x4 (4 : Int32) t_fault (fun (t_fault_161 : Int32) => Q t_place t_fault_161))))
def blk_X6_checkSlots_113 (p_bytes : Nat → Int32) (p_length : Int32)  (Q : Int32 → Int32 → Prop) (x6 : Int32) (t_place : Int32) (t_fault : Int32) : Prop := wp_X6_fail x6 (3 : Int32) t_fault (fun (t_fault_117 : Int32) => Q t_place t_fault_117)
def blk_X6_checkSlots_143 (p_bytes : Nat → Int32) (p_length : Int32) (K8 : Int64 → Int32 → Int32 → Int32 → Int32 → Prop) (Q : Int32 → Int32 → Prop) (x1 : Int32) (x2 : Int64) (x5 : Int32) (k0 : Int32) (t_place : Int32) (t_fault : Int32) : Prop := ∀ x4_143 : Int32, x4_143 = k0 → ∀ x5_145 : Int32, x5_145 = x5 + (1 : Int32) → K8 x2 x4_143 x5_145 t_place t_fault
def blk_X6_checkSlots_121 (p_bytes : Nat → Int32) (p_length : Int32) (K8 : Int64 → Int32 → Int32 → Int32 → Int32 → Prop) (Q : Int32 → Int32 → Prop) (x1 : Int32) (x2 : Int64) (x5 : Int32) (x6 : Int32) (x7 : Int64) (t_place : Int32) (t_fault : Int32) : Prop := wp_X6_slotsOf x7  (fun (r_124 : Int64) => ∀ x2_128 : Int64, x2_128 = (x2 + r_124) → wp_X6_isZeros x7  (fun (r_131 : Int32) => ((r_131 = 0 → ((blk_X6_checkSlots_143 p_bytes p_length K8 Q x1 x2_128 x5 (-1 : Int32) t_place t_fault))) ∧ (¬ r_131 = 0 → ((blk_X6_checkSlots_143 p_bytes p_length K8 Q x1 x2_128 x5 x6 t_place t_fault))))))
def blk_X6_checkSlots_79 (p_bytes : Nat → Int32) (p_length : Int32) (K8 : Int64 → Int32 → Int32 → Int32 → Int32 → Prop) (Q : Int32 → Int32 → Prop) (x1 : Int32) (x2 : Int64) (x4 : Int32) (x5 : Int32) (x6 : Int32) (x7 : Int64) (t_place : Int32) (t_fault : Int32) : Prop := ((x7 = (0 : Int64) → ((blk_X6_checkSlots_113 p_bytes p_length  Q x6 t_place t_fault))) ∧ (¬ x7 = (0 : Int64) → (wp_X6_slotsOf x7  (fun (r_88 : Int64) => (((((x1).toInt64) - x2) < r_88 → ((blk_X6_checkSlots_113 p_bytes p_length  Q x6 t_place t_fault))) ∧ (¬ (((x1).toInt64) - x2) < r_88 → (wp_X6_isZeros x7  (fun (r_101 : Int32) => ((r_101 = 0 → ((blk_X6_checkSlots_121 p_bytes p_length K8 Q x1 x2 x5 x6 x7 t_place t_fault))) ∧ (¬ r_101 = 0 → (((x4 = (-1 : Int32) → ((blk_X6_checkSlots_121 p_bytes p_length K8 Q x1 x2 x5 x6 x7 t_place t_fault))) ∧ (¬ x4 = (-1 : Int32) → ((blk_X6_checkSlots_113 p_bytes p_length  Q x6 t_place t_fault)))))))))))))))
def bod_X6_checkSlots_8 (p_bytes : Nat → Int32) (p_length : Int32)  (Q : Int32 → Int32 → Prop) (x1 : Int32)  (K8 : Int64 → Int32 → Int32 → Int32 → Int32 → Prop) (x2 : Int64) (x4 : Int32) (x5 : Int32) (t_place : Int32) (t_fault : Int32) : Prop := (((400 : Int32) ≤ x5 → ((blk_X6_checkSlots_151 p_bytes p_length  Q x4 t_place t_fault))) ∧ (¬ (400 : Int32) ≤ x5 → (((p_length ≤ t_place → ((blk_X6_checkSlots_151 p_bytes p_length  Q x4 t_place t_fault))) ∧ (¬ p_length ≤ t_place → (∀ x6_34 : Int32, x6_34 = t_place → wp_X6_nextNumber  t_place t_fault p_bytes p_length (fun (r_37 : Int64) (t_place_37 : Int32) (t_fault_37 : Int32) => ∀ x7_40 : Int64, x7_40 = r_37 → ((t_fault_37 = 0 → (wp_X6_isZeros x7_40  (fun (r_52 : Int32) => ((¬ r_52 = 0 → ((blk_X6_checkSlots_79 p_bytes p_length K8 Q x1 x2 x4 x5 x6_34 x7_40 t_place_37 t_fault_37))) ∧ (r_52 = 0 → ((((x7_40 / (2 : Int64)) ≤ (1000000000000000 : Int64) → ((blk_X6_checkSlots_79 p_bytes p_length K8 Q x1 x2 x4 x5 x6_34 x7_40 t_place_37 t_fault_37))) ∧ (¬ (x7_40 / (2 : Int64)) ≤ (1000000000000000 : Int64) → (wp_X6_fail x6_34 (2 : Int32) t_fault_37 (fun (t_fault_75 : Int32) => Q t_place_37 t_fault_75)))))))))) ∧ (¬ t_fault_37 = 0 → (Q t_place_37 t_fault_37))))))))))
def lp_X6_checkSlots_8 (p_bytes : Nat → Int32) (p_length : Int32)  (Q : Int32 → Int32 → Prop) (x1 : Int32)  : Nat → Int64 → Int32 → Int32 → Int32 → Int32 → Prop
  | 0, _, _, _, _, _ => False
  | j + 1, x2, x4, x5, t_place, t_fault => bod_X6_checkSlots_8 p_bytes p_length  Q x1 (fun v0 v1 v2 v3 v4 => lp_X6_checkSlots_8 p_bytes p_length  Q x1 j v0 v1 v2 v3 v4) x2 x4 x5 t_place t_fault
def wp_X6_checkSlots (p0 : Int32) (t_place : Int32) (t_fault : Int32) (p_bytes : Nat → Int32) (p_length : Int32) (Q : Int32 → Int32 → Prop) : Prop := ∀ x2_1 : Int64, x2_1 = (0 : Int64) → ∀ x4_3 : Int32, x4_3 = (-1 : Int32) → ∀ x5_6 : Int32, x5_6 = (0 : Int32) → (∃ j : Nat, lp_X6_checkSlots_8 p_bytes p_length  Q p0 j x2_1 x4_3 x5_6 t_place t_fault)
set_option maxHeartbeats 4000000 in
set_option maxRecDepth 100000 in
theorem wk_X6_checkSlots_151 {p : Program} {l : Launch} {e : Env} {s : State} {m : MethodId} {args : Array Value} {below : List Frame} {meth : Method} {c : Code} {D : va_G} {cB cI cJ cL cS : ClassId} {T : Nat × Nat × Nat × Nat} {A : Nat → Prop} {a : Nat → Nat} {t : Nat → Nat} {t_sort : Int32} {t_digits : Int32} {t_highest : Int64} {p_bytes : Nat → Int32} {p_length : Int32} {Q : Int32 → Int32 → Prop} (C : Cq p s m args meth c D (Z5 cB cI cJ cL cS) T A cX6_checkSlots RX6 9 (Option.none : Option Jvm.ClassFile.FieldType)) {x4 : Int32} {t_place : Int32} {t_fault : Int32}  (hw : blk_X6_checkSlots_151 p_bytes p_length  Q x4 t_place t_fault) : ww p l e ({ frames := 2, cells := 0, slots := 0, locals := 47 } : Room) s m args below meth c D A 9 (MQ below (va_Qv (fun (u : Int32 × Int32) => Q u.1 u.2) (OutP D (fun (u : Int32 × Int32) => (wU cB cI cJ a (t 0) u.1 u.2 t_sort t_digits t_highest ++ (wTp cB cI cJ t p_bytes p_length)))) A) args s 0 0 A) 0 0 (wU cB cI cJ a (t 0) t_place t_fault t_sort t_digits t_highest ++ (wTp cB cI cJ t p_bytes p_length)) 151 [(0, .ref (a 0)), (4, .int x4)] [] := by
  unfold blk_X6_checkSlots_151 at hw
  refine w_iload C 1 dX6_checkSlots_151 rfl ?_
  refine w_iconst C (v := (-1 : Int32)) dX6_checkSlots_153 (by decide) ?_
  refine w_icmp_eq C 164 (by decide) dX6_checkSlots_154 (fun c_154 => ?_) (fun c_154 => ?_)
  · replace hw := hw.1 c_154
    exact w_vret C (t_place, t_fault) hw rfl (Nat.le_of_ble_eq_true rfl) (Nat.le_of_ble_eq_true rfl) dX6_checkSlots_164
  · replace hw := hw.2 c_154
    refine w_aload_n C 0 dX6_checkSlots_157 rfl ?_
    refine w_iload C 1 dX6_checkSlots_158 rfl ?_
    refine w_iconst C (v := (4 : Int32)) dX6_checkSlots_160 (by decide) ?_
    refine w_callVV C (c_X6_fail hw) f_X6_fail k_5 k_346 rfl ⟨Nat.le_of_ble_eq_true rfl, Nat.le_of_ble_eq_true rfl⟩ rfl rfl ⟨Nat.le_of_ble_eq_true rfl, Nat.le_of_ble_eq_true rfl⟩ 0 rfl (rr := (RX6, TX6, 6)) rfl rfl (fun _ => rfl) rfl (Nat.le_of_ble_eq_true rfl) dX6_checkSlots_161 (fun u_161 hw => ?_)
    obtain ⟨t_fault_161, rfl⟩ : ∃ z, z = u_161 := ⟨_, rfl⟩
    try dsimp only at hw
    exact w_vret C (t_place, t_fault_161) hw rfl (Nat.le_of_ble_eq_true rfl) (Nat.le_of_ble_eq_true rfl) dX6_checkSlots_164
set_option maxHeartbeats 4000000 in
set_option maxRecDepth 100000 in
theorem wk_X6_checkSlots_113 {p : Program} {l : Launch} {e : Env} {s : State} {m : MethodId} {args : Array Value} {below : List Frame} {meth : Method} {c : Code} {D : va_G} {cB cI cJ cL cS : ClassId} {T : Nat × Nat × Nat × Nat} {A : Nat → Prop} {a : Nat → Nat} {t : Nat → Nat} {t_sort : Int32} {t_digits : Int32} {t_highest : Int64} {p_bytes : Nat → Int32} {p_length : Int32} {Q : Int32 → Int32 → Prop} (C : Cq p s m args meth c D (Z5 cB cI cJ cL cS) T A cX6_checkSlots RX6 9 (Option.none : Option Jvm.ClassFile.FieldType)) {x6 : Int32} {t_place : Int32} {t_fault : Int32}  (hw : blk_X6_checkSlots_113 p_bytes p_length  Q x6 t_place t_fault) : ww p l e ({ frames := 2, cells := 0, slots := 0, locals := 47 } : Room) s m args below meth c D A 9 (MQ below (va_Qv (fun (u : Int32 × Int32) => Q u.1 u.2) (OutP D (fun (u : Int32 × Int32) => (wU cB cI cJ a (t 0) u.1 u.2 t_sort t_digits t_highest ++ (wTp cB cI cJ t p_bytes p_length)))) A) args s 0 0 A) 0 0 (wU cB cI cJ a (t 0) t_place t_fault t_sort t_digits t_highest ++ (wTp cB cI cJ t p_bytes p_length)) 113 [(0, .ref (a 0)), (6, .int x6)] [] := by
  unfold blk_X6_checkSlots_113 at hw
  refine w_aload_n C 0 dX6_checkSlots_113 rfl ?_
  refine w_iload C 1 dX6_checkSlots_114 rfl ?_
  refine w_iconst C (v := (3 : Int32)) dX6_checkSlots_116 (by decide) ?_
  refine w_callVV C (c_X6_fail hw) f_X6_fail k_5 k_346 rfl ⟨Nat.le_of_ble_eq_true rfl, Nat.le_of_ble_eq_true rfl⟩ rfl rfl ⟨Nat.le_of_ble_eq_true rfl, Nat.le_of_ble_eq_true rfl⟩ 0 rfl (rr := (RX6, TX6, 6)) rfl rfl (fun _ => rfl) rfl (Nat.le_of_ble_eq_true rfl) dX6_checkSlots_117 (fun u_117 hw => ?_)
  obtain ⟨t_fault_117, rfl⟩ : ∃ z, z = u_117 := ⟨_, rfl⟩
  try dsimp only at hw
  exact w_vret C (t_place, t_fault_117) hw rfl (Nat.le_of_ble_eq_true rfl) (Nat.le_of_ble_eq_true rfl) dX6_checkSlots_120
set_option maxHeartbeats 4000000 in
set_option maxRecDepth 100000 in
theorem wk_X6_checkSlots_143 {p : Program} {l : Launch} {e : Env} {s : State} {m : MethodId} {args : Array Value} {below : List Frame} {meth : Method} {c : Code} {D : va_G} {cB cI cJ cL cS : ClassId} {T : Nat × Nat × Nat × Nat} {A : Nat → Prop} {a : Nat → Nat} {t : Nat → Nat} {t_sort : Int32} {t_digits : Int32} {t_highest : Int64} {p_bytes : Nat → Int32} {p_length : Int32} {Q : Int32 → Int32 → Prop} (C : Cq p s m args meth c D (Z5 cB cI cJ cL cS) T A cX6_checkSlots RX6 9 (Option.none : Option Jvm.ClassFile.FieldType)) {x1 : Int32} {x2 : Int64} {x5 : Int32} {k0 : Int32} {t_place : Int32} {t_fault : Int32} {K8 : Int64 → Int32 → Int32 → Int32 → Int32 → Prop} (hK8 : ∀ (y2 : Int64) (y4 : Int32) (y5 : Int32) (z_t_place : Int32) (z_t_fault : Int32), K8 y2 y4 y5 z_t_place z_t_fault → ww p l e ({ frames := 2, cells := 0, slots := 0, locals := 47 } : Room) s m args below meth c D A 9 (MQ below (va_Qv (fun (u : Int32 × Int32) => Q u.1 u.2) (OutP D (fun (u : Int32 × Int32) => (wU cB cI cJ a (t 0) u.1 u.2 t_sort t_digits t_highest ++ (wTp cB cI cJ t p_bytes p_length)))) A) args s 0 0 A) 0 0 (wU cB cI cJ a (t 0) z_t_place z_t_fault t_sort t_digits t_highest ++ (wTp cB cI cJ t p_bytes p_length)) 8 [(0, .ref (a 0)), (1, .int x1), (2, .long y2), (4, .int y4), (5, .int y5)] []) (hw : blk_X6_checkSlots_143 p_bytes p_length K8 Q x1 x2 x5 k0 t_place t_fault) : ww p l e ({ frames := 2, cells := 0, slots := 0, locals := 47 } : Room) s m args below meth c D A 9 (MQ below (va_Qv (fun (u : Int32 × Int32) => Q u.1 u.2) (OutP D (fun (u : Int32 × Int32) => (wU cB cI cJ a (t 0) u.1 u.2 t_sort t_digits t_highest ++ (wTp cB cI cJ t p_bytes p_length)))) A) args s 0 0 A) 0 0 (wU cB cI cJ a (t 0) t_place t_fault t_sort t_digits t_highest ++ (wTp cB cI cJ t p_bytes p_length)) 143 [(0, .ref (a 0)), (1, .int x1), (2, .long x2), (5, .int x5)] [.int k0] := by
  unfold blk_X6_checkSlots_143 at hw
  refine w_istore C (fun x4_143 => [(4, .int x4_143), (0, .ref (a 0)), (1, .int x1), (2, .long x2), (5, .int x5)]) dX6_checkSlots_143 (by decide) (fun _ => rfl) (fun x4_143 e_x4_143 => ?_)
  replace hw := hw x4_143 e_x4_143
  refine w_iinc C (v := x5 + (1 : Int32)) 4 (fun x5_145 => [(5, .int x5_145), (4, .int x4_143), (0, .ref (a 0)), (1, .int x1), (2, .long x2)]) dX6_checkSlots_145 rfl rfl (by decide) (fun _ => rfl) (fun x5_145 e_x5_145 => ?_)
  replace hw := hw x5_145 e_x5_145
  refine w_goto C 8 (by decide) dX6_checkSlots_148 ?_
  refine w_sub (lv' := [(0, .ref (a 0)), (1, .int x1), (2, .long x2), (4, .int x4_143), (5, .int x5_145)]) C [2, 3, 4, 1, 0] rfl ?_
  exact hK8 _ _ _ _ _ hw
set_option maxHeartbeats 4000000 in
set_option maxRecDepth 100000 in
theorem wk_X6_checkSlots_121 {p : Program} {l : Launch} {e : Env} {s : State} {m : MethodId} {args : Array Value} {below : List Frame} {meth : Method} {c : Code} {D : va_G} {cB cI cJ cL cS : ClassId} {T : Nat × Nat × Nat × Nat} {A : Nat → Prop} {a : Nat → Nat} {t : Nat → Nat} {t_sort : Int32} {t_digits : Int32} {t_highest : Int64} {p_bytes : Nat → Int32} {p_length : Int32} {Q : Int32 → Int32 → Prop} (C : Cq p s m args meth c D (Z5 cB cI cJ cL cS) T A cX6_checkSlots RX6 9 (Option.none : Option Jvm.ClassFile.FieldType)) {x1 : Int32} {x2 : Int64} {x5 : Int32} {x6 : Int32} {x7 : Int64} {t_place : Int32} {t_fault : Int32} {K8 : Int64 → Int32 → Int32 → Int32 → Int32 → Prop} (hK8 : ∀ (y2 : Int64) (y4 : Int32) (y5 : Int32) (z_t_place : Int32) (z_t_fault : Int32), K8 y2 y4 y5 z_t_place z_t_fault → ww p l e ({ frames := 2, cells := 0, slots := 0, locals := 47 } : Room) s m args below meth c D A 9 (MQ below (va_Qv (fun (u : Int32 × Int32) => Q u.1 u.2) (OutP D (fun (u : Int32 × Int32) => (wU cB cI cJ a (t 0) u.1 u.2 t_sort t_digits t_highest ++ (wTp cB cI cJ t p_bytes p_length)))) A) args s 0 0 A) 0 0 (wU cB cI cJ a (t 0) z_t_place z_t_fault t_sort t_digits t_highest ++ (wTp cB cI cJ t p_bytes p_length)) 8 [(0, .ref (a 0)), (1, .int x1), (2, .long y2), (4, .int y4), (5, .int y5)] []) (hw : blk_X6_checkSlots_121 p_bytes p_length K8 Q x1 x2 x5 x6 x7 t_place t_fault) : ww p l e ({ frames := 2, cells := 0, slots := 0, locals := 47 } : Room) s m args below meth c D A 9 (MQ below (va_Qv (fun (u : Int32 × Int32) => Q u.1 u.2) (OutP D (fun (u : Int32 × Int32) => (wU cB cI cJ a (t 0) u.1 u.2 t_sort t_digits t_highest ++ (wTp cB cI cJ t p_bytes p_length)))) A) args s 0 0 A) 0 0 (wU cB cI cJ a (t 0) t_place t_fault t_sort t_digits t_highest ++ (wTp cB cI cJ t p_bytes p_length)) 121 [(0, .ref (a 0)), (1, .int x1), (2, .long x2), (5, .int x5), (6, .int x6), (7, .long x7)] [] := by
  unfold blk_X6_checkSlots_121 at hw
  refine w_lload_n C 2 dX6_checkSlots_121 rfl ?_
  refine w_lload C 5 dX6_checkSlots_122 rfl ?_
  refine w_callSL C (c_X6_slotsOf hw) f_X6_slotsOf k_383 rfl ⟨Nat.le_of_ble_eq_true rfl, Nat.le_of_ble_eq_true rfl⟩ rfl rfl ⟨Nat.le_of_ble_eq_true rfl, Nat.le_of_ble_eq_true rfl⟩ rfl (Nat.le_of_ble_eq_true rfl) dX6_checkSlots_124 (fun r_124 u_124 hw => ?_)
  try dsimp only at hw
  refine w_ladd C dX6_checkSlots_127 ?_
  refine w_lstore_n C (fun x2_128 => [(2, .long x2_128), (0, .ref (a 0)), (1, .int x1), (5, .int x5), (6, .int x6), (7, .long x7)]) dX6_checkSlots_128 (by decide) (fun _ => rfl) (fun x2_128 e_x2_128 => ?_)
  replace hw := hw x2_128 e_x2_128
  refine w_lload C 5 dX6_checkSlots_129 rfl ?_
  refine w_callSI C (c_X6_isZeros hw) f_X6_isZeros k_378 rfl ⟨Nat.le_of_ble_eq_true rfl, Nat.le_of_ble_eq_true rfl⟩ rfl rfl ⟨Nat.le_of_ble_eq_true rfl, Nat.le_of_ble_eq_true rfl⟩ rfl (Nat.le_of_ble_eq_true rfl) dX6_checkSlots_131 (fun r_131 u_131 hw => ?_)
  try dsimp only at hw
  refine w_if_eq C 142 (by decide) dX6_checkSlots_134 (fun c_134 => ?_) (fun c_134 => ?_)
  · replace hw := hw.1 c_134
    refine w_iconst C (v := (-1 : Int32)) dX6_checkSlots_142 (by decide) ?_
    refine w_sub (lv' := [(0, .ref (a 0)), (1, .int x1), (2, .long x2_128), (5, .int x5)]) C [1, 2, 0, 3] rfl ?_
    exact wk_X6_checkSlots_143 C hK8 hw
  · replace hw := hw.2 c_134
    refine w_iload C 4 dX6_checkSlots_137 rfl ?_
    refine w_goto C 143 (by decide) dX6_checkSlots_139 ?_
    refine w_sub (lv' := [(0, .ref (a 0)), (1, .int x1), (2, .long x2_128), (5, .int x5)]) C [1, 2, 0, 3] rfl ?_
    exact wk_X6_checkSlots_143 C hK8 hw
set_option maxHeartbeats 4000000 in
set_option maxRecDepth 100000 in
theorem wk_X6_checkSlots_79 {p : Program} {l : Launch} {e : Env} {s : State} {m : MethodId} {args : Array Value} {below : List Frame} {meth : Method} {c : Code} {D : va_G} {cB cI cJ cL cS : ClassId} {T : Nat × Nat × Nat × Nat} {A : Nat → Prop} {a : Nat → Nat} {t : Nat → Nat} {t_sort : Int32} {t_digits : Int32} {t_highest : Int64} {p_bytes : Nat → Int32} {p_length : Int32} {Q : Int32 → Int32 → Prop} (C : Cq p s m args meth c D (Z5 cB cI cJ cL cS) T A cX6_checkSlots RX6 9 (Option.none : Option Jvm.ClassFile.FieldType)) {x1 : Int32} {x2 : Int64} {x4 : Int32} {x5 : Int32} {x6 : Int32} {x7 : Int64} {t_place : Int32} {t_fault : Int32} {K8 : Int64 → Int32 → Int32 → Int32 → Int32 → Prop} (hK8 : ∀ (y2 : Int64) (y4 : Int32) (y5 : Int32) (z_t_place : Int32) (z_t_fault : Int32), K8 y2 y4 y5 z_t_place z_t_fault → ww p l e ({ frames := 2, cells := 0, slots := 0, locals := 47 } : Room) s m args below meth c D A 9 (MQ below (va_Qv (fun (u : Int32 × Int32) => Q u.1 u.2) (OutP D (fun (u : Int32 × Int32) => (wU cB cI cJ a (t 0) u.1 u.2 t_sort t_digits t_highest ++ (wTp cB cI cJ t p_bytes p_length)))) A) args s 0 0 A) 0 0 (wU cB cI cJ a (t 0) z_t_place z_t_fault t_sort t_digits t_highest ++ (wTp cB cI cJ t p_bytes p_length)) 8 [(0, .ref (a 0)), (1, .int x1), (2, .long y2), (4, .int y4), (5, .int y5)] []) (hw : blk_X6_checkSlots_79 p_bytes p_length K8 Q x1 x2 x4 x5 x6 x7 t_place t_fault) : ww p l e ({ frames := 2, cells := 0, slots := 0, locals := 47 } : Room) s m args below meth c D A 9 (MQ below (va_Qv (fun (u : Int32 × Int32) => Q u.1 u.2) (OutP D (fun (u : Int32 × Int32) => (wU cB cI cJ a (t 0) u.1 u.2 t_sort t_digits t_highest ++ (wTp cB cI cJ t p_bytes p_length)))) A) args s 0 0 A) 0 0 (wU cB cI cJ a (t 0) t_place t_fault t_sort t_digits t_highest ++ (wTp cB cI cJ t p_bytes p_length)) 79 [(0, .ref (a 0)), (1, .int x1), (2, .long x2), (4, .int x4), (5, .int x5), (6, .int x6), (7, .long x7)] [] := by
  unfold blk_X6_checkSlots_79 at hw
  refine w_lload C 6 dX6_checkSlots_79 rfl ?_
  refine w_lconst C (v := (0 : Int64)) dX6_checkSlots_81 (by decide) ?_
  refine w_lcmp_eq C 83 113 rfl (by decide) dX6_checkSlots_82 dX6_checkSlots_83 (fun c_82 => ?_) (fun c_82 => ?_)
  · replace hw := hw.1 c_82
    refine w_sub (lv' := [(0, .ref (a 0)), (6, .int x6)]) C [0, 5] rfl ?_
    exact wk_X6_checkSlots_113 C  hw
  · replace hw := hw.2 c_82
    refine w_lload C 6 dX6_checkSlots_86 rfl ?_
    refine w_callSL C (c_X6_slotsOf hw) f_X6_slotsOf k_383 rfl ⟨Nat.le_of_ble_eq_true rfl, Nat.le_of_ble_eq_true rfl⟩ rfl rfl ⟨Nat.le_of_ble_eq_true rfl, Nat.le_of_ble_eq_true rfl⟩ rfl (Nat.le_of_ble_eq_true rfl) dX6_checkSlots_88 (fun r_88 u_88 hw => ?_)
    try dsimp only at hw
    refine w_iload_n C 1 dX6_checkSlots_91 rfl ?_
    refine w_i2l C dX6_checkSlots_92 ?_
    refine w_lload_n C 2 dX6_checkSlots_93 rfl ?_
    refine w_lsub C dX6_checkSlots_94 ?_
    refine w_lcmp_gt C 96 113 rfl (by decide) dX6_checkSlots_95 dX6_checkSlots_96 (fun c_95 => ?_) (fun c_95 => ?_)
    · replace hw := hw.1 c_95
      refine w_sub (lv' := [(0, .ref (a 0)), (6, .int x6)]) C [0, 5] rfl ?_
      exact wk_X6_checkSlots_113 C  hw
    · replace hw := hw.2 c_95
      refine w_lload C 6 dX6_checkSlots_99 rfl ?_
      refine w_callSI C (c_X6_isZeros hw) f_X6_isZeros k_378 rfl ⟨Nat.le_of_ble_eq_true rfl, Nat.le_of_ble_eq_true rfl⟩ rfl rfl ⟨Nat.le_of_ble_eq_true rfl, Nat.le_of_ble_eq_true rfl⟩ rfl (Nat.le_of_ble_eq_true rfl) dX6_checkSlots_101 (fun r_101 u_101 hw => ?_)
      try dsimp only at hw
      refine w_if_eq C 121 (by decide) dX6_checkSlots_104 (fun c_104 => ?_) (fun c_104 => ?_)
      · replace hw := hw.1 c_104
        refine w_sub (lv' := [(0, .ref (a 0)), (1, .int x1), (2, .long x2), (5, .int x5), (6, .int x6), (7, .long x7)]) C [0, 1, 2, 4, 5, 6] rfl ?_
        exact wk_X6_checkSlots_121 C hK8 hw
      · replace hw := hw.2 c_104
        refine w_iload C 3 dX6_checkSlots_107 rfl ?_
        refine w_iconst C (v := (-1 : Int32)) dX6_checkSlots_109 (by decide) ?_
        refine w_icmp_eq C 121 (by decide) dX6_checkSlots_110 (fun c_110 => ?_) (fun c_110 => ?_)
        · replace hw := hw.1 c_110
          refine w_sub (lv' := [(0, .ref (a 0)), (1, .int x1), (2, .long x2), (5, .int x5), (6, .int x6), (7, .long x7)]) C [0, 1, 2, 4, 5, 6] rfl ?_
          exact wk_X6_checkSlots_121 C hK8 hw
        · replace hw := hw.2 c_110
          refine w_sub (lv' := [(0, .ref (a 0)), (6, .int x6)]) C [0, 5] rfl ?_
          exact wk_X6_checkSlots_113 C  hw
set_option maxHeartbeats 4000000 in
set_option maxRecDepth 100000 in
theorem wl_X6_checkSlots_8 {p : Program} {l : Launch} {e : Env} {s : State} {m : MethodId} {args : Array Value} {below : List Frame} {meth : Method} {c : Code} {D : va_G} {cB cI cJ cL cS : ClassId} {T : Nat × Nat × Nat × Nat} {A : Nat → Prop} {a : Nat → Nat} {t : Nat → Nat} {t_sort : Int32} {t_digits : Int32} {t_highest : Int64} {p_bytes : Nat → Int32} {p_length : Int32} {Q : Int32 → Int32 → Prop} (C : Cq p s m args meth c D (Z5 cB cI cJ cL cS) T A cX6_checkSlots RX6 9 (Option.none : Option Jvm.ClassFile.FieldType)) {x1 : Int32}   : ∀ (j : Nat) (x2 : Int64) (x4 : Int32) (x5 : Int32) (t_place : Int32) (t_fault : Int32), lp_X6_checkSlots_8 p_bytes p_length  Q x1 j x2 x4 x5 t_place t_fault → ww p l e ({ frames := 2, cells := 0, slots := 0, locals := 47 } : Room) s m args below meth c D A 9 (MQ below (va_Qv (fun (u : Int32 × Int32) => Q u.1 u.2) (OutP D (fun (u : Int32 × Int32) => (wU cB cI cJ a (t 0) u.1 u.2 t_sort t_digits t_highest ++ (wTp cB cI cJ t p_bytes p_length)))) A) args s 0 0 A) 0 0 (wU cB cI cJ a (t 0) t_place t_fault t_sort t_digits t_highest ++ (wTp cB cI cJ t p_bytes p_length)) 8 [(0, .ref (a 0)), (1, .int x1), (2, .long x2), (4, .int x4), (5, .int x5)] [] := by
  intro j
  induction j with
  | zero => intro _ _ _ _ _ hw; exact hw.elim
  | succ j hK8 =>
    intro x2 x4 x5 t_place t_fault hw
    have hw : bod_X6_checkSlots_8 p_bytes p_length  Q x1 (fun v0 v1 v2 v3 v4 => lp_X6_checkSlots_8 p_bytes p_length  Q x1 j v0 v1 v2 v3 v4) x2 x4 x5 t_place t_fault := hw
    unfold bod_X6_checkSlots_8 at hw
    refine w_iload C 4 dX6_checkSlots_8 rfl ?_
    refine w_sipush C (v := (400 : Int32)) dX6_checkSlots_10 (by decide) ?_
    refine w_icmp_ge C 151 (by decide) dX6_checkSlots_13 (fun c_13 => ?_) (fun c_13 => ?_)
    · replace hw := hw.1 c_13
      refine w_sub (lv' := [(0, .ref (a 0)), (4, .int x4)]) C [0, 3] rfl ?_
      exact wk_X6_checkSlots_151 C  hw
    · replace hw := hw.2 c_13
      refine w_aload_n C 0 dX6_checkSlots_16 rfl ?_
      refine w_get C (T1 := TX6) 0 1 u_X6 k_315 rfl (by decide) rfl rfl dX6_checkSlots_17 ?_
      refine w_aload_n C 0 dX6_checkSlots_20 rfl ?_
      refine w_get C (T1 := TX6) 0 0 u_X6 k_314 rfl (by decide) rfl rfl dX6_checkSlots_21 ?_
      refine w_getN C (T1 := TX5) 1 1 u_X5 n_121 rfl (by decide) rfl rfl dX6_checkSlots_24 ?_
      refine w_icmp_ge C 151 (by decide) dX6_checkSlots_27 (fun c_27 => ?_) (fun c_27 => ?_)
      · replace hw := hw.1 c_27
        refine w_sub (lv' := [(0, .ref (a 0)), (4, .int x4)]) C [0, 3] rfl ?_
        exact wk_X6_checkSlots_151 C  hw
      · replace hw := hw.2 c_27
        refine w_aload_n C 0 dX6_checkSlots_30 rfl ?_
        refine w_get C (T1 := TX6) 0 1 u_X6 k_315 rfl (by decide) rfl rfl dX6_checkSlots_31 ?_
        refine w_istore C (fun x6_34 => [(6, .int x6_34), (0, .ref (a 0)), (1, .int x1), (2, .long x2), (4, .int x4), (5, .int x5)]) dX6_checkSlots_34 (by decide) (fun _ => rfl) (fun x6_34 e_x6_34 => ?_)
        replace hw := hw x6_34 e_x6_34
        refine w_aload_n C 1 dX6_checkSlots_36 rfl ?_
        refine w_callVL C (c_X6_nextNumber hw) f_X6_nextNumber k_6 k_350 rfl ⟨Nat.le_of_ble_eq_true rfl, Nat.le_of_ble_eq_true rfl⟩ rfl rfl ⟨Nat.le_of_ble_eq_true rfl, Nat.le_of_ble_eq_true rfl⟩ 0 rfl (rr := (RX6, TX6, 6)) rfl rfl (fun _ => rfl) rfl (Nat.le_of_ble_eq_true rfl) dX6_checkSlots_37 (fun r_37 u_37 hw => ?_)
        obtain ⟨t_place_37, t_fault_37⟩ := u_37
        try dsimp only at hw
        refine w_lstore C (fun x7_40 => [(7, .long x7_40), (6, .int x6_34), (0, .ref (a 0)), (1, .int x1), (2, .long x2), (4, .int x4), (5, .int x5)]) dX6_checkSlots_40 (by decide) (fun _ => rfl) (fun x7_40 e_x7_40 => ?_)
        replace hw := hw x7_40 e_x7_40
        refine w_aload_n C 2 dX6_checkSlots_42 rfl ?_
        refine w_get C (T1 := TX6) 0 2 u_X6 k_316 rfl (by decide) rfl rfl dX6_checkSlots_43 ?_
        refine w_if_eq C 50 (by decide) dX6_checkSlots_46 (fun c_46 => ?_) (fun c_46 => ?_)
        · replace hw := hw.1 c_46
          refine w_lload C 0 dX6_checkSlots_50 rfl ?_
          refine w_callSI C (c_X6_isZeros hw) f_X6_isZeros k_378 rfl ⟨Nat.le_of_ble_eq_true rfl, Nat.le_of_ble_eq_true rfl⟩ rfl rfl ⟨Nat.le_of_ble_eq_true rfl, Nat.le_of_ble_eq_true rfl⟩ rfl (Nat.le_of_ble_eq_true rfl) dX6_checkSlots_52 (fun r_52 u_52 hw => ?_)
          try dsimp only at hw
          refine w_if_ne C 79 (by decide) dX6_checkSlots_55 (fun c_55 => ?_) (fun c_55 => ?_)
          · replace hw := hw.1 c_55
            refine w_sub (lv' := [(0, .ref (a 0)), (1, .int x1), (2, .long x2), (4, .int x4), (5, .int x5), (6, .int x6_34), (7, .long x7_40)]) C [2, 3, 4, 5, 6, 1, 0] rfl ?_
            exact wk_X6_checkSlots_79 C hK8 hw
          · replace hw := hw.2 c_55
            refine w_lload C 0 dX6_checkSlots_58 rfl ?_
            refine w_ldc2 C (v := (2 : Int64)) dX6_checkSlots_60 k_381 ?_
            refine w_ldiv C (by decide) dX6_checkSlots_63 ?_
            refine w_ldc2 C (v := (1000000000000000 : Int64)) dX6_checkSlots_64 k_382 ?_
            refine w_lcmp_le C 68 79 rfl (by decide) dX6_checkSlots_67 dX6_checkSlots_68 (fun c_67 => ?_) (fun c_67 => ?_)
            · replace hw := hw.1 c_67
              refine w_sub (lv' := [(0, .ref (a 0)), (1, .int x1), (2, .long x2), (4, .int x4), (5, .int x5), (6, .int x6_34), (7, .long x7_40)]) C [2, 3, 4, 5, 6, 1, 0] rfl ?_
              exact wk_X6_checkSlots_79 C hK8 hw
            · replace hw := hw.2 c_67
              refine w_aload_n C 2 dX6_checkSlots_71 rfl ?_
              refine w_iload C 1 dX6_checkSlots_72 rfl ?_
              refine w_iconst C (v := (2 : Int32)) dX6_checkSlots_74 (by decide) ?_
              refine w_callVV C (c_X6_fail hw) f_X6_fail k_5 k_346 rfl ⟨Nat.le_of_ble_eq_true rfl, Nat.le_of_ble_eq_true rfl⟩ rfl rfl ⟨Nat.le_of_ble_eq_true rfl, Nat.le_of_ble_eq_true rfl⟩ 0 rfl (rr := (RX6, TX6, 6)) rfl rfl (fun _ => rfl) rfl (Nat.le_of_ble_eq_true rfl) dX6_checkSlots_75 (fun u_75 hw => ?_)
              obtain ⟨t_fault_75, rfl⟩ : ∃ z, z = u_75 := ⟨_, rfl⟩
              try dsimp only at hw
              exact w_vret C (t_place_37, t_fault_75) hw rfl (Nat.le_of_ble_eq_true rfl) (Nat.le_of_ble_eq_true rfl) dX6_checkSlots_78
        · replace hw := hw.2 c_46
          exact w_vret C (t_place_37, t_fault_37) hw rfl (Nat.le_of_ble_eq_true rfl) (Nat.le_of_ble_eq_true rfl) dX6_checkSlots_49
set_option maxHeartbeats 4000000 in
set_option maxRecDepth 100000 in
theorem c_X6_checkSlots {l : Launch} {D : va_G} {cB cI cJ cL cS : ClassId} {T : Nat × Nat × Nat × Nat} {a : Nat → Nat} {t : Nat → Nat} {p0 : Int32} {t_place : Int32} {t_fault : Int32} {t_sort : Int32} {t_digits : Int32} {t_highest : Int64} {p_bytes : Nat → Int32} {p_length : Int32} {Q : Int32 → Int32 → Prop} (hw : wp_X6_checkSlots p0 t_place t_fault p_bytes p_length Q) : CtV l D (Z5 cB cI cJ cL cS) T yX6_checkSlots cX6_checkSlots 9 ({ frames := 2, cells := 0, slots := 0, locals := 47 } : Room) (Option.none : Option Jvm.ClassFile.FieldType) [.ref (a 0), .int p0] (wU cB cI cJ a (t 0) t_place t_fault t_sort t_digits t_highest ++ (wTp cB cI cJ t p_bytes p_length)) (fun (u : Int32 × Int32) => (wU cB cI cJ a (t 0) u.1 u.2 t_sort t_digits t_highest ++ (wTp cB cI cJ t p_bytes p_length))) (fun (u : Int32 × Int32) => Q u.1 u.2) 0 0 := by
  refine ctV_of (own := RX6) (by decide +kernel) rfl (Nat.le_of_ble_eq_true rfl) (fun p e s m below meth c A C => ?_)
  refine w_sub (lv' := [(0, .ref (a 0)), (1, .int p0)]) C [0, 1] rfl ?_
  unfold wp_X6_checkSlots at hw
  refine w_lconst C (v := (0 : Int64)) dX6_checkSlots_0 (by decide) ?_
  refine w_lstore_n C (fun x2_1 => [(2, .long x2_1), (0, .ref (a 0)), (1, .int p0)]) dX6_checkSlots_1 (by decide) (fun _ => rfl) (fun x2_1 e_x2_1 => ?_)
  replace hw := hw x2_1 e_x2_1
  refine w_iconst C (v := (-1 : Int32)) dX6_checkSlots_2 (by decide) ?_
  refine w_istore C (fun x4_3 => [(4, .int x4_3), (2, .long x2_1), (0, .ref (a 0)), (1, .int p0)]) dX6_checkSlots_3 (by decide) (fun _ => rfl) (fun x4_3 e_x4_3 => ?_)
  replace hw := hw x4_3 e_x4_3
  refine w_iconst C (v := (0 : Int32)) dX6_checkSlots_5 (by decide) ?_
  refine w_istore C (fun x5_6 => [(5, .int x5_6), (4, .int x4_3), (2, .long x2_1), (0, .ref (a 0)), (1, .int p0)]) dX6_checkSlots_6 (by decide) (fun _ => rfl) (fun x5_6 e_x5_6 => ?_)
  replace hw := hw x5_6 e_x5_6
  refine w_sub (lv' := [(0, .ref (a 0)), (1, .int p0), (2, .long x2_1), (4, .int x4_3), (5, .int x5_6)]) C [3, 4, 2, 1, 0] rfl ?_
  obtain ⟨j, hw⟩ := hw
  exact wl_X6_checkSlots_8 C  j _ _ _ _ _ hw
def wp_X6_faultOfAll  (t_place : Int32) (t_fault : Int32) (t_sort : Int32) (t_digits : Int32) (t_highest : Int64) (p_bytes : Nat → Int32) (p_length : Int32) (Q : Int32 → Int32 → Int32 → Int32 → Int32 → Int64 → Prop) : Prop := wp_X6_readHead  t_place t_fault t_sort t_digits t_highest p_bytes p_length (fun (t_place_1 : Int32) (t_fault_1 : Int32) (t_sort_1 : Int32) (t_digits_1 : Int32) (t_highest_1 : Int64) => ((¬ t_fault_1 = 0 → (Q t_fault_1 t_place_1 t_fault_1 t_sort_1 t_digits_1 t_highest_1)) ∧ (t_fault_1 = 0 → (wp_X7_slotOf t_digits_1 t_highest_1  (fun (r_20 : Int32) => wp_X6_checkSlots (r_20 + (1 : Int32)) t_place_1 t_fault_1 p_bytes p_length (fun (t_place_25 : Int32) (t_fault_25 : Int32) => Q t_fault_25 t_place_25 t_fault_25 t_sort_1 t_digits_1 t_highest_1))))))
set_option maxHeartbeats 4000000 in
set_option maxRecDepth 100000 in
theorem c_X6_faultOfAll {l : Launch} {D : va_G} {cB cI cJ cL cS : ClassId} {T : Nat × Nat × Nat × Nat} {a : Nat → Nat} {t : Nat → Nat}  {t_place : Int32} {t_fault : Int32} {t_sort : Int32} {t_digits : Int32} {t_highest : Int64} {p_bytes : Nat → Int32} {p_length : Int32} {Q : Int32 → Int32 → Int32 → Int32 → Int32 → Int64 → Prop} (hw : wp_X6_faultOfAll  t_place t_fault t_sort t_digits t_highest p_bytes p_length Q) : CtI l D (Z5 cB cI cJ cL cS) T yX6_faultOfAll cX6_faultOfAll 1 ({ frames := 3, cells := 0, slots := 0, locals := 75 } : Room) (Option.some Jvm.ClassFile.FieldType.int) [.ref (a 0)] (wU cB cI cJ a (t 0) t_place t_fault t_sort t_digits t_highest ++ (wTp cB cI cJ t p_bytes p_length)) (fun (u : Int32 × Int32 × Int32 × Int32 × Int64) => (wU cB cI cJ a (t 0) u.1 u.2.1 u.2.2.1 u.2.2.2.1 u.2.2.2.2 ++ (wTp cB cI cJ t p_bytes p_length))) (fun (r : Int32) (u : Int32 × Int32 × Int32 × Int32 × Int64) => Q r u.1 u.2.1 u.2.2.1 u.2.2.2.1 u.2.2.2.2) 0 0 := by
  refine ctI_of (own := RX6) (by decide +kernel) rfl (Nat.le_of_ble_eq_true rfl) (fun p e s m below meth c A C => ?_)
  refine w_sub (lv' := [(0, .ref (a 0))]) C [0] rfl ?_
  unfold wp_X6_faultOfAll at hw
  refine w_aload_n C 0 dX6_faultOfAll_0 rfl ?_
  refine w_callVV C (c_X6_readHead hw) f_X6_readHead k_3 k_337 rfl ⟨Nat.le_of_ble_eq_true rfl, Nat.le_of_ble_eq_true rfl⟩ rfl rfl ⟨Nat.le_of_ble_eq_true rfl, Nat.le_of_ble_eq_true rfl⟩ 0 rfl (rr := (RX6, TX6, 6)) rfl rfl (fun _ => rfl) rfl (Nat.le_of_ble_eq_true rfl) dX6_faultOfAll_1 (fun u_1 hw => ?_)
  obtain ⟨t_place_1, t_fault_1, t_sort_1, t_digits_1, t_highest_1⟩ := u_1
  try dsimp only at hw
  refine w_aload_n C 0 dX6_faultOfAll_4 rfl ?_
  refine w_get C (T1 := TX6) 0 2 u_X6 k_316 rfl (by decide) rfl rfl dX6_faultOfAll_5 ?_
  refine w_if_ne C 28 (by decide) dX6_faultOfAll_8 (fun c_8 => ?_) (fun c_8 => ?_)
  · replace hw := hw.1 c_8
    refine w_aload_n C 0 dX6_faultOfAll_28 rfl ?_
    refine w_get C (T1 := TX6) 0 2 u_X6 k_316 rfl (by decide) rfl rfl dX6_faultOfAll_29 ?_
    exact w_iret C (t_place_1, t_fault_1, t_sort_1, t_digits_1, t_highest_1) hw rfl (Nat.le_of_ble_eq_true rfl) (Nat.le_of_ble_eq_true rfl) dX6_faultOfAll_32
  · replace hw := hw.2 c_8
    refine w_aload_n C 0 dX6_faultOfAll_11 rfl ?_
    refine w_aload_n C 0 dX6_faultOfAll_12 rfl ?_
    refine w_get C (T1 := TX6) 0 4 u_X6 k_318 rfl (by decide) rfl rfl dX6_faultOfAll_13 ?_
    refine w_aload_n C 0 dX6_faultOfAll_16 rfl ?_
    refine w_get C (T1 := TX6) 0 5 u_X6 k_319 rfl (by decide) rfl rfl dX6_faultOfAll_17 ?_
    refine w_callSIN C (c_X7_slotOf hw) f_X7_slotOf n_360 rfl ⟨Nat.le_of_ble_eq_true rfl, Nat.le_of_ble_eq_true rfl⟩ rfl rfl ⟨Nat.le_of_ble_eq_true rfl, Nat.le_of_ble_eq_true rfl⟩ rfl (Nat.le_of_ble_eq_true rfl) dX6_faultOfAll_20 (fun r_20 u_20 hw => ?_)
    try dsimp only at hw
    refine w_iconst C (v := (1 : Int32)) dX6_faultOfAll_23 (by decide) ?_
    refine w_iadd C dX6_faultOfAll_24 ?_
    refine w_callVV C (c_X6_checkSlots hw) f_X6_checkSlots k_7 k_374 rfl ⟨Nat.le_of_ble_eq_true rfl, Nat.le_of_ble_eq_true rfl⟩ rfl rfl ⟨Nat.le_of_ble_eq_true rfl, Nat.le_of_ble_eq_true rfl⟩ 0 rfl (rr := (RX6, TX6, 6)) rfl rfl (fun _ => rfl) rfl (Nat.le_of_ble_eq_true rfl) dX6_faultOfAll_25 (fun u_25 hw => ?_)
    obtain ⟨t_place_25, t_fault_25⟩ := u_25
    try dsimp only at hw
    refine w_aload_n C 0 dX6_faultOfAll_28 rfl ?_
    refine w_get C (T1 := TX6) 0 2 u_X6 k_316 rfl (by decide) rfl rfl dX6_faultOfAll_29 ?_
    exact w_iret C (t_place_25, t_fault_25, t_sort_1, t_digits_1, t_highest_1) hw rfl (Nat.le_of_ble_eq_true rfl) (Nat.le_of_ble_eq_true rfl) dX6_faultOfAll_32
def blk_X6_fill_94 (p_bytes : Nat → Int32) (p_length : Int32)  (Q : Int32 → Int32 → Int32 → Int32 → Int64 → Int32 → Int32 → Int32 → Int32 → Int32 → Int64 → (Nat → Int64) → (Nat → Int32) → (Nat → Int32) → (Nat → Int32) → Prop) (t_place : Int32) (t_fault : Int32) (t_sort : Int32) (t_digits : Int32) (t_highest : Int64) (l_made : Int32) (l_sort : Int32) (l_digits : Int32) (l_slots : Int32) (l_pages : Int32) (l_highest : Int64) (l_units : Nat → Int64) (l_kinds : Nat → Int32) (l_rows : Nat → Int32) (l_marks : Nat → Int32) : Prop := wp_X1_shelveAll  l_sort l_pages l_units l_kinds (fun (r_95 : Int32) (l_kinds_95 : Nat → Int32) => Q t_place t_fault t_sort t_digits t_highest l_made l_sort l_digits l_slots l_pages l_highest l_units l_kinds_95 l_rows l_marks)
def blk_X6_fill_88 (p_bytes : Nat → Int32) (p_length : Int32) (K25 : Int64 → Int32 → Int32 → Int32 → (Nat → Int64) → (Nat → Int32) → Prop) (Q : Int32 → Int32 → Int32 → Int32 → Int64 → Int32 → Int32 → Int32 → Int32 → Int32 → Int64 → (Nat → Int64) → (Nat → Int32) → (Nat → Int32) → (Nat → Int32) → Prop) (x2 : Int64) (x4 : Int32) (t_place : Int32) (t_fault : Int32) (t_sort : Int32) (t_digits : Int32) (t_highest : Int64) (l_made : Int32) (l_sort : Int32) (l_digits : Int32) (l_slots : Int32) (l_pages : Int32) (l_highest : Int64) (l_units : Nat → Int64) (l_kinds : Nat → Int32) (l_rows : Nat → Int32) (l_marks : Nat → Int32) : Prop := ∀ x4_88 : Int32, x4_88 = x4 + (1 : Int32) → K25 x2 x4_88 t_place t_fault l_units l_kinds
def bod_X6_fill_25 (p_bytes : Nat → Int32) (p_length : Int32)  (Q : Int32 → Int32 → Int32 → Int32 → Int64 → Int32 → Int32 → Int32 → Int32 → Int32 → Int64 → (Nat → Int64) → (Nat → Int32) → (Nat → Int32) → (Nat → Int32) → Prop)  (t_sort : Int32) (t_digits : Int32) (t_highest : Int64) (l_made : Int32) (l_sort : Int32) (l_digits : Int32) (l_slots : Int32) (l_pages : Int32) (l_highest : Int64) (l_rows : Nat → Int32) (l_marks : Nat → Int32) (K25 : Int64 → Int32 → Int32 → Int32 → (Nat → Int64) → (Nat → Int32) → Prop) (x2 : Int64) (x4 : Int32) (t_place : Int32) (t_fault : Int32) (l_units : Nat → Int64) (l_kinds : Nat → Int32) : Prop := (((400 : Int32) ≤ x4 → ((blk_X6_fill_94 p_bytes p_length  Q t_place t_fault t_sort t_digits t_highest l_made l_sort l_digits l_slots l_pages l_highest l_units l_kinds l_rows l_marks))) ∧ (¬ (400 : Int32) ≤ x4 → (((p_length ≤ t_place → ((blk_X6_fill_94 p_bytes p_length  Q t_place t_fault t_sort t_digits t_highest l_made l_sort l_digits l_slots l_pages l_highest l_units l_kinds l_rows l_marks))) ∧ (¬ p_length ≤ t_place → (wp_X6_nextNumber  t_place t_fault p_bytes p_length (fun (r_48 : Int64) (t_place_48 : Int32) (t_fault_48 : Int32) => ∀ x5_51 : Int64, x5_51 = r_48 → wp_X6_isZeros x5_51  (fun (r_55 : Int32) => ((r_55 = 0 → (wp_X1_rewrite ((x2).toInt32) (x5_51 / (2 : Int64)) l_sort l_units l_kinds (fun (l_units_81 : Nat → Int64) (l_kinds_81 : Nat → Int32) => ∀ x2_87 : Int64, x2_87 = (x2 + (1 : Int64)) → (blk_X6_fill_88 p_bytes p_length K25 Q x2_87 x4 t_place_48 t_fault_48 t_sort t_digits t_highest l_made l_sort l_digits l_slots l_pages l_highest l_units_81 l_kinds_81 l_rows l_marks)))) ∧ (¬ r_55 = 0 → (wp_X6_slotsOf x5_51  (fun (r_64 : Int64) => ∀ x2_68 : Int64, x2_68 = (x2 + r_64) → (blk_X6_fill_88 p_bytes p_length K25 Q x2_68 x4 t_place_48 t_fault_48 t_sort t_digits t_highest l_made l_sort l_digits l_slots l_pages l_highest l_units l_kinds l_rows l_marks)))))))))))))
def lp_X6_fill_25 (p_bytes : Nat → Int32) (p_length : Int32)  (Q : Int32 → Int32 → Int32 → Int32 → Int64 → Int32 → Int32 → Int32 → Int32 → Int32 → Int64 → (Nat → Int64) → (Nat → Int32) → (Nat → Int32) → (Nat → Int32) → Prop)  (t_sort : Int32) (t_digits : Int32) (t_highest : Int64) (l_made : Int32) (l_sort : Int32) (l_digits : Int32) (l_slots : Int32) (l_pages : Int32) (l_highest : Int64) (l_rows : Nat → Int32) (l_marks : Nat → Int32) : Nat → Int64 → Int32 → Int32 → Int32 → (Nat → Int64) → (Nat → Int32) → Prop
  | 0, _, _, _, _, _, _ => False
  | j + 1, x2, x4, t_place, t_fault, l_units, l_kinds => bod_X6_fill_25 p_bytes p_length  Q t_sort t_digits t_highest l_made l_sort l_digits l_slots l_pages l_highest l_rows l_marks (fun v0 v1 v2 v3 v4 v5 => lp_X6_fill_25 p_bytes p_length  Q t_sort t_digits t_highest l_made l_sort l_digits l_slots l_pages l_highest l_rows l_marks j v0 v1 v2 v3 v4 v5) x2 x4 t_place t_fault l_units l_kinds
def wp_X6_fill  (t_place : Int32) (t_fault : Int32) (t_sort : Int32) (t_digits : Int32) (t_highest : Int64) (p_bytes : Nat → Int32) (p_length : Int32) (l_made : Int32) (l_sort : Int32) (l_digits : Int32) (l_slots : Int32) (l_pages : Int32) (l_highest : Int64) (l_units : Nat → Int64) (l_kinds : Nat → Int32) (l_rows : Nat → Int32) (l_marks : Nat → Int32) (Q : Int32 → Int32 → Int32 → Int32 → Int64 → Int32 → Int32 → Int32 → Int32 → Int32 → Int64 → (Nat → Int64) → (Nat → Int32) → (Nat → Int32) → (Nat → Int32) → Prop) : Prop := wp_X6_readHead  t_place t_fault t_sort t_digits t_highest p_bytes p_length (fun (t_place_1 : Int32) (t_fault_1 : Int32) (t_sort_1 : Int32) (t_digits_1 : Int32) (t_highest_1 : Int64) => wp_X1_open t_sort_1 t_digits_1 t_highest_1 l_made l_sort l_digits l_slots l_pages l_highest l_units l_kinds l_rows l_marks (fun (l_made_17 : Int32) (l_sort_17 : Int32) (l_digits_17 : Int32) (l_slots_17 : Int32) (l_pages_17 : Int32) (l_highest_17 : Int64) (l_units_17 : Nat → Int64) (l_kinds_17 : Nat → Int32) (l_rows_17 : Nat → Int32) (l_marks_17 : Nat → Int32) => ∀ x2_21 : Int64, x2_21 = (0 : Int64) → ∀ x4_23 : Int32, x4_23 = (0 : Int32) → (∃ j : Nat, lp_X6_fill_25 p_bytes p_length  Q t_sort_1 t_digits_1 t_highest_1 l_made_17 l_sort_17 l_digits_17 l_slots_17 l_pages_17 l_highest_17 l_rows_17 l_marks_17 j x2_21 x4_23 t_place_1 t_fault_1 l_units_17 l_kinds_17)))
set_option maxHeartbeats 4000000 in
set_option maxRecDepth 100000 in
theorem wk_X6_fill_94 {p : Program} {l : Launch} {e : Env} {s : State} {m : MethodId} {args : Array Value} {below : List Frame} {meth : Method} {c : Code} {D : va_G} {cB cI cJ cL cS : ClassId} {T : Nat × Nat × Nat × Nat} {A : Nat → Prop} {a : Nat → Nat} {t : Nat → Nat} {g : Nat → Nat} {p_bytes : Nat → Int32} {p_length : Int32} {Q : Int32 → Int32 → Int32 → Int32 → Int64 → Int32 → Int32 → Int32 → Int32 → Int32 → Int64 → (Nat → Int64) → (Nat → Int32) → (Nat → Int32) → (Nat → Int32) → Prop} (C : Cq p s m args meth c D (Z5 cB cI cJ cL cS) T A cX6_fill RX6 7 (Option.none : Option Jvm.ClassFile.FieldType)) {t_place : Int32} {t_fault : Int32} {t_sort : Int32} {t_digits : Int32} {t_highest : Int64} {l_made : Int32} {l_sort : Int32} {l_digits : Int32} {l_slots : Int32} {l_pages : Int32} {l_highest : Int64} {l_units : Nat → Int64} {l_kinds : Nat → Int32} {l_rows : Nat → Int32} {l_marks : Nat → Int32}  (hw : blk_X6_fill_94 p_bytes p_length  Q t_place t_fault t_sort t_digits t_highest l_made l_sort l_digits l_slots l_pages l_highest l_units l_kinds l_rows l_marks) : ww p l e ({ frames := 4, cells := 0, slots := 0, locals := 106 } : Room) s m args below meth c D A 7 (MQ below (va_Qv (fun (u : Int32 × Int32 × Int32 × Int32 × Int64 × Int32 × Int32 × Int32 × Int32 × Int32 × Int64 × (Nat → Int64) × (Nat → Int32) × (Nat → Int32) × (Nat → Int32)) => Q u.1 u.2.1 u.2.2.1 u.2.2.2.1 u.2.2.2.2.1 u.2.2.2.2.2.1 u.2.2.2.2.2.2.1 u.2.2.2.2.2.2.2.1 u.2.2.2.2.2.2.2.2.1 u.2.2.2.2.2.2.2.2.2.1 u.2.2.2.2.2.2.2.2.2.2.1 u.2.2.2.2.2.2.2.2.2.2.2.1 u.2.2.2.2.2.2.2.2.2.2.2.2.1 u.2.2.2.2.2.2.2.2.2.2.2.2.2.1 u.2.2.2.2.2.2.2.2.2.2.2.2.2.2) (OutP D (fun (u : Int32 × Int32 × Int32 × Int32 × Int64 × Int32 × Int32 × Int32 × Int32 × Int32 × Int64 × (Nat → Int64) × (Nat → Int32) × (Nat → Int32) × (Nat → Int32)) => (wU cB cI cJ a (t 0) u.1 u.2.1 u.2.2.1 u.2.2.2.1 u.2.2.2.2.1 ++ (wTp cB cI cJ t p_bytes p_length ++ (wL cB cI cJ g u.2.2.2.2.2.1 u.2.2.2.2.2.2.1 u.2.2.2.2.2.2.2.1 u.2.2.2.2.2.2.2.2.1 u.2.2.2.2.2.2.2.2.2.1 u.2.2.2.2.2.2.2.2.2.2.1 u.2.2.2.2.2.2.2.2.2.2.2.1 u.2.2.2.2.2.2.2.2.2.2.2.2.1 u.2.2.2.2.2.2.2.2.2.2.2.2.2.1 u.2.2.2.2.2.2.2.2.2.2.2.2.2.2))))) A) args s 0 0 A) 0 0 (wU cB cI cJ a (t 0) t_place t_fault t_sort t_digits t_highest ++ (wTp cB cI cJ t p_bytes p_length ++ (wL cB cI cJ g l_made l_sort l_digits l_slots l_pages l_highest l_units l_kinds l_rows l_marks))) 94 [(1, .ref (g 0))] [] := by
  unfold blk_X6_fill_94 at hw
  refine w_aload_n C 0 dX6_fill_94 rfl ?_
  refine w_callPI C (c_X1_shelveAll hw) f_X1_shelveAll k_461 k_459 rfl ⟨Nat.le_of_ble_eq_true rfl, Nat.le_of_ble_eq_true rfl⟩ rfl rfl ⟨Nat.le_of_ble_eq_true rfl, Nat.le_of_ble_eq_true rfl⟩ 0 rfl (rr := (RX1, TX1, 10)) rfl rfl (wU cB cI cJ a (t 0) t_place t_fault t_sort t_digits t_highest ++ (wTp cB cI cJ t p_bytes p_length)) (fun (u : (Nat → Int32)) => (wU cB cI cJ a (t 0) t_place t_fault t_sort t_digits t_highest ++ (wTp cB cI cJ t p_bytes p_length ++ (wL cB cI cJ g l_made l_sort l_digits l_slots l_pages l_highest l_units u l_rows l_marks)))) [3, 4, 5, 6, 7] [0, 1, 2] [0, 1, 2, 3, 4, 5, 6, 7] rfl rfl (by decide) (by decide) (by decide) (by decide) (fun _ => rfl) (fun _ => rfl) rfl (Nat.le_of_ble_eq_true rfl) dX6_fill_95 (fun r_95 u_95 hw => ?_)
  obtain ⟨l_kinds_95, rfl⟩ : ∃ z, z = u_95 := ⟨_, rfl⟩
  try dsimp only at hw
  refine w_pop C rfl dX6_fill_98 ?_
  exact w_vret C (t_place, t_fault, t_sort, t_digits, t_highest, l_made, l_sort, l_digits, l_slots, l_pages, l_highest, l_units, l_kinds_95, l_rows, l_marks) hw rfl (Nat.le_of_ble_eq_true rfl) (Nat.le_of_ble_eq_true rfl) dX6_fill_99
set_option maxHeartbeats 4000000 in
set_option maxRecDepth 100000 in
theorem wk_X6_fill_88 {p : Program} {l : Launch} {e : Env} {s : State} {m : MethodId} {args : Array Value} {below : List Frame} {meth : Method} {c : Code} {D : va_G} {cB cI cJ cL cS : ClassId} {T : Nat × Nat × Nat × Nat} {A : Nat → Prop} {a : Nat → Nat} {t : Nat → Nat} {g : Nat → Nat} {p_bytes : Nat → Int32} {p_length : Int32} {Q : Int32 → Int32 → Int32 → Int32 → Int64 → Int32 → Int32 → Int32 → Int32 → Int32 → Int64 → (Nat → Int64) → (Nat → Int32) → (Nat → Int32) → (Nat → Int32) → Prop} (C : Cq p s m args meth c D (Z5 cB cI cJ cL cS) T A cX6_fill RX6 7 (Option.none : Option Jvm.ClassFile.FieldType)) {x2 : Int64} {x4 : Int32} {t_place : Int32} {t_fault : Int32} {t_sort : Int32} {t_digits : Int32} {t_highest : Int64} {l_made : Int32} {l_sort : Int32} {l_digits : Int32} {l_slots : Int32} {l_pages : Int32} {l_highest : Int64} {l_units : Nat → Int64} {l_kinds : Nat → Int32} {l_rows : Nat → Int32} {l_marks : Nat → Int32} {K25 : Int64 → Int32 → Int32 → Int32 → (Nat → Int64) → (Nat → Int32) → Prop} (hK25 : ∀ (y2 : Int64) (y4 : Int32) (z_t_place : Int32) (z_t_fault : Int32) (z_l_units : Nat → Int64) (z_l_kinds : Nat → Int32), K25 y2 y4 z_t_place z_t_fault z_l_units z_l_kinds → ww p l e ({ frames := 4, cells := 0, slots := 0, locals := 106 } : Room) s m args below meth c D A 7 (MQ below (va_Qv (fun (u : Int32 × Int32 × Int32 × Int32 × Int64 × Int32 × Int32 × Int32 × Int32 × Int32 × Int64 × (Nat → Int64) × (Nat → Int32) × (Nat → Int32) × (Nat → Int32)) => Q u.1 u.2.1 u.2.2.1 u.2.2.2.1 u.2.2.2.2.1 u.2.2.2.2.2.1 u.2.2.2.2.2.2.1 u.2.2.2.2.2.2.2.1 u.2.2.2.2.2.2.2.2.1 u.2.2.2.2.2.2.2.2.2.1 u.2.2.2.2.2.2.2.2.2.2.1 u.2.2.2.2.2.2.2.2.2.2.2.1 u.2.2.2.2.2.2.2.2.2.2.2.2.1 u.2.2.2.2.2.2.2.2.2.2.2.2.2.1 u.2.2.2.2.2.2.2.2.2.2.2.2.2.2) (OutP D (fun (u : Int32 × Int32 × Int32 × Int32 × Int64 × Int32 × Int32 × Int32 × Int32 × Int32 × Int64 × (Nat → Int64) × (Nat → Int32) × (Nat → Int32) × (Nat → Int32)) => (wU cB cI cJ a (t 0) u.1 u.2.1 u.2.2.1 u.2.2.2.1 u.2.2.2.2.1 ++ (wTp cB cI cJ t p_bytes p_length ++ (wL cB cI cJ g u.2.2.2.2.2.1 u.2.2.2.2.2.2.1 u.2.2.2.2.2.2.2.1 u.2.2.2.2.2.2.2.2.1 u.2.2.2.2.2.2.2.2.2.1 u.2.2.2.2.2.2.2.2.2.2.1 u.2.2.2.2.2.2.2.2.2.2.2.1 u.2.2.2.2.2.2.2.2.2.2.2.2.1 u.2.2.2.2.2.2.2.2.2.2.2.2.2.1 u.2.2.2.2.2.2.2.2.2.2.2.2.2.2))))) A) args s 0 0 A) 0 0 (wU cB cI cJ a (t 0) z_t_place z_t_fault t_sort t_digits t_highest ++ (wTp cB cI cJ t p_bytes p_length ++ (wL cB cI cJ g l_made l_sort l_digits l_slots l_pages l_highest z_l_units z_l_kinds l_rows l_marks))) 25 [(0, .ref (a 0)), (1, .ref (g 0)), (2, .long y2), (4, .int y4)] []) (hw : blk_X6_fill_88 p_bytes p_length K25 Q x2 x4 t_place t_fault t_sort t_digits t_highest l_made l_sort l_digits l_slots l_pages l_highest l_units l_kinds l_rows l_marks) : ww p l e ({ frames := 4, cells := 0, slots := 0, locals := 106 } : Room) s m args below meth c D A 7 (MQ below (va_Qv (fun (u : Int32 × Int32 × Int32 × Int32 × Int64 × Int32 × Int32 × Int32 × Int32 × Int32 × Int64 × (Nat → Int64) × (Nat → Int32) × (Nat → Int32) × (Nat → Int32)) => Q u.1 u.2.1 u.2.2.1 u.2.2.2.1 u.2.2.2.2.1 u.2.2.2.2.2.1 u.2.2.2.2.2.2.1 u.2.2.2.2.2.2.2.1 u.2.2.2.2.2.2.2.2.1 u.2.2.2.2.2.2.2.2.2.1 u.2.2.2.2.2.2.2.2.2.2.1 u.2.2.2.2.2.2.2.2.2.2.2.1 u.2.2.2.2.2.2.2.2.2.2.2.2.1 u.2.2.2.2.2.2.2.2.2.2.2.2.2.1 u.2.2.2.2.2.2.2.2.2.2.2.2.2.2) (OutP D (fun (u : Int32 × Int32 × Int32 × Int32 × Int64 × Int32 × Int32 × Int32 × Int32 × Int32 × Int64 × (Nat → Int64) × (Nat → Int32) × (Nat → Int32) × (Nat → Int32)) => (wU cB cI cJ a (t 0) u.1 u.2.1 u.2.2.1 u.2.2.2.1 u.2.2.2.2.1 ++ (wTp cB cI cJ t p_bytes p_length ++ (wL cB cI cJ g u.2.2.2.2.2.1 u.2.2.2.2.2.2.1 u.2.2.2.2.2.2.2.1 u.2.2.2.2.2.2.2.2.1 u.2.2.2.2.2.2.2.2.2.1 u.2.2.2.2.2.2.2.2.2.2.1 u.2.2.2.2.2.2.2.2.2.2.2.1 u.2.2.2.2.2.2.2.2.2.2.2.2.1 u.2.2.2.2.2.2.2.2.2.2.2.2.2.1 u.2.2.2.2.2.2.2.2.2.2.2.2.2.2))))) A) args s 0 0 A) 0 0 (wU cB cI cJ a (t 0) t_place t_fault t_sort t_digits t_highest ++ (wTp cB cI cJ t p_bytes p_length ++ (wL cB cI cJ g l_made l_sort l_digits l_slots l_pages l_highest l_units l_kinds l_rows l_marks))) 88 [(0, .ref (a 0)), (1, .ref (g 0)), (2, .long x2), (4, .int x4)] [] := by
  unfold blk_X6_fill_88 at hw
  refine w_iinc C (v := x4 + (1 : Int32)) 3 (fun x4_88 => [(4, .int x4_88), (0, .ref (a 0)), (1, .ref (g 0)), (2, .long x2)]) dX6_fill_88 rfl rfl (by decide) (fun _ => rfl) (fun x4_88 e_x4_88 => ?_)
  replace hw := hw x4_88 e_x4_88
  refine w_goto C 25 (by decide) dX6_fill_91 ?_
  refine w_sub (lv' := [(0, .ref (a 0)), (1, .ref (g 0)), (2, .long x2), (4, .int x4_88)]) C [1, 2, 3, 0] rfl ?_
  exact hK25 _ _ _ _ _ _ hw
set_option maxHeartbeats 4000000 in
set_option maxRecDepth 100000 in
theorem wl_X6_fill_25 {p : Program} {l : Launch} {e : Env} {s : State} {m : MethodId} {args : Array Value} {below : List Frame} {meth : Method} {c : Code} {D : va_G} {cB cI cJ cL cS : ClassId} {T : Nat × Nat × Nat × Nat} {A : Nat → Prop} {a : Nat → Nat} {t : Nat → Nat} {g : Nat → Nat} {p_bytes : Nat → Int32} {p_length : Int32} {Q : Int32 → Int32 → Int32 → Int32 → Int64 → Int32 → Int32 → Int32 → Int32 → Int32 → Int64 → (Nat → Int64) → (Nat → Int32) → (Nat → Int32) → (Nat → Int32) → Prop} (C : Cq p s m args meth c D (Z5 cB cI cJ cL cS) T A cX6_fill RX6 7 (Option.none : Option Jvm.ClassFile.FieldType))  {t_sort : Int32} {t_digits : Int32} {t_highest : Int64} {l_made : Int32} {l_sort : Int32} {l_digits : Int32} {l_slots : Int32} {l_pages : Int32} {l_highest : Int64} {l_rows : Nat → Int32} {l_marks : Nat → Int32}  : ∀ (j : Nat) (x2 : Int64) (x4 : Int32) (t_place : Int32) (t_fault : Int32) (l_units : Nat → Int64) (l_kinds : Nat → Int32), lp_X6_fill_25 p_bytes p_length  Q t_sort t_digits t_highest l_made l_sort l_digits l_slots l_pages l_highest l_rows l_marks j x2 x4 t_place t_fault l_units l_kinds → ww p l e ({ frames := 4, cells := 0, slots := 0, locals := 106 } : Room) s m args below meth c D A 7 (MQ below (va_Qv (fun (u : Int32 × Int32 × Int32 × Int32 × Int64 × Int32 × Int32 × Int32 × Int32 × Int32 × Int64 × (Nat → Int64) × (Nat → Int32) × (Nat → Int32) × (Nat → Int32)) => Q u.1 u.2.1 u.2.2.1 u.2.2.2.1 u.2.2.2.2.1 u.2.2.2.2.2.1 u.2.2.2.2.2.2.1 u.2.2.2.2.2.2.2.1 u.2.2.2.2.2.2.2.2.1 u.2.2.2.2.2.2.2.2.2.1 u.2.2.2.2.2.2.2.2.2.2.1 u.2.2.2.2.2.2.2.2.2.2.2.1 u.2.2.2.2.2.2.2.2.2.2.2.2.1 u.2.2.2.2.2.2.2.2.2.2.2.2.2.1 u.2.2.2.2.2.2.2.2.2.2.2.2.2.2) (OutP D (fun (u : Int32 × Int32 × Int32 × Int32 × Int64 × Int32 × Int32 × Int32 × Int32 × Int32 × Int64 × (Nat → Int64) × (Nat → Int32) × (Nat → Int32) × (Nat → Int32)) => (wU cB cI cJ a (t 0) u.1 u.2.1 u.2.2.1 u.2.2.2.1 u.2.2.2.2.1 ++ (wTp cB cI cJ t p_bytes p_length ++ (wL cB cI cJ g u.2.2.2.2.2.1 u.2.2.2.2.2.2.1 u.2.2.2.2.2.2.2.1 u.2.2.2.2.2.2.2.2.1 u.2.2.2.2.2.2.2.2.2.1 u.2.2.2.2.2.2.2.2.2.2.1 u.2.2.2.2.2.2.2.2.2.2.2.1 u.2.2.2.2.2.2.2.2.2.2.2.2.1 u.2.2.2.2.2.2.2.2.2.2.2.2.2.1 u.2.2.2.2.2.2.2.2.2.2.2.2.2.2))))) A) args s 0 0 A) 0 0 (wU cB cI cJ a (t 0) t_place t_fault t_sort t_digits t_highest ++ (wTp cB cI cJ t p_bytes p_length ++ (wL cB cI cJ g l_made l_sort l_digits l_slots l_pages l_highest l_units l_kinds l_rows l_marks))) 25 [(0, .ref (a 0)), (1, .ref (g 0)), (2, .long x2), (4, .int x4)] [] := by
  intro j
  induction j with
  | zero => intro _ _ _ _ _ _ hw; exact hw.elim
  | succ j hK25 =>
    intro x2 x4 t_place t_fault l_units l_kinds hw
    have hw : bod_X6_fill_25 p_bytes p_length  Q t_sort t_digits t_highest l_made l_sort l_digits l_slots l_pages l_highest l_rows l_marks (fun v0 v1 v2 v3 v4 v5 => lp_X6_fill_25 p_bytes p_length  Q t_sort t_digits t_highest l_made l_sort l_digits l_slots l_pages l_highest l_rows l_marks j v0 v1 v2 v3 v4 v5) x2 x4 t_place t_fault l_units l_kinds := hw
    unfold bod_X6_fill_25 at hw
    refine w_iload C 3 dX6_fill_25 rfl ?_
    refine w_sipush C (v := (400 : Int32)) dX6_fill_27 (by decide) ?_
    refine w_icmp_ge C 94 (by decide) dX6_fill_30 (fun c_30 => ?_) (fun c_30 => ?_)
    · replace hw := hw.1 c_30
      refine w_sub (lv' := [(1, .ref (g 0))]) C [1] rfl ?_
      exact wk_X6_fill_94 C  hw
    · replace hw := hw.2 c_30
      refine w_aload_n C 0 dX6_fill_33 rfl ?_
      refine w_get C (T1 := TX6) 0 1 u_X6 k_315 rfl (by decide) rfl rfl dX6_fill_34 ?_
      refine w_aload_n C 0 dX6_fill_37 rfl ?_
      refine w_get C (T1 := TX6) 0 0 u_X6 k_314 rfl (by decide) rfl rfl dX6_fill_38 ?_
      refine w_getN C (T1 := TX5) 1 1 u_X5 n_121 rfl (by decide) rfl rfl dX6_fill_41 ?_
      refine w_icmp_ge C 94 (by decide) dX6_fill_44 (fun c_44 => ?_) (fun c_44 => ?_)
      · replace hw := hw.1 c_44
        refine w_sub (lv' := [(1, .ref (g 0))]) C [1] rfl ?_
        exact wk_X6_fill_94 C  hw
      · replace hw := hw.2 c_44
        refine w_aload_n C 0 dX6_fill_47 rfl ?_
        refine w_callPL C (c_X6_nextNumber hw) f_X6_nextNumber k_6 k_350 rfl ⟨Nat.le_of_ble_eq_true rfl, Nat.le_of_ble_eq_true rfl⟩ rfl rfl ⟨Nat.le_of_ble_eq_true rfl, Nat.le_of_ble_eq_true rfl⟩ 0 rfl (rr := (RX6, TX6, 6)) rfl rfl (wL cB cI cJ g l_made l_sort l_digits l_slots l_pages l_highest l_units l_kinds l_rows l_marks) (fun (u : Int32 × Int32) => (wU cB cI cJ a (t 0) u.1 u.2 t_sort t_digits t_highest ++ (wTp cB cI cJ t p_bytes p_length ++ (wL cB cI cJ g l_made l_sort l_digits l_slots l_pages l_highest l_units l_kinds l_rows l_marks)))) [0, 1, 2] [3, 4, 5, 6, 7] [5, 6, 7, 0, 1, 2, 3, 4] rfl rfl (by decide) (by decide) (by decide) (by decide) (fun _ => rfl) (fun _ => rfl) rfl (Nat.le_of_ble_eq_true rfl) dX6_fill_48 (fun r_48 u_48 hw => ?_)
        obtain ⟨t_place_48, t_fault_48⟩ := u_48
        try dsimp only at hw
        refine w_lstore C (fun x5_51 => [(5, .long x5_51), (0, .ref (a 0)), (1, .ref (g 0)), (2, .long x2), (4, .int x4)]) dX6_fill_51 (by decide) (fun _ => rfl) (fun x5_51 e_x5_51 => ?_)
        replace hw := hw x5_51 e_x5_51
        refine w_lload C 0 dX6_fill_53 rfl ?_
        refine w_callSI C (c_X6_isZeros hw) f_X6_isZeros k_378 rfl ⟨Nat.le_of_ble_eq_true rfl, Nat.le_of_ble_eq_true rfl⟩ rfl rfl ⟨Nat.le_of_ble_eq_true rfl, Nat.le_of_ble_eq_true rfl⟩ rfl (Nat.le_of_ble_eq_true rfl) dX6_fill_55 (fun r_55 u_55 hw => ?_)
        try dsimp only at hw
        refine w_if_eq C 72 (by decide) dX6_fill_58 (fun c_58 => ?_) (fun c_58 => ?_)
        · replace hw := hw.1 c_58
          refine w_aload_n C 2 dX6_fill_72 rfl ?_
          refine w_lload_n C 3 dX6_fill_73 rfl ?_
          refine w_l2i C dX6_fill_74 ?_
          refine w_lload C 0 dX6_fill_75 rfl ?_
          refine w_ldc2 C (v := (2 : Int64)) dX6_fill_77 k_381 ?_
          refine w_ldiv C (by decide) dX6_fill_80 ?_
          refine w_callPV C (c_X1_rewrite hw) f_X1_rewrite k_436 k_434 rfl ⟨Nat.le_of_ble_eq_true rfl, Nat.le_of_ble_eq_true rfl⟩ rfl rfl ⟨Nat.le_of_ble_eq_true rfl, Nat.le_of_ble_eq_true rfl⟩ 0 rfl (rr := (RX1, TX1, 10)) rfl rfl (wU cB cI cJ a (t 0) t_place_48 t_fault_48 t_sort t_digits t_highest ++ (wTp cB cI cJ t p_bytes p_length)) (fun (u : (Nat → Int64) × (Nat → Int32)) => (wU cB cI cJ a (t 0) t_place_48 t_fault_48 t_sort t_digits t_highest ++ (wTp cB cI cJ t p_bytes p_length ++ (wL cB cI cJ g l_made l_sort l_digits l_slots l_pages l_highest u.1 u.2 l_rows l_marks)))) [3, 4, 5, 6, 7] [0, 1, 2] [0, 1, 2, 3, 4, 5, 6, 7] rfl rfl (by decide) (by decide) (by decide) (by decide) (fun _ => rfl) (fun _ => rfl) rfl (Nat.le_of_ble_eq_true rfl) dX6_fill_81 (fun u_81 hw => ?_)
          obtain ⟨l_units_81, l_kinds_81⟩ := u_81
          try dsimp only at hw
          refine w_lload_n C 3 dX6_fill_84 rfl ?_
          refine w_lconst C (v := (1 : Int64)) dX6_fill_85 (by decide) ?_
          refine w_ladd C dX6_fill_86 ?_
          refine w_lstore_n C (fun x2_87 => [(2, .long x2_87), (5, .long x5_51), (0, .ref (a 0)), (1, .ref (g 0)), (4, .int x4)]) dX6_fill_87 (by decide) (fun _ => rfl) (fun x2_87 e_x2_87 => ?_)
          replace hw := hw x2_87 e_x2_87
          refine w_sub (lv' := [(0, .ref (a 0)), (1, .ref (g 0)), (2, .long x2_87), (4, .int x4)]) C [2, 3, 0, 4] rfl ?_
          exact wk_X6_fill_88 C hK25 hw
        · replace hw := hw.2 c_58
          refine w_lload_n C 3 dX6_fill_61 rfl ?_
          refine w_lload C 0 dX6_fill_62 rfl ?_
          refine w_callSL C (c_X6_slotsOf hw) f_X6_slotsOf k_383 rfl ⟨Nat.le_of_ble_eq_true rfl, Nat.le_of_ble_eq_true rfl⟩ rfl rfl ⟨Nat.le_of_ble_eq_true rfl, Nat.le_of_ble_eq_true rfl⟩ rfl (Nat.le_of_ble_eq_true rfl) dX6_fill_64 (fun r_64 u_64 hw => ?_)
          try dsimp only at hw
          refine w_ladd C dX6_fill_67 ?_
          refine w_lstore_n C (fun x2_68 => [(2, .long x2_68), (5, .long x5_51), (0, .ref (a 0)), (1, .ref (g 0)), (4, .int x4)]) dX6_fill_68 (by decide) (fun _ => rfl) (fun x2_68 e_x2_68 => ?_)
          replace hw := hw x2_68 e_x2_68
          refine w_goto C 88 (by decide) dX6_fill_69 ?_
          refine w_sub (lv' := [(0, .ref (a 0)), (1, .ref (g 0)), (2, .long x2_68), (4, .int x4)]) C [2, 3, 0, 4] rfl ?_
          exact wk_X6_fill_88 C hK25 hw
set_option maxHeartbeats 4000000 in
set_option maxRecDepth 100000 in
theorem c_X6_fill {l : Launch} {D : va_G} {cB cI cJ cL cS : ClassId} {T : Nat × Nat × Nat × Nat} {a : Nat → Nat} {t : Nat → Nat} {g : Nat → Nat}  {t_place : Int32} {t_fault : Int32} {t_sort : Int32} {t_digits : Int32} {t_highest : Int64} {p_bytes : Nat → Int32} {p_length : Int32} {l_made : Int32} {l_sort : Int32} {l_digits : Int32} {l_slots : Int32} {l_pages : Int32} {l_highest : Int64} {l_units : Nat → Int64} {l_kinds : Nat → Int32} {l_rows : Nat → Int32} {l_marks : Nat → Int32} {Q : Int32 → Int32 → Int32 → Int32 → Int64 → Int32 → Int32 → Int32 → Int32 → Int32 → Int64 → (Nat → Int64) → (Nat → Int32) → (Nat → Int32) → (Nat → Int32) → Prop} (hw : wp_X6_fill  t_place t_fault t_sort t_digits t_highest p_bytes p_length l_made l_sort l_digits l_slots l_pages l_highest l_units l_kinds l_rows l_marks Q) : CtV l D (Z5 cB cI cJ cL cS) T yX6_fill cX6_fill 7 ({ frames := 4, cells := 0, slots := 0, locals := 106 } : Room) (Option.none : Option Jvm.ClassFile.FieldType) [.ref (a 0), .ref (g 0)] (wU cB cI cJ a (t 0) t_place t_fault t_sort t_digits t_highest ++ (wTp cB cI cJ t p_bytes p_length ++ (wL cB cI cJ g l_made l_sort l_digits l_slots l_pages l_highest l_units l_kinds l_rows l_marks))) (fun (u : Int32 × Int32 × Int32 × Int32 × Int64 × Int32 × Int32 × Int32 × Int32 × Int32 × Int64 × (Nat → Int64) × (Nat → Int32) × (Nat → Int32) × (Nat → Int32)) => (wU cB cI cJ a (t 0) u.1 u.2.1 u.2.2.1 u.2.2.2.1 u.2.2.2.2.1 ++ (wTp cB cI cJ t p_bytes p_length ++ (wL cB cI cJ g u.2.2.2.2.2.1 u.2.2.2.2.2.2.1 u.2.2.2.2.2.2.2.1 u.2.2.2.2.2.2.2.2.1 u.2.2.2.2.2.2.2.2.2.1 u.2.2.2.2.2.2.2.2.2.2.1 u.2.2.2.2.2.2.2.2.2.2.2.1 u.2.2.2.2.2.2.2.2.2.2.2.2.1 u.2.2.2.2.2.2.2.2.2.2.2.2.2.1 u.2.2.2.2.2.2.2.2.2.2.2.2.2.2)))) (fun (u : Int32 × Int32 × Int32 × Int32 × Int64 × Int32 × Int32 × Int32 × Int32 × Int32 × Int64 × (Nat → Int64) × (Nat → Int32) × (Nat → Int32) × (Nat → Int32)) => Q u.1 u.2.1 u.2.2.1 u.2.2.2.1 u.2.2.2.2.1 u.2.2.2.2.2.1 u.2.2.2.2.2.2.1 u.2.2.2.2.2.2.2.1 u.2.2.2.2.2.2.2.2.1 u.2.2.2.2.2.2.2.2.2.1 u.2.2.2.2.2.2.2.2.2.2.1 u.2.2.2.2.2.2.2.2.2.2.2.1 u.2.2.2.2.2.2.2.2.2.2.2.2.1 u.2.2.2.2.2.2.2.2.2.2.2.2.2.1 u.2.2.2.2.2.2.2.2.2.2.2.2.2.2) 0 0 := by
  refine ctV_of (own := RX6) (by decide +kernel) rfl (Nat.le_of_ble_eq_true rfl) (fun p e s m below meth c A C => ?_)
  refine w_sub (lv' := [(0, .ref (a 0)), (1, .ref (g 0))]) C [0, 1] rfl ?_
  unfold wp_X6_fill at hw
  refine w_aload_n C 0 dX6_fill_0 rfl ?_
  refine w_callPV C (c_X6_readHead hw) f_X6_readHead k_3 k_337 rfl ⟨Nat.le_of_ble_eq_true rfl, Nat.le_of_ble_eq_true rfl⟩ rfl rfl ⟨Nat.le_of_ble_eq_true rfl, Nat.le_of_ble_eq_true rfl⟩ 0 rfl (rr := (RX6, TX6, 6)) rfl rfl (wL cB cI cJ g l_made l_sort l_digits l_slots l_pages l_highest l_units l_kinds l_rows l_marks) (fun (u : Int32 × Int32 × Int32 × Int32 × Int64) => (wU cB cI cJ a (t 0) u.1 u.2.1 u.2.2.1 u.2.2.2.1 u.2.2.2.2 ++ (wTp cB cI cJ t p_bytes p_length ++ (wL cB cI cJ g l_made l_sort l_digits l_slots l_pages l_highest l_units l_kinds l_rows l_marks)))) [0, 1, 2] [3, 4, 5, 6, 7] [5, 6, 7, 0, 1, 2, 3, 4] rfl rfl (by decide) (by decide) (by decide) (by decide) (fun _ => rfl) (fun _ => rfl) rfl (Nat.le_of_ble_eq_true rfl) dX6_fill_1 (fun u_1 hw => ?_)
  obtain ⟨t_place_1, t_fault_1, t_sort_1, t_digits_1, t_highest_1⟩ := u_1
  try dsimp only at hw
  refine w_aload_n C 1 dX6_fill_4 rfl ?_
  refine w_aload_n C 0 dX6_fill_5 rfl ?_
  refine w_get C (T1 := TX6) 0 3 u_X6 k_317 rfl (by decide) rfl rfl dX6_fill_6 ?_
  refine w_aload_n C 0 dX6_fill_9 rfl ?_
  refine w_get C (T1 := TX6) 0 4 u_X6 k_318 rfl (by decide) rfl rfl dX6_fill_10 ?_
  refine w_aload_n C 0 dX6_fill_13 rfl ?_
  refine w_get C (T1 := TX6) 0 5 u_X6 k_319 rfl (by decide) rfl rfl dX6_fill_14 ?_
  refine w_callPV C (c_X1_open hw) f_X1_open k_423 k_421 rfl ⟨Nat.le_of_ble_eq_true rfl, Nat.le_of_ble_eq_true rfl⟩ rfl rfl ⟨Nat.le_of_ble_eq_true rfl, Nat.le_of_ble_eq_true rfl⟩ 0 rfl (rr := (RX1, TX1, 10)) rfl rfl (wU cB cI cJ a (t 0) t_place_1 t_fault_1 t_sort_1 t_digits_1 t_highest_1 ++ (wTp cB cI cJ t p_bytes p_length)) (fun (u : Int32 × Int32 × Int32 × Int32 × Int32 × Int64 × (Nat → Int64) × (Nat → Int32) × (Nat → Int32) × (Nat → Int32)) => (wU cB cI cJ a (t 0) t_place_1 t_fault_1 t_sort_1 t_digits_1 t_highest_1 ++ (wTp cB cI cJ t p_bytes p_length ++ (wL cB cI cJ g u.1 u.2.1 u.2.2.1 u.2.2.2.1 u.2.2.2.2.1 u.2.2.2.2.2.1 u.2.2.2.2.2.2.1 u.2.2.2.2.2.2.2.1 u.2.2.2.2.2.2.2.2.1 u.2.2.2.2.2.2.2.2.2)))) [3, 4, 5, 6, 7] [0, 1, 2] [0, 1, 2, 3, 4, 5, 6, 7] rfl rfl (by decide) (by decide) (by decide) (by decide) (fun _ => rfl) (fun _ => rfl) rfl (Nat.le_of_ble_eq_true rfl) dX6_fill_17 (fun u_17 hw => ?_)
  obtain ⟨l_made_17, l_sort_17, l_digits_17, l_slots_17, l_pages_17, l_highest_17, l_units_17, l_kinds_17, l_rows_17, l_marks_17⟩ := u_17
  try dsimp only at hw
  refine w_lconst C (v := (0 : Int64)) dX6_fill_20 (by decide) ?_
  refine w_lstore_n C (fun x2_21 => [(2, .long x2_21), (0, .ref (a 0)), (1, .ref (g 0))]) dX6_fill_21 (by decide) (fun _ => rfl) (fun x2_21 e_x2_21 => ?_)
  replace hw := hw x2_21 e_x2_21
  refine w_iconst C (v := (0 : Int32)) dX6_fill_22 (by decide) ?_
  refine w_istore C (fun x4_23 => [(4, .int x4_23), (2, .long x2_21), (0, .ref (a 0)), (1, .ref (g 0))]) dX6_fill_23 (by decide) (fun _ => rfl) (fun x4_23 e_x4_23 => ?_)
  replace hw := hw x4_23 e_x4_23
  refine w_sub (lv' := [(0, .ref (a 0)), (1, .ref (g 0)), (2, .long x2_21), (4, .int x4_23)]) C [2, 3, 1, 0] rfl ?_
  obtain ⟨j, hw⟩ := hw
  exact wl_X6_fill_25 C  j _ _ _ _ _ _ hw
