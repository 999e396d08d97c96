def wp_Jxe99ae_isNaN_b9ae7 (p0 : UInt64)  (Q : Int32 → Prop) : Prop := (((Op.cmpValue (FP.dcmp p0 p0) CmpOp.l) = 0 → (Q (0 : Int32))) ∧ (¬ (Op.cmpValue (FP.dcmp p0 p0) CmpOp.l) = 0 → (Q (1 : Int32))))
set_option maxHeartbeats 4000000 in
set_option maxRecDepth 100000 in
theorem c_Jxe99ae_isNaN_b9ae7 {l : Launch} {D : va_G} {cB cI cJ cL cS : ClassId} {T : Nat × Nat × Nat × Nat}  {p0 : UInt64}  {Q : Int32 → Prop} (hw : wp_Jxe99ae_isNaN_b9ae7 p0  Q) : CtI l D (Z5 cB cI cJ cL cS) T yJxe99ae_isNaN_b9ae7 cJxe99ae_isNaN_b9ae7 2 ({ frames := 0, cells := 0, slots := 0, locals := 0 } : Room) (Option.some Jvm.ClassFile.FieldType.boolean) [.double p0] [] (fun (u : Unit) => []) (fun (r : Int32) (u : Unit) => Q r ) 0 0 := by
  refine ctI_of (own := RJxe99ae) (by decide +kernel) rfl (Nat.le_of_ble_eq_true rfl) (fun p e s m below meth c A C => ?_)
  refine w_sub (lv' := [(0, .double p0)]) C [0] rfl ?_
  unfold wp_Jxe99ae_isNaN_b9ae7 at hw
  refine w_dload_n C 0 dJxe99ae_isNaN_b9ae7_0 rfl ?_
  refine w_dload_n C 0 dJxe99ae_isNaN_b9ae7_1 rfl ?_
  refine w_dcmp C dJxe99ae_isNaN_b9ae7_2 ?_
  refine w_if_eq C 10 (by decide) dJxe99ae_isNaN_b9ae7_3 (fun c_3 => ?_) (fun c_3 => ?_)
  · replace hw := hw.1 c_3
    refine w_iconst C (v := (0 : Int32)) dJxe99ae_isNaN_b9ae7_10 (by decide) ?_
    exact w_zret C () (Or.inl rfl) hw rfl (Nat.le_of_ble_eq_true rfl) (Nat.le_of_ble_eq_true rfl) dJxe99ae_isNaN_b9ae7_11
  · replace hw := hw.2 c_3
    refine w_iconst C (v := (1 : Int32)) dJxe99ae_isNaN_b9ae7_6 (by decide) ?_
    refine w_goto C 11 (by decide) dJxe99ae_isNaN_b9ae7_7 ?_
    exact w_zret C () (Or.inr rfl) hw rfl (Nat.le_of_ble_eq_true rfl) (Nat.le_of_ble_eq_true rfl) dJxe99ae_isNaN_b9ae7_11
def wp_Jxe99ae_doubleToLongBits_ccdee (p0 : UInt64)  (Q : Int64 → Prop) : Prop := wp_Jxe99ae_isNaN_b9ae7 p0  (fun (r_1 : Int32) => ((¬ r_1 = 0 → (Q (9221120237041090560 : Int64))) ∧ (r_1 = 0 → (Q ((p0).toInt64)))))
set_option maxHeartbeats 4000000 in
set_option maxRecDepth 100000 in
theorem c_Jxe99ae_doubleToLongBits_ccdee {l : Launch} {D : va_G} {cB cI cJ cL cS : ClassId} {T : Nat × Nat × Nat × Nat}  {p0 : UInt64}  {Q : Int64 → Prop} (hw : wp_Jxe99ae_doubleToLongBits_ccdee p0  Q) : CtL l D (Z5 cB cI cJ cL cS) T yJxe99ae_doubleToLongBits_ccdee cJxe99ae_doubleToLongBits_ccdee 2 ({ frames := 1, cells := 0, slots := 0, locals := 32 } : Room) (Option.some Jvm.ClassFile.FieldType.long) [.double p0] [] (fun (u : Unit) => []) (fun (r : Int64) (u : Unit) => Q r ) 0 0 := by
  refine ctL_of (own := RJxe99ae) (by decide +kernel) rfl (Nat.le_of_ble_eq_true rfl) (fun p e s m below meth c A C => ?_)
  refine w_sub (lv' := [(0, .double p0)]) C [0] rfl ?_
  unfold wp_Jxe99ae_doubleToLongBits_ccdee at hw
  refine w_dload_n C 0 dJxe99ae_doubleToLongBits_ccdee_0 rfl ?_
  refine w_callSI C (c_Jxe99ae_isNaN_b9ae7 hw) f_Jxe99ae_isNaN_b9ae7 k_1151 rfl ⟨Nat.le_of_ble_eq_true rfl, Nat.le_of_ble_eq_true rfl⟩ rfl rfl ⟨Nat.le_of_ble_eq_true rfl, Nat.le_of_ble_eq_true rfl⟩ rfl (Nat.le_of_ble_eq_true rfl) dJxe99ae_doubleToLongBits_ccdee_1 (fun r_1 u_1 hw => ?_)
  try dsimp only at hw
  refine w_if_ne C 12 (by decide) dJxe99ae_doubleToLongBits_ccdee_4 (fun c_4 => ?_) (fun c_4 => ?_)
  · replace hw := hw.1 c_4
    refine w_ldc2 C (v := (9221120237041090560 : Int64)) dJxe99ae_doubleToLongBits_ccdee_12 k_1157 ?_
    exact w_lret C () hw rfl (Nat.le_of_ble_eq_true rfl) (Nat.le_of_ble_eq_true rfl) dJxe99ae_doubleToLongBits_ccdee_15
  · replace hw := hw.2 c_4
    refine w_dload_n C 0 dJxe99ae_doubleToLongBits_ccdee_7 rfl ?_
    refine w_d2l C k_1154 k_1156 k_1155 k_77 (Nat.le_of_ble_eq_true rfl) (Nat.le_of_ble_eq_true rfl) dJxe99ae_doubleToLongBits_ccdee_8 ?_
    exact w_lret C () hw rfl (Nat.le_of_ble_eq_true rfl) (Nat.le_of_ble_eq_true rfl) dJxe99ae_doubleToLongBits_ccdee_11
def wp_Jxf58ca_isNaN_12338 (p0 : UInt32)  (Q : Int32 → Prop) : Prop := (((Op.cmpValue (FP.fcmp p0 p0) CmpOp.l) = 0 → (Q (0 : Int32))) ∧ (¬ (Op.cmpValue (FP.fcmp p0 p0) CmpOp.l) = 0 → (Q (1 : Int32))))
set_option maxHeartbeats 4000000 in
set_option maxRecDepth 100000 in
theorem c_Jxf58ca_isNaN_12338 {l : Launch} {D : va_G} {cB cI cJ cL cS : ClassId} {T : Nat × Nat × Nat × Nat}  {p0 : UInt32}  {Q : Int32 → Prop} (hw : wp_Jxf58ca_isNaN_12338 p0  Q) : CtI l D (Z5 cB cI cJ cL cS) T yJxf58ca_isNaN_12338 cJxf58ca_isNaN_12338 1 ({ frames := 0, cells := 0, slots := 0, locals := 0 } : Room) (Option.some Jvm.ClassFile.FieldType.boolean) [.float p0] [] (fun (u : Unit) => []) (fun (r : Int32) (u : Unit) => Q r ) 0 0 := by
  refine ctI_of (own := RJxf58ca) (by decide +kernel) rfl (Nat.le_of_ble_eq_true rfl) (fun p e s m below meth c A C => ?_)
  refine w_sub (lv' := [(0, .float p0)]) C [0] rfl ?_
  unfold wp_Jxf58ca_isNaN_12338 at hw
  refine w_fload_n C 0 dJxf58ca_isNaN_12338_0 rfl ?_
  refine w_fload_n C 0 dJxf58ca_isNaN_12338_1 rfl ?_
  refine w_fcmp C dJxf58ca_isNaN_12338_2 ?_
  refine w_if_eq C 10 (by decide) dJxf58ca_isNaN_12338_3 (fun c_3 => ?_) (fun c_3 => ?_)
  · replace hw := hw.1 c_3
    refine w_iconst C (v := (0 : Int32)) dJxf58ca_isNaN_12338_10 (by decide) ?_
    exact w_zret C () (Or.inl rfl) hw rfl (Nat.le_of_ble_eq_true rfl) (Nat.le_of_ble_eq_true rfl) dJxf58ca_isNaN_12338_11
  · replace hw := hw.2 c_3
    refine w_iconst C (v := (1 : Int32)) dJxf58ca_isNaN_12338_6 (by decide) ?_
    refine w_goto C 11 (by decide) dJxf58ca_isNaN_12338_7 ?_
    exact w_zret C () (Or.inr rfl) hw rfl (Nat.le_of_ble_eq_true rfl) (Nat.le_of_ble_eq_true rfl) dJxf58ca_isNaN_12338_11
def wp_Jxf58ca_floatToIntBits_5c35a (p0 : UInt32)  (Q : Int32 → Prop) : Prop := wp_Jxf58ca_isNaN_12338 p0  (fun (r_1 : Int32) => ((¬ r_1 = 0 → (Q (2143289344 : Int32))) ∧ (r_1 = 0 → (Q ((p0).toInt32)))))
set_option maxHeartbeats 4000000 in
set_option maxRecDepth 100000 in
theorem c_Jxf58ca_floatToIntBits_5c35a {l : Launch} {D : va_G} {cB cI cJ cL cS : ClassId} {T : Nat × Nat × Nat × Nat}  {p0 : UInt32}  {Q : Int32 → Prop} (hw : wp_Jxf58ca_floatToIntBits_5c35a p0  Q) : CtI l D (Z5 cB cI cJ cL cS) T yJxf58ca_floatToIntBits_5c35a cJxf58ca_floatToIntBits_5c35a 1 ({ frames := 1, cells := 0, slots := 0, locals := 32 } : Room) (Option.some Jvm.ClassFile.FieldType.int) [.float p0] [] (fun (u : Unit) => []) (fun (r : Int32) (u : Unit) => Q r ) 0 0 := by
  refine ctI_of (own := RJxf58ca) (by decide +kernel) rfl (Nat.le_of_ble_eq_true rfl) (fun p e s m below meth c A C => ?_)
  refine w_sub (lv' := [(0, .float p0)]) C [0] rfl ?_
  unfold wp_Jxf58ca_floatToIntBits_5c35a at hw
  refine w_fload_n C 0 dJxf58ca_floatToIntBits_5c35a_0 rfl ?_
  refine w_callSI C (c_Jxf58ca_isNaN_12338 hw) f_Jxf58ca_isNaN_12338 k_1161 rfl ⟨Nat.le_of_ble_eq_true rfl, Nat.le_of_ble_eq_true rfl⟩ rfl rfl ⟨Nat.le_of_ble_eq_true rfl, Nat.le_of_ble_eq_true rfl⟩ rfl (Nat.le_of_ble_eq_true rfl) dJxf58ca_floatToIntBits_5c35a_1 (fun r_1 u_1 hw => ?_)
  try dsimp only at hw
  refine w_if_ne C 12 (by decide) dJxf58ca_floatToIntBits_5c35a_4 (fun c_4 => ?_) (fun c_4 => ?_)
  · replace hw := hw.1 c_4
    refine w_ldc C (v := (2143289344 : Int32)) dJxf58ca_floatToIntBits_5c35a_12 k_1167 ?_
    exact w_iret C () hw rfl (Nat.le_of_ble_eq_true rfl) (Nat.le_of_ble_eq_true rfl) dJxf58ca_floatToIntBits_5c35a_14
  · replace hw := hw.2 c_4
    refine w_fload_n C 0 dJxf58ca_floatToIntBits_5c35a_7 rfl ?_
    refine w_f2i C k_1164 k_1166 k_1165 k_78 (Nat.le_of_ble_eq_true rfl) (Nat.le_of_ble_eq_true rfl) dJxf58ca_floatToIntBits_5c35a_8 ?_
    exact w_iret C () hw rfl (Nat.le_of_ble_eq_true rfl) (Nat.le_of_ble_eq_true rfl) dJxf58ca_floatToIntBits_5c35a_11
def blk_J6_numberOfLeadingZeros_0f7a4_73   (Q : Int32 → Prop) (x0 : Int32) (x1 : Int32) : Prop := Q (x1 - ((x0).toUInt32 >>> (((1 : Int32)).toUInt32 &&& Int32.toUInt32 31)).toInt32)
def blk_J6_numberOfLeadingZeros_0f7a4_61   (Q : Int32 → Prop) (x0 : Int32) (x1 : Int32) : Prop := ((x0 < (4 : Int32) → ((blk_J6_numberOfLeadingZeros_0f7a4_73   Q x0 x1))) ∧ (¬ x0 < (4 : Int32) → (∀ x1_66 : Int32, x1_66 = x1 + (-2 : Int32) → ∀ x0_72 : Int32, x0_72 = ((x0).toUInt32 >>> (((2 : Int32)).toUInt32 &&& Int32.toUInt32 31)).toInt32 → (blk_J6_numberOfLeadingZeros_0f7a4_73   Q x0_72 x1_66))))
def blk_J6_numberOfLeadingZeros_0f7a4_48   (Q : Int32 → Prop) (x0 : Int32) (x1 : Int32) : Prop := ((x0 < (16 : Int32) → ((blk_J6_numberOfLeadingZeros_0f7a4_61   Q x0 x1))) ∧ (¬ x0 < (16 : Int32) → (∀ x1_54 : Int32, x1_54 = x1 + (-4 : Int32) → ∀ x0_60 : Int32, x0_60 = ((x0).toUInt32 >>> (((4 : Int32)).toUInt32 &&& Int32.toUInt32 31)).toInt32 → (blk_J6_numberOfLeadingZeros_0f7a4_61   Q x0_60 x1_54))))
def blk_J6_numberOfLeadingZeros_0f7a4_33   (Q : Int32 → Prop) (x0 : Int32) (x1 : Int32) : Prop := ((x0 < (256 : Int32) → ((blk_J6_numberOfLeadingZeros_0f7a4_48   Q x0 x1))) ∧ (¬ x0 < (256 : Int32) → (∀ x1_40 : Int32, x1_40 = x1 + (-8 : Int32) → ∀ x0_47 : Int32, x0_47 = ((x0).toUInt32 >>> (((8 : Int32)).toUInt32 &&& Int32.toUInt32 31)).toInt32 → (blk_J6_numberOfLeadingZeros_0f7a4_48   Q x0_47 x1_40))))
def wp_J6_numberOfLeadingZeros_0f7a4 (p0 : Int32)  (Q : Int32 → Prop) : Prop := ((0 < p0 → (∀ x1_17 : Int32, x1_17 = (31 : Int32) → ((p0 < (65536 : Int32) → ((blk_J6_numberOfLeadingZeros_0f7a4_33   Q p0 x1_17))) ∧ (¬ p0 < (65536 : Int32) → (∀ x1_25 : Int32, x1_25 = x1_17 + (-16 : Int32) → ∀ x0_32 : Int32, x0_32 = ((p0).toUInt32 >>> (((16 : Int32)).toUInt32 &&& Int32.toUInt32 31)).toInt32 → (blk_J6_numberOfLeadingZeros_0f7a4_33   Q x0_32 x1_25)))))) ∧ (¬ 0 < p0 → (((¬ p0 = 0 → (Q (0 : Int32))) ∧ (p0 = 0 → (Q (32 : Int32)))))))
set_option maxHeartbeats 4000000 in
set_option maxRecDepth 100000 in
theorem wk_J6_numberOfLeadingZeros_0f7a4_73 {p : Program} {l : Launch} {e : Env} {s : State} {m : MethodId} {args : Array Value} {below : List Frame} {meth : Method} {c : Code} {D : va_G} {cB cI cJ cL cS : ClassId} {T : Nat × Nat × Nat × Nat} {A : Nat → Prop}   {Q : Int32 → Prop} (C : Cq p s m args meth c D (Z5 cB cI cJ cL cS) T A cJ6_numberOfLeadingZeros_0f7a4 RJ6 2 (Option.some Jvm.ClassFile.FieldType.int)) {x0 : Int32} {x1 : Int32}  (hw : blk_J6_numberOfLeadingZeros_0f7a4_73   Q x0 x1) : ww p l e ({ frames := 0, cells := 0, slots := 0, locals := 0 } : Room) s m args below meth c D A 2 (MQ below (va_Qi (fun (r : Int32) (u : Unit) => Q r ) (OutP D (fun (u : Unit) => [])) A) args s 0 0 A) 0 0 [] 73 [(0, .int x0), (1, .int x1)] [] := by
  unfold blk_J6_numberOfLeadingZeros_0f7a4_73 at hw
  refine w_iload_n C 1 dJ6_numberOfLeadingZeros_0f7a4_73 rfl ?_
  refine w_iload_n C 0 dJ6_numberOfLeadingZeros_0f7a4_74 rfl ?_
  refine w_iconst C (v := (1 : Int32)) dJ6_numberOfLeadingZeros_0f7a4_75 (by decide) ?_
  refine w_iushr C dJ6_numberOfLeadingZeros_0f7a4_76 ?_
  refine w_isub C dJ6_numberOfLeadingZeros_0f7a4_77 ?_
  exact w_iret C () hw rfl (Nat.le_of_ble_eq_true rfl) (Nat.le_of_ble_eq_true rfl) dJ6_numberOfLeadingZeros_0f7a4_78
set_option maxHeartbeats 4000000 in
set_option maxRecDepth 100000 in
theorem wk_J6_numberOfLeadingZeros_0f7a4_61 {p : Program} {l : Launch} {e : Env} {s : State} {m : MethodId} {args : Array Value} {below : List Frame} {meth : Method} {c : Code} {D : va_G} {cB cI cJ cL cS : ClassId} {T : Nat × Nat × Nat × Nat} {A : Nat → Prop}   {Q : Int32 → Prop} (C : Cq p s m args meth c D (Z5 cB cI cJ cL cS) T A cJ6_numberOfLeadingZeros_0f7a4 RJ6 2 (Option.some Jvm.ClassFile.FieldType.int)) {x0 : Int32} {x1 : Int32}  (hw : blk_J6_numberOfLeadingZeros_0f7a4_61   Q x0 x1) : ww p l e ({ frames := 0, cells := 0, slots := 0, locals := 0 } : Room) s m args below meth c D A 2 (MQ below (va_Qi (fun (r : Int32) (u : Unit) => Q r ) (OutP D (fun (u : Unit) => [])) A) args s 0 0 A) 0 0 [] 61 [(0, .int x0), (1, .int x1)] [] := by
  unfold blk_J6_numberOfLeadingZeros_0f7a4_61 at hw
  refine w_iload_n C 0 dJ6_numberOfLeadingZeros_0f7a4_61 rfl ?_
  refine w_iconst C (v := (4 : Int32)) dJ6_numberOfLeadingZeros_0f7a4_62 (by decide) ?_
  refine w_icmp_lt C 73 (by decide) dJ6_numberOfLeadingZeros_0f7a4_63 (fun c_63 => ?_) (fun c_63 => ?_)
  · replace hw := hw.1 c_63
    refine w_sub (lv' := [(0, .int x0), (1, .int x1)]) C [0, 1] rfl ?_
    exact wk_J6_numberOfLeadingZeros_0f7a4_73 C  hw
  · replace hw := hw.2 c_63
    refine w_iinc C (v := x1 + (-2 : Int32)) 1 (fun x1_66 => [(1, .int x1_66), (0, .int x0)]) dJ6_numberOfLeadingZeros_0f7a4_66 rfl rfl (by decide) (fun _ => rfl) (fun x1_66 e_x1_66 => ?_)
    replace hw := hw x1_66 e_x1_66
    refine w_iload_n C 1 dJ6_numberOfLeadingZeros_0f7a4_69 rfl ?_
    refine w_iconst C (v := (2 : Int32)) dJ6_numberOfLeadingZeros_0f7a4_70 (by decide) ?_
    refine w_iushr C dJ6_numberOfLeadingZeros_0f7a4_71 ?_
    refine w_istore_n C (fun x0_72 => [(0, .int x0_72), (1, .int x1_66)]) dJ6_numberOfLeadingZeros_0f7a4_72 (by decide) (fun _ => rfl) (fun x0_72 e_x0_72 => ?_)
    replace hw := hw x0_72 e_x0_72
    refine w_sub (lv' := [(0, .int x0_72), (1, .int x1_66)]) C [0, 1] rfl ?_
    exact wk_J6_numberOfLeadingZeros_0f7a4_73 C  hw
set_option maxHeartbeats 4000000 in
set_option maxRecDepth 100000 in
theorem wk_J6_numberOfLeadingZeros_0f7a4_48 {p : Program} {l : Launch} {e : Env} {s : State} {m : MethodId} {args : Array Value} {below : List Frame} {meth : Method} {c : Code} {D : va_G} {cB cI cJ cL cS : ClassId} {T : Nat × Nat × Nat × Nat} {A : Nat → Prop}   {Q : Int32 → Prop} (C : Cq p s m args meth c D (Z5 cB cI cJ cL cS) T A cJ6_numberOfLeadingZeros_0f7a4 RJ6 2 (Option.some Jvm.ClassFile.FieldType.int)) {x0 : Int32} {x1 : Int32}  (hw : blk_J6_numberOfLeadingZeros_0f7a4_48   Q x0 x1) : ww p l e ({ frames := 0, cells := 0, slots := 0, locals := 0 } : Room) s m args below meth c D A 2 (MQ below (va_Qi (fun (r : Int32) (u : Unit) => Q r ) (OutP D (fun (u : Unit) => [])) A) args s 0 0 A) 0 0 [] 48 [(0, .int x0), (1, .int x1)] [] := by
  unfold blk_J6_numberOfLeadingZeros_0f7a4_48 at hw
  refine w_iload_n C 0 dJ6_numberOfLeadingZeros_0f7a4_48 rfl ?_
  refine w_bipush C (v := (16 : Int32)) dJ6_numberOfLeadingZeros_0f7a4_49 (by decide) ?_
  refine w_icmp_lt C 61 (by decide) dJ6_numberOfLeadingZeros_0f7a4_51 (fun c_51 => ?_) (fun c_51 => ?_)
  · replace hw := hw.1 c_51
    refine w_sub (lv' := [(0, .int x0), (1, .int x1)]) C [0, 1] rfl ?_
    exact wk_J6_numberOfLeadingZeros_0f7a4_61 C  hw
  · replace hw := hw.2 c_51
    refine w_iinc C (v := x1 + (-4 : Int32)) 1 (fun x1_54 => [(1, .int x1_54), (0, .int x0)]) dJ6_numberOfLeadingZeros_0f7a4_54 rfl rfl (by decide) (fun _ => rfl) (fun x1_54 e_x1_54 => ?_)
    replace hw := hw x1_54 e_x1_54
    refine w_iload_n C 1 dJ6_numberOfLeadingZeros_0f7a4_57 rfl ?_
    refine w_iconst C (v := (4 : Int32)) dJ6_numberOfLeadingZeros_0f7a4_58 (by decide) ?_
    refine w_iushr C dJ6_numberOfLeadingZeros_0f7a4_59 ?_
    refine w_istore_n C (fun x0_60 => [(0, .int x0_60), (1, .int x1_54)]) dJ6_numberOfLeadingZeros_0f7a4_60 (by decide) (fun _ => rfl) (fun x0_60 e_x0_60 => ?_)
    replace hw := hw x0_60 e_x0_60
    refine w_sub (lv' := [(0, .int x0_60), (1, .int x1_54)]) C [0, 1] rfl ?_
    exact wk_J6_numberOfLeadingZeros_0f7a4_61 C  hw
set_option maxHeartbeats 4000000 in
set_option maxRecDepth 100000 in
theorem wk_J6_numberOfLeadingZeros_0f7a4_33 {p : Program} {l : Launch} {e : Env} {s : State} {m : MethodId} {args : Array Value} {below : List Frame} {meth : Method} {c : Code} {D : va_G} {cB cI cJ cL cS : ClassId} {T : Nat × Nat × Nat × Nat} {A : Nat → Prop}   {Q : Int32 → Prop} (C : Cq p s m args meth c D (Z5 cB cI cJ cL cS) T A cJ6_numberOfLeadingZeros_0f7a4 RJ6 2 (Option.some Jvm.ClassFile.FieldType.int)) {x0 : Int32} {x1 : Int32}  (hw : blk_J6_numberOfLeadingZeros_0f7a4_33   Q x0 x1) : ww p l e ({ frames := 0, cells := 0, slots := 0, locals := 0 } : Room) s m args below meth c D A 2 (MQ below (va_Qi (fun (r : Int32) (u : Unit) => Q r ) (OutP D (fun (u : Unit) => [])) A) args s 0 0 A) 0 0 [] 33 [(0, .int x0), (1, .int x1)] [] := by
  unfold blk_J6_numberOfLeadingZeros_0f7a4_33 at hw
  refine w_iload_n C 0 dJ6_numberOfLeadingZeros_0f7a4_33 rfl ?_
  refine w_sipush C (v := (256 : Int32)) dJ6_numberOfLeadingZeros_0f7a4_34 (by decide) ?_
  refine w_icmp_lt C 48 (by decide) dJ6_numberOfLeadingZeros_0f7a4_37 (fun c_37 => ?_) (fun c_37 => ?_)
  · replace hw := hw.1 c_37
    refine w_sub (lv' := [(0, .int x0), (1, .int x1)]) C [0, 1] rfl ?_
    exact wk_J6_numberOfLeadingZeros_0f7a4_48 C  hw
  · replace hw := hw.2 c_37
    refine w_iinc C (v := x1 + (-8 : Int32)) 1 (fun x1_40 => [(1, .int x1_40), (0, .int x0)]) dJ6_numberOfLeadingZeros_0f7a4_40 rfl rfl (by decide) (fun _ => rfl) (fun x1_40 e_x1_40 => ?_)
    replace hw := hw x1_40 e_x1_40
    refine w_iload_n C 1 dJ6_numberOfLeadingZeros_0f7a4_43 rfl ?_
    refine w_bipush C (v := (8 : Int32)) dJ6_numberOfLeadingZeros_0f7a4_44 (by decide) ?_
    refine w_iushr C dJ6_numberOfLeadingZeros_0f7a4_46 ?_
    refine w_istore_n C (fun x0_47 => [(0, .int x0_47), (1, .int x1_40)]) dJ6_numberOfLeadingZeros_0f7a4_47 (by decide) (fun _ => rfl) (fun x0_47 e_x0_47 => ?_)
    replace hw := hw x0_47 e_x0_47
    refine w_sub (lv' := [(0, .int x0_47), (1, .int x1_40)]) C [0, 1] rfl ?_
    exact wk_J6_numberOfLeadingZeros_0f7a4_48 C  hw
set_option maxHeartbeats 4000000 in
set_option maxRecDepth 100000 in
theorem c_J6_numberOfLeadingZeros_0f7a4 {l : Launch} {D : va_G} {cB cI cJ cL cS : ClassId} {T : Nat × Nat × Nat × Nat}  {p0 : Int32}  {Q : Int32 → Prop} (hw : wp_J6_numberOfLeadingZeros_0f7a4 p0  Q) : CtI l D (Z5 cB cI cJ cL cS) T yJ6_numberOfLeadingZeros_0f7a4 cJ6_numberOfLeadingZeros_0f7a4 2 ({ frames := 0, cells := 0, slots := 0, locals := 0 } : Room) (Option.some Jvm.ClassFile.FieldType.int) [.int p0] [] (fun (u : Unit) => []) (fun (r : Int32) (u : Unit) => Q r ) 0 0 := by
  refine ctI_of (own := RJ6) (by decide +kernel) rfl (Nat.le_of_ble_eq_true rfl) (fun p e s m below meth c A C => ?_)
  refine w_sub (lv' := [(0, .int p0)]) C [0] rfl ?_
  unfold wp_J6_numberOfLeadingZeros_0f7a4 at hw
  refine w_iload_n C 0 dJ6_numberOfLeadingZeros_0f7a4_0 rfl ?_
  refine w_if_gt C 15 (by decide) dJ6_numberOfLeadingZeros_0f7a4_1 (fun c_1 => ?_) (fun c_1 => ?_)
  · replace hw := hw.1 c_1
    refine w_bipush C (v := (31 : Int32)) dJ6_numberOfLeadingZeros_0f7a4_15 (by decide) ?_
    refine w_istore_n C (fun x1_17 => [(1, .int x1_17), (0, .int p0)]) dJ6_numberOfLeadingZeros_0f7a4_17 (by decide) (fun _ => rfl) (fun x1_17 e_x1_17 => ?_)
    replace hw := hw x1_17 e_x1_17
    refine w_iload_n C 1 dJ6_numberOfLeadingZeros_0f7a4_18 rfl ?_
    refine w_ldc_w C (v := (65536 : Int32)) dJ6_numberOfLeadingZeros_0f7a4_19 k_372 ?_
    refine w_icmp_lt C 33 (by decide) dJ6_numberOfLeadingZeros_0f7a4_22 (fun c_22 => ?_) (fun c_22 => ?_)
    · replace hw := hw.1 c_22
      refine w_sub (lv' := [(0, .int p0), (1, .int x1_17)]) C [1, 0] rfl ?_
      exact wk_J6_numberOfLeadingZeros_0f7a4_33 C  hw
    · replace hw := hw.2 c_22
      refine w_iinc C (v := x1_17 + (-16 : Int32)) 0 (fun x1_25 => [(1, .int x1_25), (0, .int p0)]) dJ6_numberOfLeadingZeros_0f7a4_25 rfl rfl (by decide) (fun _ => rfl) (fun x1_25 e_x1_25 => ?_)
      replace hw := hw x1_25 e_x1_25
      refine w_iload_n C 1 dJ6_numberOfLeadingZeros_0f7a4_28 rfl ?_
      refine w_bipush C (v := (16 : Int32)) dJ6_numberOfLeadingZeros_0f7a4_29 (by decide) ?_
      refine w_iushr C dJ6_numberOfLeadingZeros_0f7a4_31 ?_
      refine w_istore_n C (fun x0_32 => [(0, .int x0_32), (1, .int x1_25)]) dJ6_numberOfLeadingZeros_0f7a4_32 (by decide) (fun _ => rfl) (fun x0_32 e_x0_32 => ?_)
      replace hw := hw x0_32 e_x0_32
      refine w_sub (lv' := [(0, .int x0_32), (1, .int x1_25)]) C [0, 1] rfl ?_
      exact wk_J6_numberOfLeadingZeros_0f7a4_33 C  hw
  · replace hw := hw.2 c_1
    refine w_iload_n C 0 dJ6_numberOfLeadingZeros_0f7a4_4 rfl ?_
    refine w_if_ne C 13 (by decide) dJ6_numberOfLeadingZeros_0f7a4_5 (fun c_5 => ?_) (fun c_5 => ?_)
    · replace hw := hw.1 c_5
      refine w_iconst C (v := (0 : Int32)) dJ6_numberOfLeadingZeros_0f7a4_13 (by decide) ?_
      exact w_iret C () hw rfl (Nat.le_of_ble_eq_true rfl) (Nat.le_of_ble_eq_true rfl) dJ6_numberOfLeadingZeros_0f7a4_14
    · replace hw := hw.2 c_5
      refine w_bipush C (v := (32 : Int32)) dJ6_numberOfLeadingZeros_0f7a4_8 (by decide) ?_
      refine w_goto C 14 (by decide) dJ6_numberOfLeadingZeros_0f7a4_10 ?_
      exact w_iret C () hw rfl (Nat.le_of_ble_eq_true rfl) (Nat.le_of_ble_eq_true rfl) dJ6_numberOfLeadingZeros_0f7a4_14
def wp_J13_numberOfLeadingZeros_95d88 (p0 : Int64)  (Q : Int32 → Prop) : Prop := ∀ x2_5 : Int32, x2_5 = ((((p0).toUInt64 >>> (((32 : Int32)).toInt64.toUInt64 &&& Int64.toUInt64 63)).toInt64).toInt32) → ((¬ x2_5 = 0 → (wp_J6_numberOfLeadingZeros_0f7a4 x2_5  (fun (r_22 : Int32) => Q r_22))) ∧ (x2_5 = 0 → (wp_J6_numberOfLeadingZeros_0f7a4 ((p0).toInt32)  (fun (r_14 : Int32) => Q ((32 : Int32) + r_14)))))
set_option maxHeartbeats 4000000 in
set_option maxRecDepth 100000 in
theorem c_J13_numberOfLeadingZeros_95d88 {l : Launch} {D : va_G} {cB cI cJ cL cS : ClassId} {T : Nat × Nat × Nat × Nat}  {p0 : Int64}  {Q : Int32 → Prop} (hw : wp_J13_numberOfLeadingZeros_95d88 p0  Q) : CtI l D (Z5 cB cI cJ cL cS) T yJ13_numberOfLeadingZeros_95d88 cJ13_numberOfLeadingZeros_95d88 3 ({ frames := 1, cells := 0, slots := 0, locals := 21 } : Room) (Option.some Jvm.ClassFile.FieldType.int) [.long p0] [] (fun (u : Unit) => []) (fun (r : Int32) (u : Unit) => Q r ) 0 0 := by
  refine ctI_of (own := RJ13) (by decide +kernel) rfl (Nat.le_of_ble_eq_true rfl) (fun p e s m below meth c A C => ?_)
  refine w_sub (lv' := [(0, .long p0)]) C [0] rfl ?_
  unfold wp_J13_numberOfLeadingZeros_95d88 at hw
  refine w_lload_n C 0 dJ13_numberOfLeadingZeros_95d88_0 rfl ?_
  refine w_bipush C (v := (32 : Int32)) dJ13_numberOfLeadingZeros_95d88_1 (by decide) ?_
  refine w_lushr C dJ13_numberOfLeadingZeros_95d88_3 ?_
  refine w_l2i C dJ13_numberOfLeadingZeros_95d88_4 ?_
  refine w_istore_n C (fun x2_5 => [(2, .int x2_5), (0, .long p0)]) dJ13_numberOfLeadingZeros_95d88_5 (by decide) (fun _ => rfl) (fun x2_5 e_x2_5 => ?_)
  replace hw := hw x2_5 e_x2_5
  refine w_iload_n C 0 dJ13_numberOfLeadingZeros_95d88_6 rfl ?_
  refine w_if_ne C 21 (by decide) dJ13_numberOfLeadingZeros_95d88_7 (fun c_7 => ?_) (fun c_7 => ?_)
  · replace hw := hw.1 c_7
    refine w_iload_n C 0 dJ13_numberOfLeadingZeros_95d88_21 rfl ?_
    refine w_callSI C (c_J6_numberOfLeadingZeros_0f7a4 hw) f_J6_numberOfLeadingZeros_0f7a4 k_369 rfl ⟨Nat.le_of_ble_eq_true rfl, Nat.le_of_ble_eq_true rfl⟩ rfl rfl ⟨Nat.le_of_ble_eq_true rfl, Nat.le_of_ble_eq_true rfl⟩ rfl (Nat.le_of_ble_eq_true rfl) dJ13_numberOfLeadingZeros_95d88_22 (fun r_22 u_22 hw => ?_)
    try dsimp only at hw
    exact w_iret C () hw rfl (Nat.le_of_ble_eq_true rfl) (Nat.le_of_ble_eq_true rfl) dJ13_numberOfLeadingZeros_95d88_25
  · replace hw := hw.2 c_7
    refine w_bipush C (v := (32 : Int32)) dJ13_numberOfLeadingZeros_95d88_10 (by decide) ?_
    refine w_lload_n C 1 dJ13_numberOfLeadingZeros_95d88_12 rfl ?_
    refine w_l2i C dJ13_numberOfLeadingZeros_95d88_13 ?_
    refine w_callSI C (c_J6_numberOfLeadingZeros_0f7a4 hw) f_J6_numberOfLeadingZeros_0f7a4 k_369 rfl ⟨Nat.le_of_ble_eq_true rfl, Nat.le_of_ble_eq_true rfl⟩ rfl rfl ⟨Nat.le_of_ble_eq_true rfl, Nat.le_of_ble_eq_true rfl⟩ rfl (Nat.le_of_ble_eq_true rfl) dJ13_numberOfLeadingZeros_95d88_14 (fun r_14 u_14 hw => ?_)
    try dsimp only at hw
    refine w_iadd C dJ13_numberOfLeadingZeros_95d88_17 ?_
    refine w_goto C 25 (by decide) dJ13_numberOfLeadingZeros_95d88_18 ?_
    exact w_iret C () hw rfl (Nat.le_of_ble_eq_true rfl) (Nat.le_of_ble_eq_true rfl) dJ13_numberOfLeadingZeros_95d88_25
def wp_J6_bitCount_0f7a4 (p0 : Int32)  (Q : Int32 → Prop) : Prop := ∀ x0_9 : Int32, x0_9 = (p0 - (((p0).toUInt32 >>> (((1 : Int32)).toUInt32 &&& Int32.toUInt32 31)).toInt32 &&& (1431655765 : Int32))) → ∀ x0_23 : Int32, x0_23 = ((x0_9 &&& (858993459 : Int32)) + (((x0_9).toUInt32 >>> (((2 : Int32)).toUInt32 &&& Int32.toUInt32 31)).toInt32 &&& (858993459 : Int32))) → ∀ x0_33 : Int32, x0_33 = ((x0_23 + ((x0_23).toUInt32 >>> (((4 : Int32)).toUInt32 &&& Int32.toUInt32 31)).toInt32) &&& (252645135 : Int32)) → ∀ x0_40 : Int32, x0_40 = (x0_33 + ((x0_33).toUInt32 >>> (((8 : Int32)).toUInt32 &&& Int32.toUInt32 31)).toInt32) → ∀ x0_47 : Int32, x0_47 = (x0_40 + ((x0_40).toUInt32 >>> (((16 : Int32)).toUInt32 &&& Int32.toUInt32 31)).toInt32) → Q (x0_47 &&& (63 : Int32))
set_option maxHeartbeats 4000000 in
set_option maxRecDepth 100000 in
theorem c_J6_bitCount_0f7a4 {l : Launch} {D : va_G} {cB cI cJ cL cS : ClassId} {T : Nat × Nat × Nat × Nat}  {p0 : Int32}  {Q : Int32 → Prop} (hw : wp_J6_bitCount_0f7a4 p0  Q) : CtI l D (Z5 cB cI cJ cL cS) T yJ6_bitCount_0f7a4 cJ6_bitCount_0f7a4 1 ({ frames := 0, cells := 0, slots := 0, locals := 0 } : Room) (Option.some Jvm.ClassFile.FieldType.int) [.int p0] [] (fun (u : Unit) => []) (fun (r : Int32) (u : Unit) => Q r ) 0 0 := by
  refine ctI_of (own := RJ6) (by decide +kernel) rfl (Nat.le_of_ble_eq_true rfl) (fun p e s m below meth c A C => ?_)
  refine w_sub (lv' := [(0, .int p0)]) C [0] rfl ?_
  unfold wp_J6_bitCount_0f7a4 at hw
  refine w_iload_n C 0 dJ6_bitCount_0f7a4_0 rfl ?_
  refine w_iload_n C 0 dJ6_bitCount_0f7a4_1 rfl ?_
  refine w_iconst C (v := (1 : Int32)) dJ6_bitCount_0f7a4_2 (by decide) ?_
  refine w_iushr C dJ6_bitCount_0f7a4_3 ?_
  refine w_ldc_w C (v := (1431655765 : Int32)) dJ6_bitCount_0f7a4_4 k_779 ?_
  refine w_iand C dJ6_bitCount_0f7a4_7 ?_
  refine w_isub C dJ6_bitCount_0f7a4_8 ?_
  refine w_istore_n C (fun x0_9 => [(0, .int x0_9)]) dJ6_bitCount_0f7a4_9 (by decide) (fun _ => rfl) (fun x0_9 e_x0_9 => ?_)
  replace hw := hw x0_9 e_x0_9
  refine w_iload_n C 0 dJ6_bitCount_0f7a4_10 rfl ?_
  refine w_ldc_w C (v := (858993459 : Int32)) dJ6_bitCount_0f7a4_11 k_780 ?_
  refine w_iand C dJ6_bitCount_0f7a4_14 ?_
  refine w_iload_n C 0 dJ6_bitCount_0f7a4_15 rfl ?_
  refine w_iconst C (v := (2 : Int32)) dJ6_bitCount_0f7a4_16 (by decide) ?_
  refine w_iushr C dJ6_bitCount_0f7a4_17 ?_
  refine w_ldc_w C (v := (858993459 : Int32)) dJ6_bitCount_0f7a4_18 k_780 ?_
  refine w_iand C dJ6_bitCount_0f7a4_21 ?_
  refine w_iadd C dJ6_bitCount_0f7a4_22 ?_
  refine w_istore_n C (fun x0_23 => [(0, .int x0_23)]) dJ6_bitCount_0f7a4_23 (by decide) (fun _ => rfl) (fun x0_23 e_x0_23 => ?_)
  replace hw := hw x0_23 e_x0_23
  refine w_iload_n C 0 dJ6_bitCount_0f7a4_24 rfl ?_
  refine w_iload_n C 0 dJ6_bitCount_0f7a4_25 rfl ?_
  refine w_iconst C (v := (4 : Int32)) dJ6_bitCount_0f7a4_26 (by decide) ?_
  refine w_iushr C dJ6_bitCount_0f7a4_27 ?_
  refine w_iadd C dJ6_bitCount_0f7a4_28 ?_
  refine w_ldc_w C (v := (252645135 : Int32)) dJ6_bitCount_0f7a4_29 k_781 ?_
  refine w_iand C dJ6_bitCount_0f7a4_32 ?_
  refine w_istore_n C (fun x0_33 => [(0, .int x0_33)]) dJ6_bitCount_0f7a4_33 (by decide) (fun _ => rfl) (fun x0_33 e_x0_33 => ?_)
  replace hw := hw x0_33 e_x0_33
  refine w_iload_n C 0 dJ6_bitCount_0f7a4_34 rfl ?_
  refine w_iload_n C 0 dJ6_bitCount_0f7a4_35 rfl ?_
  refine w_bipush C (v := (8 : Int32)) dJ6_bitCount_0f7a4_36 (by decide) ?_
  refine w_iushr C dJ6_bitCount_0f7a4_38 ?_
  refine w_iadd C dJ6_bitCount_0f7a4_39 ?_
  refine w_istore_n C (fun x0_40 => [(0, .int x0_40)]) dJ6_bitCount_0f7a4_40 (by decide) (fun _ => rfl) (fun x0_40 e_x0_40 => ?_)
  replace hw := hw x0_40 e_x0_40
  refine w_iload_n C 0 dJ6_bitCount_0f7a4_41 rfl ?_
  refine w_iload_n C 0 dJ6_bitCount_0f7a4_42 rfl ?_
  refine w_bipush C (v := (16 : Int32)) dJ6_bitCount_0f7a4_43 (by decide) ?_
  refine w_iushr C dJ6_bitCount_0f7a4_45 ?_
  refine w_iadd C dJ6_bitCount_0f7a4_46 ?_
  refine w_istore_n C (fun x0_47 => [(0, .int x0_47)]) dJ6_bitCount_0f7a4_47 (by decide) (fun _ => rfl) (fun x0_47 e_x0_47 => ?_)
  replace hw := hw x0_47 e_x0_47
  refine w_iload_n C 0 dJ6_bitCount_0f7a4_48 rfl ?_
  refine w_bipush C (v := (63 : Int32)) dJ6_bitCount_0f7a4_49 (by decide) ?_
  refine w_iand C dJ6_bitCount_0f7a4_51 ?_
  exact w_iret C () hw rfl (Nat.le_of_ble_eq_true rfl) (Nat.le_of_ble_eq_true rfl) dJ6_bitCount_0f7a4_52
