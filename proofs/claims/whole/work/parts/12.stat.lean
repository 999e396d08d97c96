def blk_X7_isSetting_19   (Q : Int32 → Prop) (x2 : Int64) : Prop := ((x2 < (1000 : Int64) → (Q (0 : Int32))) ∧ (¬ x2 < (1000 : Int64) → ((((1000000000000 : Int64) < x2 → (Q (0 : Int32))) ∧ (¬ (1000000000000 : Int64) < x2 → (Q (1 : Int32)))))))
def blk_X7_isSetting_9   (Q : Int32 → Prop) (x1 : Int32) (x2 : Int64) : Prop := ((x1 = (1 : Int32) → ((blk_X7_isSetting_19   Q x2))) ∧ (¬ x1 = (1 : Int32) → (((¬ x1 = (2 : Int32) → (Q (0 : Int32))) ∧ (x1 = (2 : Int32) → ((blk_X7_isSetting_19   Q x2)))))))
def wp_X7_isSetting (p0 : Int32) (p1 : Int32) (p2 : Int64)  (Q : Int32 → Prop) : Prop := ((p0 = 0 → ((blk_X7_isSetting_9   Q p1 p2))) ∧ (¬ p0 = 0 → (((¬ p0 = (1 : Int32) → (Q (0 : Int32))) ∧ (p0 = (1 : Int32) → ((blk_X7_isSetting_9   Q p1 p2)))))))
set_option maxHeartbeats 4000000 in
set_option maxRecDepth 100000 in
theorem wk_X7_isSetting_19 {p : Program} {l : Launch} {e : Env} {s : State} {m : MethodId} {args : Array Value} {below : List Frame} {meth : Method} {c : Code} {D : va_G} {cB cI cJ cL cS : ClassId} {T : Nat × Nat × Nat × Nat} {A : Nat → Prop}   {Q : Int32 → Prop} (C : Cq p s m args meth c D (Z5 cB cI cJ cL cS) T A cX7_isSetting RX7 4 (Option.some Jvm.ClassFile.FieldType.boolean)) {x2 : Int64}  (hw : blk_X7_isSetting_19   Q x2) : ww p l e ({ frames := 0, cells := 0, slots := 0, locals := 0 } : Room) s m args below meth c D A 4 (MQ below (va_Qi (fun (r : Int32) (u : Unit) => Q r ) (OutP D (fun (u : Unit) => [])) A) args s 0 0 A) 0 0 [] 19 [(2, .long x2)] [] := by
  unfold blk_X7_isSetting_19 at hw
  refine w_lload_n C 0 dX7_isSetting_19 rfl ?_
  refine w_ldc2 C (v := (1000 : Int64)) dX7_isSetting_20 k_358 ?_
  refine w_lcmp_lt C 24 39 rfl (by decide) dX7_isSetting_23 dX7_isSetting_24 (fun c_23 => ?_) (fun c_23 => ?_)
  · replace hw := hw.1 c_23
    refine w_iconst C (v := (0 : Int32)) dX7_isSetting_39 (by decide) ?_
    exact w_zret C () (Or.inl rfl) hw rfl (Nat.le_of_ble_eq_true rfl) (Nat.le_of_ble_eq_true rfl) dX7_isSetting_40
  · replace hw := hw.2 c_23
    refine w_lload_n C 0 dX7_isSetting_27 rfl ?_
    refine w_ldc2 C (v := (1000000000000 : Int64)) dX7_isSetting_28 k_359 ?_
    refine w_lcmp_gt C 32 39 rfl (by decide) dX7_isSetting_31 dX7_isSetting_32 (fun c_31 => ?_) (fun c_31 => ?_)
    · replace hw := hw.1 c_31
      refine w_iconst C (v := (0 : Int32)) dX7_isSetting_39 (by decide) ?_
      exact w_zret C () (Or.inl rfl) hw rfl (Nat.le_of_ble_eq_true rfl) (Nat.le_of_ble_eq_true rfl) dX7_isSetting_40
    · replace hw := hw.2 c_31
      refine w_iconst C (v := (1 : Int32)) dX7_isSetting_35 (by decide) ?_
      refine w_goto C 40 (by decide) dX7_isSetting_36 ?_
      exact w_zret C () (Or.inr rfl) hw rfl (Nat.le_of_ble_eq_true rfl) (Nat.le_of_ble_eq_true rfl) dX7_isSetting_40
set_option maxHeartbeats 4000000 in
set_option maxRecDepth 100000 in
theorem wk_X7_isSetting_9 {p : Program} {l : Launch} {e : Env} {s : State} {m : MethodId} {args : Array Value} {below : List Frame} {meth : Method} {c : Code} {D : va_G} {cB cI cJ cL cS : ClassId} {T : Nat × Nat × Nat × Nat} {A : Nat → Prop}   {Q : Int32 → Prop} (C : Cq p s m args meth c D (Z5 cB cI cJ cL cS) T A cX7_isSetting RX7 4 (Option.some Jvm.ClassFile.FieldType.boolean)) {x1 : Int32} {x2 : Int64}  (hw : blk_X7_isSetting_9   Q x1 x2) : ww p l e ({ frames := 0, cells := 0, slots := 0, locals := 0 } : Room) s m args below meth c D A 4 (MQ below (va_Qi (fun (r : Int32) (u : Unit) => Q r ) (OutP D (fun (u : Unit) => [])) A) args s 0 0 A) 0 0 [] 9 [(1, .int x1), (2, .long x2)] [] := by
  unfold blk_X7_isSetting_9 at hw
  refine w_iload_n C 0 dX7_isSetting_9 rfl ?_
  refine w_iconst C (v := (1 : Int32)) dX7_isSetting_10 (by decide) ?_
  refine w_icmp_eq C 19 (by decide) dX7_isSetting_11 (fun c_11 => ?_) (fun c_11 => ?_)
  · replace hw := hw.1 c_11
    refine w_sub (lv' := [(2, .long x2)]) C [1] rfl ?_
    exact wk_X7_isSetting_19 C  hw
  · replace hw := hw.2 c_11
    refine w_iload_n C 0 dX7_isSetting_14 rfl ?_
    refine w_iconst C (v := (2 : Int32)) dX7_isSetting_15 (by decide) ?_
    refine w_icmp_ne C 39 (by decide) dX7_isSetting_16 (fun c_16 => ?_) (fun c_16 => ?_)
    · replace hw := hw.1 c_16
      refine w_iconst C (v := (0 : Int32)) dX7_isSetting_39 (by decide) ?_
      exact w_zret C () (Or.inl rfl) hw rfl (Nat.le_of_ble_eq_true rfl) (Nat.le_of_ble_eq_true rfl) dX7_isSetting_40
    · replace hw := hw.2 c_16
      refine w_sub (lv' := [(2, .long x2)]) C [1] rfl ?_
      exact wk_X7_isSetting_19 C  hw
set_option maxHeartbeats 4000000 in
set_option maxRecDepth 100000 in
theorem c_X7_isSetting {l : Launch} {D : va_G} {cB cI cJ cL cS : ClassId} {T : Nat × Nat × Nat × Nat}  {p0 : Int32} {p1 : Int32} {p2 : Int64}  {Q : Int32 → Prop} (hw : wp_X7_isSetting p0 p1 p2  Q) : CtI l D (Z5 cB cI cJ cL cS) T yX7_isSetting cX7_isSetting 4 ({ frames := 0, cells := 0, slots := 0, locals := 0 } : Room) (Option.some Jvm.ClassFile.FieldType.boolean) [.int p0, .int p1, .long p2] [] (fun (u : Unit) => []) (fun (r : Int32) (u : Unit) => Q r ) 0 0 := by
  refine ctI_of (own := RX7) (by decide +kernel) rfl (Nat.le_of_ble_eq_true rfl) (fun p e s m below meth c A C => ?_)
  refine w_sub (lv' := [(0, .int p0), (1, .int p1), (2, .long p2)]) C [0, 1, 2] rfl ?_
  unfold wp_X7_isSetting at hw
  refine w_iload_n C 0 dX7_isSetting_0 rfl ?_
  refine w_if_eq C 9 (by decide) dX7_isSetting_1 (fun c_1 => ?_) (fun c_1 => ?_)
  · replace hw := hw.1 c_1
    refine w_sub (lv' := [(1, .int p1), (2, .long p2)]) C [1, 2] rfl ?_
    exact wk_X7_isSetting_9 C  hw
  · replace hw := hw.2 c_1
    refine w_iload_n C 0 dX7_isSetting_4 rfl ?_
    refine w_iconst C (v := (1 : Int32)) dX7_isSetting_5 (by decide) ?_
    refine w_icmp_ne C 39 (by decide) dX7_isSetting_6 (fun c_6 => ?_) (fun c_6 => ?_)
    · replace hw := hw.1 c_6
      refine w_iconst C (v := (0 : Int32)) dX7_isSetting_39 (by decide) ?_
      exact w_zret C () (Or.inl rfl) hw rfl (Nat.le_of_ble_eq_true rfl) (Nat.le_of_ble_eq_true rfl) dX7_isSetting_40
    · replace hw := hw.2 c_6
      refine w_sub (lv' := [(1, .int p1), (2, .long p2)]) C [1, 2] rfl ?_
      exact wk_X7_isSetting_9 C  hw
def wp_X7_bitsOf (p0 : Int32)  (Q : Int32 → Prop) : Prop := ((¬ p0 = (1 : Int32) → (Q (8 : Int32))) ∧ (p0 = (1 : Int32) → (Q (5 : Int32))))
set_option maxHeartbeats 4000000 in
set_option maxRecDepth 100000 in
theorem c_X7_bitsOf {l : Launch} {D : va_G} {cB cI cJ cL cS : ClassId} {T : Nat × Nat × Nat × Nat}  {p0 : Int32}  {Q : Int32 → Prop} (hw : wp_X7_bitsOf p0  Q) : CtI l D (Z5 cB cI cJ cL cS) T yX7_bitsOf cX7_bitsOf 1 ({ frames := 0, cells := 0, slots := 0, locals := 0 } : Room) (Option.some Jvm.ClassFile.FieldType.int) [.int p0] [] (fun (u : Unit) => []) (fun (r : Int32) (u : Unit) => Q r ) 0 0 := by
  refine ctI_of (own := RX7) (by decide +kernel) rfl (Nat.le_of_ble_eq_true rfl) (fun p e s m below meth c A C => ?_)
  refine w_sub (lv' := [(0, .int p0)]) C [0] rfl ?_
  unfold wp_X7_bitsOf at hw
  refine w_iload_n C 0 dX7_bitsOf_0 rfl ?_
  refine w_iconst C (v := (1 : Int32)) dX7_bitsOf_1 (by decide) ?_
  refine w_icmp_ne C 9 (by decide) dX7_bitsOf_2 (fun c_2 => ?_) (fun c_2 => ?_)
  · replace hw := hw.1 c_2
    refine w_bipush C (v := (8 : Int32)) dX7_bitsOf_9 (by decide) ?_
    exact w_iret C () hw rfl (Nat.le_of_ble_eq_true rfl) (Nat.le_of_ble_eq_true rfl) dX7_bitsOf_11
  · replace hw := hw.2 c_2
    refine w_iconst C (v := (5 : Int32)) dX7_bitsOf_5 (by decide) ?_
    refine w_goto C 11 (by decide) dX7_bitsOf_6 ?_
    exact w_iret C () hw rfl (Nat.le_of_ble_eq_true rfl) (Nat.le_of_ble_eq_true rfl) dX7_bitsOf_11
def wp_X7_slotOf (p0 : Int32) (p1 : Int64)  (Q : Int32 → Prop) : Prop := wp_X7_bitsOf p0  (fun (r_1 : Int32) => ∀ x3_4 : Int32, x3_4 = r_1 → wp_J13_numberOfLeadingZeros_95d88 p1  (fun (r_9 : Int32) => ∀ x4_18 : Int32, x4_18 = (if (0 : Int32) < (((64 : Int32) - r_9) - x3_4) then (((64 : Int32) - r_9) - x3_4) else (0 : Int32)) → Q ((x4_18 <<< ((x3_4 - (1 : Int32)) &&& 31)) + (((p1 >>> ((x4_18).toInt64 &&& 63))).toInt32))))
set_option maxHeartbeats 4000000 in
set_option maxRecDepth 100000 in
theorem c_X7_slotOf {l : Launch} {D : va_G} {cB cI cJ cL cS : ClassId} {T : Nat × Nat × Nat × Nat}  {p0 : Int32} {p1 : Int64}  {Q : Int32 → Prop} (hw : wp_X7_slotOf p0 p1  Q) : CtI l D (Z5 cB cI cJ cL cS) T yX7_slotOf cX7_slotOf 5 ({ frames := 2, cells := 0, slots := 0, locals := 43 } : Room) (Option.some Jvm.ClassFile.FieldType.int) [.int p0, .long p1] [] (fun (u : Unit) => []) (fun (r : Int32) (u : Unit) => Q r ) 0 0 := by
  refine ctI_of (own := RX7) (by decide +kernel) rfl (Nat.le_of_ble_eq_true rfl) (fun p e s m below meth c A C => ?_)
  refine w_sub (lv' := [(0, .int p0), (1, .long p1)]) C [0, 1] rfl ?_
  unfold wp_X7_slotOf at hw
  refine w_iload_n C 0 dX7_slotOf_0 rfl ?_
  refine w_callSI C (c_X7_bitsOf hw) f_X7_bitsOf k_363 rfl ⟨Nat.le_of_ble_eq_true rfl, Nat.le_of_ble_eq_true rfl⟩ rfl rfl ⟨Nat.le_of_ble_eq_true rfl, Nat.le_of_ble_eq_true rfl⟩ rfl (Nat.le_of_ble_eq_true rfl) dX7_slotOf_1 (fun r_1 u_1 hw => ?_)
  try dsimp only at hw
  refine w_istore_n C (fun x3_4 => [(3, .int x3_4), (0, .int p0), (1, .long p1)]) dX7_slotOf_4 (by decide) (fun _ => rfl) (fun x3_4 e_x3_4 => ?_)
  replace hw := hw x3_4 e_x3_4
  refine w_iconst C (v := (0 : Int32)) dX7_slotOf_5 (by decide) ?_
  refine w_bipush C (v := (64 : Int32)) dX7_slotOf_6 (by decide) ?_
  refine w_lload_n C 2 dX7_slotOf_8 rfl ?_
  refine w_callSI C (c_J13_numberOfLeadingZeros_95d88 hw) f_J13_numberOfLeadingZeros_95d88 k_366 rfl ⟨Nat.le_of_ble_eq_true rfl, Nat.le_of_ble_eq_true rfl⟩ rfl rfl ⟨Nat.le_of_ble_eq_true rfl, Nat.le_of_ble_eq_true rfl⟩ rfl (Nat.le_of_ble_eq_true rfl) dX7_slotOf_9 (fun r_9 u_9 hw => ?_)
  try dsimp only at hw
  refine w_isub C dX7_slotOf_12 ?_
  refine w_iload_n C 0 dX7_slotOf_13 rfl ?_
  refine w_isub C dX7_slotOf_14 ?_
  refine w_imax C k_373 f_imax.1 f_imax.2.1 f_imax.2.2 (Nat.le_of_ble_eq_true rfl) (Nat.le_of_ble_eq_true rfl) (Nat.le_of_ble_eq_true rfl) (Nat.le_of_ble_eq_true rfl) dX7_slotOf_15 ?_
  refine w_istore C (fun x4_18 => [(4, .int x4_18), (3, .int x3_4), (0, .int p0), (1, .long p1)]) dX7_slotOf_18 (by decide) (fun _ => rfl) (fun x4_18 e_x4_18 => ?_)
  replace hw := hw x4_18 e_x4_18
  refine w_iload C 0 dX7_slotOf_20 rfl ?_
  refine w_iload_n C 1 dX7_slotOf_22 rfl ?_
  refine w_iconst C (v := (1 : Int32)) dX7_slotOf_23 (by decide) ?_
  refine w_isub C dX7_slotOf_24 ?_
  refine w_ishl C dX7_slotOf_25 ?_
  refine w_lload_n C 3 dX7_slotOf_26 rfl ?_
  refine w_iload C 0 dX7_slotOf_27 rfl ?_
  refine w_lshr C dX7_slotOf_29 ?_
  refine w_l2i C dX7_slotOf_30 ?_
  refine w_iadd C dX7_slotOf_31 ?_
  exact w_iret C () hw rfl (Nat.le_of_ble_eq_true rfl) (Nat.le_of_ble_eq_true rfl) dX7_slotOf_32
def wp_X7_shiftOf (p0 : Int32) (p1 : Int32)  (Q : Int32 → Prop) : Prop := Q (if (0 : Int32) < ((p1 >>> ((p0 - (1 : Int32)) &&& 31)) - (1 : Int32)) then ((p1 >>> ((p0 - (1 : Int32)) &&& 31)) - (1 : Int32)) else (0 : Int32))
set_option maxHeartbeats 4000000 in
set_option maxRecDepth 100000 in
theorem c_X7_shiftOf {l : Launch} {D : va_G} {cB cI cJ cL cS : ClassId} {T : Nat × Nat × Nat × Nat}  {p0 : Int32} {p1 : Int32}  {Q : Int32 → Prop} (hw : wp_X7_shiftOf p0 p1  Q) : CtI l D (Z5 cB cI cJ cL cS) T yX7_shiftOf cX7_shiftOf 2 ({ frames := 1, cells := 0, slots := 0, locals := 32 } : Room) (Option.some Jvm.ClassFile.FieldType.int) [.int p0, .int p1] [] (fun (u : Unit) => []) (fun (r : Int32) (u : Unit) => Q r ) 0 0 := by
  refine ctI_of (own := RX7) (by decide +kernel) rfl (Nat.le_of_ble_eq_true rfl) (fun p e s m below meth c A C => ?_)
  refine w_sub (lv' := [(0, .int p0), (1, .int p1)]) C [0, 1] rfl ?_
  unfold wp_X7_shiftOf at hw
  refine w_iconst C (v := (0 : Int32)) dX7_shiftOf_0 (by decide) ?_
  refine w_iload_n C 1 dX7_shiftOf_1 rfl ?_
  refine w_iload_n C 0 dX7_shiftOf_2 rfl ?_
  refine w_iconst C (v := (1 : Int32)) dX7_shiftOf_3 (by decide) ?_
  refine w_isub C dX7_shiftOf_4 ?_
  refine w_ishr C dX7_shiftOf_5 ?_
  refine w_iconst C (v := (1 : Int32)) dX7_shiftOf_6 (by decide) ?_
  refine w_isub C dX7_shiftOf_7 ?_
  refine w_imax C k_373 f_imax.1 f_imax.2.1 f_imax.2.2 (Nat.le_of_ble_eq_true rfl) (Nat.le_of_ble_eq_true rfl) (Nat.le_of_ble_eq_true rfl) (Nat.le_of_ble_eq_true rfl) dX7_shiftOf_8 ?_
  exact w_iret C () hw rfl (Nat.le_of_ble_eq_true rfl) (Nat.le_of_ble_eq_true rfl) dX7_shiftOf_11
def wp_X7_lowOf (p0 : Int32) (p1 : Int32)  (Q : Int64 → Prop) : Prop := wp_X7_bitsOf p0  (fun (r_1 : Int32) => ∀ x2_4 : Int32, x2_4 = r_1 → wp_X7_shiftOf x2_4 p1  (fun (r_7 : Int32) => ∀ x3_10 : Int32, x3_10 = r_7 → Q ((((p1 - (x3_10 <<< ((x2_4 - (1 : Int32)) &&& 31)))).toInt64) <<< ((x3_10).toInt64 &&& 63))))
set_option maxHeartbeats 4000000 in
set_option maxRecDepth 100000 in
theorem c_X7_lowOf {l : Launch} {D : va_G} {cB cI cJ cL cS : ClassId} {T : Nat × Nat × Nat × Nat}  {p0 : Int32} {p1 : Int32}  {Q : Int64 → Prop} (hw : wp_X7_lowOf p0 p1  Q) : CtL l D (Z5 cB cI cJ cL cS) T yX7_lowOf cX7_lowOf 4 ({ frames := 2, cells := 0, slots := 0, locals := 53 } : Room) (Option.some Jvm.ClassFile.FieldType.long) [.int p0, .int p1] [] (fun (u : Unit) => []) (fun (r : Int64) (u : Unit) => Q r ) 0 0 := by
  refine ctL_of (own := RX7) (by decide +kernel) rfl (Nat.le_of_ble_eq_true rfl) (fun p e s m below meth c A C => ?_)
  refine w_sub (lv' := [(0, .int p0), (1, .int p1)]) C [0, 1] rfl ?_
  unfold wp_X7_lowOf at hw
  refine w_iload_n C 0 dX7_lowOf_0 rfl ?_
  refine w_callSI C (c_X7_bitsOf hw) f_X7_bitsOf k_363 rfl ⟨Nat.le_of_ble_eq_true rfl, Nat.le_of_ble_eq_true rfl⟩ rfl rfl ⟨Nat.le_of_ble_eq_true rfl, Nat.le_of_ble_eq_true rfl⟩ rfl (Nat.le_of_ble_eq_true rfl) dX7_lowOf_1 (fun r_1 u_1 hw => ?_)
  try dsimp only at hw
  refine w_istore_n C (fun x2_4 => [(2, .int x2_4), (0, .int p0), (1, .int p1)]) dX7_lowOf_4 (by decide) (fun _ => rfl) (fun x2_4 e_x2_4 => ?_)
  replace hw := hw x2_4 e_x2_4
  refine w_iload_n C 0 dX7_lowOf_5 rfl ?_
  refine w_iload_n C 2 dX7_lowOf_6 rfl ?_
  refine w_callSI C (c_X7_shiftOf hw) f_X7_shiftOf k_485 rfl ⟨Nat.le_of_ble_eq_true rfl, Nat.le_of_ble_eq_true rfl⟩ rfl rfl ⟨Nat.le_of_ble_eq_true rfl, Nat.le_of_ble_eq_true rfl⟩ rfl (Nat.le_of_ble_eq_true rfl) dX7_lowOf_7 (fun r_7 u_7 hw => ?_)
  try dsimp only at hw
  refine w_istore_n C (fun x3_10 => [(3, .int x3_10), (2, .int x2_4), (0, .int p0), (1, .int p1)]) dX7_lowOf_10 (by decide) (fun _ => rfl) (fun x3_10 e_x3_10 => ?_)
  replace hw := hw x3_10 e_x3_10
  refine w_iload_n C 3 dX7_lowOf_11 rfl ?_
  refine w_iload_n C 0 dX7_lowOf_12 rfl ?_
  refine w_iload_n C 1 dX7_lowOf_13 rfl ?_
  refine w_iconst C (v := (1 : Int32)) dX7_lowOf_14 (by decide) ?_
  refine w_isub C dX7_lowOf_15 ?_
  refine w_ishl C dX7_lowOf_16 ?_
  refine w_isub C dX7_lowOf_17 ?_
  refine w_i2l C dX7_lowOf_18 ?_
  refine w_iload_n C 0 dX7_lowOf_19 rfl ?_
  refine w_lshl C dX7_lowOf_20 ?_
  exact w_lret C () hw rfl (Nat.le_of_ble_eq_true rfl) (Nat.le_of_ble_eq_true rfl) dX7_lowOf_21
def wp_X7_reachOf (p0 : Int32) (p1 : Int32)  (Q : Int64 → Prop) : Prop := wp_X7_bitsOf p0  (fun (r_2 : Int32) => wp_X7_shiftOf r_2 p1  (fun (r_6 : Int32) => Q (((1 : Int64) <<< ((r_6).toInt64 &&& 63)) - (1 : Int64))))
set_option maxHeartbeats 4000000 in
set_option maxRecDepth 100000 in
theorem c_X7_reachOf {l : Launch} {D : va_G} {cB cI cJ cL cS : ClassId} {T : Nat × Nat × Nat × Nat}  {p0 : Int32} {p1 : Int32}  {Q : Int64 → Prop} (hw : wp_X7_reachOf p0 p1  Q) : CtL l D (Z5 cB cI cJ cL cS) T yX7_reachOf cX7_reachOf 2 ({ frames := 2, cells := 0, slots := 0, locals := 53 } : Room) (Option.some Jvm.ClassFile.FieldType.long) [.int p0, .int p1] [] (fun (u : Unit) => []) (fun (r : Int64) (u : Unit) => Q r ) 0 0 := by
  refine ctL_of (own := RX7) (by decide +kernel) rfl (Nat.le_of_ble_eq_true rfl) (fun p e s m below meth c A C => ?_)
  refine w_sub (lv' := [(0, .int p0), (1, .int p1)]) C [0, 1] rfl ?_
  unfold wp_X7_reachOf at hw
  refine w_lconst C (v := (1 : Int64)) dX7_reachOf_0 (by decide) ?_
  refine w_iload_n C 0 dX7_reachOf_1 rfl ?_
  refine w_callSI C (c_X7_bitsOf hw) f_X7_bitsOf k_363 rfl ⟨Nat.le_of_ble_eq_true rfl, Nat.le_of_ble_eq_true rfl⟩ rfl rfl ⟨Nat.le_of_ble_eq_true rfl, Nat.le_of_ble_eq_true rfl⟩ rfl (Nat.le_of_ble_eq_true rfl) dX7_reachOf_2 (fun r_2 u_2 hw => ?_)
  try dsimp only at hw
  refine w_iload_n C 1 dX7_reachOf_5 rfl ?_
  refine w_callSI C (c_X7_shiftOf hw) f_X7_shiftOf k_485 rfl ⟨Nat.le_of_ble_eq_true rfl, Nat.le_of_ble_eq_true rfl⟩ rfl rfl ⟨Nat.le_of_ble_eq_true rfl, Nat.le_of_ble_eq_true rfl⟩ rfl (Nat.le_of_ble_eq_true rfl) dX7_reachOf_6 (fun r_6 u_6 hw => ?_)
  try dsimp only at hw
  refine w_lshl C dX7_reachOf_9 ?_
  refine w_lconst C (v := (1 : Int64)) dX7_reachOf_10 (by decide) ?_
  refine w_lsub C dX7_reachOf_11 ?_
  exact w_lret C () hw rfl (Nat.le_of_ble_eq_true rfl) (Nat.le_of_ble_eq_true rfl) dX7_reachOf_12
def wp_X7_highOf (p0 : Int32) (p1 : Int32)  (Q : Int64 → Prop) : Prop := wp_X7_lowOf p0 p1  (fun (r_2 : Int64) => wp_X7_reachOf p0 p1  (fun (r_7 : Int64) => Q (r_2 + r_7)))
set_option maxHeartbeats 4000000 in
set_option maxRecDepth 100000 in
theorem c_X7_highOf {l : Launch} {D : va_G} {cB cI cJ cL cS : ClassId} {T : Nat × Nat × Nat × Nat}  {p0 : Int32} {p1 : Int32}  {Q : Int64 → Prop} (hw : wp_X7_highOf p0 p1  Q) : CtL l D (Z5 cB cI cJ cL cS) T yX7_highOf cX7_highOf 2 ({ frames := 3, cells := 0, slots := 0, locals := 76 } : Room) (Option.some Jvm.ClassFile.FieldType.long) [.int p0, .int p1] [] (fun (u : Unit) => []) (fun (r : Int64) (u : Unit) => Q r ) 0 0 := by
  refine ctL_of (own := RX7) (by decide +kernel) rfl (Nat.le_of_ble_eq_true rfl) (fun p e s m below meth c A C => ?_)
  refine w_sub (lv' := [(0, .int p0), (1, .int p1)]) C [0, 1] rfl ?_
  unfold wp_X7_highOf at hw
  refine w_iload_n C 0 dX7_highOf_0 rfl ?_
  refine w_iload_n C 1 dX7_highOf_1 rfl ?_
  refine w_callSL C (c_X7_lowOf hw) f_X7_lowOf k_482 rfl ⟨Nat.le_of_ble_eq_true rfl, Nat.le_of_ble_eq_true rfl⟩ rfl rfl ⟨Nat.le_of_ble_eq_true rfl, Nat.le_of_ble_eq_true rfl⟩ rfl (Nat.le_of_ble_eq_true rfl) dX7_highOf_2 (fun r_2 u_2 hw => ?_)
  try dsimp only at hw
  refine w_iload_n C 0 dX7_highOf_5 rfl ?_
  refine w_iload_n C 1 dX7_highOf_6 rfl ?_
  refine w_callSL C (c_X7_reachOf hw) f_X7_reachOf k_491 rfl ⟨Nat.le_of_ble_eq_true rfl, Nat.le_of_ble_eq_true rfl⟩ rfl rfl ⟨Nat.le_of_ble_eq_true rfl, Nat.le_of_ble_eq_true rfl⟩ rfl (Nat.le_of_ble_eq_true rfl) dX7_highOf_7 (fun r_7 u_7 hw => ?_)
  try dsimp only at hw
  refine w_ladd C dX7_highOf_10 ?_
  exact w_lret C () hw rfl (Nat.le_of_ble_eq_true rfl) (Nat.le_of_ble_eq_true rfl) dX7_highOf_11
def wp_X7_middleOf (p0 : Int32) (p1 : Int32)  (Q : Int64 → Prop) : Prop := wp_X7_lowOf p0 p1  (fun (r_2 : Int64) => wp_X7_reachOf p0 p1  (fun (r_7 : Int64) => Q (r_2 + (r_7 / (2 : Int64)))))
set_option maxHeartbeats 4000000 in
set_option maxRecDepth 100000 in
theorem c_X7_middleOf {l : Launch} {D : va_G} {cB cI cJ cL cS : ClassId} {T : Nat × Nat × Nat × Nat}  {p0 : Int32} {p1 : Int32}  {Q : Int64 → Prop} (hw : wp_X7_middleOf p0 p1  Q) : CtL l D (Z5 cB cI cJ cL cS) T yX7_middleOf cX7_middleOf 2 ({ frames := 3, cells := 0, slots := 0, locals := 76 } : Room) (Option.some Jvm.ClassFile.FieldType.long) [.int p0, .int p1] [] (fun (u : Unit) => []) (fun (r : Int64) (u : Unit) => Q r ) 0 0 := by
  refine ctL_of (own := RX7) (by decide +kernel) rfl (Nat.le_of_ble_eq_true rfl) (fun p e s m below meth c A C => ?_)
  refine w_sub (lv' := [(0, .int p0), (1, .int p1)]) C [0, 1] rfl ?_
  unfold wp_X7_middleOf at hw
  refine w_iload_n C 0 dX7_middleOf_0 rfl ?_
  refine w_iload_n C 1 dX7_middleOf_1 rfl ?_
  refine w_callSL C (c_X7_lowOf hw) f_X7_lowOf k_482 rfl ⟨Nat.le_of_ble_eq_true rfl, Nat.le_of_ble_eq_true rfl⟩ rfl rfl ⟨Nat.le_of_ble_eq_true rfl, Nat.le_of_ble_eq_true rfl⟩ rfl (Nat.le_of_ble_eq_true rfl) dX7_middleOf_2 (fun r_2 u_2 hw => ?_)
  try dsimp only at hw
  refine w_iload_n C 0 dX7_middleOf_5 rfl ?_
  refine w_iload_n C 1 dX7_middleOf_6 rfl ?_
  refine w_callSL C (c_X7_reachOf hw) f_X7_reachOf k_491 rfl ⟨Nat.le_of_ble_eq_true rfl, Nat.le_of_ble_eq_true rfl⟩ rfl rfl ⟨Nat.le_of_ble_eq_true rfl, Nat.le_of_ble_eq_true rfl⟩ rfl (Nat.le_of_ble_eq_true rfl) dX7_middleOf_7 (fun r_7 u_7 hw => ?_)
  try dsimp only at hw
  refine w_ldc2 C (v := (2 : Int64)) dX7_middleOf_10 k_497 ?_
  refine w_ldiv C (by decide) dX7_middleOf_13 ?_
  refine w_ladd C dX7_middleOf_14 ?_
  exact w_lret C () hw rfl (Nat.le_of_ble_eq_true rfl) (Nat.le_of_ble_eq_true rfl) dX7_middleOf_15
def wp_X7_wanted (p0 : Int32) (p1 : Int64)  (Q : Int64 → Prop) : Prop := ∀ x3_18 : Int64, x3_18 = (((((p1 - p1 / (100000 : Int64) * (100000 : Int64)) * ((p0).toInt64)) + (100000 : Int64)) - (1 : Int64)) / (100000 : Int64)) → Q (if (((p1 / (100000 : Int64)) * ((p0).toInt64)) + x3_18) < (1 : Int64) then (1 : Int64) else (((p1 / (100000 : Int64)) * ((p0).toInt64)) + x3_18))
set_option maxHeartbeats 4000000 in
set_option maxRecDepth 100000 in
theorem c_X7_wanted {l : Launch} {D : va_G} {cB cI cJ cL cS : ClassId} {T : Nat × Nat × Nat × Nat}  {p0 : Int32} {p1 : Int64}  {Q : Int64 → Prop} (hw : wp_X7_wanted p0 p1  Q) : CtL l D (Z5 cB cI cJ cL cS) T yX7_wanted cX7_wanted 5 ({ frames := 1, cells := 0, slots := 0, locals := 32 } : Room) (Option.some Jvm.ClassFile.FieldType.long) [.int p0, .long p1] [] (fun (u : Unit) => []) (fun (r : Int64) (u : Unit) => Q r ) 0 0 := by
  refine ctL_of (own := RX7) (by decide +kernel) rfl (Nat.le_of_ble_eq_true rfl) (fun p e s m below meth c A C => ?_)
  refine w_sub (lv' := [(0, .int p0), (1, .long p1)]) C [0, 1] rfl ?_
  unfold wp_X7_wanted at hw
  refine w_lload_n C 1 dX7_wanted_0 rfl ?_
  refine w_ldc2 C (v := (100000 : Int64)) dX7_wanted_1 k_556 ?_
  refine w_lrem C (by decide) dX7_wanted_4 ?_
  refine w_iload_n C 0 dX7_wanted_5 rfl ?_
  refine w_i2l C dX7_wanted_6 ?_
  refine w_lmul C dX7_wanted_7 ?_
  refine w_ldc2 C (v := (100000 : Int64)) dX7_wanted_8 k_556 ?_
  refine w_ladd C dX7_wanted_11 ?_
  refine w_lconst C (v := (1 : Int64)) dX7_wanted_12 (by decide) ?_
  refine w_lsub C dX7_wanted_13 ?_
  refine w_ldc2 C (v := (100000 : Int64)) dX7_wanted_14 k_556 ?_
  refine w_ldiv C (by decide) dX7_wanted_17 ?_
  refine w_lstore_n C (fun x3_18 => [(3, .long x3_18), (0, .int p0), (1, .long p1)]) dX7_wanted_18 (by decide) (fun _ => rfl) (fun x3_18 e_x3_18 => ?_)
  replace hw := hw x3_18 e_x3_18
  refine w_lconst C (v := (1 : Int64)) dX7_wanted_19 (by decide) ?_
  refine w_lload_n C 2 dX7_wanted_20 rfl ?_
  refine w_ldc2 C (v := (100000 : Int64)) dX7_wanted_21 k_556 ?_
  refine w_ldiv C (by decide) dX7_wanted_24 ?_
  refine w_iload_n C 1 dX7_wanted_25 rfl ?_
  refine w_i2l C dX7_wanted_26 ?_
  refine w_lmul C dX7_wanted_27 ?_
  refine w_lload_n C 0 dX7_wanted_28 rfl ?_
  refine w_ladd C dX7_wanted_29 ?_
  refine w_lmax C k_557 f_lmax.1 f_lmax.2.1 f_lmax.2.2 (Nat.le_of_ble_eq_true rfl) (Nat.le_of_ble_eq_true rfl) (Nat.le_of_ble_eq_true rfl) (Nat.le_of_ble_eq_true rfl) dX7_wanted_30 ?_
  exact w_lret C () hw rfl (Nat.le_of_ble_eq_true rfl) (Nat.le_of_ble_eq_true rfl) dX7_wanted_33
def wp_X7_withExponent (p0 : Int32) (p1 : Int32) (p2 : Int64)  (Q : Int64 → Prop) : Prop := Q ((((p0).toInt64) <<< ((p1).toInt64 &&& 63)) + p2)
set_option maxHeartbeats 4000000 in
set_option maxRecDepth 100000 in
theorem c_X7_withExponent {l : Launch} {D : va_G} {cB cI cJ cL cS : ClassId} {T : Nat × Nat × Nat × Nat}  {p0 : Int32} {p1 : Int32} {p2 : Int64}  {Q : Int64 → Prop} (hw : wp_X7_withExponent p0 p1 p2  Q) : CtL l D (Z5 cB cI cJ cL cS) T yX7_withExponent cX7_withExponent 4 ({ frames := 0, cells := 0, slots := 0, locals := 0 } : Room) (Option.some Jvm.ClassFile.FieldType.long) [.int p0, .int p1, .long p2] [] (fun (u : Unit) => []) (fun (r : Int64) (u : Unit) => Q r ) 0 0 := by
  refine ctL_of (own := RX7) (by decide +kernel) rfl (Nat.le_of_ble_eq_true rfl) (fun p e s m below meth c A C => ?_)
  refine w_sub (lv' := [(0, .int p0), (1, .int p1), (2, .long p2)]) C [0, 1, 2] rfl ?_
  unfold wp_X7_withExponent at hw
  refine w_iload_n C 0 dX7_withExponent_0 rfl ?_
  refine w_i2l C dX7_withExponent_1 ?_
  refine w_iload_n C 1 dX7_withExponent_2 rfl ?_
  refine w_lshl C dX7_withExponent_3 ?_
  refine w_lload_n C 2 dX7_withExponent_4 rfl ?_
  refine w_ladd C dX7_withExponent_5 ?_
  exact w_lret C () hw rfl (Nat.le_of_ble_eq_true rfl) (Nat.le_of_ble_eq_true rfl) dX7_withExponent_6
def blk_X7_floatBits_94   (Q : Int64 → Prop) (x2 : Int32) (x3 : Int32) (x4 : Int64) : Prop := wp_X7_withExponent (((126 : Int32) + x3) - x2) (23 : Int32) x4  (fun (r_104 : Int64) => Q r_104)
def blk_X7_floatBits_88   (Q : Int64 → Prop) (x2 : Int32) (x3 : Int32) (x4 : Int64) : Prop := ∀ x4_92 : Int64, x4_92 = (x4 + (1 : Int64)) → (blk_X7_floatBits_94   Q x2 x3 x4_92)
def wp_X7_floatBits (p0 : Int64) (p1 : Int32)  (Q : Int64 → Prop) : Prop := (((0 : Int64) < p0 → (wp_J13_numberOfLeadingZeros_95d88 p0  (fun (r_11 : Int32) => ∀ x3_15 : Int32, x3_15 = ((63 : Int32) - r_11) → ∀ x4_26 : Int64, x4_26 = (p0 <<< (((if (0 : Int32) < ((23 : Int32) - x3_15) then ((23 : Int32) - x3_15) else (0 : Int32))).toInt64 &&& 63)) → ((x3_15 ≤ (23 : Int32) → ((blk_X7_floatBits_94   Q p1 x3_15 x4_26))) ∧ (¬ x3_15 ≤ (23 : Int32) → (∀ x6_38 : Int32, x6_38 = (x3_15 - (23 : Int32)) → ∀ x4_44 : Int64, x4_44 = (p0 >>> ((x6_38).toInt64 &&& 63)) → ∀ x7_53 : Int64, x7_53 = (p0 - (x4_44 <<< ((x6_38).toInt64 &&& 63))) → ∀ x9_61 : Int64, x9_61 = ((1 : Int64) <<< (((x6_38 - (1 : Int32))).toInt64 &&& 63)) → ((x9_61 < x7_53 → ((blk_X7_floatBits_88   Q p1 x3_15 x4_44))) ∧ (¬ x9_61 < x7_53 → (((¬ x7_53 = x9_61 → ((blk_X7_floatBits_94   Q p1 x3_15 x4_44))) ∧ (x7_53 = x9_61 → (((¬ (x4_44 &&& (1 : Int64)) = (1 : Int64) → ((blk_X7_floatBits_94   Q p1 x3_15 x4_44))) ∧ ((x4_44 &&& (1 : Int64)) = (1 : Int64) → ((blk_X7_floatBits_88   Q p1 x3_15 x4_44)))))))))))))))) ∧ (¬ (0 : Int64) < p0 → (Q (0 : Int64))))
set_option maxHeartbeats 4000000 in
set_option maxRecDepth 100000 in
theorem wk_X7_floatBits_94 {p : Program} {l : Launch} {e : Env} {s : State} {m : MethodId} {args : Array Value} {below : List Frame} {meth : Method} {c : Code} {D : va_G} {cB cI cJ cL cS : ClassId} {T : Nat × Nat × Nat × Nat} {A : Nat → Prop}   {Q : Int64 → Prop} (C : Cq p s m args meth c D (Z5 cB cI cJ cL cS) T A cX7_floatBits RX7 11 (Option.some Jvm.ClassFile.FieldType.long)) {x2 : Int32} {x3 : Int32} {x4 : Int64}  (hw : blk_X7_floatBits_94   Q x2 x3 x4) : ww p l e ({ frames := 2, cells := 0, slots := 0, locals := 43 } : Room) s m args below meth c D A 11 (MQ below (va_Ql (fun (r : Int64) (u : Unit) => Q r ) (OutP D (fun (u : Unit) => [])) A) args s 0 0 A) 0 0 [] 94 [(2, .int x2), (3, .int x3), (4, .long x4)] [] := by
  unfold blk_X7_floatBits_94 at hw
  refine w_bipush C (v := (126 : Int32)) dX7_floatBits_94 (by decide) ?_
  refine w_iload_n C 1 dX7_floatBits_96 rfl ?_
  refine w_iadd C dX7_floatBits_97 ?_
  refine w_iload_n C 0 dX7_floatBits_98 rfl ?_
  refine w_isub C dX7_floatBits_99 ?_
  refine w_bipush C (v := (23 : Int32)) dX7_floatBits_100 (by decide) ?_
  refine w_lload C 2 dX7_floatBits_102 rfl ?_
  refine w_callSL C (c_X7_withExponent hw) f_X7_withExponent k_712 rfl ⟨Nat.le_of_ble_eq_true rfl, Nat.le_of_ble_eq_true rfl⟩ rfl rfl ⟨Nat.le_of_ble_eq_true rfl, Nat.le_of_ble_eq_true rfl⟩ rfl (Nat.le_of_ble_eq_true rfl) dX7_floatBits_104 (fun r_104 u_104 hw => ?_)
  try dsimp only at hw
  exact w_lret C () hw rfl (Nat.le_of_ble_eq_true rfl) (Nat.le_of_ble_eq_true rfl) dX7_floatBits_107
set_option maxHeartbeats 4000000 in
set_option maxRecDepth 100000 in
theorem wk_X7_floatBits_88 {p : Program} {l : Launch} {e : Env} {s : State} {m : MethodId} {args : Array Value} {below : List Frame} {meth : Method} {c : Code} {D : va_G} {cB cI cJ cL cS : ClassId} {T : Nat × Nat × Nat × Nat} {A : Nat → Prop}   {Q : Int64 → Prop} (C : Cq p s m args meth c D (Z5 cB cI cJ cL cS) T A cX7_floatBits RX7 11 (Option.some Jvm.ClassFile.FieldType.long)) {x2 : Int32} {x3 : Int32} {x4 : Int64}  (hw : blk_X7_floatBits_88   Q x2 x3 x4) : ww p l e ({ frames := 2, cells := 0, slots := 0, locals := 43 } : Room) s m args below meth c D A 11 (MQ below (va_Ql (fun (r : Int64) (u : Unit) => Q r ) (OutP D (fun (u : Unit) => [])) A) args s 0 0 A) 0 0 [] 88 [(2, .int x2), (3, .int x3), (4, .long x4)] [] := by
  unfold blk_X7_floatBits_88 at hw
  refine w_lload C 2 dX7_floatBits_88 rfl ?_
  refine w_lconst C (v := (1 : Int64)) dX7_floatBits_90 (by decide) ?_
  refine w_ladd C dX7_floatBits_91 ?_
  refine w_lstore C (fun x4_92 => [(4, .long x4_92), (2, .int x2), (3, .int x3)]) dX7_floatBits_92 (by decide) (fun _ => rfl) (fun x4_92 e_x4_92 => ?_)
  replace hw := hw x4_92 e_x4_92
  refine w_sub (lv' := [(2, .int x2), (3, .int x3), (4, .long x4_92)]) C [1, 2, 0] rfl ?_
  exact wk_X7_floatBits_94 C  hw
set_option maxHeartbeats 4000000 in
set_option maxRecDepth 100000 in
theorem c_X7_floatBits {l : Launch} {D : va_G} {cB cI cJ cL cS : ClassId} {T : Nat × Nat × Nat × Nat}  {p0 : Int64} {p1 : Int32}  {Q : Int64 → Prop} (hw : wp_X7_floatBits p0 p1  Q) : CtL l D (Z5 cB cI cJ cL cS) T yX7_floatBits cX7_floatBits 11 ({ frames := 2, cells := 0, slots := 0, locals := 43 } : Room) (Option.some Jvm.ClassFile.FieldType.long) [.long p0, .int p1] [] (fun (u : Unit) => []) (fun (r : Int64) (u : Unit) => Q r ) 0 0 := by
  refine ctL_of (own := RX7) (by decide +kernel) rfl (Nat.le_of_ble_eq_true rfl) (fun p e s m below meth c A C => ?_)
  refine w_sub (lv' := [(0, .long p0), (2, .int p1)]) C [0, 1] rfl ?_
  unfold wp_X7_floatBits at hw
  refine w_lload_n C 0 dX7_floatBits_0 rfl ?_
  refine w_lconst C (v := (0 : Int64)) dX7_floatBits_1 (by decide) ?_
  refine w_lcmp_gt C 3 8 rfl (by decide) dX7_floatBits_2 dX7_floatBits_3 (fun c_2 => ?_) (fun c_2 => ?_)
  · replace hw := hw.1 c_2
    refine w_bipush C (v := (63 : Int32)) dX7_floatBits_8 (by decide) ?_
    refine w_lload_n C 0 dX7_floatBits_10 rfl ?_
    refine w_callSI C (c_J13_numberOfLeadingZeros_95d88 hw) f_J13_numberOfLeadingZeros_95d88 k_366 rfl ⟨Nat.le_of_ble_eq_true rfl, Nat.le_of_ble_eq_true rfl⟩ rfl rfl ⟨Nat.le_of_ble_eq_true rfl, Nat.le_of_ble_eq_true rfl⟩ rfl (Nat.le_of_ble_eq_true rfl) dX7_floatBits_11 (fun r_11 u_11 hw => ?_)
    try dsimp only at hw
    refine w_isub C dX7_floatBits_14 ?_
    refine w_istore_n C (fun x3_15 => [(3, .int x3_15), (0, .long p0), (2, .int p1)]) dX7_floatBits_15 (by decide) (fun _ => rfl) (fun x3_15 e_x3_15 => ?_)
    replace hw := hw x3_15 e_x3_15
    refine w_lload_n C 1 dX7_floatBits_16 rfl ?_
    refine w_iconst C (v := (0 : Int32)) dX7_floatBits_17 (by decide) ?_
    refine w_bipush C (v := (23 : Int32)) dX7_floatBits_18 (by decide) ?_
    refine w_iload_n C 0 dX7_floatBits_20 rfl ?_
    refine w_isub C dX7_floatBits_21 ?_
    refine w_imax C k_373 f_imax.1 f_imax.2.1 f_imax.2.2 (Nat.le_of_ble_eq_true rfl) (Nat.le_of_ble_eq_true rfl) (Nat.le_of_ble_eq_true rfl) (Nat.le_of_ble_eq_true rfl) dX7_floatBits_22 ?_
    refine w_lshl C dX7_floatBits_25 ?_
    refine w_lstore C (fun x4_26 => [(4, .long x4_26), (3, .int x3_15), (0, .long p0), (2, .int p1)]) dX7_floatBits_26 (by decide) (fun _ => rfl) (fun x4_26 e_x4_26 => ?_)
    replace hw := hw x4_26 e_x4_26
    refine w_iload_n C 1 dX7_floatBits_28 rfl ?_
    refine w_bipush C (v := (23 : Int32)) dX7_floatBits_29 (by decide) ?_
    refine w_icmp_le C 94 (by decide) dX7_floatBits_31 (fun c_31 => ?_) (fun c_31 => ?_)
    · replace hw := hw.1 c_31
      refine w_sub (lv' := [(2, .int p1), (3, .int x3_15), (4, .long x4_26)]) C [3, 1, 0] rfl ?_
      exact wk_X7_floatBits_94 C  hw
    · replace hw := hw.2 c_31
      refine w_iload_n C 1 dX7_floatBits_34 rfl ?_
      refine w_bipush C (v := (23 : Int32)) dX7_floatBits_35 (by decide) ?_
      refine w_isub C dX7_floatBits_37 ?_
      refine w_istore C (fun x6_38 => [(6, .int x6_38), (4, .long x4_26), (3, .int x3_15), (0, .long p0), (2, .int p1)]) dX7_floatBits_38 (by decide) (fun _ => rfl) (fun x6_38 e_x6_38 => ?_)
      replace hw := hw x6_38 e_x6_38
      refine w_lload_n C 3 dX7_floatBits_40 rfl ?_
      refine w_iload C 0 dX7_floatBits_41 rfl ?_
      refine w_lshr C dX7_floatBits_43 ?_
      refine w_lstore C (fun x4_44 => [(4, .long x4_44), (6, .int x6_38), (3, .int x3_15), (0, .long p0), (2, .int p1)]) dX7_floatBits_44 (by decide) (fun _ => rfl) (fun x4_44 e_x4_44 => ?_)
      replace hw := hw x4_44 e_x4_44
      refine w_lload_n C 3 dX7_floatBits_46 rfl ?_
      refine w_lload C 0 dX7_floatBits_47 rfl ?_
      refine w_iload C 1 dX7_floatBits_49 rfl ?_
      refine w_lshl C dX7_floatBits_51 ?_
      refine w_lsub C dX7_floatBits_52 ?_
      refine w_lstore C (fun x7_53 => [(7, .long x7_53), (4, .long x4_44), (6, .int x6_38), (3, .int x3_15), (0, .long p0), (2, .int p1)]) dX7_floatBits_53 (by decide) (fun _ => rfl) (fun x7_53 e_x7_53 => ?_)
      replace hw := hw x7_53 e_x7_53
      refine w_lconst C (v := (1 : Int64)) dX7_floatBits_55 (by decide) ?_
      refine w_iload C 2 dX7_floatBits_56 rfl ?_
      refine w_iconst C (v := (1 : Int32)) dX7_floatBits_58 (by decide) ?_
      refine w_isub C dX7_floatBits_59 ?_
      refine w_lshl C dX7_floatBits_60 ?_
      refine w_lstore C (fun x9_61 => [(9, .long x9_61), (7, .long x7_53), (4, .long x4_44), (6, .int x6_38), (3, .int x3_15), (0, .long p0), (2, .int p1)]) dX7_floatBits_61 (by decide) (fun _ => rfl) (fun x9_61 e_x9_61 => ?_)
      replace hw := hw x9_61 e_x9_61
      refine w_lload C 1 dX7_floatBits_63 rfl ?_
      refine w_lload C 0 dX7_floatBits_65 rfl ?_
      refine w_lcmp_gt C 68 88 rfl (by decide) dX7_floatBits_67 dX7_floatBits_68 (fun c_67 => ?_) (fun c_67 => ?_)
      · replace hw := hw.1 c_67
        refine w_sub (lv' := [(2, .int p1), (3, .int x3_15), (4, .long x4_44)]) C [6, 4, 2] rfl ?_
        exact wk_X7_floatBits_88 C  hw
      · replace hw := hw.2 c_67
        refine w_lload C 1 dX7_floatBits_71 rfl ?_
        refine w_lload C 0 dX7_floatBits_73 rfl ?_
        refine w_lcmp_ne C 76 94 rfl (by decide) dX7_floatBits_75 dX7_floatBits_76 (fun c_75 => ?_) (fun c_75 => ?_)
        · replace hw := hw.1 c_75
          refine w_sub (lv' := [(2, .int p1), (3, .int x3_15), (4, .long x4_44)]) C [6, 4, 2] rfl ?_
          exact wk_X7_floatBits_94 C  hw
        · replace hw := hw.2 c_75
          refine w_lload C 2 dX7_floatBits_79 rfl ?_
          refine w_lconst C (v := (1 : Int64)) dX7_floatBits_81 (by decide) ?_
          refine w_land C dX7_floatBits_82 ?_
          refine w_lconst C (v := (1 : Int64)) dX7_floatBits_83 (by decide) ?_
          refine w_lcmp_ne C 85 94 rfl (by decide) dX7_floatBits_84 dX7_floatBits_85 (fun c_84 => ?_) (fun c_84 => ?_)
          · replace hw := hw.1 c_84
            refine w_sub (lv' := [(2, .int p1), (3, .int x3_15), (4, .long x4_44)]) C [6, 4, 2] rfl ?_
            exact wk_X7_floatBits_94 C  hw
          · replace hw := hw.2 c_84
            refine w_sub (lv' := [(2, .int p1), (3, .int x3_15), (4, .long x4_44)]) C [6, 4, 2] rfl ?_
            exact wk_X7_floatBits_88 C  hw
  · replace hw := hw.2 c_2
    refine w_lconst C (v := (0 : Int64)) dX7_floatBits_6 (by decide) ?_
    exact w_lret C () hw rfl (Nat.le_of_ble_eq_true rfl) (Nat.le_of_ble_eq_true rfl) dX7_floatBits_7
def wp_X7_doubleBits (p0 : Int64) (p1 : Int32)  (Q : Int64 → Prop) : Prop := (((0 : Int64) < p0 → (wp_J13_numberOfLeadingZeros_95d88 p0  (fun (r_11 : Int32) => ∀ x3_15 : Int32, x3_15 = ((63 : Int32) - r_11) → wp_X7_withExponent (((1022 : Int32) + x3_15) - p1) (52 : Int32) (p0 <<< (((if (0 : Int32) < ((52 : Int32) - x3_15) then ((52 : Int32) - x3_15) else (0 : Int32))).toInt64 &&& 63))  (fun (r_35 : Int64) => Q r_35)))) ∧ (¬ (0 : Int64) < p0 → (Q (0 : Int64))))
set_option maxHeartbeats 4000000 in
set_option maxRecDepth 100000 in
theorem c_X7_doubleBits {l : Launch} {D : va_G} {cB cI cJ cL cS : ClassId} {T : Nat × Nat × Nat × Nat}  {p0 : Int64} {p1 : Int32}  {Q : Int64 → Prop} (hw : wp_X7_doubleBits p0 p1  Q) : CtL l D (Z5 cB cI cJ cL cS) T yX7_doubleBits cX7_doubleBits 4 ({ frames := 2, cells := 0, slots := 0, locals := 43 } : Room) (Option.some Jvm.ClassFile.FieldType.long) [.long p0, .int p1] [] (fun (u : Unit) => []) (fun (r : Int64) (u : Unit) => Q r ) 0 0 := by
  refine ctL_of (own := RX7) (by decide +kernel) rfl (Nat.le_of_ble_eq_true rfl) (fun p e s m below meth c A C => ?_)
  refine w_sub (lv' := [(0, .long p0), (2, .int p1)]) C [0, 1] rfl ?_
  unfold wp_X7_doubleBits at hw
  refine w_lload_n C 0 dX7_doubleBits_0 rfl ?_
  refine w_lconst C (v := (0 : Int64)) dX7_doubleBits_1 (by decide) ?_
  refine w_lcmp_gt C 3 8 rfl (by decide) dX7_doubleBits_2 dX7_doubleBits_3 (fun c_2 => ?_) (fun c_2 => ?_)
  · replace hw := hw.1 c_2
    refine w_bipush C (v := (63 : Int32)) dX7_doubleBits_8 (by decide) ?_
    refine w_lload_n C 0 dX7_doubleBits_10 rfl ?_
    refine w_callSI C (c_J13_numberOfLeadingZeros_95d88 hw) f_J13_numberOfLeadingZeros_95d88 k_366 rfl ⟨Nat.le_of_ble_eq_true rfl, Nat.le_of_ble_eq_true rfl⟩ rfl rfl ⟨Nat.le_of_ble_eq_true rfl, Nat.le_of_ble_eq_true rfl⟩ rfl (Nat.le_of_ble_eq_true rfl) dX7_doubleBits_11 (fun r_11 u_11 hw => ?_)
    try dsimp only at hw
    refine w_isub C dX7_doubleBits_14 ?_
    refine w_istore_n C (fun x3_15 => [(3, .int x3_15), (0, .long p0), (2, .int p1)]) dX7_doubleBits_15 (by decide) (fun _ => rfl) (fun x3_15 e_x3_15 => ?_)
    replace hw := hw x3_15 e_x3_15
    refine w_sipush C (v := (1022 : Int32)) dX7_doubleBits_16 (by decide) ?_
    refine w_iload_n C 0 dX7_doubleBits_19 rfl ?_
    refine w_iadd C dX7_doubleBits_20 ?_
    refine w_iload_n C 2 dX7_doubleBits_21 rfl ?_
    refine w_isub C dX7_doubleBits_22 ?_
    refine w_bipush C (v := (52 : Int32)) dX7_doubleBits_23 (by decide) ?_
    refine w_lload_n C 1 dX7_doubleBits_25 rfl ?_
    refine w_iconst C (v := (0 : Int32)) dX7_doubleBits_26 (by decide) ?_
    refine w_bipush C (v := (52 : Int32)) dX7_doubleBits_27 (by decide) ?_
    refine w_iload_n C 0 dX7_doubleBits_29 rfl ?_
    refine w_isub C dX7_doubleBits_30 ?_
    refine w_imax C k_373 f_imax.1 f_imax.2.1 f_imax.2.2 (Nat.le_of_ble_eq_true rfl) (Nat.le_of_ble_eq_true rfl) (Nat.le_of_ble_eq_true rfl) (Nat.le_of_ble_eq_true rfl) dX7_doubleBits_31 ?_
    refine w_lshl C dX7_doubleBits_34 ?_
    refine w_callSL C (c_X7_withExponent hw) f_X7_withExponent k_712 rfl ⟨Nat.le_of_ble_eq_true rfl, Nat.le_of_ble_eq_true rfl⟩ rfl rfl ⟨Nat.le_of_ble_eq_true rfl, Nat.le_of_ble_eq_true rfl⟩ rfl (Nat.le_of_ble_eq_true rfl) dX7_doubleBits_35 (fun r_35 u_35 hw => ?_)
    try dsimp only at hw
    exact w_lret C () hw rfl (Nat.le_of_ble_eq_true rfl) (Nat.le_of_ble_eq_true rfl) dX7_doubleBits_38
  · replace hw := hw.2 c_2
    refine w_lconst C (v := (0 : Int64)) dX7_doubleBits_6 (by decide) ?_
    exact w_lret C () hw rfl (Nat.le_of_ble_eq_true rfl) (Nat.le_of_ble_eq_true rfl) dX7_doubleBits_7
def blk_X7_told_35   (Q : Int64 → Prop) (x2 : Int64) (x4 : Int32) : Prop := wp_X7_floatBits x2 x4  (fun (r_38 : Int64) => Q r_38)
def blk_X7_told_58   (Q : Int64 → Prop) (x2 : Int64) (x4 : Int32) : Prop := wp_X7_doubleBits x2 x4  (fun (r_61 : Int64) => Q r_61)
def blk_X7_told_42   (Q : Int64 → Prop) (x0 : Int32) (x1 : Int32) (x2 : Int64) (x4 : Int32) : Prop := ((x1 = (8 : Int32) → ((blk_X7_told_58   Q x2 x4))) ∧ (¬ x1 = (8 : Int32) → (((¬ x1 = 0 → (Q x2)) ∧ (x1 = 0 → (((¬ x0 = (8 : Int32) → (Q x2)) ∧ (x0 = (8 : Int32) → ((blk_X7_told_58   Q x2 x4))))))))))
def blk_X7_told_17   (Q : Int64 → Prop) (x0 : Int32) (x1 : Int32) (x2 : Int64) (k0 : Int32) : Prop := ∀ x4_17 : Int32, x4_17 = k0 → ((x1 = (7 : Int32) → ((blk_X7_told_35   Q x2 x4_17))) ∧ (¬ x1 = (7 : Int32) → (((¬ x1 = 0 → ((blk_X7_told_42   Q x0 x1 x2 x4_17))) ∧ (x1 = 0 → (((¬ x0 = (7 : Int32) → ((blk_X7_told_42   Q x0 x1 x2 x4_17))) ∧ (x0 = (7 : Int32) → ((blk_X7_told_35   Q x2 x4_17))))))))))
def blk_X7_told_12   (Q : Int64 → Prop) (x0 : Int32) (x1 : Int32) (x2 : Int64) : Prop := (blk_X7_told_17   Q x0 x1 x2 (4 : Int32))
def wp_X7_told (p0 : Int32) (p1 : Int32) (p2 : Int64)  (Q : Int64 → Prop) : Prop := ((p0 = (7 : Int32) → ((blk_X7_told_12   Q p0 p1 p2))) ∧ (¬ p0 = (7 : Int32) → (((¬ p0 = (8 : Int32) → ((blk_X7_told_17   Q p0 p1 p2 (0 : Int32)))) ∧ (p0 = (8 : Int32) → ((blk_X7_told_12   Q p0 p1 p2)))))))
set_option maxHeartbeats 4000000 in
set_option maxRecDepth 100000 in
theorem wk_X7_told_35 {p : Program} {l : Launch} {e : Env} {s : State} {m : MethodId} {args : Array Value} {below : List Frame} {meth : Method} {c : Code} {D : va_G} {cB cI cJ cL cS : ClassId} {T : Nat × Nat × Nat × Nat} {A : Nat → Prop}   {Q : Int64 → Prop} (C : Cq p s m args meth c D (Z5 cB cI cJ cL cS) T A cX7_told RX7 5 (Option.some Jvm.ClassFile.FieldType.long)) {x2 : Int64} {x4 : Int32}  (hw : blk_X7_told_35   Q x2 x4) : ww p l e ({ frames := 3, cells := 0, slots := 0, locals := 73 } : Room) s m args below meth c D A 5 (MQ below (va_Ql (fun (r : Int64) (u : Unit) => Q r ) (OutP D (fun (u : Unit) => [])) A) args s 0 0 A) 0 0 [] 35 [(2, .long x2), (4, .int x4)] [] := by
  unfold blk_X7_told_35 at hw
  refine w_lload_n C 0 dX7_told_35 rfl ?_
  refine w_iload C 1 dX7_told_36 rfl ?_
  refine w_callSL C (c_X7_floatBits hw) f_X7_floatBits k_709 rfl ⟨Nat.le_of_ble_eq_true rfl, Nat.le_of_ble_eq_true rfl⟩ rfl rfl ⟨Nat.le_of_ble_eq_true rfl, Nat.le_of_ble_eq_true rfl⟩ rfl (Nat.le_of_ble_eq_true rfl) dX7_told_38 (fun r_38 u_38 hw => ?_)
  try dsimp only at hw
  exact w_lret C () hw rfl (Nat.le_of_ble_eq_true rfl) (Nat.le_of_ble_eq_true rfl) dX7_told_41
set_option maxHeartbeats 4000000 in
set_option maxRecDepth 100000 in
theorem wk_X7_told_58 {p : Program} {l : Launch} {e : Env} {s : State} {m : MethodId} {args : Array Value} {below : List Frame} {meth : Method} {c : Code} {D : va_G} {cB cI cJ cL cS : ClassId} {T : Nat × Nat × Nat × Nat} {A : Nat → Prop}   {Q : Int64 → Prop} (C : Cq p s m args meth c D (Z5 cB cI cJ cL cS) T A cX7_told RX7 5 (Option.some Jvm.ClassFile.FieldType.long)) {x2 : Int64} {x4 : Int32}  (hw : blk_X7_told_58   Q x2 x4) : ww p l e ({ frames := 3, cells := 0, slots := 0, locals := 73 } : Room) s m args below meth c D A 5 (MQ below (va_Ql (fun (r : Int64) (u : Unit) => Q r ) (OutP D (fun (u : Unit) => [])) A) args s 0 0 A) 0 0 [] 58 [(2, .long x2), (4, .int x4)] [] := by
  unfold blk_X7_told_58 at hw
  refine w_lload_n C 0 dX7_told_58 rfl ?_
  refine w_iload C 1 dX7_told_59 rfl ?_
  refine w_callSL C (c_X7_doubleBits hw) f_X7_doubleBits k_715 rfl ⟨Nat.le_of_ble_eq_true rfl, Nat.le_of_ble_eq_true rfl⟩ rfl rfl ⟨Nat.le_of_ble_eq_true rfl, Nat.le_of_ble_eq_true rfl⟩ rfl (Nat.le_of_ble_eq_true rfl) dX7_told_61 (fun r_61 u_61 hw => ?_)
  try dsimp only at hw
  exact w_lret C () hw rfl (Nat.le_of_ble_eq_true rfl) (Nat.le_of_ble_eq_true rfl) dX7_told_64
set_option maxHeartbeats 4000000 in
set_option maxRecDepth 100000 in
theorem wk_X7_told_42 {p : Program} {l : Launch} {e : Env} {s : State} {m : MethodId} {args : Array Value} {below : List Frame} {meth : Method} {c : Code} {D : va_G} {cB cI cJ cL cS : ClassId} {T : Nat × Nat × Nat × Nat} {A : Nat → Prop}   {Q : Int64 → Prop} (C : Cq p s m args meth c D (Z5 cB cI cJ cL cS) T A cX7_told RX7 5 (Option.some Jvm.ClassFile.FieldType.long)) {x0 : Int32} {x1 : Int32} {x2 : Int64} {x4 : Int32}  (hw : blk_X7_told_42   Q x0 x1 x2 x4) : ww p l e ({ frames := 3, cells := 0, slots := 0, locals := 73 } : Room) s m args below meth c D A 5 (MQ below (va_Ql (fun (r : Int64) (u : Unit) => Q r ) (OutP D (fun (u : Unit) => [])) A) args s 0 0 A) 0 0 [] 42 [(0, .int x0), (1, .int x1), (2, .long x2), (4, .int x4)] [] := by
  unfold blk_X7_told_42 at hw
  refine w_iload_n C 1 dX7_told_42 rfl ?_
  refine w_bipush C (v := (8 : Int32)) dX7_told_43 (by decide) ?_
  refine w_icmp_eq C 58 (by decide) dX7_told_45 (fun c_45 => ?_) (fun c_45 => ?_)
  · replace hw := hw.1 c_45
    refine w_sub (lv' := [(2, .long x2), (4, .int x4)]) C [2, 3] rfl ?_
    exact wk_X7_told_58 C  hw
  · replace hw := hw.2 c_45
    refine w_iload_n C 1 dX7_told_48 rfl ?_
    refine w_if_ne C 65 (by decide) dX7_told_49 (fun c_49 => ?_) (fun c_49 => ?_)
    · replace hw := hw.1 c_49
      refine w_lload_n C 2 dX7_told_65 rfl ?_
      exact w_lret C () hw rfl (Nat.le_of_ble_eq_true rfl) (Nat.le_of_ble_eq_true rfl) dX7_told_66
    · replace hw := hw.2 c_49
      refine w_iload_n C 0 dX7_told_52 rfl ?_
      refine w_bipush C (v := (8 : Int32)) dX7_told_53 (by decide) ?_
      refine w_icmp_ne C 65 (by decide) dX7_told_55 (fun c_55 => ?_) (fun c_55 => ?_)
      · replace hw := hw.1 c_55
        refine w_lload_n C 2 dX7_told_65 rfl ?_
        exact w_lret C () hw rfl (Nat.le_of_ble_eq_true rfl) (Nat.le_of_ble_eq_true rfl) dX7_told_66
      · replace hw := hw.2 c_55
        refine w_sub (lv' := [(2, .long x2), (4, .int x4)]) C [2, 3] rfl ?_
        exact wk_X7_told_58 C  hw
set_option maxHeartbeats 4000000 in
set_option maxRecDepth 100000 in
theorem wk_X7_told_17 {p : Program} {l : Launch} {e : Env} {s : State} {m : MethodId} {args : Array Value} {below : List Frame} {meth : Method} {c : Code} {D : va_G} {cB cI cJ cL cS : ClassId} {T : Nat × Nat × Nat × Nat} {A : Nat → Prop}   {Q : Int64 → Prop} (C : Cq p s m args meth c D (Z5 cB cI cJ cL cS) T A cX7_told RX7 5 (Option.some Jvm.ClassFile.FieldType.long)) {x0 : Int32} {x1 : Int32} {x2 : Int64} {k0 : Int32}  (hw : blk_X7_told_17   Q x0 x1 x2 k0) : ww p l e ({ frames := 3, cells := 0, slots := 0, locals := 73 } : Room) s m args below meth c D A 5 (MQ below (va_Ql (fun (r : Int64) (u : Unit) => Q r ) (OutP D (fun (u : Unit) => [])) A) args s 0 0 A) 0 0 [] 17 [(0, .int x0), (1, .int x1), (2, .long x2)] [.int k0] := by
  unfold blk_X7_told_17 at hw
  refine w_istore C (fun x4_17 => [(4, .int x4_17), (0, .int x0), (1, .int x1), (2, .long x2)]) dX7_told_17 (by decide) (fun _ => rfl) (fun x4_17 e_x4_17 => ?_)
  replace hw := hw x4_17 e_x4_17
  refine w_iload_n C 2 dX7_told_19 rfl ?_
  refine w_bipush C (v := (7 : Int32)) dX7_told_20 (by decide) ?_
  refine w_icmp_eq C 35 (by decide) dX7_told_22 (fun c_22 => ?_) (fun c_22 => ?_)
  · replace hw := hw.1 c_22
    refine w_sub (lv' := [(2, .long x2), (4, .int x4_17)]) C [3, 0] rfl ?_
    exact wk_X7_told_35 C  hw
  · replace hw := hw.2 c_22
    refine w_iload_n C 2 dX7_told_25 rfl ?_
    refine w_if_ne C 42 (by decide) dX7_told_26 (fun c_26 => ?_) (fun c_26 => ?_)
    · replace hw := hw.1 c_26
      refine w_sub (lv' := [(0, .int x0), (1, .int x1), (2, .long x2), (4, .int x4_17)]) C [1, 2, 3, 0] rfl ?_
      exact wk_X7_told_42 C  hw
    · replace hw := hw.2 c_26
      refine w_iload_n C 1 dX7_told_29 rfl ?_
      refine w_bipush C (v := (7 : Int32)) dX7_told_30 (by decide) ?_
      refine w_icmp_ne C 42 (by decide) dX7_told_32 (fun c_32 => ?_) (fun c_32 => ?_)
      · replace hw := hw.1 c_32
        refine w_sub (lv' := [(0, .int x0), (1, .int x1), (2, .long x2), (4, .int x4_17)]) C [1, 2, 3, 0] rfl ?_
        exact wk_X7_told_42 C  hw
      · replace hw := hw.2 c_32
        refine w_sub (lv' := [(2, .long x2), (4, .int x4_17)]) C [3, 0] rfl ?_
        exact wk_X7_told_35 C  hw
set_option maxHeartbeats 4000000 in
set_option maxRecDepth 100000 in
theorem wk_X7_told_12 {p : Program} {l : Launch} {e : Env} {s : State} {m : MethodId} {args : Array Value} {below : List Frame} {meth : Method} {c : Code} {D : va_G} {cB cI cJ cL cS : ClassId} {T : Nat × Nat × Nat × Nat} {A : Nat → Prop}   {Q : Int64 → Prop} (C : Cq p s m args meth c D (Z5 cB cI cJ cL cS) T A cX7_told RX7 5 (Option.some Jvm.ClassFile.FieldType.long)) {x0 : Int32} {x1 : Int32} {x2 : Int64}  (hw : blk_X7_told_12   Q x0 x1 x2) : ww p l e ({ frames := 3, cells := 0, slots := 0, locals := 73 } : Room) s m args below meth c D A 5 (MQ below (va_Ql (fun (r : Int64) (u : Unit) => Q r ) (OutP D (fun (u : Unit) => [])) A) args s 0 0 A) 0 0 [] 12 [(0, .int x0), (1, .int x1), (2, .long x2)] [] := by
  unfold blk_X7_told_12 at hw
  refine w_iconst C (v := (4 : Int32)) dX7_told_12 (by decide) ?_
  refine w_goto C 17 (by decide) dX7_told_13 ?_
  refine w_sub (lv' := [(0, .int x0), (1, .int x1), (2, .long x2)]) C [0, 1, 2] rfl ?_
  exact wk_X7_told_17 C  hw
set_option maxHeartbeats 4000000 in
set_option maxRecDepth 100000 in
theorem c_X7_told {l : Launch} {D : va_G} {cB cI cJ cL cS : ClassId} {T : Nat × Nat × Nat × Nat}  {p0 : Int32} {p1 : Int32} {p2 : Int64}  {Q : Int64 → Prop} (hw : wp_X7_told p0 p1 p2  Q) : CtL l D (Z5 cB cI cJ cL cS) T yX7_told cX7_told 5 ({ frames := 3, cells := 0, slots := 0, locals := 73 } : Room) (Option.some Jvm.ClassFile.FieldType.long) [.int p0, .int p1, .long p2] [] (fun (u : Unit) => []) (fun (r : Int64) (u : Unit) => Q r ) 0 0 := by
  refine ctL_of (own := RX7) (by decide +kernel) rfl (Nat.le_of_ble_eq_true rfl) (fun p e s m below meth c A C => ?_)
  refine w_sub (lv' := [(0, .int p0), (1, .int p1), (2, .long p2)]) C [0, 1, 2] rfl ?_
  unfold wp_X7_told at hw
  refine w_iload_n C 0 dX7_told_0 rfl ?_
  refine w_bipush C (v := (7 : Int32)) dX7_told_1 (by decide) ?_
  refine w_icmp_eq C 12 (by decide) dX7_told_3 (fun c_3 => ?_) (fun c_3 => ?_)
  · replace hw := hw.1 c_3
    refine w_sub (lv' := [(0, .int p0), (1, .int p1), (2, .long p2)]) C [0, 1, 2] rfl ?_
    exact wk_X7_told_12 C  hw
  · replace hw := hw.2 c_3
    refine w_iload_n C 0 dX7_told_6 rfl ?_
    refine w_bipush C (v := (8 : Int32)) dX7_told_7 (by decide) ?_
    refine w_icmp_ne C 16 (by decide) dX7_told_9 (fun c_9 => ?_) (fun c_9 => ?_)
    · replace hw := hw.1 c_9
      refine w_iconst C (v := (0 : Int32)) dX7_told_16 (by decide) ?_
      refine w_sub (lv' := [(0, .int p0), (1, .int p1), (2, .long p2)]) C [0, 1, 2] rfl ?_
      exact wk_X7_told_17 C  hw
    · replace hw := hw.2 c_9
      refine w_sub (lv' := [(0, .int p0), (1, .int p1), (2, .long p2)]) C [0, 1, 2] rfl ?_
      exact wk_X7_told_12 C  hw
def blk_X7_isPokeHow_11   (Q : Int32 → Prop) (x0 : Int32) : Prop := ((x0 ≤ (10 : Int32) → (Q (0 : Int32))) ∧ (¬ x0 ≤ (10 : Int32) → ((((21 : Int32) < x0 → (Q (0 : Int32))) ∧ (¬ (21 : Int32) < x0 → (Q (1 : Int32)))))))
def wp_X7_isPokeHow (p0 : Int32)  (Q : Int32 → Prop) : Prop := ((p0 < (1 : Int32) → ((blk_X7_isPokeHow_11   Q p0))) ∧ (¬ p0 < (1 : Int32) → (((p0 ≤ (8 : Int32) → (Q (1 : Int32))) ∧ (¬ p0 ≤ (8 : Int32) → ((blk_X7_isPokeHow_11   Q p0)))))))
set_option maxHeartbeats 4000000 in
set_option maxRecDepth 100000 in
theorem wk_X7_isPokeHow_11 {p : Program} {l : Launch} {e : Env} {s : State} {m : MethodId} {args : Array Value} {below : List Frame} {meth : Method} {c : Code} {D : va_G} {cB cI cJ cL cS : ClassId} {T : Nat × Nat × Nat × Nat} {A : Nat → Prop}   {Q : Int32 → Prop} (C : Cq p s m args meth c D (Z5 cB cI cJ cL cS) T A cX7_isPokeHow RX7 1 (Option.some Jvm.ClassFile.FieldType.boolean)) {x0 : Int32}  (hw : blk_X7_isPokeHow_11   Q x0) : ww p l e ({ frames := 0, cells := 0, slots := 0, locals := 0 } : Room) s m args below meth c D A 1 (MQ below (va_Qi (fun (r : Int32) (u : Unit) => Q r ) (OutP D (fun (u : Unit) => [])) A) args s 0 0 A) 0 0 [] 11 [(0, .int x0)] [] := by
  unfold blk_X7_isPokeHow_11 at hw
  refine w_iload_n C 0 dX7_isPokeHow_11 rfl ?_
  refine w_bipush C (v := (10 : Int32)) dX7_isPokeHow_12 (by decide) ?_
  refine w_icmp_le C 27 (by decide) dX7_isPokeHow_14 (fun c_14 => ?_) (fun c_14 => ?_)
  · replace hw := hw.1 c_14
    refine w_iconst C (v := (0 : Int32)) dX7_isPokeHow_27 (by decide) ?_
    exact w_zret C () (Or.inl rfl) hw rfl (Nat.le_of_ble_eq_true rfl) (Nat.le_of_ble_eq_true rfl) dX7_isPokeHow_28
  · replace hw := hw.2 c_14
    refine w_iload_n C 0 dX7_isPokeHow_17 rfl ?_
    refine w_bipush C (v := (21 : Int32)) dX7_isPokeHow_18 (by decide) ?_
    refine w_icmp_gt C 27 (by decide) dX7_isPokeHow_20 (fun c_20 => ?_) (fun c_20 => ?_)
    · replace hw := hw.1 c_20
      refine w_iconst C (v := (0 : Int32)) dX7_isPokeHow_27 (by decide) ?_
      exact w_zret C () (Or.inl rfl) hw rfl (Nat.le_of_ble_eq_true rfl) (Nat.le_of_ble_eq_true rfl) dX7_isPokeHow_28
    · replace hw := hw.2 c_20
      refine w_iconst C (v := (1 : Int32)) dX7_isPokeHow_23 (by decide) ?_
      refine w_goto C 28 (by decide) dX7_isPokeHow_24 ?_
      exact w_zret C () (Or.inr rfl) hw rfl (Nat.le_of_ble_eq_true rfl) (Nat.le_of_ble_eq_true rfl) dX7_isPokeHow_28
set_option maxHeartbeats 4000000 in
set_option maxRecDepth 100000 in
theorem c_X7_isPokeHow {l : Launch} {D : va_G} {cB cI cJ cL cS : ClassId} {T : Nat × Nat × Nat × Nat}  {p0 : Int32}  {Q : Int32 → Prop} (hw : wp_X7_isPokeHow p0  Q) : CtI l D (Z5 cB cI cJ cL cS) T yX7_isPokeHow cX7_isPokeHow 1 ({ frames := 0, cells := 0, slots := 0, locals := 0 } : Room) (Option.some Jvm.ClassFile.FieldType.boolean) [.int p0] [] (fun (u : Unit) => []) (fun (r : Int32) (u : Unit) => Q r ) 0 0 := by
  refine ctI_of (own := RX7) (by decide +kernel) rfl (Nat.le_of_ble_eq_true rfl) (fun p e s m below meth c A C => ?_)
  refine w_sub (lv' := [(0, .int p0)]) C [0] rfl ?_
  unfold wp_X7_isPokeHow at hw
  refine w_iload_n C 0 dX7_isPokeHow_0 rfl ?_
  refine w_iconst C (v := (1 : Int32)) dX7_isPokeHow_1 (by decide) ?_
  refine w_icmp_lt C 11 (by decide) dX7_isPokeHow_2 (fun c_2 => ?_) (fun c_2 => ?_)
  · replace hw := hw.1 c_2
    refine w_sub (lv' := [(0, .int p0)]) C [0] rfl ?_
    exact wk_X7_isPokeHow_11 C  hw
  · replace hw := hw.2 c_2
    refine w_iload_n C 0 dX7_isPokeHow_5 rfl ?_
    refine w_bipush C (v := (8 : Int32)) dX7_isPokeHow_6 (by decide) ?_
    refine w_icmp_le C 23 (by decide) dX7_isPokeHow_8 (fun c_8 => ?_) (fun c_8 => ?_)
    · replace hw := hw.1 c_8
      refine w_iconst C (v := (1 : Int32)) dX7_isPokeHow_23 (by decide) ?_
      refine w_goto C 28 (by decide) dX7_isPokeHow_24 ?_
      exact w_zret C () (Or.inr rfl) hw rfl (Nat.le_of_ble_eq_true rfl) (Nat.le_of_ble_eq_true rfl) dX7_isPokeHow_28
    · replace hw := hw.2 c_8
      refine w_sub (lv' := [(0, .int p0)]) C [0] rfl ?_
      exact wk_X7_isPokeHow_11 C  hw
def wp_X7_isMark (p0 : Int32)  (Q : Int32 → Prop) : Prop := ((p0 < 0 → (Q (0 : Int32))) ∧ (¬ p0 < 0 → ((((100 : Int32) < p0 → (Q (0 : Int32))) ∧ (¬ (100 : Int32) < p0 → (Q (1 : Int32)))))))
set_option maxHeartbeats 4000000 in
set_option maxRecDepth 100000 in
theorem c_X7_isMark {l : Launch} {D : va_G} {cB cI cJ cL cS : ClassId} {T : Nat × Nat × Nat × Nat}  {p0 : Int32}  {Q : Int32 → Prop} (hw : wp_X7_isMark p0  Q) : CtI l D (Z5 cB cI cJ cL cS) T yX7_isMark cX7_isMark 1 ({ frames := 0, cells := 0, slots := 0, locals := 0 } : Room) (Option.some Jvm.ClassFile.FieldType.boolean) [.int p0] [] (fun (u : Unit) => []) (fun (r : Int32) (u : Unit) => Q r ) 0 0 := by
  refine ctI_of (own := RX7) (by decide +kernel) rfl (Nat.le_of_ble_eq_true rfl) (fun p e s m below meth c A C => ?_)
  refine w_sub (lv' := [(0, .int p0)]) C [0] rfl ?_
  unfold wp_X7_isMark at hw
  refine w_iload_n C 0 dX7_isMark_0 rfl ?_
  refine w_if_lt C 14 (by decide) dX7_isMark_1 (fun c_1 => ?_) (fun c_1 => ?_)
  · replace hw := hw.1 c_1
    refine w_iconst C (v := (0 : Int32)) dX7_isMark_14 (by decide) ?_
    exact w_zret C () (Or.inl rfl) hw rfl (Nat.le_of_ble_eq_true rfl) (Nat.le_of_ble_eq_true rfl) dX7_isMark_15
  · replace hw := hw.2 c_1
    refine w_iload_n C 0 dX7_isMark_4 rfl ?_
    refine w_bipush C (v := (100 : Int32)) dX7_isMark_5 (by decide) ?_
    refine w_icmp_gt C 14 (by decide) dX7_isMark_7 (fun c_7 => ?_) (fun c_7 => ?_)
    · replace hw := hw.1 c_7
      refine w_iconst C (v := (0 : Int32)) dX7_isMark_14 (by decide) ?_
      exact w_zret C () (Or.inl rfl) hw rfl (Nat.le_of_ble_eq_true rfl) (Nat.le_of_ble_eq_true rfl) dX7_isMark_15
    · replace hw := hw.2 c_7
      refine w_iconst C (v := (1 : Int32)) dX7_isMark_10 (by decide) ?_
      refine w_goto C 15 (by decide) dX7_isMark_11 ?_
      exact w_zret C () (Or.inr rfl) hw rfl (Nat.le_of_ble_eq_true rfl) (Nat.le_of_ble_eq_true rfl) dX7_isMark_15
def blk_X7_refusal_GIVES_46   (Q : Int32 → Prop) (k0 : Int32) : Prop := ∀ x4_46 : Int32, x4_46 = k0 → ((x4_46 = 0 → (Q (-3 : Int32))) ∧ (¬ x4_46 = 0 → (Q (0 : Int32))))
def blk_X7_refusal_GIVES_45   (Q : Int32 → Prop)  : Prop := (blk_X7_refusal_GIVES_46   Q (0 : Int32))
def wp_X7_refusal_GIVES (p1 : Int32) (p2 : Int32) (p3 : Int32)  (Q : Int32 → Prop) : Prop := ((¬ p1 = 0 → (((p2 < 0 → (Q (-2 : Int32))) ∧ (¬ p2 < 0 → (((p2 < (16 : Int32) → (((p1 ≤ 0 → ((blk_X7_refusal_GIVES_45   Q ))) ∧ (¬ p1 ≤ 0 → ((((13 : Int32) ≤ p1 → ((blk_X7_refusal_GIVES_45   Q ))) ∧ (¬ (13 : Int32) ≤ p1 → ((vp_in p1 13) ∧ ((¬ (((stG.getD (p1).toNatClampNeg 0) >>> (p3 &&& 31)) &&& (1 : Int32)) = (1 : Int32) → ((blk_X7_refusal_GIVES_45   Q ))) ∧ ((((stG.getD (p1).toNatClampNeg 0) >>> (p3 &&& 31)) &&& (1 : Int32)) = (1 : Int32) → ((blk_X7_refusal_GIVES_46   Q (1 : Int32))))))))))))) ∧ (¬ p2 < (16 : Int32) → (Q (-2 : Int32))))))))) ∧ (p1 = 0 → (Q (-4 : Int32))))
set_option maxHeartbeats 4000000 in
set_option maxRecDepth 100000 in
theorem wk_X7_refusal_GIVES_46 {p : Program} {l : Launch} {e : Env} {s : State} {m : MethodId} {args : Array Value} {below : List Frame} {meth : Method} {c : Code} {D : va_G} {cB cI cJ cL cS : ClassId} {T : Nat × Nat × Nat × Nat} {A : Nat → Prop}   {Q : Int32 → Prop} (C : Cq p s m args meth c D (Z5 cB cI cJ cL cS) T A cX7_refusal RX7 5 (Option.some Jvm.ClassFile.FieldType.int)) {k0 : Int32}  (hw : blk_X7_refusal_GIVES_46   Q k0) : ww p l e ({ frames := 0, cells := 0, slots := 0, locals := 0 } : Room) s m args below meth c D A 5 (MQ below (va_Qi (fun (r : Int32) (u : Unit) => Q r ) (OutP D (fun (u : Unit) => [])) A) args s 0 0 A) 0 0 [] 46 [] [.int k0] := by
  unfold blk_X7_refusal_GIVES_46 at hw
  refine w_istore C (fun x4_46 => [(4, .int x4_46)]) dX7_refusal_46 (by decide) (fun _ => rfl) (fun x4_46 e_x4_46 => ?_)
  replace hw := hw x4_46 e_x4_46
  refine w_iload C 0 dX7_refusal_48 rfl ?_
  refine w_if_eq C 57 (by decide) dX7_refusal_50 (fun c_50 => ?_) (fun c_50 => ?_)
  · replace hw := hw.1 c_50
    refine w_bipush C (v := (-3 : Int32)) dX7_refusal_57 (by decide) ?_
    exact w_iret C () hw rfl (Nat.le_of_ble_eq_true rfl) (Nat.le_of_ble_eq_true rfl) dX7_refusal_59
  · replace hw := hw.2 c_50
    refine w_iconst C (v := (0 : Int32)) dX7_refusal_53 (by decide) ?_
    refine w_goto C 59 (by decide) dX7_refusal_54 ?_
    exact w_iret C () hw rfl (Nat.le_of_ble_eq_true rfl) (Nat.le_of_ble_eq_true rfl) dX7_refusal_59
set_option maxHeartbeats 4000000 in
set_option maxRecDepth 100000 in
theorem wk_X7_refusal_GIVES_45 {p : Program} {l : Launch} {e : Env} {s : State} {m : MethodId} {args : Array Value} {below : List Frame} {meth : Method} {c : Code} {D : va_G} {cB cI cJ cL cS : ClassId} {T : Nat × Nat × Nat × Nat} {A : Nat → Prop}   {Q : Int32 → Prop} (C : Cq p s m args meth c D (Z5 cB cI cJ cL cS) T A cX7_refusal RX7 5 (Option.some Jvm.ClassFile.FieldType.int))   (hw : blk_X7_refusal_GIVES_45   Q ) : ww p l e ({ frames := 0, cells := 0, slots := 0, locals := 0 } : Room) s m args below meth c D A 5 (MQ below (va_Qi (fun (r : Int32) (u : Unit) => Q r ) (OutP D (fun (u : Unit) => [])) A) args s 0 0 A) 0 0 [] 45 [] [] := by
  unfold blk_X7_refusal_GIVES_45 at hw
  refine w_iconst C (v := (0 : Int32)) dX7_refusal_45 (by decide) ?_
  refine w_sub (lv' := []) C [] rfl ?_
  exact wk_X7_refusal_GIVES_46 C  hw
set_option maxHeartbeats 4000000 in
set_option maxRecDepth 100000 in
theorem c_X7_refusal_GIVES {l : Launch} {D : va_G} {cB cI cJ cL cS : ClassId} {T : Nat × Nat × Nat × Nat}  {p1 : Int32} {p2 : Int32} {p3 : Int32}  {Q : Int32 → Prop} (hw : wp_X7_refusal_GIVES p1 p2 p3  Q) : CtI l D (Z5 cB cI cJ cL cS) T yX7_refusal cX7_refusal 5 ({ frames := 0, cells := 0, slots := 0, locals := 0 } : Room) (Option.some Jvm.ClassFile.FieldType.int) [.ref T.2.2.1, .int p1, .int p2, .int p3] [] (fun (u : Unit) => []) (fun (r : Int32) (u : Unit) => Q r ) 0 0 := by
  refine ctI_of (own := RX7) (by decide +kernel) rfl (Nat.le_of_ble_eq_true rfl) (fun p e s m below meth c A C => ?_)
  refine w_sub (lv' := [(0, .ref T.2.2.1), (1, .int p1), (2, .int p2), (3, .int p3)]) C [0, 1, 2, 3] rfl ?_
  unfold wp_X7_refusal_GIVES at hw
  refine w_iload_n C 1 dX7_refusal_0 rfl ?_
  refine w_if_ne C 7 (by decide) dX7_refusal_1 (fun c_1 => ?_) (fun c_1 => ?_)
  · replace hw := hw.1 c_1
    refine w_iload_n C 2 dX7_refusal_7 rfl ?_
    refine w_if_lt C 17 (by decide) dX7_refusal_8 (fun c_8 => ?_) (fun c_8 => ?_)
    · replace hw := hw.1 c_8
      refine w_bipush C (v := (-2 : Int32)) dX7_refusal_17 (by decide) ?_
      exact w_iret C () hw rfl (Nat.le_of_ble_eq_true rfl) (Nat.le_of_ble_eq_true rfl) dX7_refusal_19
    · replace hw := hw.2 c_8
      refine w_iload_n C 2 dX7_refusal_11 rfl ?_
      refine w_bipush C (v := (16 : Int32)) dX7_refusal_12 (by decide) ?_
      refine w_icmp_lt C 20 (by decide) dX7_refusal_14 (fun c_14 => ?_) (fun c_14 => ?_)
      · replace hw := hw.1 c_14
        refine w_iload_n C 1 dX7_refusal_20 rfl ?_
        refine w_if_le C 45 (by decide) dX7_refusal_21 (fun c_21 => ?_) (fun c_21 => ?_)
        · replace hw := hw.1 c_21
          refine w_sub (lv' := []) C [] rfl ?_
          exact wk_X7_refusal_GIVES_45 C  hw
        · replace hw := hw.2 c_21
          refine w_iload_n C 1 dX7_refusal_24 rfl ?_
          refine w_aload_n C 0 dX7_refusal_25 rfl ?_
          refine w_slen_GIVES C dX7_refusal_26 ?_
          refine w_icmp_ge C 45 (by decide) dX7_refusal_27 (fun c_27 => ?_) (fun c_27 => ?_)
          · replace hw := hw.1 c_27
            refine w_sub (lv' := []) C [] rfl ?_
            exact wk_X7_refusal_GIVES_45 C  hw
          · replace hw := hw.2 c_27
            refine w_aload_n C 0 dX7_refusal_30 rfl ?_
            refine w_iload_n C 1 dX7_refusal_31 rfl ?_
            obtain ⟨hi_32, hw⟩ := hw
            refine w_sld_GIVES C hi_32 dX7_refusal_32 ?_
            refine w_iload_n C 3 dX7_refusal_33 rfl ?_
            refine w_ishr C dX7_refusal_34 ?_
            refine w_iconst C (v := (1 : Int32)) dX7_refusal_35 (by decide) ?_
            refine w_iand C dX7_refusal_36 ?_
            refine w_iconst C (v := (1 : Int32)) dX7_refusal_37 (by decide) ?_
            refine w_icmp_ne C 45 (by decide) dX7_refusal_38 (fun c_38 => ?_) (fun c_38 => ?_)
            · replace hw := hw.1 c_38
              refine w_sub (lv' := []) C [] rfl ?_
              exact wk_X7_refusal_GIVES_45 C  hw
            · replace hw := hw.2 c_38
              refine w_iconst C (v := (1 : Int32)) dX7_refusal_41 (by decide) ?_
              refine w_goto C 46 (by decide) dX7_refusal_42 ?_
              refine w_sub (lv' := []) C [] rfl ?_
              exact wk_X7_refusal_GIVES_46 C  hw
      · replace hw := hw.2 c_14
        refine w_bipush C (v := (-2 : Int32)) dX7_refusal_17 (by decide) ?_
        exact w_iret C () hw rfl (Nat.le_of_ble_eq_true rfl) (Nat.le_of_ble_eq_true rfl) dX7_refusal_19
  · replace hw := hw.2 c_1
    refine w_bipush C (v := (-4 : Int32)) dX7_refusal_4 (by decide) ?_
    exact w_iret C () hw rfl (Nat.le_of_ble_eq_true rfl) (Nat.le_of_ble_eq_true rfl) dX7_refusal_6
def blk_X7_refusal_TAKES_46   (Q : Int32 → Prop) (k0 : Int32) : Prop := ∀ x4_46 : Int32, x4_46 = k0 → ((x4_46 = 0 → (Q (-3 : Int32))) ∧ (¬ x4_46 = 0 → (Q (0 : Int32))))
def blk_X7_refusal_TAKES_45   (Q : Int32 → Prop)  : Prop := (blk_X7_refusal_TAKES_46   Q (0 : Int32))
def wp_X7_refusal_TAKES (p1 : Int32) (p2 : Int32) (p3 : Int32)  (Q : Int32 → Prop) : Prop := ((¬ p1 = 0 → (((p2 < 0 → (Q (-2 : Int32))) ∧ (¬ p2 < 0 → (((p2 < (16 : Int32) → (((p1 ≤ 0 → ((blk_X7_refusal_TAKES_45   Q ))) ∧ (¬ p1 ≤ 0 → ((((13 : Int32) ≤ p1 → ((blk_X7_refusal_TAKES_45   Q ))) ∧ (¬ (13 : Int32) ≤ p1 → ((vp_in p1 13) ∧ ((¬ (((stK.getD (p1).toNatClampNeg 0) >>> (p3 &&& 31)) &&& (1 : Int32)) = (1 : Int32) → ((blk_X7_refusal_TAKES_45   Q ))) ∧ ((((stK.getD (p1).toNatClampNeg 0) >>> (p3 &&& 31)) &&& (1 : Int32)) = (1 : Int32) → ((blk_X7_refusal_TAKES_46   Q (1 : Int32))))))))))))) ∧ (¬ p2 < (16 : Int32) → (Q (-2 : Int32))))))))) ∧ (p1 = 0 → (Q (-4 : Int32))))
set_option maxHeartbeats 4000000 in
set_option maxRecDepth 100000 in
theorem wk_X7_refusal_TAKES_46 {p : Program} {l : Launch} {e : Env} {s : State} {m : MethodId} {args : Array Value} {below : List Frame} {meth : Method} {c : Code} {D : va_G} {cB cI cJ cL cS : ClassId} {T : Nat × Nat × Nat × Nat} {A : Nat → Prop}   {Q : Int32 → Prop} (C : Cq p s m args meth c D (Z5 cB cI cJ cL cS) T A cX7_refusal RX7 5 (Option.some Jvm.ClassFile.FieldType.int)) {k0 : Int32}  (hw : blk_X7_refusal_TAKES_46   Q k0) : ww p l e ({ frames := 0, cells := 0, slots := 0, locals := 0 } : Room) s m args below meth c D A 5 (MQ below (va_Qi (fun (r : Int32) (u : Unit) => Q r ) (OutP D (fun (u : Unit) => [])) A) args s 0 0 A) 0 0 [] 46 [] [.int k0] := by
  unfold blk_X7_refusal_TAKES_46 at hw
  refine w_istore C (fun x4_46 => [(4, .int x4_46)]) dX7_refusal_46 (by decide) (fun _ => rfl) (fun x4_46 e_x4_46 => ?_)
  replace hw := hw x4_46 e_x4_46
  refine w_iload C 0 dX7_refusal_48 rfl ?_
  refine w_if_eq C 57 (by decide) dX7_refusal_50 (fun c_50 => ?_) (fun c_50 => ?_)
  · replace hw := hw.1 c_50
    refine w_bipush C (v := (-3 : Int32)) dX7_refusal_57 (by decide) ?_
    exact w_iret C () hw rfl (Nat.le_of_ble_eq_true rfl) (Nat.le_of_ble_eq_true rfl) dX7_refusal_59
  · replace hw := hw.2 c_50
    refine w_iconst C (v := (0 : Int32)) dX7_refusal_53 (by decide) ?_
    refine w_goto C 59 (by decide) dX7_refusal_54 ?_
    exact w_iret C () hw rfl (Nat.le_of_ble_eq_true rfl) (Nat.le_of_ble_eq_true rfl) dX7_refusal_59
set_option maxHeartbeats 4000000 in
set_option maxRecDepth 100000 in
theorem wk_X7_refusal_TAKES_45 {p : Program} {l : Launch} {e : Env} {s : State} {m : MethodId} {args : Array Value} {below : List Frame} {meth : Method} {c : Code} {D : va_G} {cB cI cJ cL cS : ClassId} {T : Nat × Nat × Nat × Nat} {A : Nat → Prop}   {Q : Int32 → Prop} (C : Cq p s m args meth c D (Z5 cB cI cJ cL cS) T A cX7_refusal RX7 5 (Option.some Jvm.ClassFile.FieldType.int))   (hw : blk_X7_refusal_TAKES_45   Q ) : ww p l e ({ frames := 0, cells := 0, slots := 0, locals := 0 } : Room) s m args below meth c D A 5 (MQ below (va_Qi (fun (r : Int32) (u : Unit) => Q r ) (OutP D (fun (u : Unit) => [])) A) args s 0 0 A) 0 0 [] 45 [] [] := by
  unfold blk_X7_refusal_TAKES_45 at hw
  refine w_iconst C (v := (0 : Int32)) dX7_refusal_45 (by decide) ?_
  refine w_sub (lv' := []) C [] rfl ?_
  exact wk_X7_refusal_TAKES_46 C  hw
set_option maxHeartbeats 4000000 in
set_option maxRecDepth 100000 in
theorem c_X7_refusal_TAKES {l : Launch} {D : va_G} {cB cI cJ cL cS : ClassId} {T : Nat × Nat × Nat × Nat}  {p1 : Int32} {p2 : Int32} {p3 : Int32}  {Q : Int32 → Prop} (hw : wp_X7_refusal_TAKES p1 p2 p3  Q) : CtI l D (Z5 cB cI cJ cL cS) T yX7_refusal cX7_refusal 5 ({ frames := 0, cells := 0, slots := 0, locals := 0 } : Room) (Option.some Jvm.ClassFile.FieldType.int) [.ref T.2.2.2, .int p1, .int p2, .int p3] [] (fun (u : Unit) => []) (fun (r : Int32) (u : Unit) => Q r ) 0 0 := by
  refine ctI_of (own := RX7) (by decide +kernel) rfl (Nat.le_of_ble_eq_true rfl) (fun p e s m below meth c A C => ?_)
  refine w_sub (lv' := [(0, .ref T.2.2.2), (1, .int p1), (2, .int p2), (3, .int p3)]) C [0, 1, 2, 3] rfl ?_
  unfold wp_X7_refusal_TAKES at hw
  refine w_iload_n C 1 dX7_refusal_0 rfl ?_
  refine w_if_ne C 7 (by decide) dX7_refusal_1 (fun c_1 => ?_) (fun c_1 => ?_)
  · replace hw := hw.1 c_1
    refine w_iload_n C 2 dX7_refusal_7 rfl ?_
    refine w_if_lt C 17 (by decide) dX7_refusal_8 (fun c_8 => ?_) (fun c_8 => ?_)
    · replace hw := hw.1 c_8
      refine w_bipush C (v := (-2 : Int32)) dX7_refusal_17 (by decide) ?_
      exact w_iret C () hw rfl (Nat.le_of_ble_eq_true rfl) (Nat.le_of_ble_eq_true rfl) dX7_refusal_19
    · replace hw := hw.2 c_8
      refine w_iload_n C 2 dX7_refusal_11 rfl ?_
      refine w_bipush C (v := (16 : Int32)) dX7_refusal_12 (by decide) ?_
      refine w_icmp_lt C 20 (by decide) dX7_refusal_14 (fun c_14 => ?_) (fun c_14 => ?_)
      · replace hw := hw.1 c_14
        refine w_iload_n C 1 dX7_refusal_20 rfl ?_
        refine w_if_le C 45 (by decide) dX7_refusal_21 (fun c_21 => ?_) (fun c_21 => ?_)
        · replace hw := hw.1 c_21
          refine w_sub (lv' := []) C [] rfl ?_
          exact wk_X7_refusal_TAKES_45 C  hw
        · replace hw := hw.2 c_21
          refine w_iload_n C 1 dX7_refusal_24 rfl ?_
          refine w_aload_n C 0 dX7_refusal_25 rfl ?_
          refine w_slen_TAKES C dX7_refusal_26 ?_
          refine w_icmp_ge C 45 (by decide) dX7_refusal_27 (fun c_27 => ?_) (fun c_27 => ?_)
          · replace hw := hw.1 c_27
            refine w_sub (lv' := []) C [] rfl ?_
            exact wk_X7_refusal_TAKES_45 C  hw
          · replace hw := hw.2 c_27
            refine w_aload_n C 0 dX7_refusal_30 rfl ?_
            refine w_iload_n C 1 dX7_refusal_31 rfl ?_
            obtain ⟨hi_32, hw⟩ := hw
            refine w_sld_TAKES C hi_32 dX7_refusal_32 ?_
            refine w_iload_n C 3 dX7_refusal_33 rfl ?_
            refine w_ishr C dX7_refusal_34 ?_
            refine w_iconst C (v := (1 : Int32)) dX7_refusal_35 (by decide) ?_
            refine w_iand C dX7_refusal_36 ?_
            refine w_iconst C (v := (1 : Int32)) dX7_refusal_37 (by decide) ?_
            refine w_icmp_ne C 45 (by decide) dX7_refusal_38 (fun c_38 => ?_) (fun c_38 => ?_)
            · replace hw := hw.1 c_38
              refine w_sub (lv' := []) C [] rfl ?_
              exact wk_X7_refusal_TAKES_45 C  hw
            · replace hw := hw.2 c_38
              refine w_iconst C (v := (1 : Int32)) dX7_refusal_41 (by decide) ?_
              refine w_goto C 46 (by decide) dX7_refusal_42 ?_
              refine w_sub (lv' := []) C [] rfl ?_
              exact wk_X7_refusal_TAKES_46 C  hw
      · replace hw := hw.2 c_14
        refine w_bipush C (v := (-2 : Int32)) dX7_refusal_17 (by decide) ?_
        exact w_iret C () hw rfl (Nat.le_of_ble_eq_true rfl) (Nat.le_of_ble_eq_true rfl) dX7_refusal_19
  · replace hw := hw.2 c_1
    refine w_bipush C (v := (-4 : Int32)) dX7_refusal_4 (by decide) ?_
    exact w_iret C () hw rfl (Nat.le_of_ble_eq_true rfl) (Nat.le_of_ble_eq_true rfl) dX7_refusal_6
