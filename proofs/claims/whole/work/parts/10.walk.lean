def wp_X8_isIn (p0 : Int64) (p1 : Int64) (p2 : Int64)  (Q : Int32 → Prop) : Prop := ((p0 < p1 → (Q (0 : Int32))) ∧ (¬ p0 < p1 → (((p2 < p0 → (Q (0 : Int32))) ∧ (¬ p2 < p0 → (Q (1 : Int32)))))))
set_option maxHeartbeats 4000000 in
set_option maxRecDepth 100000 in
theorem c_X8_isIn {l : Launch} {D : va_G} {cB cI cJ cL cS : ClassId} {T : Nat × Nat × Nat × Nat}  {p0 : Int64} {p1 : Int64} {p2 : Int64}  {Q : Int32 → Prop} (hw : wp_X8_isIn p0 p1 p2  Q) : CtI l D (Z5 cB cI cJ cL cS) T yX8_isIn cX8_isIn 6 ({ frames := 0, cells := 0, slots := 0, locals := 0 } : Room) (Option.some Jvm.ClassFile.FieldType.boolean) [.long p0, .long p1, .long p2] [] (fun (u : Unit) => []) (fun (r : Int32) (u : Unit) => Q r ) 0 0 := by
  refine ctI_of (own := RX8) (by decide) rfl (Nat.le_of_ble_eq_true rfl) (fun p e s m below meth c A C => ?_)
  refine w_sub (lv' := [(0, .long p0), (2, .long p1), (4, .long p2)]) C [0, 1, 2] rfl ?_
  unfold wp_X8_isIn at hw
  refine w_lload_n C 0 dX8_isIn_0 rfl ?_
  refine w_lload_n C 1 dX8_isIn_1 rfl ?_
  refine w_lcmp_lt C 3 17 rfl (by decide) dX8_isIn_2 dX8_isIn_3 (fun c_2 => ?_) (fun c_2 => ?_)
  · replace hw := hw.1 c_2
    refine w_iconst C (v := (0 : Int32)) dX8_isIn_17 (by decide) ?_
    exact w_zret C () (Or.inl rfl) hw rfl (Nat.le_of_ble_eq_true rfl) (Nat.le_of_ble_eq_true rfl) dX8_isIn_18
  · replace hw := hw.2 c_2
    refine w_lload_n C 0 dX8_isIn_6 rfl ?_
    refine w_lload C 2 dX8_isIn_7 rfl ?_
    refine w_lcmp_gt C 10 17 rfl (by decide) dX8_isIn_9 dX8_isIn_10 (fun c_9 => ?_) (fun c_9 => ?_)
    · replace hw := hw.1 c_9
      refine w_iconst C (v := (0 : Int32)) dX8_isIn_17 (by decide) ?_
      exact w_zret C () (Or.inl rfl) hw rfl (Nat.le_of_ble_eq_true rfl) (Nat.le_of_ble_eq_true rfl) dX8_isIn_18
    · replace hw := hw.2 c_9
      refine w_iconst C (v := (1 : Int32)) dX8_isIn_13 (by decide) ?_
      refine w_goto C 18 (by decide) dX8_isIn_14 ?_
      exact w_zret C () (Or.inr rfl) hw rfl (Nat.le_of_ble_eq_true rfl) (Nat.le_of_ble_eq_true rfl) dX8_isIn_18
def wp_X8_bitsOf (p0 : Int32)  (Q : Int32 → Prop) : Prop := ((¬ p0 = (1 : Int32) → (Q (8 : Int32))) ∧ (p0 = (1 : Int32) → (Q (5 : Int32))))
set_option maxHeartbeats 4000000 in
set_option maxRecDepth 100000 in
theorem c_X8_bitsOf {l : Launch} {D : va_G} {cB cI cJ cL cS : ClassId} {T : Nat × Nat × Nat × Nat}  {p0 : Int32}  {Q : Int32 → Prop} (hw : wp_X8_bitsOf p0  Q) : CtI l D (Z5 cB cI cJ cL cS) T yX8_bitsOf cX8_bitsOf 1 ({ frames := 0, cells := 0, slots := 0, locals := 0 } : Room) (Option.some Jvm.ClassFile.FieldType.int) [.int p0] [] (fun (u : Unit) => []) (fun (r : Int32) (u : Unit) => Q r ) 0 0 := by
  refine ctI_of (own := RX8) (by decide) rfl (Nat.le_of_ble_eq_true rfl) (fun p e s m below meth c A C => ?_)
  refine w_sub (lv' := [(0, .int p0)]) C [0] rfl ?_
  unfold wp_X8_bitsOf at hw
  refine w_iload_n C 0 dX8_bitsOf_0 rfl ?_
  refine w_iconst C (v := (1 : Int32)) dX8_bitsOf_1 (by decide) ?_
  refine w_icmp_ne C 9 (by decide) dX8_bitsOf_2 (fun c_2 => ?_) (fun c_2 => ?_)
  · replace hw := hw.1 c_2
    refine w_bipush C (v := (8 : Int32)) dX8_bitsOf_9 (by decide) ?_
    exact w_iret C () hw rfl (Nat.le_of_ble_eq_true rfl) (Nat.le_of_ble_eq_true rfl) dX8_bitsOf_11
  · replace hw := hw.2 c_2
    refine w_iconst C (v := (5 : Int32)) dX8_bitsOf_5 (by decide) ?_
    refine w_goto C 11 (by decide) dX8_bitsOf_6 ?_
    exact w_iret C () hw rfl (Nat.le_of_ble_eq_true rfl) (Nat.le_of_ble_eq_true rfl) dX8_bitsOf_11
def bod_X8_lengthOf_4   (Q : Int32 → Prop)   (K4 : Int32 → Int64 → Prop) (x2 : Int32) (x3 : Int64) : Prop := ((x3 ≤ (0 : Int64) → (Q x2)) ∧ (¬ x3 ≤ (0 : Int64) → (∀ x2_10 : Int32, x2_10 = x2 + (1 : Int32) → ∀ x3_16 : Int64, x3_16 = (x3 >>> (((1 : Int32)).toInt64 &&& 63)) → K4 x2_10 x3_16)))
def lp_X8_lengthOf_4   (Q : Int32 → Prop)   : Nat → Int32 → Int64 → Prop
  | 0, _, _ => False
  | j + 1, x2, x3 => bod_X8_lengthOf_4   Q  (fun v0 v1 => lp_X8_lengthOf_4   Q  j v0 v1) x2 x3
def wp_X8_lengthOf (p0 : Int64)  (Q : Int32 → Prop) : Prop := ∀ x2_1 : Int32, x2_1 = (0 : Int32) → ∀ x3_3 : Int64, x3_3 = p0 → (∃ j : Nat, lp_X8_lengthOf_4   Q  j x2_1 x3_3)
set_option maxHeartbeats 4000000 in
set_option maxRecDepth 100000 in
theorem wl_X8_lengthOf_4 {p : Program} {l : Launch} {e : Env} {s : State} {m : MethodId} {args : Array Value} {below : List Frame} {meth : Method} {c : Code} {D : va_G} {cB cI cJ cL cS : ClassId} {T : Nat × Nat × Nat × Nat} {A : Nat → Prop}   {Q : Int32 → Prop} (C : Cq p s m args meth c D (Z5 cB cI cJ cL cS) T A cX8_lengthOf RX8 5 (Option.some Jvm.ClassFile.FieldType.int))    : ∀ (j : Nat) (x2 : Int32) (x3 : Int64), lp_X8_lengthOf_4   Q  j x2 x3 → ww p l e ({ frames := 0, cells := 0, slots := 0, locals := 0 } : Room) s m args below meth c D A 5 (MQ below (va_Qi (fun (r : Int32) (u : Unit) => Q r ) (OutP D (fun (u : Unit) => [])) A) args s 0 0 A) 0 0 [] 4 [(2, .int x2), (3, .long x3)] [] := by
  intro j
  induction j with
  | zero => intro _ _ hw; exact hw.elim
  | succ j hK4 =>
    intro x2 x3 hw
    have hw : bod_X8_lengthOf_4   Q  (fun v0 v1 => lp_X8_lengthOf_4   Q  j v0 v1) x2 x3 := hw
    unfold bod_X8_lengthOf_4 at hw
    refine w_lload_n C 1 dX8_lengthOf_4 rfl ?_
    refine w_lconst C (v := (0 : Int64)) dX8_lengthOf_5 (by decide) ?_
    refine w_lcmp_le C 7 20 rfl (by decide) dX8_lengthOf_6 dX8_lengthOf_7 (fun c_6 => ?_) (fun c_6 => ?_)
    · replace hw := hw.1 c_6
      refine w_iload_n C 0 dX8_lengthOf_20 rfl ?_
      exact w_iret C () hw rfl (Nat.le_of_ble_eq_true rfl) (Nat.le_of_ble_eq_true rfl) dX8_lengthOf_21
    · replace hw := hw.2 c_6
      refine w_iinc C (v := x2 + (1 : Int32)) 0 (fun x2_10 => [(2, .int x2_10), (3, .long x3)]) dX8_lengthOf_10 rfl rfl (by decide) (fun _ => rfl) (fun x2_10 e_x2_10 => ?_)
      replace hw := hw x2_10 e_x2_10
      refine w_lload_n C 1 dX8_lengthOf_13 rfl ?_
      refine w_iconst C (v := (1 : Int32)) dX8_lengthOf_14 (by decide) ?_
      refine w_lshr C dX8_lengthOf_15 ?_
      refine w_lstore_n C (fun x3_16 => [(3, .long x3_16), (2, .int x2_10)]) dX8_lengthOf_16 (by decide) (fun _ => rfl) (fun x3_16 e_x3_16 => ?_)
      replace hw := hw x3_16 e_x3_16
      refine w_goto C 4 (by decide) dX8_lengthOf_17 ?_
      refine w_sub (lv' := [(2, .int x2_10), (3, .long x3_16)]) C [1, 0] rfl ?_
      exact hK4 _ _ hw
set_option maxHeartbeats 4000000 in
set_option maxRecDepth 100000 in
theorem c_X8_lengthOf {l : Launch} {D : va_G} {cB cI cJ cL cS : ClassId} {T : Nat × Nat × Nat × Nat}  {p0 : Int64}  {Q : Int32 → Prop} (hw : wp_X8_lengthOf p0  Q) : CtI l D (Z5 cB cI cJ cL cS) T yX8_lengthOf cX8_lengthOf 5 ({ frames := 0, cells := 0, slots := 0, locals := 0 } : Room) (Option.some Jvm.ClassFile.FieldType.int) [.long p0] [] (fun (u : Unit) => []) (fun (r : Int32) (u : Unit) => Q r ) 0 0 := by
  refine ctI_of (own := RX8) (by decide) rfl (Nat.le_of_ble_eq_true rfl) (fun p e s m below meth c A C => ?_)
  refine w_sub (lv' := [(0, .long p0)]) C [0] rfl ?_
  unfold wp_X8_lengthOf at hw
  refine w_iconst C (v := (0 : Int32)) dX8_lengthOf_0 (by decide) ?_
  refine w_istore_n C (fun x2_1 => [(2, .int x2_1), (0, .long p0)]) dX8_lengthOf_1 (by decide) (fun _ => rfl) (fun x2_1 e_x2_1 => ?_)
  replace hw := hw x2_1 e_x2_1
  refine w_lload_n C 1 dX8_lengthOf_2 rfl ?_
  refine w_lstore_n C (fun x3_3 => [(3, .long x3_3), (2, .int x2_1), (0, .long p0)]) dX8_lengthOf_3 (by decide) (fun _ => rfl) (fun x3_3 e_x3_3 => ?_)
  replace hw := hw x3_3 e_x3_3
  refine w_sub (lv' := [(2, .int x2_1), (3, .long x3_3)]) C [1, 0] rfl ?_
  obtain ⟨j, hw⟩ := hw
  exact wl_X8_lengthOf_4 C  j _ _ hw
def wp_X8_of (p0 : Int32) (p1 : Int32) (t_set : Nat → Int32) (Q : Int32 → Prop) : Prop := (vp_in (((4 : Int32) * p0) + p1) 16) ∧ Q (t_set ((((4 : Int32) * p0) + p1)).toNatClampNeg)
set_option maxHeartbeats 4000000 in
set_option maxRecDepth 100000 in
theorem c_X8_of {l : Launch} {D : va_G} {cB cI cJ cL cS : ClassId} {T : Nat × Nat × Nat × Nat} {a : Nat → Nat} {p0 : Int32} {p1 : Int32} {t_tape : Nat → Int32} {t_taped : Int32} {t_set : Nat → Int32} {t_highest : Nat → Int64} {t_units : Nat → Int64} {t_kinds : Nat → Int32} {t_sideKind : Nat → Int32} {t_side : Nat → Int32} {t_active : Int32} {t_rests : Int32} {t_writes : Nat → Int32} {t_more : Nat → Int64} {t_packed : Nat → Int32} {t_packedMany : Int32} {t_at : Int32} {t_wrong : Int32} {t_number : Int64} {t_readSort : Int32} {t_readDigits : Int32} {t_readHighest : Int64} {t_wasSet : Nat → Int32} {t_wasHighest : Nat → Int64} {t_wasUnits : Nat → Int64} {t_wasKinds : Nat → Int32} {t_wasSideKind : Nat → Int32} {t_wasSide : Nat → Int32} {t_undone : Int32} {Q : Int32 → Prop} (hw : wp_X8_of p0 p1 t_set Q) : CtI l D (Z5 cB cI cJ cL cS) T yX8_of cX8_of 3 ({ frames := 0, cells := 0, slots := 0, locals := 0 } : Room) (Option.some Jvm.ClassFile.FieldType.int) [.ref (a 0), .int p0, .int p1] (wM cB cI cJ a t_tape t_taped t_set t_highest t_units t_kinds t_sideKind t_side t_active t_rests t_writes t_more t_packed t_packedMany t_at t_wrong t_number t_readSort t_readDigits t_readHighest t_wasSet t_wasHighest t_wasUnits t_wasKinds t_wasSideKind t_wasSide t_undone) (fun (u : Unit) => (wM cB cI cJ a t_tape t_taped t_set t_highest t_units t_kinds t_sideKind t_side t_active t_rests t_writes t_more t_packed t_packedMany t_at t_wrong t_number t_readSort t_readDigits t_readHighest t_wasSet t_wasHighest t_wasUnits t_wasKinds t_wasSideKind t_wasSide t_undone)) (fun (r : Int32) (u : Unit) => Q r ) 0 0 := by
  refine ctI_of (own := RX8) (by decide) rfl (Nat.le_of_ble_eq_true rfl) (fun p e s m below meth c A C => ?_)
  refine w_sub (lv' := [(0, .ref (a 0)), (1, .int p0), (2, .int p1)]) C [0, 1, 2] rfl ?_
  unfold wp_X8_of at hw
  refine w_aload_n C 0 dX8_of_0 rfl ?_
  refine w_get C (T1 := TX8) 0 2 u_X8 k_820 rfl (by decide) rfl rfl dX8_of_1 ?_
  refine w_iconst C (v := (4 : Int32)) dX8_of_4 (by decide) ?_
  refine w_iload_n C 1 dX8_of_5 rfl ?_
  refine w_imul C dX8_of_6 ?_
  refine w_iload_n C 2 dX8_of_7 rfl ?_
  refine w_iadd C dX8_of_8 ?_
  obtain ⟨hi_9, hw⟩ := hw
  refine w_iaload C 2 1 rfl rfl hi_9 dX8_of_9 ?_
  exact w_iret C () hw rfl (Nat.le_of_ble_eq_true rfl) (Nat.le_of_ble_eq_true rfl) dX8_of_10
def wp_X8_pagesOf (p0 : Int32) (t_set : Nat → Int32) (Q : Int32 → Prop) : Prop := wp_X8_of p0 (2 : Int32) t_set (fun (r_3 : Int32) => Q (((r_3 + (16 : Int32)) - (1 : Int32)) / (16 : Int32)))
set_option maxHeartbeats 4000000 in
set_option maxRecDepth 100000 in
theorem c_X8_pagesOf {l : Launch} {D : va_G} {cB cI cJ cL cS : ClassId} {T : Nat × Nat × Nat × Nat} {a : Nat → Nat} {p0 : Int32} {t_tape : Nat → Int32} {t_taped : Int32} {t_set : Nat → Int32} {t_highest : Nat → Int64} {t_units : Nat → Int64} {t_kinds : Nat → Int32} {t_sideKind : Nat → Int32} {t_side : Nat → Int32} {t_active : Int32} {t_rests : Int32} {t_writes : Nat → Int32} {t_more : Nat → Int64} {t_packed : Nat → Int32} {t_packedMany : Int32} {t_at : Int32} {t_wrong : Int32} {t_number : Int64} {t_readSort : Int32} {t_readDigits : Int32} {t_readHighest : Int64} {t_wasSet : Nat → Int32} {t_wasHighest : Nat → Int64} {t_wasUnits : Nat → Int64} {t_wasKinds : Nat → Int32} {t_wasSideKind : Nat → Int32} {t_wasSide : Nat → Int32} {t_undone : Int32} {Q : Int32 → Prop} (hw : wp_X8_pagesOf p0 t_set Q) : CtI l D (Z5 cB cI cJ cL cS) T yX8_pagesOf cX8_pagesOf 2 ({ frames := 1, cells := 0, slots := 0, locals := 22 } : Room) (Option.some Jvm.ClassFile.FieldType.int) [.ref (a 0), .int p0] (wM cB cI cJ a t_tape t_taped t_set t_highest t_units t_kinds t_sideKind t_side t_active t_rests t_writes t_more t_packed t_packedMany t_at t_wrong t_number t_readSort t_readDigits t_readHighest t_wasSet t_wasHighest t_wasUnits t_wasKinds t_wasSideKind t_wasSide t_undone) (fun (u : Unit) => (wM cB cI cJ a t_tape t_taped t_set t_highest t_units t_kinds t_sideKind t_side t_active t_rests t_writes t_more t_packed t_packedMany t_at t_wrong t_number t_readSort t_readDigits t_readHighest t_wasSet t_wasHighest t_wasUnits t_wasKinds t_wasSideKind t_wasSide t_undone)) (fun (r : Int32) (u : Unit) => Q r ) 0 0 := by
  refine ctI_of (own := RX8) (by decide) rfl (Nat.le_of_ble_eq_true rfl) (fun p e s m below meth c A C => ?_)
  refine w_sub (lv' := [(0, .ref (a 0)), (1, .int p0)]) C [0, 1] rfl ?_
  unfold wp_X8_pagesOf at hw
  refine w_aload_n C 0 dX8_pagesOf_0 rfl ?_
  refine w_iload_n C 1 dX8_pagesOf_1 rfl ?_
  refine w_iconst C (v := (2 : Int32)) dX8_pagesOf_2 (by decide) ?_
  refine w_callVI C (c_X8_of hw) f_X8_of k_25 k_970 rfl ⟨Nat.le_of_ble_eq_true rfl, Nat.le_of_ble_eq_true rfl⟩ rfl rfl ⟨Nat.le_of_ble_eq_true rfl, Nat.le_of_ble_eq_true rfl⟩ 0 rfl (rr := (RX8, TX8, 27)) rfl rfl (fun _ => rfl) rfl (Nat.le_of_ble_eq_true rfl) dX8_pagesOf_3 (fun r_3 u_3 hw => ?_)
  try dsimp only at hw
  refine w_bipush C (v := (16 : Int32)) dX8_pagesOf_6 (by decide) ?_
  refine w_iadd C dX8_pagesOf_8 ?_
  refine w_iconst C (v := (1 : Int32)) dX8_pagesOf_9 (by decide) ?_
  refine w_isub C dX8_pagesOf_10 ?_
  refine w_bipush C (v := (16 : Int32)) dX8_pagesOf_11 (by decide) ?_
  refine w_idiv C (by decide) dX8_pagesOf_13 ?_
  exact w_iret C () hw rfl (Nat.le_of_ble_eq_true rfl) (Nat.le_of_ble_eq_true rfl) dX8_pagesOf_14
def blk_X8_mostOf_45 (t_units : Nat → Int64) (K5 : Int64 → Int32 → Prop) (Q : Int64 → Prop) (x1 : Int32) (x2 : Int32) (x5 : Int32) (k0 : Int64) : Prop := ∀ x3_45 : Int64, x3_45 = k0 → ∀ x5_46 : Int32, x5_46 = x5 + (1 : Int32) → K5 x3_45 x5_46
def bod_X8_mostOf_5 (t_units : Nat → Int64)  (Q : Int64 → Prop) (x1 : Int32) (x2 : Int32)  (K5 : Int64 → Int32 → Prop) (x3 : Int64) (x5 : Int32) : Prop := (((16 : Int32) ≤ x5 → (Q x3)) ∧ (¬ (16 : Int32) ≤ x5 → ((vp_in ((((4352 : Int32) * x1) + ((16 : Int32) * x2)) + x5) 17408) ∧ ∀ x6_30 : Int64, x6_30 = (t_units (((((4352 : Int32) * x1) + ((16 : Int32) * x2)) + x5)).toNatClampNeg) → ((x6_30 ≤ x3 → ((blk_X8_mostOf_45 t_units K5 Q x1 x2 x5 x3))) ∧ (¬ x6_30 ≤ x3 → ((blk_X8_mostOf_45 t_units K5 Q x1 x2 x5 x6_30)))))))
def lp_X8_mostOf_5 (t_units : Nat → Int64)  (Q : Int64 → Prop) (x1 : Int32) (x2 : Int32)  : Nat → Int64 → Int32 → Prop
  | 0, _, _ => False
  | j + 1, x3, x5 => bod_X8_mostOf_5 t_units  Q x1 x2 (fun v0 v1 => lp_X8_mostOf_5 t_units  Q x1 x2 j v0 v1) x3 x5
def wp_X8_mostOf (p0 : Int32) (p1 : Int32) (t_units : Nat → Int64) (Q : Int64 → Prop) : Prop := ∀ x3_1 : Int64, x3_1 = (0 : Int64) → ∀ x5_3 : Int32, x5_3 = (0 : Int32) → (∃ j : Nat, lp_X8_mostOf_5 t_units  Q p0 p1 j x3_1 x5_3)
set_option maxHeartbeats 4000000 in
set_option maxRecDepth 100000 in
theorem wk_X8_mostOf_45 {p : Program} {l : Launch} {e : Env} {s : State} {m : MethodId} {args : Array Value} {below : List Frame} {meth : Method} {c : Code} {D : va_G} {cB cI cJ cL cS : ClassId} {T : Nat × Nat × Nat × Nat} {A : Nat → Prop} {a : Nat → Nat} {t_tape : Nat → Int32} {t_taped : Int32} {t_set : Nat → Int32} {t_highest : Nat → Int64} {t_units : Nat → Int64} {t_kinds : Nat → Int32} {t_sideKind : Nat → Int32} {t_side : Nat → Int32} {t_active : Int32} {t_rests : Int32} {t_writes : Nat → Int32} {t_more : Nat → Int64} {t_packed : Nat → Int32} {t_packedMany : Int32} {t_at : Int32} {t_wrong : Int32} {t_number : Int64} {t_readSort : Int32} {t_readDigits : Int32} {t_readHighest : Int64} {t_wasSet : Nat → Int32} {t_wasHighest : Nat → Int64} {t_wasUnits : Nat → Int64} {t_wasKinds : Nat → Int32} {t_wasSideKind : Nat → Int32} {t_wasSide : Nat → Int32} {t_undone : Int32} {Q : Int64 → Prop} (C : Cq p s m args meth c D (Z5 cB cI cJ cL cS) T A cX8_mostOf RX8 8 (Option.some Jvm.ClassFile.FieldType.long)) {K5 : Int64 → Int32 → Prop} {f5_1 : Int32} {f5_2 : Int32} (hK5 : ∀ (y3 : Int64) (y5 : Int32), K5 y3 y5 → ww p l e ({ frames := 0, cells := 0, slots := 0, locals := 0 } : Room) s m args below meth c D A 8 (MQ below (va_Ql (fun (r : Int64) (u : Unit) => Q r ) (OutP D (fun (u : Unit) => (wM cB cI cJ a t_tape t_taped t_set t_highest t_units t_kinds t_sideKind t_side t_active t_rests t_writes t_more t_packed t_packedMany t_at t_wrong t_number t_readSort t_readDigits t_readHighest t_wasSet t_wasHighest t_wasUnits t_wasKinds t_wasSideKind t_wasSide t_undone))) A) args s 0 0 A) 0 0 (wM cB cI cJ a t_tape t_taped t_set t_highest t_units t_kinds t_sideKind t_side t_active t_rests t_writes t_more t_packed t_packedMany t_at t_wrong t_number t_readSort t_readDigits t_readHighest t_wasSet t_wasHighest t_wasUnits t_wasKinds t_wasSideKind t_wasSide t_undone) 5 [(0, .ref (a 0)), (1, .int f5_1), (2, .int f5_2), (3, .long y3), (5, .int y5)] []) {x1 : Int32} {x2 : Int32} {x5 : Int32} {k0 : Int64} (hw : blk_X8_mostOf_45 t_units K5 Q x1 x2 x5 k0) : ww p l e ({ frames := 0, cells := 0, slots := 0, locals := 0 } : Room) s m args below meth c D A 8 (MQ below (va_Ql (fun (r : Int64) (u : Unit) => Q r ) (OutP D (fun (u : Unit) => (wM cB cI cJ a t_tape t_taped t_set t_highest t_units t_kinds t_sideKind t_side t_active t_rests t_writes t_more t_packed t_packedMany t_at t_wrong t_number t_readSort t_readDigits t_readHighest t_wasSet t_wasHighest t_wasUnits t_wasKinds t_wasSideKind t_wasSide t_undone))) A) args s 0 0 A) 0 0 (wM cB cI cJ a t_tape t_taped t_set t_highest t_units t_kinds t_sideKind t_side t_active t_rests t_writes t_more t_packed t_packedMany t_at t_wrong t_number t_readSort t_readDigits t_readHighest t_wasSet t_wasHighest t_wasUnits t_wasKinds t_wasSideKind t_wasSide t_undone) 45 [(0, .ref (a 0)), (1, .int x1), (2, .int x2), (5, .int x5)] [.long k0] := by
  unfold blk_X8_mostOf_45 at hw
  refine w_lstore_n C (fun x3_45 => [(3, .long x3_45), (0, .ref (a 0)), (1, .int x1), (2, .int x2), (5, .int x5)]) dX8_mostOf_45 (by decide) (fun _ => rfl) (fun x3_45 e_x3_45 => ?_)
  replace hw := hw x3_45 e_x3_45
  refine w_iinc C (v := x5 + (1 : Int32)) 4 (fun x5_46 => [(5, .int x5_46), (3, .long x3_45), (0, .ref (a 0)), (1, .int x1), (2, .int x2)]) dX8_mostOf_46 rfl rfl (by decide) (fun _ => rfl) (fun x5_46 e_x5_46 => ?_)
  replace hw := hw x5_46 e_x5_46
  refine w_goto C 5 (by decide) dX8_mostOf_49 ?_
  refine w_sub (lv' := [(0, .ref (a 0)), (1, .int x1), (2, .int x2), (3, .long x3_45), (5, .int x5_46)]) C [2, 3, 4, 1, 0] rfl ?_
  exact hK5 _ _ hw
set_option maxHeartbeats 4000000 in
set_option maxRecDepth 100000 in
theorem wl_X8_mostOf_5 {p : Program} {l : Launch} {e : Env} {s : State} {m : MethodId} {args : Array Value} {below : List Frame} {meth : Method} {c : Code} {D : va_G} {cB cI cJ cL cS : ClassId} {T : Nat × Nat × Nat × Nat} {A : Nat → Prop} {a : Nat → Nat} {t_tape : Nat → Int32} {t_taped : Int32} {t_set : Nat → Int32} {t_highest : Nat → Int64} {t_units : Nat → Int64} {t_kinds : Nat → Int32} {t_sideKind : Nat → Int32} {t_side : Nat → Int32} {t_active : Int32} {t_rests : Int32} {t_writes : Nat → Int32} {t_more : Nat → Int64} {t_packed : Nat → Int32} {t_packedMany : Int32} {t_at : Int32} {t_wrong : Int32} {t_number : Int64} {t_readSort : Int32} {t_readDigits : Int32} {t_readHighest : Int64} {t_wasSet : Nat → Int32} {t_wasHighest : Nat → Int64} {t_wasUnits : Nat → Int64} {t_wasKinds : Nat → Int32} {t_wasSideKind : Nat → Int32} {t_wasSide : Nat → Int32} {t_undone : Int32} {Q : Int64 → Prop} (C : Cq p s m args meth c D (Z5 cB cI cJ cL cS) T A cX8_mostOf RX8 8 (Option.some Jvm.ClassFile.FieldType.long))  {x1 : Int32} {x2 : Int32}  : ∀ (j : Nat) (x3 : Int64) (x5 : Int32), lp_X8_mostOf_5 t_units  Q x1 x2 j x3 x5 → ww p l e ({ frames := 0, cells := 0, slots := 0, locals := 0 } : Room) s m args below meth c D A 8 (MQ below (va_Ql (fun (r : Int64) (u : Unit) => Q r ) (OutP D (fun (u : Unit) => (wM cB cI cJ a t_tape t_taped t_set t_highest t_units t_kinds t_sideKind t_side t_active t_rests t_writes t_more t_packed t_packedMany t_at t_wrong t_number t_readSort t_readDigits t_readHighest t_wasSet t_wasHighest t_wasUnits t_wasKinds t_wasSideKind t_wasSide t_undone))) A) args s 0 0 A) 0 0 (wM cB cI cJ a t_tape t_taped t_set t_highest t_units t_kinds t_sideKind t_side t_active t_rests t_writes t_more t_packed t_packedMany t_at t_wrong t_number t_readSort t_readDigits t_readHighest t_wasSet t_wasHighest t_wasUnits t_wasKinds t_wasSideKind t_wasSide t_undone) 5 [(0, .ref (a 0)), (1, .int x1), (2, .int x2), (3, .long x3), (5, .int x5)] [] := by
  intro j
  induction j with
  | zero => intro _ _ hw; exact hw.elim
  | succ j hK5 =>
    intro x3 x5 hw
    have hw : bod_X8_mostOf_5 t_units  Q x1 x2 (fun v0 v1 => lp_X8_mostOf_5 t_units  Q x1 x2 j v0 v1) x3 x5 := hw
    unfold bod_X8_mostOf_5 at hw
    refine w_iload C 4 dX8_mostOf_5 rfl ?_
    refine w_bipush C (v := (16 : Int32)) dX8_mostOf_7 (by decide) ?_
    refine w_icmp_ge C 52 (by decide) dX8_mostOf_9 (fun c_9 => ?_) (fun c_9 => ?_)
    · replace hw := hw.1 c_9
      refine w_lload_n C 3 dX8_mostOf_52 rfl ?_
      exact w_lret C () hw rfl (Nat.le_of_ble_eq_true rfl) (Nat.le_of_ble_eq_true rfl) dX8_mostOf_53
    · replace hw := hw.2 c_9
      refine w_aload_n C 0 dX8_mostOf_12 rfl ?_
      refine w_get C (T1 := TX8) 0 4 u_X8 k_822 rfl (by decide) rfl rfl dX8_mostOf_13 ?_
      refine w_sipush C (v := (4352 : Int32)) dX8_mostOf_16 (by decide) ?_
      refine w_iload_n C 1 dX8_mostOf_19 rfl ?_
      refine w_imul C dX8_mostOf_20 ?_
      refine w_bipush C (v := (16 : Int32)) dX8_mostOf_21 (by decide) ?_
      refine w_iload_n C 2 dX8_mostOf_23 rfl ?_
      refine w_imul C dX8_mostOf_24 ?_
      refine w_iadd C dX8_mostOf_25 ?_
      refine w_iload C 4 dX8_mostOf_26 rfl ?_
      refine w_iadd C dX8_mostOf_28 ?_
      obtain ⟨hi_29, hw⟩ := hw
      refine w_laload C 4 2 rfl rfl hi_29 dX8_mostOf_29 ?_
      refine w_lstore C (fun x6_30 => [(6, .long x6_30), (0, .ref (a 0)), (1, .int x1), (2, .int x2), (3, .long x3), (5, .int x5)]) dX8_mostOf_30 (by decide) (fun _ => rfl) (fun x6_30 e_x6_30 => ?_)
      replace hw := hw x6_30 e_x6_30
      refine w_lload C 0 dX8_mostOf_32 rfl ?_
      refine w_lload_n C 4 dX8_mostOf_34 rfl ?_
      refine w_lcmp_le C 36 44 rfl (by decide) dX8_mostOf_35 dX8_mostOf_36 (fun c_35 => ?_) (fun c_35 => ?_)
      · replace hw := hw.1 c_35
        refine w_lload_n C 4 dX8_mostOf_44 rfl ?_
        refine w_sub (lv' := [(0, .ref (a 0)), (1, .int x1), (2, .int x2), (5, .int x5)]) C [1, 2, 3, 5] rfl ?_
        exact wk_X8_mostOf_45 C hK5 hw
      · replace hw := hw.2 c_35
        refine w_lload C 0 dX8_mostOf_39 rfl ?_
        refine w_goto C 45 (by decide) dX8_mostOf_41 ?_
        refine w_sub (lv' := [(0, .ref (a 0)), (1, .int x1), (2, .int x2), (5, .int x5)]) C [1, 2, 3, 5] rfl ?_
        exact wk_X8_mostOf_45 C hK5 hw
set_option maxHeartbeats 4000000 in
set_option maxRecDepth 100000 in
theorem c_X8_mostOf {l : Launch} {D : va_G} {cB cI cJ cL cS : ClassId} {T : Nat × Nat × Nat × Nat} {a : Nat → Nat} {p0 : Int32} {p1 : Int32} {t_tape : Nat → Int32} {t_taped : Int32} {t_set : Nat → Int32} {t_highest : Nat → Int64} {t_units : Nat → Int64} {t_kinds : Nat → Int32} {t_sideKind : Nat → Int32} {t_side : Nat → Int32} {t_active : Int32} {t_rests : Int32} {t_writes : Nat → Int32} {t_more : Nat → Int64} {t_packed : Nat → Int32} {t_packedMany : Int32} {t_at : Int32} {t_wrong : Int32} {t_number : Int64} {t_readSort : Int32} {t_readDigits : Int32} {t_readHighest : Int64} {t_wasSet : Nat → Int32} {t_wasHighest : Nat → Int64} {t_wasUnits : Nat → Int64} {t_wasKinds : Nat → Int32} {t_wasSideKind : Nat → Int32} {t_wasSide : Nat → Int32} {t_undone : Int32} {Q : Int64 → Prop} (hw : wp_X8_mostOf p0 p1 t_units Q) : CtL l D (Z5 cB cI cJ cL cS) T yX8_mostOf cX8_mostOf 8 ({ frames := 0, cells := 0, slots := 0, locals := 0 } : Room) (Option.some Jvm.ClassFile.FieldType.long) [.ref (a 0), .int p0, .int p1] (wM cB cI cJ a t_tape t_taped t_set t_highest t_units t_kinds t_sideKind t_side t_active t_rests t_writes t_more t_packed t_packedMany t_at t_wrong t_number t_readSort t_readDigits t_readHighest t_wasSet t_wasHighest t_wasUnits t_wasKinds t_wasSideKind t_wasSide t_undone) (fun (u : Unit) => (wM cB cI cJ a t_tape t_taped t_set t_highest t_units t_kinds t_sideKind t_side t_active t_rests t_writes t_more t_packed t_packedMany t_at t_wrong t_number t_readSort t_readDigits t_readHighest t_wasSet t_wasHighest t_wasUnits t_wasKinds t_wasSideKind t_wasSide t_undone)) (fun (r : Int64) (u : Unit) => Q r ) 0 0 := by
  refine ctL_of (own := RX8) (by decide) rfl (Nat.le_of_ble_eq_true rfl) (fun p e s m below meth c A C => ?_)
  refine w_sub (lv' := [(0, .ref (a 0)), (1, .int p0), (2, .int p1)]) C [0, 1, 2] rfl ?_
  unfold wp_X8_mostOf at hw
  refine w_lconst C (v := (0 : Int64)) dX8_mostOf_0 (by decide) ?_
  refine w_lstore_n C (fun x3_1 => [(3, .long x3_1), (0, .ref (a 0)), (1, .int p0), (2, .int p1)]) dX8_mostOf_1 (by decide) (fun _ => rfl) (fun x3_1 e_x3_1 => ?_)
  replace hw := hw x3_1 e_x3_1
  refine w_iconst C (v := (0 : Int32)) dX8_mostOf_2 (by decide) ?_
  refine w_istore C (fun x5_3 => [(5, .int x5_3), (3, .long x3_1), (0, .ref (a 0)), (1, .int p0), (2, .int p1)]) dX8_mostOf_3 (by decide) (fun _ => rfl) (fun x5_3 e_x5_3 => ?_)
  replace hw := hw x5_3 e_x5_3
  refine w_sub (lv' := [(0, .ref (a 0)), (1, .int p0), (2, .int p1), (3, .long x3_1), (5, .int x5_3)]) C [2, 3, 4, 1, 0] rfl ?_
  obtain ⟨j, hw⟩ := hw
  exact wl_X8_mostOf_5 C  j _ _ hw
def wp_X8_firstKind (p0 : Int32) (t_set : Nat → Int32) (Q : Int32 → Prop) : Prop := wp_X8_of p0 (0 : Int32) t_set (fun (r_3 : Int32) => ((¬ r_3 = 0 → (Q (7 : Int32))) ∧ (r_3 = 0 → (Q (1 : Int32)))))
set_option maxHeartbeats 4000000 in
set_option maxRecDepth 100000 in
theorem c_X8_firstKind {l : Launch} {D : va_G} {cB cI cJ cL cS : ClassId} {T : Nat × Nat × Nat × Nat} {a : Nat → Nat} {p0 : Int32} {t_tape : Nat → Int32} {t_taped : Int32} {t_set : Nat → Int32} {t_highest : Nat → Int64} {t_units : Nat → Int64} {t_kinds : Nat → Int32} {t_sideKind : Nat → Int32} {t_side : Nat → Int32} {t_active : Int32} {t_rests : Int32} {t_writes : Nat → Int32} {t_more : Nat → Int64} {t_packed : Nat → Int32} {t_packedMany : Int32} {t_at : Int32} {t_wrong : Int32} {t_number : Int64} {t_readSort : Int32} {t_readDigits : Int32} {t_readHighest : Int64} {t_wasSet : Nat → Int32} {t_wasHighest : Nat → Int64} {t_wasUnits : Nat → Int64} {t_wasKinds : Nat → Int32} {t_wasSideKind : Nat → Int32} {t_wasSide : Nat → Int32} {t_undone : Int32} {Q : Int32 → Prop} (hw : wp_X8_firstKind p0 t_set Q) : CtI l D (Z5 cB cI cJ cL cS) T yX8_firstKind cX8_firstKind 2 ({ frames := 1, cells := 0, slots := 0, locals := 22 } : Room) (Option.some Jvm.ClassFile.FieldType.int) [.ref (a 0), .int p0] (wM cB cI cJ a t_tape t_taped t_set t_highest t_units t_kinds t_sideKind t_side t_active t_rests t_writes t_more t_packed t_packedMany t_at t_wrong t_number t_readSort t_readDigits t_readHighest t_wasSet t_wasHighest t_wasUnits t_wasKinds t_wasSideKind t_wasSide t_undone) (fun (u : Unit) => (wM cB cI cJ a t_tape t_taped t_set t_highest t_units t_kinds t_sideKind t_side t_active t_rests t_writes t_more t_packed t_packedMany t_at t_wrong t_number t_readSort t_readDigits t_readHighest t_wasSet t_wasHighest t_wasUnits t_wasKinds t_wasSideKind t_wasSide t_undone)) (fun (r : Int32) (u : Unit) => Q r ) 0 0 := by
  refine ctI_of (own := RX8) (by decide) rfl (Nat.le_of_ble_eq_true rfl) (fun p e s m below meth c A C => ?_)
  refine w_sub (lv' := [(0, .ref (a 0)), (1, .int p0)]) C [0, 1] rfl ?_
  unfold wp_X8_firstKind at hw
  refine w_aload_n C 0 dX8_firstKind_0 rfl ?_
  refine w_iload_n C 1 dX8_firstKind_1 rfl ?_
  refine w_iconst C (v := (0 : Int32)) dX8_firstKind_2 (by decide) ?_
  refine w_callVI C (c_X8_of hw) f_X8_of k_25 k_970 rfl ⟨Nat.le_of_ble_eq_true rfl, Nat.le_of_ble_eq_true rfl⟩ rfl rfl ⟨Nat.le_of_ble_eq_true rfl, Nat.le_of_ble_eq_true rfl⟩ 0 rfl (rr := (RX8, TX8, 27)) rfl rfl (fun _ => rfl) rfl (Nat.le_of_ble_eq_true rfl) dX8_firstKind_3 (fun r_3 u_3 hw => ?_)
  try dsimp only at hw
  refine w_if_ne C 13 (by decide) dX8_firstKind_6 (fun c_6 => ?_) (fun c_6 => ?_)
  · replace hw := hw.1 c_6
    refine w_bipush C (v := (7 : Int32)) dX8_firstKind_13 (by decide) ?_
    exact w_iret C () hw rfl (Nat.le_of_ble_eq_true rfl) (Nat.le_of_ble_eq_true rfl) dX8_firstKind_15
  · replace hw := hw.2 c_6
    refine w_iconst C (v := (1 : Int32)) dX8_firstKind_9 (by decide) ?_
    refine w_goto C 15 (by decide) dX8_firstKind_10 ?_
    exact w_iret C () hw rfl (Nat.le_of_ble_eq_true rfl) (Nat.le_of_ble_eq_true rfl) dX8_firstKind_15
def wp_X8_holds (p0 : Int32) (p1 : Int64)  (Q : Int32 → Prop) : Prop := (((p0).toInt = 1 → ((((1 : Int64) < p1 → (Q (0 : Int32))) ∧ (¬ (1 : Int64) < p1 → (Q (1 : Int32)))))) ∧ ((p0).toInt = 2 → ((((127 : Int64) < p1 → (Q (0 : Int32))) ∧ (¬ (127 : Int64) < p1 → (Q (1 : Int32)))))) ∧ ((p0).toInt = 3 → ((((32767 : Int64) < p1 → (Q (0 : Int32))) ∧ (¬ (32767 : Int64) < p1 → (Q (1 : Int32)))))) ∧ ((p0).toInt = 4 → ((((65535 : Int64) < p1 → (Q (0 : Int32))) ∧ (¬ (65535 : Int64) < p1 → (Q (1 : Int32)))))) ∧ ((p0).toInt = 5 → ((((2147483647 : Int64) < p1 → (Q (0 : Int32))) ∧ (¬ (2147483647 : Int64) < p1 → (Q (1 : Int32)))))) ∧ ((p0).toInt = 6 → (Q (1 : Int32))) ∧ ((p0).toInt = 7 → ((((1048576 : Int64) < p1 → (Q (0 : Int32))) ∧ (¬ (1048576 : Int64) < p1 → (Q (1 : Int32)))))) ∧ ((p0).toInt < 1 ∨ 7 < (p0).toInt → (Q (1 : Int32))))
set_option maxHeartbeats 4000000 in
set_option maxRecDepth 100000 in
theorem c_X8_holds {l : Launch} {D : va_G} {cB cI cJ cL cS : ClassId} {T : Nat × Nat × Nat × Nat}  {p0 : Int32} {p1 : Int64}  {Q : Int32 → Prop} (hw : wp_X8_holds p0 p1  Q) : CtI l D (Z5 cB cI cJ cL cS) T yX8_holds cX8_holds 3 ({ frames := 0, cells := 0, slots := 0, locals := 0 } : Room) (Option.some Jvm.ClassFile.FieldType.boolean) [.int p0, .long p1] [] (fun (u : Unit) => []) (fun (r : Int32) (u : Unit) => Q r ) 0 0 := by
  refine ctI_of (own := RX8) (by decide) rfl (Nat.le_of_ble_eq_true rfl) (fun p e s m below meth c A C => ?_)
  refine w_sub (lv' := [(0, .int p0), (1, .long p1)]) C [0, 1] rfl ?_
  unfold wp_X8_holds at hw
  refine w_iload_n C 0 dX8_holds_0 rfl ?_
  by_cases h1_1 : (p0).toInt < 1
  · replace hw := hw.2.2.2.2.2.2.2 (Or.inl h1_1)
    refine w_tout C 126 (Or.inl h1_1) (by decide) dX8_holds_1 ?_
    refine w_iconst C (v := (1 : Int32)) dX8_holds_126 (by decide) ?_
    exact w_zret C () (Or.inr rfl) hw rfl (Nat.le_of_ble_eq_true rfl) (Nat.le_of_ble_eq_true rfl) dX8_holds_127
  by_cases h2_1 : 7 < (p0).toInt
  · replace hw := hw.2.2.2.2.2.2.2 (Or.inr h2_1)
    refine w_tout C 126 (Or.inr h2_1) (by decide) dX8_holds_1 ?_
    refine w_iconst C (v := (1 : Int32)) dX8_holds_126 (by decide) ?_
    exact w_zret C () (Or.inr rfl) hw rfl (Nat.le_of_ble_eq_true rfl) (Nat.le_of_ble_eq_true rfl) dX8_holds_127
  rcases (show (p0).toInt = 1 ∨ (p0).toInt = 2 ∨ (p0).toInt = 3 ∨ (p0).toInt = 4 ∨ (p0).toInt = 5 ∨ (p0).toInt = 6 ∨ (p0).toInt = 7 by omega) with h3_1 | h3_1 | h3_1 | h3_1 | h3_1 | h3_1 | h3_1
  · replace hw := hw.1 h3_1
    refine w_tin C 44 h1_1 h2_1 (by rw [h3_1]; rfl) (by decide) dX8_holds_1 ?_
    refine w_lload_n C 1 dX8_holds_44 rfl ?_
    refine w_lconst C (v := (1 : Int64)) dX8_holds_45 (by decide) ?_
    refine w_lcmp_gt C 47 54 rfl (by decide) dX8_holds_46 dX8_holds_47 (fun c_46 => ?_) (fun c_46 => ?_)
    · replace hw := hw.1 c_46
      refine w_iconst C (v := (0 : Int32)) dX8_holds_54 (by decide) ?_
      exact w_zret C () (Or.inl rfl) hw rfl (Nat.le_of_ble_eq_true rfl) (Nat.le_of_ble_eq_true rfl) dX8_holds_55
    · replace hw := hw.2 c_46
      refine w_iconst C (v := (1 : Int32)) dX8_holds_50 (by decide) ?_
      refine w_goto C 55 (by decide) dX8_holds_51 ?_
      exact w_zret C () (Or.inr rfl) hw rfl (Nat.le_of_ble_eq_true rfl) (Nat.le_of_ble_eq_true rfl) dX8_holds_55
  · replace hw := hw.2.1 h3_1
    refine w_tin C 56 h1_1 h2_1 (by rw [h3_1]; rfl) (by decide) dX8_holds_1 ?_
    refine w_lload_n C 1 dX8_holds_56 rfl ?_
    refine w_ldc2 C (v := (127 : Int64)) dX8_holds_57 k_1013 ?_
    refine w_lcmp_gt C 61 68 rfl (by decide) dX8_holds_60 dX8_holds_61 (fun c_60 => ?_) (fun c_60 => ?_)
    · replace hw := hw.1 c_60
      refine w_iconst C (v := (0 : Int32)) dX8_holds_68 (by decide) ?_
      exact w_zret C () (Or.inl rfl) hw rfl (Nat.le_of_ble_eq_true rfl) (Nat.le_of_ble_eq_true rfl) dX8_holds_69
    · replace hw := hw.2 c_60
      refine w_iconst C (v := (1 : Int32)) dX8_holds_64 (by decide) ?_
      refine w_goto C 69 (by decide) dX8_holds_65 ?_
      exact w_zret C () (Or.inr rfl) hw rfl (Nat.le_of_ble_eq_true rfl) (Nat.le_of_ble_eq_true rfl) dX8_holds_69
  · replace hw := hw.2.2.1 h3_1
    refine w_tin C 70 h1_1 h2_1 (by rw [h3_1]; rfl) (by decide) dX8_holds_1 ?_
    refine w_lload_n C 1 dX8_holds_70 rfl ?_
    refine w_ldc2 C (v := (32767 : Int64)) dX8_holds_71 k_1014 ?_
    refine w_lcmp_gt C 75 82 rfl (by decide) dX8_holds_74 dX8_holds_75 (fun c_74 => ?_) (fun c_74 => ?_)
    · replace hw := hw.1 c_74
      refine w_iconst C (v := (0 : Int32)) dX8_holds_82 (by decide) ?_
      exact w_zret C () (Or.inl rfl) hw rfl (Nat.le_of_ble_eq_true rfl) (Nat.le_of_ble_eq_true rfl) dX8_holds_83
    · replace hw := hw.2 c_74
      refine w_iconst C (v := (1 : Int32)) dX8_holds_78 (by decide) ?_
      refine w_goto C 83 (by decide) dX8_holds_79 ?_
      exact w_zret C () (Or.inr rfl) hw rfl (Nat.le_of_ble_eq_true rfl) (Nat.le_of_ble_eq_true rfl) dX8_holds_83
  · replace hw := hw.2.2.2.1 h3_1
    refine w_tin C 84 h1_1 h2_1 (by rw [h3_1]; rfl) (by decide) dX8_holds_1 ?_
    refine w_lload_n C 1 dX8_holds_84 rfl ?_
    refine w_ldc2 C (v := (65535 : Int64)) dX8_holds_85 k_1002 ?_
    refine w_lcmp_gt C 89 96 rfl (by decide) dX8_holds_88 dX8_holds_89 (fun c_88 => ?_) (fun c_88 => ?_)
    · replace hw := hw.1 c_88
      refine w_iconst C (v := (0 : Int32)) dX8_holds_96 (by decide) ?_
      exact w_zret C () (Or.inl rfl) hw rfl (Nat.le_of_ble_eq_true rfl) (Nat.le_of_ble_eq_true rfl) dX8_holds_97
    · replace hw := hw.2 c_88
      refine w_iconst C (v := (1 : Int32)) dX8_holds_92 (by decide) ?_
      refine w_goto C 97 (by decide) dX8_holds_93 ?_
      exact w_zret C () (Or.inr rfl) hw rfl (Nat.le_of_ble_eq_true rfl) (Nat.le_of_ble_eq_true rfl) dX8_holds_97
  · replace hw := hw.2.2.2.2.1 h3_1
    refine w_tin C 98 h1_1 h2_1 (by rw [h3_1]; rfl) (by decide) dX8_holds_1 ?_
    refine w_lload_n C 1 dX8_holds_98 rfl ?_
    refine w_ldc2 C (v := (2147483647 : Int64)) dX8_holds_99 k_1015 ?_
    refine w_lcmp_gt C 103 110 rfl (by decide) dX8_holds_102 dX8_holds_103 (fun c_102 => ?_) (fun c_102 => ?_)
    · replace hw := hw.1 c_102
      refine w_iconst C (v := (0 : Int32)) dX8_holds_110 (by decide) ?_
      exact w_zret C () (Or.inl rfl) hw rfl (Nat.le_of_ble_eq_true rfl) (Nat.le_of_ble_eq_true rfl) dX8_holds_111
    · replace hw := hw.2 c_102
      refine w_iconst C (v := (1 : Int32)) dX8_holds_106 (by decide) ?_
      refine w_goto C 111 (by decide) dX8_holds_107 ?_
      exact w_zret C () (Or.inr rfl) hw rfl (Nat.le_of_ble_eq_true rfl) (Nat.le_of_ble_eq_true rfl) dX8_holds_111
  · replace hw := hw.2.2.2.2.2.1 h3_1
    refine w_tin C 126 h1_1 h2_1 (by rw [h3_1]; rfl) (by decide) dX8_holds_1 ?_
    refine w_iconst C (v := (1 : Int32)) dX8_holds_126 (by decide) ?_
    exact w_zret C () (Or.inr rfl) hw rfl (Nat.le_of_ble_eq_true rfl) (Nat.le_of_ble_eq_true rfl) dX8_holds_127
  · replace hw := hw.2.2.2.2.2.2.1 h3_1
    refine w_tin C 112 h1_1 h2_1 (by rw [h3_1]; rfl) (by decide) dX8_holds_1 ?_
    refine w_lload_n C 1 dX8_holds_112 rfl ?_
    refine w_ldc2 C (v := (1048576 : Int64)) dX8_holds_113 k_1016 ?_
    refine w_lcmp_gt C 117 124 rfl (by decide) dX8_holds_116 dX8_holds_117 (fun c_116 => ?_) (fun c_116 => ?_)
    · replace hw := hw.1 c_116
      refine w_iconst C (v := (0 : Int32)) dX8_holds_124 (by decide) ?_
      exact w_zret C () (Or.inl rfl) hw rfl (Nat.le_of_ble_eq_true rfl) (Nat.le_of_ble_eq_true rfl) dX8_holds_125
    · replace hw := hw.2 c_116
      refine w_iconst C (v := (1 : Int32)) dX8_holds_120 (by decide) ?_
      refine w_goto C 125 (by decide) dX8_holds_121 ?_
      exact w_zret C () (Or.inr rfl) hw rfl (Nat.le_of_ble_eq_true rfl) (Nat.le_of_ble_eq_true rfl) dX8_holds_125
def bod_X8_kindFor_2   (Q : Int32 → Prop) (x1 : Int64)  (K2 : Int32 → Prop) (x3 : Int32) : Prop := wp_X8_holds x3 x1  (fun (r_4 : Int32) => ((¬ r_4 = 0 → (Q x3)) ∧ (r_4 = 0 → (∀ x3_10 : Int32, x3_10 = x3 + (1 : Int32) → K2 x3_10))))
def lp_X8_kindFor_2   (Q : Int32 → Prop) (x1 : Int64)  : Nat → Int32 → Prop
  | 0, _ => False
  | j + 1, x3 => bod_X8_kindFor_2   Q x1 (fun v0 => lp_X8_kindFor_2   Q x1 j v0) x3
def wp_X8_kindFor (p0 : Int32) (p1 : Int64)  (Q : Int32 → Prop) : Prop := ∀ x3_1 : Int32, x3_1 = p0 → (∃ j : Nat, lp_X8_kindFor_2   Q p1 j x3_1)
set_option maxHeartbeats 4000000 in
set_option maxRecDepth 100000 in
theorem wl_X8_kindFor_2 {p : Program} {l : Launch} {e : Env} {s : State} {m : MethodId} {args : Array Value} {below : List Frame} {meth : Method} {c : Code} {D : va_G} {cB cI cJ cL cS : ClassId} {T : Nat × Nat × Nat × Nat} {A : Nat → Prop}   {Q : Int32 → Prop} (C : Cq p s m args meth c D (Z5 cB cI cJ cL cS) T A cX8_kindFor RX8 4 (Option.some Jvm.ClassFile.FieldType.int))  {x1 : Int64}  : ∀ (j : Nat) (x3 : Int32), lp_X8_kindFor_2   Q x1 j x3 → ww p l e ({ frames := 1, cells := 0, slots := 0, locals := 22 } : Room) s m args below meth c D A 4 (MQ below (va_Qi (fun (r : Int32) (u : Unit) => Q r ) (OutP D (fun (u : Unit) => [])) A) args s 0 0 A) 0 0 [] 2 [(1, .long x1), (3, .int x3)] [] := by
  intro j
  induction j with
  | zero => intro _ hw; exact hw.elim
  | succ j hK2 =>
    intro x3 hw
    have hw : bod_X8_kindFor_2   Q x1 (fun v0 => lp_X8_kindFor_2   Q x1 j v0) x3 := hw
    unfold bod_X8_kindFor_2 at hw
    refine w_iload_n C 1 dX8_kindFor_2 rfl ?_
    refine w_lload_n C 0 dX8_kindFor_3 rfl ?_
    refine w_callSI C (c_X8_holds hw) f_X8_holds k_1010 rfl ⟨Nat.le_of_ble_eq_true rfl, Nat.le_of_ble_eq_true rfl⟩ rfl rfl ⟨Nat.le_of_ble_eq_true rfl, Nat.le_of_ble_eq_true rfl⟩ rfl (Nat.le_of_ble_eq_true rfl) dX8_kindFor_4 (fun r_4 u_4 hw => ?_)
    try dsimp only at hw
    refine w_if_ne C 16 (by decide) dX8_kindFor_7 (fun c_7 => ?_) (fun c_7 => ?_)
    · replace hw := hw.1 c_7
      refine w_iload_n C 1 dX8_kindFor_16 rfl ?_
      exact w_iret C () hw rfl (Nat.le_of_ble_eq_true rfl) (Nat.le_of_ble_eq_true rfl) dX8_kindFor_17
    · replace hw := hw.2 c_7
      refine w_iinc C (v := x3 + (1 : Int32)) 1 (fun x3_10 => [(3, .int x3_10), (1, .long x1)]) dX8_kindFor_10 rfl rfl (by decide) (fun _ => rfl) (fun x3_10 e_x3_10 => ?_)
      replace hw := hw x3_10 e_x3_10
      refine w_goto C 2 (by decide) dX8_kindFor_13 ?_
      refine w_sub (lv' := [(1, .long x1), (3, .int x3_10)]) C [1, 0] rfl ?_
      exact hK2 _ hw
set_option maxHeartbeats 4000000 in
set_option maxRecDepth 100000 in
theorem c_X8_kindFor {l : Launch} {D : va_G} {cB cI cJ cL cS : ClassId} {T : Nat × Nat × Nat × Nat}  {p0 : Int32} {p1 : Int64}  {Q : Int32 → Prop} (hw : wp_X8_kindFor p0 p1  Q) : CtI l D (Z5 cB cI cJ cL cS) T yX8_kindFor cX8_kindFor 4 ({ frames := 1, cells := 0, slots := 0, locals := 22 } : Room) (Option.some Jvm.ClassFile.FieldType.int) [.int p0, .long p1] [] (fun (u : Unit) => []) (fun (r : Int32) (u : Unit) => Q r ) 0 0 := by
  refine ctI_of (own := RX8) (by decide) rfl (Nat.le_of_ble_eq_true rfl) (fun p e s m below meth c A C => ?_)
  refine w_sub (lv' := [(0, .int p0), (1, .long p1)]) C [0, 1] rfl ?_
  unfold wp_X8_kindFor at hw
  refine w_iload_n C 0 dX8_kindFor_0 rfl ?_
  refine w_istore_n C (fun x3_1 => [(3, .int x3_1), (0, .int p0), (1, .long p1)]) dX8_kindFor_1 (by decide) (fun _ => rfl) (fun x3_1 e_x3_1 => ?_)
  replace hw := hw x3_1 e_x3_1
  refine w_sub (lv' := [(1, .long p1), (3, .int x3_1)]) C [2, 0] rfl ?_
  obtain ⟨j, hw⟩ := hw
  exact wl_X8_kindFor_2 C  j _ hw
def wp_X8_isRow (p0 : Int32) (p1 : Int32) (t_kinds : Nat → Int32) (Q : Int32 → Prop) : Prop := (vp_in (((272 : Int32) * p0) + p1) 1088) ∧ wp_X8_isIn (((t_kinds ((((272 : Int32) * p0) + p1)).toNatClampNeg)).toInt64) (1 : Int64) (8 : Int64)  (fun (r_17 : Int32) => (r_17 = 0 ∨ r_17 = 1) ∧ Q r_17)
set_option maxHeartbeats 4000000 in
set_option maxRecDepth 100000 in
theorem c_X8_isRow {l : Launch} {D : va_G} {cB cI cJ cL cS : ClassId} {T : Nat × Nat × Nat × Nat} {a : Nat → Nat} {p0 : Int32} {p1 : Int32} {t_tape : Nat → Int32} {t_taped : Int32} {t_set : Nat → Int32} {t_highest : Nat → Int64} {t_units : Nat → Int64} {t_kinds : Nat → Int32} {t_sideKind : Nat → Int32} {t_side : Nat → Int32} {t_active : Int32} {t_rests : Int32} {t_writes : Nat → Int32} {t_more : Nat → Int64} {t_packed : Nat → Int32} {t_packedMany : Int32} {t_at : Int32} {t_wrong : Int32} {t_number : Int64} {t_readSort : Int32} {t_readDigits : Int32} {t_readHighest : Int64} {t_wasSet : Nat → Int32} {t_wasHighest : Nat → Int64} {t_wasUnits : Nat → Int64} {t_wasKinds : Nat → Int32} {t_wasSideKind : Nat → Int32} {t_wasSide : Nat → Int32} {t_undone : Int32} {Q : Int32 → Prop} (hw : wp_X8_isRow p0 p1 t_kinds Q) : CtI l D (Z5 cB cI cJ cL cS) T yX8_isRow cX8_isRow 3 ({ frames := 1, cells := 0, slots := 0, locals := 25 } : Room) (Option.some Jvm.ClassFile.FieldType.boolean) [.ref (a 0), .int p0, .int p1] (wM cB cI cJ a t_tape t_taped t_set t_highest t_units t_kinds t_sideKind t_side t_active t_rests t_writes t_more t_packed t_packedMany t_at t_wrong t_number t_readSort t_readDigits t_readHighest t_wasSet t_wasHighest t_wasUnits t_wasKinds t_wasSideKind t_wasSide t_undone) (fun (u : Unit) => (wM cB cI cJ a t_tape t_taped t_set t_highest t_units t_kinds t_sideKind t_side t_active t_rests t_writes t_more t_packed t_packedMany t_at t_wrong t_number t_readSort t_readDigits t_readHighest t_wasSet t_wasHighest t_wasUnits t_wasKinds t_wasSideKind t_wasSide t_undone)) (fun (r : Int32) (u : Unit) => Q r ) 0 0 := by
  refine ctI_of (own := RX8) (by decide) rfl (Nat.le_of_ble_eq_true rfl) (fun p e s m below meth c A C => ?_)
  refine w_sub (lv' := [(0, .ref (a 0)), (1, .int p0), (2, .int p1)]) C [0, 1, 2] rfl ?_
  unfold wp_X8_isRow at hw
  refine w_aload_n C 0 dX8_isRow_0 rfl ?_
  refine w_get C (T1 := TX8) 0 5 u_X8 k_823 rfl (by decide) rfl rfl dX8_isRow_1 ?_
  refine w_sipush C (v := (272 : Int32)) dX8_isRow_4 (by decide) ?_
  refine w_iload_n C 1 dX8_isRow_7 rfl ?_
  refine w_imul C dX8_isRow_8 ?_
  refine w_iload_n C 2 dX8_isRow_9 rfl ?_
  refine w_iadd C dX8_isRow_10 ?_
  obtain ⟨hi_11, hw⟩ := hw
  refine w_baload C 5 0 rfl rfl hi_11 dX8_isRow_11 ?_
  refine w_i2l C dX8_isRow_12 ?_
  refine w_lconst C (v := (1 : Int64)) dX8_isRow_13 (by decide) ?_
  refine w_ldc2 C (v := (8 : Int64)) dX8_isRow_14 k_1062 ?_
  refine w_callSI C (c_X8_isIn hw) f_X8_isIn k_909 rfl ⟨Nat.le_of_ble_eq_true rfl, Nat.le_of_ble_eq_true rfl⟩ rfl rfl ⟨Nat.le_of_ble_eq_true rfl, Nat.le_of_ble_eq_true rfl⟩ rfl (Nat.le_of_ble_eq_true rfl) dX8_isRow_17 (fun r_17 u_17 hw => ?_)
  try dsimp only at hw
  obtain ⟨hz_20, hw⟩ := hw
  exact w_zret C () hz_20 hw rfl (Nat.le_of_ble_eq_true rfl) (Nat.le_of_ble_eq_true rfl) dX8_isRow_20
def blk_X8_writesPlace_65 (t_set : Nat → Int32)  (Q : (Nat → Int64) → (Nat → Int32) → Prop) (x1 : Int32) (x2 : Int32) (x3 : Int64) (x5 : Int32) (k0 : Int32) (t_units : Nat → Int64) (t_kinds : Nat → Int32) : Prop := ∀ x6_65 : Int32, x6_65 = k0 → wp_X8_kindFor x6_65 x3  (fun (r_82 : Int32) => (vp_in (((272 : Int32) * x1) + x5) 1088) ∧ ∀ t_kinds_86 : Nat → Int32, t_kinds_86 = upd t_kinds ((((272 : Int32) * x1) + x5)).toNatClampNeg (vp_nar .byte ((r_82).toInt8.toInt32)) → (vp_in (((4352 : Int32) * x1) + x2) 17408) ∧ ∀ t_units_99 : Nat → Int64, t_units_99 = vp_updL t_units ((((4352 : Int32) * x1) + x2)).toNatClampNeg x3 → Q t_units_99 t_kinds_86)
def wp_X8_writesPlace (p0 : Int32) (p1 : Int32) (p2 : Int64) (t_set : Nat → Int32) (t_units : Nat → Int64) (t_kinds : Nat → Int32) (Q : (Nat → Int64) → (Nat → Int32) → Prop) : Prop := (vp_in (((4352 : Int32) * p0) + p1) 17408) ∧ ((¬ (t_units ((((4352 : Int32) * p0) + p1)).toNatClampNeg) = p2 → (∀ x5_22 : Int32, x5_22 = (p1 / (16 : Int32)) → wp_X8_isRow p0 x5_22 t_kinds (fun (r_28 : Int32) => ((r_28 = 0 → (wp_X8_firstKind p0 t_set (fun (r_52 : Int32) => wp_X8_mostOf p0 x5_22 t_units (fun (r_59 : Int64) => wp_X8_kindFor r_52 r_59  (fun (r_62 : Int32) => (blk_X8_writesPlace_65 t_set  Q p0 p1 p2 x5_22 r_62 t_units t_kinds)))))) ∧ (¬ r_28 = 0 → ((vp_in (((272 : Int32) * p0) + x5_22) 1088) ∧ (blk_X8_writesPlace_65 t_set  Q p0 p1 p2 x5_22 (t_kinds ((((272 : Int32) * p0) + x5_22)).toNatClampNeg) t_units t_kinds))))))) ∧ ((t_units ((((4352 : Int32) * p0) + p1)).toNatClampNeg) = p2 → (Q t_units t_kinds)))
set_option maxHeartbeats 4000000 in
set_option maxRecDepth 100000 in
theorem wk_X8_writesPlace_65 {p : Program} {l : Launch} {e : Env} {s : State} {m : MethodId} {args : Array Value} {below : List Frame} {meth : Method} {c : Code} {D : va_G} {cB cI cJ cL cS : ClassId} {T : Nat × Nat × Nat × Nat} {A : Nat → Prop} {a : Nat → Nat} {t_tape : Nat → Int32} {t_taped : Int32} {t_set : Nat → Int32} {t_highest : Nat → Int64} {t_sideKind : Nat → Int32} {t_side : Nat → Int32} {t_active : Int32} {t_rests : Int32} {t_writes : Nat → Int32} {t_more : Nat → Int64} {t_packed : Nat → Int32} {t_packedMany : Int32} {t_at : Int32} {t_wrong : Int32} {t_number : Int64} {t_readSort : Int32} {t_readDigits : Int32} {t_readHighest : Int64} {t_wasSet : Nat → Int32} {t_wasHighest : Nat → Int64} {t_wasUnits : Nat → Int64} {t_wasKinds : Nat → Int32} {t_wasSideKind : Nat → Int32} {t_wasSide : Nat → Int32} {t_undone : Int32} {Q : (Nat → Int64) → (Nat → Int32) → Prop} (C : Cq p s m args meth c D (Z5 cB cI cJ cL cS) T A cX8_writesPlace RX8 7 (Option.none : Option Jvm.ClassFile.FieldType))  {x1 : Int32} {x2 : Int32} {x3 : Int64} {x5 : Int32} {k0 : Int32} {t_units : Nat → Int64} {t_kinds : Nat → Int32} (hw : blk_X8_writesPlace_65 t_set  Q x1 x2 x3 x5 k0 t_units t_kinds) : ww p l e ({ frames := 2, cells := 0, slots := 0, locals := 47 } : Room) s m args below meth c D A 7 (MQ below (va_Qv (fun (u : (Nat → Int64) × (Nat → Int32)) => Q u.1 u.2) (OutP D (fun (u : (Nat → Int64) × (Nat → Int32)) => (wM cB cI cJ a t_tape t_taped t_set t_highest u.1 u.2 t_sideKind t_side t_active t_rests t_writes t_more t_packed t_packedMany t_at t_wrong t_number t_readSort t_readDigits t_readHighest t_wasSet t_wasHighest t_wasUnits t_wasKinds t_wasSideKind t_wasSide t_undone))) A) args s 0 0 A) 0 0 (wM cB cI cJ a t_tape t_taped t_set t_highest t_units t_kinds t_sideKind t_side t_active t_rests t_writes t_more t_packed t_packedMany t_at t_wrong t_number t_readSort t_readDigits t_readHighest t_wasSet t_wasHighest t_wasUnits t_wasKinds t_wasSideKind t_wasSide t_undone) 65 [(0, .ref (a 0)), (1, .int x1), (2, .int x2), (3, .long x3), (5, .int x5)] [.int k0] := by
  unfold blk_X8_writesPlace_65 at hw
  refine w_istore C (fun x6_65 => [(6, .int x6_65), (0, .ref (a 0)), (1, .int x1), (2, .int x2), (3, .long x3), (5, .int x5)]) dX8_writesPlace_65 (by decide) (fun _ => rfl) (fun x6_65 e_x6_65 => ?_)
  replace hw := hw x6_65 e_x6_65
  refine w_aload_n C 1 dX8_writesPlace_67 rfl ?_
  refine w_get C (T1 := TX8) 0 5 u_X8 k_823 rfl (by decide) rfl rfl dX8_writesPlace_68 ?_
  refine w_sipush C (v := (272 : Int32)) dX8_writesPlace_71 (by decide) ?_
  refine w_iload_n C 2 dX8_writesPlace_74 rfl ?_
  refine w_imul C dX8_writesPlace_75 ?_
  refine w_iload C 5 dX8_writesPlace_76 rfl ?_
  refine w_iadd C dX8_writesPlace_78 ?_
  refine w_iload C 0 dX8_writesPlace_79 rfl ?_
  refine w_lload_n C 4 dX8_writesPlace_81 rfl ?_
  refine w_callSI C (c_X8_kindFor hw) f_X8_kindFor k_1007 rfl ⟨Nat.le_of_ble_eq_true rfl, Nat.le_of_ble_eq_true rfl⟩ rfl rfl ⟨Nat.le_of_ble_eq_true rfl, Nat.le_of_ble_eq_true rfl⟩ rfl (Nat.le_of_ble_eq_true rfl) dX8_writesPlace_82 (fun r_82 u_82 hw => ?_)
  try dsimp only at hw
  refine w_i2b C dX8_writesPlace_85 ?_
  obtain ⟨hi_86, hw⟩ := hw
  refine w_bastore C 5 0 (fun z => (wM cB cI cJ a t_tape t_taped t_set t_highest t_units z t_sideKind t_side t_active t_rests t_writes t_more t_packed t_packedMany t_at t_wrong t_number t_readSort t_readDigits t_readHighest t_wasSet t_wasHighest t_wasUnits t_wasKinds t_wasSideKind t_wasSide t_undone)) rfl rfl hi_86 (fun _ => rfl) dX8_writesPlace_86 (fun t_kinds_86 e_t_kinds_86 => ?_)
  replace hw := hw t_kinds_86 e_t_kinds_86
  refine w_aload_n C 1 dX8_writesPlace_87 rfl ?_
  refine w_get C (T1 := TX8) 0 4 u_X8 k_822 rfl (by decide) rfl rfl dX8_writesPlace_88 ?_
  refine w_sipush C (v := (4352 : Int32)) dX8_writesPlace_91 (by decide) ?_
  refine w_iload_n C 2 dX8_writesPlace_94 rfl ?_
  refine w_imul C dX8_writesPlace_95 ?_
  refine w_iload_n C 3 dX8_writesPlace_96 rfl ?_
  refine w_iadd C dX8_writesPlace_97 ?_
  refine w_lload_n C 4 dX8_writesPlace_98 rfl ?_
  obtain ⟨hi_99, hw⟩ := hw
  refine w_lastore C 4 2 (fun z => (wM cB cI cJ a t_tape t_taped t_set t_highest z t_kinds_86 t_sideKind t_side t_active t_rests t_writes t_more t_packed t_packedMany t_at t_wrong t_number t_readSort t_readDigits t_readHighest t_wasSet t_wasHighest t_wasUnits t_wasKinds t_wasSideKind t_wasSide t_undone)) rfl rfl hi_99 (fun _ => rfl) dX8_writesPlace_99 (fun t_units_99 e_t_units_99 => ?_)
  replace hw := hw t_units_99 e_t_units_99
  exact w_vret C (t_units_99, t_kinds_86) hw rfl (Nat.le_of_ble_eq_true rfl) (Nat.le_of_ble_eq_true rfl) dX8_writesPlace_100
set_option maxHeartbeats 4000000 in
set_option maxRecDepth 100000 in
theorem c_X8_writesPlace {l : Launch} {D : va_G} {cB cI cJ cL cS : ClassId} {T : Nat × Nat × Nat × Nat} {a : Nat → Nat} {p0 : Int32} {p1 : Int32} {p2 : Int64} {t_tape : Nat → Int32} {t_taped : Int32} {t_set : Nat → Int32} {t_highest : Nat → Int64} {t_units : Nat → Int64} {t_kinds : Nat → Int32} {t_sideKind : Nat → Int32} {t_side : Nat → Int32} {t_active : Int32} {t_rests : Int32} {t_writes : Nat → Int32} {t_more : Nat → Int64} {t_packed : Nat → Int32} {t_packedMany : Int32} {t_at : Int32} {t_wrong : Int32} {t_number : Int64} {t_readSort : Int32} {t_readDigits : Int32} {t_readHighest : Int64} {t_wasSet : Nat → Int32} {t_wasHighest : Nat → Int64} {t_wasUnits : Nat → Int64} {t_wasKinds : Nat → Int32} {t_wasSideKind : Nat → Int32} {t_wasSide : Nat → Int32} {t_undone : Int32} {Q : (Nat → Int64) → (Nat → Int32) → Prop} (hw : wp_X8_writesPlace p0 p1 p2 t_set t_units t_kinds Q) : CtV l D (Z5 cB cI cJ cL cS) T yX8_writesPlace cX8_writesPlace 7 ({ frames := 2, cells := 0, slots := 0, locals := 47 } : Room) (Option.none : Option Jvm.ClassFile.FieldType) [.ref (a 0), .int p0, .int p1, .long p2] (wM cB cI cJ a t_tape t_taped t_set t_highest t_units t_kinds t_sideKind t_side t_active t_rests t_writes t_more t_packed t_packedMany t_at t_wrong t_number t_readSort t_readDigits t_readHighest t_wasSet t_wasHighest t_wasUnits t_wasKinds t_wasSideKind t_wasSide t_undone) (fun (u : (Nat → Int64) × (Nat → Int32)) => (wM cB cI cJ a t_tape t_taped t_set t_highest u.1 u.2 t_sideKind t_side t_active t_rests t_writes t_more t_packed t_packedMany t_at t_wrong t_number t_readSort t_readDigits t_readHighest t_wasSet t_wasHighest t_wasUnits t_wasKinds t_wasSideKind t_wasSide t_undone)) (fun (u : (Nat → Int64) × (Nat → Int32)) => Q u.1 u.2) 0 0 := by
  refine ctV_of (own := RX8) (by decide) rfl (Nat.le_of_ble_eq_true rfl) (fun p e s m below meth c A C => ?_)
  refine w_sub (lv' := [(0, .ref (a 0)), (1, .int p0), (2, .int p1), (3, .long p2)]) C [0, 1, 2, 3] rfl ?_
  unfold wp_X8_writesPlace at hw
  refine w_aload_n C 0 dX8_writesPlace_0 rfl ?_
  refine w_get C (T1 := TX8) 0 4 u_X8 k_822 rfl (by decide) rfl rfl dX8_writesPlace_1 ?_
  refine w_sipush C (v := (4352 : Int32)) dX8_writesPlace_4 (by decide) ?_
  refine w_iload_n C 1 dX8_writesPlace_7 rfl ?_
  refine w_imul C dX8_writesPlace_8 ?_
  refine w_iload_n C 2 dX8_writesPlace_9 rfl ?_
  refine w_iadd C dX8_writesPlace_10 ?_
  obtain ⟨hi_11, hw⟩ := hw
  refine w_laload C 4 2 rfl rfl hi_11 dX8_writesPlace_11 ?_
  refine w_lload_n C 3 dX8_writesPlace_12 rfl ?_
  refine w_lcmp_ne C 14 18 rfl (by decide) dX8_writesPlace_13 dX8_writesPlace_14 (fun c_13 => ?_) (fun c_13 => ?_)
  · replace hw := hw.1 c_13
    refine w_iload_n C 2 dX8_writesPlace_18 rfl ?_
    refine w_bipush C (v := (16 : Int32)) dX8_writesPlace_19 (by decide) ?_
    refine w_idiv C (by decide) dX8_writesPlace_21 ?_
    refine w_istore C (fun x5_22 => [(5, .int x5_22), (0, .ref (a 0)), (1, .int p0), (2, .int p1), (3, .long p2)]) dX8_writesPlace_22 (by decide) (fun _ => rfl) (fun x5_22 e_x5_22 => ?_)
    replace hw := hw x5_22 e_x5_22
    refine w_aload_n C 1 dX8_writesPlace_24 rfl ?_
    refine w_iload_n C 2 dX8_writesPlace_25 rfl ?_
    refine w_iload C 0 dX8_writesPlace_26 rfl ?_
    refine w_callVI C (c_X8_isRow hw) f_X8_isRow k_39 k_1058 rfl ⟨Nat.le_of_ble_eq_true rfl, Nat.le_of_ble_eq_true rfl⟩ rfl rfl ⟨Nat.le_of_ble_eq_true rfl, Nat.le_of_ble_eq_true rfl⟩ 0 rfl (rr := (RX8, TX8, 27)) rfl rfl (fun _ => rfl) rfl (Nat.le_of_ble_eq_true rfl) dX8_writesPlace_28 (fun r_28 u_28 hw => ?_)
    try dsimp only at hw
    refine w_if_eq C 50 (by decide) dX8_writesPlace_31 (fun c_31 => ?_) (fun c_31 => ?_)
    · replace hw := hw.1 c_31
      refine w_aload_n C 1 dX8_writesPlace_50 rfl ?_
      refine w_iload_n C 2 dX8_writesPlace_51 rfl ?_
      refine w_callVI C (c_X8_firstKind hw) f_X8_firstKind k_32 k_1003 rfl ⟨Nat.le_of_ble_eq_true rfl, Nat.le_of_ble_eq_true rfl⟩ rfl rfl ⟨Nat.le_of_ble_eq_true rfl, Nat.le_of_ble_eq_true rfl⟩ 0 rfl (rr := (RX8, TX8, 27)) rfl rfl (fun _ => rfl) rfl (Nat.le_of_ble_eq_true rfl) dX8_writesPlace_52 (fun r_52 u_52 hw => ?_)
      try dsimp only at hw
      refine w_aload_n C 1 dX8_writesPlace_55 rfl ?_
      refine w_iload_n C 2 dX8_writesPlace_56 rfl ?_
      refine w_iload C 0 dX8_writesPlace_57 rfl ?_
      refine w_callVL C (c_X8_mostOf hw) f_X8_mostOf k_30 k_994 rfl ⟨Nat.le_of_ble_eq_true rfl, Nat.le_of_ble_eq_true rfl⟩ rfl rfl ⟨Nat.le_of_ble_eq_true rfl, Nat.le_of_ble_eq_true rfl⟩ 0 rfl (rr := (RX8, TX8, 27)) rfl rfl (fun _ => rfl) rfl (Nat.le_of_ble_eq_true rfl) dX8_writesPlace_59 (fun r_59 u_59 hw => ?_)
      try dsimp only at hw
      refine w_callSI C (c_X8_kindFor hw) f_X8_kindFor k_1007 rfl ⟨Nat.le_of_ble_eq_true rfl, Nat.le_of_ble_eq_true rfl⟩ rfl rfl ⟨Nat.le_of_ble_eq_true rfl, Nat.le_of_ble_eq_true rfl⟩ rfl (Nat.le_of_ble_eq_true rfl) dX8_writesPlace_62 (fun r_62 u_62 hw => ?_)
      try dsimp only at hw
      refine w_sub (lv' := [(0, .ref (a 0)), (1, .int p0), (2, .int p1), (3, .long p2), (5, .int x5_22)]) C [1, 2, 3, 4, 0] rfl ?_
      exact wk_X8_writesPlace_65 C  hw
    · replace hw := hw.2 c_31
      refine w_aload_n C 1 dX8_writesPlace_34 rfl ?_
      refine w_get C (T1 := TX8) 0 5 u_X8 k_823 rfl (by decide) rfl rfl dX8_writesPlace_35 ?_
      refine w_sipush C (v := (272 : Int32)) dX8_writesPlace_38 (by decide) ?_
      refine w_iload_n C 2 dX8_writesPlace_41 rfl ?_
      refine w_imul C dX8_writesPlace_42 ?_
      refine w_iload C 0 dX8_writesPlace_43 rfl ?_
      refine w_iadd C dX8_writesPlace_45 ?_
      obtain ⟨hi_46, hw⟩ := hw
      refine w_baload C 5 0 rfl rfl hi_46 dX8_writesPlace_46 ?_
      refine w_goto C 65 (by decide) dX8_writesPlace_47 ?_
      refine w_sub (lv' := [(0, .ref (a 0)), (1, .int p0), (2, .int p1), (3, .long p2), (5, .int x5_22)]) C [1, 2, 3, 4, 0] rfl ?_
      exact wk_X8_writesPlace_65 C  hw
  · replace hw := hw.2 c_13
    exact w_vret C (t_units, t_kinds) hw rfl (Nat.le_of_ble_eq_true rfl) (Nat.le_of_ble_eq_true rfl) dX8_writesPlace_17
