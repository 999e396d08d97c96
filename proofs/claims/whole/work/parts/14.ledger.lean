def wp_X1_kindOf (p0 : Int32) (t_kinds : Nat → Int32) (Q : Int32 → Prop) : Prop := ((p0 < 0 → (Q (0 : Int32))) ∧ (¬ p0 < 0 → (((p0 < (271 : Int32) → ((vp_in p0 271) ∧ Q (t_kinds (p0).toNatClampNeg))) ∧ (¬ p0 < (271 : Int32) → (Q (0 : Int32)))))))
set_option maxHeartbeats 4000000 in
set_option maxRecDepth 100000 in
theorem c_X1_kindOf {l : Launch} {D : va_G} {cB cI cJ cL cS : ClassId} {T : Nat × Nat × Nat × Nat} {a : Nat → Nat} {p0 : Int32} {t_made : Int32} {t_sort : Int32} {t_digits : Int32} {t_slots : Int32} {t_pages : Int32} {t_highest : Int64} {t_units : Nat → Int64} {t_kinds : Nat → Int32} {t_rows : Nat → Int32} {t_marks : Nat → Int32} {Q : Int32 → Prop} (hw : wp_X1_kindOf p0 t_kinds Q) : CtI l D (Z5 cB cI cJ cL cS) T yX1_kindOf cX1_kindOf 2 ({ frames := 0, cells := 0, slots := 0, locals := 0 } : Room) (Option.some Jvm.ClassFile.FieldType.int) [.ref (a 0), .int p0] (wL cB cI cJ a t_made t_sort t_digits t_slots t_pages t_highest t_units t_kinds t_rows t_marks) (fun (u : Unit) => (wL cB cI cJ a t_made t_sort t_digits t_slots t_pages t_highest t_units t_kinds t_rows t_marks)) (fun (r : Int32) (u : Unit) => Q r ) 0 0 := by
  refine ctI_of (own := RX1) (by decide +kernel) rfl (Nat.le_of_ble_eq_true rfl) (fun p e s m below meth c A C => ?_)
  refine w_sub (lv' := [(0, .ref (a 0)), (1, .int p0)]) C [0, 1] rfl ?_
  unfold wp_X1_kindOf at hw
  refine w_iload_n C 1 dX1_kindOf_0 rfl ?_
  refine w_if_lt C 13 (by decide) dX1_kindOf_1 (fun c_1 => ?_) (fun c_1 => ?_)
  · replace hw := hw.1 c_1
    refine w_iconst C (v := (0 : Int32)) dX1_kindOf_13 (by decide) ?_
    refine w_goto C 23 (by decide) dX1_kindOf_14 ?_
    exact w_iret C () hw rfl (Nat.le_of_ble_eq_true rfl) (Nat.le_of_ble_eq_true rfl) dX1_kindOf_23
  · replace hw := hw.2 c_1
    refine w_iload_n C 1 dX1_kindOf_4 rfl ?_
    refine w_aload_n C 0 dX1_kindOf_5 rfl ?_
    refine w_get C (T1 := TX1) 0 7 u_X1 k_159 rfl (by decide) rfl rfl dX1_kindOf_6 ?_
    refine w_alen C (v := (271 : Int32)) 2 1 rfl rfl rfl dX1_kindOf_9 ?_
    refine w_icmp_lt C 17 (by decide) dX1_kindOf_10 (fun c_10 => ?_) (fun c_10 => ?_)
    · replace hw := hw.1 c_10
      refine w_aload_n C 0 dX1_kindOf_17 rfl ?_
      refine w_get C (T1 := TX1) 0 7 u_X1 k_159 rfl (by decide) rfl rfl dX1_kindOf_18 ?_
      refine w_iload_n C 1 dX1_kindOf_21 rfl ?_
      obtain ⟨hi_22, hw⟩ := hw
      refine w_iaload C 2 1 rfl rfl hi_22 dX1_kindOf_22 ?_
      exact w_iret C () hw rfl (Nat.le_of_ble_eq_true rfl) (Nat.le_of_ble_eq_true rfl) dX1_kindOf_23
    · replace hw := hw.2 c_10
      refine w_iconst C (v := (0 : Int32)) dX1_kindOf_13 (by decide) ?_
      refine w_goto C 23 (by decide) dX1_kindOf_14 ?_
      exact w_iret C () hw rfl (Nat.le_of_ble_eq_true rfl) (Nat.le_of_ble_eq_true rfl) dX1_kindOf_23
def wp_X1_endOf (p0 : Int32) (t_slots : Int32) (t_kinds : Nat → Int32) (Q : Int32 → Prop) : Prop := wp_X1_kindOf p0 t_kinds (fun (r_2 : Int32) => ((¬ r_2 = 0 → (Q (if (((16 : Int32) * p0) + (16 : Int32)) < t_slots then (((16 : Int32) * p0) + (16 : Int32)) else t_slots))) ∧ (r_2 = 0 → (Q ((16 : Int32) * p0)))))
set_option maxHeartbeats 4000000 in
set_option maxRecDepth 100000 in
theorem c_X1_endOf {l : Launch} {D : va_G} {cB cI cJ cL cS : ClassId} {T : Nat × Nat × Nat × Nat} {a : Nat → Nat} {p0 : Int32} {t_made : Int32} {t_sort : Int32} {t_digits : Int32} {t_slots : Int32} {t_pages : Int32} {t_highest : Int64} {t_units : Nat → Int64} {t_kinds : Nat → Int32} {t_rows : Nat → Int32} {t_marks : Nat → Int32} {Q : Int32 → Prop} (hw : wp_X1_endOf p0 t_slots t_kinds Q) : CtI l D (Z5 cB cI cJ cL cS) T yX1_endOf cX1_endOf 2 ({ frames := 1, cells := 0, slots := 0, locals := 32 } : Room) (Option.some Jvm.ClassFile.FieldType.int) [.ref (a 0), .int p0] (wL cB cI cJ a t_made t_sort t_digits t_slots t_pages t_highest t_units t_kinds t_rows t_marks) (fun (u : Unit) => (wL cB cI cJ a t_made t_sort t_digits t_slots t_pages t_highest t_units t_kinds t_rows t_marks)) (fun (r : Int32) (u : Unit) => Q r ) 0 0 := by
  refine ctI_of (own := RX1) (by decide +kernel) rfl (Nat.le_of_ble_eq_true rfl) (fun p e s m below meth c A C => ?_)
  refine w_sub (lv' := [(0, .ref (a 0)), (1, .int p0)]) C [0, 1] rfl ?_
  unfold wp_X1_endOf at hw
  refine w_aload_n C 0 dX1_endOf_0 rfl ?_
  refine w_iload_n C 1 dX1_endOf_1 rfl ?_
  refine w_callVI C (c_X1_kindOf hw) f_X1_kindOf k_283 k_281 rfl ⟨Nat.le_of_ble_eq_true rfl, Nat.le_of_ble_eq_true rfl⟩ rfl rfl ⟨Nat.le_of_ble_eq_true rfl, Nat.le_of_ble_eq_true rfl⟩ 0 rfl (rr := (RX1, TX1, 10)) rfl rfl (fun _ => rfl) rfl (Nat.le_of_ble_eq_true rfl) dX1_endOf_2 (fun r_2 u_2 hw => ?_)
  try dsimp only at hw
  refine w_if_ne C 15 (by decide) dX1_endOf_5 (fun c_5 => ?_) (fun c_5 => ?_)
  · replace hw := hw.1 c_5
    refine w_aload_n C 0 dX1_endOf_15 rfl ?_
    refine w_get C (T1 := TX1) 0 3 u_X1 k_152 rfl (by decide) rfl rfl dX1_endOf_16 ?_
    refine w_bipush C (v := (16 : Int32)) dX1_endOf_19 (by decide) ?_
    refine w_iload_n C 1 dX1_endOf_21 rfl ?_
    refine w_imul C dX1_endOf_22 ?_
    refine w_bipush C (v := (16 : Int32)) dX1_endOf_23 (by decide) ?_
    refine w_iadd C dX1_endOf_25 ?_
    refine w_imin C k_285 f_imin.1 f_imin.2.1 f_imin.2.2 (Nat.le_of_ble_eq_true rfl) (Nat.le_of_ble_eq_true rfl) (Nat.le_of_ble_eq_true rfl) (Nat.le_of_ble_eq_true rfl) dX1_endOf_26 ?_
    exact w_iret C () hw rfl (Nat.le_of_ble_eq_true rfl) (Nat.le_of_ble_eq_true rfl) dX1_endOf_29
  · replace hw := hw.2 c_5
    refine w_bipush C (v := (16 : Int32)) dX1_endOf_8 (by decide) ?_
    refine w_iload_n C 1 dX1_endOf_10 rfl ?_
    refine w_imul C dX1_endOf_11 ?_
    refine w_goto C 29 (by decide) dX1_endOf_12 ?_
    exact w_iret C () hw rfl (Nat.le_of_ble_eq_true rfl) (Nat.le_of_ble_eq_true rfl) dX1_endOf_29
def wp_X1_unitsOf (p0 : Int32) (t_units : Nat → Int64) (Q : Int64 → Prop) : Prop := ((p0 < 0 → (Q (0 : Int64))) ∧ (¬ p0 < 0 → (((p0 < (4336 : Int32) → ((vp_in p0 4336) ∧ Q (t_units (p0).toNatClampNeg))) ∧ (¬ p0 < (4336 : Int32) → (Q (0 : Int64)))))))
set_option maxHeartbeats 4000000 in
set_option maxRecDepth 100000 in
theorem c_X1_unitsOf {l : Launch} {D : va_G} {cB cI cJ cL cS : ClassId} {T : Nat × Nat × Nat × Nat} {a : Nat → Nat} {p0 : Int32} {t_made : Int32} {t_sort : Int32} {t_digits : Int32} {t_slots : Int32} {t_pages : Int32} {t_highest : Int64} {t_units : Nat → Int64} {t_kinds : Nat → Int32} {t_rows : Nat → Int32} {t_marks : Nat → Int32} {Q : Int64 → Prop} (hw : wp_X1_unitsOf p0 t_units Q) : CtL l D (Z5 cB cI cJ cL cS) T yX1_unitsOf cX1_unitsOf 2 ({ frames := 0, cells := 0, slots := 0, locals := 0 } : Room) (Option.some Jvm.ClassFile.FieldType.long) [.ref (a 0), .int p0] (wL cB cI cJ a t_made t_sort t_digits t_slots t_pages t_highest t_units t_kinds t_rows t_marks) (fun (u : Unit) => (wL cB cI cJ a t_made t_sort t_digits t_slots t_pages t_highest t_units t_kinds t_rows t_marks)) (fun (r : Int64) (u : Unit) => Q r ) 0 0 := by
  refine ctL_of (own := RX1) (by decide +kernel) rfl (Nat.le_of_ble_eq_true rfl) (fun p e s m below meth c A C => ?_)
  refine w_sub (lv' := [(0, .ref (a 0)), (1, .int p0)]) C [0, 1] rfl ?_
  unfold wp_X1_unitsOf at hw
  refine w_iload_n C 1 dX1_unitsOf_0 rfl ?_
  refine w_if_lt C 13 (by decide) dX1_unitsOf_1 (fun c_1 => ?_) (fun c_1 => ?_)
  · replace hw := hw.1 c_1
    refine w_lconst C (v := (0 : Int64)) dX1_unitsOf_13 (by decide) ?_
    refine w_goto C 23 (by decide) dX1_unitsOf_14 ?_
    exact w_lret C () hw rfl (Nat.le_of_ble_eq_true rfl) (Nat.le_of_ble_eq_true rfl) dX1_unitsOf_23
  · replace hw := hw.2 c_1
    refine w_iload_n C 1 dX1_unitsOf_4 rfl ?_
    refine w_aload_n C 0 dX1_unitsOf_5 rfl ?_
    refine w_get C (T1 := TX1) 0 6 u_X1 k_158 rfl (by decide) rfl rfl dX1_unitsOf_6 ?_
    refine w_alen C (v := (4336 : Int32)) 1 2 rfl rfl rfl dX1_unitsOf_9 ?_
    refine w_icmp_lt C 17 (by decide) dX1_unitsOf_10 (fun c_10 => ?_) (fun c_10 => ?_)
    · replace hw := hw.1 c_10
      refine w_aload_n C 0 dX1_unitsOf_17 rfl ?_
      refine w_get C (T1 := TX1) 0 6 u_X1 k_158 rfl (by decide) rfl rfl dX1_unitsOf_18 ?_
      refine w_iload_n C 1 dX1_unitsOf_21 rfl ?_
      obtain ⟨hi_22, hw⟩ := hw
      refine w_laload C 1 2 rfl rfl hi_22 dX1_unitsOf_22 ?_
      exact w_lret C () hw rfl (Nat.le_of_ble_eq_true rfl) (Nat.le_of_ble_eq_true rfl) dX1_unitsOf_23
    · replace hw := hw.2 c_10
      refine w_lconst C (v := (0 : Int64)) dX1_unitsOf_13 (by decide) ?_
      refine w_goto C 23 (by decide) dX1_unitsOf_14 ?_
      exact w_lret C () hw rfl (Nat.le_of_ble_eq_true rfl) (Nat.le_of_ble_eq_true rfl) dX1_unitsOf_23
def bod_X1_lastUsed_19 (t_slots : Int32) (t_pages : Int32) (t_units : Nat → Int64) (t_kinds : Nat → Int32) (K7 : Int32 → Prop) (Q : Int32 → Prop) (x1 : Int32)  (K19 : Int32 → Prop) (x2 : Int32) : Prop := ((x2 < ((16 : Int32) * x1) → (∀ x1_45 : Int32, x1_45 = x1 + (-1 : Int32) → K7 x1_45)) ∧ (¬ x2 < ((16 : Int32) * x1) → (wp_X1_unitsOf x2 t_units (fun (r_29 : Int64) => ((r_29 = (0 : Int64) → (∀ x2_39 : Int32, x2_39 = x2 + (-1 : Int32) → K19 x2_39)) ∧ (¬ r_29 = (0 : Int64) → (Q x2)))))))
def lp_X1_lastUsed_19 (t_slots : Int32) (t_pages : Int32) (t_units : Nat → Int64) (t_kinds : Nat → Int32) (K7 : Int32 → Prop) (Q : Int32 → Prop) (x1 : Int32)  : Nat → Int32 → Prop
  | 0, _ => False
  | j + 1, x2 => bod_X1_lastUsed_19 t_slots t_pages t_units t_kinds K7 Q x1 (fun v0 => lp_X1_lastUsed_19 t_slots t_pages t_units t_kinds K7 Q x1 j v0) x2
def bod_X1_lastUsed_7 (t_slots : Int32) (t_pages : Int32) (t_units : Nat → Int64) (t_kinds : Nat → Int32)  (Q : Int32 → Prop)   (K7 : Int32 → Prop) (x1 : Int32) : Prop := ((x1 < 0 → (Q (-1 : Int32))) ∧ (¬ x1 < 0 → (wp_X1_endOf x1 t_slots t_kinds (fun (r_13 : Int32) => ∀ x2_18 : Int32, x2_18 = (r_13 - (1 : Int32)) → (∃ j : Nat, lp_X1_lastUsed_19 t_slots t_pages t_units t_kinds K7 Q x1 j x2_18)))))
def lp_X1_lastUsed_7 (t_slots : Int32) (t_pages : Int32) (t_units : Nat → Int64) (t_kinds : Nat → Int32)  (Q : Int32 → Prop)   : Nat → Int32 → Prop
  | 0, _ => False
  | j + 1, x1 => bod_X1_lastUsed_7 t_slots t_pages t_units t_kinds  Q  (fun v0 => lp_X1_lastUsed_7 t_slots t_pages t_units t_kinds  Q  j v0) x1
def wp_X1_lastUsed  (t_slots : Int32) (t_pages : Int32) (t_units : Nat → Int64) (t_kinds : Nat → Int32) (Q : Int32 → Prop) : Prop := ∀ x1_6 : Int32, x1_6 = (t_pages - (1 : Int32)) → (∃ j : Nat, lp_X1_lastUsed_7 t_slots t_pages t_units t_kinds  Q  j x1_6)
set_option maxHeartbeats 4000000 in
set_option maxRecDepth 100000 in
theorem wl_X1_lastUsed_19 {p : Program} {l : Launch} {e : Env} {s : State} {m : MethodId} {args : Array Value} {below : List Frame} {meth : Method} {c : Code} {D : va_G} {cB cI cJ cL cS : ClassId} {T : Nat × Nat × Nat × Nat} {A : Nat → Prop} {a : Nat → Nat} {t_made : Int32} {t_sort : Int32} {t_digits : Int32} {t_slots : Int32} {t_pages : Int32} {t_highest : Int64} {t_units : Nat → Int64} {t_kinds : Nat → Int32} {t_rows : Nat → Int32} {t_marks : Nat → Int32} {Q : Int32 → Prop} (C : Cq p s m args meth c D (Z5 cB cI cJ cL cS) T A cX1_lastUsed RX1 3 (Option.some Jvm.ClassFile.FieldType.int)) {x1 : Int32}  {K7 : Int32 → Prop} (hK7 : ∀ (y1 : Int32), K7 y1 → ww p l e ({ frames := 2, cells := 0, slots := 0, locals := 53 } : Room) s m args below meth c D A 3 (MQ below (va_Qi (fun (r : Int32) (u : Unit) => Q r ) (OutP D (fun (u : Unit) => (wL cB cI cJ a t_made t_sort t_digits t_slots t_pages t_highest t_units t_kinds t_rows t_marks))) A) args s 0 0 A) 0 0 (wL cB cI cJ a t_made t_sort t_digits t_slots t_pages t_highest t_units t_kinds t_rows t_marks) 7 [(0, .ref (a 0)), (1, .int y1)] []) : ∀ (j : Nat) (x2 : Int32), lp_X1_lastUsed_19 t_slots t_pages t_units t_kinds K7 Q x1 j x2 → ww p l e ({ frames := 2, cells := 0, slots := 0, locals := 53 } : Room) s m args below meth c D A 3 (MQ below (va_Qi (fun (r : Int32) (u : Unit) => Q r ) (OutP D (fun (u : Unit) => (wL cB cI cJ a t_made t_sort t_digits t_slots t_pages t_highest t_units t_kinds t_rows t_marks))) A) args s 0 0 A) 0 0 (wL cB cI cJ a t_made t_sort t_digits t_slots t_pages t_highest t_units t_kinds t_rows t_marks) 19 [(0, .ref (a 0)), (1, .int x1), (2, .int x2)] [] := by
  intro j
  induction j with
  | zero => intro _ hw; exact hw.elim
  | succ j hK19 =>
    intro x2 hw
    have hw : bod_X1_lastUsed_19 t_slots t_pages t_units t_kinds K7 Q x1 (fun v0 => lp_X1_lastUsed_19 t_slots t_pages t_units t_kinds K7 Q x1 j v0) x2 := hw
    unfold bod_X1_lastUsed_19 at hw
    refine w_iload_n C 2 dX1_lastUsed_19 rfl ?_
    refine w_bipush C (v := (16 : Int32)) dX1_lastUsed_20 (by decide) ?_
    refine w_iload_n C 1 dX1_lastUsed_22 rfl ?_
    refine w_imul C dX1_lastUsed_23 ?_
    refine w_icmp_lt C 45 (by decide) dX1_lastUsed_24 (fun c_24 => ?_) (fun c_24 => ?_)
    · replace hw := hw.1 c_24
      refine w_iinc C (v := x1 + (-1 : Int32)) 1 (fun x1_45 => [(1, .int x1_45), (0, .ref (a 0)), (2, .int x2)]) dX1_lastUsed_45 rfl rfl (by decide) (fun _ => rfl) (fun x1_45 e_x1_45 => ?_)
      replace hw := hw x1_45 e_x1_45
      refine w_goto C 7 (by decide) dX1_lastUsed_48 ?_
      refine w_sub (lv' := [(0, .ref (a 0)), (1, .int x1_45)]) C [1, 0] rfl ?_
      exact hK7 _ hw
    · replace hw := hw.2 c_24
      refine w_aload_n C 0 dX1_lastUsed_27 rfl ?_
      refine w_iload_n C 2 dX1_lastUsed_28 rfl ?_
      refine w_callVL C (c_X1_unitsOf hw) f_X1_unitsOf k_290 k_288 rfl ⟨Nat.le_of_ble_eq_true rfl, Nat.le_of_ble_eq_true rfl⟩ rfl rfl ⟨Nat.le_of_ble_eq_true rfl, Nat.le_of_ble_eq_true rfl⟩ 0 rfl (rr := (RX1, TX1, 10)) rfl rfl (fun _ => rfl) rfl (Nat.le_of_ble_eq_true rfl) dX1_lastUsed_29 (fun r_29 u_29 hw => ?_)
      try dsimp only at hw
      refine w_lconst C (v := (0 : Int64)) dX1_lastUsed_32 (by decide) ?_
      refine w_lcmp_eq C 34 39 rfl (by decide) dX1_lastUsed_33 dX1_lastUsed_34 (fun c_33 => ?_) (fun c_33 => ?_)
      · replace hw := hw.1 c_33
        refine w_iinc C (v := x2 + (-1 : Int32)) 2 (fun x2_39 => [(2, .int x2_39), (0, .ref (a 0)), (1, .int x1)]) dX1_lastUsed_39 rfl rfl (by decide) (fun _ => rfl) (fun x2_39 e_x2_39 => ?_)
        replace hw := hw x2_39 e_x2_39
        refine w_goto C 19 (by decide) dX1_lastUsed_42 ?_
        refine w_sub (lv' := [(0, .ref (a 0)), (1, .int x1), (2, .int x2_39)]) C [1, 2, 0] rfl ?_
        exact hK19 _ hw
      · replace hw := hw.2 c_33
        refine w_iload_n C 2 dX1_lastUsed_37 rfl ?_
        exact w_iret C () hw rfl (Nat.le_of_ble_eq_true rfl) (Nat.le_of_ble_eq_true rfl) dX1_lastUsed_38
set_option maxHeartbeats 4000000 in
set_option maxRecDepth 100000 in
theorem wl_X1_lastUsed_7 {p : Program} {l : Launch} {e : Env} {s : State} {m : MethodId} {args : Array Value} {below : List Frame} {meth : Method} {c : Code} {D : va_G} {cB cI cJ cL cS : ClassId} {T : Nat × Nat × Nat × Nat} {A : Nat → Prop} {a : Nat → Nat} {t_made : Int32} {t_sort : Int32} {t_digits : Int32} {t_slots : Int32} {t_pages : Int32} {t_highest : Int64} {t_units : Nat → Int64} {t_kinds : Nat → Int32} {t_rows : Nat → Int32} {t_marks : Nat → Int32} {Q : Int32 → Prop} (C : Cq p s m args meth c D (Z5 cB cI cJ cL cS) T A cX1_lastUsed RX1 3 (Option.some Jvm.ClassFile.FieldType.int))    : ∀ (j : Nat) (x1 : Int32), lp_X1_lastUsed_7 t_slots t_pages t_units t_kinds  Q  j x1 → ww p l e ({ frames := 2, cells := 0, slots := 0, locals := 53 } : Room) s m args below meth c D A 3 (MQ below (va_Qi (fun (r : Int32) (u : Unit) => Q r ) (OutP D (fun (u : Unit) => (wL cB cI cJ a t_made t_sort t_digits t_slots t_pages t_highest t_units t_kinds t_rows t_marks))) A) args s 0 0 A) 0 0 (wL cB cI cJ a t_made t_sort t_digits t_slots t_pages t_highest t_units t_kinds t_rows t_marks) 7 [(0, .ref (a 0)), (1, .int x1)] [] := by
  intro j
  induction j with
  | zero => intro _ hw; exact hw.elim
  | succ j hK7 =>
    intro x1 hw
    have hw : bod_X1_lastUsed_7 t_slots t_pages t_units t_kinds  Q  (fun v0 => lp_X1_lastUsed_7 t_slots t_pages t_units t_kinds  Q  j v0) x1 := hw
    unfold bod_X1_lastUsed_7 at hw
    refine w_iload_n C 1 dX1_lastUsed_7 rfl ?_
    refine w_if_lt C 51 (by decide) dX1_lastUsed_8 (fun c_8 => ?_) (fun c_8 => ?_)
    · replace hw := hw.1 c_8
      refine w_iconst C (v := (-1 : Int32)) dX1_lastUsed_51 (by decide) ?_
      exact w_iret C () hw rfl (Nat.le_of_ble_eq_true rfl) (Nat.le_of_ble_eq_true rfl) dX1_lastUsed_52
    · replace hw := hw.2 c_8
      refine w_aload_n C 0 dX1_lastUsed_11 rfl ?_
      refine w_iload_n C 1 dX1_lastUsed_12 rfl ?_
      refine w_callVI C (c_X1_endOf hw) f_X1_endOf k_2 k_277 rfl ⟨Nat.le_of_ble_eq_true rfl, Nat.le_of_ble_eq_true rfl⟩ rfl rfl ⟨Nat.le_of_ble_eq_true rfl, Nat.le_of_ble_eq_true rfl⟩ 0 rfl (rr := (RX1, TX1, 10)) rfl rfl (fun _ => rfl) rfl (Nat.le_of_ble_eq_true rfl) dX1_lastUsed_13 (fun r_13 u_13 hw => ?_)
      try dsimp only at hw
      refine w_iconst C (v := (1 : Int32)) dX1_lastUsed_16 (by decide) ?_
      refine w_isub C dX1_lastUsed_17 ?_
      refine w_istore_n C (fun x2_18 => [(2, .int x2_18), (0, .ref (a 0)), (1, .int x1)]) dX1_lastUsed_18 (by decide) (fun _ => rfl) (fun x2_18 e_x2_18 => ?_)
      replace hw := hw x2_18 e_x2_18
      refine w_sub (lv' := [(0, .ref (a 0)), (1, .int x1), (2, .int x2_18)]) C [1, 2, 0] rfl ?_
      obtain ⟨j, hw⟩ := hw
      exact wl_X1_lastUsed_19 C hK7 j _ hw
set_option maxHeartbeats 4000000 in
set_option maxRecDepth 100000 in
theorem c_X1_lastUsed {l : Launch} {D : va_G} {cB cI cJ cL cS : ClassId} {T : Nat × Nat × Nat × Nat} {a : Nat → Nat}  {t_made : Int32} {t_sort : Int32} {t_digits : Int32} {t_slots : Int32} {t_pages : Int32} {t_highest : Int64} {t_units : Nat → Int64} {t_kinds : Nat → Int32} {t_rows : Nat → Int32} {t_marks : Nat → Int32} {Q : Int32 → Prop} (hw : wp_X1_lastUsed  t_slots t_pages t_units t_kinds Q) : CtI l D (Z5 cB cI cJ cL cS) T yX1_lastUsed cX1_lastUsed 3 ({ frames := 2, cells := 0, slots := 0, locals := 53 } : Room) (Option.some Jvm.ClassFile.FieldType.int) [.ref (a 0)] (wL cB cI cJ a t_made t_sort t_digits t_slots t_pages t_highest t_units t_kinds t_rows t_marks) (fun (u : Unit) => (wL cB cI cJ a t_made t_sort t_digits t_slots t_pages t_highest t_units t_kinds t_rows t_marks)) (fun (r : Int32) (u : Unit) => Q r ) 0 0 := by
  refine ctI_of (own := RX1) (by decide +kernel) rfl (Nat.le_of_ble_eq_true rfl) (fun p e s m below meth c A C => ?_)
  refine w_sub (lv' := [(0, .ref (a 0))]) C [0] rfl ?_
  unfold wp_X1_lastUsed at hw
  refine w_aload_n C 0 dX1_lastUsed_0 rfl ?_
  refine w_get C (T1 := TX1) 0 4 u_X1 k_154 rfl (by decide) rfl rfl dX1_lastUsed_1 ?_
  refine w_iconst C (v := (1 : Int32)) dX1_lastUsed_4 (by decide) ?_
  refine w_isub C dX1_lastUsed_5 ?_
  refine w_istore_n C (fun x1_6 => [(1, .int x1_6), (0, .ref (a 0))]) dX1_lastUsed_6 (by decide) (fun _ => rfl) (fun x1_6 e_x1_6 => ?_)
  replace hw := hw x1_6 e_x1_6
  refine w_sub (lv' := [(0, .ref (a 0)), (1, .int x1_6)]) C [1, 0] rfl ?_
  obtain ⟨j, hw⟩ := hw
  exact wl_X1_lastUsed_7 C  j _ hw
def blk_X1_packTo_134 (t_sort : Int32) (t_digits : Int32) (t_slots : Int32) (t_pages : Int32) (t_highest : Int64) (t_units : Nat → Int64) (t_kinds : Nat → Int32) (K60 : Int32 → Int64 → Int32 → (Nat → Int32) → Int32 → Prop) (Q : Int32 → (Nat → Int32) → Int32 → Prop) (x2 : Int32) (x3 : Int64) (x5 : Int32) (x6 : Int32) (p_bytes : Nat → Int32) (p_length : Int32) : Prop := ∀ x6_134 : Int32, x6_134 = x6 + (1 : Int32) → K60 x2 x3 x6_134 p_bytes p_length
def blk_X1_packTo_131 (t_sort : Int32) (t_digits : Int32) (t_slots : Int32) (t_pages : Int32) (t_highest : Int64) (t_units : Nat → Int64) (t_kinds : Nat → Int32) (K60 : Int32 → Int64 → Int32 → (Nat → Int32) → Int32 → Prop) (Q : Int32 → (Nat → Int32) → Int32 → Prop) (x5 : Int32) (x6 : Int32) (k0 : Int32) (p_bytes : Nat → Int32) (p_length : Int32) : Prop := ∀ x2_131 : Int32, x2_131 = k0 → ∀ x3_133 : Int64, x3_133 = (0 : Int64) → (blk_X1_packTo_134 t_sort t_digits t_slots t_pages t_highest t_units t_kinds K60 Q x2_131 x3_133 x5 x6 p_bytes p_length)
def blk_X1_packTo_130 (t_sort : Int32) (t_digits : Int32) (t_slots : Int32) (t_pages : Int32) (t_highest : Int64) (t_units : Nat → Int64) (t_kinds : Nat → Int32) (K60 : Int32 → Int64 → Int32 → (Nat → Int32) → Int32 → Prop) (Q : Int32 → (Nat → Int32) → Int32 → Prop) (x5 : Int32) (x6 : Int32) (p_bytes : Nat → Int32) (p_length : Int32) : Prop := (blk_X1_packTo_131 t_sort t_digits t_slots t_pages t_highest t_units t_kinds K60 Q x5 x6 (0 : Int32) p_bytes p_length)
def blk_X1_packTo_113 (t_sort : Int32) (t_digits : Int32) (t_slots : Int32) (t_pages : Int32) (t_highest : Int64) (t_units : Nat → Int64) (t_kinds : Nat → Int32) (K60 : Int32 → Int64 → Int32 → (Nat → Int32) → Int32 → Prop) (Q : Int32 → (Nat → Int32) → Int32 → Prop) (x5 : Int32) (x6 : Int32) (x7 : Int64) (p_bytes : Nat → Int32) (p_length : Int32) : Prop := wp_X5_appendNumber ((2 : Int64) * x7) p_bytes p_length (fun (r_120 : Int32) (p_bytes_120 : Nat → Int32) (p_length_120 : Int32) => ((r_120 = 0 → ((blk_X1_packTo_130 t_sort t_digits t_slots t_pages t_highest t_units t_kinds K60 Q x5 x6 p_bytes_120 p_length_120))) ∧ (¬ r_120 = 0 → ((blk_X1_packTo_131 t_sort t_digits t_slots t_pages t_highest t_units t_kinds K60 Q x5 x6 (1 : Int32) p_bytes_120 p_length_120)))))
def bod_X1_packTo_60 (t_sort : Int32) (t_digits : Int32) (t_slots : Int32) (t_pages : Int32) (t_highest : Int64) (t_units : Nat → Int64) (t_kinds : Nat → Int32)  (Q : Int32 → (Nat → Int32) → Int32 → Prop) (x5 : Int32)  (K60 : Int32 → Int64 → Int32 → (Nat → Int32) → Int32 → Prop) (x2 : Int32) (x3 : Int64) (x6 : Int32) (p_bytes : Nat → Int32) (p_length : Int32) : Prop := ((x5 < x6 → ((x2 = 0 ∨ x2 = 1) ∧ Q x2 p_bytes p_length)) ∧ (¬ x5 < x6 → (((x2 = 0 → ((x2 = 0 ∨ x2 = 1) ∧ Q x2 p_bytes p_length)) ∧ (¬ x2 = 0 → (wp_X1_unitsOf x6 t_units (fun (r_74 : Int64) => ∀ x7_77 : Int64, x7_77 = r_74 → ((¬ x7_77 = (0 : Int64) → (((x3 = (0 : Int64) → ((blk_X1_packTo_113 t_sort t_digits t_slots t_pages t_highest t_units t_kinds K60 Q x5 x6 x7_77 p_bytes p_length))) ∧ (¬ x3 = (0 : Int64) → (wp_X5_appendNumber (((2 : Int64) * x3) - (1 : Int64)) p_bytes p_length (fun (r_107 : Int32) (p_bytes_107 : Nat → Int32) (p_length_107 : Int32) => ((r_107 = 0 → ((blk_X1_packTo_130 t_sort t_digits t_slots t_pages t_highest t_units t_kinds K60 Q x5 x6 p_bytes_107 p_length_107))) ∧ (¬ r_107 = 0 → ((blk_X1_packTo_113 t_sort t_digits t_slots t_pages t_highest t_units t_kinds K60 Q x5 x6 x7_77 p_bytes_107 p_length_107)))))))))) ∧ (x7_77 = (0 : Int64) → (∀ x3_89 : Int64, x3_89 = (x3 + (1 : Int64)) → (blk_X1_packTo_134 t_sort t_digits t_slots t_pages t_highest t_units t_kinds K60 Q x2 x3_89 x5 x6 p_bytes p_length)))))))))))
def lp_X1_packTo_60 (t_sort : Int32) (t_digits : Int32) (t_slots : Int32) (t_pages : Int32) (t_highest : Int64) (t_units : Nat → Int64) (t_kinds : Nat → Int32)  (Q : Int32 → (Nat → Int32) → Int32 → Prop) (x5 : Int32)  : Nat → Int32 → Int64 → Int32 → (Nat → Int32) → Int32 → Prop
  | 0, _, _, _, _, _ => False
  | j + 1, x2, x3, x6, p_bytes, p_length => bod_X1_packTo_60 t_sort t_digits t_slots t_pages t_highest t_units t_kinds  Q x5 (fun v0 v1 v2 v3 v4 => lp_X1_packTo_60 t_sort t_digits t_slots t_pages t_highest t_units t_kinds  Q x5 j v0 v1 v2 v3 v4) x2 x3 x6 p_bytes p_length
def blk_X1_packTo_48 (t_sort : Int32) (t_digits : Int32) (t_slots : Int32) (t_pages : Int32) (t_highest : Int64) (t_units : Nat → Int64) (t_kinds : Nat → Int32)  (Q : Int32 → (Nat → Int32) → Int32 → Prop) (k0 : Int32) (p_bytes : Nat → Int32) (p_length : Int32) : Prop := ∀ x2_48 : Int32, x2_48 = k0 → ∀ x3_50 : Int64, x3_50 = (0 : Int64) → wp_X1_lastUsed  t_slots t_pages t_units t_kinds (fun (r_52 : Int32) => ∀ x5_55 : Int32, x5_55 = r_52 → ∀ x6_58 : Int32, x6_58 = (0 : Int32) → (∃ j : Nat, lp_X1_packTo_60 t_sort t_digits t_slots t_pages t_highest t_units t_kinds  Q x5_55 j x2_48 x3_50 x6_58 p_bytes p_length))
def blk_X1_packTo_47 (t_sort : Int32) (t_digits : Int32) (t_slots : Int32) (t_pages : Int32) (t_highest : Int64) (t_units : Nat → Int64) (t_kinds : Nat → Int32)  (Q : Int32 → (Nat → Int32) → Int32 → Prop) (p_bytes : Nat → Int32) (p_length : Int32) : Prop := (blk_X1_packTo_48 t_sort t_digits t_slots t_pages t_highest t_units t_kinds  Q (0 : Int32) p_bytes p_length)
def wp_X1_packTo  (t_sort : Int32) (t_digits : Int32) (t_slots : Int32) (t_pages : Int32) (t_highest : Int64) (t_units : Nat → Int64) (t_kinds : Nat → Int32) (p_bytes : Nat → Int32) (p_length : Int32) (Q : Int32 → (Nat → Int32) → Int32 → Prop) : Prop := wp_X5_append (165 : Int32) p_bytes p_length (fun (r_4 : Int32) (p_bytes_4 : Nat → Int32) (p_length_4 : Int32) => ((r_4 = 0 → ((blk_X1_packTo_47 t_sort t_digits t_slots t_pages t_highest t_units t_kinds  Q p_bytes_4 p_length_4))) ∧ (¬ r_4 = 0 → (wp_X5_append t_sort p_bytes_4 p_length_4 (fun (r_15 : Int32) (p_bytes_15 : Nat → Int32) (p_length_15 : Int32) => ((r_15 = 0 → ((blk_X1_packTo_47 t_sort t_digits t_slots t_pages t_highest t_units t_kinds  Q p_bytes_15 p_length_15))) ∧ (¬ r_15 = 0 → (wp_X5_append t_digits p_bytes_15 p_length_15 (fun (r_26 : Int32) (p_bytes_26 : Nat → Int32) (p_length_26 : Int32) => ((r_26 = 0 → ((blk_X1_packTo_47 t_sort t_digits t_slots t_pages t_highest t_units t_kinds  Q p_bytes_26 p_length_26))) ∧ (¬ r_26 = 0 → (wp_X5_appendNumber t_highest p_bytes_26 p_length_26 (fun (r_37 : Int32) (p_bytes_37 : Nat → Int32) (p_length_37 : Int32) => ((r_37 = 0 → ((blk_X1_packTo_47 t_sort t_digits t_slots t_pages t_highest t_units t_kinds  Q p_bytes_37 p_length_37))) ∧ (¬ r_37 = 0 → ((blk_X1_packTo_48 t_sort t_digits t_slots t_pages t_highest t_units t_kinds  Q (1 : Int32) p_bytes_37 p_length_37)))))))))))))))))
set_option maxHeartbeats 4000000 in
set_option maxRecDepth 100000 in
theorem wk_X1_packTo_134 {p : Program} {l : Launch} {e : Env} {s : State} {m : MethodId} {args : Array Value} {below : List Frame} {meth : Method} {c : Code} {D : va_G} {cB cI cJ cL cS : ClassId} {T : Nat × Nat × Nat × Nat} {A : Nat → Prop} {a : Nat → Nat} {t : Nat → Nat} {t_made : Int32} {t_sort : Int32} {t_digits : Int32} {t_slots : Int32} {t_pages : Int32} {t_highest : Int64} {t_units : Nat → Int64} {t_kinds : Nat → Int32} {t_rows : Nat → Int32} {t_marks : Nat → Int32} {Q : Int32 → (Nat → Int32) → Int32 → Prop} (C : Cq p s m args meth c D (Z5 cB cI cJ cL cS) T A cX1_packTo RX1 9 (Option.some Jvm.ClassFile.FieldType.boolean)) {x2 : Int32} {x3 : Int64} {x5 : Int32} {x6 : Int32} {p_bytes : Nat → Int32} {p_length : Int32} {K60 : Int32 → Int64 → Int32 → (Nat → Int32) → Int32 → Prop} (hK60 : ∀ (y2 : Int32) (y3 : Int64) (y6 : Int32) (z_p_bytes : Nat → Int32) (z_p_length : Int32), K60 y2 y3 y6 z_p_bytes z_p_length → ww p l e ({ frames := 3, cells := 0, slots := 0, locals := 75 } : Room) s m args below meth c D A 9 (MQ below (va_Qi (fun (r : Int32) (u : (Nat → Int32) × Int32) => Q r u.1 u.2) (OutP D (fun (u : (Nat → Int32) × Int32) => (wL cB cI cJ a t_made t_sort t_digits t_slots t_pages t_highest t_units t_kinds t_rows t_marks ++ (wTp cB cI cJ t u.1 u.2)))) A) args s 0 0 A) 0 0 (wL cB cI cJ a t_made t_sort t_digits t_slots t_pages t_highest t_units t_kinds t_rows t_marks ++ (wTp cB cI cJ t z_p_bytes z_p_length)) 60 [(0, .ref (a 0)), (1, .ref (t 0)), (2, .int y2), (3, .long y3), (5, .int x5), (6, .int y6)] []) (hw : blk_X1_packTo_134 t_sort t_digits t_slots t_pages t_highest t_units t_kinds K60 Q x2 x3 x5 x6 p_bytes p_length) : ww p l e ({ frames := 3, cells := 0, slots := 0, locals := 75 } : Room) s m args below meth c D A 9 (MQ below (va_Qi (fun (r : Int32) (u : (Nat → Int32) × Int32) => Q r u.1 u.2) (OutP D (fun (u : (Nat → Int32) × Int32) => (wL cB cI cJ a t_made t_sort t_digits t_slots t_pages t_highest t_units t_kinds t_rows t_marks ++ (wTp cB cI cJ t u.1 u.2)))) A) args s 0 0 A) 0 0 (wL cB cI cJ a t_made t_sort t_digits t_slots t_pages t_highest t_units t_kinds t_rows t_marks ++ (wTp cB cI cJ t p_bytes p_length)) 134 [(0, .ref (a 0)), (1, .ref (t 0)), (2, .int x2), (3, .long x3), (5, .int x5), (6, .int x6)] [] := by
  unfold blk_X1_packTo_134 at hw
  refine w_iinc C (v := x6 + (1 : Int32)) 5 (fun x6_134 => [(6, .int x6_134), (0, .ref (a 0)), (1, .ref (t 0)), (2, .int x2), (3, .long x3), (5, .int x5)]) dX1_packTo_134 rfl rfl (by decide) (fun _ => rfl) (fun x6_134 e_x6_134 => ?_)
  replace hw := hw x6_134 e_x6_134
  refine w_goto C 60 (by decide) dX1_packTo_137 ?_
  refine w_sub (lv' := [(0, .ref (a 0)), (1, .ref (t 0)), (2, .int x2), (3, .long x3), (5, .int x5), (6, .int x6_134)]) C [1, 2, 3, 4, 5, 0] rfl ?_
  exact hK60 _ _ _ _ _ hw
set_option maxHeartbeats 4000000 in
set_option maxRecDepth 100000 in
theorem wk_X1_packTo_131 {p : Program} {l : Launch} {e : Env} {s : State} {m : MethodId} {args : Array Value} {below : List Frame} {meth : Method} {c : Code} {D : va_G} {cB cI cJ cL cS : ClassId} {T : Nat × Nat × Nat × Nat} {A : Nat → Prop} {a : Nat → Nat} {t : Nat → Nat} {t_made : Int32} {t_sort : Int32} {t_digits : Int32} {t_slots : Int32} {t_pages : Int32} {t_highest : Int64} {t_units : Nat → Int64} {t_kinds : Nat → Int32} {t_rows : Nat → Int32} {t_marks : Nat → Int32} {Q : Int32 → (Nat → Int32) → Int32 → Prop} (C : Cq p s m args meth c D (Z5 cB cI cJ cL cS) T A cX1_packTo RX1 9 (Option.some Jvm.ClassFile.FieldType.boolean)) {x5 : Int32} {x6 : Int32} {k0 : Int32} {p_bytes : Nat → Int32} {p_length : Int32} {K60 : Int32 → Int64 → Int32 → (Nat → Int32) → Int32 → Prop} (hK60 : ∀ (y2 : Int32) (y3 : Int64) (y6 : Int32) (z_p_bytes : Nat → Int32) (z_p_length : Int32), K60 y2 y3 y6 z_p_bytes z_p_length → ww p l e ({ frames := 3, cells := 0, slots := 0, locals := 75 } : Room) s m args below meth c D A 9 (MQ below (va_Qi (fun (r : Int32) (u : (Nat → Int32) × Int32) => Q r u.1 u.2) (OutP D (fun (u : (Nat → Int32) × Int32) => (wL cB cI cJ a t_made t_sort t_digits t_slots t_pages t_highest t_units t_kinds t_rows t_marks ++ (wTp cB cI cJ t u.1 u.2)))) A) args s 0 0 A) 0 0 (wL cB cI cJ a t_made t_sort t_digits t_slots t_pages t_highest t_units t_kinds t_rows t_marks ++ (wTp cB cI cJ t z_p_bytes z_p_length)) 60 [(0, .ref (a 0)), (1, .ref (t 0)), (2, .int y2), (3, .long y3), (5, .int x5), (6, .int y6)] []) (hw : blk_X1_packTo_131 t_sort t_digits t_slots t_pages t_highest t_units t_kinds K60 Q x5 x6 k0 p_bytes p_length) : ww p l e ({ frames := 3, cells := 0, slots := 0, locals := 75 } : Room) s m args below meth c D A 9 (MQ below (va_Qi (fun (r : Int32) (u : (Nat → Int32) × Int32) => Q r u.1 u.2) (OutP D (fun (u : (Nat → Int32) × Int32) => (wL cB cI cJ a t_made t_sort t_digits t_slots t_pages t_highest t_units t_kinds t_rows t_marks ++ (wTp cB cI cJ t u.1 u.2)))) A) args s 0 0 A) 0 0 (wL cB cI cJ a t_made t_sort t_digits t_slots t_pages t_highest t_units t_kinds t_rows t_marks ++ (wTp cB cI cJ t p_bytes p_length)) 131 [(0, .ref (a 0)), (1, .ref (t 0)), (5, .int x5), (6, .int x6)] [.int k0] := by
  unfold blk_X1_packTo_131 at hw
  refine w_istore_n C (fun x2_131 => [(2, .int x2_131), (0, .ref (a 0)), (1, .ref (t 0)), (5, .int x5), (6, .int x6)]) dX1_packTo_131 (by decide) (fun _ => rfl) (fun x2_131 e_x2_131 => ?_)
  replace hw := hw x2_131 e_x2_131
  refine w_lconst C (v := (0 : Int64)) dX1_packTo_132 (by decide) ?_
  refine w_lstore_n C (fun x3_133 => [(3, .long x3_133), (2, .int x2_131), (0, .ref (a 0)), (1, .ref (t 0)), (5, .int x5), (6, .int x6)]) dX1_packTo_133 (by decide) (fun _ => rfl) (fun x3_133 e_x3_133 => ?_)
  replace hw := hw x3_133 e_x3_133
  refine w_sub (lv' := [(0, .ref (a 0)), (1, .ref (t 0)), (2, .int x2_131), (3, .long x3_133), (5, .int x5), (6, .int x6)]) C [2, 3, 1, 0, 4, 5] rfl ?_
  exact wk_X1_packTo_134 C hK60 hw
set_option maxHeartbeats 4000000 in
set_option maxRecDepth 100000 in
theorem wk_X1_packTo_130 {p : Program} {l : Launch} {e : Env} {s : State} {m : MethodId} {args : Array Value} {below : List Frame} {meth : Method} {c : Code} {D : va_G} {cB cI cJ cL cS : ClassId} {T : Nat × Nat × Nat × Nat} {A : Nat → Prop} {a : Nat → Nat} {t : Nat → Nat} {t_made : Int32} {t_sort : Int32} {t_digits : Int32} {t_slots : Int32} {t_pages : Int32} {t_highest : Int64} {t_units : Nat → Int64} {t_kinds : Nat → Int32} {t_rows : Nat → Int32} {t_marks : Nat → Int32} {Q : Int32 → (Nat → Int32) → Int32 → Prop} (C : Cq p s m args meth c D (Z5 cB cI cJ cL cS) T A cX1_packTo RX1 9 (Option.some Jvm.ClassFile.FieldType.boolean)) {x5 : Int32} {x6 : Int32} {p_bytes : Nat → Int32} {p_length : Int32} {K60 : Int32 → Int64 → Int32 → (Nat → Int32) → Int32 → Prop} (hK60 : ∀ (y2 : Int32) (y3 : Int64) (y6 : Int32) (z_p_bytes : Nat → Int32) (z_p_length : Int32), K60 y2 y3 y6 z_p_bytes z_p_length → ww p l e ({ frames := 3, cells := 0, slots := 0, locals := 75 } : Room) s m args below meth c D A 9 (MQ below (va_Qi (fun (r : Int32) (u : (Nat → Int32) × Int32) => Q r u.1 u.2) (OutP D (fun (u : (Nat → Int32) × Int32) => (wL cB cI cJ a t_made t_sort t_digits t_slots t_pages t_highest t_units t_kinds t_rows t_marks ++ (wTp cB cI cJ t u.1 u.2)))) A) args s 0 0 A) 0 0 (wL cB cI cJ a t_made t_sort t_digits t_slots t_pages t_highest t_units t_kinds t_rows t_marks ++ (wTp cB cI cJ t z_p_bytes z_p_length)) 60 [(0, .ref (a 0)), (1, .ref (t 0)), (2, .int y2), (3, .long y3), (5, .int x5), (6, .int y6)] []) (hw : blk_X1_packTo_130 t_sort t_digits t_slots t_pages t_highest t_units t_kinds K60 Q x5 x6 p_bytes p_length) : ww p l e ({ frames := 3, cells := 0, slots := 0, locals := 75 } : Room) s m args below meth c D A 9 (MQ below (va_Qi (fun (r : Int32) (u : (Nat → Int32) × Int32) => Q r u.1 u.2) (OutP D (fun (u : (Nat → Int32) × Int32) => (wL cB cI cJ a t_made t_sort t_digits t_slots t_pages t_highest t_units t_kinds t_rows t_marks ++ (wTp cB cI cJ t u.1 u.2)))) A) args s 0 0 A) 0 0 (wL cB cI cJ a t_made t_sort t_digits t_slots t_pages t_highest t_units t_kinds t_rows t_marks ++ (wTp cB cI cJ t p_bytes p_length)) 130 [(0, .ref (a 0)), (1, .ref (t 0)), (5, .int x5), (6, .int x6)] [] := by
  unfold blk_X1_packTo_130 at hw
  refine w_iconst C (v := (0 : Int32)) dX1_packTo_130 (by decide) ?_
  refine w_sub (lv' := [(0, .ref (a 0)), (1, .ref (t 0)), (5, .int x5), (6, .int x6)]) C [0, 1, 2, 3] rfl ?_
  exact wk_X1_packTo_131 C hK60 hw
set_option maxHeartbeats 4000000 in
set_option maxRecDepth 100000 in
theorem wk_X1_packTo_113 {p : Program} {l : Launch} {e : Env} {s : State} {m : MethodId} {args : Array Value} {below : List Frame} {meth : Method} {c : Code} {D : va_G} {cB cI cJ cL cS : ClassId} {T : Nat × Nat × Nat × Nat} {A : Nat → Prop} {a : Nat → Nat} {t : Nat → Nat} {t_made : Int32} {t_sort : Int32} {t_digits : Int32} {t_slots : Int32} {t_pages : Int32} {t_highest : Int64} {t_units : Nat → Int64} {t_kinds : Nat → Int32} {t_rows : Nat → Int32} {t_marks : Nat → Int32} {Q : Int32 → (Nat → Int32) → Int32 → Prop} (C : Cq p s m args meth c D (Z5 cB cI cJ cL cS) T A cX1_packTo RX1 9 (Option.some Jvm.ClassFile.FieldType.boolean)) {x5 : Int32} {x6 : Int32} {x7 : Int64} {p_bytes : Nat → Int32} {p_length : Int32} {K60 : Int32 → Int64 → Int32 → (Nat → Int32) → Int32 → Prop} (hK60 : ∀ (y2 : Int32) (y3 : Int64) (y6 : Int32) (z_p_bytes : Nat → Int32) (z_p_length : Int32), K60 y2 y3 y6 z_p_bytes z_p_length → ww p l e ({ frames := 3, cells := 0, slots := 0, locals := 75 } : Room) s m args below meth c D A 9 (MQ below (va_Qi (fun (r : Int32) (u : (Nat → Int32) × Int32) => Q r u.1 u.2) (OutP D (fun (u : (Nat → Int32) × Int32) => (wL cB cI cJ a t_made t_sort t_digits t_slots t_pages t_highest t_units t_kinds t_rows t_marks ++ (wTp cB cI cJ t u.1 u.2)))) A) args s 0 0 A) 0 0 (wL cB cI cJ a t_made t_sort t_digits t_slots t_pages t_highest t_units t_kinds t_rows t_marks ++ (wTp cB cI cJ t z_p_bytes z_p_length)) 60 [(0, .ref (a 0)), (1, .ref (t 0)), (2, .int y2), (3, .long y3), (5, .int x5), (6, .int y6)] []) (hw : blk_X1_packTo_113 t_sort t_digits t_slots t_pages t_highest t_units t_kinds K60 Q x5 x6 x7 p_bytes p_length) : ww p l e ({ frames := 3, cells := 0, slots := 0, locals := 75 } : Room) s m args below meth c D A 9 (MQ below (va_Qi (fun (r : Int32) (u : (Nat → Int32) × Int32) => Q r u.1 u.2) (OutP D (fun (u : (Nat → Int32) × Int32) => (wL cB cI cJ a t_made t_sort t_digits t_slots t_pages t_highest t_units t_kinds t_rows t_marks ++ (wTp cB cI cJ t u.1 u.2)))) A) args s 0 0 A) 0 0 (wL cB cI cJ a t_made t_sort t_digits t_slots t_pages t_highest t_units t_kinds t_rows t_marks ++ (wTp cB cI cJ t p_bytes p_length)) 113 [(0, .ref (a 0)), (1, .ref (t 0)), (5, .int x5), (6, .int x6), (7, .long x7)] [] := by
  unfold blk_X1_packTo_113 at hw
  refine w_aload_n C 1 dX1_packTo_113 rfl ?_
  refine w_ldc2 C (v := (2 : Int64)) dX1_packTo_114 k_292 ?_
  refine w_lload C 4 dX1_packTo_117 rfl ?_
  refine w_lmul C dX1_packTo_119 ?_
  refine w_callPI C (c_X5_appendNumber hw) f_X5_appendNumber k_270 k_268 rfl ⟨Nat.le_of_ble_eq_true rfl, Nat.le_of_ble_eq_true rfl⟩ rfl rfl ⟨Nat.le_of_ble_eq_true rfl, Nat.le_of_ble_eq_true rfl⟩ 0 rfl (rr := (RX5, TX5, 2)) rfl rfl (wL cB cI cJ a t_made t_sort t_digits t_slots t_pages t_highest t_units t_kinds t_rows t_marks) (fun (u : (Nat → Int32) × Int32) => (wL cB cI cJ a t_made t_sort t_digits t_slots t_pages t_highest t_units t_kinds t_rows t_marks ++ (wTp cB cI cJ t u.1 u.2))) [5, 6] [0, 1, 2, 3, 4] [0, 1, 2, 3, 4, 5, 6] rfl rfl (by decide) (by decide) (by decide) (by decide) (fun _ => rfl) (fun _ => rfl) rfl (Nat.le_of_ble_eq_true rfl) dX1_packTo_120 (fun r_120 u_120 hw => ?_)
  obtain ⟨p_bytes_120, p_length_120⟩ := u_120
  try dsimp only at hw
  refine w_if_eq C 130 (by decide) dX1_packTo_123 (fun c_123 => ?_) (fun c_123 => ?_)
  · replace hw := hw.1 c_123
    refine w_sub (lv' := [(0, .ref (a 0)), (1, .ref (t 0)), (5, .int x5), (6, .int x6)]) C [0, 1, 2, 3] rfl ?_
    exact wk_X1_packTo_130 C hK60 hw
  · replace hw := hw.2 c_123
    refine w_iconst C (v := (1 : Int32)) dX1_packTo_126 (by decide) ?_
    refine w_goto C 131 (by decide) dX1_packTo_127 ?_
    refine w_sub (lv' := [(0, .ref (a 0)), (1, .ref (t 0)), (5, .int x5), (6, .int x6)]) C [0, 1, 2, 3] rfl ?_
    exact wk_X1_packTo_131 C hK60 hw
set_option maxHeartbeats 4000000 in
set_option maxRecDepth 100000 in
theorem wl_X1_packTo_60 {p : Program} {l : Launch} {e : Env} {s : State} {m : MethodId} {args : Array Value} {below : List Frame} {meth : Method} {c : Code} {D : va_G} {cB cI cJ cL cS : ClassId} {T : Nat × Nat × Nat × Nat} {A : Nat → Prop} {a : Nat → Nat} {t : Nat → Nat} {t_made : Int32} {t_sort : Int32} {t_digits : Int32} {t_slots : Int32} {t_pages : Int32} {t_highest : Int64} {t_units : Nat → Int64} {t_kinds : Nat → Int32} {t_rows : Nat → Int32} {t_marks : Nat → Int32} {Q : Int32 → (Nat → Int32) → Int32 → Prop} (C : Cq p s m args meth c D (Z5 cB cI cJ cL cS) T A cX1_packTo RX1 9 (Option.some Jvm.ClassFile.FieldType.boolean)) {x5 : Int32}   : ∀ (j : Nat) (x2 : Int32) (x3 : Int64) (x6 : Int32) (p_bytes : Nat → Int32) (p_length : Int32), lp_X1_packTo_60 t_sort t_digits t_slots t_pages t_highest t_units t_kinds  Q x5 j x2 x3 x6 p_bytes p_length → ww p l e ({ frames := 3, cells := 0, slots := 0, locals := 75 } : Room) s m args below meth c D A 9 (MQ below (va_Qi (fun (r : Int32) (u : (Nat → Int32) × Int32) => Q r u.1 u.2) (OutP D (fun (u : (Nat → Int32) × Int32) => (wL cB cI cJ a t_made t_sort t_digits t_slots t_pages t_highest t_units t_kinds t_rows t_marks ++ (wTp cB cI cJ t u.1 u.2)))) A) args s 0 0 A) 0 0 (wL cB cI cJ a t_made t_sort t_digits t_slots t_pages t_highest t_units t_kinds t_rows t_marks ++ (wTp cB cI cJ t p_bytes p_length)) 60 [(0, .ref (a 0)), (1, .ref (t 0)), (2, .int x2), (3, .long x3), (5, .int x5), (6, .int x6)] [] := by
  intro j
  induction j with
  | zero => intro _ _ _ _ _ hw; exact hw.elim
  | succ j hK60 =>
    intro x2 x3 x6 p_bytes p_length hw
    have hw : bod_X1_packTo_60 t_sort t_digits t_slots t_pages t_highest t_units t_kinds  Q x5 (fun v0 v1 v2 v3 v4 => lp_X1_packTo_60 t_sort t_digits t_slots t_pages t_highest t_units t_kinds  Q x5 j v0 v1 v2 v3 v4) x2 x3 x6 p_bytes p_length := hw
    unfold bod_X1_packTo_60 at hw
    refine w_iload C 5 dX1_packTo_60 rfl ?_
    refine w_iload C 4 dX1_packTo_62 rfl ?_
    refine w_icmp_gt C 140 (by decide) dX1_packTo_64 (fun c_64 => ?_) (fun c_64 => ?_)
    · replace hw := hw.1 c_64
      refine w_iload_n C 2 dX1_packTo_140 rfl ?_
      obtain ⟨hz_141, hw⟩ := hw
      exact w_zret C (p_bytes, p_length) hz_141 hw rfl (Nat.le_of_ble_eq_true rfl) (Nat.le_of_ble_eq_true rfl) dX1_packTo_141
    · replace hw := hw.2 c_64
      refine w_iload_n C 2 dX1_packTo_67 rfl ?_
      refine w_if_eq C 140 (by decide) dX1_packTo_68 (fun c_68 => ?_) (fun c_68 => ?_)
      · replace hw := hw.1 c_68
        refine w_iload_n C 2 dX1_packTo_140 rfl ?_
        obtain ⟨hz_141, hw⟩ := hw
        exact w_zret C (p_bytes, p_length) hz_141 hw rfl (Nat.le_of_ble_eq_true rfl) (Nat.le_of_ble_eq_true rfl) dX1_packTo_141
      · replace hw := hw.2 c_68
        refine w_aload_n C 0 dX1_packTo_71 rfl ?_
        refine w_iload C 5 dX1_packTo_72 rfl ?_
        refine w_callPL C (c_X1_unitsOf hw) f_X1_unitsOf k_290 k_288 rfl ⟨Nat.le_of_ble_eq_true rfl, Nat.le_of_ble_eq_true rfl⟩ rfl rfl ⟨Nat.le_of_ble_eq_true rfl, Nat.le_of_ble_eq_true rfl⟩ 0 rfl (rr := (RX1, TX1, 10)) rfl rfl (wTp cB cI cJ t p_bytes p_length) (fun (u : Unit) => (wL cB cI cJ a t_made t_sort t_digits t_slots t_pages t_highest t_units t_kinds t_rows t_marks ++ (wTp cB cI cJ t p_bytes p_length))) [0, 1, 2, 3, 4] [5, 6] [2, 3, 4, 5, 6, 0, 1] rfl rfl (by decide) (by decide) (by decide) (by decide) (fun _ => rfl) (fun _ => rfl) rfl (Nat.le_of_ble_eq_true rfl) dX1_packTo_74 (fun r_74 u_74 hw => ?_)
        try dsimp only at hw
        refine w_lstore C (fun x7_77 => [(7, .long x7_77), (0, .ref (a 0)), (1, .ref (t 0)), (2, .int x2), (3, .long x3), (5, .int x5), (6, .int x6)]) dX1_packTo_77 (by decide) (fun _ => rfl) (fun x7_77 e_x7_77 => ?_)
        replace hw := hw x7_77 e_x7_77
        refine w_lload C 0 dX1_packTo_79 rfl ?_
        refine w_lconst C (v := (0 : Int64)) dX1_packTo_81 (by decide) ?_
        refine w_lcmp_ne C 83 93 rfl (by decide) dX1_packTo_82 dX1_packTo_83 (fun c_82 => ?_) (fun c_82 => ?_)
        · replace hw := hw.1 c_82
          refine w_lload_n C 4 dX1_packTo_93 rfl ?_
          refine w_lconst C (v := (0 : Int64)) dX1_packTo_94 (by decide) ?_
          refine w_lcmp_eq C 96 113 rfl (by decide) dX1_packTo_95 dX1_packTo_96 (fun c_95 => ?_) (fun c_95 => ?_)
          · replace hw := hw.1 c_95
            refine w_sub (lv' := [(0, .ref (a 0)), (1, .ref (t 0)), (5, .int x5), (6, .int x6), (7, .long x7_77)]) C [1, 2, 5, 6, 0] rfl ?_
            exact wk_X1_packTo_113 C hK60 hw
          · replace hw := hw.2 c_95
            refine w_aload_n C 2 dX1_packTo_99 rfl ?_
            refine w_ldc2 C (v := (2 : Int64)) dX1_packTo_100 k_292 ?_
            refine w_lload_n C 4 dX1_packTo_103 rfl ?_
            refine w_lmul C dX1_packTo_104 ?_
            refine w_lconst C (v := (1 : Int64)) dX1_packTo_105 (by decide) ?_
            refine w_lsub C dX1_packTo_106 ?_
            refine w_callPI C (c_X5_appendNumber hw) f_X5_appendNumber k_270 k_268 rfl ⟨Nat.le_of_ble_eq_true rfl, Nat.le_of_ble_eq_true rfl⟩ rfl rfl ⟨Nat.le_of_ble_eq_true rfl, Nat.le_of_ble_eq_true rfl⟩ 0 rfl (rr := (RX5, TX5, 2)) rfl rfl (wL cB cI cJ a t_made t_sort t_digits t_slots t_pages t_highest t_units t_kinds t_rows t_marks) (fun (u : (Nat → Int32) × Int32) => (wL cB cI cJ a t_made t_sort t_digits t_slots t_pages t_highest t_units t_kinds t_rows t_marks ++ (wTp cB cI cJ t u.1 u.2))) [5, 6] [0, 1, 2, 3, 4] [0, 1, 2, 3, 4, 5, 6] rfl rfl (by decide) (by decide) (by decide) (by decide) (fun _ => rfl) (fun _ => rfl) rfl (Nat.le_of_ble_eq_true rfl) dX1_packTo_107 (fun r_107 u_107 hw => ?_)
            obtain ⟨p_bytes_107, p_length_107⟩ := u_107
            try dsimp only at hw
            refine w_if_eq C 130 (by decide) dX1_packTo_110 (fun c_110 => ?_) (fun c_110 => ?_)
            · replace hw := hw.1 c_110
              refine w_sub (lv' := [(0, .ref (a 0)), (1, .ref (t 0)), (5, .int x5), (6, .int x6)]) C [1, 2, 5, 6] rfl ?_
              exact wk_X1_packTo_130 C hK60 hw
            · replace hw := hw.2 c_110
              refine w_sub (lv' := [(0, .ref (a 0)), (1, .ref (t 0)), (5, .int x5), (6, .int x6), (7, .long x7_77)]) C [1, 2, 5, 6, 0] rfl ?_
              exact wk_X1_packTo_113 C hK60 hw
        · replace hw := hw.2 c_82
          refine w_lload_n C 4 dX1_packTo_86 rfl ?_
          refine w_lconst C (v := (1 : Int64)) dX1_packTo_87 (by decide) ?_
          refine w_ladd C dX1_packTo_88 ?_
          refine w_lstore_n C (fun x3_89 => [(3, .long x3_89), (7, .long x7_77), (0, .ref (a 0)), (1, .ref (t 0)), (2, .int x2), (5, .int x5), (6, .int x6)]) dX1_packTo_89 (by decide) (fun _ => rfl) (fun x3_89 e_x3_89 => ?_)
          replace hw := hw x3_89 e_x3_89
          refine w_goto C 134 (by decide) dX1_packTo_90 ?_
          refine w_sub (lv' := [(0, .ref (a 0)), (1, .ref (t 0)), (2, .int x2), (3, .long x3_89), (5, .int x5), (6, .int x6)]) C [2, 3, 4, 0, 5, 6] rfl ?_
          exact wk_X1_packTo_134 C hK60 hw
set_option maxHeartbeats 4000000 in
set_option maxRecDepth 100000 in
theorem wk_X1_packTo_48 {p : Program} {l : Launch} {e : Env} {s : State} {m : MethodId} {args : Array Value} {below : List Frame} {meth : Method} {c : Code} {D : va_G} {cB cI cJ cL cS : ClassId} {T : Nat × Nat × Nat × Nat} {A : Nat → Prop} {a : Nat → Nat} {t : Nat → Nat} {t_made : Int32} {t_sort : Int32} {t_digits : Int32} {t_slots : Int32} {t_pages : Int32} {t_highest : Int64} {t_units : Nat → Int64} {t_kinds : Nat → Int32} {t_rows : Nat → Int32} {t_marks : Nat → Int32} {Q : Int32 → (Nat → Int32) → Int32 → Prop} (C : Cq p s m args meth c D (Z5 cB cI cJ cL cS) T A cX1_packTo RX1 9 (Option.some Jvm.ClassFile.FieldType.boolean)) {k0 : Int32} {p_bytes : Nat → Int32} {p_length : Int32}  (hw : blk_X1_packTo_48 t_sort t_digits t_slots t_pages t_highest t_units t_kinds  Q k0 p_bytes p_length) : ww p l e ({ frames := 3, cells := 0, slots := 0, locals := 75 } : Room) s m args below meth c D A 9 (MQ below (va_Qi (fun (r : Int32) (u : (Nat → Int32) × Int32) => Q r u.1 u.2) (OutP D (fun (u : (Nat → Int32) × Int32) => (wL cB cI cJ a t_made t_sort t_digits t_slots t_pages t_highest t_units t_kinds t_rows t_marks ++ (wTp cB cI cJ t u.1 u.2)))) A) args s 0 0 A) 0 0 (wL cB cI cJ a t_made t_sort t_digits t_slots t_pages t_highest t_units t_kinds t_rows t_marks ++ (wTp cB cI cJ t p_bytes p_length)) 48 [(0, .ref (a 0)), (1, .ref (t 0))] [.int k0] := by
  unfold blk_X1_packTo_48 at hw
  refine w_istore_n C (fun x2_48 => [(2, .int x2_48), (0, .ref (a 0)), (1, .ref (t 0))]) dX1_packTo_48 (by decide) (fun _ => rfl) (fun x2_48 e_x2_48 => ?_)
  replace hw := hw x2_48 e_x2_48
  refine w_lconst C (v := (0 : Int64)) dX1_packTo_49 (by decide) ?_
  refine w_lstore_n C (fun x3_50 => [(3, .long x3_50), (2, .int x2_48), (0, .ref (a 0)), (1, .ref (t 0))]) dX1_packTo_50 (by decide) (fun _ => rfl) (fun x3_50 e_x3_50 => ?_)
  replace hw := hw x3_50 e_x3_50
  refine w_aload_n C 2 dX1_packTo_51 rfl ?_
  refine w_callPI C (c_X1_lastUsed hw) f_X1_lastUsed k_275 k_273 rfl ⟨Nat.le_of_ble_eq_true rfl, Nat.le_of_ble_eq_true rfl⟩ rfl rfl ⟨Nat.le_of_ble_eq_true rfl, Nat.le_of_ble_eq_true rfl⟩ 0 rfl (rr := (RX1, TX1, 10)) rfl rfl (wTp cB cI cJ t p_bytes p_length) (fun (u : Unit) => (wL cB cI cJ a t_made t_sort t_digits t_slots t_pages t_highest t_units t_kinds t_rows t_marks ++ (wTp cB cI cJ t p_bytes p_length))) [0, 1, 2, 3, 4] [5, 6] [2, 3, 4, 5, 6, 0, 1] rfl rfl (by decide) (by decide) (by decide) (by decide) (fun _ => rfl) (fun _ => rfl) rfl (Nat.le_of_ble_eq_true rfl) dX1_packTo_52 (fun r_52 u_52 hw => ?_)
  try dsimp only at hw
  refine w_istore C (fun x5_55 => [(5, .int x5_55), (3, .long x3_50), (2, .int x2_48), (0, .ref (a 0)), (1, .ref (t 0))]) dX1_packTo_55 (by decide) (fun _ => rfl) (fun x5_55 e_x5_55 => ?_)
  replace hw := hw x5_55 e_x5_55
  refine w_iconst C (v := (0 : Int32)) dX1_packTo_57 (by decide) ?_
  refine w_istore C (fun x6_58 => [(6, .int x6_58), (5, .int x5_55), (3, .long x3_50), (2, .int x2_48), (0, .ref (a 0)), (1, .ref (t 0))]) dX1_packTo_58 (by decide) (fun _ => rfl) (fun x6_58 e_x6_58 => ?_)
  replace hw := hw x6_58 e_x6_58
  refine w_sub (lv' := [(0, .ref (a 0)), (1, .ref (t 0)), (2, .int x2_48), (3, .long x3_50), (5, .int x5_55), (6, .int x6_58)]) C [4, 5, 3, 2, 1, 0] rfl ?_
  obtain ⟨j, hw⟩ := hw
  exact wl_X1_packTo_60 C  j _ _ _ _ _ hw
set_option maxHeartbeats 4000000 in
set_option maxRecDepth 100000 in
theorem wk_X1_packTo_47 {p : Program} {l : Launch} {e : Env} {s : State} {m : MethodId} {args : Array Value} {below : List Frame} {meth : Method} {c : Code} {D : va_G} {cB cI cJ cL cS : ClassId} {T : Nat × Nat × Nat × Nat} {A : Nat → Prop} {a : Nat → Nat} {t : Nat → Nat} {t_made : Int32} {t_sort : Int32} {t_digits : Int32} {t_slots : Int32} {t_pages : Int32} {t_highest : Int64} {t_units : Nat → Int64} {t_kinds : Nat → Int32} {t_rows : Nat → Int32} {t_marks : Nat → Int32} {Q : Int32 → (Nat → Int32) → Int32 → Prop} (C : Cq p s m args meth c D (Z5 cB cI cJ cL cS) T A cX1_packTo RX1 9 (Option.some Jvm.ClassFile.FieldType.boolean)) {p_bytes : Nat → Int32} {p_length : Int32}  (hw : blk_X1_packTo_47 t_sort t_digits t_slots t_pages t_highest t_units t_kinds  Q p_bytes p_length) : ww p l e ({ frames := 3, cells := 0, slots := 0, locals := 75 } : Room) s m args below meth c D A 9 (MQ below (va_Qi (fun (r : Int32) (u : (Nat → Int32) × Int32) => Q r u.1 u.2) (OutP D (fun (u : (Nat → Int32) × Int32) => (wL cB cI cJ a t_made t_sort t_digits t_slots t_pages t_highest t_units t_kinds t_rows t_marks ++ (wTp cB cI cJ t u.1 u.2)))) A) args s 0 0 A) 0 0 (wL cB cI cJ a t_made t_sort t_digits t_slots t_pages t_highest t_units t_kinds t_rows t_marks ++ (wTp cB cI cJ t p_bytes p_length)) 47 [(0, .ref (a 0)), (1, .ref (t 0))] [] := by
  unfold blk_X1_packTo_47 at hw
  refine w_iconst C (v := (0 : Int32)) dX1_packTo_47 (by decide) ?_
  refine w_sub (lv' := [(0, .ref (a 0)), (1, .ref (t 0))]) C [0, 1] rfl ?_
  exact wk_X1_packTo_48 C  hw
set_option maxHeartbeats 4000000 in
set_option maxRecDepth 100000 in
theorem c_X1_packTo {l : Launch} {D : va_G} {cB cI cJ cL cS : ClassId} {T : Nat × Nat × Nat × Nat} {a : Nat → Nat} {t : Nat → Nat}  {t_made : Int32} {t_sort : Int32} {t_digits : Int32} {t_slots : Int32} {t_pages : Int32} {t_highest : Int64} {t_units : Nat → Int64} {t_kinds : Nat → Int32} {t_rows : Nat → Int32} {t_marks : Nat → Int32} {p_bytes : Nat → Int32} {p_length : Int32} {Q : Int32 → (Nat → Int32) → Int32 → Prop} (hw : wp_X1_packTo  t_sort t_digits t_slots t_pages t_highest t_units t_kinds p_bytes p_length Q) : CtI l D (Z5 cB cI cJ cL cS) T yX1_packTo cX1_packTo 9 ({ frames := 3, cells := 0, slots := 0, locals := 75 } : Room) (Option.some Jvm.ClassFile.FieldType.boolean) [.ref (a 0), .ref (t 0)] (wL cB cI cJ a t_made t_sort t_digits t_slots t_pages t_highest t_units t_kinds t_rows t_marks ++ (wTp cB cI cJ t p_bytes p_length)) (fun (u : (Nat → Int32) × Int32) => (wL cB cI cJ a t_made t_sort t_digits t_slots t_pages t_highest t_units t_kinds t_rows t_marks ++ (wTp cB cI cJ t u.1 u.2))) (fun (r : Int32) (u : (Nat → Int32) × Int32) => Q r u.1 u.2) 0 0 := by
  refine ctI_of (own := RX1) (by decide +kernel) rfl (Nat.le_of_ble_eq_true rfl) (fun p e s m below meth c A C => ?_)
  refine w_sub (lv' := [(0, .ref (a 0)), (1, .ref (t 0))]) C [0, 1] rfl ?_
  unfold wp_X1_packTo at hw
  refine w_aload_n C 1 dX1_packTo_0 rfl ?_
  refine w_sipush C (v := (165 : Int32)) dX1_packTo_1 (by decide) ?_
  refine w_callPI C (c_X5_append hw) f_X5_append k_237 k_267 rfl ⟨Nat.le_of_ble_eq_true rfl, Nat.le_of_ble_eq_true rfl⟩ rfl rfl ⟨Nat.le_of_ble_eq_true rfl, Nat.le_of_ble_eq_true rfl⟩ 0 rfl (rr := (RX5, TX5, 2)) rfl rfl (wL cB cI cJ a t_made t_sort t_digits t_slots t_pages t_highest t_units t_kinds t_rows t_marks) (fun (u : (Nat → Int32) × Int32) => (wL cB cI cJ a t_made t_sort t_digits t_slots t_pages t_highest t_units t_kinds t_rows t_marks ++ (wTp cB cI cJ t u.1 u.2))) [5, 6] [0, 1, 2, 3, 4] [0, 1, 2, 3, 4, 5, 6] rfl rfl (by decide) (by decide) (by decide) (by decide) (fun _ => rfl) (fun _ => rfl) rfl (Nat.le_of_ble_eq_true rfl) dX1_packTo_4 (fun r_4 u_4 hw => ?_)
  obtain ⟨p_bytes_4, p_length_4⟩ := u_4
  try dsimp only at hw
  refine w_if_eq C 47 (by decide) dX1_packTo_7 (fun c_7 => ?_) (fun c_7 => ?_)
  · replace hw := hw.1 c_7
    refine w_sub (lv' := [(0, .ref (a 0)), (1, .ref (t 0))]) C [0, 1] rfl ?_
    exact wk_X1_packTo_47 C  hw
  · replace hw := hw.2 c_7
    refine w_aload_n C 1 dX1_packTo_10 rfl ?_
    refine w_aload_n C 0 dX1_packTo_11 rfl ?_
    refine w_get C (T1 := TX1) 0 1 u_X1 k_148 rfl (by decide) rfl rfl dX1_packTo_12 ?_
    refine w_callPI C (c_X5_append hw) f_X5_append k_237 k_267 rfl ⟨Nat.le_of_ble_eq_true rfl, Nat.le_of_ble_eq_true rfl⟩ rfl rfl ⟨Nat.le_of_ble_eq_true rfl, Nat.le_of_ble_eq_true rfl⟩ 0 rfl (rr := (RX5, TX5, 2)) rfl rfl (wL cB cI cJ a t_made t_sort t_digits t_slots t_pages t_highest t_units t_kinds t_rows t_marks) (fun (u : (Nat → Int32) × Int32) => (wL cB cI cJ a t_made t_sort t_digits t_slots t_pages t_highest t_units t_kinds t_rows t_marks ++ (wTp cB cI cJ t u.1 u.2))) [5, 6] [0, 1, 2, 3, 4] [0, 1, 2, 3, 4, 5, 6] rfl rfl (by decide) (by decide) (by decide) (by decide) (fun _ => rfl) (fun _ => rfl) rfl (Nat.le_of_ble_eq_true rfl) dX1_packTo_15 (fun r_15 u_15 hw => ?_)
    obtain ⟨p_bytes_15, p_length_15⟩ := u_15
    try dsimp only at hw
    refine w_if_eq C 47 (by decide) dX1_packTo_18 (fun c_18 => ?_) (fun c_18 => ?_)
    · replace hw := hw.1 c_18
      refine w_sub (lv' := [(0, .ref (a 0)), (1, .ref (t 0))]) C [0, 1] rfl ?_
      exact wk_X1_packTo_47 C  hw
    · replace hw := hw.2 c_18
      refine w_aload_n C 1 dX1_packTo_21 rfl ?_
      refine w_aload_n C 0 dX1_packTo_22 rfl ?_
      refine w_get C (T1 := TX1) 0 2 u_X1 k_150 rfl (by decide) rfl rfl dX1_packTo_23 ?_
      refine w_callPI C (c_X5_append hw) f_X5_append k_237 k_267 rfl ⟨Nat.le_of_ble_eq_true rfl, Nat.le_of_ble_eq_true rfl⟩ rfl rfl ⟨Nat.le_of_ble_eq_true rfl, Nat.le_of_ble_eq_true rfl⟩ 0 rfl (rr := (RX5, TX5, 2)) rfl rfl (wL cB cI cJ a t_made t_sort t_digits t_slots t_pages t_highest t_units t_kinds t_rows t_marks) (fun (u : (Nat → Int32) × Int32) => (wL cB cI cJ a t_made t_sort t_digits t_slots t_pages t_highest t_units t_kinds t_rows t_marks ++ (wTp cB cI cJ t u.1 u.2))) [5, 6] [0, 1, 2, 3, 4] [0, 1, 2, 3, 4, 5, 6] rfl rfl (by decide) (by decide) (by decide) (by decide) (fun _ => rfl) (fun _ => rfl) rfl (Nat.le_of_ble_eq_true rfl) dX1_packTo_26 (fun r_26 u_26 hw => ?_)
      obtain ⟨p_bytes_26, p_length_26⟩ := u_26
      try dsimp only at hw
      refine w_if_eq C 47 (by decide) dX1_packTo_29 (fun c_29 => ?_) (fun c_29 => ?_)
      · replace hw := hw.1 c_29
        refine w_sub (lv' := [(0, .ref (a 0)), (1, .ref (t 0))]) C [0, 1] rfl ?_
        exact wk_X1_packTo_47 C  hw
      · replace hw := hw.2 c_29
        refine w_aload_n C 1 dX1_packTo_32 rfl ?_
        refine w_aload_n C 0 dX1_packTo_33 rfl ?_
        refine w_get C (T1 := TX1) 0 5 u_X1 k_156 rfl (by decide) rfl rfl dX1_packTo_34 ?_
        refine w_callPI C (c_X5_appendNumber hw) f_X5_appendNumber k_270 k_268 rfl ⟨Nat.le_of_ble_eq_true rfl, Nat.le_of_ble_eq_true rfl⟩ rfl rfl ⟨Nat.le_of_ble_eq_true rfl, Nat.le_of_ble_eq_true rfl⟩ 0 rfl (rr := (RX5, TX5, 2)) rfl rfl (wL cB cI cJ a t_made t_sort t_digits t_slots t_pages t_highest t_units t_kinds t_rows t_marks) (fun (u : (Nat → Int32) × Int32) => (wL cB cI cJ a t_made t_sort t_digits t_slots t_pages t_highest t_units t_kinds t_rows t_marks ++ (wTp cB cI cJ t u.1 u.2))) [5, 6] [0, 1, 2, 3, 4] [0, 1, 2, 3, 4, 5, 6] rfl rfl (by decide) (by decide) (by decide) (by decide) (fun _ => rfl) (fun _ => rfl) rfl (Nat.le_of_ble_eq_true rfl) dX1_packTo_37 (fun r_37 u_37 hw => ?_)
        obtain ⟨p_bytes_37, p_length_37⟩ := u_37
        try dsimp only at hw
        refine w_if_eq C 47 (by decide) dX1_packTo_40 (fun c_40 => ?_) (fun c_40 => ?_)
        · replace hw := hw.1 c_40
          refine w_sub (lv' := [(0, .ref (a 0)), (1, .ref (t 0))]) C [0, 1] rfl ?_
          exact wk_X1_packTo_47 C  hw
        · replace hw := hw.2 c_40
          refine w_iconst C (v := (1 : Int32)) dX1_packTo_43 (by decide) ?_
          refine w_goto C 48 (by decide) dX1_packTo_44 ?_
          refine w_sub (lv' := [(0, .ref (a 0)), (1, .ref (t 0))]) C [0, 1] rfl ?_
          exact wk_X1_packTo_48 C  hw
def wp_X1_become  (t_made : Int32) (t_sort : Int32) (t_digits : Int32) (t_slots : Int32) (t_pages : Int32) (t_highest : Int64) (t_units : Nat → Int64) (t_kinds : Nat → Int32) (t_rows : Nat → Int32) (t_marks : Nat → Int32) (o_made : Int32) (o_sort : Int32) (o_digits : Int32) (o_slots : Int32) (o_pages : Int32) (o_highest : Int64) (o_units : Nat → Int64) (o_kinds : Nat → Int32) (o_rows : Nat → Int32) (o_marks : Nat → Int32) (Q : Int32 → Int32 → Int32 → Int32 → Int32 → Int64 → (Nat → Int64) → (Nat → Int32) → (Nat → Int32) → (Nat → Int32) → Prop) : Prop := (o_made = 0 ∨ o_made = 1) ∧ ∀ t_made_5 : Int32, t_made_5 = o_made → ∀ t_sort_13 : Int32, t_sort_13 = o_sort → ∀ t_digits_21 : Int32, t_digits_21 = o_digits → ∀ t_slots_29 : Int32, t_slots_29 = o_slots → ∀ t_pages_37 : Int32, t_pages_37 = o_pages → ∀ t_highest_45 : Int64, t_highest_45 = o_highest → ∀ x2_62 : Int32, x2_62 = (if (0 : Int32) < (if (271 : Int32) < t_pages_37 then (271 : Int32) else t_pages_37) then (if (271 : Int32) < t_pages_37 then (271 : Int32) else t_pages_37) else (0 : Int32)) → (¬ (0 : Int32) < 0) ∧ (¬ (0 : Int32) < 0) ∧ (¬ ((16 : Int32) * x2_62) < 0) ∧ (((0 : Int32)).toNatClampNeg + (((16 : Int32) * x2_62)).toNatClampNeg ≤ 4336) ∧ (((0 : Int32)).toNatClampNeg + (((16 : Int32) * x2_62)).toNatClampNeg ≤ 4336) ∧ ∀ t_units_77 : Nat → Int64, t_units_77 = va_cpy o_units t_units ((0 : Int32)).toNatClampNeg ((0 : Int32)).toNatClampNeg (((16 : Int32) * x2_62)).toNatClampNeg → (¬ (0 : Int32) < 0) ∧ (¬ (0 : Int32) < 0) ∧ (¬ x2_62 < 0) ∧ (((0 : Int32)).toNatClampNeg + (x2_62).toNatClampNeg ≤ 271) ∧ (((0 : Int32)).toNatClampNeg + (x2_62).toNatClampNeg ≤ 271) ∧ ∀ t_kinds_91 : Nat → Int32, t_kinds_91 = va_cpy o_kinds t_kinds ((0 : Int32)).toNatClampNeg ((0 : Int32)).toNatClampNeg (x2_62).toNatClampNeg → (¬ (0 : Int32) < 0) ∧ (¬ (0 : Int32) < 0) ∧ (¬ x2_62 < 0) ∧ (((0 : Int32)).toNatClampNeg + (x2_62).toNatClampNeg ≤ 271) ∧ (((0 : Int32)).toNatClampNeg + (x2_62).toNatClampNeg ≤ 271) ∧ ∀ t_rows_105 : Nat → Int32, t_rows_105 = va_cpy o_rows t_rows ((0 : Int32)).toNatClampNeg ((0 : Int32)).toNatClampNeg (x2_62).toNatClampNeg → (¬ (0 : Int32) < 0) ∧ (¬ (0 : Int32) < 0) ∧ (¬ ((16 : Int32) * x2_62) < 0) ∧ (((0 : Int32)).toNatClampNeg + (((16 : Int32) * x2_62)).toNatClampNeg ≤ 4336) ∧ (((0 : Int32)).toNatClampNeg + (((16 : Int32) * x2_62)).toNatClampNeg ≤ 4336) ∧ ∀ t_marks_122 : Nat → Int32, t_marks_122 = va_cpy o_marks t_marks ((0 : Int32)).toNatClampNeg ((0 : Int32)).toNatClampNeg (((16 : Int32) * x2_62)).toNatClampNeg → Q t_made_5 t_sort_13 t_digits_21 t_slots_29 t_pages_37 t_highest_45 t_units_77 t_kinds_91 t_rows_105 t_marks_122
set_option maxHeartbeats 4000000 in
set_option maxRecDepth 100000 in
theorem c_X1_become {l : Launch} {D : va_G} {cB cI cJ cL cS : ClassId} {T : Nat × Nat × Nat × Nat} {a : Nat → Nat} {b : Nat → Nat}  {t_made : Int32} {t_sort : Int32} {t_digits : Int32} {t_slots : Int32} {t_pages : Int32} {t_highest : Int64} {t_units : Nat → Int64} {t_kinds : Nat → Int32} {t_rows : Nat → Int32} {t_marks : Nat → Int32} {o_made : Int32} {o_sort : Int32} {o_digits : Int32} {o_slots : Int32} {o_pages : Int32} {o_highest : Int64} {o_units : Nat → Int64} {o_kinds : Nat → Int32} {o_rows : Nat → Int32} {o_marks : Nat → Int32} {Q : Int32 → Int32 → Int32 → Int32 → Int32 → Int64 → (Nat → Int64) → (Nat → Int32) → (Nat → Int32) → (Nat → Int32) → Prop} (hw : wp_X1_become  t_made t_sort t_digits t_slots t_pages t_highest t_units t_kinds t_rows t_marks o_made o_sort o_digits o_slots o_pages o_highest o_units o_kinds o_rows o_marks Q) : CtV l D (Z5 cB cI cJ cL cS) T yX1_become cX1_become 3 ({ frames := 1, cells := 0, slots := 0, locals := 40 } : Room) (Option.none : Option Jvm.ClassFile.FieldType) [.ref (a 0), .ref (b 0)] (wL cB cI cJ a t_made t_sort t_digits t_slots t_pages t_highest t_units t_kinds t_rows t_marks ++ (wL cB cI cJ b o_made o_sort o_digits o_slots o_pages o_highest o_units o_kinds o_rows o_marks)) (fun (u : Int32 × Int32 × Int32 × Int32 × Int32 × Int64 × (Nat → Int64) × (Nat → Int32) × (Nat → Int32) × (Nat → Int32)) => (wL cB cI cJ a u.1 u.2.1 u.2.2.1 u.2.2.2.1 u.2.2.2.2.1 u.2.2.2.2.2.1 u.2.2.2.2.2.2.1 u.2.2.2.2.2.2.2.1 u.2.2.2.2.2.2.2.2.1 u.2.2.2.2.2.2.2.2.2 ++ (wL cB cI cJ b o_made o_sort o_digits o_slots o_pages o_highest o_units o_kinds o_rows o_marks))) (fun (u : Int32 × Int32 × Int32 × Int32 × Int32 × Int64 × (Nat → Int64) × (Nat → Int32) × (Nat → Int32) × (Nat → Int32)) => Q u.1 u.2.1 u.2.2.1 u.2.2.2.1 u.2.2.2.2.1 u.2.2.2.2.2.1 u.2.2.2.2.2.2.1 u.2.2.2.2.2.2.2.1 u.2.2.2.2.2.2.2.2.1 u.2.2.2.2.2.2.2.2.2) 0 0 := by
  refine ctV_of (own := RX1) (by decide +kernel) rfl (Nat.le_of_ble_eq_true rfl) (fun p e s m below meth c A C => ?_)
  refine w_sub (lv' := [(0, .ref (a 0)), (1, .ref (b 0))]) C [0, 1] rfl ?_
  unfold wp_X1_become at hw
  refine w_aload_n C 0 dX1_become_0 rfl ?_
  refine w_aload_n C 1 dX1_become_1 rfl ?_
  refine w_get C (T1 := TX1) 5 0 u_X1 k_146 rfl (by decide) rfl rfl dX1_become_2 ?_
  obtain ⟨hz_5, hw⟩ := hw
  refine w_puti C (T1 := TX1) (ty := .boolean) 0 0 (fun z => (wL cB cI cJ a z t_sort t_digits t_slots t_pages t_highest t_units t_kinds t_rows t_marks ++ (wL cB cI cJ b o_made o_sort o_digits o_slots o_pages o_highest o_units o_kinds o_rows o_marks))) u_X1 tyX1 tyX1_ok nmX1 k_146 rfl (by decide) rfl rfl (by decide +kernel) (by rcases hz_5 with h | h <;> rw [h] <;> rfl) (by rcases hz_5 with h | h <;> rw [h] <;> rfl) (Nat.le_of_ble_eq_true rfl) (fun _ => rfl) dX1_become_5 (fun t_made_5 e_t_made_5 => ?_)
  replace hw := hw t_made_5 e_t_made_5
  refine w_aload_n C 0 dX1_become_8 rfl ?_
  refine w_aload_n C 1 dX1_become_9 rfl ?_
  refine w_get C (T1 := TX1) 5 1 u_X1 k_148 rfl (by decide) rfl rfl dX1_become_10 ?_
  refine w_puti C (T1 := TX1) (ty := .int) 0 1 (fun z => (wL cB cI cJ a t_made_5 z t_digits t_slots t_pages t_highest t_units t_kinds t_rows t_marks ++ (wL cB cI cJ b o_made o_sort o_digits o_slots o_pages o_highest o_units o_kinds o_rows o_marks))) u_X1 tyX1 tyX1_ok nmX1 k_148 rfl (by decide) rfl rfl (by decide +kernel) rfl rfl (Nat.le_of_ble_eq_true rfl) (fun _ => rfl) dX1_become_13 (fun t_sort_13 e_t_sort_13 => ?_)
  replace hw := hw t_sort_13 e_t_sort_13
  refine w_aload_n C 0 dX1_become_16 rfl ?_
  refine w_aload_n C 1 dX1_become_17 rfl ?_
  refine w_get C (T1 := TX1) 5 2 u_X1 k_150 rfl (by decide) rfl rfl dX1_become_18 ?_
  refine w_puti C (T1 := TX1) (ty := .int) 0 2 (fun z => (wL cB cI cJ a t_made_5 t_sort_13 z t_slots t_pages t_highest t_units t_kinds t_rows t_marks ++ (wL cB cI cJ b o_made o_sort o_digits o_slots o_pages o_highest o_units o_kinds o_rows o_marks))) u_X1 tyX1 tyX1_ok nmX1 k_150 rfl (by decide) rfl rfl (by decide +kernel) rfl rfl (Nat.le_of_ble_eq_true rfl) (fun _ => rfl) dX1_become_21 (fun t_digits_21 e_t_digits_21 => ?_)
  replace hw := hw t_digits_21 e_t_digits_21
  refine w_aload_n C 0 dX1_become_24 rfl ?_
  refine w_aload_n C 1 dX1_become_25 rfl ?_
  refine w_get C (T1 := TX1) 5 3 u_X1 k_152 rfl (by decide) rfl rfl dX1_become_26 ?_
  refine w_puti C (T1 := TX1) (ty := .int) 0 3 (fun z => (wL cB cI cJ a t_made_5 t_sort_13 t_digits_21 z t_pages t_highest t_units t_kinds t_rows t_marks ++ (wL cB cI cJ b o_made o_sort o_digits o_slots o_pages o_highest o_units o_kinds o_rows o_marks))) u_X1 tyX1 tyX1_ok nmX1 k_152 rfl (by decide) rfl rfl (by decide +kernel) rfl rfl (Nat.le_of_ble_eq_true rfl) (fun _ => rfl) dX1_become_29 (fun t_slots_29 e_t_slots_29 => ?_)
  replace hw := hw t_slots_29 e_t_slots_29
  refine w_aload_n C 0 dX1_become_32 rfl ?_
  refine w_aload_n C 1 dX1_become_33 rfl ?_
  refine w_get C (T1 := TX1) 5 4 u_X1 k_154 rfl (by decide) rfl rfl dX1_become_34 ?_
  refine w_puti C (T1 := TX1) (ty := .int) 0 4 (fun z => (wL cB cI cJ a t_made_5 t_sort_13 t_digits_21 t_slots_29 z t_highest t_units t_kinds t_rows t_marks ++ (wL cB cI cJ b o_made o_sort o_digits o_slots o_pages o_highest o_units o_kinds o_rows o_marks))) u_X1 tyX1 tyX1_ok nmX1 k_154 rfl (by decide) rfl rfl (by decide +kernel) rfl rfl (Nat.le_of_ble_eq_true rfl) (fun _ => rfl) dX1_become_37 (fun t_pages_37 e_t_pages_37 => ?_)
  replace hw := hw t_pages_37 e_t_pages_37
  refine w_aload_n C 0 dX1_become_40 rfl ?_
  refine w_aload_n C 1 dX1_become_41 rfl ?_
  refine w_get C (T1 := TX1) 5 5 u_X1 k_156 rfl (by decide) rfl rfl dX1_become_42 ?_
  refine w_putl C (T1 := TX1) (ty := .long) 0 5 (fun z => (wL cB cI cJ a t_made_5 t_sort_13 t_digits_21 t_slots_29 t_pages_37 z t_units t_kinds t_rows t_marks ++ (wL cB cI cJ b o_made o_sort o_digits o_slots o_pages o_highest o_units o_kinds o_rows o_marks))) u_X1 tyX1 tyX1_ok nmX1 k_156 rfl (by decide) rfl rfl (by decide +kernel) rfl rfl (Nat.le_of_ble_eq_true rfl) (fun _ => rfl) dX1_become_45 (fun t_highest_45 e_t_highest_45 => ?_)
  replace hw := hw t_highest_45 e_t_highest_45
  refine w_iconst C (v := (0 : Int32)) dX1_become_48 (by decide) ?_
  refine w_aload_n C 0 dX1_become_49 rfl ?_
  refine w_get C (T1 := TX1) 0 4 u_X1 k_154 rfl (by decide) rfl rfl dX1_become_50 ?_
  refine w_sipush C (v := (271 : Int32)) dX1_become_53 (by decide) ?_
  refine w_imin C k_285 f_imin.1 f_imin.2.1 f_imin.2.2 (Nat.le_of_ble_eq_true rfl) (Nat.le_of_ble_eq_true rfl) (Nat.le_of_ble_eq_true rfl) (Nat.le_of_ble_eq_true rfl) dX1_become_56 ?_
  refine w_imax C k_415 f_imax.1 f_imax.2.1 f_imax.2.2 (Nat.le_of_ble_eq_true rfl) (Nat.le_of_ble_eq_true rfl) (Nat.le_of_ble_eq_true rfl) (Nat.le_of_ble_eq_true rfl) dX1_become_59 ?_
  refine w_istore_n C (fun x2_62 => [(2, .int x2_62), (0, .ref (a 0)), (1, .ref (b 0))]) dX1_become_62 (by decide) (fun _ => rfl) (fun x2_62 e_x2_62 => ?_)
  replace hw := hw x2_62 e_x2_62
  refine w_aload_n C 2 dX1_become_63 rfl ?_
  refine w_get C (T1 := TX1) 5 6 u_X1 k_158 rfl (by decide) rfl rfl dX1_become_64 ?_
  refine w_iconst C (v := (0 : Int32)) dX1_become_67 (by decide) ?_
  refine w_aload_n C 1 dX1_become_68 rfl ?_
  refine w_get C (T1 := TX1) 0 6 u_X1 k_158 rfl (by decide) rfl rfl dX1_become_69 ?_
  refine w_iconst C (v := (0 : Int32)) dX1_become_72 (by decide) ?_
  refine w_bipush C (v := (16 : Int32)) dX1_become_73 (by decide) ?_
  refine w_iload_n C 0 dX1_become_75 rfl ?_
  refine w_imul C dX1_become_76 ?_
  obtain ⟨ha_77, hb_77, hc_77, hd_77, he_77, hw⟩ := hw
  refine w_copyl C (fun z => (wL cB cI cJ a t_made_5 t_sort_13 t_digits_21 t_slots_29 t_pages_37 t_highest_45 z t_kinds t_rows t_marks ++ (wL cB cI cJ b o_made o_sort o_digits o_slots o_pages o_highest o_units o_kinds o_rows o_marks))) k_416 k_303 k_302 k_72 6 1 2 rfl rfl rfl rfl ha_77 hb_77 hc_77 hd_77 he_77 (fun _ => rfl) (Nat.le_of_ble_eq_true rfl) (Nat.le_of_ble_eq_true rfl) dX1_become_77 (fun t_units_77 e_t_units_77 => ?_)
  replace hw := hw t_units_77 e_t_units_77
  refine w_aload_n C 2 dX1_become_80 rfl ?_
  refine w_get C (T1 := TX1) 5 7 u_X1 k_159 rfl (by decide) rfl rfl dX1_become_81 ?_
  refine w_iconst C (v := (0 : Int32)) dX1_become_84 (by decide) ?_
  refine w_aload_n C 1 dX1_become_85 rfl ?_
  refine w_get C (T1 := TX1) 0 7 u_X1 k_159 rfl (by decide) rfl rfl dX1_become_86 ?_
  refine w_iconst C (v := (0 : Int32)) dX1_become_89 (by decide) ?_
  refine w_iload_n C 0 dX1_become_90 rfl ?_
  obtain ⟨ha_91, hb_91, hc_91, hd_91, he_91, hw⟩ := hw
  refine w_copyi C (fun z => (wL cB cI cJ a t_made_5 t_sort_13 t_digits_21 t_slots_29 t_pages_37 t_highest_45 t_units_77 z t_rows t_marks ++ (wL cB cI cJ b o_made o_sort o_digits o_slots o_pages o_highest o_units o_kinds o_rows o_marks))) k_416 k_303 k_302 k_72 7 2 1 rfl rfl rfl rfl ha_91 hb_91 hc_91 hd_91 he_91 (fun _ => rfl) (Nat.le_of_ble_eq_true rfl) (Nat.le_of_ble_eq_true rfl) dX1_become_91 (fun t_kinds_91 e_t_kinds_91 => ?_)
  replace hw := hw t_kinds_91 e_t_kinds_91
  refine w_aload_n C 2 dX1_become_94 rfl ?_
  refine w_get C (T1 := TX1) 5 8 u_X1 k_160 rfl (by decide) rfl rfl dX1_become_95 ?_
  refine w_iconst C (v := (0 : Int32)) dX1_become_98 (by decide) ?_
  refine w_aload_n C 1 dX1_become_99 rfl ?_
  refine w_get C (T1 := TX1) 0 8 u_X1 k_160 rfl (by decide) rfl rfl dX1_become_100 ?_
  refine w_iconst C (v := (0 : Int32)) dX1_become_103 (by decide) ?_
  refine w_iload_n C 0 dX1_become_104 rfl ?_
  obtain ⟨ha_105, hb_105, hc_105, hd_105, he_105, hw⟩ := hw
  refine w_copyi C (fun z => (wL cB cI cJ a t_made_5 t_sort_13 t_digits_21 t_slots_29 t_pages_37 t_highest_45 t_units_77 t_kinds_91 z t_marks ++ (wL cB cI cJ b o_made o_sort o_digits o_slots o_pages o_highest o_units o_kinds o_rows o_marks))) k_416 k_303 k_302 k_72 8 3 1 rfl rfl rfl rfl ha_105 hb_105 hc_105 hd_105 he_105 (fun _ => rfl) (Nat.le_of_ble_eq_true rfl) (Nat.le_of_ble_eq_true rfl) dX1_become_105 (fun t_rows_105 e_t_rows_105 => ?_)
  replace hw := hw t_rows_105 e_t_rows_105
  refine w_aload_n C 2 dX1_become_108 rfl ?_
  refine w_get C (T1 := TX1) 5 9 u_X1 k_161 rfl (by decide) rfl rfl dX1_become_109 ?_
  refine w_iconst C (v := (0 : Int32)) dX1_become_112 (by decide) ?_
  refine w_aload_n C 1 dX1_become_113 rfl ?_
  refine w_get C (T1 := TX1) 0 9 u_X1 k_161 rfl (by decide) rfl rfl dX1_become_114 ?_
  refine w_iconst C (v := (0 : Int32)) dX1_become_117 (by decide) ?_
  refine w_bipush C (v := (16 : Int32)) dX1_become_118 (by decide) ?_
  refine w_iload_n C 0 dX1_become_120 rfl ?_
  refine w_imul C dX1_become_121 ?_
  obtain ⟨ha_122, hb_122, hc_122, hd_122, he_122, hw⟩ := hw
  refine w_copyi C (fun z => (wL cB cI cJ a t_made_5 t_sort_13 t_digits_21 t_slots_29 t_pages_37 t_highest_45 t_units_77 t_kinds_91 t_rows_105 z ++ (wL cB cI cJ b o_made o_sort o_digits o_slots o_pages o_highest o_units o_kinds o_rows o_marks))) k_416 k_303 k_302 k_72 9 4 1 rfl rfl rfl rfl ha_122 hb_122 hc_122 hd_122 he_122 (fun _ => rfl) (Nat.le_of_ble_eq_true rfl) (Nat.le_of_ble_eq_true rfl) dX1_become_122 (fun t_marks_122 e_t_marks_122 => ?_)
  replace hw := hw t_marks_122 e_t_marks_122
  exact w_vret C (t_made_5, t_sort_13, t_digits_21, t_slots_29, t_pages_37, t_highest_45, t_units_77, t_kinds_91, t_rows_105, t_marks_122) hw rfl (Nat.le_of_ble_eq_true rfl) (Nat.le_of_ble_eq_true rfl) dX1_become_125
def wp_X1_become_s  (t_made : Int32) (t_sort : Int32) (t_digits : Int32) (t_slots : Int32) (t_pages : Int32) (t_highest : Int64) (t_units : Nat → Int64) (t_kinds : Nat → Int32) (t_rows : Nat → Int32) (t_marks : Nat → Int32) (Q : Int32 → Int32 → Int32 → Int32 → Int32 → Int64 → (Nat → Int64) → (Nat → Int32) → (Nat → Int32) → (Nat → Int32) → Prop) : Prop := (t_made = 0 ∨ t_made = 1) ∧ ∀ t_made_5 : Int32, t_made_5 = t_made → ∀ t_sort_13 : Int32, t_sort_13 = t_sort → ∀ t_digits_21 : Int32, t_digits_21 = t_digits → ∀ t_slots_29 : Int32, t_slots_29 = t_slots → ∀ t_pages_37 : Int32, t_pages_37 = t_pages → ∀ t_highest_45 : Int64, t_highest_45 = t_highest → ∀ x2_62 : Int32, x2_62 = (if (0 : Int32) < (if (271 : Int32) < t_pages_37 then (271 : Int32) else t_pages_37) then (if (271 : Int32) < t_pages_37 then (271 : Int32) else t_pages_37) else (0 : Int32)) → (¬ (0 : Int32) < 0) ∧ (¬ (0 : Int32) < 0) ∧ (¬ ((16 : Int32) * x2_62) < 0) ∧ (((0 : Int32)).toNatClampNeg + (((16 : Int32) * x2_62)).toNatClampNeg ≤ 4336) ∧ (((0 : Int32)).toNatClampNeg + (((16 : Int32) * x2_62)).toNatClampNeg ≤ 4336) ∧ ∀ t_units_77 : Nat → Int64, t_units_77 = va_cpy t_units t_units ((0 : Int32)).toNatClampNeg ((0 : Int32)).toNatClampNeg (((16 : Int32) * x2_62)).toNatClampNeg → (¬ (0 : Int32) < 0) ∧ (¬ (0 : Int32) < 0) ∧ (¬ x2_62 < 0) ∧ (((0 : Int32)).toNatClampNeg + (x2_62).toNatClampNeg ≤ 271) ∧ (((0 : Int32)).toNatClampNeg + (x2_62).toNatClampNeg ≤ 271) ∧ ∀ t_kinds_91 : Nat → Int32, t_kinds_91 = va_cpy t_kinds t_kinds ((0 : Int32)).toNatClampNeg ((0 : Int32)).toNatClampNeg (x2_62).toNatClampNeg → (¬ (0 : Int32) < 0) ∧ (¬ (0 : Int32) < 0) ∧ (¬ x2_62 < 0) ∧ (((0 : Int32)).toNatClampNeg + (x2_62).toNatClampNeg ≤ 271) ∧ (((0 : Int32)).toNatClampNeg + (x2_62).toNatClampNeg ≤ 271) ∧ ∀ t_rows_105 : Nat → Int32, t_rows_105 = va_cpy t_rows t_rows ((0 : Int32)).toNatClampNeg ((0 : Int32)).toNatClampNeg (x2_62).toNatClampNeg → (¬ (0 : Int32) < 0) ∧ (¬ (0 : Int32) < 0) ∧ (¬ ((16 : Int32) * x2_62) < 0) ∧ (((0 : Int32)).toNatClampNeg + (((16 : Int32) * x2_62)).toNatClampNeg ≤ 4336) ∧ (((0 : Int32)).toNatClampNeg + (((16 : Int32) * x2_62)).toNatClampNeg ≤ 4336) ∧ ∀ t_marks_122 : Nat → Int32, t_marks_122 = va_cpy t_marks t_marks ((0 : Int32)).toNatClampNeg ((0 : Int32)).toNatClampNeg (((16 : Int32) * x2_62)).toNatClampNeg → Q t_made_5 t_sort_13 t_digits_21 t_slots_29 t_pages_37 t_highest_45 t_units_77 t_kinds_91 t_rows_105 t_marks_122
set_option maxHeartbeats 4000000 in
set_option maxRecDepth 100000 in
theorem c_X1_become_s {l : Launch} {D : va_G} {cB cI cJ cL cS : ClassId} {T : Nat × Nat × Nat × Nat} {a : Nat → Nat}  {t_made : Int32} {t_sort : Int32} {t_digits : Int32} {t_slots : Int32} {t_pages : Int32} {t_highest : Int64} {t_units : Nat → Int64} {t_kinds : Nat → Int32} {t_rows : Nat → Int32} {t_marks : Nat → Int32} {Q : Int32 → Int32 → Int32 → Int32 → Int32 → Int64 → (Nat → Int64) → (Nat → Int32) → (Nat → Int32) → (Nat → Int32) → Prop} (hw : wp_X1_become_s  t_made t_sort t_digits t_slots t_pages t_highest t_units t_kinds t_rows t_marks Q) : CtV l D (Z5 cB cI cJ cL cS) T yX1_become cX1_become 3 ({ frames := 1, cells := 0, slots := 0, locals := 40 } : Room) (Option.none : Option Jvm.ClassFile.FieldType) [.ref (a 0), .ref (a 0)] (wL cB cI cJ a t_made t_sort t_digits t_slots t_pages t_highest t_units t_kinds t_rows t_marks) (fun (u : Int32 × Int32 × Int32 × Int32 × Int32 × Int64 × (Nat → Int64) × (Nat → Int32) × (Nat → Int32) × (Nat → Int32)) => (wL cB cI cJ a u.1 u.2.1 u.2.2.1 u.2.2.2.1 u.2.2.2.2.1 u.2.2.2.2.2.1 u.2.2.2.2.2.2.1 u.2.2.2.2.2.2.2.1 u.2.2.2.2.2.2.2.2.1 u.2.2.2.2.2.2.2.2.2)) (fun (u : Int32 × Int32 × Int32 × Int32 × Int32 × Int64 × (Nat → Int64) × (Nat → Int32) × (Nat → Int32) × (Nat → Int32)) => Q u.1 u.2.1 u.2.2.1 u.2.2.2.1 u.2.2.2.2.1 u.2.2.2.2.2.1 u.2.2.2.2.2.2.1 u.2.2.2.2.2.2.2.1 u.2.2.2.2.2.2.2.2.1 u.2.2.2.2.2.2.2.2.2) 0 0 := by
  refine ctV_of (own := RX1) (by decide +kernel) rfl (Nat.le_of_ble_eq_true rfl) (fun p e s m below meth c A C => ?_)
  refine w_sub (lv' := [(0, .ref (a 0)), (1, .ref (a 0))]) C [0, 1] rfl ?_
  unfold wp_X1_become_s at hw
  refine w_aload_n C 0 dX1_become_0 rfl ?_
  refine w_aload_n C 1 dX1_become_1 rfl ?_
  refine w_get C (T1 := TX1) 0 0 u_X1 k_146 rfl (by decide) rfl rfl dX1_become_2 ?_
  obtain ⟨hz_5, hw⟩ := hw
  refine w_puti C (T1 := TX1) (ty := .boolean) 0 0 (fun z => (wL cB cI cJ a z t_sort t_digits t_slots t_pages t_highest t_units t_kinds t_rows t_marks)) u_X1 tyX1 tyX1_ok nmX1 k_146 rfl (by decide) rfl rfl (by decide +kernel) (by rcases hz_5 with h | h <;> rw [h] <;> rfl) (by rcases hz_5 with h | h <;> rw [h] <;> rfl) (Nat.le_of_ble_eq_true rfl) (fun _ => rfl) dX1_become_5 (fun t_made_5 e_t_made_5 => ?_)
  replace hw := hw t_made_5 e_t_made_5
  refine w_aload_n C 0 dX1_become_8 rfl ?_
  refine w_aload_n C 1 dX1_become_9 rfl ?_
  refine w_get C (T1 := TX1) 0 1 u_X1 k_148 rfl (by decide) rfl rfl dX1_become_10 ?_
  refine w_puti C (T1 := TX1) (ty := .int) 0 1 (fun z => (wL cB cI cJ a t_made_5 z t_digits t_slots t_pages t_highest t_units t_kinds t_rows t_marks)) u_X1 tyX1 tyX1_ok nmX1 k_148 rfl (by decide) rfl rfl (by decide +kernel) rfl rfl (Nat.le_of_ble_eq_true rfl) (fun _ => rfl) dX1_become_13 (fun t_sort_13 e_t_sort_13 => ?_)
  replace hw := hw t_sort_13 e_t_sort_13
  refine w_aload_n C 0 dX1_become_16 rfl ?_
  refine w_aload_n C 1 dX1_become_17 rfl ?_
  refine w_get C (T1 := TX1) 0 2 u_X1 k_150 rfl (by decide) rfl rfl dX1_become_18 ?_
  refine w_puti C (T1 := TX1) (ty := .int) 0 2 (fun z => (wL cB cI cJ a t_made_5 t_sort_13 z t_slots t_pages t_highest t_units t_kinds t_rows t_marks)) u_X1 tyX1 tyX1_ok nmX1 k_150 rfl (by decide) rfl rfl (by decide +kernel) rfl rfl (Nat.le_of_ble_eq_true rfl) (fun _ => rfl) dX1_become_21 (fun t_digits_21 e_t_digits_21 => ?_)
  replace hw := hw t_digits_21 e_t_digits_21
  refine w_aload_n C 0 dX1_become_24 rfl ?_
  refine w_aload_n C 1 dX1_become_25 rfl ?_
  refine w_get C (T1 := TX1) 0 3 u_X1 k_152 rfl (by decide) rfl rfl dX1_become_26 ?_
  refine w_puti C (T1 := TX1) (ty := .int) 0 3 (fun z => (wL cB cI cJ a t_made_5 t_sort_13 t_digits_21 z t_pages t_highest t_units t_kinds t_rows t_marks)) u_X1 tyX1 tyX1_ok nmX1 k_152 rfl (by decide) rfl rfl (by decide +kernel) rfl rfl (Nat.le_of_ble_eq_true rfl) (fun _ => rfl) dX1_become_29 (fun t_slots_29 e_t_slots_29 => ?_)
  replace hw := hw t_slots_29 e_t_slots_29
  refine w_aload_n C 0 dX1_become_32 rfl ?_
  refine w_aload_n C 1 dX1_become_33 rfl ?_
  refine w_get C (T1 := TX1) 0 4 u_X1 k_154 rfl (by decide) rfl rfl dX1_become_34 ?_
  refine w_puti C (T1 := TX1) (ty := .int) 0 4 (fun z => (wL cB cI cJ a t_made_5 t_sort_13 t_digits_21 t_slots_29 z t_highest t_units t_kinds t_rows t_marks)) u_X1 tyX1 tyX1_ok nmX1 k_154 rfl (by decide) rfl rfl (by decide +kernel) rfl rfl (Nat.le_of_ble_eq_true rfl) (fun _ => rfl) dX1_become_37 (fun t_pages_37 e_t_pages_37 => ?_)
  replace hw := hw t_pages_37 e_t_pages_37
  refine w_aload_n C 0 dX1_become_40 rfl ?_
  refine w_aload_n C 1 dX1_become_41 rfl ?_
  refine w_get C (T1 := TX1) 0 5 u_X1 k_156 rfl (by decide) rfl rfl dX1_become_42 ?_
  refine w_putl C (T1 := TX1) (ty := .long) 0 5 (fun z => (wL cB cI cJ a t_made_5 t_sort_13 t_digits_21 t_slots_29 t_pages_37 z t_units t_kinds t_rows t_marks)) u_X1 tyX1 tyX1_ok nmX1 k_156 rfl (by decide) rfl rfl (by decide +kernel) rfl rfl (Nat.le_of_ble_eq_true rfl) (fun _ => rfl) dX1_become_45 (fun t_highest_45 e_t_highest_45 => ?_)
  replace hw := hw t_highest_45 e_t_highest_45
  refine w_iconst C (v := (0 : Int32)) dX1_become_48 (by decide) ?_
  refine w_aload_n C 0 dX1_become_49 rfl ?_
  refine w_get C (T1 := TX1) 0 4 u_X1 k_154 rfl (by decide) rfl rfl dX1_become_50 ?_
  refine w_sipush C (v := (271 : Int32)) dX1_become_53 (by decide) ?_
  refine w_imin C k_285 f_imin.1 f_imin.2.1 f_imin.2.2 (Nat.le_of_ble_eq_true rfl) (Nat.le_of_ble_eq_true rfl) (Nat.le_of_ble_eq_true rfl) (Nat.le_of_ble_eq_true rfl) dX1_become_56 ?_
  refine w_imax C k_415 f_imax.1 f_imax.2.1 f_imax.2.2 (Nat.le_of_ble_eq_true rfl) (Nat.le_of_ble_eq_true rfl) (Nat.le_of_ble_eq_true rfl) (Nat.le_of_ble_eq_true rfl) dX1_become_59 ?_
  refine w_istore_n C (fun x2_62 => [(2, .int x2_62), (0, .ref (a 0)), (1, .ref (a 0))]) dX1_become_62 (by decide) (fun _ => rfl) (fun x2_62 e_x2_62 => ?_)
  replace hw := hw x2_62 e_x2_62
  refine w_aload_n C 2 dX1_become_63 rfl ?_
  refine w_get C (T1 := TX1) 0 6 u_X1 k_158 rfl (by decide) rfl rfl dX1_become_64 ?_
  refine w_iconst C (v := (0 : Int32)) dX1_become_67 (by decide) ?_
  refine w_aload_n C 1 dX1_become_68 rfl ?_
  refine w_get C (T1 := TX1) 0 6 u_X1 k_158 rfl (by decide) rfl rfl dX1_become_69 ?_
  refine w_iconst C (v := (0 : Int32)) dX1_become_72 (by decide) ?_
  refine w_bipush C (v := (16 : Int32)) dX1_become_73 (by decide) ?_
  refine w_iload_n C 0 dX1_become_75 rfl ?_
  refine w_imul C dX1_become_76 ?_
  obtain ⟨ha_77, hb_77, hc_77, hd_77, he_77, hw⟩ := hw
  refine w_copyl C (fun z => (wL cB cI cJ a t_made_5 t_sort_13 t_digits_21 t_slots_29 t_pages_37 t_highest_45 z t_kinds t_rows t_marks)) k_416 k_303 k_302 k_72 1 1 2 rfl rfl rfl rfl ha_77 hb_77 hc_77 hd_77 he_77 (fun _ => rfl) (Nat.le_of_ble_eq_true rfl) (Nat.le_of_ble_eq_true rfl) dX1_become_77 (fun t_units_77 e_t_units_77 => ?_)
  replace hw := hw t_units_77 e_t_units_77
  refine w_aload_n C 2 dX1_become_80 rfl ?_
  refine w_get C (T1 := TX1) 0 7 u_X1 k_159 rfl (by decide) rfl rfl dX1_become_81 ?_
  refine w_iconst C (v := (0 : Int32)) dX1_become_84 (by decide) ?_
  refine w_aload_n C 1 dX1_become_85 rfl ?_
  refine w_get C (T1 := TX1) 0 7 u_X1 k_159 rfl (by decide) rfl rfl dX1_become_86 ?_
  refine w_iconst C (v := (0 : Int32)) dX1_become_89 (by decide) ?_
  refine w_iload_n C 0 dX1_become_90 rfl ?_
  obtain ⟨ha_91, hb_91, hc_91, hd_91, he_91, hw⟩ := hw
  refine w_copyi C (fun z => (wL cB cI cJ a t_made_5 t_sort_13 t_digits_21 t_slots_29 t_pages_37 t_highest_45 t_units_77 z t_rows t_marks)) k_416 k_303 k_302 k_72 2 2 1 rfl rfl rfl rfl ha_91 hb_91 hc_91 hd_91 he_91 (fun _ => rfl) (Nat.le_of_ble_eq_true rfl) (Nat.le_of_ble_eq_true rfl) dX1_become_91 (fun t_kinds_91 e_t_kinds_91 => ?_)
  replace hw := hw t_kinds_91 e_t_kinds_91
  refine w_aload_n C 2 dX1_become_94 rfl ?_
  refine w_get C (T1 := TX1) 0 8 u_X1 k_160 rfl (by decide) rfl rfl dX1_become_95 ?_
  refine w_iconst C (v := (0 : Int32)) dX1_become_98 (by decide) ?_
  refine w_aload_n C 1 dX1_become_99 rfl ?_
  refine w_get C (T1 := TX1) 0 8 u_X1 k_160 rfl (by decide) rfl rfl dX1_become_100 ?_
  refine w_iconst C (v := (0 : Int32)) dX1_become_103 (by decide) ?_
  refine w_iload_n C 0 dX1_become_104 rfl ?_
  obtain ⟨ha_105, hb_105, hc_105, hd_105, he_105, hw⟩ := hw
  refine w_copyi C (fun z => (wL cB cI cJ a t_made_5 t_sort_13 t_digits_21 t_slots_29 t_pages_37 t_highest_45 t_units_77 t_kinds_91 z t_marks)) k_416 k_303 k_302 k_72 3 3 1 rfl rfl rfl rfl ha_105 hb_105 hc_105 hd_105 he_105 (fun _ => rfl) (Nat.le_of_ble_eq_true rfl) (Nat.le_of_ble_eq_true rfl) dX1_become_105 (fun t_rows_105 e_t_rows_105 => ?_)
  replace hw := hw t_rows_105 e_t_rows_105
  refine w_aload_n C 2 dX1_become_108 rfl ?_
  refine w_get C (T1 := TX1) 0 9 u_X1 k_161 rfl (by decide) rfl rfl dX1_become_109 ?_
  refine w_iconst C (v := (0 : Int32)) dX1_become_112 (by decide) ?_
  refine w_aload_n C 1 dX1_become_113 rfl ?_
  refine w_get C (T1 := TX1) 0 9 u_X1 k_161 rfl (by decide) rfl rfl dX1_become_114 ?_
  refine w_iconst C (v := (0 : Int32)) dX1_become_117 (by decide) ?_
  refine w_bipush C (v := (16 : Int32)) dX1_become_118 (by decide) ?_
  refine w_iload_n C 0 dX1_become_120 rfl ?_
  refine w_imul C dX1_become_121 ?_
  obtain ⟨ha_122, hb_122, hc_122, hd_122, he_122, hw⟩ := hw
  refine w_copyi C (fun z => (wL cB cI cJ a t_made_5 t_sort_13 t_digits_21 t_slots_29 t_pages_37 t_highest_45 t_units_77 t_kinds_91 t_rows_105 z)) k_416 k_303 k_302 k_72 4 4 1 rfl rfl rfl rfl ha_122 hb_122 hc_122 hd_122 he_122 (fun _ => rfl) (Nat.le_of_ble_eq_true rfl) (Nat.le_of_ble_eq_true rfl) dX1_become_122 (fun t_marks_122 e_t_marks_122 => ?_)
  replace hw := hw t_marks_122 e_t_marks_122
  exact w_vret C (t_made_5, t_sort_13, t_digits_21, t_slots_29, t_pages_37, t_highest_45, t_units_77, t_kinds_91, t_rows_105, t_marks_122) hw rfl (Nat.le_of_ble_eq_true rfl) (Nat.le_of_ble_eq_true rfl) dX1_become_125
def wp_X1_clear  (t_units : Nat → Int64) (t_kinds : Nat → Int32) (t_rows : Nat → Int32) (t_marks : Nat → Int32) (Q : (Nat → Int64) → (Nat → Int32) → (Nat → Int32) → (Nat → Int32) → Prop) : Prop := ∀ t_units_5 : Nat → Int64, (∀ j : Nat, j < 4336 → t_units_5 j = (0 : Int64)) → ∀ t_kinds_13 : Nat → Int32, (∀ j : Nat, j < 271 → t_kinds_13 j = (0 : Int32)) → ∀ t_rows_21 : Nat → Int32, (∀ j : Nat, j < 271 → t_rows_21 j = (0 : Int32)) → ∀ t_marks_29 : Nat → Int32, (∀ j : Nat, j < 4336 → t_marks_29 j = (0 : Int32)) → Q t_units_5 t_kinds_13 t_rows_21 t_marks_29
set_option maxHeartbeats 4000000 in
set_option maxRecDepth 100000 in
theorem c_X1_clear {l : Launch} {D : va_G} {cB cI cJ cL cS : ClassId} {T : Nat × Nat × Nat × Nat} {a : Nat → Nat}  {t_made : Int32} {t_sort : Int32} {t_digits : Int32} {t_slots : Int32} {t_pages : Int32} {t_highest : Int64} {t_units : Nat → Int64} {t_kinds : Nat → Int32} {t_rows : Nat → Int32} {t_marks : Nat → Int32} {Q : (Nat → Int64) → (Nat → Int32) → (Nat → Int32) → (Nat → Int32) → Prop} (hw : wp_X1_clear  t_units t_kinds t_rows t_marks Q) : CtV l D (Z5 cB cI cJ cL cS) T yX1_clear cX1_clear 1 ({ frames := 1, cells := 0, slots := 0, locals := 40 } : Room) (Option.none : Option Jvm.ClassFile.FieldType) [.ref (a 0)] (wL cB cI cJ a t_made t_sort t_digits t_slots t_pages t_highest t_units t_kinds t_rows t_marks) (fun (u : (Nat → Int64) × (Nat → Int32) × (Nat → Int32) × (Nat → Int32)) => (wL cB cI cJ a t_made t_sort t_digits t_slots t_pages t_highest u.1 u.2.1 u.2.2.1 u.2.2.2)) (fun (u : (Nat → Int64) × (Nat → Int32) × (Nat → Int32) × (Nat → Int32)) => Q u.1 u.2.1 u.2.2.1 u.2.2.2) 0 0 := by
  refine ctV_of (own := RX1) (by decide +kernel) rfl (Nat.le_of_ble_eq_true rfl) (fun p e s m below meth c A C => ?_)
  refine w_sub (lv' := [(0, .ref (a 0))]) C [0] rfl ?_
  unfold wp_X1_clear at hw
  refine w_aload_n C 0 dX1_clear_0 rfl ?_
  refine w_get C (T1 := TX1) 0 6 u_X1 k_158 rfl (by decide) rfl rfl dX1_clear_1 ?_
  refine w_lconst C (v := (0 : Int64)) dX1_clear_4 (by decide) ?_
  refine w_callPSV C (c_fillJ 4336 (by decide)) f_J7_fill_d0a16 k_430 rfl ⟨Nat.le_of_ble_eq_true rfl, Nat.le_of_ble_eq_true rfl⟩ rfl rfl ⟨Nat.le_of_ble_eq_true rfl, Nat.le_of_ble_eq_true rfl⟩ (((wL cB cI cJ a t_made t_sort t_digits t_slots t_pages t_highest t_units t_kinds t_rows t_marks)).eraseIdx 1) (fun (u : Nat → Int64) => (wL cB cI cJ a t_made t_sort t_digits t_slots t_pages t_highest u t_kinds t_rows t_marks)) [1] [0, 2, 3, 4] [0, 4, 1, 2, 3] rfl rfl (by decide) (by decide) (by decide) (by decide) (fun _ => rfl) (fun _ => rfl) rfl (Nat.le_of_ble_eq_true rfl) dX1_clear_5 (fun t_units_5 h_t_units_5 => ?_)
  replace hw := hw t_units_5 h_t_units_5
  refine w_aload_n C 0 dX1_clear_8 rfl ?_
  refine w_get C (T1 := TX1) 0 7 u_X1 k_159 rfl (by decide) rfl rfl dX1_clear_9 ?_
  refine w_iconst C (v := (0 : Int32)) dX1_clear_12 (by decide) ?_
  refine w_callPSV C (c_fillI 271 (by decide)) f_J7_fill_53178 k_433 rfl ⟨Nat.le_of_ble_eq_true rfl, Nat.le_of_ble_eq_true rfl⟩ rfl rfl ⟨Nat.le_of_ble_eq_true rfl, Nat.le_of_ble_eq_true rfl⟩ (((wL cB cI cJ a t_made t_sort t_digits t_slots t_pages t_highest t_units_5 t_kinds t_rows t_marks)).eraseIdx 2) (fun (u : Nat → Int32) => (wL cB cI cJ a t_made t_sort t_digits t_slots t_pages t_highest t_units_5 u t_rows t_marks)) [2] [0, 1, 3, 4] [0, 1, 4, 2, 3] rfl rfl (by decide) (by decide) (by decide) (by decide) (fun _ => rfl) (fun _ => rfl) rfl (Nat.le_of_ble_eq_true rfl) dX1_clear_13 (fun t_kinds_13 h_t_kinds_13 => ?_)
  replace hw := hw t_kinds_13 h_t_kinds_13
  refine w_aload_n C 0 dX1_clear_16 rfl ?_
  refine w_get C (T1 := TX1) 0 8 u_X1 k_160 rfl (by decide) rfl rfl dX1_clear_17 ?_
  refine w_iconst C (v := (0 : Int32)) dX1_clear_20 (by decide) ?_
  refine w_callPSV C (c_fillI 271 (by decide)) f_J7_fill_53178 k_433 rfl ⟨Nat.le_of_ble_eq_true rfl, Nat.le_of_ble_eq_true rfl⟩ rfl rfl ⟨Nat.le_of_ble_eq_true rfl, Nat.le_of_ble_eq_true rfl⟩ (((wL cB cI cJ a t_made t_sort t_digits t_slots t_pages t_highest t_units_5 t_kinds_13 t_rows t_marks)).eraseIdx 3) (fun (u : Nat → Int32) => (wL cB cI cJ a t_made t_sort t_digits t_slots t_pages t_highest t_units_5 t_kinds_13 u t_marks)) [3] [0, 1, 2, 4] [0, 1, 2, 4, 3] rfl rfl (by decide) (by decide) (by decide) (by decide) (fun _ => rfl) (fun _ => rfl) rfl (Nat.le_of_ble_eq_true rfl) dX1_clear_21 (fun t_rows_21 h_t_rows_21 => ?_)
  replace hw := hw t_rows_21 h_t_rows_21
  refine w_aload_n C 0 dX1_clear_24 rfl ?_
  refine w_get C (T1 := TX1) 0 9 u_X1 k_161 rfl (by decide) rfl rfl dX1_clear_25 ?_
  refine w_iconst C (v := (0 : Int32)) dX1_clear_28 (by decide) ?_
  refine w_callPSV C (c_fillI 4336 (by decide)) f_J7_fill_53178 k_433 rfl ⟨Nat.le_of_ble_eq_true rfl, Nat.le_of_ble_eq_true rfl⟩ rfl rfl ⟨Nat.le_of_ble_eq_true rfl, Nat.le_of_ble_eq_true rfl⟩ (((wL cB cI cJ a t_made t_sort t_digits t_slots t_pages t_highest t_units_5 t_kinds_13 t_rows_21 t_marks)).eraseIdx 4) (fun (u : Nat → Int32) => (wL cB cI cJ a t_made t_sort t_digits t_slots t_pages t_highest t_units_5 t_kinds_13 t_rows_21 u)) [4] [0, 1, 2, 3] [0, 1, 2, 3, 4] rfl rfl (by decide) (by decide) (by decide) (by decide) (fun _ => rfl) (fun _ => rfl) rfl (Nat.le_of_ble_eq_true rfl) dX1_clear_29 (fun t_marks_29 h_t_marks_29 => ?_)
  replace hw := hw t_marks_29 h_t_marks_29
  exact w_vret C (t_units_5, t_kinds_13, t_rows_21, t_marks_29) hw rfl (Nat.le_of_ble_eq_true rfl) (Nat.le_of_ble_eq_true rfl) dX1_clear_32
def wp_X1_open (p0 : Int32) (p1 : Int32) (p2 : Int64) (t_made : Int32) (t_sort : Int32) (t_digits : Int32) (t_slots : Int32) (t_pages : Int32) (t_highest : Int64) (t_units : Nat → Int64) (t_kinds : Nat → Int32) (t_rows : Nat → Int32) (t_marks : Nat → Int32) (Q : Int32 → Int32 → Int32 → Int32 → Int32 → Int64 → (Nat → Int64) → (Nat → Int32) → (Nat → Int32) → (Nat → Int32) → Prop) : Prop := ∀ t_made_2 : Int32, t_made_2 = (1 : Int32) → ∀ t_sort_7 : Int32, t_sort_7 = p0 → ∀ t_digits_12 : Int32, t_digits_12 = p1 → ∀ t_highest_17 : Int64, t_highest_17 = p2 → wp_X7_slotOf p1 p2  (fun (r_23 : Int32) => ∀ t_slots_36 : Int32, t_slots_36 = (if (4336 : Int32) < (r_23 + (1 : Int32)) then (4336 : Int32) else (r_23 + (1 : Int32))) → ∀ t_pages_60 : Int32, t_pages_60 = (if (271 : Int32) < (((t_slots_36 + (16 : Int32)) - (1 : Int32)) / (16 : Int32)) then (271 : Int32) else (((t_slots_36 + (16 : Int32)) - (1 : Int32)) / (16 : Int32))) → wp_X1_clear  t_units t_kinds t_rows t_marks (fun (t_units_64 : Nat → Int64) (t_kinds_64 : Nat → Int32) (t_rows_64 : Nat → Int32) (t_marks_64 : Nat → Int32) => Q t_made_2 t_sort_7 t_digits_12 t_slots_36 t_pages_60 t_highest_17 t_units_64 t_kinds_64 t_rows_64 t_marks_64))
set_option maxHeartbeats 4000000 in
set_option maxRecDepth 100000 in
theorem c_X1_open {l : Launch} {D : va_G} {cB cI cJ cL cS : ClassId} {T : Nat × Nat × Nat × Nat} {a : Nat → Nat} {p0 : Int32} {p1 : Int32} {p2 : Int64} {t_made : Int32} {t_sort : Int32} {t_digits : Int32} {t_slots : Int32} {t_pages : Int32} {t_highest : Int64} {t_units : Nat → Int64} {t_kinds : Nat → Int32} {t_rows : Nat → Int32} {t_marks : Nat → Int32} {Q : Int32 → Int32 → Int32 → Int32 → Int32 → Int64 → (Nat → Int64) → (Nat → Int32) → (Nat → Int32) → (Nat → Int32) → Prop} (hw : wp_X1_open p0 p1 p2 t_made t_sort t_digits t_slots t_pages t_highest t_units t_kinds t_rows t_marks Q) : CtV l D (Z5 cB cI cJ cL cS) T yX1_open cX1_open 5 ({ frames := 3, cells := 0, slots := 0, locals := 67 } : Room) (Option.none : Option Jvm.ClassFile.FieldType) [.ref (a 0), .int p0, .int p1, .long p2] (wL cB cI cJ a t_made t_sort t_digits t_slots t_pages t_highest t_units t_kinds t_rows t_marks) (fun (u : Int32 × Int32 × Int32 × Int32 × Int32 × Int64 × (Nat → Int64) × (Nat → Int32) × (Nat → Int32) × (Nat → Int32)) => (wL cB cI cJ a u.1 u.2.1 u.2.2.1 u.2.2.2.1 u.2.2.2.2.1 u.2.2.2.2.2.1 u.2.2.2.2.2.2.1 u.2.2.2.2.2.2.2.1 u.2.2.2.2.2.2.2.2.1 u.2.2.2.2.2.2.2.2.2)) (fun (u : Int32 × Int32 × Int32 × Int32 × Int32 × Int64 × (Nat → Int64) × (Nat → Int32) × (Nat → Int32) × (Nat → Int32)) => Q u.1 u.2.1 u.2.2.1 u.2.2.2.1 u.2.2.2.2.1 u.2.2.2.2.2.1 u.2.2.2.2.2.2.1 u.2.2.2.2.2.2.2.1 u.2.2.2.2.2.2.2.2.1 u.2.2.2.2.2.2.2.2.2) 0 0 := by
  refine ctV_of (own := RX1) (by decide +kernel) rfl (Nat.le_of_ble_eq_true rfl) (fun p e s m below meth c A C => ?_)
  refine w_sub (lv' := [(0, .ref (a 0)), (1, .int p0), (2, .int p1), (3, .long p2)]) C [0, 1, 2, 3] rfl ?_
  unfold wp_X1_open at hw
  refine w_aload_n C 0 dX1_open_0 rfl ?_
  refine w_iconst C (v := (1 : Int32)) dX1_open_1 (by decide) ?_
  refine w_puti C (T1 := TX1) (ty := .boolean) 0 0 (fun z => (wL cB cI cJ a z t_sort t_digits t_slots t_pages t_highest t_units t_kinds t_rows t_marks)) u_X1 tyX1 tyX1_ok nmX1 k_146 rfl (by decide) rfl rfl (by decide +kernel) rfl rfl (Nat.le_of_ble_eq_true rfl) (fun _ => rfl) dX1_open_2 (fun t_made_2 e_t_made_2 => ?_)
  replace hw := hw t_made_2 e_t_made_2
  refine w_aload_n C 0 dX1_open_5 rfl ?_
  refine w_iload_n C 1 dX1_open_6 rfl ?_
  refine w_puti C (T1 := TX1) (ty := .int) 0 1 (fun z => (wL cB cI cJ a t_made_2 z t_digits t_slots t_pages t_highest t_units t_kinds t_rows t_marks)) u_X1 tyX1 tyX1_ok nmX1 k_148 rfl (by decide) rfl rfl (by decide +kernel) rfl rfl (Nat.le_of_ble_eq_true rfl) (fun _ => rfl) dX1_open_7 (fun t_sort_7 e_t_sort_7 => ?_)
  replace hw := hw t_sort_7 e_t_sort_7
  refine w_aload_n C 0 dX1_open_10 rfl ?_
  refine w_iload_n C 2 dX1_open_11 rfl ?_
  refine w_puti C (T1 := TX1) (ty := .int) 0 2 (fun z => (wL cB cI cJ a t_made_2 t_sort_7 z t_slots t_pages t_highest t_units t_kinds t_rows t_marks)) u_X1 tyX1 tyX1_ok nmX1 k_150 rfl (by decide) rfl rfl (by decide +kernel) rfl rfl (Nat.le_of_ble_eq_true rfl) (fun _ => rfl) dX1_open_12 (fun t_digits_12 e_t_digits_12 => ?_)
  replace hw := hw t_digits_12 e_t_digits_12
  refine w_aload_n C 0 dX1_open_15 rfl ?_
  refine w_lload_n C 3 dX1_open_16 rfl ?_
  refine w_putl C (T1 := TX1) (ty := .long) 0 5 (fun z => (wL cB cI cJ a t_made_2 t_sort_7 t_digits_12 t_slots t_pages z t_units t_kinds t_rows t_marks)) u_X1 tyX1 tyX1_ok nmX1 k_156 rfl (by decide) rfl rfl (by decide +kernel) rfl rfl (Nat.le_of_ble_eq_true rfl) (fun _ => rfl) dX1_open_17 (fun t_highest_17 e_t_highest_17 => ?_)
  replace hw := hw t_highest_17 e_t_highest_17
  refine w_aload_n C 0 dX1_open_20 rfl ?_
  refine w_iload_n C 2 dX1_open_21 rfl ?_
  refine w_lload_n C 3 dX1_open_22 rfl ?_
  refine w_callSIN C (c_X7_slotOf hw) f_X7_slotOf n_425 rfl ⟨Nat.le_of_ble_eq_true rfl, Nat.le_of_ble_eq_true rfl⟩ rfl rfl ⟨Nat.le_of_ble_eq_true rfl, Nat.le_of_ble_eq_true rfl⟩ rfl (Nat.le_of_ble_eq_true rfl) dX1_open_23 (fun r_23 u_23 hw => ?_)
  try dsimp only at hw
  refine w_iconst C (v := (1 : Int32)) dX1_open_26 (by decide) ?_
  refine w_iadd C dX1_open_27 ?_
  refine w_aload_n C 0 dX1_open_28 rfl ?_
  refine w_get C (T1 := TX1) 0 6 u_X1 k_158 rfl (by decide) rfl rfl dX1_open_29 ?_
  refine w_alen C (v := (4336 : Int32)) 1 2 rfl rfl rfl dX1_open_32 ?_
  refine w_imin C k_285 f_imin.1 f_imin.2.1 f_imin.2.2 (Nat.le_of_ble_eq_true rfl) (Nat.le_of_ble_eq_true rfl) (Nat.le_of_ble_eq_true rfl) (Nat.le_of_ble_eq_true rfl) dX1_open_33 ?_
  refine w_puti C (T1 := TX1) (ty := .int) 0 3 (fun z => (wL cB cI cJ a t_made_2 t_sort_7 t_digits_12 z t_pages t_highest_17 t_units t_kinds t_rows t_marks)) u_X1 tyX1 tyX1_ok nmX1 k_152 rfl (by decide) rfl rfl (by decide +kernel) rfl rfl (Nat.le_of_ble_eq_true rfl) (fun _ => rfl) dX1_open_36 (fun t_slots_36 e_t_slots_36 => ?_)
  replace hw := hw t_slots_36 e_t_slots_36
  refine w_aload_n C 0 dX1_open_39 rfl ?_
  refine w_aload_n C 0 dX1_open_40 rfl ?_
  refine w_get C (T1 := TX1) 0 3 u_X1 k_152 rfl (by decide) rfl rfl dX1_open_41 ?_
  refine w_bipush C (v := (16 : Int32)) dX1_open_44 (by decide) ?_
  refine w_iadd C dX1_open_46 ?_
  refine w_iconst C (v := (1 : Int32)) dX1_open_47 (by decide) ?_
  refine w_isub C dX1_open_48 ?_
  refine w_bipush C (v := (16 : Int32)) dX1_open_49 (by decide) ?_
  refine w_idiv C (by decide) dX1_open_51 ?_
  refine w_aload_n C 0 dX1_open_52 rfl ?_
  refine w_get C (T1 := TX1) 0 7 u_X1 k_159 rfl (by decide) rfl rfl dX1_open_53 ?_
  refine w_alen C (v := (271 : Int32)) 2 1 rfl rfl rfl dX1_open_56 ?_
  refine w_imin C k_285 f_imin.1 f_imin.2.1 f_imin.2.2 (Nat.le_of_ble_eq_true rfl) (Nat.le_of_ble_eq_true rfl) (Nat.le_of_ble_eq_true rfl) (Nat.le_of_ble_eq_true rfl) dX1_open_57 ?_
  refine w_puti C (T1 := TX1) (ty := .int) 0 4 (fun z => (wL cB cI cJ a t_made_2 t_sort_7 t_digits_12 t_slots_36 z t_highest_17 t_units t_kinds t_rows t_marks)) u_X1 tyX1 tyX1_ok nmX1 k_154 rfl (by decide) rfl rfl (by decide +kernel) rfl rfl (Nat.le_of_ble_eq_true rfl) (fun _ => rfl) dX1_open_60 (fun t_pages_60 e_t_pages_60 => ?_)
  replace hw := hw t_pages_60 e_t_pages_60
  refine w_aload_n C 0 dX1_open_63 rfl ?_
  refine w_callVV C (c_X1_clear hw) f_X1_clear k_428 k_426 rfl ⟨Nat.le_of_ble_eq_true rfl, Nat.le_of_ble_eq_true rfl⟩ rfl rfl ⟨Nat.le_of_ble_eq_true rfl, Nat.le_of_ble_eq_true rfl⟩ 0 rfl (rr := (RX1, TX1, 10)) rfl rfl (fun _ => rfl) rfl (Nat.le_of_ble_eq_true rfl) dX1_open_64 (fun u_64 hw => ?_)
  obtain ⟨t_units_64, t_kinds_64, t_rows_64, t_marks_64⟩ := u_64
  try dsimp only at hw
  exact w_vret C (t_made_2, t_sort_7, t_digits_12, t_slots_36, t_pages_60, t_highest_17, t_units_64, t_kinds_64, t_rows_64, t_marks_64) hw rfl (Nat.le_of_ble_eq_true rfl) (Nat.le_of_ble_eq_true rfl) dX1_open_67
def bod_X1_rowThatHolds_23 (t_sort : Int32)  (Q : Int32 → Prop) (x2 : Int64) (x4 : Int32)  (K23 : Int32 → Prop) (x5 : Int32) : Prop := ((x4 ≤ x5 → (Q x4)) ∧ (¬ x4 ≤ x5 → ((((9 : Int32) ≤ x5 → (Q x4)) ∧ (¬ (9 : Int32) ≤ x5 → ((vp_in x5 9) ∧ (((stH.getD (x5).toNatClampNeg 0) < x2 → (∀ x5_53 : Int32, x5_53 = x5 + (1 : Int32) → K23 x5_53)) ∧ (¬ (stH.getD (x5).toNatClampNeg 0) < x2 → (Q x5)))))))))
def lp_X1_rowThatHolds_23 (t_sort : Int32)  (Q : Int32 → Prop) (x2 : Int64) (x4 : Int32)  : Nat → Int32 → Prop
  | 0, _ => False
  | j + 1, x5 => bod_X1_rowThatHolds_23 t_sort  Q x2 x4 (fun v0 => lp_X1_rowThatHolds_23 t_sort  Q x2 x4 j v0) x5
def blk_X1_rowThatHolds_14 (t_sort : Int32)  (Q : Int32 → Prop) (x1 : Int32) (x2 : Int64) (k0 : Int32) : Prop := ∀ x4_14 : Int32, x4_14 = k0 → ∀ x5_21 : Int32, x5_21 = (if (0 : Int32) < x1 then x1 else (0 : Int32)) → (∃ j : Nat, lp_X1_rowThatHolds_23 t_sort  Q x2 x4_14 j x5_21)
def wp_X1_rowThatHolds (p0 : Int32) (p1 : Int64) (t_sort : Int32) (Q : Int32 → Prop) : Prop := ((¬ t_sort = 0 → ((blk_X1_rowThatHolds_14 t_sort  Q p0 p1 (8 : Int32)))) ∧ (t_sort = 0 → ((blk_X1_rowThatHolds_14 t_sort  Q p0 p1 (6 : Int32)))))
set_option maxHeartbeats 4000000 in
set_option maxRecDepth 100000 in
theorem wl_X1_rowThatHolds_23 {p : Program} {l : Launch} {e : Env} {s : State} {m : MethodId} {args : Array Value} {below : List Frame} {meth : Method} {c : Code} {D : va_G} {cB cI cJ cL cS : ClassId} {T : Nat × Nat × Nat × Nat} {A : Nat → Prop} {a : Nat → Nat} {t_made : Int32} {t_sort : Int32} {t_digits : Int32} {t_slots : Int32} {t_pages : Int32} {t_highest : Int64} {t_units : Nat → Int64} {t_kinds : Nat → Int32} {t_rows : Nat → Int32} {t_marks : Nat → Int32} {Q : Int32 → Prop} (C : Cq p s m args meth c D (Z5 cB cI cJ cL cS) T A cX1_rowThatHolds RX1 6 (Option.some Jvm.ClassFile.FieldType.int)) {x2 : Int64} {x4 : Int32}   : ∀ (j : Nat) (x5 : Int32), lp_X1_rowThatHolds_23 t_sort  Q x2 x4 j x5 → ww p l e ({ frames := 1, cells := 0, slots := 0, locals := 32 } : Room) s m args below meth c D A 6 (MQ below (va_Qi (fun (r : Int32) (u : Unit) => Q r ) (OutP D (fun (u : Unit) => (wL cB cI cJ a t_made t_sort t_digits t_slots t_pages t_highest t_units t_kinds t_rows t_marks))) A) args s 0 0 A) 0 0 (wL cB cI cJ a t_made t_sort t_digits t_slots t_pages t_highest t_units t_kinds t_rows t_marks) 23 [(2, .long x2), (4, .int x4), (5, .int x5)] [] := by
  intro j
  induction j with
  | zero => intro _ hw; exact hw.elim
  | succ j hK23 =>
    intro x5 hw
    have hw : bod_X1_rowThatHolds_23 t_sort  Q x2 x4 (fun v0 => lp_X1_rowThatHolds_23 t_sort  Q x2 x4 j v0) x5 := hw
    unfold bod_X1_rowThatHolds_23 at hw
    refine w_iload C 2 dX1_rowThatHolds_23 rfl ?_
    refine w_iload C 1 dX1_rowThatHolds_25 rfl ?_
    refine w_icmp_ge C 59 (by decide) dX1_rowThatHolds_27 (fun c_27 => ?_) (fun c_27 => ?_)
    · replace hw := hw.1 c_27
      refine w_iload C 1 dX1_rowThatHolds_59 rfl ?_
      exact w_iret C () hw rfl (Nat.le_of_ble_eq_true rfl) (Nat.le_of_ble_eq_true rfl) dX1_rowThatHolds_61
    · replace hw := hw.2 c_27
      refine w_iload C 2 dX1_rowThatHolds_30 rfl ?_
      refine w_getsN_HOLDS C n_457 dX1_rowThatHolds_32 ?_
      refine w_slen_HOLDS C dX1_rowThatHolds_35 ?_
      refine w_icmp_ge C 59 (by decide) dX1_rowThatHolds_36 (fun c_36 => ?_) (fun c_36 => ?_)
      · replace hw := hw.1 c_36
        refine w_iload C 1 dX1_rowThatHolds_59 rfl ?_
        exact w_iret C () hw rfl (Nat.le_of_ble_eq_true rfl) (Nat.le_of_ble_eq_true rfl) dX1_rowThatHolds_61
      · replace hw := hw.2 c_36
        refine w_getsN_HOLDS C n_457 dX1_rowThatHolds_39 ?_
        refine w_iload C 2 dX1_rowThatHolds_42 rfl ?_
        obtain ⟨hi_44, hw⟩ := hw
        refine w_sld_HOLDS C hi_44 dX1_rowThatHolds_44 ?_
        refine w_lload_n C 0 dX1_rowThatHolds_45 rfl ?_
        refine w_lcmp_lt C 47 53 rfl (by decide) dX1_rowThatHolds_46 dX1_rowThatHolds_47 (fun c_46 => ?_) (fun c_46 => ?_)
        · replace hw := hw.1 c_46
          refine w_iinc C (v := x5 + (1 : Int32)) 2 (fun x5_53 => [(5, .int x5_53), (2, .long x2), (4, .int x4)]) dX1_rowThatHolds_53 rfl rfl (by decide) (fun _ => rfl) (fun x5_53 e_x5_53 => ?_)
          replace hw := hw x5_53 e_x5_53
          refine w_goto C 23 (by decide) dX1_rowThatHolds_56 ?_
          refine w_sub (lv' := [(2, .long x2), (4, .int x4), (5, .int x5_53)]) C [1, 2, 0] rfl ?_
          exact hK23 _ hw
        · replace hw := hw.2 c_46
          refine w_iload C 2 dX1_rowThatHolds_50 rfl ?_
          exact w_iret C () hw rfl (Nat.le_of_ble_eq_true rfl) (Nat.le_of_ble_eq_true rfl) dX1_rowThatHolds_52
set_option maxHeartbeats 4000000 in
set_option maxRecDepth 100000 in
theorem wk_X1_rowThatHolds_14 {p : Program} {l : Launch} {e : Env} {s : State} {m : MethodId} {args : Array Value} {below : List Frame} {meth : Method} {c : Code} {D : va_G} {cB cI cJ cL cS : ClassId} {T : Nat × Nat × Nat × Nat} {A : Nat → Prop} {a : Nat → Nat} {t_made : Int32} {t_sort : Int32} {t_digits : Int32} {t_slots : Int32} {t_pages : Int32} {t_highest : Int64} {t_units : Nat → Int64} {t_kinds : Nat → Int32} {t_rows : Nat → Int32} {t_marks : Nat → Int32} {Q : Int32 → Prop} (C : Cq p s m args meth c D (Z5 cB cI cJ cL cS) T A cX1_rowThatHolds RX1 6 (Option.some Jvm.ClassFile.FieldType.int)) {x1 : Int32} {x2 : Int64} {k0 : Int32}  (hw : blk_X1_rowThatHolds_14 t_sort  Q x1 x2 k0) : ww p l e ({ frames := 1, cells := 0, slots := 0, locals := 32 } : Room) s m args below meth c D A 6 (MQ below (va_Qi (fun (r : Int32) (u : Unit) => Q r ) (OutP D (fun (u : Unit) => (wL cB cI cJ a t_made t_sort t_digits t_slots t_pages t_highest t_units t_kinds t_rows t_marks))) A) args s 0 0 A) 0 0 (wL cB cI cJ a t_made t_sort t_digits t_slots t_pages t_highest t_units t_kinds t_rows t_marks) 14 [(1, .int x1), (2, .long x2)] [.int k0] := by
  unfold blk_X1_rowThatHolds_14 at hw
  refine w_istore C (fun x4_14 => [(4, .int x4_14), (1, .int x1), (2, .long x2)]) dX1_rowThatHolds_14 (by decide) (fun _ => rfl) (fun x4_14 e_x4_14 => ?_)
  replace hw := hw x4_14 e_x4_14
  refine w_iconst C (v := (0 : Int32)) dX1_rowThatHolds_16 (by decide) ?_
  refine w_iload_n C 1 dX1_rowThatHolds_17 rfl ?_
  refine w_imax C k_415 f_imax.1 f_imax.2.1 f_imax.2.2 (Nat.le_of_ble_eq_true rfl) (Nat.le_of_ble_eq_true rfl) (Nat.le_of_ble_eq_true rfl) (Nat.le_of_ble_eq_true rfl) dX1_rowThatHolds_18 ?_
  refine w_istore C (fun x5_21 => [(5, .int x5_21), (4, .int x4_14), (1, .int x1), (2, .long x2)]) dX1_rowThatHolds_21 (by decide) (fun _ => rfl) (fun x5_21 e_x5_21 => ?_)
  replace hw := hw x5_21 e_x5_21
  refine w_sub (lv' := [(2, .long x2), (4, .int x4_14), (5, .int x5_21)]) C [3, 1, 0] rfl ?_
  obtain ⟨j, hw⟩ := hw
  exact wl_X1_rowThatHolds_23 C  j _ hw
set_option maxHeartbeats 4000000 in
set_option maxRecDepth 100000 in
theorem c_X1_rowThatHolds {l : Launch} {D : va_G} {cB cI cJ cL cS : ClassId} {T : Nat × Nat × Nat × Nat} {a : Nat → Nat} {p0 : Int32} {p1 : Int64} {t_made : Int32} {t_sort : Int32} {t_digits : Int32} {t_slots : Int32} {t_pages : Int32} {t_highest : Int64} {t_units : Nat → Int64} {t_kinds : Nat → Int32} {t_rows : Nat → Int32} {t_marks : Nat → Int32} {Q : Int32 → Prop} (hw : wp_X1_rowThatHolds p0 p1 t_sort Q) : CtI l D (Z5 cB cI cJ cL cS) T yX1_rowThatHolds cX1_rowThatHolds 6 ({ frames := 1, cells := 0, slots := 0, locals := 32 } : Room) (Option.some Jvm.ClassFile.FieldType.int) [.ref (a 0), .int p0, .long p1] (wL cB cI cJ a t_made t_sort t_digits t_slots t_pages t_highest t_units t_kinds t_rows t_marks) (fun (u : Unit) => (wL cB cI cJ a t_made t_sort t_digits t_slots t_pages t_highest t_units t_kinds t_rows t_marks)) (fun (r : Int32) (u : Unit) => Q r ) 0 0 := by
  refine ctI_of (own := RX1) (by decide +kernel) rfl (Nat.le_of_ble_eq_true rfl) (fun p e s m below meth c A C => ?_)
  refine w_sub (lv' := [(0, .ref (a 0)), (1, .int p0), (2, .long p1)]) C [0, 1, 2] rfl ?_
  unfold wp_X1_rowThatHolds at hw
  refine w_aload_n C 0 dX1_rowThatHolds_0 rfl ?_
  refine w_get C (T1 := TX1) 0 1 u_X1 k_148 rfl (by decide) rfl rfl dX1_rowThatHolds_1 ?_
  refine w_if_ne C 12 (by decide) dX1_rowThatHolds_4 (fun c_4 => ?_) (fun c_4 => ?_)
  · replace hw := hw.1 c_4
    refine w_bipush C (v := (8 : Int32)) dX1_rowThatHolds_12 (by decide) ?_
    refine w_sub (lv' := [(1, .int p0), (2, .long p1)]) C [1, 2] rfl ?_
    exact wk_X1_rowThatHolds_14 C  hw
  · replace hw := hw.2 c_4
    refine w_bipush C (v := (6 : Int32)) dX1_rowThatHolds_7 (by decide) ?_
    refine w_goto C 14 (by decide) dX1_rowThatHolds_9 ?_
    refine w_sub (lv' := [(1, .int p0), (2, .long p1)]) C [1, 2] rfl ?_
    exact wk_X1_rowThatHolds_14 C  hw
def wp_X1_firstRow  (t_sort : Int32) (Q : Int32 → Prop) : Prop := ((¬ t_sort = 0 → (Q (7 : Int32))) ∧ (t_sort = 0 → (Q (1 : Int32))))
set_option maxHeartbeats 4000000 in
set_option maxRecDepth 100000 in
theorem c_X1_firstRow {l : Launch} {D : va_G} {cB cI cJ cL cS : ClassId} {T : Nat × Nat × Nat × Nat} {a : Nat → Nat}  {t_made : Int32} {t_sort : Int32} {t_digits : Int32} {t_slots : Int32} {t_pages : Int32} {t_highest : Int64} {t_units : Nat → Int64} {t_kinds : Nat → Int32} {t_rows : Nat → Int32} {t_marks : Nat → Int32} {Q : Int32 → Prop} (hw : wp_X1_firstRow  t_sort Q) : CtI l D (Z5 cB cI cJ cL cS) T yX1_firstRow cX1_firstRow 1 ({ frames := 0, cells := 0, slots := 0, locals := 0 } : Room) (Option.some Jvm.ClassFile.FieldType.int) [.ref (a 0)] (wL cB cI cJ a t_made t_sort t_digits t_slots t_pages t_highest t_units t_kinds t_rows t_marks) (fun (u : Unit) => (wL cB cI cJ a t_made t_sort t_digits t_slots t_pages t_highest t_units t_kinds t_rows t_marks)) (fun (r : Int32) (u : Unit) => Q r ) 0 0 := by
  refine ctI_of (own := RX1) (by decide +kernel) rfl (Nat.le_of_ble_eq_true rfl) (fun p e s m below meth c A C => ?_)
  refine w_sub (lv' := [(0, .ref (a 0))]) C [0] rfl ?_
  unfold wp_X1_firstRow at hw
  refine w_aload_n C 0 dX1_firstRow_0 rfl ?_
  refine w_get C (T1 := TX1) 0 1 u_X1 k_148 rfl (by decide) rfl rfl dX1_firstRow_1 ?_
  refine w_if_ne C 11 (by decide) dX1_firstRow_4 (fun c_4 => ?_) (fun c_4 => ?_)
  · replace hw := hw.1 c_4
    refine w_bipush C (v := (7 : Int32)) dX1_firstRow_11 (by decide) ?_
    exact w_iret C () hw rfl (Nat.le_of_ble_eq_true rfl) (Nat.le_of_ble_eq_true rfl) dX1_firstRow_13
  · replace hw := hw.2 c_4
    refine w_iconst C (v := (1 : Int32)) dX1_firstRow_7 (by decide) ?_
    refine w_goto C 13 (by decide) dX1_firstRow_8 ?_
    exact w_iret C () hw rfl (Nat.le_of_ble_eq_true rfl) (Nat.le_of_ble_eq_true rfl) dX1_firstRow_13
def bod_X1_mostOf_5 (t_units : Nat → Int64)  (Q : Int64 → Prop) (x1 : Int32)  (K5 : Int64 → Int32 → Prop) (x2 : Int64) (x4 : Int32) : Prop := (((16 : Int32) ≤ x4 → (Q x2)) ∧ (¬ (16 : Int32) ≤ x4 → (wp_X1_unitsOf (((16 : Int32) * x1) + x4) t_units (fun (r_21 : Int64) => ∀ x2_27 : Int64, x2_27 = (if r_21 < x2 then x2 else r_21) → ∀ x4_28 : Int32, x4_28 = x4 + (1 : Int32) → K5 x2_27 x4_28))))
def lp_X1_mostOf_5 (t_units : Nat → Int64)  (Q : Int64 → Prop) (x1 : Int32)  : Nat → Int64 → Int32 → Prop
  | 0, _, _ => False
  | j + 1, x2, x4 => bod_X1_mostOf_5 t_units  Q x1 (fun v0 v1 => lp_X1_mostOf_5 t_units  Q x1 j v0 v1) x2 x4
def wp_X1_mostOf (p0 : Int32) (t_units : Nat → Int64) (Q : Int64 → Prop) : Prop := ∀ x2_1 : Int64, x2_1 = (0 : Int64) → ∀ x4_3 : Int32, x4_3 = (0 : Int32) → (∃ j : Nat, lp_X1_mostOf_5 t_units  Q p0 j x2_1 x4_3)
set_option maxHeartbeats 4000000 in
set_option maxRecDepth 100000 in
theorem wl_X1_mostOf_5 {p : Program} {l : Launch} {e : Env} {s : State} {m : MethodId} {args : Array Value} {below : List Frame} {meth : Method} {c : Code} {D : va_G} {cB cI cJ cL cS : ClassId} {T : Nat × Nat × Nat × Nat} {A : Nat → Prop} {a : Nat → Nat} {t_made : Int32} {t_sort : Int32} {t_digits : Int32} {t_slots : Int32} {t_pages : Int32} {t_highest : Int64} {t_units : Nat → Int64} {t_kinds : Nat → Int32} {t_rows : Nat → Int32} {t_marks : Nat → Int32} {Q : Int64 → Prop} (C : Cq p s m args meth c D (Z5 cB cI cJ cL cS) T A cX1_mostOf RX1 5 (Option.some Jvm.ClassFile.FieldType.long)) {x1 : Int32}   : ∀ (j : Nat) (x2 : Int64) (x4 : Int32), lp_X1_mostOf_5 t_units  Q x1 j x2 x4 → ww p l e ({ frames := 1, cells := 0, slots := 0, locals := 32 } : Room) s m args below meth c D A 5 (MQ below (va_Ql (fun (r : Int64) (u : Unit) => Q r ) (OutP D (fun (u : Unit) => (wL cB cI cJ a t_made t_sort t_digits t_slots t_pages t_highest t_units t_kinds t_rows t_marks))) A) args s 0 0 A) 0 0 (wL cB cI cJ a t_made t_sort t_digits t_slots t_pages t_highest t_units t_kinds t_rows t_marks) 5 [(0, .ref (a 0)), (1, .int x1), (2, .long x2), (4, .int x4)] [] := by
  intro j
  induction j with
  | zero => intro _ _ hw; exact hw.elim
  | succ j hK5 =>
    intro x2 x4 hw
    have hw : bod_X1_mostOf_5 t_units  Q x1 (fun v0 v1 => lp_X1_mostOf_5 t_units  Q x1 j v0 v1) x2 x4 := hw
    unfold bod_X1_mostOf_5 at hw
    refine w_iload C 3 dX1_mostOf_5 rfl ?_
    refine w_bipush C (v := (16 : Int32)) dX1_mostOf_7 (by decide) ?_
    refine w_icmp_ge C 34 (by decide) dX1_mostOf_9 (fun c_9 => ?_) (fun c_9 => ?_)
    · replace hw := hw.1 c_9
      refine w_lload_n C 2 dX1_mostOf_34 rfl ?_
      exact w_lret C () hw rfl (Nat.le_of_ble_eq_true rfl) (Nat.le_of_ble_eq_true rfl) dX1_mostOf_35
    · replace hw := hw.2 c_9
      refine w_lload_n C 2 dX1_mostOf_12 rfl ?_
      refine w_aload_n C 0 dX1_mostOf_13 rfl ?_
      refine w_bipush C (v := (16 : Int32)) dX1_mostOf_14 (by decide) ?_
      refine w_iload_n C 1 dX1_mostOf_16 rfl ?_
      refine w_imul C dX1_mostOf_17 ?_
      refine w_iload C 3 dX1_mostOf_18 rfl ?_
      refine w_iadd C dX1_mostOf_20 ?_
      refine w_callVL C (c_X1_unitsOf hw) f_X1_unitsOf k_290 k_288 rfl ⟨Nat.le_of_ble_eq_true rfl, Nat.le_of_ble_eq_true rfl⟩ rfl rfl ⟨Nat.le_of_ble_eq_true rfl, Nat.le_of_ble_eq_true rfl⟩ 0 rfl (rr := (RX1, TX1, 10)) rfl rfl (fun _ => rfl) rfl (Nat.le_of_ble_eq_true rfl) dX1_mostOf_21 (fun r_21 u_21 hw => ?_)
      try dsimp only at hw
      refine w_lmax C k_450 f_lmax.1 f_lmax.2.1 f_lmax.2.2 (Nat.le_of_ble_eq_true rfl) (Nat.le_of_ble_eq_true rfl) (Nat.le_of_ble_eq_true rfl) (Nat.le_of_ble_eq_true rfl) dX1_mostOf_24 ?_
      refine w_lstore_n C (fun x2_27 => [(2, .long x2_27), (0, .ref (a 0)), (1, .int x1), (4, .int x4)]) dX1_mostOf_27 (by decide) (fun _ => rfl) (fun x2_27 e_x2_27 => ?_)
      replace hw := hw x2_27 e_x2_27
      refine w_iinc C (v := x4 + (1 : Int32)) 3 (fun x4_28 => [(4, .int x4_28), (2, .long x2_27), (0, .ref (a 0)), (1, .int x1)]) dX1_mostOf_28 rfl rfl (by decide) (fun _ => rfl) (fun x4_28 e_x4_28 => ?_)
      replace hw := hw x4_28 e_x4_28
      refine w_goto C 5 (by decide) dX1_mostOf_31 ?_
      refine w_sub (lv' := [(0, .ref (a 0)), (1, .int x1), (2, .long x2_27), (4, .int x4_28)]) C [2, 3, 1, 0] rfl ?_
      exact hK5 _ _ hw
set_option maxHeartbeats 4000000 in
set_option maxRecDepth 100000 in
theorem c_X1_mostOf {l : Launch} {D : va_G} {cB cI cJ cL cS : ClassId} {T : Nat × Nat × Nat × Nat} {a : Nat → Nat} {p0 : Int32} {t_made : Int32} {t_sort : Int32} {t_digits : Int32} {t_slots : Int32} {t_pages : Int32} {t_highest : Int64} {t_units : Nat → Int64} {t_kinds : Nat → Int32} {t_rows : Nat → Int32} {t_marks : Nat → Int32} {Q : Int64 → Prop} (hw : wp_X1_mostOf p0 t_units Q) : CtL l D (Z5 cB cI cJ cL cS) T yX1_mostOf cX1_mostOf 5 ({ frames := 1, cells := 0, slots := 0, locals := 32 } : Room) (Option.some Jvm.ClassFile.FieldType.long) [.ref (a 0), .int p0] (wL cB cI cJ a t_made t_sort t_digits t_slots t_pages t_highest t_units t_kinds t_rows t_marks) (fun (u : Unit) => (wL cB cI cJ a t_made t_sort t_digits t_slots t_pages t_highest t_units t_kinds t_rows t_marks)) (fun (r : Int64) (u : Unit) => Q r ) 0 0 := by
  refine ctL_of (own := RX1) (by decide +kernel) rfl (Nat.le_of_ble_eq_true rfl) (fun p e s m below meth c A C => ?_)
  refine w_sub (lv' := [(0, .ref (a 0)), (1, .int p0)]) C [0, 1] rfl ?_
  unfold wp_X1_mostOf at hw
  refine w_lconst C (v := (0 : Int64)) dX1_mostOf_0 (by decide) ?_
  refine w_lstore_n C (fun x2_1 => [(2, .long x2_1), (0, .ref (a 0)), (1, .int p0)]) dX1_mostOf_1 (by decide) (fun _ => rfl) (fun x2_1 e_x2_1 => ?_)
  replace hw := hw x2_1 e_x2_1
  refine w_iconst C (v := (0 : Int32)) dX1_mostOf_2 (by decide) ?_
  refine w_istore C (fun x4_3 => [(4, .int x4_3), (2, .long x2_1), (0, .ref (a 0)), (1, .int p0)]) dX1_mostOf_3 (by decide) (fun _ => rfl) (fun x4_3 e_x4_3 => ?_)
  replace hw := hw x4_3 e_x4_3
  refine w_sub (lv' := [(0, .ref (a 0)), (1, .int p0), (2, .long x2_1), (4, .int x4_3)]) C [2, 3, 1, 0] rfl ?_
  obtain ⟨j, hw⟩ := hw
  exact wl_X1_mostOf_5 C  j _ _ hw
def blk_X1_rowToWrite_51 (t_sort : Int32) (t_units : Nat → Int64) (t_kinds : Nat → Int32)  (Q : Int32 → Prop) (x2 : Int64) (k1 : Int32) : Prop := wp_X1_rowThatHolds k1 x2 t_sort (fun (r_52 : Int32) => Q r_52)
def blk_X1_rowToWrite_25 (t_sort : Int32) (t_units : Nat → Int64) (t_kinds : Nat → Int32)  (Q : Int32 → Prop) (x1 : Int32) (x2 : Int64) (x4 : Int32) (k0 : Int32) : Prop := ∀ x5_25 : Int32, x5_25 = k0 → ((x5_25 = 0 → (wp_X1_firstRow  t_sort (fun (r_40 : Int32) => wp_X1_mostOf x1 t_units (fun (r_45 : Int64) => wp_X1_rowThatHolds r_40 r_45 t_sort (fun (r_48 : Int32) => (blk_X1_rowToWrite_51 t_sort t_units t_kinds  Q x2 r_48)))))) ∧ (¬ x5_25 = 0 → ((blk_X1_rowToWrite_51 t_sort t_units t_kinds  Q x2 x4))))
def blk_X1_rowToWrite_24 (t_sort : Int32) (t_units : Nat → Int64) (t_kinds : Nat → Int32)  (Q : Int32 → Prop) (x1 : Int32) (x2 : Int64) (x4 : Int32) : Prop := (blk_X1_rowToWrite_25 t_sort t_units t_kinds  Q x1 x2 x4 (0 : Int32))
def wp_X1_rowToWrite (p0 : Int32) (p1 : Int64) (t_sort : Int32) (t_units : Nat → Int64) (t_kinds : Nat → Int32) (Q : Int32 → Prop) : Prop := wp_X1_kindOf p0 t_kinds (fun (r_2 : Int32) => ∀ x4_5 : Int32, x4_5 = r_2 → ((x4_5 < (1 : Int32) → ((blk_X1_rowToWrite_24 t_sort t_units t_kinds  Q p0 p1 x4_5))) ∧ (¬ x4_5 < (1 : Int32) → ((((8 : Int32) < x4_5 → ((blk_X1_rowToWrite_24 t_sort t_units t_kinds  Q p0 p1 x4_5))) ∧ (¬ (8 : Int32) < x4_5 → ((blk_X1_rowToWrite_25 t_sort t_units t_kinds  Q p0 p1 x4_5 (1 : Int32)))))))))
set_option maxHeartbeats 4000000 in
set_option maxRecDepth 100000 in
theorem wk_X1_rowToWrite_51 {p : Program} {l : Launch} {e : Env} {s : State} {m : MethodId} {args : Array Value} {below : List Frame} {meth : Method} {c : Code} {D : va_G} {cB cI cJ cL cS : ClassId} {T : Nat × Nat × Nat × Nat} {A : Nat → Prop} {a : Nat → Nat} {t_made : Int32} {t_sort : Int32} {t_digits : Int32} {t_slots : Int32} {t_pages : Int32} {t_highest : Int64} {t_units : Nat → Int64} {t_kinds : Nat → Int32} {t_rows : Nat → Int32} {t_marks : Nat → Int32} {Q : Int32 → Prop} (C : Cq p s m args meth c D (Z5 cB cI cJ cL cS) T A cX1_rowToWrite RX1 6 (Option.some Jvm.ClassFile.FieldType.int)) {x2 : Int64} {k1 : Int32}  (hw : blk_X1_rowToWrite_51 t_sort t_units t_kinds  Q x2 k1) : ww p l e ({ frames := 2, cells := 0, slots := 0, locals := 57 } : Room) s m args below meth c D A 6 (MQ below (va_Qi (fun (r : Int32) (u : Unit) => Q r ) (OutP D (fun (u : Unit) => (wL cB cI cJ a t_made t_sort t_digits t_slots t_pages t_highest t_units t_kinds t_rows t_marks))) A) args s 0 0 A) 0 0 (wL cB cI cJ a t_made t_sort t_digits t_slots t_pages t_highest t_units t_kinds t_rows t_marks) 51 [(2, .long x2)] [.int k1, .ref (a 0)] := by
  unfold blk_X1_rowToWrite_51 at hw
  refine w_lload_n C 0 dX1_rowToWrite_51 rfl ?_
  refine w_callVI C (c_X1_rowThatHolds hw) f_X1_rowThatHolds k_13 k_453 rfl ⟨Nat.le_of_ble_eq_true rfl, Nat.le_of_ble_eq_true rfl⟩ rfl rfl ⟨Nat.le_of_ble_eq_true rfl, Nat.le_of_ble_eq_true rfl⟩ 0 rfl (rr := (RX1, TX1, 10)) rfl rfl (fun _ => rfl) rfl (Nat.le_of_ble_eq_true rfl) dX1_rowToWrite_52 (fun r_52 u_52 hw => ?_)
  try dsimp only at hw
  exact w_iret C () hw rfl (Nat.le_of_ble_eq_true rfl) (Nat.le_of_ble_eq_true rfl) dX1_rowToWrite_55
set_option maxHeartbeats 4000000 in
set_option maxRecDepth 100000 in
theorem wk_X1_rowToWrite_25 {p : Program} {l : Launch} {e : Env} {s : State} {m : MethodId} {args : Array Value} {below : List Frame} {meth : Method} {c : Code} {D : va_G} {cB cI cJ cL cS : ClassId} {T : Nat × Nat × Nat × Nat} {A : Nat → Prop} {a : Nat → Nat} {t_made : Int32} {t_sort : Int32} {t_digits : Int32} {t_slots : Int32} {t_pages : Int32} {t_highest : Int64} {t_units : Nat → Int64} {t_kinds : Nat → Int32} {t_rows : Nat → Int32} {t_marks : Nat → Int32} {Q : Int32 → Prop} (C : Cq p s m args meth c D (Z5 cB cI cJ cL cS) T A cX1_rowToWrite RX1 6 (Option.some Jvm.ClassFile.FieldType.int)) {x1 : Int32} {x2 : Int64} {x4 : Int32} {k0 : Int32}  (hw : blk_X1_rowToWrite_25 t_sort t_units t_kinds  Q x1 x2 x4 k0) : ww p l e ({ frames := 2, cells := 0, slots := 0, locals := 57 } : Room) s m args below meth c D A 6 (MQ below (va_Qi (fun (r : Int32) (u : Unit) => Q r ) (OutP D (fun (u : Unit) => (wL cB cI cJ a t_made t_sort t_digits t_slots t_pages t_highest t_units t_kinds t_rows t_marks))) A) args s 0 0 A) 0 0 (wL cB cI cJ a t_made t_sort t_digits t_slots t_pages t_highest t_units t_kinds t_rows t_marks) 25 [(0, .ref (a 0)), (1, .int x1), (2, .long x2), (4, .int x4)] [.int k0] := by
  unfold blk_X1_rowToWrite_25 at hw
  refine w_istore C (fun x5_25 => [(5, .int x5_25), (0, .ref (a 0)), (1, .int x1), (2, .long x2), (4, .int x4)]) dX1_rowToWrite_25 (by decide) (fun _ => rfl) (fun x5_25 e_x5_25 => ?_)
  replace hw := hw x5_25 e_x5_25
  refine w_aload_n C 1 dX1_rowToWrite_27 rfl ?_
  refine w_iload C 0 dX1_rowToWrite_28 rfl ?_
  refine w_if_eq C 38 (by decide) dX1_rowToWrite_30 (fun c_30 => ?_) (fun c_30 => ?_)
  · replace hw := hw.1 c_30
    refine w_aload_n C 1 dX1_rowToWrite_38 rfl ?_
    refine w_aload_n C 1 dX1_rowToWrite_39 rfl ?_
    refine w_callVI C (c_X1_firstRow hw) f_X1_firstRow k_11 k_442 rfl ⟨Nat.le_of_ble_eq_true rfl, Nat.le_of_ble_eq_true rfl⟩ rfl rfl ⟨Nat.le_of_ble_eq_true rfl, Nat.le_of_ble_eq_true rfl⟩ 0 rfl (rr := (RX1, TX1, 10)) rfl rfl (fun _ => rfl) rfl (Nat.le_of_ble_eq_true rfl) dX1_rowToWrite_40 (fun r_40 u_40 hw => ?_)
    try dsimp only at hw
    refine w_aload_n C 1 dX1_rowToWrite_43 rfl ?_
    refine w_iload_n C 2 dX1_rowToWrite_44 rfl ?_
    refine w_callVL C (c_X1_mostOf hw) f_X1_mostOf k_12 k_446 rfl ⟨Nat.le_of_ble_eq_true rfl, Nat.le_of_ble_eq_true rfl⟩ rfl rfl ⟨Nat.le_of_ble_eq_true rfl, Nat.le_of_ble_eq_true rfl⟩ 0 rfl (rr := (RX1, TX1, 10)) rfl rfl (fun _ => rfl) rfl (Nat.le_of_ble_eq_true rfl) dX1_rowToWrite_45 (fun r_45 u_45 hw => ?_)
    try dsimp only at hw
    refine w_callVI C (c_X1_rowThatHolds hw) f_X1_rowThatHolds k_13 k_453 rfl ⟨Nat.le_of_ble_eq_true rfl, Nat.le_of_ble_eq_true rfl⟩ rfl rfl ⟨Nat.le_of_ble_eq_true rfl, Nat.le_of_ble_eq_true rfl⟩ 0 rfl (rr := (RX1, TX1, 10)) rfl rfl (fun _ => rfl) rfl (Nat.le_of_ble_eq_true rfl) dX1_rowToWrite_48 (fun r_48 u_48 hw => ?_)
    try dsimp only at hw
    refine w_sub (lv' := [(2, .long x2)]) C [3] rfl ?_
    exact wk_X1_rowToWrite_51 C  hw
  · replace hw := hw.2 c_30
    refine w_iload C 4 dX1_rowToWrite_33 rfl ?_
    refine w_goto C 51 (by decide) dX1_rowToWrite_35 ?_
    refine w_sub (lv' := [(2, .long x2)]) C [3] rfl ?_
    exact wk_X1_rowToWrite_51 C  hw
set_option maxHeartbeats 4000000 in
set_option maxRecDepth 100000 in
theorem wk_X1_rowToWrite_24 {p : Program} {l : Launch} {e : Env} {s : State} {m : MethodId} {args : Array Value} {below : List Frame} {meth : Method} {c : Code} {D : va_G} {cB cI cJ cL cS : ClassId} {T : Nat × Nat × Nat × Nat} {A : Nat → Prop} {a : Nat → Nat} {t_made : Int32} {t_sort : Int32} {t_digits : Int32} {t_slots : Int32} {t_pages : Int32} {t_highest : Int64} {t_units : Nat → Int64} {t_kinds : Nat → Int32} {t_rows : Nat → Int32} {t_marks : Nat → Int32} {Q : Int32 → Prop} (C : Cq p s m args meth c D (Z5 cB cI cJ cL cS) T A cX1_rowToWrite RX1 6 (Option.some Jvm.ClassFile.FieldType.int)) {x1 : Int32} {x2 : Int64} {x4 : Int32}  (hw : blk_X1_rowToWrite_24 t_sort t_units t_kinds  Q x1 x2 x4) : ww p l e ({ frames := 2, cells := 0, slots := 0, locals := 57 } : Room) s m args below meth c D A 6 (MQ below (va_Qi (fun (r : Int32) (u : Unit) => Q r ) (OutP D (fun (u : Unit) => (wL cB cI cJ a t_made t_sort t_digits t_slots t_pages t_highest t_units t_kinds t_rows t_marks))) A) args s 0 0 A) 0 0 (wL cB cI cJ a t_made t_sort t_digits t_slots t_pages t_highest t_units t_kinds t_rows t_marks) 24 [(0, .ref (a 0)), (1, .int x1), (2, .long x2), (4, .int x4)] [] := by
  unfold blk_X1_rowToWrite_24 at hw
  refine w_iconst C (v := (0 : Int32)) dX1_rowToWrite_24 (by decide) ?_
  refine w_sub (lv' := [(0, .ref (a 0)), (1, .int x1), (2, .long x2), (4, .int x4)]) C [0, 1, 2, 3] rfl ?_
  exact wk_X1_rowToWrite_25 C  hw
set_option maxHeartbeats 4000000 in
set_option maxRecDepth 100000 in
theorem c_X1_rowToWrite {l : Launch} {D : va_G} {cB cI cJ cL cS : ClassId} {T : Nat × Nat × Nat × Nat} {a : Nat → Nat} {p0 : Int32} {p1 : Int64} {t_made : Int32} {t_sort : Int32} {t_digits : Int32} {t_slots : Int32} {t_pages : Int32} {t_highest : Int64} {t_units : Nat → Int64} {t_kinds : Nat → Int32} {t_rows : Nat → Int32} {t_marks : Nat → Int32} {Q : Int32 → Prop} (hw : wp_X1_rowToWrite p0 p1 t_sort t_units t_kinds Q) : CtI l D (Z5 cB cI cJ cL cS) T yX1_rowToWrite cX1_rowToWrite 6 ({ frames := 2, cells := 0, slots := 0, locals := 57 } : Room) (Option.some Jvm.ClassFile.FieldType.int) [.ref (a 0), .int p0, .long p1] (wL cB cI cJ a t_made t_sort t_digits t_slots t_pages t_highest t_units t_kinds t_rows t_marks) (fun (u : Unit) => (wL cB cI cJ a t_made t_sort t_digits t_slots t_pages t_highest t_units t_kinds t_rows t_marks)) (fun (r : Int32) (u : Unit) => Q r ) 0 0 := by
  refine ctI_of (own := RX1) (by decide +kernel) rfl (Nat.le_of_ble_eq_true rfl) (fun p e s m below meth c A C => ?_)
  refine w_sub (lv' := [(0, .ref (a 0)), (1, .int p0), (2, .long p1)]) C [0, 1, 2] rfl ?_
  unfold wp_X1_rowToWrite at hw
  refine w_aload_n C 0 dX1_rowToWrite_0 rfl ?_
  refine w_iload_n C 1 dX1_rowToWrite_1 rfl ?_
  refine w_callVI C (c_X1_kindOf hw) f_X1_kindOf k_283 k_281 rfl ⟨Nat.le_of_ble_eq_true rfl, Nat.le_of_ble_eq_true rfl⟩ rfl rfl ⟨Nat.le_of_ble_eq_true rfl, Nat.le_of_ble_eq_true rfl⟩ 0 rfl (rr := (RX1, TX1, 10)) rfl rfl (fun _ => rfl) rfl (Nat.le_of_ble_eq_true rfl) dX1_rowToWrite_2 (fun r_2 u_2 hw => ?_)
  try dsimp only at hw
  refine w_istore C (fun x4_5 => [(4, .int x4_5), (0, .ref (a 0)), (1, .int p0), (2, .long p1)]) dX1_rowToWrite_5 (by decide) (fun _ => rfl) (fun x4_5 e_x4_5 => ?_)
  replace hw := hw x4_5 e_x4_5
  refine w_iload C 0 dX1_rowToWrite_7 rfl ?_
  refine w_iconst C (v := (1 : Int32)) dX1_rowToWrite_9 (by decide) ?_
  refine w_icmp_lt C 24 (by decide) dX1_rowToWrite_10 (fun c_10 => ?_) (fun c_10 => ?_)
  · replace hw := hw.1 c_10
    refine w_sub (lv' := [(0, .ref (a 0)), (1, .int p0), (2, .long p1), (4, .int x4_5)]) C [1, 2, 3, 0] rfl ?_
    exact wk_X1_rowToWrite_24 C  hw
  · replace hw := hw.2 c_10
    refine w_iload C 0 dX1_rowToWrite_13 rfl ?_
    refine w_bipush C (v := (8 : Int32)) dX1_rowToWrite_15 (by decide) ?_
    refine w_icmp_gt C 24 (by decide) dX1_rowToWrite_17 (fun c_17 => ?_) (fun c_17 => ?_)
    · replace hw := hw.1 c_17
      refine w_sub (lv' := [(0, .ref (a 0)), (1, .int p0), (2, .long p1), (4, .int x4_5)]) C [1, 2, 3, 0] rfl ?_
      exact wk_X1_rowToWrite_24 C  hw
    · replace hw := hw.2 c_17
      refine w_iconst C (v := (1 : Int32)) dX1_rowToWrite_20 (by decide) ?_
      refine w_goto C 25 (by decide) dX1_rowToWrite_21 ?_
      refine w_sub (lv' := [(0, .ref (a 0)), (1, .int p0), (2, .long p1), (4, .int x4_5)]) C [1, 2, 3, 0] rfl ?_
      exact wk_X1_rowToWrite_25 C  hw
def blk_X1_rewrite_55 (t_sort : Int32)  (Q : (Nat → Int64) → (Nat → Int32) → Prop) (x1 : Int32) (x2 : Int64) (t_units : Nat → Int64) (t_kinds : Nat → Int32) : Prop := (vp_in x1 4336) ∧ ∀ t_units_61 : Nat → Int64, t_units_61 = vp_updL t_units (x1).toNatClampNeg x2 → Q t_units_61 t_kinds
def wp_X1_rewrite (p0 : Int32) (p1 : Int64) (t_sort : Int32) (t_units : Nat → Int64) (t_kinds : Nat → Int32) (Q : (Nat → Int64) → (Nat → Int32) → Prop) : Prop := ((p0 < 0 → (Q t_units t_kinds)) ∧ (¬ p0 < 0 → ((((4336 : Int32) ≤ p0 → (Q t_units t_kinds)) ∧ (¬ (4336 : Int32) ≤ p0 → ((vp_in p0 4336) ∧ ((¬ (t_units (p0).toNatClampNeg) = p1 → (∀ x4_29 : Int32, x4_29 = (p0 / (16 : Int32)) → (((271 : Int32) ≤ x4_29 → ((blk_X1_rewrite_55 t_sort  Q p0 p1 t_units t_kinds))) ∧ (¬ (271 : Int32) ≤ x4_29 → (wp_X1_rowToWrite x4_29 p1 t_sort t_units t_kinds (fun (r_51 : Int32) => (vp_in x4_29 271) ∧ ∀ t_kinds_54 : Nat → Int32, t_kinds_54 = upd t_kinds (x4_29).toNatClampNeg r_51 → (blk_X1_rewrite_55 t_sort  Q p0 p1 t_units t_kinds_54))))))) ∧ ((t_units (p0).toNatClampNeg) = p1 → (Q t_units t_kinds)))))))))
set_option maxHeartbeats 4000000 in
set_option maxRecDepth 100000 in
theorem wk_X1_rewrite_55 {p : Program} {l : Launch} {e : Env} {s : State} {m : MethodId} {args : Array Value} {below : List Frame} {meth : Method} {c : Code} {D : va_G} {cB cI cJ cL cS : ClassId} {T : Nat × Nat × Nat × Nat} {A : Nat → Prop} {a : Nat → Nat} {t_made : Int32} {t_sort : Int32} {t_digits : Int32} {t_slots : Int32} {t_pages : Int32} {t_highest : Int64} {t_rows : Nat → Int32} {t_marks : Nat → Int32} {Q : (Nat → Int64) → (Nat → Int32) → Prop} (C : Cq p s m args meth c D (Z5 cB cI cJ cL cS) T A cX1_rewrite RX1 5 (Option.none : Option Jvm.ClassFile.FieldType)) {x1 : Int32} {x2 : Int64} {t_units : Nat → Int64} {t_kinds : Nat → Int32}  (hw : blk_X1_rewrite_55 t_sort  Q x1 x2 t_units t_kinds) : ww p l e ({ frames := 3, cells := 0, slots := 0, locals := 82 } : Room) s m args below meth c D A 5 (MQ below (va_Qv (fun (u : (Nat → Int64) × (Nat → Int32)) => Q u.1 u.2) (OutP D (fun (u : (Nat → Int64) × (Nat → Int32)) => (wL cB cI cJ a t_made t_sort t_digits t_slots t_pages t_highest u.1 u.2 t_rows t_marks))) A) args s 0 0 A) 0 0 (wL cB cI cJ a t_made t_sort t_digits t_slots t_pages t_highest t_units t_kinds t_rows t_marks) 55 [(0, .ref (a 0)), (1, .int x1), (2, .long x2)] [] := by
  unfold blk_X1_rewrite_55 at hw
  refine w_aload_n C 0 dX1_rewrite_55 rfl ?_
  refine w_get C (T1 := TX1) 0 6 u_X1 k_158 rfl (by decide) rfl rfl dX1_rewrite_56 ?_
  refine w_iload_n C 1 dX1_rewrite_59 rfl ?_
  refine w_lload_n C 2 dX1_rewrite_60 rfl ?_
  obtain ⟨hi_61, hw⟩ := hw
  refine w_lastore C 1 2 (fun z => (wL cB cI cJ a t_made t_sort t_digits t_slots t_pages t_highest z t_kinds t_rows t_marks)) rfl rfl hi_61 (fun _ => rfl) dX1_rewrite_61 (fun t_units_61 e_t_units_61 => ?_)
  replace hw := hw t_units_61 e_t_units_61
  exact w_vret C (t_units_61, t_kinds) hw rfl (Nat.le_of_ble_eq_true rfl) (Nat.le_of_ble_eq_true rfl) dX1_rewrite_62
set_option maxHeartbeats 4000000 in
set_option maxRecDepth 100000 in
theorem c_X1_rewrite {l : Launch} {D : va_G} {cB cI cJ cL cS : ClassId} {T : Nat × Nat × Nat × Nat} {a : Nat → Nat} {p0 : Int32} {p1 : Int64} {t_made : Int32} {t_sort : Int32} {t_digits : Int32} {t_slots : Int32} {t_pages : Int32} {t_highest : Int64} {t_units : Nat → Int64} {t_kinds : Nat → Int32} {t_rows : Nat → Int32} {t_marks : Nat → Int32} {Q : (Nat → Int64) → (Nat → Int32) → Prop} (hw : wp_X1_rewrite p0 p1 t_sort t_units t_kinds Q) : CtV l D (Z5 cB cI cJ cL cS) T yX1_rewrite cX1_rewrite 5 ({ frames := 3, cells := 0, slots := 0, locals := 82 } : Room) (Option.none : Option Jvm.ClassFile.FieldType) [.ref (a 0), .int p0, .long p1] (wL cB cI cJ a t_made t_sort t_digits t_slots t_pages t_highest t_units t_kinds t_rows t_marks) (fun (u : (Nat → Int64) × (Nat → Int32)) => (wL cB cI cJ a t_made t_sort t_digits t_slots t_pages t_highest u.1 u.2 t_rows t_marks)) (fun (u : (Nat → Int64) × (Nat → Int32)) => Q u.1 u.2) 0 0 := by
  refine ctV_of (own := RX1) (by decide +kernel) rfl (Nat.le_of_ble_eq_true rfl) (fun p e s m below meth c A C => ?_)
  refine w_sub (lv' := [(0, .ref (a 0)), (1, .int p0), (2, .long p1)]) C [0, 1, 2] rfl ?_
  unfold wp_X1_rewrite at hw
  refine w_iload_n C 1 dX1_rewrite_0 rfl ?_
  refine w_if_lt C 24 (by decide) dX1_rewrite_1 (fun c_1 => ?_) (fun c_1 => ?_)
  · replace hw := hw.1 c_1
    exact w_vret C (t_units, t_kinds) hw rfl (Nat.le_of_ble_eq_true rfl) (Nat.le_of_ble_eq_true rfl) dX1_rewrite_24
  · replace hw := hw.2 c_1
    refine w_iload_n C 1 dX1_rewrite_4 rfl ?_
    refine w_aload_n C 0 dX1_rewrite_5 rfl ?_
    refine w_get C (T1 := TX1) 0 6 u_X1 k_158 rfl (by decide) rfl rfl dX1_rewrite_6 ?_
    refine w_alen C (v := (4336 : Int32)) 1 2 rfl rfl rfl dX1_rewrite_9 ?_
    refine w_icmp_ge C 24 (by decide) dX1_rewrite_10 (fun c_10 => ?_) (fun c_10 => ?_)
    · replace hw := hw.1 c_10
      exact w_vret C (t_units, t_kinds) hw rfl (Nat.le_of_ble_eq_true rfl) (Nat.le_of_ble_eq_true rfl) dX1_rewrite_24
    · replace hw := hw.2 c_10
      refine w_aload_n C 0 dX1_rewrite_13 rfl ?_
      refine w_get C (T1 := TX1) 0 6 u_X1 k_158 rfl (by decide) rfl rfl dX1_rewrite_14 ?_
      refine w_iload_n C 1 dX1_rewrite_17 rfl ?_
      obtain ⟨hi_18, hw⟩ := hw
      refine w_laload C 1 2 rfl rfl hi_18 dX1_rewrite_18 ?_
      refine w_lload_n C 2 dX1_rewrite_19 rfl ?_
      refine w_lcmp_ne C 21 25 rfl (by decide) dX1_rewrite_20 dX1_rewrite_21 (fun c_20 => ?_) (fun c_20 => ?_)
      · replace hw := hw.1 c_20
        refine w_iload_n C 1 dX1_rewrite_25 rfl ?_
        refine w_bipush C (v := (16 : Int32)) dX1_rewrite_26 (by decide) ?_
        refine w_idiv C (by decide) dX1_rewrite_28 ?_
        refine w_istore C (fun x4_29 => [(4, .int x4_29), (0, .ref (a 0)), (1, .int p0), (2, .long p1)]) dX1_rewrite_29 (by decide) (fun _ => rfl) (fun x4_29 e_x4_29 => ?_)
        replace hw := hw x4_29 e_x4_29
        refine w_iload C 0 dX1_rewrite_31 rfl ?_
        refine w_aload_n C 1 dX1_rewrite_33 rfl ?_
        refine w_get C (T1 := TX1) 0 7 u_X1 k_159 rfl (by decide) rfl rfl dX1_rewrite_34 ?_
        refine w_alen C (v := (271 : Int32)) 2 1 rfl rfl rfl dX1_rewrite_37 ?_
        refine w_icmp_ge C 55 (by decide) dX1_rewrite_38 (fun c_38 => ?_) (fun c_38 => ?_)
        · replace hw := hw.1 c_38
          refine w_sub (lv' := [(0, .ref (a 0)), (1, .int p0), (2, .long p1)]) C [1, 2, 3] rfl ?_
          exact wk_X1_rewrite_55 C  hw
        · replace hw := hw.2 c_38
          refine w_aload_n C 1 dX1_rewrite_41 rfl ?_
          refine w_get C (T1 := TX1) 0 7 u_X1 k_159 rfl (by decide) rfl rfl dX1_rewrite_42 ?_
          refine w_iload C 0 dX1_rewrite_45 rfl ?_
          refine w_aload_n C 1 dX1_rewrite_47 rfl ?_
          refine w_iload C 0 dX1_rewrite_48 rfl ?_
          refine w_lload_n C 3 dX1_rewrite_50 rfl ?_
          refine w_callVI C (c_X1_rowToWrite hw) f_X1_rowToWrite k_10 k_438 rfl ⟨Nat.le_of_ble_eq_true rfl, Nat.le_of_ble_eq_true rfl⟩ rfl rfl ⟨Nat.le_of_ble_eq_true rfl, Nat.le_of_ble_eq_true rfl⟩ 0 rfl (rr := (RX1, TX1, 10)) rfl rfl (fun _ => rfl) rfl (Nat.le_of_ble_eq_true rfl) dX1_rewrite_51 (fun r_51 u_51 hw => ?_)
          try dsimp only at hw
          obtain ⟨hi_54, hw⟩ := hw
          refine w_iastore C 2 1 (fun z => (wL cB cI cJ a t_made t_sort t_digits t_slots t_pages t_highest t_units z t_rows t_marks)) rfl rfl hi_54 (fun _ => rfl) dX1_rewrite_54 (fun t_kinds_54 e_t_kinds_54 => ?_)
          replace hw := hw t_kinds_54 e_t_kinds_54
          refine w_sub (lv' := [(0, .ref (a 0)), (1, .int p0), (2, .long p1)]) C [1, 2, 3] rfl ?_
          exact wk_X1_rewrite_55 C  hw
      · replace hw := hw.2 c_20
        exact w_vret C (t_units, t_kinds) hw rfl (Nat.le_of_ble_eq_true rfl) (Nat.le_of_ble_eq_true rfl) dX1_rewrite_24
def bod_X1_isLevel_2 (t_units : Nat → Int64)  (Q : Int32 → Prop) (x1 : Int32)  (K2 : Int32 → Prop) (x2 : Int32) : Prop := (((16 : Int32) ≤ x2 → (Q (1 : Int32))) ∧ (¬ (16 : Int32) ≤ x2 → (wp_X1_unitsOf (((16 : Int32) * x1) + x2) t_units (fun (r_15 : Int64) => wp_X1_unitsOf ((16 : Int32) * x1) t_units (fun (r_23 : Int64) => ((r_15 = r_23 → (∀ x2_32 : Int32, x2_32 = x2 + (1 : Int32) → K2 x2_32)) ∧ (¬ r_15 = r_23 → (Q (0 : Int32)))))))))
def lp_X1_isLevel_2 (t_units : Nat → Int64)  (Q : Int32 → Prop) (x1 : Int32)  : Nat → Int32 → Prop
  | 0, _ => False
  | j + 1, x2 => bod_X1_isLevel_2 t_units  Q x1 (fun v0 => lp_X1_isLevel_2 t_units  Q x1 j v0) x2
def wp_X1_isLevel (p0 : Int32) (t_units : Nat → Int64) (Q : Int32 → Prop) : Prop := ∀ x2_1 : Int32, x2_1 = (1 : Int32) → (∃ j : Nat, lp_X1_isLevel_2 t_units  Q p0 j x2_1)
set_option maxHeartbeats 4000000 in
set_option maxRecDepth 100000 in
theorem wl_X1_isLevel_2 {p : Program} {l : Launch} {e : Env} {s : State} {m : MethodId} {args : Array Value} {below : List Frame} {meth : Method} {c : Code} {D : va_G} {cB cI cJ cL cS : ClassId} {T : Nat × Nat × Nat × Nat} {A : Nat → Prop} {a : Nat → Nat} {t_made : Int32} {t_sort : Int32} {t_digits : Int32} {t_slots : Int32} {t_pages : Int32} {t_highest : Int64} {t_units : Nat → Int64} {t_kinds : Nat → Int32} {t_rows : Nat → Int32} {t_marks : Nat → Int32} {Q : Int32 → Prop} (C : Cq p s m args meth c D (Z5 cB cI cJ cL cS) T A cX1_isLevel RX1 3 (Option.some Jvm.ClassFile.FieldType.boolean)) {x1 : Int32}   : ∀ (j : Nat) (x2 : Int32), lp_X1_isLevel_2 t_units  Q x1 j x2 → ww p l e ({ frames := 1, cells := 0, slots := 0, locals := 21 } : Room) s m args below meth c D A 3 (MQ below (va_Qi (fun (r : Int32) (u : Unit) => Q r ) (OutP D (fun (u : Unit) => (wL cB cI cJ a t_made t_sort t_digits t_slots t_pages t_highest t_units t_kinds t_rows t_marks))) A) args s 0 0 A) 0 0 (wL cB cI cJ a t_made t_sort t_digits t_slots t_pages t_highest t_units t_kinds t_rows t_marks) 2 [(0, .ref (a 0)), (1, .int x1), (2, .int x2)] [] := by
  intro j
  induction j with
  | zero => intro _ hw; exact hw.elim
  | succ j hK2 =>
    intro x2 hw
    have hw : bod_X1_isLevel_2 t_units  Q x1 (fun v0 => lp_X1_isLevel_2 t_units  Q x1 j v0) x2 := hw
    unfold bod_X1_isLevel_2 at hw
    refine w_iload_n C 2 dX1_isLevel_2 rfl ?_
    refine w_bipush C (v := (16 : Int32)) dX1_isLevel_3 (by decide) ?_
    refine w_icmp_ge C 38 (by decide) dX1_isLevel_5 (fun c_5 => ?_) (fun c_5 => ?_)
    · replace hw := hw.1 c_5
      refine w_iconst C (v := (1 : Int32)) dX1_isLevel_38 (by decide) ?_
      exact w_zret C () (Or.inr rfl) hw rfl (Nat.le_of_ble_eq_true rfl) (Nat.le_of_ble_eq_true rfl) dX1_isLevel_39
    · replace hw := hw.2 c_5
      refine w_aload_n C 0 dX1_isLevel_8 rfl ?_
      refine w_bipush C (v := (16 : Int32)) dX1_isLevel_9 (by decide) ?_
      refine w_iload_n C 1 dX1_isLevel_11 rfl ?_
      refine w_imul C dX1_isLevel_12 ?_
      refine w_iload_n C 2 dX1_isLevel_13 rfl ?_
      refine w_iadd C dX1_isLevel_14 ?_
      refine w_callVL C (c_X1_unitsOf hw) f_X1_unitsOf k_290 k_288 rfl ⟨Nat.le_of_ble_eq_true rfl, Nat.le_of_ble_eq_true rfl⟩ rfl rfl ⟨Nat.le_of_ble_eq_true rfl, Nat.le_of_ble_eq_true rfl⟩ 0 rfl (rr := (RX1, TX1, 10)) rfl rfl (fun _ => rfl) rfl (Nat.le_of_ble_eq_true rfl) dX1_isLevel_15 (fun r_15 u_15 hw => ?_)
      try dsimp only at hw
      refine w_aload_n C 0 dX1_isLevel_18 rfl ?_
      refine w_bipush C (v := (16 : Int32)) dX1_isLevel_19 (by decide) ?_
      refine w_iload_n C 1 dX1_isLevel_21 rfl ?_
      refine w_imul C dX1_isLevel_22 ?_
      refine w_callVL C (c_X1_unitsOf hw) f_X1_unitsOf k_290 k_288 rfl ⟨Nat.le_of_ble_eq_true rfl, Nat.le_of_ble_eq_true rfl⟩ rfl rfl ⟨Nat.le_of_ble_eq_true rfl, Nat.le_of_ble_eq_true rfl⟩ 0 rfl (rr := (RX1, TX1, 10)) rfl rfl (fun _ => rfl) rfl (Nat.le_of_ble_eq_true rfl) dX1_isLevel_23 (fun r_23 u_23 hw => ?_)
      try dsimp only at hw
      refine w_lcmp_eq C 27 32 rfl (by decide) dX1_isLevel_26 dX1_isLevel_27 (fun c_26 => ?_) (fun c_26 => ?_)
      · replace hw := hw.1 c_26
        refine w_iinc C (v := x2 + (1 : Int32)) 2 (fun x2_32 => [(2, .int x2_32), (0, .ref (a 0)), (1, .int x1)]) dX1_isLevel_32 rfl rfl (by decide) (fun _ => rfl) (fun x2_32 e_x2_32 => ?_)
        replace hw := hw x2_32 e_x2_32
        refine w_goto C 2 (by decide) dX1_isLevel_35 ?_
        refine w_sub (lv' := [(0, .ref (a 0)), (1, .int x1), (2, .int x2_32)]) C [1, 2, 0] rfl ?_
        exact hK2 _ hw
      · replace hw := hw.2 c_26
        refine w_iconst C (v := (0 : Int32)) dX1_isLevel_30 (by decide) ?_
        exact w_zret C () (Or.inl rfl) hw rfl (Nat.le_of_ble_eq_true rfl) (Nat.le_of_ble_eq_true rfl) dX1_isLevel_31
set_option maxHeartbeats 4000000 in
set_option maxRecDepth 100000 in
theorem c_X1_isLevel {l : Launch} {D : va_G} {cB cI cJ cL cS : ClassId} {T : Nat × Nat × Nat × Nat} {a : Nat → Nat} {p0 : Int32} {t_made : Int32} {t_sort : Int32} {t_digits : Int32} {t_slots : Int32} {t_pages : Int32} {t_highest : Int64} {t_units : Nat → Int64} {t_kinds : Nat → Int32} {t_rows : Nat → Int32} {t_marks : Nat → Int32} {Q : Int32 → Prop} (hw : wp_X1_isLevel p0 t_units Q) : CtI l D (Z5 cB cI cJ cL cS) T yX1_isLevel cX1_isLevel 3 ({ frames := 1, cells := 0, slots := 0, locals := 21 } : Room) (Option.some Jvm.ClassFile.FieldType.boolean) [.ref (a 0), .int p0] (wL cB cI cJ a t_made t_sort t_digits t_slots t_pages t_highest t_units t_kinds t_rows t_marks) (fun (u : Unit) => (wL cB cI cJ a t_made t_sort t_digits t_slots t_pages t_highest t_units t_kinds t_rows t_marks)) (fun (r : Int32) (u : Unit) => Q r ) 0 0 := by
  refine ctI_of (own := RX1) (by decide +kernel) rfl (Nat.le_of_ble_eq_true rfl) (fun p e s m below meth c A C => ?_)
  refine w_sub (lv' := [(0, .ref (a 0)), (1, .int p0)]) C [0, 1] rfl ?_
  unfold wp_X1_isLevel at hw
  refine w_iconst C (v := (1 : Int32)) dX1_isLevel_0 (by decide) ?_
  refine w_istore_n C (fun x2_1 => [(2, .int x2_1), (0, .ref (a 0)), (1, .int p0)]) dX1_isLevel_1 (by decide) (fun _ => rfl) (fun x2_1 e_x2_1 => ?_)
  replace hw := hw x2_1 e_x2_1
  refine w_sub (lv' := [(0, .ref (a 0)), (1, .int p0), (2, .int x2_1)]) C [1, 2, 0] rfl ?_
  obtain ⟨j, hw⟩ := hw
  exact wl_X1_isLevel_2 C  j _ hw
def blk_X1_shelfOf_45 (t_sort : Int32) (t_units : Nat → Int64)  (Q : Int32 → Prop) (x2 : Int64) : Prop := wp_X1_firstRow  t_sort (fun (r_47 : Int32) => wp_X1_rowThatHolds r_47 x2 t_sort (fun (r_51 : Int32) => Q r_51))
def wp_X1_shelfOf (p0 : Int32) (t_sort : Int32) (t_units : Nat → Int64) (Q : Int32 → Prop) : Prop := wp_X1_mostOf p0 t_units (fun (r_2 : Int64) => ∀ x2_5 : Int64, x2_5 = r_2 → ((¬ x2_5 = (0 : Int64) → (wp_X1_isLevel p0 t_units (fun (r_16 : Int32) => ((r_16 = 0 → (((¬ t_sort = 0 → ((blk_X1_shelfOf_45 t_sort t_units  Q x2_5))) ∧ (t_sort = 0 → ((((65535 : Int64) < x2_5 → ((blk_X1_shelfOf_45 t_sort t_units  Q x2_5))) ∧ (¬ (65535 : Int64) < x2_5 → (Q (10 : Int32))))))))) ∧ (¬ r_16 = 0 → (Q (9 : Int32))))))) ∧ (x2_5 = (0 : Int64) → (Q (0 : Int32)))))
set_option maxHeartbeats 4000000 in
set_option maxRecDepth 100000 in
theorem wk_X1_shelfOf_45 {p : Program} {l : Launch} {e : Env} {s : State} {m : MethodId} {args : Array Value} {below : List Frame} {meth : Method} {c : Code} {D : va_G} {cB cI cJ cL cS : ClassId} {T : Nat × Nat × Nat × Nat} {A : Nat → Prop} {a : Nat → Nat} {t_made : Int32} {t_sort : Int32} {t_digits : Int32} {t_slots : Int32} {t_pages : Int32} {t_highest : Int64} {t_units : Nat → Int64} {t_kinds : Nat → Int32} {t_rows : Nat → Int32} {t_marks : Nat → Int32} {Q : Int32 → Prop} (C : Cq p s m args meth c D (Z5 cB cI cJ cL cS) T A cX1_shelfOf RX1 4 (Option.some Jvm.ClassFile.FieldType.int)) {x2 : Int64}  (hw : blk_X1_shelfOf_45 t_sort t_units  Q x2) : ww p l e ({ frames := 2, cells := 0, slots := 0, locals := 57 } : Room) s m args below meth c D A 4 (MQ below (va_Qi (fun (r : Int32) (u : Unit) => Q r ) (OutP D (fun (u : Unit) => (wL cB cI cJ a t_made t_sort t_digits t_slots t_pages t_highest t_units t_kinds t_rows t_marks))) A) args s 0 0 A) 0 0 (wL cB cI cJ a t_made t_sort t_digits t_slots t_pages t_highest t_units t_kinds t_rows t_marks) 45 [(0, .ref (a 0)), (2, .long x2)] [] := by
  unfold blk_X1_shelfOf_45 at hw
  refine w_aload_n C 0 dX1_shelfOf_45 rfl ?_
  refine w_aload_n C 0 dX1_shelfOf_46 rfl ?_
  refine w_callVI C (c_X1_firstRow hw) f_X1_firstRow k_11 k_442 rfl ⟨Nat.le_of_ble_eq_true rfl, Nat.le_of_ble_eq_true rfl⟩ rfl rfl ⟨Nat.le_of_ble_eq_true rfl, Nat.le_of_ble_eq_true rfl⟩ 0 rfl (rr := (RX1, TX1, 10)) rfl rfl (fun _ => rfl) rfl (Nat.le_of_ble_eq_true rfl) dX1_shelfOf_47 (fun r_47 u_47 hw => ?_)
  try dsimp only at hw
  refine w_lload_n C 1 dX1_shelfOf_50 rfl ?_
  refine w_callVI C (c_X1_rowThatHolds hw) f_X1_rowThatHolds k_13 k_453 rfl ⟨Nat.le_of_ble_eq_true rfl, Nat.le_of_ble_eq_true rfl⟩ rfl rfl ⟨Nat.le_of_ble_eq_true rfl, Nat.le_of_ble_eq_true rfl⟩ 0 rfl (rr := (RX1, TX1, 10)) rfl rfl (fun _ => rfl) rfl (Nat.le_of_ble_eq_true rfl) dX1_shelfOf_51 (fun r_51 u_51 hw => ?_)
  try dsimp only at hw
  exact w_iret C () hw rfl (Nat.le_of_ble_eq_true rfl) (Nat.le_of_ble_eq_true rfl) dX1_shelfOf_54
set_option maxHeartbeats 4000000 in
set_option maxRecDepth 100000 in
theorem c_X1_shelfOf {l : Launch} {D : va_G} {cB cI cJ cL cS : ClassId} {T : Nat × Nat × Nat × Nat} {a : Nat → Nat} {p0 : Int32} {t_made : Int32} {t_sort : Int32} {t_digits : Int32} {t_slots : Int32} {t_pages : Int32} {t_highest : Int64} {t_units : Nat → Int64} {t_kinds : Nat → Int32} {t_rows : Nat → Int32} {t_marks : Nat → Int32} {Q : Int32 → Prop} (hw : wp_X1_shelfOf p0 t_sort t_units Q) : CtI l D (Z5 cB cI cJ cL cS) T yX1_shelfOf cX1_shelfOf 4 ({ frames := 2, cells := 0, slots := 0, locals := 57 } : Room) (Option.some Jvm.ClassFile.FieldType.int) [.ref (a 0), .int p0] (wL cB cI cJ a t_made t_sort t_digits t_slots t_pages t_highest t_units t_kinds t_rows t_marks) (fun (u : Unit) => (wL cB cI cJ a t_made t_sort t_digits t_slots t_pages t_highest t_units t_kinds t_rows t_marks)) (fun (r : Int32) (u : Unit) => Q r ) 0 0 := by
  refine ctI_of (own := RX1) (by decide +kernel) rfl (Nat.le_of_ble_eq_true rfl) (fun p e s m below meth c A C => ?_)
  refine w_sub (lv' := [(0, .ref (a 0)), (1, .int p0)]) C [0, 1] rfl ?_
  unfold wp_X1_shelfOf at hw
  refine w_aload_n C 0 dX1_shelfOf_0 rfl ?_
  refine w_iload_n C 1 dX1_shelfOf_1 rfl ?_
  refine w_callVL C (c_X1_mostOf hw) f_X1_mostOf k_12 k_446 rfl ⟨Nat.le_of_ble_eq_true rfl, Nat.le_of_ble_eq_true rfl⟩ rfl rfl ⟨Nat.le_of_ble_eq_true rfl, Nat.le_of_ble_eq_true rfl⟩ 0 rfl (rr := (RX1, TX1, 10)) rfl rfl (fun _ => rfl) rfl (Nat.le_of_ble_eq_true rfl) dX1_shelfOf_2 (fun r_2 u_2 hw => ?_)
  try dsimp only at hw
  refine w_lstore_n C (fun x2_5 => [(2, .long x2_5), (0, .ref (a 0)), (1, .int p0)]) dX1_shelfOf_5 (by decide) (fun _ => rfl) (fun x2_5 e_x2_5 => ?_)
  replace hw := hw x2_5 e_x2_5
  refine w_lload_n C 0 dX1_shelfOf_6 rfl ?_
  refine w_lconst C (v := (0 : Int64)) dX1_shelfOf_7 (by decide) ?_
  refine w_lcmp_ne C 9 14 rfl (by decide) dX1_shelfOf_8 dX1_shelfOf_9 (fun c_8 => ?_) (fun c_8 => ?_)
  · replace hw := hw.1 c_8
    refine w_aload_n C 1 dX1_shelfOf_14 rfl ?_
    refine w_iload_n C 2 dX1_shelfOf_15 rfl ?_
    refine w_callVI C (c_X1_isLevel hw) f_X1_isLevel k_15 k_467 rfl ⟨Nat.le_of_ble_eq_true rfl, Nat.le_of_ble_eq_true rfl⟩ rfl rfl ⟨Nat.le_of_ble_eq_true rfl, Nat.le_of_ble_eq_true rfl⟩ 0 rfl (rr := (RX1, TX1, 10)) rfl rfl (fun _ => rfl) rfl (Nat.le_of_ble_eq_true rfl) dX1_shelfOf_16 (fun r_16 u_16 hw => ?_)
    try dsimp only at hw
    refine w_if_eq C 25 (by decide) dX1_shelfOf_19 (fun c_19 => ?_) (fun c_19 => ?_)
    · replace hw := hw.1 c_19
      refine w_aload_n C 1 dX1_shelfOf_25 rfl ?_
      refine w_get C (T1 := TX1) 0 1 u_X1 k_148 rfl (by decide) rfl rfl dX1_shelfOf_26 ?_
      refine w_if_ne C 45 (by decide) dX1_shelfOf_29 (fun c_29 => ?_) (fun c_29 => ?_)
      · replace hw := hw.1 c_29
        refine w_sub (lv' := [(0, .ref (a 0)), (2, .long x2_5)]) C [1, 0] rfl ?_
        exact wk_X1_shelfOf_45 C  hw
      · replace hw := hw.2 c_29
        refine w_lload_n C 0 dX1_shelfOf_32 rfl ?_
        refine w_ldc2 C (v := (65535 : Int64)) dX1_shelfOf_33 k_471 ?_
        refine w_lcmp_gt C 37 45 rfl (by decide) dX1_shelfOf_36 dX1_shelfOf_37 (fun c_36 => ?_) (fun c_36 => ?_)
        · replace hw := hw.1 c_36
          refine w_sub (lv' := [(0, .ref (a 0)), (2, .long x2_5)]) C [1, 0] rfl ?_
          exact wk_X1_shelfOf_45 C  hw
        · replace hw := hw.2 c_36
          refine w_bipush C (v := (10 : Int32)) dX1_shelfOf_40 (by decide) ?_
          refine w_goto C 54 (by decide) dX1_shelfOf_42 ?_
          exact w_iret C () hw rfl (Nat.le_of_ble_eq_true rfl) (Nat.le_of_ble_eq_true rfl) dX1_shelfOf_54
    · replace hw := hw.2 c_19
      refine w_bipush C (v := (9 : Int32)) dX1_shelfOf_22 (by decide) ?_
      exact w_iret C () hw rfl (Nat.le_of_ble_eq_true rfl) (Nat.le_of_ble_eq_true rfl) dX1_shelfOf_24
  · replace hw := hw.2 c_8
    refine w_iconst C (v := (0 : Int32)) dX1_shelfOf_12 (by decide) ?_
    exact w_iret C () hw rfl (Nat.le_of_ble_eq_true rfl) (Nat.le_of_ble_eq_true rfl) dX1_shelfOf_13
def blk_X1_shelveAll_60 (t_sort : Int32) (t_pages : Int32) (t_units : Nat → Int64) (K4 : Int32 → Int32 → (Nat → Int32) → Prop) (Q : Int32 → (Nat → Int32) → Prop) (x1 : Int32) (x2 : Int32) (t_kinds : Nat → Int32) : Prop := ∀ x2_60 : Int32, x2_60 = x2 + (1 : Int32) → K4 x1 x2_60 t_kinds
def blk_X1_shelveAll_39 (t_sort : Int32) (t_pages : Int32) (t_units : Nat → Int64) (K4 : Int32 → Int32 → (Nat → Int32) → Prop) (Q : Int32 → (Nat → Int32) → Prop) (x1 : Int32) (x2 : Int32) (k0 : Int32) (t_kinds : Nat → Int32) : Prop := ∀ x3_39 : Int32, x3_39 = k0 → (vp_in x2 271) ∧ ((x3_39 = (t_kinds (x2).toNatClampNeg) → ((blk_X1_shelveAll_60 t_sort t_pages t_units K4 Q x1 x2 t_kinds))) ∧ (¬ x3_39 = (t_kinds (x2).toNatClampNeg) → ((vp_in x2 271) ∧ ∀ t_kinds_56 : Nat → Int32, t_kinds_56 = upd t_kinds (x2).toNatClampNeg x3_39 → ∀ x1_57 : Int32, x1_57 = x1 + (1 : Int32) → (blk_X1_shelveAll_60 t_sort t_pages t_units K4 Q x1_57 x2 t_kinds_56))))
def bod_X1_shelveAll_4 (t_sort : Int32) (t_pages : Int32) (t_units : Nat → Int64)  (Q : Int32 → (Nat → Int32) → Prop)   (K4 : Int32 → Int32 → (Nat → Int32) → Prop) (x1 : Int32) (x2 : Int32) (t_kinds : Nat → Int32) : Prop := ((t_pages ≤ x2 → (Q x1 t_kinds)) ∧ (¬ t_pages ≤ x2 → ((((271 : Int32) ≤ x2 → (Q x1 t_kinds)) ∧ (¬ (271 : Int32) ≤ x2 → ((vp_in x2 271) ∧ ((¬ (t_kinds (x2).toNatClampNeg) = 0 → (wp_X1_shelfOf x2 t_sort t_units (fun (r_36 : Int32) => (blk_X1_shelveAll_39 t_sort t_pages t_units K4 Q x1 x2 r_36 t_kinds)))) ∧ ((t_kinds (x2).toNatClampNeg) = 0 → ((blk_X1_shelveAll_39 t_sort t_pages t_units K4 Q x1 x2 (0 : Int32) t_kinds))))))))))
def lp_X1_shelveAll_4 (t_sort : Int32) (t_pages : Int32) (t_units : Nat → Int64)  (Q : Int32 → (Nat → Int32) → Prop)   : Nat → Int32 → Int32 → (Nat → Int32) → Prop
  | 0, _, _, _ => False
  | j + 1, x1, x2, t_kinds => bod_X1_shelveAll_4 t_sort t_pages t_units  Q  (fun v0 v1 v2 => lp_X1_shelveAll_4 t_sort t_pages t_units  Q  j v0 v1 v2) x1 x2 t_kinds
def wp_X1_shelveAll  (t_sort : Int32) (t_pages : Int32) (t_units : Nat → Int64) (t_kinds : Nat → Int32) (Q : Int32 → (Nat → Int32) → Prop) : Prop := ∀ x1_1 : Int32, x1_1 = (0 : Int32) → ∀ x2_3 : Int32, x2_3 = (0 : Int32) → (∃ j : Nat, lp_X1_shelveAll_4 t_sort t_pages t_units  Q  j x1_1 x2_3 t_kinds)
set_option maxHeartbeats 4000000 in
set_option maxRecDepth 100000 in
theorem wk_X1_shelveAll_60 {p : Program} {l : Launch} {e : Env} {s : State} {m : MethodId} {args : Array Value} {below : List Frame} {meth : Method} {c : Code} {D : va_G} {cB cI cJ cL cS : ClassId} {T : Nat × Nat × Nat × Nat} {A : Nat → Prop} {a : Nat → Nat} {t_made : Int32} {t_sort : Int32} {t_digits : Int32} {t_slots : Int32} {t_pages : Int32} {t_highest : Int64} {t_units : Nat → Int64} {t_rows : Nat → Int32} {t_marks : Nat → Int32} {Q : Int32 → (Nat → Int32) → Prop} (C : Cq p s m args meth c D (Z5 cB cI cJ cL cS) T A cX1_shelveAll RX1 4 (Option.some Jvm.ClassFile.FieldType.int)) {x1 : Int32} {x2 : Int32} {t_kinds : Nat → Int32} {K4 : Int32 → Int32 → (Nat → Int32) → Prop} (hK4 : ∀ (y1 : Int32) (y2 : Int32) (z_t_kinds : Nat → Int32), K4 y1 y2 z_t_kinds → ww p l e ({ frames := 3, cells := 0, slots := 0, locals := 80 } : Room) s m args below meth c D A 4 (MQ below (va_Qi (fun (r : Int32) (u : (Nat → Int32)) => Q r u) (OutP D (fun (u : (Nat → Int32)) => (wL cB cI cJ a t_made t_sort t_digits t_slots t_pages t_highest t_units u t_rows t_marks))) A) args s 0 0 A) 0 0 (wL cB cI cJ a t_made t_sort t_digits t_slots t_pages t_highest t_units z_t_kinds t_rows t_marks) 4 [(0, .ref (a 0)), (1, .int y1), (2, .int y2)] []) (hw : blk_X1_shelveAll_60 t_sort t_pages t_units K4 Q x1 x2 t_kinds) : ww p l e ({ frames := 3, cells := 0, slots := 0, locals := 80 } : Room) s m args below meth c D A 4 (MQ below (va_Qi (fun (r : Int32) (u : (Nat → Int32)) => Q r u) (OutP D (fun (u : (Nat → Int32)) => (wL cB cI cJ a t_made t_sort t_digits t_slots t_pages t_highest t_units u t_rows t_marks))) A) args s 0 0 A) 0 0 (wL cB cI cJ a t_made t_sort t_digits t_slots t_pages t_highest t_units t_kinds t_rows t_marks) 60 [(0, .ref (a 0)), (1, .int x1), (2, .int x2)] [] := by
  unfold blk_X1_shelveAll_60 at hw
  refine w_iinc C (v := x2 + (1 : Int32)) 2 (fun x2_60 => [(2, .int x2_60), (0, .ref (a 0)), (1, .int x1)]) dX1_shelveAll_60 rfl rfl (by decide) (fun _ => rfl) (fun x2_60 e_x2_60 => ?_)
  replace hw := hw x2_60 e_x2_60
  refine w_goto C 4 (by decide) dX1_shelveAll_63 ?_
  refine w_sub (lv' := [(0, .ref (a 0)), (1, .int x1), (2, .int x2_60)]) C [1, 2, 0] rfl ?_
  exact hK4 _ _ _ hw
set_option maxHeartbeats 4000000 in
set_option maxRecDepth 100000 in
theorem wk_X1_shelveAll_39 {p : Program} {l : Launch} {e : Env} {s : State} {m : MethodId} {args : Array Value} {below : List Frame} {meth : Method} {c : Code} {D : va_G} {cB cI cJ cL cS : ClassId} {T : Nat × Nat × Nat × Nat} {A : Nat → Prop} {a : Nat → Nat} {t_made : Int32} {t_sort : Int32} {t_digits : Int32} {t_slots : Int32} {t_pages : Int32} {t_highest : Int64} {t_units : Nat → Int64} {t_rows : Nat → Int32} {t_marks : Nat → Int32} {Q : Int32 → (Nat → Int32) → Prop} (C : Cq p s m args meth c D (Z5 cB cI cJ cL cS) T A cX1_shelveAll RX1 4 (Option.some Jvm.ClassFile.FieldType.int)) {x1 : Int32} {x2 : Int32} {k0 : Int32} {t_kinds : Nat → Int32} {K4 : Int32 → Int32 → (Nat → Int32) → Prop} (hK4 : ∀ (y1 : Int32) (y2 : Int32) (z_t_kinds : Nat → Int32), K4 y1 y2 z_t_kinds → ww p l e ({ frames := 3, cells := 0, slots := 0, locals := 80 } : Room) s m args below meth c D A 4 (MQ below (va_Qi (fun (r : Int32) (u : (Nat → Int32)) => Q r u) (OutP D (fun (u : (Nat → Int32)) => (wL cB cI cJ a t_made t_sort t_digits t_slots t_pages t_highest t_units u t_rows t_marks))) A) args s 0 0 A) 0 0 (wL cB cI cJ a t_made t_sort t_digits t_slots t_pages t_highest t_units z_t_kinds t_rows t_marks) 4 [(0, .ref (a 0)), (1, .int y1), (2, .int y2)] []) (hw : blk_X1_shelveAll_39 t_sort t_pages t_units K4 Q x1 x2 k0 t_kinds) : ww p l e ({ frames := 3, cells := 0, slots := 0, locals := 80 } : Room) s m args below meth c D A 4 (MQ below (va_Qi (fun (r : Int32) (u : (Nat → Int32)) => Q r u) (OutP D (fun (u : (Nat → Int32)) => (wL cB cI cJ a t_made t_sort t_digits t_slots t_pages t_highest t_units u t_rows t_marks))) A) args s 0 0 A) 0 0 (wL cB cI cJ a t_made t_sort t_digits t_slots t_pages t_highest t_units t_kinds t_rows t_marks) 39 [(0, .ref (a 0)), (1, .int x1), (2, .int x2)] [.int k0] := by
  unfold blk_X1_shelveAll_39 at hw
  refine w_istore_n C (fun x3_39 => [(3, .int x3_39), (0, .ref (a 0)), (1, .int x1), (2, .int x2)]) dX1_shelveAll_39 (by decide) (fun _ => rfl) (fun x3_39 e_x3_39 => ?_)
  replace hw := hw x3_39 e_x3_39
  refine w_iload_n C 0 dX1_shelveAll_40 rfl ?_
  refine w_aload_n C 1 dX1_shelveAll_41 rfl ?_
  refine w_get C (T1 := TX1) 0 7 u_X1 k_159 rfl (by decide) rfl rfl dX1_shelveAll_42 ?_
  refine w_iload_n C 3 dX1_shelveAll_45 rfl ?_
  obtain ⟨hi_46, hw⟩ := hw
  refine w_iaload C 2 1 rfl rfl hi_46 dX1_shelveAll_46 ?_
  refine w_icmp_eq C 60 (by decide) dX1_shelveAll_47 (fun c_47 => ?_) (fun c_47 => ?_)
  · replace hw := hw.1 c_47
    refine w_sub (lv' := [(0, .ref (a 0)), (1, .int x1), (2, .int x2)]) C [1, 2, 3] rfl ?_
    exact wk_X1_shelveAll_60 C hK4 hw
  · replace hw := hw.2 c_47
    refine w_aload_n C 1 dX1_shelveAll_50 rfl ?_
    refine w_get C (T1 := TX1) 0 7 u_X1 k_159 rfl (by decide) rfl rfl dX1_shelveAll_51 ?_
    refine w_iload_n C 3 dX1_shelveAll_54 rfl ?_
    refine w_iload_n C 0 dX1_shelveAll_55 rfl ?_
    obtain ⟨hi_56, hw⟩ := hw
    refine w_iastore C 2 1 (fun z => (wL cB cI cJ a t_made t_sort t_digits t_slots t_pages t_highest t_units z t_rows t_marks)) rfl rfl hi_56 (fun _ => rfl) dX1_shelveAll_56 (fun t_kinds_56 e_t_kinds_56 => ?_)
    replace hw := hw t_kinds_56 e_t_kinds_56
    refine w_iinc C (v := x1 + (1 : Int32)) 2 (fun x1_57 => [(1, .int x1_57), (3, .int x3_39), (0, .ref (a 0)), (2, .int x2)]) dX1_shelveAll_57 rfl rfl (by decide) (fun _ => rfl) (fun x1_57 e_x1_57 => ?_)
    replace hw := hw x1_57 e_x1_57
    refine w_sub (lv' := [(0, .ref (a 0)), (1, .int x1_57), (2, .int x2)]) C [2, 0, 3] rfl ?_
    exact wk_X1_shelveAll_60 C hK4 hw
set_option maxHeartbeats 4000000 in
set_option maxRecDepth 100000 in
theorem wl_X1_shelveAll_4 {p : Program} {l : Launch} {e : Env} {s : State} {m : MethodId} {args : Array Value} {below : List Frame} {meth : Method} {c : Code} {D : va_G} {cB cI cJ cL cS : ClassId} {T : Nat × Nat × Nat × Nat} {A : Nat → Prop} {a : Nat → Nat} {t_made : Int32} {t_sort : Int32} {t_digits : Int32} {t_slots : Int32} {t_pages : Int32} {t_highest : Int64} {t_units : Nat → Int64} {t_rows : Nat → Int32} {t_marks : Nat → Int32} {Q : Int32 → (Nat → Int32) → Prop} (C : Cq p s m args meth c D (Z5 cB cI cJ cL cS) T A cX1_shelveAll RX1 4 (Option.some Jvm.ClassFile.FieldType.int))    : ∀ (j : Nat) (x1 : Int32) (x2 : Int32) (t_kinds : Nat → Int32), lp_X1_shelveAll_4 t_sort t_pages t_units  Q  j x1 x2 t_kinds → ww p l e ({ frames := 3, cells := 0, slots := 0, locals := 80 } : Room) s m args below meth c D A 4 (MQ below (va_Qi (fun (r : Int32) (u : (Nat → Int32)) => Q r u) (OutP D (fun (u : (Nat → Int32)) => (wL cB cI cJ a t_made t_sort t_digits t_slots t_pages t_highest t_units u t_rows t_marks))) A) args s 0 0 A) 0 0 (wL cB cI cJ a t_made t_sort t_digits t_slots t_pages t_highest t_units t_kinds t_rows t_marks) 4 [(0, .ref (a 0)), (1, .int x1), (2, .int x2)] [] := by
  intro j
  induction j with
  | zero => intro _ _ _ hw; exact hw.elim
  | succ j hK4 =>
    intro x1 x2 t_kinds hw
    have hw : bod_X1_shelveAll_4 t_sort t_pages t_units  Q  (fun v0 v1 v2 => lp_X1_shelveAll_4 t_sort t_pages t_units  Q  j v0 v1 v2) x1 x2 t_kinds := hw
    unfold bod_X1_shelveAll_4 at hw
    refine w_iload_n C 2 dX1_shelveAll_4 rfl ?_
    refine w_aload_n C 0 dX1_shelveAll_5 rfl ?_
    refine w_get C (T1 := TX1) 0 4 u_X1 k_154 rfl (by decide) rfl rfl dX1_shelveAll_6 ?_
    refine w_icmp_ge C 66 (by decide) dX1_shelveAll_9 (fun c_9 => ?_) (fun c_9 => ?_)
    · replace hw := hw.1 c_9
      refine w_iload_n C 1 dX1_shelveAll_66 rfl ?_
      exact w_iret C t_kinds hw rfl (Nat.le_of_ble_eq_true rfl) (Nat.le_of_ble_eq_true rfl) dX1_shelveAll_67
    · replace hw := hw.2 c_9
      refine w_iload_n C 2 dX1_shelveAll_12 rfl ?_
      refine w_aload_n C 0 dX1_shelveAll_13 rfl ?_
      refine w_get C (T1 := TX1) 0 7 u_X1 k_159 rfl (by decide) rfl rfl dX1_shelveAll_14 ?_
      refine w_alen C (v := (271 : Int32)) 2 1 rfl rfl rfl dX1_shelveAll_17 ?_
      refine w_icmp_ge C 66 (by decide) dX1_shelveAll_18 (fun c_18 => ?_) (fun c_18 => ?_)
      · replace hw := hw.1 c_18
        refine w_iload_n C 1 dX1_shelveAll_66 rfl ?_
        exact w_iret C t_kinds hw rfl (Nat.le_of_ble_eq_true rfl) (Nat.le_of_ble_eq_true rfl) dX1_shelveAll_67
      · replace hw := hw.2 c_18
        refine w_aload_n C 0 dX1_shelveAll_21 rfl ?_
        refine w_get C (T1 := TX1) 0 7 u_X1 k_159 rfl (by decide) rfl rfl dX1_shelveAll_22 ?_
        refine w_iload_n C 2 dX1_shelveAll_25 rfl ?_
        obtain ⟨hi_26, hw⟩ := hw
        refine w_iaload C 2 1 rfl rfl hi_26 dX1_shelveAll_26 ?_
        refine w_if_ne C 34 (by decide) dX1_shelveAll_27 (fun c_27 => ?_) (fun c_27 => ?_)
        · replace hw := hw.1 c_27
          refine w_aload_n C 0 dX1_shelveAll_34 rfl ?_
          refine w_iload_n C 2 dX1_shelveAll_35 rfl ?_
          refine w_callVI C (c_X1_shelfOf hw) f_X1_shelfOf k_14 k_463 rfl ⟨Nat.le_of_ble_eq_true rfl, Nat.le_of_ble_eq_true rfl⟩ rfl rfl ⟨Nat.le_of_ble_eq_true rfl, Nat.le_of_ble_eq_true rfl⟩ 0 rfl (rr := (RX1, TX1, 10)) rfl rfl (fun _ => rfl) rfl (Nat.le_of_ble_eq_true rfl) dX1_shelveAll_36 (fun r_36 u_36 hw => ?_)
          try dsimp only at hw
          refine w_sub (lv' := [(0, .ref (a 0)), (1, .int x1), (2, .int x2)]) C [0, 1, 2] rfl ?_
          exact wk_X1_shelveAll_39 C hK4 hw
        · replace hw := hw.2 c_27
          refine w_iconst C (v := (0 : Int32)) dX1_shelveAll_30 (by decide) ?_
          refine w_goto C 39 (by decide) dX1_shelveAll_31 ?_
          refine w_sub (lv' := [(0, .ref (a 0)), (1, .int x1), (2, .int x2)]) C [0, 1, 2] rfl ?_
          exact wk_X1_shelveAll_39 C hK4 hw
set_option maxHeartbeats 4000000 in
set_option maxRecDepth 100000 in
theorem c_X1_shelveAll {l : Launch} {D : va_G} {cB cI cJ cL cS : ClassId} {T : Nat × Nat × Nat × Nat} {a : Nat → Nat}  {t_made : Int32} {t_sort : Int32} {t_digits : Int32} {t_slots : Int32} {t_pages : Int32} {t_highest : Int64} {t_units : Nat → Int64} {t_kinds : Nat → Int32} {t_rows : Nat → Int32} {t_marks : Nat → Int32} {Q : Int32 → (Nat → Int32) → Prop} (hw : wp_X1_shelveAll  t_sort t_pages t_units t_kinds Q) : CtI l D (Z5 cB cI cJ cL cS) T yX1_shelveAll cX1_shelveAll 4 ({ frames := 3, cells := 0, slots := 0, locals := 80 } : Room) (Option.some Jvm.ClassFile.FieldType.int) [.ref (a 0)] (wL cB cI cJ a t_made t_sort t_digits t_slots t_pages t_highest t_units t_kinds t_rows t_marks) (fun (u : (Nat → Int32)) => (wL cB cI cJ a t_made t_sort t_digits t_slots t_pages t_highest t_units u t_rows t_marks)) (fun (r : Int32) (u : (Nat → Int32)) => Q r u) 0 0 := by
  refine ctI_of (own := RX1) (by decide +kernel) rfl (Nat.le_of_ble_eq_true rfl) (fun p e s m below meth c A C => ?_)
  refine w_sub (lv' := [(0, .ref (a 0))]) C [0] rfl ?_
  unfold wp_X1_shelveAll at hw
  refine w_iconst C (v := (0 : Int32)) dX1_shelveAll_0 (by decide) ?_
  refine w_istore_n C (fun x1_1 => [(1, .int x1_1), (0, .ref (a 0))]) dX1_shelveAll_1 (by decide) (fun _ => rfl) (fun x1_1 e_x1_1 => ?_)
  replace hw := hw x1_1 e_x1_1
  refine w_iconst C (v := (0 : Int32)) dX1_shelveAll_2 (by decide) ?_
  refine w_istore_n C (fun x2_3 => [(2, .int x2_3), (1, .int x1_1), (0, .ref (a 0))]) dX1_shelveAll_3 (by decide) (fun _ => rfl) (fun x2_3 e_x2_3 => ?_)
  replace hw := hw x2_3 e_x2_3
  refine w_sub (lv' := [(0, .ref (a 0)), (1, .int x1_1), (2, .int x2_3)]) C [2, 1, 0] rfl ?_
  obtain ⟨j, hw⟩ := hw
  exact wl_X1_shelveAll_4 C  j _ _ _ hw
def wp_X1_reaches (p0 : Int64) (t_highest : Int64) (Q : Int32 → Prop) : Prop := ((p0 < (0 : Int64) → (Q (0 : Int32))) ∧ (¬ p0 < (0 : Int64) → (((t_highest < p0 → (Q (0 : Int32))) ∧ (¬ t_highest < p0 → (Q (1 : Int32)))))))
set_option maxHeartbeats 4000000 in
set_option maxRecDepth 100000 in
theorem c_X1_reaches {l : Launch} {D : va_G} {cB cI cJ cL cS : ClassId} {T : Nat × Nat × Nat × Nat} {a : Nat → Nat} {p0 : Int64} {t_made : Int32} {t_sort : Int32} {t_digits : Int32} {t_slots : Int32} {t_pages : Int32} {t_highest : Int64} {t_units : Nat → Int64} {t_kinds : Nat → Int32} {t_rows : Nat → Int32} {t_marks : Nat → Int32} {Q : Int32 → Prop} (hw : wp_X1_reaches p0 t_highest Q) : CtI l D (Z5 cB cI cJ cL cS) T yX1_reaches cX1_reaches 3 ({ frames := 0, cells := 0, slots := 0, locals := 0 } : Room) (Option.some Jvm.ClassFile.FieldType.boolean) [.ref (a 0), .long p0] (wL cB cI cJ a t_made t_sort t_digits t_slots t_pages t_highest t_units t_kinds t_rows t_marks) (fun (u : Unit) => (wL cB cI cJ a t_made t_sort t_digits t_slots t_pages t_highest t_units t_kinds t_rows t_marks)) (fun (r : Int32) (u : Unit) => Q r ) 0 0 := by
  refine ctI_of (own := RX1) (by decide +kernel) rfl (Nat.le_of_ble_eq_true rfl) (fun p e s m below meth c A C => ?_)
  refine w_sub (lv' := [(0, .ref (a 0)), (1, .long p0)]) C [0, 1] rfl ?_
  unfold wp_X1_reaches at hw
  refine w_lload_n C 1 dX1_reaches_0 rfl ?_
  refine w_lconst C (v := (0 : Int64)) dX1_reaches_1 (by decide) ?_
  refine w_lcmp_lt C 3 19 rfl (by decide) dX1_reaches_2 dX1_reaches_3 (fun c_2 => ?_) (fun c_2 => ?_)
  · replace hw := hw.1 c_2
    refine w_iconst C (v := (0 : Int32)) dX1_reaches_19 (by decide) ?_
    exact w_zret C () (Or.inl rfl) hw rfl (Nat.le_of_ble_eq_true rfl) (Nat.le_of_ble_eq_true rfl) dX1_reaches_20
  · replace hw := hw.2 c_2
    refine w_lload_n C 1 dX1_reaches_6 rfl ?_
    refine w_aload_n C 0 dX1_reaches_7 rfl ?_
    refine w_get C (T1 := TX1) 0 5 u_X1 k_156 rfl (by decide) rfl rfl dX1_reaches_8 ?_
    refine w_lcmp_gt C 12 19 rfl (by decide) dX1_reaches_11 dX1_reaches_12 (fun c_11 => ?_) (fun c_11 => ?_)
    · replace hw := hw.1 c_11
      refine w_iconst C (v := (0 : Int32)) dX1_reaches_19 (by decide) ?_
      exact w_zret C () (Or.inl rfl) hw rfl (Nat.le_of_ble_eq_true rfl) (Nat.le_of_ble_eq_true rfl) dX1_reaches_20
    · replace hw := hw.2 c_11
      refine w_iconst C (v := (1 : Int32)) dX1_reaches_15 (by decide) ?_
      refine w_goto C 20 (by decide) dX1_reaches_16 ?_
      exact w_zret C () (Or.inr rfl) hw rfl (Nat.le_of_ble_eq_true rfl) (Nat.le_of_ble_eq_true rfl) dX1_reaches_20
def wp_X1_awaitedIn (p0 : Int32) (p1 : Int64) (p2 : Int64) (t_digits : Int32) (Q : Int64 → Prop) : Prop := wp_X7_lowOf t_digits p0  (fun (r_5 : Int64) => ∀ x6_13 : Int64, x6_13 = (if p2 < r_5 then r_5 else p2) → ((p2 ≤ (0 : Int64) → (Q (1 : Int64))) ∧ (¬ p2 ≤ (0 : Int64) → (((x6_13 ≤ p1 → ((¬ p2 = 0) ∧ Q (((p1 - x6_13) / p2) + (1 : Int64)))) ∧ (¬ x6_13 ≤ p1 → (Q (1 : Int64))))))))
set_option maxHeartbeats 4000000 in
set_option maxRecDepth 100000 in
theorem c_X1_awaitedIn {l : Launch} {D : va_G} {cB cI cJ cL cS : ClassId} {T : Nat × Nat × Nat × Nat} {a : Nat → Nat} {p0 : Int32} {p1 : Int64} {p2 : Int64} {t_made : Int32} {t_sort : Int32} {t_digits : Int32} {t_slots : Int32} {t_pages : Int32} {t_highest : Int64} {t_units : Nat → Int64} {t_kinds : Nat → Int32} {t_rows : Nat → Int32} {t_marks : Nat → Int32} {Q : Int64 → Prop} (hw : wp_X1_awaitedIn p0 p1 p2 t_digits Q) : CtL l D (Z5 cB cI cJ cL cS) T yX1_awaitedIn cX1_awaitedIn 8 ({ frames := 3, cells := 0, slots := 0, locals := 76 } : Room) (Option.some Jvm.ClassFile.FieldType.long) [.ref (a 0), .int p0, .long p1, .long p2] (wL cB cI cJ a t_made t_sort t_digits t_slots t_pages t_highest t_units t_kinds t_rows t_marks) (fun (u : Unit) => (wL cB cI cJ a t_made t_sort t_digits t_slots t_pages t_highest t_units t_kinds t_rows t_marks)) (fun (r : Int64) (u : Unit) => Q r ) 0 0 := by
  refine ctL_of (own := RX1) (by decide +kernel) rfl (Nat.le_of_ble_eq_true rfl) (fun p e s m below meth c A C => ?_)
  refine w_sub (lv' := [(0, .ref (a 0)), (1, .int p0), (2, .long p1), (4, .long p2)]) C [0, 1, 2, 3] rfl ?_
  unfold wp_X1_awaitedIn at hw
  refine w_aload_n C 0 dX1_awaitedIn_0 rfl ?_
  refine w_get C (T1 := TX1) 0 2 u_X1 k_150 rfl (by decide) rfl rfl dX1_awaitedIn_1 ?_
  refine w_iload_n C 1 dX1_awaitedIn_4 rfl ?_
  refine w_callSLN C (c_X7_lowOf hw) f_X7_lowOf n_521 rfl ⟨Nat.le_of_ble_eq_true rfl, Nat.le_of_ble_eq_true rfl⟩ rfl rfl ⟨Nat.le_of_ble_eq_true rfl, Nat.le_of_ble_eq_true rfl⟩ rfl (Nat.le_of_ble_eq_true rfl) dX1_awaitedIn_5 (fun r_5 u_5 hw => ?_)
  try dsimp only at hw
  refine w_lload C 3 dX1_awaitedIn_8 rfl ?_
  refine w_lmax C k_450 f_lmax.1 f_lmax.2.1 f_lmax.2.2 (Nat.le_of_ble_eq_true rfl) (Nat.le_of_ble_eq_true rfl) (Nat.le_of_ble_eq_true rfl) (Nat.le_of_ble_eq_true rfl) dX1_awaitedIn_10 ?_
  refine w_lstore C (fun x6_13 => [(6, .long x6_13), (0, .ref (a 0)), (1, .int p0), (2, .long p1), (4, .long p2)]) dX1_awaitedIn_13 (by decide) (fun _ => rfl) (fun x6_13 e_x6_13 => ?_)
  replace hw := hw x6_13 e_x6_13
  refine w_lload C 4 dX1_awaitedIn_15 rfl ?_
  refine w_lconst C (v := (0 : Int64)) dX1_awaitedIn_17 (by decide) ?_
  refine w_lcmp_le C 19 29 rfl (by decide) dX1_awaitedIn_18 dX1_awaitedIn_19 (fun c_18 => ?_) (fun c_18 => ?_)
  · replace hw := hw.1 c_18
    refine w_lconst C (v := (1 : Int64)) dX1_awaitedIn_29 (by decide) ?_
    refine w_goto C 42 (by decide) dX1_awaitedIn_30 ?_
    exact w_lret C () hw rfl (Nat.le_of_ble_eq_true rfl) (Nat.le_of_ble_eq_true rfl) dX1_awaitedIn_42
  · replace hw := hw.2 c_18
    refine w_lload_n C 3 dX1_awaitedIn_22 rfl ?_
    refine w_lload C 0 dX1_awaitedIn_23 rfl ?_
    refine w_lcmp_ge C 26 33 rfl (by decide) dX1_awaitedIn_25 dX1_awaitedIn_26 (fun c_25 => ?_) (fun c_25 => ?_)
    · replace hw := hw.1 c_25
      refine w_lload_n C 3 dX1_awaitedIn_33 rfl ?_
      refine w_lload C 0 dX1_awaitedIn_34 rfl ?_
      refine w_lsub C dX1_awaitedIn_36 ?_
      refine w_lload C 4 dX1_awaitedIn_37 rfl ?_
      obtain ⟨hz_39, hw⟩ := hw
      refine w_ldiv C hz_39 dX1_awaitedIn_39 ?_
      refine w_lconst C (v := (1 : Int64)) dX1_awaitedIn_40 (by decide) ?_
      refine w_ladd C dX1_awaitedIn_41 ?_
      exact w_lret C () hw rfl (Nat.le_of_ble_eq_true rfl) (Nat.le_of_ble_eq_true rfl) dX1_awaitedIn_42
    · replace hw := hw.2 c_25
      refine w_lconst C (v := (1 : Int64)) dX1_awaitedIn_29 (by decide) ?_
      refine w_goto C 42 (by decide) dX1_awaitedIn_30 ?_
      exact w_lret C () hw rfl (Nat.le_of_ble_eq_true rfl) (Nat.le_of_ble_eq_true rfl) dX1_awaitedIn_42
def blk_X1_pour_104 (t_sort : Int32) (t_digits : Int32) (t_highest : Int64) (K36 : Int64 → Int32 → (Nat → Int64) → (Nat → Int32) → Prop) (Q : Int32 → (Nat → Int64) → (Nat → Int32) → Prop) (x3 : Int64) (x5 : Int64) (x7 : Int32) (x8 : Int64) (x10 : Int32) (x12 : Int64) (t_units : Nat → Int64) (t_kinds : Nat → Int32) : Prop := ∀ x8_112 : Int64, x8_112 = (x8 - (x12 * x5)) → ((x5 = (0 : Int64) → (Q (1 : Int32) t_units t_kinds)) ∧ (¬ x5 = (0 : Int64) → (((x5 ≤ x8_112 → (∀ x10_131 : Int32, x10_131 = x10 + (1 : Int32) → K36 x8_112 x10_131 t_units t_kinds)) ∧ (¬ x5 ≤ x8_112 → (Q (1 : Int32) t_units t_kinds))))))
def bod_X1_pour_36 (t_sort : Int32) (t_digits : Int32) (t_highest : Int64)  (Q : Int32 → (Nat → Int64) → (Nat → Int32) → Prop) (x3 : Int64) (x5 : Int64) (x7 : Int32)  (K36 : Int64 → Int32 → (Nat → Int64) → (Nat → Int32) → Prop) (x8 : Int64) (x10 : Int32) (t_units : Nat → Int64) (t_kinds : Nat → Int32) : Prop := (((1000 : Int32) < x10 → (Q (1 : Int32) t_units t_kinds)) ∧ (¬ (1000 : Int32) < x10 → (wp_X7_slotOf t_digits x8  (fun (r_50 : Int32) => ∀ x11_53 : Int32, x11_53 = r_50 → wp_X1_awaitedIn x11_53 x8 x5 t_digits (fun (r_62 : Int64) => ∀ x12_65 : Int64, x12_65 = r_62 → wp_X1_unitsOf x11_53 t_units (fun (r_70 : Int64) => ∀ x14_78 : Int64, x14_78 = (r_70 + (x12_65 * x3)) → ((x14_78 ≤ (1000000000000000 : Int64) → (((x7 = 0 → ((blk_X1_pour_104 t_sort t_digits t_highest K36 Q x3 x5 x7 x8 x10 x12_65 t_units t_kinds))) ∧ (¬ x7 = 0 → (wp_X1_rewrite x11_53 x14_78 t_sort t_units t_kinds (fun (t_units_101 : Nat → Int64) (t_kinds_101 : Nat → Int32) => (blk_X1_pour_104 t_sort t_digits t_highest K36 Q x3 x5 x7 x8 x10 x12_65 t_units_101 t_kinds_101))))))) ∧ (¬ x14_78 ≤ (1000000000000000 : Int64) → (Q (0 : Int32) t_units t_kinds)))))))))
def lp_X1_pour_36 (t_sort : Int32) (t_digits : Int32) (t_highest : Int64)  (Q : Int32 → (Nat → Int64) → (Nat → Int32) → Prop) (x3 : Int64) (x5 : Int64) (x7 : Int32)  : Nat → Int64 → Int32 → (Nat → Int64) → (Nat → Int32) → Prop
  | 0, _, _, _, _ => False
  | j + 1, x8, x10, t_units, t_kinds => bod_X1_pour_36 t_sort t_digits t_highest  Q x3 x5 x7 (fun v0 v1 v2 v3 => lp_X1_pour_36 t_sort t_digits t_highest  Q x3 x5 x7 j v0 v1 v2 v3) x8 x10 t_units t_kinds
def blk_X1_pour_30 (t_sort : Int32) (t_digits : Int32) (t_highest : Int64)  (Q : Int32 → (Nat → Int64) → (Nat → Int32) → Prop) (x1 : Int64) (x3 : Int64) (x5 : Int64) (x7 : Int32) (t_units : Nat → Int64) (t_kinds : Nat → Int32) : Prop := ∀ x8_31 : Int64, x8_31 = x1 → ∀ x10_34 : Int32, x10_34 = (0 : Int32) → (∃ j : Nat, lp_X1_pour_36 t_sort t_digits t_highest  Q x3 x5 x7 j x8_31 x10_34 t_units t_kinds)
def wp_X1_pour (p0 : Int64) (p1 : Int64) (p2 : Int64) (p3 : Int32) (t_sort : Int32) (t_digits : Int32) (t_highest : Int64) (t_units : Nat → Int64) (t_kinds : Nat → Int32) (Q : Int32 → (Nat → Int64) → (Nat → Int32) → Prop) : Prop := wp_X1_reaches p0 t_highest (fun (r_2 : Int32) => ((r_2 = 0 → (Q (0 : Int32) t_units t_kinds)) ∧ (¬ r_2 = 0 → (((p2 ≤ (0 : Int64) → ((blk_X1_pour_30 t_sort t_digits t_highest  Q p0 p1 p2 p3 t_units t_kinds))) ∧ (¬ p2 ≤ (0 : Int64) → ((¬ p2 = 0) ∧ ((((p0 / p2) - (1 : Int64)) ≤ (1000 : Int64) → ((blk_X1_pour_30 t_sort t_digits t_highest  Q p0 p1 p2 p3 t_units t_kinds))) ∧ (¬ ((p0 / p2) - (1 : Int64)) ≤ (1000 : Int64) → (Q (0 : Int32) t_units t_kinds))))))))))
set_option maxHeartbeats 4000000 in
set_option maxRecDepth 100000 in
theorem wk_X1_pour_104 {p : Program} {l : Launch} {e : Env} {s : State} {m : MethodId} {args : Array Value} {below : List Frame} {meth : Method} {c : Code} {D : va_G} {cB cI cJ cL cS : ClassId} {T : Nat × Nat × Nat × Nat} {A : Nat → Prop} {a : Nat → Nat} {t_made : Int32} {t_sort : Int32} {t_digits : Int32} {t_slots : Int32} {t_pages : Int32} {t_highest : Int64} {t_rows : Nat → Int32} {t_marks : Nat → Int32} {Q : Int32 → (Nat → Int64) → (Nat → Int32) → Prop} (C : Cq p s m args meth c D (Z5 cB cI cJ cL cS) T A cX1_pour RX1 16 (Option.some Jvm.ClassFile.FieldType.boolean)) {x3 : Int64} {x5 : Int64} {x7 : Int32} {x8 : Int64} {x10 : Int32} {x12 : Int64} {t_units : Nat → Int64} {t_kinds : Nat → Int32} {K36 : Int64 → Int32 → (Nat → Int64) → (Nat → Int32) → Prop} (hK36 : ∀ (y8 : Int64) (y10 : Int32) (z_t_units : Nat → Int64) (z_t_kinds : Nat → Int32), K36 y8 y10 z_t_units z_t_kinds → ww p l e ({ frames := 4, cells := 0, slots := 0, locals := 106 } : Room) s m args below meth c D A 16 (MQ below (va_Qi (fun (r : Int32) (u : (Nat → Int64) × (Nat → Int32)) => Q r u.1 u.2) (OutP D (fun (u : (Nat → Int64) × (Nat → Int32)) => (wL cB cI cJ a t_made t_sort t_digits t_slots t_pages t_highest u.1 u.2 t_rows t_marks))) A) args s 0 0 A) 0 0 (wL cB cI cJ a t_made t_sort t_digits t_slots t_pages t_highest z_t_units z_t_kinds t_rows t_marks) 36 [(0, .ref (a 0)), (3, .long x3), (5, .long x5), (7, .int x7), (8, .long y8), (10, .int y10)] []) (hw : blk_X1_pour_104 t_sort t_digits t_highest K36 Q x3 x5 x7 x8 x10 x12 t_units t_kinds) : ww p l e ({ frames := 4, cells := 0, slots := 0, locals := 106 } : Room) s m args below meth c D A 16 (MQ below (va_Qi (fun (r : Int32) (u : (Nat → Int64) × (Nat → Int32)) => Q r u.1 u.2) (OutP D (fun (u : (Nat → Int64) × (Nat → Int32)) => (wL cB cI cJ a t_made t_sort t_digits t_slots t_pages t_highest u.1 u.2 t_rows t_marks))) A) args s 0 0 A) 0 0 (wL cB cI cJ a t_made t_sort t_digits t_slots t_pages t_highest t_units t_kinds t_rows t_marks) 104 [(0, .ref (a 0)), (3, .long x3), (5, .long x5), (7, .int x7), (8, .long x8), (10, .int x10), (12, .long x12)] [] := by
  unfold blk_X1_pour_104 at hw
  refine w_lload C 4 dX1_pour_104 rfl ?_
  refine w_lload C 6 dX1_pour_106 rfl ?_
  refine w_lload C 2 dX1_pour_108 rfl ?_
  refine w_lmul C dX1_pour_110 ?_
  refine w_lsub C dX1_pour_111 ?_
  refine w_lstore C (fun x8_112 => [(8, .long x8_112), (0, .ref (a 0)), (3, .long x3), (5, .long x5), (7, .int x7), (10, .int x10), (12, .long x12)]) dX1_pour_112 (by decide) (fun _ => rfl) (fun x8_112 e_x8_112 => ?_)
  replace hw := hw x8_112 e_x8_112
  refine w_lload C 3 dX1_pour_114 rfl ?_
  refine w_lconst C (v := (0 : Int64)) dX1_pour_116 (by decide) ?_
  refine w_lcmp_eq C 118 129 rfl (by decide) dX1_pour_117 dX1_pour_118 (fun c_117 => ?_) (fun c_117 => ?_)
  · replace hw := hw.1 c_117
    refine w_iconst C (v := (1 : Int32)) dX1_pour_129 (by decide) ?_
    exact w_zret C (t_units, t_kinds) (Or.inr rfl) hw rfl (Nat.le_of_ble_eq_true rfl) (Nat.le_of_ble_eq_true rfl) dX1_pour_130
  · replace hw := hw.2 c_117
    refine w_lload C 0 dX1_pour_121 rfl ?_
    refine w_lload C 3 dX1_pour_123 rfl ?_
    refine w_lcmp_ge C 126 131 rfl (by decide) dX1_pour_125 dX1_pour_126 (fun c_125 => ?_) (fun c_125 => ?_)
    · replace hw := hw.1 c_125
      refine w_iinc C (v := x10 + (1 : Int32)) 5 (fun x10_131 => [(10, .int x10_131), (8, .long x8_112), (0, .ref (a 0)), (3, .long x3), (5, .long x5), (7, .int x7), (12, .long x12)]) dX1_pour_131 rfl rfl (by decide) (fun _ => rfl) (fun x10_131 e_x10_131 => ?_)
      replace hw := hw x10_131 e_x10_131
      refine w_goto C 36 (by decide) dX1_pour_134 ?_
      refine w_sub (lv' := [(0, .ref (a 0)), (3, .long x3), (5, .long x5), (7, .int x7), (8, .long x8_112), (10, .int x10_131)]) C [2, 3, 4, 5, 1, 0] rfl ?_
      exact hK36 _ _ _ _ hw
    · replace hw := hw.2 c_125
      refine w_iconst C (v := (1 : Int32)) dX1_pour_129 (by decide) ?_
      exact w_zret C (t_units, t_kinds) (Or.inr rfl) hw rfl (Nat.le_of_ble_eq_true rfl) (Nat.le_of_ble_eq_true rfl) dX1_pour_130
set_option maxHeartbeats 4000000 in
set_option maxRecDepth 100000 in
theorem wl_X1_pour_36 {p : Program} {l : Launch} {e : Env} {s : State} {m : MethodId} {args : Array Value} {below : List Frame} {meth : Method} {c : Code} {D : va_G} {cB cI cJ cL cS : ClassId} {T : Nat × Nat × Nat × Nat} {A : Nat → Prop} {a : Nat → Nat} {t_made : Int32} {t_sort : Int32} {t_digits : Int32} {t_slots : Int32} {t_pages : Int32} {t_highest : Int64} {t_rows : Nat → Int32} {t_marks : Nat → Int32} {Q : Int32 → (Nat → Int64) → (Nat → Int32) → Prop} (C : Cq p s m args meth c D (Z5 cB cI cJ cL cS) T A cX1_pour RX1 16 (Option.some Jvm.ClassFile.FieldType.boolean)) {x3 : Int64} {x5 : Int64} {x7 : Int32}   : ∀ (j : Nat) (x8 : Int64) (x10 : Int32) (t_units : Nat → Int64) (t_kinds : Nat → Int32), lp_X1_pour_36 t_sort t_digits t_highest  Q x3 x5 x7 j x8 x10 t_units t_kinds → ww p l e ({ frames := 4, cells := 0, slots := 0, locals := 106 } : Room) s m args below meth c D A 16 (MQ below (va_Qi (fun (r : Int32) (u : (Nat → Int64) × (Nat → Int32)) => Q r u.1 u.2) (OutP D (fun (u : (Nat → Int64) × (Nat → Int32)) => (wL cB cI cJ a t_made t_sort t_digits t_slots t_pages t_highest u.1 u.2 t_rows t_marks))) A) args s 0 0 A) 0 0 (wL cB cI cJ a t_made t_sort t_digits t_slots t_pages t_highest t_units t_kinds t_rows t_marks) 36 [(0, .ref (a 0)), (3, .long x3), (5, .long x5), (7, .int x7), (8, .long x8), (10, .int x10)] [] := by
  intro j
  induction j with
  | zero => intro _ _ _ _ hw; exact hw.elim
  | succ j hK36 =>
    intro x8 x10 t_units t_kinds hw
    have hw : bod_X1_pour_36 t_sort t_digits t_highest  Q x3 x5 x7 (fun v0 v1 v2 v3 => lp_X1_pour_36 t_sort t_digits t_highest  Q x3 x5 x7 j v0 v1 v2 v3) x8 x10 t_units t_kinds := hw
    unfold bod_X1_pour_36 at hw
    refine w_iload C 5 dX1_pour_36 rfl ?_
    refine w_sipush C (v := (1000 : Int32)) dX1_pour_38 (by decide) ?_
    refine w_icmp_gt C 137 (by decide) dX1_pour_41 (fun c_41 => ?_) (fun c_41 => ?_)
    · replace hw := hw.1 c_41
      refine w_iconst C (v := (1 : Int32)) dX1_pour_137 (by decide) ?_
      exact w_zret C (t_units, t_kinds) (Or.inr rfl) hw rfl (Nat.le_of_ble_eq_true rfl) (Nat.le_of_ble_eq_true rfl) dX1_pour_138
    · replace hw := hw.2 c_41
      refine w_aload_n C 0 dX1_pour_44 rfl ?_
      refine w_get C (T1 := TX1) 0 2 u_X1 k_150 rfl (by decide) rfl rfl dX1_pour_45 ?_
      refine w_lload C 4 dX1_pour_48 rfl ?_
      refine w_callSIN C (c_X7_slotOf hw) f_X7_slotOf n_425 rfl ⟨Nat.le_of_ble_eq_true rfl, Nat.le_of_ble_eq_true rfl⟩ rfl rfl ⟨Nat.le_of_ble_eq_true rfl, Nat.le_of_ble_eq_true rfl⟩ rfl (Nat.le_of_ble_eq_true rfl) dX1_pour_50 (fun r_50 u_50 hw => ?_)
      try dsimp only at hw
      refine w_istore C (fun x11_53 => [(11, .int x11_53), (0, .ref (a 0)), (3, .long x3), (5, .long x5), (7, .int x7), (8, .long x8), (10, .int x10)]) dX1_pour_53 (by decide) (fun _ => rfl) (fun x11_53 e_x11_53 => ?_)
      replace hw := hw x11_53 e_x11_53
      refine w_aload_n C 1 dX1_pour_55 rfl ?_
      refine w_iload C 0 dX1_pour_56 rfl ?_
      refine w_lload C 5 dX1_pour_58 rfl ?_
      refine w_lload C 3 dX1_pour_60 rfl ?_
      refine w_callVL C (c_X1_awaitedIn hw) f_X1_awaitedIn k_16 k_517 rfl ⟨Nat.le_of_ble_eq_true rfl, Nat.le_of_ble_eq_true rfl⟩ rfl rfl ⟨Nat.le_of_ble_eq_true rfl, Nat.le_of_ble_eq_true rfl⟩ 0 rfl (rr := (RX1, TX1, 10)) rfl rfl (fun _ => rfl) rfl (Nat.le_of_ble_eq_true rfl) dX1_pour_62 (fun r_62 u_62 hw => ?_)
      try dsimp only at hw
      refine w_lstore C (fun x12_65 => [(12, .long x12_65), (11, .int x11_53), (0, .ref (a 0)), (3, .long x3), (5, .long x5), (7, .int x7), (8, .long x8), (10, .int x10)]) dX1_pour_65 (by decide) (fun _ => rfl) (fun x12_65 e_x12_65 => ?_)
      replace hw := hw x12_65 e_x12_65
      refine w_aload_n C 2 dX1_pour_67 rfl ?_
      refine w_iload C 1 dX1_pour_68 rfl ?_
      refine w_callVL C (c_X1_unitsOf hw) f_X1_unitsOf k_290 k_288 rfl ⟨Nat.le_of_ble_eq_true rfl, Nat.le_of_ble_eq_true rfl⟩ rfl rfl ⟨Nat.le_of_ble_eq_true rfl, Nat.le_of_ble_eq_true rfl⟩ 0 rfl (rr := (RX1, TX1, 10)) rfl rfl (fun _ => rfl) rfl (Nat.le_of_ble_eq_true rfl) dX1_pour_70 (fun r_70 u_70 hw => ?_)
      try dsimp only at hw
      refine w_lload C 0 dX1_pour_73 rfl ?_
      refine w_lload_n C 3 dX1_pour_75 rfl ?_
      refine w_lmul C dX1_pour_76 ?_
      refine w_ladd C dX1_pour_77 ?_
      refine w_lstore C (fun x14_78 => [(14, .long x14_78), (12, .long x12_65), (11, .int x11_53), (0, .ref (a 0)), (3, .long x3), (5, .long x5), (7, .int x7), (8, .long x8), (10, .int x10)]) dX1_pour_78 (by decide) (fun _ => rfl) (fun x14_78 e_x14_78 => ?_)
      replace hw := hw x14_78 e_x14_78
      refine w_lload C 0 dX1_pour_80 rfl ?_
      refine w_ldc2 C (v := (1000000000000000 : Int64)) dX1_pour_82 k_522 ?_
      refine w_lcmp_le C 86 91 rfl (by decide) dX1_pour_85 dX1_pour_86 (fun c_85 => ?_) (fun c_85 => ?_)
      · replace hw := hw.1 c_85
        refine w_iload C 6 dX1_pour_91 rfl ?_
        refine w_if_eq C 104 (by decide) dX1_pour_93 (fun c_93 => ?_) (fun c_93 => ?_)
        · replace hw := hw.1 c_93
          refine w_sub (lv' := [(0, .ref (a 0)), (3, .long x3), (5, .long x5), (7, .int x7), (8, .long x8), (10, .int x10), (12, .long x12_65)]) C [3, 4, 5, 6, 7, 8, 1] rfl ?_
          exact wk_X1_pour_104 C hK36 hw
        · replace hw := hw.2 c_93
          refine w_aload_n C 3 dX1_pour_96 rfl ?_
          refine w_iload C 2 dX1_pour_97 rfl ?_
          refine w_lload C 0 dX1_pour_99 rfl ?_
          refine w_callVV C (c_X1_rewrite hw) f_X1_rewrite k_436 k_523 rfl ⟨Nat.le_of_ble_eq_true rfl, Nat.le_of_ble_eq_true rfl⟩ rfl rfl ⟨Nat.le_of_ble_eq_true rfl, Nat.le_of_ble_eq_true rfl⟩ 0 rfl (rr := (RX1, TX1, 10)) rfl rfl (fun _ => rfl) rfl (Nat.le_of_ble_eq_true rfl) dX1_pour_101 (fun u_101 hw => ?_)
          obtain ⟨t_units_101, t_kinds_101⟩ := u_101
          try dsimp only at hw
          refine w_sub (lv' := [(0, .ref (a 0)), (3, .long x3), (5, .long x5), (7, .int x7), (8, .long x8), (10, .int x10), (12, .long x12_65)]) C [3, 4, 5, 6, 7, 8, 1] rfl ?_
          exact wk_X1_pour_104 C hK36 hw
      · replace hw := hw.2 c_85
        refine w_iconst C (v := (0 : Int32)) dX1_pour_89 (by decide) ?_
        exact w_zret C (t_units, t_kinds) (Or.inl rfl) hw rfl (Nat.le_of_ble_eq_true rfl) (Nat.le_of_ble_eq_true rfl) dX1_pour_90
set_option maxHeartbeats 4000000 in
set_option maxRecDepth 100000 in
theorem wk_X1_pour_30 {p : Program} {l : Launch} {e : Env} {s : State} {m : MethodId} {args : Array Value} {below : List Frame} {meth : Method} {c : Code} {D : va_G} {cB cI cJ cL cS : ClassId} {T : Nat × Nat × Nat × Nat} {A : Nat → Prop} {a : Nat → Nat} {t_made : Int32} {t_sort : Int32} {t_digits : Int32} {t_slots : Int32} {t_pages : Int32} {t_highest : Int64} {t_rows : Nat → Int32} {t_marks : Nat → Int32} {Q : Int32 → (Nat → Int64) → (Nat → Int32) → Prop} (C : Cq p s m args meth c D (Z5 cB cI cJ cL cS) T A cX1_pour RX1 16 (Option.some Jvm.ClassFile.FieldType.boolean)) {x1 : Int64} {x3 : Int64} {x5 : Int64} {x7 : Int32} {t_units : Nat → Int64} {t_kinds : Nat → Int32}  (hw : blk_X1_pour_30 t_sort t_digits t_highest  Q x1 x3 x5 x7 t_units t_kinds) : ww p l e ({ frames := 4, cells := 0, slots := 0, locals := 106 } : Room) s m args below meth c D A 16 (MQ below (va_Qi (fun (r : Int32) (u : (Nat → Int64) × (Nat → Int32)) => Q r u.1 u.2) (OutP D (fun (u : (Nat → Int64) × (Nat → Int32)) => (wL cB cI cJ a t_made t_sort t_digits t_slots t_pages t_highest u.1 u.2 t_rows t_marks))) A) args s 0 0 A) 0 0 (wL cB cI cJ a t_made t_sort t_digits t_slots t_pages t_highest t_units t_kinds t_rows t_marks) 30 [(0, .ref (a 0)), (1, .long x1), (3, .long x3), (5, .long x5), (7, .int x7)] [] := by
  unfold blk_X1_pour_30 at hw
  refine w_lload_n C 1 dX1_pour_30 rfl ?_
  refine w_lstore C (fun x8_31 => [(8, .long x8_31), (0, .ref (a 0)), (1, .long x1), (3, .long x3), (5, .long x5), (7, .int x7)]) dX1_pour_31 (by decide) (fun _ => rfl) (fun x8_31 e_x8_31 => ?_)
  replace hw := hw x8_31 e_x8_31
  refine w_iconst C (v := (0 : Int32)) dX1_pour_33 (by decide) ?_
  refine w_istore C (fun x10_34 => [(10, .int x10_34), (8, .long x8_31), (0, .ref (a 0)), (1, .long x1), (3, .long x3), (5, .long x5), (7, .int x7)]) dX1_pour_34 (by decide) (fun _ => rfl) (fun x10_34 e_x10_34 => ?_)
  replace hw := hw x10_34 e_x10_34
  refine w_sub (lv' := [(0, .ref (a 0)), (3, .long x3), (5, .long x5), (7, .int x7), (8, .long x8_31), (10, .int x10_34)]) C [2, 4, 5, 6, 1, 0] rfl ?_
  obtain ⟨j, hw⟩ := hw
  exact wl_X1_pour_36 C  j _ _ _ _ hw
set_option maxHeartbeats 4000000 in
set_option maxRecDepth 100000 in
theorem c_X1_pour {l : Launch} {D : va_G} {cB cI cJ cL cS : ClassId} {T : Nat × Nat × Nat × Nat} {a : Nat → Nat} {p0 : Int64} {p1 : Int64} {p2 : Int64} {p3 : Int32} {t_made : Int32} {t_sort : Int32} {t_digits : Int32} {t_slots : Int32} {t_pages : Int32} {t_highest : Int64} {t_units : Nat → Int64} {t_kinds : Nat → Int32} {t_rows : Nat → Int32} {t_marks : Nat → Int32} {Q : Int32 → (Nat → Int64) → (Nat → Int32) → Prop} (hw : wp_X1_pour p0 p1 p2 p3 t_sort t_digits t_highest t_units t_kinds Q) : CtI l D (Z5 cB cI cJ cL cS) T yX1_pour cX1_pour 16 ({ frames := 4, cells := 0, slots := 0, locals := 106 } : Room) (Option.some Jvm.ClassFile.FieldType.boolean) [.ref (a 0), .long p0, .long p1, .long p2, .int p3] (wL cB cI cJ a t_made t_sort t_digits t_slots t_pages t_highest t_units t_kinds t_rows t_marks) (fun (u : (Nat → Int64) × (Nat → Int32)) => (wL cB cI cJ a t_made t_sort t_digits t_slots t_pages t_highest u.1 u.2 t_rows t_marks)) (fun (r : Int32) (u : (Nat → Int64) × (Nat → Int32)) => Q r u.1 u.2) 0 0 := by
  refine ctI_of (own := RX1) (by decide +kernel) rfl (Nat.le_of_ble_eq_true rfl) (fun p e s m below meth c A C => ?_)
  refine w_sub (lv' := [(0, .ref (a 0)), (1, .long p0), (3, .long p1), (5, .long p2), (7, .int p3)]) C [0, 1, 2, 3, 4] rfl ?_
  unfold wp_X1_pour at hw
  refine w_aload_n C 0 dX1_pour_0 rfl ?_
  refine w_lload_n C 1 dX1_pour_1 rfl ?_
  refine w_callVI C (c_X1_reaches hw) f_X1_reaches k_514 k_512 rfl ⟨Nat.le_of_ble_eq_true rfl, Nat.le_of_ble_eq_true rfl⟩ rfl rfl ⟨Nat.le_of_ble_eq_true rfl, Nat.le_of_ble_eq_true rfl⟩ 0 rfl (rr := (RX1, TX1, 10)) rfl rfl (fun _ => rfl) rfl (Nat.le_of_ble_eq_true rfl) dX1_pour_2 (fun r_2 u_2 hw => ?_)
  try dsimp only at hw
  refine w_if_eq C 28 (by decide) dX1_pour_5 (fun c_5 => ?_) (fun c_5 => ?_)
  · replace hw := hw.1 c_5
    refine w_iconst C (v := (0 : Int32)) dX1_pour_28 (by decide) ?_
    exact w_zret C (t_units, t_kinds) (Or.inl rfl) hw rfl (Nat.le_of_ble_eq_true rfl) (Nat.le_of_ble_eq_true rfl) dX1_pour_29
  · replace hw := hw.2 c_5
    refine w_lload C 3 dX1_pour_8 rfl ?_
    refine w_lconst C (v := (0 : Int64)) dX1_pour_10 (by decide) ?_
    refine w_lcmp_le C 12 30 rfl (by decide) dX1_pour_11 dX1_pour_12 (fun c_11 => ?_) (fun c_11 => ?_)
    · replace hw := hw.1 c_11
      refine w_sub (lv' := [(0, .ref (a 0)), (1, .long p0), (3, .long p1), (5, .long p2), (7, .int p3)]) C [0, 1, 2, 3, 4] rfl ?_
      exact wk_X1_pour_30 C  hw
    · replace hw := hw.2 c_11
      refine w_lload_n C 1 dX1_pour_15 rfl ?_
      refine w_lload C 3 dX1_pour_16 rfl ?_
      obtain ⟨hz_18, hw⟩ := hw
      refine w_ldiv C hz_18 dX1_pour_18 ?_
      refine w_lconst C (v := (1 : Int64)) dX1_pour_19 (by decide) ?_
      refine w_lsub C dX1_pour_20 ?_
      refine w_ldc2 C (v := (1000 : Int64)) dX1_pour_21 k_516 ?_
      refine w_lcmp_le C 25 30 rfl (by decide) dX1_pour_24 dX1_pour_25 (fun c_24 => ?_) (fun c_24 => ?_)
      · replace hw := hw.1 c_24
        refine w_sub (lv' := [(0, .ref (a 0)), (1, .long p0), (3, .long p1), (5, .long p2), (7, .int p3)]) C [0, 1, 2, 3, 4] rfl ?_
        exact wk_X1_pour_30 C  hw
      · replace hw := hw.2 c_24
        refine w_iconst C (v := (0 : Int32)) dX1_pour_28 (by decide) ?_
        exact w_zret C (t_units, t_kinds) (Or.inl rfl) hw rfl (Nat.le_of_ble_eq_true rfl) (Nat.le_of_ble_eq_true rfl) dX1_pour_29
def bod_X1_unitsAhead_33 (t_slots : Int32) (t_pages : Int32) (t_units : Nat → Int64) (t_kinds : Nat → Int32) (K5 : Int64 → Int32 → Prop) (Q : Int64 → Prop) (x1 : Int32) (x4 : Int32) (x5 : Int32)  (K33 : Int64 → Int32 → Prop) (x2 : Int64) (x6 : Int32) : Prop := ((x5 ≤ x6 → (∀ x4_55 : Int32, x4_55 = x4 + (1 : Int32) → K5 x2 x4_55)) ∧ (¬ x5 ≤ x6 → (wp_X1_unitsOf x6 t_units (fun (r_44 : Int64) => ∀ x2_48 : Int64, x2_48 = (x2 + r_44) → ∀ x6_49 : Int32, x6_49 = x6 + (1 : Int32) → K33 x2_48 x6_49))))
def lp_X1_unitsAhead_33 (t_slots : Int32) (t_pages : Int32) (t_units : Nat → Int64) (t_kinds : Nat → Int32) (K5 : Int64 → Int32 → Prop) (Q : Int64 → Prop) (x1 : Int32) (x4 : Int32) (x5 : Int32)  : Nat → Int64 → Int32 → Prop
  | 0, _, _ => False
  | j + 1, x2, x6 => bod_X1_unitsAhead_33 t_slots t_pages t_units t_kinds K5 Q x1 x4 x5 (fun v0 v1 => lp_X1_unitsAhead_33 t_slots t_pages t_units t_kinds K5 Q x1 x4 x5 j v0 v1) x2 x6
def bod_X1_unitsAhead_5 (t_slots : Int32) (t_pages : Int32) (t_units : Nat → Int64) (t_kinds : Nat → Int32)  (Q : Int64 → Prop) (x1 : Int32)  (K5 : Int64 → Int32 → Prop) (x2 : Int64) (x4 : Int32) : Prop := ((t_pages ≤ x4 → (Q x2)) ∧ (¬ t_pages ≤ x4 → (wp_X1_endOf x4 t_slots t_kinds (fun (r_18 : Int32) => ∀ x5_24 : Int32, x5_24 = (if r_18 < x1 then r_18 else x1) → ∀ x6_31 : Int32, x6_31 = ((16 : Int32) * x4) → (∃ j : Nat, lp_X1_unitsAhead_33 t_slots t_pages t_units t_kinds K5 Q x1 x4 x5_24 j x2 x6_31)))))
def lp_X1_unitsAhead_5 (t_slots : Int32) (t_pages : Int32) (t_units : Nat → Int64) (t_kinds : Nat → Int32)  (Q : Int64 → Prop) (x1 : Int32)  : Nat → Int64 → Int32 → Prop
  | 0, _, _ => False
  | j + 1, x2, x4 => bod_X1_unitsAhead_5 t_slots t_pages t_units t_kinds  Q x1 (fun v0 v1 => lp_X1_unitsAhead_5 t_slots t_pages t_units t_kinds  Q x1 j v0 v1) x2 x4
def wp_X1_unitsAhead (p0 : Int32) (t_slots : Int32) (t_pages : Int32) (t_units : Nat → Int64) (t_kinds : Nat → Int32) (Q : Int64 → Prop) : Prop := ∀ x2_1 : Int64, x2_1 = (0 : Int64) → ∀ x4_3 : Int32, x4_3 = (0 : Int32) → (∃ j : Nat, lp_X1_unitsAhead_5 t_slots t_pages t_units t_kinds  Q p0 j x2_1 x4_3)
set_option maxHeartbeats 4000000 in
set_option maxRecDepth 100000 in
theorem wl_X1_unitsAhead_33 {p : Program} {l : Launch} {e : Env} {s : State} {m : MethodId} {args : Array Value} {below : List Frame} {meth : Method} {c : Code} {D : va_G} {cB cI cJ cL cS : ClassId} {T : Nat × Nat × Nat × Nat} {A : Nat → Prop} {a : Nat → Nat} {t_made : Int32} {t_sort : Int32} {t_digits : Int32} {t_slots : Int32} {t_pages : Int32} {t_highest : Int64} {t_units : Nat → Int64} {t_kinds : Nat → Int32} {t_rows : Nat → Int32} {t_marks : Nat → Int32} {Q : Int64 → Prop} (C : Cq p s m args meth c D (Z5 cB cI cJ cL cS) T A cX1_unitsAhead RX1 7 (Option.some Jvm.ClassFile.FieldType.long)) {x1 : Int32} {x4 : Int32} {x5 : Int32}  {K5 : Int64 → Int32 → Prop} (hK5 : ∀ (y2 : Int64) (y4 : Int32), K5 y2 y4 → ww p l e ({ frames := 2, cells := 0, slots := 0, locals := 53 } : Room) s m args below meth c D A 7 (MQ below (va_Ql (fun (r : Int64) (u : Unit) => Q r ) (OutP D (fun (u : Unit) => (wL cB cI cJ a t_made t_sort t_digits t_slots t_pages t_highest t_units t_kinds t_rows t_marks))) A) args s 0 0 A) 0 0 (wL cB cI cJ a t_made t_sort t_digits t_slots t_pages t_highest t_units t_kinds t_rows t_marks) 5 [(0, .ref (a 0)), (1, .int x1), (2, .long y2), (4, .int y4)] []) : ∀ (j : Nat) (x2 : Int64) (x6 : Int32), lp_X1_unitsAhead_33 t_slots t_pages t_units t_kinds K5 Q x1 x4 x5 j x2 x6 → ww p l e ({ frames := 2, cells := 0, slots := 0, locals := 53 } : Room) s m args below meth c D A 7 (MQ below (va_Ql (fun (r : Int64) (u : Unit) => Q r ) (OutP D (fun (u : Unit) => (wL cB cI cJ a t_made t_sort t_digits t_slots t_pages t_highest t_units t_kinds t_rows t_marks))) A) args s 0 0 A) 0 0 (wL cB cI cJ a t_made t_sort t_digits t_slots t_pages t_highest t_units t_kinds t_rows t_marks) 33 [(0, .ref (a 0)), (1, .int x1), (2, .long x2), (4, .int x4), (5, .int x5), (6, .int x6)] [] := by
  intro j
  induction j with
  | zero => intro _ _ hw; exact hw.elim
  | succ j hK33 =>
    intro x2 x6 hw
    have hw : bod_X1_unitsAhead_33 t_slots t_pages t_units t_kinds K5 Q x1 x4 x5 (fun v0 v1 => lp_X1_unitsAhead_33 t_slots t_pages t_units t_kinds K5 Q x1 x4 x5 j v0 v1) x2 x6 := hw
    unfold bod_X1_unitsAhead_33 at hw
    refine w_iload C 5 dX1_unitsAhead_33 rfl ?_
    refine w_iload C 4 dX1_unitsAhead_35 rfl ?_
    refine w_icmp_ge C 55 (by decide) dX1_unitsAhead_37 (fun c_37 => ?_) (fun c_37 => ?_)
    · replace hw := hw.1 c_37
      refine w_iinc C (v := x4 + (1 : Int32)) 3 (fun x4_55 => [(4, .int x4_55), (0, .ref (a 0)), (1, .int x1), (2, .long x2), (5, .int x5), (6, .int x6)]) dX1_unitsAhead_55 rfl rfl (by decide) (fun _ => rfl) (fun x4_55 e_x4_55 => ?_)
      replace hw := hw x4_55 e_x4_55
      refine w_goto C 5 (by decide) dX1_unitsAhead_58 ?_
      refine w_sub (lv' := [(0, .ref (a 0)), (1, .int x1), (2, .long x2), (4, .int x4_55)]) C [1, 2, 3, 0] rfl ?_
      exact hK5 _ _ hw
    · replace hw := hw.2 c_37
      refine w_lload_n C 2 dX1_unitsAhead_40 rfl ?_
      refine w_aload_n C 0 dX1_unitsAhead_41 rfl ?_
      refine w_iload C 5 dX1_unitsAhead_42 rfl ?_
      refine w_callVL C (c_X1_unitsOf hw) f_X1_unitsOf k_290 k_288 rfl ⟨Nat.le_of_ble_eq_true rfl, Nat.le_of_ble_eq_true rfl⟩ rfl rfl ⟨Nat.le_of_ble_eq_true rfl, Nat.le_of_ble_eq_true rfl⟩ 0 rfl (rr := (RX1, TX1, 10)) rfl rfl (fun _ => rfl) rfl (Nat.le_of_ble_eq_true rfl) dX1_unitsAhead_44 (fun r_44 u_44 hw => ?_)
      try dsimp only at hw
      refine w_ladd C dX1_unitsAhead_47 ?_
      refine w_lstore_n C (fun x2_48 => [(2, .long x2_48), (0, .ref (a 0)), (1, .int x1), (4, .int x4), (5, .int x5), (6, .int x6)]) dX1_unitsAhead_48 (by decide) (fun _ => rfl) (fun x2_48 e_x2_48 => ?_)
      replace hw := hw x2_48 e_x2_48
      refine w_iinc C (v := x6 + (1 : Int32)) 5 (fun x6_49 => [(6, .int x6_49), (2, .long x2_48), (0, .ref (a 0)), (1, .int x1), (4, .int x4), (5, .int x5)]) dX1_unitsAhead_49 rfl rfl (by decide) (fun _ => rfl) (fun x6_49 e_x6_49 => ?_)
      replace hw := hw x6_49 e_x6_49
      refine w_goto C 33 (by decide) dX1_unitsAhead_52 ?_
      refine w_sub (lv' := [(0, .ref (a 0)), (1, .int x1), (2, .long x2_48), (4, .int x4), (5, .int x5), (6, .int x6_49)]) C [2, 3, 1, 4, 5, 0] rfl ?_
      exact hK33 _ _ hw
set_option maxHeartbeats 4000000 in
set_option maxRecDepth 100000 in
theorem wl_X1_unitsAhead_5 {p : Program} {l : Launch} {e : Env} {s : State} {m : MethodId} {args : Array Value} {below : List Frame} {meth : Method} {c : Code} {D : va_G} {cB cI cJ cL cS : ClassId} {T : Nat × Nat × Nat × Nat} {A : Nat → Prop} {a : Nat → Nat} {t_made : Int32} {t_sort : Int32} {t_digits : Int32} {t_slots : Int32} {t_pages : Int32} {t_highest : Int64} {t_units : Nat → Int64} {t_kinds : Nat → Int32} {t_rows : Nat → Int32} {t_marks : Nat → Int32} {Q : Int64 → Prop} (C : Cq p s m args meth c D (Z5 cB cI cJ cL cS) T A cX1_unitsAhead RX1 7 (Option.some Jvm.ClassFile.FieldType.long)) {x1 : Int32}   : ∀ (j : Nat) (x2 : Int64) (x4 : Int32), lp_X1_unitsAhead_5 t_slots t_pages t_units t_kinds  Q x1 j x2 x4 → ww p l e ({ frames := 2, cells := 0, slots := 0, locals := 53 } : Room) s m args below meth c D A 7 (MQ below (va_Ql (fun (r : Int64) (u : Unit) => Q r ) (OutP D (fun (u : Unit) => (wL cB cI cJ a t_made t_sort t_digits t_slots t_pages t_highest t_units t_kinds t_rows t_marks))) A) args s 0 0 A) 0 0 (wL cB cI cJ a t_made t_sort t_digits t_slots t_pages t_highest t_units t_kinds t_rows t_marks) 5 [(0, .ref (a 0)), (1, .int x1), (2, .long x2), (4, .int x4)] [] := by
  intro j
  induction j with
  | zero => intro _ _ hw; exact hw.elim
  | succ j hK5 =>
    intro x2 x4 hw
    have hw : bod_X1_unitsAhead_5 t_slots t_pages t_units t_kinds  Q x1 (fun v0 v1 => lp_X1_unitsAhead_5 t_slots t_pages t_units t_kinds  Q x1 j v0 v1) x2 x4 := hw
    unfold bod_X1_unitsAhead_5 at hw
    refine w_iload C 3 dX1_unitsAhead_5 rfl ?_
    refine w_aload_n C 0 dX1_unitsAhead_7 rfl ?_
    refine w_get C (T1 := TX1) 0 4 u_X1 k_154 rfl (by decide) rfl rfl dX1_unitsAhead_8 ?_
    refine w_icmp_ge C 61 (by decide) dX1_unitsAhead_11 (fun c_11 => ?_) (fun c_11 => ?_)
    · replace hw := hw.1 c_11
      refine w_lload_n C 2 dX1_unitsAhead_61 rfl ?_
      exact w_lret C () hw rfl (Nat.le_of_ble_eq_true rfl) (Nat.le_of_ble_eq_true rfl) dX1_unitsAhead_62
    · replace hw := hw.2 c_11
      refine w_iload_n C 1 dX1_unitsAhead_14 rfl ?_
      refine w_aload_n C 0 dX1_unitsAhead_15 rfl ?_
      refine w_iload C 3 dX1_unitsAhead_16 rfl ?_
      refine w_callVI C (c_X1_endOf hw) f_X1_endOf k_2 k_277 rfl ⟨Nat.le_of_ble_eq_true rfl, Nat.le_of_ble_eq_true rfl⟩ rfl rfl ⟨Nat.le_of_ble_eq_true rfl, Nat.le_of_ble_eq_true rfl⟩ 0 rfl (rr := (RX1, TX1, 10)) rfl rfl (fun _ => rfl) rfl (Nat.le_of_ble_eq_true rfl) dX1_unitsAhead_18 (fun r_18 u_18 hw => ?_)
      try dsimp only at hw
      refine w_imin C k_285 f_imin.1 f_imin.2.1 f_imin.2.2 (Nat.le_of_ble_eq_true rfl) (Nat.le_of_ble_eq_true rfl) (Nat.le_of_ble_eq_true rfl) (Nat.le_of_ble_eq_true rfl) dX1_unitsAhead_21 ?_
      refine w_istore C (fun x5_24 => [(5, .int x5_24), (0, .ref (a 0)), (1, .int x1), (2, .long x2), (4, .int x4)]) dX1_unitsAhead_24 (by decide) (fun _ => rfl) (fun x5_24 e_x5_24 => ?_)
      replace hw := hw x5_24 e_x5_24
      refine w_bipush C (v := (16 : Int32)) dX1_unitsAhead_26 (by decide) ?_
      refine w_iload C 4 dX1_unitsAhead_28 rfl ?_
      refine w_imul C dX1_unitsAhead_30 ?_
      refine w_istore C (fun x6_31 => [(6, .int x6_31), (5, .int x5_24), (0, .ref (a 0)), (1, .int x1), (2, .long x2), (4, .int x4)]) dX1_unitsAhead_31 (by decide) (fun _ => rfl) (fun x6_31 e_x6_31 => ?_)
      replace hw := hw x6_31 e_x6_31
      refine w_sub (lv' := [(0, .ref (a 0)), (1, .int x1), (2, .long x2), (4, .int x4), (5, .int x5_24), (6, .int x6_31)]) C [2, 3, 4, 5, 1, 0] rfl ?_
      obtain ⟨j, hw⟩ := hw
      exact wl_X1_unitsAhead_33 C hK5 j _ _ hw
set_option maxHeartbeats 4000000 in
set_option maxRecDepth 100000 in
theorem c_X1_unitsAhead {l : Launch} {D : va_G} {cB cI cJ cL cS : ClassId} {T : Nat × Nat × Nat × Nat} {a : Nat → Nat} {p0 : Int32} {t_made : Int32} {t_sort : Int32} {t_digits : Int32} {t_slots : Int32} {t_pages : Int32} {t_highest : Int64} {t_units : Nat → Int64} {t_kinds : Nat → Int32} {t_rows : Nat → Int32} {t_marks : Nat → Int32} {Q : Int64 → Prop} (hw : wp_X1_unitsAhead p0 t_slots t_pages t_units t_kinds Q) : CtL l D (Z5 cB cI cJ cL cS) T yX1_unitsAhead cX1_unitsAhead 7 ({ frames := 2, cells := 0, slots := 0, locals := 53 } : Room) (Option.some Jvm.ClassFile.FieldType.long) [.ref (a 0), .int p0] (wL cB cI cJ a t_made t_sort t_digits t_slots t_pages t_highest t_units t_kinds t_rows t_marks) (fun (u : Unit) => (wL cB cI cJ a t_made t_sort t_digits t_slots t_pages t_highest t_units t_kinds t_rows t_marks)) (fun (r : Int64) (u : Unit) => Q r ) 0 0 := by
  refine ctL_of (own := RX1) (by decide +kernel) rfl (Nat.le_of_ble_eq_true rfl) (fun p e s m below meth c A C => ?_)
  refine w_sub (lv' := [(0, .ref (a 0)), (1, .int p0)]) C [0, 1] rfl ?_
  unfold wp_X1_unitsAhead at hw
  refine w_lconst C (v := (0 : Int64)) dX1_unitsAhead_0 (by decide) ?_
  refine w_lstore_n C (fun x2_1 => [(2, .long x2_1), (0, .ref (a 0)), (1, .int p0)]) dX1_unitsAhead_1 (by decide) (fun _ => rfl) (fun x2_1 e_x2_1 => ?_)
  replace hw := hw x2_1 e_x2_1
  refine w_iconst C (v := (0 : Int32)) dX1_unitsAhead_2 (by decide) ?_
  refine w_istore C (fun x4_3 => [(4, .int x4_3), (2, .long x2_1), (0, .ref (a 0)), (1, .int p0)]) dX1_unitsAhead_3 (by decide) (fun _ => rfl) (fun x4_3 e_x4_3 => ?_)
  replace hw := hw x4_3 e_x4_3
  refine w_sub (lv' := [(0, .ref (a 0)), (1, .int p0), (2, .long x2_1), (4, .int x4_3)]) C [2, 3, 1, 0] rfl ?_
  obtain ⟨j, hw⟩ := hw
  exact wl_X1_unitsAhead_5 C  j _ _ hw
def wp_X1_allUnits  (t_slots : Int32) (t_pages : Int32) (t_units : Nat → Int64) (t_kinds : Nat → Int32) (Q : Int64 → Prop) : Prop := wp_X1_unitsAhead t_slots t_slots t_pages t_units t_kinds (fun (r_5 : Int64) => Q r_5)
set_option maxHeartbeats 4000000 in
set_option maxRecDepth 100000 in
theorem c_X1_allUnits {l : Launch} {D : va_G} {cB cI cJ cL cS : ClassId} {T : Nat × Nat × Nat × Nat} {a : Nat → Nat}  {t_made : Int32} {t_sort : Int32} {t_digits : Int32} {t_slots : Int32} {t_pages : Int32} {t_highest : Int64} {t_units : Nat → Int64} {t_kinds : Nat → Int32} {t_rows : Nat → Int32} {t_marks : Nat → Int32} {Q : Int64 → Prop} (hw : wp_X1_allUnits  t_slots t_pages t_units t_kinds Q) : CtL l D (Z5 cB cI cJ cL cS) T yX1_allUnits cX1_allUnits 1 ({ frames := 3, cells := 0, slots := 0, locals := 79 } : Room) (Option.some Jvm.ClassFile.FieldType.long) [.ref (a 0)] (wL cB cI cJ a t_made t_sort t_digits t_slots t_pages t_highest t_units t_kinds t_rows t_marks) (fun (u : Unit) => (wL cB cI cJ a t_made t_sort t_digits t_slots t_pages t_highest t_units t_kinds t_rows t_marks)) (fun (r : Int64) (u : Unit) => Q r ) 0 0 := by
  refine ctL_of (own := RX1) (by decide +kernel) rfl (Nat.le_of_ble_eq_true rfl) (fun p e s m below meth c A C => ?_)
  refine w_sub (lv' := [(0, .ref (a 0))]) C [0] rfl ?_
  unfold wp_X1_allUnits at hw
  refine w_aload_n C 0 dX1_allUnits_0 rfl ?_
  refine w_aload_n C 0 dX1_allUnits_1 rfl ?_
  refine w_get C (T1 := TX1) 0 3 u_X1 k_152 rfl (by decide) rfl rfl dX1_allUnits_2 ?_
  refine w_callVL C (c_X1_unitsAhead hw) f_X1_unitsAhead k_537 k_547 rfl ⟨Nat.le_of_ble_eq_true rfl, Nat.le_of_ble_eq_true rfl⟩ rfl rfl ⟨Nat.le_of_ble_eq_true rfl, Nat.le_of_ble_eq_true rfl⟩ 0 rfl (rr := (RX1, TX1, 10)) rfl rfl (fun _ => rfl) rfl (Nat.le_of_ble_eq_true rfl) dX1_allUnits_5 (fun r_5 u_5 hw => ?_)
  try dsimp only at hw
  exact w_lret C () hw rfl (Nat.le_of_ble_eq_true rfl) (Nat.le_of_ble_eq_true rfl) dX1_allUnits_8
def wp_X1_cappedHigh (p0 : Int32) (t_digits : Int32) (t_highest : Int64) (Q : Int64 → Prop) : Prop := wp_X7_highOf t_digits p0  (fun (r_9 : Int64) => Q (if r_9 < t_highest then r_9 else t_highest))
set_option maxHeartbeats 4000000 in
set_option maxRecDepth 100000 in
theorem c_X1_cappedHigh {l : Launch} {D : va_G} {cB cI cJ cL cS : ClassId} {T : Nat × Nat × Nat × Nat} {a : Nat → Nat} {p0 : Int32} {t_made : Int32} {t_sort : Int32} {t_digits : Int32} {t_slots : Int32} {t_pages : Int32} {t_highest : Int64} {t_units : Nat → Int64} {t_kinds : Nat → Int32} {t_rows : Nat → Int32} {t_marks : Nat → Int32} {Q : Int64 → Prop} (hw : wp_X1_cappedHigh p0 t_digits t_highest Q) : CtL l D (Z5 cB cI cJ cL cS) T yX1_cappedHigh cX1_cappedHigh 2 ({ frames := 4, cells := 0, slots := 0, locals := 97 } : Room) (Option.some Jvm.ClassFile.FieldType.long) [.ref (a 0), .int p0] (wL cB cI cJ a t_made t_sort t_digits t_slots t_pages t_highest t_units t_kinds t_rows t_marks) (fun (u : Unit) => (wL cB cI cJ a t_made t_sort t_digits t_slots t_pages t_highest t_units t_kinds t_rows t_marks)) (fun (r : Int64) (u : Unit) => Q r ) 0 0 := by
  refine ctL_of (own := RX1) (by decide +kernel) rfl (Nat.le_of_ble_eq_true rfl) (fun p e s m below meth c A C => ?_)
  refine w_sub (lv' := [(0, .ref (a 0)), (1, .int p0)]) C [0, 1] rfl ?_
  unfold wp_X1_cappedHigh at hw
  refine w_aload_n C 0 dX1_cappedHigh_0 rfl ?_
  refine w_get C (T1 := TX1) 0 5 u_X1 k_156 rfl (by decide) rfl rfl dX1_cappedHigh_1 ?_
  refine w_aload_n C 0 dX1_cappedHigh_4 rfl ?_
  refine w_get C (T1 := TX1) 0 2 u_X1 k_150 rfl (by decide) rfl rfl dX1_cappedHigh_5 ?_
  refine w_iload_n C 1 dX1_cappedHigh_8 rfl ?_
  refine w_callSLN C (c_X7_highOf hw) f_X7_highOf n_566 rfl ⟨Nat.le_of_ble_eq_true rfl, Nat.le_of_ble_eq_true rfl⟩ rfl rfl ⟨Nat.le_of_ble_eq_true rfl, Nat.le_of_ble_eq_true rfl⟩ rfl (Nat.le_of_ble_eq_true rfl) dX1_cappedHigh_9 (fun r_9 u_9 hw => ?_)
  try dsimp only at hw
  refine w_lmin C k_567 f_lmin.1 f_lmin.2.1 f_lmin.2.2 (Nat.le_of_ble_eq_true rfl) (Nat.le_of_ble_eq_true rfl) (Nat.le_of_ble_eq_true rfl) (Nat.le_of_ble_eq_true rfl) dX1_cappedHigh_12 ?_
  exact w_lret C () hw rfl (Nat.le_of_ble_eq_true rfl) (Nat.le_of_ble_eq_true rfl) dX1_cappedHigh_15
def bod_X1_valueWith_29 (t_digits : Int32) (t_slots : Int32) (t_pages : Int32) (t_highest : Int64) (t_units : Nat → Int64) (t_kinds : Nat → Int32) (K5 : Int64 → Int32 → Prop) (Q : Int64 → Prop) (x1 : Int64) (x5 : Int32) (x6 : Int32)  (K29 : Int64 → Int32 → Prop) (x3 : Int64) (x7 : Int32) : Prop := ((x6 ≤ x7 → (∀ x5_64 : Int32, x5_64 = x5 + (1 : Int32) → K5 x3 x5_64)) ∧ (¬ x6 ≤ x7 → (wp_X1_unitsOf x7 t_units (fun (r_40 : Int64) => ∀ x3_44 : Int64, x3_44 = (x3 + r_40) → ((x3_44 < x1 → (∀ x7_58 : Int32, x7_58 = x7 + (1 : Int32) → K29 x3_44 x7_58)) ∧ (¬ x3_44 < x1 → (wp_X1_cappedHigh x7 t_digits t_highest (fun (r_54 : Int64) => Q r_54))))))))
def lp_X1_valueWith_29 (t_digits : Int32) (t_slots : Int32) (t_pages : Int32) (t_highest : Int64) (t_units : Nat → Int64) (t_kinds : Nat → Int32) (K5 : Int64 → Int32 → Prop) (Q : Int64 → Prop) (x1 : Int64) (x5 : Int32) (x6 : Int32)  : Nat → Int64 → Int32 → Prop
  | 0, _, _ => False
  | j + 1, x3, x7 => bod_X1_valueWith_29 t_digits t_slots t_pages t_highest t_units t_kinds K5 Q x1 x5 x6 (fun v0 v1 => lp_X1_valueWith_29 t_digits t_slots t_pages t_highest t_units t_kinds K5 Q x1 x5 x6 j v0 v1) x3 x7
def bod_X1_valueWith_5 (t_digits : Int32) (t_slots : Int32) (t_pages : Int32) (t_highest : Int64) (t_units : Nat → Int64) (t_kinds : Nat → Int32)  (Q : Int64 → Prop) (x1 : Int64)  (K5 : Int64 → Int32 → Prop) (x3 : Int64) (x5 : Int32) : Prop := ((t_pages ≤ x5 → (Q t_highest)) ∧ (¬ t_pages ≤ x5 → (wp_X1_endOf x5 t_slots t_kinds (fun (r_17 : Int32) => ∀ x6_20 : Int32, x6_20 = r_17 → ∀ x7_27 : Int32, x7_27 = ((16 : Int32) * x5) → (∃ j : Nat, lp_X1_valueWith_29 t_digits t_slots t_pages t_highest t_units t_kinds K5 Q x1 x5 x6_20 j x3 x7_27)))))
def lp_X1_valueWith_5 (t_digits : Int32) (t_slots : Int32) (t_pages : Int32) (t_highest : Int64) (t_units : Nat → Int64) (t_kinds : Nat → Int32)  (Q : Int64 → Prop) (x1 : Int64)  : Nat → Int64 → Int32 → Prop
  | 0, _, _ => False
  | j + 1, x3, x5 => bod_X1_valueWith_5 t_digits t_slots t_pages t_highest t_units t_kinds  Q x1 (fun v0 v1 => lp_X1_valueWith_5 t_digits t_slots t_pages t_highest t_units t_kinds  Q x1 j v0 v1) x3 x5
def wp_X1_valueWith (p0 : Int64) (t_digits : Int32) (t_slots : Int32) (t_pages : Int32) (t_highest : Int64) (t_units : Nat → Int64) (t_kinds : Nat → Int32) (Q : Int64 → Prop) : Prop := ∀ x3_1 : Int64, x3_1 = (0 : Int64) → ∀ x5_3 : Int32, x5_3 = (0 : Int32) → (∃ j : Nat, lp_X1_valueWith_5 t_digits t_slots t_pages t_highest t_units t_kinds  Q p0 j x3_1 x5_3)
set_option maxHeartbeats 4000000 in
set_option maxRecDepth 100000 in
theorem wl_X1_valueWith_29 {p : Program} {l : Launch} {e : Env} {s : State} {m : MethodId} {args : Array Value} {below : List Frame} {meth : Method} {c : Code} {D : va_G} {cB cI cJ cL cS : ClassId} {T : Nat × Nat × Nat × Nat} {A : Nat → Prop} {a : Nat → Nat} {t_made : Int32} {t_sort : Int32} {t_digits : Int32} {t_slots : Int32} {t_pages : Int32} {t_highest : Int64} {t_units : Nat → Int64} {t_kinds : Nat → Int32} {t_rows : Nat → Int32} {t_marks : Nat → Int32} {Q : Int64 → Prop} (C : Cq p s m args meth c D (Z5 cB cI cJ cL cS) T A cX1_valueWith RX1 8 (Option.some Jvm.ClassFile.FieldType.long)) {x1 : Int64} {x5 : Int32} {x6 : Int32}  {K5 : Int64 → Int32 → Prop} (hK5 : ∀ (y3 : Int64) (y5 : Int32), K5 y3 y5 → ww p l e ({ frames := 5, cells := 0, slots := 0, locals := 118 } : Room) s m args below meth c D A 8 (MQ below (va_Ql (fun (r : Int64) (u : Unit) => Q r ) (OutP D (fun (u : Unit) => (wL cB cI cJ a t_made t_sort t_digits t_slots t_pages t_highest t_units t_kinds t_rows t_marks))) A) args s 0 0 A) 0 0 (wL cB cI cJ a t_made t_sort t_digits t_slots t_pages t_highest t_units t_kinds t_rows t_marks) 5 [(0, .ref (a 0)), (1, .long x1), (3, .long y3), (5, .int y5)] []) : ∀ (j : Nat) (x3 : Int64) (x7 : Int32), lp_X1_valueWith_29 t_digits t_slots t_pages t_highest t_units t_kinds K5 Q x1 x5 x6 j x3 x7 → ww p l e ({ frames := 5, cells := 0, slots := 0, locals := 118 } : Room) s m args below meth c D A 8 (MQ below (va_Ql (fun (r : Int64) (u : Unit) => Q r ) (OutP D (fun (u : Unit) => (wL cB cI cJ a t_made t_sort t_digits t_slots t_pages t_highest t_units t_kinds t_rows t_marks))) A) args s 0 0 A) 0 0 (wL cB cI cJ a t_made t_sort t_digits t_slots t_pages t_highest t_units t_kinds t_rows t_marks) 29 [(0, .ref (a 0)), (1, .long x1), (3, .long x3), (5, .int x5), (6, .int x6), (7, .int x7)] [] := by
  intro j
  induction j with
  | zero => intro _ _ hw; exact hw.elim
  | succ j hK29 =>
    intro x3 x7 hw
    have hw : bod_X1_valueWith_29 t_digits t_slots t_pages t_highest t_units t_kinds K5 Q x1 x5 x6 (fun v0 v1 => lp_X1_valueWith_29 t_digits t_slots t_pages t_highest t_units t_kinds K5 Q x1 x5 x6 j v0 v1) x3 x7 := hw
    unfold bod_X1_valueWith_29 at hw
    refine w_iload C 5 dX1_valueWith_29 rfl ?_
    refine w_iload C 4 dX1_valueWith_31 rfl ?_
    refine w_icmp_ge C 64 (by decide) dX1_valueWith_33 (fun c_33 => ?_) (fun c_33 => ?_)
    · replace hw := hw.1 c_33
      refine w_iinc C (v := x5 + (1 : Int32)) 3 (fun x5_64 => [(5, .int x5_64), (0, .ref (a 0)), (1, .long x1), (3, .long x3), (6, .int x6), (7, .int x7)]) dX1_valueWith_64 rfl rfl (by decide) (fun _ => rfl) (fun x5_64 e_x5_64 => ?_)
      replace hw := hw x5_64 e_x5_64
      refine w_goto C 5 (by decide) dX1_valueWith_67 ?_
      refine w_sub (lv' := [(0, .ref (a 0)), (1, .long x1), (3, .long x3), (5, .int x5_64)]) C [1, 2, 3, 0] rfl ?_
      exact hK5 _ _ hw
    · replace hw := hw.2 c_33
      refine w_lload_n C 2 dX1_valueWith_36 rfl ?_
      refine w_aload_n C 0 dX1_valueWith_37 rfl ?_
      refine w_iload C 5 dX1_valueWith_38 rfl ?_
      refine w_callVL C (c_X1_unitsOf hw) f_X1_unitsOf k_290 k_288 rfl ⟨Nat.le_of_ble_eq_true rfl, Nat.le_of_ble_eq_true rfl⟩ rfl rfl ⟨Nat.le_of_ble_eq_true rfl, Nat.le_of_ble_eq_true rfl⟩ 0 rfl (rr := (RX1, TX1, 10)) rfl rfl (fun _ => rfl) rfl (Nat.le_of_ble_eq_true rfl) dX1_valueWith_40 (fun r_40 u_40 hw => ?_)
      try dsimp only at hw
      refine w_ladd C dX1_valueWith_43 ?_
      refine w_lstore_n C (fun x3_44 => [(3, .long x3_44), (0, .ref (a 0)), (1, .long x1), (5, .int x5), (6, .int x6), (7, .int x7)]) dX1_valueWith_44 (by decide) (fun _ => rfl) (fun x3_44 e_x3_44 => ?_)
      replace hw := hw x3_44 e_x3_44
      refine w_lload_n C 0 dX1_valueWith_45 rfl ?_
      refine w_lload_n C 2 dX1_valueWith_46 rfl ?_
      refine w_lcmp_lt C 48 58 rfl (by decide) dX1_valueWith_47 dX1_valueWith_48 (fun c_47 => ?_) (fun c_47 => ?_)
      · replace hw := hw.1 c_47
        refine w_iinc C (v := x7 + (1 : Int32)) 5 (fun x7_58 => [(7, .int x7_58), (3, .long x3_44), (0, .ref (a 0)), (1, .long x1), (5, .int x5), (6, .int x6)]) dX1_valueWith_58 rfl rfl (by decide) (fun _ => rfl) (fun x7_58 e_x7_58 => ?_)
        replace hw := hw x7_58 e_x7_58
        refine w_goto C 29 (by decide) dX1_valueWith_61 ?_
        refine w_sub (lv' := [(0, .ref (a 0)), (1, .long x1), (3, .long x3_44), (5, .int x5), (6, .int x6), (7, .int x7_58)]) C [2, 3, 1, 4, 5, 0] rfl ?_
        exact hK29 _ _ hw
      · replace hw := hw.2 c_47
        refine w_aload_n C 1 dX1_valueWith_51 rfl ?_
        refine w_iload C 5 dX1_valueWith_52 rfl ?_
        refine w_callVL C (c_X1_cappedHigh hw) f_X1_cappedHigh k_17 k_562 rfl ⟨Nat.le_of_ble_eq_true rfl, Nat.le_of_ble_eq_true rfl⟩ rfl rfl ⟨Nat.le_of_ble_eq_true rfl, Nat.le_of_ble_eq_true rfl⟩ 0 rfl (rr := (RX1, TX1, 10)) rfl rfl (fun _ => rfl) rfl (Nat.le_of_ble_eq_true rfl) dX1_valueWith_54 (fun r_54 u_54 hw => ?_)
        try dsimp only at hw
        exact w_lret C () hw rfl (Nat.le_of_ble_eq_true rfl) (Nat.le_of_ble_eq_true rfl) dX1_valueWith_57
set_option maxHeartbeats 4000000 in
set_option maxRecDepth 100000 in
theorem wl_X1_valueWith_5 {p : Program} {l : Launch} {e : Env} {s : State} {m : MethodId} {args : Array Value} {below : List Frame} {meth : Method} {c : Code} {D : va_G} {cB cI cJ cL cS : ClassId} {T : Nat × Nat × Nat × Nat} {A : Nat → Prop} {a : Nat → Nat} {t_made : Int32} {t_sort : Int32} {t_digits : Int32} {t_slots : Int32} {t_pages : Int32} {t_highest : Int64} {t_units : Nat → Int64} {t_kinds : Nat → Int32} {t_rows : Nat → Int32} {t_marks : Nat → Int32} {Q : Int64 → Prop} (C : Cq p s m args meth c D (Z5 cB cI cJ cL cS) T A cX1_valueWith RX1 8 (Option.some Jvm.ClassFile.FieldType.long)) {x1 : Int64}   : ∀ (j : Nat) (x3 : Int64) (x5 : Int32), lp_X1_valueWith_5 t_digits t_slots t_pages t_highest t_units t_kinds  Q x1 j x3 x5 → ww p l e ({ frames := 5, cells := 0, slots := 0, locals := 118 } : Room) s m args below meth c D A 8 (MQ below (va_Ql (fun (r : Int64) (u : Unit) => Q r ) (OutP D (fun (u : Unit) => (wL cB cI cJ a t_made t_sort t_digits t_slots t_pages t_highest t_units t_kinds t_rows t_marks))) A) args s 0 0 A) 0 0 (wL cB cI cJ a t_made t_sort t_digits t_slots t_pages t_highest t_units t_kinds t_rows t_marks) 5 [(0, .ref (a 0)), (1, .long x1), (3, .long x3), (5, .int x5)] [] := by
  intro j
  induction j with
  | zero => intro _ _ hw; exact hw.elim
  | succ j hK5 =>
    intro x3 x5 hw
    have hw : bod_X1_valueWith_5 t_digits t_slots t_pages t_highest t_units t_kinds  Q x1 (fun v0 v1 => lp_X1_valueWith_5 t_digits t_slots t_pages t_highest t_units t_kinds  Q x1 j v0 v1) x3 x5 := hw
    unfold bod_X1_valueWith_5 at hw
    refine w_iload C 3 dX1_valueWith_5 rfl ?_
    refine w_aload_n C 0 dX1_valueWith_7 rfl ?_
    refine w_get C (T1 := TX1) 0 4 u_X1 k_154 rfl (by decide) rfl rfl dX1_valueWith_8 ?_
    refine w_icmp_ge C 70 (by decide) dX1_valueWith_11 (fun c_11 => ?_) (fun c_11 => ?_)
    · replace hw := hw.1 c_11
      refine w_aload_n C 0 dX1_valueWith_70 rfl ?_
      refine w_get C (T1 := TX1) 0 5 u_X1 k_156 rfl (by decide) rfl rfl dX1_valueWith_71 ?_
      exact w_lret C () hw rfl (Nat.le_of_ble_eq_true rfl) (Nat.le_of_ble_eq_true rfl) dX1_valueWith_74
    · replace hw := hw.2 c_11
      refine w_aload_n C 0 dX1_valueWith_14 rfl ?_
      refine w_iload C 3 dX1_valueWith_15 rfl ?_
      refine w_callVI C (c_X1_endOf hw) f_X1_endOf k_2 k_277 rfl ⟨Nat.le_of_ble_eq_true rfl, Nat.le_of_ble_eq_true rfl⟩ rfl rfl ⟨Nat.le_of_ble_eq_true rfl, Nat.le_of_ble_eq_true rfl⟩ 0 rfl (rr := (RX1, TX1, 10)) rfl rfl (fun _ => rfl) rfl (Nat.le_of_ble_eq_true rfl) dX1_valueWith_17 (fun r_17 u_17 hw => ?_)
      try dsimp only at hw
      refine w_istore C (fun x6_20 => [(6, .int x6_20), (0, .ref (a 0)), (1, .long x1), (3, .long x3), (5, .int x5)]) dX1_valueWith_20 (by decide) (fun _ => rfl) (fun x6_20 e_x6_20 => ?_)
      replace hw := hw x6_20 e_x6_20
      refine w_bipush C (v := (16 : Int32)) dX1_valueWith_22 (by decide) ?_
      refine w_iload C 4 dX1_valueWith_24 rfl ?_
      refine w_imul C dX1_valueWith_26 ?_
      refine w_istore C (fun x7_27 => [(7, .int x7_27), (6, .int x6_20), (0, .ref (a 0)), (1, .long x1), (3, .long x3), (5, .int x5)]) dX1_valueWith_27 (by decide) (fun _ => rfl) (fun x7_27 e_x7_27 => ?_)
      replace hw := hw x7_27 e_x7_27
      refine w_sub (lv' := [(0, .ref (a 0)), (1, .long x1), (3, .long x3), (5, .int x5), (6, .int x6_20), (7, .int x7_27)]) C [2, 3, 4, 5, 1, 0] rfl ?_
      obtain ⟨j, hw⟩ := hw
      exact wl_X1_valueWith_29 C hK5 j _ _ hw
set_option maxHeartbeats 4000000 in
set_option maxRecDepth 100000 in
theorem c_X1_valueWith {l : Launch} {D : va_G} {cB cI cJ cL cS : ClassId} {T : Nat × Nat × Nat × Nat} {a : Nat → Nat} {p0 : Int64} {t_made : Int32} {t_sort : Int32} {t_digits : Int32} {t_slots : Int32} {t_pages : Int32} {t_highest : Int64} {t_units : Nat → Int64} {t_kinds : Nat → Int32} {t_rows : Nat → Int32} {t_marks : Nat → Int32} {Q : Int64 → Prop} (hw : wp_X1_valueWith p0 t_digits t_slots t_pages t_highest t_units t_kinds Q) : CtL l D (Z5 cB cI cJ cL cS) T yX1_valueWith cX1_valueWith 8 ({ frames := 5, cells := 0, slots := 0, locals := 118 } : Room) (Option.some Jvm.ClassFile.FieldType.long) [.ref (a 0), .long p0] (wL cB cI cJ a t_made t_sort t_digits t_slots t_pages t_highest t_units t_kinds t_rows t_marks) (fun (u : Unit) => (wL cB cI cJ a t_made t_sort t_digits t_slots t_pages t_highest t_units t_kinds t_rows t_marks)) (fun (r : Int64) (u : Unit) => Q r ) 0 0 := by
  refine ctL_of (own := RX1) (by decide +kernel) rfl (Nat.le_of_ble_eq_true rfl) (fun p e s m below meth c A C => ?_)
  refine w_sub (lv' := [(0, .ref (a 0)), (1, .long p0)]) C [0, 1] rfl ?_
  unfold wp_X1_valueWith at hw
  refine w_lconst C (v := (0 : Int64)) dX1_valueWith_0 (by decide) ?_
  refine w_lstore_n C (fun x3_1 => [(3, .long x3_1), (0, .ref (a 0)), (1, .long p0)]) dX1_valueWith_1 (by decide) (fun _ => rfl) (fun x3_1 e_x3_1 => ?_)
  replace hw := hw x3_1 e_x3_1
  refine w_iconst C (v := (0 : Int32)) dX1_valueWith_2 (by decide) ?_
  refine w_istore C (fun x5_3 => [(5, .int x5_3), (3, .long x3_1), (0, .ref (a 0)), (1, .long p0)]) dX1_valueWith_3 (by decide) (fun _ => rfl) (fun x5_3 e_x5_3 => ?_)
  replace hw := hw x5_3 e_x5_3
  refine w_sub (lv' := [(0, .ref (a 0)), (1, .long p0), (3, .long x3_1), (5, .int x5_3)]) C [2, 3, 1, 0] rfl ?_
  obtain ⟨j, hw⟩ := hw
  exact wl_X1_valueWith_5 C  j _ _ hw
def bod_X1_firstUsed_21 (t_slots : Int32) (t_pages : Int32) (t_units : Nat → Int64) (t_kinds : Nat → Int32) (K2 : Int32 → Prop) (Q : Int32 → Prop) (x1 : Int32) (x2 : Int32)  (K21 : Int32 → Prop) (x3 : Int32) : Prop := ((x2 ≤ x3 → (∀ x1_44 : Int32, x1_44 = x1 + (1 : Int32) → K2 x1_44)) ∧ (¬ x2 ≤ x3 → (wp_X1_unitsOf x3 t_units (fun (r_28 : Int64) => ((r_28 = (0 : Int64) → (∀ x3_38 : Int32, x3_38 = x3 + (1 : Int32) → K21 x3_38)) ∧ (¬ r_28 = (0 : Int64) → (Q x3)))))))
def lp_X1_firstUsed_21 (t_slots : Int32) (t_pages : Int32) (t_units : Nat → Int64) (t_kinds : Nat → Int32) (K2 : Int32 → Prop) (Q : Int32 → Prop) (x1 : Int32) (x2 : Int32)  : Nat → Int32 → Prop
  | 0, _ => False
  | j + 1, x3 => bod_X1_firstUsed_21 t_slots t_pages t_units t_kinds K2 Q x1 x2 (fun v0 => lp_X1_firstUsed_21 t_slots t_pages t_units t_kinds K2 Q x1 x2 j v0) x3
def bod_X1_firstUsed_2 (t_slots : Int32) (t_pages : Int32) (t_units : Nat → Int64) (t_kinds : Nat → Int32)  (Q : Int32 → Prop)   (K2 : Int32 → Prop) (x1 : Int32) : Prop := ((t_pages ≤ x1 → (Q (-1 : Int32))) ∧ (¬ t_pages ≤ x1 → (wp_X1_endOf x1 t_slots t_kinds (fun (r_12 : Int32) => ∀ x2_15 : Int32, x2_15 = r_12 → ∀ x3_20 : Int32, x3_20 = ((16 : Int32) * x1) → (∃ j : Nat, lp_X1_firstUsed_21 t_slots t_pages t_units t_kinds K2 Q x1 x2_15 j x3_20)))))
def lp_X1_firstUsed_2 (t_slots : Int32) (t_pages : Int32) (t_units : Nat → Int64) (t_kinds : Nat → Int32)  (Q : Int32 → Prop)   : Nat → Int32 → Prop
  | 0, _ => False
  | j + 1, x1 => bod_X1_firstUsed_2 t_slots t_pages t_units t_kinds  Q  (fun v0 => lp_X1_firstUsed_2 t_slots t_pages t_units t_kinds  Q  j v0) x1
def wp_X1_firstUsed  (t_slots : Int32) (t_pages : Int32) (t_units : Nat → Int64) (t_kinds : Nat → Int32) (Q : Int32 → Prop) : Prop := ∀ x1_1 : Int32, x1_1 = (0 : Int32) → (∃ j : Nat, lp_X1_firstUsed_2 t_slots t_pages t_units t_kinds  Q  j x1_1)
set_option maxHeartbeats 4000000 in
set_option maxRecDepth 100000 in
theorem wl_X1_firstUsed_21 {p : Program} {l : Launch} {e : Env} {s : State} {m : MethodId} {args : Array Value} {below : List Frame} {meth : Method} {c : Code} {D : va_G} {cB cI cJ cL cS : ClassId} {T : Nat × Nat × Nat × Nat} {A : Nat → Prop} {a : Nat → Nat} {t_made : Int32} {t_sort : Int32} {t_digits : Int32} {t_slots : Int32} {t_pages : Int32} {t_highest : Int64} {t_units : Nat → Int64} {t_kinds : Nat → Int32} {t_rows : Nat → Int32} {t_marks : Nat → Int32} {Q : Int32 → Prop} (C : Cq p s m args meth c D (Z5 cB cI cJ cL cS) T A cX1_firstUsed RX1 4 (Option.some Jvm.ClassFile.FieldType.int)) {x1 : Int32} {x2 : Int32}  {K2 : Int32 → Prop} (hK2 : ∀ (y1 : Int32), K2 y1 → ww p l e ({ frames := 2, cells := 0, slots := 0, locals := 53 } : Room) s m args below meth c D A 4 (MQ below (va_Qi (fun (r : Int32) (u : Unit) => Q r ) (OutP D (fun (u : Unit) => (wL cB cI cJ a t_made t_sort t_digits t_slots t_pages t_highest t_units t_kinds t_rows t_marks))) A) args s 0 0 A) 0 0 (wL cB cI cJ a t_made t_sort t_digits t_slots t_pages t_highest t_units t_kinds t_rows t_marks) 2 [(0, .ref (a 0)), (1, .int y1)] []) : ∀ (j : Nat) (x3 : Int32), lp_X1_firstUsed_21 t_slots t_pages t_units t_kinds K2 Q x1 x2 j x3 → ww p l e ({ frames := 2, cells := 0, slots := 0, locals := 53 } : Room) s m args below meth c D A 4 (MQ below (va_Qi (fun (r : Int32) (u : Unit) => Q r ) (OutP D (fun (u : Unit) => (wL cB cI cJ a t_made t_sort t_digits t_slots t_pages t_highest t_units t_kinds t_rows t_marks))) A) args s 0 0 A) 0 0 (wL cB cI cJ a t_made t_sort t_digits t_slots t_pages t_highest t_units t_kinds t_rows t_marks) 21 [(0, .ref (a 0)), (1, .int x1), (2, .int x2), (3, .int x3)] [] := by
  intro j
  induction j with
  | zero => intro _ hw; exact hw.elim
  | succ j hK21 =>
    intro x3 hw
    have hw : bod_X1_firstUsed_21 t_slots t_pages t_units t_kinds K2 Q x1 x2 (fun v0 => lp_X1_firstUsed_21 t_slots t_pages t_units t_kinds K2 Q x1 x2 j v0) x3 := hw
    unfold bod_X1_firstUsed_21 at hw
    refine w_iload_n C 3 dX1_firstUsed_21 rfl ?_
    refine w_iload_n C 2 dX1_firstUsed_22 rfl ?_
    refine w_icmp_ge C 44 (by decide) dX1_firstUsed_23 (fun c_23 => ?_) (fun c_23 => ?_)
    · replace hw := hw.1 c_23
      refine w_iinc C (v := x1 + (1 : Int32)) 1 (fun x1_44 => [(1, .int x1_44), (0, .ref (a 0)), (2, .int x2), (3, .int x3)]) dX1_firstUsed_44 rfl rfl (by decide) (fun _ => rfl) (fun x1_44 e_x1_44 => ?_)
      replace hw := hw x1_44 e_x1_44
      refine w_goto C 2 (by decide) dX1_firstUsed_47 ?_
      refine w_sub (lv' := [(0, .ref (a 0)), (1, .int x1_44)]) C [1, 0] rfl ?_
      exact hK2 _ hw
    · replace hw := hw.2 c_23
      refine w_aload_n C 0 dX1_firstUsed_26 rfl ?_
      refine w_iload_n C 3 dX1_firstUsed_27 rfl ?_
      refine w_callVL C (c_X1_unitsOf hw) f_X1_unitsOf k_290 k_288 rfl ⟨Nat.le_of_ble_eq_true rfl, Nat.le_of_ble_eq_true rfl⟩ rfl rfl ⟨Nat.le_of_ble_eq_true rfl, Nat.le_of_ble_eq_true rfl⟩ 0 rfl (rr := (RX1, TX1, 10)) rfl rfl (fun _ => rfl) rfl (Nat.le_of_ble_eq_true rfl) dX1_firstUsed_28 (fun r_28 u_28 hw => ?_)
      try dsimp only at hw
      refine w_lconst C (v := (0 : Int64)) dX1_firstUsed_31 (by decide) ?_
      refine w_lcmp_eq C 33 38 rfl (by decide) dX1_firstUsed_32 dX1_firstUsed_33 (fun c_32 => ?_) (fun c_32 => ?_)
      · replace hw := hw.1 c_32
        refine w_iinc C (v := x3 + (1 : Int32)) 3 (fun x3_38 => [(3, .int x3_38), (0, .ref (a 0)), (1, .int x1), (2, .int x2)]) dX1_firstUsed_38 rfl rfl (by decide) (fun _ => rfl) (fun x3_38 e_x3_38 => ?_)
        replace hw := hw x3_38 e_x3_38
        refine w_goto C 21 (by decide) dX1_firstUsed_41 ?_
        refine w_sub (lv' := [(0, .ref (a 0)), (1, .int x1), (2, .int x2), (3, .int x3_38)]) C [1, 2, 3, 0] rfl ?_
        exact hK21 _ hw
      · replace hw := hw.2 c_32
        refine w_iload_n C 3 dX1_firstUsed_36 rfl ?_
        exact w_iret C () hw rfl (Nat.le_of_ble_eq_true rfl) (Nat.le_of_ble_eq_true rfl) dX1_firstUsed_37
set_option maxHeartbeats 4000000 in
set_option maxRecDepth 100000 in
theorem wl_X1_firstUsed_2 {p : Program} {l : Launch} {e : Env} {s : State} {m : MethodId} {args : Array Value} {below : List Frame} {meth : Method} {c : Code} {D : va_G} {cB cI cJ cL cS : ClassId} {T : Nat × Nat × Nat × Nat} {A : Nat → Prop} {a : Nat → Nat} {t_made : Int32} {t_sort : Int32} {t_digits : Int32} {t_slots : Int32} {t_pages : Int32} {t_highest : Int64} {t_units : Nat → Int64} {t_kinds : Nat → Int32} {t_rows : Nat → Int32} {t_marks : Nat → Int32} {Q : Int32 → Prop} (C : Cq p s m args meth c D (Z5 cB cI cJ cL cS) T A cX1_firstUsed RX1 4 (Option.some Jvm.ClassFile.FieldType.int))    : ∀ (j : Nat) (x1 : Int32), lp_X1_firstUsed_2 t_slots t_pages t_units t_kinds  Q  j x1 → ww p l e ({ frames := 2, cells := 0, slots := 0, locals := 53 } : Room) s m args below meth c D A 4 (MQ below (va_Qi (fun (r : Int32) (u : Unit) => Q r ) (OutP D (fun (u : Unit) => (wL cB cI cJ a t_made t_sort t_digits t_slots t_pages t_highest t_units t_kinds t_rows t_marks))) A) args s 0 0 A) 0 0 (wL cB cI cJ a t_made t_sort t_digits t_slots t_pages t_highest t_units t_kinds t_rows t_marks) 2 [(0, .ref (a 0)), (1, .int x1)] [] := by
  intro j
  induction j with
  | zero => intro _ hw; exact hw.elim
  | succ j hK2 =>
    intro x1 hw
    have hw : bod_X1_firstUsed_2 t_slots t_pages t_units t_kinds  Q  (fun v0 => lp_X1_firstUsed_2 t_slots t_pages t_units t_kinds  Q  j v0) x1 := hw
    unfold bod_X1_firstUsed_2 at hw
    refine w_iload_n C 1 dX1_firstUsed_2 rfl ?_
    refine w_aload_n C 0 dX1_firstUsed_3 rfl ?_
    refine w_get C (T1 := TX1) 0 4 u_X1 k_154 rfl (by decide) rfl rfl dX1_firstUsed_4 ?_
    refine w_icmp_ge C 50 (by decide) dX1_firstUsed_7 (fun c_7 => ?_) (fun c_7 => ?_)
    · replace hw := hw.1 c_7
      refine w_iconst C (v := (-1 : Int32)) dX1_firstUsed_50 (by decide) ?_
      exact w_iret C () hw rfl (Nat.le_of_ble_eq_true rfl) (Nat.le_of_ble_eq_true rfl) dX1_firstUsed_51
    · replace hw := hw.2 c_7
      refine w_aload_n C 0 dX1_firstUsed_10 rfl ?_
      refine w_iload_n C 1 dX1_firstUsed_11 rfl ?_
      refine w_callVI C (c_X1_endOf hw) f_X1_endOf k_2 k_277 rfl ⟨Nat.le_of_ble_eq_true rfl, Nat.le_of_ble_eq_true rfl⟩ rfl rfl ⟨Nat.le_of_ble_eq_true rfl, Nat.le_of_ble_eq_true rfl⟩ 0 rfl (rr := (RX1, TX1, 10)) rfl rfl (fun _ => rfl) rfl (Nat.le_of_ble_eq_true rfl) dX1_firstUsed_12 (fun r_12 u_12 hw => ?_)
      try dsimp only at hw
      refine w_istore_n C (fun x2_15 => [(2, .int x2_15), (0, .ref (a 0)), (1, .int x1)]) dX1_firstUsed_15 (by decide) (fun _ => rfl) (fun x2_15 e_x2_15 => ?_)
      replace hw := hw x2_15 e_x2_15
      refine w_bipush C (v := (16 : Int32)) dX1_firstUsed_16 (by decide) ?_
      refine w_iload_n C 2 dX1_firstUsed_18 rfl ?_
      refine w_imul C dX1_firstUsed_19 ?_
      refine w_istore_n C (fun x3_20 => [(3, .int x3_20), (2, .int x2_15), (0, .ref (a 0)), (1, .int x1)]) dX1_firstUsed_20 (by decide) (fun _ => rfl) (fun x3_20 e_x3_20 => ?_)
      replace hw := hw x3_20 e_x3_20
      refine w_sub (lv' := [(0, .ref (a 0)), (1, .int x1), (2, .int x2_15), (3, .int x3_20)]) C [2, 3, 1, 0] rfl ?_
      obtain ⟨j, hw⟩ := hw
      exact wl_X1_firstUsed_21 C hK2 j _ hw
set_option maxHeartbeats 4000000 in
set_option maxRecDepth 100000 in
theorem c_X1_firstUsed {l : Launch} {D : va_G} {cB cI cJ cL cS : ClassId} {T : Nat × Nat × Nat × Nat} {a : Nat → Nat}  {t_made : Int32} {t_sort : Int32} {t_digits : Int32} {t_slots : Int32} {t_pages : Int32} {t_highest : Int64} {t_units : Nat → Int64} {t_kinds : Nat → Int32} {t_rows : Nat → Int32} {t_marks : Nat → Int32} {Q : Int32 → Prop} (hw : wp_X1_firstUsed  t_slots t_pages t_units t_kinds Q) : CtI l D (Z5 cB cI cJ cL cS) T yX1_firstUsed cX1_firstUsed 4 ({ frames := 2, cells := 0, slots := 0, locals := 53 } : Room) (Option.some Jvm.ClassFile.FieldType.int) [.ref (a 0)] (wL cB cI cJ a t_made t_sort t_digits t_slots t_pages t_highest t_units t_kinds t_rows t_marks) (fun (u : Unit) => (wL cB cI cJ a t_made t_sort t_digits t_slots t_pages t_highest t_units t_kinds t_rows t_marks)) (fun (r : Int32) (u : Unit) => Q r ) 0 0 := by
  refine ctI_of (own := RX1) (by decide +kernel) rfl (Nat.le_of_ble_eq_true rfl) (fun p e s m below meth c A C => ?_)
  refine w_sub (lv' := [(0, .ref (a 0))]) C [0] rfl ?_
  unfold wp_X1_firstUsed at hw
  refine w_iconst C (v := (0 : Int32)) dX1_firstUsed_0 (by decide) ?_
  refine w_istore_n C (fun x1_1 => [(1, .int x1_1), (0, .ref (a 0))]) dX1_firstUsed_1 (by decide) (fun _ => rfl) (fun x1_1 e_x1_1 => ?_)
  replace hw := hw x1_1 e_x1_1
  refine w_sub (lv' := [(0, .ref (a 0)), (1, .int x1_1)]) C [1, 0] rfl ?_
  obtain ⟨j, hw⟩ := hw
  exact wl_X1_firstUsed_2 C  j _ hw
def wp_X1_least  (t_digits : Int32) (t_slots : Int32) (t_pages : Int32) (t_units : Nat → Int64) (t_kinds : Nat → Int32) (Q : Int64 → Prop) : Prop := wp_X1_firstUsed  t_slots t_pages t_units t_kinds (fun (r_6 : Int32) => wp_X7_lowOf t_digits (if (0 : Int32) < r_6 then r_6 else (0 : Int32))  (fun (r_12 : Int64) => Q r_12))
set_option maxHeartbeats 4000000 in
set_option maxRecDepth 100000 in
theorem c_X1_least {l : Launch} {D : va_G} {cB cI cJ cL cS : ClassId} {T : Nat × Nat × Nat × Nat} {a : Nat → Nat}  {t_made : Int32} {t_sort : Int32} {t_digits : Int32} {t_slots : Int32} {t_pages : Int32} {t_highest : Int64} {t_units : Nat → Int64} {t_kinds : Nat → Int32} {t_rows : Nat → Int32} {t_marks : Nat → Int32} {Q : Int64 → Prop} (hw : wp_X1_least  t_digits t_slots t_pages t_units t_kinds Q) : CtL l D (Z5 cB cI cJ cL cS) T yX1_least cX1_least 1 ({ frames := 3, cells := 0, slots := 0, locals := 76 } : Room) (Option.some Jvm.ClassFile.FieldType.long) [.ref (a 0)] (wL cB cI cJ a t_made t_sort t_digits t_slots t_pages t_highest t_units t_kinds t_rows t_marks) (fun (u : Unit) => (wL cB cI cJ a t_made t_sort t_digits t_slots t_pages t_highest t_units t_kinds t_rows t_marks)) (fun (r : Int64) (u : Unit) => Q r ) 0 0 := by
  refine ctL_of (own := RX1) (by decide +kernel) rfl (Nat.le_of_ble_eq_true rfl) (fun p e s m below meth c A C => ?_)
  refine w_sub (lv' := [(0, .ref (a 0))]) C [0] rfl ?_
  unfold wp_X1_least at hw
  refine w_aload_n C 0 dX1_least_0 rfl ?_
  refine w_get C (T1 := TX1) 0 2 u_X1 k_150 rfl (by decide) rfl rfl dX1_least_1 ?_
  refine w_iconst C (v := (0 : Int32)) dX1_least_4 (by decide) ?_
  refine w_aload_n C 0 dX1_least_5 rfl ?_
  refine w_callVI C (c_X1_firstUsed hw) f_X1_firstUsed k_18 k_579 rfl ⟨Nat.le_of_ble_eq_true rfl, Nat.le_of_ble_eq_true rfl⟩ rfl rfl ⟨Nat.le_of_ble_eq_true rfl, Nat.le_of_ble_eq_true rfl⟩ 0 rfl (rr := (RX1, TX1, 10)) rfl rfl (fun _ => rfl) rfl (Nat.le_of_ble_eq_true rfl) dX1_least_6 (fun r_6 u_6 hw => ?_)
  try dsimp only at hw
  refine w_imax C k_415 f_imax.1 f_imax.2.1 f_imax.2.2 (Nat.le_of_ble_eq_true rfl) (Nat.le_of_ble_eq_true rfl) (Nat.le_of_ble_eq_true rfl) (Nat.le_of_ble_eq_true rfl) dX1_least_9 ?_
  refine w_callSLN C (c_X7_lowOf hw) f_X7_lowOf n_521 rfl ⟨Nat.le_of_ble_eq_true rfl, Nat.le_of_ble_eq_true rfl⟩ rfl rfl ⟨Nat.le_of_ble_eq_true rfl, Nat.le_of_ble_eq_true rfl⟩ rfl (Nat.le_of_ble_eq_true rfl) dX1_least_12 (fun r_12 u_12 hw => ?_)
  try dsimp only at hw
  exact w_lret C () hw rfl (Nat.le_of_ble_eq_true rfl) (Nat.le_of_ble_eq_true rfl) dX1_least_15
def wp_X1_greatest  (t_digits : Int32) (t_slots : Int32) (t_pages : Int32) (t_highest : Int64) (t_units : Nat → Int64) (t_kinds : Nat → Int32) (Q : Int64 → Prop) : Prop := wp_X1_lastUsed  t_slots t_pages t_units t_kinds (fun (r_3 : Int32) => wp_X1_cappedHigh (if (0 : Int32) < r_3 then r_3 else (0 : Int32)) t_digits t_highest (fun (r_9 : Int64) => Q r_9))
set_option maxHeartbeats 4000000 in
set_option maxRecDepth 100000 in
theorem c_X1_greatest {l : Launch} {D : va_G} {cB cI cJ cL cS : ClassId} {T : Nat × Nat × Nat × Nat} {a : Nat → Nat}  {t_made : Int32} {t_sort : Int32} {t_digits : Int32} {t_slots : Int32} {t_pages : Int32} {t_highest : Int64} {t_units : Nat → Int64} {t_kinds : Nat → Int32} {t_rows : Nat → Int32} {t_marks : Nat → Int32} {Q : Int64 → Prop} (hw : wp_X1_greatest  t_digits t_slots t_pages t_highest t_units t_kinds Q) : CtL l D (Z5 cB cI cJ cL cS) T yX1_greatest cX1_greatest 1 ({ frames := 5, cells := 0, slots := 0, locals := 118 } : Room) (Option.some Jvm.ClassFile.FieldType.long) [.ref (a 0)] (wL cB cI cJ a t_made t_sort t_digits t_slots t_pages t_highest t_units t_kinds t_rows t_marks) (fun (u : Unit) => (wL cB cI cJ a t_made t_sort t_digits t_slots t_pages t_highest t_units t_kinds t_rows t_marks)) (fun (r : Int64) (u : Unit) => Q r ) 0 0 := by
  refine ctL_of (own := RX1) (by decide +kernel) rfl (Nat.le_of_ble_eq_true rfl) (fun p e s m below meth c A C => ?_)
  refine w_sub (lv' := [(0, .ref (a 0))]) C [0] rfl ?_
  unfold wp_X1_greatest at hw
  refine w_aload_n C 0 dX1_greatest_0 rfl ?_
  refine w_iconst C (v := (0 : Int32)) dX1_greatest_1 (by decide) ?_
  refine w_aload_n C 0 dX1_greatest_2 rfl ?_
  refine w_callVI C (c_X1_lastUsed hw) f_X1_lastUsed k_275 k_273 rfl ⟨Nat.le_of_ble_eq_true rfl, Nat.le_of_ble_eq_true rfl⟩ rfl rfl ⟨Nat.le_of_ble_eq_true rfl, Nat.le_of_ble_eq_true rfl⟩ 0 rfl (rr := (RX1, TX1, 10)) rfl rfl (fun _ => rfl) rfl (Nat.le_of_ble_eq_true rfl) dX1_greatest_3 (fun r_3 u_3 hw => ?_)
  try dsimp only at hw
  refine w_imax C k_415 f_imax.1 f_imax.2.1 f_imax.2.2 (Nat.le_of_ble_eq_true rfl) (Nat.le_of_ble_eq_true rfl) (Nat.le_of_ble_eq_true rfl) (Nat.le_of_ble_eq_true rfl) dX1_greatest_6 ?_
  refine w_callVL C (c_X1_cappedHigh hw) f_X1_cappedHigh k_17 k_562 rfl ⟨Nat.le_of_ble_eq_true rfl, Nat.le_of_ble_eq_true rfl⟩ rfl rfl ⟨Nat.le_of_ble_eq_true rfl, Nat.le_of_ble_eq_true rfl⟩ 0 rfl (rr := (RX1, TX1, 10)) rfl rfl (fun _ => rfl) rfl (Nat.le_of_ble_eq_true rfl) dX1_greatest_9 (fun r_9 u_9 hw => ?_)
  try dsimp only at hw
  exact w_lret C () hw rfl (Nat.le_of_ble_eq_true rfl) (Nat.le_of_ble_eq_true rfl) dX1_greatest_12
def blk_X1_canMerge_135 (t_sort : Int32) (t_digits : Int32) (t_highest : Int64) (t_units : Nat → Int64) (o_sort : Int32) (o_digits : Int32) (o_slots : Int32) (o_pages : Int32) (o_units : Nat → Int64) (o_kinds : Nat → Int32) (K48 : Int32 → Int64 → Int32 → Prop) (K72 : Int32 → Int64 → Int32 → Prop) (Q : Int32 → Prop) (x2 : Int32) (x7 : Int32) (x8 : Int32) (x9 : Int32) (x10 : Int64) (x12 : Int32) (k0 : Int64) : Prop := ∀ x5_141 : Int64, x5_141 = (k0 + (((x2).toInt64) * x10)) → ∀ x4_145 : Int32, x4_145 = x12 → ((x5_141 < (0 : Int64) → (Q (0 : Int32))) ∧ (¬ x5_141 < (0 : Int64) → (((x5_141 ≤ (1000000000000000 : Int64) → (∀ x9_165 : Int32, x9_165 = x9 + (1 : Int32) → K72 x4_145 x5_141 x9_165)) ∧ (¬ x5_141 ≤ (1000000000000000 : Int64) → (Q (0 : Int32)))))))
def blk_X1_canMerge_115 (t_sort : Int32) (t_digits : Int32) (t_highest : Int64) (t_units : Nat → Int64) (o_sort : Int32) (o_digits : Int32) (o_slots : Int32) (o_pages : Int32) (o_units : Nat → Int64) (o_kinds : Nat → Int32) (K48 : Int32 → Int64 → Int32 → Prop) (K72 : Int32 → Int64 → Int32 → Prop) (Q : Int32 → Prop) (x2 : Int32) (x4 : Int32) (x5 : Int64) (x7 : Int32) (x8 : Int32) (x9 : Int32) (x10 : Int64) (k0 : Int32) : Prop := ∀ x12_115 : Int32, x12_115 = k0 → ((¬ x12_115 = x4 → (wp_X1_unitsOf x12_115 t_units (fun (r_132 : Int64) => (blk_X1_canMerge_135 t_sort t_digits t_highest t_units o_sort o_digits o_slots o_pages o_units o_kinds K48 K72 Q x2 x7 x8 x9 x10 x12_115 r_132)))) ∧ (x12_115 = x4 → ((blk_X1_canMerge_135 t_sort t_digits t_highest t_units o_sort o_digits o_slots o_pages o_units o_kinds K48 K72 Q x2 x7 x8 x9 x10 x12_115 x5))))
def bod_X1_canMerge_72 (t_sort : Int32) (t_digits : Int32) (t_highest : Int64) (t_units : Nat → Int64) (o_sort : Int32) (o_digits : Int32) (o_slots : Int32) (o_pages : Int32) (o_units : Nat → Int64) (o_kinds : Nat → Int32) (K48 : Int32 → Int64 → Int32 → Prop) (Q : Int32 → Prop) (x2 : Int32) (x7 : Int32) (x8 : Int32)  (K72 : Int32 → Int64 → Int32 → Prop) (x4 : Int32) (x5 : Int64) (x9 : Int32) : Prop := ((x8 ≤ x9 → (∀ x7_171 : Int32, x7_171 = x7 + (1 : Int32) → K48 x4 x5 x7_171)) ∧ (¬ x8 ≤ x9 → (wp_X1_unitsOf x9 o_units (fun (r_82 : Int64) => ∀ x10_85 : Int64, x10_85 = r_82 → ((¬ x10_85 = (0 : Int64) → (wp_X7_lowOf o_digits x9  (fun (r_109 : Int64) => wp_X7_slotOf t_digits r_109  (fun (r_112 : Int32) => (blk_X1_canMerge_115 t_sort t_digits t_highest t_units o_sort o_digits o_slots o_pages o_units o_kinds K48 K72 Q x2 x4 x5 x7 x8 x9 x10_85 r_112))))) ∧ (x10_85 = (0 : Int64) → ((blk_X1_canMerge_115 t_sort t_digits t_highest t_units o_sort o_digits o_slots o_pages o_units o_kinds K48 K72 Q x2 x4 x5 x7 x8 x9 x10_85 x4))))))))
def lp_X1_canMerge_72 (t_sort : Int32) (t_digits : Int32) (t_highest : Int64) (t_units : Nat → Int64) (o_sort : Int32) (o_digits : Int32) (o_slots : Int32) (o_pages : Int32) (o_units : Nat → Int64) (o_kinds : Nat → Int32) (K48 : Int32 → Int64 → Int32 → Prop) (Q : Int32 → Prop) (x2 : Int32) (x7 : Int32) (x8 : Int32)  : Nat → Int32 → Int64 → Int32 → Prop
  | 0, _, _, _ => False
  | j + 1, x4, x5, x9 => bod_X1_canMerge_72 t_sort t_digits t_highest t_units o_sort o_digits o_slots o_pages o_units o_kinds K48 Q x2 x7 x8 (fun v0 v1 v2 => lp_X1_canMerge_72 t_sort t_digits t_highest t_units o_sort o_digits o_slots o_pages o_units o_kinds K48 Q x2 x7 x8 j v0 v1 v2) x4 x5 x9
def bod_X1_canMerge_48 (t_sort : Int32) (t_digits : Int32) (t_highest : Int64) (t_units : Nat → Int64) (o_sort : Int32) (o_digits : Int32) (o_slots : Int32) (o_pages : Int32) (o_units : Nat → Int64) (o_kinds : Nat → Int32)  (Q : Int32 → Prop) (x2 : Int32)  (K48 : Int32 → Int64 → Int32 → Prop) (x4 : Int32) (x5 : Int64) (x7 : Int32) : Prop := ((o_pages ≤ x7 → (Q (1 : Int32))) ∧ (¬ o_pages ≤ x7 → (wp_X1_endOf x7 o_slots o_kinds (fun (r_60 : Int32) => ∀ x8_63 : Int32, x8_63 = r_60 → ∀ x9_70 : Int32, x9_70 = ((16 : Int32) * x7) → (∃ j : Nat, lp_X1_canMerge_72 t_sort t_digits t_highest t_units o_sort o_digits o_slots o_pages o_units o_kinds K48 Q x2 x7 x8_63 j x4 x5 x9_70)))))
def lp_X1_canMerge_48 (t_sort : Int32) (t_digits : Int32) (t_highest : Int64) (t_units : Nat → Int64) (o_sort : Int32) (o_digits : Int32) (o_slots : Int32) (o_pages : Int32) (o_units : Nat → Int64) (o_kinds : Nat → Int32)  (Q : Int32 → Prop) (x2 : Int32)  : Nat → Int32 → Int64 → Int32 → Prop
  | 0, _, _, _ => False
  | j + 1, x4, x5, x7 => bod_X1_canMerge_48 t_sort t_digits t_highest t_units o_sort o_digits o_slots o_pages o_units o_kinds  Q x2 (fun v0 v1 v2 => lp_X1_canMerge_48 t_sort t_digits t_highest t_units o_sort o_digits o_slots o_pages o_units o_kinds  Q x2 j v0 v1 v2) x4 x5 x7
def blk_X1_canMerge_39 (t_sort : Int32) (t_digits : Int32) (t_highest : Int64) (t_units : Nat → Int64) (o_sort : Int32) (o_digits : Int32) (o_slots : Int32) (o_pages : Int32) (o_units : Nat → Int64) (o_kinds : Nat → Int32)  (Q : Int32 → Prop) (x2 : Int32) : Prop := ∀ x4_40 : Int32, x4_40 = (-1 : Int32) → ∀ x5_43 : Int64, x5_43 = (0 : Int64) → ∀ x7_46 : Int32, x7_46 = (0 : Int32) → (∃ j : Nat, lp_X1_canMerge_48 t_sort t_digits t_highest t_units o_sort o_digits o_slots o_pages o_units o_kinds  Q x2 j x4_40 x5_43 x7_46)
def wp_X1_canMerge (p1 : Int32) (t_sort : Int32) (t_digits : Int32) (t_highest : Int64) (t_units : Nat → Int64) (o_sort : Int32) (o_digits : Int32) (o_slots : Int32) (o_pages : Int32) (o_units : Nat → Int64) (o_kinds : Nat → Int32) (Q : Int32 → Prop) : Prop := wp_X1_lastUsed  o_slots o_pages o_units o_kinds (fun (r_1 : Int32) => ∀ x3_4 : Int32, x3_4 = r_1 → ((¬ t_sort = o_sort → (Q (0 : Int32))) ∧ (t_sort = o_sort → (((x3_4 = (-1 : Int32) → ((blk_X1_canMerge_39 t_sort t_digits t_highest t_units o_sort o_digits o_slots o_pages o_units o_kinds  Q p1))) ∧ (¬ x3_4 = (-1 : Int32) → (wp_X7_lowOf o_digits x3_4  (fun (r_26 : Int64) => ((r_26 ≤ t_highest → ((blk_X1_canMerge_39 t_sort t_digits t_highest t_units o_sort o_digits o_slots o_pages o_units o_kinds  Q p1))) ∧ (¬ r_26 ≤ t_highest → (Q (0 : Int32))))))))))))
set_option maxHeartbeats 4000000 in
set_option maxRecDepth 100000 in
theorem wk_X1_canMerge_135 {p : Program} {l : Launch} {e : Env} {s : State} {m : MethodId} {args : Array Value} {below : List Frame} {meth : Method} {c : Code} {D : va_G} {cB cI cJ cL cS : ClassId} {T : Nat × Nat × Nat × Nat} {A : Nat → Prop} {a : Nat → Nat} {b : Nat → Nat} {t_made : Int32} {t_sort : Int32} {t_digits : Int32} {t_slots : Int32} {t_pages : Int32} {t_highest : Int64} {t_units : Nat → Int64} {t_kinds : Nat → Int32} {t_rows : Nat → Int32} {t_marks : Nat → Int32} {o_made : Int32} {o_sort : Int32} {o_digits : Int32} {o_slots : Int32} {o_pages : Int32} {o_highest : Int64} {o_units : Nat → Int64} {o_kinds : Nat → Int32} {o_rows : Nat → Int32} {o_marks : Nat → Int32} {Q : Int32 → Prop} (C : Cq p s m args meth c D (Z5 cB cI cJ cL cS) T A cX1_canMerge RX1 13 (Option.some Jvm.ClassFile.FieldType.boolean)) {x2 : Int32} {x7 : Int32} {x8 : Int32} {x9 : Int32} {x10 : Int64} {x12 : Int32} {k0 : Int64} {K48 : Int32 → Int64 → Int32 → Prop} (hK48 : ∀ (y4 : Int32) (y5 : Int64) (y7 : Int32), K48 y4 y5 y7 → ww p l e ({ frames := 3, cells := 0, slots := 0, locals := 76 } : Room) s m args below meth c D A 13 (MQ below (va_Qi (fun (r : Int32) (u : Unit) => Q r ) (OutP D (fun (u : Unit) => (wL cB cI cJ a t_made t_sort t_digits t_slots t_pages t_highest t_units t_kinds t_rows t_marks ++ (wL cB cI cJ b o_made o_sort o_digits o_slots o_pages o_highest o_units o_kinds o_rows o_marks)))) A) args s 0 0 A) 0 0 (wL cB cI cJ a t_made t_sort t_digits t_slots t_pages t_highest t_units t_kinds t_rows t_marks ++ (wL cB cI cJ b o_made o_sort o_digits o_slots o_pages o_highest o_units o_kinds o_rows o_marks)) 48 [(0, .ref (a 0)), (1, .ref (b 0)), (2, .int x2), (4, .int y4), (5, .long y5), (7, .int y7)] []) {K72 : Int32 → Int64 → Int32 → Prop} (hK72 : ∀ (y4 : Int32) (y5 : Int64) (y9 : Int32), K72 y4 y5 y9 → ww p l e ({ frames := 3, cells := 0, slots := 0, locals := 76 } : Room) s m args below meth c D A 13 (MQ below (va_Qi (fun (r : Int32) (u : Unit) => Q r ) (OutP D (fun (u : Unit) => (wL cB cI cJ a t_made t_sort t_digits t_slots t_pages t_highest t_units t_kinds t_rows t_marks ++ (wL cB cI cJ b o_made o_sort o_digits o_slots o_pages o_highest o_units o_kinds o_rows o_marks)))) A) args s 0 0 A) 0 0 (wL cB cI cJ a t_made t_sort t_digits t_slots t_pages t_highest t_units t_kinds t_rows t_marks ++ (wL cB cI cJ b o_made o_sort o_digits o_slots o_pages o_highest o_units o_kinds o_rows o_marks)) 72 [(0, .ref (a 0)), (1, .ref (b 0)), (2, .int x2), (4, .int y4), (5, .long y5), (7, .int x7), (8, .int x8), (9, .int y9)] []) (hw : blk_X1_canMerge_135 t_sort t_digits t_highest t_units o_sort o_digits o_slots o_pages o_units o_kinds K48 K72 Q x2 x7 x8 x9 x10 x12 k0) : ww p l e ({ frames := 3, cells := 0, slots := 0, locals := 76 } : Room) s m args below meth c D A 13 (MQ below (va_Qi (fun (r : Int32) (u : Unit) => Q r ) (OutP D (fun (u : Unit) => (wL cB cI cJ a t_made t_sort t_digits t_slots t_pages t_highest t_units t_kinds t_rows t_marks ++ (wL cB cI cJ b o_made o_sort o_digits o_slots o_pages o_highest o_units o_kinds o_rows o_marks)))) A) args s 0 0 A) 0 0 (wL cB cI cJ a t_made t_sort t_digits t_slots t_pages t_highest t_units t_kinds t_rows t_marks ++ (wL cB cI cJ b o_made o_sort o_digits o_slots o_pages o_highest o_units o_kinds o_rows o_marks)) 135 [(0, .ref (a 0)), (1, .ref (b 0)), (2, .int x2), (7, .int x7), (8, .int x8), (9, .int x9), (10, .long x10), (12, .int x12)] [.long k0] := by
  unfold blk_X1_canMerge_135 at hw
  refine w_iload_n C 2 dX1_canMerge_135 rfl ?_
  refine w_i2l C dX1_canMerge_136 ?_
  refine w_lload C 6 dX1_canMerge_137 rfl ?_
  refine w_lmul C dX1_canMerge_139 ?_
  refine w_ladd C dX1_canMerge_140 ?_
  refine w_lstore C (fun x5_141 => [(5, .long x5_141), (0, .ref (a 0)), (1, .ref (b 0)), (2, .int x2), (7, .int x7), (8, .int x8), (9, .int x9), (10, .long x10), (12, .int x12)]) dX1_canMerge_141 (by decide) (fun _ => rfl) (fun x5_141 e_x5_141 => ?_)
  replace hw := hw x5_141 e_x5_141
  refine w_iload C 8 dX1_canMerge_143 rfl ?_
  refine w_istore C (fun x4_145 => [(4, .int x4_145), (5, .long x5_141), (0, .ref (a 0)), (1, .ref (b 0)), (2, .int x2), (7, .int x7), (8, .int x8), (9, .int x9), (10, .long x10), (12, .int x12)]) dX1_canMerge_145 (by decide) (fun _ => rfl) (fun x4_145 e_x4_145 => ?_)
  replace hw := hw x4_145 e_x4_145
  refine w_lload C 1 dX1_canMerge_147 rfl ?_
  refine w_lconst C (v := (0 : Int64)) dX1_canMerge_149 (by decide) ?_
  refine w_lcmp_lt C 151 163 rfl (by decide) dX1_canMerge_150 dX1_canMerge_151 (fun c_150 => ?_) (fun c_150 => ?_)
  · replace hw := hw.1 c_150
    refine w_iconst C (v := (0 : Int32)) dX1_canMerge_163 (by decide) ?_
    exact w_zret C () (Or.inl rfl) hw rfl (Nat.le_of_ble_eq_true rfl) (Nat.le_of_ble_eq_true rfl) dX1_canMerge_164
  · replace hw := hw.2 c_150
    refine w_lload C 1 dX1_canMerge_154 rfl ?_
    refine w_ldc2 C (v := (1000000000000000 : Int64)) dX1_canMerge_156 k_522 ?_
    refine w_lcmp_le C 160 165 rfl (by decide) dX1_canMerge_159 dX1_canMerge_160 (fun c_159 => ?_) (fun c_159 => ?_)
    · replace hw := hw.1 c_159
      refine w_iinc C (v := x9 + (1 : Int32)) 7 (fun x9_165 => [(9, .int x9_165), (4, .int x4_145), (5, .long x5_141), (0, .ref (a 0)), (1, .ref (b 0)), (2, .int x2), (7, .int x7), (8, .int x8), (10, .long x10), (12, .int x12)]) dX1_canMerge_165 rfl rfl (by decide) (fun _ => rfl) (fun x9_165 e_x9_165 => ?_)
      replace hw := hw x9_165 e_x9_165
      refine w_goto C 72 (by decide) dX1_canMerge_168 ?_
      refine w_sub (lv' := [(0, .ref (a 0)), (1, .ref (b 0)), (2, .int x2), (4, .int x4_145), (5, .long x5_141), (7, .int x7), (8, .int x8), (9, .int x9_165)]) C [3, 4, 5, 1, 2, 6, 7, 0] rfl ?_
      exact hK72 _ _ _ hw
    · replace hw := hw.2 c_159
      refine w_iconst C (v := (0 : Int32)) dX1_canMerge_163 (by decide) ?_
      exact w_zret C () (Or.inl rfl) hw rfl (Nat.le_of_ble_eq_true rfl) (Nat.le_of_ble_eq_true rfl) dX1_canMerge_164
set_option maxHeartbeats 4000000 in
set_option maxRecDepth 100000 in
theorem wk_X1_canMerge_115 {p : Program} {l : Launch} {e : Env} {s : State} {m : MethodId} {args : Array Value} {below : List Frame} {meth : Method} {c : Code} {D : va_G} {cB cI cJ cL cS : ClassId} {T : Nat × Nat × Nat × Nat} {A : Nat → Prop} {a : Nat → Nat} {b : Nat → Nat} {t_made : Int32} {t_sort : Int32} {t_digits : Int32} {t_slots : Int32} {t_pages : Int32} {t_highest : Int64} {t_units : Nat → Int64} {t_kinds : Nat → Int32} {t_rows : Nat → Int32} {t_marks : Nat → Int32} {o_made : Int32} {o_sort : Int32} {o_digits : Int32} {o_slots : Int32} {o_pages : Int32} {o_highest : Int64} {o_units : Nat → Int64} {o_kinds : Nat → Int32} {o_rows : Nat → Int32} {o_marks : Nat → Int32} {Q : Int32 → Prop} (C : Cq p s m args meth c D (Z5 cB cI cJ cL cS) T A cX1_canMerge RX1 13 (Option.some Jvm.ClassFile.FieldType.boolean)) {x2 : Int32} {x4 : Int32} {x5 : Int64} {x7 : Int32} {x8 : Int32} {x9 : Int32} {x10 : Int64} {k0 : Int32} {K48 : Int32 → Int64 → Int32 → Prop} (hK48 : ∀ (y4 : Int32) (y5 : Int64) (y7 : Int32), K48 y4 y5 y7 → ww p l e ({ frames := 3, cells := 0, slots := 0, locals := 76 } : Room) s m args below meth c D A 13 (MQ below (va_Qi (fun (r : Int32) (u : Unit) => Q r ) (OutP D (fun (u : Unit) => (wL cB cI cJ a t_made t_sort t_digits t_slots t_pages t_highest t_units t_kinds t_rows t_marks ++ (wL cB cI cJ b o_made o_sort o_digits o_slots o_pages o_highest o_units o_kinds o_rows o_marks)))) A) args s 0 0 A) 0 0 (wL cB cI cJ a t_made t_sort t_digits t_slots t_pages t_highest t_units t_kinds t_rows t_marks ++ (wL cB cI cJ b o_made o_sort o_digits o_slots o_pages o_highest o_units o_kinds o_rows o_marks)) 48 [(0, .ref (a 0)), (1, .ref (b 0)), (2, .int x2), (4, .int y4), (5, .long y5), (7, .int y7)] []) {K72 : Int32 → Int64 → Int32 → Prop} (hK72 : ∀ (y4 : Int32) (y5 : Int64) (y9 : Int32), K72 y4 y5 y9 → ww p l e ({ frames := 3, cells := 0, slots := 0, locals := 76 } : Room) s m args below meth c D A 13 (MQ below (va_Qi (fun (r : Int32) (u : Unit) => Q r ) (OutP D (fun (u : Unit) => (wL cB cI cJ a t_made t_sort t_digits t_slots t_pages t_highest t_units t_kinds t_rows t_marks ++ (wL cB cI cJ b o_made o_sort o_digits o_slots o_pages o_highest o_units o_kinds o_rows o_marks)))) A) args s 0 0 A) 0 0 (wL cB cI cJ a t_made t_sort t_digits t_slots t_pages t_highest t_units t_kinds t_rows t_marks ++ (wL cB cI cJ b o_made o_sort o_digits o_slots o_pages o_highest o_units o_kinds o_rows o_marks)) 72 [(0, .ref (a 0)), (1, .ref (b 0)), (2, .int x2), (4, .int y4), (5, .long y5), (7, .int x7), (8, .int x8), (9, .int y9)] []) (hw : blk_X1_canMerge_115 t_sort t_digits t_highest t_units o_sort o_digits o_slots o_pages o_units o_kinds K48 K72 Q x2 x4 x5 x7 x8 x9 x10 k0) : ww p l e ({ frames := 3, cells := 0, slots := 0, locals := 76 } : Room) s m args below meth c D A 13 (MQ below (va_Qi (fun (r : Int32) (u : Unit) => Q r ) (OutP D (fun (u : Unit) => (wL cB cI cJ a t_made t_sort t_digits t_slots t_pages t_highest t_units t_kinds t_rows t_marks ++ (wL cB cI cJ b o_made o_sort o_digits o_slots o_pages o_highest o_units o_kinds o_rows o_marks)))) A) args s 0 0 A) 0 0 (wL cB cI cJ a t_made t_sort t_digits t_slots t_pages t_highest t_units t_kinds t_rows t_marks ++ (wL cB cI cJ b o_made o_sort o_digits o_slots o_pages o_highest o_units o_kinds o_rows o_marks)) 115 [(0, .ref (a 0)), (1, .ref (b 0)), (2, .int x2), (4, .int x4), (5, .long x5), (7, .int x7), (8, .int x8), (9, .int x9), (10, .long x10)] [.int k0] := by
  unfold blk_X1_canMerge_115 at hw
  refine w_istore C (fun x12_115 => [(12, .int x12_115), (0, .ref (a 0)), (1, .ref (b 0)), (2, .int x2), (4, .int x4), (5, .long x5), (7, .int x7), (8, .int x8), (9, .int x9), (10, .long x10)]) dX1_canMerge_115 (by decide) (fun _ => rfl) (fun x12_115 e_x12_115 => ?_)
  replace hw := hw x12_115 e_x12_115
  refine w_iload C 0 dX1_canMerge_117 rfl ?_
  refine w_iload C 4 dX1_canMerge_119 rfl ?_
  refine w_icmp_ne C 129 (by decide) dX1_canMerge_121 (fun c_121 => ?_) (fun c_121 => ?_)
  · replace hw := hw.1 c_121
    refine w_aload_n C 1 dX1_canMerge_129 rfl ?_
    refine w_iload C 0 dX1_canMerge_130 rfl ?_
    refine w_callPL C (c_X1_unitsOf hw) f_X1_unitsOf k_290 k_288 rfl ⟨Nat.le_of_ble_eq_true rfl, Nat.le_of_ble_eq_true rfl⟩ rfl rfl ⟨Nat.le_of_ble_eq_true rfl, Nat.le_of_ble_eq_true rfl⟩ 0 rfl (rr := (RX1, TX1, 10)) rfl rfl (wL cB cI cJ b o_made o_sort o_digits o_slots o_pages o_highest o_units o_kinds o_rows o_marks) (fun (u : Unit) => (wL cB cI cJ a t_made t_sort t_digits t_slots t_pages t_highest t_units t_kinds t_rows t_marks ++ (wL cB cI cJ b o_made o_sort o_digits o_slots o_pages o_highest o_units o_kinds o_rows o_marks))) [0, 1, 2, 3, 4] [5, 6, 7, 8, 9] [5, 6, 7, 8, 9, 0, 1, 2, 3, 4] rfl rfl (by decide) (by decide) (by decide) (by decide) (fun _ => rfl) (fun _ => rfl) rfl (Nat.le_of_ble_eq_true rfl) dX1_canMerge_132 (fun r_132 u_132 hw => ?_)
    try dsimp only at hw
    refine w_sub (lv' := [(0, .ref (a 0)), (1, .ref (b 0)), (2, .int x2), (7, .int x7), (8, .int x8), (9, .int x9), (10, .long x10), (12, .int x12_115)]) C [1, 2, 3, 6, 7, 8, 9, 0] rfl ?_
    exact wk_X1_canMerge_135 C hK48 hK72 hw
  · replace hw := hw.2 c_121
    refine w_lload C 5 dX1_canMerge_124 rfl ?_
    refine w_goto C 135 (by decide) dX1_canMerge_126 ?_
    refine w_sub (lv' := [(0, .ref (a 0)), (1, .ref (b 0)), (2, .int x2), (7, .int x7), (8, .int x8), (9, .int x9), (10, .long x10), (12, .int x12_115)]) C [1, 2, 3, 6, 7, 8, 9, 0] rfl ?_
    exact wk_X1_canMerge_135 C hK48 hK72 hw
set_option maxHeartbeats 4000000 in
set_option maxRecDepth 100000 in
theorem wl_X1_canMerge_72 {p : Program} {l : Launch} {e : Env} {s : State} {m : MethodId} {args : Array Value} {below : List Frame} {meth : Method} {c : Code} {D : va_G} {cB cI cJ cL cS : ClassId} {T : Nat × Nat × Nat × Nat} {A : Nat → Prop} {a : Nat → Nat} {b : Nat → Nat} {t_made : Int32} {t_sort : Int32} {t_digits : Int32} {t_slots : Int32} {t_pages : Int32} {t_highest : Int64} {t_units : Nat → Int64} {t_kinds : Nat → Int32} {t_rows : Nat → Int32} {t_marks : Nat → Int32} {o_made : Int32} {o_sort : Int32} {o_digits : Int32} {o_slots : Int32} {o_pages : Int32} {o_highest : Int64} {o_units : Nat → Int64} {o_kinds : Nat → Int32} {o_rows : Nat → Int32} {o_marks : Nat → Int32} {Q : Int32 → Prop} (C : Cq p s m args meth c D (Z5 cB cI cJ cL cS) T A cX1_canMerge RX1 13 (Option.some Jvm.ClassFile.FieldType.boolean)) {x2 : Int32} {x7 : Int32} {x8 : Int32}  {K48 : Int32 → Int64 → Int32 → Prop} (hK48 : ∀ (y4 : Int32) (y5 : Int64) (y7 : Int32), K48 y4 y5 y7 → ww p l e ({ frames := 3, cells := 0, slots := 0, locals := 76 } : Room) s m args below meth c D A 13 (MQ below (va_Qi (fun (r : Int32) (u : Unit) => Q r ) (OutP D (fun (u : Unit) => (wL cB cI cJ a t_made t_sort t_digits t_slots t_pages t_highest t_units t_kinds t_rows t_marks ++ (wL cB cI cJ b o_made o_sort o_digits o_slots o_pages o_highest o_units o_kinds o_rows o_marks)))) A) args s 0 0 A) 0 0 (wL cB cI cJ a t_made t_sort t_digits t_slots t_pages t_highest t_units t_kinds t_rows t_marks ++ (wL cB cI cJ b o_made o_sort o_digits o_slots o_pages o_highest o_units o_kinds o_rows o_marks)) 48 [(0, .ref (a 0)), (1, .ref (b 0)), (2, .int x2), (4, .int y4), (5, .long y5), (7, .int y7)] []) : ∀ (j : Nat) (x4 : Int32) (x5 : Int64) (x9 : Int32), lp_X1_canMerge_72 t_sort t_digits t_highest t_units o_sort o_digits o_slots o_pages o_units o_kinds K48 Q x2 x7 x8 j x4 x5 x9 → ww p l e ({ frames := 3, cells := 0, slots := 0, locals := 76 } : Room) s m args below meth c D A 13 (MQ below (va_Qi (fun (r : Int32) (u : Unit) => Q r ) (OutP D (fun (u : Unit) => (wL cB cI cJ a t_made t_sort t_digits t_slots t_pages t_highest t_units t_kinds t_rows t_marks ++ (wL cB cI cJ b o_made o_sort o_digits o_slots o_pages o_highest o_units o_kinds o_rows o_marks)))) A) args s 0 0 A) 0 0 (wL cB cI cJ a t_made t_sort t_digits t_slots t_pages t_highest t_units t_kinds t_rows t_marks ++ (wL cB cI cJ b o_made o_sort o_digits o_slots o_pages o_highest o_units o_kinds o_rows o_marks)) 72 [(0, .ref (a 0)), (1, .ref (b 0)), (2, .int x2), (4, .int x4), (5, .long x5), (7, .int x7), (8, .int x8), (9, .int x9)] [] := by
  intro j
  induction j with
  | zero => intro _ _ _ hw; exact hw.elim
  | succ j hK72 =>
    intro x4 x5 x9 hw
    have hw : bod_X1_canMerge_72 t_sort t_digits t_highest t_units o_sort o_digits o_slots o_pages o_units o_kinds K48 Q x2 x7 x8 (fun v0 v1 v2 => lp_X1_canMerge_72 t_sort t_digits t_highest t_units o_sort o_digits o_slots o_pages o_units o_kinds K48 Q x2 x7 x8 j v0 v1 v2) x4 x5 x9 := hw
    unfold bod_X1_canMerge_72 at hw
    refine w_iload C 7 dX1_canMerge_72 rfl ?_
    refine w_iload C 6 dX1_canMerge_74 rfl ?_
    refine w_icmp_ge C 171 (by decide) dX1_canMerge_76 (fun c_76 => ?_) (fun c_76 => ?_)
    · replace hw := hw.1 c_76
      refine w_iinc C (v := x7 + (1 : Int32)) 5 (fun x7_171 => [(7, .int x7_171), (0, .ref (a 0)), (1, .ref (b 0)), (2, .int x2), (4, .int x4), (5, .long x5), (8, .int x8), (9, .int x9)]) dX1_canMerge_171 rfl rfl (by decide) (fun _ => rfl) (fun x7_171 e_x7_171 => ?_)
      replace hw := hw x7_171 e_x7_171
      refine w_goto C 48 (by decide) dX1_canMerge_174 ?_
      refine w_sub (lv' := [(0, .ref (a 0)), (1, .ref (b 0)), (2, .int x2), (4, .int x4), (5, .long x5), (7, .int x7_171)]) C [1, 2, 3, 4, 5, 0] rfl ?_
      exact hK48 _ _ _ hw
    · replace hw := hw.2 c_76
      refine w_aload_n C 1 dX1_canMerge_79 rfl ?_
      refine w_iload C 7 dX1_canMerge_80 rfl ?_
      refine w_callPL C (c_X1_unitsOf hw) f_X1_unitsOf k_290 k_288 rfl ⟨Nat.le_of_ble_eq_true rfl, Nat.le_of_ble_eq_true rfl⟩ rfl rfl ⟨Nat.le_of_ble_eq_true rfl, Nat.le_of_ble_eq_true rfl⟩ 0 rfl (rr := (RX1, TX1, 10)) rfl rfl (wL cB cI cJ a t_made t_sort t_digits t_slots t_pages t_highest t_units t_kinds t_rows t_marks) (fun (u : Unit) => (wL cB cI cJ a t_made t_sort t_digits t_slots t_pages t_highest t_units t_kinds t_rows t_marks ++ (wL cB cI cJ b o_made o_sort o_digits o_slots o_pages o_highest o_units o_kinds o_rows o_marks))) [5, 6, 7, 8, 9] [0, 1, 2, 3, 4] [0, 1, 2, 3, 4, 5, 6, 7, 8, 9] rfl rfl (by decide) (by decide) (by decide) (by decide) (fun _ => rfl) (fun _ => rfl) rfl (Nat.le_of_ble_eq_true rfl) dX1_canMerge_82 (fun r_82 u_82 hw => ?_)
      try dsimp only at hw
      refine w_lstore C (fun x10_85 => [(10, .long x10_85), (0, .ref (a 0)), (1, .ref (b 0)), (2, .int x2), (4, .int x4), (5, .long x5), (7, .int x7), (8, .int x8), (9, .int x9)]) dX1_canMerge_85 (by decide) (fun _ => rfl) (fun x10_85 e_x10_85 => ?_)
      replace hw := hw x10_85 e_x10_85
      refine w_lload C 0 dX1_canMerge_87 rfl ?_
      refine w_lconst C (v := (0 : Int64)) dX1_canMerge_89 (by decide) ?_
      refine w_lcmp_ne C 91 99 rfl (by decide) dX1_canMerge_90 dX1_canMerge_91 (fun c_90 => ?_) (fun c_90 => ?_)
      · replace hw := hw.1 c_90
        refine w_aload_n C 1 dX1_canMerge_99 rfl ?_
        refine w_get C (T1 := TX1) 0 2 u_X1 k_150 rfl (by decide) rfl rfl dX1_canMerge_100 ?_
        refine w_aload_n C 2 dX1_canMerge_103 rfl ?_
        refine w_get C (T1 := TX1) 5 2 u_X1 k_150 rfl (by decide) rfl rfl dX1_canMerge_104 ?_
        refine w_iload C 8 dX1_canMerge_107 rfl ?_
        refine w_callSLN C (c_X7_lowOf hw) f_X7_lowOf n_521 rfl ⟨Nat.le_of_ble_eq_true rfl, Nat.le_of_ble_eq_true rfl⟩ rfl rfl ⟨Nat.le_of_ble_eq_true rfl, Nat.le_of_ble_eq_true rfl⟩ rfl (Nat.le_of_ble_eq_true rfl) dX1_canMerge_109 (fun r_109 u_109 hw => ?_)
        try dsimp only at hw
        refine w_callSIN C (c_X7_slotOf hw) f_X7_slotOf n_425 rfl ⟨Nat.le_of_ble_eq_true rfl, Nat.le_of_ble_eq_true rfl⟩ rfl rfl ⟨Nat.le_of_ble_eq_true rfl, Nat.le_of_ble_eq_true rfl⟩ rfl (Nat.le_of_ble_eq_true rfl) dX1_canMerge_112 (fun r_112 u_112 hw => ?_)
        try dsimp only at hw
        refine w_sub (lv' := [(0, .ref (a 0)), (1, .ref (b 0)), (2, .int x2), (4, .int x4), (5, .long x5), (7, .int x7), (8, .int x8), (9, .int x9), (10, .long x10_85)]) C [1, 2, 3, 4, 5, 6, 7, 8, 0] rfl ?_
        exact wk_X1_canMerge_115 C hK48 hK72 hw
      · replace hw := hw.2 c_90
        refine w_iload C 4 dX1_canMerge_94 rfl ?_
        refine w_goto C 115 (by decide) dX1_canMerge_96 ?_
        refine w_sub (lv' := [(0, .ref (a 0)), (1, .ref (b 0)), (2, .int x2), (4, .int x4), (5, .long x5), (7, .int x7), (8, .int x8), (9, .int x9), (10, .long x10_85)]) C [1, 2, 3, 4, 5, 6, 7, 8, 0] rfl ?_
        exact wk_X1_canMerge_115 C hK48 hK72 hw
set_option maxHeartbeats 4000000 in
set_option maxRecDepth 100000 in
theorem wl_X1_canMerge_48 {p : Program} {l : Launch} {e : Env} {s : State} {m : MethodId} {args : Array Value} {below : List Frame} {meth : Method} {c : Code} {D : va_G} {cB cI cJ cL cS : ClassId} {T : Nat × Nat × Nat × Nat} {A : Nat → Prop} {a : Nat → Nat} {b : Nat → Nat} {t_made : Int32} {t_sort : Int32} {t_digits : Int32} {t_slots : Int32} {t_pages : Int32} {t_highest : Int64} {t_units : Nat → Int64} {t_kinds : Nat → Int32} {t_rows : Nat → Int32} {t_marks : Nat → Int32} {o_made : Int32} {o_sort : Int32} {o_digits : Int32} {o_slots : Int32} {o_pages : Int32} {o_highest : Int64} {o_units : Nat → Int64} {o_kinds : Nat → Int32} {o_rows : Nat → Int32} {o_marks : Nat → Int32} {Q : Int32 → Prop} (C : Cq p s m args meth c D (Z5 cB cI cJ cL cS) T A cX1_canMerge RX1 13 (Option.some Jvm.ClassFile.FieldType.boolean)) {x2 : Int32}   : ∀ (j : Nat) (x4 : Int32) (x5 : Int64) (x7 : Int32), lp_X1_canMerge_48 t_sort t_digits t_highest t_units o_sort o_digits o_slots o_pages o_units o_kinds  Q x2 j x4 x5 x7 → ww p l e ({ frames := 3, cells := 0, slots := 0, locals := 76 } : Room) s m args below meth c D A 13 (MQ below (va_Qi (fun (r : Int32) (u : Unit) => Q r ) (OutP D (fun (u : Unit) => (wL cB cI cJ a t_made t_sort t_digits t_slots t_pages t_highest t_units t_kinds t_rows t_marks ++ (wL cB cI cJ b o_made o_sort o_digits o_slots o_pages o_highest o_units o_kinds o_rows o_marks)))) A) args s 0 0 A) 0 0 (wL cB cI cJ a t_made t_sort t_digits t_slots t_pages t_highest t_units t_kinds t_rows t_marks ++ (wL cB cI cJ b o_made o_sort o_digits o_slots o_pages o_highest o_units o_kinds o_rows o_marks)) 48 [(0, .ref (a 0)), (1, .ref (b 0)), (2, .int x2), (4, .int x4), (5, .long x5), (7, .int x7)] [] := by
  intro j
  induction j with
  | zero => intro _ _ _ hw; exact hw.elim
  | succ j hK48 =>
    intro x4 x5 x7 hw
    have hw : bod_X1_canMerge_48 t_sort t_digits t_highest t_units o_sort o_digits o_slots o_pages o_units o_kinds  Q x2 (fun v0 v1 v2 => lp_X1_canMerge_48 t_sort t_digits t_highest t_units o_sort o_digits o_slots o_pages o_units o_kinds  Q x2 j v0 v1 v2) x4 x5 x7 := hw
    unfold bod_X1_canMerge_48 at hw
    refine w_iload C 5 dX1_canMerge_48 rfl ?_
    refine w_aload_n C 1 dX1_canMerge_50 rfl ?_
    refine w_get C (T1 := TX1) 5 4 u_X1 k_154 rfl (by decide) rfl rfl dX1_canMerge_51 ?_
    refine w_icmp_ge C 177 (by decide) dX1_canMerge_54 (fun c_54 => ?_) (fun c_54 => ?_)
    · replace hw := hw.1 c_54
      refine w_iconst C (v := (1 : Int32)) dX1_canMerge_177 (by decide) ?_
      exact w_zret C () (Or.inr rfl) hw rfl (Nat.le_of_ble_eq_true rfl) (Nat.le_of_ble_eq_true rfl) dX1_canMerge_178
    · replace hw := hw.2 c_54
      refine w_aload_n C 1 dX1_canMerge_57 rfl ?_
      refine w_iload C 5 dX1_canMerge_58 rfl ?_
      refine w_callPI C (c_X1_endOf hw) f_X1_endOf k_2 k_277 rfl ⟨Nat.le_of_ble_eq_true rfl, Nat.le_of_ble_eq_true rfl⟩ rfl rfl ⟨Nat.le_of_ble_eq_true rfl, Nat.le_of_ble_eq_true rfl⟩ 0 rfl (rr := (RX1, TX1, 10)) rfl rfl (wL cB cI cJ a t_made t_sort t_digits t_slots t_pages t_highest t_units t_kinds t_rows t_marks) (fun (u : Unit) => (wL cB cI cJ a t_made t_sort t_digits t_slots t_pages t_highest t_units t_kinds t_rows t_marks ++ (wL cB cI cJ b o_made o_sort o_digits o_slots o_pages o_highest o_units o_kinds o_rows o_marks))) [5, 6, 7, 8, 9] [0, 1, 2, 3, 4] [0, 1, 2, 3, 4, 5, 6, 7, 8, 9] rfl rfl (by decide) (by decide) (by decide) (by decide) (fun _ => rfl) (fun _ => rfl) rfl (Nat.le_of_ble_eq_true rfl) dX1_canMerge_60 (fun r_60 u_60 hw => ?_)
      try dsimp only at hw
      refine w_istore C (fun x8_63 => [(8, .int x8_63), (0, .ref (a 0)), (1, .ref (b 0)), (2, .int x2), (4, .int x4), (5, .long x5), (7, .int x7)]) dX1_canMerge_63 (by decide) (fun _ => rfl) (fun x8_63 e_x8_63 => ?_)
      replace hw := hw x8_63 e_x8_63
      refine w_bipush C (v := (16 : Int32)) dX1_canMerge_65 (by decide) ?_
      refine w_iload C 6 dX1_canMerge_67 rfl ?_
      refine w_imul C dX1_canMerge_69 ?_
      refine w_istore C (fun x9_70 => [(9, .int x9_70), (8, .int x8_63), (0, .ref (a 0)), (1, .ref (b 0)), (2, .int x2), (4, .int x4), (5, .long x5), (7, .int x7)]) dX1_canMerge_70 (by decide) (fun _ => rfl) (fun x9_70 e_x9_70 => ?_)
      replace hw := hw x9_70 e_x9_70
      refine w_sub (lv' := [(0, .ref (a 0)), (1, .ref (b 0)), (2, .int x2), (4, .int x4), (5, .long x5), (7, .int x7), (8, .int x8_63), (9, .int x9_70)]) C [2, 3, 4, 5, 6, 7, 1, 0] rfl ?_
      obtain ⟨j, hw⟩ := hw
      exact wl_X1_canMerge_72 C hK48 j _ _ _ hw
set_option maxHeartbeats 4000000 in
set_option maxRecDepth 100000 in
theorem wk_X1_canMerge_39 {p : Program} {l : Launch} {e : Env} {s : State} {m : MethodId} {args : Array Value} {below : List Frame} {meth : Method} {c : Code} {D : va_G} {cB cI cJ cL cS : ClassId} {T : Nat × Nat × Nat × Nat} {A : Nat → Prop} {a : Nat → Nat} {b : Nat → Nat} {t_made : Int32} {t_sort : Int32} {t_digits : Int32} {t_slots : Int32} {t_pages : Int32} {t_highest : Int64} {t_units : Nat → Int64} {t_kinds : Nat → Int32} {t_rows : Nat → Int32} {t_marks : Nat → Int32} {o_made : Int32} {o_sort : Int32} {o_digits : Int32} {o_slots : Int32} {o_pages : Int32} {o_highest : Int64} {o_units : Nat → Int64} {o_kinds : Nat → Int32} {o_rows : Nat → Int32} {o_marks : Nat → Int32} {Q : Int32 → Prop} (C : Cq p s m args meth c D (Z5 cB cI cJ cL cS) T A cX1_canMerge RX1 13 (Option.some Jvm.ClassFile.FieldType.boolean)) {x2 : Int32}  (hw : blk_X1_canMerge_39 t_sort t_digits t_highest t_units o_sort o_digits o_slots o_pages o_units o_kinds  Q x2) : ww p l e ({ frames := 3, cells := 0, slots := 0, locals := 76 } : Room) s m args below meth c D A 13 (MQ below (va_Qi (fun (r : Int32) (u : Unit) => Q r ) (OutP D (fun (u : Unit) => (wL cB cI cJ a t_made t_sort t_digits t_slots t_pages t_highest t_units t_kinds t_rows t_marks ++ (wL cB cI cJ b o_made o_sort o_digits o_slots o_pages o_highest o_units o_kinds o_rows o_marks)))) A) args s 0 0 A) 0 0 (wL cB cI cJ a t_made t_sort t_digits t_slots t_pages t_highest t_units t_kinds t_rows t_marks ++ (wL cB cI cJ b o_made o_sort o_digits o_slots o_pages o_highest o_units o_kinds o_rows o_marks)) 39 [(0, .ref (a 0)), (1, .ref (b 0)), (2, .int x2)] [] := by
  unfold blk_X1_canMerge_39 at hw
  refine w_iconst C (v := (-1 : Int32)) dX1_canMerge_39 (by decide) ?_
  refine w_istore C (fun x4_40 => [(4, .int x4_40), (0, .ref (a 0)), (1, .ref (b 0)), (2, .int x2)]) dX1_canMerge_40 (by decide) (fun _ => rfl) (fun x4_40 e_x4_40 => ?_)
  replace hw := hw x4_40 e_x4_40
  refine w_lconst C (v := (0 : Int64)) dX1_canMerge_42 (by decide) ?_
  refine w_lstore C (fun x5_43 => [(5, .long x5_43), (4, .int x4_40), (0, .ref (a 0)), (1, .ref (b 0)), (2, .int x2)]) dX1_canMerge_43 (by decide) (fun _ => rfl) (fun x5_43 e_x5_43 => ?_)
  replace hw := hw x5_43 e_x5_43
  refine w_iconst C (v := (0 : Int32)) dX1_canMerge_45 (by decide) ?_
  refine w_istore C (fun x7_46 => [(7, .int x7_46), (5, .long x5_43), (4, .int x4_40), (0, .ref (a 0)), (1, .ref (b 0)), (2, .int x2)]) dX1_canMerge_46 (by decide) (fun _ => rfl) (fun x7_46 e_x7_46 => ?_)
  replace hw := hw x7_46 e_x7_46
  refine w_sub (lv' := [(0, .ref (a 0)), (1, .ref (b 0)), (2, .int x2), (4, .int x4_40), (5, .long x5_43), (7, .int x7_46)]) C [3, 4, 5, 2, 1, 0] rfl ?_
  obtain ⟨j, hw⟩ := hw
  exact wl_X1_canMerge_48 C  j _ _ _ hw
set_option maxHeartbeats 4000000 in
set_option maxRecDepth 100000 in
theorem c_X1_canMerge {l : Launch} {D : va_G} {cB cI cJ cL cS : ClassId} {T : Nat × Nat × Nat × Nat} {a : Nat → Nat} {b : Nat → Nat} {p1 : Int32} {t_made : Int32} {t_sort : Int32} {t_digits : Int32} {t_slots : Int32} {t_pages : Int32} {t_highest : Int64} {t_units : Nat → Int64} {t_kinds : Nat → Int32} {t_rows : Nat → Int32} {t_marks : Nat → Int32} {o_made : Int32} {o_sort : Int32} {o_digits : Int32} {o_slots : Int32} {o_pages : Int32} {o_highest : Int64} {o_units : Nat → Int64} {o_kinds : Nat → Int32} {o_rows : Nat → Int32} {o_marks : Nat → Int32} {Q : Int32 → Prop} (hw : wp_X1_canMerge p1 t_sort t_digits t_highest t_units o_sort o_digits o_slots o_pages o_units o_kinds Q) : CtI l D (Z5 cB cI cJ cL cS) T yX1_canMerge cX1_canMerge 13 ({ frames := 3, cells := 0, slots := 0, locals := 76 } : Room) (Option.some Jvm.ClassFile.FieldType.boolean) [.ref (a 0), .ref (b 0), .int p1] (wL cB cI cJ a t_made t_sort t_digits t_slots t_pages t_highest t_units t_kinds t_rows t_marks ++ (wL cB cI cJ b o_made o_sort o_digits o_slots o_pages o_highest o_units o_kinds o_rows o_marks)) (fun (u : Unit) => (wL cB cI cJ a t_made t_sort t_digits t_slots t_pages t_highest t_units t_kinds t_rows t_marks ++ (wL cB cI cJ b o_made o_sort o_digits o_slots o_pages o_highest o_units o_kinds o_rows o_marks))) (fun (r : Int32) (u : Unit) => Q r ) 0 0 := by
  refine ctI_of (own := RX1) (by decide +kernel) rfl (Nat.le_of_ble_eq_true rfl) (fun p e s m below meth c A C => ?_)
  refine w_sub (lv' := [(0, .ref (a 0)), (1, .ref (b 0)), (2, .int p1)]) C [0, 1, 2] rfl ?_
  unfold wp_X1_canMerge at hw
  refine w_aload_n C 1 dX1_canMerge_0 rfl ?_
  refine w_callPI C (c_X1_lastUsed hw) f_X1_lastUsed k_275 k_273 rfl ⟨Nat.le_of_ble_eq_true rfl, Nat.le_of_ble_eq_true rfl⟩ rfl rfl ⟨Nat.le_of_ble_eq_true rfl, Nat.le_of_ble_eq_true rfl⟩ 0 rfl (rr := (RX1, TX1, 10)) rfl rfl (wL cB cI cJ a t_made t_sort t_digits t_slots t_pages t_highest t_units t_kinds t_rows t_marks) (fun (u : Unit) => (wL cB cI cJ a t_made t_sort t_digits t_slots t_pages t_highest t_units t_kinds t_rows t_marks ++ (wL cB cI cJ b o_made o_sort o_digits o_slots o_pages o_highest o_units o_kinds o_rows o_marks))) [5, 6, 7, 8, 9] [0, 1, 2, 3, 4] [0, 1, 2, 3, 4, 5, 6, 7, 8, 9] rfl rfl (by decide) (by decide) (by decide) (by decide) (fun _ => rfl) (fun _ => rfl) rfl (Nat.le_of_ble_eq_true rfl) dX1_canMerge_1 (fun r_1 u_1 hw => ?_)
  try dsimp only at hw
  refine w_istore_n C (fun x3_4 => [(3, .int x3_4), (0, .ref (a 0)), (1, .ref (b 0)), (2, .int p1)]) dX1_canMerge_4 (by decide) (fun _ => rfl) (fun x3_4 e_x3_4 => ?_)
  replace hw := hw x3_4 e_x3_4
  refine w_aload_n C 1 dX1_canMerge_5 rfl ?_
  refine w_get C (T1 := TX1) 0 1 u_X1 k_148 rfl (by decide) rfl rfl dX1_canMerge_6 ?_
  refine w_aload_n C 2 dX1_canMerge_9 rfl ?_
  refine w_get C (T1 := TX1) 5 1 u_X1 k_148 rfl (by decide) rfl rfl dX1_canMerge_10 ?_
  refine w_icmp_ne C 37 (by decide) dX1_canMerge_13 (fun c_13 => ?_) (fun c_13 => ?_)
  · replace hw := hw.1 c_13
    refine w_iconst C (v := (0 : Int32)) dX1_canMerge_37 (by decide) ?_
    exact w_zret C () (Or.inl rfl) hw rfl (Nat.le_of_ble_eq_true rfl) (Nat.le_of_ble_eq_true rfl) dX1_canMerge_38
  · replace hw := hw.2 c_13
    refine w_iload_n C 0 dX1_canMerge_16 rfl ?_
    refine w_iconst C (v := (-1 : Int32)) dX1_canMerge_17 (by decide) ?_
    refine w_icmp_eq C 39 (by decide) dX1_canMerge_18 (fun c_18 => ?_) (fun c_18 => ?_)
    · replace hw := hw.1 c_18
      refine w_sub (lv' := [(0, .ref (a 0)), (1, .ref (b 0)), (2, .int p1)]) C [1, 2, 3] rfl ?_
      exact wk_X1_canMerge_39 C  hw
    · replace hw := hw.2 c_18
      refine w_aload_n C 2 dX1_canMerge_21 rfl ?_
      refine w_get C (T1 := TX1) 5 2 u_X1 k_150 rfl (by decide) rfl rfl dX1_canMerge_22 ?_
      refine w_iload_n C 0 dX1_canMerge_25 rfl ?_
      refine w_callSLN C (c_X7_lowOf hw) f_X7_lowOf n_521 rfl ⟨Nat.le_of_ble_eq_true rfl, Nat.le_of_ble_eq_true rfl⟩ rfl rfl ⟨Nat.le_of_ble_eq_true rfl, Nat.le_of_ble_eq_true rfl⟩ rfl (Nat.le_of_ble_eq_true rfl) dX1_canMerge_26 (fun r_26 u_26 hw => ?_)
      try dsimp only at hw
      refine w_aload_n C 1 dX1_canMerge_29 rfl ?_
      refine w_get C (T1 := TX1) 0 5 u_X1 k_156 rfl (by decide) rfl rfl dX1_canMerge_30 ?_
      refine w_lcmp_le C 34 39 rfl (by decide) dX1_canMerge_33 dX1_canMerge_34 (fun c_33 => ?_) (fun c_33 => ?_)
      · replace hw := hw.1 c_33
        refine w_sub (lv' := [(0, .ref (a 0)), (1, .ref (b 0)), (2, .int p1)]) C [1, 2, 3] rfl ?_
        exact wk_X1_canMerge_39 C  hw
      · replace hw := hw.2 c_33
        refine w_iconst C (v := (0 : Int32)) dX1_canMerge_37 (by decide) ?_
        exact w_zret C () (Or.inl rfl) hw rfl (Nat.le_of_ble_eq_true rfl) (Nat.le_of_ble_eq_true rfl) dX1_canMerge_38
def blk_X1_canMerge_s_135 (t_sort : Int32) (t_digits : Int32) (t_slots : Int32) (t_pages : Int32) (t_highest : Int64) (t_units : Nat → Int64) (t_kinds : Nat → Int32) (K48 : Int32 → Int64 → Int32 → Prop) (K72 : Int32 → Int64 → Int32 → Prop) (Q : Int32 → Prop) (x2 : Int32) (x7 : Int32) (x8 : Int32) (x9 : Int32) (x10 : Int64) (x12 : Int32) (k0 : Int64) : Prop := ∀ x5_141 : Int64, x5_141 = (k0 + (((x2).toInt64) * x10)) → ∀ x4_145 : Int32, x4_145 = x12 → ((x5_141 < (0 : Int64) → (Q (0 : Int32))) ∧ (¬ x5_141 < (0 : Int64) → (((x5_141 ≤ (1000000000000000 : Int64) → (∀ x9_165 : Int32, x9_165 = x9 + (1 : Int32) → K72 x4_145 x5_141 x9_165)) ∧ (¬ x5_141 ≤ (1000000000000000 : Int64) → (Q (0 : Int32)))))))
def blk_X1_canMerge_s_115 (t_sort : Int32) (t_digits : Int32) (t_slots : Int32) (t_pages : Int32) (t_highest : Int64) (t_units : Nat → Int64) (t_kinds : Nat → Int32) (K48 : Int32 → Int64 → Int32 → Prop) (K72 : Int32 → Int64 → Int32 → Prop) (Q : Int32 → Prop) (x2 : Int32) (x4 : Int32) (x5 : Int64) (x7 : Int32) (x8 : Int32) (x9 : Int32) (x10 : Int64) (k0 : Int32) : Prop := ∀ x12_115 : Int32, x12_115 = k0 → ((¬ x12_115 = x4 → (wp_X1_unitsOf x12_115 t_units (fun (r_132 : Int64) => (blk_X1_canMerge_s_135 t_sort t_digits t_slots t_pages t_highest t_units t_kinds K48 K72 Q x2 x7 x8 x9 x10 x12_115 r_132)))) ∧ (x12_115 = x4 → ((blk_X1_canMerge_s_135 t_sort t_digits t_slots t_pages t_highest t_units t_kinds K48 K72 Q x2 x7 x8 x9 x10 x12_115 x5))))
def bod_X1_canMerge_s_72 (t_sort : Int32) (t_digits : Int32) (t_slots : Int32) (t_pages : Int32) (t_highest : Int64) (t_units : Nat → Int64) (t_kinds : Nat → Int32) (K48 : Int32 → Int64 → Int32 → Prop) (Q : Int32 → Prop) (x2 : Int32) (x7 : Int32) (x8 : Int32)  (K72 : Int32 → Int64 → Int32 → Prop) (x4 : Int32) (x5 : Int64) (x9 : Int32) : Prop := ((x8 ≤ x9 → (∀ x7_171 : Int32, x7_171 = x7 + (1 : Int32) → K48 x4 x5 x7_171)) ∧ (¬ x8 ≤ x9 → (wp_X1_unitsOf x9 t_units (fun (r_82 : Int64) => ∀ x10_85 : Int64, x10_85 = r_82 → ((¬ x10_85 = (0 : Int64) → (wp_X7_lowOf t_digits x9  (fun (r_109 : Int64) => wp_X7_slotOf t_digits r_109  (fun (r_112 : Int32) => (blk_X1_canMerge_s_115 t_sort t_digits t_slots t_pages t_highest t_units t_kinds K48 K72 Q x2 x4 x5 x7 x8 x9 x10_85 r_112))))) ∧ (x10_85 = (0 : Int64) → ((blk_X1_canMerge_s_115 t_sort t_digits t_slots t_pages t_highest t_units t_kinds K48 K72 Q x2 x4 x5 x7 x8 x9 x10_85 x4))))))))
def lp_X1_canMerge_s_72 (t_sort : Int32) (t_digits : Int32) (t_slots : Int32) (t_pages : Int32) (t_highest : Int64) (t_units : Nat → Int64) (t_kinds : Nat → Int32) (K48 : Int32 → Int64 → Int32 → Prop) (Q : Int32 → Prop) (x2 : Int32) (x7 : Int32) (x8 : Int32)  : Nat → Int32 → Int64 → Int32 → Prop
  | 0, _, _, _ => False
  | j + 1, x4, x5, x9 => bod_X1_canMerge_s_72 t_sort t_digits t_slots t_pages t_highest t_units t_kinds K48 Q x2 x7 x8 (fun v0 v1 v2 => lp_X1_canMerge_s_72 t_sort t_digits t_slots t_pages t_highest t_units t_kinds K48 Q x2 x7 x8 j v0 v1 v2) x4 x5 x9
def bod_X1_canMerge_s_48 (t_sort : Int32) (t_digits : Int32) (t_slots : Int32) (t_pages : Int32) (t_highest : Int64) (t_units : Nat → Int64) (t_kinds : Nat → Int32)  (Q : Int32 → Prop) (x2 : Int32)  (K48 : Int32 → Int64 → Int32 → Prop) (x4 : Int32) (x5 : Int64) (x7 : Int32) : Prop := ((t_pages ≤ x7 → (Q (1 : Int32))) ∧ (¬ t_pages ≤ x7 → (wp_X1_endOf x7 t_slots t_kinds (fun (r_60 : Int32) => ∀ x8_63 : Int32, x8_63 = r_60 → ∀ x9_70 : Int32, x9_70 = ((16 : Int32) * x7) → (∃ j : Nat, lp_X1_canMerge_s_72 t_sort t_digits t_slots t_pages t_highest t_units t_kinds K48 Q x2 x7 x8_63 j x4 x5 x9_70)))))
def lp_X1_canMerge_s_48 (t_sort : Int32) (t_digits : Int32) (t_slots : Int32) (t_pages : Int32) (t_highest : Int64) (t_units : Nat → Int64) (t_kinds : Nat → Int32)  (Q : Int32 → Prop) (x2 : Int32)  : Nat → Int32 → Int64 → Int32 → Prop
  | 0, _, _, _ => False
  | j + 1, x4, x5, x7 => bod_X1_canMerge_s_48 t_sort t_digits t_slots t_pages t_highest t_units t_kinds  Q x2 (fun v0 v1 v2 => lp_X1_canMerge_s_48 t_sort t_digits t_slots t_pages t_highest t_units t_kinds  Q x2 j v0 v1 v2) x4 x5 x7
def blk_X1_canMerge_s_39 (t_sort : Int32) (t_digits : Int32) (t_slots : Int32) (t_pages : Int32) (t_highest : Int64) (t_units : Nat → Int64) (t_kinds : Nat → Int32)  (Q : Int32 → Prop) (x2 : Int32) : Prop := ∀ x4_40 : Int32, x4_40 = (-1 : Int32) → ∀ x5_43 : Int64, x5_43 = (0 : Int64) → ∀ x7_46 : Int32, x7_46 = (0 : Int32) → (∃ j : Nat, lp_X1_canMerge_s_48 t_sort t_digits t_slots t_pages t_highest t_units t_kinds  Q x2 j x4_40 x5_43 x7_46)
def wp_X1_canMerge_s (p1 : Int32) (t_sort : Int32) (t_digits : Int32) (t_slots : Int32) (t_pages : Int32) (t_highest : Int64) (t_units : Nat → Int64) (t_kinds : Nat → Int32) (Q : Int32 → Prop) : Prop := wp_X1_lastUsed  t_slots t_pages t_units t_kinds (fun (r_1 : Int32) => ∀ x3_4 : Int32, x3_4 = r_1 → ((¬ t_sort = t_sort → (Q (0 : Int32))) ∧ (t_sort = t_sort → (((x3_4 = (-1 : Int32) → ((blk_X1_canMerge_s_39 t_sort t_digits t_slots t_pages t_highest t_units t_kinds  Q p1))) ∧ (¬ x3_4 = (-1 : Int32) → (wp_X7_lowOf t_digits x3_4  (fun (r_26 : Int64) => ((r_26 ≤ t_highest → ((blk_X1_canMerge_s_39 t_sort t_digits t_slots t_pages t_highest t_units t_kinds  Q p1))) ∧ (¬ r_26 ≤ t_highest → (Q (0 : Int32))))))))))))
set_option maxHeartbeats 4000000 in
set_option maxRecDepth 100000 in
theorem wk_X1_canMerge_s_135 {p : Program} {l : Launch} {e : Env} {s : State} {m : MethodId} {args : Array Value} {below : List Frame} {meth : Method} {c : Code} {D : va_G} {cB cI cJ cL cS : ClassId} {T : Nat × Nat × Nat × Nat} {A : Nat → Prop} {a : Nat → Nat} {t_made : Int32} {t_sort : Int32} {t_digits : Int32} {t_slots : Int32} {t_pages : Int32} {t_highest : Int64} {t_units : Nat → Int64} {t_kinds : Nat → Int32} {t_rows : Nat → Int32} {t_marks : Nat → Int32} {Q : Int32 → Prop} (C : Cq p s m args meth c D (Z5 cB cI cJ cL cS) T A cX1_canMerge RX1 13 (Option.some Jvm.ClassFile.FieldType.boolean)) {x2 : Int32} {x7 : Int32} {x8 : Int32} {x9 : Int32} {x10 : Int64} {x12 : Int32} {k0 : Int64} {K48 : Int32 → Int64 → Int32 → Prop} (hK48 : ∀ (y4 : Int32) (y5 : Int64) (y7 : Int32), K48 y4 y5 y7 → ww p l e ({ frames := 3, cells := 0, slots := 0, locals := 76 } : Room) s m args below meth c D A 13 (MQ below (va_Qi (fun (r : Int32) (u : Unit) => Q r ) (OutP D (fun (u : Unit) => (wL cB cI cJ a t_made t_sort t_digits t_slots t_pages t_highest t_units t_kinds t_rows t_marks))) A) args s 0 0 A) 0 0 (wL cB cI cJ a t_made t_sort t_digits t_slots t_pages t_highest t_units t_kinds t_rows t_marks) 48 [(0, .ref (a 0)), (1, .ref (a 0)), (2, .int x2), (4, .int y4), (5, .long y5), (7, .int y7)] []) {K72 : Int32 → Int64 → Int32 → Prop} (hK72 : ∀ (y4 : Int32) (y5 : Int64) (y9 : Int32), K72 y4 y5 y9 → ww p l e ({ frames := 3, cells := 0, slots := 0, locals := 76 } : Room) s m args below meth c D A 13 (MQ below (va_Qi (fun (r : Int32) (u : Unit) => Q r ) (OutP D (fun (u : Unit) => (wL cB cI cJ a t_made t_sort t_digits t_slots t_pages t_highest t_units t_kinds t_rows t_marks))) A) args s 0 0 A) 0 0 (wL cB cI cJ a t_made t_sort t_digits t_slots t_pages t_highest t_units t_kinds t_rows t_marks) 72 [(0, .ref (a 0)), (1, .ref (a 0)), (2, .int x2), (4, .int y4), (5, .long y5), (7, .int x7), (8, .int x8), (9, .int y9)] []) (hw : blk_X1_canMerge_s_135 t_sort t_digits t_slots t_pages t_highest t_units t_kinds K48 K72 Q x2 x7 x8 x9 x10 x12 k0) : ww p l e ({ frames := 3, cells := 0, slots := 0, locals := 76 } : Room) s m args below meth c D A 13 (MQ below (va_Qi (fun (r : Int32) (u : Unit) => Q r ) (OutP D (fun (u : Unit) => (wL cB cI cJ a t_made t_sort t_digits t_slots t_pages t_highest t_units t_kinds t_rows t_marks))) A) args s 0 0 A) 0 0 (wL cB cI cJ a t_made t_sort t_digits t_slots t_pages t_highest t_units t_kinds t_rows t_marks) 135 [(0, .ref (a 0)), (1, .ref (a 0)), (2, .int x2), (7, .int x7), (8, .int x8), (9, .int x9), (10, .long x10), (12, .int x12)] [.long k0] := by
  unfold blk_X1_canMerge_s_135 at hw
  refine w_iload_n C 2 dX1_canMerge_135 rfl ?_
  refine w_i2l C dX1_canMerge_136 ?_
  refine w_lload C 6 dX1_canMerge_137 rfl ?_
  refine w_lmul C dX1_canMerge_139 ?_
  refine w_ladd C dX1_canMerge_140 ?_
  refine w_lstore C (fun x5_141 => [(5, .long x5_141), (0, .ref (a 0)), (1, .ref (a 0)), (2, .int x2), (7, .int x7), (8, .int x8), (9, .int x9), (10, .long x10), (12, .int x12)]) dX1_canMerge_141 (by decide) (fun _ => rfl) (fun x5_141 e_x5_141 => ?_)
  replace hw := hw x5_141 e_x5_141
  refine w_iload C 8 dX1_canMerge_143 rfl ?_
  refine w_istore C (fun x4_145 => [(4, .int x4_145), (5, .long x5_141), (0, .ref (a 0)), (1, .ref (a 0)), (2, .int x2), (7, .int x7), (8, .int x8), (9, .int x9), (10, .long x10), (12, .int x12)]) dX1_canMerge_145 (by decide) (fun _ => rfl) (fun x4_145 e_x4_145 => ?_)
  replace hw := hw x4_145 e_x4_145
  refine w_lload C 1 dX1_canMerge_147 rfl ?_
  refine w_lconst C (v := (0 : Int64)) dX1_canMerge_149 (by decide) ?_
  refine w_lcmp_lt C 151 163 rfl (by decide) dX1_canMerge_150 dX1_canMerge_151 (fun c_150 => ?_) (fun c_150 => ?_)
  · replace hw := hw.1 c_150
    refine w_iconst C (v := (0 : Int32)) dX1_canMerge_163 (by decide) ?_
    exact w_zret C () (Or.inl rfl) hw rfl (Nat.le_of_ble_eq_true rfl) (Nat.le_of_ble_eq_true rfl) dX1_canMerge_164
  · replace hw := hw.2 c_150
    refine w_lload C 1 dX1_canMerge_154 rfl ?_
    refine w_ldc2 C (v := (1000000000000000 : Int64)) dX1_canMerge_156 k_522 ?_
    refine w_lcmp_le C 160 165 rfl (by decide) dX1_canMerge_159 dX1_canMerge_160 (fun c_159 => ?_) (fun c_159 => ?_)
    · replace hw := hw.1 c_159
      refine w_iinc C (v := x9 + (1 : Int32)) 7 (fun x9_165 => [(9, .int x9_165), (4, .int x4_145), (5, .long x5_141), (0, .ref (a 0)), (1, .ref (a 0)), (2, .int x2), (7, .int x7), (8, .int x8), (10, .long x10), (12, .int x12)]) dX1_canMerge_165 rfl rfl (by decide) (fun _ => rfl) (fun x9_165 e_x9_165 => ?_)
      replace hw := hw x9_165 e_x9_165
      refine w_goto C 72 (by decide) dX1_canMerge_168 ?_
      refine w_sub (lv' := [(0, .ref (a 0)), (1, .ref (a 0)), (2, .int x2), (4, .int x4_145), (5, .long x5_141), (7, .int x7), (8, .int x8), (9, .int x9_165)]) C [3, 4, 5, 1, 2, 6, 7, 0] rfl ?_
      exact hK72 _ _ _ hw
    · replace hw := hw.2 c_159
      refine w_iconst C (v := (0 : Int32)) dX1_canMerge_163 (by decide) ?_
      exact w_zret C () (Or.inl rfl) hw rfl (Nat.le_of_ble_eq_true rfl) (Nat.le_of_ble_eq_true rfl) dX1_canMerge_164
set_option maxHeartbeats 4000000 in
set_option maxRecDepth 100000 in
theorem wk_X1_canMerge_s_115 {p : Program} {l : Launch} {e : Env} {s : State} {m : MethodId} {args : Array Value} {below : List Frame} {meth : Method} {c : Code} {D : va_G} {cB cI cJ cL cS : ClassId} {T : Nat × Nat × Nat × Nat} {A : Nat → Prop} {a : Nat → Nat} {t_made : Int32} {t_sort : Int32} {t_digits : Int32} {t_slots : Int32} {t_pages : Int32} {t_highest : Int64} {t_units : Nat → Int64} {t_kinds : Nat → Int32} {t_rows : Nat → Int32} {t_marks : Nat → Int32} {Q : Int32 → Prop} (C : Cq p s m args meth c D (Z5 cB cI cJ cL cS) T A cX1_canMerge RX1 13 (Option.some Jvm.ClassFile.FieldType.boolean)) {x2 : Int32} {x4 : Int32} {x5 : Int64} {x7 : Int32} {x8 : Int32} {x9 : Int32} {x10 : Int64} {k0 : Int32} {K48 : Int32 → Int64 → Int32 → Prop} (hK48 : ∀ (y4 : Int32) (y5 : Int64) (y7 : Int32), K48 y4 y5 y7 → ww p l e ({ frames := 3, cells := 0, slots := 0, locals := 76 } : Room) s m args below meth c D A 13 (MQ below (va_Qi (fun (r : Int32) (u : Unit) => Q r ) (OutP D (fun (u : Unit) => (wL cB cI cJ a t_made t_sort t_digits t_slots t_pages t_highest t_units t_kinds t_rows t_marks))) A) args s 0 0 A) 0 0 (wL cB cI cJ a t_made t_sort t_digits t_slots t_pages t_highest t_units t_kinds t_rows t_marks) 48 [(0, .ref (a 0)), (1, .ref (a 0)), (2, .int x2), (4, .int y4), (5, .long y5), (7, .int y7)] []) {K72 : Int32 → Int64 → Int32 → Prop} (hK72 : ∀ (y4 : Int32) (y5 : Int64) (y9 : Int32), K72 y4 y5 y9 → ww p l e ({ frames := 3, cells := 0, slots := 0, locals := 76 } : Room) s m args below meth c D A 13 (MQ below (va_Qi (fun (r : Int32) (u : Unit) => Q r ) (OutP D (fun (u : Unit) => (wL cB cI cJ a t_made t_sort t_digits t_slots t_pages t_highest t_units t_kinds t_rows t_marks))) A) args s 0 0 A) 0 0 (wL cB cI cJ a t_made t_sort t_digits t_slots t_pages t_highest t_units t_kinds t_rows t_marks) 72 [(0, .ref (a 0)), (1, .ref (a 0)), (2, .int x2), (4, .int y4), (5, .long y5), (7, .int x7), (8, .int x8), (9, .int y9)] []) (hw : blk_X1_canMerge_s_115 t_sort t_digits t_slots t_pages t_highest t_units t_kinds K48 K72 Q x2 x4 x5 x7 x8 x9 x10 k0) : ww p l e ({ frames := 3, cells := 0, slots := 0, locals := 76 } : Room) s m args below meth c D A 13 (MQ below (va_Qi (fun (r : Int32) (u : Unit) => Q r ) (OutP D (fun (u : Unit) => (wL cB cI cJ a t_made t_sort t_digits t_slots t_pages t_highest t_units t_kinds t_rows t_marks))) A) args s 0 0 A) 0 0 (wL cB cI cJ a t_made t_sort t_digits t_slots t_pages t_highest t_units t_kinds t_rows t_marks) 115 [(0, .ref (a 0)), (1, .ref (a 0)), (2, .int x2), (4, .int x4), (5, .long x5), (7, .int x7), (8, .int x8), (9, .int x9), (10, .long x10)] [.int k0] := by
  unfold blk_X1_canMerge_s_115 at hw
  refine w_istore C (fun x12_115 => [(12, .int x12_115), (0, .ref (a 0)), (1, .ref (a 0)), (2, .int x2), (4, .int x4), (5, .long x5), (7, .int x7), (8, .int x8), (9, .int x9), (10, .long x10)]) dX1_canMerge_115 (by decide) (fun _ => rfl) (fun x12_115 e_x12_115 => ?_)
  replace hw := hw x12_115 e_x12_115
  refine w_iload C 0 dX1_canMerge_117 rfl ?_
  refine w_iload C 4 dX1_canMerge_119 rfl ?_
  refine w_icmp_ne C 129 (by decide) dX1_canMerge_121 (fun c_121 => ?_) (fun c_121 => ?_)
  · replace hw := hw.1 c_121
    refine w_aload_n C 1 dX1_canMerge_129 rfl ?_
    refine w_iload C 0 dX1_canMerge_130 rfl ?_
    refine w_callVL C (c_X1_unitsOf hw) f_X1_unitsOf k_290 k_288 rfl ⟨Nat.le_of_ble_eq_true rfl, Nat.le_of_ble_eq_true rfl⟩ rfl rfl ⟨Nat.le_of_ble_eq_true rfl, Nat.le_of_ble_eq_true rfl⟩ 0 rfl (rr := (RX1, TX1, 10)) rfl rfl (fun _ => rfl) rfl (Nat.le_of_ble_eq_true rfl) dX1_canMerge_132 (fun r_132 u_132 hw => ?_)
    try dsimp only at hw
    refine w_sub (lv' := [(0, .ref (a 0)), (1, .ref (a 0)), (2, .int x2), (7, .int x7), (8, .int x8), (9, .int x9), (10, .long x10), (12, .int x12_115)]) C [1, 2, 3, 6, 7, 8, 9, 0] rfl ?_
    exact wk_X1_canMerge_s_135 C hK48 hK72 hw
  · replace hw := hw.2 c_121
    refine w_lload C 5 dX1_canMerge_124 rfl ?_
    refine w_goto C 135 (by decide) dX1_canMerge_126 ?_
    refine w_sub (lv' := [(0, .ref (a 0)), (1, .ref (a 0)), (2, .int x2), (7, .int x7), (8, .int x8), (9, .int x9), (10, .long x10), (12, .int x12_115)]) C [1, 2, 3, 6, 7, 8, 9, 0] rfl ?_
    exact wk_X1_canMerge_s_135 C hK48 hK72 hw
set_option maxHeartbeats 4000000 in
set_option maxRecDepth 100000 in
theorem wl_X1_canMerge_s_72 {p : Program} {l : Launch} {e : Env} {s : State} {m : MethodId} {args : Array Value} {below : List Frame} {meth : Method} {c : Code} {D : va_G} {cB cI cJ cL cS : ClassId} {T : Nat × Nat × Nat × Nat} {A : Nat → Prop} {a : Nat → Nat} {t_made : Int32} {t_sort : Int32} {t_digits : Int32} {t_slots : Int32} {t_pages : Int32} {t_highest : Int64} {t_units : Nat → Int64} {t_kinds : Nat → Int32} {t_rows : Nat → Int32} {t_marks : Nat → Int32} {Q : Int32 → Prop} (C : Cq p s m args meth c D (Z5 cB cI cJ cL cS) T A cX1_canMerge RX1 13 (Option.some Jvm.ClassFile.FieldType.boolean)) {x2 : Int32} {x7 : Int32} {x8 : Int32}  {K48 : Int32 → Int64 → Int32 → Prop} (hK48 : ∀ (y4 : Int32) (y5 : Int64) (y7 : Int32), K48 y4 y5 y7 → ww p l e ({ frames := 3, cells := 0, slots := 0, locals := 76 } : Room) s m args below meth c D A 13 (MQ below (va_Qi (fun (r : Int32) (u : Unit) => Q r ) (OutP D (fun (u : Unit) => (wL cB cI cJ a t_made t_sort t_digits t_slots t_pages t_highest t_units t_kinds t_rows t_marks))) A) args s 0 0 A) 0 0 (wL cB cI cJ a t_made t_sort t_digits t_slots t_pages t_highest t_units t_kinds t_rows t_marks) 48 [(0, .ref (a 0)), (1, .ref (a 0)), (2, .int x2), (4, .int y4), (5, .long y5), (7, .int y7)] []) : ∀ (j : Nat) (x4 : Int32) (x5 : Int64) (x9 : Int32), lp_X1_canMerge_s_72 t_sort t_digits t_slots t_pages t_highest t_units t_kinds K48 Q x2 x7 x8 j x4 x5 x9 → ww p l e ({ frames := 3, cells := 0, slots := 0, locals := 76 } : Room) s m args below meth c D A 13 (MQ below (va_Qi (fun (r : Int32) (u : Unit) => Q r ) (OutP D (fun (u : Unit) => (wL cB cI cJ a t_made t_sort t_digits t_slots t_pages t_highest t_units t_kinds t_rows t_marks))) A) args s 0 0 A) 0 0 (wL cB cI cJ a t_made t_sort t_digits t_slots t_pages t_highest t_units t_kinds t_rows t_marks) 72 [(0, .ref (a 0)), (1, .ref (a 0)), (2, .int x2), (4, .int x4), (5, .long x5), (7, .int x7), (8, .int x8), (9, .int x9)] [] := by
  intro j
  induction j with
  | zero => intro _ _ _ hw; exact hw.elim
  | succ j hK72 =>
    intro x4 x5 x9 hw
    have hw : bod_X1_canMerge_s_72 t_sort t_digits t_slots t_pages t_highest t_units t_kinds K48 Q x2 x7 x8 (fun v0 v1 v2 => lp_X1_canMerge_s_72 t_sort t_digits t_slots t_pages t_highest t_units t_kinds K48 Q x2 x7 x8 j v0 v1 v2) x4 x5 x9 := hw
    unfold bod_X1_canMerge_s_72 at hw
    refine w_iload C 7 dX1_canMerge_72 rfl ?_
    refine w_iload C 6 dX1_canMerge_74 rfl ?_
    refine w_icmp_ge C 171 (by decide) dX1_canMerge_76 (fun c_76 => ?_) (fun c_76 => ?_)
    · replace hw := hw.1 c_76
      refine w_iinc C (v := x7 + (1 : Int32)) 5 (fun x7_171 => [(7, .int x7_171), (0, .ref (a 0)), (1, .ref (a 0)), (2, .int x2), (4, .int x4), (5, .long x5), (8, .int x8), (9, .int x9)]) dX1_canMerge_171 rfl rfl (by decide) (fun _ => rfl) (fun x7_171 e_x7_171 => ?_)
      replace hw := hw x7_171 e_x7_171
      refine w_goto C 48 (by decide) dX1_canMerge_174 ?_
      refine w_sub (lv' := [(0, .ref (a 0)), (1, .ref (a 0)), (2, .int x2), (4, .int x4), (5, .long x5), (7, .int x7_171)]) C [1, 2, 3, 4, 5, 0] rfl ?_
      exact hK48 _ _ _ hw
    · replace hw := hw.2 c_76
      refine w_aload_n C 1 dX1_canMerge_79 rfl ?_
      refine w_iload C 7 dX1_canMerge_80 rfl ?_
      refine w_callVL C (c_X1_unitsOf hw) f_X1_unitsOf k_290 k_288 rfl ⟨Nat.le_of_ble_eq_true rfl, Nat.le_of_ble_eq_true rfl⟩ rfl rfl ⟨Nat.le_of_ble_eq_true rfl, Nat.le_of_ble_eq_true rfl⟩ 0 rfl (rr := (RX1, TX1, 10)) rfl rfl (fun _ => rfl) rfl (Nat.le_of_ble_eq_true rfl) dX1_canMerge_82 (fun r_82 u_82 hw => ?_)
      try dsimp only at hw
      refine w_lstore C (fun x10_85 => [(10, .long x10_85), (0, .ref (a 0)), (1, .ref (a 0)), (2, .int x2), (4, .int x4), (5, .long x5), (7, .int x7), (8, .int x8), (9, .int x9)]) dX1_canMerge_85 (by decide) (fun _ => rfl) (fun x10_85 e_x10_85 => ?_)
      replace hw := hw x10_85 e_x10_85
      refine w_lload C 0 dX1_canMerge_87 rfl ?_
      refine w_lconst C (v := (0 : Int64)) dX1_canMerge_89 (by decide) ?_
      refine w_lcmp_ne C 91 99 rfl (by decide) dX1_canMerge_90 dX1_canMerge_91 (fun c_90 => ?_) (fun c_90 => ?_)
      · replace hw := hw.1 c_90
        refine w_aload_n C 1 dX1_canMerge_99 rfl ?_
        refine w_get C (T1 := TX1) 0 2 u_X1 k_150 rfl (by decide) rfl rfl dX1_canMerge_100 ?_
        refine w_aload_n C 2 dX1_canMerge_103 rfl ?_
        refine w_get C (T1 := TX1) 0 2 u_X1 k_150 rfl (by decide) rfl rfl dX1_canMerge_104 ?_
        refine w_iload C 8 dX1_canMerge_107 rfl ?_
        refine w_callSLN C (c_X7_lowOf hw) f_X7_lowOf n_521 rfl ⟨Nat.le_of_ble_eq_true rfl, Nat.le_of_ble_eq_true rfl⟩ rfl rfl ⟨Nat.le_of_ble_eq_true rfl, Nat.le_of_ble_eq_true rfl⟩ rfl (Nat.le_of_ble_eq_true rfl) dX1_canMerge_109 (fun r_109 u_109 hw => ?_)
        try dsimp only at hw
        refine w_callSIN C (c_X7_slotOf hw) f_X7_slotOf n_425 rfl ⟨Nat.le_of_ble_eq_true rfl, Nat.le_of_ble_eq_true rfl⟩ rfl rfl ⟨Nat.le_of_ble_eq_true rfl, Nat.le_of_ble_eq_true rfl⟩ rfl (Nat.le_of_ble_eq_true rfl) dX1_canMerge_112 (fun r_112 u_112 hw => ?_)
        try dsimp only at hw
        refine w_sub (lv' := [(0, .ref (a 0)), (1, .ref (a 0)), (2, .int x2), (4, .int x4), (5, .long x5), (7, .int x7), (8, .int x8), (9, .int x9), (10, .long x10_85)]) C [1, 2, 3, 4, 5, 6, 7, 8, 0] rfl ?_
        exact wk_X1_canMerge_s_115 C hK48 hK72 hw
      · replace hw := hw.2 c_90
        refine w_iload C 4 dX1_canMerge_94 rfl ?_
        refine w_goto C 115 (by decide) dX1_canMerge_96 ?_
        refine w_sub (lv' := [(0, .ref (a 0)), (1, .ref (a 0)), (2, .int x2), (4, .int x4), (5, .long x5), (7, .int x7), (8, .int x8), (9, .int x9), (10, .long x10_85)]) C [1, 2, 3, 4, 5, 6, 7, 8, 0] rfl ?_
        exact wk_X1_canMerge_s_115 C hK48 hK72 hw
set_option maxHeartbeats 4000000 in
set_option maxRecDepth 100000 in
theorem wl_X1_canMerge_s_48 {p : Program} {l : Launch} {e : Env} {s : State} {m : MethodId} {args : Array Value} {below : List Frame} {meth : Method} {c : Code} {D : va_G} {cB cI cJ cL cS : ClassId} {T : Nat × Nat × Nat × Nat} {A : Nat → Prop} {a : Nat → Nat} {t_made : Int32} {t_sort : Int32} {t_digits : Int32} {t_slots : Int32} {t_pages : Int32} {t_highest : Int64} {t_units : Nat → Int64} {t_kinds : Nat → Int32} {t_rows : Nat → Int32} {t_marks : Nat → Int32} {Q : Int32 → Prop} (C : Cq p s m args meth c D (Z5 cB cI cJ cL cS) T A cX1_canMerge RX1 13 (Option.some Jvm.ClassFile.FieldType.boolean)) {x2 : Int32}   : ∀ (j : Nat) (x4 : Int32) (x5 : Int64) (x7 : Int32), lp_X1_canMerge_s_48 t_sort t_digits t_slots t_pages t_highest t_units t_kinds  Q x2 j x4 x5 x7 → ww p l e ({ frames := 3, cells := 0, slots := 0, locals := 76 } : Room) s m args below meth c D A 13 (MQ below (va_Qi (fun (r : Int32) (u : Unit) => Q r ) (OutP D (fun (u : Unit) => (wL cB cI cJ a t_made t_sort t_digits t_slots t_pages t_highest t_units t_kinds t_rows t_marks))) A) args s 0 0 A) 0 0 (wL cB cI cJ a t_made t_sort t_digits t_slots t_pages t_highest t_units t_kinds t_rows t_marks) 48 [(0, .ref (a 0)), (1, .ref (a 0)), (2, .int x2), (4, .int x4), (5, .long x5), (7, .int x7)] [] := by
  intro j
  induction j with
  | zero => intro _ _ _ hw; exact hw.elim
  | succ j hK48 =>
    intro x4 x5 x7 hw
    have hw : bod_X1_canMerge_s_48 t_sort t_digits t_slots t_pages t_highest t_units t_kinds  Q x2 (fun v0 v1 v2 => lp_X1_canMerge_s_48 t_sort t_digits t_slots t_pages t_highest t_units t_kinds  Q x2 j v0 v1 v2) x4 x5 x7 := hw
    unfold bod_X1_canMerge_s_48 at hw
    refine w_iload C 5 dX1_canMerge_48 rfl ?_
    refine w_aload_n C 1 dX1_canMerge_50 rfl ?_
    refine w_get C (T1 := TX1) 0 4 u_X1 k_154 rfl (by decide) rfl rfl dX1_canMerge_51 ?_
    refine w_icmp_ge C 177 (by decide) dX1_canMerge_54 (fun c_54 => ?_) (fun c_54 => ?_)
    · replace hw := hw.1 c_54
      refine w_iconst C (v := (1 : Int32)) dX1_canMerge_177 (by decide) ?_
      exact w_zret C () (Or.inr rfl) hw rfl (Nat.le_of_ble_eq_true rfl) (Nat.le_of_ble_eq_true rfl) dX1_canMerge_178
    · replace hw := hw.2 c_54
      refine w_aload_n C 1 dX1_canMerge_57 rfl ?_
      refine w_iload C 5 dX1_canMerge_58 rfl ?_
      refine w_callVI C (c_X1_endOf hw) f_X1_endOf k_2 k_277 rfl ⟨Nat.le_of_ble_eq_true rfl, Nat.le_of_ble_eq_true rfl⟩ rfl rfl ⟨Nat.le_of_ble_eq_true rfl, Nat.le_of_ble_eq_true rfl⟩ 0 rfl (rr := (RX1, TX1, 10)) rfl rfl (fun _ => rfl) rfl (Nat.le_of_ble_eq_true rfl) dX1_canMerge_60 (fun r_60 u_60 hw => ?_)
      try dsimp only at hw
      refine w_istore C (fun x8_63 => [(8, .int x8_63), (0, .ref (a 0)), (1, .ref (a 0)), (2, .int x2), (4, .int x4), (5, .long x5), (7, .int x7)]) dX1_canMerge_63 (by decide) (fun _ => rfl) (fun x8_63 e_x8_63 => ?_)
      replace hw := hw x8_63 e_x8_63
      refine w_bipush C (v := (16 : Int32)) dX1_canMerge_65 (by decide) ?_
      refine w_iload C 6 dX1_canMerge_67 rfl ?_
      refine w_imul C dX1_canMerge_69 ?_
      refine w_istore C (fun x9_70 => [(9, .int x9_70), (8, .int x8_63), (0, .ref (a 0)), (1, .ref (a 0)), (2, .int x2), (4, .int x4), (5, .long x5), (7, .int x7)]) dX1_canMerge_70 (by decide) (fun _ => rfl) (fun x9_70 e_x9_70 => ?_)
      replace hw := hw x9_70 e_x9_70
      refine w_sub (lv' := [(0, .ref (a 0)), (1, .ref (a 0)), (2, .int x2), (4, .int x4), (5, .long x5), (7, .int x7), (8, .int x8_63), (9, .int x9_70)]) C [2, 3, 4, 5, 6, 7, 1, 0] rfl ?_
      obtain ⟨j, hw⟩ := hw
      exact wl_X1_canMerge_s_72 C hK48 j _ _ _ hw
set_option maxHeartbeats 4000000 in
set_option maxRecDepth 100000 in
theorem wk_X1_canMerge_s_39 {p : Program} {l : Launch} {e : Env} {s : State} {m : MethodId} {args : Array Value} {below : List Frame} {meth : Method} {c : Code} {D : va_G} {cB cI cJ cL cS : ClassId} {T : Nat × Nat × Nat × Nat} {A : Nat → Prop} {a : Nat → Nat} {t_made : Int32} {t_sort : Int32} {t_digits : Int32} {t_slots : Int32} {t_pages : Int32} {t_highest : Int64} {t_units : Nat → Int64} {t_kinds : Nat → Int32} {t_rows : Nat → Int32} {t_marks : Nat → Int32} {Q : Int32 → Prop} (C : Cq p s m args meth c D (Z5 cB cI cJ cL cS) T A cX1_canMerge RX1 13 (Option.some Jvm.ClassFile.FieldType.boolean)) {x2 : Int32}  (hw : blk_X1_canMerge_s_39 t_sort t_digits t_slots t_pages t_highest t_units t_kinds  Q x2) : ww p l e ({ frames := 3, cells := 0, slots := 0, locals := 76 } : Room) s m args below meth c D A 13 (MQ below (va_Qi (fun (r : Int32) (u : Unit) => Q r ) (OutP D (fun (u : Unit) => (wL cB cI cJ a t_made t_sort t_digits t_slots t_pages t_highest t_units t_kinds t_rows t_marks))) A) args s 0 0 A) 0 0 (wL cB cI cJ a t_made t_sort t_digits t_slots t_pages t_highest t_units t_kinds t_rows t_marks) 39 [(0, .ref (a 0)), (1, .ref (a 0)), (2, .int x2)] [] := by
  unfold blk_X1_canMerge_s_39 at hw
  refine w_iconst C (v := (-1 : Int32)) dX1_canMerge_39 (by decide) ?_
  refine w_istore C (fun x4_40 => [(4, .int x4_40), (0, .ref (a 0)), (1, .ref (a 0)), (2, .int x2)]) dX1_canMerge_40 (by decide) (fun _ => rfl) (fun x4_40 e_x4_40 => ?_)
  replace hw := hw x4_40 e_x4_40
  refine w_lconst C (v := (0 : Int64)) dX1_canMerge_42 (by decide) ?_
  refine w_lstore C (fun x5_43 => [(5, .long x5_43), (4, .int x4_40), (0, .ref (a 0)), (1, .ref (a 0)), (2, .int x2)]) dX1_canMerge_43 (by decide) (fun _ => rfl) (fun x5_43 e_x5_43 => ?_)
  replace hw := hw x5_43 e_x5_43
  refine w_iconst C (v := (0 : Int32)) dX1_canMerge_45 (by decide) ?_
  refine w_istore C (fun x7_46 => [(7, .int x7_46), (5, .long x5_43), (4, .int x4_40), (0, .ref (a 0)), (1, .ref (a 0)), (2, .int x2)]) dX1_canMerge_46 (by decide) (fun _ => rfl) (fun x7_46 e_x7_46 => ?_)
  replace hw := hw x7_46 e_x7_46
  refine w_sub (lv' := [(0, .ref (a 0)), (1, .ref (a 0)), (2, .int x2), (4, .int x4_40), (5, .long x5_43), (7, .int x7_46)]) C [3, 4, 5, 2, 1, 0] rfl ?_
  obtain ⟨j, hw⟩ := hw
  exact wl_X1_canMerge_s_48 C  j _ _ _ hw
set_option maxHeartbeats 4000000 in
set_option maxRecDepth 100000 in
theorem c_X1_canMerge_s {l : Launch} {D : va_G} {cB cI cJ cL cS : ClassId} {T : Nat × Nat × Nat × Nat} {a : Nat → Nat} {p1 : Int32} {t_made : Int32} {t_sort : Int32} {t_digits : Int32} {t_slots : Int32} {t_pages : Int32} {t_highest : Int64} {t_units : Nat → Int64} {t_kinds : Nat → Int32} {t_rows : Nat → Int32} {t_marks : Nat → Int32} {Q : Int32 → Prop} (hw : wp_X1_canMerge_s p1 t_sort t_digits t_slots t_pages t_highest t_units t_kinds Q) : CtI l D (Z5 cB cI cJ cL cS) T yX1_canMerge cX1_canMerge 13 ({ frames := 3, cells := 0, slots := 0, locals := 76 } : Room) (Option.some Jvm.ClassFile.FieldType.boolean) [.ref (a 0), .ref (a 0), .int p1] (wL cB cI cJ a t_made t_sort t_digits t_slots t_pages t_highest t_units t_kinds t_rows t_marks) (fun (u : Unit) => (wL cB cI cJ a t_made t_sort t_digits t_slots t_pages t_highest t_units t_kinds t_rows t_marks)) (fun (r : Int32) (u : Unit) => Q r ) 0 0 := by
  refine ctI_of (own := RX1) (by decide +kernel) rfl (Nat.le_of_ble_eq_true rfl) (fun p e s m below meth c A C => ?_)
  refine w_sub (lv' := [(0, .ref (a 0)), (1, .ref (a 0)), (2, .int p1)]) C [0, 1, 2] rfl ?_
  unfold wp_X1_canMerge_s at hw
  refine w_aload_n C 1 dX1_canMerge_0 rfl ?_
  refine w_callVI C (c_X1_lastUsed hw) f_X1_lastUsed k_275 k_273 rfl ⟨Nat.le_of_ble_eq_true rfl, Nat.le_of_ble_eq_true rfl⟩ rfl rfl ⟨Nat.le_of_ble_eq_true rfl, Nat.le_of_ble_eq_true rfl⟩ 0 rfl (rr := (RX1, TX1, 10)) rfl rfl (fun _ => rfl) rfl (Nat.le_of_ble_eq_true rfl) dX1_canMerge_1 (fun r_1 u_1 hw => ?_)
  try dsimp only at hw
  refine w_istore_n C (fun x3_4 => [(3, .int x3_4), (0, .ref (a 0)), (1, .ref (a 0)), (2, .int p1)]) dX1_canMerge_4 (by decide) (fun _ => rfl) (fun x3_4 e_x3_4 => ?_)
  replace hw := hw x3_4 e_x3_4
  refine w_aload_n C 1 dX1_canMerge_5 rfl ?_
  refine w_get C (T1 := TX1) 0 1 u_X1 k_148 rfl (by decide) rfl rfl dX1_canMerge_6 ?_
  refine w_aload_n C 2 dX1_canMerge_9 rfl ?_
  refine w_get C (T1 := TX1) 0 1 u_X1 k_148 rfl (by decide) rfl rfl dX1_canMerge_10 ?_
  refine w_icmp_ne C 37 (by decide) dX1_canMerge_13 (fun c_13 => ?_) (fun c_13 => ?_)
  · replace hw := hw.1 c_13
    refine w_iconst C (v := (0 : Int32)) dX1_canMerge_37 (by decide) ?_
    exact w_zret C () (Or.inl rfl) hw rfl (Nat.le_of_ble_eq_true rfl) (Nat.le_of_ble_eq_true rfl) dX1_canMerge_38
  · replace hw := hw.2 c_13
    refine w_iload_n C 0 dX1_canMerge_16 rfl ?_
    refine w_iconst C (v := (-1 : Int32)) dX1_canMerge_17 (by decide) ?_
    refine w_icmp_eq C 39 (by decide) dX1_canMerge_18 (fun c_18 => ?_) (fun c_18 => ?_)
    · replace hw := hw.1 c_18
      refine w_sub (lv' := [(0, .ref (a 0)), (1, .ref (a 0)), (2, .int p1)]) C [1, 2, 3] rfl ?_
      exact wk_X1_canMerge_s_39 C  hw
    · replace hw := hw.2 c_18
      refine w_aload_n C 2 dX1_canMerge_21 rfl ?_
      refine w_get C (T1 := TX1) 0 2 u_X1 k_150 rfl (by decide) rfl rfl dX1_canMerge_22 ?_
      refine w_iload_n C 0 dX1_canMerge_25 rfl ?_
      refine w_callSLN C (c_X7_lowOf hw) f_X7_lowOf n_521 rfl ⟨Nat.le_of_ble_eq_true rfl, Nat.le_of_ble_eq_true rfl⟩ rfl rfl ⟨Nat.le_of_ble_eq_true rfl, Nat.le_of_ble_eq_true rfl⟩ rfl (Nat.le_of_ble_eq_true rfl) dX1_canMerge_26 (fun r_26 u_26 hw => ?_)
      try dsimp only at hw
      refine w_aload_n C 1 dX1_canMerge_29 rfl ?_
      refine w_get C (T1 := TX1) 0 5 u_X1 k_156 rfl (by decide) rfl rfl dX1_canMerge_30 ?_
      refine w_lcmp_le C 34 39 rfl (by decide) dX1_canMerge_33 dX1_canMerge_34 (fun c_33 => ?_) (fun c_33 => ?_)
      · replace hw := hw.1 c_33
        refine w_sub (lv' := [(0, .ref (a 0)), (1, .ref (a 0)), (2, .int p1)]) C [1, 2, 3] rfl ?_
        exact wk_X1_canMerge_s_39 C  hw
      · replace hw := hw.2 c_33
        refine w_iconst C (v := (0 : Int32)) dX1_canMerge_37 (by decide) ?_
        exact w_zret C () (Or.inl rfl) hw rfl (Nat.le_of_ble_eq_true rfl) (Nat.le_of_ble_eq_true rfl) dX1_canMerge_38
def blk_X1_mergeFrom_81 (t_sort : Int32) (t_digits : Int32) (o_digits : Int32) (o_slots : Int32) (o_pages : Int32) (o_units : Nat → Int64) (o_kinds : Nat → Int32) (K2 : Int32 → (Nat → Int64) → (Nat → Int32) → Prop) (K23 : Int32 → (Nat → Int64) → (Nat → Int32) → Prop) (Q : (Nat → Int64) → (Nat → Int32) → Prop) (x2 : Int32) (x3 : Int32) (x4 : Int32) (x5 : Int32) (t_units : Nat → Int64) (t_kinds : Nat → Int32) : Prop := ∀ x5_81 : Int32, x5_81 = x5 + (1 : Int32) → K23 x5_81 t_units t_kinds
def bod_X1_mergeFrom_23 (t_sort : Int32) (t_digits : Int32) (o_digits : Int32) (o_slots : Int32) (o_pages : Int32) (o_units : Nat → Int64) (o_kinds : Nat → Int32) (K2 : Int32 → (Nat → Int64) → (Nat → Int32) → Prop) (Q : (Nat → Int64) → (Nat → Int32) → Prop) (x2 : Int32) (x3 : Int32) (x4 : Int32)  (K23 : Int32 → (Nat → Int64) → (Nat → Int32) → Prop) (x5 : Int32) (t_units : Nat → Int64) (t_kinds : Nat → Int32) : Prop := ((x4 ≤ x5 → (∀ x3_87 : Int32, x3_87 = x3 + (1 : Int32) → K2 x3_87 t_units t_kinds)) ∧ (¬ x4 ≤ x5 → (wp_X1_unitsOf x5 o_units (fun (r_33 : Int64) => ∀ x6_36 : Int64, x6_36 = r_33 → ((x6_36 = (0 : Int64) → ((blk_X1_mergeFrom_81 t_sort t_digits o_digits o_slots o_pages o_units o_kinds K2 K23 Q x2 x3 x4 x5 t_units t_kinds))) ∧ (¬ x6_36 = (0 : Int64) → (wp_X7_lowOf o_digits x5  (fun (r_55 : Int64) => wp_X7_slotOf t_digits r_55  (fun (r_58 : Int32) => ∀ x8_61 : Int32, x8_61 = r_58 → wp_X1_unitsOf x8_61 t_units (fun (r_69 : Int64) => wp_X1_rewrite x8_61 (r_69 + (((x2).toInt64) * x6_36)) t_sort t_units t_kinds (fun (t_units_78 : Nat → Int64) (t_kinds_78 : Nat → Int32) => (blk_X1_mergeFrom_81 t_sort t_digits o_digits o_slots o_pages o_units o_kinds K2 K23 Q x2 x3 x4 x5 t_units_78 t_kinds_78))))))))))))
def lp_X1_mergeFrom_23 (t_sort : Int32) (t_digits : Int32) (o_digits : Int32) (o_slots : Int32) (o_pages : Int32) (o_units : Nat → Int64) (o_kinds : Nat → Int32) (K2 : Int32 → (Nat → Int64) → (Nat → Int32) → Prop) (Q : (Nat → Int64) → (Nat → Int32) → Prop) (x2 : Int32) (x3 : Int32) (x4 : Int32)  : Nat → Int32 → (Nat → Int64) → (Nat → Int32) → Prop
  | 0, _, _, _ => False
  | j + 1, x5, t_units, t_kinds => bod_X1_mergeFrom_23 t_sort t_digits o_digits o_slots o_pages o_units o_kinds K2 Q x2 x3 x4 (fun v0 v1 v2 => lp_X1_mergeFrom_23 t_sort t_digits o_digits o_slots o_pages o_units o_kinds K2 Q x2 x3 x4 j v0 v1 v2) x5 t_units t_kinds
def bod_X1_mergeFrom_2 (t_sort : Int32) (t_digits : Int32) (o_digits : Int32) (o_slots : Int32) (o_pages : Int32) (o_units : Nat → Int64) (o_kinds : Nat → Int32)  (Q : (Nat → Int64) → (Nat → Int32) → Prop) (x2 : Int32)  (K2 : Int32 → (Nat → Int64) → (Nat → Int32) → Prop) (x3 : Int32) (t_units : Nat → Int64) (t_kinds : Nat → Int32) : Prop := ((o_pages ≤ x3 → (Q t_units t_kinds)) ∧ (¬ o_pages ≤ x3 → (wp_X1_endOf x3 o_slots o_kinds (fun (r_12 : Int32) => ∀ x4_15 : Int32, x4_15 = r_12 → ∀ x5_21 : Int32, x5_21 = ((16 : Int32) * x3) → (∃ j : Nat, lp_X1_mergeFrom_23 t_sort t_digits o_digits o_slots o_pages o_units o_kinds K2 Q x2 x3 x4_15 j x5_21 t_units t_kinds)))))
def lp_X1_mergeFrom_2 (t_sort : Int32) (t_digits : Int32) (o_digits : Int32) (o_slots : Int32) (o_pages : Int32) (o_units : Nat → Int64) (o_kinds : Nat → Int32)  (Q : (Nat → Int64) → (Nat → Int32) → Prop) (x2 : Int32)  : Nat → Int32 → (Nat → Int64) → (Nat → Int32) → Prop
  | 0, _, _, _ => False
  | j + 1, x3, t_units, t_kinds => bod_X1_mergeFrom_2 t_sort t_digits o_digits o_slots o_pages o_units o_kinds  Q x2 (fun v0 v1 v2 => lp_X1_mergeFrom_2 t_sort t_digits o_digits o_slots o_pages o_units o_kinds  Q x2 j v0 v1 v2) x3 t_units t_kinds
def wp_X1_mergeFrom (p1 : Int32) (t_sort : Int32) (t_digits : Int32) (t_units : Nat → Int64) (t_kinds : Nat → Int32) (o_digits : Int32) (o_slots : Int32) (o_pages : Int32) (o_units : Nat → Int64) (o_kinds : Nat → Int32) (Q : (Nat → Int64) → (Nat → Int32) → Prop) : Prop := ∀ x3_1 : Int32, x3_1 = (0 : Int32) → (∃ j : Nat, lp_X1_mergeFrom_2 t_sort t_digits o_digits o_slots o_pages o_units o_kinds  Q p1 j x3_1 t_units t_kinds)
set_option maxHeartbeats 4000000 in
set_option maxRecDepth 100000 in
theorem wk_X1_mergeFrom_81 {p : Program} {l : Launch} {e : Env} {s : State} {m : MethodId} {args : Array Value} {below : List Frame} {meth : Method} {c : Code} {D : va_G} {cB cI cJ cL cS : ClassId} {T : Nat × Nat × Nat × Nat} {A : Nat → Prop} {a : Nat → Nat} {b : Nat → Nat} {t_made : Int32} {t_sort : Int32} {t_digits : Int32} {t_slots : Int32} {t_pages : Int32} {t_highest : Int64} {t_rows : Nat → Int32} {t_marks : Nat → Int32} {o_made : Int32} {o_sort : Int32} {o_digits : Int32} {o_slots : Int32} {o_pages : Int32} {o_highest : Int64} {o_units : Nat → Int64} {o_kinds : Nat → Int32} {o_rows : Nat → Int32} {o_marks : Nat → Int32} {Q : (Nat → Int64) → (Nat → Int32) → Prop} (C : Cq p s m args meth c D (Z5 cB cI cJ cL cS) T A cX1_mergeFrom RX1 9 (Option.none : Option Jvm.ClassFile.FieldType)) {x2 : Int32} {x3 : Int32} {x4 : Int32} {x5 : Int32} {t_units : Nat → Int64} {t_kinds : Nat → Int32} {K2 : Int32 → (Nat → Int64) → (Nat → Int32) → Prop} (hK2 : ∀ (y3 : Int32) (z_t_units : Nat → Int64) (z_t_kinds : Nat → Int32), K2 y3 z_t_units z_t_kinds → ww p l e ({ frames := 4, cells := 0, slots := 0, locals := 106 } : Room) s m args below meth c D A 9 (MQ below (va_Qv (fun (u : (Nat → Int64) × (Nat → Int32)) => Q u.1 u.2) (OutP D (fun (u : (Nat → Int64) × (Nat → Int32)) => (wL cB cI cJ a t_made t_sort t_digits t_slots t_pages t_highest u.1 u.2 t_rows t_marks ++ (wL cB cI cJ b o_made o_sort o_digits o_slots o_pages o_highest o_units o_kinds o_rows o_marks)))) A) args s 0 0 A) 0 0 (wL cB cI cJ a t_made t_sort t_digits t_slots t_pages t_highest z_t_units z_t_kinds t_rows t_marks ++ (wL cB cI cJ b o_made o_sort o_digits o_slots o_pages o_highest o_units o_kinds o_rows o_marks)) 2 [(0, .ref (a 0)), (1, .ref (b 0)), (2, .int x2), (3, .int y3)] []) {K23 : Int32 → (Nat → Int64) → (Nat → Int32) → Prop} (hK23 : ∀ (y5 : Int32) (z_t_units : Nat → Int64) (z_t_kinds : Nat → Int32), K23 y5 z_t_units z_t_kinds → ww p l e ({ frames := 4, cells := 0, slots := 0, locals := 106 } : Room) s m args below meth c D A 9 (MQ below (va_Qv (fun (u : (Nat → Int64) × (Nat → Int32)) => Q u.1 u.2) (OutP D (fun (u : (Nat → Int64) × (Nat → Int32)) => (wL cB cI cJ a t_made t_sort t_digits t_slots t_pages t_highest u.1 u.2 t_rows t_marks ++ (wL cB cI cJ b o_made o_sort o_digits o_slots o_pages o_highest o_units o_kinds o_rows o_marks)))) A) args s 0 0 A) 0 0 (wL cB cI cJ a t_made t_sort t_digits t_slots t_pages t_highest z_t_units z_t_kinds t_rows t_marks ++ (wL cB cI cJ b o_made o_sort o_digits o_slots o_pages o_highest o_units o_kinds o_rows o_marks)) 23 [(0, .ref (a 0)), (1, .ref (b 0)), (2, .int x2), (3, .int x3), (4, .int x4), (5, .int y5)] []) (hw : blk_X1_mergeFrom_81 t_sort t_digits o_digits o_slots o_pages o_units o_kinds K2 K23 Q x2 x3 x4 x5 t_units t_kinds) : ww p l e ({ frames := 4, cells := 0, slots := 0, locals := 106 } : Room) s m args below meth c D A 9 (MQ below (va_Qv (fun (u : (Nat → Int64) × (Nat → Int32)) => Q u.1 u.2) (OutP D (fun (u : (Nat → Int64) × (Nat → Int32)) => (wL cB cI cJ a t_made t_sort t_digits t_slots t_pages t_highest u.1 u.2 t_rows t_marks ++ (wL cB cI cJ b o_made o_sort o_digits o_slots o_pages o_highest o_units o_kinds o_rows o_marks)))) A) args s 0 0 A) 0 0 (wL cB cI cJ a t_made t_sort t_digits t_slots t_pages t_highest t_units t_kinds t_rows t_marks ++ (wL cB cI cJ b o_made o_sort o_digits o_slots o_pages o_highest o_units o_kinds o_rows o_marks)) 81 [(0, .ref (a 0)), (1, .ref (b 0)), (2, .int x2), (3, .int x3), (4, .int x4), (5, .int x5)] [] := by
  unfold blk_X1_mergeFrom_81 at hw
  refine w_iinc C (v := x5 + (1 : Int32)) 5 (fun x5_81 => [(5, .int x5_81), (0, .ref (a 0)), (1, .ref (b 0)), (2, .int x2), (3, .int x3), (4, .int x4)]) dX1_mergeFrom_81 rfl rfl (by decide) (fun _ => rfl) (fun x5_81 e_x5_81 => ?_)
  replace hw := hw x5_81 e_x5_81
  refine w_goto C 23 (by decide) dX1_mergeFrom_84 ?_
  refine w_sub (lv' := [(0, .ref (a 0)), (1, .ref (b 0)), (2, .int x2), (3, .int x3), (4, .int x4), (5, .int x5_81)]) C [1, 2, 3, 4, 5, 0] rfl ?_
  exact hK23 _ _ _ hw
set_option maxHeartbeats 4000000 in
set_option maxRecDepth 100000 in
theorem wl_X1_mergeFrom_23 {p : Program} {l : Launch} {e : Env} {s : State} {m : MethodId} {args : Array Value} {below : List Frame} {meth : Method} {c : Code} {D : va_G} {cB cI cJ cL cS : ClassId} {T : Nat × Nat × Nat × Nat} {A : Nat → Prop} {a : Nat → Nat} {b : Nat → Nat} {t_made : Int32} {t_sort : Int32} {t_digits : Int32} {t_slots : Int32} {t_pages : Int32} {t_highest : Int64} {t_rows : Nat → Int32} {t_marks : Nat → Int32} {o_made : Int32} {o_sort : Int32} {o_digits : Int32} {o_slots : Int32} {o_pages : Int32} {o_highest : Int64} {o_units : Nat → Int64} {o_kinds : Nat → Int32} {o_rows : Nat → Int32} {o_marks : Nat → Int32} {Q : (Nat → Int64) → (Nat → Int32) → Prop} (C : Cq p s m args meth c D (Z5 cB cI cJ cL cS) T A cX1_mergeFrom RX1 9 (Option.none : Option Jvm.ClassFile.FieldType)) {x2 : Int32} {x3 : Int32} {x4 : Int32}  {K2 : Int32 → (Nat → Int64) → (Nat → Int32) → Prop} (hK2 : ∀ (y3 : Int32) (z_t_units : Nat → Int64) (z_t_kinds : Nat → Int32), K2 y3 z_t_units z_t_kinds → ww p l e ({ frames := 4, cells := 0, slots := 0, locals := 106 } : Room) s m args below meth c D A 9 (MQ below (va_Qv (fun (u : (Nat → Int64) × (Nat → Int32)) => Q u.1 u.2) (OutP D (fun (u : (Nat → Int64) × (Nat → Int32)) => (wL cB cI cJ a t_made t_sort t_digits t_slots t_pages t_highest u.1 u.2 t_rows t_marks ++ (wL cB cI cJ b o_made o_sort o_digits o_slots o_pages o_highest o_units o_kinds o_rows o_marks)))) A) args s 0 0 A) 0 0 (wL cB cI cJ a t_made t_sort t_digits t_slots t_pages t_highest z_t_units z_t_kinds t_rows t_marks ++ (wL cB cI cJ b o_made o_sort o_digits o_slots o_pages o_highest o_units o_kinds o_rows o_marks)) 2 [(0, .ref (a 0)), (1, .ref (b 0)), (2, .int x2), (3, .int y3)] []) : ∀ (j : Nat) (x5 : Int32) (t_units : Nat → Int64) (t_kinds : Nat → Int32), lp_X1_mergeFrom_23 t_sort t_digits o_digits o_slots o_pages o_units o_kinds K2 Q x2 x3 x4 j x5 t_units t_kinds → ww p l e ({ frames := 4, cells := 0, slots := 0, locals := 106 } : Room) s m args below meth c D A 9 (MQ below (va_Qv (fun (u : (Nat → Int64) × (Nat → Int32)) => Q u.1 u.2) (OutP D (fun (u : (Nat → Int64) × (Nat → Int32)) => (wL cB cI cJ a t_made t_sort t_digits t_slots t_pages t_highest u.1 u.2 t_rows t_marks ++ (wL cB cI cJ b o_made o_sort o_digits o_slots o_pages o_highest o_units o_kinds o_rows o_marks)))) A) args s 0 0 A) 0 0 (wL cB cI cJ a t_made t_sort t_digits t_slots t_pages t_highest t_units t_kinds t_rows t_marks ++ (wL cB cI cJ b o_made o_sort o_digits o_slots o_pages o_highest o_units o_kinds o_rows o_marks)) 23 [(0, .ref (a 0)), (1, .ref (b 0)), (2, .int x2), (3, .int x3), (4, .int x4), (5, .int x5)] [] := by
  intro j
  induction j with
  | zero => intro _ _ _ hw; exact hw.elim
  | succ j hK23 =>
    intro x5 t_units t_kinds hw
    have hw : bod_X1_mergeFrom_23 t_sort t_digits o_digits o_slots o_pages o_units o_kinds K2 Q x2 x3 x4 (fun v0 v1 v2 => lp_X1_mergeFrom_23 t_sort t_digits o_digits o_slots o_pages o_units o_kinds K2 Q x2 x3 x4 j v0 v1 v2) x5 t_units t_kinds := hw
    unfold bod_X1_mergeFrom_23 at hw
    refine w_iload C 5 dX1_mergeFrom_23 rfl ?_
    refine w_iload C 4 dX1_mergeFrom_25 rfl ?_
    refine w_icmp_ge C 87 (by decide) dX1_mergeFrom_27 (fun c_27 => ?_) (fun c_27 => ?_)
    · replace hw := hw.1 c_27
      refine w_iinc C (v := x3 + (1 : Int32)) 3 (fun x3_87 => [(3, .int x3_87), (0, .ref (a 0)), (1, .ref (b 0)), (2, .int x2), (4, .int x4), (5, .int x5)]) dX1_mergeFrom_87 rfl rfl (by decide) (fun _ => rfl) (fun x3_87 e_x3_87 => ?_)
      replace hw := hw x3_87 e_x3_87
      refine w_goto C 2 (by decide) dX1_mergeFrom_90 ?_
      refine w_sub (lv' := [(0, .ref (a 0)), (1, .ref (b 0)), (2, .int x2), (3, .int x3_87)]) C [1, 2, 3, 0] rfl ?_
      exact hK2 _ _ _ hw
    · replace hw := hw.2 c_27
      refine w_aload_n C 1 dX1_mergeFrom_30 rfl ?_
      refine w_iload C 5 dX1_mergeFrom_31 rfl ?_
      refine w_callPL C (c_X1_unitsOf hw) f_X1_unitsOf k_290 k_288 rfl ⟨Nat.le_of_ble_eq_true rfl, Nat.le_of_ble_eq_true rfl⟩ rfl rfl ⟨Nat.le_of_ble_eq_true rfl, Nat.le_of_ble_eq_true rfl⟩ 0 rfl (rr := (RX1, TX1, 10)) rfl rfl (wL cB cI cJ a t_made t_sort t_digits t_slots t_pages t_highest t_units t_kinds t_rows t_marks) (fun (u : Unit) => (wL cB cI cJ a t_made t_sort t_digits t_slots t_pages t_highest t_units t_kinds t_rows t_marks ++ (wL cB cI cJ b o_made o_sort o_digits o_slots o_pages o_highest o_units o_kinds o_rows o_marks))) [5, 6, 7, 8, 9] [0, 1, 2, 3, 4] [0, 1, 2, 3, 4, 5, 6, 7, 8, 9] rfl rfl (by decide) (by decide) (by decide) (by decide) (fun _ => rfl) (fun _ => rfl) rfl (Nat.le_of_ble_eq_true rfl) dX1_mergeFrom_33 (fun r_33 u_33 hw => ?_)
      try dsimp only at hw
      refine w_lstore C (fun x6_36 => [(6, .long x6_36), (0, .ref (a 0)), (1, .ref (b 0)), (2, .int x2), (3, .int x3), (4, .int x4), (5, .int x5)]) dX1_mergeFrom_36 (by decide) (fun _ => rfl) (fun x6_36 e_x6_36 => ?_)
      replace hw := hw x6_36 e_x6_36
      refine w_lload C 0 dX1_mergeFrom_38 rfl ?_
      refine w_lconst C (v := (0 : Int64)) dX1_mergeFrom_40 (by decide) ?_
      refine w_lcmp_eq C 42 81 rfl (by decide) dX1_mergeFrom_41 dX1_mergeFrom_42 (fun c_41 => ?_) (fun c_41 => ?_)
      · replace hw := hw.1 c_41
        refine w_sub (lv' := [(0, .ref (a 0)), (1, .ref (b 0)), (2, .int x2), (3, .int x3), (4, .int x4), (5, .int x5)]) C [1, 2, 3, 4, 5, 6] rfl ?_
        exact wk_X1_mergeFrom_81 C hK2 hK23 hw
      · replace hw := hw.2 c_41
        refine w_aload_n C 1 dX1_mergeFrom_45 rfl ?_
        refine w_get C (T1 := TX1) 0 2 u_X1 k_150 rfl (by decide) rfl rfl dX1_mergeFrom_46 ?_
        refine w_aload_n C 2 dX1_mergeFrom_49 rfl ?_
        refine w_get C (T1 := TX1) 5 2 u_X1 k_150 rfl (by decide) rfl rfl dX1_mergeFrom_50 ?_
        refine w_iload C 6 dX1_mergeFrom_53 rfl ?_
        refine w_callSLN C (c_X7_lowOf hw) f_X7_lowOf n_521 rfl ⟨Nat.le_of_ble_eq_true rfl, Nat.le_of_ble_eq_true rfl⟩ rfl rfl ⟨Nat.le_of_ble_eq_true rfl, Nat.le_of_ble_eq_true rfl⟩ rfl (Nat.le_of_ble_eq_true rfl) dX1_mergeFrom_55 (fun r_55 u_55 hw => ?_)
        try dsimp only at hw
        refine w_callSIN C (c_X7_slotOf hw) f_X7_slotOf n_425 rfl ⟨Nat.le_of_ble_eq_true rfl, Nat.le_of_ble_eq_true rfl⟩ rfl rfl ⟨Nat.le_of_ble_eq_true rfl, Nat.le_of_ble_eq_true rfl⟩ rfl (Nat.le_of_ble_eq_true rfl) dX1_mergeFrom_58 (fun r_58 u_58 hw => ?_)
        try dsimp only at hw
        refine w_istore C (fun x8_61 => [(8, .int x8_61), (6, .long x6_36), (0, .ref (a 0)), (1, .ref (b 0)), (2, .int x2), (3, .int x3), (4, .int x4), (5, .int x5)]) dX1_mergeFrom_61 (by decide) (fun _ => rfl) (fun x8_61 e_x8_61 => ?_)
        replace hw := hw x8_61 e_x8_61
        refine w_aload_n C 2 dX1_mergeFrom_63 rfl ?_
        refine w_iload C 0 dX1_mergeFrom_64 rfl ?_
        refine w_aload_n C 2 dX1_mergeFrom_66 rfl ?_
        refine w_iload C 0 dX1_mergeFrom_67 rfl ?_
        refine w_callPL C (c_X1_unitsOf hw) f_X1_unitsOf k_290 k_288 rfl ⟨Nat.le_of_ble_eq_true rfl, Nat.le_of_ble_eq_true rfl⟩ rfl rfl ⟨Nat.le_of_ble_eq_true rfl, Nat.le_of_ble_eq_true rfl⟩ 0 rfl (rr := (RX1, TX1, 10)) rfl rfl (wL cB cI cJ b o_made o_sort o_digits o_slots o_pages o_highest o_units o_kinds o_rows o_marks) (fun (u : Unit) => (wL cB cI cJ a t_made t_sort t_digits t_slots t_pages t_highest t_units t_kinds t_rows t_marks ++ (wL cB cI cJ b o_made o_sort o_digits o_slots o_pages o_highest o_units o_kinds o_rows o_marks))) [0, 1, 2, 3, 4] [5, 6, 7, 8, 9] [5, 6, 7, 8, 9, 0, 1, 2, 3, 4] rfl rfl (by decide) (by decide) (by decide) (by decide) (fun _ => rfl) (fun _ => rfl) rfl (Nat.le_of_ble_eq_true rfl) dX1_mergeFrom_69 (fun r_69 u_69 hw => ?_)
        try dsimp only at hw
        refine w_iload_n C 4 dX1_mergeFrom_72 rfl ?_
        refine w_i2l C dX1_mergeFrom_73 ?_
        refine w_lload C 1 dX1_mergeFrom_74 rfl ?_
        refine w_lmul C dX1_mergeFrom_76 ?_
        refine w_ladd C dX1_mergeFrom_77 ?_
        refine w_callPV C (c_X1_rewrite hw) f_X1_rewrite k_436 k_523 rfl ⟨Nat.le_of_ble_eq_true rfl, Nat.le_of_ble_eq_true rfl⟩ rfl rfl ⟨Nat.le_of_ble_eq_true rfl, Nat.le_of_ble_eq_true rfl⟩ 0 rfl (rr := (RX1, TX1, 10)) rfl rfl (wL cB cI cJ b o_made o_sort o_digits o_slots o_pages o_highest o_units o_kinds o_rows o_marks) (fun (u : (Nat → Int64) × (Nat → Int32)) => (wL cB cI cJ a t_made t_sort t_digits t_slots t_pages t_highest u.1 u.2 t_rows t_marks ++ (wL cB cI cJ b o_made o_sort o_digits o_slots o_pages o_highest o_units o_kinds o_rows o_marks))) [0, 1, 2, 3, 4] [5, 6, 7, 8, 9] [5, 6, 7, 8, 9, 0, 1, 2, 3, 4] rfl rfl (by decide) (by decide) (by decide) (by decide) (fun _ => rfl) (fun _ => rfl) rfl (Nat.le_of_ble_eq_true rfl) dX1_mergeFrom_78 (fun u_78 hw => ?_)
        obtain ⟨t_units_78, t_kinds_78⟩ := u_78
        try dsimp only at hw
        refine w_sub (lv' := [(0, .ref (a 0)), (1, .ref (b 0)), (2, .int x2), (3, .int x3), (4, .int x4), (5, .int x5)]) C [2, 3, 4, 5, 6, 7] rfl ?_
        exact wk_X1_mergeFrom_81 C hK2 hK23 hw
set_option maxHeartbeats 4000000 in
set_option maxRecDepth 100000 in
theorem wl_X1_mergeFrom_2 {p : Program} {l : Launch} {e : Env} {s : State} {m : MethodId} {args : Array Value} {below : List Frame} {meth : Method} {c : Code} {D : va_G} {cB cI cJ cL cS : ClassId} {T : Nat × Nat × Nat × Nat} {A : Nat → Prop} {a : Nat → Nat} {b : Nat → Nat} {t_made : Int32} {t_sort : Int32} {t_digits : Int32} {t_slots : Int32} {t_pages : Int32} {t_highest : Int64} {t_rows : Nat → Int32} {t_marks : Nat → Int32} {o_made : Int32} {o_sort : Int32} {o_digits : Int32} {o_slots : Int32} {o_pages : Int32} {o_highest : Int64} {o_units : Nat → Int64} {o_kinds : Nat → Int32} {o_rows : Nat → Int32} {o_marks : Nat → Int32} {Q : (Nat → Int64) → (Nat → Int32) → Prop} (C : Cq p s m args meth c D (Z5 cB cI cJ cL cS) T A cX1_mergeFrom RX1 9 (Option.none : Option Jvm.ClassFile.FieldType)) {x2 : Int32}   : ∀ (j : Nat) (x3 : Int32) (t_units : Nat → Int64) (t_kinds : Nat → Int32), lp_X1_mergeFrom_2 t_sort t_digits o_digits o_slots o_pages o_units o_kinds  Q x2 j x3 t_units t_kinds → ww p l e ({ frames := 4, cells := 0, slots := 0, locals := 106 } : Room) s m args below meth c D A 9 (MQ below (va_Qv (fun (u : (Nat → Int64) × (Nat → Int32)) => Q u.1 u.2) (OutP D (fun (u : (Nat → Int64) × (Nat → Int32)) => (wL cB cI cJ a t_made t_sort t_digits t_slots t_pages t_highest u.1 u.2 t_rows t_marks ++ (wL cB cI cJ b o_made o_sort o_digits o_slots o_pages o_highest o_units o_kinds o_rows o_marks)))) A) args s 0 0 A) 0 0 (wL cB cI cJ a t_made t_sort t_digits t_slots t_pages t_highest t_units t_kinds t_rows t_marks ++ (wL cB cI cJ b o_made o_sort o_digits o_slots o_pages o_highest o_units o_kinds o_rows o_marks)) 2 [(0, .ref (a 0)), (1, .ref (b 0)), (2, .int x2), (3, .int x3)] [] := by
  intro j
  induction j with
  | zero => intro _ _ _ hw; exact hw.elim
  | succ j hK2 =>
    intro x3 t_units t_kinds hw
    have hw : bod_X1_mergeFrom_2 t_sort t_digits o_digits o_slots o_pages o_units o_kinds  Q x2 (fun v0 v1 v2 => lp_X1_mergeFrom_2 t_sort t_digits o_digits o_slots o_pages o_units o_kinds  Q x2 j v0 v1 v2) x3 t_units t_kinds := hw
    unfold bod_X1_mergeFrom_2 at hw
    refine w_iload_n C 3 dX1_mergeFrom_2 rfl ?_
    refine w_aload_n C 1 dX1_mergeFrom_3 rfl ?_
    refine w_get C (T1 := TX1) 5 4 u_X1 k_154 rfl (by decide) rfl rfl dX1_mergeFrom_4 ?_
    refine w_icmp_ge C 93 (by decide) dX1_mergeFrom_7 (fun c_7 => ?_) (fun c_7 => ?_)
    · replace hw := hw.1 c_7
      exact w_vret C (t_units, t_kinds) hw rfl (Nat.le_of_ble_eq_true rfl) (Nat.le_of_ble_eq_true rfl) dX1_mergeFrom_93
    · replace hw := hw.2 c_7
      refine w_aload_n C 1 dX1_mergeFrom_10 rfl ?_
      refine w_iload_n C 3 dX1_mergeFrom_11 rfl ?_
      refine w_callPI C (c_X1_endOf hw) f_X1_endOf k_2 k_277 rfl ⟨Nat.le_of_ble_eq_true rfl, Nat.le_of_ble_eq_true rfl⟩ rfl rfl ⟨Nat.le_of_ble_eq_true rfl, Nat.le_of_ble_eq_true rfl⟩ 0 rfl (rr := (RX1, TX1, 10)) rfl rfl (wL cB cI cJ a t_made t_sort t_digits t_slots t_pages t_highest t_units t_kinds t_rows t_marks) (fun (u : Unit) => (wL cB cI cJ a t_made t_sort t_digits t_slots t_pages t_highest t_units t_kinds t_rows t_marks ++ (wL cB cI cJ b o_made o_sort o_digits o_slots o_pages o_highest o_units o_kinds o_rows o_marks))) [5, 6, 7, 8, 9] [0, 1, 2, 3, 4] [0, 1, 2, 3, 4, 5, 6, 7, 8, 9] rfl rfl (by decide) (by decide) (by decide) (by decide) (fun _ => rfl) (fun _ => rfl) rfl (Nat.le_of_ble_eq_true rfl) dX1_mergeFrom_12 (fun r_12 u_12 hw => ?_)
      try dsimp only at hw
      refine w_istore C (fun x4_15 => [(4, .int x4_15), (0, .ref (a 0)), (1, .ref (b 0)), (2, .int x2), (3, .int x3)]) dX1_mergeFrom_15 (by decide) (fun _ => rfl) (fun x4_15 e_x4_15 => ?_)
      replace hw := hw x4_15 e_x4_15
      refine w_bipush C (v := (16 : Int32)) dX1_mergeFrom_17 (by decide) ?_
      refine w_iload_n C 4 dX1_mergeFrom_19 rfl ?_
      refine w_imul C dX1_mergeFrom_20 ?_
      refine w_istore C (fun x5_21 => [(5, .int x5_21), (4, .int x4_15), (0, .ref (a 0)), (1, .ref (b 0)), (2, .int x2), (3, .int x3)]) dX1_mergeFrom_21 (by decide) (fun _ => rfl) (fun x5_21 e_x5_21 => ?_)
      replace hw := hw x5_21 e_x5_21
      refine w_sub (lv' := [(0, .ref (a 0)), (1, .ref (b 0)), (2, .int x2), (3, .int x3), (4, .int x4_15), (5, .int x5_21)]) C [2, 3, 4, 5, 1, 0] rfl ?_
      obtain ⟨j, hw⟩ := hw
      exact wl_X1_mergeFrom_23 C hK2 j _ _ _ hw
set_option maxHeartbeats 4000000 in
set_option maxRecDepth 100000 in
theorem c_X1_mergeFrom {l : Launch} {D : va_G} {cB cI cJ cL cS : ClassId} {T : Nat × Nat × Nat × Nat} {a : Nat → Nat} {b : Nat → Nat} {p1 : Int32} {t_made : Int32} {t_sort : Int32} {t_digits : Int32} {t_slots : Int32} {t_pages : Int32} {t_highest : Int64} {t_units : Nat → Int64} {t_kinds : Nat → Int32} {t_rows : Nat → Int32} {t_marks : Nat → Int32} {o_made : Int32} {o_sort : Int32} {o_digits : Int32} {o_slots : Int32} {o_pages : Int32} {o_highest : Int64} {o_units : Nat → Int64} {o_kinds : Nat → Int32} {o_rows : Nat → Int32} {o_marks : Nat → Int32} {Q : (Nat → Int64) → (Nat → Int32) → Prop} (hw : wp_X1_mergeFrom p1 t_sort t_digits t_units t_kinds o_digits o_slots o_pages o_units o_kinds Q) : CtV l D (Z5 cB cI cJ cL cS) T yX1_mergeFrom cX1_mergeFrom 9 ({ frames := 4, cells := 0, slots := 0, locals := 106 } : Room) (Option.none : Option Jvm.ClassFile.FieldType) [.ref (a 0), .ref (b 0), .int p1] (wL cB cI cJ a t_made t_sort t_digits t_slots t_pages t_highest t_units t_kinds t_rows t_marks ++ (wL cB cI cJ b o_made o_sort o_digits o_slots o_pages o_highest o_units o_kinds o_rows o_marks)) (fun (u : (Nat → Int64) × (Nat → Int32)) => (wL cB cI cJ a t_made t_sort t_digits t_slots t_pages t_highest u.1 u.2 t_rows t_marks ++ (wL cB cI cJ b o_made o_sort o_digits o_slots o_pages o_highest o_units o_kinds o_rows o_marks))) (fun (u : (Nat → Int64) × (Nat → Int32)) => Q u.1 u.2) 0 0 := by
  refine ctV_of (own := RX1) (by decide +kernel) rfl (Nat.le_of_ble_eq_true rfl) (fun p e s m below meth c A C => ?_)
  refine w_sub (lv' := [(0, .ref (a 0)), (1, .ref (b 0)), (2, .int p1)]) C [0, 1, 2] rfl ?_
  unfold wp_X1_mergeFrom at hw
  refine w_iconst C (v := (0 : Int32)) dX1_mergeFrom_0 (by decide) ?_
  refine w_istore_n C (fun x3_1 => [(3, .int x3_1), (0, .ref (a 0)), (1, .ref (b 0)), (2, .int p1)]) dX1_mergeFrom_1 (by decide) (fun _ => rfl) (fun x3_1 e_x3_1 => ?_)
  replace hw := hw x3_1 e_x3_1
  refine w_sub (lv' := [(0, .ref (a 0)), (1, .ref (b 0)), (2, .int p1), (3, .int x3_1)]) C [1, 2, 3, 0] rfl ?_
  obtain ⟨j, hw⟩ := hw
  exact wl_X1_mergeFrom_2 C  j _ _ _ hw
def blk_X1_mergeFrom_s_81 (t_sort : Int32) (t_digits : Int32) (t_slots : Int32) (t_pages : Int32) (K2 : Int32 → (Nat → Int64) → (Nat → Int32) → Prop) (K23 : Int32 → (Nat → Int64) → (Nat → Int32) → Prop) (Q : (Nat → Int64) → (Nat → Int32) → Prop) (x2 : Int32) (x3 : Int32) (x4 : Int32) (x5 : Int32) (t_units : Nat → Int64) (t_kinds : Nat → Int32) : Prop := ∀ x5_81 : Int32, x5_81 = x5 + (1 : Int32) → K23 x5_81 t_units t_kinds
def bod_X1_mergeFrom_s_23 (t_sort : Int32) (t_digits : Int32) (t_slots : Int32) (t_pages : Int32) (K2 : Int32 → (Nat → Int64) → (Nat → Int32) → Prop) (Q : (Nat → Int64) → (Nat → Int32) → Prop) (x2 : Int32) (x3 : Int32) (x4 : Int32)  (K23 : Int32 → (Nat → Int64) → (Nat → Int32) → Prop) (x5 : Int32) (t_units : Nat → Int64) (t_kinds : Nat → Int32) : Prop := ((x4 ≤ x5 → (∀ x3_87 : Int32, x3_87 = x3 + (1 : Int32) → K2 x3_87 t_units t_kinds)) ∧ (¬ x4 ≤ x5 → (wp_X1_unitsOf x5 t_units (fun (r_33 : Int64) => ∀ x6_36 : Int64, x6_36 = r_33 → ((x6_36 = (0 : Int64) → ((blk_X1_mergeFrom_s_81 t_sort t_digits t_slots t_pages K2 K23 Q x2 x3 x4 x5 t_units t_kinds))) ∧ (¬ x6_36 = (0 : Int64) → (wp_X7_lowOf t_digits x5  (fun (r_55 : Int64) => wp_X7_slotOf t_digits r_55  (fun (r_58 : Int32) => ∀ x8_61 : Int32, x8_61 = r_58 → wp_X1_unitsOf x8_61 t_units (fun (r_69 : Int64) => wp_X1_rewrite x8_61 (r_69 + (((x2).toInt64) * x6_36)) t_sort t_units t_kinds (fun (t_units_78 : Nat → Int64) (t_kinds_78 : Nat → Int32) => (blk_X1_mergeFrom_s_81 t_sort t_digits t_slots t_pages K2 K23 Q x2 x3 x4 x5 t_units_78 t_kinds_78))))))))))))
def lp_X1_mergeFrom_s_23 (t_sort : Int32) (t_digits : Int32) (t_slots : Int32) (t_pages : Int32) (K2 : Int32 → (Nat → Int64) → (Nat → Int32) → Prop) (Q : (Nat → Int64) → (Nat → Int32) → Prop) (x2 : Int32) (x3 : Int32) (x4 : Int32)  : Nat → Int32 → (Nat → Int64) → (Nat → Int32) → Prop
  | 0, _, _, _ => False
  | j + 1, x5, t_units, t_kinds => bod_X1_mergeFrom_s_23 t_sort t_digits t_slots t_pages K2 Q x2 x3 x4 (fun v0 v1 v2 => lp_X1_mergeFrom_s_23 t_sort t_digits t_slots t_pages K2 Q x2 x3 x4 j v0 v1 v2) x5 t_units t_kinds
def bod_X1_mergeFrom_s_2 (t_sort : Int32) (t_digits : Int32) (t_slots : Int32) (t_pages : Int32)  (Q : (Nat → Int64) → (Nat → Int32) → Prop) (x2 : Int32)  (K2 : Int32 → (Nat → Int64) → (Nat → Int32) → Prop) (x3 : Int32) (t_units : Nat → Int64) (t_kinds : Nat → Int32) : Prop := ((t_pages ≤ x3 → (Q t_units t_kinds)) ∧ (¬ t_pages ≤ x3 → (wp_X1_endOf x3 t_slots t_kinds (fun (r_12 : Int32) => ∀ x4_15 : Int32, x4_15 = r_12 → ∀ x5_21 : Int32, x5_21 = ((16 : Int32) * x3) → (∃ j : Nat, lp_X1_mergeFrom_s_23 t_sort t_digits t_slots t_pages K2 Q x2 x3 x4_15 j x5_21 t_units t_kinds)))))
def lp_X1_mergeFrom_s_2 (t_sort : Int32) (t_digits : Int32) (t_slots : Int32) (t_pages : Int32)  (Q : (Nat → Int64) → (Nat → Int32) → Prop) (x2 : Int32)  : Nat → Int32 → (Nat → Int64) → (Nat → Int32) → Prop
  | 0, _, _, _ => False
  | j + 1, x3, t_units, t_kinds => bod_X1_mergeFrom_s_2 t_sort t_digits t_slots t_pages  Q x2 (fun v0 v1 v2 => lp_X1_mergeFrom_s_2 t_sort t_digits t_slots t_pages  Q x2 j v0 v1 v2) x3 t_units t_kinds
def wp_X1_mergeFrom_s (p1 : Int32) (t_sort : Int32) (t_digits : Int32) (t_slots : Int32) (t_pages : Int32) (t_units : Nat → Int64) (t_kinds : Nat → Int32) (Q : (Nat → Int64) → (Nat → Int32) → Prop) : Prop := ∀ x3_1 : Int32, x3_1 = (0 : Int32) → (∃ j : Nat, lp_X1_mergeFrom_s_2 t_sort t_digits t_slots t_pages  Q p1 j x3_1 t_units t_kinds)
set_option maxHeartbeats 4000000 in
set_option maxRecDepth 100000 in
theorem wk_X1_mergeFrom_s_81 {p : Program} {l : Launch} {e : Env} {s : State} {m : MethodId} {args : Array Value} {below : List Frame} {meth : Method} {c : Code} {D : va_G} {cB cI cJ cL cS : ClassId} {T : Nat × Nat × Nat × Nat} {A : Nat → Prop} {a : Nat → Nat} {t_made : Int32} {t_sort : Int32} {t_digits : Int32} {t_slots : Int32} {t_pages : Int32} {t_highest : Int64} {t_rows : Nat → Int32} {t_marks : Nat → Int32} {Q : (Nat → Int64) → (Nat → Int32) → Prop} (C : Cq p s m args meth c D (Z5 cB cI cJ cL cS) T A cX1_mergeFrom RX1 9 (Option.none : Option Jvm.ClassFile.FieldType)) {x2 : Int32} {x3 : Int32} {x4 : Int32} {x5 : Int32} {t_units : Nat → Int64} {t_kinds : Nat → Int32} {K2 : Int32 → (Nat → Int64) → (Nat → Int32) → Prop} (hK2 : ∀ (y3 : Int32) (z_t_units : Nat → Int64) (z_t_kinds : Nat → Int32), K2 y3 z_t_units z_t_kinds → ww p l e ({ frames := 4, cells := 0, slots := 0, locals := 106 } : Room) s m args below meth c D A 9 (MQ below (va_Qv (fun (u : (Nat → Int64) × (Nat → Int32)) => Q u.1 u.2) (OutP D (fun (u : (Nat → Int64) × (Nat → Int32)) => (wL cB cI cJ a t_made t_sort t_digits t_slots t_pages t_highest u.1 u.2 t_rows t_marks))) A) args s 0 0 A) 0 0 (wL cB cI cJ a t_made t_sort t_digits t_slots t_pages t_highest z_t_units z_t_kinds t_rows t_marks) 2 [(0, .ref (a 0)), (1, .ref (a 0)), (2, .int x2), (3, .int y3)] []) {K23 : Int32 → (Nat → Int64) → (Nat → Int32) → Prop} (hK23 : ∀ (y5 : Int32) (z_t_units : Nat → Int64) (z_t_kinds : Nat → Int32), K23 y5 z_t_units z_t_kinds → ww p l e ({ frames := 4, cells := 0, slots := 0, locals := 106 } : Room) s m args below meth c D A 9 (MQ below (va_Qv (fun (u : (Nat → Int64) × (Nat → Int32)) => Q u.1 u.2) (OutP D (fun (u : (Nat → Int64) × (Nat → Int32)) => (wL cB cI cJ a t_made t_sort t_digits t_slots t_pages t_highest u.1 u.2 t_rows t_marks))) A) args s 0 0 A) 0 0 (wL cB cI cJ a t_made t_sort t_digits t_slots t_pages t_highest z_t_units z_t_kinds t_rows t_marks) 23 [(0, .ref (a 0)), (1, .ref (a 0)), (2, .int x2), (3, .int x3), (4, .int x4), (5, .int y5)] []) (hw : blk_X1_mergeFrom_s_81 t_sort t_digits t_slots t_pages K2 K23 Q x2 x3 x4 x5 t_units t_kinds) : ww p l e ({ frames := 4, cells := 0, slots := 0, locals := 106 } : Room) s m args below meth c D A 9 (MQ below (va_Qv (fun (u : (Nat → Int64) × (Nat → Int32)) => Q u.1 u.2) (OutP D (fun (u : (Nat → Int64) × (Nat → Int32)) => (wL cB cI cJ a t_made t_sort t_digits t_slots t_pages t_highest u.1 u.2 t_rows t_marks))) A) args s 0 0 A) 0 0 (wL cB cI cJ a t_made t_sort t_digits t_slots t_pages t_highest t_units t_kinds t_rows t_marks) 81 [(0, .ref (a 0)), (1, .ref (a 0)), (2, .int x2), (3, .int x3), (4, .int x4), (5, .int x5)] [] := by
  unfold blk_X1_mergeFrom_s_81 at hw
  refine w_iinc C (v := x5 + (1 : Int32)) 5 (fun x5_81 => [(5, .int x5_81), (0, .ref (a 0)), (1, .ref (a 0)), (2, .int x2), (3, .int x3), (4, .int x4)]) dX1_mergeFrom_81 rfl rfl (by decide) (fun _ => rfl) (fun x5_81 e_x5_81 => ?_)
  replace hw := hw x5_81 e_x5_81
  refine w_goto C 23 (by decide) dX1_mergeFrom_84 ?_
  refine w_sub (lv' := [(0, .ref (a 0)), (1, .ref (a 0)), (2, .int x2), (3, .int x3), (4, .int x4), (5, .int x5_81)]) C [1, 2, 3, 4, 5, 0] rfl ?_
  exact hK23 _ _ _ hw
set_option maxHeartbeats 4000000 in
set_option maxRecDepth 100000 in
theorem wl_X1_mergeFrom_s_23 {p : Program} {l : Launch} {e : Env} {s : State} {m : MethodId} {args : Array Value} {below : List Frame} {meth : Method} {c : Code} {D : va_G} {cB cI cJ cL cS : ClassId} {T : Nat × Nat × Nat × Nat} {A : Nat → Prop} {a : Nat → Nat} {t_made : Int32} {t_sort : Int32} {t_digits : Int32} {t_slots : Int32} {t_pages : Int32} {t_highest : Int64} {t_rows : Nat → Int32} {t_marks : Nat → Int32} {Q : (Nat → Int64) → (Nat → Int32) → Prop} (C : Cq p s m args meth c D (Z5 cB cI cJ cL cS) T A cX1_mergeFrom RX1 9 (Option.none : Option Jvm.ClassFile.FieldType)) {x2 : Int32} {x3 : Int32} {x4 : Int32}  {K2 : Int32 → (Nat → Int64) → (Nat → Int32) → Prop} (hK2 : ∀ (y3 : Int32) (z_t_units : Nat → Int64) (z_t_kinds : Nat → Int32), K2 y3 z_t_units z_t_kinds → ww p l e ({ frames := 4, cells := 0, slots := 0, locals := 106 } : Room) s m args below meth c D A 9 (MQ below (va_Qv (fun (u : (Nat → Int64) × (Nat → Int32)) => Q u.1 u.2) (OutP D (fun (u : (Nat → Int64) × (Nat → Int32)) => (wL cB cI cJ a t_made t_sort t_digits t_slots t_pages t_highest u.1 u.2 t_rows t_marks))) A) args s 0 0 A) 0 0 (wL cB cI cJ a t_made t_sort t_digits t_slots t_pages t_highest z_t_units z_t_kinds t_rows t_marks) 2 [(0, .ref (a 0)), (1, .ref (a 0)), (2, .int x2), (3, .int y3)] []) : ∀ (j : Nat) (x5 : Int32) (t_units : Nat → Int64) (t_kinds : Nat → Int32), lp_X1_mergeFrom_s_23 t_sort t_digits t_slots t_pages K2 Q x2 x3 x4 j x5 t_units t_kinds → ww p l e ({ frames := 4, cells := 0, slots := 0, locals := 106 } : Room) s m args below meth c D A 9 (MQ below (va_Qv (fun (u : (Nat → Int64) × (Nat → Int32)) => Q u.1 u.2) (OutP D (fun (u : (Nat → Int64) × (Nat → Int32)) => (wL cB cI cJ a t_made t_sort t_digits t_slots t_pages t_highest u.1 u.2 t_rows t_marks))) A) args s 0 0 A) 0 0 (wL cB cI cJ a t_made t_sort t_digits t_slots t_pages t_highest t_units t_kinds t_rows t_marks) 23 [(0, .ref (a 0)), (1, .ref (a 0)), (2, .int x2), (3, .int x3), (4, .int x4), (5, .int x5)] [] := by
  intro j
  induction j with
  | zero => intro _ _ _ hw; exact hw.elim
  | succ j hK23 =>
    intro x5 t_units t_kinds hw
    have hw : bod_X1_mergeFrom_s_23 t_sort t_digits t_slots t_pages K2 Q x2 x3 x4 (fun v0 v1 v2 => lp_X1_mergeFrom_s_23 t_sort t_digits t_slots t_pages K2 Q x2 x3 x4 j v0 v1 v2) x5 t_units t_kinds := hw
    unfold bod_X1_mergeFrom_s_23 at hw
    refine w_iload C 5 dX1_mergeFrom_23 rfl ?_
    refine w_iload C 4 dX1_mergeFrom_25 rfl ?_
    refine w_icmp_ge C 87 (by decide) dX1_mergeFrom_27 (fun c_27 => ?_) (fun c_27 => ?_)
    · replace hw := hw.1 c_27
      refine w_iinc C (v := x3 + (1 : Int32)) 3 (fun x3_87 => [(3, .int x3_87), (0, .ref (a 0)), (1, .ref (a 0)), (2, .int x2), (4, .int x4), (5, .int x5)]) dX1_mergeFrom_87 rfl rfl (by decide) (fun _ => rfl) (fun x3_87 e_x3_87 => ?_)
      replace hw := hw x3_87 e_x3_87
      refine w_goto C 2 (by decide) dX1_mergeFrom_90 ?_
      refine w_sub (lv' := [(0, .ref (a 0)), (1, .ref (a 0)), (2, .int x2), (3, .int x3_87)]) C [1, 2, 3, 0] rfl ?_
      exact hK2 _ _ _ hw
    · replace hw := hw.2 c_27
      refine w_aload_n C 1 dX1_mergeFrom_30 rfl ?_
      refine w_iload C 5 dX1_mergeFrom_31 rfl ?_
      refine w_callVL C (c_X1_unitsOf hw) f_X1_unitsOf k_290 k_288 rfl ⟨Nat.le_of_ble_eq_true rfl, Nat.le_of_ble_eq_true rfl⟩ rfl rfl ⟨Nat.le_of_ble_eq_true rfl, Nat.le_of_ble_eq_true rfl⟩ 0 rfl (rr := (RX1, TX1, 10)) rfl rfl (fun _ => rfl) rfl (Nat.le_of_ble_eq_true rfl) dX1_mergeFrom_33 (fun r_33 u_33 hw => ?_)
      try dsimp only at hw
      refine w_lstore C (fun x6_36 => [(6, .long x6_36), (0, .ref (a 0)), (1, .ref (a 0)), (2, .int x2), (3, .int x3), (4, .int x4), (5, .int x5)]) dX1_mergeFrom_36 (by decide) (fun _ => rfl) (fun x6_36 e_x6_36 => ?_)
      replace hw := hw x6_36 e_x6_36
      refine w_lload C 0 dX1_mergeFrom_38 rfl ?_
      refine w_lconst C (v := (0 : Int64)) dX1_mergeFrom_40 (by decide) ?_
      refine w_lcmp_eq C 42 81 rfl (by decide) dX1_mergeFrom_41 dX1_mergeFrom_42 (fun c_41 => ?_) (fun c_41 => ?_)
      · replace hw := hw.1 c_41
        refine w_sub (lv' := [(0, .ref (a 0)), (1, .ref (a 0)), (2, .int x2), (3, .int x3), (4, .int x4), (5, .int x5)]) C [1, 2, 3, 4, 5, 6] rfl ?_
        exact wk_X1_mergeFrom_s_81 C hK2 hK23 hw
      · replace hw := hw.2 c_41
        refine w_aload_n C 1 dX1_mergeFrom_45 rfl ?_
        refine w_get C (T1 := TX1) 0 2 u_X1 k_150 rfl (by decide) rfl rfl dX1_mergeFrom_46 ?_
        refine w_aload_n C 2 dX1_mergeFrom_49 rfl ?_
        refine w_get C (T1 := TX1) 0 2 u_X1 k_150 rfl (by decide) rfl rfl dX1_mergeFrom_50 ?_
        refine w_iload C 6 dX1_mergeFrom_53 rfl ?_
        refine w_callSLN C (c_X7_lowOf hw) f_X7_lowOf n_521 rfl ⟨Nat.le_of_ble_eq_true rfl, Nat.le_of_ble_eq_true rfl⟩ rfl rfl ⟨Nat.le_of_ble_eq_true rfl, Nat.le_of_ble_eq_true rfl⟩ rfl (Nat.le_of_ble_eq_true rfl) dX1_mergeFrom_55 (fun r_55 u_55 hw => ?_)
        try dsimp only at hw
        refine w_callSIN C (c_X7_slotOf hw) f_X7_slotOf n_425 rfl ⟨Nat.le_of_ble_eq_true rfl, Nat.le_of_ble_eq_true rfl⟩ rfl rfl ⟨Nat.le_of_ble_eq_true rfl, Nat.le_of_ble_eq_true rfl⟩ rfl (Nat.le_of_ble_eq_true rfl) dX1_mergeFrom_58 (fun r_58 u_58 hw => ?_)
        try dsimp only at hw
        refine w_istore C (fun x8_61 => [(8, .int x8_61), (6, .long x6_36), (0, .ref (a 0)), (1, .ref (a 0)), (2, .int x2), (3, .int x3), (4, .int x4), (5, .int x5)]) dX1_mergeFrom_61 (by decide) (fun _ => rfl) (fun x8_61 e_x8_61 => ?_)
        replace hw := hw x8_61 e_x8_61
        refine w_aload_n C 2 dX1_mergeFrom_63 rfl ?_
        refine w_iload C 0 dX1_mergeFrom_64 rfl ?_
        refine w_aload_n C 2 dX1_mergeFrom_66 rfl ?_
        refine w_iload C 0 dX1_mergeFrom_67 rfl ?_
        refine w_callVL C (c_X1_unitsOf hw) f_X1_unitsOf k_290 k_288 rfl ⟨Nat.le_of_ble_eq_true rfl, Nat.le_of_ble_eq_true rfl⟩ rfl rfl ⟨Nat.le_of_ble_eq_true rfl, Nat.le_of_ble_eq_true rfl⟩ 0 rfl (rr := (RX1, TX1, 10)) rfl rfl (fun _ => rfl) rfl (Nat.le_of_ble_eq_true rfl) dX1_mergeFrom_69 (fun r_69 u_69 hw => ?_)
        try dsimp only at hw
        refine w_iload_n C 4 dX1_mergeFrom_72 rfl ?_
        refine w_i2l C dX1_mergeFrom_73 ?_
        refine w_lload C 1 dX1_mergeFrom_74 rfl ?_
        refine w_lmul C dX1_mergeFrom_76 ?_
        refine w_ladd C dX1_mergeFrom_77 ?_
        refine w_callVV C (c_X1_rewrite hw) f_X1_rewrite k_436 k_523 rfl ⟨Nat.le_of_ble_eq_true rfl, Nat.le_of_ble_eq_true rfl⟩ rfl rfl ⟨Nat.le_of_ble_eq_true rfl, Nat.le_of_ble_eq_true rfl⟩ 0 rfl (rr := (RX1, TX1, 10)) rfl rfl (fun _ => rfl) rfl (Nat.le_of_ble_eq_true rfl) dX1_mergeFrom_78 (fun u_78 hw => ?_)
        obtain ⟨t_units_78, t_kinds_78⟩ := u_78
        try dsimp only at hw
        refine w_sub (lv' := [(0, .ref (a 0)), (1, .ref (a 0)), (2, .int x2), (3, .int x3), (4, .int x4), (5, .int x5)]) C [2, 3, 4, 5, 6, 7] rfl ?_
        exact wk_X1_mergeFrom_s_81 C hK2 hK23 hw
set_option maxHeartbeats 4000000 in
set_option maxRecDepth 100000 in
theorem wl_X1_mergeFrom_s_2 {p : Program} {l : Launch} {e : Env} {s : State} {m : MethodId} {args : Array Value} {below : List Frame} {meth : Method} {c : Code} {D : va_G} {cB cI cJ cL cS : ClassId} {T : Nat × Nat × Nat × Nat} {A : Nat → Prop} {a : Nat → Nat} {t_made : Int32} {t_sort : Int32} {t_digits : Int32} {t_slots : Int32} {t_pages : Int32} {t_highest : Int64} {t_rows : Nat → Int32} {t_marks : Nat → Int32} {Q : (Nat → Int64) → (Nat → Int32) → Prop} (C : Cq p s m args meth c D (Z5 cB cI cJ cL cS) T A cX1_mergeFrom RX1 9 (Option.none : Option Jvm.ClassFile.FieldType)) {x2 : Int32}   : ∀ (j : Nat) (x3 : Int32) (t_units : Nat → Int64) (t_kinds : Nat → Int32), lp_X1_mergeFrom_s_2 t_sort t_digits t_slots t_pages  Q x2 j x3 t_units t_kinds → ww p l e ({ frames := 4, cells := 0, slots := 0, locals := 106 } : Room) s m args below meth c D A 9 (MQ below (va_Qv (fun (u : (Nat → Int64) × (Nat → Int32)) => Q u.1 u.2) (OutP D (fun (u : (Nat → Int64) × (Nat → Int32)) => (wL cB cI cJ a t_made t_sort t_digits t_slots t_pages t_highest u.1 u.2 t_rows t_marks))) A) args s 0 0 A) 0 0 (wL cB cI cJ a t_made t_sort t_digits t_slots t_pages t_highest t_units t_kinds t_rows t_marks) 2 [(0, .ref (a 0)), (1, .ref (a 0)), (2, .int x2), (3, .int x3)] [] := by
  intro j
  induction j with
  | zero => intro _ _ _ hw; exact hw.elim
  | succ j hK2 =>
    intro x3 t_units t_kinds hw
    have hw : bod_X1_mergeFrom_s_2 t_sort t_digits t_slots t_pages  Q x2 (fun v0 v1 v2 => lp_X1_mergeFrom_s_2 t_sort t_digits t_slots t_pages  Q x2 j v0 v1 v2) x3 t_units t_kinds := hw
    unfold bod_X1_mergeFrom_s_2 at hw
    refine w_iload_n C 3 dX1_mergeFrom_2 rfl ?_
    refine w_aload_n C 1 dX1_mergeFrom_3 rfl ?_
    refine w_get C (T1 := TX1) 0 4 u_X1 k_154 rfl (by decide) rfl rfl dX1_mergeFrom_4 ?_
    refine w_icmp_ge C 93 (by decide) dX1_mergeFrom_7 (fun c_7 => ?_) (fun c_7 => ?_)
    · replace hw := hw.1 c_7
      exact w_vret C (t_units, t_kinds) hw rfl (Nat.le_of_ble_eq_true rfl) (Nat.le_of_ble_eq_true rfl) dX1_mergeFrom_93
    · replace hw := hw.2 c_7
      refine w_aload_n C 1 dX1_mergeFrom_10 rfl ?_
      refine w_iload_n C 3 dX1_mergeFrom_11 rfl ?_
      refine w_callVI C (c_X1_endOf hw) f_X1_endOf k_2 k_277 rfl ⟨Nat.le_of_ble_eq_true rfl, Nat.le_of_ble_eq_true rfl⟩ rfl rfl ⟨Nat.le_of_ble_eq_true rfl, Nat.le_of_ble_eq_true rfl⟩ 0 rfl (rr := (RX1, TX1, 10)) rfl rfl (fun _ => rfl) rfl (Nat.le_of_ble_eq_true rfl) dX1_mergeFrom_12 (fun r_12 u_12 hw => ?_)
      try dsimp only at hw
      refine w_istore C (fun x4_15 => [(4, .int x4_15), (0, .ref (a 0)), (1, .ref (a 0)), (2, .int x2), (3, .int x3)]) dX1_mergeFrom_15 (by decide) (fun _ => rfl) (fun x4_15 e_x4_15 => ?_)
      replace hw := hw x4_15 e_x4_15
      refine w_bipush C (v := (16 : Int32)) dX1_mergeFrom_17 (by decide) ?_
      refine w_iload_n C 4 dX1_mergeFrom_19 rfl ?_
      refine w_imul C dX1_mergeFrom_20 ?_
      refine w_istore C (fun x5_21 => [(5, .int x5_21), (4, .int x4_15), (0, .ref (a 0)), (1, .ref (a 0)), (2, .int x2), (3, .int x3)]) dX1_mergeFrom_21 (by decide) (fun _ => rfl) (fun x5_21 e_x5_21 => ?_)
      replace hw := hw x5_21 e_x5_21
      refine w_sub (lv' := [(0, .ref (a 0)), (1, .ref (a 0)), (2, .int x2), (3, .int x3), (4, .int x4_15), (5, .int x5_21)]) C [2, 3, 4, 5, 1, 0] rfl ?_
      obtain ⟨j, hw⟩ := hw
      exact wl_X1_mergeFrom_s_23 C hK2 j _ _ _ hw
set_option maxHeartbeats 4000000 in
set_option maxRecDepth 100000 in
theorem c_X1_mergeFrom_s {l : Launch} {D : va_G} {cB cI cJ cL cS : ClassId} {T : Nat × Nat × Nat × Nat} {a : Nat → Nat} {p1 : Int32} {t_made : Int32} {t_sort : Int32} {t_digits : Int32} {t_slots : Int32} {t_pages : Int32} {t_highest : Int64} {t_units : Nat → Int64} {t_kinds : Nat → Int32} {t_rows : Nat → Int32} {t_marks : Nat → Int32} {Q : (Nat → Int64) → (Nat → Int32) → Prop} (hw : wp_X1_mergeFrom_s p1 t_sort t_digits t_slots t_pages t_units t_kinds Q) : CtV l D (Z5 cB cI cJ cL cS) T yX1_mergeFrom cX1_mergeFrom 9 ({ frames := 4, cells := 0, slots := 0, locals := 106 } : Room) (Option.none : Option Jvm.ClassFile.FieldType) [.ref (a 0), .ref (a 0), .int p1] (wL cB cI cJ a t_made t_sort t_digits t_slots t_pages t_highest t_units t_kinds t_rows t_marks) (fun (u : (Nat → Int64) × (Nat → Int32)) => (wL cB cI cJ a t_made t_sort t_digits t_slots t_pages t_highest u.1 u.2 t_rows t_marks)) (fun (u : (Nat → Int64) × (Nat → Int32)) => Q u.1 u.2) 0 0 := by
  refine ctV_of (own := RX1) (by decide +kernel) rfl (Nat.le_of_ble_eq_true rfl) (fun p e s m below meth c A C => ?_)
  refine w_sub (lv' := [(0, .ref (a 0)), (1, .ref (a 0)), (2, .int p1)]) C [0, 1, 2] rfl ?_
  unfold wp_X1_mergeFrom_s at hw
  refine w_iconst C (v := (0 : Int32)) dX1_mergeFrom_0 (by decide) ?_
  refine w_istore_n C (fun x3_1 => [(3, .int x3_1), (0, .ref (a 0)), (1, .ref (a 0)), (2, .int p1)]) dX1_mergeFrom_1 (by decide) (fun _ => rfl) (fun x3_1 e_x3_1 => ?_)
  replace hw := hw x3_1 e_x3_1
  refine w_sub (lv' := [(0, .ref (a 0)), (1, .ref (a 0)), (2, .int p1), (3, .int x3_1)]) C [1, 2, 3, 0] rfl ?_
  obtain ⟨j, hw⟩ := hw
  exact wl_X1_mergeFrom_s_2 C  j _ _ _ hw
def bod_X1_halveAll_21 (t_sort : Int32) (t_slots : Int32) (t_pages : Int32) (K2 : Int32 → (Nat → Int64) → (Nat → Int32) → Prop) (Q : (Nat → Int64) → (Nat → Int32) → Prop) (x1 : Int32) (x2 : Int32)  (K21 : Int32 → (Nat → Int64) → (Nat → Int32) → Prop) (x3 : Int32) (t_units : Nat → Int64) (t_kinds : Nat → Int32) : Prop := ((x2 ≤ x3 → (∀ x1_46 : Int32, x1_46 = x1 + (1 : Int32) → K2 x1_46 t_units t_kinds)) ∧ (¬ x2 ≤ x3 → (wp_X1_unitsOf x3 t_units (fun (r_30 : Int64) => wp_X1_rewrite x3 (r_30 / (2 : Int64)) t_sort t_units t_kinds (fun (t_units_37 : Nat → Int64) (t_kinds_37 : Nat → Int32) => ∀ x3_40 : Int32, x3_40 = x3 + (1 : Int32) → K21 x3_40 t_units_37 t_kinds_37)))))
def lp_X1_halveAll_21 (t_sort : Int32) (t_slots : Int32) (t_pages : Int32) (K2 : Int32 → (Nat → Int64) → (Nat → Int32) → Prop) (Q : (Nat → Int64) → (Nat → Int32) → Prop) (x1 : Int32) (x2 : Int32)  : Nat → Int32 → (Nat → Int64) → (Nat → Int32) → Prop
  | 0, _, _, _ => False
  | j + 1, x3, t_units, t_kinds => bod_X1_halveAll_21 t_sort t_slots t_pages K2 Q x1 x2 (fun v0 v1 v2 => lp_X1_halveAll_21 t_sort t_slots t_pages K2 Q x1 x2 j v0 v1 v2) x3 t_units t_kinds
def bod_X1_halveAll_2 (t_sort : Int32) (t_slots : Int32) (t_pages : Int32)  (Q : (Nat → Int64) → (Nat → Int32) → Prop)   (K2 : Int32 → (Nat → Int64) → (Nat → Int32) → Prop) (x1 : Int32) (t_units : Nat → Int64) (t_kinds : Nat → Int32) : Prop := ((t_pages ≤ x1 → (Q t_units t_kinds)) ∧ (¬ t_pages ≤ x1 → (wp_X1_endOf x1 t_slots t_kinds (fun (r_12 : Int32) => ∀ x2_15 : Int32, x2_15 = r_12 → ∀ x3_20 : Int32, x3_20 = ((16 : Int32) * x1) → (∃ j : Nat, lp_X1_halveAll_21 t_sort t_slots t_pages K2 Q x1 x2_15 j x3_20 t_units t_kinds)))))
def lp_X1_halveAll_2 (t_sort : Int32) (t_slots : Int32) (t_pages : Int32)  (Q : (Nat → Int64) → (Nat → Int32) → Prop)   : Nat → Int32 → (Nat → Int64) → (Nat → Int32) → Prop
  | 0, _, _, _ => False
  | j + 1, x1, t_units, t_kinds => bod_X1_halveAll_2 t_sort t_slots t_pages  Q  (fun v0 v1 v2 => lp_X1_halveAll_2 t_sort t_slots t_pages  Q  j v0 v1 v2) x1 t_units t_kinds
def wp_X1_halveAll  (t_sort : Int32) (t_slots : Int32) (t_pages : Int32) (t_units : Nat → Int64) (t_kinds : Nat → Int32) (Q : (Nat → Int64) → (Nat → Int32) → Prop) : Prop := ∀ x1_1 : Int32, x1_1 = (0 : Int32) → (∃ j : Nat, lp_X1_halveAll_2 t_sort t_slots t_pages  Q  j x1_1 t_units t_kinds)
set_option maxHeartbeats 4000000 in
set_option maxRecDepth 100000 in
theorem wl_X1_halveAll_21 {p : Program} {l : Launch} {e : Env} {s : State} {m : MethodId} {args : Array Value} {below : List Frame} {meth : Method} {c : Code} {D : va_G} {cB cI cJ cL cS : ClassId} {T : Nat × Nat × Nat × Nat} {A : Nat → Prop} {a : Nat → Nat} {t_made : Int32} {t_sort : Int32} {t_digits : Int32} {t_slots : Int32} {t_pages : Int32} {t_highest : Int64} {t_rows : Nat → Int32} {t_marks : Nat → Int32} {Q : (Nat → Int64) → (Nat → Int32) → Prop} (C : Cq p s m args meth c D (Z5 cB cI cJ cL cS) T A cX1_halveAll RX1 4 (Option.none : Option Jvm.ClassFile.FieldType)) {x1 : Int32} {x2 : Int32}  {K2 : Int32 → (Nat → Int64) → (Nat → Int32) → Prop} (hK2 : ∀ (y1 : Int32) (z_t_units : Nat → Int64) (z_t_kinds : Nat → Int32), K2 y1 z_t_units z_t_kinds → ww p l e ({ frames := 4, cells := 0, slots := 0, locals := 106 } : Room) s m args below meth c D A 4 (MQ below (va_Qv (fun (u : (Nat → Int64) × (Nat → Int32)) => Q u.1 u.2) (OutP D (fun (u : (Nat → Int64) × (Nat → Int32)) => (wL cB cI cJ a t_made t_sort t_digits t_slots t_pages t_highest u.1 u.2 t_rows t_marks))) A) args s 0 0 A) 0 0 (wL cB cI cJ a t_made t_sort t_digits t_slots t_pages t_highest z_t_units z_t_kinds t_rows t_marks) 2 [(0, .ref (a 0)), (1, .int y1)] []) : ∀ (j : Nat) (x3 : Int32) (t_units : Nat → Int64) (t_kinds : Nat → Int32), lp_X1_halveAll_21 t_sort t_slots t_pages K2 Q x1 x2 j x3 t_units t_kinds → ww p l e ({ frames := 4, cells := 0, slots := 0, locals := 106 } : Room) s m args below meth c D A 4 (MQ below (va_Qv (fun (u : (Nat → Int64) × (Nat → Int32)) => Q u.1 u.2) (OutP D (fun (u : (Nat → Int64) × (Nat → Int32)) => (wL cB cI cJ a t_made t_sort t_digits t_slots t_pages t_highest u.1 u.2 t_rows t_marks))) A) args s 0 0 A) 0 0 (wL cB cI cJ a t_made t_sort t_digits t_slots t_pages t_highest t_units t_kinds t_rows t_marks) 21 [(0, .ref (a 0)), (1, .int x1), (2, .int x2), (3, .int x3)] [] := by
  intro j
  induction j with
  | zero => intro _ _ _ hw; exact hw.elim
  | succ j hK21 =>
    intro x3 t_units t_kinds hw
    have hw : bod_X1_halveAll_21 t_sort t_slots t_pages K2 Q x1 x2 (fun v0 v1 v2 => lp_X1_halveAll_21 t_sort t_slots t_pages K2 Q x1 x2 j v0 v1 v2) x3 t_units t_kinds := hw
    unfold bod_X1_halveAll_21 at hw
    refine w_iload_n C 3 dX1_halveAll_21 rfl ?_
    refine w_iload_n C 2 dX1_halveAll_22 rfl ?_
    refine w_icmp_ge C 46 (by decide) dX1_halveAll_23 (fun c_23 => ?_) (fun c_23 => ?_)
    · replace hw := hw.1 c_23
      refine w_iinc C (v := x1 + (1 : Int32)) 1 (fun x1_46 => [(1, .int x1_46), (0, .ref (a 0)), (2, .int x2), (3, .int x3)]) dX1_halveAll_46 rfl rfl (by decide) (fun _ => rfl) (fun x1_46 e_x1_46 => ?_)
      replace hw := hw x1_46 e_x1_46
      refine w_goto C 2 (by decide) dX1_halveAll_49 ?_
      refine w_sub (lv' := [(0, .ref (a 0)), (1, .int x1_46)]) C [1, 0] rfl ?_
      exact hK2 _ _ _ hw
    · replace hw := hw.2 c_23
      refine w_aload_n C 0 dX1_halveAll_26 rfl ?_
      refine w_iload_n C 3 dX1_halveAll_27 rfl ?_
      refine w_aload_n C 0 dX1_halveAll_28 rfl ?_
      refine w_iload_n C 3 dX1_halveAll_29 rfl ?_
      refine w_callVL C (c_X1_unitsOf hw) f_X1_unitsOf k_290 k_288 rfl ⟨Nat.le_of_ble_eq_true rfl, Nat.le_of_ble_eq_true rfl⟩ rfl rfl ⟨Nat.le_of_ble_eq_true rfl, Nat.le_of_ble_eq_true rfl⟩ 0 rfl (rr := (RX1, TX1, 10)) rfl rfl (fun _ => rfl) rfl (Nat.le_of_ble_eq_true rfl) dX1_halveAll_30 (fun r_30 u_30 hw => ?_)
      try dsimp only at hw
      refine w_ldc2 C (v := (2 : Int64)) dX1_halveAll_33 k_292 ?_
      refine w_ldiv C (by decide) dX1_halveAll_36 ?_
      refine w_callVV C (c_X1_rewrite hw) f_X1_rewrite k_436 k_523 rfl ⟨Nat.le_of_ble_eq_true rfl, Nat.le_of_ble_eq_true rfl⟩ rfl rfl ⟨Nat.le_of_ble_eq_true rfl, Nat.le_of_ble_eq_true rfl⟩ 0 rfl (rr := (RX1, TX1, 10)) rfl rfl (fun _ => rfl) rfl (Nat.le_of_ble_eq_true rfl) dX1_halveAll_37 (fun u_37 hw => ?_)
      obtain ⟨t_units_37, t_kinds_37⟩ := u_37
      try dsimp only at hw
      refine w_iinc C (v := x3 + (1 : Int32)) 3 (fun x3_40 => [(3, .int x3_40), (0, .ref (a 0)), (1, .int x1), (2, .int x2)]) dX1_halveAll_40 rfl rfl (by decide) (fun _ => rfl) (fun x3_40 e_x3_40 => ?_)
      replace hw := hw x3_40 e_x3_40
      refine w_goto C 21 (by decide) dX1_halveAll_43 ?_
      refine w_sub (lv' := [(0, .ref (a 0)), (1, .int x1), (2, .int x2), (3, .int x3_40)]) C [1, 2, 3, 0] rfl ?_
      exact hK21 _ _ _ hw
set_option maxHeartbeats 4000000 in
set_option maxRecDepth 100000 in
theorem wl_X1_halveAll_2 {p : Program} {l : Launch} {e : Env} {s : State} {m : MethodId} {args : Array Value} {below : List Frame} {meth : Method} {c : Code} {D : va_G} {cB cI cJ cL cS : ClassId} {T : Nat × Nat × Nat × Nat} {A : Nat → Prop} {a : Nat → Nat} {t_made : Int32} {t_sort : Int32} {t_digits : Int32} {t_slots : Int32} {t_pages : Int32} {t_highest : Int64} {t_rows : Nat → Int32} {t_marks : Nat → Int32} {Q : (Nat → Int64) → (Nat → Int32) → Prop} (C : Cq p s m args meth c D (Z5 cB cI cJ cL cS) T A cX1_halveAll RX1 4 (Option.none : Option Jvm.ClassFile.FieldType))    : ∀ (j : Nat) (x1 : Int32) (t_units : Nat → Int64) (t_kinds : Nat → Int32), lp_X1_halveAll_2 t_sort t_slots t_pages  Q  j x1 t_units t_kinds → ww p l e ({ frames := 4, cells := 0, slots := 0, locals := 106 } : Room) s m args below meth c D A 4 (MQ below (va_Qv (fun (u : (Nat → Int64) × (Nat → Int32)) => Q u.1 u.2) (OutP D (fun (u : (Nat → Int64) × (Nat → Int32)) => (wL cB cI cJ a t_made t_sort t_digits t_slots t_pages t_highest u.1 u.2 t_rows t_marks))) A) args s 0 0 A) 0 0 (wL cB cI cJ a t_made t_sort t_digits t_slots t_pages t_highest t_units t_kinds t_rows t_marks) 2 [(0, .ref (a 0)), (1, .int x1)] [] := by
  intro j
  induction j with
  | zero => intro _ _ _ hw; exact hw.elim
  | succ j hK2 =>
    intro x1 t_units t_kinds hw
    have hw : bod_X1_halveAll_2 t_sort t_slots t_pages  Q  (fun v0 v1 v2 => lp_X1_halveAll_2 t_sort t_slots t_pages  Q  j v0 v1 v2) x1 t_units t_kinds := hw
    unfold bod_X1_halveAll_2 at hw
    refine w_iload_n C 1 dX1_halveAll_2 rfl ?_
    refine w_aload_n C 0 dX1_halveAll_3 rfl ?_
    refine w_get C (T1 := TX1) 0 4 u_X1 k_154 rfl (by decide) rfl rfl dX1_halveAll_4 ?_
    refine w_icmp_ge C 52 (by decide) dX1_halveAll_7 (fun c_7 => ?_) (fun c_7 => ?_)
    · replace hw := hw.1 c_7
      exact w_vret C (t_units, t_kinds) hw rfl (Nat.le_of_ble_eq_true rfl) (Nat.le_of_ble_eq_true rfl) dX1_halveAll_52
    · replace hw := hw.2 c_7
      refine w_aload_n C 0 dX1_halveAll_10 rfl ?_
      refine w_iload_n C 1 dX1_halveAll_11 rfl ?_
      refine w_callVI C (c_X1_endOf hw) f_X1_endOf k_2 k_277 rfl ⟨Nat.le_of_ble_eq_true rfl, Nat.le_of_ble_eq_true rfl⟩ rfl rfl ⟨Nat.le_of_ble_eq_true rfl, Nat.le_of_ble_eq_true rfl⟩ 0 rfl (rr := (RX1, TX1, 10)) rfl rfl (fun _ => rfl) rfl (Nat.le_of_ble_eq_true rfl) dX1_halveAll_12 (fun r_12 u_12 hw => ?_)
      try dsimp only at hw
      refine w_istore_n C (fun x2_15 => [(2, .int x2_15), (0, .ref (a 0)), (1, .int x1)]) dX1_halveAll_15 (by decide) (fun _ => rfl) (fun x2_15 e_x2_15 => ?_)
      replace hw := hw x2_15 e_x2_15
      refine w_bipush C (v := (16 : Int32)) dX1_halveAll_16 (by decide) ?_
      refine w_iload_n C 2 dX1_halveAll_18 rfl ?_
      refine w_imul C dX1_halveAll_19 ?_
      refine w_istore_n C (fun x3_20 => [(3, .int x3_20), (2, .int x2_15), (0, .ref (a 0)), (1, .int x1)]) dX1_halveAll_20 (by decide) (fun _ => rfl) (fun x3_20 e_x3_20 => ?_)
      replace hw := hw x3_20 e_x3_20
      refine w_sub (lv' := [(0, .ref (a 0)), (1, .int x1), (2, .int x2_15), (3, .int x3_20)]) C [2, 3, 1, 0] rfl ?_
      obtain ⟨j, hw⟩ := hw
      exact wl_X1_halveAll_21 C hK2 j _ _ _ hw
set_option maxHeartbeats 4000000 in
set_option maxRecDepth 100000 in
theorem c_X1_halveAll {l : Launch} {D : va_G} {cB cI cJ cL cS : ClassId} {T : Nat × Nat × Nat × Nat} {a : Nat → Nat}  {t_made : Int32} {t_sort : Int32} {t_digits : Int32} {t_slots : Int32} {t_pages : Int32} {t_highest : Int64} {t_units : Nat → Int64} {t_kinds : Nat → Int32} {t_rows : Nat → Int32} {t_marks : Nat → Int32} {Q : (Nat → Int64) → (Nat → Int32) → Prop} (hw : wp_X1_halveAll  t_sort t_slots t_pages t_units t_kinds Q) : CtV l D (Z5 cB cI cJ cL cS) T yX1_halveAll cX1_halveAll 4 ({ frames := 4, cells := 0, slots := 0, locals := 106 } : Room) (Option.none : Option Jvm.ClassFile.FieldType) [.ref (a 0)] (wL cB cI cJ a t_made t_sort t_digits t_slots t_pages t_highest t_units t_kinds t_rows t_marks) (fun (u : (Nat → Int64) × (Nat → Int32)) => (wL cB cI cJ a t_made t_sort t_digits t_slots t_pages t_highest u.1 u.2 t_rows t_marks)) (fun (u : (Nat → Int64) × (Nat → Int32)) => Q u.1 u.2) 0 0 := by
  refine ctV_of (own := RX1) (by decide +kernel) rfl (Nat.le_of_ble_eq_true rfl) (fun p e s m below meth c A C => ?_)
  refine w_sub (lv' := [(0, .ref (a 0))]) C [0] rfl ?_
  unfold wp_X1_halveAll at hw
  refine w_iconst C (v := (0 : Int32)) dX1_halveAll_0 (by decide) ?_
  refine w_istore_n C (fun x1_1 => [(1, .int x1_1), (0, .ref (a 0))]) dX1_halveAll_1 (by decide) (fun _ => rfl) (fun x1_1 e_x1_1 => ?_)
  replace hw := hw x1_1 e_x1_1
  refine w_sub (lv' := [(0, .ref (a 0)), (1, .int x1_1)]) C [1, 0] rfl ?_
  obtain ⟨j, hw⟩ := hw
  exact wl_X1_halveAll_2 C  j _ _ _ hw
def bod_X1_isLike_66 (t_sort : Int32) (t_digits : Int32) (t_slots : Int32) (t_pages : Int32) (t_highest : Int64) (t_units : Nat → Int64) (t_kinds : Nat → Int32) (o_sort : Int32) (o_digits : Int32) (o_slots : Int32) (o_highest : Int64) (o_units : Nat → Int64) (o_kinds : Nat → Int32) (K38 : Int32 → Prop) (Q : Int32 → Prop) (x2 : Int32) (x3 : Int32)  (K66 : Int32 → Prop) (x4 : Int32) : Prop := ((x3 ≤ x4 → (∀ x2_96 : Int32, x2_96 = x2 + (1 : Int32) → K38 x2_96)) ∧ (¬ x3 ≤ x4 → (wp_X1_unitsOf x4 t_units (fun (r_75 : Int64) => wp_X1_unitsOf x4 o_units (fun (r_81 : Int64) => ((r_75 = r_81 → (∀ x4_90 : Int32, x4_90 = x4 + (1 : Int32) → K66 x4_90)) ∧ (¬ r_75 = r_81 → (Q (0 : Int32)))))))))
def lp_X1_isLike_66 (t_sort : Int32) (t_digits : Int32) (t_slots : Int32) (t_pages : Int32) (t_highest : Int64) (t_units : Nat → Int64) (t_kinds : Nat → Int32) (o_sort : Int32) (o_digits : Int32) (o_slots : Int32) (o_highest : Int64) (o_units : Nat → Int64) (o_kinds : Nat → Int32) (K38 : Int32 → Prop) (Q : Int32 → Prop) (x2 : Int32) (x3 : Int32)  : Nat → Int32 → Prop
  | 0, _ => False
  | j + 1, x4 => bod_X1_isLike_66 t_sort t_digits t_slots t_pages t_highest t_units t_kinds o_sort o_digits o_slots o_highest o_units o_kinds K38 Q x2 x3 (fun v0 => lp_X1_isLike_66 t_sort t_digits t_slots t_pages t_highest t_units t_kinds o_sort o_digits o_slots o_highest o_units o_kinds K38 Q x2 x3 j v0) x4
def bod_X1_isLike_38 (t_sort : Int32) (t_digits : Int32) (t_slots : Int32) (t_pages : Int32) (t_highest : Int64) (t_units : Nat → Int64) (t_kinds : Nat → Int32) (o_sort : Int32) (o_digits : Int32) (o_slots : Int32) (o_highest : Int64) (o_units : Nat → Int64) (o_kinds : Nat → Int32)  (Q : Int32 → Prop)   (K38 : Int32 → Prop) (x2 : Int32) : Prop := ((t_pages ≤ x2 → (Q (1 : Int32))) ∧ (¬ t_pages ≤ x2 → (wp_X1_endOf x2 t_slots t_kinds (fun (r_48 : Int32) => wp_X1_endOf x2 o_slots o_kinds (fun (r_53 : Int32) => ∀ x3_59 : Int32, x3_59 = (if r_48 < r_53 then r_53 else r_48) → ∀ x4_64 : Int32, x4_64 = ((16 : Int32) * x2) → (∃ j : Nat, lp_X1_isLike_66 t_sort t_digits t_slots t_pages t_highest t_units t_kinds o_sort o_digits o_slots o_highest o_units o_kinds K38 Q x2 x3_59 j x4_64))))))
def lp_X1_isLike_38 (t_sort : Int32) (t_digits : Int32) (t_slots : Int32) (t_pages : Int32) (t_highest : Int64) (t_units : Nat → Int64) (t_kinds : Nat → Int32) (o_sort : Int32) (o_digits : Int32) (o_slots : Int32) (o_highest : Int64) (o_units : Nat → Int64) (o_kinds : Nat → Int32)  (Q : Int32 → Prop)   : Nat → Int32 → Prop
  | 0, _ => False
  | j + 1, x2 => bod_X1_isLike_38 t_sort t_digits t_slots t_pages t_highest t_units t_kinds o_sort o_digits o_slots o_highest o_units o_kinds  Q  (fun v0 => lp_X1_isLike_38 t_sort t_digits t_slots t_pages t_highest t_units t_kinds o_sort o_digits o_slots o_highest o_units o_kinds  Q  j v0) x2
def wp_X1_isLike  (t_sort : Int32) (t_digits : Int32) (t_slots : Int32) (t_pages : Int32) (t_highest : Int64) (t_units : Nat → Int64) (t_kinds : Nat → Int32) (o_sort : Int32) (o_digits : Int32) (o_slots : Int32) (o_highest : Int64) (o_units : Nat → Int64) (o_kinds : Nat → Int32) (Q : Int32 → Prop) : Prop := ((¬ t_sort = o_sort → (Q (0 : Int32))) ∧ (t_sort = o_sort → (((¬ t_digits = o_digits → (Q (0 : Int32))) ∧ (t_digits = o_digits → (((t_highest = o_highest → (∀ x2_37 : Int32, x2_37 = (0 : Int32) → (∃ j : Nat, lp_X1_isLike_38 t_sort t_digits t_slots t_pages t_highest t_units t_kinds o_sort o_digits o_slots o_highest o_units o_kinds  Q  j x2_37))) ∧ (¬ t_highest = o_highest → (Q (0 : Int32))))))))))
set_option maxHeartbeats 4000000 in
set_option maxRecDepth 100000 in
theorem wl_X1_isLike_66 {p : Program} {l : Launch} {e : Env} {s : State} {m : MethodId} {args : Array Value} {below : List Frame} {meth : Method} {c : Code} {D : va_G} {cB cI cJ cL cS : ClassId} {T : Nat × Nat × Nat × Nat} {A : Nat → Prop} {a : Nat → Nat} {b : Nat → Nat} {t_made : Int32} {t_sort : Int32} {t_digits : Int32} {t_slots : Int32} {t_pages : Int32} {t_highest : Int64} {t_units : Nat → Int64} {t_kinds : Nat → Int32} {t_rows : Nat → Int32} {t_marks : Nat → Int32} {o_made : Int32} {o_sort : Int32} {o_digits : Int32} {o_slots : Int32} {o_pages : Int32} {o_highest : Int64} {o_units : Nat → Int64} {o_kinds : Nat → Int32} {o_rows : Nat → Int32} {o_marks : Nat → Int32} {Q : Int32 → Prop} (C : Cq p s m args meth c D (Z5 cB cI cJ cL cS) T A cX1_isLike RX1 5 (Option.some Jvm.ClassFile.FieldType.boolean)) {x2 : Int32} {x3 : Int32}  {K38 : Int32 → Prop} (hK38 : ∀ (y2 : Int32), K38 y2 → ww p l e ({ frames := 2, cells := 0, slots := 0, locals := 53 } : Room) s m args below meth c D A 5 (MQ below (va_Qi (fun (r : Int32) (u : Unit) => Q r ) (OutP D (fun (u : Unit) => (wL cB cI cJ a t_made t_sort t_digits t_slots t_pages t_highest t_units t_kinds t_rows t_marks ++ (wL cB cI cJ b o_made o_sort o_digits o_slots o_pages o_highest o_units o_kinds o_rows o_marks)))) A) args s 0 0 A) 0 0 (wL cB cI cJ a t_made t_sort t_digits t_slots t_pages t_highest t_units t_kinds t_rows t_marks ++ (wL cB cI cJ b o_made o_sort o_digits o_slots o_pages o_highest o_units o_kinds o_rows o_marks)) 38 [(0, .ref (a 0)), (1, .ref (b 0)), (2, .int y2)] []) : ∀ (j : Nat) (x4 : Int32), lp_X1_isLike_66 t_sort t_digits t_slots t_pages t_highest t_units t_kinds o_sort o_digits o_slots o_highest o_units o_kinds K38 Q x2 x3 j x4 → ww p l e ({ frames := 2, cells := 0, slots := 0, locals := 53 } : Room) s m args below meth c D A 5 (MQ below (va_Qi (fun (r : Int32) (u : Unit) => Q r ) (OutP D (fun (u : Unit) => (wL cB cI cJ a t_made t_sort t_digits t_slots t_pages t_highest t_units t_kinds t_rows t_marks ++ (wL cB cI cJ b o_made o_sort o_digits o_slots o_pages o_highest o_units o_kinds o_rows o_marks)))) A) args s 0 0 A) 0 0 (wL cB cI cJ a t_made t_sort t_digits t_slots t_pages t_highest t_units t_kinds t_rows t_marks ++ (wL cB cI cJ b o_made o_sort o_digits o_slots o_pages o_highest o_units o_kinds o_rows o_marks)) 66 [(0, .ref (a 0)), (1, .ref (b 0)), (2, .int x2), (3, .int x3), (4, .int x4)] [] := by
  intro j
  induction j with
  | zero => intro _ hw; exact hw.elim
  | succ j hK66 =>
    intro x4 hw
    have hw : bod_X1_isLike_66 t_sort t_digits t_slots t_pages t_highest t_units t_kinds o_sort o_digits o_slots o_highest o_units o_kinds K38 Q x2 x3 (fun v0 => lp_X1_isLike_66 t_sort t_digits t_slots t_pages t_highest t_units t_kinds o_sort o_digits o_slots o_highest o_units o_kinds K38 Q x2 x3 j v0) x4 := hw
    unfold bod_X1_isLike_66 at hw
    refine w_iload C 4 dX1_isLike_66 rfl ?_
    refine w_iload_n C 3 dX1_isLike_68 rfl ?_
    refine w_icmp_ge C 96 (by decide) dX1_isLike_69 (fun c_69 => ?_) (fun c_69 => ?_)
    · replace hw := hw.1 c_69
      refine w_iinc C (v := x2 + (1 : Int32)) 2 (fun x2_96 => [(2, .int x2_96), (0, .ref (a 0)), (1, .ref (b 0)), (3, .int x3), (4, .int x4)]) dX1_isLike_96 rfl rfl (by decide) (fun _ => rfl) (fun x2_96 e_x2_96 => ?_)
      replace hw := hw x2_96 e_x2_96
      refine w_goto C 38 (by decide) dX1_isLike_99 ?_
      refine w_sub (lv' := [(0, .ref (a 0)), (1, .ref (b 0)), (2, .int x2_96)]) C [1, 2, 0] rfl ?_
      exact hK38 _ hw
    · replace hw := hw.2 c_69
      refine w_aload_n C 0 dX1_isLike_72 rfl ?_
      refine w_iload C 4 dX1_isLike_73 rfl ?_
      refine w_callPL C (c_X1_unitsOf hw) f_X1_unitsOf k_290 k_288 rfl ⟨Nat.le_of_ble_eq_true rfl, Nat.le_of_ble_eq_true rfl⟩ rfl rfl ⟨Nat.le_of_ble_eq_true rfl, Nat.le_of_ble_eq_true rfl⟩ 0 rfl (rr := (RX1, TX1, 10)) rfl rfl (wL cB cI cJ b o_made o_sort o_digits o_slots o_pages o_highest o_units o_kinds o_rows o_marks) (fun (u : Unit) => (wL cB cI cJ a t_made t_sort t_digits t_slots t_pages t_highest t_units t_kinds t_rows t_marks ++ (wL cB cI cJ b o_made o_sort o_digits o_slots o_pages o_highest o_units o_kinds o_rows o_marks))) [0, 1, 2, 3, 4] [5, 6, 7, 8, 9] [5, 6, 7, 8, 9, 0, 1, 2, 3, 4] rfl rfl (by decide) (by decide) (by decide) (by decide) (fun _ => rfl) (fun _ => rfl) rfl (Nat.le_of_ble_eq_true rfl) dX1_isLike_75 (fun r_75 u_75 hw => ?_)
      try dsimp only at hw
      refine w_aload_n C 1 dX1_isLike_78 rfl ?_
      refine w_iload C 4 dX1_isLike_79 rfl ?_
      refine w_callPL C (c_X1_unitsOf hw) f_X1_unitsOf k_290 k_288 rfl ⟨Nat.le_of_ble_eq_true rfl, Nat.le_of_ble_eq_true rfl⟩ rfl rfl ⟨Nat.le_of_ble_eq_true rfl, Nat.le_of_ble_eq_true rfl⟩ 0 rfl (rr := (RX1, TX1, 10)) rfl rfl (wL cB cI cJ a t_made t_sort t_digits t_slots t_pages t_highest t_units t_kinds t_rows t_marks) (fun (u : Unit) => (wL cB cI cJ a t_made t_sort t_digits t_slots t_pages t_highest t_units t_kinds t_rows t_marks ++ (wL cB cI cJ b o_made o_sort o_digits o_slots o_pages o_highest o_units o_kinds o_rows o_marks))) [5, 6, 7, 8, 9] [0, 1, 2, 3, 4] [0, 1, 2, 3, 4, 5, 6, 7, 8, 9] rfl rfl (by decide) (by decide) (by decide) (by decide) (fun _ => rfl) (fun _ => rfl) rfl (Nat.le_of_ble_eq_true rfl) dX1_isLike_81 (fun r_81 u_81 hw => ?_)
      try dsimp only at hw
      refine w_lcmp_eq C 85 90 rfl (by decide) dX1_isLike_84 dX1_isLike_85 (fun c_84 => ?_) (fun c_84 => ?_)
      · replace hw := hw.1 c_84
        refine w_iinc C (v := x4 + (1 : Int32)) 4 (fun x4_90 => [(4, .int x4_90), (0, .ref (a 0)), (1, .ref (b 0)), (2, .int x2), (3, .int x3)]) dX1_isLike_90 rfl rfl (by decide) (fun _ => rfl) (fun x4_90 e_x4_90 => ?_)
        replace hw := hw x4_90 e_x4_90
        refine w_goto C 66 (by decide) dX1_isLike_93 ?_
        refine w_sub (lv' := [(0, .ref (a 0)), (1, .ref (b 0)), (2, .int x2), (3, .int x3), (4, .int x4_90)]) C [1, 2, 3, 4, 0] rfl ?_
        exact hK66 _ hw
      · replace hw := hw.2 c_84
        refine w_iconst C (v := (0 : Int32)) dX1_isLike_88 (by decide) ?_
        exact w_zret C () (Or.inl rfl) hw rfl (Nat.le_of_ble_eq_true rfl) (Nat.le_of_ble_eq_true rfl) dX1_isLike_89
set_option maxHeartbeats 4000000 in
set_option maxRecDepth 100000 in
theorem wl_X1_isLike_38 {p : Program} {l : Launch} {e : Env} {s : State} {m : MethodId} {args : Array Value} {below : List Frame} {meth : Method} {c : Code} {D : va_G} {cB cI cJ cL cS : ClassId} {T : Nat × Nat × Nat × Nat} {A : Nat → Prop} {a : Nat → Nat} {b : Nat → Nat} {t_made : Int32} {t_sort : Int32} {t_digits : Int32} {t_slots : Int32} {t_pages : Int32} {t_highest : Int64} {t_units : Nat → Int64} {t_kinds : Nat → Int32} {t_rows : Nat → Int32} {t_marks : Nat → Int32} {o_made : Int32} {o_sort : Int32} {o_digits : Int32} {o_slots : Int32} {o_pages : Int32} {o_highest : Int64} {o_units : Nat → Int64} {o_kinds : Nat → Int32} {o_rows : Nat → Int32} {o_marks : Nat → Int32} {Q : Int32 → Prop} (C : Cq p s m args meth c D (Z5 cB cI cJ cL cS) T A cX1_isLike RX1 5 (Option.some Jvm.ClassFile.FieldType.boolean))    : ∀ (j : Nat) (x2 : Int32), lp_X1_isLike_38 t_sort t_digits t_slots t_pages t_highest t_units t_kinds o_sort o_digits o_slots o_highest o_units o_kinds  Q  j x2 → ww p l e ({ frames := 2, cells := 0, slots := 0, locals := 53 } : Room) s m args below meth c D A 5 (MQ below (va_Qi (fun (r : Int32) (u : Unit) => Q r ) (OutP D (fun (u : Unit) => (wL cB cI cJ a t_made t_sort t_digits t_slots t_pages t_highest t_units t_kinds t_rows t_marks ++ (wL cB cI cJ b o_made o_sort o_digits o_slots o_pages o_highest o_units o_kinds o_rows o_marks)))) A) args s 0 0 A) 0 0 (wL cB cI cJ a t_made t_sort t_digits t_slots t_pages t_highest t_units t_kinds t_rows t_marks ++ (wL cB cI cJ b o_made o_sort o_digits o_slots o_pages o_highest o_units o_kinds o_rows o_marks)) 38 [(0, .ref (a 0)), (1, .ref (b 0)), (2, .int x2)] [] := by
  intro j
  induction j with
  | zero => intro _ hw; exact hw.elim
  | succ j hK38 =>
    intro x2 hw
    have hw : bod_X1_isLike_38 t_sort t_digits t_slots t_pages t_highest t_units t_kinds o_sort o_digits o_slots o_highest o_units o_kinds  Q  (fun v0 => lp_X1_isLike_38 t_sort t_digits t_slots t_pages t_highest t_units t_kinds o_sort o_digits o_slots o_highest o_units o_kinds  Q  j v0) x2 := hw
    unfold bod_X1_isLike_38 at hw
    refine w_iload_n C 2 dX1_isLike_38 rfl ?_
    refine w_aload_n C 0 dX1_isLike_39 rfl ?_
    refine w_get C (T1 := TX1) 0 4 u_X1 k_154 rfl (by decide) rfl rfl dX1_isLike_40 ?_
    refine w_icmp_ge C 102 (by decide) dX1_isLike_43 (fun c_43 => ?_) (fun c_43 => ?_)
    · replace hw := hw.1 c_43
      refine w_iconst C (v := (1 : Int32)) dX1_isLike_102 (by decide) ?_
      exact w_zret C () (Or.inr rfl) hw rfl (Nat.le_of_ble_eq_true rfl) (Nat.le_of_ble_eq_true rfl) dX1_isLike_103
    · replace hw := hw.2 c_43
      refine w_aload_n C 0 dX1_isLike_46 rfl ?_
      refine w_iload_n C 2 dX1_isLike_47 rfl ?_
      refine w_callPI C (c_X1_endOf hw) f_X1_endOf k_2 k_277 rfl ⟨Nat.le_of_ble_eq_true rfl, Nat.le_of_ble_eq_true rfl⟩ rfl rfl ⟨Nat.le_of_ble_eq_true rfl, Nat.le_of_ble_eq_true rfl⟩ 0 rfl (rr := (RX1, TX1, 10)) rfl rfl (wL cB cI cJ b o_made o_sort o_digits o_slots o_pages o_highest o_units o_kinds o_rows o_marks) (fun (u : Unit) => (wL cB cI cJ a t_made t_sort t_digits t_slots t_pages t_highest t_units t_kinds t_rows t_marks ++ (wL cB cI cJ b o_made o_sort o_digits o_slots o_pages o_highest o_units o_kinds o_rows o_marks))) [0, 1, 2, 3, 4] [5, 6, 7, 8, 9] [5, 6, 7, 8, 9, 0, 1, 2, 3, 4] rfl rfl (by decide) (by decide) (by decide) (by decide) (fun _ => rfl) (fun _ => rfl) rfl (Nat.le_of_ble_eq_true rfl) dX1_isLike_48 (fun r_48 u_48 hw => ?_)
      try dsimp only at hw
      refine w_aload_n C 1 dX1_isLike_51 rfl ?_
      refine w_iload_n C 2 dX1_isLike_52 rfl ?_
      refine w_callPI C (c_X1_endOf hw) f_X1_endOf k_2 k_277 rfl ⟨Nat.le_of_ble_eq_true rfl, Nat.le_of_ble_eq_true rfl⟩ rfl rfl ⟨Nat.le_of_ble_eq_true rfl, Nat.le_of_ble_eq_true rfl⟩ 0 rfl (rr := (RX1, TX1, 10)) rfl rfl (wL cB cI cJ a t_made t_sort t_digits t_slots t_pages t_highest t_units t_kinds t_rows t_marks) (fun (u : Unit) => (wL cB cI cJ a t_made t_sort t_digits t_slots t_pages t_highest t_units t_kinds t_rows t_marks ++ (wL cB cI cJ b o_made o_sort o_digits o_slots o_pages o_highest o_units o_kinds o_rows o_marks))) [5, 6, 7, 8, 9] [0, 1, 2, 3, 4] [0, 1, 2, 3, 4, 5, 6, 7, 8, 9] rfl rfl (by decide) (by decide) (by decide) (by decide) (fun _ => rfl) (fun _ => rfl) rfl (Nat.le_of_ble_eq_true rfl) dX1_isLike_53 (fun r_53 u_53 hw => ?_)
      try dsimp only at hw
      refine w_imax C k_415 f_imax.1 f_imax.2.1 f_imax.2.2 (Nat.le_of_ble_eq_true rfl) (Nat.le_of_ble_eq_true rfl) (Nat.le_of_ble_eq_true rfl) (Nat.le_of_ble_eq_true rfl) dX1_isLike_56 ?_
      refine w_istore_n C (fun x3_59 => [(3, .int x3_59), (0, .ref (a 0)), (1, .ref (b 0)), (2, .int x2)]) dX1_isLike_59 (by decide) (fun _ => rfl) (fun x3_59 e_x3_59 => ?_)
      replace hw := hw x3_59 e_x3_59
      refine w_bipush C (v := (16 : Int32)) dX1_isLike_60 (by decide) ?_
      refine w_iload_n C 3 dX1_isLike_62 rfl ?_
      refine w_imul C dX1_isLike_63 ?_
      refine w_istore C (fun x4_64 => [(4, .int x4_64), (3, .int x3_59), (0, .ref (a 0)), (1, .ref (b 0)), (2, .int x2)]) dX1_isLike_64 (by decide) (fun _ => rfl) (fun x4_64 e_x4_64 => ?_)
      replace hw := hw x4_64 e_x4_64
      refine w_sub (lv' := [(0, .ref (a 0)), (1, .ref (b 0)), (2, .int x2), (3, .int x3_59), (4, .int x4_64)]) C [2, 3, 4, 1, 0] rfl ?_
      obtain ⟨j, hw⟩ := hw
      exact wl_X1_isLike_66 C hK38 j _ hw
set_option maxHeartbeats 4000000 in
set_option maxRecDepth 100000 in
theorem c_X1_isLike {l : Launch} {D : va_G} {cB cI cJ cL cS : ClassId} {T : Nat × Nat × Nat × Nat} {a : Nat → Nat} {b : Nat → Nat}  {t_made : Int32} {t_sort : Int32} {t_digits : Int32} {t_slots : Int32} {t_pages : Int32} {t_highest : Int64} {t_units : Nat → Int64} {t_kinds : Nat → Int32} {t_rows : Nat → Int32} {t_marks : Nat → Int32} {o_made : Int32} {o_sort : Int32} {o_digits : Int32} {o_slots : Int32} {o_pages : Int32} {o_highest : Int64} {o_units : Nat → Int64} {o_kinds : Nat → Int32} {o_rows : Nat → Int32} {o_marks : Nat → Int32} {Q : Int32 → Prop} (hw : wp_X1_isLike  t_sort t_digits t_slots t_pages t_highest t_units t_kinds o_sort o_digits o_slots o_highest o_units o_kinds Q) : CtI l D (Z5 cB cI cJ cL cS) T yX1_isLike cX1_isLike 5 ({ frames := 2, cells := 0, slots := 0, locals := 53 } : Room) (Option.some Jvm.ClassFile.FieldType.boolean) [.ref (a 0), .ref (b 0)] (wL cB cI cJ a t_made t_sort t_digits t_slots t_pages t_highest t_units t_kinds t_rows t_marks ++ (wL cB cI cJ b o_made o_sort o_digits o_slots o_pages o_highest o_units o_kinds o_rows o_marks)) (fun (u : Unit) => (wL cB cI cJ a t_made t_sort t_digits t_slots t_pages t_highest t_units t_kinds t_rows t_marks ++ (wL cB cI cJ b o_made o_sort o_digits o_slots o_pages o_highest o_units o_kinds o_rows o_marks))) (fun (r : Int32) (u : Unit) => Q r ) 0 0 := by
  refine ctI_of (own := RX1) (by decide +kernel) rfl (Nat.le_of_ble_eq_true rfl) (fun p e s m below meth c A C => ?_)
  refine w_sub (lv' := [(0, .ref (a 0)), (1, .ref (b 0))]) C [0, 1] rfl ?_
  unfold wp_X1_isLike at hw
  refine w_aload_n C 0 dX1_isLike_0 rfl ?_
  refine w_get C (T1 := TX1) 0 1 u_X1 k_148 rfl (by decide) rfl rfl dX1_isLike_1 ?_
  refine w_aload_n C 1 dX1_isLike_4 rfl ?_
  refine w_get C (T1 := TX1) 5 1 u_X1 k_148 rfl (by decide) rfl rfl dX1_isLike_5 ?_
  refine w_icmp_ne C 34 (by decide) dX1_isLike_8 (fun c_8 => ?_) (fun c_8 => ?_)
  · replace hw := hw.1 c_8
    refine w_iconst C (v := (0 : Int32)) dX1_isLike_34 (by decide) ?_
    exact w_zret C () (Or.inl rfl) hw rfl (Nat.le_of_ble_eq_true rfl) (Nat.le_of_ble_eq_true rfl) dX1_isLike_35
  · replace hw := hw.2 c_8
    refine w_aload_n C 0 dX1_isLike_11 rfl ?_
    refine w_get C (T1 := TX1) 0 2 u_X1 k_150 rfl (by decide) rfl rfl dX1_isLike_12 ?_
    refine w_aload_n C 1 dX1_isLike_15 rfl ?_
    refine w_get C (T1 := TX1) 5 2 u_X1 k_150 rfl (by decide) rfl rfl dX1_isLike_16 ?_
    refine w_icmp_ne C 34 (by decide) dX1_isLike_19 (fun c_19 => ?_) (fun c_19 => ?_)
    · replace hw := hw.1 c_19
      refine w_iconst C (v := (0 : Int32)) dX1_isLike_34 (by decide) ?_
      exact w_zret C () (Or.inl rfl) hw rfl (Nat.le_of_ble_eq_true rfl) (Nat.le_of_ble_eq_true rfl) dX1_isLike_35
    · replace hw := hw.2 c_19
      refine w_aload_n C 0 dX1_isLike_22 rfl ?_
      refine w_get C (T1 := TX1) 0 5 u_X1 k_156 rfl (by decide) rfl rfl dX1_isLike_23 ?_
      refine w_aload_n C 1 dX1_isLike_26 rfl ?_
      refine w_get C (T1 := TX1) 5 5 u_X1 k_156 rfl (by decide) rfl rfl dX1_isLike_27 ?_
      refine w_lcmp_eq C 31 36 rfl (by decide) dX1_isLike_30 dX1_isLike_31 (fun c_30 => ?_) (fun c_30 => ?_)
      · replace hw := hw.1 c_30
        refine w_iconst C (v := (0 : Int32)) dX1_isLike_36 (by decide) ?_
        refine w_istore_n C (fun x2_37 => [(2, .int x2_37), (0, .ref (a 0)), (1, .ref (b 0))]) dX1_isLike_37 (by decide) (fun _ => rfl) (fun x2_37 e_x2_37 => ?_)
        replace hw := hw x2_37 e_x2_37
        refine w_sub (lv' := [(0, .ref (a 0)), (1, .ref (b 0)), (2, .int x2_37)]) C [1, 2, 0] rfl ?_
        obtain ⟨j, hw⟩ := hw
        exact wl_X1_isLike_38 C  j _ hw
      · replace hw := hw.2 c_30
        refine w_iconst C (v := (0 : Int32)) dX1_isLike_34 (by decide) ?_
        exact w_zret C () (Or.inl rfl) hw rfl (Nat.le_of_ble_eq_true rfl) (Nat.le_of_ble_eq_true rfl) dX1_isLike_35
def bod_X1_isLike_s_66 (t_sort : Int32) (t_digits : Int32) (t_slots : Int32) (t_pages : Int32) (t_highest : Int64) (t_units : Nat → Int64) (t_kinds : Nat → Int32) (K38 : Int32 → Prop) (Q : Int32 → Prop) (x2 : Int32) (x3 : Int32)  (K66 : Int32 → Prop) (x4 : Int32) : Prop := ((x3 ≤ x4 → (∀ x2_96 : Int32, x2_96 = x2 + (1 : Int32) → K38 x2_96)) ∧ (¬ x3 ≤ x4 → (wp_X1_unitsOf x4 t_units (fun (r_75 : Int64) => wp_X1_unitsOf x4 t_units (fun (r_81 : Int64) => ((r_75 = r_81 → (∀ x4_90 : Int32, x4_90 = x4 + (1 : Int32) → K66 x4_90)) ∧ (¬ r_75 = r_81 → (Q (0 : Int32)))))))))
def lp_X1_isLike_s_66 (t_sort : Int32) (t_digits : Int32) (t_slots : Int32) (t_pages : Int32) (t_highest : Int64) (t_units : Nat → Int64) (t_kinds : Nat → Int32) (K38 : Int32 → Prop) (Q : Int32 → Prop) (x2 : Int32) (x3 : Int32)  : Nat → Int32 → Prop
  | 0, _ => False
  | j + 1, x4 => bod_X1_isLike_s_66 t_sort t_digits t_slots t_pages t_highest t_units t_kinds K38 Q x2 x3 (fun v0 => lp_X1_isLike_s_66 t_sort t_digits t_slots t_pages t_highest t_units t_kinds K38 Q x2 x3 j v0) x4
def bod_X1_isLike_s_38 (t_sort : Int32) (t_digits : Int32) (t_slots : Int32) (t_pages : Int32) (t_highest : Int64) (t_units : Nat → Int64) (t_kinds : Nat → Int32)  (Q : Int32 → Prop)   (K38 : Int32 → Prop) (x2 : Int32) : Prop := ((t_pages ≤ x2 → (Q (1 : Int32))) ∧ (¬ t_pages ≤ x2 → (wp_X1_endOf x2 t_slots t_kinds (fun (r_48 : Int32) => wp_X1_endOf x2 t_slots t_kinds (fun (r_53 : Int32) => ∀ x3_59 : Int32, x3_59 = (if r_48 < r_53 then r_53 else r_48) → ∀ x4_64 : Int32, x4_64 = ((16 : Int32) * x2) → (∃ j : Nat, lp_X1_isLike_s_66 t_sort t_digits t_slots t_pages t_highest t_units t_kinds K38 Q x2 x3_59 j x4_64))))))
def lp_X1_isLike_s_38 (t_sort : Int32) (t_digits : Int32) (t_slots : Int32) (t_pages : Int32) (t_highest : Int64) (t_units : Nat → Int64) (t_kinds : Nat → Int32)  (Q : Int32 → Prop)   : Nat → Int32 → Prop
  | 0, _ => False
  | j + 1, x2 => bod_X1_isLike_s_38 t_sort t_digits t_slots t_pages t_highest t_units t_kinds  Q  (fun v0 => lp_X1_isLike_s_38 t_sort t_digits t_slots t_pages t_highest t_units t_kinds  Q  j v0) x2
def wp_X1_isLike_s  (t_sort : Int32) (t_digits : Int32) (t_slots : Int32) (t_pages : Int32) (t_highest : Int64) (t_units : Nat → Int64) (t_kinds : Nat → Int32) (Q : Int32 → Prop) : Prop := ((¬ t_sort = t_sort → (Q (0 : Int32))) ∧ (t_sort = t_sort → (((¬ t_digits = t_digits → (Q (0 : Int32))) ∧ (t_digits = t_digits → (((t_highest = t_highest → (∀ x2_37 : Int32, x2_37 = (0 : Int32) → (∃ j : Nat, lp_X1_isLike_s_38 t_sort t_digits t_slots t_pages t_highest t_units t_kinds  Q  j x2_37))) ∧ (¬ t_highest = t_highest → (Q (0 : Int32))))))))))
set_option maxHeartbeats 4000000 in
set_option maxRecDepth 100000 in
theorem wl_X1_isLike_s_66 {p : Program} {l : Launch} {e : Env} {s : State} {m : MethodId} {args : Array Value} {below : List Frame} {meth : Method} {c : Code} {D : va_G} {cB cI cJ cL cS : ClassId} {T : Nat × Nat × Nat × Nat} {A : Nat → Prop} {a : Nat → Nat} {t_made : Int32} {t_sort : Int32} {t_digits : Int32} {t_slots : Int32} {t_pages : Int32} {t_highest : Int64} {t_units : Nat → Int64} {t_kinds : Nat → Int32} {t_rows : Nat → Int32} {t_marks : Nat → Int32} {Q : Int32 → Prop} (C : Cq p s m args meth c D (Z5 cB cI cJ cL cS) T A cX1_isLike RX1 5 (Option.some Jvm.ClassFile.FieldType.boolean)) {x2 : Int32} {x3 : Int32}  {K38 : Int32 → Prop} (hK38 : ∀ (y2 : Int32), K38 y2 → ww p l e ({ frames := 2, cells := 0, slots := 0, locals := 53 } : Room) s m args below meth c D A 5 (MQ below (va_Qi (fun (r : Int32) (u : Unit) => Q r ) (OutP D (fun (u : Unit) => (wL cB cI cJ a t_made t_sort t_digits t_slots t_pages t_highest t_units t_kinds t_rows t_marks))) A) args s 0 0 A) 0 0 (wL cB cI cJ a t_made t_sort t_digits t_slots t_pages t_highest t_units t_kinds t_rows t_marks) 38 [(0, .ref (a 0)), (1, .ref (a 0)), (2, .int y2)] []) : ∀ (j : Nat) (x4 : Int32), lp_X1_isLike_s_66 t_sort t_digits t_slots t_pages t_highest t_units t_kinds K38 Q x2 x3 j x4 → ww p l e ({ frames := 2, cells := 0, slots := 0, locals := 53 } : Room) s m args below meth c D A 5 (MQ below (va_Qi (fun (r : Int32) (u : Unit) => Q r ) (OutP D (fun (u : Unit) => (wL cB cI cJ a t_made t_sort t_digits t_slots t_pages t_highest t_units t_kinds t_rows t_marks))) A) args s 0 0 A) 0 0 (wL cB cI cJ a t_made t_sort t_digits t_slots t_pages t_highest t_units t_kinds t_rows t_marks) 66 [(0, .ref (a 0)), (1, .ref (a 0)), (2, .int x2), (3, .int x3), (4, .int x4)] [] := by
  intro j
  induction j with
  | zero => intro _ hw; exact hw.elim
  | succ j hK66 =>
    intro x4 hw
    have hw : bod_X1_isLike_s_66 t_sort t_digits t_slots t_pages t_highest t_units t_kinds K38 Q x2 x3 (fun v0 => lp_X1_isLike_s_66 t_sort t_digits t_slots t_pages t_highest t_units t_kinds K38 Q x2 x3 j v0) x4 := hw
    unfold bod_X1_isLike_s_66 at hw
    refine w_iload C 4 dX1_isLike_66 rfl ?_
    refine w_iload_n C 3 dX1_isLike_68 rfl ?_
    refine w_icmp_ge C 96 (by decide) dX1_isLike_69 (fun c_69 => ?_) (fun c_69 => ?_)
    · replace hw := hw.1 c_69
      refine w_iinc C (v := x2 + (1 : Int32)) 2 (fun x2_96 => [(2, .int x2_96), (0, .ref (a 0)), (1, .ref (a 0)), (3, .int x3), (4, .int x4)]) dX1_isLike_96 rfl rfl (by decide) (fun _ => rfl) (fun x2_96 e_x2_96 => ?_)
      replace hw := hw x2_96 e_x2_96
      refine w_goto C 38 (by decide) dX1_isLike_99 ?_
      refine w_sub (lv' := [(0, .ref (a 0)), (1, .ref (a 0)), (2, .int x2_96)]) C [1, 2, 0] rfl ?_
      exact hK38 _ hw
    · replace hw := hw.2 c_69
      refine w_aload_n C 0 dX1_isLike_72 rfl ?_
      refine w_iload C 4 dX1_isLike_73 rfl ?_
      refine w_callVL C (c_X1_unitsOf hw) f_X1_unitsOf k_290 k_288 rfl ⟨Nat.le_of_ble_eq_true rfl, Nat.le_of_ble_eq_true rfl⟩ rfl rfl ⟨Nat.le_of_ble_eq_true rfl, Nat.le_of_ble_eq_true rfl⟩ 0 rfl (rr := (RX1, TX1, 10)) rfl rfl (fun _ => rfl) rfl (Nat.le_of_ble_eq_true rfl) dX1_isLike_75 (fun r_75 u_75 hw => ?_)
      try dsimp only at hw
      refine w_aload_n C 1 dX1_isLike_78 rfl ?_
      refine w_iload C 4 dX1_isLike_79 rfl ?_
      refine w_callVL C (c_X1_unitsOf hw) f_X1_unitsOf k_290 k_288 rfl ⟨Nat.le_of_ble_eq_true rfl, Nat.le_of_ble_eq_true rfl⟩ rfl rfl ⟨Nat.le_of_ble_eq_true rfl, Nat.le_of_ble_eq_true rfl⟩ 0 rfl (rr := (RX1, TX1, 10)) rfl rfl (fun _ => rfl) rfl (Nat.le_of_ble_eq_true rfl) dX1_isLike_81 (fun r_81 u_81 hw => ?_)
      try dsimp only at hw
      refine w_lcmp_eq C 85 90 rfl (by decide) dX1_isLike_84 dX1_isLike_85 (fun c_84 => ?_) (fun c_84 => ?_)
      · replace hw := hw.1 c_84
        refine w_iinc C (v := x4 + (1 : Int32)) 4 (fun x4_90 => [(4, .int x4_90), (0, .ref (a 0)), (1, .ref (a 0)), (2, .int x2), (3, .int x3)]) dX1_isLike_90 rfl rfl (by decide) (fun _ => rfl) (fun x4_90 e_x4_90 => ?_)
        replace hw := hw x4_90 e_x4_90
        refine w_goto C 66 (by decide) dX1_isLike_93 ?_
        refine w_sub (lv' := [(0, .ref (a 0)), (1, .ref (a 0)), (2, .int x2), (3, .int x3), (4, .int x4_90)]) C [1, 2, 3, 4, 0] rfl ?_
        exact hK66 _ hw
      · replace hw := hw.2 c_84
        refine w_iconst C (v := (0 : Int32)) dX1_isLike_88 (by decide) ?_
        exact w_zret C () (Or.inl rfl) hw rfl (Nat.le_of_ble_eq_true rfl) (Nat.le_of_ble_eq_true rfl) dX1_isLike_89
set_option maxHeartbeats 4000000 in
set_option maxRecDepth 100000 in
theorem wl_X1_isLike_s_38 {p : Program} {l : Launch} {e : Env} {s : State} {m : MethodId} {args : Array Value} {below : List Frame} {meth : Method} {c : Code} {D : va_G} {cB cI cJ cL cS : ClassId} {T : Nat × Nat × Nat × Nat} {A : Nat → Prop} {a : Nat → Nat} {t_made : Int32} {t_sort : Int32} {t_digits : Int32} {t_slots : Int32} {t_pages : Int32} {t_highest : Int64} {t_units : Nat → Int64} {t_kinds : Nat → Int32} {t_rows : Nat → Int32} {t_marks : Nat → Int32} {Q : Int32 → Prop} (C : Cq p s m args meth c D (Z5 cB cI cJ cL cS) T A cX1_isLike RX1 5 (Option.some Jvm.ClassFile.FieldType.boolean))    : ∀ (j : Nat) (x2 : Int32), lp_X1_isLike_s_38 t_sort t_digits t_slots t_pages t_highest t_units t_kinds  Q  j x2 → ww p l e ({ frames := 2, cells := 0, slots := 0, locals := 53 } : Room) s m args below meth c D A 5 (MQ below (va_Qi (fun (r : Int32) (u : Unit) => Q r ) (OutP D (fun (u : Unit) => (wL cB cI cJ a t_made t_sort t_digits t_slots t_pages t_highest t_units t_kinds t_rows t_marks))) A) args s 0 0 A) 0 0 (wL cB cI cJ a t_made t_sort t_digits t_slots t_pages t_highest t_units t_kinds t_rows t_marks) 38 [(0, .ref (a 0)), (1, .ref (a 0)), (2, .int x2)] [] := by
  intro j
  induction j with
  | zero => intro _ hw; exact hw.elim
  | succ j hK38 =>
    intro x2 hw
    have hw : bod_X1_isLike_s_38 t_sort t_digits t_slots t_pages t_highest t_units t_kinds  Q  (fun v0 => lp_X1_isLike_s_38 t_sort t_digits t_slots t_pages t_highest t_units t_kinds  Q  j v0) x2 := hw
    unfold bod_X1_isLike_s_38 at hw
    refine w_iload_n C 2 dX1_isLike_38 rfl ?_
    refine w_aload_n C 0 dX1_isLike_39 rfl ?_
    refine w_get C (T1 := TX1) 0 4 u_X1 k_154 rfl (by decide) rfl rfl dX1_isLike_40 ?_
    refine w_icmp_ge C 102 (by decide) dX1_isLike_43 (fun c_43 => ?_) (fun c_43 => ?_)
    · replace hw := hw.1 c_43
      refine w_iconst C (v := (1 : Int32)) dX1_isLike_102 (by decide) ?_
      exact w_zret C () (Or.inr rfl) hw rfl (Nat.le_of_ble_eq_true rfl) (Nat.le_of_ble_eq_true rfl) dX1_isLike_103
    · replace hw := hw.2 c_43
      refine w_aload_n C 0 dX1_isLike_46 rfl ?_
      refine w_iload_n C 2 dX1_isLike_47 rfl ?_
      refine w_callVI C (c_X1_endOf hw) f_X1_endOf k_2 k_277 rfl ⟨Nat.le_of_ble_eq_true rfl, Nat.le_of_ble_eq_true rfl⟩ rfl rfl ⟨Nat.le_of_ble_eq_true rfl, Nat.le_of_ble_eq_true rfl⟩ 0 rfl (rr := (RX1, TX1, 10)) rfl rfl (fun _ => rfl) rfl (Nat.le_of_ble_eq_true rfl) dX1_isLike_48 (fun r_48 u_48 hw => ?_)
      try dsimp only at hw
      refine w_aload_n C 1 dX1_isLike_51 rfl ?_
      refine w_iload_n C 2 dX1_isLike_52 rfl ?_
      refine w_callVI C (c_X1_endOf hw) f_X1_endOf k_2 k_277 rfl ⟨Nat.le_of_ble_eq_true rfl, Nat.le_of_ble_eq_true rfl⟩ rfl rfl ⟨Nat.le_of_ble_eq_true rfl, Nat.le_of_ble_eq_true rfl⟩ 0 rfl (rr := (RX1, TX1, 10)) rfl rfl (fun _ => rfl) rfl (Nat.le_of_ble_eq_true rfl) dX1_isLike_53 (fun r_53 u_53 hw => ?_)
      try dsimp only at hw
      refine w_imax C k_415 f_imax.1 f_imax.2.1 f_imax.2.2 (Nat.le_of_ble_eq_true rfl) (Nat.le_of_ble_eq_true rfl) (Nat.le_of_ble_eq_true rfl) (Nat.le_of_ble_eq_true rfl) dX1_isLike_56 ?_
      refine w_istore_n C (fun x3_59 => [(3, .int x3_59), (0, .ref (a 0)), (1, .ref (a 0)), (2, .int x2)]) dX1_isLike_59 (by decide) (fun _ => rfl) (fun x3_59 e_x3_59 => ?_)
      replace hw := hw x3_59 e_x3_59
      refine w_bipush C (v := (16 : Int32)) dX1_isLike_60 (by decide) ?_
      refine w_iload_n C 3 dX1_isLike_62 rfl ?_
      refine w_imul C dX1_isLike_63 ?_
      refine w_istore C (fun x4_64 => [(4, .int x4_64), (3, .int x3_59), (0, .ref (a 0)), (1, .ref (a 0)), (2, .int x2)]) dX1_isLike_64 (by decide) (fun _ => rfl) (fun x4_64 e_x4_64 => ?_)
      replace hw := hw x4_64 e_x4_64
      refine w_sub (lv' := [(0, .ref (a 0)), (1, .ref (a 0)), (2, .int x2), (3, .int x3_59), (4, .int x4_64)]) C [2, 3, 4, 1, 0] rfl ?_
      obtain ⟨j, hw⟩ := hw
      exact wl_X1_isLike_s_66 C hK38 j _ hw
set_option maxHeartbeats 4000000 in
set_option maxRecDepth 100000 in
theorem c_X1_isLike_s {l : Launch} {D : va_G} {cB cI cJ cL cS : ClassId} {T : Nat × Nat × Nat × Nat} {a : Nat → Nat}  {t_made : Int32} {t_sort : Int32} {t_digits : Int32} {t_slots : Int32} {t_pages : Int32} {t_highest : Int64} {t_units : Nat → Int64} {t_kinds : Nat → Int32} {t_rows : Nat → Int32} {t_marks : Nat → Int32} {Q : Int32 → Prop} (hw : wp_X1_isLike_s  t_sort t_digits t_slots t_pages t_highest t_units t_kinds Q) : CtI l D (Z5 cB cI cJ cL cS) T yX1_isLike cX1_isLike 5 ({ frames := 2, cells := 0, slots := 0, locals := 53 } : Room) (Option.some Jvm.ClassFile.FieldType.boolean) [.ref (a 0), .ref (a 0)] (wL cB cI cJ a t_made t_sort t_digits t_slots t_pages t_highest t_units t_kinds t_rows t_marks) (fun (u : Unit) => (wL cB cI cJ a t_made t_sort t_digits t_slots t_pages t_highest t_units t_kinds t_rows t_marks)) (fun (r : Int32) (u : Unit) => Q r ) 0 0 := by
  refine ctI_of (own := RX1) (by decide +kernel) rfl (Nat.le_of_ble_eq_true rfl) (fun p e s m below meth c A C => ?_)
  refine w_sub (lv' := [(0, .ref (a 0)), (1, .ref (a 0))]) C [0, 1] rfl ?_
  unfold wp_X1_isLike_s at hw
  refine w_aload_n C 0 dX1_isLike_0 rfl ?_
  refine w_get C (T1 := TX1) 0 1 u_X1 k_148 rfl (by decide) rfl rfl dX1_isLike_1 ?_
  refine w_aload_n C 1 dX1_isLike_4 rfl ?_
  refine w_get C (T1 := TX1) 0 1 u_X1 k_148 rfl (by decide) rfl rfl dX1_isLike_5 ?_
  refine w_icmp_ne C 34 (by decide) dX1_isLike_8 (fun c_8 => ?_) (fun c_8 => ?_)
  · replace hw := hw.1 c_8
    refine w_iconst C (v := (0 : Int32)) dX1_isLike_34 (by decide) ?_
    exact w_zret C () (Or.inl rfl) hw rfl (Nat.le_of_ble_eq_true rfl) (Nat.le_of_ble_eq_true rfl) dX1_isLike_35
  · replace hw := hw.2 c_8
    refine w_aload_n C 0 dX1_isLike_11 rfl ?_
    refine w_get C (T1 := TX1) 0 2 u_X1 k_150 rfl (by decide) rfl rfl dX1_isLike_12 ?_
    refine w_aload_n C 1 dX1_isLike_15 rfl ?_
    refine w_get C (T1 := TX1) 0 2 u_X1 k_150 rfl (by decide) rfl rfl dX1_isLike_16 ?_
    refine w_icmp_ne C 34 (by decide) dX1_isLike_19 (fun c_19 => ?_) (fun c_19 => ?_)
    · replace hw := hw.1 c_19
      refine w_iconst C (v := (0 : Int32)) dX1_isLike_34 (by decide) ?_
      exact w_zret C () (Or.inl rfl) hw rfl (Nat.le_of_ble_eq_true rfl) (Nat.le_of_ble_eq_true rfl) dX1_isLike_35
    · replace hw := hw.2 c_19
      refine w_aload_n C 0 dX1_isLike_22 rfl ?_
      refine w_get C (T1 := TX1) 0 5 u_X1 k_156 rfl (by decide) rfl rfl dX1_isLike_23 ?_
      refine w_aload_n C 1 dX1_isLike_26 rfl ?_
      refine w_get C (T1 := TX1) 0 5 u_X1 k_156 rfl (by decide) rfl rfl dX1_isLike_27 ?_
      refine w_lcmp_eq C 31 36 rfl (by decide) dX1_isLike_30 dX1_isLike_31 (fun c_30 => ?_) (fun c_30 => ?_)
      · replace hw := hw.1 c_30
        refine w_iconst C (v := (0 : Int32)) dX1_isLike_36 (by decide) ?_
        refine w_istore_n C (fun x2_37 => [(2, .int x2_37), (0, .ref (a 0)), (1, .ref (a 0))]) dX1_isLike_37 (by decide) (fun _ => rfl) (fun x2_37 e_x2_37 => ?_)
        replace hw := hw x2_37 e_x2_37
        refine w_sub (lv' := [(0, .ref (a 0)), (1, .ref (a 0)), (2, .int x2_37)]) C [1, 2, 0] rfl ?_
        obtain ⟨j, hw⟩ := hw
        exact wl_X1_isLike_s_38 C  j _ hw
      · replace hw := hw.2 c_30
        refine w_iconst C (v := (0 : Int32)) dX1_isLike_34 (by decide) ?_
        exact w_zret C () (Or.inl rfl) hw rfl (Nat.le_of_ble_eq_true rfl) (Nat.le_of_ble_eq_true rfl) dX1_isLike_35
def blk_X1_usedSlots_47 (t_slots : Int32) (t_pages : Int32) (t_units : Nat → Int64) (t_kinds : Nat → Int32) (K4 : Int32 → Int32 → Prop) (K24 : Int32 → Int32 → Prop) (Q : Int32 → Prop) (x2 : Int32) (x3 : Int32) (x4 : Int32) (k0 : Int32) (k1 : Int32) : Prop := ∀ x1_48 : Int32, x1_48 = (k0 + k1) → ∀ x4_49 : Int32, x4_49 = x4 + (1 : Int32) → K24 x1_48 x4_49
def bod_X1_usedSlots_24 (t_slots : Int32) (t_pages : Int32) (t_units : Nat → Int64) (t_kinds : Nat → Int32) (K4 : Int32 → Int32 → Prop) (Q : Int32 → Prop) (x2 : Int32) (x3 : Int32)  (K24 : Int32 → Int32 → Prop) (x1 : Int32) (x4 : Int32) : Prop := ((x3 ≤ x4 → (∀ x2_55 : Int32, x2_55 = x2 + (1 : Int32) → K4 x1 x2_55)) ∧ (¬ x3 ≤ x4 → (wp_X1_unitsOf x4 t_units (fun (r_34 : Int64) => ((¬ r_34 = (0 : Int64) → ((blk_X1_usedSlots_47 t_slots t_pages t_units t_kinds K4 K24 Q x2 x3 x4 x1 (1 : Int32)))) ∧ (r_34 = (0 : Int64) → ((blk_X1_usedSlots_47 t_slots t_pages t_units t_kinds K4 K24 Q x2 x3 x4 x1 (0 : Int32)))))))))
def lp_X1_usedSlots_24 (t_slots : Int32) (t_pages : Int32) (t_units : Nat → Int64) (t_kinds : Nat → Int32) (K4 : Int32 → Int32 → Prop) (Q : Int32 → Prop) (x2 : Int32) (x3 : Int32)  : Nat → Int32 → Int32 → Prop
  | 0, _, _ => False
  | j + 1, x1, x4 => bod_X1_usedSlots_24 t_slots t_pages t_units t_kinds K4 Q x2 x3 (fun v0 v1 => lp_X1_usedSlots_24 t_slots t_pages t_units t_kinds K4 Q x2 x3 j v0 v1) x1 x4
def bod_X1_usedSlots_4 (t_slots : Int32) (t_pages : Int32) (t_units : Nat → Int64) (t_kinds : Nat → Int32)  (Q : Int32 → Prop)   (K4 : Int32 → Int32 → Prop) (x1 : Int32) (x2 : Int32) : Prop := ((t_pages ≤ x2 → (Q x1)) ∧ (¬ t_pages ≤ x2 → (wp_X1_endOf x2 t_slots t_kinds (fun (r_14 : Int32) => ∀ x3_17 : Int32, x3_17 = r_14 → ∀ x4_22 : Int32, x4_22 = ((16 : Int32) * x2) → (∃ j : Nat, lp_X1_usedSlots_24 t_slots t_pages t_units t_kinds K4 Q x2 x3_17 j x1 x4_22)))))
def lp_X1_usedSlots_4 (t_slots : Int32) (t_pages : Int32) (t_units : Nat → Int64) (t_kinds : Nat → Int32)  (Q : Int32 → Prop)   : Nat → Int32 → Int32 → Prop
  | 0, _, _ => False
  | j + 1, x1, x2 => bod_X1_usedSlots_4 t_slots t_pages t_units t_kinds  Q  (fun v0 v1 => lp_X1_usedSlots_4 t_slots t_pages t_units t_kinds  Q  j v0 v1) x1 x2
def wp_X1_usedSlots  (t_slots : Int32) (t_pages : Int32) (t_units : Nat → Int64) (t_kinds : Nat → Int32) (Q : Int32 → Prop) : Prop := ∀ x1_1 : Int32, x1_1 = (0 : Int32) → ∀ x2_3 : Int32, x2_3 = (0 : Int32) → (∃ j : Nat, lp_X1_usedSlots_4 t_slots t_pages t_units t_kinds  Q  j x1_1 x2_3)
set_option maxHeartbeats 4000000 in
set_option maxRecDepth 100000 in
theorem wk_X1_usedSlots_47 {p : Program} {l : Launch} {e : Env} {s : State} {m : MethodId} {args : Array Value} {below : List Frame} {meth : Method} {c : Code} {D : va_G} {cB cI cJ cL cS : ClassId} {T : Nat × Nat × Nat × Nat} {A : Nat → Prop} {a : Nat → Nat} {t_made : Int32} {t_sort : Int32} {t_digits : Int32} {t_slots : Int32} {t_pages : Int32} {t_highest : Int64} {t_units : Nat → Int64} {t_kinds : Nat → Int32} {t_rows : Nat → Int32} {t_marks : Nat → Int32} {Q : Int32 → Prop} (C : Cq p s m args meth c D (Z5 cB cI cJ cL cS) T A cX1_usedSlots RX1 5 (Option.some Jvm.ClassFile.FieldType.int)) {x2 : Int32} {x3 : Int32} {x4 : Int32} {k0 : Int32} {k1 : Int32} {K4 : Int32 → Int32 → Prop} (hK4 : ∀ (y1 : Int32) (y2 : Int32), K4 y1 y2 → ww p l e ({ frames := 2, cells := 0, slots := 0, locals := 53 } : Room) s m args below meth c D A 5 (MQ below (va_Qi (fun (r : Int32) (u : Unit) => Q r ) (OutP D (fun (u : Unit) => (wL cB cI cJ a t_made t_sort t_digits t_slots t_pages t_highest t_units t_kinds t_rows t_marks))) A) args s 0 0 A) 0 0 (wL cB cI cJ a t_made t_sort t_digits t_slots t_pages t_highest t_units t_kinds t_rows t_marks) 4 [(0, .ref (a 0)), (1, .int y1), (2, .int y2)] []) {K24 : Int32 → Int32 → Prop} (hK24 : ∀ (y1 : Int32) (y4 : Int32), K24 y1 y4 → ww p l e ({ frames := 2, cells := 0, slots := 0, locals := 53 } : Room) s m args below meth c D A 5 (MQ below (va_Qi (fun (r : Int32) (u : Unit) => Q r ) (OutP D (fun (u : Unit) => (wL cB cI cJ a t_made t_sort t_digits t_slots t_pages t_highest t_units t_kinds t_rows t_marks))) A) args s 0 0 A) 0 0 (wL cB cI cJ a t_made t_sort t_digits t_slots t_pages t_highest t_units t_kinds t_rows t_marks) 24 [(0, .ref (a 0)), (1, .int y1), (2, .int x2), (3, .int x3), (4, .int y4)] []) (hw : blk_X1_usedSlots_47 t_slots t_pages t_units t_kinds K4 K24 Q x2 x3 x4 k0 k1) : ww p l e ({ frames := 2, cells := 0, slots := 0, locals := 53 } : Room) s m args below meth c D A 5 (MQ below (va_Qi (fun (r : Int32) (u : Unit) => Q r ) (OutP D (fun (u : Unit) => (wL cB cI cJ a t_made t_sort t_digits t_slots t_pages t_highest t_units t_kinds t_rows t_marks))) A) args s 0 0 A) 0 0 (wL cB cI cJ a t_made t_sort t_digits t_slots t_pages t_highest t_units t_kinds t_rows t_marks) 47 [(0, .ref (a 0)), (2, .int x2), (3, .int x3), (4, .int x4)] [.int k1, .int k0] := by
  unfold blk_X1_usedSlots_47 at hw
  refine w_iadd C dX1_usedSlots_47 ?_
  refine w_istore_n C (fun x1_48 => [(1, .int x1_48), (0, .ref (a 0)), (2, .int x2), (3, .int x3), (4, .int x4)]) dX1_usedSlots_48 (by decide) (fun _ => rfl) (fun x1_48 e_x1_48 => ?_)
  replace hw := hw x1_48 e_x1_48
  refine w_iinc C (v := x4 + (1 : Int32)) 4 (fun x4_49 => [(4, .int x4_49), (1, .int x1_48), (0, .ref (a 0)), (2, .int x2), (3, .int x3)]) dX1_usedSlots_49 rfl rfl (by decide) (fun _ => rfl) (fun x4_49 e_x4_49 => ?_)
  replace hw := hw x4_49 e_x4_49
  refine w_goto C 24 (by decide) dX1_usedSlots_52 ?_
  refine w_sub (lv' := [(0, .ref (a 0)), (1, .int x1_48), (2, .int x2), (3, .int x3), (4, .int x4_49)]) C [2, 1, 3, 4, 0] rfl ?_
  exact hK24 _ _ hw
set_option maxHeartbeats 4000000 in
set_option maxRecDepth 100000 in
theorem wl_X1_usedSlots_24 {p : Program} {l : Launch} {e : Env} {s : State} {m : MethodId} {args : Array Value} {below : List Frame} {meth : Method} {c : Code} {D : va_G} {cB cI cJ cL cS : ClassId} {T : Nat × Nat × Nat × Nat} {A : Nat → Prop} {a : Nat → Nat} {t_made : Int32} {t_sort : Int32} {t_digits : Int32} {t_slots : Int32} {t_pages : Int32} {t_highest : Int64} {t_units : Nat → Int64} {t_kinds : Nat → Int32} {t_rows : Nat → Int32} {t_marks : Nat → Int32} {Q : Int32 → Prop} (C : Cq p s m args meth c D (Z5 cB cI cJ cL cS) T A cX1_usedSlots RX1 5 (Option.some Jvm.ClassFile.FieldType.int)) {x2 : Int32} {x3 : Int32}  {K4 : Int32 → Int32 → Prop} (hK4 : ∀ (y1 : Int32) (y2 : Int32), K4 y1 y2 → ww p l e ({ frames := 2, cells := 0, slots := 0, locals := 53 } : Room) s m args below meth c D A 5 (MQ below (va_Qi (fun (r : Int32) (u : Unit) => Q r ) (OutP D (fun (u : Unit) => (wL cB cI cJ a t_made t_sort t_digits t_slots t_pages t_highest t_units t_kinds t_rows t_marks))) A) args s 0 0 A) 0 0 (wL cB cI cJ a t_made t_sort t_digits t_slots t_pages t_highest t_units t_kinds t_rows t_marks) 4 [(0, .ref (a 0)), (1, .int y1), (2, .int y2)] []) : ∀ (j : Nat) (x1 : Int32) (x4 : Int32), lp_X1_usedSlots_24 t_slots t_pages t_units t_kinds K4 Q x2 x3 j x1 x4 → ww p l e ({ frames := 2, cells := 0, slots := 0, locals := 53 } : Room) s m args below meth c D A 5 (MQ below (va_Qi (fun (r : Int32) (u : Unit) => Q r ) (OutP D (fun (u : Unit) => (wL cB cI cJ a t_made t_sort t_digits t_slots t_pages t_highest t_units t_kinds t_rows t_marks))) A) args s 0 0 A) 0 0 (wL cB cI cJ a t_made t_sort t_digits t_slots t_pages t_highest t_units t_kinds t_rows t_marks) 24 [(0, .ref (a 0)), (1, .int x1), (2, .int x2), (3, .int x3), (4, .int x4)] [] := by
  intro j
  induction j with
  | zero => intro _ _ hw; exact hw.elim
  | succ j hK24 =>
    intro x1 x4 hw
    have hw : bod_X1_usedSlots_24 t_slots t_pages t_units t_kinds K4 Q x2 x3 (fun v0 v1 => lp_X1_usedSlots_24 t_slots t_pages t_units t_kinds K4 Q x2 x3 j v0 v1) x1 x4 := hw
    unfold bod_X1_usedSlots_24 at hw
    refine w_iload C 4 dX1_usedSlots_24 rfl ?_
    refine w_iload_n C 3 dX1_usedSlots_26 rfl ?_
    refine w_icmp_ge C 55 (by decide) dX1_usedSlots_27 (fun c_27 => ?_) (fun c_27 => ?_)
    · replace hw := hw.1 c_27
      refine w_iinc C (v := x2 + (1 : Int32)) 2 (fun x2_55 => [(2, .int x2_55), (0, .ref (a 0)), (1, .int x1), (3, .int x3), (4, .int x4)]) dX1_usedSlots_55 rfl rfl (by decide) (fun _ => rfl) (fun x2_55 e_x2_55 => ?_)
      replace hw := hw x2_55 e_x2_55
      refine w_goto C 4 (by decide) dX1_usedSlots_58 ?_
      refine w_sub (lv' := [(0, .ref (a 0)), (1, .int x1), (2, .int x2_55)]) C [1, 2, 0] rfl ?_
      exact hK4 _ _ hw
    · replace hw := hw.2 c_27
      refine w_iload_n C 1 dX1_usedSlots_30 rfl ?_
      refine w_aload_n C 0 dX1_usedSlots_31 rfl ?_
      refine w_iload C 4 dX1_usedSlots_32 rfl ?_
      refine w_callVL C (c_X1_unitsOf hw) f_X1_unitsOf k_290 k_288 rfl ⟨Nat.le_of_ble_eq_true rfl, Nat.le_of_ble_eq_true rfl⟩ rfl rfl ⟨Nat.le_of_ble_eq_true rfl, Nat.le_of_ble_eq_true rfl⟩ 0 rfl (rr := (RX1, TX1, 10)) rfl rfl (fun _ => rfl) rfl (Nat.le_of_ble_eq_true rfl) dX1_usedSlots_34 (fun r_34 u_34 hw => ?_)
      try dsimp only at hw
      refine w_lconst C (v := (0 : Int64)) dX1_usedSlots_37 (by decide) ?_
      refine w_lcmp_ne C 39 46 rfl (by decide) dX1_usedSlots_38 dX1_usedSlots_39 (fun c_38 => ?_) (fun c_38 => ?_)
      · replace hw := hw.1 c_38
        refine w_iconst C (v := (1 : Int32)) dX1_usedSlots_46 (by decide) ?_
        refine w_sub (lv' := [(0, .ref (a 0)), (2, .int x2), (3, .int x3), (4, .int x4)]) C [0, 2, 3, 4] rfl ?_
        exact wk_X1_usedSlots_47 C hK4 hK24 hw
      · replace hw := hw.2 c_38
        refine w_iconst C (v := (0 : Int32)) dX1_usedSlots_42 (by decide) ?_
        refine w_goto C 47 (by decide) dX1_usedSlots_43 ?_
        refine w_sub (lv' := [(0, .ref (a 0)), (2, .int x2), (3, .int x3), (4, .int x4)]) C [0, 2, 3, 4] rfl ?_
        exact wk_X1_usedSlots_47 C hK4 hK24 hw
set_option maxHeartbeats 4000000 in
set_option maxRecDepth 100000 in
theorem wl_X1_usedSlots_4 {p : Program} {l : Launch} {e : Env} {s : State} {m : MethodId} {args : Array Value} {below : List Frame} {meth : Method} {c : Code} {D : va_G} {cB cI cJ cL cS : ClassId} {T : Nat × Nat × Nat × Nat} {A : Nat → Prop} {a : Nat → Nat} {t_made : Int32} {t_sort : Int32} {t_digits : Int32} {t_slots : Int32} {t_pages : Int32} {t_highest : Int64} {t_units : Nat → Int64} {t_kinds : Nat → Int32} {t_rows : Nat → Int32} {t_marks : Nat → Int32} {Q : Int32 → Prop} (C : Cq p s m args meth c D (Z5 cB cI cJ cL cS) T A cX1_usedSlots RX1 5 (Option.some Jvm.ClassFile.FieldType.int))    : ∀ (j : Nat) (x1 : Int32) (x2 : Int32), lp_X1_usedSlots_4 t_slots t_pages t_units t_kinds  Q  j x1 x2 → ww p l e ({ frames := 2, cells := 0, slots := 0, locals := 53 } : Room) s m args below meth c D A 5 (MQ below (va_Qi (fun (r : Int32) (u : Unit) => Q r ) (OutP D (fun (u : Unit) => (wL cB cI cJ a t_made t_sort t_digits t_slots t_pages t_highest t_units t_kinds t_rows t_marks))) A) args s 0 0 A) 0 0 (wL cB cI cJ a t_made t_sort t_digits t_slots t_pages t_highest t_units t_kinds t_rows t_marks) 4 [(0, .ref (a 0)), (1, .int x1), (2, .int x2)] [] := by
  intro j
  induction j with
  | zero => intro _ _ hw; exact hw.elim
  | succ j hK4 =>
    intro x1 x2 hw
    have hw : bod_X1_usedSlots_4 t_slots t_pages t_units t_kinds  Q  (fun v0 v1 => lp_X1_usedSlots_4 t_slots t_pages t_units t_kinds  Q  j v0 v1) x1 x2 := hw
    unfold bod_X1_usedSlots_4 at hw
    refine w_iload_n C 2 dX1_usedSlots_4 rfl ?_
    refine w_aload_n C 0 dX1_usedSlots_5 rfl ?_
    refine w_get C (T1 := TX1) 0 4 u_X1 k_154 rfl (by decide) rfl rfl dX1_usedSlots_6 ?_
    refine w_icmp_ge C 61 (by decide) dX1_usedSlots_9 (fun c_9 => ?_) (fun c_9 => ?_)
    · replace hw := hw.1 c_9
      refine w_iload_n C 1 dX1_usedSlots_61 rfl ?_
      exact w_iret C () hw rfl (Nat.le_of_ble_eq_true rfl) (Nat.le_of_ble_eq_true rfl) dX1_usedSlots_62
    · replace hw := hw.2 c_9
      refine w_aload_n C 0 dX1_usedSlots_12 rfl ?_
      refine w_iload_n C 2 dX1_usedSlots_13 rfl ?_
      refine w_callVI C (c_X1_endOf hw) f_X1_endOf k_2 k_277 rfl ⟨Nat.le_of_ble_eq_true rfl, Nat.le_of_ble_eq_true rfl⟩ rfl rfl ⟨Nat.le_of_ble_eq_true rfl, Nat.le_of_ble_eq_true rfl⟩ 0 rfl (rr := (RX1, TX1, 10)) rfl rfl (fun _ => rfl) rfl (Nat.le_of_ble_eq_true rfl) dX1_usedSlots_14 (fun r_14 u_14 hw => ?_)
      try dsimp only at hw
      refine w_istore_n C (fun x3_17 => [(3, .int x3_17), (0, .ref (a 0)), (1, .int x1), (2, .int x2)]) dX1_usedSlots_17 (by decide) (fun _ => rfl) (fun x3_17 e_x3_17 => ?_)
      replace hw := hw x3_17 e_x3_17
      refine w_bipush C (v := (16 : Int32)) dX1_usedSlots_18 (by decide) ?_
      refine w_iload_n C 3 dX1_usedSlots_20 rfl ?_
      refine w_imul C dX1_usedSlots_21 ?_
      refine w_istore C (fun x4_22 => [(4, .int x4_22), (3, .int x3_17), (0, .ref (a 0)), (1, .int x1), (2, .int x2)]) dX1_usedSlots_22 (by decide) (fun _ => rfl) (fun x4_22 e_x4_22 => ?_)
      replace hw := hw x4_22 e_x4_22
      refine w_sub (lv' := [(0, .ref (a 0)), (1, .int x1), (2, .int x2), (3, .int x3_17), (4, .int x4_22)]) C [2, 3, 4, 1, 0] rfl ?_
      obtain ⟨j, hw⟩ := hw
      exact wl_X1_usedSlots_24 C hK4 j _ _ hw
set_option maxHeartbeats 4000000 in
set_option maxRecDepth 100000 in
theorem c_X1_usedSlots {l : Launch} {D : va_G} {cB cI cJ cL cS : ClassId} {T : Nat × Nat × Nat × Nat} {a : Nat → Nat}  {t_made : Int32} {t_sort : Int32} {t_digits : Int32} {t_slots : Int32} {t_pages : Int32} {t_highest : Int64} {t_units : Nat → Int64} {t_kinds : Nat → Int32} {t_rows : Nat → Int32} {t_marks : Nat → Int32} {Q : Int32 → Prop} (hw : wp_X1_usedSlots  t_slots t_pages t_units t_kinds Q) : CtI l D (Z5 cB cI cJ cL cS) T yX1_usedSlots cX1_usedSlots 5 ({ frames := 2, cells := 0, slots := 0, locals := 53 } : Room) (Option.some Jvm.ClassFile.FieldType.int) [.ref (a 0)] (wL cB cI cJ a t_made t_sort t_digits t_slots t_pages t_highest t_units t_kinds t_rows t_marks) (fun (u : Unit) => (wL cB cI cJ a t_made t_sort t_digits t_slots t_pages t_highest t_units t_kinds t_rows t_marks)) (fun (r : Int32) (u : Unit) => Q r ) 0 0 := by
  refine ctI_of (own := RX1) (by decide +kernel) rfl (Nat.le_of_ble_eq_true rfl) (fun p e s m below meth c A C => ?_)
  refine w_sub (lv' := [(0, .ref (a 0))]) C [0] rfl ?_
  unfold wp_X1_usedSlots at hw
  refine w_iconst C (v := (0 : Int32)) dX1_usedSlots_0 (by decide) ?_
  refine w_istore_n C (fun x1_1 => [(1, .int x1_1), (0, .ref (a 0))]) dX1_usedSlots_1 (by decide) (fun _ => rfl) (fun x1_1 e_x1_1 => ?_)
  replace hw := hw x1_1 e_x1_1
  refine w_iconst C (v := (0 : Int32)) dX1_usedSlots_2 (by decide) ?_
  refine w_istore_n C (fun x2_3 => [(2, .int x2_3), (1, .int x1_1), (0, .ref (a 0))]) dX1_usedSlots_3 (by decide) (fun _ => rfl) (fun x2_3 e_x2_3 => ?_)
  replace hw := hw x2_3 e_x2_3
  refine w_sub (lv' := [(0, .ref (a 0)), (1, .int x1_1), (2, .int x2_3)]) C [2, 1, 0] rfl ?_
  obtain ⟨j, hw⟩ := hw
  exact wl_X1_usedSlots_4 C  j _ _ hw
def wp_X1_hasPage (p0 : Int32) (t_pages : Int32) (Q : Int32 → Prop) : Prop := ((p0 < 0 → (Q (0 : Int32))) ∧ (¬ p0 < 0 → (((t_pages ≤ p0 → (Q (0 : Int32))) ∧ (¬ t_pages ≤ p0 → (Q (1 : Int32)))))))
set_option maxHeartbeats 4000000 in
set_option maxRecDepth 100000 in
theorem c_X1_hasPage {l : Launch} {D : va_G} {cB cI cJ cL cS : ClassId} {T : Nat × Nat × Nat × Nat} {a : Nat → Nat} {p0 : Int32} {t_made : Int32} {t_sort : Int32} {t_digits : Int32} {t_slots : Int32} {t_pages : Int32} {t_highest : Int64} {t_units : Nat → Int64} {t_kinds : Nat → Int32} {t_rows : Nat → Int32} {t_marks : Nat → Int32} {Q : Int32 → Prop} (hw : wp_X1_hasPage p0 t_pages Q) : CtI l D (Z5 cB cI cJ cL cS) T yX1_hasPage cX1_hasPage 2 ({ frames := 0, cells := 0, slots := 0, locals := 0 } : Room) (Option.some Jvm.ClassFile.FieldType.boolean) [.ref (a 0), .int p0] (wL cB cI cJ a t_made t_sort t_digits t_slots t_pages t_highest t_units t_kinds t_rows t_marks) (fun (u : Unit) => (wL cB cI cJ a t_made t_sort t_digits t_slots t_pages t_highest t_units t_kinds t_rows t_marks)) (fun (r : Int32) (u : Unit) => Q r ) 0 0 := by
  refine ctI_of (own := RX1) (by decide +kernel) rfl (Nat.le_of_ble_eq_true rfl) (fun p e s m below meth c A C => ?_)
  refine w_sub (lv' := [(0, .ref (a 0)), (1, .int p0)]) C [0, 1] rfl ?_
  unfold wp_X1_hasPage at hw
  refine w_iload_n C 1 dX1_hasPage_0 rfl ?_
  refine w_if_lt C 16 (by decide) dX1_hasPage_1 (fun c_1 => ?_) (fun c_1 => ?_)
  · replace hw := hw.1 c_1
    refine w_iconst C (v := (0 : Int32)) dX1_hasPage_16 (by decide) ?_
    exact w_zret C () (Or.inl rfl) hw rfl (Nat.le_of_ble_eq_true rfl) (Nat.le_of_ble_eq_true rfl) dX1_hasPage_17
  · replace hw := hw.2 c_1
    refine w_iload_n C 1 dX1_hasPage_4 rfl ?_
    refine w_aload_n C 0 dX1_hasPage_5 rfl ?_
    refine w_get C (T1 := TX1) 0 4 u_X1 k_154 rfl (by decide) rfl rfl dX1_hasPage_6 ?_
    refine w_icmp_ge C 16 (by decide) dX1_hasPage_9 (fun c_9 => ?_) (fun c_9 => ?_)
    · replace hw := hw.1 c_9
      refine w_iconst C (v := (0 : Int32)) dX1_hasPage_16 (by decide) ?_
      exact w_zret C () (Or.inl rfl) hw rfl (Nat.le_of_ble_eq_true rfl) (Nat.le_of_ble_eq_true rfl) dX1_hasPage_17
    · replace hw := hw.2 c_9
      refine w_iconst C (v := (1 : Int32)) dX1_hasPage_12 (by decide) ?_
      refine w_goto C 17 (by decide) dX1_hasPage_13 ?_
      exact w_zret C () (Or.inr rfl) hw rfl (Nat.le_of_ble_eq_true rfl) (Nat.le_of_ble_eq_true rfl) dX1_hasPage_17
def blk_X1_bytesOfPages_40 (t_pages : Int32) (t_kinds : Nat → Int32) (K4 : Int32 → Int32 → Prop) (Q : Int32 → Prop) (x2 : Int32) (k0 : Int32) (k1 : Int32) : Prop := ∀ x1_41 : Int32, x1_41 = (k0 + k1) → ∀ x2_42 : Int32, x2_42 = x2 + (1 : Int32) → K4 x1_41 x2_42
def blk_X1_bytesOfPages_39 (t_pages : Int32) (t_kinds : Nat → Int32) (K4 : Int32 → Int32 → Prop) (Q : Int32 → Prop) (x2 : Int32) (k0 : Int32) : Prop := (blk_X1_bytesOfPages_40 t_pages t_kinds K4 Q x2 k0 (0 : Int32))
def bod_X1_bytesOfPages_4 (t_pages : Int32) (t_kinds : Nat → Int32)  (Q : Int32 → Prop)   (K4 : Int32 → Int32 → Prop) (x1 : Int32) (x2 : Int32) : Prop := ((t_pages ≤ x2 → (Q x1)) ∧ (¬ t_pages ≤ x2 → (wp_X1_kindOf x2 t_kinds (fun (r_14 : Int32) => ∀ x3_17 : Int32, x3_17 = r_14 → ((x3_17 < 0 → ((blk_X1_bytesOfPages_39 t_pages t_kinds K4 Q x2 x1))) ∧ (¬ x3_17 < 0 → ((((11 : Int32) ≤ x3_17 → ((blk_X1_bytesOfPages_39 t_pages t_kinds K4 Q x2 x1))) ∧ (¬ (11 : Int32) ≤ x3_17 → ((vp_in x3_17 11) ∧ (blk_X1_bytesOfPages_40 t_pages t_kinds K4 Q x2 x1 (stB.getD (x3_17).toNatClampNeg 0))))))))))))
def lp_X1_bytesOfPages_4 (t_pages : Int32) (t_kinds : Nat → Int32)  (Q : Int32 → Prop)   : Nat → Int32 → Int32 → Prop
  | 0, _, _ => False
  | j + 1, x1, x2 => bod_X1_bytesOfPages_4 t_pages t_kinds  Q  (fun v0 v1 => lp_X1_bytesOfPages_4 t_pages t_kinds  Q  j v0 v1) x1 x2
def wp_X1_bytesOfPages  (t_pages : Int32) (t_kinds : Nat → Int32) (Q : Int32 → Prop) : Prop := ∀ x1_1 : Int32, x1_1 = (0 : Int32) → ∀ x2_3 : Int32, x2_3 = (0 : Int32) → (∃ j : Nat, lp_X1_bytesOfPages_4 t_pages t_kinds  Q  j x1_1 x2_3)
set_option maxHeartbeats 4000000 in
set_option maxRecDepth 100000 in
theorem wk_X1_bytesOfPages_40 {p : Program} {l : Launch} {e : Env} {s : State} {m : MethodId} {args : Array Value} {below : List Frame} {meth : Method} {c : Code} {D : va_G} {cB cI cJ cL cS : ClassId} {T : Nat × Nat × Nat × Nat} {A : Nat → Prop} {a : Nat → Nat} {t_made : Int32} {t_sort : Int32} {t_digits : Int32} {t_slots : Int32} {t_pages : Int32} {t_highest : Int64} {t_units : Nat → Int64} {t_kinds : Nat → Int32} {t_rows : Nat → Int32} {t_marks : Nat → Int32} {Q : Int32 → Prop} (C : Cq p s m args meth c D (Z5 cB cI cJ cL cS) T A cX1_bytesOfPages RX1 4 (Option.some Jvm.ClassFile.FieldType.int)) {x2 : Int32} {k0 : Int32} {k1 : Int32} {K4 : Int32 → Int32 → Prop} (hK4 : ∀ (y1 : Int32) (y2 : Int32), K4 y1 y2 → ww p l e ({ frames := 1, cells := 0, slots := 0, locals := 21 } : Room) s m args below meth c D A 4 (MQ below (va_Qi (fun (r : Int32) (u : Unit) => Q r ) (OutP D (fun (u : Unit) => (wL cB cI cJ a t_made t_sort t_digits t_slots t_pages t_highest t_units t_kinds t_rows t_marks))) A) args s 0 0 A) 0 0 (wL cB cI cJ a t_made t_sort t_digits t_slots t_pages t_highest t_units t_kinds t_rows t_marks) 4 [(0, .ref (a 0)), (1, .int y1), (2, .int y2)] []) (hw : blk_X1_bytesOfPages_40 t_pages t_kinds K4 Q x2 k0 k1) : ww p l e ({ frames := 1, cells := 0, slots := 0, locals := 21 } : Room) s m args below meth c D A 4 (MQ below (va_Qi (fun (r : Int32) (u : Unit) => Q r ) (OutP D (fun (u : Unit) => (wL cB cI cJ a t_made t_sort t_digits t_slots t_pages t_highest t_units t_kinds t_rows t_marks))) A) args s 0 0 A) 0 0 (wL cB cI cJ a t_made t_sort t_digits t_slots t_pages t_highest t_units t_kinds t_rows t_marks) 40 [(0, .ref (a 0)), (2, .int x2)] [.int k1, .int k0] := by
  unfold blk_X1_bytesOfPages_40 at hw
  refine w_iadd C dX1_bytesOfPages_40 ?_
  refine w_istore_n C (fun x1_41 => [(1, .int x1_41), (0, .ref (a 0)), (2, .int x2)]) dX1_bytesOfPages_41 (by decide) (fun _ => rfl) (fun x1_41 e_x1_41 => ?_)
  replace hw := hw x1_41 e_x1_41
  refine w_iinc C (v := x2 + (1 : Int32)) 2 (fun x2_42 => [(2, .int x2_42), (1, .int x1_41), (0, .ref (a 0))]) dX1_bytesOfPages_42 rfl rfl (by decide) (fun _ => rfl) (fun x2_42 e_x2_42 => ?_)
  replace hw := hw x2_42 e_x2_42
  refine w_goto C 4 (by decide) dX1_bytesOfPages_45 ?_
  refine w_sub (lv' := [(0, .ref (a 0)), (1, .int x1_41), (2, .int x2_42)]) C [2, 1, 0] rfl ?_
  exact hK4 _ _ hw
set_option maxHeartbeats 4000000 in
set_option maxRecDepth 100000 in
theorem wk_X1_bytesOfPages_39 {p : Program} {l : Launch} {e : Env} {s : State} {m : MethodId} {args : Array Value} {below : List Frame} {meth : Method} {c : Code} {D : va_G} {cB cI cJ cL cS : ClassId} {T : Nat × Nat × Nat × Nat} {A : Nat → Prop} {a : Nat → Nat} {t_made : Int32} {t_sort : Int32} {t_digits : Int32} {t_slots : Int32} {t_pages : Int32} {t_highest : Int64} {t_units : Nat → Int64} {t_kinds : Nat → Int32} {t_rows : Nat → Int32} {t_marks : Nat → Int32} {Q : Int32 → Prop} (C : Cq p s m args meth c D (Z5 cB cI cJ cL cS) T A cX1_bytesOfPages RX1 4 (Option.some Jvm.ClassFile.FieldType.int)) {x2 : Int32} {k0 : Int32} {K4 : Int32 → Int32 → Prop} (hK4 : ∀ (y1 : Int32) (y2 : Int32), K4 y1 y2 → ww p l e ({ frames := 1, cells := 0, slots := 0, locals := 21 } : Room) s m args below meth c D A 4 (MQ below (va_Qi (fun (r : Int32) (u : Unit) => Q r ) (OutP D (fun (u : Unit) => (wL cB cI cJ a t_made t_sort t_digits t_slots t_pages t_highest t_units t_kinds t_rows t_marks))) A) args s 0 0 A) 0 0 (wL cB cI cJ a t_made t_sort t_digits t_slots t_pages t_highest t_units t_kinds t_rows t_marks) 4 [(0, .ref (a 0)), (1, .int y1), (2, .int y2)] []) (hw : blk_X1_bytesOfPages_39 t_pages t_kinds K4 Q x2 k0) : ww p l e ({ frames := 1, cells := 0, slots := 0, locals := 21 } : Room) s m args below meth c D A 4 (MQ below (va_Qi (fun (r : Int32) (u : Unit) => Q r ) (OutP D (fun (u : Unit) => (wL cB cI cJ a t_made t_sort t_digits t_slots t_pages t_highest t_units t_kinds t_rows t_marks))) A) args s 0 0 A) 0 0 (wL cB cI cJ a t_made t_sort t_digits t_slots t_pages t_highest t_units t_kinds t_rows t_marks) 39 [(0, .ref (a 0)), (2, .int x2)] [.int k0] := by
  unfold blk_X1_bytesOfPages_39 at hw
  refine w_iconst C (v := (0 : Int32)) dX1_bytesOfPages_39 (by decide) ?_
  refine w_sub (lv' := [(0, .ref (a 0)), (2, .int x2)]) C [0, 1] rfl ?_
  exact wk_X1_bytesOfPages_40 C hK4 hw
set_option maxHeartbeats 4000000 in
set_option maxRecDepth 100000 in
theorem wl_X1_bytesOfPages_4 {p : Program} {l : Launch} {e : Env} {s : State} {m : MethodId} {args : Array Value} {below : List Frame} {meth : Method} {c : Code} {D : va_G} {cB cI cJ cL cS : ClassId} {T : Nat × Nat × Nat × Nat} {A : Nat → Prop} {a : Nat → Nat} {t_made : Int32} {t_sort : Int32} {t_digits : Int32} {t_slots : Int32} {t_pages : Int32} {t_highest : Int64} {t_units : Nat → Int64} {t_kinds : Nat → Int32} {t_rows : Nat → Int32} {t_marks : Nat → Int32} {Q : Int32 → Prop} (C : Cq p s m args meth c D (Z5 cB cI cJ cL cS) T A cX1_bytesOfPages RX1 4 (Option.some Jvm.ClassFile.FieldType.int))    : ∀ (j : Nat) (x1 : Int32) (x2 : Int32), lp_X1_bytesOfPages_4 t_pages t_kinds  Q  j x1 x2 → ww p l e ({ frames := 1, cells := 0, slots := 0, locals := 21 } : Room) s m args below meth c D A 4 (MQ below (va_Qi (fun (r : Int32) (u : Unit) => Q r ) (OutP D (fun (u : Unit) => (wL cB cI cJ a t_made t_sort t_digits t_slots t_pages t_highest t_units t_kinds t_rows t_marks))) A) args s 0 0 A) 0 0 (wL cB cI cJ a t_made t_sort t_digits t_slots t_pages t_highest t_units t_kinds t_rows t_marks) 4 [(0, .ref (a 0)), (1, .int x1), (2, .int x2)] [] := by
  intro j
  induction j with
  | zero => intro _ _ hw; exact hw.elim
  | succ j hK4 =>
    intro x1 x2 hw
    have hw : bod_X1_bytesOfPages_4 t_pages t_kinds  Q  (fun v0 v1 => lp_X1_bytesOfPages_4 t_pages t_kinds  Q  j v0 v1) x1 x2 := hw
    unfold bod_X1_bytesOfPages_4 at hw
    refine w_iload_n C 2 dX1_bytesOfPages_4 rfl ?_
    refine w_aload_n C 0 dX1_bytesOfPages_5 rfl ?_
    refine w_get C (T1 := TX1) 0 4 u_X1 k_154 rfl (by decide) rfl rfl dX1_bytesOfPages_6 ?_
    refine w_icmp_ge C 48 (by decide) dX1_bytesOfPages_9 (fun c_9 => ?_) (fun c_9 => ?_)
    · replace hw := hw.1 c_9
      refine w_iload_n C 1 dX1_bytesOfPages_48 rfl ?_
      exact w_iret C () hw rfl (Nat.le_of_ble_eq_true rfl) (Nat.le_of_ble_eq_true rfl) dX1_bytesOfPages_49
    · replace hw := hw.2 c_9
      refine w_aload_n C 0 dX1_bytesOfPages_12 rfl ?_
      refine w_iload_n C 2 dX1_bytesOfPages_13 rfl ?_
      refine w_callVI C (c_X1_kindOf hw) f_X1_kindOf k_283 k_281 rfl ⟨Nat.le_of_ble_eq_true rfl, Nat.le_of_ble_eq_true rfl⟩ rfl rfl ⟨Nat.le_of_ble_eq_true rfl, Nat.le_of_ble_eq_true rfl⟩ 0 rfl (rr := (RX1, TX1, 10)) rfl rfl (fun _ => rfl) rfl (Nat.le_of_ble_eq_true rfl) dX1_bytesOfPages_14 (fun r_14 u_14 hw => ?_)
      try dsimp only at hw
      refine w_istore_n C (fun x3_17 => [(3, .int x3_17), (0, .ref (a 0)), (1, .int x1), (2, .int x2)]) dX1_bytesOfPages_17 (by decide) (fun _ => rfl) (fun x3_17 e_x3_17 => ?_)
      replace hw := hw x3_17 e_x3_17
      refine w_iload_n C 2 dX1_bytesOfPages_18 rfl ?_
      refine w_iload_n C 0 dX1_bytesOfPages_19 rfl ?_
      refine w_if_lt C 39 (by decide) dX1_bytesOfPages_20 (fun c_20 => ?_) (fun c_20 => ?_)
      · replace hw := hw.1 c_20
        refine w_sub (lv' := [(0, .ref (a 0)), (2, .int x2)]) C [1, 3] rfl ?_
        exact wk_X1_bytesOfPages_39 C hK4 hw
      · replace hw := hw.2 c_20
        refine w_iload_n C 0 dX1_bytesOfPages_23 rfl ?_
        refine w_getsN_BYTES C n_690 dX1_bytesOfPages_24 ?_
        refine w_slen_BYTES C dX1_bytesOfPages_27 ?_
        refine w_icmp_ge C 39 (by decide) dX1_bytesOfPages_28 (fun c_28 => ?_) (fun c_28 => ?_)
        · replace hw := hw.1 c_28
          refine w_sub (lv' := [(0, .ref (a 0)), (2, .int x2)]) C [1, 3] rfl ?_
          exact wk_X1_bytesOfPages_39 C hK4 hw
        · replace hw := hw.2 c_28
          refine w_getsN_BYTES C n_690 dX1_bytesOfPages_31 ?_
          refine w_iload_n C 0 dX1_bytesOfPages_34 rfl ?_
          obtain ⟨hi_35, hw⟩ := hw
          refine w_sld_BYTES C hi_35 dX1_bytesOfPages_35 ?_
          refine w_goto C 40 (by decide) dX1_bytesOfPages_36 ?_
          refine w_sub (lv' := [(0, .ref (a 0)), (2, .int x2)]) C [1, 3] rfl ?_
          exact wk_X1_bytesOfPages_40 C hK4 hw
set_option maxHeartbeats 4000000 in
set_option maxRecDepth 100000 in
theorem c_X1_bytesOfPages {l : Launch} {D : va_G} {cB cI cJ cL cS : ClassId} {T : Nat × Nat × Nat × Nat} {a : Nat → Nat}  {t_made : Int32} {t_sort : Int32} {t_digits : Int32} {t_slots : Int32} {t_pages : Int32} {t_highest : Int64} {t_units : Nat → Int64} {t_kinds : Nat → Int32} {t_rows : Nat → Int32} {t_marks : Nat → Int32} {Q : Int32 → Prop} (hw : wp_X1_bytesOfPages  t_pages t_kinds Q) : CtI l D (Z5 cB cI cJ cL cS) T yX1_bytesOfPages cX1_bytesOfPages 4 ({ frames := 1, cells := 0, slots := 0, locals := 21 } : Room) (Option.some Jvm.ClassFile.FieldType.int) [.ref (a 0)] (wL cB cI cJ a t_made t_sort t_digits t_slots t_pages t_highest t_units t_kinds t_rows t_marks) (fun (u : Unit) => (wL cB cI cJ a t_made t_sort t_digits t_slots t_pages t_highest t_units t_kinds t_rows t_marks)) (fun (r : Int32) (u : Unit) => Q r ) 0 0 := by
  refine ctI_of (own := RX1) (by decide +kernel) rfl (Nat.le_of_ble_eq_true rfl) (fun p e s m below meth c A C => ?_)
  refine w_sub (lv' := [(0, .ref (a 0))]) C [0] rfl ?_
  unfold wp_X1_bytesOfPages at hw
  refine w_iconst C (v := (0 : Int32)) dX1_bytesOfPages_0 (by decide) ?_
  refine w_istore_n C (fun x1_1 => [(1, .int x1_1), (0, .ref (a 0))]) dX1_bytesOfPages_1 (by decide) (fun _ => rfl) (fun x1_1 e_x1_1 => ?_)
  replace hw := hw x1_1 e_x1_1
  refine w_iconst C (v := (0 : Int32)) dX1_bytesOfPages_2 (by decide) ?_
  refine w_istore_n C (fun x2_3 => [(2, .int x2_3), (1, .int x1_1), (0, .ref (a 0))]) dX1_bytesOfPages_3 (by decide) (fun _ => rfl) (fun x2_3 e_x2_3 => ?_)
  replace hw := hw x2_3 e_x2_3
  refine w_sub (lv' := [(0, .ref (a 0)), (1, .int x1_1), (2, .int x2_3)]) C [2, 1, 0] rfl ?_
  obtain ⟨j, hw⟩ := hw
  exact wl_X1_bytesOfPages_4 C  j _ _ hw
def wp_X1_rowOf (p0 : Int32) (t_rows : Nat → Int32) (Q : Int32 → Prop) : Prop := ((p0 < 0 → (Q (0 : Int32))) ∧ (¬ p0 < 0 → (((p0 < (271 : Int32) → ((vp_in p0 271) ∧ Q (t_rows (p0).toNatClampNeg))) ∧ (¬ p0 < (271 : Int32) → (Q (0 : Int32)))))))
set_option maxHeartbeats 4000000 in
set_option maxRecDepth 100000 in
theorem c_X1_rowOf {l : Launch} {D : va_G} {cB cI cJ cL cS : ClassId} {T : Nat × Nat × Nat × Nat} {a : Nat → Nat} {p0 : Int32} {t_made : Int32} {t_sort : Int32} {t_digits : Int32} {t_slots : Int32} {t_pages : Int32} {t_highest : Int64} {t_units : Nat → Int64} {t_kinds : Nat → Int32} {t_rows : Nat → Int32} {t_marks : Nat → Int32} {Q : Int32 → Prop} (hw : wp_X1_rowOf p0 t_rows Q) : CtI l D (Z5 cB cI cJ cL cS) T yX1_rowOf cX1_rowOf 2 ({ frames := 0, cells := 0, slots := 0, locals := 0 } : Room) (Option.some Jvm.ClassFile.FieldType.int) [.ref (a 0), .int p0] (wL cB cI cJ a t_made t_sort t_digits t_slots t_pages t_highest t_units t_kinds t_rows t_marks) (fun (u : Unit) => (wL cB cI cJ a t_made t_sort t_digits t_slots t_pages t_highest t_units t_kinds t_rows t_marks)) (fun (r : Int32) (u : Unit) => Q r ) 0 0 := by
  refine ctI_of (own := RX1) (by decide +kernel) rfl (Nat.le_of_ble_eq_true rfl) (fun p e s m below meth c A C => ?_)
  refine w_sub (lv' := [(0, .ref (a 0)), (1, .int p0)]) C [0, 1] rfl ?_
  unfold wp_X1_rowOf at hw
  refine w_iload_n C 1 dX1_rowOf_0 rfl ?_
  refine w_if_lt C 13 (by decide) dX1_rowOf_1 (fun c_1 => ?_) (fun c_1 => ?_)
  · replace hw := hw.1 c_1
    refine w_iconst C (v := (0 : Int32)) dX1_rowOf_13 (by decide) ?_
    refine w_goto C 23 (by decide) dX1_rowOf_14 ?_
    exact w_iret C () hw rfl (Nat.le_of_ble_eq_true rfl) (Nat.le_of_ble_eq_true rfl) dX1_rowOf_23
  · replace hw := hw.2 c_1
    refine w_iload_n C 1 dX1_rowOf_4 rfl ?_
    refine w_aload_n C 0 dX1_rowOf_5 rfl ?_
    refine w_get C (T1 := TX1) 0 8 u_X1 k_160 rfl (by decide) rfl rfl dX1_rowOf_6 ?_
    refine w_alen C (v := (271 : Int32)) 3 1 rfl rfl rfl dX1_rowOf_9 ?_
    refine w_icmp_lt C 17 (by decide) dX1_rowOf_10 (fun c_10 => ?_) (fun c_10 => ?_)
    · replace hw := hw.1 c_10
      refine w_aload_n C 0 dX1_rowOf_17 rfl ?_
      refine w_get C (T1 := TX1) 0 8 u_X1 k_160 rfl (by decide) rfl rfl dX1_rowOf_18 ?_
      refine w_iload_n C 1 dX1_rowOf_21 rfl ?_
      obtain ⟨hi_22, hw⟩ := hw
      refine w_iaload C 3 1 rfl rfl hi_22 dX1_rowOf_22 ?_
      exact w_iret C () hw rfl (Nat.le_of_ble_eq_true rfl) (Nat.le_of_ble_eq_true rfl) dX1_rowOf_23
    · replace hw := hw.2 c_10
      refine w_iconst C (v := (0 : Int32)) dX1_rowOf_13 (by decide) ?_
      refine w_goto C 23 (by decide) dX1_rowOf_14 ?_
      exact w_iret C () hw rfl (Nat.le_of_ble_eq_true rfl) (Nat.le_of_ble_eq_true rfl) dX1_rowOf_23
def wp_X1_markOf (p0 : Int32) (t_marks : Nat → Int32) (Q : Int32 → Prop) : Prop := ((p0 < 0 → (Q (-1 : Int32))) ∧ (¬ p0 < 0 → (((p0 < (4336 : Int32) → ((vp_in p0 4336) ∧ Q ((t_marks (p0).toNatClampNeg) - (1 : Int32)))) ∧ (¬ p0 < (4336 : Int32) → (Q (-1 : Int32)))))))
set_option maxHeartbeats 4000000 in
set_option maxRecDepth 100000 in
theorem c_X1_markOf {l : Launch} {D : va_G} {cB cI cJ cL cS : ClassId} {T : Nat × Nat × Nat × Nat} {a : Nat → Nat} {p0 : Int32} {t_made : Int32} {t_sort : Int32} {t_digits : Int32} {t_slots : Int32} {t_pages : Int32} {t_highest : Int64} {t_units : Nat → Int64} {t_kinds : Nat → Int32} {t_rows : Nat → Int32} {t_marks : Nat → Int32} {Q : Int32 → Prop} (hw : wp_X1_markOf p0 t_marks Q) : CtI l D (Z5 cB cI cJ cL cS) T yX1_markOf cX1_markOf 2 ({ frames := 0, cells := 0, slots := 0, locals := 0 } : Room) (Option.some Jvm.ClassFile.FieldType.int) [.ref (a 0), .int p0] (wL cB cI cJ a t_made t_sort t_digits t_slots t_pages t_highest t_units t_kinds t_rows t_marks) (fun (u : Unit) => (wL cB cI cJ a t_made t_sort t_digits t_slots t_pages t_highest t_units t_kinds t_rows t_marks)) (fun (r : Int32) (u : Unit) => Q r ) 0 0 := by
  refine ctI_of (own := RX1) (by decide +kernel) rfl (Nat.le_of_ble_eq_true rfl) (fun p e s m below meth c A C => ?_)
  refine w_sub (lv' := [(0, .ref (a 0)), (1, .int p0)]) C [0, 1] rfl ?_
  unfold wp_X1_markOf at hw
  refine w_iload_n C 1 dX1_markOf_0 rfl ?_
  refine w_if_lt C 13 (by decide) dX1_markOf_1 (fun c_1 => ?_) (fun c_1 => ?_)
  · replace hw := hw.1 c_1
    refine w_iconst C (v := (-1 : Int32)) dX1_markOf_13 (by decide) ?_
    refine w_goto C 25 (by decide) dX1_markOf_14 ?_
    exact w_iret C () hw rfl (Nat.le_of_ble_eq_true rfl) (Nat.le_of_ble_eq_true rfl) dX1_markOf_25
  · replace hw := hw.2 c_1
    refine w_iload_n C 1 dX1_markOf_4 rfl ?_
    refine w_aload_n C 0 dX1_markOf_5 rfl ?_
    refine w_get C (T1 := TX1) 0 9 u_X1 k_161 rfl (by decide) rfl rfl dX1_markOf_6 ?_
    refine w_alen C (v := (4336 : Int32)) 4 1 rfl rfl rfl dX1_markOf_9 ?_
    refine w_icmp_lt C 17 (by decide) dX1_markOf_10 (fun c_10 => ?_) (fun c_10 => ?_)
    · replace hw := hw.1 c_10
      refine w_aload_n C 0 dX1_markOf_17 rfl ?_
      refine w_get C (T1 := TX1) 0 9 u_X1 k_161 rfl (by decide) rfl rfl dX1_markOf_18 ?_
      refine w_iload_n C 1 dX1_markOf_21 rfl ?_
      obtain ⟨hi_22, hw⟩ := hw
      refine w_iaload C 4 1 rfl rfl hi_22 dX1_markOf_22 ?_
      refine w_iconst C (v := (1 : Int32)) dX1_markOf_23 (by decide) ?_
      refine w_isub C dX1_markOf_24 ?_
      exact w_iret C () hw rfl (Nat.le_of_ble_eq_true rfl) (Nat.le_of_ble_eq_true rfl) dX1_markOf_25
    · replace hw := hw.2 c_10
      refine w_iconst C (v := (-1 : Int32)) dX1_markOf_13 (by decide) ?_
      refine w_goto C 25 (by decide) dX1_markOf_14 ?_
      exact w_iret C () hw rfl (Nat.le_of_ble_eq_true rfl) (Nat.le_of_ble_eq_true rfl) dX1_markOf_25
def wp_X1_putMark (p0 : Int32) (p1 : Int32) (t_marks : Nat → Int32) (Q : (Nat → Int32) → Prop) : Prop := ((p0 < 0 → (Q t_marks)) ∧ (¬ p0 < 0 → ((((4336 : Int32) ≤ p0 → (Q t_marks)) ∧ (¬ (4336 : Int32) ≤ p0 → ((vp_in p0 4336) ∧ ∀ t_marks_21 : Nat → Int32, t_marks_21 = upd t_marks (p0).toNatClampNeg (p1 + (1 : Int32)) → Q t_marks_21))))))
set_option maxHeartbeats 4000000 in
set_option maxRecDepth 100000 in
theorem c_X1_putMark {l : Launch} {D : va_G} {cB cI cJ cL cS : ClassId} {T : Nat × Nat × Nat × Nat} {a : Nat → Nat} {p0 : Int32} {p1 : Int32} {t_made : Int32} {t_sort : Int32} {t_digits : Int32} {t_slots : Int32} {t_pages : Int32} {t_highest : Int64} {t_units : Nat → Int64} {t_kinds : Nat → Int32} {t_rows : Nat → Int32} {t_marks : Nat → Int32} {Q : (Nat → Int32) → Prop} (hw : wp_X1_putMark p0 p1 t_marks Q) : CtV l D (Z5 cB cI cJ cL cS) T yX1_putMark cX1_putMark 3 ({ frames := 0, cells := 0, slots := 0, locals := 0 } : Room) (Option.none : Option Jvm.ClassFile.FieldType) [.ref (a 0), .int p0, .int p1] (wL cB cI cJ a t_made t_sort t_digits t_slots t_pages t_highest t_units t_kinds t_rows t_marks) (fun (u : (Nat → Int32)) => (wL cB cI cJ a t_made t_sort t_digits t_slots t_pages t_highest t_units t_kinds t_rows u)) (fun (u : (Nat → Int32)) => Q u) 0 0 := by
  refine ctV_of (own := RX1) (by decide +kernel) rfl (Nat.le_of_ble_eq_true rfl) (fun p e s m below meth c A C => ?_)
  refine w_sub (lv' := [(0, .ref (a 0)), (1, .int p0), (2, .int p1)]) C [0, 1, 2] rfl ?_
  unfold wp_X1_putMark at hw
  refine w_iload_n C 1 dX1_putMark_0 rfl ?_
  refine w_if_lt C 22 (by decide) dX1_putMark_1 (fun c_1 => ?_) (fun c_1 => ?_)
  · replace hw := hw.1 c_1
    exact w_vret C t_marks hw rfl (Nat.le_of_ble_eq_true rfl) (Nat.le_of_ble_eq_true rfl) dX1_putMark_22
  · replace hw := hw.2 c_1
    refine w_iload_n C 1 dX1_putMark_4 rfl ?_
    refine w_aload_n C 0 dX1_putMark_5 rfl ?_
    refine w_get C (T1 := TX1) 0 9 u_X1 k_161 rfl (by decide) rfl rfl dX1_putMark_6 ?_
    refine w_alen C (v := (4336 : Int32)) 4 1 rfl rfl rfl dX1_putMark_9 ?_
    refine w_icmp_ge C 22 (by decide) dX1_putMark_10 (fun c_10 => ?_) (fun c_10 => ?_)
    · replace hw := hw.1 c_10
      exact w_vret C t_marks hw rfl (Nat.le_of_ble_eq_true rfl) (Nat.le_of_ble_eq_true rfl) dX1_putMark_22
    · replace hw := hw.2 c_10
      refine w_aload_n C 0 dX1_putMark_13 rfl ?_
      refine w_get C (T1 := TX1) 0 9 u_X1 k_161 rfl (by decide) rfl rfl dX1_putMark_14 ?_
      refine w_iload_n C 1 dX1_putMark_17 rfl ?_
      refine w_iload_n C 2 dX1_putMark_18 rfl ?_
      refine w_iconst C (v := (1 : Int32)) dX1_putMark_19 (by decide) ?_
      refine w_iadd C dX1_putMark_20 ?_
      obtain ⟨hi_21, hw⟩ := hw
      refine w_iastore C 4 1 (fun z => (wL cB cI cJ a t_made t_sort t_digits t_slots t_pages t_highest t_units t_kinds t_rows z)) rfl rfl hi_21 (fun _ => rfl) dX1_putMark_21 (fun t_marks_21 e_t_marks_21 => ?_)
      replace hw := hw t_marks_21 e_t_marks_21
      exact w_vret C t_marks_21 hw rfl (Nat.le_of_ble_eq_true rfl) (Nat.le_of_ble_eq_true rfl) dX1_putMark_22
def wp_X1_putRow (p0 : Int32) (p1 : Int32) (t_rows : Nat → Int32) (Q : (Nat → Int32) → Prop) : Prop := ((p0 < 0 → (Q t_rows)) ∧ (¬ p0 < 0 → ((((271 : Int32) ≤ p0 → (Q t_rows)) ∧ (¬ (271 : Int32) ≤ p0 → ((vp_in p0 271) ∧ ∀ t_rows_19 : Nat → Int32, t_rows_19 = upd t_rows (p0).toNatClampNeg p1 → Q t_rows_19))))))
set_option maxHeartbeats 4000000 in
set_option maxRecDepth 100000 in
theorem c_X1_putRow {l : Launch} {D : va_G} {cB cI cJ cL cS : ClassId} {T : Nat × Nat × Nat × Nat} {a : Nat → Nat} {p0 : Int32} {p1 : Int32} {t_made : Int32} {t_sort : Int32} {t_digits : Int32} {t_slots : Int32} {t_pages : Int32} {t_highest : Int64} {t_units : Nat → Int64} {t_kinds : Nat → Int32} {t_rows : Nat → Int32} {t_marks : Nat → Int32} {Q : (Nat → Int32) → Prop} (hw : wp_X1_putRow p0 p1 t_rows Q) : CtV l D (Z5 cB cI cJ cL cS) T yX1_putRow cX1_putRow 3 ({ frames := 0, cells := 0, slots := 0, locals := 0 } : Room) (Option.none : Option Jvm.ClassFile.FieldType) [.ref (a 0), .int p0, .int p1] (wL cB cI cJ a t_made t_sort t_digits t_slots t_pages t_highest t_units t_kinds t_rows t_marks) (fun (u : (Nat → Int32)) => (wL cB cI cJ a t_made t_sort t_digits t_slots t_pages t_highest t_units t_kinds u t_marks)) (fun (u : (Nat → Int32)) => Q u) 0 0 := by
  refine ctV_of (own := RX1) (by decide +kernel) rfl (Nat.le_of_ble_eq_true rfl) (fun p e s m below meth c A C => ?_)
  refine w_sub (lv' := [(0, .ref (a 0)), (1, .int p0), (2, .int p1)]) C [0, 1, 2] rfl ?_
  unfold wp_X1_putRow at hw
  refine w_iload_n C 1 dX1_putRow_0 rfl ?_
  refine w_if_lt C 20 (by decide) dX1_putRow_1 (fun c_1 => ?_) (fun c_1 => ?_)
  · replace hw := hw.1 c_1
    exact w_vret C t_rows hw rfl (Nat.le_of_ble_eq_true rfl) (Nat.le_of_ble_eq_true rfl) dX1_putRow_20
  · replace hw := hw.2 c_1
    refine w_iload_n C 1 dX1_putRow_4 rfl ?_
    refine w_aload_n C 0 dX1_putRow_5 rfl ?_
    refine w_get C (T1 := TX1) 0 8 u_X1 k_160 rfl (by decide) rfl rfl dX1_putRow_6 ?_
    refine w_alen C (v := (271 : Int32)) 3 1 rfl rfl rfl dX1_putRow_9 ?_
    refine w_icmp_ge C 20 (by decide) dX1_putRow_10 (fun c_10 => ?_) (fun c_10 => ?_)
    · replace hw := hw.1 c_10
      exact w_vret C t_rows hw rfl (Nat.le_of_ble_eq_true rfl) (Nat.le_of_ble_eq_true rfl) dX1_putRow_20
    · replace hw := hw.2 c_10
      refine w_aload_n C 0 dX1_putRow_13 rfl ?_
      refine w_get C (T1 := TX1) 0 8 u_X1 k_160 rfl (by decide) rfl rfl dX1_putRow_14 ?_
      refine w_iload_n C 1 dX1_putRow_17 rfl ?_
      refine w_iload_n C 2 dX1_putRow_18 rfl ?_
      obtain ⟨hi_19, hw⟩ := hw
      refine w_iastore C 3 1 (fun z => (wL cB cI cJ a t_made t_sort t_digits t_slots t_pages t_highest t_units t_kinds z t_marks)) rfl rfl hi_19 (fun _ => rfl) dX1_putRow_19 (fun t_rows_19 e_t_rows_19 => ?_)
      replace hw := hw t_rows_19 e_t_rows_19
      exact w_vret C t_rows_19 hw rfl (Nat.le_of_ble_eq_true rfl) (Nat.le_of_ble_eq_true rfl) dX1_putRow_20
def blk_X1_marksInAll_27 (t_pages : Int32) (t_marks : Nat → Int32) (K4 : Int32 → Int32 → Prop) (Q : Int32 → Prop) (x1 : Int32) (x2 : Int32) : Prop := ∀ x2_27 : Int32, x2_27 = x2 + (1 : Int32) → K4 x1 x2_27
def bod_X1_marksInAll_4 (t_pages : Int32) (t_marks : Nat → Int32)  (Q : Int32 → Prop)   (K4 : Int32 → Int32 → Prop) (x1 : Int32) (x2 : Int32) : Prop := ((((16 : Int32) * t_pages) ≤ x2 → (Q x1)) ∧ (¬ ((16 : Int32) * t_pages) ≤ x2 → (wp_X1_markOf x2 t_marks (fun (r_17 : Int32) => ((r_17 = (-1 : Int32) → ((blk_X1_marksInAll_27 t_pages t_marks K4 Q x1 x2))) ∧ (¬ r_17 = (-1 : Int32) → (∀ x1_24 : Int32, x1_24 = x1 + (1 : Int32) → (blk_X1_marksInAll_27 t_pages t_marks K4 Q x1_24 x2))))))))
def lp_X1_marksInAll_4 (t_pages : Int32) (t_marks : Nat → Int32)  (Q : Int32 → Prop)   : Nat → Int32 → Int32 → Prop
  | 0, _, _ => False
  | j + 1, x1, x2 => bod_X1_marksInAll_4 t_pages t_marks  Q  (fun v0 v1 => lp_X1_marksInAll_4 t_pages t_marks  Q  j v0 v1) x1 x2
def wp_X1_marksInAll  (t_pages : Int32) (t_marks : Nat → Int32) (Q : Int32 → Prop) : Prop := ∀ x1_1 : Int32, x1_1 = (0 : Int32) → ∀ x2_3 : Int32, x2_3 = (0 : Int32) → (∃ j : Nat, lp_X1_marksInAll_4 t_pages t_marks  Q  j x1_1 x2_3)
set_option maxHeartbeats 4000000 in
set_option maxRecDepth 100000 in
theorem wk_X1_marksInAll_27 {p : Program} {l : Launch} {e : Env} {s : State} {m : MethodId} {args : Array Value} {below : List Frame} {meth : Method} {c : Code} {D : va_G} {cB cI cJ cL cS : ClassId} {T : Nat × Nat × Nat × Nat} {A : Nat → Prop} {a : Nat → Nat} {t_made : Int32} {t_sort : Int32} {t_digits : Int32} {t_slots : Int32} {t_pages : Int32} {t_highest : Int64} {t_units : Nat → Int64} {t_kinds : Nat → Int32} {t_rows : Nat → Int32} {t_marks : Nat → Int32} {Q : Int32 → Prop} (C : Cq p s m args meth c D (Z5 cB cI cJ cL cS) T A cX1_marksInAll RX1 3 (Option.some Jvm.ClassFile.FieldType.int)) {x1 : Int32} {x2 : Int32} {K4 : Int32 → Int32 → Prop} (hK4 : ∀ (y1 : Int32) (y2 : Int32), K4 y1 y2 → ww p l e ({ frames := 1, cells := 0, slots := 0, locals := 21 } : Room) s m args below meth c D A 3 (MQ below (va_Qi (fun (r : Int32) (u : Unit) => Q r ) (OutP D (fun (u : Unit) => (wL cB cI cJ a t_made t_sort t_digits t_slots t_pages t_highest t_units t_kinds t_rows t_marks))) A) args s 0 0 A) 0 0 (wL cB cI cJ a t_made t_sort t_digits t_slots t_pages t_highest t_units t_kinds t_rows t_marks) 4 [(0, .ref (a 0)), (1, .int y1), (2, .int y2)] []) (hw : blk_X1_marksInAll_27 t_pages t_marks K4 Q x1 x2) : ww p l e ({ frames := 1, cells := 0, slots := 0, locals := 21 } : Room) s m args below meth c D A 3 (MQ below (va_Qi (fun (r : Int32) (u : Unit) => Q r ) (OutP D (fun (u : Unit) => (wL cB cI cJ a t_made t_sort t_digits t_slots t_pages t_highest t_units t_kinds t_rows t_marks))) A) args s 0 0 A) 0 0 (wL cB cI cJ a t_made t_sort t_digits t_slots t_pages t_highest t_units t_kinds t_rows t_marks) 27 [(0, .ref (a 0)), (1, .int x1), (2, .int x2)] [] := by
  unfold blk_X1_marksInAll_27 at hw
  refine w_iinc C (v := x2 + (1 : Int32)) 2 (fun x2_27 => [(2, .int x2_27), (0, .ref (a 0)), (1, .int x1)]) dX1_marksInAll_27 rfl rfl (by decide) (fun _ => rfl) (fun x2_27 e_x2_27 => ?_)
  replace hw := hw x2_27 e_x2_27
  refine w_goto C 4 (by decide) dX1_marksInAll_30 ?_
  refine w_sub (lv' := [(0, .ref (a 0)), (1, .int x1), (2, .int x2_27)]) C [1, 2, 0] rfl ?_
  exact hK4 _ _ hw
set_option maxHeartbeats 4000000 in
set_option maxRecDepth 100000 in
theorem wl_X1_marksInAll_4 {p : Program} {l : Launch} {e : Env} {s : State} {m : MethodId} {args : Array Value} {below : List Frame} {meth : Method} {c : Code} {D : va_G} {cB cI cJ cL cS : ClassId} {T : Nat × Nat × Nat × Nat} {A : Nat → Prop} {a : Nat → Nat} {t_made : Int32} {t_sort : Int32} {t_digits : Int32} {t_slots : Int32} {t_pages : Int32} {t_highest : Int64} {t_units : Nat → Int64} {t_kinds : Nat → Int32} {t_rows : Nat → Int32} {t_marks : Nat → Int32} {Q : Int32 → Prop} (C : Cq p s m args meth c D (Z5 cB cI cJ cL cS) T A cX1_marksInAll RX1 3 (Option.some Jvm.ClassFile.FieldType.int))    : ∀ (j : Nat) (x1 : Int32) (x2 : Int32), lp_X1_marksInAll_4 t_pages t_marks  Q  j x1 x2 → ww p l e ({ frames := 1, cells := 0, slots := 0, locals := 21 } : Room) s m args below meth c D A 3 (MQ below (va_Qi (fun (r : Int32) (u : Unit) => Q r ) (OutP D (fun (u : Unit) => (wL cB cI cJ a t_made t_sort t_digits t_slots t_pages t_highest t_units t_kinds t_rows t_marks))) A) args s 0 0 A) 0 0 (wL cB cI cJ a t_made t_sort t_digits t_slots t_pages t_highest t_units t_kinds t_rows t_marks) 4 [(0, .ref (a 0)), (1, .int x1), (2, .int x2)] [] := by
  intro j
  induction j with
  | zero => intro _ _ hw; exact hw.elim
  | succ j hK4 =>
    intro x1 x2 hw
    have hw : bod_X1_marksInAll_4 t_pages t_marks  Q  (fun v0 v1 => lp_X1_marksInAll_4 t_pages t_marks  Q  j v0 v1) x1 x2 := hw
    unfold bod_X1_marksInAll_4 at hw
    refine w_iload_n C 2 dX1_marksInAll_4 rfl ?_
    refine w_bipush C (v := (16 : Int32)) dX1_marksInAll_5 (by decide) ?_
    refine w_aload_n C 0 dX1_marksInAll_7 rfl ?_
    refine w_get C (T1 := TX1) 0 4 u_X1 k_154 rfl (by decide) rfl rfl dX1_marksInAll_8 ?_
    refine w_imul C dX1_marksInAll_11 ?_
    refine w_icmp_ge C 33 (by decide) dX1_marksInAll_12 (fun c_12 => ?_) (fun c_12 => ?_)
    · replace hw := hw.1 c_12
      refine w_iload_n C 1 dX1_marksInAll_33 rfl ?_
      exact w_iret C () hw rfl (Nat.le_of_ble_eq_true rfl) (Nat.le_of_ble_eq_true rfl) dX1_marksInAll_34
    · replace hw := hw.2 c_12
      refine w_aload_n C 0 dX1_marksInAll_15 rfl ?_
      refine w_iload_n C 2 dX1_marksInAll_16 rfl ?_
      refine w_callVI C (c_X1_markOf hw) f_X1_markOf k_720 k_756 rfl ⟨Nat.le_of_ble_eq_true rfl, Nat.le_of_ble_eq_true rfl⟩ rfl rfl ⟨Nat.le_of_ble_eq_true rfl, Nat.le_of_ble_eq_true rfl⟩ 0 rfl (rr := (RX1, TX1, 10)) rfl rfl (fun _ => rfl) rfl (Nat.le_of_ble_eq_true rfl) dX1_marksInAll_17 (fun r_17 u_17 hw => ?_)
      try dsimp only at hw
      refine w_iconst C (v := (-1 : Int32)) dX1_marksInAll_20 (by decide) ?_
      refine w_icmp_eq C 27 (by decide) dX1_marksInAll_21 (fun c_21 => ?_) (fun c_21 => ?_)
      · replace hw := hw.1 c_21
        refine w_sub (lv' := [(0, .ref (a 0)), (1, .int x1), (2, .int x2)]) C [0, 1, 2] rfl ?_
        exact wk_X1_marksInAll_27 C hK4 hw
      · replace hw := hw.2 c_21
        refine w_iinc C (v := x1 + (1 : Int32)) 1 (fun x1_24 => [(1, .int x1_24), (0, .ref (a 0)), (2, .int x2)]) dX1_marksInAll_24 rfl rfl (by decide) (fun _ => rfl) (fun x1_24 e_x1_24 => ?_)
        replace hw := hw x1_24 e_x1_24
        refine w_sub (lv' := [(0, .ref (a 0)), (1, .int x1_24), (2, .int x2)]) C [1, 0, 2] rfl ?_
        exact wk_X1_marksInAll_27 C hK4 hw
set_option maxHeartbeats 4000000 in
set_option maxRecDepth 100000 in
theorem c_X1_marksInAll {l : Launch} {D : va_G} {cB cI cJ cL cS : ClassId} {T : Nat × Nat × Nat × Nat} {a : Nat → Nat}  {t_made : Int32} {t_sort : Int32} {t_digits : Int32} {t_slots : Int32} {t_pages : Int32} {t_highest : Int64} {t_units : Nat → Int64} {t_kinds : Nat → Int32} {t_rows : Nat → Int32} {t_marks : Nat → Int32} {Q : Int32 → Prop} (hw : wp_X1_marksInAll  t_pages t_marks Q) : CtI l D (Z5 cB cI cJ cL cS) T yX1_marksInAll cX1_marksInAll 3 ({ frames := 1, cells := 0, slots := 0, locals := 21 } : Room) (Option.some Jvm.ClassFile.FieldType.int) [.ref (a 0)] (wL cB cI cJ a t_made t_sort t_digits t_slots t_pages t_highest t_units t_kinds t_rows t_marks) (fun (u : Unit) => (wL cB cI cJ a t_made t_sort t_digits t_slots t_pages t_highest t_units t_kinds t_rows t_marks)) (fun (r : Int32) (u : Unit) => Q r ) 0 0 := by
  refine ctI_of (own := RX1) (by decide +kernel) rfl (Nat.le_of_ble_eq_true rfl) (fun p e s m below meth c A C => ?_)
  refine w_sub (lv' := [(0, .ref (a 0))]) C [0] rfl ?_
  unfold wp_X1_marksInAll at hw
  refine w_iconst C (v := (0 : Int32)) dX1_marksInAll_0 (by decide) ?_
  refine w_istore_n C (fun x1_1 => [(1, .int x1_1), (0, .ref (a 0))]) dX1_marksInAll_1 (by decide) (fun _ => rfl) (fun x1_1 e_x1_1 => ?_)
  replace hw := hw x1_1 e_x1_1
  refine w_iconst C (v := (0 : Int32)) dX1_marksInAll_2 (by decide) ?_
  refine w_istore_n C (fun x2_3 => [(2, .int x2_3), (1, .int x1_1), (0, .ref (a 0))]) dX1_marksInAll_3 (by decide) (fun _ => rfl) (fun x2_3 e_x2_3 => ?_)
  replace hw := hw x2_3 e_x2_3
  refine w_sub (lv' := [(0, .ref (a 0)), (1, .int x1_1), (2, .int x2_3)]) C [2, 1, 0] rfl ?_
  obtain ⟨j, hw⟩ := hw
  exact wl_X1_marksInAll_4 C  j _ _ hw
