def wp_X5_append (p0 : Int32) (t_bytes : Nat → Int32) (t_length : Int32) (Q : Int32 → (Nat → Int32) → Int32 → Prop) : Prop := ((t_length < 0 → (Q (0 : Int32) t_bytes t_length)) ∧ (¬ t_length < 0 → (((t_length < (400 : Int32) → ((vp_in t_length 400) ∧ ∀ t_bytes_30 : Nat → Int32, t_bytes_30 = upd t_bytes (t_length).toNatClampNeg p0 → ∀ t_length_38 : Int32, t_length_38 = (t_length + (1 : Int32)) → Q (1 : Int32) t_bytes_30 t_length_38)) ∧ (¬ t_length < (400 : Int32) → (Q (0 : Int32) t_bytes t_length))))))
set_option maxHeartbeats 4000000 in
set_option maxRecDepth 100000 in
theorem c_X5_append {l : Launch} {D : va_G} {cB cI cJ cL cS : ClassId} {T : Nat × Nat × Nat × Nat} {a : Nat → Nat} {p0 : Int32} {t_bytes : Nat → Int32} {t_length : Int32} {Q : Int32 → (Nat → Int32) → Int32 → Prop} (hw : wp_X5_append p0 t_bytes t_length Q) : CtI l D (Z5 cB cI cJ cL cS) T yX5_append cX5_append 2 ({ frames := 0, cells := 0, slots := 0, locals := 0 } : Room) (Option.some Jvm.ClassFile.FieldType.boolean) [.ref (a 0), .int p0] (wTp cB cI cJ a t_bytes t_length) (fun (u : (Nat → Int32) × Int32) => (wTp cB cI cJ a u.1 u.2)) (fun (r : Int32) (u : (Nat → Int32) × Int32) => Q r u.1 u.2) 0 0 := by
  refine ctI_of (own := RX5) (by decide +kernel) rfl (Nat.le_of_ble_eq_true rfl) (fun p e s m below meth c A C => ?_)
  refine w_sub (lv' := [(0, .ref (a 0)), (1, .int p0)]) C [0, 1] rfl ?_
  unfold wp_X5_append at hw
  refine w_aload_n C 0 dX5_append_0 rfl ?_
  refine w_get C (T1 := TX5) 0 1 u_X5 k_120 rfl (by decide) rfl rfl dX5_append_1 ?_
  refine w_if_lt C 19 (by decide) dX5_append_4 (fun c_4 => ?_) (fun c_4 => ?_)
  · replace hw := hw.1 c_4
    refine w_iconst C (v := (0 : Int32)) dX5_append_19 (by decide) ?_
    exact w_zret C (t_bytes, t_length) (Or.inl rfl) hw rfl (Nat.le_of_ble_eq_true rfl) (Nat.le_of_ble_eq_true rfl) dX5_append_20
  · replace hw := hw.2 c_4
    refine w_aload_n C 0 dX5_append_7 rfl ?_
    refine w_get C (T1 := TX5) 0 1 u_X5 k_120 rfl (by decide) rfl rfl dX5_append_8 ?_
    refine w_aload_n C 0 dX5_append_11 rfl ?_
    refine w_get C (T1 := TX5) 0 0 u_X5 k_118 rfl (by decide) rfl rfl dX5_append_12 ?_
    refine w_alen C (v := (400 : Int32)) 1 1 rfl rfl rfl dX5_append_15 ?_
    refine w_icmp_lt C 21 (by decide) dX5_append_16 (fun c_16 => ?_) (fun c_16 => ?_)
    · replace hw := hw.1 c_16
      refine w_aload_n C 0 dX5_append_21 rfl ?_
      refine w_get C (T1 := TX5) 0 0 u_X5 k_118 rfl (by decide) rfl rfl dX5_append_22 ?_
      refine w_aload_n C 0 dX5_append_25 rfl ?_
      refine w_get C (T1 := TX5) 0 1 u_X5 k_120 rfl (by decide) rfl rfl dX5_append_26 ?_
      refine w_iload_n C 1 dX5_append_29 rfl ?_
      obtain ⟨hi_30, hw⟩ := hw
      refine w_iastore C 1 1 (fun z => (wTp cB cI cJ a z t_length)) rfl rfl hi_30 (fun _ => rfl) dX5_append_30 (fun t_bytes_30 e_t_bytes_30 => ?_)
      replace hw := hw t_bytes_30 e_t_bytes_30
      refine w_aload_n C 0 dX5_append_31 rfl ?_
      refine w_dup C rfl dX5_append_32 ?_
      refine w_get C (T1 := TX5) 0 1 u_X5 k_120 rfl (by decide) rfl rfl dX5_append_33 ?_
      refine w_iconst C (v := (1 : Int32)) dX5_append_36 (by decide) ?_
      refine w_iadd C dX5_append_37 ?_
      refine w_puti C (T1 := TX5) (ty := .int) 0 1 (fun z => (wTp cB cI cJ a t_bytes_30 z)) u_X5 tyX5 tyX5_ok nmX5 k_120 rfl (by decide) rfl rfl (by decide +kernel) rfl rfl (Nat.le_of_ble_eq_true rfl) (fun _ => rfl) dX5_append_38 (fun t_length_38 e_t_length_38 => ?_)
      replace hw := hw t_length_38 e_t_length_38
      refine w_iconst C (v := (1 : Int32)) dX5_append_41 (by decide) ?_
      exact w_zret C (t_bytes_30, t_length_38) (Or.inr rfl) hw rfl (Nat.le_of_ble_eq_true rfl) (Nat.le_of_ble_eq_true rfl) dX5_append_42
    · replace hw := hw.2 c_16
      refine w_iconst C (v := (0 : Int32)) dX5_append_19 (by decide) ?_
      exact w_zret C (t_bytes, t_length) (Or.inl rfl) hw rfl (Nat.le_of_ble_eq_true rfl) (Nat.le_of_ble_eq_true rfl) dX5_append_20
def wp_X5_appendInt (p0 : Int32) (t_bytes : Nat → Int32) (t_length : Int32) (Q : (Nat → Int32) → Int32 → Prop) : Prop := wp_X5_append ((p0 >>> ((24 : Int32) &&& 31)) &&& (255 : Int32)) t_bytes t_length (fun (r_9 : Int32) (t_bytes_9 : Nat → Int32) (t_length_9 : Int32) => wp_X5_append ((p0 >>> ((16 : Int32) &&& 31)) &&& (255 : Int32)) t_bytes_9 t_length_9 (fun (r_22 : Int32) (t_bytes_22 : Nat → Int32) (t_length_22 : Int32) => wp_X5_append ((p0 >>> ((8 : Int32) &&& 31)) &&& (255 : Int32)) t_bytes_22 t_length_22 (fun (r_35 : Int32) (t_bytes_35 : Nat → Int32) (t_length_35 : Int32) => wp_X5_append (p0 &&& (255 : Int32)) t_bytes_35 t_length_35 (fun (r_45 : Int32) (t_bytes_45 : Nat → Int32) (t_length_45 : Int32) => Q t_bytes_45 t_length_45))))
set_option maxHeartbeats 4000000 in
set_option maxRecDepth 100000 in
theorem c_X5_appendInt {l : Launch} {D : va_G} {cB cI cJ cL cS : ClassId} {T : Nat × Nat × Nat × Nat} {a : Nat → Nat} {p0 : Int32} {t_bytes : Nat → Int32} {t_length : Int32} {Q : (Nat → Int32) → Int32 → Prop} (hw : wp_X5_appendInt p0 t_bytes t_length Q) : CtV l D (Z5 cB cI cJ cL cS) T yX5_appendInt cX5_appendInt 2 ({ frames := 1, cells := 0, slots := 0, locals := 21 } : Room) (Option.none : Option Jvm.ClassFile.FieldType) [.ref (a 0), .int p0] (wTp cB cI cJ a t_bytes t_length) (fun (u : (Nat → Int32) × Int32) => (wTp cB cI cJ a u.1 u.2)) (fun (u : (Nat → Int32) × Int32) => Q u.1 u.2) 0 0 := by
  refine ctV_of (own := RX5) (by decide +kernel) rfl (Nat.le_of_ble_eq_true rfl) (fun p e s m below meth c A C => ?_)
  refine w_sub (lv' := [(0, .ref (a 0)), (1, .int p0)]) C [0, 1] rfl ?_
  unfold wp_X5_appendInt at hw
  refine w_aload_n C 0 dX5_appendInt_0 rfl ?_
  refine w_iload_n C 1 dX5_appendInt_1 rfl ?_
  refine w_bipush C (v := (24 : Int32)) dX5_appendInt_2 (by decide) ?_
  refine w_ishr C dX5_appendInt_4 ?_
  refine w_sipush C (v := (255 : Int32)) dX5_appendInt_5 (by decide) ?_
  refine w_iand C dX5_appendInt_8 ?_
  refine w_callVI C (c_X5_append hw) f_X5_append k_237 k_235 rfl ⟨Nat.le_of_ble_eq_true rfl, Nat.le_of_ble_eq_true rfl⟩ rfl rfl ⟨Nat.le_of_ble_eq_true rfl, Nat.le_of_ble_eq_true rfl⟩ 0 rfl (rr := (RX5, TX5, 2)) rfl rfl (fun _ => rfl) rfl (Nat.le_of_ble_eq_true rfl) dX5_appendInt_9 (fun r_9 u_9 hw => ?_)
  obtain ⟨t_bytes_9, t_length_9⟩ := u_9
  try dsimp only at hw
  refine w_pop C rfl dX5_appendInt_12 ?_
  refine w_aload_n C 0 dX5_appendInt_13 rfl ?_
  refine w_iload_n C 1 dX5_appendInt_14 rfl ?_
  refine w_bipush C (v := (16 : Int32)) dX5_appendInt_15 (by decide) ?_
  refine w_ishr C dX5_appendInt_17 ?_
  refine w_sipush C (v := (255 : Int32)) dX5_appendInt_18 (by decide) ?_
  refine w_iand C dX5_appendInt_21 ?_
  refine w_callVI C (c_X5_append hw) f_X5_append k_237 k_235 rfl ⟨Nat.le_of_ble_eq_true rfl, Nat.le_of_ble_eq_true rfl⟩ rfl rfl ⟨Nat.le_of_ble_eq_true rfl, Nat.le_of_ble_eq_true rfl⟩ 0 rfl (rr := (RX5, TX5, 2)) rfl rfl (fun _ => rfl) rfl (Nat.le_of_ble_eq_true rfl) dX5_appendInt_22 (fun r_22 u_22 hw => ?_)
  obtain ⟨t_bytes_22, t_length_22⟩ := u_22
  try dsimp only at hw
  refine w_pop C rfl dX5_appendInt_25 ?_
  refine w_aload_n C 0 dX5_appendInt_26 rfl ?_
  refine w_iload_n C 1 dX5_appendInt_27 rfl ?_
  refine w_bipush C (v := (8 : Int32)) dX5_appendInt_28 (by decide) ?_
  refine w_ishr C dX5_appendInt_30 ?_
  refine w_sipush C (v := (255 : Int32)) dX5_appendInt_31 (by decide) ?_
  refine w_iand C dX5_appendInt_34 ?_
  refine w_callVI C (c_X5_append hw) f_X5_append k_237 k_235 rfl ⟨Nat.le_of_ble_eq_true rfl, Nat.le_of_ble_eq_true rfl⟩ rfl rfl ⟨Nat.le_of_ble_eq_true rfl, Nat.le_of_ble_eq_true rfl⟩ 0 rfl (rr := (RX5, TX5, 2)) rfl rfl (fun _ => rfl) rfl (Nat.le_of_ble_eq_true rfl) dX5_appendInt_35 (fun r_35 u_35 hw => ?_)
  obtain ⟨t_bytes_35, t_length_35⟩ := u_35
  try dsimp only at hw
  refine w_pop C rfl dX5_appendInt_38 ?_
  refine w_aload_n C 0 dX5_appendInt_39 rfl ?_
  refine w_iload_n C 1 dX5_appendInt_40 rfl ?_
  refine w_sipush C (v := (255 : Int32)) dX5_appendInt_41 (by decide) ?_
  refine w_iand C dX5_appendInt_44 ?_
  refine w_callVI C (c_X5_append hw) f_X5_append k_237 k_235 rfl ⟨Nat.le_of_ble_eq_true rfl, Nat.le_of_ble_eq_true rfl⟩ rfl rfl ⟨Nat.le_of_ble_eq_true rfl, Nat.le_of_ble_eq_true rfl⟩ 0 rfl (rr := (RX5, TX5, 2)) rfl rfl (fun _ => rfl) rfl (Nat.le_of_ble_eq_true rfl) dX5_appendInt_45 (fun r_45 u_45 hw => ?_)
  obtain ⟨t_bytes_45, t_length_45⟩ := u_45
  try dsimp only at hw
  refine w_pop C rfl dX5_appendInt_48 ?_
  exact w_vret C (t_bytes_45, t_length_45) hw rfl (Nat.le_of_ble_eq_true rfl) (Nat.le_of_ble_eq_true rfl) dX5_appendInt_49
def wp_X5_byteAt (p0 : Int32) (t_bytes : Nat → Int32) (t_length : Int32) (Q : Int32 → Prop) : Prop := ((p0 < 0 → (Q (-1 : Int32))) ∧ (¬ p0 < 0 → (((t_length ≤ p0 → (Q (-1 : Int32))) ∧ (¬ t_length ≤ p0 → (((p0 < (400 : Int32) → ((vp_in p0 400) ∧ Q (t_bytes (p0).toNatClampNeg))) ∧ (¬ p0 < (400 : Int32) → (Q (-1 : Int32))))))))))
set_option maxHeartbeats 4000000 in
set_option maxRecDepth 100000 in
theorem c_X5_byteAt {l : Launch} {D : va_G} {cB cI cJ cL cS : ClassId} {T : Nat × Nat × Nat × Nat} {a : Nat → Nat} {p0 : Int32} {t_bytes : Nat → Int32} {t_length : Int32} {Q : Int32 → Prop} (hw : wp_X5_byteAt p0 t_bytes t_length Q) : CtI l D (Z5 cB cI cJ cL cS) T yX5_byteAt cX5_byteAt 2 ({ frames := 0, cells := 0, slots := 0, locals := 0 } : Room) (Option.some Jvm.ClassFile.FieldType.int) [.ref (a 0), .int p0] (wTp cB cI cJ a t_bytes t_length) (fun (u : Unit) => (wTp cB cI cJ a t_bytes t_length)) (fun (r : Int32) (u : Unit) => Q r ) 0 0 := by
  refine ctI_of (own := RX5) (by decide +kernel) rfl (Nat.le_of_ble_eq_true rfl) (fun p e s m below meth c A C => ?_)
  refine w_sub (lv' := [(0, .ref (a 0)), (1, .int p0)]) C [0, 1] rfl ?_
  unfold wp_X5_byteAt at hw
  refine w_iload_n C 1 dX5_byteAt_0 rfl ?_
  refine w_if_lt C 21 (by decide) dX5_byteAt_1 (fun c_1 => ?_) (fun c_1 => ?_)
  · replace hw := hw.1 c_1
    refine w_iconst C (v := (-1 : Int32)) dX5_byteAt_21 (by decide) ?_
    refine w_goto C 31 (by decide) dX5_byteAt_22 ?_
    exact w_iret C () hw rfl (Nat.le_of_ble_eq_true rfl) (Nat.le_of_ble_eq_true rfl) dX5_byteAt_31
  · replace hw := hw.2 c_1
    refine w_iload_n C 1 dX5_byteAt_4 rfl ?_
    refine w_aload_n C 0 dX5_byteAt_5 rfl ?_
    refine w_get C (T1 := TX5) 0 1 u_X5 k_120 rfl (by decide) rfl rfl dX5_byteAt_6 ?_
    refine w_icmp_ge C 21 (by decide) dX5_byteAt_9 (fun c_9 => ?_) (fun c_9 => ?_)
    · replace hw := hw.1 c_9
      refine w_iconst C (v := (-1 : Int32)) dX5_byteAt_21 (by decide) ?_
      refine w_goto C 31 (by decide) dX5_byteAt_22 ?_
      exact w_iret C () hw rfl (Nat.le_of_ble_eq_true rfl) (Nat.le_of_ble_eq_true rfl) dX5_byteAt_31
    · replace hw := hw.2 c_9
      refine w_iload_n C 1 dX5_byteAt_12 rfl ?_
      refine w_aload_n C 0 dX5_byteAt_13 rfl ?_
      refine w_get C (T1 := TX5) 0 0 u_X5 k_118 rfl (by decide) rfl rfl dX5_byteAt_14 ?_
      refine w_alen C (v := (400 : Int32)) 1 1 rfl rfl rfl dX5_byteAt_17 ?_
      refine w_icmp_lt C 25 (by decide) dX5_byteAt_18 (fun c_18 => ?_) (fun c_18 => ?_)
      · replace hw := hw.1 c_18
        refine w_aload_n C 0 dX5_byteAt_25 rfl ?_
        refine w_get C (T1 := TX5) 0 0 u_X5 k_118 rfl (by decide) rfl rfl dX5_byteAt_26 ?_
        refine w_iload_n C 1 dX5_byteAt_29 rfl ?_
        obtain ⟨hi_30, hw⟩ := hw
        refine w_iaload C 1 1 rfl rfl hi_30 dX5_byteAt_30 ?_
        exact w_iret C () hw rfl (Nat.le_of_ble_eq_true rfl) (Nat.le_of_ble_eq_true rfl) dX5_byteAt_31
      · replace hw := hw.2 c_18
        refine w_iconst C (v := (-1 : Int32)) dX5_byteAt_21 (by decide) ?_
        refine w_goto C 31 (by decide) dX5_byteAt_22 ?_
        exact w_iret C () hw rfl (Nat.le_of_ble_eq_true rfl) (Nat.le_of_ble_eq_true rfl) dX5_byteAt_31
def blk_X5_appendNumber_50   (Q : Int32 → (Nat → Int32) → Int32 → Prop) (x3 : Int64) (t_bytes : Nat → Int32) (t_length : Int32) : Prop := wp_X5_append (((x3 &&& (127 : Int64))).toInt32) t_bytes t_length (fun (r_57 : Int32) (t_bytes_57 : Nat → Int32) (t_length_57 : Int32) => (r_57 = 0 ∨ r_57 = 1) ∧ Q r_57 t_bytes_57 t_length_57)
def bod_X5_appendNumber_5   (Q : Int32 → (Nat → Int32) → Int32 → Prop)   (K5 : Int64 → Int32 → (Nat → Int32) → Int32 → Prop) (x3 : Int64) (x5 : Int32) (t_bytes : Nat → Int32) (t_length : Int32) : Prop := (((9 : Int32) ≤ x5 → ((blk_X5_appendNumber_50   Q x3 t_bytes t_length))) ∧ (¬ (9 : Int32) ≤ x5 → (((x3 ≤ (127 : Int64) → ((blk_X5_appendNumber_50   Q x3 t_bytes t_length))) ∧ (¬ x3 ≤ (127 : Int64) → (wp_X5_append ((((x3 &&& (127 : Int64))).toInt32) + (128 : Int32)) t_bytes t_length (fun (r_31 : Int32) (t_bytes_31 : Nat → Int32) (t_length_31 : Int32) => ((¬ r_31 = 0 → (∀ x3_43 : Int64, x3_43 = (x3 >>> (((7 : Int32)).toInt64 &&& 63)) → ∀ x5_44 : Int32, x5_44 = x5 + (1 : Int32) → K5 x3_43 x5_44 t_bytes_31 t_length_31)) ∧ (r_31 = 0 → (Q (0 : Int32) t_bytes_31 t_length_31))))))))))
def lp_X5_appendNumber_5   (Q : Int32 → (Nat → Int32) → Int32 → Prop)   : Nat → Int64 → Int32 → (Nat → Int32) → Int32 → Prop
  | 0, _, _, _, _ => False
  | j + 1, x3, x5, t_bytes, t_length => bod_X5_appendNumber_5   Q  (fun v0 v1 v2 v3 => lp_X5_appendNumber_5   Q  j v0 v1 v2 v3) x3 x5 t_bytes t_length
def wp_X5_appendNumber (p0 : Int64) (t_bytes : Nat → Int32) (t_length : Int32) (Q : Int32 → (Nat → Int32) → Int32 → Prop) : Prop := ∀ x3_1 : Int64, x3_1 = p0 → ∀ x5_3 : Int32, x5_3 = (1 : Int32) → (∃ j : Nat, lp_X5_appendNumber_5   Q  j x3_1 x5_3 t_bytes t_length)
set_option maxHeartbeats 4000000 in
set_option maxRecDepth 100000 in
theorem wk_X5_appendNumber_50 {p : Program} {l : Launch} {e : Env} {s : State} {m : MethodId} {args : Array Value} {below : List Frame} {meth : Method} {c : Code} {D : va_G} {cB cI cJ cL cS : ClassId} {T : Nat × Nat × Nat × Nat} {A : Nat → Prop} {a : Nat → Nat}  {Q : Int32 → (Nat → Int32) → Int32 → Prop} (C : Cq p s m args meth c D (Z5 cB cI cJ cL cS) T A cX5_appendNumber RX5 6 (Option.some Jvm.ClassFile.FieldType.boolean)) {x3 : Int64} {t_bytes : Nat → Int32} {t_length : Int32}  (hw : blk_X5_appendNumber_50   Q x3 t_bytes t_length) : ww p l e ({ frames := 1, cells := 0, slots := 0, locals := 21 } : Room) s m args below meth c D A 6 (MQ below (va_Qi (fun (r : Int32) (u : (Nat → Int32) × Int32) => Q r u.1 u.2) (OutP D (fun (u : (Nat → Int32) × Int32) => (wTp cB cI cJ a u.1 u.2))) A) args s 0 0 A) 0 0 (wTp cB cI cJ a t_bytes t_length) 50 [(0, .ref (a 0)), (3, .long x3)] [] := by
  unfold blk_X5_appendNumber_50 at hw
  refine w_aload_n C 0 dX5_appendNumber_50 rfl ?_
  refine w_lload_n C 1 dX5_appendNumber_51 rfl ?_
  refine w_ldc2 C (v := (127 : Int64)) dX5_appendNumber_52 k_272 ?_
  refine w_land C dX5_appendNumber_55 ?_
  refine w_l2i C dX5_appendNumber_56 ?_
  refine w_callVI C (c_X5_append hw) f_X5_append k_237 k_235 rfl ⟨Nat.le_of_ble_eq_true rfl, Nat.le_of_ble_eq_true rfl⟩ rfl rfl ⟨Nat.le_of_ble_eq_true rfl, Nat.le_of_ble_eq_true rfl⟩ 0 rfl (rr := (RX5, TX5, 2)) rfl rfl (fun _ => rfl) rfl (Nat.le_of_ble_eq_true rfl) dX5_appendNumber_57 (fun r_57 u_57 hw => ?_)
  obtain ⟨t_bytes_57, t_length_57⟩ := u_57
  try dsimp only at hw
  obtain ⟨hz_60, hw⟩ := hw
  exact w_zret C (t_bytes_57, t_length_57) hz_60 hw rfl (Nat.le_of_ble_eq_true rfl) (Nat.le_of_ble_eq_true rfl) dX5_appendNumber_60
set_option maxHeartbeats 4000000 in
set_option maxRecDepth 100000 in
theorem wl_X5_appendNumber_5 {p : Program} {l : Launch} {e : Env} {s : State} {m : MethodId} {args : Array Value} {below : List Frame} {meth : Method} {c : Code} {D : va_G} {cB cI cJ cL cS : ClassId} {T : Nat × Nat × Nat × Nat} {A : Nat → Prop} {a : Nat → Nat}  {Q : Int32 → (Nat → Int32) → Int32 → Prop} (C : Cq p s m args meth c D (Z5 cB cI cJ cL cS) T A cX5_appendNumber RX5 6 (Option.some Jvm.ClassFile.FieldType.boolean))    : ∀ (j : Nat) (x3 : Int64) (x5 : Int32) (t_bytes : Nat → Int32) (t_length : Int32), lp_X5_appendNumber_5   Q  j x3 x5 t_bytes t_length → ww p l e ({ frames := 1, cells := 0, slots := 0, locals := 21 } : Room) s m args below meth c D A 6 (MQ below (va_Qi (fun (r : Int32) (u : (Nat → Int32) × Int32) => Q r u.1 u.2) (OutP D (fun (u : (Nat → Int32) × Int32) => (wTp cB cI cJ a u.1 u.2))) A) args s 0 0 A) 0 0 (wTp cB cI cJ a t_bytes t_length) 5 [(0, .ref (a 0)), (3, .long x3), (5, .int x5)] [] := by
  intro j
  induction j with
  | zero => intro _ _ _ _ hw; exact hw.elim
  | succ j hK5 =>
    intro x3 x5 t_bytes t_length hw
    have hw : bod_X5_appendNumber_5   Q  (fun v0 v1 v2 v3 => lp_X5_appendNumber_5   Q  j v0 v1 v2 v3) x3 x5 t_bytes t_length := hw
    unfold bod_X5_appendNumber_5 at hw
    refine w_iload C 2 dX5_appendNumber_5 rfl ?_
    refine w_bipush C (v := (9 : Int32)) dX5_appendNumber_7 (by decide) ?_
    refine w_icmp_ge C 50 (by decide) dX5_appendNumber_9 (fun c_9 => ?_) (fun c_9 => ?_)
    · replace hw := hw.1 c_9
      refine w_sub (lv' := [(0, .ref (a 0)), (3, .long x3)]) C [0, 1] rfl ?_
      exact wk_X5_appendNumber_50 C  hw
    · replace hw := hw.2 c_9
      refine w_lload_n C 1 dX5_appendNumber_12 rfl ?_
      refine w_ldc2 C (v := (127 : Int64)) dX5_appendNumber_13 k_272 ?_
      refine w_lcmp_le C 17 50 rfl (by decide) dX5_appendNumber_16 dX5_appendNumber_17 (fun c_16 => ?_) (fun c_16 => ?_)
      · replace hw := hw.1 c_16
        refine w_sub (lv' := [(0, .ref (a 0)), (3, .long x3)]) C [0, 1] rfl ?_
        exact wk_X5_appendNumber_50 C  hw
      · replace hw := hw.2 c_16
        refine w_aload_n C 0 dX5_appendNumber_20 rfl ?_
        refine w_lload_n C 1 dX5_appendNumber_21 rfl ?_
        refine w_ldc2 C (v := (127 : Int64)) dX5_appendNumber_22 k_272 ?_
        refine w_land C dX5_appendNumber_25 ?_
        refine w_l2i C dX5_appendNumber_26 ?_
        refine w_sipush C (v := (128 : Int32)) dX5_appendNumber_27 (by decide) ?_
        refine w_iadd C dX5_appendNumber_30 ?_
        refine w_callVI C (c_X5_append hw) f_X5_append k_237 k_235 rfl ⟨Nat.le_of_ble_eq_true rfl, Nat.le_of_ble_eq_true rfl⟩ rfl rfl ⟨Nat.le_of_ble_eq_true rfl, Nat.le_of_ble_eq_true rfl⟩ 0 rfl (rr := (RX5, TX5, 2)) rfl rfl (fun _ => rfl) rfl (Nat.le_of_ble_eq_true rfl) dX5_appendNumber_31 (fun r_31 u_31 hw => ?_)
        obtain ⟨t_bytes_31, t_length_31⟩ := u_31
        try dsimp only at hw
        refine w_if_ne C 39 (by decide) dX5_appendNumber_34 (fun c_34 => ?_) (fun c_34 => ?_)
        · replace hw := hw.1 c_34
          refine w_lload_n C 1 dX5_appendNumber_39 rfl ?_
          refine w_bipush C (v := (7 : Int32)) dX5_appendNumber_40 (by decide) ?_
          refine w_lshr C dX5_appendNumber_42 ?_
          refine w_lstore_n C (fun x3_43 => [(3, .long x3_43), (0, .ref (a 0)), (5, .int x5)]) dX5_appendNumber_43 (by decide) (fun _ => rfl) (fun x3_43 e_x3_43 => ?_)
          replace hw := hw x3_43 e_x3_43
          refine w_iinc C (v := x5 + (1 : Int32)) 2 (fun x5_44 => [(5, .int x5_44), (3, .long x3_43), (0, .ref (a 0))]) dX5_appendNumber_44 rfl rfl (by decide) (fun _ => rfl) (fun x5_44 e_x5_44 => ?_)
          replace hw := hw x5_44 e_x5_44
          refine w_goto C 5 (by decide) dX5_appendNumber_47 ?_
          refine w_sub (lv' := [(0, .ref (a 0)), (3, .long x3_43), (5, .int x5_44)]) C [2, 1, 0] rfl ?_
          exact hK5 _ _ _ _ hw
        · replace hw := hw.2 c_34
          refine w_iconst C (v := (0 : Int32)) dX5_appendNumber_37 (by decide) ?_
          exact w_zret C (t_bytes_31, t_length_31) (Or.inl rfl) hw rfl (Nat.le_of_ble_eq_true rfl) (Nat.le_of_ble_eq_true rfl) dX5_appendNumber_38
set_option maxHeartbeats 4000000 in
set_option maxRecDepth 100000 in
theorem c_X5_appendNumber {l : Launch} {D : va_G} {cB cI cJ cL cS : ClassId} {T : Nat × Nat × Nat × Nat} {a : Nat → Nat} {p0 : Int64} {t_bytes : Nat → Int32} {t_length : Int32} {Q : Int32 → (Nat → Int32) → Int32 → Prop} (hw : wp_X5_appendNumber p0 t_bytes t_length Q) : CtI l D (Z5 cB cI cJ cL cS) T yX5_appendNumber cX5_appendNumber 6 ({ frames := 1, cells := 0, slots := 0, locals := 21 } : Room) (Option.some Jvm.ClassFile.FieldType.boolean) [.ref (a 0), .long p0] (wTp cB cI cJ a t_bytes t_length) (fun (u : (Nat → Int32) × Int32) => (wTp cB cI cJ a u.1 u.2)) (fun (r : Int32) (u : (Nat → Int32) × Int32) => Q r u.1 u.2) 0 0 := by
  refine ctI_of (own := RX5) (by decide +kernel) rfl (Nat.le_of_ble_eq_true rfl) (fun p e s m below meth c A C => ?_)
  refine w_sub (lv' := [(0, .ref (a 0)), (1, .long p0)]) C [0, 1] rfl ?_
  unfold wp_X5_appendNumber at hw
  refine w_lload_n C 1 dX5_appendNumber_0 rfl ?_
  refine w_lstore_n C (fun x3_1 => [(3, .long x3_1), (0, .ref (a 0)), (1, .long p0)]) dX5_appendNumber_1 (by decide) (fun _ => rfl) (fun x3_1 e_x3_1 => ?_)
  replace hw := hw x3_1 e_x3_1
  refine w_iconst C (v := (1 : Int32)) dX5_appendNumber_2 (by decide) ?_
  refine w_istore C (fun x5_3 => [(5, .int x5_3), (3, .long x3_1), (0, .ref (a 0)), (1, .long p0)]) dX5_appendNumber_3 (by decide) (fun _ => rfl) (fun x5_3 e_x5_3 => ?_)
  replace hw := hw x5_3 e_x5_3
  refine w_sub (lv' := [(0, .ref (a 0)), (3, .long x3_1), (5, .int x5_3)]) C [2, 1, 0] rfl ?_
  obtain ⟨j, hw⟩ := hw
  exact wl_X5_appendNumber_5 C  j _ _ _ _ hw
def wp_X5_become  (t_bytes : Nat → Int32) (t_length : Int32) (o_bytes : Nat → Int32) (o_length : Int32) (Q : (Nat → Int32) → Int32 → Prop) : Prop := ∀ t_length_17 : Int32, t_length_17 = (if (0 : Int32) < (if (400 : Int32) < o_length then (400 : Int32) else o_length) then (if (400 : Int32) < o_length then (400 : Int32) else o_length) else (0 : Int32)) → (¬ (0 : Int32) < 0) ∧ (¬ (0 : Int32) < 0) ∧ (¬ t_length_17 < 0) ∧ (((0 : Int32)).toNatClampNeg + (t_length_17).toNatClampNeg ≤ 400) ∧ (((0 : Int32)).toNatClampNeg + (t_length_17).toNatClampNeg ≤ 400) ∧ ∀ t_bytes_34 : Nat → Int32, t_bytes_34 = va_cpy o_bytes t_bytes ((0 : Int32)).toNatClampNeg ((0 : Int32)).toNatClampNeg (t_length_17).toNatClampNeg → Q t_bytes_34 t_length_17
set_option maxHeartbeats 4000000 in
set_option maxRecDepth 100000 in
theorem c_X5_become {l : Launch} {D : va_G} {cB cI cJ cL cS : ClassId} {T : Nat × Nat × Nat × Nat} {a : Nat → Nat} {b : Nat → Nat}  {t_bytes : Nat → Int32} {t_length : Int32} {o_bytes : Nat → Int32} {o_length : Int32} {Q : (Nat → Int32) → Int32 → Prop} (hw : wp_X5_become  t_bytes t_length o_bytes o_length Q) : CtV l D (Z5 cB cI cJ cL cS) T yX5_become cX5_become 2 ({ frames := 1, cells := 0, slots := 0, locals := 40 } : Room) (Option.none : Option Jvm.ClassFile.FieldType) [.ref (a 0), .ref (b 0)] (wTp cB cI cJ a t_bytes t_length ++ (wTp cB cI cJ b o_bytes o_length)) (fun (u : (Nat → Int32) × Int32) => (wTp cB cI cJ a u.1 u.2 ++ (wTp cB cI cJ b o_bytes o_length))) (fun (u : (Nat → Int32) × Int32) => Q u.1 u.2) 0 0 := by
  refine ctV_of (own := RX5) (by decide +kernel) rfl (Nat.le_of_ble_eq_true rfl) (fun p e s m below meth c A C => ?_)
  refine w_sub (lv' := [(0, .ref (a 0)), (1, .ref (b 0))]) C [0, 1] rfl ?_
  unfold wp_X5_become at hw
  refine w_aload_n C 0 dX5_become_0 rfl ?_
  refine w_iconst C (v := (0 : Int32)) dX5_become_1 (by decide) ?_
  refine w_aload_n C 1 dX5_become_2 rfl ?_
  refine w_get C (T1 := TX5) 2 1 u_X5 k_120 rfl (by decide) rfl rfl dX5_become_3 ?_
  refine w_aload_n C 0 dX5_become_6 rfl ?_
  refine w_get C (T1 := TX5) 0 0 u_X5 k_118 rfl (by decide) rfl rfl dX5_become_7 ?_
  refine w_alen C (v := (400 : Int32)) 1 1 rfl rfl rfl dX5_become_10 ?_
  refine w_imin C k_297 f_imin.1 f_imin.2.1 f_imin.2.2 (Nat.le_of_ble_eq_true rfl) (Nat.le_of_ble_eq_true rfl) (Nat.le_of_ble_eq_true rfl) (Nat.le_of_ble_eq_true rfl) dX5_become_11 ?_
  refine w_imax C k_298 f_imax.1 f_imax.2.1 f_imax.2.2 (Nat.le_of_ble_eq_true rfl) (Nat.le_of_ble_eq_true rfl) (Nat.le_of_ble_eq_true rfl) (Nat.le_of_ble_eq_true rfl) dX5_become_14 ?_
  refine w_puti C (T1 := TX5) (ty := .int) 0 1 (fun z => (wTp cB cI cJ a t_bytes z ++ (wTp cB cI cJ b o_bytes o_length))) u_X5 tyX5 tyX5_ok nmX5 k_120 rfl (by decide) rfl rfl (by decide +kernel) rfl rfl (Nat.le_of_ble_eq_true rfl) (fun _ => rfl) dX5_become_17 (fun t_length_17 e_t_length_17 => ?_)
  replace hw := hw t_length_17 e_t_length_17
  refine w_aload_n C 1 dX5_become_20 rfl ?_
  refine w_get C (T1 := TX5) 2 0 u_X5 k_118 rfl (by decide) rfl rfl dX5_become_21 ?_
  refine w_iconst C (v := (0 : Int32)) dX5_become_24 (by decide) ?_
  refine w_aload_n C 0 dX5_become_25 rfl ?_
  refine w_get C (T1 := TX5) 0 0 u_X5 k_118 rfl (by decide) rfl rfl dX5_become_26 ?_
  refine w_iconst C (v := (0 : Int32)) dX5_become_29 (by decide) ?_
  refine w_aload_n C 0 dX5_become_30 rfl ?_
  refine w_get C (T1 := TX5) 0 1 u_X5 k_120 rfl (by decide) rfl rfl dX5_become_31 ?_
  obtain ⟨ha_34, hb_34, hc_34, hd_34, he_34, hw⟩ := hw
  refine w_copyi C (fun z => (wTp cB cI cJ a z t_length_17 ++ (wTp cB cI cJ b o_bytes o_length))) k_301 k_303 k_302 k_72 3 1 1 rfl rfl rfl rfl ha_34 hb_34 hc_34 hd_34 he_34 (fun _ => rfl) (Nat.le_of_ble_eq_true rfl) (Nat.le_of_ble_eq_true rfl) dX5_become_34 (fun t_bytes_34 e_t_bytes_34 => ?_)
  replace hw := hw t_bytes_34 e_t_bytes_34
  exact w_vret C (t_bytes_34, t_length_17) hw rfl (Nat.le_of_ble_eq_true rfl) (Nat.le_of_ble_eq_true rfl) dX5_become_37
def wp_X2_recorderOf (p0 : Int32) (t_writers : Nat → Int32) (Q : Int32 → Prop) : Prop := ((p0 < 0 → (Q (-1 : Int32))) ∧ (¬ p0 < 0 → (((p0 < (4 : Int32) → ((vp_in p0 4) ∧ Q (t_writers (p0).toNatClampNeg))) ∧ (¬ p0 < (4 : Int32) → (Q (-1 : Int32)))))))
set_option maxHeartbeats 4000000 in
set_option maxRecDepth 100000 in
theorem c_X2_recorderOf {l : Launch} {D : va_G} {cB cI cJ cL cS : ClassId} {T : Nat × Nat × Nat × Nat} {a : Nat → Nat} {p0 : Int32} {t_active : Int32} {t_rests : Int32} {t_writers : Nat → Int32} {Q : Int32 → Prop} (hw : wp_X2_recorderOf p0 t_writers Q) : CtI l D (Z5 cB cI cJ cL cS) T yX2_recorderOf cX2_recorderOf 2 ({ frames := 0, cells := 0, slots := 0, locals := 0 } : Room) (Option.some Jvm.ClassFile.FieldType.int) [.ref (a 0), .int p0] (wPr cB cI cJ a t_active t_rests t_writers) (fun (u : Unit) => (wPr cB cI cJ a t_active t_rests t_writers)) (fun (r : Int32) (u : Unit) => Q r ) 0 0 := by
  refine ctI_of (own := RX2) (by decide +kernel) rfl (Nat.le_of_ble_eq_true rfl) (fun p e s m below meth c A C => ?_)
  refine w_sub (lv' := [(0, .ref (a 0)), (1, .int p0)]) C [0, 1] rfl ?_
  unfold wp_X2_recorderOf at hw
  refine w_iload_n C 1 dX2_recorderOf_0 rfl ?_
  refine w_if_lt C 13 (by decide) dX2_recorderOf_1 (fun c_1 => ?_) (fun c_1 => ?_)
  · replace hw := hw.1 c_1
    refine w_iconst C (v := (-1 : Int32)) dX2_recorderOf_13 (by decide) ?_
    refine w_goto C 23 (by decide) dX2_recorderOf_14 ?_
    exact w_iret C () hw rfl (Nat.le_of_ble_eq_true rfl) (Nat.le_of_ble_eq_true rfl) dX2_recorderOf_23
  · replace hw := hw.2 c_1
    refine w_iload_n C 1 dX2_recorderOf_4 rfl ?_
    refine w_aload_n C 0 dX2_recorderOf_5 rfl ?_
    refine w_get C (T1 := TX2) 0 2 u_X2 k_103 rfl (by decide) rfl rfl dX2_recorderOf_6 ?_
    refine w_alen C (v := (4 : Int32)) 1 1 rfl rfl rfl dX2_recorderOf_9 ?_
    refine w_icmp_lt C 17 (by decide) dX2_recorderOf_10 (fun c_10 => ?_) (fun c_10 => ?_)
    · replace hw := hw.1 c_10
      refine w_aload_n C 0 dX2_recorderOf_17 rfl ?_
      refine w_get C (T1 := TX2) 0 2 u_X2 k_103 rfl (by decide) rfl rfl dX2_recorderOf_18 ?_
      refine w_iload_n C 1 dX2_recorderOf_21 rfl ?_
      obtain ⟨hi_22, hw⟩ := hw
      refine w_iaload C 1 1 rfl rfl hi_22 dX2_recorderOf_22 ?_
      exact w_iret C () hw rfl (Nat.le_of_ble_eq_true rfl) (Nat.le_of_ble_eq_true rfl) dX2_recorderOf_23
    · replace hw := hw.2 c_10
      refine w_iconst C (v := (-1 : Int32)) dX2_recorderOf_13 (by decide) ?_
      refine w_goto C 23 (by decide) dX2_recorderOf_14 ?_
      exact w_iret C () hw rfl (Nat.le_of_ble_eq_true rfl) (Nat.le_of_ble_eq_true rfl) dX2_recorderOf_23
def wp_X2_setRecorderOf (p0 : Int32) (p1 : Int32) (t_writers : Nat → Int32) (Q : (Nat → Int32) → Prop) : Prop := ((p0 < 0 → (Q t_writers)) ∧ (¬ p0 < 0 → ((((4 : Int32) ≤ p0 → (Q t_writers)) ∧ (¬ (4 : Int32) ≤ p0 → ((vp_in p0 4) ∧ ∀ t_writers_19 : Nat → Int32, t_writers_19 = upd t_writers (p0).toNatClampNeg p1 → Q t_writers_19))))))
set_option maxHeartbeats 4000000 in
set_option maxRecDepth 100000 in
theorem c_X2_setRecorderOf {l : Launch} {D : va_G} {cB cI cJ cL cS : ClassId} {T : Nat × Nat × Nat × Nat} {a : Nat → Nat} {p0 : Int32} {p1 : Int32} {t_active : Int32} {t_rests : Int32} {t_writers : Nat → Int32} {Q : (Nat → Int32) → Prop} (hw : wp_X2_setRecorderOf p0 p1 t_writers Q) : CtV l D (Z5 cB cI cJ cL cS) T yX2_setRecorderOf cX2_setRecorderOf 3 ({ frames := 0, cells := 0, slots := 0, locals := 0 } : Room) (Option.none : Option Jvm.ClassFile.FieldType) [.ref (a 0), .int p0, .int p1] (wPr cB cI cJ a t_active t_rests t_writers) (fun (u : (Nat → Int32)) => (wPr cB cI cJ a t_active t_rests u)) (fun (u : (Nat → Int32)) => Q u) 0 0 := by
  refine ctV_of (own := RX2) (by decide +kernel) rfl (Nat.le_of_ble_eq_true rfl) (fun p e s m below meth c A C => ?_)
  refine w_sub (lv' := [(0, .ref (a 0)), (1, .int p0), (2, .int p1)]) C [0, 1, 2] rfl ?_
  unfold wp_X2_setRecorderOf at hw
  refine w_iload_n C 1 dX2_setRecorderOf_0 rfl ?_
  refine w_if_lt C 20 (by decide) dX2_setRecorderOf_1 (fun c_1 => ?_) (fun c_1 => ?_)
  · replace hw := hw.1 c_1
    exact w_vret C t_writers hw rfl (Nat.le_of_ble_eq_true rfl) (Nat.le_of_ble_eq_true rfl) dX2_setRecorderOf_20
  · replace hw := hw.2 c_1
    refine w_iload_n C 1 dX2_setRecorderOf_4 rfl ?_
    refine w_aload_n C 0 dX2_setRecorderOf_5 rfl ?_
    refine w_get C (T1 := TX2) 0 2 u_X2 k_103 rfl (by decide) rfl rfl dX2_setRecorderOf_6 ?_
    refine w_alen C (v := (4 : Int32)) 1 1 rfl rfl rfl dX2_setRecorderOf_9 ?_
    refine w_icmp_ge C 20 (by decide) dX2_setRecorderOf_10 (fun c_10 => ?_) (fun c_10 => ?_)
    · replace hw := hw.1 c_10
      exact w_vret C t_writers hw rfl (Nat.le_of_ble_eq_true rfl) (Nat.le_of_ble_eq_true rfl) dX2_setRecorderOf_20
    · replace hw := hw.2 c_10
      refine w_aload_n C 0 dX2_setRecorderOf_13 rfl ?_
      refine w_get C (T1 := TX2) 0 2 u_X2 k_103 rfl (by decide) rfl rfl dX2_setRecorderOf_14 ?_
      refine w_iload_n C 1 dX2_setRecorderOf_17 rfl ?_
      refine w_iload_n C 2 dX2_setRecorderOf_18 rfl ?_
      obtain ⟨hi_19, hw⟩ := hw
      refine w_iastore C 1 1 (fun z => (wPr cB cI cJ a t_active t_rests z)) rfl rfl hi_19 (fun _ => rfl) dX2_setRecorderOf_19 (fun t_writers_19 e_t_writers_19 => ?_)
      replace hw := hw t_writers_19 e_t_writers_19
      exact w_vret C t_writers_19 hw rfl (Nat.le_of_ble_eq_true rfl) (Nat.le_of_ble_eq_true rfl) dX2_setRecorderOf_20
def bod_X2_become_18 (o_active : Int32) (o_rests : Int32) (o_writers : Nat → Int32)  (Q : Int32 → Int32 → (Nat → Int32) → Prop)  (t_active : Int32) (t_rests : Int32) (K18 : Int32 → (Nat → Int32) → Prop) (x2 : Int32) (t_writers : Nat → Int32) : Prop := (((4 : Int32) ≤ x2 → (Q t_active t_rests t_writers)) ∧ (¬ (4 : Int32) ≤ x2 → (wp_X2_recorderOf x2 o_writers (fun (r_27 : Int32) => wp_X2_setRecorderOf x2 r_27 t_writers (fun (t_writers_30 : Nat → Int32) => ∀ x2_33 : Int32, x2_33 = x2 + (1 : Int32) → K18 x2_33 t_writers_30)))))
def lp_X2_become_18 (o_active : Int32) (o_rests : Int32) (o_writers : Nat → Int32)  (Q : Int32 → Int32 → (Nat → Int32) → Prop)  (t_active : Int32) (t_rests : Int32) : Nat → Int32 → (Nat → Int32) → Prop
  | 0, _, _ => False
  | j + 1, x2, t_writers => bod_X2_become_18 o_active o_rests o_writers  Q t_active t_rests (fun v0 v1 => lp_X2_become_18 o_active o_rests o_writers  Q t_active t_rests j v0 v1) x2 t_writers
def wp_X2_become  (t_active : Int32) (t_rests : Int32) (t_writers : Nat → Int32) (o_active : Int32) (o_rests : Int32) (o_writers : Nat → Int32) (Q : Int32 → Int32 → (Nat → Int32) → Prop) : Prop := ∀ t_active_5 : Int32, t_active_5 = o_active → ∀ t_rests_13 : Int32, t_rests_13 = o_rests → ∀ x2_17 : Int32, x2_17 = (0 : Int32) → (∃ j : Nat, lp_X2_become_18 o_active o_rests o_writers  Q t_active_5 t_rests_13 j x2_17 t_writers)
set_option maxHeartbeats 4000000 in
set_option maxRecDepth 100000 in
theorem wl_X2_become_18 {p : Program} {l : Launch} {e : Env} {s : State} {m : MethodId} {args : Array Value} {below : List Frame} {meth : Method} {c : Code} {D : va_G} {cB cI cJ cL cS : ClassId} {T : Nat × Nat × Nat × Nat} {A : Nat → Prop} {a : Nat → Nat} {b : Nat → Nat} {o_active : Int32} {o_rests : Int32} {o_writers : Nat → Int32} {Q : Int32 → Int32 → (Nat → Int32) → Prop} (C : Cq p s m args meth c D (Z5 cB cI cJ cL cS) T A cX2_become RX2 3 (Option.none : Option Jvm.ClassFile.FieldType))  {t_active : Int32} {t_rests : Int32}  : ∀ (j : Nat) (x2 : Int32) (t_writers : Nat → Int32), lp_X2_become_18 o_active o_rests o_writers  Q t_active t_rests j x2 t_writers → ww p l e ({ frames := 1, cells := 0, slots := 0, locals := 22 } : Room) s m args below meth c D A 3 (MQ below (va_Qv (fun (u : Int32 × Int32 × (Nat → Int32)) => Q u.1 u.2.1 u.2.2) (OutP D (fun (u : Int32 × Int32 × (Nat → Int32)) => (wPr cB cI cJ a u.1 u.2.1 u.2.2 ++ (wPr cB cI cJ b o_active o_rests o_writers)))) A) args s 0 0 A) 0 0 (wPr cB cI cJ a t_active t_rests t_writers ++ (wPr cB cI cJ b o_active o_rests o_writers)) 18 [(0, .ref (a 0)), (1, .ref (b 0)), (2, .int x2)] [] := by
  intro j
  induction j with
  | zero => intro _ _ hw; exact hw.elim
  | succ j hK18 =>
    intro x2 t_writers hw
    have hw : bod_X2_become_18 o_active o_rests o_writers  Q t_active t_rests (fun v0 v1 => lp_X2_become_18 o_active o_rests o_writers  Q t_active t_rests j v0 v1) x2 t_writers := hw
    unfold bod_X2_become_18 at hw
    refine w_iload_n C 2 dX2_become_18 rfl ?_
    refine w_iconst C (v := (4 : Int32)) dX2_become_19 (by decide) ?_
    refine w_icmp_ge C 39 (by decide) dX2_become_20 (fun c_20 => ?_) (fun c_20 => ?_)
    · replace hw := hw.1 c_20
      exact w_vret C (t_active, t_rests, t_writers) hw rfl (Nat.le_of_ble_eq_true rfl) (Nat.le_of_ble_eq_true rfl) dX2_become_39
    · replace hw := hw.2 c_20
      refine w_aload_n C 0 dX2_become_23 rfl ?_
      refine w_iload_n C 2 dX2_become_24 rfl ?_
      refine w_aload_n C 1 dX2_become_25 rfl ?_
      refine w_iload_n C 2 dX2_become_26 rfl ?_
      refine w_callPI C (c_X2_recorderOf hw) f_X2_recorderOf k_405 k_403 rfl ⟨Nat.le_of_ble_eq_true rfl, Nat.le_of_ble_eq_true rfl⟩ rfl rfl ⟨Nat.le_of_ble_eq_true rfl, Nat.le_of_ble_eq_true rfl⟩ 0 rfl (rr := (RX2, TX2, 3)) rfl rfl (wPr cB cI cJ a t_active t_rests t_writers) (fun (u : Unit) => (wPr cB cI cJ a t_active t_rests t_writers ++ (wPr cB cI cJ b o_active o_rests o_writers))) [2, 3] [0, 1] [0, 1, 2, 3] rfl rfl (by decide) (by decide) (by decide) (by decide) (fun _ => rfl) (fun _ => rfl) rfl (Nat.le_of_ble_eq_true rfl) dX2_become_27 (fun r_27 u_27 hw => ?_)
      try dsimp only at hw
      refine w_callPV C (c_X2_setRecorderOf hw) f_X2_setRecorderOf k_409 k_407 rfl ⟨Nat.le_of_ble_eq_true rfl, Nat.le_of_ble_eq_true rfl⟩ rfl rfl ⟨Nat.le_of_ble_eq_true rfl, Nat.le_of_ble_eq_true rfl⟩ 0 rfl (rr := (RX2, TX2, 3)) rfl rfl (wPr cB cI cJ b o_active o_rests o_writers) (fun (u : (Nat → Int32)) => (wPr cB cI cJ a t_active t_rests u ++ (wPr cB cI cJ b o_active o_rests o_writers))) [0, 1] [2, 3] [2, 3, 0, 1] rfl rfl (by decide) (by decide) (by decide) (by decide) (fun _ => rfl) (fun _ => rfl) rfl (Nat.le_of_ble_eq_true rfl) dX2_become_30 (fun u_30 hw => ?_)
      obtain ⟨t_writers_30, rfl⟩ : ∃ z, z = u_30 := ⟨_, rfl⟩
      try dsimp only at hw
      refine w_iinc C (v := x2 + (1 : Int32)) 2 (fun x2_33 => [(2, .int x2_33), (0, .ref (a 0)), (1, .ref (b 0))]) dX2_become_33 rfl rfl (by decide) (fun _ => rfl) (fun x2_33 e_x2_33 => ?_)
      replace hw := hw x2_33 e_x2_33
      refine w_goto C 18 (by decide) dX2_become_36 ?_
      refine w_sub (lv' := [(0, .ref (a 0)), (1, .ref (b 0)), (2, .int x2_33)]) C [1, 2, 0] rfl ?_
      exact hK18 _ _ hw
set_option maxHeartbeats 4000000 in
set_option maxRecDepth 100000 in
theorem c_X2_become {l : Launch} {D : va_G} {cB cI cJ cL cS : ClassId} {T : Nat × Nat × Nat × Nat} {a : Nat → Nat} {b : Nat → Nat}  {t_active : Int32} {t_rests : Int32} {t_writers : Nat → Int32} {o_active : Int32} {o_rests : Int32} {o_writers : Nat → Int32} {Q : Int32 → Int32 → (Nat → Int32) → Prop} (hw : wp_X2_become  t_active t_rests t_writers o_active o_rests o_writers Q) : CtV l D (Z5 cB cI cJ cL cS) T yX2_become cX2_become 3 ({ frames := 1, cells := 0, slots := 0, locals := 22 } : Room) (Option.none : Option Jvm.ClassFile.FieldType) [.ref (a 0), .ref (b 0)] (wPr cB cI cJ a t_active t_rests t_writers ++ (wPr cB cI cJ b o_active o_rests o_writers)) (fun (u : Int32 × Int32 × (Nat → Int32)) => (wPr cB cI cJ a u.1 u.2.1 u.2.2 ++ (wPr cB cI cJ b o_active o_rests o_writers))) (fun (u : Int32 × Int32 × (Nat → Int32)) => Q u.1 u.2.1 u.2.2) 0 0 := by
  refine ctV_of (own := RX2) (by decide +kernel) rfl (Nat.le_of_ble_eq_true rfl) (fun p e s m below meth c A C => ?_)
  refine w_sub (lv' := [(0, .ref (a 0)), (1, .ref (b 0))]) C [0, 1] rfl ?_
  unfold wp_X2_become at hw
  refine w_aload_n C 0 dX2_become_0 rfl ?_
  refine w_aload_n C 1 dX2_become_1 rfl ?_
  refine w_get C (T1 := TX2) 2 0 u_X2 k_99 rfl (by decide) rfl rfl dX2_become_2 ?_
  refine w_puti C (T1 := TX2) (ty := .int) 0 0 (fun z => (wPr cB cI cJ a z t_rests t_writers ++ (wPr cB cI cJ b o_active o_rests o_writers))) u_X2 tyX2 tyX2_ok nmX2 k_99 rfl (by decide) rfl rfl (by decide +kernel) rfl rfl (Nat.le_of_ble_eq_true rfl) (fun _ => rfl) dX2_become_5 (fun t_active_5 e_t_active_5 => ?_)
  replace hw := hw t_active_5 e_t_active_5
  refine w_aload_n C 0 dX2_become_8 rfl ?_
  refine w_aload_n C 1 dX2_become_9 rfl ?_
  refine w_get C (T1 := TX2) 2 1 u_X2 k_101 rfl (by decide) rfl rfl dX2_become_10 ?_
  refine w_puti C (T1 := TX2) (ty := .int) 0 1 (fun z => (wPr cB cI cJ a t_active_5 z t_writers ++ (wPr cB cI cJ b o_active o_rests o_writers))) u_X2 tyX2 tyX2_ok nmX2 k_101 rfl (by decide) rfl rfl (by decide +kernel) rfl rfl (Nat.le_of_ble_eq_true rfl) (fun _ => rfl) dX2_become_13 (fun t_rests_13 e_t_rests_13 => ?_)
  replace hw := hw t_rests_13 e_t_rests_13
  refine w_iconst C (v := (0 : Int32)) dX2_become_16 (by decide) ?_
  refine w_istore_n C (fun x2_17 => [(2, .int x2_17), (0, .ref (a 0)), (1, .ref (b 0))]) dX2_become_17 (by decide) (fun _ => rfl) (fun x2_17 e_x2_17 => ?_)
  replace hw := hw x2_17 e_x2_17
  refine w_sub (lv' := [(0, .ref (a 0)), (1, .ref (b 0)), (2, .int x2_17)]) C [1, 2, 0] rfl ?_
  obtain ⟨j, hw⟩ := hw
  exact wl_X2_become_18 C  j _ _ hw
def wp_X3_include (p0 : Int64) (p1 : Int64) (t_highHigh : Int64) (t_highLow : Int64) (t_lowHigh : Int64) (t_lowLow : Int64) (Q : Int64 → Int64 → Int64 → Int64 → Prop) : Prop := ∀ x5_4 : Int64, x5_4 = (p0 >>> (((20 : Int32)).toInt64 &&& 63)) → ∀ x7_11 : Int64, x7_11 = (p0 &&& (1048575 : Int64)) → ∀ x9_17 : Int64, x9_17 = (p1 >>> (((25 : Int32)).toInt64 &&& 63)) → ∀ x11_24 : Int64, x11_24 = (p1 &&& (33554431 : Int64)) → ∀ t_highHigh_37 : Int64, t_highHigh_37 = (t_highHigh + (x5_4 * x9_17)) → ∀ t_highLow_51 : Int64, t_highLow_51 = (t_highLow + (x5_4 * x11_24)) → ∀ t_lowHigh_65 : Int64, t_lowHigh_65 = (t_lowHigh + (x7_11 * x9_17)) → ∀ t_lowLow_79 : Int64, t_lowLow_79 = (t_lowLow + (x7_11 * x11_24)) → Q t_highHigh_37 t_highLow_51 t_lowHigh_65 t_lowLow_79
set_option maxHeartbeats 4000000 in
set_option maxRecDepth 100000 in
theorem c_X3_include {l : Launch} {D : va_G} {cB cI cJ cL cS : ClassId} {T : Nat × Nat × Nat × Nat} {a : Nat → Nat} {p0 : Int64} {p1 : Int64} {t_highHigh : Int64} {t_highLow : Int64} {t_lowHigh : Int64} {t_lowLow : Int64} {Q : Int64 → Int64 → Int64 → Int64 → Prop} (hw : wp_X3_include p0 p1 t_highHigh t_highLow t_lowHigh t_lowLow Q) : CtV l D (Z5 cB cI cJ cL cS) T yX3_include cX3_include 13 ({ frames := 0, cells := 0, slots := 0, locals := 0 } : Room) (Option.none : Option Jvm.ClassFile.FieldType) [.ref (a 0), .long p0, .long p1] (wPd cB cI cJ a t_highHigh t_highLow t_lowHigh t_lowLow) (fun (u : Int64 × Int64 × Int64 × Int64) => (wPd cB cI cJ a u.1 u.2.1 u.2.2.1 u.2.2.2)) (fun (u : Int64 × Int64 × Int64 × Int64) => Q u.1 u.2.1 u.2.2.1 u.2.2.2) 0 0 := by
  refine ctV_of (own := RX3) (by decide +kernel) rfl (Nat.le_of_ble_eq_true rfl) (fun p e s m below meth c A C => ?_)
  refine w_sub (lv' := [(0, .ref (a 0)), (1, .long p0), (3, .long p1)]) C [0, 1, 2] rfl ?_
  unfold wp_X3_include at hw
  refine w_lload_n C 1 dX3_include_0 rfl ?_
  refine w_bipush C (v := (20 : Int32)) dX3_include_1 (by decide) ?_
  refine w_lshr C dX3_include_3 ?_
  refine w_lstore C (fun x5_4 => [(5, .long x5_4), (0, .ref (a 0)), (1, .long p0), (3, .long p1)]) dX3_include_4 (by decide) (fun _ => rfl) (fun x5_4 e_x5_4 => ?_)
  replace hw := hw x5_4 e_x5_4
  refine w_lload_n C 2 dX3_include_6 rfl ?_
  refine w_ldc2 C (v := (1048575 : Int64)) dX3_include_7 k_615 ?_
  refine w_land C dX3_include_10 ?_
  refine w_lstore C (fun x7_11 => [(7, .long x7_11), (5, .long x5_4), (0, .ref (a 0)), (1, .long p0), (3, .long p1)]) dX3_include_11 (by decide) (fun _ => rfl) (fun x7_11 e_x7_11 => ?_)
  replace hw := hw x7_11 e_x7_11
  refine w_lload_n C 4 dX3_include_13 rfl ?_
  refine w_bipush C (v := (25 : Int32)) dX3_include_14 (by decide) ?_
  refine w_lshr C dX3_include_16 ?_
  refine w_lstore C (fun x9_17 => [(9, .long x9_17), (7, .long x7_11), (5, .long x5_4), (0, .ref (a 0)), (1, .long p0), (3, .long p1)]) dX3_include_17 (by decide) (fun _ => rfl) (fun x9_17 e_x9_17 => ?_)
  replace hw := hw x9_17 e_x9_17
  refine w_lload_n C 5 dX3_include_19 rfl ?_
  refine w_ldc2 C (v := (33554431 : Int64)) dX3_include_20 k_616 ?_
  refine w_land C dX3_include_23 ?_
  refine w_lstore C (fun x11_24 => [(11, .long x11_24), (9, .long x9_17), (7, .long x7_11), (5, .long x5_4), (0, .ref (a 0)), (1, .long p0), (3, .long p1)]) dX3_include_24 (by decide) (fun _ => rfl) (fun x11_24 e_x11_24 => ?_)
  replace hw := hw x11_24 e_x11_24
  refine w_aload_n C 4 dX3_include_26 rfl ?_
  refine w_dup C rfl dX3_include_27 ?_
  refine w_get C (T1 := TX3) 0 0 u_X3 k_597 rfl (by decide) rfl rfl dX3_include_28 ?_
  refine w_lload C 3 dX3_include_31 rfl ?_
  refine w_lload C 1 dX3_include_33 rfl ?_
  refine w_lmul C dX3_include_35 ?_
  refine w_ladd C dX3_include_36 ?_
  refine w_putl C (T1 := TX3) (ty := .long) 0 0 (fun z => (wPd cB cI cJ a z t_highLow t_lowHigh t_lowLow)) u_X3 tyX3 tyX3_ok nmX3 k_597 rfl (by decide) rfl rfl (by decide +kernel) rfl rfl (Nat.le_of_ble_eq_true rfl) (fun _ => rfl) dX3_include_37 (fun t_highHigh_37 e_t_highHigh_37 => ?_)
  replace hw := hw t_highHigh_37 e_t_highHigh_37
  refine w_aload_n C 4 dX3_include_40 rfl ?_
  refine w_dup C rfl dX3_include_41 ?_
  refine w_get C (T1 := TX3) 0 1 u_X3 k_598 rfl (by decide) rfl rfl dX3_include_42 ?_
  refine w_lload C 3 dX3_include_45 rfl ?_
  refine w_lload C 0 dX3_include_47 rfl ?_
  refine w_lmul C dX3_include_49 ?_
  refine w_ladd C dX3_include_50 ?_
  refine w_putl C (T1 := TX3) (ty := .long) 0 1 (fun z => (wPd cB cI cJ a t_highHigh_37 z t_lowHigh t_lowLow)) u_X3 tyX3 tyX3_ok nmX3 k_598 rfl (by decide) rfl rfl (by decide +kernel) rfl rfl (Nat.le_of_ble_eq_true rfl) (fun _ => rfl) dX3_include_51 (fun t_highLow_51 e_t_highLow_51 => ?_)
  replace hw := hw t_highLow_51 e_t_highLow_51
  refine w_aload_n C 4 dX3_include_54 rfl ?_
  refine w_dup C rfl dX3_include_55 ?_
  refine w_get C (T1 := TX3) 0 2 u_X3 k_599 rfl (by decide) rfl rfl dX3_include_56 ?_
  refine w_lload C 2 dX3_include_59 rfl ?_
  refine w_lload C 1 dX3_include_61 rfl ?_
  refine w_lmul C dX3_include_63 ?_
  refine w_ladd C dX3_include_64 ?_
  refine w_putl C (T1 := TX3) (ty := .long) 0 2 (fun z => (wPd cB cI cJ a t_highHigh_37 t_highLow_51 z t_lowLow)) u_X3 tyX3 tyX3_ok nmX3 k_599 rfl (by decide) rfl rfl (by decide +kernel) rfl rfl (Nat.le_of_ble_eq_true rfl) (fun _ => rfl) dX3_include_65 (fun t_lowHigh_65 e_t_lowHigh_65 => ?_)
  replace hw := hw t_lowHigh_65 e_t_lowHigh_65
  refine w_aload_n C 4 dX3_include_68 rfl ?_
  refine w_dup C rfl dX3_include_69 ?_
  refine w_get C (T1 := TX3) 0 3 u_X3 k_600 rfl (by decide) rfl rfl dX3_include_70 ?_
  refine w_lload C 2 dX3_include_73 rfl ?_
  refine w_lload C 0 dX3_include_75 rfl ?_
  refine w_lmul C dX3_include_77 ?_
  refine w_ladd C dX3_include_78 ?_
  refine w_putl C (T1 := TX3) (ty := .long) 0 3 (fun z => (wPd cB cI cJ a t_highHigh_37 t_highLow_51 t_lowHigh_65 z)) u_X3 tyX3 tyX3_ok nmX3 k_600 rfl (by decide) rfl rfl (by decide +kernel) rfl rfl (Nat.le_of_ble_eq_true rfl) (fun _ => rfl) dX3_include_79 (fun t_lowLow_79 e_t_lowLow_79 => ?_)
  replace hw := hw t_lowLow_79 e_t_lowLow_79
  exact w_vret C (t_highHigh_37, t_highLow_51, t_lowHigh_65, t_lowLow_79) hw rfl (Nat.le_of_ble_eq_true rfl) (Nat.le_of_ble_eq_true rfl) dX3_include_82
def blk_X3_dividedBy_138 (t_highHigh : Int64) (t_highLow : Int64) (t_lowHigh : Int64) (t_lowLow : Int64) (K82 : Int64 → Int64 → Int32 → Prop) (Q : Int64 → Prop) (x1 : Int64) (x3 : Int64) (x7 : Int64) (x11 : Int32) (k0 : Int64) (k1 : Int64) : Prop := ∀ x9_139 : Int64, x9_139 = (k0 - k1) → ∀ x11_141 : Int32, x11_141 = x11 + (-1 : Int32) → K82 x7 x9_139 x11_141
def blk_X3_dividedBy_120 (t_highHigh : Int64) (t_highLow : Int64) (t_lowHigh : Int64) (t_lowLow : Int64) (K82 : Int64 → Int64 → Int32 → Prop) (Q : Int64 → Prop) (x1 : Int64) (x3 : Int64) (x9 : Int64) (x11 : Int32) (k0 : Int64) (k1 : Int32) : Prop := ∀ x7_122 : Int64, x7_122 = (k0 + ((k1).toInt64)) → ((x9 < x1 → ((blk_X3_dividedBy_138 t_highHigh t_highLow t_lowHigh t_lowLow K82 Q x1 x3 x7_122 x11 x9 (0 : Int64)))) ∧ (¬ x9 < x1 → ((blk_X3_dividedBy_138 t_highHigh t_highLow t_lowHigh t_lowLow K82 Q x1 x3 x7_122 x11 x9 x1))))
def bod_X3_dividedBy_82 (t_highHigh : Int64) (t_highLow : Int64) (t_lowHigh : Int64) (t_lowLow : Int64)  (Q : Int64 → Prop) (x1 : Int64) (x3 : Int64)  (K82 : Int64 → Int64 → Int32 → Prop) (x7 : Int64) (x9 : Int64) (x11 : Int32) : Prop := ((x11 < 0 → (Q x7)) ∧ (¬ x11 < 0 → (∀ x9_100 : Int64, x9_100 = (((2 : Int64) * x9) + ((x3 >>> ((x11).toInt64 &&& 63)) &&& (1 : Int64))) → ((x9_100 < x1 → ((blk_X3_dividedBy_120 t_highHigh t_highLow t_lowHigh t_lowLow K82 Q x1 x3 x9_100 x11 ((2 : Int64) * x7) (0 : Int32)))) ∧ (¬ x9_100 < x1 → ((blk_X3_dividedBy_120 t_highHigh t_highLow t_lowHigh t_lowLow K82 Q x1 x3 x9_100 x11 ((2 : Int64) * x7) (1 : Int32))))))))
def lp_X3_dividedBy_82 (t_highHigh : Int64) (t_highLow : Int64) (t_lowHigh : Int64) (t_lowLow : Int64)  (Q : Int64 → Prop) (x1 : Int64) (x3 : Int64)  : Nat → Int64 → Int64 → Int32 → Prop
  | 0, _, _, _ => False
  | j + 1, x7, x9, x11 => bod_X3_dividedBy_82 t_highHigh t_highLow t_lowHigh t_lowLow  Q x1 x3 (fun v0 v1 v2 => lp_X3_dividedBy_82 t_highHigh t_highLow t_lowHigh t_lowLow  Q x1 x3 j v0 v1 v2) x7 x9 x11
def wp_X3_dividedBy (p0 : Int64) (t_highHigh : Int64) (t_highLow : Int64) (t_lowHigh : Int64) (t_lowLow : Int64) (Q : Int64 → Prop) : Prop := (((0 : Int64) < p0 → (∀ x3_38 : Int64, x3_38 = ((((t_highLow &&& (33554431 : Int64)) <<< (((20 : Int32)).toInt64 &&& 63)) + ((t_lowHigh &&& (1048575 : Int64)) <<< (((25 : Int32)).toInt64 &&& 63))) + t_lowLow) → ∀ x5_64 : Int64, x5_64 = (((t_highHigh + (t_highLow >>> (((25 : Int32)).toInt64 &&& 63))) + (t_lowHigh >>> (((20 : Int32)).toInt64 &&& 63))) + (x3_38 >>> (((45 : Int32)).toInt64 &&& 63))) → (¬ p0 = 0) ∧ ∀ x7_70 : Int64, x7_70 = (x5_64 / p0) → (¬ p0 = 0) ∧ ∀ x9_76 : Int64, x9_76 = (x5_64 - x5_64 / p0 * p0) → ∀ x11_80 : Int32, x11_80 = (44 : Int32) → (∃ j : Nat, lp_X3_dividedBy_82 t_highHigh t_highLow t_lowHigh t_lowLow  Q p0 x3_38 j x7_70 x9_76 x11_80))) ∧ (¬ (0 : Int64) < p0 → (Q (-1 : Int64))))
set_option maxHeartbeats 4000000 in
set_option maxRecDepth 100000 in
theorem wk_X3_dividedBy_138 {p : Program} {l : Launch} {e : Env} {s : State} {m : MethodId} {args : Array Value} {below : List Frame} {meth : Method} {c : Code} {D : va_G} {cB cI cJ cL cS : ClassId} {T : Nat × Nat × Nat × Nat} {A : Nat → Prop} {a : Nat → Nat} {t_highHigh : Int64} {t_highLow : Int64} {t_lowHigh : Int64} {t_lowLow : Int64} {Q : Int64 → Prop} (C : Cq p s m args meth c D (Z5 cB cI cJ cL cS) T A cX3_dividedBy RX3 12 (Option.some Jvm.ClassFile.FieldType.long)) {x1 : Int64} {x3 : Int64} {x7 : Int64} {x11 : Int32} {k0 : Int64} {k1 : Int64} {K82 : Int64 → Int64 → Int32 → Prop} (hK82 : ∀ (y7 : Int64) (y9 : Int64) (y11 : Int32), K82 y7 y9 y11 → ww p l e ({ frames := 0, cells := 0, slots := 0, locals := 0 } : Room) s m args below meth c D A 12 (MQ below (va_Ql (fun (r : Int64) (u : Unit) => Q r ) (OutP D (fun (u : Unit) => (wPd cB cI cJ a t_highHigh t_highLow t_lowHigh t_lowLow))) A) args s 0 0 A) 0 0 (wPd cB cI cJ a t_highHigh t_highLow t_lowHigh t_lowLow) 82 [(1, .long x1), (3, .long x3), (7, .long y7), (9, .long y9), (11, .int y11)] []) (hw : blk_X3_dividedBy_138 t_highHigh t_highLow t_lowHigh t_lowLow K82 Q x1 x3 x7 x11 k0 k1) : ww p l e ({ frames := 0, cells := 0, slots := 0, locals := 0 } : Room) s m args below meth c D A 12 (MQ below (va_Ql (fun (r : Int64) (u : Unit) => Q r ) (OutP D (fun (u : Unit) => (wPd cB cI cJ a t_highHigh t_highLow t_lowHigh t_lowLow))) A) args s 0 0 A) 0 0 (wPd cB cI cJ a t_highHigh t_highLow t_lowHigh t_lowLow) 138 [(1, .long x1), (3, .long x3), (7, .long x7), (11, .int x11)] [.long k1, .long k0] := by
  unfold blk_X3_dividedBy_138 at hw
  refine w_lsub C dX3_dividedBy_138 ?_
  refine w_lstore C (fun x9_139 => [(9, .long x9_139), (1, .long x1), (3, .long x3), (7, .long x7), (11, .int x11)]) dX3_dividedBy_139 (by decide) (fun _ => rfl) (fun x9_139 e_x9_139 => ?_)
  replace hw := hw x9_139 e_x9_139
  refine w_iinc C (v := x11 + (-1 : Int32)) 4 (fun x11_141 => [(11, .int x11_141), (9, .long x9_139), (1, .long x1), (3, .long x3), (7, .long x7)]) dX3_dividedBy_141 rfl rfl (by decide) (fun _ => rfl) (fun x11_141 e_x11_141 => ?_)
  replace hw := hw x11_141 e_x11_141
  refine w_goto C 82 (by decide) dX3_dividedBy_144 ?_
  refine w_sub (lv' := [(1, .long x1), (3, .long x3), (7, .long x7), (9, .long x9_139), (11, .int x11_141)]) C [2, 3, 4, 1, 0] rfl ?_
  exact hK82 _ _ _ hw
set_option maxHeartbeats 4000000 in
set_option maxRecDepth 100000 in
theorem wk_X3_dividedBy_120 {p : Program} {l : Launch} {e : Env} {s : State} {m : MethodId} {args : Array Value} {below : List Frame} {meth : Method} {c : Code} {D : va_G} {cB cI cJ cL cS : ClassId} {T : Nat × Nat × Nat × Nat} {A : Nat → Prop} {a : Nat → Nat} {t_highHigh : Int64} {t_highLow : Int64} {t_lowHigh : Int64} {t_lowLow : Int64} {Q : Int64 → Prop} (C : Cq p s m args meth c D (Z5 cB cI cJ cL cS) T A cX3_dividedBy RX3 12 (Option.some Jvm.ClassFile.FieldType.long)) {x1 : Int64} {x3 : Int64} {x9 : Int64} {x11 : Int32} {k0 : Int64} {k1 : Int32} {K82 : Int64 → Int64 → Int32 → Prop} (hK82 : ∀ (y7 : Int64) (y9 : Int64) (y11 : Int32), K82 y7 y9 y11 → ww p l e ({ frames := 0, cells := 0, slots := 0, locals := 0 } : Room) s m args below meth c D A 12 (MQ below (va_Ql (fun (r : Int64) (u : Unit) => Q r ) (OutP D (fun (u : Unit) => (wPd cB cI cJ a t_highHigh t_highLow t_lowHigh t_lowLow))) A) args s 0 0 A) 0 0 (wPd cB cI cJ a t_highHigh t_highLow t_lowHigh t_lowLow) 82 [(1, .long x1), (3, .long x3), (7, .long y7), (9, .long y9), (11, .int y11)] []) (hw : blk_X3_dividedBy_120 t_highHigh t_highLow t_lowHigh t_lowLow K82 Q x1 x3 x9 x11 k0 k1) : ww p l e ({ frames := 0, cells := 0, slots := 0, locals := 0 } : Room) s m args below meth c D A 12 (MQ below (va_Ql (fun (r : Int64) (u : Unit) => Q r ) (OutP D (fun (u : Unit) => (wPd cB cI cJ a t_highHigh t_highLow t_lowHigh t_lowLow))) A) args s 0 0 A) 0 0 (wPd cB cI cJ a t_highHigh t_highLow t_lowHigh t_lowLow) 120 [(1, .long x1), (3, .long x3), (9, .long x9), (11, .int x11)] [.int k1, .long k0] := by
  unfold blk_X3_dividedBy_120 at hw
  refine w_i2l C dX3_dividedBy_120 ?_
  refine w_ladd C dX3_dividedBy_121 ?_
  refine w_lstore C (fun x7_122 => [(7, .long x7_122), (1, .long x1), (3, .long x3), (9, .long x9), (11, .int x11)]) dX3_dividedBy_122 (by decide) (fun _ => rfl) (fun x7_122 e_x7_122 => ?_)
  replace hw := hw x7_122 e_x7_122
  refine w_lload C 3 dX3_dividedBy_124 rfl ?_
  refine w_lload C 3 dX3_dividedBy_126 rfl ?_
  refine w_lload_n C 1 dX3_dividedBy_128 rfl ?_
  refine w_lcmp_lt C 130 137 rfl (by decide) dX3_dividedBy_129 dX3_dividedBy_130 (fun c_129 => ?_) (fun c_129 => ?_)
  · replace hw := hw.1 c_129
    refine w_lconst C (v := (0 : Int64)) dX3_dividedBy_137 (by decide) ?_
    refine w_sub (lv' := [(1, .long x1), (3, .long x3), (7, .long x7_122), (11, .int x11)]) C [1, 2, 0, 4] rfl ?_
    exact wk_X3_dividedBy_138 C hK82 hw
  · replace hw := hw.2 c_129
    refine w_lload_n C 1 dX3_dividedBy_133 rfl ?_
    refine w_goto C 138 (by decide) dX3_dividedBy_134 ?_
    refine w_sub (lv' := [(1, .long x1), (3, .long x3), (7, .long x7_122), (11, .int x11)]) C [1, 2, 0, 4] rfl ?_
    exact wk_X3_dividedBy_138 C hK82 hw
set_option maxHeartbeats 4000000 in
set_option maxRecDepth 100000 in
theorem wl_X3_dividedBy_82 {p : Program} {l : Launch} {e : Env} {s : State} {m : MethodId} {args : Array Value} {below : List Frame} {meth : Method} {c : Code} {D : va_G} {cB cI cJ cL cS : ClassId} {T : Nat × Nat × Nat × Nat} {A : Nat → Prop} {a : Nat → Nat} {t_highHigh : Int64} {t_highLow : Int64} {t_lowHigh : Int64} {t_lowLow : Int64} {Q : Int64 → Prop} (C : Cq p s m args meth c D (Z5 cB cI cJ cL cS) T A cX3_dividedBy RX3 12 (Option.some Jvm.ClassFile.FieldType.long)) {x1 : Int64} {x3 : Int64}   : ∀ (j : Nat) (x7 : Int64) (x9 : Int64) (x11 : Int32), lp_X3_dividedBy_82 t_highHigh t_highLow t_lowHigh t_lowLow  Q x1 x3 j x7 x9 x11 → ww p l e ({ frames := 0, cells := 0, slots := 0, locals := 0 } : Room) s m args below meth c D A 12 (MQ below (va_Ql (fun (r : Int64) (u : Unit) => Q r ) (OutP D (fun (u : Unit) => (wPd cB cI cJ a t_highHigh t_highLow t_lowHigh t_lowLow))) A) args s 0 0 A) 0 0 (wPd cB cI cJ a t_highHigh t_highLow t_lowHigh t_lowLow) 82 [(1, .long x1), (3, .long x3), (7, .long x7), (9, .long x9), (11, .int x11)] [] := by
  intro j
  induction j with
  | zero => intro _ _ _ hw; exact hw.elim
  | succ j hK82 =>
    intro x7 x9 x11 hw
    have hw : bod_X3_dividedBy_82 t_highHigh t_highLow t_lowHigh t_lowLow  Q x1 x3 (fun v0 v1 v2 => lp_X3_dividedBy_82 t_highHigh t_highLow t_lowHigh t_lowLow  Q x1 x3 j v0 v1 v2) x7 x9 x11 := hw
    unfold bod_X3_dividedBy_82 at hw
    refine w_iload C 4 dX3_dividedBy_82 rfl ?_
    refine w_if_lt C 147 (by decide) dX3_dividedBy_84 (fun c_84 => ?_) (fun c_84 => ?_)
    · replace hw := hw.1 c_84
      refine w_lload C 2 dX3_dividedBy_147 rfl ?_
      exact w_lret C () hw rfl (Nat.le_of_ble_eq_true rfl) (Nat.le_of_ble_eq_true rfl) dX3_dividedBy_149
    · replace hw := hw.2 c_84
      refine w_ldc2 C (v := (2 : Int64)) dX3_dividedBy_87 k_623 ?_
      refine w_lload C 3 dX3_dividedBy_90 rfl ?_
      refine w_lmul C dX3_dividedBy_92 ?_
      refine w_lload_n C 1 dX3_dividedBy_93 rfl ?_
      refine w_iload C 4 dX3_dividedBy_94 rfl ?_
      refine w_lshr C dX3_dividedBy_96 ?_
      refine w_lconst C (v := (1 : Int64)) dX3_dividedBy_97 (by decide) ?_
      refine w_land C dX3_dividedBy_98 ?_
      refine w_ladd C dX3_dividedBy_99 ?_
      refine w_lstore C (fun x9_100 => [(9, .long x9_100), (1, .long x1), (3, .long x3), (7, .long x7), (11, .int x11)]) dX3_dividedBy_100 (by decide) (fun _ => rfl) (fun x9_100 e_x9_100 => ?_)
      replace hw := hw x9_100 e_x9_100
      refine w_ldc2 C (v := (2 : Int64)) dX3_dividedBy_102 k_623 ?_
      refine w_lload C 3 dX3_dividedBy_105 rfl ?_
      refine w_lmul C dX3_dividedBy_107 ?_
      refine w_lload C 0 dX3_dividedBy_108 rfl ?_
      refine w_lload_n C 1 dX3_dividedBy_110 rfl ?_
      refine w_lcmp_lt C 112 119 rfl (by decide) dX3_dividedBy_111 dX3_dividedBy_112 (fun c_111 => ?_) (fun c_111 => ?_)
      · replace hw := hw.1 c_111
        refine w_iconst C (v := (0 : Int32)) dX3_dividedBy_119 (by decide) ?_
        refine w_sub (lv' := [(1, .long x1), (3, .long x3), (9, .long x9_100), (11, .int x11)]) C [1, 2, 0, 4] rfl ?_
        exact wk_X3_dividedBy_120 C hK82 hw
      · replace hw := hw.2 c_111
        refine w_iconst C (v := (1 : Int32)) dX3_dividedBy_115 (by decide) ?_
        refine w_goto C 120 (by decide) dX3_dividedBy_116 ?_
        refine w_sub (lv' := [(1, .long x1), (3, .long x3), (9, .long x9_100), (11, .int x11)]) C [1, 2, 0, 4] rfl ?_
        exact wk_X3_dividedBy_120 C hK82 hw
set_option maxHeartbeats 4000000 in
set_option maxRecDepth 100000 in
theorem c_X3_dividedBy {l : Launch} {D : va_G} {cB cI cJ cL cS : ClassId} {T : Nat × Nat × Nat × Nat} {a : Nat → Nat} {p0 : Int64} {t_highHigh : Int64} {t_highLow : Int64} {t_lowHigh : Int64} {t_lowLow : Int64} {Q : Int64 → Prop} (hw : wp_X3_dividedBy p0 t_highHigh t_highLow t_lowHigh t_lowLow Q) : CtL l D (Z5 cB cI cJ cL cS) T yX3_dividedBy cX3_dividedBy 12 ({ frames := 0, cells := 0, slots := 0, locals := 0 } : Room) (Option.some Jvm.ClassFile.FieldType.long) [.ref (a 0), .long p0] (wPd cB cI cJ a t_highHigh t_highLow t_lowHigh t_lowLow) (fun (u : Unit) => (wPd cB cI cJ a t_highHigh t_highLow t_lowHigh t_lowLow)) (fun (r : Int64) (u : Unit) => Q r ) 0 0 := by
  refine ctL_of (own := RX3) (by decide +kernel) rfl (Nat.le_of_ble_eq_true rfl) (fun p e s m below meth c A C => ?_)
  refine w_sub (lv' := [(0, .ref (a 0)), (1, .long p0)]) C [0, 1] rfl ?_
  unfold wp_X3_dividedBy at hw
  refine w_lload_n C 1 dX3_dividedBy_0 rfl ?_
  refine w_lconst C (v := (0 : Int64)) dX3_dividedBy_1 (by decide) ?_
  refine w_lcmp_gt C 3 10 rfl (by decide) dX3_dividedBy_2 dX3_dividedBy_3 (fun c_2 => ?_) (fun c_2 => ?_)
  · replace hw := hw.1 c_2
    refine w_aload_n C 0 dX3_dividedBy_10 rfl ?_
    refine w_get C (T1 := TX3) 0 1 u_X3 k_598 rfl (by decide) rfl rfl dX3_dividedBy_11 ?_
    refine w_ldc2 C (v := (33554431 : Int64)) dX3_dividedBy_14 k_616 ?_
    refine w_land C dX3_dividedBy_17 ?_
    refine w_bipush C (v := (20 : Int32)) dX3_dividedBy_18 (by decide) ?_
    refine w_lshl C dX3_dividedBy_20 ?_
    refine w_aload_n C 0 dX3_dividedBy_21 rfl ?_
    refine w_get C (T1 := TX3) 0 2 u_X3 k_599 rfl (by decide) rfl rfl dX3_dividedBy_22 ?_
    refine w_ldc2 C (v := (1048575 : Int64)) dX3_dividedBy_25 k_615 ?_
    refine w_land C dX3_dividedBy_28 ?_
    refine w_bipush C (v := (25 : Int32)) dX3_dividedBy_29 (by decide) ?_
    refine w_lshl C dX3_dividedBy_31 ?_
    refine w_ladd C dX3_dividedBy_32 ?_
    refine w_aload_n C 0 dX3_dividedBy_33 rfl ?_
    refine w_get C (T1 := TX3) 0 3 u_X3 k_600 rfl (by decide) rfl rfl dX3_dividedBy_34 ?_
    refine w_ladd C dX3_dividedBy_37 ?_
    refine w_lstore_n C (fun x3_38 => [(3, .long x3_38), (0, .ref (a 0)), (1, .long p0)]) dX3_dividedBy_38 (by decide) (fun _ => rfl) (fun x3_38 e_x3_38 => ?_)
    replace hw := hw x3_38 e_x3_38
    refine w_aload_n C 1 dX3_dividedBy_39 rfl ?_
    refine w_get C (T1 := TX3) 0 0 u_X3 k_597 rfl (by decide) rfl rfl dX3_dividedBy_40 ?_
    refine w_aload_n C 1 dX3_dividedBy_43 rfl ?_
    refine w_get C (T1 := TX3) 0 1 u_X3 k_598 rfl (by decide) rfl rfl dX3_dividedBy_44 ?_
    refine w_bipush C (v := (25 : Int32)) dX3_dividedBy_47 (by decide) ?_
    refine w_lshr C dX3_dividedBy_49 ?_
    refine w_ladd C dX3_dividedBy_50 ?_
    refine w_aload_n C 1 dX3_dividedBy_51 rfl ?_
    refine w_get C (T1 := TX3) 0 2 u_X3 k_599 rfl (by decide) rfl rfl dX3_dividedBy_52 ?_
    refine w_bipush C (v := (20 : Int32)) dX3_dividedBy_55 (by decide) ?_
    refine w_lshr C dX3_dividedBy_57 ?_
    refine w_ladd C dX3_dividedBy_58 ?_
    refine w_lload_n C 0 dX3_dividedBy_59 rfl ?_
    refine w_bipush C (v := (45 : Int32)) dX3_dividedBy_60 (by decide) ?_
    refine w_lshr C dX3_dividedBy_62 ?_
    refine w_ladd C dX3_dividedBy_63 ?_
    refine w_lstore C (fun x5_64 => [(5, .long x5_64), (3, .long x3_38), (0, .ref (a 0)), (1, .long p0)]) dX3_dividedBy_64 (by decide) (fun _ => rfl) (fun x5_64 e_x5_64 => ?_)
    replace hw := hw x5_64 e_x5_64
    refine w_lload C 0 dX3_dividedBy_66 rfl ?_
    refine w_lload_n C 3 dX3_dividedBy_68 rfl ?_
    obtain ⟨hz_69, hw⟩ := hw
    refine w_ldiv C hz_69 dX3_dividedBy_69 ?_
    refine w_lstore C (fun x7_70 => [(7, .long x7_70), (5, .long x5_64), (3, .long x3_38), (0, .ref (a 0)), (1, .long p0)]) dX3_dividedBy_70 (by decide) (fun _ => rfl) (fun x7_70 e_x7_70 => ?_)
    replace hw := hw x7_70 e_x7_70
    refine w_lload C 1 dX3_dividedBy_72 rfl ?_
    refine w_lload_n C 4 dX3_dividedBy_74 rfl ?_
    obtain ⟨hz_75, hw⟩ := hw
    refine w_lrem C hz_75 dX3_dividedBy_75 ?_
    refine w_lstore C (fun x9_76 => [(9, .long x9_76), (7, .long x7_70), (5, .long x5_64), (3, .long x3_38), (0, .ref (a 0)), (1, .long p0)]) dX3_dividedBy_76 (by decide) (fun _ => rfl) (fun x9_76 e_x9_76 => ?_)
    replace hw := hw x9_76 e_x9_76
    refine w_bipush C (v := (44 : Int32)) dX3_dividedBy_78 (by decide) ?_
    refine w_istore C (fun x11_80 => [(11, .int x11_80), (9, .long x9_76), (7, .long x7_70), (5, .long x5_64), (3, .long x3_38), (0, .ref (a 0)), (1, .long p0)]) dX3_dividedBy_80 (by decide) (fun _ => rfl) (fun x11_80 e_x11_80 => ?_)
    replace hw := hw x11_80 e_x11_80
    refine w_sub (lv' := [(1, .long p0), (3, .long x3_38), (7, .long x7_70), (9, .long x9_76), (11, .int x11_80)]) C [6, 4, 2, 1, 0] rfl ?_
    obtain ⟨j, hw⟩ := hw
    exact wl_X3_dividedBy_82 C  j _ _ _ hw
  · replace hw := hw.2 c_2
    refine w_ldc2 C (v := (-1 : Int64)) dX3_dividedBy_6 k_622 ?_
    exact w_lret C () hw rfl (Nat.le_of_ble_eq_true rfl) (Nat.le_of_ble_eq_true rfl) dX3_dividedBy_9
def blk_X2_writerBits_24 (t_writers : Nat → Int32) (K4 : Int32 → Int32 → Prop) (Q : Int32 → Prop) (x1 : Int32) (x2 : Int32) : Prop := ∀ x2_24 : Int32, x2_24 = x2 + (1 : Int32) → K4 x1 x2_24
def bod_X2_writerBits_4 (t_writers : Nat → Int32)  (Q : Int32 → Prop)   (K4 : Int32 → Int32 → Prop) (x1 : Int32) (x2 : Int32) : Prop := (((4 : Int32) ≤ x2 → (Q x1)) ∧ (¬ (4 : Int32) ≤ x2 → (wp_X2_recorderOf x2 t_writers (fun (r_11 : Int32) => ((r_11 = (-1 : Int32) → ((blk_X2_writerBits_24 t_writers K4 Q x1 x2))) ∧ (¬ r_11 = (-1 : Int32) → (∀ x1_23 : Int32, x1_23 = (x1 ||| ((1 : Int32) <<< (x2 &&& 31))) → (blk_X2_writerBits_24 t_writers K4 Q x1_23 x2))))))))
def lp_X2_writerBits_4 (t_writers : Nat → Int32)  (Q : Int32 → Prop)   : Nat → Int32 → Int32 → Prop
  | 0, _, _ => False
  | j + 1, x1, x2 => bod_X2_writerBits_4 t_writers  Q  (fun v0 v1 => lp_X2_writerBits_4 t_writers  Q  j v0 v1) x1 x2
def wp_X2_writerBits  (t_writers : Nat → Int32) (Q : Int32 → Prop) : Prop := ∀ x1_1 : Int32, x1_1 = (0 : Int32) → ∀ x2_3 : Int32, x2_3 = (0 : Int32) → (∃ j : Nat, lp_X2_writerBits_4 t_writers  Q  j x1_1 x2_3)
set_option maxHeartbeats 4000000 in
set_option maxRecDepth 100000 in
theorem wk_X2_writerBits_24 {p : Program} {l : Launch} {e : Env} {s : State} {m : MethodId} {args : Array Value} {below : List Frame} {meth : Method} {c : Code} {D : va_G} {cB cI cJ cL cS : ClassId} {T : Nat × Nat × Nat × Nat} {A : Nat → Prop} {a : Nat → Nat} {t_active : Int32} {t_rests : Int32} {t_writers : Nat → Int32} {Q : Int32 → Prop} (C : Cq p s m args meth c D (Z5 cB cI cJ cL cS) T A cX2_writerBits RX2 3 (Option.some Jvm.ClassFile.FieldType.int)) {x1 : Int32} {x2 : Int32} {K4 : Int32 → Int32 → Prop} (hK4 : ∀ (y1 : Int32) (y2 : Int32), K4 y1 y2 → ww p l e ({ frames := 1, cells := 0, slots := 0, locals := 21 } : Room) s m args below meth c D A 3 (MQ below (va_Qi (fun (r : Int32) (u : Unit) => Q r ) (OutP D (fun (u : Unit) => (wPr cB cI cJ a t_active t_rests t_writers))) A) args s 0 0 A) 0 0 (wPr cB cI cJ a t_active t_rests t_writers) 4 [(0, .ref (a 0)), (1, .int y1), (2, .int y2)] []) (hw : blk_X2_writerBits_24 t_writers K4 Q x1 x2) : ww p l e ({ frames := 1, cells := 0, slots := 0, locals := 21 } : Room) s m args below meth c D A 3 (MQ below (va_Qi (fun (r : Int32) (u : Unit) => Q r ) (OutP D (fun (u : Unit) => (wPr cB cI cJ a t_active t_rests t_writers))) A) args s 0 0 A) 0 0 (wPr cB cI cJ a t_active t_rests t_writers) 24 [(0, .ref (a 0)), (1, .int x1), (2, .int x2)] [] := by
  unfold blk_X2_writerBits_24 at hw
  refine w_iinc C (v := x2 + (1 : Int32)) 2 (fun x2_24 => [(2, .int x2_24), (0, .ref (a 0)), (1, .int x1)]) dX2_writerBits_24 rfl rfl (by decide) (fun _ => rfl) (fun x2_24 e_x2_24 => ?_)
  replace hw := hw x2_24 e_x2_24
  refine w_goto C 4 (by decide) dX2_writerBits_27 ?_
  refine w_sub (lv' := [(0, .ref (a 0)), (1, .int x1), (2, .int x2_24)]) C [1, 2, 0] rfl ?_
  exact hK4 _ _ hw
set_option maxHeartbeats 4000000 in
set_option maxRecDepth 100000 in
theorem wl_X2_writerBits_4 {p : Program} {l : Launch} {e : Env} {s : State} {m : MethodId} {args : Array Value} {below : List Frame} {meth : Method} {c : Code} {D : va_G} {cB cI cJ cL cS : ClassId} {T : Nat × Nat × Nat × Nat} {A : Nat → Prop} {a : Nat → Nat} {t_active : Int32} {t_rests : Int32} {t_writers : Nat → Int32} {Q : Int32 → Prop} (C : Cq p s m args meth c D (Z5 cB cI cJ cL cS) T A cX2_writerBits RX2 3 (Option.some Jvm.ClassFile.FieldType.int))    : ∀ (j : Nat) (x1 : Int32) (x2 : Int32), lp_X2_writerBits_4 t_writers  Q  j x1 x2 → ww p l e ({ frames := 1, cells := 0, slots := 0, locals := 21 } : Room) s m args below meth c D A 3 (MQ below (va_Qi (fun (r : Int32) (u : Unit) => Q r ) (OutP D (fun (u : Unit) => (wPr cB cI cJ a t_active t_rests t_writers))) A) args s 0 0 A) 0 0 (wPr cB cI cJ a t_active t_rests t_writers) 4 [(0, .ref (a 0)), (1, .int x1), (2, .int x2)] [] := by
  intro j
  induction j with
  | zero => intro _ _ hw; exact hw.elim
  | succ j hK4 =>
    intro x1 x2 hw
    have hw : bod_X2_writerBits_4 t_writers  Q  (fun v0 v1 => lp_X2_writerBits_4 t_writers  Q  j v0 v1) x1 x2 := hw
    unfold bod_X2_writerBits_4 at hw
    refine w_iload_n C 2 dX2_writerBits_4 rfl ?_
    refine w_iconst C (v := (4 : Int32)) dX2_writerBits_5 (by decide) ?_
    refine w_icmp_ge C 30 (by decide) dX2_writerBits_6 (fun c_6 => ?_) (fun c_6 => ?_)
    · replace hw := hw.1 c_6
      refine w_iload_n C 1 dX2_writerBits_30 rfl ?_
      exact w_iret C () hw rfl (Nat.le_of_ble_eq_true rfl) (Nat.le_of_ble_eq_true rfl) dX2_writerBits_31
    · replace hw := hw.2 c_6
      refine w_aload_n C 0 dX2_writerBits_9 rfl ?_
      refine w_iload_n C 2 dX2_writerBits_10 rfl ?_
      refine w_callVI C (c_X2_recorderOf hw) f_X2_recorderOf k_405 k_403 rfl ⟨Nat.le_of_ble_eq_true rfl, Nat.le_of_ble_eq_true rfl⟩ rfl rfl ⟨Nat.le_of_ble_eq_true rfl, Nat.le_of_ble_eq_true rfl⟩ 0 rfl (rr := (RX2, TX2, 3)) rfl rfl (fun _ => rfl) rfl (Nat.le_of_ble_eq_true rfl) dX2_writerBits_11 (fun r_11 u_11 hw => ?_)
      try dsimp only at hw
      refine w_iconst C (v := (-1 : Int32)) dX2_writerBits_14 (by decide) ?_
      refine w_icmp_eq C 24 (by decide) dX2_writerBits_15 (fun c_15 => ?_) (fun c_15 => ?_)
      · replace hw := hw.1 c_15
        refine w_sub (lv' := [(0, .ref (a 0)), (1, .int x1), (2, .int x2)]) C [0, 1, 2] rfl ?_
        exact wk_X2_writerBits_24 C hK4 hw
      · replace hw := hw.2 c_15
        refine w_iload_n C 1 dX2_writerBits_18 rfl ?_
        refine w_iconst C (v := (1 : Int32)) dX2_writerBits_19 (by decide) ?_
        refine w_iload_n C 2 dX2_writerBits_20 rfl ?_
        refine w_ishl C dX2_writerBits_21 ?_
        refine w_ior C dX2_writerBits_22 ?_
        refine w_istore_n C (fun x1_23 => [(1, .int x1_23), (0, .ref (a 0)), (2, .int x2)]) dX2_writerBits_23 (by decide) (fun _ => rfl) (fun x1_23 e_x1_23 => ?_)
        replace hw := hw x1_23 e_x1_23
        refine w_sub (lv' := [(0, .ref (a 0)), (1, .int x1_23), (2, .int x2)]) C [1, 0, 2] rfl ?_
        exact wk_X2_writerBits_24 C hK4 hw
set_option maxHeartbeats 4000000 in
set_option maxRecDepth 100000 in
theorem c_X2_writerBits {l : Launch} {D : va_G} {cB cI cJ cL cS : ClassId} {T : Nat × Nat × Nat × Nat} {a : Nat → Nat}  {t_active : Int32} {t_rests : Int32} {t_writers : Nat → Int32} {Q : Int32 → Prop} (hw : wp_X2_writerBits  t_writers Q) : CtI l D (Z5 cB cI cJ cL cS) T yX2_writerBits cX2_writerBits 3 ({ frames := 1, cells := 0, slots := 0, locals := 21 } : Room) (Option.some Jvm.ClassFile.FieldType.int) [.ref (a 0)] (wPr cB cI cJ a t_active t_rests t_writers) (fun (u : Unit) => (wPr cB cI cJ a t_active t_rests t_writers)) (fun (r : Int32) (u : Unit) => Q r ) 0 0 := by
  refine ctI_of (own := RX2) (by decide +kernel) rfl (Nat.le_of_ble_eq_true rfl) (fun p e s m below meth c A C => ?_)
  refine w_sub (lv' := [(0, .ref (a 0))]) C [0] rfl ?_
  unfold wp_X2_writerBits at hw
  refine w_iconst C (v := (0 : Int32)) dX2_writerBits_0 (by decide) ?_
  refine w_istore_n C (fun x1_1 => [(1, .int x1_1), (0, .ref (a 0))]) dX2_writerBits_1 (by decide) (fun _ => rfl) (fun x1_1 e_x1_1 => ?_)
  replace hw := hw x1_1 e_x1_1
  refine w_iconst C (v := (0 : Int32)) dX2_writerBits_2 (by decide) ?_
  refine w_istore_n C (fun x2_3 => [(2, .int x2_3), (1, .int x1_1), (0, .ref (a 0))]) dX2_writerBits_3 (by decide) (fun _ => rfl) (fun x2_3 e_x2_3 => ?_)
  replace hw := hw x2_3 e_x2_3
  refine w_sub (lv' := [(0, .ref (a 0)), (1, .int x1_1), (2, .int x2_3)]) C [2, 1, 0] rfl ?_
  obtain ⟨j, hw⟩ := hw
  exact wl_X2_writerBits_4 C  j _ _ hw
def bod_X2_isWrittenTo_2 (t_writers : Nat → Int32)  (Q : Int32 → Prop) (x1 : Int32)  (K2 : Int32 → Prop) (x2 : Int32) : Prop := (((4 : Int32) ≤ x2 → (Q (0 : Int32))) ∧ (¬ (4 : Int32) ≤ x2 → (wp_X2_recorderOf x2 t_writers (fun (r_9 : Int32) => ((¬ r_9 = x1 → (∀ x2_18 : Int32, x2_18 = x2 + (1 : Int32) → K2 x2_18)) ∧ (r_9 = x1 → (Q (1 : Int32))))))))
def lp_X2_isWrittenTo_2 (t_writers : Nat → Int32)  (Q : Int32 → Prop) (x1 : Int32)  : Nat → Int32 → Prop
  | 0, _ => False
  | j + 1, x2 => bod_X2_isWrittenTo_2 t_writers  Q x1 (fun v0 => lp_X2_isWrittenTo_2 t_writers  Q x1 j v0) x2
def wp_X2_isWrittenTo (p0 : Int32) (t_writers : Nat → Int32) (Q : Int32 → Prop) : Prop := ∀ x2_1 : Int32, x2_1 = (0 : Int32) → (∃ j : Nat, lp_X2_isWrittenTo_2 t_writers  Q p0 j x2_1)
set_option maxHeartbeats 4000000 in
set_option maxRecDepth 100000 in
theorem wl_X2_isWrittenTo_2 {p : Program} {l : Launch} {e : Env} {s : State} {m : MethodId} {args : Array Value} {below : List Frame} {meth : Method} {c : Code} {D : va_G} {cB cI cJ cL cS : ClassId} {T : Nat × Nat × Nat × Nat} {A : Nat → Prop} {a : Nat → Nat} {t_active : Int32} {t_rests : Int32} {t_writers : Nat → Int32} {Q : Int32 → Prop} (C : Cq p s m args meth c D (Z5 cB cI cJ cL cS) T A cX2_isWrittenTo RX2 3 (Option.some Jvm.ClassFile.FieldType.boolean)) {x1 : Int32}   : ∀ (j : Nat) (x2 : Int32), lp_X2_isWrittenTo_2 t_writers  Q x1 j x2 → ww p l e ({ frames := 1, cells := 0, slots := 0, locals := 21 } : Room) s m args below meth c D A 3 (MQ below (va_Qi (fun (r : Int32) (u : Unit) => Q r ) (OutP D (fun (u : Unit) => (wPr cB cI cJ a t_active t_rests t_writers))) A) args s 0 0 A) 0 0 (wPr cB cI cJ a t_active t_rests t_writers) 2 [(0, .ref (a 0)), (1, .int x1), (2, .int x2)] [] := by
  intro j
  induction j with
  | zero => intro _ hw; exact hw.elim
  | succ j hK2 =>
    intro x2 hw
    have hw : bod_X2_isWrittenTo_2 t_writers  Q x1 (fun v0 => lp_X2_isWrittenTo_2 t_writers  Q x1 j v0) x2 := hw
    unfold bod_X2_isWrittenTo_2 at hw
    refine w_iload_n C 2 dX2_isWrittenTo_2 rfl ?_
    refine w_iconst C (v := (4 : Int32)) dX2_isWrittenTo_3 (by decide) ?_
    refine w_icmp_ge C 24 (by decide) dX2_isWrittenTo_4 (fun c_4 => ?_) (fun c_4 => ?_)
    · replace hw := hw.1 c_4
      refine w_iconst C (v := (0 : Int32)) dX2_isWrittenTo_24 (by decide) ?_
      exact w_zret C () (Or.inl rfl) hw rfl (Nat.le_of_ble_eq_true rfl) (Nat.le_of_ble_eq_true rfl) dX2_isWrittenTo_25
    · replace hw := hw.2 c_4
      refine w_aload_n C 0 dX2_isWrittenTo_7 rfl ?_
      refine w_iload_n C 2 dX2_isWrittenTo_8 rfl ?_
      refine w_callVI C (c_X2_recorderOf hw) f_X2_recorderOf k_405 k_403 rfl ⟨Nat.le_of_ble_eq_true rfl, Nat.le_of_ble_eq_true rfl⟩ rfl rfl ⟨Nat.le_of_ble_eq_true rfl, Nat.le_of_ble_eq_true rfl⟩ 0 rfl (rr := (RX2, TX2, 3)) rfl rfl (fun _ => rfl) rfl (Nat.le_of_ble_eq_true rfl) dX2_isWrittenTo_9 (fun r_9 u_9 hw => ?_)
      try dsimp only at hw
      refine w_iload_n C 1 dX2_isWrittenTo_12 rfl ?_
      refine w_icmp_ne C 18 (by decide) dX2_isWrittenTo_13 (fun c_13 => ?_) (fun c_13 => ?_)
      · replace hw := hw.1 c_13
        refine w_iinc C (v := x2 + (1 : Int32)) 2 (fun x2_18 => [(2, .int x2_18), (0, .ref (a 0)), (1, .int x1)]) dX2_isWrittenTo_18 rfl rfl (by decide) (fun _ => rfl) (fun x2_18 e_x2_18 => ?_)
        replace hw := hw x2_18 e_x2_18
        refine w_goto C 2 (by decide) dX2_isWrittenTo_21 ?_
        refine w_sub (lv' := [(0, .ref (a 0)), (1, .int x1), (2, .int x2_18)]) C [1, 2, 0] rfl ?_
        exact hK2 _ hw
      · replace hw := hw.2 c_13
        refine w_iconst C (v := (1 : Int32)) dX2_isWrittenTo_16 (by decide) ?_
        exact w_zret C () (Or.inr rfl) hw rfl (Nat.le_of_ble_eq_true rfl) (Nat.le_of_ble_eq_true rfl) dX2_isWrittenTo_17
set_option maxHeartbeats 4000000 in
set_option maxRecDepth 100000 in
theorem c_X2_isWrittenTo {l : Launch} {D : va_G} {cB cI cJ cL cS : ClassId} {T : Nat × Nat × Nat × Nat} {a : Nat → Nat} {p0 : Int32} {t_active : Int32} {t_rests : Int32} {t_writers : Nat → Int32} {Q : Int32 → Prop} (hw : wp_X2_isWrittenTo p0 t_writers Q) : CtI l D (Z5 cB cI cJ cL cS) T yX2_isWrittenTo cX2_isWrittenTo 3 ({ frames := 1, cells := 0, slots := 0, locals := 21 } : Room) (Option.some Jvm.ClassFile.FieldType.boolean) [.ref (a 0), .int p0] (wPr cB cI cJ a t_active t_rests t_writers) (fun (u : Unit) => (wPr cB cI cJ a t_active t_rests t_writers)) (fun (r : Int32) (u : Unit) => Q r ) 0 0 := by
  refine ctI_of (own := RX2) (by decide +kernel) rfl (Nat.le_of_ble_eq_true rfl) (fun p e s m below meth c A C => ?_)
  refine w_sub (lv' := [(0, .ref (a 0)), (1, .int p0)]) C [0, 1] rfl ?_
  unfold wp_X2_isWrittenTo at hw
  refine w_iconst C (v := (0 : Int32)) dX2_isWrittenTo_0 (by decide) ?_
  refine w_istore_n C (fun x2_1 => [(2, .int x2_1), (0, .ref (a 0)), (1, .int p0)]) dX2_isWrittenTo_1 (by decide) (fun _ => rfl) (fun x2_1 e_x2_1 => ?_)
  replace hw := hw x2_1 e_x2_1
  refine w_sub (lv' := [(0, .ref (a 0)), (1, .int p0), (2, .int x2_1)]) C [1, 2, 0] rfl ?_
  obtain ⟨j, hw⟩ := hw
  exact wl_X2_isWrittenTo_2 C  j _ hw
