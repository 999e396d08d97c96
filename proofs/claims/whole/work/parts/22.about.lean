def bod_X1_mean_b_30 (t_digits : Int32) (t_slots : Int32) (t_pages : Int32) (t_units : Nat → Int64) (t_kinds : Nat → Int32) (K10 : Int32 → Int64 → Int64 → Int64 → Int64 → Prop) (Q : Int64 → Int64 → Int64 → Int64 → Int64 → Prop) (x2 : Int32) (x3 : Int32)  (K30 : Int32 → Int64 → Int64 → Int64 → Int64 → Prop) (x4 : Int32) (d_highHigh : Int64) (d_highLow : Int64) (d_lowHigh : Int64) (d_lowLow : Int64) : Prop := ((x3 ≤ x4 → (∀ x2_61 : Int32, x2_61 = x2 + (1 : Int32) → K10 x2_61 d_highHigh d_highLow d_lowHigh d_lowLow)) ∧ (¬ x3 ≤ x4 → (wp_X7_middleOf t_digits x4  (fun (r_43 : Int64) => wp_X1_unitsOf x4 t_units (fun (r_49 : Int64) => wp_X3_include r_43 r_49 d_highHigh d_highLow d_lowHigh d_lowLow (fun (d_highHigh_52 : Int64) (d_highLow_52 : Int64) (d_lowHigh_52 : Int64) (d_lowLow_52 : Int64) => ∀ x4_55 : Int32, x4_55 = x4 + (1 : Int32) → K30 x4_55 d_highHigh_52 d_highLow_52 d_lowHigh_52 d_lowLow_52))))))
def lp_X1_mean_b_30 (t_digits : Int32) (t_slots : Int32) (t_pages : Int32) (t_units : Nat → Int64) (t_kinds : Nat → Int32) (K10 : Int32 → Int64 → Int64 → Int64 → Int64 → Prop) (Q : Int64 → Int64 → Int64 → Int64 → Int64 → Prop) (x2 : Int32) (x3 : Int32)  : Nat → Int32 → Int64 → Int64 → Int64 → Int64 → Prop
  | 0, _, _, _, _, _ => False
  | j + 1, x4, d_highHigh, d_highLow, d_lowHigh, d_lowLow => bod_X1_mean_b_30 t_digits t_slots t_pages t_units t_kinds K10 Q x2 x3 (fun v0 v1 v2 v3 v4 => lp_X1_mean_b_30 t_digits t_slots t_pages t_units t_kinds K10 Q x2 x3 j v0 v1 v2 v3 v4) x4 d_highHigh d_highLow d_lowHigh d_lowLow
def bod_X1_mean_b_10 (t_digits : Int32) (t_slots : Int32) (t_pages : Int32) (t_units : Nat → Int64) (t_kinds : Nat → Int32)  (Q : Int64 → Int64 → Int64 → Int64 → Int64 → Prop)   (K10 : Int32 → Int64 → Int64 → Int64 → Int64 → Prop) (x2 : Int32) (d_highHigh : Int64) (d_highLow : Int64) (d_lowHigh : Int64) (d_lowLow : Int64) : Prop := ((t_pages ≤ x2 → (wp_X1_allUnits  t_slots t_pages t_units t_kinds (fun (r_69 : Int64) => wp_X3_dividedBy r_69 d_highHigh d_highLow d_lowHigh d_lowLow (fun (r_72 : Int64) => Q r_72 d_highHigh d_highLow d_lowHigh d_lowLow)))) ∧ (¬ t_pages ≤ x2 → (wp_X1_endOf x2 t_slots t_kinds (fun (r_20 : Int32) => ∀ x3_23 : Int32, x3_23 = r_20 → ∀ x4_28 : Int32, x4_28 = ((16 : Int32) * x2) → (∃ j : Nat, lp_X1_mean_b_30 t_digits t_slots t_pages t_units t_kinds K10 Q x2 x3_23 j x4_28 d_highHigh d_highLow d_lowHigh d_lowLow)))))
def lp_X1_mean_b_10 (t_digits : Int32) (t_slots : Int32) (t_pages : Int32) (t_units : Nat → Int64) (t_kinds : Nat → Int32)  (Q : Int64 → Int64 → Int64 → Int64 → Int64 → Prop)   : Nat → Int32 → Int64 → Int64 → Int64 → Int64 → Prop
  | 0, _, _, _, _, _ => False
  | j + 1, x2, d_highHigh, d_highLow, d_lowHigh, d_lowLow => bod_X1_mean_b_10 t_digits t_slots t_pages t_units t_kinds  Q  (fun v0 v1 v2 v3 v4 => lp_X1_mean_b_10 t_digits t_slots t_pages t_units t_kinds  Q  j v0 v1 v2 v3 v4) x2 d_highHigh d_highLow d_lowHigh d_lowLow
def blk_X1_mean_b_8 (t_digits : Int32) (t_slots : Int32) (t_pages : Int32) (t_units : Nat → Int64) (t_kinds : Nat → Int32)  (Q : Int64 → Int64 → Int64 → Int64 → Int64 → Prop) (d_highHigh : Int64) (d_highLow : Int64) (d_lowHigh : Int64) (d_lowLow : Int64) : Prop := ∀ x2_9 : Int32, x2_9 = (0 : Int32) → (∃ j : Nat, lp_X1_mean_b_10 t_digits t_slots t_pages t_units t_kinds  Q  j x2_9 d_highHigh d_highLow d_lowHigh d_lowLow)
set_option maxHeartbeats 4000000 in
set_option maxRecDepth 100000 in
theorem wl_X1_mean_b_30 {p : Program} {l : Launch} {e : Env} {s : State} {m : MethodId} {args : Array Value} {below : List Frame} {meth : Method} {c : Code} {D : va_G} {cB cI cJ cL cS : ClassId} {T : Nat × Nat × Nat × Nat} {A : Nat → Prop} {a : Nat → Nat} {q : Nat → Nat} {t_made : Int32} {t_sort : Int32} {t_digits : Int32} {t_slots : Int32} {t_pages : Int32} {t_highest : Int64} {t_units : Nat → Int64} {t_kinds : Nat → Int32} {t_rows : Nat → Int32} {t_marks : Nat → Int32} {Q : Int64 → Int64 → Int64 → Int64 → Int64 → Prop} (C : Cq p s m args meth c D (Z5 cB cI cJ cL cS) T A cX1_mean RX1 5 (Option.some Jvm.ClassFile.FieldType.long)) {x2 : Int32} {x3 : Int32}  {K10 : Int32 → Int64 → Int64 → Int64 → Int64 → Prop} (hK10 : ∀ (y2 : Int32) (z_d_highHigh : Int64) (z_d_highLow : Int64) (z_d_lowHigh : Int64) (z_d_lowLow : Int64), K10 y2 z_d_highHigh z_d_highLow z_d_lowHigh z_d_lowLow → ww p l e ({ frames := 4, cells := 1, slots := 4, locals := 99 } : Room) s m args below meth c D A 5 (MQ below (va_Ql (fun (r : Int64) (u : Int64 × Int64 × Int64 × Int64) => Q r u.1 u.2.1 u.2.2.1 u.2.2.2) (OutP D (fun (u : Int64 × Int64 × Int64 × Int64) => (wL cB cI cJ a t_made t_sort t_digits t_slots t_pages t_highest t_units t_kinds t_rows t_marks ++ (wPd cB cI cJ q u.1 u.2.1 u.2.2.1 u.2.2.2)))) A) args s 1 4 A) 1 4 (wL cB cI cJ a t_made t_sort t_digits t_slots t_pages t_highest t_units t_kinds t_rows t_marks ++ (wPd cB cI cJ q z_d_highHigh z_d_highLow z_d_lowHigh z_d_lowLow)) 10 [(0, .ref (a 0)), (1, .ref (q 0)), (2, .int y2)] []) : ∀ (j : Nat) (x4 : Int32) (d_highHigh : Int64) (d_highLow : Int64) (d_lowHigh : Int64) (d_lowLow : Int64), lp_X1_mean_b_30 t_digits t_slots t_pages t_units t_kinds K10 Q x2 x3 j x4 d_highHigh d_highLow d_lowHigh d_lowLow → ww p l e ({ frames := 4, cells := 1, slots := 4, locals := 99 } : Room) s m args below meth c D A 5 (MQ below (va_Ql (fun (r : Int64) (u : Int64 × Int64 × Int64 × Int64) => Q r u.1 u.2.1 u.2.2.1 u.2.2.2) (OutP D (fun (u : Int64 × Int64 × Int64 × Int64) => (wL cB cI cJ a t_made t_sort t_digits t_slots t_pages t_highest t_units t_kinds t_rows t_marks ++ (wPd cB cI cJ q u.1 u.2.1 u.2.2.1 u.2.2.2)))) A) args s 1 4 A) 1 4 (wL cB cI cJ a t_made t_sort t_digits t_slots t_pages t_highest t_units t_kinds t_rows t_marks ++ (wPd cB cI cJ q d_highHigh d_highLow d_lowHigh d_lowLow)) 30 [(0, .ref (a 0)), (1, .ref (q 0)), (2, .int x2), (3, .int x3), (4, .int x4)] [] := by
  intro j
  induction j with
  | zero => intro _ _ _ _ _ hw; exact hw.elim
  | succ j hK30 =>
    intro x4 d_highHigh d_highLow d_lowHigh d_lowLow hw
    have hw : bod_X1_mean_b_30 t_digits t_slots t_pages t_units t_kinds K10 Q x2 x3 (fun v0 v1 v2 v3 v4 => lp_X1_mean_b_30 t_digits t_slots t_pages t_units t_kinds K10 Q x2 x3 j v0 v1 v2 v3 v4) x4 d_highHigh d_highLow d_lowHigh d_lowLow := hw
    unfold bod_X1_mean_b_30 at hw
    refine w_iload C 4 dX1_mean_30 rfl ?_
    refine w_iload_n C 3 dX1_mean_32 rfl ?_
    refine w_icmp_ge C 61 (by decide) dX1_mean_33 (fun c_33 => ?_) (fun c_33 => ?_)
    · replace hw := hw.1 c_33
      refine w_iinc C (v := x2 + (1 : Int32)) 2 (fun x2_61 => [(2, .int x2_61), (0, .ref (a 0)), (1, .ref (q 0)), (3, .int x3), (4, .int x4)]) dX1_mean_61 rfl rfl (by decide) (fun _ => rfl) (fun x2_61 e_x2_61 => ?_)
      replace hw := hw x2_61 e_x2_61
      refine w_goto C 10 (by decide) dX1_mean_64 ?_
      refine w_sub (lv' := [(0, .ref (a 0)), (1, .ref (q 0)), (2, .int x2_61)]) C [1, 2, 0] rfl ?_
      exact hK10 _ _ _ _ _ hw
    · replace hw := hw.2 c_33
      refine w_aload_n C 1 dX1_mean_36 rfl ?_
      refine w_aload_n C 0 dX1_mean_37 rfl ?_
      refine w_get C (T1 := TX1) 0 2 u_X1 k_150 rfl (by decide) rfl rfl dX1_mean_38 ?_
      refine w_iload C 4 dX1_mean_41 rfl ?_
      refine w_callSLN C (c_X7_middleOf hw) f_X7_middleOf n_610 rfl ⟨Nat.le_of_ble_eq_true rfl, Nat.le_of_ble_eq_true rfl⟩ rfl rfl ⟨Nat.le_of_ble_eq_true rfl, Nat.le_of_ble_eq_true rfl⟩ rfl (Nat.le_of_ble_eq_true rfl) dX1_mean_43 (fun r_43 u_43 hw => ?_)
      try dsimp only at hw
      refine w_aload_n C 0 dX1_mean_46 rfl ?_
      refine w_iload C 4 dX1_mean_47 rfl ?_
      refine w_callPL C (c_X1_unitsOf hw) f_X1_unitsOf k_290 k_288 rfl ⟨Nat.le_of_ble_eq_true rfl, Nat.le_of_ble_eq_true rfl⟩ rfl rfl ⟨Nat.le_of_ble_eq_true rfl, Nat.le_of_ble_eq_true rfl⟩ 0 rfl (rr := (RX1, TX1, 10)) rfl rfl (wPd cB cI cJ q d_highHigh d_highLow d_lowHigh d_lowLow) (fun (u : Unit) => (wL cB cI cJ a t_made t_sort t_digits t_slots t_pages t_highest t_units t_kinds t_rows t_marks ++ (wPd cB cI cJ q d_highHigh d_highLow d_lowHigh d_lowLow))) [0, 1, 2, 3, 4] [5] [1, 2, 3, 4, 5, 0] rfl rfl (by decide) (by decide) (by decide) (by decide) (fun _ => rfl) (fun _ => rfl) rfl (Nat.le_of_ble_eq_true rfl) dX1_mean_49 (fun r_49 u_49 hw => ?_)
      try dsimp only at hw
      refine w_callPV C (c_X3_include hw) f_X3_include k_613 k_611 rfl ⟨Nat.le_of_ble_eq_true rfl, Nat.le_of_ble_eq_true rfl⟩ rfl rfl ⟨Nat.le_of_ble_eq_true rfl, Nat.le_of_ble_eq_true rfl⟩ 0 rfl (rr := (RX3, TX3, 4)) rfl rfl (wL cB cI cJ a t_made t_sort t_digits t_slots t_pages t_highest t_units t_kinds t_rows t_marks) (fun (u : Int64 × Int64 × Int64 × Int64) => (wL cB cI cJ a t_made t_sort t_digits t_slots t_pages t_highest t_units t_kinds t_rows t_marks ++ (wPd cB cI cJ q u.1 u.2.1 u.2.2.1 u.2.2.2))) [5] [0, 1, 2, 3, 4] [0, 1, 2, 3, 4, 5] rfl rfl (by decide) (by decide) (by decide) (by decide) (fun _ => rfl) (fun _ => rfl) rfl (Nat.le_of_ble_eq_true rfl) dX1_mean_52 (fun u_52 hw => ?_)
      obtain ⟨d_highHigh_52, d_highLow_52, d_lowHigh_52, d_lowLow_52⟩ := u_52
      try dsimp only at hw
      refine w_iinc C (v := x4 + (1 : Int32)) 4 (fun x4_55 => [(4, .int x4_55), (0, .ref (a 0)), (1, .ref (q 0)), (2, .int x2), (3, .int x3)]) dX1_mean_55 rfl rfl (by decide) (fun _ => rfl) (fun x4_55 e_x4_55 => ?_)
      replace hw := hw x4_55 e_x4_55
      refine w_goto C 30 (by decide) dX1_mean_58 ?_
      refine w_sub (lv' := [(0, .ref (a 0)), (1, .ref (q 0)), (2, .int x2), (3, .int x3), (4, .int x4_55)]) C [1, 2, 3, 4, 0] rfl ?_
      exact hK30 _ _ _ _ _ hw
set_option maxHeartbeats 4000000 in
set_option maxRecDepth 100000 in
theorem wl_X1_mean_b_10 {p : Program} {l : Launch} {e : Env} {s : State} {m : MethodId} {args : Array Value} {below : List Frame} {meth : Method} {c : Code} {D : va_G} {cB cI cJ cL cS : ClassId} {T : Nat × Nat × Nat × Nat} {A : Nat → Prop} {a : Nat → Nat} {q : Nat → Nat} {t_made : Int32} {t_sort : Int32} {t_digits : Int32} {t_slots : Int32} {t_pages : Int32} {t_highest : Int64} {t_units : Nat → Int64} {t_kinds : Nat → Int32} {t_rows : Nat → Int32} {t_marks : Nat → Int32} {Q : Int64 → Int64 → Int64 → Int64 → Int64 → Prop} (C : Cq p s m args meth c D (Z5 cB cI cJ cL cS) T A cX1_mean RX1 5 (Option.some Jvm.ClassFile.FieldType.long))    : ∀ (j : Nat) (x2 : Int32) (d_highHigh : Int64) (d_highLow : Int64) (d_lowHigh : Int64) (d_lowLow : Int64), lp_X1_mean_b_10 t_digits t_slots t_pages t_units t_kinds  Q  j x2 d_highHigh d_highLow d_lowHigh d_lowLow → ww p l e ({ frames := 4, cells := 1, slots := 4, locals := 99 } : Room) s m args below meth c D A 5 (MQ below (va_Ql (fun (r : Int64) (u : Int64 × Int64 × Int64 × Int64) => Q r u.1 u.2.1 u.2.2.1 u.2.2.2) (OutP D (fun (u : Int64 × Int64 × Int64 × Int64) => (wL cB cI cJ a t_made t_sort t_digits t_slots t_pages t_highest t_units t_kinds t_rows t_marks ++ (wPd cB cI cJ q u.1 u.2.1 u.2.2.1 u.2.2.2)))) A) args s 1 4 A) 1 4 (wL cB cI cJ a t_made t_sort t_digits t_slots t_pages t_highest t_units t_kinds t_rows t_marks ++ (wPd cB cI cJ q d_highHigh d_highLow d_lowHigh d_lowLow)) 10 [(0, .ref (a 0)), (1, .ref (q 0)), (2, .int x2)] [] := by
  intro j
  induction j with
  | zero => intro _ _ _ _ _ hw; exact hw.elim
  | succ j hK10 =>
    intro x2 d_highHigh d_highLow d_lowHigh d_lowLow hw
    have hw : bod_X1_mean_b_10 t_digits t_slots t_pages t_units t_kinds  Q  (fun v0 v1 v2 v3 v4 => lp_X1_mean_b_10 t_digits t_slots t_pages t_units t_kinds  Q  j v0 v1 v2 v3 v4) x2 d_highHigh d_highLow d_lowHigh d_lowLow := hw
    unfold bod_X1_mean_b_10 at hw
    refine w_iload_n C 2 dX1_mean_10 rfl ?_
    refine w_aload_n C 0 dX1_mean_11 rfl ?_
    refine w_get C (T1 := TX1) 0 4 u_X1 k_154 rfl (by decide) rfl rfl dX1_mean_12 ?_
    refine w_icmp_ge C 67 (by decide) dX1_mean_15 (fun c_15 => ?_) (fun c_15 => ?_)
    · replace hw := hw.1 c_15
      refine w_aload_n C 1 dX1_mean_67 rfl ?_
      refine w_aload_n C 0 dX1_mean_68 rfl ?_
      refine w_callPL C (c_X1_allUnits hw) f_X1_allUnits k_545 k_617 rfl ⟨Nat.le_of_ble_eq_true rfl, Nat.le_of_ble_eq_true rfl⟩ rfl rfl ⟨Nat.le_of_ble_eq_true rfl, Nat.le_of_ble_eq_true rfl⟩ 0 rfl (rr := (RX1, TX1, 10)) rfl rfl (wPd cB cI cJ q d_highHigh d_highLow d_lowHigh d_lowLow) (fun (u : Unit) => (wL cB cI cJ a t_made t_sort t_digits t_slots t_pages t_highest t_units t_kinds t_rows t_marks ++ (wPd cB cI cJ q d_highHigh d_highLow d_lowHigh d_lowLow))) [0, 1, 2, 3, 4] [5] [1, 2, 3, 4, 5, 0] rfl rfl (by decide) (by decide) (by decide) (by decide) (fun _ => rfl) (fun _ => rfl) rfl (Nat.le_of_ble_eq_true rfl) dX1_mean_69 (fun r_69 u_69 hw => ?_)
      try dsimp only at hw
      refine w_callPL C (c_X3_dividedBy hw) f_X3_dividedBy k_620 k_618 rfl ⟨Nat.le_of_ble_eq_true rfl, Nat.le_of_ble_eq_true rfl⟩ rfl rfl ⟨Nat.le_of_ble_eq_true rfl, Nat.le_of_ble_eq_true rfl⟩ 0 rfl (rr := (RX3, TX3, 4)) rfl rfl (wL cB cI cJ a t_made t_sort t_digits t_slots t_pages t_highest t_units t_kinds t_rows t_marks) (fun (u : Unit) => (wL cB cI cJ a t_made t_sort t_digits t_slots t_pages t_highest t_units t_kinds t_rows t_marks ++ (wPd cB cI cJ q d_highHigh d_highLow d_lowHigh d_lowLow))) [5] [0, 1, 2, 3, 4] [0, 1, 2, 3, 4, 5] rfl rfl (by decide) (by decide) (by decide) (by decide) (fun _ => rfl) (fun _ => rfl) rfl (Nat.le_of_ble_eq_true rfl) dX1_mean_72 (fun r_72 u_72 hw => ?_)
      try dsimp only at hw
      exact w_lret C (d_highHigh, d_highLow, d_lowHigh, d_lowLow) hw rfl (Nat.le_of_ble_eq_true rfl) (Nat.le_of_ble_eq_true rfl) dX1_mean_75
    · replace hw := hw.2 c_15
      refine w_aload_n C 0 dX1_mean_18 rfl ?_
      refine w_iload_n C 2 dX1_mean_19 rfl ?_
      refine w_callPI C (c_X1_endOf hw) f_X1_endOf k_2 k_277 rfl ⟨Nat.le_of_ble_eq_true rfl, Nat.le_of_ble_eq_true rfl⟩ rfl rfl ⟨Nat.le_of_ble_eq_true rfl, Nat.le_of_ble_eq_true rfl⟩ 0 rfl (rr := (RX1, TX1, 10)) rfl rfl (wPd cB cI cJ q d_highHigh d_highLow d_lowHigh d_lowLow) (fun (u : Unit) => (wL cB cI cJ a t_made t_sort t_digits t_slots t_pages t_highest t_units t_kinds t_rows t_marks ++ (wPd cB cI cJ q d_highHigh d_highLow d_lowHigh d_lowLow))) [0, 1, 2, 3, 4] [5] [1, 2, 3, 4, 5, 0] rfl rfl (by decide) (by decide) (by decide) (by decide) (fun _ => rfl) (fun _ => rfl) rfl (Nat.le_of_ble_eq_true rfl) dX1_mean_20 (fun r_20 u_20 hw => ?_)
      try dsimp only at hw
      refine w_istore_n C (fun x3_23 => [(3, .int x3_23), (0, .ref (a 0)), (1, .ref (q 0)), (2, .int x2)]) dX1_mean_23 (by decide) (fun _ => rfl) (fun x3_23 e_x3_23 => ?_)
      replace hw := hw x3_23 e_x3_23
      refine w_bipush C (v := (16 : Int32)) dX1_mean_24 (by decide) ?_
      refine w_iload_n C 3 dX1_mean_26 rfl ?_
      refine w_imul C dX1_mean_27 ?_
      refine w_istore C (fun x4_28 => [(4, .int x4_28), (3, .int x3_23), (0, .ref (a 0)), (1, .ref (q 0)), (2, .int x2)]) dX1_mean_28 (by decide) (fun _ => rfl) (fun x4_28 e_x4_28 => ?_)
      replace hw := hw x4_28 e_x4_28
      refine w_sub (lv' := [(0, .ref (a 0)), (1, .ref (q 0)), (2, .int x2), (3, .int x3_23), (4, .int x4_28)]) C [2, 3, 4, 1, 0] rfl ?_
      obtain ⟨j, hw⟩ := hw
      exact wl_X1_mean_b_30 C hK10 j _ _ _ _ _ hw
set_option maxHeartbeats 4000000 in
set_option maxRecDepth 100000 in
theorem wk_X1_mean_b_8 {p : Program} {l : Launch} {e : Env} {s : State} {m : MethodId} {args : Array Value} {below : List Frame} {meth : Method} {c : Code} {D : va_G} {cB cI cJ cL cS : ClassId} {T : Nat × Nat × Nat × Nat} {A : Nat → Prop} {a : Nat → Nat} {q : Nat → Nat} {t_made : Int32} {t_sort : Int32} {t_digits : Int32} {t_slots : Int32} {t_pages : Int32} {t_highest : Int64} {t_units : Nat → Int64} {t_kinds : Nat → Int32} {t_rows : Nat → Int32} {t_marks : Nat → Int32} {Q : Int64 → Int64 → Int64 → Int64 → Int64 → Prop} (C : Cq p s m args meth c D (Z5 cB cI cJ cL cS) T A cX1_mean RX1 5 (Option.some Jvm.ClassFile.FieldType.long)) {d_highHigh : Int64} {d_highLow : Int64} {d_lowHigh : Int64} {d_lowLow : Int64}  (hw : blk_X1_mean_b_8 t_digits t_slots t_pages t_units t_kinds  Q d_highHigh d_highLow d_lowHigh d_lowLow) : ww p l e ({ frames := 4, cells := 1, slots := 4, locals := 99 } : Room) s m args below meth c D A 5 (MQ below (va_Ql (fun (r : Int64) (u : Int64 × Int64 × Int64 × Int64) => Q r u.1 u.2.1 u.2.2.1 u.2.2.2) (OutP D (fun (u : Int64 × Int64 × Int64 × Int64) => (wL cB cI cJ a t_made t_sort t_digits t_slots t_pages t_highest t_units t_kinds t_rows t_marks ++ (wPd cB cI cJ q u.1 u.2.1 u.2.2.1 u.2.2.2)))) A) args s 1 4 A) 1 4 (wL cB cI cJ a t_made t_sort t_digits t_slots t_pages t_highest t_units t_kinds t_rows t_marks ++ (wPd cB cI cJ q d_highHigh d_highLow d_lowHigh d_lowLow)) 8 [(0, .ref (a 0)), (1, .ref (q 0))] [] := by
  unfold blk_X1_mean_b_8 at hw
  refine w_iconst C (v := (0 : Int32)) dX1_mean_8 (by decide) ?_
  refine w_istore_n C (fun x2_9 => [(2, .int x2_9), (0, .ref (a 0)), (1, .ref (q 0))]) dX1_mean_9 (by decide) (fun _ => rfl) (fun x2_9 e_x2_9 => ?_)
  replace hw := hw x2_9 e_x2_9
  refine w_sub (lv' := [(0, .ref (a 0)), (1, .ref (q 0)), (2, .int x2_9)]) C [1, 2, 0] rfl ?_
  obtain ⟨j, hw⟩ := hw
  exact wl_X1_mean_b_10 C  j _ _ _ _ _ hw
def wp_X1_mean (t_digits : Int32) (t_slots : Int32) (t_pages : Int32) (t_units : Nat → Int64) (t_kinds : Nat → Int32) (Q : Int64 → Prop) : Prop := blk_X1_mean_b_8 t_digits t_slots t_pages t_units t_kinds (fun (r : Int64) (_ : Int64) (_ : Int64) (_ : Int64) (_ : Int64) => Q r) (0 : Int64) (0 : Int64) (0 : Int64) (0 : Int64)
set_option maxHeartbeats 4000000 in
set_option maxRecDepth 100000 in
theorem c_X1_mean {l : Launch} {D : va_G} {cB cI cJ cL cS : ClassId} {T : Nat × Nat × Nat × Nat} {a : Nat → Nat} {t_made : Int32} {t_sort : Int32} {t_digits : Int32} {t_slots : Int32} {t_pages : Int32} {t_highest : Int64} {t_units : Nat → Int64} {t_kinds : Nat → Int32} {t_rows : Nat → Int32} {t_marks : Nat → Int32} {Q : Int64 → Prop} (hw : wp_X1_mean t_digits t_slots t_pages t_units t_kinds Q) : CtL l D (Z5 cB cI cJ cL cS) T yX1_mean cX1_mean 5 ({ frames := 4, cells := 1, slots := 4, locals := 99 } : Room) (Option.some Jvm.ClassFile.FieldType.long) [.ref (a 0)] (wL cB cI cJ a t_made t_sort t_digits t_slots t_pages t_highest t_units t_kinds t_rows t_marks) (fun (_ : Unit) => (wL cB cI cJ a t_made t_sort t_digits t_slots t_pages t_highest t_units t_kinds t_rows t_marks)) (fun (r : Int64) (_ : Unit) => Q r) 1 4 := by
  refine ctL_of (own := RX1) (by decide +kernel) rfl (Nat.le_of_ble_eq_true rfl) (fun p e s m below meth c A C => ?_)
  refine w_sub (lv' := [(0, .ref (a 0))]) C [0] rfl ?_
  refine w_new C (ci := 3) (T1 := TX3) u_X3 tyX3 tyX3_ok k_591 k_592 k_76 rfl [.long 0, .long 0, .long 0, .long 0] (fun j hj => by rcases (show j = 0 ∨ j = 1 ∨ j = 2 ∨ j = 3 by omega) with rfl | rfl | rfl | rfl <;> rfl) (Nat.le_of_ble_eq_true rfl) (Nat.le_of_ble_eq_true rfl) dX1_mean_0 (fun qn => ?_)
  refine w_dup C rfl dX1_mean_3 ?_
  refine w_initVN C (c_X3_init (a := (fun (_ : Nat) => qn))) f_X3_init rfl n_593 rfl ⟨(Nat.le_of_ble_eq_true rfl), (Nat.le_of_ble_eq_true rfl)⟩ rfl rfl ⟨(Nat.le_of_ble_eq_true rfl), (Nat.le_of_ble_eq_true rfl)⟩ (wL cB cI cJ a t_made t_sort t_digits t_slots t_pages t_highest t_units t_kinds t_rows t_marks) [5] [0, 1, 2, 3, 4] rfl rfl (by decide) (by decide) (by decide) (fun _ => rfl) rfl (Nat.le_of_ble_eq_true rfl) dX1_mean_4 (fun _ _ => ?_)
  refine w_astore_n C [(1, .ref qn), (0, .ref (a 0))] dX1_mean_7 (by decide) rfl ?_
  refine w_sub (lv' := [(0, .ref (a 0)), (1, .ref qn)]) C [1, 0] rfl ?_
  refine w_mono (fun t h => ?_) (wk_X1_mean_b_8 (q := (fun (_ : Nat) => qn)) C hw)
  obtain ⟨o, h1, h2, ⟨⟨r, u, h3, h4, h5⟩, h6⟩, h7⟩ := h
  exact ⟨o, h1, h2, ⟨⟨r, (), h3, h4, w_subP h5 [0, 1, 2, 3, 4] rfl⟩, h6⟩, h7⟩
def wp_X7_about (p0 : Int32) (p1 : Int32) (l_made : Nat → Int32) (l_digits : Nat → Int32) (l_slots : Nat → Int32) (l_pages : Nat → Int32) (l_highest : Nat → Int64) (l_units : Nat → Nat → Int64) (l_kinds : Nat → Nat → Int32) (Q : Int64 → Prop) : Prop := wp_X7_madeAt p0 l_made (fun (r_2 : Option Nat) => ((r_2 = none → (Q (-1 : Int64))) ∧ (∀ j_2 : Nat, r_2 = some j_2 → (((p1 < 0 → (Q (-1 : Int64))) ∧ (¬ p1 < 0 → (((p1 ≤ (2 : Int32) → (wp_X1_lastUsed  (l_slots j_2) (l_pages j_2) (l_units j_2) (l_kinds j_2) (fun (r_24 : Int32) => ((¬ r_24 = (-1 : Int32) → (((¬ p1 = 0 → (((¬ p1 = (1 : Int32) → (wp_X1_mean  (l_digits j_2) (l_slots j_2) (l_pages j_2) (l_units j_2) (l_kinds j_2) (fun (r_59 : Int64) => Q r_59))) ∧ (p1 = (1 : Int32) → (wp_X1_greatest  (l_digits j_2) (l_slots j_2) (l_pages j_2) (l_highest j_2) (l_units j_2) (l_kinds j_2) (fun (r_52 : Int64) => Q r_52)))))) ∧ (p1 = 0 → (wp_X1_least  (l_digits j_2) (l_slots j_2) (l_pages j_2) (l_units j_2) (l_kinds j_2) (fun (r_40 : Int64) => Q r_40)))))) ∧ (r_24 = (-1 : Int32) → (Q (-2 : Int64))))))) ∧ (¬ p1 ≤ (2 : Int32) → (Q (-1 : Int64)))))))))))
set_option maxHeartbeats 4000000 in
set_option maxRecDepth 100000 in
theorem c_X7_about {l : Launch} {D : va_G} {cB cI cJ cL cS : ClassId} {T : Nat × Nat × Nat × Nat} {ad : Nat → Nat} {p0 : Int32} {p1 : Int32} {active : Int32} {rests : Int32} {writers : Nat → Int32} {tbytes : Nat → Int32} {tlen : Int32} {dbytes : Nat → Int32} {dlen : Int32} {next : Int32} {known : Int32} {rec : Nat → Int32} {m_made : Nat → Int32} {m_sort : Nat → Int32} {m_digits : Nat → Int32} {m_slots : Nat → Int32} {m_pages : Nat → Int32} {m_highest : Nat → Int64} {m_units : Nat → Nat → Int64} {m_kinds : Nat → Nat → Int32} {m_rows : Nat → Nat → Int32} {m_marks : Nat → Nat → Int32} {q_active : Nat → Int32} {q_rests : Nat → Int32} {q_writers : Nat → Nat → Int32} {l_made : Nat → Int32} {l_sort : Nat → Int32} {l_digits : Nat → Int32} {l_slots : Nat → Int32} {l_pages : Nat → Int32} {l_highest : Nat → Int64} {l_units : Nat → Nat → Int64} {l_kinds : Nat → Nat → Int32} {l_rows : Nat → Nat → Int32} {l_marks : Nat → Nat → Int32} {Q : Int64 → Prop} (hw : wp_X7_about p0 p1 l_made l_digits l_slots l_pages l_highest l_units l_kinds Q) : CtL l D (Z5 cB cI cJ cL cS) T yX7_about cX7_about 4 ({ frames := 6, cells := 1, slots := 4, locals := 138 } : Room) (Option.some Jvm.ClassFile.FieldType.long) [.ref (ad 0), .int p0, .int p1] (mw ad 94 (ctT cI cJ cL cS ad active rests writers tbytes tlen dbytes dlen next known rec m_made m_sort m_digits m_slots m_pages m_highest m_units m_kinds m_rows m_marks q_active q_rests q_writers l_made l_sort l_digits l_slots l_pages l_highest l_units l_kinds l_rows l_marks)) (fun (u : Unit) => (mw ad 94 (ctT cI cJ cL cS ad active rests writers tbytes tlen dbytes dlen next known rec m_made m_sort m_digits m_slots m_pages m_highest m_units m_kinds m_rows m_marks q_active q_rests q_writers l_made l_sort l_digits l_slots l_pages l_highest l_units l_kinds l_rows l_marks))) (fun (r : Int64) (u : Unit) => Q r ) 1 4 := by
  refine ctL_of (own := RX7) (by decide +kernel) rfl (Nat.le_of_ble_eq_true rfl) (fun p e s m below meth c A C => ?_)
  refine w_sub (lv' := [(0, .ref (ad 0)), (1, .int p0), (2, .int p1)]) C [0, 1, 2] rfl ?_
  unfold wp_X7_about at hw
  refine w_aload_n C 0 dX7_about_0 rfl ?_
  refine w_iload_n C 1 dX7_about_1 rfl ?_
  refine w_callVE C (c_X7_madeAt (ad := ad) hw) f_X7_madeAt k_0 k_255 rfl ⟨Nat.le_of_ble_eq_true rfl, Nat.le_of_ble_eq_true rfl⟩ rfl rfl ⟨Nat.le_of_ble_eq_true rfl, Nat.le_of_ble_eq_true rfl⟩ 0 (mw_at (by decide) rfl) (rr := (RX7, TX7, 5)) rfl rfl (fun _ => mw_addr) rfl (Nat.le_of_ble_eq_true rfl) dX7_about_2 (fun r_2 u_2 hw => ?_)
  obtain ⟨hw, hb_2⟩ := hw
  try dsimp only at hw
  cases r_2 with
  | none =>
    replace hw := hw.1 rfl
    refine w_astore_nN C [(3, .null), (0, .ref (ad 0)), (1, .int p0), (2, .int p1)] dX7_about_5 (by decide) rfl ?_
    refine w_aload_nN C 0 dX7_about_6 rfl ?_
    refine w_ifnullN C 19 (by decide) dX7_about_7 ?_
    refine w_ldc2 C (v := (-1 : Int64)) dX7_about_19 k_481 ?_
    exact w_lret C () hw rfl (Nat.le_of_ble_eq_true rfl) (Nat.le_of_ble_eq_true rfl) dX7_about_22
  | some j_2 =>
    replace hw := hw.2 j_2 rfl
    have hb_2 := hb_2 j_2 rfl
    refine w_astore_n C [(3, .ref (ad (74 + 5 * j_2 + 0))), (0, .ref (ad 0)), (1, .int p0), (2, .int p1)] dX7_about_5 (by decide) rfl ?_
    refine w_aload_n C 0 dX7_about_6 rfl ?_
    refine w_ifnull C dX7_about_7 ?_
    refine w_iload_n C 3 dX7_about_10 rfl ?_
    refine w_if_lt C 19 (by decide) dX7_about_11 (fun c_11 => ?_) (fun c_11 => ?_)
    · replace hw := hw.1 c_11
      refine w_ldc2 C (v := (-1 : Int64)) dX7_about_19 k_481 ?_
      exact w_lret C () hw rfl (Nat.le_of_ble_eq_true rfl) (Nat.le_of_ble_eq_true rfl) dX7_about_22
    · replace hw := hw.2 c_11
      refine w_iload_n C 3 dX7_about_14 rfl ?_
      refine w_iconst C (v := (2 : Int32)) dX7_about_15 (by decide) ?_
      refine w_icmp_le C 23 (by decide) dX7_about_16 (fun c_16 => ?_) (fun c_16 => ?_)
      · replace hw := hw.1 c_16
        refine w_aload_n C 0 dX7_about_23 rfl ?_
        refine w_callXI C (c_X1_lastUsed (a := fun i => ad (74 + 5 * j_2 + i)) hw) f_X1_lastUsed k_275 k_574 rfl ⟨Nat.le_of_ble_eq_true rfl, Nat.le_of_ble_eq_true rfl⟩ rfl rfl ⟨Nat.le_of_ble_eq_true rfl, Nat.le_of_ble_eq_true rfl⟩ 0 rfl (rr := (RX1, TX1, 10)) rfl rfl (ad := ad) (N := 94) ((plL j_2)) (wc_L (cB := cB) j_2) (lt_L (by assumption)) nd_L (fun (u : Unit) => (ctT cI cJ cL cS ad active rests writers tbytes tlen dbytes dlen next known rec m_made m_sort m_digits m_slots m_pages m_highest m_units m_kinds m_rows m_marks q_active q_rests q_writers l_made l_sort l_digits l_slots l_pages l_highest l_units l_kinds l_rows l_marks)) (fun _ => (wc_L (cB := cB) j_2).trans (by first | (simp only [va_up_self]; done) | rfl)) (fun _ _ _ _ => rfl) rfl (Nat.le_of_ble_eq_true rfl) dX7_about_24 (fun r_24 u_24 hw => ?_)
        try dsimp only at hw
        refine w_iconst C (v := (-1 : Int32)) dX7_about_27 (by decide) ?_
        refine w_icmp_ne C 35 (by decide) dX7_about_28 (fun c_28 => ?_) (fun c_28 => ?_)
        · replace hw := hw.1 c_28
          refine w_iload_n C 3 dX7_about_35 rfl ?_
          refine w_if_ne C 46 (by decide) dX7_about_36 (fun c_36 => ?_) (fun c_36 => ?_)
          · replace hw := hw.1 c_36
            refine w_iload_n C 3 dX7_about_46 rfl ?_
            refine w_iconst C (v := (1 : Int32)) dX7_about_47 (by decide) ?_
            refine w_icmp_ne C 58 (by decide) dX7_about_48 (fun c_48 => ?_) (fun c_48 => ?_)
            · replace hw := hw.1 c_48
              refine w_aload_n C 0 dX7_about_58 rfl ?_
              refine w_callXL C (c_X1_mean (a := fun i => ad (74 + 5 * j_2 + i)) hw) f_X1_mean k_589 k_587 rfl ⟨Nat.le_of_ble_eq_true rfl, Nat.le_of_ble_eq_true rfl⟩ rfl rfl ⟨Nat.le_of_ble_eq_true rfl, Nat.le_of_ble_eq_true rfl⟩ 0 rfl (rr := (RX1, TX1, 10)) rfl rfl (ad := ad) (N := 94) ((plL j_2)) (wc_L (cB := cB) j_2) (lt_L (by assumption)) nd_L (fun (u : Unit) => (ctT cI cJ cL cS ad active rests writers tbytes tlen dbytes dlen next known rec m_made m_sort m_digits m_slots m_pages m_highest m_units m_kinds m_rows m_marks q_active q_rests q_writers l_made l_sort l_digits l_slots l_pages l_highest l_units l_kinds l_rows l_marks)) (fun _ => (wc_L (cB := cB) j_2).trans (by first | (simp only [va_up_self]; done) | rfl)) (fun _ _ _ _ => rfl) rfl (Nat.le_of_ble_eq_true rfl) dX7_about_59 (fun r_59 u_59 hw => ?_)
              try dsimp only at hw
              exact w_lret C () hw rfl (Nat.le_of_ble_eq_true rfl) (Nat.le_of_ble_eq_true rfl) dX7_about_62
            · replace hw := hw.2 c_48
              refine w_aload_n C 0 dX7_about_51 rfl ?_
              refine w_callXL C (c_X1_greatest (a := fun i => ad (74 + 5 * j_2 + i)) hw) f_X1_greatest k_585 k_583 rfl ⟨Nat.le_of_ble_eq_true rfl, Nat.le_of_ble_eq_true rfl⟩ rfl rfl ⟨Nat.le_of_ble_eq_true rfl, Nat.le_of_ble_eq_true rfl⟩ 0 rfl (rr := (RX1, TX1, 10)) rfl rfl (ad := ad) (N := 94) ((plL j_2)) (wc_L (cB := cB) j_2) (lt_L (by assumption)) nd_L (fun (u : Unit) => (ctT cI cJ cL cS ad active rests writers tbytes tlen dbytes dlen next known rec m_made m_sort m_digits m_slots m_pages m_highest m_units m_kinds m_rows m_marks q_active q_rests q_writers l_made l_sort l_digits l_slots l_pages l_highest l_units l_kinds l_rows l_marks)) (fun _ => (wc_L (cB := cB) j_2).trans (by first | (simp only [va_up_self]; done) | rfl)) (fun _ _ _ _ => rfl) rfl (Nat.le_of_ble_eq_true rfl) dX7_about_52 (fun r_52 u_52 hw => ?_)
              try dsimp only at hw
              refine w_goto C 62 (by decide) dX7_about_55 ?_
              exact w_lret C () hw rfl (Nat.le_of_ble_eq_true rfl) (Nat.le_of_ble_eq_true rfl) dX7_about_62
          · replace hw := hw.2 c_36
            refine w_aload_n C 0 dX7_about_39 rfl ?_
            refine w_callXL C (c_X1_least (a := fun i => ad (74 + 5 * j_2 + i)) hw) f_X1_least k_577 k_575 rfl ⟨Nat.le_of_ble_eq_true rfl, Nat.le_of_ble_eq_true rfl⟩ rfl rfl ⟨Nat.le_of_ble_eq_true rfl, Nat.le_of_ble_eq_true rfl⟩ 0 rfl (rr := (RX1, TX1, 10)) rfl rfl (ad := ad) (N := 94) ((plL j_2)) (wc_L (cB := cB) j_2) (lt_L (by assumption)) nd_L (fun (u : Unit) => (ctT cI cJ cL cS ad active rests writers tbytes tlen dbytes dlen next known rec m_made m_sort m_digits m_slots m_pages m_highest m_units m_kinds m_rows m_marks q_active q_rests q_writers l_made l_sort l_digits l_slots l_pages l_highest l_units l_kinds l_rows l_marks)) (fun _ => (wc_L (cB := cB) j_2).trans (by first | (simp only [va_up_self]; done) | rfl)) (fun _ _ _ _ => rfl) rfl (Nat.le_of_ble_eq_true rfl) dX7_about_40 (fun r_40 u_40 hw => ?_)
            try dsimp only at hw
            refine w_goto C 62 (by decide) dX7_about_43 ?_
            exact w_lret C () hw rfl (Nat.le_of_ble_eq_true rfl) (Nat.le_of_ble_eq_true rfl) dX7_about_62
        · replace hw := hw.2 c_28
          refine w_ldc2 C (v := (-2 : Int64)) dX7_about_31 k_524 ?_
          exact w_lret C () hw rfl (Nat.le_of_ble_eq_true rfl) (Nat.le_of_ble_eq_true rfl) dX7_about_34
      · replace hw := hw.2 c_16
        refine w_ldc2 C (v := (-1 : Int64)) dX7_about_19 k_481 ?_
        exact w_lret C () hw rfl (Nat.le_of_ble_eq_true rfl) (Nat.le_of_ble_eq_true rfl) dX7_about_22
