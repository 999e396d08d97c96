def wp_X7_feed (p0 : Int32) (p1 : Int32) (p2 : Int32) (p3 : Int32) (p4 : Int32) (tbytes : Nat → Int32) (tlen : Int32) (Q : Int32 → (Nat → Int32) → Int32 → Prop) : Prop := ((tlen ≤ (380 : Int32) → (wp_X5_appendInt p0 tbytes tlen (fun (tbytes_20 : Nat → Int32) (tlen_20 : Int32) => wp_X5_appendInt p1 tbytes_20 tlen_20 (fun (tbytes_28 : Nat → Int32) (tlen_28 : Int32) => wp_X5_appendInt p2 tbytes_28 tlen_28 (fun (tbytes_36 : Nat → Int32) (tlen_36 : Int32) => wp_X5_appendInt p3 tbytes_36 tlen_36 (fun (tbytes_45 : Nat → Int32) (tlen_45 : Int32) => wp_X5_appendInt p4 tbytes_45 tlen_45 (fun (tbytes_54 : Nat → Int32) (tlen_54 : Int32) => Q tlen_54 tbytes_54 tlen_54))))))) ∧ (¬ tlen ≤ (380 : Int32) → (Q (-1 : Int32) tbytes tlen)))
set_option maxHeartbeats 4000000 in
set_option maxRecDepth 100000 in
theorem c_X7_feed {l : Launch} {D : va_G} {cB cI cJ cL cS : ClassId} {T : Nat × Nat × Nat × Nat} {ad : Nat → Nat} {p0 : Int32} {p1 : Int32} {p2 : Int32} {p3 : Int32} {p4 : Int32} {active : Int32} {rests : Int32} {writers : Nat → Int32} {tbytes : Nat → Int32} {tlen : Int32} {dbytes : Nat → Int32} {dlen : Int32} {next : Int32} {known : Int32} {rec : Nat → Int32} {m_made : Nat → Int32} {m_sort : Nat → Int32} {m_digits : Nat → Int32} {m_slots : Nat → Int32} {m_pages : Nat → Int32} {m_highest : Nat → Int64} {m_units : Nat → Nat → Int64} {m_kinds : Nat → Nat → Int32} {m_rows : Nat → Nat → Int32} {m_marks : Nat → Nat → Int32} {q_active : Nat → Int32} {q_rests : Nat → Int32} {q_writers : Nat → Nat → Int32} {l_made : Nat → Int32} {l_sort : Nat → Int32} {l_digits : Nat → Int32} {l_slots : Nat → Int32} {l_pages : Nat → Int32} {l_highest : Nat → Int64} {l_units : Nat → Nat → Int64} {l_kinds : Nat → Nat → Int32} {l_rows : Nat → Nat → Int32} {l_marks : Nat → Nat → Int32} {Q : Int32 → (Nat → Int32) → Int32 → Prop} (hw : wp_X7_feed p0 p1 p2 p3 p4 tbytes tlen Q) : CtI l D (Z5 cB cI cJ cL cS) T yX7_feed cX7_feed 6 ({ frames := 2, cells := 0, slots := 0, locals := 42 } : Room) (Option.some Jvm.ClassFile.FieldType.int) [.ref (ad 0), .int p0, .int p1, .int p2, .int p3, .int p4] (mw ad 94 (ctT cI cJ cL cS ad active rests writers tbytes tlen dbytes dlen next known rec m_made m_sort m_digits m_slots m_pages m_highest m_units m_kinds m_rows m_marks q_active q_rests q_writers l_made l_sort l_digits l_slots l_pages l_highest l_units l_kinds l_rows l_marks)) (fun (u : (Nat → Int32) × Int32) => (mw ad 94 (ctT cI cJ cL cS ad active rests writers u.1 u.2 dbytes dlen next known rec m_made m_sort m_digits m_slots m_pages m_highest m_units m_kinds m_rows m_marks q_active q_rests q_writers l_made l_sort l_digits l_slots l_pages l_highest l_units l_kinds l_rows l_marks))) (fun (r : Int32) (u : (Nat → Int32) × Int32) => Q r u.1 u.2) 0 0 := by
  refine ctI_of (own := RX7) (by decide +kernel) rfl (Nat.le_of_ble_eq_true rfl) (fun p e s m below meth c A C => ?_)
  refine w_sub (lv' := [(0, .ref (ad 0)), (1, .int p0), (2, .int p1), (3, .int p2), (4, .int p3), (5, .int p4)]) C [0, 1, 2, 3, 4, 5] rfl ?_
  unfold wp_X7_feed at hw
  refine w_aload_n C 0 dX7_feed_0 rfl ?_
  refine w_get C (T1 := TX7) (0) 2 u_X7 k_213 rfl (by decide) (mw_at (by decide) rfl) rfl dX7_feed_1 ?_
  refine w_getN C (T1 := TX5) (4 + 0) 1 u_X5 n_119 rfl (by decide) (mw_at (by decide) rfl) rfl dX7_feed_4 ?_
  refine w_sipush C (v := (380 : Int32)) dX7_feed_7 (by decide) ?_
  refine w_icmp_le C 15 (by decide) dX7_feed_10 (fun c_10 => ?_) (fun c_10 => ?_)
  · replace hw := hw.1 c_10
    refine w_aload_n C 0 dX7_feed_15 rfl ?_
    refine w_get C (T1 := TX7) (0) 2 u_X7 k_213 rfl (by decide) (mw_at (by decide) rfl) rfl dX7_feed_16 ?_
    refine w_iload_n C 1 dX7_feed_19 rfl ?_
    refine w_callXV C (c_X5_appendInt (a := fun i => ad (4 + i)) hw) f_X5_appendInt k_233 k_231 rfl ⟨Nat.le_of_ble_eq_true rfl, Nat.le_of_ble_eq_true rfl⟩ rfl rfl ⟨Nat.le_of_ble_eq_true rfl, Nat.le_of_ble_eq_true rfl⟩ 0 rfl (rr := (RX5, TX5, 2)) rfl rfl (ad := ad) (N := 94) (plB) (wc_B (cB := cB)) lt_B nd_B (fun (u : (Nat → Int32) × Int32) => (ctT cI cJ cL cS ad active rests writers u.1 u.2 dbytes dlen next known rec m_made m_sort m_digits m_slots m_pages m_highest m_units m_kinds m_rows m_marks q_active q_rests q_writers l_made l_sort l_digits l_slots l_pages l_highest l_units l_kinds l_rows l_marks)) (fun _ => rfl) (fun _ n _ hn => rest_B n hn) rfl (Nat.le_of_ble_eq_true rfl) dX7_feed_20 (fun u_20 hw => ?_)
    obtain ⟨tbytes_20, tlen_20⟩ := u_20
    try dsimp only at hw
    refine w_aload_n C 0 dX7_feed_23 rfl ?_
    refine w_get C (T1 := TX7) (0) 2 u_X7 k_213 rfl (by decide) (mw_at (by decide) rfl) rfl dX7_feed_24 ?_
    refine w_iload_n C 2 dX7_feed_27 rfl ?_
    refine w_callXV C (c_X5_appendInt (a := fun i => ad (4 + i)) hw) f_X5_appendInt k_233 k_231 rfl ⟨Nat.le_of_ble_eq_true rfl, Nat.le_of_ble_eq_true rfl⟩ rfl rfl ⟨Nat.le_of_ble_eq_true rfl, Nat.le_of_ble_eq_true rfl⟩ 0 rfl (rr := (RX5, TX5, 2)) rfl rfl (ad := ad) (N := 94) (plB) (wc_B (cB := cB)) lt_B nd_B (fun (u : (Nat → Int32) × Int32) => (ctT cI cJ cL cS ad active rests writers u.1 u.2 dbytes dlen next known rec m_made m_sort m_digits m_slots m_pages m_highest m_units m_kinds m_rows m_marks q_active q_rests q_writers l_made l_sort l_digits l_slots l_pages l_highest l_units l_kinds l_rows l_marks)) (fun _ => rfl) (fun _ n _ hn => rest_B n hn) rfl (Nat.le_of_ble_eq_true rfl) dX7_feed_28 (fun u_28 hw => ?_)
    obtain ⟨tbytes_28, tlen_28⟩ := u_28
    try dsimp only at hw
    refine w_aload_n C 0 dX7_feed_31 rfl ?_
    refine w_get C (T1 := TX7) (0) 2 u_X7 k_213 rfl (by decide) (mw_at (by decide) rfl) rfl dX7_feed_32 ?_
    refine w_iload_n C 3 dX7_feed_35 rfl ?_
    refine w_callXV C (c_X5_appendInt (a := fun i => ad (4 + i)) hw) f_X5_appendInt k_233 k_231 rfl ⟨Nat.le_of_ble_eq_true rfl, Nat.le_of_ble_eq_true rfl⟩ rfl rfl ⟨Nat.le_of_ble_eq_true rfl, Nat.le_of_ble_eq_true rfl⟩ 0 rfl (rr := (RX5, TX5, 2)) rfl rfl (ad := ad) (N := 94) (plB) (wc_B (cB := cB)) lt_B nd_B (fun (u : (Nat → Int32) × Int32) => (ctT cI cJ cL cS ad active rests writers u.1 u.2 dbytes dlen next known rec m_made m_sort m_digits m_slots m_pages m_highest m_units m_kinds m_rows m_marks q_active q_rests q_writers l_made l_sort l_digits l_slots l_pages l_highest l_units l_kinds l_rows l_marks)) (fun _ => rfl) (fun _ n _ hn => rest_B n hn) rfl (Nat.le_of_ble_eq_true rfl) dX7_feed_36 (fun u_36 hw => ?_)
    obtain ⟨tbytes_36, tlen_36⟩ := u_36
    try dsimp only at hw
    refine w_aload_n C 0 dX7_feed_39 rfl ?_
    refine w_get C (T1 := TX7) (0) 2 u_X7 k_213 rfl (by decide) (mw_at (by decide) rfl) rfl dX7_feed_40 ?_
    refine w_iload C 4 dX7_feed_43 rfl ?_
    refine w_callXV C (c_X5_appendInt (a := fun i => ad (4 + i)) hw) f_X5_appendInt k_233 k_231 rfl ⟨Nat.le_of_ble_eq_true rfl, Nat.le_of_ble_eq_true rfl⟩ rfl rfl ⟨Nat.le_of_ble_eq_true rfl, Nat.le_of_ble_eq_true rfl⟩ 0 rfl (rr := (RX5, TX5, 2)) rfl rfl (ad := ad) (N := 94) (plB) (wc_B (cB := cB)) lt_B nd_B (fun (u : (Nat → Int32) × Int32) => (ctT cI cJ cL cS ad active rests writers u.1 u.2 dbytes dlen next known rec m_made m_sort m_digits m_slots m_pages m_highest m_units m_kinds m_rows m_marks q_active q_rests q_writers l_made l_sort l_digits l_slots l_pages l_highest l_units l_kinds l_rows l_marks)) (fun _ => rfl) (fun _ n _ hn => rest_B n hn) rfl (Nat.le_of_ble_eq_true rfl) dX7_feed_45 (fun u_45 hw => ?_)
    obtain ⟨tbytes_45, tlen_45⟩ := u_45
    try dsimp only at hw
    refine w_aload_n C 0 dX7_feed_48 rfl ?_
    refine w_get C (T1 := TX7) (0) 2 u_X7 k_213 rfl (by decide) (mw_at (by decide) rfl) rfl dX7_feed_49 ?_
    refine w_iload C 5 dX7_feed_52 rfl ?_
    refine w_callXV C (c_X5_appendInt (a := fun i => ad (4 + i)) hw) f_X5_appendInt k_233 k_231 rfl ⟨Nat.le_of_ble_eq_true rfl, Nat.le_of_ble_eq_true rfl⟩ rfl rfl ⟨Nat.le_of_ble_eq_true rfl, Nat.le_of_ble_eq_true rfl⟩ 0 rfl (rr := (RX5, TX5, 2)) rfl rfl (ad := ad) (N := 94) (plB) (wc_B (cB := cB)) lt_B nd_B (fun (u : (Nat → Int32) × Int32) => (ctT cI cJ cL cS ad active rests writers u.1 u.2 dbytes dlen next known rec m_made m_sort m_digits m_slots m_pages m_highest m_units m_kinds m_rows m_marks q_active q_rests q_writers l_made l_sort l_digits l_slots l_pages l_highest l_units l_kinds l_rows l_marks)) (fun _ => rfl) (fun _ n _ hn => rest_B n hn) rfl (Nat.le_of_ble_eq_true rfl) dX7_feed_54 (fun u_54 hw => ?_)
    obtain ⟨tbytes_54, tlen_54⟩ := u_54
    try dsimp only at hw
    refine w_aload_n C 0 dX7_feed_57 rfl ?_
    refine w_get C (T1 := TX7) (0) 2 u_X7 k_213 rfl (by decide) (mw_at (by decide) rfl) rfl dX7_feed_58 ?_
    refine w_getN C (T1 := TX5) (4 + 0) 1 u_X5 n_119 rfl (by decide) (mw_at (by decide) rfl) rfl dX7_feed_61 ?_
    exact w_iret C (tbytes_54, tlen_54) hw rfl (Nat.le_of_ble_eq_true rfl) (Nat.le_of_ble_eq_true rfl) dX7_feed_64
  · replace hw := hw.2 c_10
    refine w_iconst C (v := (-1 : Int32)) dX7_feed_13 (by decide) ?_
    exact w_iret C (tbytes, tlen) hw rfl (Nat.le_of_ble_eq_true rfl) (Nat.le_of_ble_eq_true rfl) dX7_feed_14
def wp_X7_end (p0 : Int32) (tlen : Int32) (Q : Int32 → Int32 → Prop) : Prop := ((p0 < 0 → (Q (-1 : Int32) tlen)) ∧ (¬ p0 < 0 → (((p0 ≤ tlen → (∀ tlen_22 : Int32, tlen_22 = p0 → Q p0 tlen_22)) ∧ (¬ p0 ≤ tlen → (Q (-1 : Int32) tlen))))))
set_option maxHeartbeats 4000000 in
set_option maxRecDepth 100000 in
theorem c_X7_end {l : Launch} {D : va_G} {cB cI cJ cL cS : ClassId} {T : Nat × Nat × Nat × Nat} {ad : Nat → Nat} {p0 : Int32} {active : Int32} {rests : Int32} {writers : Nat → Int32} {tbytes : Nat → Int32} {tlen : Int32} {dbytes : Nat → Int32} {dlen : Int32} {next : Int32} {known : Int32} {rec : Nat → Int32} {m_made : Nat → Int32} {m_sort : Nat → Int32} {m_digits : Nat → Int32} {m_slots : Nat → Int32} {m_pages : Nat → Int32} {m_highest : Nat → Int64} {m_units : Nat → Nat → Int64} {m_kinds : Nat → Nat → Int32} {m_rows : Nat → Nat → Int32} {m_marks : Nat → Nat → Int32} {q_active : Nat → Int32} {q_rests : Nat → Int32} {q_writers : Nat → Nat → Int32} {l_made : Nat → Int32} {l_sort : Nat → Int32} {l_digits : Nat → Int32} {l_slots : Nat → Int32} {l_pages : Nat → Int32} {l_highest : Nat → Int64} {l_units : Nat → Nat → Int64} {l_kinds : Nat → Nat → Int32} {l_rows : Nat → Nat → Int32} {l_marks : Nat → Nat → Int32} {Q : Int32 → Int32 → Prop} (hw : wp_X7_end p0 tlen Q) : CtI l D (Z5 cB cI cJ cL cS) T yX7_end cX7_end 2 ({ frames := 0, cells := 0, slots := 0, locals := 0 } : Room) (Option.some Jvm.ClassFile.FieldType.int) [.ref (ad 0), .int p0] (mw ad 94 (ctT cI cJ cL cS ad active rests writers tbytes tlen dbytes dlen next known rec m_made m_sort m_digits m_slots m_pages m_highest m_units m_kinds m_rows m_marks q_active q_rests q_writers l_made l_sort l_digits l_slots l_pages l_highest l_units l_kinds l_rows l_marks)) (fun (u : Int32) => (mw ad 94 (ctT cI cJ cL cS ad active rests writers tbytes u dbytes dlen next known rec m_made m_sort m_digits m_slots m_pages m_highest m_units m_kinds m_rows m_marks q_active q_rests q_writers l_made l_sort l_digits l_slots l_pages l_highest l_units l_kinds l_rows l_marks))) (fun (r : Int32) (u : Int32) => Q r u) 0 0 := by
  refine ctI_of (own := RX7) (by decide +kernel) rfl (Nat.le_of_ble_eq_true rfl) (fun p e s m below meth c A C => ?_)
  refine w_sub (lv' := [(0, .ref (ad 0)), (1, .int p0)]) C [0, 1] rfl ?_
  unfold wp_X7_end at hw
  refine w_iload_n C 1 dX7_end_0 rfl ?_
  refine w_if_lt C 15 (by decide) dX7_end_1 (fun c_1 => ?_) (fun c_1 => ?_)
  · replace hw := hw.1 c_1
    refine w_iconst C (v := (-1 : Int32)) dX7_end_15 (by decide) ?_
    exact w_iret C tlen hw rfl (Nat.le_of_ble_eq_true rfl) (Nat.le_of_ble_eq_true rfl) dX7_end_16
  · replace hw := hw.2 c_1
    refine w_iload_n C 1 dX7_end_4 rfl ?_
    refine w_aload_n C 0 dX7_end_5 rfl ?_
    refine w_get C (T1 := TX7) (0) 2 u_X7 k_213 rfl (by decide) (mw_at (by decide) rfl) rfl dX7_end_6 ?_
    refine w_getN C (T1 := TX5) (4 + 0) 1 u_X5 n_119 rfl (by decide) (mw_at (by decide) rfl) rfl dX7_end_9 ?_
    refine w_icmp_le C 17 (by decide) dX7_end_12 (fun c_12 => ?_) (fun c_12 => ?_)
    · replace hw := hw.1 c_12
      refine w_aload_n C 0 dX7_end_17 rfl ?_
      refine w_get C (T1 := TX7) (0) 2 u_X7 k_213 rfl (by decide) (mw_at (by decide) rfl) rfl dX7_end_18 ?_
      refine w_iload_n C 1 dX7_end_21 rfl ?_
      refine w_putiN C (T1 := TX5) (ty := .int) (4 + 0) 1 (fun z => (mw ad 94 (ctT cI cJ cL cS ad active rests writers tbytes z dbytes dlen next known rec m_made m_sort m_digits m_slots m_pages m_highest m_units m_kinds m_rows m_marks q_active q_rests q_writers l_made l_sort l_digits l_slots l_pages l_highest l_units l_kinds l_rows l_marks))) u_X5 tyX5 tyX5_ok nmX5 n_119 rfl (by decide) (mw_at (by decide) rfl) rfl (by decide +kernel) rfl rfl (Nat.le_of_ble_eq_true rfl) (fun _ => mw_set (by decide) rfl (fun m _ hm => put_B m hm)) dX7_end_22 (fun tlen_22 e_tlen_22 => ?_)
      replace hw := hw tlen_22 e_tlen_22
      refine w_iload_n C 1 dX7_end_25 rfl ?_
      exact w_iret C tlen_22 hw rfl (Nat.le_of_ble_eq_true rfl) (Nat.le_of_ble_eq_true rfl) dX7_end_26
    · replace hw := hw.2 c_12
      refine w_iconst C (v := (-1 : Int32)) dX7_end_15 (by decide) ?_
      exact w_iret C tlen hw rfl (Nat.le_of_ble_eq_true rfl) (Nat.le_of_ble_eq_true rfl) dX7_end_16
def wp_X7_octet (p0 : Int32) (tbytes : Nat → Int32) (tlen : Int32) (Q : Int32 → Prop) : Prop := wp_X5_byteAt p0 tbytes tlen (fun (r_5 : Int32) => Q r_5)
set_option maxHeartbeats 4000000 in
set_option maxRecDepth 100000 in
theorem c_X7_octet {l : Launch} {D : va_G} {cB cI cJ cL cS : ClassId} {T : Nat × Nat × Nat × Nat} {ad : Nat → Nat} {p0 : Int32} {active : Int32} {rests : Int32} {writers : Nat → Int32} {tbytes : Nat → Int32} {tlen : Int32} {dbytes : Nat → Int32} {dlen : Int32} {next : Int32} {known : Int32} {rec : Nat → Int32} {m_made : Nat → Int32} {m_sort : Nat → Int32} {m_digits : Nat → Int32} {m_slots : Nat → Int32} {m_pages : Nat → Int32} {m_highest : Nat → Int64} {m_units : Nat → Nat → Int64} {m_kinds : Nat → Nat → Int32} {m_rows : Nat → Nat → Int32} {m_marks : Nat → Nat → Int32} {q_active : Nat → Int32} {q_rests : Nat → Int32} {q_writers : Nat → Nat → Int32} {l_made : Nat → Int32} {l_sort : Nat → Int32} {l_digits : Nat → Int32} {l_slots : Nat → Int32} {l_pages : Nat → Int32} {l_highest : Nat → Int64} {l_units : Nat → Nat → Int64} {l_kinds : Nat → Nat → Int32} {l_rows : Nat → Nat → Int32} {l_marks : Nat → Nat → Int32} {Q : Int32 → Prop} (hw : wp_X7_octet p0 tbytes tlen Q) : CtI l D (Z5 cB cI cJ cL cS) T yX7_octet cX7_octet 2 ({ frames := 1, cells := 0, slots := 0, locals := 21 } : Room) (Option.some Jvm.ClassFile.FieldType.int) [.ref (ad 0), .int p0] (mw ad 94 (ctT cI cJ cL cS ad active rests writers tbytes tlen dbytes dlen next known rec m_made m_sort m_digits m_slots m_pages m_highest m_units m_kinds m_rows m_marks q_active q_rests q_writers l_made l_sort l_digits l_slots l_pages l_highest l_units l_kinds l_rows l_marks)) (fun (u : Unit) => (mw ad 94 (ctT cI cJ cL cS ad active rests writers tbytes tlen dbytes dlen next known rec m_made m_sort m_digits m_slots m_pages m_highest m_units m_kinds m_rows m_marks q_active q_rests q_writers l_made l_sort l_digits l_slots l_pages l_highest l_units l_kinds l_rows l_marks))) (fun (r : Int32) (u : Unit) => Q r ) 0 0 := by
  refine ctI_of (own := RX7) (by decide +kernel) rfl (Nat.le_of_ble_eq_true rfl) (fun p e s m below meth c A C => ?_)
  refine w_sub (lv' := [(0, .ref (ad 0)), (1, .int p0)]) C [0, 1] rfl ?_
  unfold wp_X7_octet at hw
  refine w_aload_n C 0 dX7_octet_0 rfl ?_
  refine w_get C (T1 := TX7) (0) 2 u_X7 k_213 rfl (by decide) (mw_at (by decide) rfl) rfl dX7_octet_1 ?_
  refine w_iload_n C 1 dX7_octet_4 rfl ?_
  refine w_callXI C (c_X5_byteAt (a := fun i => ad (4 + i)) hw) f_X5_byteAt k_249 k_247 rfl ⟨Nat.le_of_ble_eq_true rfl, Nat.le_of_ble_eq_true rfl⟩ rfl rfl ⟨Nat.le_of_ble_eq_true rfl, Nat.le_of_ble_eq_true rfl⟩ 0 rfl (rr := (RX5, TX5, 2)) rfl rfl (ad := ad) (N := 94) (plB) (wc_B (cB := cB)) lt_B nd_B (fun (u : Unit) => (ctT cI cJ cL cS ad active rests writers tbytes tlen dbytes dlen next known rec m_made m_sort m_digits m_slots m_pages m_highest m_units m_kinds m_rows m_marks q_active q_rests q_writers l_made l_sort l_digits l_slots l_pages l_highest l_units l_kinds l_rows l_marks)) (fun _ => rfl) (fun _ _ _ _ => rfl) rfl (Nat.le_of_ble_eq_true rfl) dX7_octet_5 (fun r_5 u_5 hw => ?_)
  try dsimp only at hw
  exact w_iret C () hw rfl (Nat.le_of_ble_eq_true rfl) (Nat.le_of_ble_eq_true rfl) dX7_octet_8
def wp_X7_ledgerAt (p0 : Int32)  (Q : Option Nat → Prop) : Prop := ((p0 < 0 → (Q none )) ∧ (¬ p0 < 0 → (((p0 < (4 : Int32) → ((vp_in p0 4) ∧ Q (some ((p0).toNatClampNeg)) )) ∧ (¬ p0 < (4 : Int32) → (Q none ))))))
set_option maxHeartbeats 4000000 in
set_option maxRecDepth 100000 in
theorem c_X7_ledgerAt {l : Launch} {D : va_G} {cB cI cJ cL cS : ClassId} {T : Nat × Nat × Nat × Nat} {ad : Nat → Nat} {p0 : Int32} {active : Int32} {rests : Int32} {writers : Nat → Int32} {tbytes : Nat → Int32} {tlen : Int32} {dbytes : Nat → Int32} {dlen : Int32} {next : Int32} {known : Int32} {rec : Nat → Int32} {m_made : Nat → Int32} {m_sort : Nat → Int32} {m_digits : Nat → Int32} {m_slots : Nat → Int32} {m_pages : Nat → Int32} {m_highest : Nat → Int64} {m_units : Nat → Nat → Int64} {m_kinds : Nat → Nat → Int32} {m_rows : Nat → Nat → Int32} {m_marks : Nat → Nat → Int32} {q_active : Nat → Int32} {q_rests : Nat → Int32} {q_writers : Nat → Nat → Int32} {l_made : Nat → Int32} {l_sort : Nat → Int32} {l_digits : Nat → Int32} {l_slots : Nat → Int32} {l_pages : Nat → Int32} {l_highest : Nat → Int64} {l_units : Nat → Nat → Int64} {l_kinds : Nat → Nat → Int32} {l_rows : Nat → Nat → Int32} {l_marks : Nat → Nat → Int32} {Q : Option Nat → Prop} (hw : wp_X7_ledgerAt p0  Q) : CtE l D (Z5 cB cI cJ cL cS) T yX7_ledgerAt cX7_ledgerAt 2 ({ frames := 0, cells := 0, slots := 0, locals := 0 } : Room) (Option.some (Jvm.ClassFile.FieldType.object "TailRecorder$Ledger")) [.ref (ad 0), .int p0] (mw ad 94 (ctT cI cJ cL cS ad active rests writers tbytes tlen dbytes dlen next known rec m_made m_sort m_digits m_slots m_pages m_highest m_units m_kinds m_rows m_marks q_active q_rests q_writers l_made l_sort l_digits l_slots l_pages l_highest l_units l_kinds l_rows l_marks)) (fun (u : Unit) => (mw ad 94 (ctT cI cJ cL cS ad active rests writers tbytes tlen dbytes dlen next known rec m_made m_sort m_digits m_slots m_pages m_highest m_units m_kinds m_rows m_marks q_active q_rests q_writers l_made l_sort l_digits l_slots l_pages l_highest l_units l_kinds l_rows l_marks))) (fun j => ad (74 + 5 * j + 0)) (fun (o : Option Nat) (u : Unit) => Q o  ∧ ∀ j : Nat, o = some j → j < 4) 0 0 := by
  refine ctE_of (own := RX7) (by decide +kernel) rfl (Nat.le_of_ble_eq_true rfl) (fun p e s m below meth c A C => ?_)
  refine w_sub (lv' := [(0, .ref (ad 0)), (1, .int p0)]) C [0, 1] rfl ?_
  unfold wp_X7_ledgerAt at hw
  refine w_iload_n C 1 dX7_ledgerAt_0 rfl ?_
  refine w_if_lt C 13 (by decide) dX7_ledgerAt_1 (fun c_1 => ?_) (fun c_1 => ?_)
  · replace hw := hw.1 c_1
    refine w_null C dX7_ledgerAt_13 ?_
    refine w_goto C 23 (by decide) dX7_ledgerAt_14 ?_
    exact w_eret C (Or.inl ⟨_, rfl⟩) none () ⟨hw, fun j h => by cases h⟩ rfl rfl (Nat.le_of_ble_eq_true rfl) (Nat.le_of_ble_eq_true rfl) dX7_ledgerAt_23
  · replace hw := hw.2 c_1
    refine w_iload_n C 1 dX7_ledgerAt_4 rfl ?_
    refine w_aload_n C 0 dX7_ledgerAt_5 rfl ?_
    refine w_get C (T1 := TX7) (0) 0 u_X7 k_211 rfl (by decide) (mw_at (by decide) rfl) rfl dX7_ledgerAt_6 ?_
    refine w_alen C (v := (4 : Int32)) 1 3 (mw_at (by decide) rfl) rfl rfl dX7_ledgerAt_9 ?_
    refine w_icmp_lt C 17 (by decide) dX7_ledgerAt_10 (fun c_10 => ?_) (fun c_10 => ?_)
    · replace hw := hw.1 c_10
      refine w_aload_n C 0 dX7_ledgerAt_17 rfl ?_
      refine w_get C (T1 := TX7) (0) 0 u_X7 k_211 rfl (by decide) (mw_at (by decide) rfl) rfl dX7_ledgerAt_18 ?_
      refine w_iload_n C 1 dX7_ledgerAt_21 rfl ?_
      obtain ⟨hi_22, hw⟩ := hw
      have hb_22 := vp_lt hi_22
      refine w_aaload C (v := .ref (ad (74 + 5 * (p0).toNatClampNeg + 0))) 1 3 (mw_at (by decide) rfl) rfl hi_22 rfl dX7_ledgerAt_22 ?_
      exact w_eret C (Or.inl ⟨_, rfl⟩) (some ((p0).toNatClampNeg)) () ⟨hw, fun j h => by cases h; assumption⟩ rfl rfl (Nat.le_of_ble_eq_true rfl) (Nat.le_of_ble_eq_true rfl) dX7_ledgerAt_23
    · replace hw := hw.2 c_10
      refine w_null C dX7_ledgerAt_13 ?_
      refine w_goto C 23 (by decide) dX7_ledgerAt_14 ?_
      exact w_eret C (Or.inl ⟨_, rfl⟩) none () ⟨hw, fun j h => by cases h⟩ rfl rfl (Nat.le_of_ble_eq_true rfl) (Nat.le_of_ble_eq_true rfl) dX7_ledgerAt_23
def wp_X7_madeAt (p0 : Int32) (l_made : Nat → Int32) (Q : Option Nat → Prop) : Prop := wp_X7_ledgerAt p0  (fun (r_2 : Option Nat) => ((r_2 = none → (Q none )) ∧ (∀ j_2 : Nat, r_2 = some j_2 → (((¬ (l_made j_2) = 0 → (Q (some j_2) )) ∧ ((l_made j_2) = 0 → (Q none )))))))
set_option maxHeartbeats 4000000 in
set_option maxRecDepth 100000 in
theorem c_X7_madeAt {l : Launch} {D : va_G} {cB cI cJ cL cS : ClassId} {T : Nat × Nat × Nat × Nat} {ad : Nat → Nat} {p0 : Int32} {active : Int32} {rests : Int32} {writers : Nat → Int32} {tbytes : Nat → Int32} {tlen : Int32} {dbytes : Nat → Int32} {dlen : Int32} {next : Int32} {known : Int32} {rec : Nat → Int32} {m_made : Nat → Int32} {m_sort : Nat → Int32} {m_digits : Nat → Int32} {m_slots : Nat → Int32} {m_pages : Nat → Int32} {m_highest : Nat → Int64} {m_units : Nat → Nat → Int64} {m_kinds : Nat → Nat → Int32} {m_rows : Nat → Nat → Int32} {m_marks : Nat → Nat → Int32} {q_active : Nat → Int32} {q_rests : Nat → Int32} {q_writers : Nat → Nat → Int32} {l_made : Nat → Int32} {l_sort : Nat → Int32} {l_digits : Nat → Int32} {l_slots : Nat → Int32} {l_pages : Nat → Int32} {l_highest : Nat → Int64} {l_units : Nat → Nat → Int64} {l_kinds : Nat → Nat → Int32} {l_rows : Nat → Nat → Int32} {l_marks : Nat → Nat → Int32} {Q : Option Nat → Prop} (hw : wp_X7_madeAt p0 l_made Q) : CtE l D (Z5 cB cI cJ cL cS) T yX7_madeAt cX7_madeAt 3 ({ frames := 1, cells := 0, slots := 0, locals := 21 } : Room) (Option.some (Jvm.ClassFile.FieldType.object "TailRecorder$Ledger")) [.ref (ad 0), .int p0] (mw ad 94 (ctT cI cJ cL cS ad active rests writers tbytes tlen dbytes dlen next known rec m_made m_sort m_digits m_slots m_pages m_highest m_units m_kinds m_rows m_marks q_active q_rests q_writers l_made l_sort l_digits l_slots l_pages l_highest l_units l_kinds l_rows l_marks)) (fun (u : Unit) => (mw ad 94 (ctT cI cJ cL cS ad active rests writers tbytes tlen dbytes dlen next known rec m_made m_sort m_digits m_slots m_pages m_highest m_units m_kinds m_rows m_marks q_active q_rests q_writers l_made l_sort l_digits l_slots l_pages l_highest l_units l_kinds l_rows l_marks))) (fun j => ad (74 + 5 * j + 0)) (fun (o : Option Nat) (u : Unit) => Q o  ∧ ∀ j : Nat, o = some j → j < 4) 0 0 := by
  refine ctE_of (own := RX7) (by decide +kernel) rfl (Nat.le_of_ble_eq_true rfl) (fun p e s m below meth c A C => ?_)
  refine w_sub (lv' := [(0, .ref (ad 0)), (1, .int p0)]) C [0, 1] rfl ?_
  unfold wp_X7_madeAt at hw
  refine w_aload_n C 0 dX7_madeAt_0 rfl ?_
  refine w_iload_n C 1 dX7_madeAt_1 rfl ?_
  refine w_callVE C (c_X7_ledgerAt (ad := ad) hw) f_X7_ledgerAt k_1 k_259 rfl ⟨Nat.le_of_ble_eq_true rfl, Nat.le_of_ble_eq_true rfl⟩ rfl rfl ⟨Nat.le_of_ble_eq_true rfl, Nat.le_of_ble_eq_true rfl⟩ 0 (mw_at (by decide) rfl) (rr := (RX7, TX7, 5)) rfl rfl (fun _ => mw_addr) rfl (Nat.le_of_ble_eq_true rfl) dX7_madeAt_2 (fun r_2 u_2 hw => ?_)
  obtain ⟨hw, hb_2⟩ := hw
  try dsimp only at hw
  cases r_2 with
  | none =>
    replace hw := hw.1 rfl
    refine w_astore_nN C [(2, .null), (0, .ref (ad 0)), (1, .int p0)] dX7_madeAt_5 (by decide) rfl ?_
    refine w_aload_nN C 0 dX7_madeAt_6 rfl ?_
    refine w_ifnullN C 17 (by decide) dX7_madeAt_7 ?_
    refine w_null C dX7_madeAt_17 ?_
    refine w_goto C 22 (by decide) dX7_madeAt_18 ?_
    exact w_eret C (Or.inl ⟨_, rfl⟩) none () ⟨hw, fun j h => by cases h⟩ rfl rfl (Nat.le_of_ble_eq_true rfl) (Nat.le_of_ble_eq_true rfl) dX7_madeAt_22
  | some j_2 =>
    replace hw := hw.2 j_2 rfl
    have hb_2 := hb_2 j_2 rfl
    refine w_astore_n C [(2, .ref (ad (74 + 5 * j_2 + 0))), (0, .ref (ad 0)), (1, .int p0)] dX7_madeAt_5 (by decide) rfl ?_
    refine w_aload_n C 0 dX7_madeAt_6 rfl ?_
    refine w_ifnull C dX7_madeAt_7 ?_
    refine w_aload_n C 0 dX7_madeAt_10 rfl ?_
    refine w_getN C (T1 := TX1) (74 + 5 * j_2 + 0) 0 u_X1 n_147 rfl (by decide) (mw_at (by omega) (ct_L0 j_2)) rfl dX7_madeAt_11 ?_
    refine w_if_ne C 21 (by decide) dX7_madeAt_14 (fun c_14 => ?_) (fun c_14 => ?_)
    · replace hw := hw.1 c_14
      refine w_aload_n C 0 dX7_madeAt_21 rfl ?_
      exact w_eret C (Or.inl ⟨_, rfl⟩) (some j_2) () ⟨hw, fun j h => by cases h; assumption⟩ rfl rfl (Nat.le_of_ble_eq_true rfl) (Nat.le_of_ble_eq_true rfl) dX7_madeAt_22
    · replace hw := hw.2 c_14
      refine w_null C dX7_madeAt_17 ?_
      refine w_goto C 22 (by decide) dX7_madeAt_18 ?_
      exact w_eret C (Or.inl ⟨_, rfl⟩) none () ⟨hw, fun j h => by cases h⟩ rfl rfl (Nat.le_of_ble_eq_true rfl) (Nat.le_of_ble_eq_true rfl) dX7_madeAt_22
def wp_X7_pack (p0 : Int32) (tbytes : Nat → Int32) (tlen : Int32) (dbytes : Nat → Int32) (dlen : Int32) (l_made : Nat → Int32) (l_sort : Nat → Int32) (l_digits : Nat → Int32) (l_slots : Nat → Int32) (l_pages : Nat → Int32) (l_highest : Nat → Int64) (l_units : Nat → Nat → Int64) (l_kinds : Nat → Nat → Int32) (Q : Int32 → (Nat → Int32) → Int32 → (Nat → Int32) → Int32 → Prop) : Prop := wp_X7_madeAt p0 l_made (fun (r_2 : Option Nat) => ((r_2 = none → (Q (-1 : Int32) tbytes tlen dbytes dlen)) ∧ (∀ j_2 : Nat, r_2 = some j_2 → (∀ dlen_17 : Int32, dlen_17 = (0 : Int32) → wp_X1_packTo  (l_sort j_2) (l_digits j_2) (l_slots j_2) (l_pages j_2) (l_highest j_2) (l_units j_2) (l_kinds j_2) dbytes dlen_17 (fun (r_25 : Int32) (dbytes_25 : Nat → Int32) (dlen_25 : Int32) => ((¬ r_25 = 0 → (wp_X5_become  tbytes tlen dbytes_25 dlen_25 (fun (tbytes_42 : Nat → Int32) (tlen_42 : Int32) => Q tlen_42 tbytes_42 tlen_42 dbytes_25 dlen_25))) ∧ (r_25 = 0 → (Q (-2 : Int32) tbytes tlen dbytes_25 dlen_25))))))))
set_option maxHeartbeats 4000000 in
set_option maxRecDepth 100000 in
theorem c_X7_pack {l : Launch} {D : va_G} {cB cI cJ cL cS : ClassId} {T : Nat × Nat × Nat × Nat} {ad : Nat → Nat} {p0 : Int32} {active : Int32} {rests : Int32} {writers : Nat → Int32} {tbytes : Nat → Int32} {tlen : Int32} {dbytes : Nat → Int32} {dlen : Int32} {next : Int32} {known : Int32} {rec : Nat → Int32} {m_made : Nat → Int32} {m_sort : Nat → Int32} {m_digits : Nat → Int32} {m_slots : Nat → Int32} {m_pages : Nat → Int32} {m_highest : Nat → Int64} {m_units : Nat → Nat → Int64} {m_kinds : Nat → Nat → Int32} {m_rows : Nat → Nat → Int32} {m_marks : Nat → Nat → Int32} {q_active : Nat → Int32} {q_rests : Nat → Int32} {q_writers : Nat → Nat → Int32} {l_made : Nat → Int32} {l_sort : Nat → Int32} {l_digits : Nat → Int32} {l_slots : Nat → Int32} {l_pages : Nat → Int32} {l_highest : Nat → Int64} {l_units : Nat → Nat → Int64} {l_kinds : Nat → Nat → Int32} {l_rows : Nat → Nat → Int32} {l_marks : Nat → Nat → Int32} {Q : Int32 → (Nat → Int32) → Int32 → (Nat → Int32) → Int32 → Prop} (hw : wp_X7_pack p0 tbytes tlen dbytes dlen l_made l_sort l_digits l_slots l_pages l_highest l_units l_kinds Q) : CtI l D (Z5 cB cI cJ cL cS) T yX7_pack cX7_pack 3 ({ frames := 4, cells := 0, slots := 0, locals := 103 } : Room) (Option.some Jvm.ClassFile.FieldType.int) [.ref (ad 0), .int p0] (mw ad 94 (ctT cI cJ cL cS ad active rests writers tbytes tlen dbytes dlen next known rec m_made m_sort m_digits m_slots m_pages m_highest m_units m_kinds m_rows m_marks q_active q_rests q_writers l_made l_sort l_digits l_slots l_pages l_highest l_units l_kinds l_rows l_marks)) (fun (u : (Nat → Int32) × Int32 × (Nat → Int32) × Int32) => (mw ad 94 (ctT cI cJ cL cS ad active rests writers u.1 u.2.1 u.2.2.1 u.2.2.2 next known rec m_made m_sort m_digits m_slots m_pages m_highest m_units m_kinds m_rows m_marks q_active q_rests q_writers l_made l_sort l_digits l_slots l_pages l_highest l_units l_kinds l_rows l_marks))) (fun (r : Int32) (u : (Nat → Int32) × Int32 × (Nat → Int32) × Int32) => Q r u.1 u.2.1 u.2.2.1 u.2.2.2) 0 0 := by
  refine ctI_of (own := RX7) (by decide +kernel) rfl (Nat.le_of_ble_eq_true rfl) (fun p e s m below meth c A C => ?_)
  refine w_sub (lv' := [(0, .ref (ad 0)), (1, .int p0)]) C [0, 1] rfl ?_
  unfold wp_X7_pack at hw
  refine w_aload_n C 0 dX7_pack_0 rfl ?_
  refine w_iload_n C 1 dX7_pack_1 rfl ?_
  refine w_callVE C (c_X7_madeAt (ad := ad) hw) f_X7_madeAt k_0 k_255 rfl ⟨Nat.le_of_ble_eq_true rfl, Nat.le_of_ble_eq_true rfl⟩ rfl rfl ⟨Nat.le_of_ble_eq_true rfl, Nat.le_of_ble_eq_true rfl⟩ 0 (mw_at (by decide) rfl) (rr := (RX7, TX7, 5)) rfl rfl (fun _ => mw_addr) rfl (Nat.le_of_ble_eq_true rfl) dX7_pack_2 (fun r_2 u_2 hw => ?_)
  obtain ⟨hw, hb_2⟩ := hw
  try dsimp only at hw
  cases r_2 with
  | none =>
    replace hw := hw.1 rfl
    refine w_astore_nN C [(2, .null), (0, .ref (ad 0)), (1, .int p0)] dX7_pack_5 (by decide) rfl ?_
    refine w_aload_nN C 0 dX7_pack_6 rfl ?_
    refine w_ifnonnullN C dX7_pack_7 ?_
    refine w_iconst C (v := (-1 : Int32)) dX7_pack_10 (by decide) ?_
    exact w_iret C (tbytes, tlen, dbytes, dlen) hw rfl (Nat.le_of_ble_eq_true rfl) (Nat.le_of_ble_eq_true rfl) dX7_pack_11
  | some j_2 =>
    replace hw := hw.2 j_2 rfl
    have hb_2 := hb_2 j_2 rfl
    refine w_astore_n C [(2, .ref (ad (74 + 5 * j_2 + 0))), (0, .ref (ad 0)), (1, .int p0)] dX7_pack_5 (by decide) rfl ?_
    refine w_aload_n C 0 dX7_pack_6 rfl ?_
    refine w_ifnonnull C 12 (by decide) dX7_pack_7 ?_
    refine w_aload_n C 1 dX7_pack_12 rfl ?_
    refine w_get C (T1 := TX7) (0) 3 u_X7 k_214 rfl (by decide) (mw_at (by decide) rfl) rfl dX7_pack_13 ?_
    refine w_iconst C (v := (0 : Int32)) dX7_pack_16 (by decide) ?_
    refine w_putiN C (T1 := TX5) (ty := .int) (6 + 0) 1 (fun z => (mw ad 94 (ctT cI cJ cL cS ad active rests writers tbytes tlen dbytes z next known rec m_made m_sort m_digits m_slots m_pages m_highest m_units m_kinds m_rows m_marks q_active q_rests q_writers l_made l_sort l_digits l_slots l_pages l_highest l_units l_kinds l_rows l_marks))) u_X5 tyX5 tyX5_ok nmX5 n_119 rfl (by decide) (mw_at (by decide) rfl) rfl (by decide +kernel) rfl rfl (Nat.le_of_ble_eq_true rfl) (fun _ => mw_set (by decide) rfl (fun m _ hm => put_E m hm)) dX7_pack_17 (fun dlen_17 e_dlen_17 => ?_)
    replace hw := hw dlen_17 e_dlen_17
    refine w_aload_n C 0 dX7_pack_20 rfl ?_
    refine w_aload_n C 1 dX7_pack_21 rfl ?_
    refine w_get C (T1 := TX7) (0) 3 u_X7 k_214 rfl (by decide) (mw_at (by decide) rfl) rfl dX7_pack_22 ?_
    refine w_callXI C (c_X1_packTo (a := fun i => ad (74 + 5 * j_2 + i)) (t := fun i => ad (6 + i)) hw) f_X1_packTo k_265 k_263 rfl ⟨Nat.le_of_ble_eq_true rfl, Nat.le_of_ble_eq_true rfl⟩ rfl rfl ⟨Nat.le_of_ble_eq_true rfl, Nat.le_of_ble_eq_true rfl⟩ 0 rfl (rr := (RX1, TX1, 10)) rfl rfl (ad := ad) (N := 94) ((plL j_2) ++ plE) (by rw [List.map_append, wc_L (cB := cB) j_2, wc_E (cB := cB)]) (lt_app (lt_L (by assumption)) lt_E) nd_LE (fun (u : (Nat → Int32) × Int32) => (ctT cI cJ cL cS ad active rests writers tbytes tlen u.1 u.2 next known rec m_made m_sort m_digits m_slots m_pages m_highest m_units m_kinds m_rows m_marks q_active q_rests q_writers l_made l_sort l_digits l_slots l_pages l_highest l_units l_kinds l_rows l_marks)) (fun _ => by rw [List.map_append, wc_L (cB := cB) j_2, wc_E (cB := cB)]; first | done | (simp only [va_up_self]; done) | rfl) (fun _ n _ hn => rest_E n (fun h => hn (List.mem_append_right _ h))) rfl (Nat.le_of_ble_eq_true rfl) dX7_pack_25 (fun r_25 u_25 hw => ?_)
    obtain ⟨dbytes_25, dlen_25⟩ := u_25
    try dsimp only at hw
    refine w_if_ne C 34 (by decide) dX7_pack_28 (fun c_28 => ?_) (fun c_28 => ?_)
    · replace hw := hw.1 c_28
      refine w_aload_n C 1 dX7_pack_34 rfl ?_
      refine w_get C (T1 := TX7) (0) 2 u_X7 k_213 rfl (by decide) (mw_at (by decide) rfl) rfl dX7_pack_35 ?_
      refine w_aload_n C 1 dX7_pack_38 rfl ?_
      refine w_get C (T1 := TX7) (0) 3 u_X7 k_214 rfl (by decide) (mw_at (by decide) rfl) rfl dX7_pack_39 ?_
      refine w_callXV C (c_X5_become (a := fun i => ad (4 + i)) (b := fun i => ad (6 + i)) hw) f_X5_become k_295 k_293 rfl ⟨Nat.le_of_ble_eq_true rfl, Nat.le_of_ble_eq_true rfl⟩ rfl rfl ⟨Nat.le_of_ble_eq_true rfl, Nat.le_of_ble_eq_true rfl⟩ 0 rfl (rr := (RX5, TX5, 2)) rfl rfl (ad := ad) (N := 94) (plB ++ plE) (by rw [List.map_append, wc_B (cB := cB), wc_E (cB := cB)]) (lt_app lt_B lt_E) nd_BE (fun (u : (Nat → Int32) × Int32) => (ctT cI cJ cL cS ad active rests writers u.1 u.2 dbytes_25 dlen_25 next known rec m_made m_sort m_digits m_slots m_pages m_highest m_units m_kinds m_rows m_marks q_active q_rests q_writers l_made l_sort l_digits l_slots l_pages l_highest l_units l_kinds l_rows l_marks)) (fun _ => rfl) (fun _ n _ hn => rest_B n (fun h => hn (List.mem_append_left _ h))) rfl (Nat.le_of_ble_eq_true rfl) dX7_pack_42 (fun u_42 hw => ?_)
      obtain ⟨tbytes_42, tlen_42⟩ := u_42
      try dsimp only at hw
      refine w_aload_n C 1 dX7_pack_45 rfl ?_
      refine w_get C (T1 := TX7) (0) 2 u_X7 k_213 rfl (by decide) (mw_at (by decide) rfl) rfl dX7_pack_46 ?_
      refine w_getN C (T1 := TX5) (4 + 0) 1 u_X5 n_119 rfl (by decide) (mw_at (by decide) rfl) rfl dX7_pack_49 ?_
      exact w_iret C (tbytes_42, tlen_42, dbytes_25, dlen_25) hw rfl (Nat.le_of_ble_eq_true rfl) (Nat.le_of_ble_eq_true rfl) dX7_pack_52
    · replace hw := hw.2 c_28
      refine w_bipush C (v := (-2 : Int32)) dX7_pack_31 (by decide) ?_
      exact w_iret C (tbytes, tlen, dbytes_25, dlen_25) hw rfl (Nat.le_of_ble_eq_true rfl) (Nat.le_of_ble_eq_true rfl) dX7_pack_33
def wp_X0_stepAt (p0 : Int32)  (Q : Option Nat → Prop) : Prop := ((p0 < 0 → (Q none )) ∧ (¬ p0 < 0 → (((p0 < (8 : Int32) → ((vp_in p0 8) ∧ Q (some ((p0).toNatClampNeg)) )) ∧ (¬ p0 < (8 : Int32) → (Q none ))))))
set_option maxHeartbeats 4000000 in
set_option maxRecDepth 100000 in
theorem c_X0_stepAt {l : Launch} {D : va_G} {cB cI cJ cL cS : ClassId} {T : Nat × Nat × Nat × Nat} {ad : Nat → Nat} {p0 : Int32} {active : Int32} {rests : Int32} {writers : Nat → Int32} {tbytes : Nat → Int32} {tlen : Int32} {dbytes : Nat → Int32} {dlen : Int32} {next : Int32} {known : Int32} {rec : Nat → Int32} {m_made : Nat → Int32} {m_sort : Nat → Int32} {m_digits : Nat → Int32} {m_slots : Nat → Int32} {m_pages : Nat → Int32} {m_highest : Nat → Int64} {m_units : Nat → Nat → Int64} {m_kinds : Nat → Nat → Int32} {m_rows : Nat → Nat → Int32} {m_marks : Nat → Nat → Int32} {q_active : Nat → Int32} {q_rests : Nat → Int32} {q_writers : Nat → Nat → Int32} {l_made : Nat → Int32} {l_sort : Nat → Int32} {l_digits : Nat → Int32} {l_slots : Nat → Int32} {l_pages : Nat → Int32} {l_highest : Nat → Int64} {l_units : Nat → Nat → Int64} {l_kinds : Nat → Nat → Int32} {l_rows : Nat → Nat → Int32} {l_marks : Nat → Nat → Int32} {Q : Option Nat → Prop} (hw : wp_X0_stepAt p0  Q) : CtE l D (Z5 cB cI cJ cL cS) T yX0_stepAt cX0_stepAt 2 ({ frames := 0, cells := 0, slots := 0, locals := 0 } : Room) (Option.some (Jvm.ClassFile.FieldType.object "TailRecorder$Step")) [.ref (ad 8), .int p0] (mw ad 94 (ctT cI cJ cL cS ad active rests writers tbytes tlen dbytes dlen next known rec m_made m_sort m_digits m_slots m_pages m_highest m_units m_kinds m_rows m_marks q_active q_rests q_writers l_made l_sort l_digits l_slots l_pages l_highest l_units l_kinds l_rows l_marks)) (fun (u : Unit) => (mw ad 94 (ctT cI cJ cL cS ad active rests writers tbytes tlen dbytes dlen next known rec m_made m_sort m_digits m_slots m_pages m_highest m_units m_kinds m_rows m_marks q_active q_rests q_writers l_made l_sort l_digits l_slots l_pages l_highest l_units l_kinds l_rows l_marks))) (fun j => ad (10 + 8 * j + 0)) (fun (o : Option Nat) (u : Unit) => Q o  ∧ ∀ j : Nat, o = some j → j < 8) 0 0 := by
  refine ctE_of (own := RX0) (by decide +kernel) rfl (Nat.le_of_ble_eq_true rfl) (fun p e s m below meth c A C => ?_)
  refine w_sub (lv' := [(0, .ref (ad 8)), (1, .int p0)]) C [0, 1] rfl ?_
  unfold wp_X0_stepAt at hw
  refine w_iload_n C 1 dX0_stepAt_0 rfl ?_
  refine w_if_lt C 13 (by decide) dX0_stepAt_1 (fun c_1 => ?_) (fun c_1 => ?_)
  · replace hw := hw.1 c_1
    refine w_null C dX0_stepAt_13 ?_
    refine w_goto C 23 (by decide) dX0_stepAt_14 ?_
    exact w_eret C (Or.inl ⟨_, rfl⟩) none () ⟨hw, fun j h => by cases h⟩ rfl rfl (Nat.le_of_ble_eq_true rfl) (Nat.le_of_ble_eq_true rfl) dX0_stepAt_23
  · replace hw := hw.2 c_1
    refine w_iload_n C 1 dX0_stepAt_4 rfl ?_
    refine w_aload_n C 0 dX0_stepAt_5 rfl ?_
    refine w_get C (T1 := TX0) (8) 0 u_X0 k_199 rfl (by decide) (mw_at (by decide) rfl) rfl dX0_stepAt_6 ?_
    refine w_alen C (v := (8 : Int32)) 9 4 (mw_at (by decide) rfl) rfl rfl dX0_stepAt_9 ?_
    refine w_icmp_lt C 17 (by decide) dX0_stepAt_10 (fun c_10 => ?_) (fun c_10 => ?_)
    · replace hw := hw.1 c_10
      refine w_aload_n C 0 dX0_stepAt_17 rfl ?_
      refine w_get C (T1 := TX0) (8) 0 u_X0 k_199 rfl (by decide) (mw_at (by decide) rfl) rfl dX0_stepAt_18 ?_
      refine w_iload_n C 1 dX0_stepAt_21 rfl ?_
      obtain ⟨hi_22, hw⟩ := hw
      have hb_22 := vp_lt hi_22
      refine w_aaload C (v := .ref (ad (10 + 8 * (p0).toNatClampNeg + 0))) 9 4 (mw_at (by decide) rfl) rfl hi_22 rfl dX0_stepAt_22 ?_
      exact w_eret C (Or.inl ⟨_, rfl⟩) (some ((p0).toNatClampNeg)) () ⟨hw, fun j h => by cases h; assumption⟩ rfl rfl (Nat.le_of_ble_eq_true rfl) (Nat.le_of_ble_eq_true rfl) dX0_stepAt_23
    · replace hw := hw.2 c_10
      refine w_null C dX0_stepAt_13 ?_
      refine w_goto C 23 (by decide) dX0_stepAt_14 ?_
      exact w_eret C (Or.inl ⟨_, rfl⟩) none () ⟨hw, fun j h => by cases h⟩ rfl rfl (Nat.le_of_ble_eq_true rfl) (Nat.le_of_ble_eq_true rfl) dX0_stepAt_23
def wp_X0_another  (next : Int32) (known : Int32) (Q : Option Nat → Int32 → Int32 → Prop) : Prop := wp_X0_stepAt next  (fun (r_5 : Option Nat) => ((r_5 = none → (∀ next_19 : Int32, next_19 = ((next + (1 : Int32)) - (next + (1 : Int32)) / (8 : Int32) * (8 : Int32)) → ∀ known_34 : Int32, known_34 = (if (8 : Int32) < (known + (1 : Int32)) then (8 : Int32) else (known + (1 : Int32))) → Q none next_19 known_34)) ∧ (∀ j_5 : Nat, r_5 = some j_5 → (∀ next_19 : Int32, next_19 = ((next + (1 : Int32)) - (next + (1 : Int32)) / (8 : Int32) * (8 : Int32)) → ∀ known_34 : Int32, known_34 = (if (8 : Int32) < (known + (1 : Int32)) then (8 : Int32) else (known + (1 : Int32))) → Q (some j_5) next_19 known_34))))
set_option maxHeartbeats 4000000 in
set_option maxRecDepth 100000 in
theorem c_X0_another {l : Launch} {D : va_G} {cB cI cJ cL cS : ClassId} {T : Nat × Nat × Nat × Nat} {ad : Nat → Nat}  {active : Int32} {rests : Int32} {writers : Nat → Int32} {tbytes : Nat → Int32} {tlen : Int32} {dbytes : Nat → Int32} {dlen : Int32} {next : Int32} {known : Int32} {rec : Nat → Int32} {m_made : Nat → Int32} {m_sort : Nat → Int32} {m_digits : Nat → Int32} {m_slots : Nat → Int32} {m_pages : Nat → Int32} {m_highest : Nat → Int64} {m_units : Nat → Nat → Int64} {m_kinds : Nat → Nat → Int32} {m_rows : Nat → Nat → Int32} {m_marks : Nat → Nat → Int32} {q_active : Nat → Int32} {q_rests : Nat → Int32} {q_writers : Nat → Nat → Int32} {l_made : Nat → Int32} {l_sort : Nat → Int32} {l_digits : Nat → Int32} {l_slots : Nat → Int32} {l_pages : Nat → Int32} {l_highest : Nat → Int64} {l_units : Nat → Nat → Int64} {l_kinds : Nat → Nat → Int32} {l_rows : Nat → Nat → Int32} {l_marks : Nat → Nat → Int32} {Q : Option Nat → Int32 → Int32 → Prop} (hw : wp_X0_another  next known Q) : CtE l D (Z5 cB cI cJ cL cS) T yX0_another cX0_another 2 ({ frames := 1, cells := 0, slots := 0, locals := 32 } : Room) (Option.some (Jvm.ClassFile.FieldType.object "TailRecorder$Step")) [.ref (ad 8)] (mw ad 94 (ctT cI cJ cL cS ad active rests writers tbytes tlen dbytes dlen next known rec m_made m_sort m_digits m_slots m_pages m_highest m_units m_kinds m_rows m_marks q_active q_rests q_writers l_made l_sort l_digits l_slots l_pages l_highest l_units l_kinds l_rows l_marks)) (fun (u : Int32 × Int32) => (mw ad 94 (ctT cI cJ cL cS ad active rests writers tbytes tlen dbytes dlen u.1 u.2 rec m_made m_sort m_digits m_slots m_pages m_highest m_units m_kinds m_rows m_marks q_active q_rests q_writers l_made l_sort l_digits l_slots l_pages l_highest l_units l_kinds l_rows l_marks))) (fun j => ad (10 + 8 * j + 0)) (fun (o : Option Nat) (u : Int32 × Int32) => Q o u.1 u.2 ∧ ∀ j : Nat, o = some j → j < 8) 0 0 := by
  refine ctE_of (own := RX0) (by decide +kernel) rfl (Nat.le_of_ble_eq_true rfl) (fun p e s m below meth c A C => ?_)
  refine w_sub (lv' := [(0, .ref (ad 8))]) C [0] rfl ?_
  unfold wp_X0_another at hw
  refine w_aload_n C 0 dX0_another_0 rfl ?_
  refine w_aload_n C 0 dX0_another_1 rfl ?_
  refine w_get C (T1 := TX0) (8) 1 u_X0 k_200 rfl (by decide) (mw_at (by decide) rfl) rfl dX0_another_2 ?_
  refine w_callVE C (c_X0_stepAt (ad := ad) hw) f_X0_stepAt k_9 k_394 rfl ⟨Nat.le_of_ble_eq_true rfl, Nat.le_of_ble_eq_true rfl⟩ rfl rfl ⟨Nat.le_of_ble_eq_true rfl, Nat.le_of_ble_eq_true rfl⟩ 8 (mw_at (by decide) rfl) (rr := (RX0, TX0, 3)) rfl rfl (fun _ => mw_addr) rfl (Nat.le_of_ble_eq_true rfl) dX0_another_5 (fun r_5 u_5 hw => ?_)
  obtain ⟨hw, hb_5⟩ := hw
  try dsimp only at hw
  cases r_5 with
  | none =>
    replace hw := hw.1 rfl
    refine w_astore_nN C [(1, .null), (0, .ref (ad 8))] dX0_another_8 (by decide) rfl ?_
    refine w_aload_n C 1 dX0_another_9 rfl ?_
    refine w_aload_n C 1 dX0_another_10 rfl ?_
    refine w_get C (T1 := TX0) (8) 1 u_X0 k_200 rfl (by decide) (mw_at (by decide) rfl) rfl dX0_another_11 ?_
    refine w_iconst C (v := (1 : Int32)) dX0_another_14 (by decide) ?_
    refine w_iadd C dX0_another_15 ?_
    refine w_bipush C (v := (8 : Int32)) dX0_another_16 (by decide) ?_
    refine w_irem C (by decide) dX0_another_18 ?_
    refine w_puti C (T1 := TX0) (ty := .int) (8) 1 (fun z => (mw ad 94 (ctT cI cJ cL cS ad active rests writers tbytes tlen dbytes dlen z known rec m_made m_sort m_digits m_slots m_pages m_highest m_units m_kinds m_rows m_marks q_active q_rests q_writers l_made l_sort l_digits l_slots l_pages l_highest l_units l_kinds l_rows l_marks))) u_X0 tyX0 tyX0_ok nmX0 k_200 rfl (by decide) (mw_at (by decide) rfl) rfl (by decide +kernel) rfl rfl (Nat.le_of_ble_eq_true rfl) (fun _ => mw_set (by decide) rfl (fun m _ hm => put_H m hm)) dX0_another_19 (fun next_19 e_next_19 => ?_)
    replace hw := hw next_19 e_next_19
    refine w_aload_n C 1 dX0_another_22 rfl ?_
    refine w_aload_n C 1 dX0_another_23 rfl ?_
    refine w_get C (T1 := TX0) (8) 2 u_X0 k_201 rfl (by decide) (mw_at (by decide) rfl) rfl dX0_another_24 ?_
    refine w_iconst C (v := (1 : Int32)) dX0_another_27 (by decide) ?_
    refine w_iadd C dX0_another_28 ?_
    refine w_bipush C (v := (8 : Int32)) dX0_another_29 (by decide) ?_
    refine w_imin C k_398 f_imin.1 f_imin.2.1 f_imin.2.2 (Nat.le_of_ble_eq_true rfl) (Nat.le_of_ble_eq_true rfl) (Nat.le_of_ble_eq_true rfl) (Nat.le_of_ble_eq_true rfl) dX0_another_31 ?_
    refine w_puti C (T1 := TX0) (ty := .int) (8) 2 (fun z => (mw ad 94 (ctT cI cJ cL cS ad active rests writers tbytes tlen dbytes dlen next_19 z rec m_made m_sort m_digits m_slots m_pages m_highest m_units m_kinds m_rows m_marks q_active q_rests q_writers l_made l_sort l_digits l_slots l_pages l_highest l_units l_kinds l_rows l_marks))) u_X0 tyX0 tyX0_ok nmX0 k_201 rfl (by decide) (mw_at (by decide) rfl) rfl (by decide +kernel) rfl rfl (Nat.le_of_ble_eq_true rfl) (fun _ => mw_set (by decide) rfl (fun m _ hm => put_H m hm)) dX0_another_34 (fun known_34 e_known_34 => ?_)
    replace hw := hw known_34 e_known_34
    refine w_aload_nN C 0 dX0_another_37 rfl ?_
    exact w_eret C (Or.inl ⟨_, rfl⟩) none (next_19, known_34) ⟨hw, fun j h => by cases h⟩ rfl rfl (Nat.le_of_ble_eq_true rfl) (Nat.le_of_ble_eq_true rfl) dX0_another_38
  | some j_5 =>
    replace hw := hw.2 j_5 rfl
    have hb_5 := hb_5 j_5 rfl
    refine w_astore_n C [(1, .ref (ad (10 + 8 * j_5 + 0))), (0, .ref (ad 8))] dX0_another_8 (by decide) rfl ?_
    refine w_aload_n C 1 dX0_another_9 rfl ?_
    refine w_aload_n C 1 dX0_another_10 rfl ?_
    refine w_get C (T1 := TX0) (8) 1 u_X0 k_200 rfl (by decide) (mw_at (by decide) rfl) rfl dX0_another_11 ?_
    refine w_iconst C (v := (1 : Int32)) dX0_another_14 (by decide) ?_
    refine w_iadd C dX0_another_15 ?_
    refine w_bipush C (v := (8 : Int32)) dX0_another_16 (by decide) ?_
    refine w_irem C (by decide) dX0_another_18 ?_
    refine w_puti C (T1 := TX0) (ty := .int) (8) 1 (fun z => (mw ad 94 (ctT cI cJ cL cS ad active rests writers tbytes tlen dbytes dlen z known rec m_made m_sort m_digits m_slots m_pages m_highest m_units m_kinds m_rows m_marks q_active q_rests q_writers l_made l_sort l_digits l_slots l_pages l_highest l_units l_kinds l_rows l_marks))) u_X0 tyX0 tyX0_ok nmX0 k_200 rfl (by decide) (mw_at (by decide) rfl) rfl (by decide +kernel) rfl rfl (Nat.le_of_ble_eq_true rfl) (fun _ => mw_set (by decide) rfl (fun m _ hm => put_H m hm)) dX0_another_19 (fun next_19 e_next_19 => ?_)
    replace hw := hw next_19 e_next_19
    refine w_aload_n C 1 dX0_another_22 rfl ?_
    refine w_aload_n C 1 dX0_another_23 rfl ?_
    refine w_get C (T1 := TX0) (8) 2 u_X0 k_201 rfl (by decide) (mw_at (by decide) rfl) rfl dX0_another_24 ?_
    refine w_iconst C (v := (1 : Int32)) dX0_another_27 (by decide) ?_
    refine w_iadd C dX0_another_28 ?_
    refine w_bipush C (v := (8 : Int32)) dX0_another_29 (by decide) ?_
    refine w_imin C k_398 f_imin.1 f_imin.2.1 f_imin.2.2 (Nat.le_of_ble_eq_true rfl) (Nat.le_of_ble_eq_true rfl) (Nat.le_of_ble_eq_true rfl) (Nat.le_of_ble_eq_true rfl) dX0_another_31 ?_
    refine w_puti C (T1 := TX0) (ty := .int) (8) 2 (fun z => (mw ad 94 (ctT cI cJ cL cS ad active rests writers tbytes tlen dbytes dlen next_19 z rec m_made m_sort m_digits m_slots m_pages m_highest m_units m_kinds m_rows m_marks q_active q_rests q_writers l_made l_sort l_digits l_slots l_pages l_highest l_units l_kinds l_rows l_marks))) u_X0 tyX0 tyX0_ok nmX0 k_201 rfl (by decide) (mw_at (by decide) rfl) rfl (by decide +kernel) rfl rfl (Nat.le_of_ble_eq_true rfl) (fun _ => mw_set (by decide) rfl (fun m _ hm => put_H m hm)) dX0_another_34 (fun known_34 e_known_34 => ?_)
    replace hw := hw known_34 e_known_34
    refine w_aload_n C 0 dX0_another_37 rfl ?_
    exact w_eret C (Or.inl ⟨_, rfl⟩) (some j_5) (next_19, known_34) ⟨hw, fun j h => by cases h; assumption⟩ rfl rfl (Nat.le_of_ble_eq_true rfl) (Nat.le_of_ble_eq_true rfl) dX0_another_38
def wp_X7_remember (p0 : Int32) (active : Int32) (rests : Int32) (writers : Nat → Int32) (next : Int32) (known : Int32) (rec : Nat → Int32) (m_made : Nat → Int32) (m_sort : Nat → Int32) (m_digits : Nat → Int32) (m_slots : Nat → Int32) (m_pages : Nat → Int32) (m_highest : Nat → Int64) (m_units : Nat → Nat → Int64) (m_kinds : Nat → Nat → Int32) (m_rows : Nat → Nat → Int32) (m_marks : Nat → Nat → Int32) (q_active : Nat → Int32) (q_rests : Nat → Int32) (q_writers : Nat → Nat → Int32) (l_made : Nat → Int32) (l_sort : Nat → Int32) (l_digits : Nat → Int32) (l_slots : Nat → Int32) (l_pages : Nat → Int32) (l_highest : Nat → Int64) (l_units : Nat → Nat → Int64) (l_kinds : Nat → Nat → Int32) (l_rows : Nat → Nat → Int32) (l_marks : Nat → Nat → Int32) (Q : Int32 → Int32 → (Nat → Int32) → (Nat → Int32) → (Nat → Int32) → (Nat → Int32) → (Nat → Int32) → (Nat → Int32) → (Nat → Int64) → (Nat → Nat → Int64) → (Nat → Nat → Int32) → (Nat → Nat → Int32) → (Nat → Nat → Int32) → (Nat → Int32) → (Nat → Int32) → (Nat → Nat → Int32) → Prop) : Prop := wp_X0_another  next known (fun (r_4 : Option Nat) (next_4 : Int32) (known_4 : Int32) => ((r_4 = none → (Q next_4 known_4 rec m_made m_sort m_digits m_slots m_pages m_highest m_units m_kinds m_rows m_marks q_active q_rests q_writers)) ∧ (∀ j_4 : Nat, r_4 = some j_4 → (∀ rec_15 : Int32, rec_15 = p0 → wp_X2_become  (q_active j_4) (q_rests j_4) (q_writers j_4) active rests writers (fun (q_active_26 : Int32) (q_rests_26 : Int32) (q_writers_26 : Nat → Int32) => wp_X7_ledgerAt p0  (fun (r_31 : Option Nat) => ((r_31 = none → (Q next_4 known_4 (va_up rec j_4 rec_15) m_made m_sort m_digits m_slots m_pages m_highest m_units m_kinds m_rows m_marks (va_up q_active j_4 q_active_26) (va_up q_rests j_4 q_rests_26) (va_up q_writers j_4 q_writers_26))) ∧ (∀ j_31 : Nat, r_31 = some j_31 → (wp_X1_become  (m_made j_4) (m_sort j_4) (m_digits j_4) (m_slots j_4) (m_pages j_4) (m_highest j_4) (m_units j_4) (m_kinds j_4) (m_rows j_4) (m_marks j_4) (l_made j_31) (l_sort j_31) (l_digits j_31) (l_slots j_31) (l_pages j_31) (l_highest j_31) (l_units j_31) (l_kinds j_31) (l_rows j_31) (l_marks j_31) (fun (m_made_44 : Int32) (m_sort_44 : Int32) (m_digits_44 : Int32) (m_slots_44 : Int32) (m_pages_44 : Int32) (m_highest_44 : Int64) (m_units_44 : Nat → Int64) (m_kinds_44 : Nat → Int32) (m_rows_44 : Nat → Int32) (m_marks_44 : Nat → Int32) => Q next_4 known_4 (va_up rec j_4 rec_15) (va_up m_made j_4 m_made_44) (va_up m_sort j_4 m_sort_44) (va_up m_digits j_4 m_digits_44) (va_up m_slots j_4 m_slots_44) (va_up m_pages j_4 m_pages_44) (va_up m_highest j_4 m_highest_44) (va_up m_units j_4 m_units_44) (va_up m_kinds j_4 m_kinds_44) (va_up m_rows j_4 m_rows_44) (va_up m_marks j_4 m_marks_44) (va_up q_active j_4 q_active_26) (va_up q_rests j_4 q_rests_26) (va_up q_writers j_4 q_writers_26)))))))))))
set_option maxHeartbeats 4000000 in
set_option maxRecDepth 100000 in
theorem c_X7_remember {l : Launch} {D : va_G} {cB cI cJ cL cS : ClassId} {T : Nat × Nat × Nat × Nat} {ad : Nat → Nat} {p0 : Int32} {active : Int32} {rests : Int32} {writers : Nat → Int32} {tbytes : Nat → Int32} {tlen : Int32} {dbytes : Nat → Int32} {dlen : Int32} {next : Int32} {known : Int32} {rec : Nat → Int32} {m_made : Nat → Int32} {m_sort : Nat → Int32} {m_digits : Nat → Int32} {m_slots : Nat → Int32} {m_pages : Nat → Int32} {m_highest : Nat → Int64} {m_units : Nat → Nat → Int64} {m_kinds : Nat → Nat → Int32} {m_rows : Nat → Nat → Int32} {m_marks : Nat → Nat → Int32} {q_active : Nat → Int32} {q_rests : Nat → Int32} {q_writers : Nat → Nat → Int32} {l_made : Nat → Int32} {l_sort : Nat → Int32} {l_digits : Nat → Int32} {l_slots : Nat → Int32} {l_pages : Nat → Int32} {l_highest : Nat → Int64} {l_units : Nat → Nat → Int64} {l_kinds : Nat → Nat → Int32} {l_rows : Nat → Nat → Int32} {l_marks : Nat → Nat → Int32} {Q : Int32 → Int32 → (Nat → Int32) → (Nat → Int32) → (Nat → Int32) → (Nat → Int32) → (Nat → Int32) → (Nat → Int32) → (Nat → Int64) → (Nat → Nat → Int64) → (Nat → Nat → Int32) → (Nat → Nat → Int32) → (Nat → Nat → Int32) → (Nat → Int32) → (Nat → Int32) → (Nat → Nat → Int32) → Prop} (hw : wp_X7_remember p0 active rests writers next known rec m_made m_sort m_digits m_slots m_pages m_highest m_units m_kinds m_rows m_marks q_active q_rests q_writers l_made l_sort l_digits l_slots l_pages l_highest l_units l_kinds l_rows l_marks Q) : CtV l D (Z5 cB cI cJ cL cS) T yX7_remember cX7_remember 4 ({ frames := 2, cells := 0, slots := 0, locals := 62 } : Room) (Option.none : Option Jvm.ClassFile.FieldType) [.ref (ad 0), .int p0] (mw ad 94 (ctT cI cJ cL cS ad active rests writers tbytes tlen dbytes dlen next known rec m_made m_sort m_digits m_slots m_pages m_highest m_units m_kinds m_rows m_marks q_active q_rests q_writers l_made l_sort l_digits l_slots l_pages l_highest l_units l_kinds l_rows l_marks)) (fun (u : Int32 × Int32 × (Nat → Int32) × (Nat → Int32) × (Nat → Int32) × (Nat → Int32) × (Nat → Int32) × (Nat → Int32) × (Nat → Int64) × (Nat → Nat → Int64) × (Nat → Nat → Int32) × (Nat → Nat → Int32) × (Nat → Nat → Int32) × (Nat → Int32) × (Nat → Int32) × (Nat → Nat → Int32)) => (mw ad 94 (ctT cI cJ cL cS ad active rests writers tbytes tlen dbytes dlen u.1 u.2.1 u.2.2.1 u.2.2.2.1 u.2.2.2.2.1 u.2.2.2.2.2.1 u.2.2.2.2.2.2.1 u.2.2.2.2.2.2.2.1 u.2.2.2.2.2.2.2.2.1 u.2.2.2.2.2.2.2.2.2.1 u.2.2.2.2.2.2.2.2.2.2.1 u.2.2.2.2.2.2.2.2.2.2.2.1 u.2.2.2.2.2.2.2.2.2.2.2.2.1 u.2.2.2.2.2.2.2.2.2.2.2.2.2.1 u.2.2.2.2.2.2.2.2.2.2.2.2.2.2.1 u.2.2.2.2.2.2.2.2.2.2.2.2.2.2.2 l_made l_sort l_digits l_slots l_pages l_highest l_units l_kinds l_rows l_marks))) (fun (u : Int32 × Int32 × (Nat → Int32) × (Nat → Int32) × (Nat → Int32) × (Nat → Int32) × (Nat → Int32) × (Nat → Int32) × (Nat → Int64) × (Nat → Nat → Int64) × (Nat → Nat → Int32) × (Nat → Nat → Int32) × (Nat → Nat → Int32) × (Nat → Int32) × (Nat → Int32) × (Nat → Nat → Int32)) => Q u.1 u.2.1 u.2.2.1 u.2.2.2.1 u.2.2.2.2.1 u.2.2.2.2.2.1 u.2.2.2.2.2.2.1 u.2.2.2.2.2.2.2.1 u.2.2.2.2.2.2.2.2.1 u.2.2.2.2.2.2.2.2.2.1 u.2.2.2.2.2.2.2.2.2.2.1 u.2.2.2.2.2.2.2.2.2.2.2.1 u.2.2.2.2.2.2.2.2.2.2.2.2.1 u.2.2.2.2.2.2.2.2.2.2.2.2.2.1 u.2.2.2.2.2.2.2.2.2.2.2.2.2.2.1 u.2.2.2.2.2.2.2.2.2.2.2.2.2.2.2) 0 0 := by
  refine ctV_of (own := RX7) (by decide +kernel) rfl (Nat.le_of_ble_eq_true rfl) (fun p e s m below meth c A C => ?_)
  refine w_sub (lv' := [(0, .ref (ad 0)), (1, .int p0)]) C [0, 1] rfl ?_
  unfold wp_X7_remember at hw
  refine w_aload_n C 0 dX7_remember_0 rfl ?_
  refine w_get C (T1 := TX7) (0) 4 u_X7 k_215 rfl (by decide) (mw_at (by decide) rfl) rfl dX7_remember_1 ?_
  refine w_callVE C (c_X0_another (ad := ad) hw) f_X0_another k_392 k_390 rfl ⟨Nat.le_of_ble_eq_true rfl, Nat.le_of_ble_eq_true rfl⟩ rfl rfl ⟨Nat.le_of_ble_eq_true rfl, Nat.le_of_ble_eq_true rfl⟩ 8 (mw_at (by decide) rfl) (rr := (RX0, TX0, 3)) rfl rfl (fun _ => mw_addr) rfl (Nat.le_of_ble_eq_true rfl) dX7_remember_4 (fun r_4 u_4 hw => ?_)
  obtain ⟨hw, hb_4⟩ := hw
  obtain ⟨next_4, known_4⟩ := u_4
  try dsimp only at hw
  cases r_4 with
  | none =>
    replace hw := hw.1 rfl
    refine w_astore_nN C [(2, .null), (0, .ref (ad 0)), (1, .int p0)] dX7_remember_7 (by decide) rfl ?_
    refine w_aload_nN C 0 dX7_remember_8 rfl ?_
    refine w_ifnonnullN C dX7_remember_9 ?_
    exact w_vret C (next_4, known_4, rec, m_made, m_sort, m_digits, m_slots, m_pages, m_highest, m_units, m_kinds, m_rows, m_marks, q_active, q_rests, q_writers) hw rfl (Nat.le_of_ble_eq_true rfl) (Nat.le_of_ble_eq_true rfl) dX7_remember_12
  | some j_4 =>
    replace hw := hw.2 j_4 rfl
    have hb_4 := hb_4 j_4 rfl
    refine w_astore_n C [(2, .ref (ad (10 + 8 * j_4 + 0))), (0, .ref (ad 0)), (1, .int p0)] dX7_remember_7 (by decide) rfl ?_
    refine w_aload_n C 0 dX7_remember_8 rfl ?_
    refine w_ifnonnull C 13 (by decide) dX7_remember_9 ?_
    refine w_aload_n C 0 dX7_remember_13 rfl ?_
    refine w_iload_n C 2 dX7_remember_14 rfl ?_
    refine w_putiN C (T1 := TX4) (ty := .int) (10 + 8 * j_4 + 0) 0 (fun z => (mw ad 94 (ctT cI cJ cL cS ad active rests writers tbytes tlen dbytes dlen next_4 known_4 (va_up rec j_4 z) m_made m_sort m_digits m_slots m_pages m_highest m_units m_kinds m_rows m_marks q_active q_rests q_writers l_made l_sort l_digits l_slots l_pages l_highest l_units l_kinds l_rows l_marks))) u_X4 tyX4 tyX4_ok nmX4 n_187 rfl (by decide) (mw_at (by omega) (ct_S0 j_4 (by assumption))) rfl (by decide +kernel) rfl rfl (Nat.le_of_ble_eq_true rfl) (fun _ => mw_set (by omega) (by rw [ct_S0 _ (by assumption), va_up_self]; rfl) (fun m _ hm => rest_S (fun _ h => va_up_ne _ _ h) m (by simp only [List.mem_singleton]; exact hm))) dX7_remember_15 (fun rec_15 e_rec_15 => ?_)
    replace hw := hw rec_15 e_rec_15
    refine w_aload_n C 0 dX7_remember_18 rfl ?_
    refine w_getN C (T1 := TX4) (10 + 8 * j_4 + 0) 2 u_X4 n_191 rfl (by decide) (mw_at (by omega) (ct_S0 j_4 (by assumption))) rfl dX7_remember_19 ?_
    refine w_aload_n C 1 dX7_remember_22 rfl ?_
    refine w_get C (T1 := TX7) (0) 1 u_X7 k_212 rfl (by decide) (mw_at (by decide) rfl) rfl dX7_remember_23 ?_
    refine w_callXV C (c_X2_become (a := fun i => ad (16 + 8 * j_4 + i)) (b := fun i => ad (2 + i)) hw) f_X2_become k_401 k_399 rfl ⟨Nat.le_of_ble_eq_true rfl, Nat.le_of_ble_eq_true rfl⟩ rfl rfl ⟨Nat.le_of_ble_eq_true rfl, Nat.le_of_ble_eq_true rfl⟩ 0 rfl (rr := (RX2, TX2, 3)) rfl rfl (ad := ad) (N := 94) ((plR j_4) ++ plP) (by rw [List.map_append, wc_R (cB := cB) j_4 (by assumption), wc_P (cB := cB)]) (lt_app (lt_R (by assumption)) lt_P) nd_RP (fun (u : Int32 × Int32 × (Nat → Int32)) => (ctT cI cJ cL cS ad active rests writers tbytes tlen dbytes dlen next_4 known_4 (va_up rec j_4 rec_15) m_made m_sort m_digits m_slots m_pages m_highest m_units m_kinds m_rows m_marks (va_up q_active j_4 u.1) (va_up q_rests j_4 u.2.1) (va_up q_writers j_4 u.2.2) l_made l_sort l_digits l_slots l_pages l_highest l_units l_kinds l_rows l_marks)) (fun _ => by rw [List.map_append, wc_R (cB := cB) j_4 (by assumption), wc_P (cB := cB)]; first | done | (simp only [va_up_self]; done) | rfl) (fun _ n _ hn => rest_R (fun _ h => va_up_ne _ _ h) (fun _ h => va_up_ne _ _ h) (fun _ h => va_up_ne _ _ h) n (fun h => hn (List.mem_append_left _ h))) rfl (Nat.le_of_ble_eq_true rfl) dX7_remember_26 (fun u_26 hw => ?_)
    obtain ⟨q_active_26, q_rests_26, q_writers_26⟩ := u_26
    try dsimp only at hw
    refine w_aload_n C 1 dX7_remember_29 rfl ?_
    refine w_iload_n C 2 dX7_remember_30 rfl ?_
    refine w_callVE C (c_X7_ledgerAt (ad := ad) hw) f_X7_ledgerAt k_1 k_259 rfl ⟨Nat.le_of_ble_eq_true rfl, Nat.le_of_ble_eq_true rfl⟩ rfl rfl ⟨Nat.le_of_ble_eq_true rfl, Nat.le_of_ble_eq_true rfl⟩ 0 (mw_at (by decide) rfl) (rr := (RX7, TX7, 5)) rfl rfl (fun _ => mw_addr) rfl (Nat.le_of_ble_eq_true rfl) dX7_remember_31 (fun r_31 u_31 hw => ?_)
    obtain ⟨hw, hb_31⟩ := hw
    try dsimp only at hw
    cases r_31 with
    | none =>
      replace hw := hw.1 rfl
      refine w_astore_nN C [(3, .null), (2, .ref (ad (10 + 8 * j_4 + 0))), (0, .ref (ad 0)), (1, .int p0)] dX7_remember_34 (by decide) rfl ?_
      refine w_aload_nN C 0 dX7_remember_35 rfl ?_
      refine w_ifnullN C 47 (by decide) dX7_remember_36 ?_
      exact w_vret C (next_4, known_4, (va_up rec j_4 rec_15), m_made, m_sort, m_digits, m_slots, m_pages, m_highest, m_units, m_kinds, m_rows, m_marks, (va_up q_active j_4 q_active_26), (va_up q_rests j_4 q_rests_26), (va_up q_writers j_4 q_writers_26)) hw rfl (Nat.le_of_ble_eq_true rfl) (Nat.le_of_ble_eq_true rfl) dX7_remember_47
    | some j_31 =>
      replace hw := hw.2 j_31 rfl
      have hb_31 := hb_31 j_31 rfl
      refine w_astore_n C [(3, .ref (ad (74 + 5 * j_31 + 0))), (2, .ref (ad (10 + 8 * j_4 + 0))), (0, .ref (ad 0)), (1, .int p0)] dX7_remember_34 (by decide) rfl ?_
      refine w_aload_n C 0 dX7_remember_35 rfl ?_
      refine w_ifnull C dX7_remember_36 ?_
      refine w_aload_n C 1 dX7_remember_39 rfl ?_
      refine w_getN C (T1 := TX4) (10 + 8 * j_4 + 0) 1 u_X4 n_189 rfl (by decide) (mw_at (by omega) (ct_S0 j_4 (by assumption))) rfl dX7_remember_40 ?_
      refine w_aload_n C 0 dX7_remember_43 rfl ?_
      refine w_callXV C (c_X1_become (a := fun i => ad (11 + 8 * j_4 + i)) (b := fun i => ad (74 + 5 * j_31 + i)) hw) f_X1_become k_413 k_411 rfl ⟨Nat.le_of_ble_eq_true rfl, Nat.le_of_ble_eq_true rfl⟩ rfl rfl ⟨Nat.le_of_ble_eq_true rfl, Nat.le_of_ble_eq_true rfl⟩ 0 rfl (rr := (RX1, TX1, 10)) rfl rfl (ad := ad) (N := 94) ((plM j_4) ++ (plL j_31)) (by rw [List.map_append, wc_M (cB := cB) j_4 (by assumption), wc_L (cB := cB) j_31]) (lt_app (lt_M (by assumption)) (lt_L (by assumption))) (nd_ML (by assumption)) (fun (u : Int32 × Int32 × Int32 × Int32 × Int32 × Int64 × (Nat → Int64) × (Nat → Int32) × (Nat → Int32) × (Nat → Int32)) => (ctT cI cJ cL cS ad active rests writers tbytes tlen dbytes dlen next_4 known_4 (va_up rec j_4 rec_15) (va_up m_made j_4 u.1) (va_up m_sort j_4 u.2.1) (va_up m_digits j_4 u.2.2.1) (va_up m_slots j_4 u.2.2.2.1) (va_up m_pages j_4 u.2.2.2.2.1) (va_up m_highest j_4 u.2.2.2.2.2.1) (va_up m_units j_4 u.2.2.2.2.2.2.1) (va_up m_kinds j_4 u.2.2.2.2.2.2.2.1) (va_up m_rows j_4 u.2.2.2.2.2.2.2.2.1) (va_up m_marks j_4 u.2.2.2.2.2.2.2.2.2) (va_up q_active j_4 q_active_26) (va_up q_rests j_4 q_rests_26) (va_up q_writers j_4 q_writers_26) l_made l_sort l_digits l_slots l_pages l_highest l_units l_kinds l_rows l_marks)) (fun _ => by rw [List.map_append, wc_M (cB := cB) j_4 (by assumption), wc_L (cB := cB) j_31]; first | done | (simp only [va_up_self]; done) | rfl) (fun _ n _ hn => rest_M (fun _ h => va_up_ne _ _ h) (fun _ h => va_up_ne _ _ h) (fun _ h => va_up_ne _ _ h) (fun _ h => va_up_ne _ _ h) (fun _ h => va_up_ne _ _ h) (fun _ h => va_up_ne _ _ h) (fun _ h => va_up_ne _ _ h) (fun _ h => va_up_ne _ _ h) (fun _ h => va_up_ne _ _ h) (fun _ h => va_up_ne _ _ h) n (fun h => hn (List.mem_append_left _ h))) rfl (Nat.le_of_ble_eq_true rfl) dX7_remember_44 (fun u_44 hw => ?_)
      obtain ⟨m_made_44, m_sort_44, m_digits_44, m_slots_44, m_pages_44, m_highest_44, m_units_44, m_kinds_44, m_rows_44, m_marks_44⟩ := u_44
      try dsimp only at hw
      exact w_vret C (next_4, known_4, (va_up rec j_4 rec_15), (va_up m_made j_4 m_made_44), (va_up m_sort j_4 m_sort_44), (va_up m_digits j_4 m_digits_44), (va_up m_slots j_4 m_slots_44), (va_up m_pages j_4 m_pages_44), (va_up m_highest j_4 m_highest_44), (va_up m_units j_4 m_units_44), (va_up m_kinds j_4 m_kinds_44), (va_up m_rows j_4 m_rows_44), (va_up m_marks j_4 m_marks_44), (va_up q_active j_4 q_active_26), (va_up q_rests j_4 q_rests_26), (va_up q_writers j_4 q_writers_26)) hw rfl (Nat.le_of_ble_eq_true rfl) (Nat.le_of_ble_eq_true rfl) dX7_remember_47
def wp_X7_slot (p0 : Int32) (p1 : Int64)  (Q : Int32 → Prop) : Prop := ((p0 < (1 : Int32) → (Q (-1 : Int32))) ∧ (¬ p0 < (1 : Int32) → ((((2 : Int32) < p0 → (Q (-1 : Int32))) ∧ (¬ (2 : Int32) < p0 → ((((0 : Int64) ≤ p1 → (wp_X7_slotOf p0 p1  (fun (r_22 : Int32) => Q r_22))) ∧ (¬ (0 : Int64) ≤ p1 → (Q (-1 : Int32))))))))))
set_option maxHeartbeats 4000000 in
set_option maxRecDepth 100000 in
theorem c_X7_slot {l : Launch} {D : va_G} {cB cI cJ cL cS : ClassId} {T : Nat × Nat × Nat × Nat} {ad : Nat → Nat} {p0 : Int32} {p1 : Int64} {active : Int32} {rests : Int32} {writers : Nat → Int32} {tbytes : Nat → Int32} {tlen : Int32} {dbytes : Nat → Int32} {dlen : Int32} {next : Int32} {known : Int32} {rec : Nat → Int32} {m_made : Nat → Int32} {m_sort : Nat → Int32} {m_digits : Nat → Int32} {m_slots : Nat → Int32} {m_pages : Nat → Int32} {m_highest : Nat → Int64} {m_units : Nat → Nat → Int64} {m_kinds : Nat → Nat → Int32} {m_rows : Nat → Nat → Int32} {m_marks : Nat → Nat → Int32} {q_active : Nat → Int32} {q_rests : Nat → Int32} {q_writers : Nat → Nat → Int32} {l_made : Nat → Int32} {l_sort : Nat → Int32} {l_digits : Nat → Int32} {l_slots : Nat → Int32} {l_pages : Nat → Int32} {l_highest : Nat → Int64} {l_units : Nat → Nat → Int64} {l_kinds : Nat → Nat → Int32} {l_rows : Nat → Nat → Int32} {l_marks : Nat → Nat → Int32} {Q : Int32 → Prop} (hw : wp_X7_slot p0 p1  Q) : CtI l D (Z5 cB cI cJ cL cS) T yX7_slot cX7_slot 4 ({ frames := 3, cells := 0, slots := 0, locals := 67 } : Room) (Option.some Jvm.ClassFile.FieldType.int) [.ref (ad 0), .int p0, .long p1] (mw ad 94 (ctT cI cJ cL cS ad active rests writers tbytes tlen dbytes dlen next known rec m_made m_sort m_digits m_slots m_pages m_highest m_units m_kinds m_rows m_marks q_active q_rests q_writers l_made l_sort l_digits l_slots l_pages l_highest l_units l_kinds l_rows l_marks)) (fun (u : Unit) => (mw ad 94 (ctT cI cJ cL cS ad active rests writers tbytes tlen dbytes dlen next known rec m_made m_sort m_digits m_slots m_pages m_highest m_units m_kinds m_rows m_marks q_active q_rests q_writers l_made l_sort l_digits l_slots l_pages l_highest l_units l_kinds l_rows l_marks))) (fun (r : Int32) (u : Unit) => Q r ) 0 0 := by
  refine ctI_of (own := RX7) (by decide +kernel) rfl (Nat.le_of_ble_eq_true rfl) (fun p e s m below meth c A C => ?_)
  refine w_sub (lv' := [(0, .ref (ad 0)), (1, .int p0), (2, .long p1)]) C [0, 1, 2] rfl ?_
  unfold wp_X7_slot at hw
  refine w_iload_n C 1 dX7_slot_0 rfl ?_
  refine w_iconst C (v := (1 : Int32)) dX7_slot_1 (by decide) ?_
  refine w_icmp_lt C 16 (by decide) dX7_slot_2 (fun c_2 => ?_) (fun c_2 => ?_)
  · replace hw := hw.1 c_2
    refine w_iconst C (v := (-1 : Int32)) dX7_slot_16 (by decide) ?_
    refine w_goto C 25 (by decide) dX7_slot_17 ?_
    exact w_iret C () hw rfl (Nat.le_of_ble_eq_true rfl) (Nat.le_of_ble_eq_true rfl) dX7_slot_25
  · replace hw := hw.2 c_2
    refine w_iload_n C 1 dX7_slot_5 rfl ?_
    refine w_iconst C (v := (2 : Int32)) dX7_slot_6 (by decide) ?_
    refine w_icmp_gt C 16 (by decide) dX7_slot_7 (fun c_7 => ?_) (fun c_7 => ?_)
    · replace hw := hw.1 c_7
      refine w_iconst C (v := (-1 : Int32)) dX7_slot_16 (by decide) ?_
      refine w_goto C 25 (by decide) dX7_slot_17 ?_
      exact w_iret C () hw rfl (Nat.le_of_ble_eq_true rfl) (Nat.le_of_ble_eq_true rfl) dX7_slot_25
    · replace hw := hw.2 c_7
      refine w_lload_n C 2 dX7_slot_10 rfl ?_
      refine w_lconst C (v := (0 : Int64)) dX7_slot_11 (by decide) ?_
      refine w_lcmp_ge C 13 20 rfl (by decide) dX7_slot_12 dX7_slot_13 (fun c_12 => ?_) (fun c_12 => ?_)
      · replace hw := hw.1 c_12
        refine w_iload_n C 1 dX7_slot_20 rfl ?_
        refine w_lload_n C 2 dX7_slot_21 rfl ?_
        refine w_callSI C (c_X7_slotOf hw) f_X7_slotOf k_476 rfl ⟨Nat.le_of_ble_eq_true rfl, Nat.le_of_ble_eq_true rfl⟩ rfl rfl ⟨Nat.le_of_ble_eq_true rfl, Nat.le_of_ble_eq_true rfl⟩ rfl (Nat.le_of_ble_eq_true rfl) dX7_slot_22 (fun r_22 u_22 hw => ?_)
        try dsimp only at hw
        exact w_iret C () hw rfl (Nat.le_of_ble_eq_true rfl) (Nat.le_of_ble_eq_true rfl) dX7_slot_25
      · replace hw := hw.2 c_12
        refine w_iconst C (v := (-1 : Int32)) dX7_slot_16 (by decide) ?_
        refine w_goto C 25 (by decide) dX7_slot_17 ?_
        exact w_iret C () hw rfl (Nat.le_of_ble_eq_true rfl) (Nat.le_of_ble_eq_true rfl) dX7_slot_25
def wp_X7_edge (p0 : Int32) (p1 : Int64) (p2 : Int32)  (Q : Int64 → Prop) : Prop := ((p0 < (1 : Int32) → (Q (-1 : Int64))) ∧ (¬ p0 < (1 : Int32) → ((((2 : Int32) < p0 → (Q (-1 : Int64))) ∧ (¬ (2 : Int32) < p0 → (((p1 < (0 : Int64) → (Q (-1 : Int64))) ∧ (¬ p1 < (0 : Int64) → (((p2 < 0 → (Q (-1 : Int64))) ∧ (¬ p2 < 0 → (((p2 ≤ (2 : Int32) → (wp_X7_slotOf p0 p1  (fun (r_33 : Int32) => ∀ x5_36 : Int32, x5_36 = r_33 → ((¬ p2 = 0 → (((¬ p2 = (1 : Int32) → (wp_X7_middleOf p0 x5_36  (fun (r_70 : Int64) => Q r_70))) ∧ (p2 = (1 : Int32) → (wp_X7_highOf p0 x5_36  (fun (r_61 : Int64) => Q r_61)))))) ∧ (p2 = 0 → (wp_X7_lowOf p0 x5_36  (fun (r_46 : Int64) => Q r_46))))))) ∧ (¬ p2 ≤ (2 : Int32) → (Q (-1 : Int64))))))))))))))))
set_option maxHeartbeats 4000000 in
set_option maxRecDepth 100000 in
theorem c_X7_edge {l : Launch} {D : va_G} {cB cI cJ cL cS : ClassId} {T : Nat × Nat × Nat × Nat} {ad : Nat → Nat} {p0 : Int32} {p1 : Int64} {p2 : Int32} {active : Int32} {rests : Int32} {writers : Nat → Int32} {tbytes : Nat → Int32} {tlen : Int32} {dbytes : Nat → Int32} {dlen : Int32} {next : Int32} {known : Int32} {rec : Nat → Int32} {m_made : Nat → Int32} {m_sort : Nat → Int32} {m_digits : Nat → Int32} {m_slots : Nat → Int32} {m_pages : Nat → Int32} {m_highest : Nat → Int64} {m_units : Nat → Nat → Int64} {m_kinds : Nat → Nat → Int32} {m_rows : Nat → Nat → Int32} {m_marks : Nat → Nat → Int32} {q_active : Nat → Int32} {q_rests : Nat → Int32} {q_writers : Nat → Nat → Int32} {l_made : Nat → Int32} {l_sort : Nat → Int32} {l_digits : Nat → Int32} {l_slots : Nat → Int32} {l_pages : Nat → Int32} {l_highest : Nat → Int64} {l_units : Nat → Nat → Int64} {l_kinds : Nat → Nat → Int32} {l_rows : Nat → Nat → Int32} {l_marks : Nat → Nat → Int32} {Q : Int64 → Prop} (hw : wp_X7_edge p0 p1 p2  Q) : CtL l D (Z5 cB cI cJ cL cS) T yX7_edge cX7_edge 6 ({ frames := 4, cells := 0, slots := 0, locals := 97 } : Room) (Option.some Jvm.ClassFile.FieldType.long) [.ref (ad 0), .int p0, .long p1, .int p2] (mw ad 94 (ctT cI cJ cL cS ad active rests writers tbytes tlen dbytes dlen next known rec m_made m_sort m_digits m_slots m_pages m_highest m_units m_kinds m_rows m_marks q_active q_rests q_writers l_made l_sort l_digits l_slots l_pages l_highest l_units l_kinds l_rows l_marks)) (fun (u : Unit) => (mw ad 94 (ctT cI cJ cL cS ad active rests writers tbytes tlen dbytes dlen next known rec m_made m_sort m_digits m_slots m_pages m_highest m_units m_kinds m_rows m_marks q_active q_rests q_writers l_made l_sort l_digits l_slots l_pages l_highest l_units l_kinds l_rows l_marks))) (fun (r : Int64) (u : Unit) => Q r ) 0 0 := by
  refine ctL_of (own := RX7) (by decide +kernel) rfl (Nat.le_of_ble_eq_true rfl) (fun p e s m below meth c A C => ?_)
  refine w_sub (lv' := [(0, .ref (ad 0)), (1, .int p0), (2, .long p1), (4, .int p2)]) C [0, 1, 2, 3] rfl ?_
  unfold wp_X7_edge at hw
  refine w_iload_n C 1 dX7_edge_0 rfl ?_
  refine w_iconst C (v := (1 : Int32)) dX7_edge_1 (by decide) ?_
  refine w_icmp_lt C 27 (by decide) dX7_edge_2 (fun c_2 => ?_) (fun c_2 => ?_)
  · replace hw := hw.1 c_2
    refine w_ldc2 C (v := (-1 : Int64)) dX7_edge_27 k_481 ?_
    exact w_lret C () hw rfl (Nat.le_of_ble_eq_true rfl) (Nat.le_of_ble_eq_true rfl) dX7_edge_30
  · replace hw := hw.2 c_2
    refine w_iload_n C 1 dX7_edge_5 rfl ?_
    refine w_iconst C (v := (2 : Int32)) dX7_edge_6 (by decide) ?_
    refine w_icmp_gt C 27 (by decide) dX7_edge_7 (fun c_7 => ?_) (fun c_7 => ?_)
    · replace hw := hw.1 c_7
      refine w_ldc2 C (v := (-1 : Int64)) dX7_edge_27 k_481 ?_
      exact w_lret C () hw rfl (Nat.le_of_ble_eq_true rfl) (Nat.le_of_ble_eq_true rfl) dX7_edge_30
    · replace hw := hw.2 c_7
      refine w_lload_n C 2 dX7_edge_10 rfl ?_
      refine w_lconst C (v := (0 : Int64)) dX7_edge_11 (by decide) ?_
      refine w_lcmp_lt C 13 27 rfl (by decide) dX7_edge_12 dX7_edge_13 (fun c_12 => ?_) (fun c_12 => ?_)
      · replace hw := hw.1 c_12
        refine w_ldc2 C (v := (-1 : Int64)) dX7_edge_27 k_481 ?_
        exact w_lret C () hw rfl (Nat.le_of_ble_eq_true rfl) (Nat.le_of_ble_eq_true rfl) dX7_edge_30
      · replace hw := hw.2 c_12
        refine w_iload C 3 dX7_edge_16 rfl ?_
        refine w_if_lt C 27 (by decide) dX7_edge_18 (fun c_18 => ?_) (fun c_18 => ?_)
        · replace hw := hw.1 c_18
          refine w_ldc2 C (v := (-1 : Int64)) dX7_edge_27 k_481 ?_
          exact w_lret C () hw rfl (Nat.le_of_ble_eq_true rfl) (Nat.le_of_ble_eq_true rfl) dX7_edge_30
        · replace hw := hw.2 c_18
          refine w_iload C 3 dX7_edge_21 rfl ?_
          refine w_iconst C (v := (2 : Int32)) dX7_edge_23 (by decide) ?_
          refine w_icmp_le C 31 (by decide) dX7_edge_24 (fun c_24 => ?_) (fun c_24 => ?_)
          · replace hw := hw.1 c_24
            refine w_iload_n C 1 dX7_edge_31 rfl ?_
            refine w_lload_n C 2 dX7_edge_32 rfl ?_
            refine w_callSI C (c_X7_slotOf hw) f_X7_slotOf k_476 rfl ⟨Nat.le_of_ble_eq_true rfl, Nat.le_of_ble_eq_true rfl⟩ rfl rfl ⟨Nat.le_of_ble_eq_true rfl, Nat.le_of_ble_eq_true rfl⟩ rfl (Nat.le_of_ble_eq_true rfl) dX7_edge_33 (fun r_33 u_33 hw => ?_)
            try dsimp only at hw
            refine w_istore C (fun x5_36 => [(5, .int x5_36), (0, .ref (ad 0)), (1, .int p0), (2, .long p1), (4, .int p2)]) dX7_edge_36 (by decide) (fun _ => rfl) (fun x5_36 e_x5_36 => ?_)
            replace hw := hw x5_36 e_x5_36
            refine w_iload C 4 dX7_edge_38 rfl ?_
            refine w_if_ne C 52 (by decide) dX7_edge_40 (fun c_40 => ?_) (fun c_40 => ?_)
            · replace hw := hw.1 c_40
              refine w_iload C 4 dX7_edge_52 rfl ?_
              refine w_iconst C (v := (1 : Int32)) dX7_edge_54 (by decide) ?_
              refine w_icmp_ne C 67 (by decide) dX7_edge_55 (fun c_55 => ?_) (fun c_55 => ?_)
              · replace hw := hw.1 c_55
                refine w_iload_n C 2 dX7_edge_67 rfl ?_
                refine w_iload C 0 dX7_edge_68 rfl ?_
                refine w_callSL C (c_X7_middleOf hw) f_X7_middleOf k_494 rfl ⟨Nat.le_of_ble_eq_true rfl, Nat.le_of_ble_eq_true rfl⟩ rfl rfl ⟨Nat.le_of_ble_eq_true rfl, Nat.le_of_ble_eq_true rfl⟩ rfl (Nat.le_of_ble_eq_true rfl) dX7_edge_70 (fun r_70 u_70 hw => ?_)
                try dsimp only at hw
                exact w_lret C () hw rfl (Nat.le_of_ble_eq_true rfl) (Nat.le_of_ble_eq_true rfl) dX7_edge_73
              · replace hw := hw.2 c_55
                refine w_iload_n C 2 dX7_edge_58 rfl ?_
                refine w_iload C 0 dX7_edge_59 rfl ?_
                refine w_callSL C (c_X7_highOf hw) f_X7_highOf k_488 rfl ⟨Nat.le_of_ble_eq_true rfl, Nat.le_of_ble_eq_true rfl⟩ rfl rfl ⟨Nat.le_of_ble_eq_true rfl, Nat.le_of_ble_eq_true rfl⟩ rfl (Nat.le_of_ble_eq_true rfl) dX7_edge_61 (fun r_61 u_61 hw => ?_)
                try dsimp only at hw
                refine w_goto C 73 (by decide) dX7_edge_64 ?_
                exact w_lret C () hw rfl (Nat.le_of_ble_eq_true rfl) (Nat.le_of_ble_eq_true rfl) dX7_edge_73
            · replace hw := hw.2 c_40
              refine w_iload_n C 2 dX7_edge_43 rfl ?_
              refine w_iload C 0 dX7_edge_44 rfl ?_
              refine w_callSL C (c_X7_lowOf hw) f_X7_lowOf k_482 rfl ⟨Nat.le_of_ble_eq_true rfl, Nat.le_of_ble_eq_true rfl⟩ rfl rfl ⟨Nat.le_of_ble_eq_true rfl, Nat.le_of_ble_eq_true rfl⟩ rfl (Nat.le_of_ble_eq_true rfl) dX7_edge_46 (fun r_46 u_46 hw => ?_)
              try dsimp only at hw
              refine w_goto C 73 (by decide) dX7_edge_49 ?_
              exact w_lret C () hw rfl (Nat.le_of_ble_eq_true rfl) (Nat.le_of_ble_eq_true rfl) dX7_edge_73
          · replace hw := hw.2 c_24
            refine w_ldc2 C (v := (-1 : Int64)) dX7_edge_27 k_481 ?_
            exact w_lret C () hw rfl (Nat.le_of_ble_eq_true rfl) (Nat.le_of_ble_eq_true rfl) dX7_edge_30
def wp_X7_make (p0 : Int32) (p1 : Int32) (p2 : Int32) (p3 : Int64) (active : Int32) (rests : Int32) (writers : Nat → Int32) (next : Int32) (known : Int32) (rec : Nat → Int32) (m_made : Nat → Int32) (m_sort : Nat → Int32) (m_digits : Nat → Int32) (m_slots : Nat → Int32) (m_pages : Nat → Int32) (m_highest : Nat → Int64) (m_units : Nat → Nat → Int64) (m_kinds : Nat → Nat → Int32) (m_rows : Nat → Nat → Int32) (m_marks : Nat → Nat → Int32) (q_active : Nat → Int32) (q_rests : Nat → Int32) (q_writers : Nat → Nat → Int32) (l_made : Nat → Int32) (l_sort : Nat → Int32) (l_digits : Nat → Int32) (l_slots : Nat → Int32) (l_pages : Nat → Int32) (l_highest : Nat → Int64) (l_units : Nat → Nat → Int64) (l_kinds : Nat → Nat → Int32) (l_rows : Nat → Nat → Int32) (l_marks : Nat → Nat → Int32) (Q : Int32 → Int32 → Int32 → (Nat → Int32) → (Nat → Int32) → (Nat → Int32) → (Nat → Int32) → (Nat → Int32) → (Nat → Int32) → (Nat → Int64) → (Nat → Nat → Int64) → (Nat → Nat → Int32) → (Nat → Nat → Int32) → (Nat → Nat → Int32) → (Nat → Int32) → (Nat → Int32) → (Nat → Nat → Int32) → (Nat → Int32) → (Nat → Int32) → (Nat → Int32) → (Nat → Int32) → (Nat → Int32) → (Nat → Int64) → (Nat → Nat → Int64) → (Nat → Nat → Int32) → (Nat → Nat → Int32) → (Nat → Nat → Int32) → Prop) : Prop := wp_X7_ledgerAt p0  (fun (r_2 : Option Nat) => ((r_2 = none → (Q (-1 : Int32) next known rec m_made m_sort m_digits m_slots m_pages m_highest m_units m_kinds m_rows m_marks q_active q_rests q_writers l_made l_sort l_digits l_slots l_pages l_highest l_units l_kinds l_rows l_marks)) ∧ (∀ j_2 : Nat, r_2 = some j_2 → (wp_X7_isSetting p1 p2 p3  (fun (r_16 : Int32) => ((¬ r_16 = 0 → (wp_X7_remember p0 active rests writers next known rec m_made m_sort m_digits m_slots m_pages m_highest m_units m_kinds m_rows m_marks q_active q_rests q_writers l_made l_sort l_digits l_slots l_pages l_highest l_units l_kinds l_rows l_marks (fun (next_26 : Int32) (known_26 : Int32) (rec_26 : Nat → Int32) (m_made_26 : Nat → Int32) (m_sort_26 : Nat → Int32) (m_digits_26 : Nat → Int32) (m_slots_26 : Nat → Int32) (m_pages_26 : Nat → Int32) (m_highest_26 : Nat → Int64) (m_units_26 : Nat → Nat → Int64) (m_kinds_26 : Nat → Nat → Int32) (m_rows_26 : Nat → Nat → Int32) (m_marks_26 : Nat → Nat → Int32) (q_active_26 : Nat → Int32) (q_rests_26 : Nat → Int32) (q_writers_26 : Nat → Nat → Int32) => wp_X1_open p1 p2 p3 (l_made j_2) (l_sort j_2) (l_digits j_2) (l_slots j_2) (l_pages j_2) (l_highest j_2) (l_units j_2) (l_kinds j_2) (l_rows j_2) (l_marks j_2) (fun (l_made_35 : Int32) (l_sort_35 : Int32) (l_digits_35 : Int32) (l_slots_35 : Int32) (l_pages_35 : Int32) (l_highest_35 : Int64) (l_units_35 : Nat → Int64) (l_kinds_35 : Nat → Int32) (l_rows_35 : Nat → Int32) (l_marks_35 : Nat → Int32) => Q ((va_up l_slots j_2 l_slots_35) j_2) next_26 known_26 rec_26 m_made_26 m_sort_26 m_digits_26 m_slots_26 m_pages_26 m_highest_26 m_units_26 m_kinds_26 m_rows_26 m_marks_26 q_active_26 q_rests_26 q_writers_26 (va_up l_made j_2 l_made_35) (va_up l_sort j_2 l_sort_35) (va_up l_digits j_2 l_digits_35) (va_up l_slots j_2 l_slots_35) (va_up l_pages j_2 l_pages_35) (va_up l_highest j_2 l_highest_35) (va_up l_units j_2 l_units_35) (va_up l_kinds j_2 l_kinds_35) (va_up l_rows j_2 l_rows_35) (va_up l_marks j_2 l_marks_35))))) ∧ (r_16 = 0 → (Q (-1 : Int32) next known rec m_made m_sort m_digits m_slots m_pages m_highest m_units m_kinds m_rows m_marks q_active q_rests q_writers l_made l_sort l_digits l_slots l_pages l_highest l_units l_kinds l_rows l_marks))))))))
set_option maxHeartbeats 4000000 in
set_option maxRecDepth 100000 in
theorem c_X7_make {l : Launch} {D : va_G} {cB cI cJ cL cS : ClassId} {T : Nat × Nat × Nat × Nat} {ad : Nat → Nat} {p0 : Int32} {p1 : Int32} {p2 : Int32} {p3 : Int64} {active : Int32} {rests : Int32} {writers : Nat → Int32} {tbytes : Nat → Int32} {tlen : Int32} {dbytes : Nat → Int32} {dlen : Int32} {next : Int32} {known : Int32} {rec : Nat → Int32} {m_made : Nat → Int32} {m_sort : Nat → Int32} {m_digits : Nat → Int32} {m_slots : Nat → Int32} {m_pages : Nat → Int32} {m_highest : Nat → Int64} {m_units : Nat → Nat → Int64} {m_kinds : Nat → Nat → Int32} {m_rows : Nat → Nat → Int32} {m_marks : Nat → Nat → Int32} {q_active : Nat → Int32} {q_rests : Nat → Int32} {q_writers : Nat → Nat → Int32} {l_made : Nat → Int32} {l_sort : Nat → Int32} {l_digits : Nat → Int32} {l_slots : Nat → Int32} {l_pages : Nat → Int32} {l_highest : Nat → Int64} {l_units : Nat → Nat → Int64} {l_kinds : Nat → Nat → Int32} {l_rows : Nat → Nat → Int32} {l_marks : Nat → Nat → Int32} {Q : Int32 → Int32 → Int32 → (Nat → Int32) → (Nat → Int32) → (Nat → Int32) → (Nat → Int32) → (Nat → Int32) → (Nat → Int32) → (Nat → Int64) → (Nat → Nat → Int64) → (Nat → Nat → Int32) → (Nat → Nat → Int32) → (Nat → Nat → Int32) → (Nat → Int32) → (Nat → Int32) → (Nat → Nat → Int32) → (Nat → Int32) → (Nat → Int32) → (Nat → Int32) → (Nat → Int32) → (Nat → Int32) → (Nat → Int64) → (Nat → Nat → Int64) → (Nat → Nat → Int32) → (Nat → Nat → Int32) → (Nat → Nat → Int32) → Prop} (hw : wp_X7_make p0 p1 p2 p3 active rests writers next known rec m_made m_sort m_digits m_slots m_pages m_highest m_units m_kinds m_rows m_marks q_active q_rests q_writers l_made l_sort l_digits l_slots l_pages l_highest l_units l_kinds l_rows l_marks Q) : CtI l D (Z5 cB cI cJ cL cS) T yX7_make cX7_make 7 ({ frames := 4, cells := 0, slots := 0, locals := 91 } : Room) (Option.some Jvm.ClassFile.FieldType.int) [.ref (ad 0), .int p0, .int p1, .int p2, .long p3] (mw ad 94 (ctT cI cJ cL cS ad active rests writers tbytes tlen dbytes dlen next known rec m_made m_sort m_digits m_slots m_pages m_highest m_units m_kinds m_rows m_marks q_active q_rests q_writers l_made l_sort l_digits l_slots l_pages l_highest l_units l_kinds l_rows l_marks)) (fun (u : Int32 × Int32 × (Nat → Int32) × (Nat → Int32) × (Nat → Int32) × (Nat → Int32) × (Nat → Int32) × (Nat → Int32) × (Nat → Int64) × (Nat → Nat → Int64) × (Nat → Nat → Int32) × (Nat → Nat → Int32) × (Nat → Nat → Int32) × (Nat → Int32) × (Nat → Int32) × (Nat → Nat → Int32) × (Nat → Int32) × (Nat → Int32) × (Nat → Int32) × (Nat → Int32) × (Nat → Int32) × (Nat → Int64) × (Nat → Nat → Int64) × (Nat → Nat → Int32) × (Nat → Nat → Int32) × (Nat → Nat → Int32)) => (mw ad 94 (ctT cI cJ cL cS ad active rests writers tbytes tlen dbytes dlen u.1 u.2.1 u.2.2.1 u.2.2.2.1 u.2.2.2.2.1 u.2.2.2.2.2.1 u.2.2.2.2.2.2.1 u.2.2.2.2.2.2.2.1 u.2.2.2.2.2.2.2.2.1 u.2.2.2.2.2.2.2.2.2.1 u.2.2.2.2.2.2.2.2.2.2.1 u.2.2.2.2.2.2.2.2.2.2.2.1 u.2.2.2.2.2.2.2.2.2.2.2.2.1 u.2.2.2.2.2.2.2.2.2.2.2.2.2.1 u.2.2.2.2.2.2.2.2.2.2.2.2.2.2.1 u.2.2.2.2.2.2.2.2.2.2.2.2.2.2.2.1 u.2.2.2.2.2.2.2.2.2.2.2.2.2.2.2.2.1 u.2.2.2.2.2.2.2.2.2.2.2.2.2.2.2.2.2.1 u.2.2.2.2.2.2.2.2.2.2.2.2.2.2.2.2.2.2.1 u.2.2.2.2.2.2.2.2.2.2.2.2.2.2.2.2.2.2.2.1 u.2.2.2.2.2.2.2.2.2.2.2.2.2.2.2.2.2.2.2.2.1 u.2.2.2.2.2.2.2.2.2.2.2.2.2.2.2.2.2.2.2.2.2.1 u.2.2.2.2.2.2.2.2.2.2.2.2.2.2.2.2.2.2.2.2.2.2.1 u.2.2.2.2.2.2.2.2.2.2.2.2.2.2.2.2.2.2.2.2.2.2.2.1 u.2.2.2.2.2.2.2.2.2.2.2.2.2.2.2.2.2.2.2.2.2.2.2.2.1 u.2.2.2.2.2.2.2.2.2.2.2.2.2.2.2.2.2.2.2.2.2.2.2.2.2))) (fun (r : Int32) (u : Int32 × Int32 × (Nat → Int32) × (Nat → Int32) × (Nat → Int32) × (Nat → Int32) × (Nat → Int32) × (Nat → Int32) × (Nat → Int64) × (Nat → Nat → Int64) × (Nat → Nat → Int32) × (Nat → Nat → Int32) × (Nat → Nat → Int32) × (Nat → Int32) × (Nat → Int32) × (Nat → Nat → Int32) × (Nat → Int32) × (Nat → Int32) × (Nat → Int32) × (Nat → Int32) × (Nat → Int32) × (Nat → Int64) × (Nat → Nat → Int64) × (Nat → Nat → Int32) × (Nat → Nat → Int32) × (Nat → Nat → Int32)) => Q r u.1 u.2.1 u.2.2.1 u.2.2.2.1 u.2.2.2.2.1 u.2.2.2.2.2.1 u.2.2.2.2.2.2.1 u.2.2.2.2.2.2.2.1 u.2.2.2.2.2.2.2.2.1 u.2.2.2.2.2.2.2.2.2.1 u.2.2.2.2.2.2.2.2.2.2.1 u.2.2.2.2.2.2.2.2.2.2.2.1 u.2.2.2.2.2.2.2.2.2.2.2.2.1 u.2.2.2.2.2.2.2.2.2.2.2.2.2.1 u.2.2.2.2.2.2.2.2.2.2.2.2.2.2.1 u.2.2.2.2.2.2.2.2.2.2.2.2.2.2.2.1 u.2.2.2.2.2.2.2.2.2.2.2.2.2.2.2.2.1 u.2.2.2.2.2.2.2.2.2.2.2.2.2.2.2.2.2.1 u.2.2.2.2.2.2.2.2.2.2.2.2.2.2.2.2.2.2.1 u.2.2.2.2.2.2.2.2.2.2.2.2.2.2.2.2.2.2.2.1 u.2.2.2.2.2.2.2.2.2.2.2.2.2.2.2.2.2.2.2.2.1 u.2.2.2.2.2.2.2.2.2.2.2.2.2.2.2.2.2.2.2.2.2.1 u.2.2.2.2.2.2.2.2.2.2.2.2.2.2.2.2.2.2.2.2.2.2.1 u.2.2.2.2.2.2.2.2.2.2.2.2.2.2.2.2.2.2.2.2.2.2.2.1 u.2.2.2.2.2.2.2.2.2.2.2.2.2.2.2.2.2.2.2.2.2.2.2.2.1 u.2.2.2.2.2.2.2.2.2.2.2.2.2.2.2.2.2.2.2.2.2.2.2.2.2) 0 0 := by
  refine ctI_of (own := RX7) (by decide +kernel) rfl (Nat.le_of_ble_eq_true rfl) (fun p e s m below meth c A C => ?_)
  refine w_sub (lv' := [(0, .ref (ad 0)), (1, .int p0), (2, .int p1), (3, .int p2), (4, .long p3)]) C [0, 1, 2, 3, 4] rfl ?_
  unfold wp_X7_make at hw
  refine w_aload_n C 0 dX7_make_0 rfl ?_
  refine w_iload_n C 1 dX7_make_1 rfl ?_
  refine w_callVE C (c_X7_ledgerAt (ad := ad) hw) f_X7_ledgerAt k_1 k_259 rfl ⟨Nat.le_of_ble_eq_true rfl, Nat.le_of_ble_eq_true rfl⟩ rfl rfl ⟨Nat.le_of_ble_eq_true rfl, Nat.le_of_ble_eq_true rfl⟩ 0 (mw_at (by decide) rfl) (rr := (RX7, TX7, 5)) rfl rfl (fun _ => mw_addr) rfl (Nat.le_of_ble_eq_true rfl) dX7_make_2 (fun r_2 u_2 hw => ?_)
  obtain ⟨hw, hb_2⟩ := hw
  try dsimp only at hw
  cases r_2 with
  | none =>
    replace hw := hw.1 rfl
    refine w_astoreN C [(6, .null), (0, .ref (ad 0)), (1, .int p0), (2, .int p1), (3, .int p2), (4, .long p3)] dX7_make_5 (by decide) rfl ?_
    refine w_aloadN C 0 dX7_make_7 rfl ?_
    refine w_ifnullN C 22 (by decide) dX7_make_9 ?_
    refine w_iconst C (v := (-1 : Int32)) dX7_make_22 (by decide) ?_
    exact w_iret C (next, known, rec, m_made, m_sort, m_digits, m_slots, m_pages, m_highest, m_units, m_kinds, m_rows, m_marks, q_active, q_rests, q_writers, l_made, l_sort, l_digits, l_slots, l_pages, l_highest, l_units, l_kinds, l_rows, l_marks) hw rfl (Nat.le_of_ble_eq_true rfl) (Nat.le_of_ble_eq_true rfl) dX7_make_23
  | some j_2 =>
    replace hw := hw.2 j_2 rfl
    have hb_2 := hb_2 j_2 rfl
    refine w_astore C [(6, .ref (ad (74 + 5 * j_2 + 0))), (0, .ref (ad 0)), (1, .int p0), (2, .int p1), (3, .int p2), (4, .long p3)] dX7_make_5 (by decide) rfl ?_
    refine w_aload C 0 dX7_make_7 rfl ?_
    refine w_ifnull C dX7_make_9 ?_
    refine w_iload_n C 3 dX7_make_12 rfl ?_
    refine w_iload_n C 4 dX7_make_13 rfl ?_
    refine w_lload C 5 dX7_make_14 rfl ?_
    refine w_callSI C (c_X7_isSetting hw) f_X7_isSetting k_502 rfl ⟨Nat.le_of_ble_eq_true rfl, Nat.le_of_ble_eq_true rfl⟩ rfl rfl ⟨Nat.le_of_ble_eq_true rfl, Nat.le_of_ble_eq_true rfl⟩ rfl (Nat.le_of_ble_eq_true rfl) dX7_make_16 (fun r_16 u_16 hw => ?_)
    try dsimp only at hw
    refine w_if_ne C 24 (by decide) dX7_make_19 (fun c_19 => ?_) (fun c_19 => ?_)
    · replace hw := hw.1 c_19
      refine w_aload_n C 1 dX7_make_24 rfl ?_
      refine w_iload_n C 2 dX7_make_25 rfl ?_
      refine w_callVV C (c_X7_remember (ad := ad) hw) f_X7_remember k_8 k_386 rfl ⟨Nat.le_of_ble_eq_true rfl, Nat.le_of_ble_eq_true rfl⟩ rfl rfl ⟨Nat.le_of_ble_eq_true rfl, Nat.le_of_ble_eq_true rfl⟩ 0 (mw_at (by decide) rfl) (rr := (RX7, TX7, 5)) rfl rfl (fun _ => mw_addr) rfl (Nat.le_of_ble_eq_true rfl) dX7_make_26 (fun u_26 hw => ?_)
      obtain ⟨next_26, known_26, rec_26, m_made_26, m_sort_26, m_digits_26, m_slots_26, m_pages_26, m_highest_26, m_units_26, m_kinds_26, m_rows_26, m_marks_26, q_active_26, q_rests_26, q_writers_26⟩ := u_26
      try dsimp only at hw
      refine w_aload C 0 dX7_make_29 rfl ?_
      refine w_iload_n C 3 dX7_make_31 rfl ?_
      refine w_iload_n C 4 dX7_make_32 rfl ?_
      refine w_lload C 5 dX7_make_33 rfl ?_
      refine w_callXV C (c_X1_open (a := fun i => ad (74 + 5 * j_2 + i)) hw) f_X1_open k_423 k_503 rfl ⟨Nat.le_of_ble_eq_true rfl, Nat.le_of_ble_eq_true rfl⟩ rfl rfl ⟨Nat.le_of_ble_eq_true rfl, Nat.le_of_ble_eq_true rfl⟩ 0 rfl (rr := (RX1, TX1, 10)) rfl rfl (ad := ad) (N := 94) ((plL j_2)) (wc_L (cB := cB) j_2) (lt_L (by assumption)) nd_L (fun (u : Int32 × Int32 × Int32 × Int32 × Int32 × Int64 × (Nat → Int64) × (Nat → Int32) × (Nat → Int32) × (Nat → Int32)) => (ctT cI cJ cL cS ad active rests writers tbytes tlen dbytes dlen next_26 known_26 rec_26 m_made_26 m_sort_26 m_digits_26 m_slots_26 m_pages_26 m_highest_26 m_units_26 m_kinds_26 m_rows_26 m_marks_26 q_active_26 q_rests_26 q_writers_26 (va_up l_made j_2 u.1) (va_up l_sort j_2 u.2.1) (va_up l_digits j_2 u.2.2.1) (va_up l_slots j_2 u.2.2.2.1) (va_up l_pages j_2 u.2.2.2.2.1) (va_up l_highest j_2 u.2.2.2.2.2.1) (va_up l_units j_2 u.2.2.2.2.2.2.1) (va_up l_kinds j_2 u.2.2.2.2.2.2.2.1) (va_up l_rows j_2 u.2.2.2.2.2.2.2.2.1) (va_up l_marks j_2 u.2.2.2.2.2.2.2.2.2))) (fun _ => (wc_L (cB := cB) j_2).trans (by first | (simp only [va_up_self]; done) | rfl)) (fun _ n _ hn => rest_L (fun _ h => va_up_ne _ _ h) (fun _ h => va_up_ne _ _ h) (fun _ h => va_up_ne _ _ h) (fun _ h => va_up_ne _ _ h) (fun _ h => va_up_ne _ _ h) (fun _ h => va_up_ne _ _ h) (fun _ h => va_up_ne _ _ h) (fun _ h => va_up_ne _ _ h) (fun _ h => va_up_ne _ _ h) (fun _ h => va_up_ne _ _ h) n hn) rfl (Nat.le_of_ble_eq_true rfl) dX7_make_35 (fun u_35 hw => ?_)
      obtain ⟨l_made_35, l_sort_35, l_digits_35, l_slots_35, l_pages_35, l_highest_35, l_units_35, l_kinds_35, l_rows_35, l_marks_35⟩ := u_35
      try dsimp only at hw
      refine w_aload C 0 dX7_make_38 rfl ?_
      refine w_getN C (T1 := TX1) (74 + 5 * j_2 + 0) 3 u_X1 n_153 rfl (by decide) (mw_at (by omega) (ct_L0 j_2)) rfl dX7_make_40 ?_
      exact w_iret C (next_26, known_26, rec_26, m_made_26, m_sort_26, m_digits_26, m_slots_26, m_pages_26, m_highest_26, m_units_26, m_kinds_26, m_rows_26, m_marks_26, q_active_26, q_rests_26, q_writers_26, (va_up l_made j_2 l_made_35), (va_up l_sort j_2 l_sort_35), (va_up l_digits j_2 l_digits_35), (va_up l_slots j_2 l_slots_35), (va_up l_pages j_2 l_pages_35), (va_up l_highest j_2 l_highest_35), (va_up l_units j_2 l_units_35), (va_up l_kinds j_2 l_kinds_35), (va_up l_rows j_2 l_rows_35), (va_up l_marks j_2 l_marks_35)) hw rfl (Nat.le_of_ble_eq_true rfl) (Nat.le_of_ble_eq_true rfl) dX7_make_43
    · replace hw := hw.2 c_19
      refine w_iconst C (v := (-1 : Int32)) dX7_make_22 (by decide) ?_
      exact w_iret C (next, known, rec, m_made, m_sort, m_digits, m_slots, m_pages, m_highest, m_units, m_kinds, m_rows, m_marks, q_active, q_rests, q_writers, l_made, l_sort, l_digits, l_slots, l_pages, l_highest, l_units, l_kinds, l_rows, l_marks) hw rfl (Nat.le_of_ble_eq_true rfl) (Nat.le_of_ble_eq_true rfl) dX7_make_23
def wp_X7_record (p0 : Int32) (p1 : Int64) (p2 : Int64) (p3 : Int64) (active : Int32) (rests : Int32) (writers : Nat → Int32) (next : Int32) (known : Int32) (rec : Nat → Int32) (m_made : Nat → Int32) (m_sort : Nat → Int32) (m_digits : Nat → Int32) (m_slots : Nat → Int32) (m_pages : Nat → Int32) (m_highest : Nat → Int64) (m_units : Nat → Nat → Int64) (m_kinds : Nat → Nat → Int32) (m_rows : Nat → Nat → Int32) (m_marks : Nat → Nat → Int32) (q_active : Nat → Int32) (q_rests : Nat → Int32) (q_writers : Nat → Nat → Int32) (l_made : Nat → Int32) (l_sort : Nat → Int32) (l_digits : Nat → Int32) (l_slots : Nat → Int32) (l_pages : Nat → Int32) (l_highest : Nat → Int64) (l_units : Nat → Nat → Int64) (l_kinds : Nat → Nat → Int32) (l_rows : Nat → Nat → Int32) (l_marks : Nat → Nat → Int32) (Q : Int64 → Int32 → Int32 → (Nat → Int32) → (Nat → Int32) → (Nat → Int32) → (Nat → Int32) → (Nat → Int32) → (Nat → Int32) → (Nat → Int64) → (Nat → Nat → Int64) → (Nat → Nat → Int32) → (Nat → Nat → Int32) → (Nat → Nat → Int32) → (Nat → Int32) → (Nat → Int32) → (Nat → Nat → Int32) → (Nat → Nat → Int64) → (Nat → Nat → Int32) → Prop) : Prop := wp_X7_madeAt p0 l_made (fun (r_2 : Option Nat) => ((r_2 = none → (Q (-1 : Int64) next known rec m_made m_sort m_digits m_slots m_pages m_highest m_units m_kinds m_rows m_marks q_active q_rests q_writers l_units l_kinds)) ∧ (∀ j_2 : Nat, r_2 = some j_2 → (((p2 < (1 : Int64) → (Q (-1 : Int64) next known rec m_made m_sort m_digits m_slots m_pages m_highest m_units m_kinds m_rows m_marks q_active q_rests q_writers l_units l_kinds)) ∧ (¬ p2 < (1 : Int64) → ((((1000000000000 : Int64) < p2 → (Q (-1 : Int64) next known rec m_made m_sort m_digits m_slots m_pages m_highest m_units m_kinds m_rows m_marks q_active q_rests q_writers l_units l_kinds)) ∧ (¬ (1000000000000 : Int64) < p2 → ((((0 : Int64) ≤ p3 → (wp_X1_pour p1 p2 p3 (0 : Int32) (l_sort j_2) (l_digits j_2) (l_highest j_2) (l_units j_2) (l_kinds j_2) (fun (r_47 : Int32) (l_units_47 : Nat → Int64) (l_kinds_47 : Nat → Int32) => ((¬ r_47 = 0 → (wp_X7_remember p0 active rests writers next known rec m_made m_sort m_digits m_slots m_pages m_highest m_units m_kinds m_rows m_marks q_active q_rests q_writers l_made l_sort l_digits l_slots l_pages l_highest (va_up l_units j_2 l_units_47) (va_up l_kinds j_2 l_kinds_47) l_rows l_marks (fun (next_59 : Int32) (known_59 : Int32) (rec_59 : Nat → Int32) (m_made_59 : Nat → Int32) (m_sort_59 : Nat → Int32) (m_digits_59 : Nat → Int32) (m_slots_59 : Nat → Int32) (m_pages_59 : Nat → Int32) (m_highest_59 : Nat → Int64) (m_units_59 : Nat → Nat → Int64) (m_kinds_59 : Nat → Nat → Int32) (m_rows_59 : Nat → Nat → Int32) (m_marks_59 : Nat → Nat → Int32) (q_active_59 : Nat → Int32) (q_rests_59 : Nat → Int32) (q_writers_59 : Nat → Nat → Int32) => wp_X1_pour p1 p2 p3 (1 : Int32) (l_sort j_2) (l_digits j_2) (l_highest j_2) ((va_up l_units j_2 l_units_47) j_2) ((va_up l_kinds j_2 l_kinds_47) j_2) (fun (r_70 : Int32) (l_units_70 : Nat → Int64) (l_kinds_70 : Nat → Int32) => wp_X7_slotOf (l_digits j_2) p1  (fun (r_82 : Int32) => wp_X1_unitsOf r_82 ((va_up (va_up l_units j_2 l_units_47) j_2 l_units_70) j_2) (fun (r_85 : Int64) => Q r_85 next_59 known_59 rec_59 m_made_59 m_sort_59 m_digits_59 m_slots_59 m_pages_59 m_highest_59 m_units_59 m_kinds_59 m_rows_59 m_marks_59 q_active_59 q_rests_59 q_writers_59 (va_up (va_up l_units j_2 l_units_47) j_2 l_units_70) (va_up (va_up l_kinds j_2 l_kinds_47) j_2 l_kinds_70))))))) ∧ (r_47 = 0 → (Q (-2 : Int64) next known rec m_made m_sort m_digits m_slots m_pages m_highest m_units m_kinds m_rows m_marks q_active q_rests q_writers (va_up l_units j_2 l_units_47) (va_up l_kinds j_2 l_kinds_47))))))) ∧ (¬ (0 : Int64) ≤ p3 → (Q (-1 : Int64) next known rec m_made m_sort m_digits m_slots m_pages m_highest m_units m_kinds m_rows m_marks q_active q_rests q_writers l_units l_kinds)))))))))))))
set_option maxHeartbeats 4000000 in
set_option maxRecDepth 100000 in
theorem c_X7_record {l : Launch} {D : va_G} {cB cI cJ cL cS : ClassId} {T : Nat × Nat × Nat × Nat} {ad : Nat → Nat} {p0 : Int32} {p1 : Int64} {p2 : Int64} {p3 : Int64} {active : Int32} {rests : Int32} {writers : Nat → Int32} {tbytes : Nat → Int32} {tlen : Int32} {dbytes : Nat → Int32} {dlen : Int32} {next : Int32} {known : Int32} {rec : Nat → Int32} {m_made : Nat → Int32} {m_sort : Nat → Int32} {m_digits : Nat → Int32} {m_slots : Nat → Int32} {m_pages : Nat → Int32} {m_highest : Nat → Int64} {m_units : Nat → Nat → Int64} {m_kinds : Nat → Nat → Int32} {m_rows : Nat → Nat → Int32} {m_marks : Nat → Nat → Int32} {q_active : Nat → Int32} {q_rests : Nat → Int32} {q_writers : Nat → Nat → Int32} {l_made : Nat → Int32} {l_sort : Nat → Int32} {l_digits : Nat → Int32} {l_slots : Nat → Int32} {l_pages : Nat → Int32} {l_highest : Nat → Int64} {l_units : Nat → Nat → Int64} {l_kinds : Nat → Nat → Int32} {l_rows : Nat → Nat → Int32} {l_marks : Nat → Nat → Int32} {Q : Int64 → Int32 → Int32 → (Nat → Int32) → (Nat → Int32) → (Nat → Int32) → (Nat → Int32) → (Nat → Int32) → (Nat → Int32) → (Nat → Int64) → (Nat → Nat → Int64) → (Nat → Nat → Int32) → (Nat → Nat → Int32) → (Nat → Nat → Int32) → (Nat → Int32) → (Nat → Int32) → (Nat → Nat → Int32) → (Nat → Nat → Int64) → (Nat → Nat → Int32) → Prop} (hw : wp_X7_record p0 p1 p2 p3 active rests writers next known rec m_made m_sort m_digits m_slots m_pages m_highest m_units m_kinds m_rows m_marks q_active q_rests q_writers l_made l_sort l_digits l_slots l_pages l_highest l_units l_kinds l_rows l_marks Q) : CtL l D (Z5 cB cI cJ cL cS) T yX7_record cX7_record 9 ({ frames := 5, cells := 0, slots := 0, locals := 141 } : Room) (Option.some Jvm.ClassFile.FieldType.long) [.ref (ad 0), .int p0, .long p1, .long p2, .long p3] (mw ad 94 (ctT cI cJ cL cS ad active rests writers tbytes tlen dbytes dlen next known rec m_made m_sort m_digits m_slots m_pages m_highest m_units m_kinds m_rows m_marks q_active q_rests q_writers l_made l_sort l_digits l_slots l_pages l_highest l_units l_kinds l_rows l_marks)) (fun (u : Int32 × Int32 × (Nat → Int32) × (Nat → Int32) × (Nat → Int32) × (Nat → Int32) × (Nat → Int32) × (Nat → Int32) × (Nat → Int64) × (Nat → Nat → Int64) × (Nat → Nat → Int32) × (Nat → Nat → Int32) × (Nat → Nat → Int32) × (Nat → Int32) × (Nat → Int32) × (Nat → Nat → Int32) × (Nat → Nat → Int64) × (Nat → Nat → Int32)) => (mw ad 94 (ctT cI cJ cL cS ad active rests writers tbytes tlen dbytes dlen u.1 u.2.1 u.2.2.1 u.2.2.2.1 u.2.2.2.2.1 u.2.2.2.2.2.1 u.2.2.2.2.2.2.1 u.2.2.2.2.2.2.2.1 u.2.2.2.2.2.2.2.2.1 u.2.2.2.2.2.2.2.2.2.1 u.2.2.2.2.2.2.2.2.2.2.1 u.2.2.2.2.2.2.2.2.2.2.2.1 u.2.2.2.2.2.2.2.2.2.2.2.2.1 u.2.2.2.2.2.2.2.2.2.2.2.2.2.1 u.2.2.2.2.2.2.2.2.2.2.2.2.2.2.1 u.2.2.2.2.2.2.2.2.2.2.2.2.2.2.2.1 l_made l_sort l_digits l_slots l_pages l_highest u.2.2.2.2.2.2.2.2.2.2.2.2.2.2.2.2.1 u.2.2.2.2.2.2.2.2.2.2.2.2.2.2.2.2.2 l_rows l_marks))) (fun (r : Int64) (u : Int32 × Int32 × (Nat → Int32) × (Nat → Int32) × (Nat → Int32) × (Nat → Int32) × (Nat → Int32) × (Nat → Int32) × (Nat → Int64) × (Nat → Nat → Int64) × (Nat → Nat → Int32) × (Nat → Nat → Int32) × (Nat → Nat → Int32) × (Nat → Int32) × (Nat → Int32) × (Nat → Nat → Int32) × (Nat → Nat → Int64) × (Nat → Nat → Int32)) => Q r u.1 u.2.1 u.2.2.1 u.2.2.2.1 u.2.2.2.2.1 u.2.2.2.2.2.1 u.2.2.2.2.2.2.1 u.2.2.2.2.2.2.2.1 u.2.2.2.2.2.2.2.2.1 u.2.2.2.2.2.2.2.2.2.1 u.2.2.2.2.2.2.2.2.2.2.1 u.2.2.2.2.2.2.2.2.2.2.2.1 u.2.2.2.2.2.2.2.2.2.2.2.2.1 u.2.2.2.2.2.2.2.2.2.2.2.2.2.1 u.2.2.2.2.2.2.2.2.2.2.2.2.2.2.1 u.2.2.2.2.2.2.2.2.2.2.2.2.2.2.2.1 u.2.2.2.2.2.2.2.2.2.2.2.2.2.2.2.2.1 u.2.2.2.2.2.2.2.2.2.2.2.2.2.2.2.2.2) 0 0 := by
  refine ctL_of (own := RX7) (by decide +kernel) rfl (Nat.le_of_ble_eq_true rfl) (fun p e s m below meth c A C => ?_)
  refine w_sub (lv' := [(0, .ref (ad 0)), (1, .int p0), (2, .long p1), (4, .long p2), (6, .long p3)]) C [0, 1, 2, 3, 4] rfl ?_
  unfold wp_X7_record at hw
  refine w_aload_n C 0 dX7_record_0 rfl ?_
  refine w_iload_n C 1 dX7_record_1 rfl ?_
  refine w_callVE C (c_X7_madeAt (ad := ad) hw) f_X7_madeAt k_0 k_255 rfl ⟨Nat.le_of_ble_eq_true rfl, Nat.le_of_ble_eq_true rfl⟩ rfl rfl ⟨Nat.le_of_ble_eq_true rfl, Nat.le_of_ble_eq_true rfl⟩ 0 (mw_at (by decide) rfl) (rr := (RX7, TX7, 5)) rfl rfl (fun _ => mw_addr) rfl (Nat.le_of_ble_eq_true rfl) dX7_record_2 (fun r_2 u_2 hw => ?_)
  obtain ⟨hw, hb_2⟩ := hw
  try dsimp only at hw
  cases r_2 with
  | none =>
    replace hw := hw.1 rfl
    refine w_astoreN C [(8, .null), (0, .ref (ad 0)), (1, .int p0), (2, .long p1), (4, .long p2), (6, .long p3)] dX7_record_5 (by decide) rfl ?_
    refine w_aloadN C 0 dX7_record_7 rfl ?_
    refine w_ifnullN C 35 (by decide) dX7_record_9 ?_
    refine w_ldc2 C (v := (-1 : Int64)) dX7_record_35 k_481 ?_
    exact w_lret C (next, known, rec, m_made, m_sort, m_digits, m_slots, m_pages, m_highest, m_units, m_kinds, m_rows, m_marks, q_active, q_rests, q_writers, l_units, l_kinds) hw rfl (Nat.le_of_ble_eq_true rfl) (Nat.le_of_ble_eq_true rfl) dX7_record_38
  | some j_2 =>
    replace hw := hw.2 j_2 rfl
    have hb_2 := hb_2 j_2 rfl
    refine w_astore C [(8, .ref (ad (74 + 5 * j_2 + 0))), (0, .ref (ad 0)), (1, .int p0), (2, .long p1), (4, .long p2), (6, .long p3)] dX7_record_5 (by decide) rfl ?_
    refine w_aload C 0 dX7_record_7 rfl ?_
    refine w_ifnull C dX7_record_9 ?_
    refine w_lload C 4 dX7_record_12 rfl ?_
    refine w_lconst C (v := (1 : Int64)) dX7_record_14 (by decide) ?_
    refine w_lcmp_lt C 16 35 rfl (by decide) dX7_record_15 dX7_record_16 (fun c_15 => ?_) (fun c_15 => ?_)
    · replace hw := hw.1 c_15
      refine w_ldc2 C (v := (-1 : Int64)) dX7_record_35 k_481 ?_
      exact w_lret C (next, known, rec, m_made, m_sort, m_digits, m_slots, m_pages, m_highest, m_units, m_kinds, m_rows, m_marks, q_active, q_rests, q_writers, l_units, l_kinds) hw rfl (Nat.le_of_ble_eq_true rfl) (Nat.le_of_ble_eq_true rfl) dX7_record_38
    · replace hw := hw.2 c_15
      refine w_lload C 4 dX7_record_19 rfl ?_
      refine w_ldc2 C (v := (1000000000000 : Int64)) dX7_record_21 k_359 ?_
      refine w_lcmp_gt C 25 35 rfl (by decide) dX7_record_24 dX7_record_25 (fun c_24 => ?_) (fun c_24 => ?_)
      · replace hw := hw.1 c_24
        refine w_ldc2 C (v := (-1 : Int64)) dX7_record_35 k_481 ?_
        exact w_lret C (next, known, rec, m_made, m_sort, m_digits, m_slots, m_pages, m_highest, m_units, m_kinds, m_rows, m_marks, q_active, q_rests, q_writers, l_units, l_kinds) hw rfl (Nat.le_of_ble_eq_true rfl) (Nat.le_of_ble_eq_true rfl) dX7_record_38
      · replace hw := hw.2 c_24
        refine w_lload C 5 dX7_record_28 rfl ?_
        refine w_lconst C (v := (0 : Int64)) dX7_record_30 (by decide) ?_
        refine w_lcmp_ge C 32 39 rfl (by decide) dX7_record_31 dX7_record_32 (fun c_31 => ?_) (fun c_31 => ?_)
        · replace hw := hw.1 c_31
          refine w_aload C 0 dX7_record_39 rfl ?_
          refine w_lload_n C 3 dX7_record_41 rfl ?_
          refine w_lload C 4 dX7_record_42 rfl ?_
          refine w_lload C 5 dX7_record_44 rfl ?_
          refine w_iconst C (v := (0 : Int32)) dX7_record_46 (by decide) ?_
          refine w_callXI C (c_X1_pour (a := fun i => ad (74 + 5 * j_2 + i)) hw) f_X1_pour k_510 k_508 rfl ⟨Nat.le_of_ble_eq_true rfl, Nat.le_of_ble_eq_true rfl⟩ rfl rfl ⟨Nat.le_of_ble_eq_true rfl, Nat.le_of_ble_eq_true rfl⟩ 0 rfl (rr := (RX1, TX1, 10)) rfl rfl (ad := ad) (N := 94) ((plL j_2)) (wc_L (cB := cB) j_2) (lt_L (by assumption)) nd_L (fun (u : (Nat → Int64) × (Nat → Int32)) => (ctT cI cJ cL cS ad active rests writers tbytes tlen dbytes dlen next known rec m_made m_sort m_digits m_slots m_pages m_highest m_units m_kinds m_rows m_marks q_active q_rests q_writers l_made l_sort l_digits l_slots l_pages l_highest (va_up l_units j_2 u.1) (va_up l_kinds j_2 u.2) l_rows l_marks)) (fun _ => (wc_L (cB := cB) j_2).trans (by first | (simp only [va_up_self]; done) | rfl)) (fun _ n _ hn => rest_L (fun _ _ => rfl) (fun _ _ => rfl) (fun _ _ => rfl) (fun _ _ => rfl) (fun _ _ => rfl) (fun _ _ => rfl) (fun _ h => va_up_ne _ _ h) (fun _ h => va_up_ne _ _ h) (fun _ _ => rfl) (fun _ _ => rfl) n hn) rfl (Nat.le_of_ble_eq_true rfl) dX7_record_47 (fun r_47 u_47 hw => ?_)
          obtain ⟨l_units_47, l_kinds_47⟩ := u_47
          try dsimp only at hw
          refine w_if_ne C 57 (by decide) dX7_record_50 (fun c_50 => ?_) (fun c_50 => ?_)
          · replace hw := hw.1 c_50
            refine w_aload_n C 1 dX7_record_57 rfl ?_
            refine w_iload_n C 2 dX7_record_58 rfl ?_
            refine w_callVV C (c_X7_remember (ad := ad) hw) f_X7_remember k_8 k_386 rfl ⟨Nat.le_of_ble_eq_true rfl, Nat.le_of_ble_eq_true rfl⟩ rfl rfl ⟨Nat.le_of_ble_eq_true rfl, Nat.le_of_ble_eq_true rfl⟩ 0 (mw_at (by decide) rfl) (rr := (RX7, TX7, 5)) rfl rfl (fun _ => mw_addr) rfl (Nat.le_of_ble_eq_true rfl) dX7_record_59 (fun u_59 hw => ?_)
            obtain ⟨next_59, known_59, rec_59, m_made_59, m_sort_59, m_digits_59, m_slots_59, m_pages_59, m_highest_59, m_units_59, m_kinds_59, m_rows_59, m_marks_59, q_active_59, q_rests_59, q_writers_59⟩ := u_59
            try dsimp only at hw
            refine w_aload C 0 dX7_record_62 rfl ?_
            refine w_lload_n C 3 dX7_record_64 rfl ?_
            refine w_lload C 4 dX7_record_65 rfl ?_
            refine w_lload C 5 dX7_record_67 rfl ?_
            refine w_iconst C (v := (1 : Int32)) dX7_record_69 (by decide) ?_
            refine w_callXI C (c_X1_pour (a := fun i => ad (74 + 5 * j_2 + i)) hw) f_X1_pour k_510 k_508 rfl ⟨Nat.le_of_ble_eq_true rfl, Nat.le_of_ble_eq_true rfl⟩ rfl rfl ⟨Nat.le_of_ble_eq_true rfl, Nat.le_of_ble_eq_true rfl⟩ 0 rfl (rr := (RX1, TX1, 10)) rfl rfl (ad := ad) (N := 94) ((plL j_2)) (wc_L (cB := cB) j_2) (lt_L (by assumption)) nd_L (fun (u : (Nat → Int64) × (Nat → Int32)) => (ctT cI cJ cL cS ad active rests writers tbytes tlen dbytes dlen next_59 known_59 rec_59 m_made_59 m_sort_59 m_digits_59 m_slots_59 m_pages_59 m_highest_59 m_units_59 m_kinds_59 m_rows_59 m_marks_59 q_active_59 q_rests_59 q_writers_59 l_made l_sort l_digits l_slots l_pages l_highest (va_up (va_up l_units j_2 l_units_47) j_2 u.1) (va_up (va_up l_kinds j_2 l_kinds_47) j_2 u.2) l_rows l_marks)) (fun _ => (wc_L (cB := cB) j_2).trans (by first | (simp only [va_up_self]; done) | rfl)) (fun _ n _ hn => rest_L (fun _ _ => rfl) (fun _ _ => rfl) (fun _ _ => rfl) (fun _ _ => rfl) (fun _ _ => rfl) (fun _ _ => rfl) (fun _ h => va_up_ne _ _ h) (fun _ h => va_up_ne _ _ h) (fun _ _ => rfl) (fun _ _ => rfl) n hn) rfl (Nat.le_of_ble_eq_true rfl) dX7_record_70 (fun r_70 u_70 hw => ?_)
            obtain ⟨l_units_70, l_kinds_70⟩ := u_70
            try dsimp only at hw
            refine w_pop C rfl dX7_record_73 ?_
            refine w_aload C 0 dX7_record_74 rfl ?_
            refine w_aload C 0 dX7_record_76 rfl ?_
            refine w_getN C (T1 := TX1) (74 + 5 * j_2 + 0) 2 u_X1 n_151 rfl (by decide) (mw_at (by omega) (ct_L0 j_2)) rfl dX7_record_78 ?_
            refine w_lload_n C 3 dX7_record_81 rfl ?_
            refine w_callSI C (c_X7_slotOf hw) f_X7_slotOf k_476 rfl ⟨Nat.le_of_ble_eq_true rfl, Nat.le_of_ble_eq_true rfl⟩ rfl rfl ⟨Nat.le_of_ble_eq_true rfl, Nat.le_of_ble_eq_true rfl⟩ rfl (Nat.le_of_ble_eq_true rfl) dX7_record_82 (fun r_82 u_82 hw => ?_)
            try dsimp only at hw
            refine w_callXL C (c_X1_unitsOf (a := fun i => ad (74 + 5 * j_2 + i)) hw) f_X1_unitsOf k_290 k_525 rfl ⟨Nat.le_of_ble_eq_true rfl, Nat.le_of_ble_eq_true rfl⟩ rfl rfl ⟨Nat.le_of_ble_eq_true rfl, Nat.le_of_ble_eq_true rfl⟩ 0 rfl (rr := (RX1, TX1, 10)) rfl rfl (ad := ad) (N := 94) ((plL j_2)) (wc_L (cB := cB) j_2) (lt_L (by assumption)) nd_L (fun (u : Unit) => (ctT cI cJ cL cS ad active rests writers tbytes tlen dbytes dlen next_59 known_59 rec_59 m_made_59 m_sort_59 m_digits_59 m_slots_59 m_pages_59 m_highest_59 m_units_59 m_kinds_59 m_rows_59 m_marks_59 q_active_59 q_rests_59 q_writers_59 l_made l_sort l_digits l_slots l_pages l_highest (va_up (va_up l_units j_2 l_units_47) j_2 l_units_70) (va_up (va_up l_kinds j_2 l_kinds_47) j_2 l_kinds_70) l_rows l_marks)) (fun _ => (wc_L (cB := cB) j_2).trans (by first | (simp only [va_up_self]; done) | rfl)) (fun _ _ _ _ => rfl) rfl (Nat.le_of_ble_eq_true rfl) dX7_record_85 (fun r_85 u_85 hw => ?_)
            try dsimp only at hw
            exact w_lret C (next_59, known_59, rec_59, m_made_59, m_sort_59, m_digits_59, m_slots_59, m_pages_59, m_highest_59, m_units_59, m_kinds_59, m_rows_59, m_marks_59, q_active_59, q_rests_59, q_writers_59, (va_up (va_up l_units j_2 l_units_47) j_2 l_units_70), (va_up (va_up l_kinds j_2 l_kinds_47) j_2 l_kinds_70)) hw rfl (Nat.le_of_ble_eq_true rfl) (Nat.le_of_ble_eq_true rfl) dX7_record_88
          · replace hw := hw.2 c_50
            refine w_ldc2 C (v := (-2 : Int64)) dX7_record_53 k_524 ?_
            exact w_lret C (next, known, rec, m_made, m_sort, m_digits, m_slots, m_pages, m_highest, m_units, m_kinds, m_rows, m_marks, q_active, q_rests, q_writers, (va_up l_units j_2 l_units_47), (va_up l_kinds j_2 l_kinds_47)) hw rfl (Nat.le_of_ble_eq_true rfl) (Nat.le_of_ble_eq_true rfl) dX7_record_56
        · replace hw := hw.2 c_31
          refine w_ldc2 C (v := (-1 : Int64)) dX7_record_35 k_481 ?_
          exact w_lret C (next, known, rec, m_made, m_sort, m_digits, m_slots, m_pages, m_highest, m_units, m_kinds, m_rows, m_marks, q_active, q_rests, q_writers, l_units, l_kinds) hw rfl (Nat.le_of_ble_eq_true rfl) (Nat.le_of_ble_eq_true rfl) dX7_record_38
def wp_X7_at (p0 : Int32) (p1 : Int64) (l_made : Nat → Int32) (l_digits : Nat → Int32) (l_highest : Nat → Int64) (l_units : Nat → Nat → Int64) (Q : Int64 → Prop) : Prop := wp_X7_madeAt p0 l_made (fun (r_2 : Option Nat) => ((r_2 = none → (Q (-1 : Int64))) ∧ (∀ j_2 : Nat, r_2 = some j_2 → (wp_X1_reaches p1 (l_highest j_2) (fun (r_15 : Int32) => ((¬ r_15 = 0 → (wp_X7_slotOf (l_digits j_2) p1  (fun (r_35 : Int32) => wp_X1_unitsOf r_35 (l_units j_2) (fun (r_38 : Int64) => Q r_38)))) ∧ (r_15 = 0 → (Q (-1 : Int64)))))))))
set_option maxHeartbeats 4000000 in
set_option maxRecDepth 100000 in
theorem c_X7_at {l : Launch} {D : va_G} {cB cI cJ cL cS : ClassId} {T : Nat × Nat × Nat × Nat} {ad : Nat → Nat} {p0 : Int32} {p1 : Int64} {active : Int32} {rests : Int32} {writers : Nat → Int32} {tbytes : Nat → Int32} {tlen : Int32} {dbytes : Nat → Int32} {dlen : Int32} {next : Int32} {known : Int32} {rec : Nat → Int32} {m_made : Nat → Int32} {m_sort : Nat → Int32} {m_digits : Nat → Int32} {m_slots : Nat → Int32} {m_pages : Nat → Int32} {m_highest : Nat → Int64} {m_units : Nat → Nat → Int64} {m_kinds : Nat → Nat → Int32} {m_rows : Nat → Nat → Int32} {m_marks : Nat → Nat → Int32} {q_active : Nat → Int32} {q_rests : Nat → Int32} {q_writers : Nat → Nat → Int32} {l_made : Nat → Int32} {l_sort : Nat → Int32} {l_digits : Nat → Int32} {l_slots : Nat → Int32} {l_pages : Nat → Int32} {l_highest : Nat → Int64} {l_units : Nat → Nat → Int64} {l_kinds : Nat → Nat → Int32} {l_rows : Nat → Nat → Int32} {l_marks : Nat → Nat → Int32} {Q : Int64 → Prop} (hw : wp_X7_at p0 p1 l_made l_digits l_highest l_units Q) : CtL l D (Z5 cB cI cJ cL cS) T yX7_at cX7_at 5 ({ frames := 3, cells := 0, slots := 0, locals := 67 } : Room) (Option.some Jvm.ClassFile.FieldType.long) [.ref (ad 0), .int p0, .long p1] (mw ad 94 (ctT cI cJ cL cS ad active rests writers tbytes tlen dbytes dlen next known rec m_made m_sort m_digits m_slots m_pages m_highest m_units m_kinds m_rows m_marks q_active q_rests q_writers l_made l_sort l_digits l_slots l_pages l_highest l_units l_kinds l_rows l_marks)) (fun (u : Unit) => (mw ad 94 (ctT cI cJ cL cS ad active rests writers tbytes tlen dbytes dlen next known rec m_made m_sort m_digits m_slots m_pages m_highest m_units m_kinds m_rows m_marks q_active q_rests q_writers l_made l_sort l_digits l_slots l_pages l_highest l_units l_kinds l_rows l_marks))) (fun (r : Int64) (u : Unit) => Q r ) 0 0 := by
  refine ctL_of (own := RX7) (by decide +kernel) rfl (Nat.le_of_ble_eq_true rfl) (fun p e s m below meth c A C => ?_)
  refine w_sub (lv' := [(0, .ref (ad 0)), (1, .int p0), (2, .long p1)]) C [0, 1, 2] rfl ?_
  unfold wp_X7_at at hw
  refine w_aload_n C 0 dX7_at_0 rfl ?_
  refine w_iload_n C 1 dX7_at_1 rfl ?_
  refine w_callVE C (c_X7_madeAt (ad := ad) hw) f_X7_madeAt k_0 k_255 rfl ⟨Nat.le_of_ble_eq_true rfl, Nat.le_of_ble_eq_true rfl⟩ rfl rfl ⟨Nat.le_of_ble_eq_true rfl, Nat.le_of_ble_eq_true rfl⟩ 0 (mw_at (by decide) rfl) (rr := (RX7, TX7, 5)) rfl rfl (fun _ => mw_addr) rfl (Nat.le_of_ble_eq_true rfl) dX7_at_2 (fun r_2 u_2 hw => ?_)
  obtain ⟨hw, hb_2⟩ := hw
  try dsimp only at hw
  cases r_2 with
  | none =>
    replace hw := hw.1 rfl
    refine w_astoreN C [(4, .null), (0, .ref (ad 0)), (1, .int p0), (2, .long p1)] dX7_at_5 (by decide) rfl ?_
    refine w_aloadN C 0 dX7_at_7 rfl ?_
    refine w_ifnullN C 21 (by decide) dX7_at_9 ?_
    refine w_ldc2 C (v := (-1 : Int64)) dX7_at_21 k_481 ?_
    refine w_goto C 41 (by decide) dX7_at_24 ?_
    exact w_lret C () hw rfl (Nat.le_of_ble_eq_true rfl) (Nat.le_of_ble_eq_true rfl) dX7_at_41
  | some j_2 =>
    replace hw := hw.2 j_2 rfl
    have hb_2 := hb_2 j_2 rfl
    refine w_astore C [(4, .ref (ad (74 + 5 * j_2 + 0))), (0, .ref (ad 0)), (1, .int p0), (2, .long p1)] dX7_at_5 (by decide) rfl ?_
    refine w_aload C 0 dX7_at_7 rfl ?_
    refine w_ifnull C dX7_at_9 ?_
    refine w_aload C 0 dX7_at_12 rfl ?_
    refine w_lload_n C 3 dX7_at_14 rfl ?_
    refine w_callXI C (c_X1_reaches (a := fun i => ad (74 + 5 * j_2 + i)) hw) f_X1_reaches k_514 k_530 rfl ⟨Nat.le_of_ble_eq_true rfl, Nat.le_of_ble_eq_true rfl⟩ rfl rfl ⟨Nat.le_of_ble_eq_true rfl, Nat.le_of_ble_eq_true rfl⟩ 0 rfl (rr := (RX1, TX1, 10)) rfl rfl (ad := ad) (N := 94) ((plL j_2)) (wc_L (cB := cB) j_2) (lt_L (by assumption)) nd_L (fun (u : Unit) => (ctT cI cJ cL cS ad active rests writers tbytes tlen dbytes dlen next known rec m_made m_sort m_digits m_slots m_pages m_highest m_units m_kinds m_rows m_marks q_active q_rests q_writers l_made l_sort l_digits l_slots l_pages l_highest l_units l_kinds l_rows l_marks)) (fun _ => (wc_L (cB := cB) j_2).trans (by first | (simp only [va_up_self]; done) | rfl)) (fun _ _ _ _ => rfl) rfl (Nat.le_of_ble_eq_true rfl) dX7_at_15 (fun r_15 u_15 hw => ?_)
    try dsimp only at hw
    refine w_if_ne C 27 (by decide) dX7_at_18 (fun c_18 => ?_) (fun c_18 => ?_)
    · replace hw := hw.1 c_18
      refine w_aload C 0 dX7_at_27 rfl ?_
      refine w_aload C 0 dX7_at_29 rfl ?_
      refine w_getN C (T1 := TX1) (74 + 5 * j_2 + 0) 2 u_X1 n_151 rfl (by decide) (mw_at (by omega) (ct_L0 j_2)) rfl dX7_at_31 ?_
      refine w_lload_n C 3 dX7_at_34 rfl ?_
      refine w_callSI C (c_X7_slotOf hw) f_X7_slotOf k_476 rfl ⟨Nat.le_of_ble_eq_true rfl, Nat.le_of_ble_eq_true rfl⟩ rfl rfl ⟨Nat.le_of_ble_eq_true rfl, Nat.le_of_ble_eq_true rfl⟩ rfl (Nat.le_of_ble_eq_true rfl) dX7_at_35 (fun r_35 u_35 hw => ?_)
      try dsimp only at hw
      refine w_callXL C (c_X1_unitsOf (a := fun i => ad (74 + 5 * j_2 + i)) hw) f_X1_unitsOf k_290 k_525 rfl ⟨Nat.le_of_ble_eq_true rfl, Nat.le_of_ble_eq_true rfl⟩ rfl rfl ⟨Nat.le_of_ble_eq_true rfl, Nat.le_of_ble_eq_true rfl⟩ 0 rfl (rr := (RX1, TX1, 10)) rfl rfl (ad := ad) (N := 94) ((plL j_2)) (wc_L (cB := cB) j_2) (lt_L (by assumption)) nd_L (fun (u : Unit) => (ctT cI cJ cL cS ad active rests writers tbytes tlen dbytes dlen next known rec m_made m_sort m_digits m_slots m_pages m_highest m_units m_kinds m_rows m_marks q_active q_rests q_writers l_made l_sort l_digits l_slots l_pages l_highest l_units l_kinds l_rows l_marks)) (fun _ => (wc_L (cB := cB) j_2).trans (by first | (simp only [va_up_self]; done) | rfl)) (fun _ _ _ _ => rfl) rfl (Nat.le_of_ble_eq_true rfl) dX7_at_38 (fun r_38 u_38 hw => ?_)
      try dsimp only at hw
      exact w_lret C () hw rfl (Nat.le_of_ble_eq_true rfl) (Nat.le_of_ble_eq_true rfl) dX7_at_41
    · replace hw := hw.2 c_18
      refine w_ldc2 C (v := (-1 : Int64)) dX7_at_21 k_481 ?_
      refine w_goto C 41 (by decide) dX7_at_24 ?_
      exact w_lret C () hw rfl (Nat.le_of_ble_eq_true rfl) (Nat.le_of_ble_eq_true rfl) dX7_at_41
def wp_X7_below (p0 : Int32) (p1 : Int64) (l_made : Nat → Int32) (l_digits : Nat → Int32) (l_slots : Nat → Int32) (l_pages : Nat → Int32) (l_highest : Nat → Int64) (l_units : Nat → Nat → Int64) (l_kinds : Nat → Nat → Int32) (Q : Int64 → Prop) : Prop := wp_X7_madeAt p0 l_made (fun (r_2 : Option Nat) => ((r_2 = none → (Q (-1 : Int64))) ∧ (∀ j_2 : Nat, r_2 = some j_2 → (wp_X1_reaches p1 (l_highest j_2) (fun (r_15 : Int32) => ((¬ r_15 = 0 → (wp_X7_slotOf (l_digits j_2) p1  (fun (r_35 : Int32) => wp_X1_unitsAhead r_35 (l_slots j_2) (l_pages j_2) (l_units j_2) (l_kinds j_2) (fun (r_38 : Int64) => Q r_38)))) ∧ (r_15 = 0 → (Q (-1 : Int64)))))))))
set_option maxHeartbeats 4000000 in
set_option maxRecDepth 100000 in
theorem c_X7_below {l : Launch} {D : va_G} {cB cI cJ cL cS : ClassId} {T : Nat × Nat × Nat × Nat} {ad : Nat → Nat} {p0 : Int32} {p1 : Int64} {active : Int32} {rests : Int32} {writers : Nat → Int32} {tbytes : Nat → Int32} {tlen : Int32} {dbytes : Nat → Int32} {dlen : Int32} {next : Int32} {known : Int32} {rec : Nat → Int32} {m_made : Nat → Int32} {m_sort : Nat → Int32} {m_digits : Nat → Int32} {m_slots : Nat → Int32} {m_pages : Nat → Int32} {m_highest : Nat → Int64} {m_units : Nat → Nat → Int64} {m_kinds : Nat → Nat → Int32} {m_rows : Nat → Nat → Int32} {m_marks : Nat → Nat → Int32} {q_active : Nat → Int32} {q_rests : Nat → Int32} {q_writers : Nat → Nat → Int32} {l_made : Nat → Int32} {l_sort : Nat → Int32} {l_digits : Nat → Int32} {l_slots : Nat → Int32} {l_pages : Nat → Int32} {l_highest : Nat → Int64} {l_units : Nat → Nat → Int64} {l_kinds : Nat → Nat → Int32} {l_rows : Nat → Nat → Int32} {l_marks : Nat → Nat → Int32} {Q : Int64 → Prop} (hw : wp_X7_below p0 p1 l_made l_digits l_slots l_pages l_highest l_units l_kinds Q) : CtL l D (Z5 cB cI cJ cL cS) T yX7_below cX7_below 5 ({ frames := 3, cells := 0, slots := 0, locals := 79 } : Room) (Option.some Jvm.ClassFile.FieldType.long) [.ref (ad 0), .int p0, .long p1] (mw ad 94 (ctT cI cJ cL cS ad active rests writers tbytes tlen dbytes dlen next known rec m_made m_sort m_digits m_slots m_pages m_highest m_units m_kinds m_rows m_marks q_active q_rests q_writers l_made l_sort l_digits l_slots l_pages l_highest l_units l_kinds l_rows l_marks)) (fun (u : Unit) => (mw ad 94 (ctT cI cJ cL cS ad active rests writers tbytes tlen dbytes dlen next known rec m_made m_sort m_digits m_slots m_pages m_highest m_units m_kinds m_rows m_marks q_active q_rests q_writers l_made l_sort l_digits l_slots l_pages l_highest l_units l_kinds l_rows l_marks))) (fun (r : Int64) (u : Unit) => Q r ) 0 0 := by
  refine ctL_of (own := RX7) (by decide +kernel) rfl (Nat.le_of_ble_eq_true rfl) (fun p e s m below meth c A C => ?_)
  refine w_sub (lv' := [(0, .ref (ad 0)), (1, .int p0), (2, .long p1)]) C [0, 1, 2] rfl ?_
  unfold wp_X7_below at hw
  refine w_aload_n C 0 dX7_below_0 rfl ?_
  refine w_iload_n C 1 dX7_below_1 rfl ?_
  refine w_callVE C (c_X7_madeAt (ad := ad) hw) f_X7_madeAt k_0 k_255 rfl ⟨Nat.le_of_ble_eq_true rfl, Nat.le_of_ble_eq_true rfl⟩ rfl rfl ⟨Nat.le_of_ble_eq_true rfl, Nat.le_of_ble_eq_true rfl⟩ 0 (mw_at (by decide) rfl) (rr := (RX7, TX7, 5)) rfl rfl (fun _ => mw_addr) rfl (Nat.le_of_ble_eq_true rfl) dX7_below_2 (fun r_2 u_2 hw => ?_)
  obtain ⟨hw, hb_2⟩ := hw
  try dsimp only at hw
  cases r_2 with
  | none =>
    replace hw := hw.1 rfl
    refine w_astoreN C [(4, .null), (0, .ref (ad 0)), (1, .int p0), (2, .long p1)] dX7_below_5 (by decide) rfl ?_
    refine w_aloadN C 0 dX7_below_7 rfl ?_
    refine w_ifnullN C 21 (by decide) dX7_below_9 ?_
    refine w_ldc2 C (v := (-1 : Int64)) dX7_below_21 k_481 ?_
    refine w_goto C 41 (by decide) dX7_below_24 ?_
    exact w_lret C () hw rfl (Nat.le_of_ble_eq_true rfl) (Nat.le_of_ble_eq_true rfl) dX7_below_41
  | some j_2 =>
    replace hw := hw.2 j_2 rfl
    have hb_2 := hb_2 j_2 rfl
    refine w_astore C [(4, .ref (ad (74 + 5 * j_2 + 0))), (0, .ref (ad 0)), (1, .int p0), (2, .long p1)] dX7_below_5 (by decide) rfl ?_
    refine w_aload C 0 dX7_below_7 rfl ?_
    refine w_ifnull C dX7_below_9 ?_
    refine w_aload C 0 dX7_below_12 rfl ?_
    refine w_lload_n C 3 dX7_below_14 rfl ?_
    refine w_callXI C (c_X1_reaches (a := fun i => ad (74 + 5 * j_2 + i)) hw) f_X1_reaches k_514 k_530 rfl ⟨Nat.le_of_ble_eq_true rfl, Nat.le_of_ble_eq_true rfl⟩ rfl rfl ⟨Nat.le_of_ble_eq_true rfl, Nat.le_of_ble_eq_true rfl⟩ 0 rfl (rr := (RX1, TX1, 10)) rfl rfl (ad := ad) (N := 94) ((plL j_2)) (wc_L (cB := cB) j_2) (lt_L (by assumption)) nd_L (fun (u : Unit) => (ctT cI cJ cL cS ad active rests writers tbytes tlen dbytes dlen next known rec m_made m_sort m_digits m_slots m_pages m_highest m_units m_kinds m_rows m_marks q_active q_rests q_writers l_made l_sort l_digits l_slots l_pages l_highest l_units l_kinds l_rows l_marks)) (fun _ => (wc_L (cB := cB) j_2).trans (by first | (simp only [va_up_self]; done) | rfl)) (fun _ _ _ _ => rfl) rfl (Nat.le_of_ble_eq_true rfl) dX7_below_15 (fun r_15 u_15 hw => ?_)
    try dsimp only at hw
    refine w_if_ne C 27 (by decide) dX7_below_18 (fun c_18 => ?_) (fun c_18 => ?_)
    · replace hw := hw.1 c_18
      refine w_aload C 0 dX7_below_27 rfl ?_
      refine w_aload C 0 dX7_below_29 rfl ?_
      refine w_getN C (T1 := TX1) (74 + 5 * j_2 + 0) 2 u_X1 n_151 rfl (by decide) (mw_at (by omega) (ct_L0 j_2)) rfl dX7_below_31 ?_
      refine w_lload_n C 3 dX7_below_34 rfl ?_
      refine w_callSI C (c_X7_slotOf hw) f_X7_slotOf k_476 rfl ⟨Nat.le_of_ble_eq_true rfl, Nat.le_of_ble_eq_true rfl⟩ rfl rfl ⟨Nat.le_of_ble_eq_true rfl, Nat.le_of_ble_eq_true rfl⟩ rfl (Nat.le_of_ble_eq_true rfl) dX7_below_35 (fun r_35 u_35 hw => ?_)
      try dsimp only at hw
      refine w_callXL C (c_X1_unitsAhead (a := fun i => ad (74 + 5 * j_2 + i)) hw) f_X1_unitsAhead k_537 k_535 rfl ⟨Nat.le_of_ble_eq_true rfl, Nat.le_of_ble_eq_true rfl⟩ rfl rfl ⟨Nat.le_of_ble_eq_true rfl, Nat.le_of_ble_eq_true rfl⟩ 0 rfl (rr := (RX1, TX1, 10)) rfl rfl (ad := ad) (N := 94) ((plL j_2)) (wc_L (cB := cB) j_2) (lt_L (by assumption)) nd_L (fun (u : Unit) => (ctT cI cJ cL cS ad active rests writers tbytes tlen dbytes dlen next known rec m_made m_sort m_digits m_slots m_pages m_highest m_units m_kinds m_rows m_marks q_active q_rests q_writers l_made l_sort l_digits l_slots l_pages l_highest l_units l_kinds l_rows l_marks)) (fun _ => (wc_L (cB := cB) j_2).trans (by first | (simp only [va_up_self]; done) | rfl)) (fun _ _ _ _ => rfl) rfl (Nat.le_of_ble_eq_true rfl) dX7_below_38 (fun r_38 u_38 hw => ?_)
      try dsimp only at hw
      exact w_lret C () hw rfl (Nat.le_of_ble_eq_true rfl) (Nat.le_of_ble_eq_true rfl) dX7_below_41
    · replace hw := hw.2 c_18
      refine w_ldc2 C (v := (-1 : Int64)) dX7_below_21 k_481 ?_
      refine w_goto C 41 (by decide) dX7_below_24 ?_
      exact w_lret C () hw rfl (Nat.le_of_ble_eq_true rfl) (Nat.le_of_ble_eq_true rfl) dX7_below_41
def wp_X7_total (p0 : Int32) (l_made : Nat → Int32) (l_slots : Nat → Int32) (l_pages : Nat → Int32) (l_units : Nat → Nat → Int64) (l_kinds : Nat → Nat → Int32) (Q : Int64 → Prop) : Prop := wp_X7_madeAt p0 l_made (fun (r_2 : Option Nat) => ((r_2 = none → (Q (-1 : Int64))) ∧ (∀ j_2 : Nat, r_2 = some j_2 → (wp_X1_allUnits  (l_slots j_2) (l_pages j_2) (l_units j_2) (l_kinds j_2) (fun (r_17 : Int64) => Q r_17)))))
set_option maxHeartbeats 4000000 in
set_option maxRecDepth 100000 in
theorem c_X7_total {l : Launch} {D : va_G} {cB cI cJ cL cS : ClassId} {T : Nat × Nat × Nat × Nat} {ad : Nat → Nat} {p0 : Int32} {active : Int32} {rests : Int32} {writers : Nat → Int32} {tbytes : Nat → Int32} {tlen : Int32} {dbytes : Nat → Int32} {dlen : Int32} {next : Int32} {known : Int32} {rec : Nat → Int32} {m_made : Nat → Int32} {m_sort : Nat → Int32} {m_digits : Nat → Int32} {m_slots : Nat → Int32} {m_pages : Nat → Int32} {m_highest : Nat → Int64} {m_units : Nat → Nat → Int64} {m_kinds : Nat → Nat → Int32} {m_rows : Nat → Nat → Int32} {m_marks : Nat → Nat → Int32} {q_active : Nat → Int32} {q_rests : Nat → Int32} {q_writers : Nat → Nat → Int32} {l_made : Nat → Int32} {l_sort : Nat → Int32} {l_digits : Nat → Int32} {l_slots : Nat → Int32} {l_pages : Nat → Int32} {l_highest : Nat → Int64} {l_units : Nat → Nat → Int64} {l_kinds : Nat → Nat → Int32} {l_rows : Nat → Nat → Int32} {l_marks : Nat → Nat → Int32} {Q : Int64 → Prop} (hw : wp_X7_total p0 l_made l_slots l_pages l_units l_kinds Q) : CtL l D (Z5 cB cI cJ cL cS) T yX7_total cX7_total 3 ({ frames := 4, cells := 0, slots := 0, locals := 99 } : Room) (Option.some Jvm.ClassFile.FieldType.long) [.ref (ad 0), .int p0] (mw ad 94 (ctT cI cJ cL cS ad active rests writers tbytes tlen dbytes dlen next known rec m_made m_sort m_digits m_slots m_pages m_highest m_units m_kinds m_rows m_marks q_active q_rests q_writers l_made l_sort l_digits l_slots l_pages l_highest l_units l_kinds l_rows l_marks)) (fun (u : Unit) => (mw ad 94 (ctT cI cJ cL cS ad active rests writers tbytes tlen dbytes dlen next known rec m_made m_sort m_digits m_slots m_pages m_highest m_units m_kinds m_rows m_marks q_active q_rests q_writers l_made l_sort l_digits l_slots l_pages l_highest l_units l_kinds l_rows l_marks))) (fun (r : Int64) (u : Unit) => Q r ) 0 0 := by
  refine ctL_of (own := RX7) (by decide +kernel) rfl (Nat.le_of_ble_eq_true rfl) (fun p e s m below meth c A C => ?_)
  refine w_sub (lv' := [(0, .ref (ad 0)), (1, .int p0)]) C [0, 1] rfl ?_
  unfold wp_X7_total at hw
  refine w_aload_n C 0 dX7_total_0 rfl ?_
  refine w_iload_n C 1 dX7_total_1 rfl ?_
  refine w_callVE C (c_X7_madeAt (ad := ad) hw) f_X7_madeAt k_0 k_255 rfl ⟨Nat.le_of_ble_eq_true rfl, Nat.le_of_ble_eq_true rfl⟩ rfl rfl ⟨Nat.le_of_ble_eq_true rfl, Nat.le_of_ble_eq_true rfl⟩ 0 (mw_at (by decide) rfl) (rr := (RX7, TX7, 5)) rfl rfl (fun _ => mw_addr) rfl (Nat.le_of_ble_eq_true rfl) dX7_total_2 (fun r_2 u_2 hw => ?_)
  obtain ⟨hw, hb_2⟩ := hw
  try dsimp only at hw
  cases r_2 with
  | none =>
    replace hw := hw.1 rfl
    refine w_astore_nN C [(2, .null), (0, .ref (ad 0)), (1, .int p0)] dX7_total_5 (by decide) rfl ?_
    refine w_aload_nN C 0 dX7_total_6 rfl ?_
    refine w_ifnonnullN C dX7_total_7 ?_
    refine w_ldc2 C (v := (-1 : Int64)) dX7_total_10 k_481 ?_
    refine w_goto C 20 (by decide) dX7_total_13 ?_
    exact w_lret C () hw rfl (Nat.le_of_ble_eq_true rfl) (Nat.le_of_ble_eq_true rfl) dX7_total_20
  | some j_2 =>
    replace hw := hw.2 j_2 rfl
    have hb_2 := hb_2 j_2 rfl
    refine w_astore_n C [(2, .ref (ad (74 + 5 * j_2 + 0))), (0, .ref (ad 0)), (1, .int p0)] dX7_total_5 (by decide) rfl ?_
    refine w_aload_n C 0 dX7_total_6 rfl ?_
    refine w_ifnonnull C 16 (by decide) dX7_total_7 ?_
    refine w_aload_n C 0 dX7_total_16 rfl ?_
    refine w_callXL C (c_X1_allUnits (a := fun i => ad (74 + 5 * j_2 + i)) hw) f_X1_allUnits k_545 k_543 rfl ⟨Nat.le_of_ble_eq_true rfl, Nat.le_of_ble_eq_true rfl⟩ rfl rfl ⟨Nat.le_of_ble_eq_true rfl, Nat.le_of_ble_eq_true rfl⟩ 0 rfl (rr := (RX1, TX1, 10)) rfl rfl (ad := ad) (N := 94) ((plL j_2)) (wc_L (cB := cB) j_2) (lt_L (by assumption)) nd_L (fun (u : Unit) => (ctT cI cJ cL cS ad active rests writers tbytes tlen dbytes dlen next known rec m_made m_sort m_digits m_slots m_pages m_highest m_units m_kinds m_rows m_marks q_active q_rests q_writers l_made l_sort l_digits l_slots l_pages l_highest l_units l_kinds l_rows l_marks)) (fun _ => (wc_L (cB := cB) j_2).trans (by first | (simp only [va_up_self]; done) | rfl)) (fun _ _ _ _ => rfl) rfl (Nat.le_of_ble_eq_true rfl) dX7_total_17 (fun r_17 u_17 hw => ?_)
    try dsimp only at hw
    exact w_lret C () hw rfl (Nat.le_of_ble_eq_true rfl) (Nat.le_of_ble_eq_true rfl) dX7_total_20
def wp_X7_rank (p0 : Int32) (p1 : Int32) (l_made : Nat → Int32) (l_digits : Nat → Int32) (l_slots : Nat → Int32) (l_pages : Nat → Int32) (l_highest : Nat → Int64) (l_units : Nat → Nat → Int64) (l_kinds : Nat → Nat → Int32) (Q : Int64 → Prop) : Prop := wp_X7_madeAt p0 l_made (fun (r_2 : Option Nat) => ((r_2 = none → (Q (-1 : Int64))) ∧ (∀ j_2 : Nat, r_2 = some j_2 → (((p1 < 0 → (Q (-1 : Int64))) ∧ (¬ p1 < 0 → (((p1 ≤ (100000 : Int32) → (wp_X1_allUnits  (l_slots j_2) (l_pages j_2) (l_units j_2) (l_kinds j_2) (fun (r_25 : Int64) => ∀ x4_28 : Int64, x4_28 = r_25 → ((¬ x4_28 = (0 : Int64) → (wp_X7_wanted p1 x4_28  (fun (r_47 : Int64) => wp_X1_valueWith r_47 (l_digits j_2) (l_slots j_2) (l_pages j_2) (l_highest j_2) (l_units j_2) (l_kinds j_2) (fun (r_50 : Int64) => Q r_50)))) ∧ (x4_28 = (0 : Int64) → (Q (-2 : Int64))))))) ∧ (¬ p1 ≤ (100000 : Int32) → (Q (-1 : Int64)))))))))))
set_option maxHeartbeats 4000000 in
set_option maxRecDepth 100000 in
theorem c_X7_rank {l : Launch} {D : va_G} {cB cI cJ cL cS : ClassId} {T : Nat × Nat × Nat × Nat} {ad : Nat → Nat} {p0 : Int32} {p1 : Int32} {active : Int32} {rests : Int32} {writers : Nat → Int32} {tbytes : Nat → Int32} {tlen : Int32} {dbytes : Nat → Int32} {dlen : Int32} {next : Int32} {known : Int32} {rec : Nat → Int32} {m_made : Nat → Int32} {m_sort : Nat → Int32} {m_digits : Nat → Int32} {m_slots : Nat → Int32} {m_pages : Nat → Int32} {m_highest : Nat → Int64} {m_units : Nat → Nat → Int64} {m_kinds : Nat → Nat → Int32} {m_rows : Nat → Nat → Int32} {m_marks : Nat → Nat → Int32} {q_active : Nat → Int32} {q_rests : Nat → Int32} {q_writers : Nat → Nat → Int32} {l_made : Nat → Int32} {l_sort : Nat → Int32} {l_digits : Nat → Int32} {l_slots : Nat → Int32} {l_pages : Nat → Int32} {l_highest : Nat → Int64} {l_units : Nat → Nat → Int64} {l_kinds : Nat → Nat → Int32} {l_rows : Nat → Nat → Int32} {l_marks : Nat → Nat → Int32} {Q : Int64 → Prop} (hw : wp_X7_rank p0 p1 l_made l_digits l_slots l_pages l_highest l_units l_kinds Q) : CtL l D (Z5 cB cI cJ cL cS) T yX7_rank cX7_rank 6 ({ frames := 6, cells := 0, slots := 0, locals := 145 } : Room) (Option.some Jvm.ClassFile.FieldType.long) [.ref (ad 0), .int p0, .int p1] (mw ad 94 (ctT cI cJ cL cS ad active rests writers tbytes tlen dbytes dlen next known rec m_made m_sort m_digits m_slots m_pages m_highest m_units m_kinds m_rows m_marks q_active q_rests q_writers l_made l_sort l_digits l_slots l_pages l_highest l_units l_kinds l_rows l_marks)) (fun (u : Unit) => (mw ad 94 (ctT cI cJ cL cS ad active rests writers tbytes tlen dbytes dlen next known rec m_made m_sort m_digits m_slots m_pages m_highest m_units m_kinds m_rows m_marks q_active q_rests q_writers l_made l_sort l_digits l_slots l_pages l_highest l_units l_kinds l_rows l_marks))) (fun (r : Int64) (u : Unit) => Q r ) 0 0 := by
  refine ctL_of (own := RX7) (by decide +kernel) rfl (Nat.le_of_ble_eq_true rfl) (fun p e s m below meth c A C => ?_)
  refine w_sub (lv' := [(0, .ref (ad 0)), (1, .int p0), (2, .int p1)]) C [0, 1, 2] rfl ?_
  unfold wp_X7_rank at hw
  refine w_aload_n C 0 dX7_rank_0 rfl ?_
  refine w_iload_n C 1 dX7_rank_1 rfl ?_
  refine w_callVE C (c_X7_madeAt (ad := ad) hw) f_X7_madeAt k_0 k_255 rfl ⟨Nat.le_of_ble_eq_true rfl, Nat.le_of_ble_eq_true rfl⟩ rfl rfl ⟨Nat.le_of_ble_eq_true rfl, Nat.le_of_ble_eq_true rfl⟩ 0 (mw_at (by decide) rfl) (rr := (RX7, TX7, 5)) rfl rfl (fun _ => mw_addr) rfl (Nat.le_of_ble_eq_true rfl) dX7_rank_2 (fun r_2 u_2 hw => ?_)
  obtain ⟨hw, hb_2⟩ := hw
  try dsimp only at hw
  cases r_2 with
  | none =>
    replace hw := hw.1 rfl
    refine w_astore_nN C [(3, .null), (0, .ref (ad 0)), (1, .int p0), (2, .int p1)] dX7_rank_5 (by decide) rfl ?_
    refine w_aload_nN C 0 dX7_rank_6 rfl ?_
    refine w_ifnullN C 20 (by decide) dX7_rank_7 ?_
    refine w_ldc2 C (v := (-1 : Int64)) dX7_rank_20 k_481 ?_
    exact w_lret C () hw rfl (Nat.le_of_ble_eq_true rfl) (Nat.le_of_ble_eq_true rfl) dX7_rank_23
  | some j_2 =>
    replace hw := hw.2 j_2 rfl
    have hb_2 := hb_2 j_2 rfl
    refine w_astore_n C [(3, .ref (ad (74 + 5 * j_2 + 0))), (0, .ref (ad 0)), (1, .int p0), (2, .int p1)] dX7_rank_5 (by decide) rfl ?_
    refine w_aload_n C 0 dX7_rank_6 rfl ?_
    refine w_ifnull C dX7_rank_7 ?_
    refine w_iload_n C 3 dX7_rank_10 rfl ?_
    refine w_if_lt C 20 (by decide) dX7_rank_11 (fun c_11 => ?_) (fun c_11 => ?_)
    · replace hw := hw.1 c_11
      refine w_ldc2 C (v := (-1 : Int64)) dX7_rank_20 k_481 ?_
      exact w_lret C () hw rfl (Nat.le_of_ble_eq_true rfl) (Nat.le_of_ble_eq_true rfl) dX7_rank_23
    · replace hw := hw.2 c_11
      refine w_iload_n C 3 dX7_rank_14 rfl ?_
      refine w_ldc C (v := (100000 : Int32)) dX7_rank_15 k_552 ?_
      refine w_icmp_le C 24 (by decide) dX7_rank_17 (fun c_17 => ?_) (fun c_17 => ?_)
      · replace hw := hw.1 c_17
        refine w_aload_n C 0 dX7_rank_24 rfl ?_
        refine w_callXL C (c_X1_allUnits (a := fun i => ad (74 + 5 * j_2 + i)) hw) f_X1_allUnits k_545 k_543 rfl ⟨Nat.le_of_ble_eq_true rfl, Nat.le_of_ble_eq_true rfl⟩ rfl rfl ⟨Nat.le_of_ble_eq_true rfl, Nat.le_of_ble_eq_true rfl⟩ 0 rfl (rr := (RX1, TX1, 10)) rfl rfl (ad := ad) (N := 94) ((plL j_2)) (wc_L (cB := cB) j_2) (lt_L (by assumption)) nd_L (fun (u : Unit) => (ctT cI cJ cL cS ad active rests writers tbytes tlen dbytes dlen next known rec m_made m_sort m_digits m_slots m_pages m_highest m_units m_kinds m_rows m_marks q_active q_rests q_writers l_made l_sort l_digits l_slots l_pages l_highest l_units l_kinds l_rows l_marks)) (fun _ => (wc_L (cB := cB) j_2).trans (by first | (simp only [va_up_self]; done) | rfl)) (fun _ _ _ _ => rfl) rfl (Nat.le_of_ble_eq_true rfl) dX7_rank_25 (fun r_25 u_25 hw => ?_)
        try dsimp only at hw
        refine w_lstore C (fun x4_28 => [(4, .long x4_28), (3, .ref (ad (74 + 5 * j_2 + 0))), (0, .ref (ad 0)), (1, .int p0), (2, .int p1)]) dX7_rank_28 (by decide) (fun _ => rfl) (fun x4_28 e_x4_28 => ?_)
        replace hw := hw x4_28 e_x4_28
        refine w_lload C 0 dX7_rank_30 rfl ?_
        refine w_lconst C (v := (0 : Int64)) dX7_rank_32 (by decide) ?_
        refine w_lcmp_ne C 34 43 rfl (by decide) dX7_rank_33 dX7_rank_34 (fun c_33 => ?_) (fun c_33 => ?_)
        · replace hw := hw.1 c_33
          refine w_aload_n C 1 dX7_rank_43 rfl ?_
          refine w_iload_n C 4 dX7_rank_44 rfl ?_
          refine w_lload C 0 dX7_rank_45 rfl ?_
          refine w_callSL C (c_X7_wanted hw) f_X7_wanted k_553 rfl ⟨Nat.le_of_ble_eq_true rfl, Nat.le_of_ble_eq_true rfl⟩ rfl rfl ⟨Nat.le_of_ble_eq_true rfl, Nat.le_of_ble_eq_true rfl⟩ rfl (Nat.le_of_ble_eq_true rfl) dX7_rank_47 (fun r_47 u_47 hw => ?_)
          try dsimp only at hw
          refine w_callXL C (c_X1_valueWith (a := fun i => ad (74 + 5 * j_2 + i)) hw) f_X1_valueWith k_560 k_558 rfl ⟨Nat.le_of_ble_eq_true rfl, Nat.le_of_ble_eq_true rfl⟩ rfl rfl ⟨Nat.le_of_ble_eq_true rfl, Nat.le_of_ble_eq_true rfl⟩ 0 rfl (rr := (RX1, TX1, 10)) rfl rfl (ad := ad) (N := 94) ((plL j_2)) (wc_L (cB := cB) j_2) (lt_L (by assumption)) nd_L (fun (u : Unit) => (ctT cI cJ cL cS ad active rests writers tbytes tlen dbytes dlen next known rec m_made m_sort m_digits m_slots m_pages m_highest m_units m_kinds m_rows m_marks q_active q_rests q_writers l_made l_sort l_digits l_slots l_pages l_highest l_units l_kinds l_rows l_marks)) (fun _ => (wc_L (cB := cB) j_2).trans (by first | (simp only [va_up_self]; done) | rfl)) (fun _ _ _ _ => rfl) rfl (Nat.le_of_ble_eq_true rfl) dX7_rank_50 (fun r_50 u_50 hw => ?_)
          try dsimp only at hw
          exact w_lret C () hw rfl (Nat.le_of_ble_eq_true rfl) (Nat.le_of_ble_eq_true rfl) dX7_rank_53
        · replace hw := hw.2 c_33
          refine w_ldc2 C (v := (-2 : Int64)) dX7_rank_37 k_524 ?_
          refine w_goto C 53 (by decide) dX7_rank_40 ?_
          exact w_lret C () hw rfl (Nat.le_of_ble_eq_true rfl) (Nat.le_of_ble_eq_true rfl) dX7_rank_53
      · replace hw := hw.2 c_17
        refine w_ldc2 C (v := (-1 : Int64)) dX7_rank_20 k_481 ?_
        exact w_lret C () hw rfl (Nat.le_of_ble_eq_true rfl) (Nat.le_of_ble_eq_true rfl) dX7_rank_23
def wp_X7_merge (p0 : Int32) (p1 : Int32) (p2 : Int32) (active : Int32) (rests : Int32) (writers : Nat → Int32) (next : Int32) (known : Int32) (rec : Nat → Int32) (m_made : Nat → Int32) (m_sort : Nat → Int32) (m_digits : Nat → Int32) (m_slots : Nat → Int32) (m_pages : Nat → Int32) (m_highest : Nat → Int64) (m_units : Nat → Nat → Int64) (m_kinds : Nat → Nat → Int32) (m_rows : Nat → Nat → Int32) (m_marks : Nat → Nat → Int32) (q_active : Nat → Int32) (q_rests : Nat → Int32) (q_writers : Nat → Nat → Int32) (l_made : Nat → Int32) (l_sort : Nat → Int32) (l_digits : Nat → Int32) (l_slots : Nat → Int32) (l_pages : Nat → Int32) (l_highest : Nat → Int64) (l_units : Nat → Nat → Int64) (l_kinds : Nat → Nat → Int32) (l_rows : Nat → Nat → Int32) (l_marks : Nat → Nat → Int32) (Q : Int64 → Int32 → Int32 → (Nat → Int32) → (Nat → Int32) → (Nat → Int32) → (Nat → Int32) → (Nat → Int32) → (Nat → Int32) → (Nat → Int64) → (Nat → Nat → Int64) → (Nat → Nat → Int32) → (Nat → Nat → Int32) → (Nat → Nat → Int32) → (Nat → Int32) → (Nat → Int32) → (Nat → Nat → Int32) → (Nat → Nat → Int64) → (Nat → Nat → Int32) → Prop) : Prop := wp_X7_madeAt p0 l_made (fun (r_2 : Option Nat) => ((r_2 = none → (wp_X7_madeAt p1 l_made (fun (r_9 : Option Nat) => ((r_9 = none → (Q (-1 : Int64) next known rec m_made m_sort m_digits m_slots m_pages m_highest m_units m_kinds m_rows m_marks q_active q_rests q_writers l_units l_kinds)) ∧ (∀ j_9 : Nat, r_9 = some j_9 → (Q (-1 : Int64) next known rec m_made m_sort m_digits m_slots m_pages m_highest m_units m_kinds m_rows m_marks q_active q_rests q_writers l_units l_kinds)))))) ∧ (∀ j_2 : Nat, r_2 = some j_2 → (wp_X7_madeAt p1 l_made (fun (r_9 : Option Nat) => ((r_9 = none → (Q (-1 : Int64) next known rec m_made m_sort m_digits m_slots m_pages m_highest m_units m_kinds m_rows m_marks q_active q_rests q_writers l_units l_kinds)) ∧ (∀ j_9 : Nat, r_9 = some j_9 → (((j_2 = j_9 → (wp_X1_canMerge_s p2 (l_sort j_2) (l_digits j_2) (l_slots j_2) (l_pages j_2) (l_highest j_2) (l_units j_2) (l_kinds j_2) (fun (r_33 : Int32) => ((¬ r_33 = 0 → (wp_X7_remember p0 active rests writers next known rec m_made m_sort m_digits m_slots m_pages m_highest m_units m_kinds m_rows m_marks q_active q_rests q_writers l_made l_sort l_digits l_slots l_pages l_highest l_units l_kinds l_rows l_marks (fun (next_45 : Int32) (known_45 : Int32) (rec_45 : Nat → Int32) (m_made_45 : Nat → Int32) (m_sort_45 : Nat → Int32) (m_digits_45 : Nat → Int32) (m_slots_45 : Nat → Int32) (m_pages_45 : Nat → Int32) (m_highest_45 : Nat → Int64) (m_units_45 : Nat → Nat → Int64) (m_kinds_45 : Nat → Nat → Int32) (m_rows_45 : Nat → Nat → Int32) (m_marks_45 : Nat → Nat → Int32) (q_active_45 : Nat → Int32) (q_rests_45 : Nat → Int32) (q_writers_45 : Nat → Nat → Int32) => wp_X1_mergeFrom_s p2 (l_sort j_2) (l_digits j_2) (l_slots j_2) (l_pages j_2) (l_units j_2) (l_kinds j_2) (fun (l_units_53 : Nat → Int64) (l_kinds_53 : Nat → Int32) => wp_X1_allUnits  (l_slots j_2) (l_pages j_2) ((va_up l_units j_2 l_units_53) j_2) ((va_up l_kinds j_2 l_kinds_53) j_2) (fun (r_58 : Int64) => Q r_58 next_45 known_45 rec_45 m_made_45 m_sort_45 m_digits_45 m_slots_45 m_pages_45 m_highest_45 m_units_45 m_kinds_45 m_rows_45 m_marks_45 q_active_45 q_rests_45 q_writers_45 (va_up l_units j_2 l_units_53) (va_up l_kinds j_2 l_kinds_53)))))) ∧ (r_33 = 0 → (Q (-2 : Int64) next known rec m_made m_sort m_digits m_slots m_pages m_highest m_units m_kinds m_rows m_marks q_active q_rests q_writers l_units l_kinds)))))) ∧ (¬ j_2 = j_9 → (wp_X1_canMerge p2 (l_sort j_2) (l_digits j_2) (l_highest j_2) (l_units j_2) (l_sort j_9) (l_digits j_9) (l_slots j_9) (l_pages j_9) (l_units j_9) (l_kinds j_9) (fun (r_33 : Int32) => ((¬ r_33 = 0 → (wp_X7_remember p0 active rests writers next known rec m_made m_sort m_digits m_slots m_pages m_highest m_units m_kinds m_rows m_marks q_active q_rests q_writers l_made l_sort l_digits l_slots l_pages l_highest l_units l_kinds l_rows l_marks (fun (next_45 : Int32) (known_45 : Int32) (rec_45 : Nat → Int32) (m_made_45 : Nat → Int32) (m_sort_45 : Nat → Int32) (m_digits_45 : Nat → Int32) (m_slots_45 : Nat → Int32) (m_pages_45 : Nat → Int32) (m_highest_45 : Nat → Int64) (m_units_45 : Nat → Nat → Int64) (m_kinds_45 : Nat → Nat → Int32) (m_rows_45 : Nat → Nat → Int32) (m_marks_45 : Nat → Nat → Int32) (q_active_45 : Nat → Int32) (q_rests_45 : Nat → Int32) (q_writers_45 : Nat → Nat → Int32) => wp_X1_mergeFrom p2 (l_sort j_2) (l_digits j_2) (l_units j_2) (l_kinds j_2) (l_digits j_9) (l_slots j_9) (l_pages j_9) (l_units j_9) (l_kinds j_9) (fun (l_units_53 : Nat → Int64) (l_kinds_53 : Nat → Int32) => wp_X1_allUnits  (l_slots j_2) (l_pages j_2) ((va_up l_units j_2 l_units_53) j_2) ((va_up l_kinds j_2 l_kinds_53) j_2) (fun (r_58 : Int64) => Q r_58 next_45 known_45 rec_45 m_made_45 m_sort_45 m_digits_45 m_slots_45 m_pages_45 m_highest_45 m_units_45 m_kinds_45 m_rows_45 m_marks_45 q_active_45 q_rests_45 q_writers_45 (va_up l_units j_2 l_units_53) (va_up l_kinds j_2 l_kinds_53)))))) ∧ (r_33 = 0 → (Q (-2 : Int64) next known rec m_made m_sort m_digits m_slots m_pages m_highest m_units m_kinds m_rows m_marks q_active q_rests q_writers l_units l_kinds)))))))))))))))
set_option maxHeartbeats 4000000 in
set_option maxRecDepth 100000 in
theorem c_X7_merge {l : Launch} {D : va_G} {cB cI cJ cL cS : ClassId} {T : Nat × Nat × Nat × Nat} {ad : Nat → Nat} {p0 : Int32} {p1 : Int32} {p2 : Int32} {active : Int32} {rests : Int32} {writers : Nat → Int32} {tbytes : Nat → Int32} {tlen : Int32} {dbytes : Nat → Int32} {dlen : Int32} {next : Int32} {known : Int32} {rec : Nat → Int32} {m_made : Nat → Int32} {m_sort : Nat → Int32} {m_digits : Nat → Int32} {m_slots : Nat → Int32} {m_pages : Nat → Int32} {m_highest : Nat → Int64} {m_units : Nat → Nat → Int64} {m_kinds : Nat → Nat → Int32} {m_rows : Nat → Nat → Int32} {m_marks : Nat → Nat → Int32} {q_active : Nat → Int32} {q_rests : Nat → Int32} {q_writers : Nat → Nat → Int32} {l_made : Nat → Int32} {l_sort : Nat → Int32} {l_digits : Nat → Int32} {l_slots : Nat → Int32} {l_pages : Nat → Int32} {l_highest : Nat → Int64} {l_units : Nat → Nat → Int64} {l_kinds : Nat → Nat → Int32} {l_rows : Nat → Nat → Int32} {l_marks : Nat → Nat → Int32} {Q : Int64 → Int32 → Int32 → (Nat → Int32) → (Nat → Int32) → (Nat → Int32) → (Nat → Int32) → (Nat → Int32) → (Nat → Int32) → (Nat → Int64) → (Nat → Nat → Int64) → (Nat → Nat → Int32) → (Nat → Nat → Int32) → (Nat → Nat → Int32) → (Nat → Int32) → (Nat → Int32) → (Nat → Nat → Int32) → (Nat → Nat → Int64) → (Nat → Nat → Int32) → Prop} (hw : wp_X7_merge p0 p1 p2 active rests writers next known rec m_made m_sort m_digits m_slots m_pages m_highest m_units m_kinds m_rows m_marks q_active q_rests q_writers l_made l_sort l_digits l_slots l_pages l_highest l_units l_kinds l_rows l_marks Q) : CtL l D (Z5 cB cI cJ cL cS) T yX7_merge cX7_merge 6 ({ frames := 5, cells := 0, slots := 0, locals := 134 } : Room) (Option.some Jvm.ClassFile.FieldType.long) [.ref (ad 0), .int p0, .int p1, .int p2] (mw ad 94 (ctT cI cJ cL cS ad active rests writers tbytes tlen dbytes dlen next known rec m_made m_sort m_digits m_slots m_pages m_highest m_units m_kinds m_rows m_marks q_active q_rests q_writers l_made l_sort l_digits l_slots l_pages l_highest l_units l_kinds l_rows l_marks)) (fun (u : Int32 × Int32 × (Nat → Int32) × (Nat → Int32) × (Nat → Int32) × (Nat → Int32) × (Nat → Int32) × (Nat → Int32) × (Nat → Int64) × (Nat → Nat → Int64) × (Nat → Nat → Int32) × (Nat → Nat → Int32) × (Nat → Nat → Int32) × (Nat → Int32) × (Nat → Int32) × (Nat → Nat → Int32) × (Nat → Nat → Int64) × (Nat → Nat → Int32)) => (mw ad 94 (ctT cI cJ cL cS ad active rests writers tbytes tlen dbytes dlen u.1 u.2.1 u.2.2.1 u.2.2.2.1 u.2.2.2.2.1 u.2.2.2.2.2.1 u.2.2.2.2.2.2.1 u.2.2.2.2.2.2.2.1 u.2.2.2.2.2.2.2.2.1 u.2.2.2.2.2.2.2.2.2.1 u.2.2.2.2.2.2.2.2.2.2.1 u.2.2.2.2.2.2.2.2.2.2.2.1 u.2.2.2.2.2.2.2.2.2.2.2.2.1 u.2.2.2.2.2.2.2.2.2.2.2.2.2.1 u.2.2.2.2.2.2.2.2.2.2.2.2.2.2.1 u.2.2.2.2.2.2.2.2.2.2.2.2.2.2.2.1 l_made l_sort l_digits l_slots l_pages l_highest u.2.2.2.2.2.2.2.2.2.2.2.2.2.2.2.2.1 u.2.2.2.2.2.2.2.2.2.2.2.2.2.2.2.2.2 l_rows l_marks))) (fun (r : Int64) (u : Int32 × Int32 × (Nat → Int32) × (Nat → Int32) × (Nat → Int32) × (Nat → Int32) × (Nat → Int32) × (Nat → Int32) × (Nat → Int64) × (Nat → Nat → Int64) × (Nat → Nat → Int32) × (Nat → Nat → Int32) × (Nat → Nat → Int32) × (Nat → Int32) × (Nat → Int32) × (Nat → Nat → Int32) × (Nat → Nat → Int64) × (Nat → Nat → Int32)) => Q r u.1 u.2.1 u.2.2.1 u.2.2.2.1 u.2.2.2.2.1 u.2.2.2.2.2.1 u.2.2.2.2.2.2.1 u.2.2.2.2.2.2.2.1 u.2.2.2.2.2.2.2.2.1 u.2.2.2.2.2.2.2.2.2.1 u.2.2.2.2.2.2.2.2.2.2.1 u.2.2.2.2.2.2.2.2.2.2.2.1 u.2.2.2.2.2.2.2.2.2.2.2.2.1 u.2.2.2.2.2.2.2.2.2.2.2.2.2.1 u.2.2.2.2.2.2.2.2.2.2.2.2.2.2.1 u.2.2.2.2.2.2.2.2.2.2.2.2.2.2.2.1 u.2.2.2.2.2.2.2.2.2.2.2.2.2.2.2.2.1 u.2.2.2.2.2.2.2.2.2.2.2.2.2.2.2.2.2) 0 0 := by
  refine ctL_of (own := RX7) (by decide +kernel) rfl (Nat.le_of_ble_eq_true rfl) (fun p e s m below meth c A C => ?_)
  refine w_sub (lv' := [(0, .ref (ad 0)), (1, .int p0), (2, .int p1), (3, .int p2)]) C [0, 1, 2, 3] rfl ?_
  unfold wp_X7_merge at hw
  refine w_aload_n C 0 dX7_merge_0 rfl ?_
  refine w_iload_n C 1 dX7_merge_1 rfl ?_
  refine w_callVE C (c_X7_madeAt (ad := ad) hw) f_X7_madeAt k_0 k_255 rfl ⟨Nat.le_of_ble_eq_true rfl, Nat.le_of_ble_eq_true rfl⟩ rfl rfl ⟨Nat.le_of_ble_eq_true rfl, Nat.le_of_ble_eq_true rfl⟩ 0 (mw_at (by decide) rfl) (rr := (RX7, TX7, 5)) rfl rfl (fun _ => mw_addr) rfl (Nat.le_of_ble_eq_true rfl) dX7_merge_2 (fun r_2 u_2 hw => ?_)
  obtain ⟨hw, hb_2⟩ := hw
  try dsimp only at hw
  cases r_2 with
  | none =>
    replace hw := hw.1 rfl
    refine w_astoreN C [(4, .null), (0, .ref (ad 0)), (1, .int p0), (2, .int p1), (3, .int p2)] dX7_merge_5 (by decide) rfl ?_
    refine w_aload_n C 1 dX7_merge_7 rfl ?_
    refine w_iload_n C 3 dX7_merge_8 rfl ?_
    refine w_callVE C (c_X7_madeAt (ad := ad) hw) f_X7_madeAt k_0 k_255 rfl ⟨Nat.le_of_ble_eq_true rfl, Nat.le_of_ble_eq_true rfl⟩ rfl rfl ⟨Nat.le_of_ble_eq_true rfl, Nat.le_of_ble_eq_true rfl⟩ 0 (mw_at (by decide) rfl) (rr := (RX7, TX7, 5)) rfl rfl (fun _ => mw_addr) rfl (Nat.le_of_ble_eq_true rfl) dX7_merge_9 (fun r_9 u_9 hw => ?_)
    obtain ⟨hw, hb_9⟩ := hw
    try dsimp only at hw
    cases r_9 with
    | none =>
      replace hw := hw.1 rfl
      refine w_astoreN C [(5, .null), (4, .null), (0, .ref (ad 0)), (1, .int p0), (2, .int p1), (3, .int p2)] dX7_merge_12 (by decide) rfl ?_
      refine w_aloadN C 1 dX7_merge_14 rfl ?_
      refine w_ifnullN C 24 (by decide) dX7_merge_16 ?_
      refine w_ldc2 C (v := (-1 : Int64)) dX7_merge_24 k_481 ?_
      exact w_lret C (next, known, rec, m_made, m_sort, m_digits, m_slots, m_pages, m_highest, m_units, m_kinds, m_rows, m_marks, q_active, q_rests, q_writers, l_units, l_kinds) hw rfl (Nat.le_of_ble_eq_true rfl) (Nat.le_of_ble_eq_true rfl) dX7_merge_27
    | some j_9 =>
      replace hw := hw.2 j_9 rfl
      have hb_9 := hb_9 j_9 rfl
      refine w_astore C [(5, .ref (ad (74 + 5 * j_9 + 0))), (4, .null), (0, .ref (ad 0)), (1, .int p0), (2, .int p1), (3, .int p2)] dX7_merge_12 (by decide) rfl ?_
      refine w_aloadN C 1 dX7_merge_14 rfl ?_
      refine w_ifnullN C 24 (by decide) dX7_merge_16 ?_
      refine w_ldc2 C (v := (-1 : Int64)) dX7_merge_24 k_481 ?_
      exact w_lret C (next, known, rec, m_made, m_sort, m_digits, m_slots, m_pages, m_highest, m_units, m_kinds, m_rows, m_marks, q_active, q_rests, q_writers, l_units, l_kinds) hw rfl (Nat.le_of_ble_eq_true rfl) (Nat.le_of_ble_eq_true rfl) dX7_merge_27
  | some j_2 =>
    replace hw := hw.2 j_2 rfl
    have hb_2 := hb_2 j_2 rfl
    refine w_astore C [(4, .ref (ad (74 + 5 * j_2 + 0))), (0, .ref (ad 0)), (1, .int p0), (2, .int p1), (3, .int p2)] dX7_merge_5 (by decide) rfl ?_
    refine w_aload_n C 1 dX7_merge_7 rfl ?_
    refine w_iload_n C 3 dX7_merge_8 rfl ?_
    refine w_callVE C (c_X7_madeAt (ad := ad) hw) f_X7_madeAt k_0 k_255 rfl ⟨Nat.le_of_ble_eq_true rfl, Nat.le_of_ble_eq_true rfl⟩ rfl rfl ⟨Nat.le_of_ble_eq_true rfl, Nat.le_of_ble_eq_true rfl⟩ 0 (mw_at (by decide) rfl) (rr := (RX7, TX7, 5)) rfl rfl (fun _ => mw_addr) rfl (Nat.le_of_ble_eq_true rfl) dX7_merge_9 (fun r_9 u_9 hw => ?_)
    obtain ⟨hw, hb_9⟩ := hw
    try dsimp only at hw
    cases r_9 with
    | none =>
      replace hw := hw.1 rfl
      refine w_astoreN C [(5, .null), (4, .ref (ad (74 + 5 * j_2 + 0))), (0, .ref (ad 0)), (1, .int p0), (2, .int p1), (3, .int p2)] dX7_merge_12 (by decide) rfl ?_
      refine w_aload C 1 dX7_merge_14 rfl ?_
      refine w_ifnull C dX7_merge_16 ?_
      refine w_aloadN C 0 dX7_merge_19 rfl ?_
      refine w_ifnonnullN C dX7_merge_21 ?_
      refine w_ldc2 C (v := (-1 : Int64)) dX7_merge_24 k_481 ?_
      exact w_lret C (next, known, rec, m_made, m_sort, m_digits, m_slots, m_pages, m_highest, m_units, m_kinds, m_rows, m_marks, q_active, q_rests, q_writers, l_units, l_kinds) hw rfl (Nat.le_of_ble_eq_true rfl) (Nat.le_of_ble_eq_true rfl) dX7_merge_27
    | some j_9 =>
      replace hw := hw.2 j_9 rfl
      have hb_9 := hb_9 j_9 rfl
      refine w_astore C [(5, .ref (ad (74 + 5 * j_9 + 0))), (4, .ref (ad (74 + 5 * j_2 + 0))), (0, .ref (ad 0)), (1, .int p0), (2, .int p1), (3, .int p2)] dX7_merge_12 (by decide) rfl ?_
      refine w_aload C 1 dX7_merge_14 rfl ?_
      refine w_ifnull C dX7_merge_16 ?_
      refine w_aload C 0 dX7_merge_19 rfl ?_
      refine w_ifnonnull C 28 (by decide) dX7_merge_21 ?_
      refine w_aload C 1 dX7_merge_28 rfl ?_
      refine w_aload C 0 dX7_merge_30 rfl ?_
      refine w_iload_n C 5 dX7_merge_32 rfl ?_
      by_cases hq_33 : j_2 = j_9
      · replace hw := hw.1 hq_33
        subst hq_33
        refine w_callXI C (c_X1_canMerge_s (a := fun i => ad (74 + 5 * j_2 + i)) hw) f_X1_canMerge k_634 k_632 rfl ⟨Nat.le_of_ble_eq_true rfl, Nat.le_of_ble_eq_true rfl⟩ rfl rfl ⟨Nat.le_of_ble_eq_true rfl, Nat.le_of_ble_eq_true rfl⟩ 0 rfl (rr := (RX1, TX1, 10)) rfl rfl (ad := ad) (N := 94) ((plL j_2)) (wc_L (cB := cB) j_2) (lt_L (by assumption)) nd_L (fun (u : Unit) => (ctT cI cJ cL cS ad active rests writers tbytes tlen dbytes dlen next known rec m_made m_sort m_digits m_slots m_pages m_highest m_units m_kinds m_rows m_marks q_active q_rests q_writers l_made l_sort l_digits l_slots l_pages l_highest l_units l_kinds l_rows l_marks)) (fun _ => (wc_L (cB := cB) j_2).trans (by first | (simp only [va_up_self]; done) | rfl)) (fun _ _ _ _ => rfl) rfl (Nat.le_of_ble_eq_true rfl) dX7_merge_33 (fun r_33 u_33 hw => ?_)
        try dsimp only at hw
        refine w_if_ne C 43 (by decide) dX7_merge_36 (fun c_36 => ?_) (fun c_36 => ?_)
        · replace hw := hw.1 c_36
          refine w_aload_n C 2 dX7_merge_43 rfl ?_
          refine w_iload_n C 3 dX7_merge_44 rfl ?_
          refine w_callVV C (c_X7_remember (ad := ad) hw) f_X7_remember k_8 k_386 rfl ⟨Nat.le_of_ble_eq_true rfl, Nat.le_of_ble_eq_true rfl⟩ rfl rfl ⟨Nat.le_of_ble_eq_true rfl, Nat.le_of_ble_eq_true rfl⟩ 0 (mw_at (by decide) rfl) (rr := (RX7, TX7, 5)) rfl rfl (fun _ => mw_addr) rfl (Nat.le_of_ble_eq_true rfl) dX7_merge_45 (fun u_45 hw => ?_)
          obtain ⟨next_45, known_45, rec_45, m_made_45, m_sort_45, m_digits_45, m_slots_45, m_pages_45, m_highest_45, m_units_45, m_kinds_45, m_rows_45, m_marks_45, q_active_45, q_rests_45, q_writers_45⟩ := u_45
          try dsimp only at hw
          refine w_aload C 1 dX7_merge_48 rfl ?_
          refine w_aload C 0 dX7_merge_50 rfl ?_
          refine w_iload_n C 5 dX7_merge_52 rfl ?_
          refine w_callXV C (c_X1_mergeFrom_s (a := fun i => ad (74 + 5 * j_2 + i)) hw) f_X1_mergeFrom k_638 k_636 rfl ⟨Nat.le_of_ble_eq_true rfl, Nat.le_of_ble_eq_true rfl⟩ rfl rfl ⟨Nat.le_of_ble_eq_true rfl, Nat.le_of_ble_eq_true rfl⟩ 0 rfl (rr := (RX1, TX1, 10)) rfl rfl (ad := ad) (N := 94) ((plL j_2)) (wc_L (cB := cB) j_2) (lt_L (by assumption)) nd_L (fun (u : (Nat → Int64) × (Nat → Int32)) => (ctT cI cJ cL cS ad active rests writers tbytes tlen dbytes dlen next_45 known_45 rec_45 m_made_45 m_sort_45 m_digits_45 m_slots_45 m_pages_45 m_highest_45 m_units_45 m_kinds_45 m_rows_45 m_marks_45 q_active_45 q_rests_45 q_writers_45 l_made l_sort l_digits l_slots l_pages l_highest (va_up l_units j_2 u.1) (va_up l_kinds j_2 u.2) l_rows l_marks)) (fun _ => (wc_L (cB := cB) j_2).trans (by first | (simp only [va_up_self]; done) | rfl)) (fun _ n _ hn => rest_L (fun _ _ => rfl) (fun _ _ => rfl) (fun _ _ => rfl) (fun _ _ => rfl) (fun _ _ => rfl) (fun _ _ => rfl) (fun _ h => va_up_ne _ _ h) (fun _ h => va_up_ne _ _ h) (fun _ _ => rfl) (fun _ _ => rfl) n hn) rfl (Nat.le_of_ble_eq_true rfl) dX7_merge_53 (fun u_53 hw => ?_)
          obtain ⟨l_units_53, l_kinds_53⟩ := u_53
          try dsimp only at hw
          refine w_aload C 1 dX7_merge_56 rfl ?_
          refine w_callXL C (c_X1_allUnits (a := fun i => ad (74 + 5 * j_2 + i)) hw) f_X1_allUnits k_545 k_543 rfl ⟨Nat.le_of_ble_eq_true rfl, Nat.le_of_ble_eq_true rfl⟩ rfl rfl ⟨Nat.le_of_ble_eq_true rfl, Nat.le_of_ble_eq_true rfl⟩ 0 rfl (rr := (RX1, TX1, 10)) rfl rfl (ad := ad) (N := 94) ((plL j_2)) (wc_L (cB := cB) j_2) (lt_L (by assumption)) nd_L (fun (u : Unit) => (ctT cI cJ cL cS ad active rests writers tbytes tlen dbytes dlen next_45 known_45 rec_45 m_made_45 m_sort_45 m_digits_45 m_slots_45 m_pages_45 m_highest_45 m_units_45 m_kinds_45 m_rows_45 m_marks_45 q_active_45 q_rests_45 q_writers_45 l_made l_sort l_digits l_slots l_pages l_highest (va_up l_units j_2 l_units_53) (va_up l_kinds j_2 l_kinds_53) l_rows l_marks)) (fun _ => (wc_L (cB := cB) j_2).trans (by first | (simp only [va_up_self]; done) | rfl)) (fun _ _ _ _ => rfl) rfl (Nat.le_of_ble_eq_true rfl) dX7_merge_58 (fun r_58 u_58 hw => ?_)
          try dsimp only at hw
          exact w_lret C (next_45, known_45, rec_45, m_made_45, m_sort_45, m_digits_45, m_slots_45, m_pages_45, m_highest_45, m_units_45, m_kinds_45, m_rows_45, m_marks_45, q_active_45, q_rests_45, q_writers_45, (va_up l_units j_2 l_units_53), (va_up l_kinds j_2 l_kinds_53)) hw rfl (Nat.le_of_ble_eq_true rfl) (Nat.le_of_ble_eq_true rfl) dX7_merge_61
        · replace hw := hw.2 c_36
          refine w_ldc2 C (v := (-2 : Int64)) dX7_merge_39 k_524 ?_
          exact w_lret C (next, known, rec, m_made, m_sort, m_digits, m_slots, m_pages, m_highest, m_units, m_kinds, m_rows, m_marks, q_active, q_rests, q_writers, l_units, l_kinds) hw rfl (Nat.le_of_ble_eq_true rfl) (Nat.le_of_ble_eq_true rfl) dX7_merge_42
      · have hne_33 : j_2 ≠ j_9 := hq_33
        replace hw := hw.2 hq_33
        refine w_callXI C (c_X1_canMerge (a := fun i => ad (74 + 5 * j_2 + i)) (b := fun i => ad (74 + 5 * j_9 + i)) hw) f_X1_canMerge k_634 k_632 rfl ⟨Nat.le_of_ble_eq_true rfl, Nat.le_of_ble_eq_true rfl⟩ rfl rfl ⟨Nat.le_of_ble_eq_true rfl, Nat.le_of_ble_eq_true rfl⟩ 0 rfl (rr := (RX1, TX1, 10)) rfl rfl (ad := ad) (N := 94) ((plL j_2) ++ (plL j_9)) (by rw [List.map_append, wc_L (cB := cB) j_2, wc_L (cB := cB) j_9]) (lt_app (lt_L (by assumption)) (lt_L (by assumption))) (nd_LL (by assumption)) (fun (u : Unit) => (ctT cI cJ cL cS ad active rests writers tbytes tlen dbytes dlen next known rec m_made m_sort m_digits m_slots m_pages m_highest m_units m_kinds m_rows m_marks q_active q_rests q_writers l_made l_sort l_digits l_slots l_pages l_highest l_units l_kinds l_rows l_marks)) (fun _ => by rw [List.map_append, wc_L (cB := cB) j_2, wc_L (cB := cB) j_9]; first | done | (simp only [va_up_self, va_up_ne _ _ (Ne.symm hne_33)]; done) | rfl) (fun _ _ _ _ => rfl) rfl (Nat.le_of_ble_eq_true rfl) dX7_merge_33 (fun r_33 u_33 hw => ?_)
        try dsimp only at hw
        refine w_if_ne C 43 (by decide) dX7_merge_36 (fun c_36 => ?_) (fun c_36 => ?_)
        · replace hw := hw.1 c_36
          refine w_aload_n C 2 dX7_merge_43 rfl ?_
          refine w_iload_n C 3 dX7_merge_44 rfl ?_
          refine w_callVV C (c_X7_remember (ad := ad) hw) f_X7_remember k_8 k_386 rfl ⟨Nat.le_of_ble_eq_true rfl, Nat.le_of_ble_eq_true rfl⟩ rfl rfl ⟨Nat.le_of_ble_eq_true rfl, Nat.le_of_ble_eq_true rfl⟩ 0 (mw_at (by decide) rfl) (rr := (RX7, TX7, 5)) rfl rfl (fun _ => mw_addr) rfl (Nat.le_of_ble_eq_true rfl) dX7_merge_45 (fun u_45 hw => ?_)
          obtain ⟨next_45, known_45, rec_45, m_made_45, m_sort_45, m_digits_45, m_slots_45, m_pages_45, m_highest_45, m_units_45, m_kinds_45, m_rows_45, m_marks_45, q_active_45, q_rests_45, q_writers_45⟩ := u_45
          try dsimp only at hw
          refine w_aload C 1 dX7_merge_48 rfl ?_
          refine w_aload C 0 dX7_merge_50 rfl ?_
          refine w_iload_n C 5 dX7_merge_52 rfl ?_
          refine w_callXV C (c_X1_mergeFrom (a := fun i => ad (74 + 5 * j_2 + i)) (b := fun i => ad (74 + 5 * j_9 + i)) hw) f_X1_mergeFrom k_638 k_636 rfl ⟨Nat.le_of_ble_eq_true rfl, Nat.le_of_ble_eq_true rfl⟩ rfl rfl ⟨Nat.le_of_ble_eq_true rfl, Nat.le_of_ble_eq_true rfl⟩ 0 rfl (rr := (RX1, TX1, 10)) rfl rfl (ad := ad) (N := 94) ((plL j_2) ++ (plL j_9)) (by rw [List.map_append, wc_L (cB := cB) j_2, wc_L (cB := cB) j_9]) (lt_app (lt_L (by assumption)) (lt_L (by assumption))) (nd_LL (by assumption)) (fun (u : (Nat → Int64) × (Nat → Int32)) => (ctT cI cJ cL cS ad active rests writers tbytes tlen dbytes dlen next_45 known_45 rec_45 m_made_45 m_sort_45 m_digits_45 m_slots_45 m_pages_45 m_highest_45 m_units_45 m_kinds_45 m_rows_45 m_marks_45 q_active_45 q_rests_45 q_writers_45 l_made l_sort l_digits l_slots l_pages l_highest (va_up l_units j_2 u.1) (va_up l_kinds j_2 u.2) l_rows l_marks)) (fun _ => by rw [List.map_append, wc_L (cB := cB) j_2, wc_L (cB := cB) j_9]; first | done | (simp only [va_up_self, va_up_ne _ _ (Ne.symm hne_33)]; done) | rfl) (fun _ n _ hn => rest_L (fun _ _ => rfl) (fun _ _ => rfl) (fun _ _ => rfl) (fun _ _ => rfl) (fun _ _ => rfl) (fun _ _ => rfl) (fun _ h => va_up_ne _ _ h) (fun _ h => va_up_ne _ _ h) (fun _ _ => rfl) (fun _ _ => rfl) n (fun h => hn (List.mem_append_left _ h))) rfl (Nat.le_of_ble_eq_true rfl) dX7_merge_53 (fun u_53 hw => ?_)
          obtain ⟨l_units_53, l_kinds_53⟩ := u_53
          try dsimp only at hw
          refine w_aload C 1 dX7_merge_56 rfl ?_
          refine w_callXL C (c_X1_allUnits (a := fun i => ad (74 + 5 * j_2 + i)) hw) f_X1_allUnits k_545 k_543 rfl ⟨Nat.le_of_ble_eq_true rfl, Nat.le_of_ble_eq_true rfl⟩ rfl rfl ⟨Nat.le_of_ble_eq_true rfl, Nat.le_of_ble_eq_true rfl⟩ 0 rfl (rr := (RX1, TX1, 10)) rfl rfl (ad := ad) (N := 94) ((plL j_2)) (wc_L (cB := cB) j_2) (lt_L (by assumption)) nd_L (fun (u : Unit) => (ctT cI cJ cL cS ad active rests writers tbytes tlen dbytes dlen next_45 known_45 rec_45 m_made_45 m_sort_45 m_digits_45 m_slots_45 m_pages_45 m_highest_45 m_units_45 m_kinds_45 m_rows_45 m_marks_45 q_active_45 q_rests_45 q_writers_45 l_made l_sort l_digits l_slots l_pages l_highest (va_up l_units j_2 l_units_53) (va_up l_kinds j_2 l_kinds_53) l_rows l_marks)) (fun _ => (wc_L (cB := cB) j_2).trans (by first | (simp only [va_up_self]; done) | rfl)) (fun _ _ _ _ => rfl) rfl (Nat.le_of_ble_eq_true rfl) dX7_merge_58 (fun r_58 u_58 hw => ?_)
          try dsimp only at hw
          exact w_lret C (next_45, known_45, rec_45, m_made_45, m_sort_45, m_digits_45, m_slots_45, m_pages_45, m_highest_45, m_units_45, m_kinds_45, m_rows_45, m_marks_45, q_active_45, q_rests_45, q_writers_45, (va_up l_units j_2 l_units_53), (va_up l_kinds j_2 l_kinds_53)) hw rfl (Nat.le_of_ble_eq_true rfl) (Nat.le_of_ble_eq_true rfl) dX7_merge_61
        · replace hw := hw.2 c_36
          refine w_ldc2 C (v := (-2 : Int64)) dX7_merge_39 k_524 ?_
          exact w_lret C (next, known, rec, m_made, m_sort, m_digits, m_slots, m_pages, m_highest, m_units, m_kinds, m_rows, m_marks, q_active, q_rests, q_writers, l_units, l_kinds) hw rfl (Nat.le_of_ble_eq_true rfl) (Nat.le_of_ble_eq_true rfl) dX7_merge_42
def wp_X7_add (p0 : Int32) (p1 : Int32) (active : Int32) (rests : Int32) (writers : Nat → Int32) (next : Int32) (known : Int32) (rec : Nat → Int32) (m_made : Nat → Int32) (m_sort : Nat → Int32) (m_digits : Nat → Int32) (m_slots : Nat → Int32) (m_pages : Nat → Int32) (m_highest : Nat → Int64) (m_units : Nat → Nat → Int64) (m_kinds : Nat → Nat → Int32) (m_rows : Nat → Nat → Int32) (m_marks : Nat → Nat → Int32) (q_active : Nat → Int32) (q_rests : Nat → Int32) (q_writers : Nat → Nat → Int32) (l_made : Nat → Int32) (l_sort : Nat → Int32) (l_digits : Nat → Int32) (l_slots : Nat → Int32) (l_pages : Nat → Int32) (l_highest : Nat → Int64) (l_units : Nat → Nat → Int64) (l_kinds : Nat → Nat → Int32) (l_rows : Nat → Nat → Int32) (l_marks : Nat → Nat → Int32) (Q : Int64 → Int32 → Int32 → (Nat → Int32) → (Nat → Int32) → (Nat → Int32) → (Nat → Int32) → (Nat → Int32) → (Nat → Int32) → (Nat → Int64) → (Nat → Nat → Int64) → (Nat → Nat → Int32) → (Nat → Nat → Int32) → (Nat → Nat → Int32) → (Nat → Int32) → (Nat → Int32) → (Nat → Nat → Int32) → (Nat → Nat → Int64) → (Nat → Nat → Int32) → Prop) : Prop := wp_X7_merge p0 p1 (1 : Int32) active rests writers next known rec m_made m_sort m_digits m_slots m_pages m_highest m_units m_kinds m_rows m_marks q_active q_rests q_writers l_made l_sort l_digits l_slots l_pages l_highest l_units l_kinds l_rows l_marks (fun (r_4 : Int64) (next_4 : Int32) (known_4 : Int32) (rec_4 : Nat → Int32) (m_made_4 : Nat → Int32) (m_sort_4 : Nat → Int32) (m_digits_4 : Nat → Int32) (m_slots_4 : Nat → Int32) (m_pages_4 : Nat → Int32) (m_highest_4 : Nat → Int64) (m_units_4 : Nat → Nat → Int64) (m_kinds_4 : Nat → Nat → Int32) (m_rows_4 : Nat → Nat → Int32) (m_marks_4 : Nat → Nat → Int32) (q_active_4 : Nat → Int32) (q_rests_4 : Nat → Int32) (q_writers_4 : Nat → Nat → Int32) (l_units_4 : Nat → Nat → Int64) (l_kinds_4 : Nat → Nat → Int32) => Q r_4 next_4 known_4 rec_4 m_made_4 m_sort_4 m_digits_4 m_slots_4 m_pages_4 m_highest_4 m_units_4 m_kinds_4 m_rows_4 m_marks_4 q_active_4 q_rests_4 q_writers_4 l_units_4 l_kinds_4)
set_option maxHeartbeats 4000000 in
set_option maxRecDepth 100000 in
theorem c_X7_add {l : Launch} {D : va_G} {cB cI cJ cL cS : ClassId} {T : Nat × Nat × Nat × Nat} {ad : Nat → Nat} {p0 : Int32} {p1 : Int32} {active : Int32} {rests : Int32} {writers : Nat → Int32} {tbytes : Nat → Int32} {tlen : Int32} {dbytes : Nat → Int32} {dlen : Int32} {next : Int32} {known : Int32} {rec : Nat → Int32} {m_made : Nat → Int32} {m_sort : Nat → Int32} {m_digits : Nat → Int32} {m_slots : Nat → Int32} {m_pages : Nat → Int32} {m_highest : Nat → Int64} {m_units : Nat → Nat → Int64} {m_kinds : Nat → Nat → Int32} {m_rows : Nat → Nat → Int32} {m_marks : Nat → Nat → Int32} {q_active : Nat → Int32} {q_rests : Nat → Int32} {q_writers : Nat → Nat → Int32} {l_made : Nat → Int32} {l_sort : Nat → Int32} {l_digits : Nat → Int32} {l_slots : Nat → Int32} {l_pages : Nat → Int32} {l_highest : Nat → Int64} {l_units : Nat → Nat → Int64} {l_kinds : Nat → Nat → Int32} {l_rows : Nat → Nat → Int32} {l_marks : Nat → Nat → Int32} {Q : Int64 → Int32 → Int32 → (Nat → Int32) → (Nat → Int32) → (Nat → Int32) → (Nat → Int32) → (Nat → Int32) → (Nat → Int32) → (Nat → Int64) → (Nat → Nat → Int64) → (Nat → Nat → Int32) → (Nat → Nat → Int32) → (Nat → Nat → Int32) → (Nat → Int32) → (Nat → Int32) → (Nat → Nat → Int32) → (Nat → Nat → Int64) → (Nat → Nat → Int32) → Prop} (hw : wp_X7_add p0 p1 active rests writers next known rec m_made m_sort m_digits m_slots m_pages m_highest m_units m_kinds m_rows m_marks q_active q_rests q_writers l_made l_sort l_digits l_slots l_pages l_highest l_units l_kinds l_rows l_marks Q) : CtL l D (Z5 cB cI cJ cL cS) T yX7_add cX7_add 3 ({ frames := 6, cells := 0, slots := 0, locals := 159 } : Room) (Option.some Jvm.ClassFile.FieldType.long) [.ref (ad 0), .int p0, .int p1] (mw ad 94 (ctT cI cJ cL cS ad active rests writers tbytes tlen dbytes dlen next known rec m_made m_sort m_digits m_slots m_pages m_highest m_units m_kinds m_rows m_marks q_active q_rests q_writers l_made l_sort l_digits l_slots l_pages l_highest l_units l_kinds l_rows l_marks)) (fun (u : Int32 × Int32 × (Nat → Int32) × (Nat → Int32) × (Nat → Int32) × (Nat → Int32) × (Nat → Int32) × (Nat → Int32) × (Nat → Int64) × (Nat → Nat → Int64) × (Nat → Nat → Int32) × (Nat → Nat → Int32) × (Nat → Nat → Int32) × (Nat → Int32) × (Nat → Int32) × (Nat → Nat → Int32) × (Nat → Nat → Int64) × (Nat → Nat → Int32)) => (mw ad 94 (ctT cI cJ cL cS ad active rests writers tbytes tlen dbytes dlen u.1 u.2.1 u.2.2.1 u.2.2.2.1 u.2.2.2.2.1 u.2.2.2.2.2.1 u.2.2.2.2.2.2.1 u.2.2.2.2.2.2.2.1 u.2.2.2.2.2.2.2.2.1 u.2.2.2.2.2.2.2.2.2.1 u.2.2.2.2.2.2.2.2.2.2.1 u.2.2.2.2.2.2.2.2.2.2.2.1 u.2.2.2.2.2.2.2.2.2.2.2.2.1 u.2.2.2.2.2.2.2.2.2.2.2.2.2.1 u.2.2.2.2.2.2.2.2.2.2.2.2.2.2.1 u.2.2.2.2.2.2.2.2.2.2.2.2.2.2.2.1 l_made l_sort l_digits l_slots l_pages l_highest u.2.2.2.2.2.2.2.2.2.2.2.2.2.2.2.2.1 u.2.2.2.2.2.2.2.2.2.2.2.2.2.2.2.2.2 l_rows l_marks))) (fun (r : Int64) (u : Int32 × Int32 × (Nat → Int32) × (Nat → Int32) × (Nat → Int32) × (Nat → Int32) × (Nat → Int32) × (Nat → Int32) × (Nat → Int64) × (Nat → Nat → Int64) × (Nat → Nat → Int32) × (Nat → Nat → Int32) × (Nat → Nat → Int32) × (Nat → Int32) × (Nat → Int32) × (Nat → Nat → Int32) × (Nat → Nat → Int64) × (Nat → Nat → Int32)) => Q r u.1 u.2.1 u.2.2.1 u.2.2.2.1 u.2.2.2.2.1 u.2.2.2.2.2.1 u.2.2.2.2.2.2.1 u.2.2.2.2.2.2.2.1 u.2.2.2.2.2.2.2.2.1 u.2.2.2.2.2.2.2.2.2.1 u.2.2.2.2.2.2.2.2.2.2.1 u.2.2.2.2.2.2.2.2.2.2.2.1 u.2.2.2.2.2.2.2.2.2.2.2.2.1 u.2.2.2.2.2.2.2.2.2.2.2.2.2.1 u.2.2.2.2.2.2.2.2.2.2.2.2.2.2.1 u.2.2.2.2.2.2.2.2.2.2.2.2.2.2.2.1 u.2.2.2.2.2.2.2.2.2.2.2.2.2.2.2.2.1 u.2.2.2.2.2.2.2.2.2.2.2.2.2.2.2.2.2) 0 0 := by
  refine ctL_of (own := RX7) (by decide +kernel) rfl (Nat.le_of_ble_eq_true rfl) (fun p e s m below meth c A C => ?_)
  refine w_sub (lv' := [(0, .ref (ad 0)), (1, .int p0), (2, .int p1)]) C [0, 1, 2] rfl ?_
  unfold wp_X7_add at hw
  refine w_aload_n C 0 dX7_add_0 rfl ?_
  refine w_iload_n C 1 dX7_add_1 rfl ?_
  refine w_iload_n C 2 dX7_add_2 rfl ?_
  refine w_iconst C (v := (1 : Int32)) dX7_add_3 (by decide) ?_
  refine w_callVL C (c_X7_merge (ad := ad) hw) f_X7_merge k_19 k_628 rfl ⟨Nat.le_of_ble_eq_true rfl, Nat.le_of_ble_eq_true rfl⟩ rfl rfl ⟨Nat.le_of_ble_eq_true rfl, Nat.le_of_ble_eq_true rfl⟩ 0 (mw_at (by decide) rfl) (rr := (RX7, TX7, 5)) rfl rfl (fun _ => mw_addr) rfl (Nat.le_of_ble_eq_true rfl) dX7_add_4 (fun r_4 u_4 hw => ?_)
  obtain ⟨next_4, known_4, rec_4, m_made_4, m_sort_4, m_digits_4, m_slots_4, m_pages_4, m_highest_4, m_units_4, m_kinds_4, m_rows_4, m_marks_4, q_active_4, q_rests_4, q_writers_4, l_units_4, l_kinds_4⟩ := u_4
  try dsimp only at hw
  exact w_lret C (next_4, known_4, rec_4, m_made_4, m_sort_4, m_digits_4, m_slots_4, m_pages_4, m_highest_4, m_units_4, m_kinds_4, m_rows_4, m_marks_4, q_active_4, q_rests_4, q_writers_4, l_units_4, l_kinds_4) hw rfl (Nat.le_of_ble_eq_true rfl) (Nat.le_of_ble_eq_true rfl) dX7_add_7
def wp_X7_takeOff (p0 : Int32) (p1 : Int32) (active : Int32) (rests : Int32) (writers : Nat → Int32) (next : Int32) (known : Int32) (rec : Nat → Int32) (m_made : Nat → Int32) (m_sort : Nat → Int32) (m_digits : Nat → Int32) (m_slots : Nat → Int32) (m_pages : Nat → Int32) (m_highest : Nat → Int64) (m_units : Nat → Nat → Int64) (m_kinds : Nat → Nat → Int32) (m_rows : Nat → Nat → Int32) (m_marks : Nat → Nat → Int32) (q_active : Nat → Int32) (q_rests : Nat → Int32) (q_writers : Nat → Nat → Int32) (l_made : Nat → Int32) (l_sort : Nat → Int32) (l_digits : Nat → Int32) (l_slots : Nat → Int32) (l_pages : Nat → Int32) (l_highest : Nat → Int64) (l_units : Nat → Nat → Int64) (l_kinds : Nat → Nat → Int32) (l_rows : Nat → Nat → Int32) (l_marks : Nat → Nat → Int32) (Q : Int64 → Int32 → Int32 → (Nat → Int32) → (Nat → Int32) → (Nat → Int32) → (Nat → Int32) → (Nat → Int32) → (Nat → Int32) → (Nat → Int64) → (Nat → Nat → Int64) → (Nat → Nat → Int32) → (Nat → Nat → Int32) → (Nat → Nat → Int32) → (Nat → Int32) → (Nat → Int32) → (Nat → Nat → Int32) → (Nat → Nat → Int64) → (Nat → Nat → Int32) → Prop) : Prop := wp_X7_merge p0 p1 (-1 : Int32) active rests writers next known rec m_made m_sort m_digits m_slots m_pages m_highest m_units m_kinds m_rows m_marks q_active q_rests q_writers l_made l_sort l_digits l_slots l_pages l_highest l_units l_kinds l_rows l_marks (fun (r_4 : Int64) (next_4 : Int32) (known_4 : Int32) (rec_4 : Nat → Int32) (m_made_4 : Nat → Int32) (m_sort_4 : Nat → Int32) (m_digits_4 : Nat → Int32) (m_slots_4 : Nat → Int32) (m_pages_4 : Nat → Int32) (m_highest_4 : Nat → Int64) (m_units_4 : Nat → Nat → Int64) (m_kinds_4 : Nat → Nat → Int32) (m_rows_4 : Nat → Nat → Int32) (m_marks_4 : Nat → Nat → Int32) (q_active_4 : Nat → Int32) (q_rests_4 : Nat → Int32) (q_writers_4 : Nat → Nat → Int32) (l_units_4 : Nat → Nat → Int64) (l_kinds_4 : Nat → Nat → Int32) => Q r_4 next_4 known_4 rec_4 m_made_4 m_sort_4 m_digits_4 m_slots_4 m_pages_4 m_highest_4 m_units_4 m_kinds_4 m_rows_4 m_marks_4 q_active_4 q_rests_4 q_writers_4 l_units_4 l_kinds_4)
set_option maxHeartbeats 4000000 in
set_option maxRecDepth 100000 in
theorem c_X7_takeOff {l : Launch} {D : va_G} {cB cI cJ cL cS : ClassId} {T : Nat × Nat × Nat × Nat} {ad : Nat → Nat} {p0 : Int32} {p1 : Int32} {active : Int32} {rests : Int32} {writers : Nat → Int32} {tbytes : Nat → Int32} {tlen : Int32} {dbytes : Nat → Int32} {dlen : Int32} {next : Int32} {known : Int32} {rec : Nat → Int32} {m_made : Nat → Int32} {m_sort : Nat → Int32} {m_digits : Nat → Int32} {m_slots : Nat → Int32} {m_pages : Nat → Int32} {m_highest : Nat → Int64} {m_units : Nat → Nat → Int64} {m_kinds : Nat → Nat → Int32} {m_rows : Nat → Nat → Int32} {m_marks : Nat → Nat → Int32} {q_active : Nat → Int32} {q_rests : Nat → Int32} {q_writers : Nat → Nat → Int32} {l_made : Nat → Int32} {l_sort : Nat → Int32} {l_digits : Nat → Int32} {l_slots : Nat → Int32} {l_pages : Nat → Int32} {l_highest : Nat → Int64} {l_units : Nat → Nat → Int64} {l_kinds : Nat → Nat → Int32} {l_rows : Nat → Nat → Int32} {l_marks : Nat → Nat → Int32} {Q : Int64 → Int32 → Int32 → (Nat → Int32) → (Nat → Int32) → (Nat → Int32) → (Nat → Int32) → (Nat → Int32) → (Nat → Int32) → (Nat → Int64) → (Nat → Nat → Int64) → (Nat → Nat → Int32) → (Nat → Nat → Int32) → (Nat → Nat → Int32) → (Nat → Int32) → (Nat → Int32) → (Nat → Nat → Int32) → (Nat → Nat → Int64) → (Nat → Nat → Int32) → Prop} (hw : wp_X7_takeOff p0 p1 active rests writers next known rec m_made m_sort m_digits m_slots m_pages m_highest m_units m_kinds m_rows m_marks q_active q_rests q_writers l_made l_sort l_digits l_slots l_pages l_highest l_units l_kinds l_rows l_marks Q) : CtL l D (Z5 cB cI cJ cL cS) T yX7_takeOff cX7_takeOff 3 ({ frames := 6, cells := 0, slots := 0, locals := 159 } : Room) (Option.some Jvm.ClassFile.FieldType.long) [.ref (ad 0), .int p0, .int p1] (mw ad 94 (ctT cI cJ cL cS ad active rests writers tbytes tlen dbytes dlen next known rec m_made m_sort m_digits m_slots m_pages m_highest m_units m_kinds m_rows m_marks q_active q_rests q_writers l_made l_sort l_digits l_slots l_pages l_highest l_units l_kinds l_rows l_marks)) (fun (u : Int32 × Int32 × (Nat → Int32) × (Nat → Int32) × (Nat → Int32) × (Nat → Int32) × (Nat → Int32) × (Nat → Int32) × (Nat → Int64) × (Nat → Nat → Int64) × (Nat → Nat → Int32) × (Nat → Nat → Int32) × (Nat → Nat → Int32) × (Nat → Int32) × (Nat → Int32) × (Nat → Nat → Int32) × (Nat → Nat → Int64) × (Nat → Nat → Int32)) => (mw ad 94 (ctT cI cJ cL cS ad active rests writers tbytes tlen dbytes dlen u.1 u.2.1 u.2.2.1 u.2.2.2.1 u.2.2.2.2.1 u.2.2.2.2.2.1 u.2.2.2.2.2.2.1 u.2.2.2.2.2.2.2.1 u.2.2.2.2.2.2.2.2.1 u.2.2.2.2.2.2.2.2.2.1 u.2.2.2.2.2.2.2.2.2.2.1 u.2.2.2.2.2.2.2.2.2.2.2.1 u.2.2.2.2.2.2.2.2.2.2.2.2.1 u.2.2.2.2.2.2.2.2.2.2.2.2.2.1 u.2.2.2.2.2.2.2.2.2.2.2.2.2.2.1 u.2.2.2.2.2.2.2.2.2.2.2.2.2.2.2.1 l_made l_sort l_digits l_slots l_pages l_highest u.2.2.2.2.2.2.2.2.2.2.2.2.2.2.2.2.1 u.2.2.2.2.2.2.2.2.2.2.2.2.2.2.2.2.2 l_rows l_marks))) (fun (r : Int64) (u : Int32 × Int32 × (Nat → Int32) × (Nat → Int32) × (Nat → Int32) × (Nat → Int32) × (Nat → Int32) × (Nat → Int32) × (Nat → Int64) × (Nat → Nat → Int64) × (Nat → Nat → Int32) × (Nat → Nat → Int32) × (Nat → Nat → Int32) × (Nat → Int32) × (Nat → Int32) × (Nat → Nat → Int32) × (Nat → Nat → Int64) × (Nat → Nat → Int32)) => Q r u.1 u.2.1 u.2.2.1 u.2.2.2.1 u.2.2.2.2.1 u.2.2.2.2.2.1 u.2.2.2.2.2.2.1 u.2.2.2.2.2.2.2.1 u.2.2.2.2.2.2.2.2.1 u.2.2.2.2.2.2.2.2.2.1 u.2.2.2.2.2.2.2.2.2.2.1 u.2.2.2.2.2.2.2.2.2.2.2.1 u.2.2.2.2.2.2.2.2.2.2.2.2.1 u.2.2.2.2.2.2.2.2.2.2.2.2.2.1 u.2.2.2.2.2.2.2.2.2.2.2.2.2.2.1 u.2.2.2.2.2.2.2.2.2.2.2.2.2.2.2.1 u.2.2.2.2.2.2.2.2.2.2.2.2.2.2.2.2.1 u.2.2.2.2.2.2.2.2.2.2.2.2.2.2.2.2.2) 0 0 := by
  refine ctL_of (own := RX7) (by decide +kernel) rfl (Nat.le_of_ble_eq_true rfl) (fun p e s m below meth c A C => ?_)
  refine w_sub (lv' := [(0, .ref (ad 0)), (1, .int p0), (2, .int p1)]) C [0, 1, 2] rfl ?_
  unfold wp_X7_takeOff at hw
  refine w_aload_n C 0 dX7_takeOff_0 rfl ?_
  refine w_iload_n C 1 dX7_takeOff_1 rfl ?_
  refine w_iload_n C 2 dX7_takeOff_2 rfl ?_
  refine w_iconst C (v := (-1 : Int32)) dX7_takeOff_3 (by decide) ?_
  refine w_callVL C (c_X7_merge (ad := ad) hw) f_X7_merge k_19 k_628 rfl ⟨Nat.le_of_ble_eq_true rfl, Nat.le_of_ble_eq_true rfl⟩ rfl rfl ⟨Nat.le_of_ble_eq_true rfl, Nat.le_of_ble_eq_true rfl⟩ 0 (mw_at (by decide) rfl) (rr := (RX7, TX7, 5)) rfl rfl (fun _ => mw_addr) rfl (Nat.le_of_ble_eq_true rfl) dX7_takeOff_4 (fun r_4 u_4 hw => ?_)
  obtain ⟨next_4, known_4, rec_4, m_made_4, m_sort_4, m_digits_4, m_slots_4, m_pages_4, m_highest_4, m_units_4, m_kinds_4, m_rows_4, m_marks_4, q_active_4, q_rests_4, q_writers_4, l_units_4, l_kinds_4⟩ := u_4
  try dsimp only at hw
  exact w_lret C (next_4, known_4, rec_4, m_made_4, m_sort_4, m_digits_4, m_slots_4, m_pages_4, m_highest_4, m_units_4, m_kinds_4, m_rows_4, m_marks_4, q_active_4, q_rests_4, q_writers_4, l_units_4, l_kinds_4) hw rfl (Nat.le_of_ble_eq_true rfl) (Nat.le_of_ble_eq_true rfl) dX7_takeOff_7
def wp_X7_halve (p0 : Int32) (active : Int32) (rests : Int32) (writers : Nat → Int32) (next : Int32) (known : Int32) (rec : Nat → Int32) (m_made : Nat → Int32) (m_sort : Nat → Int32) (m_digits : Nat → Int32) (m_slots : Nat → Int32) (m_pages : Nat → Int32) (m_highest : Nat → Int64) (m_units : Nat → Nat → Int64) (m_kinds : Nat → Nat → Int32) (m_rows : Nat → Nat → Int32) (m_marks : Nat → Nat → Int32) (q_active : Nat → Int32) (q_rests : Nat → Int32) (q_writers : Nat → Nat → Int32) (l_made : Nat → Int32) (l_sort : Nat → Int32) (l_digits : Nat → Int32) (l_slots : Nat → Int32) (l_pages : Nat → Int32) (l_highest : Nat → Int64) (l_units : Nat → Nat → Int64) (l_kinds : Nat → Nat → Int32) (l_rows : Nat → Nat → Int32) (l_marks : Nat → Nat → Int32) (Q : Int64 → Int32 → Int32 → (Nat → Int32) → (Nat → Int32) → (Nat → Int32) → (Nat → Int32) → (Nat → Int32) → (Nat → Int32) → (Nat → Int64) → (Nat → Nat → Int64) → (Nat → Nat → Int32) → (Nat → Nat → Int32) → (Nat → Nat → Int32) → (Nat → Int32) → (Nat → Int32) → (Nat → Nat → Int32) → (Nat → Nat → Int64) → (Nat → Nat → Int32) → Prop) : Prop := wp_X7_madeAt p0 l_made (fun (r_2 : Option Nat) => ((r_2 = none → (Q (-1 : Int64) next known rec m_made m_sort m_digits m_slots m_pages m_highest m_units m_kinds m_rows m_marks q_active q_rests q_writers l_units l_kinds)) ∧ (∀ j_2 : Nat, r_2 = some j_2 → (wp_X7_remember p0 active rests writers next known rec m_made m_sort m_digits m_slots m_pages m_highest m_units m_kinds m_rows m_marks q_active q_rests q_writers l_made l_sort l_digits l_slots l_pages l_highest l_units l_kinds l_rows l_marks (fun (next_16 : Int32) (known_16 : Int32) (rec_16 : Nat → Int32) (m_made_16 : Nat → Int32) (m_sort_16 : Nat → Int32) (m_digits_16 : Nat → Int32) (m_slots_16 : Nat → Int32) (m_pages_16 : Nat → Int32) (m_highest_16 : Nat → Int64) (m_units_16 : Nat → Nat → Int64) (m_kinds_16 : Nat → Nat → Int32) (m_rows_16 : Nat → Nat → Int32) (m_marks_16 : Nat → Nat → Int32) (q_active_16 : Nat → Int32) (q_rests_16 : Nat → Int32) (q_writers_16 : Nat → Nat → Int32) => wp_X1_halveAll  (l_sort j_2) (l_slots j_2) (l_pages j_2) (l_units j_2) (l_kinds j_2) (fun (l_units_20 : Nat → Int64) (l_kinds_20 : Nat → Int32) => wp_X1_allUnits  (l_slots j_2) (l_pages j_2) ((va_up l_units j_2 l_units_20) j_2) ((va_up l_kinds j_2 l_kinds_20) j_2) (fun (r_24 : Int64) => Q r_24 next_16 known_16 rec_16 m_made_16 m_sort_16 m_digits_16 m_slots_16 m_pages_16 m_highest_16 m_units_16 m_kinds_16 m_rows_16 m_marks_16 q_active_16 q_rests_16 q_writers_16 (va_up l_units j_2 l_units_20) (va_up l_kinds j_2 l_kinds_20))))))))
set_option maxHeartbeats 4000000 in
set_option maxRecDepth 100000 in
theorem c_X7_halve {l : Launch} {D : va_G} {cB cI cJ cL cS : ClassId} {T : Nat × Nat × Nat × Nat} {ad : Nat → Nat} {p0 : Int32} {active : Int32} {rests : Int32} {writers : Nat → Int32} {tbytes : Nat → Int32} {tlen : Int32} {dbytes : Nat → Int32} {dlen : Int32} {next : Int32} {known : Int32} {rec : Nat → Int32} {m_made : Nat → Int32} {m_sort : Nat → Int32} {m_digits : Nat → Int32} {m_slots : Nat → Int32} {m_pages : Nat → Int32} {m_highest : Nat → Int64} {m_units : Nat → Nat → Int64} {m_kinds : Nat → Nat → Int32} {m_rows : Nat → Nat → Int32} {m_marks : Nat → Nat → Int32} {q_active : Nat → Int32} {q_rests : Nat → Int32} {q_writers : Nat → Nat → Int32} {l_made : Nat → Int32} {l_sort : Nat → Int32} {l_digits : Nat → Int32} {l_slots : Nat → Int32} {l_pages : Nat → Int32} {l_highest : Nat → Int64} {l_units : Nat → Nat → Int64} {l_kinds : Nat → Nat → Int32} {l_rows : Nat → Nat → Int32} {l_marks : Nat → Nat → Int32} {Q : Int64 → Int32 → Int32 → (Nat → Int32) → (Nat → Int32) → (Nat → Int32) → (Nat → Int32) → (Nat → Int32) → (Nat → Int32) → (Nat → Int64) → (Nat → Nat → Int64) → (Nat → Nat → Int32) → (Nat → Nat → Int32) → (Nat → Nat → Int32) → (Nat → Int32) → (Nat → Int32) → (Nat → Nat → Int32) → (Nat → Nat → Int64) → (Nat → Nat → Int32) → Prop} (hw : wp_X7_halve p0 active rests writers next known rec m_made m_sort m_digits m_slots m_pages m_highest m_units m_kinds m_rows m_marks q_active q_rests q_writers l_made l_sort l_digits l_slots l_pages l_highest l_units l_kinds l_rows l_marks Q) : CtL l D (Z5 cB cI cJ cL cS) T yX7_halve cX7_halve 3 ({ frames := 5, cells := 0, slots := 0, locals := 129 } : Room) (Option.some Jvm.ClassFile.FieldType.long) [.ref (ad 0), .int p0] (mw ad 94 (ctT cI cJ cL cS ad active rests writers tbytes tlen dbytes dlen next known rec m_made m_sort m_digits m_slots m_pages m_highest m_units m_kinds m_rows m_marks q_active q_rests q_writers l_made l_sort l_digits l_slots l_pages l_highest l_units l_kinds l_rows l_marks)) (fun (u : Int32 × Int32 × (Nat → Int32) × (Nat → Int32) × (Nat → Int32) × (Nat → Int32) × (Nat → Int32) × (Nat → Int32) × (Nat → Int64) × (Nat → Nat → Int64) × (Nat → Nat → Int32) × (Nat → Nat → Int32) × (Nat → Nat → Int32) × (Nat → Int32) × (Nat → Int32) × (Nat → Nat → Int32) × (Nat → Nat → Int64) × (Nat → Nat → Int32)) => (mw ad 94 (ctT cI cJ cL cS ad active rests writers tbytes tlen dbytes dlen u.1 u.2.1 u.2.2.1 u.2.2.2.1 u.2.2.2.2.1 u.2.2.2.2.2.1 u.2.2.2.2.2.2.1 u.2.2.2.2.2.2.2.1 u.2.2.2.2.2.2.2.2.1 u.2.2.2.2.2.2.2.2.2.1 u.2.2.2.2.2.2.2.2.2.2.1 u.2.2.2.2.2.2.2.2.2.2.2.1 u.2.2.2.2.2.2.2.2.2.2.2.2.1 u.2.2.2.2.2.2.2.2.2.2.2.2.2.1 u.2.2.2.2.2.2.2.2.2.2.2.2.2.2.1 u.2.2.2.2.2.2.2.2.2.2.2.2.2.2.2.1 l_made l_sort l_digits l_slots l_pages l_highest u.2.2.2.2.2.2.2.2.2.2.2.2.2.2.2.2.1 u.2.2.2.2.2.2.2.2.2.2.2.2.2.2.2.2.2 l_rows l_marks))) (fun (r : Int64) (u : Int32 × Int32 × (Nat → Int32) × (Nat → Int32) × (Nat → Int32) × (Nat → Int32) × (Nat → Int32) × (Nat → Int32) × (Nat → Int64) × (Nat → Nat → Int64) × (Nat → Nat → Int32) × (Nat → Nat → Int32) × (Nat → Nat → Int32) × (Nat → Int32) × (Nat → Int32) × (Nat → Nat → Int32) × (Nat → Nat → Int64) × (Nat → Nat → Int32)) => Q r u.1 u.2.1 u.2.2.1 u.2.2.2.1 u.2.2.2.2.1 u.2.2.2.2.2.1 u.2.2.2.2.2.2.1 u.2.2.2.2.2.2.2.1 u.2.2.2.2.2.2.2.2.1 u.2.2.2.2.2.2.2.2.2.1 u.2.2.2.2.2.2.2.2.2.2.1 u.2.2.2.2.2.2.2.2.2.2.2.1 u.2.2.2.2.2.2.2.2.2.2.2.2.1 u.2.2.2.2.2.2.2.2.2.2.2.2.2.1 u.2.2.2.2.2.2.2.2.2.2.2.2.2.2.1 u.2.2.2.2.2.2.2.2.2.2.2.2.2.2.2.1 u.2.2.2.2.2.2.2.2.2.2.2.2.2.2.2.2.1 u.2.2.2.2.2.2.2.2.2.2.2.2.2.2.2.2.2) 0 0 := by
  refine ctL_of (own := RX7) (by decide +kernel) rfl (Nat.le_of_ble_eq_true rfl) (fun p e s m below meth c A C => ?_)
  refine w_sub (lv' := [(0, .ref (ad 0)), (1, .int p0)]) C [0, 1] rfl ?_
  unfold wp_X7_halve at hw
  refine w_aload_n C 0 dX7_halve_0 rfl ?_
  refine w_iload_n C 1 dX7_halve_1 rfl ?_
  refine w_callVE C (c_X7_madeAt (ad := ad) hw) f_X7_madeAt k_0 k_255 rfl ⟨Nat.le_of_ble_eq_true rfl, Nat.le_of_ble_eq_true rfl⟩ rfl rfl ⟨Nat.le_of_ble_eq_true rfl, Nat.le_of_ble_eq_true rfl⟩ 0 (mw_at (by decide) rfl) (rr := (RX7, TX7, 5)) rfl rfl (fun _ => mw_addr) rfl (Nat.le_of_ble_eq_true rfl) dX7_halve_2 (fun r_2 u_2 hw => ?_)
  obtain ⟨hw, hb_2⟩ := hw
  try dsimp only at hw
  cases r_2 with
  | none =>
    replace hw := hw.1 rfl
    refine w_astore_nN C [(2, .null), (0, .ref (ad 0)), (1, .int p0)] dX7_halve_5 (by decide) rfl ?_
    refine w_aload_nN C 0 dX7_halve_6 rfl ?_
    refine w_ifnonnullN C dX7_halve_7 ?_
    refine w_ldc2 C (v := (-1 : Int64)) dX7_halve_10 k_481 ?_
    exact w_lret C (next, known, rec, m_made, m_sort, m_digits, m_slots, m_pages, m_highest, m_units, m_kinds, m_rows, m_marks, q_active, q_rests, q_writers, l_units, l_kinds) hw rfl (Nat.le_of_ble_eq_true rfl) (Nat.le_of_ble_eq_true rfl) dX7_halve_13
  | some j_2 =>
    replace hw := hw.2 j_2 rfl
    have hb_2 := hb_2 j_2 rfl
    refine w_astore_n C [(2, .ref (ad (74 + 5 * j_2 + 0))), (0, .ref (ad 0)), (1, .int p0)] dX7_halve_5 (by decide) rfl ?_
    refine w_aload_n C 0 dX7_halve_6 rfl ?_
    refine w_ifnonnull C 14 (by decide) dX7_halve_7 ?_
    refine w_aload_n C 1 dX7_halve_14 rfl ?_
    refine w_iload_n C 2 dX7_halve_15 rfl ?_
    refine w_callVV C (c_X7_remember (ad := ad) hw) f_X7_remember k_8 k_386 rfl ⟨Nat.le_of_ble_eq_true rfl, Nat.le_of_ble_eq_true rfl⟩ rfl rfl ⟨Nat.le_of_ble_eq_true rfl, Nat.le_of_ble_eq_true rfl⟩ 0 (mw_at (by decide) rfl) (rr := (RX7, TX7, 5)) rfl rfl (fun _ => mw_addr) rfl (Nat.le_of_ble_eq_true rfl) dX7_halve_16 (fun u_16 hw => ?_)
    obtain ⟨next_16, known_16, rec_16, m_made_16, m_sort_16, m_digits_16, m_slots_16, m_pages_16, m_highest_16, m_units_16, m_kinds_16, m_rows_16, m_marks_16, q_active_16, q_rests_16, q_writers_16⟩ := u_16
    try dsimp only at hw
    refine w_aload_n C 0 dX7_halve_19 rfl ?_
    refine w_callXV C (c_X1_halveAll (a := fun i => ad (74 + 5 * j_2 + i)) hw) f_X1_halveAll k_650 k_648 rfl ⟨Nat.le_of_ble_eq_true rfl, Nat.le_of_ble_eq_true rfl⟩ rfl rfl ⟨Nat.le_of_ble_eq_true rfl, Nat.le_of_ble_eq_true rfl⟩ 0 rfl (rr := (RX1, TX1, 10)) rfl rfl (ad := ad) (N := 94) ((plL j_2)) (wc_L (cB := cB) j_2) (lt_L (by assumption)) nd_L (fun (u : (Nat → Int64) × (Nat → Int32)) => (ctT cI cJ cL cS ad active rests writers tbytes tlen dbytes dlen next_16 known_16 rec_16 m_made_16 m_sort_16 m_digits_16 m_slots_16 m_pages_16 m_highest_16 m_units_16 m_kinds_16 m_rows_16 m_marks_16 q_active_16 q_rests_16 q_writers_16 l_made l_sort l_digits l_slots l_pages l_highest (va_up l_units j_2 u.1) (va_up l_kinds j_2 u.2) l_rows l_marks)) (fun _ => (wc_L (cB := cB) j_2).trans (by first | (simp only [va_up_self]; done) | rfl)) (fun _ n _ hn => rest_L (fun _ _ => rfl) (fun _ _ => rfl) (fun _ _ => rfl) (fun _ _ => rfl) (fun _ _ => rfl) (fun _ _ => rfl) (fun _ h => va_up_ne _ _ h) (fun _ h => va_up_ne _ _ h) (fun _ _ => rfl) (fun _ _ => rfl) n hn) rfl (Nat.le_of_ble_eq_true rfl) dX7_halve_20 (fun u_20 hw => ?_)
    obtain ⟨l_units_20, l_kinds_20⟩ := u_20
    try dsimp only at hw
    refine w_aload_n C 0 dX7_halve_23 rfl ?_
    refine w_callXL C (c_X1_allUnits (a := fun i => ad (74 + 5 * j_2 + i)) hw) f_X1_allUnits k_545 k_543 rfl ⟨Nat.le_of_ble_eq_true rfl, Nat.le_of_ble_eq_true rfl⟩ rfl rfl ⟨Nat.le_of_ble_eq_true rfl, Nat.le_of_ble_eq_true rfl⟩ 0 rfl (rr := (RX1, TX1, 10)) rfl rfl (ad := ad) (N := 94) ((plL j_2)) (wc_L (cB := cB) j_2) (lt_L (by assumption)) nd_L (fun (u : Unit) => (ctT cI cJ cL cS ad active rests writers tbytes tlen dbytes dlen next_16 known_16 rec_16 m_made_16 m_sort_16 m_digits_16 m_slots_16 m_pages_16 m_highest_16 m_units_16 m_kinds_16 m_rows_16 m_marks_16 q_active_16 q_rests_16 q_writers_16 l_made l_sort l_digits l_slots l_pages l_highest (va_up l_units j_2 l_units_20) (va_up l_kinds j_2 l_kinds_20) l_rows l_marks)) (fun _ => (wc_L (cB := cB) j_2).trans (by first | (simp only [va_up_self]; done) | rfl)) (fun _ _ _ _ => rfl) rfl (Nat.le_of_ble_eq_true rfl) dX7_halve_24 (fun r_24 u_24 hw => ?_)
    try dsimp only at hw
    exact w_lret C (next_16, known_16, rec_16, m_made_16, m_sort_16, m_digits_16, m_slots_16, m_pages_16, m_highest_16, m_units_16, m_kinds_16, m_rows_16, m_marks_16, q_active_16, q_rests_16, q_writers_16, (va_up l_units j_2 l_units_20), (va_up l_kinds j_2 l_kinds_20)) hw rfl (Nat.le_of_ble_eq_true rfl) (Nat.le_of_ble_eq_true rfl) dX7_halve_27
def wp_X7_same (p0 : Int32) (p1 : Int32) (l_made : Nat → Int32) (l_sort : Nat → Int32) (l_digits : Nat → Int32) (l_slots : Nat → Int32) (l_pages : Nat → Int32) (l_highest : Nat → Int64) (l_units : Nat → Nat → Int64) (l_kinds : Nat → Nat → Int32) (Q : Int32 → Prop) : Prop := wp_X7_madeAt p0 l_made (fun (r_2 : Option Nat) => ((r_2 = none → (wp_X7_madeAt p1 l_made (fun (r_8 : Option Nat) => ((r_8 = none → (Q (-1 : Int32))) ∧ (∀ j_8 : Nat, r_8 = some j_8 → (Q (-1 : Int32))))))) ∧ (∀ j_2 : Nat, r_2 = some j_2 → (wp_X7_madeAt p1 l_made (fun (r_8 : Option Nat) => ((r_8 = none → (Q (-1 : Int32))) ∧ (∀ j_8 : Nat, r_8 = some j_8 → (((j_2 = j_8 → (wp_X1_isLike_s  (l_sort j_2) (l_digits j_2) (l_slots j_2) (l_pages j_2) (l_highest j_2) (l_units j_2) (l_kinds j_2) (fun (r_27 : Int32) => ((r_27 = 0 → (Q (0 : Int32))) ∧ (¬ r_27 = 0 → (Q (1 : Int32))))))) ∧ (¬ j_2 = j_8 → (wp_X1_isLike  (l_sort j_2) (l_digits j_2) (l_slots j_2) (l_pages j_2) (l_highest j_2) (l_units j_2) (l_kinds j_2) (l_sort j_8) (l_digits j_8) (l_slots j_8) (l_highest j_8) (l_units j_8) (l_kinds j_8) (fun (r_27 : Int32) => ((r_27 = 0 → (Q (0 : Int32))) ∧ (¬ r_27 = 0 → (Q (1 : Int32))))))))))))))))
set_option maxHeartbeats 4000000 in
set_option maxRecDepth 100000 in
theorem c_X7_same {l : Launch} {D : va_G} {cB cI cJ cL cS : ClassId} {T : Nat × Nat × Nat × Nat} {ad : Nat → Nat} {p0 : Int32} {p1 : Int32} {active : Int32} {rests : Int32} {writers : Nat → Int32} {tbytes : Nat → Int32} {tlen : Int32} {dbytes : Nat → Int32} {dlen : Int32} {next : Int32} {known : Int32} {rec : Nat → Int32} {m_made : Nat → Int32} {m_sort : Nat → Int32} {m_digits : Nat → Int32} {m_slots : Nat → Int32} {m_pages : Nat → Int32} {m_highest : Nat → Int64} {m_units : Nat → Nat → Int64} {m_kinds : Nat → Nat → Int32} {m_rows : Nat → Nat → Int32} {m_marks : Nat → Nat → Int32} {q_active : Nat → Int32} {q_rests : Nat → Int32} {q_writers : Nat → Nat → Int32} {l_made : Nat → Int32} {l_sort : Nat → Int32} {l_digits : Nat → Int32} {l_slots : Nat → Int32} {l_pages : Nat → Int32} {l_highest : Nat → Int64} {l_units : Nat → Nat → Int64} {l_kinds : Nat → Nat → Int32} {l_rows : Nat → Nat → Int32} {l_marks : Nat → Nat → Int32} {Q : Int32 → Prop} (hw : wp_X7_same p0 p1 l_made l_sort l_digits l_slots l_pages l_highest l_units l_kinds Q) : CtI l D (Z5 cB cI cJ cL cS) T yX7_same cX7_same 5 ({ frames := 3, cells := 0, slots := 0, locals := 77 } : Room) (Option.some Jvm.ClassFile.FieldType.int) [.ref (ad 0), .int p0, .int p1] (mw ad 94 (ctT cI cJ cL cS ad active rests writers tbytes tlen dbytes dlen next known rec m_made m_sort m_digits m_slots m_pages m_highest m_units m_kinds m_rows m_marks q_active q_rests q_writers l_made l_sort l_digits l_slots l_pages l_highest l_units l_kinds l_rows l_marks)) (fun (u : Unit) => (mw ad 94 (ctT cI cJ cL cS ad active rests writers tbytes tlen dbytes dlen next known rec m_made m_sort m_digits m_slots m_pages m_highest m_units m_kinds m_rows m_marks q_active q_rests q_writers l_made l_sort l_digits l_slots l_pages l_highest l_units l_kinds l_rows l_marks))) (fun (r : Int32) (u : Unit) => Q r ) 0 0 := by
  refine ctI_of (own := RX7) (by decide +kernel) rfl (Nat.le_of_ble_eq_true rfl) (fun p e s m below meth c A C => ?_)
  refine w_sub (lv' := [(0, .ref (ad 0)), (1, .int p0), (2, .int p1)]) C [0, 1, 2] rfl ?_
  unfold wp_X7_same at hw
  refine w_aload_n C 0 dX7_same_0 rfl ?_
  refine w_iload_n C 1 dX7_same_1 rfl ?_
  refine w_callVE C (c_X7_madeAt (ad := ad) hw) f_X7_madeAt k_0 k_255 rfl ⟨Nat.le_of_ble_eq_true rfl, Nat.le_of_ble_eq_true rfl⟩ rfl rfl ⟨Nat.le_of_ble_eq_true rfl, Nat.le_of_ble_eq_true rfl⟩ 0 (mw_at (by decide) rfl) (rr := (RX7, TX7, 5)) rfl rfl (fun _ => mw_addr) rfl (Nat.le_of_ble_eq_true rfl) dX7_same_2 (fun r_2 u_2 hw => ?_)
  obtain ⟨hw, hb_2⟩ := hw
  try dsimp only at hw
  cases r_2 with
  | none =>
    replace hw := hw.1 rfl
    refine w_astore_nN C [(3, .null), (0, .ref (ad 0)), (1, .int p0), (2, .int p1)] dX7_same_5 (by decide) rfl ?_
    refine w_aload_n C 1 dX7_same_6 rfl ?_
    refine w_iload_n C 3 dX7_same_7 rfl ?_
    refine w_callVE C (c_X7_madeAt (ad := ad) hw) f_X7_madeAt k_0 k_255 rfl ⟨Nat.le_of_ble_eq_true rfl, Nat.le_of_ble_eq_true rfl⟩ rfl rfl ⟨Nat.le_of_ble_eq_true rfl, Nat.le_of_ble_eq_true rfl⟩ 0 (mw_at (by decide) rfl) (rr := (RX7, TX7, 5)) rfl rfl (fun _ => mw_addr) rfl (Nat.le_of_ble_eq_true rfl) dX7_same_8 (fun r_8 u_8 hw => ?_)
    obtain ⟨hw, hb_8⟩ := hw
    try dsimp only at hw
    cases r_8 with
    | none =>
      replace hw := hw.1 rfl
      refine w_astoreN C [(4, .null), (3, .null), (0, .ref (ad 0)), (1, .int p0), (2, .int p1)] dX7_same_11 (by decide) rfl ?_
      refine w_aload_nN C 1 dX7_same_13 rfl ?_
      refine w_ifnullN C 22 (by decide) dX7_same_14 ?_
      refine w_iconst C (v := (-1 : Int32)) dX7_same_22 (by decide) ?_
      exact w_iret C () hw rfl (Nat.le_of_ble_eq_true rfl) (Nat.le_of_ble_eq_true rfl) dX7_same_23
    | some j_8 =>
      replace hw := hw.2 j_8 rfl
      have hb_8 := hb_8 j_8 rfl
      refine w_astore C [(4, .ref (ad (74 + 5 * j_8 + 0))), (3, .null), (0, .ref (ad 0)), (1, .int p0), (2, .int p1)] dX7_same_11 (by decide) rfl ?_
      refine w_aload_nN C 1 dX7_same_13 rfl ?_
      refine w_ifnullN C 22 (by decide) dX7_same_14 ?_
      refine w_iconst C (v := (-1 : Int32)) dX7_same_22 (by decide) ?_
      exact w_iret C () hw rfl (Nat.le_of_ble_eq_true rfl) (Nat.le_of_ble_eq_true rfl) dX7_same_23
  | some j_2 =>
    replace hw := hw.2 j_2 rfl
    have hb_2 := hb_2 j_2 rfl
    refine w_astore_n C [(3, .ref (ad (74 + 5 * j_2 + 0))), (0, .ref (ad 0)), (1, .int p0), (2, .int p1)] dX7_same_5 (by decide) rfl ?_
    refine w_aload_n C 1 dX7_same_6 rfl ?_
    refine w_iload_n C 3 dX7_same_7 rfl ?_
    refine w_callVE C (c_X7_madeAt (ad := ad) hw) f_X7_madeAt k_0 k_255 rfl ⟨Nat.le_of_ble_eq_true rfl, Nat.le_of_ble_eq_true rfl⟩ rfl rfl ⟨Nat.le_of_ble_eq_true rfl, Nat.le_of_ble_eq_true rfl⟩ 0 (mw_at (by decide) rfl) (rr := (RX7, TX7, 5)) rfl rfl (fun _ => mw_addr) rfl (Nat.le_of_ble_eq_true rfl) dX7_same_8 (fun r_8 u_8 hw => ?_)
    obtain ⟨hw, hb_8⟩ := hw
    try dsimp only at hw
    cases r_8 with
    | none =>
      replace hw := hw.1 rfl
      refine w_astoreN C [(4, .null), (3, .ref (ad (74 + 5 * j_2 + 0))), (0, .ref (ad 0)), (1, .int p0), (2, .int p1)] dX7_same_11 (by decide) rfl ?_
      refine w_aload_n C 1 dX7_same_13 rfl ?_
      refine w_ifnull C dX7_same_14 ?_
      refine w_aloadN C 0 dX7_same_17 rfl ?_
      refine w_ifnonnullN C dX7_same_19 ?_
      refine w_iconst C (v := (-1 : Int32)) dX7_same_22 (by decide) ?_
      exact w_iret C () hw rfl (Nat.le_of_ble_eq_true rfl) (Nat.le_of_ble_eq_true rfl) dX7_same_23
    | some j_8 =>
      replace hw := hw.2 j_8 rfl
      have hb_8 := hb_8 j_8 rfl
      refine w_astore C [(4, .ref (ad (74 + 5 * j_8 + 0))), (3, .ref (ad (74 + 5 * j_2 + 0))), (0, .ref (ad 0)), (1, .int p0), (2, .int p1)] dX7_same_11 (by decide) rfl ?_
      refine w_aload_n C 1 dX7_same_13 rfl ?_
      refine w_ifnull C dX7_same_14 ?_
      refine w_aload C 0 dX7_same_17 rfl ?_
      refine w_ifnonnull C 24 (by decide) dX7_same_19 ?_
      refine w_aload_n C 1 dX7_same_24 rfl ?_
      refine w_aload C 0 dX7_same_25 rfl ?_
      by_cases hq_27 : j_2 = j_8
      · replace hw := hw.1 hq_27
        subst hq_27
        refine w_callXI C (c_X1_isLike_s (a := fun i => ad (74 + 5 * j_2 + i)) hw) f_X1_isLike k_658 k_656 rfl ⟨Nat.le_of_ble_eq_true rfl, Nat.le_of_ble_eq_true rfl⟩ rfl rfl ⟨Nat.le_of_ble_eq_true rfl, Nat.le_of_ble_eq_true rfl⟩ 0 rfl (rr := (RX1, TX1, 10)) rfl rfl (ad := ad) (N := 94) ((plL j_2)) (wc_L (cB := cB) j_2) (lt_L (by assumption)) nd_L (fun (u : Unit) => (ctT cI cJ cL cS ad active rests writers tbytes tlen dbytes dlen next known rec m_made m_sort m_digits m_slots m_pages m_highest m_units m_kinds m_rows m_marks q_active q_rests q_writers l_made l_sort l_digits l_slots l_pages l_highest l_units l_kinds l_rows l_marks)) (fun _ => (wc_L (cB := cB) j_2).trans (by first | (simp only [va_up_self]; done) | rfl)) (fun _ _ _ _ => rfl) rfl (Nat.le_of_ble_eq_true rfl) dX7_same_27 (fun r_27 u_27 hw => ?_)
        try dsimp only at hw
        refine w_if_eq C 37 (by decide) dX7_same_30 (fun c_30 => ?_) (fun c_30 => ?_)
        · replace hw := hw.1 c_30
          refine w_iconst C (v := (0 : Int32)) dX7_same_37 (by decide) ?_
          exact w_iret C () hw rfl (Nat.le_of_ble_eq_true rfl) (Nat.le_of_ble_eq_true rfl) dX7_same_38
        · replace hw := hw.2 c_30
          refine w_iconst C (v := (1 : Int32)) dX7_same_33 (by decide) ?_
          refine w_goto C 38 (by decide) dX7_same_34 ?_
          exact w_iret C () hw rfl (Nat.le_of_ble_eq_true rfl) (Nat.le_of_ble_eq_true rfl) dX7_same_38
      · have hne_27 : j_2 ≠ j_8 := hq_27
        replace hw := hw.2 hq_27
        refine w_callXI C (c_X1_isLike (a := fun i => ad (74 + 5 * j_2 + i)) (b := fun i => ad (74 + 5 * j_8 + i)) hw) f_X1_isLike k_658 k_656 rfl ⟨Nat.le_of_ble_eq_true rfl, Nat.le_of_ble_eq_true rfl⟩ rfl rfl ⟨Nat.le_of_ble_eq_true rfl, Nat.le_of_ble_eq_true rfl⟩ 0 rfl (rr := (RX1, TX1, 10)) rfl rfl (ad := ad) (N := 94) ((plL j_2) ++ (plL j_8)) (by rw [List.map_append, wc_L (cB := cB) j_2, wc_L (cB := cB) j_8]) (lt_app (lt_L (by assumption)) (lt_L (by assumption))) (nd_LL (by assumption)) (fun (u : Unit) => (ctT cI cJ cL cS ad active rests writers tbytes tlen dbytes dlen next known rec m_made m_sort m_digits m_slots m_pages m_highest m_units m_kinds m_rows m_marks q_active q_rests q_writers l_made l_sort l_digits l_slots l_pages l_highest l_units l_kinds l_rows l_marks)) (fun _ => by rw [List.map_append, wc_L (cB := cB) j_2, wc_L (cB := cB) j_8]; first | done | (simp only [va_up_self, va_up_ne _ _ (Ne.symm hne_27)]; done) | rfl) (fun _ _ _ _ => rfl) rfl (Nat.le_of_ble_eq_true rfl) dX7_same_27 (fun r_27 u_27 hw => ?_)
        try dsimp only at hw
        refine w_if_eq C 37 (by decide) dX7_same_30 (fun c_30 => ?_) (fun c_30 => ?_)
        · replace hw := hw.1 c_30
          refine w_iconst C (v := (0 : Int32)) dX7_same_37 (by decide) ?_
          exact w_iret C () hw rfl (Nat.le_of_ble_eq_true rfl) (Nat.le_of_ble_eq_true rfl) dX7_same_38
        · replace hw := hw.2 c_30
          refine w_iconst C (v := (1 : Int32)) dX7_same_33 (by decide) ?_
          refine w_goto C 38 (by decide) dX7_same_34 ?_
          exact w_iret C () hw rfl (Nat.le_of_ble_eq_true rfl) (Nat.le_of_ble_eq_true rfl) dX7_same_38
def wp_X7_setting (p0 : Int32) (p1 : Int32) (l_made : Nat → Int32) (l_sort : Nat → Int32) (l_digits : Nat → Int32) (l_slots : Nat → Int32) (l_pages : Nat → Int32) (l_highest : Nat → Int64) (l_units : Nat → Nat → Int64) (l_kinds : Nat → Nat → Int32) (Q : Int64 → Prop) : Prop := wp_X7_madeAt p0 l_made (fun (r_2 : Option Nat) => ((r_2 = none → (Q (-1 : Int64))) ∧ (∀ j_2 : Nat, r_2 = some j_2 → ((((p1).toInt = 0 → (Q (((l_sort j_2)).toInt64))) ∧ ((p1).toInt = 1 → (Q (((l_digits j_2)).toInt64))) ∧ ((p1).toInt = 2 → (Q (l_highest j_2))) ∧ ((p1).toInt = 3 → (Q (((l_slots j_2)).toInt64))) ∧ ((p1).toInt = 4 → (wp_X1_usedSlots  (l_slots j_2) (l_pages j_2) (l_units j_2) (l_kinds j_2) (fun (r_72 : Int32) => Q ((r_72).toInt64)))) ∧ ((p1).toInt < 0 ∨ 4 < (p1).toInt → (Q (-1 : Int64))))))))
set_option maxHeartbeats 4000000 in
set_option maxRecDepth 100000 in
theorem c_X7_setting {l : Launch} {D : va_G} {cB cI cJ cL cS : ClassId} {T : Nat × Nat × Nat × Nat} {ad : Nat → Nat} {p0 : Int32} {p1 : Int32} {active : Int32} {rests : Int32} {writers : Nat → Int32} {tbytes : Nat → Int32} {tlen : Int32} {dbytes : Nat → Int32} {dlen : Int32} {next : Int32} {known : Int32} {rec : Nat → Int32} {m_made : Nat → Int32} {m_sort : Nat → Int32} {m_digits : Nat → Int32} {m_slots : Nat → Int32} {m_pages : Nat → Int32} {m_highest : Nat → Int64} {m_units : Nat → Nat → Int64} {m_kinds : Nat → Nat → Int32} {m_rows : Nat → Nat → Int32} {m_marks : Nat → Nat → Int32} {q_active : Nat → Int32} {q_rests : Nat → Int32} {q_writers : Nat → Nat → Int32} {l_made : Nat → Int32} {l_sort : Nat → Int32} {l_digits : Nat → Int32} {l_slots : Nat → Int32} {l_pages : Nat → Int32} {l_highest : Nat → Int64} {l_units : Nat → Nat → Int64} {l_kinds : Nat → Nat → Int32} {l_rows : Nat → Nat → Int32} {l_marks : Nat → Nat → Int32} {Q : Int64 → Prop} (hw : wp_X7_setting p0 p1 l_made l_sort l_digits l_slots l_pages l_highest l_units l_kinds Q) : CtL l D (Z5 cB cI cJ cL cS) T yX7_setting cX7_setting 4 ({ frames := 3, cells := 0, slots := 0, locals := 77 } : Room) (Option.some Jvm.ClassFile.FieldType.long) [.ref (ad 0), .int p0, .int p1] (mw ad 94 (ctT cI cJ cL cS ad active rests writers tbytes tlen dbytes dlen next known rec m_made m_sort m_digits m_slots m_pages m_highest m_units m_kinds m_rows m_marks q_active q_rests q_writers l_made l_sort l_digits l_slots l_pages l_highest l_units l_kinds l_rows l_marks)) (fun (u : Unit) => (mw ad 94 (ctT cI cJ cL cS ad active rests writers tbytes tlen dbytes dlen next known rec m_made m_sort m_digits m_slots m_pages m_highest m_units m_kinds m_rows m_marks q_active q_rests q_writers l_made l_sort l_digits l_slots l_pages l_highest l_units l_kinds l_rows l_marks))) (fun (r : Int64) (u : Unit) => Q r ) 0 0 := by
  refine ctL_of (own := RX7) (by decide +kernel) rfl (Nat.le_of_ble_eq_true rfl) (fun p e s m below meth c A C => ?_)
  refine w_sub (lv' := [(0, .ref (ad 0)), (1, .int p0), (2, .int p1)]) C [0, 1, 2] rfl ?_
  unfold wp_X7_setting at hw
  refine w_aload_n C 0 dX7_setting_0 rfl ?_
  refine w_iload_n C 1 dX7_setting_1 rfl ?_
  refine w_callVE C (c_X7_madeAt (ad := ad) hw) f_X7_madeAt k_0 k_255 rfl ⟨Nat.le_of_ble_eq_true rfl, Nat.le_of_ble_eq_true rfl⟩ rfl rfl ⟨Nat.le_of_ble_eq_true rfl, Nat.le_of_ble_eq_true rfl⟩ 0 (mw_at (by decide) rfl) (rr := (RX7, TX7, 5)) rfl rfl (fun _ => mw_addr) rfl (Nat.le_of_ble_eq_true rfl) dX7_setting_2 (fun r_2 u_2 hw => ?_)
  obtain ⟨hw, hb_2⟩ := hw
  try dsimp only at hw
  cases r_2 with
  | none =>
    replace hw := hw.1 rfl
    refine w_astore_nN C [(3, .null), (0, .ref (ad 0)), (1, .int p0), (2, .int p1)] dX7_setting_5 (by decide) rfl ?_
    refine w_aload_nN C 0 dX7_setting_6 rfl ?_
    refine w_ifnonnullN C dX7_setting_7 ?_
    refine w_ldc2 C (v := (-1 : Int64)) dX7_setting_10 k_481 ?_
    exact w_lret C () hw rfl (Nat.le_of_ble_eq_true rfl) (Nat.le_of_ble_eq_true rfl) dX7_setting_13
  | some j_2 =>
    replace hw := hw.2 j_2 rfl
    have hb_2 := hb_2 j_2 rfl
    refine w_astore_n C [(3, .ref (ad (74 + 5 * j_2 + 0))), (0, .ref (ad 0)), (1, .int p0), (2, .int p1)] dX7_setting_5 (by decide) rfl ?_
    refine w_aload_n C 0 dX7_setting_6 rfl ?_
    refine w_ifnonnull C 14 (by decide) dX7_setting_7 ?_
    refine w_iload_n C 3 dX7_setting_14 rfl ?_
    by_cases h1_15 : (p1).toInt < 0
    · replace hw := hw.2.2.2.2.2 (Or.inl h1_15)
      refine w_tout C 77 (Or.inl h1_15) (by decide) dX7_setting_15 ?_
      refine w_ldc2 C (v := (-1 : Int64)) dX7_setting_77 k_481 ?_
      exact w_lret C () hw rfl (Nat.le_of_ble_eq_true rfl) (Nat.le_of_ble_eq_true rfl) dX7_setting_80
    by_cases h2_15 : 4 < (p1).toInt
    · replace hw := hw.2.2.2.2.2 (Or.inr h2_15)
      refine w_tout C 77 (Or.inr h2_15) (by decide) dX7_setting_15 ?_
      refine w_ldc2 C (v := (-1 : Int64)) dX7_setting_77 k_481 ?_
      exact w_lret C () hw rfl (Nat.le_of_ble_eq_true rfl) (Nat.le_of_ble_eq_true rfl) dX7_setting_80
    rcases (show (p1).toInt = 0 ∨ (p1).toInt = 1 ∨ (p1).toInt = 2 ∨ (p1).toInt = 3 ∨ (p1).toInt = 4 by omega) with h3_15 | h3_15 | h3_15 | h3_15 | h3_15
    · replace hw := hw.1 h3_15
      refine w_tin C 48 h1_15 h2_15 (by rw [h3_15]; rfl) (by decide) dX7_setting_15 ?_
      refine w_aload_n C 0 dX7_setting_48 rfl ?_
      refine w_getN C (T1 := TX1) (74 + 5 * j_2 + 0) 1 u_X1 n_149 rfl (by decide) (mw_at (by omega) (ct_L0 j_2)) rfl dX7_setting_49 ?_
      refine w_i2l C dX7_setting_52 ?_
      exact w_lret C () hw rfl (Nat.le_of_ble_eq_true rfl) (Nat.le_of_ble_eq_true rfl) dX7_setting_53
    · replace hw := hw.2.1 h3_15
      refine w_tin C 54 h1_15 h2_15 (by rw [h3_15]; rfl) (by decide) dX7_setting_15 ?_
      refine w_aload_n C 0 dX7_setting_54 rfl ?_
      refine w_getN C (T1 := TX1) (74 + 5 * j_2 + 0) 2 u_X1 n_151 rfl (by decide) (mw_at (by omega) (ct_L0 j_2)) rfl dX7_setting_55 ?_
      refine w_i2l C dX7_setting_58 ?_
      exact w_lret C () hw rfl (Nat.le_of_ble_eq_true rfl) (Nat.le_of_ble_eq_true rfl) dX7_setting_59
    · replace hw := hw.2.2.1 h3_15
      refine w_tin C 60 h1_15 h2_15 (by rw [h3_15]; rfl) (by decide) dX7_setting_15 ?_
      refine w_aload_n C 0 dX7_setting_60 rfl ?_
      refine w_getN C (T1 := TX1) (74 + 5 * j_2 + 0) 5 u_X1 n_157 rfl (by decide) (mw_at (by omega) (ct_L0 j_2)) rfl dX7_setting_61 ?_
      exact w_lret C () hw rfl (Nat.le_of_ble_eq_true rfl) (Nat.le_of_ble_eq_true rfl) dX7_setting_64
    · replace hw := hw.2.2.2.1 h3_15
      refine w_tin C 65 h1_15 h2_15 (by rw [h3_15]; rfl) (by decide) dX7_setting_15 ?_
      refine w_aload_n C 0 dX7_setting_65 rfl ?_
      refine w_getN C (T1 := TX1) (74 + 5 * j_2 + 0) 3 u_X1 n_153 rfl (by decide) (mw_at (by omega) (ct_L0 j_2)) rfl dX7_setting_66 ?_
      refine w_i2l C dX7_setting_69 ?_
      exact w_lret C () hw rfl (Nat.le_of_ble_eq_true rfl) (Nat.le_of_ble_eq_true rfl) dX7_setting_70
    · replace hw := hw.2.2.2.2.1 h3_15
      refine w_tin C 71 h1_15 h2_15 (by rw [h3_15]; rfl) (by decide) dX7_setting_15 ?_
      refine w_aload_n C 0 dX7_setting_71 rfl ?_
      refine w_callXI C (c_X1_usedSlots (a := fun i => ad (74 + 5 * j_2 + i)) hw) f_X1_usedSlots k_666 k_664 rfl ⟨Nat.le_of_ble_eq_true rfl, Nat.le_of_ble_eq_true rfl⟩ rfl rfl ⟨Nat.le_of_ble_eq_true rfl, Nat.le_of_ble_eq_true rfl⟩ 0 rfl (rr := (RX1, TX1, 10)) rfl rfl (ad := ad) (N := 94) ((plL j_2)) (wc_L (cB := cB) j_2) (lt_L (by assumption)) nd_L (fun (u : Unit) => (ctT cI cJ cL cS ad active rests writers tbytes tlen dbytes dlen next known rec m_made m_sort m_digits m_slots m_pages m_highest m_units m_kinds m_rows m_marks q_active q_rests q_writers l_made l_sort l_digits l_slots l_pages l_highest l_units l_kinds l_rows l_marks)) (fun _ => (wc_L (cB := cB) j_2).trans (by first | (simp only [va_up_self]; done) | rfl)) (fun _ _ _ _ => rfl) rfl (Nat.le_of_ble_eq_true rfl) dX7_setting_72 (fun r_72 u_72 hw => ?_)
      try dsimp only at hw
      refine w_i2l C dX7_setting_75 ?_
      exact w_lret C () hw rfl (Nat.le_of_ble_eq_true rfl) (Nat.le_of_ble_eq_true rfl) dX7_setting_76
def wp_X7_shelve (p0 : Int32) (active : Int32) (rests : Int32) (writers : Nat → Int32) (next : Int32) (known : Int32) (rec : Nat → Int32) (m_made : Nat → Int32) (m_sort : Nat → Int32) (m_digits : Nat → Int32) (m_slots : Nat → Int32) (m_pages : Nat → Int32) (m_highest : Nat → Int64) (m_units : Nat → Nat → Int64) (m_kinds : Nat → Nat → Int32) (m_rows : Nat → Nat → Int32) (m_marks : Nat → Nat → Int32) (q_active : Nat → Int32) (q_rests : Nat → Int32) (q_writers : Nat → Nat → Int32) (l_made : Nat → Int32) (l_sort : Nat → Int32) (l_digits : Nat → Int32) (l_slots : Nat → Int32) (l_pages : Nat → Int32) (l_highest : Nat → Int64) (l_units : Nat → Nat → Int64) (l_kinds : Nat → Nat → Int32) (l_rows : Nat → Nat → Int32) (l_marks : Nat → Nat → Int32) (Q : Int32 → Int32 → Int32 → (Nat → Int32) → (Nat → Int32) → (Nat → Int32) → (Nat → Int32) → (Nat → Int32) → (Nat → Int32) → (Nat → Int64) → (Nat → Nat → Int64) → (Nat → Nat → Int32) → (Nat → Nat → Int32) → (Nat → Nat → Int32) → (Nat → Int32) → (Nat → Int32) → (Nat → Nat → Int32) → (Nat → Nat → Int32) → Prop) : Prop := wp_X7_madeAt p0 l_made (fun (r_2 : Option Nat) => ((r_2 = none → (Q (-1 : Int32) next known rec m_made m_sort m_digits m_slots m_pages m_highest m_units m_kinds m_rows m_marks q_active q_rests q_writers l_kinds)) ∧ (∀ j_2 : Nat, r_2 = some j_2 → (wp_X7_remember p0 active rests writers next known rec m_made m_sort m_digits m_slots m_pages m_highest m_units m_kinds m_rows m_marks q_active q_rests q_writers l_made l_sort l_digits l_slots l_pages l_highest l_units l_kinds l_rows l_marks (fun (next_14 : Int32) (known_14 : Int32) (rec_14 : Nat → Int32) (m_made_14 : Nat → Int32) (m_sort_14 : Nat → Int32) (m_digits_14 : Nat → Int32) (m_slots_14 : Nat → Int32) (m_pages_14 : Nat → Int32) (m_highest_14 : Nat → Int64) (m_units_14 : Nat → Nat → Int64) (m_kinds_14 : Nat → Nat → Int32) (m_rows_14 : Nat → Nat → Int32) (m_marks_14 : Nat → Nat → Int32) (q_active_14 : Nat → Int32) (q_rests_14 : Nat → Int32) (q_writers_14 : Nat → Nat → Int32) => wp_X1_shelveAll  (l_sort j_2) (l_pages j_2) (l_units j_2) (l_kinds j_2) (fun (r_18 : Int32) (l_kinds_18 : Nat → Int32) => Q r_18 next_14 known_14 rec_14 m_made_14 m_sort_14 m_digits_14 m_slots_14 m_pages_14 m_highest_14 m_units_14 m_kinds_14 m_rows_14 m_marks_14 q_active_14 q_rests_14 q_writers_14 (va_up l_kinds j_2 l_kinds_18)))))))
set_option maxHeartbeats 4000000 in
set_option maxRecDepth 100000 in
theorem c_X7_shelve {l : Launch} {D : va_G} {cB cI cJ cL cS : ClassId} {T : Nat × Nat × Nat × Nat} {ad : Nat → Nat} {p0 : Int32} {active : Int32} {rests : Int32} {writers : Nat → Int32} {tbytes : Nat → Int32} {tlen : Int32} {dbytes : Nat → Int32} {dlen : Int32} {next : Int32} {known : Int32} {rec : Nat → Int32} {m_made : Nat → Int32} {m_sort : Nat → Int32} {m_digits : Nat → Int32} {m_slots : Nat → Int32} {m_pages : Nat → Int32} {m_highest : Nat → Int64} {m_units : Nat → Nat → Int64} {m_kinds : Nat → Nat → Int32} {m_rows : Nat → Nat → Int32} {m_marks : Nat → Nat → Int32} {q_active : Nat → Int32} {q_rests : Nat → Int32} {q_writers : Nat → Nat → Int32} {l_made : Nat → Int32} {l_sort : Nat → Int32} {l_digits : Nat → Int32} {l_slots : Nat → Int32} {l_pages : Nat → Int32} {l_highest : Nat → Int64} {l_units : Nat → Nat → Int64} {l_kinds : Nat → Nat → Int32} {l_rows : Nat → Nat → Int32} {l_marks : Nat → Nat → Int32} {Q : Int32 → Int32 → Int32 → (Nat → Int32) → (Nat → Int32) → (Nat → Int32) → (Nat → Int32) → (Nat → Int32) → (Nat → Int32) → (Nat → Int64) → (Nat → Nat → Int64) → (Nat → Nat → Int32) → (Nat → Nat → Int32) → (Nat → Nat → Int32) → (Nat → Int32) → (Nat → Int32) → (Nat → Nat → Int32) → (Nat → Nat → Int32) → Prop} (hw : wp_X7_shelve p0 active rests writers next known rec m_made m_sort m_digits m_slots m_pages m_highest m_units m_kinds m_rows m_marks q_active q_rests q_writers l_made l_sort l_digits l_slots l_pages l_highest l_units l_kinds l_rows l_marks Q) : CtI l D (Z5 cB cI cJ cL cS) T yX7_shelve cX7_shelve 3 ({ frames := 4, cells := 0, slots := 0, locals := 103 } : Room) (Option.some Jvm.ClassFile.FieldType.int) [.ref (ad 0), .int p0] (mw ad 94 (ctT cI cJ cL cS ad active rests writers tbytes tlen dbytes dlen next known rec m_made m_sort m_digits m_slots m_pages m_highest m_units m_kinds m_rows m_marks q_active q_rests q_writers l_made l_sort l_digits l_slots l_pages l_highest l_units l_kinds l_rows l_marks)) (fun (u : Int32 × Int32 × (Nat → Int32) × (Nat → Int32) × (Nat → Int32) × (Nat → Int32) × (Nat → Int32) × (Nat → Int32) × (Nat → Int64) × (Nat → Nat → Int64) × (Nat → Nat → Int32) × (Nat → Nat → Int32) × (Nat → Nat → Int32) × (Nat → Int32) × (Nat → Int32) × (Nat → Nat → Int32) × (Nat → Nat → Int32)) => (mw ad 94 (ctT cI cJ cL cS ad active rests writers tbytes tlen dbytes dlen u.1 u.2.1 u.2.2.1 u.2.2.2.1 u.2.2.2.2.1 u.2.2.2.2.2.1 u.2.2.2.2.2.2.1 u.2.2.2.2.2.2.2.1 u.2.2.2.2.2.2.2.2.1 u.2.2.2.2.2.2.2.2.2.1 u.2.2.2.2.2.2.2.2.2.2.1 u.2.2.2.2.2.2.2.2.2.2.2.1 u.2.2.2.2.2.2.2.2.2.2.2.2.1 u.2.2.2.2.2.2.2.2.2.2.2.2.2.1 u.2.2.2.2.2.2.2.2.2.2.2.2.2.2.1 u.2.2.2.2.2.2.2.2.2.2.2.2.2.2.2.1 l_made l_sort l_digits l_slots l_pages l_highest l_units u.2.2.2.2.2.2.2.2.2.2.2.2.2.2.2.2 l_rows l_marks))) (fun (r : Int32) (u : Int32 × Int32 × (Nat → Int32) × (Nat → Int32) × (Nat → Int32) × (Nat → Int32) × (Nat → Int32) × (Nat → Int32) × (Nat → Int64) × (Nat → Nat → Int64) × (Nat → Nat → Int32) × (Nat → Nat → Int32) × (Nat → Nat → Int32) × (Nat → Int32) × (Nat → Int32) × (Nat → Nat → Int32) × (Nat → Nat → Int32)) => Q r u.1 u.2.1 u.2.2.1 u.2.2.2.1 u.2.2.2.2.1 u.2.2.2.2.2.1 u.2.2.2.2.2.2.1 u.2.2.2.2.2.2.2.1 u.2.2.2.2.2.2.2.2.1 u.2.2.2.2.2.2.2.2.2.1 u.2.2.2.2.2.2.2.2.2.2.1 u.2.2.2.2.2.2.2.2.2.2.2.1 u.2.2.2.2.2.2.2.2.2.2.2.2.1 u.2.2.2.2.2.2.2.2.2.2.2.2.2.1 u.2.2.2.2.2.2.2.2.2.2.2.2.2.2.1 u.2.2.2.2.2.2.2.2.2.2.2.2.2.2.2.1 u.2.2.2.2.2.2.2.2.2.2.2.2.2.2.2.2) 0 0 := by
  refine ctI_of (own := RX7) (by decide +kernel) rfl (Nat.le_of_ble_eq_true rfl) (fun p e s m below meth c A C => ?_)
  refine w_sub (lv' := [(0, .ref (ad 0)), (1, .int p0)]) C [0, 1] rfl ?_
  unfold wp_X7_shelve at hw
  refine w_aload_n C 0 dX7_shelve_0 rfl ?_
  refine w_iload_n C 1 dX7_shelve_1 rfl ?_
  refine w_callVE C (c_X7_madeAt (ad := ad) hw) f_X7_madeAt k_0 k_255 rfl ⟨Nat.le_of_ble_eq_true rfl, Nat.le_of_ble_eq_true rfl⟩ rfl rfl ⟨Nat.le_of_ble_eq_true rfl, Nat.le_of_ble_eq_true rfl⟩ 0 (mw_at (by decide) rfl) (rr := (RX7, TX7, 5)) rfl rfl (fun _ => mw_addr) rfl (Nat.le_of_ble_eq_true rfl) dX7_shelve_2 (fun r_2 u_2 hw => ?_)
  obtain ⟨hw, hb_2⟩ := hw
  try dsimp only at hw
  cases r_2 with
  | none =>
    replace hw := hw.1 rfl
    refine w_astore_nN C [(2, .null), (0, .ref (ad 0)), (1, .int p0)] dX7_shelve_5 (by decide) rfl ?_
    refine w_aload_nN C 0 dX7_shelve_6 rfl ?_
    refine w_ifnonnullN C dX7_shelve_7 ?_
    refine w_iconst C (v := (-1 : Int32)) dX7_shelve_10 (by decide) ?_
    exact w_iret C (next, known, rec, m_made, m_sort, m_digits, m_slots, m_pages, m_highest, m_units, m_kinds, m_rows, m_marks, q_active, q_rests, q_writers, l_kinds) hw rfl (Nat.le_of_ble_eq_true rfl) (Nat.le_of_ble_eq_true rfl) dX7_shelve_11
  | some j_2 =>
    replace hw := hw.2 j_2 rfl
    have hb_2 := hb_2 j_2 rfl
    refine w_astore_n C [(2, .ref (ad (74 + 5 * j_2 + 0))), (0, .ref (ad 0)), (1, .int p0)] dX7_shelve_5 (by decide) rfl ?_
    refine w_aload_n C 0 dX7_shelve_6 rfl ?_
    refine w_ifnonnull C 12 (by decide) dX7_shelve_7 ?_
    refine w_aload_n C 1 dX7_shelve_12 rfl ?_
    refine w_iload_n C 2 dX7_shelve_13 rfl ?_
    refine w_callVV C (c_X7_remember (ad := ad) hw) f_X7_remember k_8 k_386 rfl ⟨Nat.le_of_ble_eq_true rfl, Nat.le_of_ble_eq_true rfl⟩ rfl rfl ⟨Nat.le_of_ble_eq_true rfl, Nat.le_of_ble_eq_true rfl⟩ 0 (mw_at (by decide) rfl) (rr := (RX7, TX7, 5)) rfl rfl (fun _ => mw_addr) rfl (Nat.le_of_ble_eq_true rfl) dX7_shelve_14 (fun u_14 hw => ?_)
    obtain ⟨next_14, known_14, rec_14, m_made_14, m_sort_14, m_digits_14, m_slots_14, m_pages_14, m_highest_14, m_units_14, m_kinds_14, m_rows_14, m_marks_14, q_active_14, q_rests_14, q_writers_14⟩ := u_14
    try dsimp only at hw
    refine w_aload_n C 0 dX7_shelve_17 rfl ?_
    refine w_callXI C (c_X1_shelveAll (a := fun i => ad (74 + 5 * j_2 + i)) hw) f_X1_shelveAll k_461 k_672 rfl ⟨Nat.le_of_ble_eq_true rfl, Nat.le_of_ble_eq_true rfl⟩ rfl rfl ⟨Nat.le_of_ble_eq_true rfl, Nat.le_of_ble_eq_true rfl⟩ 0 rfl (rr := (RX1, TX1, 10)) rfl rfl (ad := ad) (N := 94) ((plL j_2)) (wc_L (cB := cB) j_2) (lt_L (by assumption)) nd_L (fun (u : (Nat → Int32)) => (ctT cI cJ cL cS ad active rests writers tbytes tlen dbytes dlen next_14 known_14 rec_14 m_made_14 m_sort_14 m_digits_14 m_slots_14 m_pages_14 m_highest_14 m_units_14 m_kinds_14 m_rows_14 m_marks_14 q_active_14 q_rests_14 q_writers_14 l_made l_sort l_digits l_slots l_pages l_highest l_units (va_up l_kinds j_2 u) l_rows l_marks)) (fun _ => (wc_L (cB := cB) j_2).trans (by first | (simp only [va_up_self]; done) | rfl)) (fun _ n _ hn => rest_L (fun _ _ => rfl) (fun _ _ => rfl) (fun _ _ => rfl) (fun _ _ => rfl) (fun _ _ => rfl) (fun _ _ => rfl) (fun _ _ => rfl) (fun _ h => va_up_ne _ _ h) (fun _ _ => rfl) (fun _ _ => rfl) n hn) rfl (Nat.le_of_ble_eq_true rfl) dX7_shelve_18 (fun r_18 u_18 hw => ?_)
    obtain ⟨l_kinds_18, rfl⟩ : ∃ z, z = u_18 := ⟨_, rfl⟩
    try dsimp only at hw
    exact w_iret C (next_14, known_14, rec_14, m_made_14, m_sort_14, m_digits_14, m_slots_14, m_pages_14, m_highest_14, m_units_14, m_kinds_14, m_rows_14, m_marks_14, q_active_14, q_rests_14, q_writers_14, (va_up l_kinds j_2 l_kinds_18)) hw rfl (Nat.le_of_ble_eq_true rfl) (Nat.le_of_ble_eq_true rfl) dX7_shelve_21
def wp_X7_kind (p0 : Int32) (p1 : Int32) (l_made : Nat → Int32) (l_pages : Nat → Int32) (l_kinds : Nat → Nat → Int32) (Q : Int32 → Prop) : Prop := wp_X7_madeAt p0 l_made (fun (r_2 : Option Nat) => ((r_2 = none → (Q (-1 : Int32))) ∧ (∀ j_2 : Nat, r_2 = some j_2 → (((¬ p1 = (-1 : Int32) → (wp_X1_hasPage p1 (l_pages j_2) (fun (r_24 : Int32) => ((r_24 = 0 → (Q (-1 : Int32))) ∧ (¬ r_24 = 0 → (wp_X1_kindOf p1 (l_kinds j_2) (fun (r_32 : Int32) => Q r_32))))))) ∧ (p1 = (-1 : Int32) → (Q (l_pages j_2))))))))
set_option maxHeartbeats 4000000 in
set_option maxRecDepth 100000 in
theorem c_X7_kind {l : Launch} {D : va_G} {cB cI cJ cL cS : ClassId} {T : Nat × Nat × Nat × Nat} {ad : Nat → Nat} {p0 : Int32} {p1 : Int32} {active : Int32} {rests : Int32} {writers : Nat → Int32} {tbytes : Nat → Int32} {tlen : Int32} {dbytes : Nat → Int32} {dlen : Int32} {next : Int32} {known : Int32} {rec : Nat → Int32} {m_made : Nat → Int32} {m_sort : Nat → Int32} {m_digits : Nat → Int32} {m_slots : Nat → Int32} {m_pages : Nat → Int32} {m_highest : Nat → Int64} {m_units : Nat → Nat → Int64} {m_kinds : Nat → Nat → Int32} {m_rows : Nat → Nat → Int32} {m_marks : Nat → Nat → Int32} {q_active : Nat → Int32} {q_rests : Nat → Int32} {q_writers : Nat → Nat → Int32} {l_made : Nat → Int32} {l_sort : Nat → Int32} {l_digits : Nat → Int32} {l_slots : Nat → Int32} {l_pages : Nat → Int32} {l_highest : Nat → Int64} {l_units : Nat → Nat → Int64} {l_kinds : Nat → Nat → Int32} {l_rows : Nat → Nat → Int32} {l_marks : Nat → Nat → Int32} {Q : Int32 → Prop} (hw : wp_X7_kind p0 p1 l_made l_pages l_kinds Q) : CtI l D (Z5 cB cI cJ cL cS) T yX7_kind cX7_kind 4 ({ frames := 2, cells := 0, slots := 0, locals := 43 } : Room) (Option.some Jvm.ClassFile.FieldType.int) [.ref (ad 0), .int p0, .int p1] (mw ad 94 (ctT cI cJ cL cS ad active rests writers tbytes tlen dbytes dlen next known rec m_made m_sort m_digits m_slots m_pages m_highest m_units m_kinds m_rows m_marks q_active q_rests q_writers l_made l_sort l_digits l_slots l_pages l_highest l_units l_kinds l_rows l_marks)) (fun (u : Unit) => (mw ad 94 (ctT cI cJ cL cS ad active rests writers tbytes tlen dbytes dlen next known rec m_made m_sort m_digits m_slots m_pages m_highest m_units m_kinds m_rows m_marks q_active q_rests q_writers l_made l_sort l_digits l_slots l_pages l_highest l_units l_kinds l_rows l_marks))) (fun (r : Int32) (u : Unit) => Q r ) 0 0 := by
  refine ctI_of (own := RX7) (by decide +kernel) rfl (Nat.le_of_ble_eq_true rfl) (fun p e s m below meth c A C => ?_)
  refine w_sub (lv' := [(0, .ref (ad 0)), (1, .int p0), (2, .int p1)]) C [0, 1, 2] rfl ?_
  unfold wp_X7_kind at hw
  refine w_aload_n C 0 dX7_kind_0 rfl ?_
  refine w_iload_n C 1 dX7_kind_1 rfl ?_
  refine w_callVE C (c_X7_madeAt (ad := ad) hw) f_X7_madeAt k_0 k_255 rfl ⟨Nat.le_of_ble_eq_true rfl, Nat.le_of_ble_eq_true rfl⟩ rfl rfl ⟨Nat.le_of_ble_eq_true rfl, Nat.le_of_ble_eq_true rfl⟩ 0 (mw_at (by decide) rfl) (rr := (RX7, TX7, 5)) rfl rfl (fun _ => mw_addr) rfl (Nat.le_of_ble_eq_true rfl) dX7_kind_2 (fun r_2 u_2 hw => ?_)
  obtain ⟨hw, hb_2⟩ := hw
  try dsimp only at hw
  cases r_2 with
  | none =>
    replace hw := hw.1 rfl
    refine w_astore_nN C [(3, .null), (0, .ref (ad 0)), (1, .int p0), (2, .int p1)] dX7_kind_5 (by decide) rfl ?_
    refine w_aload_nN C 0 dX7_kind_6 rfl ?_
    refine w_ifnonnullN C dX7_kind_7 ?_
    refine w_iconst C (v := (-1 : Int32)) dX7_kind_10 (by decide) ?_
    exact w_iret C () hw rfl (Nat.le_of_ble_eq_true rfl) (Nat.le_of_ble_eq_true rfl) dX7_kind_11
  | some j_2 =>
    replace hw := hw.2 j_2 rfl
    have hb_2 := hb_2 j_2 rfl
    refine w_astore_n C [(3, .ref (ad (74 + 5 * j_2 + 0))), (0, .ref (ad 0)), (1, .int p0), (2, .int p1)] dX7_kind_5 (by decide) rfl ?_
    refine w_aload_n C 0 dX7_kind_6 rfl ?_
    refine w_ifnonnull C 12 (by decide) dX7_kind_7 ?_
    refine w_iload_n C 3 dX7_kind_12 rfl ?_
    refine w_iconst C (v := (-1 : Int32)) dX7_kind_13 (by decide) ?_
    refine w_icmp_ne C 22 (by decide) dX7_kind_14 (fun c_14 => ?_) (fun c_14 => ?_)
    · replace hw := hw.1 c_14
      refine w_aload_n C 0 dX7_kind_22 rfl ?_
      refine w_iload_n C 3 dX7_kind_23 rfl ?_
      refine w_callXI C (c_X1_hasPage (a := fun i => ad (74 + 5 * j_2 + i)) hw) f_X1_hasPage k_679 k_677 rfl ⟨Nat.le_of_ble_eq_true rfl, Nat.le_of_ble_eq_true rfl⟩ rfl rfl ⟨Nat.le_of_ble_eq_true rfl, Nat.le_of_ble_eq_true rfl⟩ 0 rfl (rr := (RX1, TX1, 10)) rfl rfl (ad := ad) (N := 94) ((plL j_2)) (wc_L (cB := cB) j_2) (lt_L (by assumption)) nd_L (fun (u : Unit) => (ctT cI cJ cL cS ad active rests writers tbytes tlen dbytes dlen next known rec m_made m_sort m_digits m_slots m_pages m_highest m_units m_kinds m_rows m_marks q_active q_rests q_writers l_made l_sort l_digits l_slots l_pages l_highest l_units l_kinds l_rows l_marks)) (fun _ => (wc_L (cB := cB) j_2).trans (by first | (simp only [va_up_self]; done) | rfl)) (fun _ _ _ _ => rfl) rfl (Nat.le_of_ble_eq_true rfl) dX7_kind_24 (fun r_24 u_24 hw => ?_)
      try dsimp only at hw
      refine w_if_eq C 38 (by decide) dX7_kind_27 (fun c_27 => ?_) (fun c_27 => ?_)
      · replace hw := hw.1 c_27
        refine w_iconst C (v := (-1 : Int32)) dX7_kind_38 (by decide) ?_
        exact w_iret C () hw rfl (Nat.le_of_ble_eq_true rfl) (Nat.le_of_ble_eq_true rfl) dX7_kind_39
      · replace hw := hw.2 c_27
        refine w_aload_n C 0 dX7_kind_30 rfl ?_
        refine w_iload_n C 3 dX7_kind_31 rfl ?_
        refine w_callXI C (c_X1_kindOf (a := fun i => ad (74 + 5 * j_2 + i)) hw) f_X1_kindOf k_283 k_681 rfl ⟨Nat.le_of_ble_eq_true rfl, Nat.le_of_ble_eq_true rfl⟩ rfl rfl ⟨Nat.le_of_ble_eq_true rfl, Nat.le_of_ble_eq_true rfl⟩ 0 rfl (rr := (RX1, TX1, 10)) rfl rfl (ad := ad) (N := 94) ((plL j_2)) (wc_L (cB := cB) j_2) (lt_L (by assumption)) nd_L (fun (u : Unit) => (ctT cI cJ cL cS ad active rests writers tbytes tlen dbytes dlen next known rec m_made m_sort m_digits m_slots m_pages m_highest m_units m_kinds m_rows m_marks q_active q_rests q_writers l_made l_sort l_digits l_slots l_pages l_highest l_units l_kinds l_rows l_marks)) (fun _ => (wc_L (cB := cB) j_2).trans (by first | (simp only [va_up_self]; done) | rfl)) (fun _ _ _ _ => rfl) rfl (Nat.le_of_ble_eq_true rfl) dX7_kind_32 (fun r_32 u_32 hw => ?_)
        try dsimp only at hw
        refine w_goto C 39 (by decide) dX7_kind_35 ?_
        exact w_iret C () hw rfl (Nat.le_of_ble_eq_true rfl) (Nat.le_of_ble_eq_true rfl) dX7_kind_39
    · replace hw := hw.2 c_14
      refine w_aload_n C 0 dX7_kind_17 rfl ?_
      refine w_getN C (T1 := TX1) (74 + 5 * j_2 + 0) 4 u_X1 n_155 rfl (by decide) (mw_at (by omega) (ct_L0 j_2)) rfl dX7_kind_18 ?_
      exact w_iret C () hw rfl (Nat.le_of_ble_eq_true rfl) (Nat.le_of_ble_eq_true rfl) dX7_kind_21
def wp_X7_room (p0 : Int32) (l_made : Nat → Int32) (l_pages : Nat → Int32) (l_kinds : Nat → Nat → Int32) (Q : Int32 → Prop) : Prop := wp_X7_madeAt p0 l_made (fun (r_2 : Option Nat) => ((r_2 = none → (Q (-1 : Int32))) ∧ (∀ j_2 : Nat, r_2 = some j_2 → (wp_X1_bytesOfPages  (l_pages j_2) (l_kinds j_2) (fun (r_15 : Int32) => Q r_15)))))
set_option maxHeartbeats 4000000 in
set_option maxRecDepth 100000 in
theorem c_X7_room {l : Launch} {D : va_G} {cB cI cJ cL cS : ClassId} {T : Nat × Nat × Nat × Nat} {ad : Nat → Nat} {p0 : Int32} {active : Int32} {rests : Int32} {writers : Nat → Int32} {tbytes : Nat → Int32} {tlen : Int32} {dbytes : Nat → Int32} {dlen : Int32} {next : Int32} {known : Int32} {rec : Nat → Int32} {m_made : Nat → Int32} {m_sort : Nat → Int32} {m_digits : Nat → Int32} {m_slots : Nat → Int32} {m_pages : Nat → Int32} {m_highest : Nat → Int64} {m_units : Nat → Nat → Int64} {m_kinds : Nat → Nat → Int32} {m_rows : Nat → Nat → Int32} {m_marks : Nat → Nat → Int32} {q_active : Nat → Int32} {q_rests : Nat → Int32} {q_writers : Nat → Nat → Int32} {l_made : Nat → Int32} {l_sort : Nat → Int32} {l_digits : Nat → Int32} {l_slots : Nat → Int32} {l_pages : Nat → Int32} {l_highest : Nat → Int64} {l_units : Nat → Nat → Int64} {l_kinds : Nat → Nat → Int32} {l_rows : Nat → Nat → Int32} {l_marks : Nat → Nat → Int32} {Q : Int32 → Prop} (hw : wp_X7_room p0 l_made l_pages l_kinds Q) : CtI l D (Z5 cB cI cJ cL cS) T yX7_room cX7_room 3 ({ frames := 2, cells := 0, slots := 0, locals := 44 } : Room) (Option.some Jvm.ClassFile.FieldType.int) [.ref (ad 0), .int p0] (mw ad 94 (ctT cI cJ cL cS ad active rests writers tbytes tlen dbytes dlen next known rec m_made m_sort m_digits m_slots m_pages m_highest m_units m_kinds m_rows m_marks q_active q_rests q_writers l_made l_sort l_digits l_slots l_pages l_highest l_units l_kinds l_rows l_marks)) (fun (u : Unit) => (mw ad 94 (ctT cI cJ cL cS ad active rests writers tbytes tlen dbytes dlen next known rec m_made m_sort m_digits m_slots m_pages m_highest m_units m_kinds m_rows m_marks q_active q_rests q_writers l_made l_sort l_digits l_slots l_pages l_highest l_units l_kinds l_rows l_marks))) (fun (r : Int32) (u : Unit) => Q r ) 0 0 := by
  refine ctI_of (own := RX7) (by decide +kernel) rfl (Nat.le_of_ble_eq_true rfl) (fun p e s m below meth c A C => ?_)
  refine w_sub (lv' := [(0, .ref (ad 0)), (1, .int p0)]) C [0, 1] rfl ?_
  unfold wp_X7_room at hw
  refine w_aload_n C 0 dX7_room_0 rfl ?_
  refine w_iload_n C 1 dX7_room_1 rfl ?_
  refine w_callVE C (c_X7_madeAt (ad := ad) hw) f_X7_madeAt k_0 k_255 rfl ⟨Nat.le_of_ble_eq_true rfl, Nat.le_of_ble_eq_true rfl⟩ rfl rfl ⟨Nat.le_of_ble_eq_true rfl, Nat.le_of_ble_eq_true rfl⟩ 0 (mw_at (by decide) rfl) (rr := (RX7, TX7, 5)) rfl rfl (fun _ => mw_addr) rfl (Nat.le_of_ble_eq_true rfl) dX7_room_2 (fun r_2 u_2 hw => ?_)
  obtain ⟨hw, hb_2⟩ := hw
  try dsimp only at hw
  cases r_2 with
  | none =>
    replace hw := hw.1 rfl
    refine w_astore_nN C [(2, .null), (0, .ref (ad 0)), (1, .int p0)] dX7_room_5 (by decide) rfl ?_
    refine w_aload_nN C 0 dX7_room_6 rfl ?_
    refine w_ifnonnullN C dX7_room_7 ?_
    refine w_iconst C (v := (-1 : Int32)) dX7_room_10 (by decide) ?_
    refine w_goto C 18 (by decide) dX7_room_11 ?_
    exact w_iret C () hw rfl (Nat.le_of_ble_eq_true rfl) (Nat.le_of_ble_eq_true rfl) dX7_room_18
  | some j_2 =>
    replace hw := hw.2 j_2 rfl
    have hb_2 := hb_2 j_2 rfl
    refine w_astore_n C [(2, .ref (ad (74 + 5 * j_2 + 0))), (0, .ref (ad 0)), (1, .int p0)] dX7_room_5 (by decide) rfl ?_
    refine w_aload_n C 0 dX7_room_6 rfl ?_
    refine w_ifnonnull C 14 (by decide) dX7_room_7 ?_
    refine w_aload_n C 0 dX7_room_14 rfl ?_
    refine w_callXI C (c_X1_bytesOfPages (a := fun i => ad (74 + 5 * j_2 + i)) hw) f_X1_bytesOfPages k_688 k_686 rfl ⟨Nat.le_of_ble_eq_true rfl, Nat.le_of_ble_eq_true rfl⟩ rfl rfl ⟨Nat.le_of_ble_eq_true rfl, Nat.le_of_ble_eq_true rfl⟩ 0 rfl (rr := (RX1, TX1, 10)) rfl rfl (ad := ad) (N := 94) ((plL j_2)) (wc_L (cB := cB) j_2) (lt_L (by assumption)) nd_L (fun (u : Unit) => (ctT cI cJ cL cS ad active rests writers tbytes tlen dbytes dlen next known rec m_made m_sort m_digits m_slots m_pages m_highest m_units m_kinds m_rows m_marks q_active q_rests q_writers l_made l_sort l_digits l_slots l_pages l_highest l_units l_kinds l_rows l_marks)) (fun _ => (wc_L (cB := cB) j_2).trans (by first | (simp only [va_up_self]; done) | rfl)) (fun _ _ _ _ => rfl) rfl (Nat.le_of_ble_eq_true rfl) dX7_room_15 (fun r_15 u_15 hw => ?_)
    try dsimp only at hw
    exact w_iret C () hw rfl (Nat.le_of_ble_eq_true rfl) (Nat.le_of_ble_eq_true rfl) dX7_room_18
def blk_X7_peek_65 (l_made : Nat → Int32) (l_pages : Nat → Int32) (l_units : Nat → Nat → Int64) (l_kinds : Nat → Nat → Int32) (l_rows : Nat → Nat → Int32) (l_marks : Nat → Nat → Int32)  (Q : Int64 → Prop) (j6 : Nat) (x2 : Int32) (x3 : Int32) (x4 : Int32) (x5 : Int32) (k0 : Int32) : Prop := ∀ x7_65 : Int32, x7_65 = k0 → wp_X7_refusal_GIVES x7_65 x4 x5  (fun (r_76 : Int32) => ∀ x8_79 : Int32, x8_79 = r_76 → ((x8_79 = 0 → (∀ x9_97 : Int32, x9_97 = (((16 : Int32) * x3) + x4) → ((¬ x2 = 0 → (wp_X1_markOf x9_97 (l_marks j6) (fun (r_124 : Int32) => Q ((r_124).toInt64)))) ∧ (x2 = 0 → (wp_X1_unitsOf x9_97 (l_units j6) (fun (r_111 : Int64) => wp_X7_told x7_65 x5 r_111  (fun (r_114 : Int64) => Q r_114))))))) ∧ (¬ x8_79 = 0 → (Q ((x8_79).toInt64)))))
def wp_X7_peek (p0 : Int32) (p1 : Int32) (p2 : Int32) (p3 : Int32) (p4 : Int32) (l_made : Nat → Int32) (l_pages : Nat → Int32) (l_units : Nat → Nat → Int64) (l_kinds : Nat → Nat → Int32) (l_rows : Nat → Nat → Int32) (l_marks : Nat → Nat → Int32) (Q : Int64 → Prop) : Prop := wp_X7_madeAt p0 l_made (fun (r_2 : Option Nat) => ((r_2 = none → (Q (-9223372036854775808 : Int64))) ∧ (∀ j_2 : Nat, r_2 = some j_2 → (((p1 < 0 → (Q (-9223372036854775808 : Int64))) ∧ (¬ p1 < 0 → ((((1 : Int32) < p1 → (Q (-9223372036854775808 : Int64))) ∧ (¬ (1 : Int32) < p1 → (wp_X1_hasPage p2 (l_pages j_2) (fun (r_24 : Int32) => ((r_24 = 0 → (Q (-9223372036854775808 : Int64))) ∧ (¬ r_24 = 0 → (((p4 < 0 → (Q (-9223372036854775808 : Int64))) ∧ (¬ p4 < 0 → (((p4 ≤ (8 : Int32) → (((¬ p1 = 0 → (wp_X1_rowOf p2 (l_rows j_2) (fun (r_62 : Int32) => (blk_X7_peek_65 l_made l_pages l_units l_kinds l_rows l_marks  Q j_2 p1 p2 p3 p4 r_62)))) ∧ (p1 = 0 → (wp_X1_kindOf p2 (l_kinds j_2) (fun (r_53 : Int32) => (blk_X7_peek_65 l_made l_pages l_units l_kinds l_rows l_marks  Q j_2 p1 p2 p3 p4 r_53))))))) ∧ (¬ p4 ≤ (8 : Int32) → (Q (-9223372036854775808 : Int64)))))))))))))))))))))
set_option maxHeartbeats 4000000 in
set_option maxRecDepth 100000 in
theorem wk_X7_peek_65 {p : Program} {l : Launch} {e : Env} {s : State} {m : MethodId} {args : Array Value} {below : List Frame} {meth : Method} {c : Code} {D : va_G} {cB cI cJ cL cS : ClassId} {T : Nat × Nat × Nat × Nat} {A : Nat → Prop} {ad : Nat → Nat} {active : Int32} {rests : Int32} {writers : Nat → Int32} {tbytes : Nat → Int32} {tlen : Int32} {dbytes : Nat → Int32} {dlen : Int32} {next : Int32} {known : Int32} {rec : Nat → Int32} {m_made : Nat → Int32} {m_sort : Nat → Int32} {m_digits : Nat → Int32} {m_slots : Nat → Int32} {m_pages : Nat → Int32} {m_highest : Nat → Int64} {m_units : Nat → Nat → Int64} {m_kinds : Nat → Nat → Int32} {m_rows : Nat → Nat → Int32} {m_marks : Nat → Nat → Int32} {q_active : Nat → Int32} {q_rests : Nat → Int32} {q_writers : Nat → Nat → Int32} {l_made : Nat → Int32} {l_sort : Nat → Int32} {l_digits : Nat → Int32} {l_slots : Nat → Int32} {l_pages : Nat → Int32} {l_highest : Nat → Int64} {l_units : Nat → Nat → Int64} {l_kinds : Nat → Nat → Int32} {l_rows : Nat → Nat → Int32} {l_marks : Nat → Nat → Int32} {Q : Int64 → Prop} (C : Cq p s m args meth c D (Z5 cB cI cJ cL cS) T A cX7_peek RX7 10 (Option.some Jvm.ClassFile.FieldType.long)) {j6 : Nat} {x2 : Int32} {x3 : Int32} {x4 : Int32} {x5 : Int32} {k0 : Int32} (hj6 : j6 < 4)  (hw : blk_X7_peek_65 l_made l_pages l_units l_kinds l_rows l_marks  Q j6 x2 x3 x4 x5 k0) : ww p l e ({ frames := 4, cells := 0, slots := 0, locals := 97 } : Room) s m args below meth c D A 10 (MQ below (va_Ql (fun (r : Int64) (u : Unit) => Q r ) (OutP D (fun (u : Unit) => (mw ad 94 (ctT cI cJ cL cS ad active rests writers tbytes tlen dbytes dlen next known rec m_made m_sort m_digits m_slots m_pages m_highest m_units m_kinds m_rows m_marks q_active q_rests q_writers l_made l_sort l_digits l_slots l_pages l_highest l_units l_kinds l_rows l_marks)))) A) args s 0 0 A) 0 0 (mw ad 94 (ctT cI cJ cL cS ad active rests writers tbytes tlen dbytes dlen next known rec m_made m_sort m_digits m_slots m_pages m_highest m_units m_kinds m_rows m_marks q_active q_rests q_writers l_made l_sort l_digits l_slots l_pages l_highest l_units l_kinds l_rows l_marks)) 65 [(2, .int x2), (3, .int x3), (4, .int x4), (5, .int x5), (6, .ref (ad (74 + 5 * j6 + 0)))] [.int k0] := by
  unfold blk_X7_peek_65 at hw
  refine w_istore C (fun x7_65 => [(7, .int x7_65), (2, .int x2), (3, .int x3), (4, .int x4), (5, .int x5), (6, .ref (ad (74 + 5 * j6 + 0)))]) dX7_peek_65 (by decide) (fun _ => rfl) (fun x7_65 e_x7_65 => ?_)
  replace hw := hw x7_65 e_x7_65
  refine w_gets_GIVES C k_701 dX7_peek_67 ?_
  refine w_iload C 0 dX7_peek_70 rfl ?_
  refine w_iload C 3 dX7_peek_72 rfl ?_
  refine w_iload C 4 dX7_peek_74 rfl ?_
  refine w_callSI C (c_X7_refusal_GIVES hw) f_X7_refusal k_703 rfl ⟨Nat.le_of_ble_eq_true rfl, Nat.le_of_ble_eq_true rfl⟩ rfl rfl ⟨Nat.le_of_ble_eq_true rfl, Nat.le_of_ble_eq_true rfl⟩ rfl (Nat.le_of_ble_eq_true rfl) dX7_peek_76 (fun r_76 u_76 hw => ?_)
  try dsimp only at hw
  refine w_istore C (fun x8_79 => [(8, .int x8_79), (7, .int x7_65), (2, .int x2), (3, .int x3), (4, .int x4), (5, .int x5), (6, .ref (ad (74 + 5 * j6 + 0)))]) dX7_peek_79 (by decide) (fun _ => rfl) (fun x8_79 e_x8_79 => ?_)
  replace hw := hw x8_79 e_x8_79
  refine w_iload C 0 dX7_peek_81 rfl ?_
  refine w_if_eq C 90 (by decide) dX7_peek_83 (fun c_83 => ?_) (fun c_83 => ?_)
  · replace hw := hw.1 c_83
    refine w_bipush C (v := (16 : Int32)) dX7_peek_90 (by decide) ?_
    refine w_iload_n C 3 dX7_peek_92 rfl ?_
    refine w_imul C dX7_peek_93 ?_
    refine w_iload C 4 dX7_peek_94 rfl ?_
    refine w_iadd C dX7_peek_96 ?_
    refine w_istore C (fun x9_97 => [(9, .int x9_97), (8, .int x8_79), (7, .int x7_65), (2, .int x2), (3, .int x3), (4, .int x4), (5, .int x5), (6, .ref (ad (74 + 5 * j6 + 0)))]) dX7_peek_97 (by decide) (fun _ => rfl) (fun x9_97 e_x9_97 => ?_)
    replace hw := hw x9_97 e_x9_97
    refine w_iload_n C 3 dX7_peek_99 rfl ?_
    refine w_if_ne C 120 (by decide) dX7_peek_100 (fun c_100 => ?_) (fun c_100 => ?_)
    · replace hw := hw.1 c_100
      refine w_aload C 7 dX7_peek_120 rfl ?_
      refine w_iload C 0 dX7_peek_122 rfl ?_
      refine w_callXI C (c_X1_markOf (a := fun i => ad (74 + 5 * j6 + i)) hw) f_X1_markOf k_720 k_718 rfl ⟨Nat.le_of_ble_eq_true rfl, Nat.le_of_ble_eq_true rfl⟩ rfl rfl ⟨Nat.le_of_ble_eq_true rfl, Nat.le_of_ble_eq_true rfl⟩ 0 rfl (rr := (RX1, TX1, 10)) rfl rfl (ad := ad) (N := 94) ((plL j6)) (wc_L (cB := cB) j6) (lt_L (by assumption)) nd_L (fun (u : Unit) => (ctT cI cJ cL cS ad active rests writers tbytes tlen dbytes dlen next known rec m_made m_sort m_digits m_slots m_pages m_highest m_units m_kinds m_rows m_marks q_active q_rests q_writers l_made l_sort l_digits l_slots l_pages l_highest l_units l_kinds l_rows l_marks)) (fun _ => (wc_L (cB := cB) j6).trans (by first | (simp only [va_up_self]; done) | rfl)) (fun _ _ _ _ => rfl) rfl (Nat.le_of_ble_eq_true rfl) dX7_peek_124 (fun r_124 u_124 hw => ?_)
      try dsimp only at hw
      refine w_i2l C dX7_peek_127 ?_
      exact w_lret C () hw rfl (Nat.le_of_ble_eq_true rfl) (Nat.le_of_ble_eq_true rfl) dX7_peek_128
    · replace hw := hw.2 c_100
      refine w_iload C 2 dX7_peek_103 rfl ?_
      refine w_iload C 6 dX7_peek_105 rfl ?_
      refine w_aload C 7 dX7_peek_107 rfl ?_
      refine w_iload C 0 dX7_peek_109 rfl ?_
      refine w_callXL C (c_X1_unitsOf (a := fun i => ad (74 + 5 * j6 + i)) hw) f_X1_unitsOf k_290 k_525 rfl ⟨Nat.le_of_ble_eq_true rfl, Nat.le_of_ble_eq_true rfl⟩ rfl rfl ⟨Nat.le_of_ble_eq_true rfl, Nat.le_of_ble_eq_true rfl⟩ 0 rfl (rr := (RX1, TX1, 10)) rfl rfl (ad := ad) (N := 94) ((plL j6)) (wc_L (cB := cB) j6) (lt_L (by assumption)) nd_L (fun (u : Unit) => (ctT cI cJ cL cS ad active rests writers tbytes tlen dbytes dlen next known rec m_made m_sort m_digits m_slots m_pages m_highest m_units m_kinds m_rows m_marks q_active q_rests q_writers l_made l_sort l_digits l_slots l_pages l_highest l_units l_kinds l_rows l_marks)) (fun _ => (wc_L (cB := cB) j6).trans (by first | (simp only [va_up_self]; done) | rfl)) (fun _ _ _ _ => rfl) rfl (Nat.le_of_ble_eq_true rfl) dX7_peek_111 (fun r_111 u_111 hw => ?_)
      try dsimp only at hw
      refine w_callSL C (c_X7_told hw) f_X7_told k_706 rfl ⟨Nat.le_of_ble_eq_true rfl, Nat.le_of_ble_eq_true rfl⟩ rfl rfl ⟨Nat.le_of_ble_eq_true rfl, Nat.le_of_ble_eq_true rfl⟩ rfl (Nat.le_of_ble_eq_true rfl) dX7_peek_114 (fun r_114 u_114 hw => ?_)
      try dsimp only at hw
      refine w_goto C 128 (by decide) dX7_peek_117 ?_
      exact w_lret C () hw rfl (Nat.le_of_ble_eq_true rfl) (Nat.le_of_ble_eq_true rfl) dX7_peek_128
  · replace hw := hw.2 c_83
    refine w_iload C 0 dX7_peek_86 rfl ?_
    refine w_i2l C dX7_peek_88 ?_
    exact w_lret C () hw rfl (Nat.le_of_ble_eq_true rfl) (Nat.le_of_ble_eq_true rfl) dX7_peek_89
set_option maxHeartbeats 4000000 in
set_option maxRecDepth 100000 in
theorem c_X7_peek {l : Launch} {D : va_G} {cB cI cJ cL cS : ClassId} {T : Nat × Nat × Nat × Nat} {ad : Nat → Nat} {p0 : Int32} {p1 : Int32} {p2 : Int32} {p3 : Int32} {p4 : Int32} {active : Int32} {rests : Int32} {writers : Nat → Int32} {tbytes : Nat → Int32} {tlen : Int32} {dbytes : Nat → Int32} {dlen : Int32} {next : Int32} {known : Int32} {rec : Nat → Int32} {m_made : Nat → Int32} {m_sort : Nat → Int32} {m_digits : Nat → Int32} {m_slots : Nat → Int32} {m_pages : Nat → Int32} {m_highest : Nat → Int64} {m_units : Nat → Nat → Int64} {m_kinds : Nat → Nat → Int32} {m_rows : Nat → Nat → Int32} {m_marks : Nat → Nat → Int32} {q_active : Nat → Int32} {q_rests : Nat → Int32} {q_writers : Nat → Nat → Int32} {l_made : Nat → Int32} {l_sort : Nat → Int32} {l_digits : Nat → Int32} {l_slots : Nat → Int32} {l_pages : Nat → Int32} {l_highest : Nat → Int64} {l_units : Nat → Nat → Int64} {l_kinds : Nat → Nat → Int32} {l_rows : Nat → Nat → Int32} {l_marks : Nat → Nat → Int32} {Q : Int64 → Prop} (hw : wp_X7_peek p0 p1 p2 p3 p4 l_made l_pages l_units l_kinds l_rows l_marks Q) : CtL l D (Z5 cB cI cJ cL cS) T yX7_peek cX7_peek 10 ({ frames := 4, cells := 0, slots := 0, locals := 97 } : Room) (Option.some Jvm.ClassFile.FieldType.long) [.ref (ad 0), .int p0, .int p1, .int p2, .int p3, .int p4] (mw ad 94 (ctT cI cJ cL cS ad active rests writers tbytes tlen dbytes dlen next known rec m_made m_sort m_digits m_slots m_pages m_highest m_units m_kinds m_rows m_marks q_active q_rests q_writers l_made l_sort l_digits l_slots l_pages l_highest l_units l_kinds l_rows l_marks)) (fun (u : Unit) => (mw ad 94 (ctT cI cJ cL cS ad active rests writers tbytes tlen dbytes dlen next known rec m_made m_sort m_digits m_slots m_pages m_highest m_units m_kinds m_rows m_marks q_active q_rests q_writers l_made l_sort l_digits l_slots l_pages l_highest l_units l_kinds l_rows l_marks))) (fun (r : Int64) (u : Unit) => Q r ) 0 0 := by
  refine ctL_of (own := RX7) (by decide +kernel) rfl (Nat.le_of_ble_eq_true rfl) (fun p e s m below meth c A C => ?_)
  refine w_sub (lv' := [(0, .ref (ad 0)), (1, .int p0), (2, .int p1), (3, .int p2), (4, .int p3), (5, .int p4)]) C [0, 1, 2, 3, 4, 5] rfl ?_
  unfold wp_X7_peek at hw
  refine w_aload_n C 0 dX7_peek_0 rfl ?_
  refine w_iload_n C 1 dX7_peek_1 rfl ?_
  refine w_callVE C (c_X7_madeAt (ad := ad) hw) f_X7_madeAt k_0 k_255 rfl ⟨Nat.le_of_ble_eq_true rfl, Nat.le_of_ble_eq_true rfl⟩ rfl rfl ⟨Nat.le_of_ble_eq_true rfl, Nat.le_of_ble_eq_true rfl⟩ 0 (mw_at (by decide) rfl) (rr := (RX7, TX7, 5)) rfl rfl (fun _ => mw_addr) rfl (Nat.le_of_ble_eq_true rfl) dX7_peek_2 (fun r_2 u_2 hw => ?_)
  obtain ⟨hw, hb_2⟩ := hw
  try dsimp only at hw
  cases r_2 with
  | none =>
    replace hw := hw.1 rfl
    refine w_astoreN C [(6, .null), (0, .ref (ad 0)), (1, .int p0), (2, .int p1), (3, .int p2), (4, .int p3), (5, .int p4)] dX7_peek_5 (by decide) rfl ?_
    refine w_aloadN C 0 dX7_peek_7 rfl ?_
    refine w_ifnullN C 42 (by decide) dX7_peek_9 ?_
    refine w_ldc2 C (v := (-9223372036854775808 : Int64)) dX7_peek_42 k_696 ?_
    exact w_lret C () hw rfl (Nat.le_of_ble_eq_true rfl) (Nat.le_of_ble_eq_true rfl) dX7_peek_45
  | some j_2 =>
    replace hw := hw.2 j_2 rfl
    have hb_2 := hb_2 j_2 rfl
    refine w_astore C [(6, .ref (ad (74 + 5 * j_2 + 0))), (0, .ref (ad 0)), (1, .int p0), (2, .int p1), (3, .int p2), (4, .int p3), (5, .int p4)] dX7_peek_5 (by decide) rfl ?_
    refine w_aload C 0 dX7_peek_7 rfl ?_
    refine w_ifnull C dX7_peek_9 ?_
    refine w_iload_n C 3 dX7_peek_12 rfl ?_
    refine w_if_lt C 42 (by decide) dX7_peek_13 (fun c_13 => ?_) (fun c_13 => ?_)
    · replace hw := hw.1 c_13
      refine w_ldc2 C (v := (-9223372036854775808 : Int64)) dX7_peek_42 k_696 ?_
      exact w_lret C () hw rfl (Nat.le_of_ble_eq_true rfl) (Nat.le_of_ble_eq_true rfl) dX7_peek_45
    · replace hw := hw.2 c_13
      refine w_iload_n C 3 dX7_peek_16 rfl ?_
      refine w_iconst C (v := (1 : Int32)) dX7_peek_17 (by decide) ?_
      refine w_icmp_gt C 42 (by decide) dX7_peek_18 (fun c_18 => ?_) (fun c_18 => ?_)
      · replace hw := hw.1 c_18
        refine w_ldc2 C (v := (-9223372036854775808 : Int64)) dX7_peek_42 k_696 ?_
        exact w_lret C () hw rfl (Nat.le_of_ble_eq_true rfl) (Nat.le_of_ble_eq_true rfl) dX7_peek_45
      · replace hw := hw.2 c_18
        refine w_aload C 0 dX7_peek_21 rfl ?_
        refine w_iload_n C 4 dX7_peek_23 rfl ?_
        refine w_callXI C (c_X1_hasPage (a := fun i => ad (74 + 5 * j_2 + i)) hw) f_X1_hasPage k_679 k_677 rfl ⟨Nat.le_of_ble_eq_true rfl, Nat.le_of_ble_eq_true rfl⟩ rfl rfl ⟨Nat.le_of_ble_eq_true rfl, Nat.le_of_ble_eq_true rfl⟩ 0 rfl (rr := (RX1, TX1, 10)) rfl rfl (ad := ad) (N := 94) ((plL j_2)) (wc_L (cB := cB) j_2) (lt_L (by assumption)) nd_L (fun (u : Unit) => (ctT cI cJ cL cS ad active rests writers tbytes tlen dbytes dlen next known rec m_made m_sort m_digits m_slots m_pages m_highest m_units m_kinds m_rows m_marks q_active q_rests q_writers l_made l_sort l_digits l_slots l_pages l_highest l_units l_kinds l_rows l_marks)) (fun _ => (wc_L (cB := cB) j_2).trans (by first | (simp only [va_up_self]; done) | rfl)) (fun _ _ _ _ => rfl) rfl (Nat.le_of_ble_eq_true rfl) dX7_peek_24 (fun r_24 u_24 hw => ?_)
        try dsimp only at hw
        refine w_if_eq C 42 (by decide) dX7_peek_27 (fun c_27 => ?_) (fun c_27 => ?_)
        · replace hw := hw.1 c_27
          refine w_ldc2 C (v := (-9223372036854775808 : Int64)) dX7_peek_42 k_696 ?_
          exact w_lret C () hw rfl (Nat.le_of_ble_eq_true rfl) (Nat.le_of_ble_eq_true rfl) dX7_peek_45
        · replace hw := hw.2 c_27
          refine w_iload C 6 dX7_peek_30 rfl ?_
          refine w_if_lt C 42 (by decide) dX7_peek_32 (fun c_32 => ?_) (fun c_32 => ?_)
          · replace hw := hw.1 c_32
            refine w_ldc2 C (v := (-9223372036854775808 : Int64)) dX7_peek_42 k_696 ?_
            exact w_lret C () hw rfl (Nat.le_of_ble_eq_true rfl) (Nat.le_of_ble_eq_true rfl) dX7_peek_45
          · replace hw := hw.2 c_32
            refine w_iload C 6 dX7_peek_35 rfl ?_
            refine w_bipush C (v := (8 : Int32)) dX7_peek_37 (by decide) ?_
            refine w_icmp_le C 46 (by decide) dX7_peek_39 (fun c_39 => ?_) (fun c_39 => ?_)
            · replace hw := hw.1 c_39
              refine w_iload_n C 3 dX7_peek_46 rfl ?_
              refine w_if_ne C 59 (by decide) dX7_peek_47 (fun c_47 => ?_) (fun c_47 => ?_)
              · replace hw := hw.1 c_47
                refine w_aload C 0 dX7_peek_59 rfl ?_
                refine w_iload_n C 4 dX7_peek_61 rfl ?_
                refine w_callXI C (c_X1_rowOf (a := fun i => ad (74 + 5 * j_2 + i)) hw) f_X1_rowOf k_699 k_697 rfl ⟨Nat.le_of_ble_eq_true rfl, Nat.le_of_ble_eq_true rfl⟩ rfl rfl ⟨Nat.le_of_ble_eq_true rfl, Nat.le_of_ble_eq_true rfl⟩ 0 rfl (rr := (RX1, TX1, 10)) rfl rfl (ad := ad) (N := 94) ((plL j_2)) (wc_L (cB := cB) j_2) (lt_L (by assumption)) nd_L (fun (u : Unit) => (ctT cI cJ cL cS ad active rests writers tbytes tlen dbytes dlen next known rec m_made m_sort m_digits m_slots m_pages m_highest m_units m_kinds m_rows m_marks q_active q_rests q_writers l_made l_sort l_digits l_slots l_pages l_highest l_units l_kinds l_rows l_marks)) (fun _ => (wc_L (cB := cB) j_2).trans (by first | (simp only [va_up_self]; done) | rfl)) (fun _ _ _ _ => rfl) rfl (Nat.le_of_ble_eq_true rfl) dX7_peek_62 (fun r_62 u_62 hw => ?_)
                try dsimp only at hw
                refine w_sub (lv' := [(2, .int p1), (3, .int p2), (4, .int p3), (5, .int p4), (6, .ref (ad (74 + 5 * j_2 + 0)))]) C [3, 4, 5, 6, 0] rfl ?_
                exact wk_X7_peek_65 C (by assumption)  hw
              · replace hw := hw.2 c_47
                refine w_aload C 0 dX7_peek_50 rfl ?_
                refine w_iload_n C 4 dX7_peek_52 rfl ?_
                refine w_callXI C (c_X1_kindOf (a := fun i => ad (74 + 5 * j_2 + i)) hw) f_X1_kindOf k_283 k_681 rfl ⟨Nat.le_of_ble_eq_true rfl, Nat.le_of_ble_eq_true rfl⟩ rfl rfl ⟨Nat.le_of_ble_eq_true rfl, Nat.le_of_ble_eq_true rfl⟩ 0 rfl (rr := (RX1, TX1, 10)) rfl rfl (ad := ad) (N := 94) ((plL j_2)) (wc_L (cB := cB) j_2) (lt_L (by assumption)) nd_L (fun (u : Unit) => (ctT cI cJ cL cS ad active rests writers tbytes tlen dbytes dlen next known rec m_made m_sort m_digits m_slots m_pages m_highest m_units m_kinds m_rows m_marks q_active q_rests q_writers l_made l_sort l_digits l_slots l_pages l_highest l_units l_kinds l_rows l_marks)) (fun _ => (wc_L (cB := cB) j_2).trans (by first | (simp only [va_up_self]; done) | rfl)) (fun _ _ _ _ => rfl) rfl (Nat.le_of_ble_eq_true rfl) dX7_peek_53 (fun r_53 u_53 hw => ?_)
                try dsimp only at hw
                refine w_goto C 65 (by decide) dX7_peek_56 ?_
                refine w_sub (lv' := [(2, .int p1), (3, .int p2), (4, .int p3), (5, .int p4), (6, .ref (ad (74 + 5 * j_2 + 0)))]) C [3, 4, 5, 6, 0] rfl ?_
                exact wk_X7_peek_65 C (by assumption)  hw
            · replace hw := hw.2 c_39
              refine w_ldc2 C (v := (-9223372036854775808 : Int64)) dX7_peek_42 k_696 ?_
              exact w_lret C () hw rfl (Nat.le_of_ble_eq_true rfl) (Nat.le_of_ble_eq_true rfl) dX7_peek_45
def blk_X7_poke_199 (active : Int32) (rests : Int32) (writers : Nat → Int32) (l_made : Nat → Int32) (l_sort : Nat → Int32) (l_digits : Nat → Int32) (l_slots : Nat → Int32) (l_pages : Nat → Int32) (l_highest : Nat → Int64) (l_rows : Nat → Nat → Int32)  (Q : Int32 → Int32 → Int32 → (Nat → Int32) → (Nat → Int32) → (Nat → Int32) → (Nat → Int32) → (Nat → Int32) → (Nat → Int32) → (Nat → Int64) → (Nat → Nat → Int64) → (Nat → Nat → Int32) → (Nat → Nat → Int32) → (Nat → Nat → Int32) → (Nat → Int32) → (Nat → Int32) → (Nat → Nat → Int32) → (Nat → Nat → Int64) → (Nat → Nat → Int32) → (Nat → Nat → Int32) → Prop) (js0 : Nat) (k1 : Int32) (k2 : Int64) (next : Int32) (known : Int32) (rec : Nat → Int32) (m_made : Nat → Int32) (m_sort : Nat → Int32) (m_digits : Nat → Int32) (m_slots : Nat → Int32) (m_pages : Nat → Int32) (m_highest : Nat → Int64) (m_units : Nat → Nat → Int64) (m_kinds : Nat → Nat → Int32) (m_rows : Nat → Nat → Int32) (m_marks : Nat → Nat → Int32) (q_active : Nat → Int32) (q_rests : Nat → Int32) (q_writers : Nat → Nat → Int32) (l_units : Nat → Nat → Int64) (l_kinds : Nat → Nat → Int32) (l_marks : Nat → Nat → Int32) : Prop := wp_X1_rewrite k1 k2 (l_sort js0) (l_units js0) (l_kinds js0) (fun (l_units_199 : Nat → Int64) (l_kinds_199 : Nat → Int32) => Q (0 : Int32) next known rec m_made m_sort m_digits m_slots m_pages m_highest m_units m_kinds m_rows m_marks q_active q_rests q_writers (va_up l_units js0 l_units_199) (va_up l_kinds js0 l_kinds_199) l_marks)
def blk_X7_poke_172 (active : Int32) (rests : Int32) (writers : Nat → Int32) (l_made : Nat → Int32) (l_sort : Nat → Int32) (l_digits : Nat → Int32) (l_slots : Nat → Int32) (l_pages : Nat → Int32) (l_highest : Nat → Int64) (l_rows : Nat → Nat → Int32)  (Q : Int32 → Int32 → Int32 → (Nat → Int32) → (Nat → Int32) → (Nat → Int32) → (Nat → Int32) → (Nat → Int32) → (Nat → Int32) → (Nat → Int64) → (Nat → Nat → Int64) → (Nat → Nat → Int32) → (Nat → Nat → Int32) → (Nat → Nat → Int32) → (Nat → Int32) → (Nat → Int32) → (Nat → Nat → Int32) → (Nat → Nat → Int64) → (Nat → Nat → Int32) → (Nat → Nat → Int32) → Prop) (j7 : Nat) (x10 : Int32) (k0 : Int32) (next : Int32) (known : Int32) (rec : Nat → Int32) (m_made : Nat → Int32) (m_sort : Nat → Int32) (m_digits : Nat → Int32) (m_slots : Nat → Int32) (m_pages : Nat → Int32) (m_highest : Nat → Int64) (m_units : Nat → Nat → Int64) (m_kinds : Nat → Nat → Int32) (m_rows : Nat → Nat → Int32) (m_marks : Nat → Nat → Int32) (q_active : Nat → Int32) (q_rests : Nat → Int32) (q_writers : Nat → Nat → Int32) (l_units : Nat → Nat → Int64) (l_kinds : Nat → Nat → Int32) (l_marks : Nat → Nat → Int32) : Prop := ∀ x11_172 : Int32, x11_172 = k0 → ((¬ (l_sort j7) = (1 : Int32) → ((blk_X7_poke_199 active rests writers l_made l_sort l_digits l_slots l_pages l_highest l_rows  Q j7 x10 ((x11_172).toInt64) next known rec m_made m_sort m_digits m_slots m_pages m_highest m_units m_kinds m_rows m_marks q_active q_rests q_writers l_units l_kinds l_marks))) ∧ ((l_sort j7) = (1 : Int32) → ((blk_X7_poke_199 active rests writers l_made l_sort l_digits l_slots l_pages l_highest l_rows  Q j7 x10 ((((16 : Int32) * x11_172)).toInt64) next known rec m_made m_sort m_digits m_slots m_pages m_highest m_units m_kinds m_rows m_marks q_active q_rests q_writers l_units l_kinds l_marks))))
def blk_X7_poke_149 (active : Int32) (rests : Int32) (writers : Nat → Int32) (l_made : Nat → Int32) (l_sort : Nat → Int32) (l_digits : Nat → Int32) (l_slots : Nat → Int32) (l_pages : Nat → Int32) (l_highest : Nat → Int64) (l_rows : Nat → Nat → Int32)  (Q : Int32 → Int32 → Int32 → (Nat → Int32) → (Nat → Int32) → (Nat → Int32) → (Nat → Int32) → (Nat → Int32) → (Nat → Int32) → (Nat → Int64) → (Nat → Nat → Int64) → (Nat → Nat → Int32) → (Nat → Nat → Int32) → (Nat → Nat → Int32) → (Nat → Int32) → (Nat → Int32) → (Nat → Nat → Int32) → (Nat → Nat → Int64) → (Nat → Nat → Int32) → (Nat → Nat → Int32) → Prop) (js0 : Nat) (k1 : Int32) (k2 : Int32) (next : Int32) (known : Int32) (rec : Nat → Int32) (m_made : Nat → Int32) (m_sort : Nat → Int32) (m_digits : Nat → Int32) (m_slots : Nat → Int32) (m_pages : Nat → Int32) (m_highest : Nat → Int64) (m_units : Nat → Nat → Int64) (m_kinds : Nat → Nat → Int32) (m_rows : Nat → Nat → Int32) (m_marks : Nat → Nat → Int32) (q_active : Nat → Int32) (q_rests : Nat → Int32) (q_writers : Nat → Nat → Int32) (l_units : Nat → Nat → Int64) (l_kinds : Nat → Nat → Int32) (l_marks : Nat → Nat → Int32) : Prop := wp_X1_putMark k1 k2 (l_marks js0) (fun (l_marks_149 : Nat → Int32) => Q (0 : Int32) next known rec m_made m_sort m_digits m_slots m_pages m_highest m_units m_kinds m_rows m_marks q_active q_rests q_writers l_units l_kinds (va_up l_marks js0 l_marks_149))
def blk_X7_poke_96 (active : Int32) (rests : Int32) (writers : Nat → Int32) (l_made : Nat → Int32) (l_sort : Nat → Int32) (l_digits : Nat → Int32) (l_slots : Nat → Int32) (l_pages : Nat → Int32) (l_highest : Nat → Int64) (l_rows : Nat → Nat → Int32)  (Q : Int32 → Int32 → Int32 → (Nat → Int32) → (Nat → Int32) → (Nat → Int32) → (Nat → Int32) → (Nat → Int32) → (Nat → Int32) → (Nat → Int64) → (Nat → Nat → Int64) → (Nat → Nat → Int32) → (Nat → Nat → Int32) → (Nat → Nat → Int32) → (Nat → Int32) → (Nat → Int32) → (Nat → Nat → Int32) → (Nat → Nat → Int64) → (Nat → Nat → Int32) → (Nat → Nat → Int32) → Prop) (j7 : Nat) (x1 : Int32) (x2 : Int32) (x3 : Int32) (x4 : Int32) (x6 : Int32) (x8 : Int32) (k1 : Int32) (next : Int32) (known : Int32) (rec : Nat → Int32) (m_made : Nat → Int32) (m_sort : Nat → Int32) (m_digits : Nat → Int32) (m_slots : Nat → Int32) (m_pages : Nat → Int32) (m_highest : Nat → Int64) (m_units : Nat → Nat → Int64) (m_kinds : Nat → Nat → Int32) (m_rows : Nat → Nat → Int32) (m_marks : Nat → Nat → Int32) (q_active : Nat → Int32) (q_rests : Nat → Int32) (q_writers : Nat → Nat → Int32) (l_units : Nat → Nat → Int64) (l_kinds : Nat → Nat → Int32) (l_marks : Nat → Nat → Int32) : Prop := wp_X7_refusal_TAKES k1 x4 x8  (fun (r_100 : Int32) => ∀ x9_103 : Int32, x9_103 = r_100 → ((x9_103 = 0 → (wp_X7_remember x1 active rests writers next known rec m_made m_sort m_digits m_slots m_pages m_highest m_units m_kinds m_rows m_marks q_active q_rests q_writers l_made l_sort l_digits l_slots l_pages l_highest l_units l_kinds l_rows l_marks (fun (next_115 : Int32) (known_115 : Int32) (rec_115 : Nat → Int32) (m_made_115 : Nat → Int32) (m_sort_115 : Nat → Int32) (m_digits_115 : Nat → Int32) (m_slots_115 : Nat → Int32) (m_pages_115 : Nat → Int32) (m_highest_115 : Nat → Int64) (m_units_115 : Nat → Nat → Int64) (m_kinds_115 : Nat → Nat → Int32) (m_rows_115 : Nat → Nat → Int32) (m_marks_115 : Nat → Nat → Int32) (q_active_115 : Nat → Int32) (q_rests_115 : Nat → Int32) (q_writers_115 : Nat → Nat → Int32) => ∀ x10_125 : Int32, x10_125 = (((16 : Int32) * x3) + x4) → ((¬ x2 = (1 : Int32) → (((¬ x8 = (1 : Int32) → ((blk_X7_poke_172 active rests writers l_made l_sort l_digits l_slots l_pages l_highest l_rows  Q j7 x10_125 x6 next_115 known_115 rec_115 m_made_115 m_sort_115 m_digits_115 m_slots_115 m_pages_115 m_highest_115 m_units_115 m_kinds_115 m_rows_115 m_marks_115 q_active_115 q_rests_115 q_writers_115 l_units l_kinds l_marks))) ∧ (x8 = (1 : Int32) → ((blk_X7_poke_172 active rests writers l_made l_sort l_digits l_slots l_pages l_highest l_rows  Q j7 x10_125 (if (1 : Int32) < x6 then (1 : Int32) else x6) next_115 known_115 rec_115 m_made_115 m_sort_115 m_digits_115 m_slots_115 m_pages_115 m_highest_115 m_units_115 m_kinds_115 m_rows_115 m_marks_115 q_active_115 q_rests_115 q_writers_115 l_units l_kinds l_marks)))))) ∧ (x2 = (1 : Int32) → (((¬ x8 = (19 : Int32) → ((blk_X7_poke_149 active rests writers l_made l_sort l_digits l_slots l_pages l_highest l_rows  Q j7 x10_125 x6 next_115 known_115 rec_115 m_made_115 m_sort_115 m_digits_115 m_slots_115 m_pages_115 m_highest_115 m_units_115 m_kinds_115 m_rows_115 m_marks_115 q_active_115 q_rests_115 q_writers_115 l_units l_kinds l_marks))) ∧ (x8 = (19 : Int32) → ((blk_X7_poke_149 active rests writers l_made l_sort l_digits l_slots l_pages l_highest l_rows  Q j7 x10_125 (-1 : Int32) next_115 known_115 rec_115 m_made_115 m_sort_115 m_digits_115 m_slots_115 m_pages_115 m_highest_115 m_units_115 m_kinds_115 m_rows_115 m_marks_115 q_active_115 q_rests_115 q_writers_115 l_units l_kinds l_marks)))))))))) ∧ (¬ x9_103 = 0 → (Q x9_103 next known rec m_made m_sort m_digits m_slots m_pages m_highest m_units m_kinds m_rows m_marks q_active q_rests q_writers l_units l_kinds l_marks))))
def blk_X7_poke_72 (active : Int32) (rests : Int32) (writers : Nat → Int32) (l_made : Nat → Int32) (l_sort : Nat → Int32) (l_digits : Nat → Int32) (l_slots : Nat → Int32) (l_pages : Nat → Int32) (l_highest : Nat → Int64) (l_rows : Nat → Nat → Int32)  (Q : Int32 → Int32 → Int32 → (Nat → Int32) → (Nat → Int32) → (Nat → Int32) → (Nat → Int32) → (Nat → Int32) → (Nat → Int32) → (Nat → Int64) → (Nat → Nat → Int64) → (Nat → Nat → Int32) → (Nat → Nat → Int32) → (Nat → Nat → Int32) → (Nat → Int32) → (Nat → Int32) → (Nat → Nat → Int32) → (Nat → Nat → Int64) → (Nat → Nat → Int32) → (Nat → Nat → Int32) → Prop) (j7 : Nat) (x1 : Int32) (x2 : Int32) (x3 : Int32) (x4 : Int32) (x6 : Int32) (k0 : Int32) (next : Int32) (known : Int32) (rec : Nat → Int32) (m_made : Nat → Int32) (m_sort : Nat → Int32) (m_digits : Nat → Int32) (m_slots : Nat → Int32) (m_pages : Nat → Int32) (m_highest : Nat → Int64) (m_units : Nat → Nat → Int64) (m_kinds : Nat → Nat → Int32) (m_rows : Nat → Nat → Int32) (m_marks : Nat → Nat → Int32) (q_active : Nat → Int32) (q_rests : Nat → Int32) (q_writers : Nat → Nat → Int32) (l_units : Nat → Nat → Int64) (l_kinds : Nat → Nat → Int32) (l_marks : Nat → Nat → Int32) : Prop := ∀ x8_72 : Int32, x8_72 = k0 → ((¬ x2 = 0 → (wp_X1_rowOf x3 (l_rows j7) (fun (r_93 : Int32) => (blk_X7_poke_96 active rests writers l_made l_sort l_digits l_slots l_pages l_highest l_rows  Q j7 x1 x2 x3 x4 x6 x8_72 r_93 next known rec m_made m_sort m_digits m_slots m_pages m_highest m_units m_kinds m_rows m_marks q_active q_rests q_writers l_units l_kinds l_marks)))) ∧ (x2 = 0 → (wp_X1_kindOf x3 (l_kinds j7) (fun (r_84 : Int32) => (blk_X7_poke_96 active rests writers l_made l_sort l_digits l_slots l_pages l_highest l_rows  Q j7 x1 x2 x3 x4 x6 x8_72 r_84 next known rec m_made m_sort m_digits m_slots m_pages m_highest m_units m_kinds m_rows m_marks q_active q_rests q_writers l_units l_kinds l_marks)))))
def blk_X7_poke_70 (active : Int32) (rests : Int32) (writers : Nat → Int32) (l_made : Nat → Int32) (l_sort : Nat → Int32) (l_digits : Nat → Int32) (l_slots : Nat → Int32) (l_pages : Nat → Int32) (l_highest : Nat → Int64) (l_rows : Nat → Nat → Int32)  (Q : Int32 → Int32 → Int32 → (Nat → Int32) → (Nat → Int32) → (Nat → Int32) → (Nat → Int32) → (Nat → Int32) → (Nat → Int32) → (Nat → Int64) → (Nat → Nat → Int64) → (Nat → Nat → Int32) → (Nat → Nat → Int32) → (Nat → Nat → Int32) → (Nat → Int32) → (Nat → Int32) → (Nat → Nat → Int32) → (Nat → Nat → Int64) → (Nat → Nat → Int32) → (Nat → Nat → Int32) → Prop) (j7 : Nat) (x1 : Int32) (x2 : Int32) (x3 : Int32) (x4 : Int32) (x5 : Int32) (x6 : Int32) (next : Int32) (known : Int32) (rec : Nat → Int32) (m_made : Nat → Int32) (m_sort : Nat → Int32) (m_digits : Nat → Int32) (m_slots : Nat → Int32) (m_pages : Nat → Int32) (m_highest : Nat → Int64) (m_units : Nat → Nat → Int64) (m_kinds : Nat → Nat → Int32) (m_rows : Nat → Nat → Int32) (m_marks : Nat → Nat → Int32) (q_active : Nat → Int32) (q_rests : Nat → Int32) (q_writers : Nat → Nat → Int32) (l_units : Nat → Nat → Int64) (l_kinds : Nat → Nat → Int32) (l_marks : Nat → Nat → Int32) : Prop := (blk_X7_poke_72 active rests writers l_made l_sort l_digits l_slots l_pages l_highest l_rows  Q j7 x1 x2 x3 x4 x6 x5 next known rec m_made m_sort m_digits m_slots m_pages m_highest m_units m_kinds m_rows m_marks q_active q_rests q_writers l_units l_kinds l_marks)
def wp_X7_poke (p0 : Int32) (p1 : Int32) (p2 : Int32) (p3 : Int32) (p4 : Int32) (p5 : Int32) (active : Int32) (rests : Int32) (writers : Nat → Int32) (next : Int32) (known : Int32) (rec : Nat → Int32) (m_made : Nat → Int32) (m_sort : Nat → Int32) (m_digits : Nat → Int32) (m_slots : Nat → Int32) (m_pages : Nat → Int32) (m_highest : Nat → Int64) (m_units : Nat → Nat → Int64) (m_kinds : Nat → Nat → Int32) (m_rows : Nat → Nat → Int32) (m_marks : Nat → Nat → Int32) (q_active : Nat → Int32) (q_rests : Nat → Int32) (q_writers : Nat → Nat → Int32) (l_made : Nat → Int32) (l_sort : Nat → Int32) (l_digits : Nat → Int32) (l_slots : Nat → Int32) (l_pages : Nat → Int32) (l_highest : Nat → Int64) (l_units : Nat → Nat → Int64) (l_kinds : Nat → Nat → Int32) (l_rows : Nat → Nat → Int32) (l_marks : Nat → Nat → Int32) (Q : Int32 → Int32 → Int32 → (Nat → Int32) → (Nat → Int32) → (Nat → Int32) → (Nat → Int32) → (Nat → Int32) → (Nat → Int32) → (Nat → Int64) → (Nat → Nat → Int64) → (Nat → Nat → Int32) → (Nat → Nat → Int32) → (Nat → Nat → Int32) → (Nat → Int32) → (Nat → Int32) → (Nat → Nat → Int32) → (Nat → Nat → Int64) → (Nat → Nat → Int32) → (Nat → Nat → Int32) → Prop) : Prop := wp_X7_madeAt p0 l_made (fun (r_2 : Option Nat) => ((r_2 = none → (Q (-1 : Int32) next known rec m_made m_sort m_digits m_slots m_pages m_highest m_units m_kinds m_rows m_marks q_active q_rests q_writers l_units l_kinds l_marks)) ∧ (∀ j_2 : Nat, r_2 = some j_2 → (((p1 < 0 → (Q (-1 : Int32) next known rec m_made m_sort m_digits m_slots m_pages m_highest m_units m_kinds m_rows m_marks q_active q_rests q_writers l_units l_kinds l_marks)) ∧ (¬ p1 < 0 → ((((1 : Int32) < p1 → (Q (-1 : Int32) next known rec m_made m_sort m_digits m_slots m_pages m_highest m_units m_kinds m_rows m_marks q_active q_rests q_writers l_units l_kinds l_marks)) ∧ (¬ (1 : Int32) < p1 → (wp_X1_hasPage p2 (l_pages j_2) (fun (r_24 : Int32) => ((r_24 = 0 → (Q (-1 : Int32) next known rec m_made m_sort m_digits m_slots m_pages m_highest m_units m_kinds m_rows m_marks q_active q_rests q_writers l_units l_kinds l_marks)) ∧ (¬ r_24 = 0 → (wp_X7_isPokeHow p4  (fun (r_32 : Int32) => ((r_32 = 0 → (Q (-1 : Int32) next known rec m_made m_sort m_digits m_slots m_pages m_highest m_units m_kinds m_rows m_marks q_active q_rests q_writers l_units l_kinds l_marks)) ∧ (¬ r_32 = 0 → (wp_X7_isMark p5  (fun (r_40 : Int32) => ((¬ r_40 = 0 → (((p4 ≤ (10 : Int32) → ((blk_X7_poke_70 active rests writers l_made l_sort l_digits l_slots l_pages l_highest l_rows  Q j_2 p0 p1 p2 p3 p4 p5 next known rec m_made m_sort m_digits m_slots m_pages m_highest m_units m_kinds m_rows m_marks q_active q_rests q_writers l_units l_kinds l_marks))) ∧ (¬ p4 ≤ (10 : Int32) → ((((19 : Int32) ≤ p4 → ((blk_X7_poke_70 active rests writers l_made l_sort l_digits l_slots l_pages l_highest l_rows  Q j_2 p0 p1 p2 p3 p4 p5 next known rec m_made m_sort m_digits m_slots m_pages m_highest m_units m_kinds m_rows m_marks q_active q_rests q_writers l_units l_kinds l_marks))) ∧ (¬ (19 : Int32) ≤ p4 → ((blk_X7_poke_72 active rests writers l_made l_sort l_digits l_slots l_pages l_highest l_rows  Q j_2 p0 p1 p2 p3 p5 (p4 - (10 : Int32)) next known rec m_made m_sort m_digits m_slots m_pages m_highest m_units m_kinds m_rows m_marks q_active q_rests q_writers l_units l_kinds l_marks))))))))) ∧ (r_40 = 0 → (Q (-1 : Int32) next known rec m_made m_sort m_digits m_slots m_pages m_highest m_units m_kinds m_rows m_marks q_active q_rests q_writers l_units l_kinds l_marks))))))))))))))))))))))
set_option maxHeartbeats 4000000 in
set_option maxRecDepth 100000 in
theorem wk_X7_poke_199 {p : Program} {l : Launch} {e : Env} {s : State} {m : MethodId} {args : Array Value} {below : List Frame} {meth : Method} {c : Code} {D : va_G} {cB cI cJ cL cS : ClassId} {T : Nat × Nat × Nat × Nat} {A : Nat → Prop} {ad : Nat → Nat} {active : Int32} {rests : Int32} {writers : Nat → Int32} {tbytes : Nat → Int32} {tlen : Int32} {dbytes : Nat → Int32} {dlen : Int32} {l_made : Nat → Int32} {l_sort : Nat → Int32} {l_digits : Nat → Int32} {l_slots : Nat → Int32} {l_pages : Nat → Int32} {l_highest : Nat → Int64} {l_rows : Nat → Nat → Int32} {Q : Int32 → Int32 → Int32 → (Nat → Int32) → (Nat → Int32) → (Nat → Int32) → (Nat → Int32) → (Nat → Int32) → (Nat → Int32) → (Nat → Int64) → (Nat → Nat → Int64) → (Nat → Nat → Int32) → (Nat → Nat → Int32) → (Nat → Nat → Int32) → (Nat → Int32) → (Nat → Int32) → (Nat → Nat → Int32) → (Nat → Nat → Int64) → (Nat → Nat → Int32) → (Nat → Nat → Int32) → Prop} (C : Cq p s m args meth c D (Z5 cB cI cJ cL cS) T A cX7_poke RX7 12 (Option.some Jvm.ClassFile.FieldType.int)) {js0 : Nat} {k1 : Int32} {k2 : Int64} {next : Int32} {known : Int32} {rec : Nat → Int32} {m_made : Nat → Int32} {m_sort : Nat → Int32} {m_digits : Nat → Int32} {m_slots : Nat → Int32} {m_pages : Nat → Int32} {m_highest : Nat → Int64} {m_units : Nat → Nat → Int64} {m_kinds : Nat → Nat → Int32} {m_rows : Nat → Nat → Int32} {m_marks : Nat → Nat → Int32} {q_active : Nat → Int32} {q_rests : Nat → Int32} {q_writers : Nat → Nat → Int32} {l_units : Nat → Nat → Int64} {l_kinds : Nat → Nat → Int32} {l_marks : Nat → Nat → Int32} (hjs0 : js0 < 4)  (hw : blk_X7_poke_199 active rests writers l_made l_sort l_digits l_slots l_pages l_highest l_rows  Q js0 k1 k2 next known rec m_made m_sort m_digits m_slots m_pages m_highest m_units m_kinds m_rows m_marks q_active q_rests q_writers l_units l_kinds l_marks) : ww p l e ({ frames := 4, cells := 0, slots := 0, locals := 106 } : Room) s m args below meth c D A 12 (MQ below (va_Qi (fun (r : Int32) (u : Int32 × Int32 × (Nat → Int32) × (Nat → Int32) × (Nat → Int32) × (Nat → Int32) × (Nat → Int32) × (Nat → Int32) × (Nat → Int64) × (Nat → Nat → Int64) × (Nat → Nat → Int32) × (Nat → Nat → Int32) × (Nat → Nat → Int32) × (Nat → Int32) × (Nat → Int32) × (Nat → Nat → Int32) × (Nat → Nat → Int64) × (Nat → Nat → Int32) × (Nat → Nat → Int32)) => Q r u.1 u.2.1 u.2.2.1 u.2.2.2.1 u.2.2.2.2.1 u.2.2.2.2.2.1 u.2.2.2.2.2.2.1 u.2.2.2.2.2.2.2.1 u.2.2.2.2.2.2.2.2.1 u.2.2.2.2.2.2.2.2.2.1 u.2.2.2.2.2.2.2.2.2.2.1 u.2.2.2.2.2.2.2.2.2.2.2.1 u.2.2.2.2.2.2.2.2.2.2.2.2.1 u.2.2.2.2.2.2.2.2.2.2.2.2.2.1 u.2.2.2.2.2.2.2.2.2.2.2.2.2.2.1 u.2.2.2.2.2.2.2.2.2.2.2.2.2.2.2.1 u.2.2.2.2.2.2.2.2.2.2.2.2.2.2.2.2.1 u.2.2.2.2.2.2.2.2.2.2.2.2.2.2.2.2.2.1 u.2.2.2.2.2.2.2.2.2.2.2.2.2.2.2.2.2.2) (OutP D (fun (u : Int32 × Int32 × (Nat → Int32) × (Nat → Int32) × (Nat → Int32) × (Nat → Int32) × (Nat → Int32) × (Nat → Int32) × (Nat → Int64) × (Nat → Nat → Int64) × (Nat → Nat → Int32) × (Nat → Nat → Int32) × (Nat → Nat → Int32) × (Nat → Int32) × (Nat → Int32) × (Nat → Nat → Int32) × (Nat → Nat → Int64) × (Nat → Nat → Int32) × (Nat → Nat → Int32)) => (mw ad 94 (ctT cI cJ cL cS ad active rests writers tbytes tlen dbytes dlen u.1 u.2.1 u.2.2.1 u.2.2.2.1 u.2.2.2.2.1 u.2.2.2.2.2.1 u.2.2.2.2.2.2.1 u.2.2.2.2.2.2.2.1 u.2.2.2.2.2.2.2.2.1 u.2.2.2.2.2.2.2.2.2.1 u.2.2.2.2.2.2.2.2.2.2.1 u.2.2.2.2.2.2.2.2.2.2.2.1 u.2.2.2.2.2.2.2.2.2.2.2.2.1 u.2.2.2.2.2.2.2.2.2.2.2.2.2.1 u.2.2.2.2.2.2.2.2.2.2.2.2.2.2.1 u.2.2.2.2.2.2.2.2.2.2.2.2.2.2.2.1 l_made l_sort l_digits l_slots l_pages l_highest u.2.2.2.2.2.2.2.2.2.2.2.2.2.2.2.2.1 u.2.2.2.2.2.2.2.2.2.2.2.2.2.2.2.2.2.1 l_rows u.2.2.2.2.2.2.2.2.2.2.2.2.2.2.2.2.2.2)))) A) args s 0 0 A) 0 0 (mw ad 94 (ctT cI cJ cL cS ad active rests writers tbytes tlen dbytes dlen next known rec m_made m_sort m_digits m_slots m_pages m_highest m_units m_kinds m_rows m_marks q_active q_rests q_writers l_made l_sort l_digits l_slots l_pages l_highest l_units l_kinds l_rows l_marks)) 199 [] [.long k2, .int k1, .ref (ad (74 + 5 * js0 + 0))] := by
  unfold blk_X7_poke_199 at hw
  refine w_callXV C (c_X1_rewrite (a := fun i => ad (74 + 5 * js0 + i)) hw) f_X1_rewrite k_436 k_739 rfl ⟨Nat.le_of_ble_eq_true rfl, Nat.le_of_ble_eq_true rfl⟩ rfl rfl ⟨Nat.le_of_ble_eq_true rfl, Nat.le_of_ble_eq_true rfl⟩ 0 rfl (rr := (RX1, TX1, 10)) rfl rfl (ad := ad) (N := 94) ((plL js0)) (wc_L (cB := cB) js0) (lt_L (by assumption)) nd_L (fun (u : (Nat → Int64) × (Nat → Int32)) => (ctT cI cJ cL cS ad active rests writers tbytes tlen dbytes dlen next known rec m_made m_sort m_digits m_slots m_pages m_highest m_units m_kinds m_rows m_marks q_active q_rests q_writers l_made l_sort l_digits l_slots l_pages l_highest (va_up l_units js0 u.1) (va_up l_kinds js0 u.2) l_rows l_marks)) (fun _ => (wc_L (cB := cB) js0).trans (by first | (simp only [va_up_self]; done) | rfl)) (fun _ n _ hn => rest_L (fun _ _ => rfl) (fun _ _ => rfl) (fun _ _ => rfl) (fun _ _ => rfl) (fun _ _ => rfl) (fun _ _ => rfl) (fun _ h => va_up_ne _ _ h) (fun _ h => va_up_ne _ _ h) (fun _ _ => rfl) (fun _ _ => rfl) n hn) rfl (Nat.le_of_ble_eq_true rfl) dX7_poke_199 (fun u_199 hw => ?_)
  obtain ⟨l_units_199, l_kinds_199⟩ := u_199
  try dsimp only at hw
  refine w_iconst C (v := (0 : Int32)) dX7_poke_202 (by decide) ?_
  exact w_iret C (next, known, rec, m_made, m_sort, m_digits, m_slots, m_pages, m_highest, m_units, m_kinds, m_rows, m_marks, q_active, q_rests, q_writers, (va_up l_units js0 l_units_199), (va_up l_kinds js0 l_kinds_199), l_marks) hw rfl (Nat.le_of_ble_eq_true rfl) (Nat.le_of_ble_eq_true rfl) dX7_poke_203
set_option maxHeartbeats 4000000 in
set_option maxRecDepth 100000 in
theorem wk_X7_poke_172 {p : Program} {l : Launch} {e : Env} {s : State} {m : MethodId} {args : Array Value} {below : List Frame} {meth : Method} {c : Code} {D : va_G} {cB cI cJ cL cS : ClassId} {T : Nat × Nat × Nat × Nat} {A : Nat → Prop} {ad : Nat → Nat} {active : Int32} {rests : Int32} {writers : Nat → Int32} {tbytes : Nat → Int32} {tlen : Int32} {dbytes : Nat → Int32} {dlen : Int32} {l_made : Nat → Int32} {l_sort : Nat → Int32} {l_digits : Nat → Int32} {l_slots : Nat → Int32} {l_pages : Nat → Int32} {l_highest : Nat → Int64} {l_rows : Nat → Nat → Int32} {Q : Int32 → Int32 → Int32 → (Nat → Int32) → (Nat → Int32) → (Nat → Int32) → (Nat → Int32) → (Nat → Int32) → (Nat → Int32) → (Nat → Int64) → (Nat → Nat → Int64) → (Nat → Nat → Int32) → (Nat → Nat → Int32) → (Nat → Nat → Int32) → (Nat → Int32) → (Nat → Int32) → (Nat → Nat → Int32) → (Nat → Nat → Int64) → (Nat → Nat → Int32) → (Nat → Nat → Int32) → Prop} (C : Cq p s m args meth c D (Z5 cB cI cJ cL cS) T A cX7_poke RX7 12 (Option.some Jvm.ClassFile.FieldType.int)) {j7 : Nat} {x10 : Int32} {k0 : Int32} {next : Int32} {known : Int32} {rec : Nat → Int32} {m_made : Nat → Int32} {m_sort : Nat → Int32} {m_digits : Nat → Int32} {m_slots : Nat → Int32} {m_pages : Nat → Int32} {m_highest : Nat → Int64} {m_units : Nat → Nat → Int64} {m_kinds : Nat → Nat → Int32} {m_rows : Nat → Nat → Int32} {m_marks : Nat → Nat → Int32} {q_active : Nat → Int32} {q_rests : Nat → Int32} {q_writers : Nat → Nat → Int32} {l_units : Nat → Nat → Int64} {l_kinds : Nat → Nat → Int32} {l_marks : Nat → Nat → Int32} (hj7 : j7 < 4)  (hw : blk_X7_poke_172 active rests writers l_made l_sort l_digits l_slots l_pages l_highest l_rows  Q j7 x10 k0 next known rec m_made m_sort m_digits m_slots m_pages m_highest m_units m_kinds m_rows m_marks q_active q_rests q_writers l_units l_kinds l_marks) : ww p l e ({ frames := 4, cells := 0, slots := 0, locals := 106 } : Room) s m args below meth c D A 12 (MQ below (va_Qi (fun (r : Int32) (u : Int32 × Int32 × (Nat → Int32) × (Nat → Int32) × (Nat → Int32) × (Nat → Int32) × (Nat → Int32) × (Nat → Int32) × (Nat → Int64) × (Nat → Nat → Int64) × (Nat → Nat → Int32) × (Nat → Nat → Int32) × (Nat → Nat → Int32) × (Nat → Int32) × (Nat → Int32) × (Nat → Nat → Int32) × (Nat → Nat → Int64) × (Nat → Nat → Int32) × (Nat → Nat → Int32)) => Q r u.1 u.2.1 u.2.2.1 u.2.2.2.1 u.2.2.2.2.1 u.2.2.2.2.2.1 u.2.2.2.2.2.2.1 u.2.2.2.2.2.2.2.1 u.2.2.2.2.2.2.2.2.1 u.2.2.2.2.2.2.2.2.2.1 u.2.2.2.2.2.2.2.2.2.2.1 u.2.2.2.2.2.2.2.2.2.2.2.1 u.2.2.2.2.2.2.2.2.2.2.2.2.1 u.2.2.2.2.2.2.2.2.2.2.2.2.2.1 u.2.2.2.2.2.2.2.2.2.2.2.2.2.2.1 u.2.2.2.2.2.2.2.2.2.2.2.2.2.2.2.1 u.2.2.2.2.2.2.2.2.2.2.2.2.2.2.2.2.1 u.2.2.2.2.2.2.2.2.2.2.2.2.2.2.2.2.2.1 u.2.2.2.2.2.2.2.2.2.2.2.2.2.2.2.2.2.2) (OutP D (fun (u : Int32 × Int32 × (Nat → Int32) × (Nat → Int32) × (Nat → Int32) × (Nat → Int32) × (Nat → Int32) × (Nat → Int32) × (Nat → Int64) × (Nat → Nat → Int64) × (Nat → Nat → Int32) × (Nat → Nat → Int32) × (Nat → Nat → Int32) × (Nat → Int32) × (Nat → Int32) × (Nat → Nat → Int32) × (Nat → Nat → Int64) × (Nat → Nat → Int32) × (Nat → Nat → Int32)) => (mw ad 94 (ctT cI cJ cL cS ad active rests writers tbytes tlen dbytes dlen u.1 u.2.1 u.2.2.1 u.2.2.2.1 u.2.2.2.2.1 u.2.2.2.2.2.1 u.2.2.2.2.2.2.1 u.2.2.2.2.2.2.2.1 u.2.2.2.2.2.2.2.2.1 u.2.2.2.2.2.2.2.2.2.1 u.2.2.2.2.2.2.2.2.2.2.1 u.2.2.2.2.2.2.2.2.2.2.2.1 u.2.2.2.2.2.2.2.2.2.2.2.2.1 u.2.2.2.2.2.2.2.2.2.2.2.2.2.1 u.2.2.2.2.2.2.2.2.2.2.2.2.2.2.1 u.2.2.2.2.2.2.2.2.2.2.2.2.2.2.2.1 l_made l_sort l_digits l_slots l_pages l_highest u.2.2.2.2.2.2.2.2.2.2.2.2.2.2.2.2.1 u.2.2.2.2.2.2.2.2.2.2.2.2.2.2.2.2.2.1 l_rows u.2.2.2.2.2.2.2.2.2.2.2.2.2.2.2.2.2.2)))) A) args s 0 0 A) 0 0 (mw ad 94 (ctT cI cJ cL cS ad active rests writers tbytes tlen dbytes dlen next known rec m_made m_sort m_digits m_slots m_pages m_highest m_units m_kinds m_rows m_marks q_active q_rests q_writers l_made l_sort l_digits l_slots l_pages l_highest l_units l_kinds l_rows l_marks)) 172 [(7, .ref (ad (74 + 5 * j7 + 0))), (10, .int x10)] [.int k0] := by
  unfold blk_X7_poke_172 at hw
  refine w_istore C (fun x11_172 => [(11, .int x11_172), (7, .ref (ad (74 + 5 * j7 + 0))), (10, .int x10)]) dX7_poke_172 (by decide) (fun _ => rfl) (fun x11_172 e_x11_172 => ?_)
  replace hw := hw x11_172 e_x11_172
  refine w_aload C 1 dX7_poke_174 rfl ?_
  refine w_iload C 2 dX7_poke_176 rfl ?_
  refine w_aload C 1 dX7_poke_178 rfl ?_
  refine w_getN C (T1 := TX1) (74 + 5 * j7 + 0) 1 u_X1 n_149 rfl (by decide) (mw_at (by omega) (ct_L0 j7)) rfl dX7_poke_180 ?_
  refine w_iconst C (v := (1 : Int32)) dX7_poke_183 (by decide) ?_
  refine w_icmp_ne C 196 (by decide) dX7_poke_184 (fun c_184 => ?_) (fun c_184 => ?_)
  · replace hw := hw.1 c_184
    refine w_iload C 0 dX7_poke_196 rfl ?_
    refine w_i2l C dX7_poke_198 ?_
    refine w_sub (lv' := []) C [] rfl ?_
    exact wk_X7_poke_199 C (by assumption)  hw
  · replace hw := hw.2 c_184
    refine w_bipush C (v := (16 : Int32)) dX7_poke_187 (by decide) ?_
    refine w_iload C 0 dX7_poke_189 rfl ?_
    refine w_imul C dX7_poke_191 ?_
    refine w_i2l C dX7_poke_192 ?_
    refine w_goto C 199 (by decide) dX7_poke_193 ?_
    refine w_sub (lv' := []) C [] rfl ?_
    exact wk_X7_poke_199 C (by assumption)  hw
set_option maxHeartbeats 4000000 in
set_option maxRecDepth 100000 in
theorem wk_X7_poke_149 {p : Program} {l : Launch} {e : Env} {s : State} {m : MethodId} {args : Array Value} {below : List Frame} {meth : Method} {c : Code} {D : va_G} {cB cI cJ cL cS : ClassId} {T : Nat × Nat × Nat × Nat} {A : Nat → Prop} {ad : Nat → Nat} {active : Int32} {rests : Int32} {writers : Nat → Int32} {tbytes : Nat → Int32} {tlen : Int32} {dbytes : Nat → Int32} {dlen : Int32} {l_made : Nat → Int32} {l_sort : Nat → Int32} {l_digits : Nat → Int32} {l_slots : Nat → Int32} {l_pages : Nat → Int32} {l_highest : Nat → Int64} {l_rows : Nat → Nat → Int32} {Q : Int32 → Int32 → Int32 → (Nat → Int32) → (Nat → Int32) → (Nat → Int32) → (Nat → Int32) → (Nat → Int32) → (Nat → Int32) → (Nat → Int64) → (Nat → Nat → Int64) → (Nat → Nat → Int32) → (Nat → Nat → Int32) → (Nat → Nat → Int32) → (Nat → Int32) → (Nat → Int32) → (Nat → Nat → Int32) → (Nat → Nat → Int64) → (Nat → Nat → Int32) → (Nat → Nat → Int32) → Prop} (C : Cq p s m args meth c D (Z5 cB cI cJ cL cS) T A cX7_poke RX7 12 (Option.some Jvm.ClassFile.FieldType.int)) {js0 : Nat} {k1 : Int32} {k2 : Int32} {next : Int32} {known : Int32} {rec : Nat → Int32} {m_made : Nat → Int32} {m_sort : Nat → Int32} {m_digits : Nat → Int32} {m_slots : Nat → Int32} {m_pages : Nat → Int32} {m_highest : Nat → Int64} {m_units : Nat → Nat → Int64} {m_kinds : Nat → Nat → Int32} {m_rows : Nat → Nat → Int32} {m_marks : Nat → Nat → Int32} {q_active : Nat → Int32} {q_rests : Nat → Int32} {q_writers : Nat → Nat → Int32} {l_units : Nat → Nat → Int64} {l_kinds : Nat → Nat → Int32} {l_marks : Nat → Nat → Int32} (hjs0 : js0 < 4)  (hw : blk_X7_poke_149 active rests writers l_made l_sort l_digits l_slots l_pages l_highest l_rows  Q js0 k1 k2 next known rec m_made m_sort m_digits m_slots m_pages m_highest m_units m_kinds m_rows m_marks q_active q_rests q_writers l_units l_kinds l_marks) : ww p l e ({ frames := 4, cells := 0, slots := 0, locals := 106 } : Room) s m args below meth c D A 12 (MQ below (va_Qi (fun (r : Int32) (u : Int32 × Int32 × (Nat → Int32) × (Nat → Int32) × (Nat → Int32) × (Nat → Int32) × (Nat → Int32) × (Nat → Int32) × (Nat → Int64) × (Nat → Nat → Int64) × (Nat → Nat → Int32) × (Nat → Nat → Int32) × (Nat → Nat → Int32) × (Nat → Int32) × (Nat → Int32) × (Nat → Nat → Int32) × (Nat → Nat → Int64) × (Nat → Nat → Int32) × (Nat → Nat → Int32)) => Q r u.1 u.2.1 u.2.2.1 u.2.2.2.1 u.2.2.2.2.1 u.2.2.2.2.2.1 u.2.2.2.2.2.2.1 u.2.2.2.2.2.2.2.1 u.2.2.2.2.2.2.2.2.1 u.2.2.2.2.2.2.2.2.2.1 u.2.2.2.2.2.2.2.2.2.2.1 u.2.2.2.2.2.2.2.2.2.2.2.1 u.2.2.2.2.2.2.2.2.2.2.2.2.1 u.2.2.2.2.2.2.2.2.2.2.2.2.2.1 u.2.2.2.2.2.2.2.2.2.2.2.2.2.2.1 u.2.2.2.2.2.2.2.2.2.2.2.2.2.2.2.1 u.2.2.2.2.2.2.2.2.2.2.2.2.2.2.2.2.1 u.2.2.2.2.2.2.2.2.2.2.2.2.2.2.2.2.2.1 u.2.2.2.2.2.2.2.2.2.2.2.2.2.2.2.2.2.2) (OutP D (fun (u : Int32 × Int32 × (Nat → Int32) × (Nat → Int32) × (Nat → Int32) × (Nat → Int32) × (Nat → Int32) × (Nat → Int32) × (Nat → Int64) × (Nat → Nat → Int64) × (Nat → Nat → Int32) × (Nat → Nat → Int32) × (Nat → Nat → Int32) × (Nat → Int32) × (Nat → Int32) × (Nat → Nat → Int32) × (Nat → Nat → Int64) × (Nat → Nat → Int32) × (Nat → Nat → Int32)) => (mw ad 94 (ctT cI cJ cL cS ad active rests writers tbytes tlen dbytes dlen u.1 u.2.1 u.2.2.1 u.2.2.2.1 u.2.2.2.2.1 u.2.2.2.2.2.1 u.2.2.2.2.2.2.1 u.2.2.2.2.2.2.2.1 u.2.2.2.2.2.2.2.2.1 u.2.2.2.2.2.2.2.2.2.1 u.2.2.2.2.2.2.2.2.2.2.1 u.2.2.2.2.2.2.2.2.2.2.2.1 u.2.2.2.2.2.2.2.2.2.2.2.2.1 u.2.2.2.2.2.2.2.2.2.2.2.2.2.1 u.2.2.2.2.2.2.2.2.2.2.2.2.2.2.1 u.2.2.2.2.2.2.2.2.2.2.2.2.2.2.2.1 l_made l_sort l_digits l_slots l_pages l_highest u.2.2.2.2.2.2.2.2.2.2.2.2.2.2.2.2.1 u.2.2.2.2.2.2.2.2.2.2.2.2.2.2.2.2.2.1 l_rows u.2.2.2.2.2.2.2.2.2.2.2.2.2.2.2.2.2.2)))) A) args s 0 0 A) 0 0 (mw ad 94 (ctT cI cJ cL cS ad active rests writers tbytes tlen dbytes dlen next known rec m_made m_sort m_digits m_slots m_pages m_highest m_units m_kinds m_rows m_marks q_active q_rests q_writers l_made l_sort l_digits l_slots l_pages l_highest l_units l_kinds l_rows l_marks)) 149 [] [.int k2, .int k1, .ref (ad (74 + 5 * js0 + 0))] := by
  unfold blk_X7_poke_149 at hw
  refine w_callXV C (c_X1_putMark (a := fun i => ad (74 + 5 * js0 + i)) hw) f_X1_putMark k_736 k_734 rfl ⟨Nat.le_of_ble_eq_true rfl, Nat.le_of_ble_eq_true rfl⟩ rfl rfl ⟨Nat.le_of_ble_eq_true rfl, Nat.le_of_ble_eq_true rfl⟩ 0 rfl (rr := (RX1, TX1, 10)) rfl rfl (ad := ad) (N := 94) ((plL js0)) (wc_L (cB := cB) js0) (lt_L (by assumption)) nd_L (fun (u : (Nat → Int32)) => (ctT cI cJ cL cS ad active rests writers tbytes tlen dbytes dlen next known rec m_made m_sort m_digits m_slots m_pages m_highest m_units m_kinds m_rows m_marks q_active q_rests q_writers l_made l_sort l_digits l_slots l_pages l_highest l_units l_kinds l_rows (va_up l_marks js0 u))) (fun _ => (wc_L (cB := cB) js0).trans (by first | (simp only [va_up_self]; done) | rfl)) (fun _ n _ hn => rest_L (fun _ _ => rfl) (fun _ _ => rfl) (fun _ _ => rfl) (fun _ _ => rfl) (fun _ _ => rfl) (fun _ _ => rfl) (fun _ _ => rfl) (fun _ _ => rfl) (fun _ _ => rfl) (fun _ h => va_up_ne _ _ h) n hn) rfl (Nat.le_of_ble_eq_true rfl) dX7_poke_149 (fun u_149 hw => ?_)
  obtain ⟨l_marks_149, rfl⟩ : ∃ z, z = u_149 := ⟨_, rfl⟩
  try dsimp only at hw
  refine w_goto C 202 (by decide) dX7_poke_152 ?_
  refine w_iconst C (v := (0 : Int32)) dX7_poke_202 (by decide) ?_
  exact w_iret C (next, known, rec, m_made, m_sort, m_digits, m_slots, m_pages, m_highest, m_units, m_kinds, m_rows, m_marks, q_active, q_rests, q_writers, l_units, l_kinds, (va_up l_marks js0 l_marks_149)) hw rfl (Nat.le_of_ble_eq_true rfl) (Nat.le_of_ble_eq_true rfl) dX7_poke_203
set_option maxHeartbeats 4000000 in
set_option maxRecDepth 100000 in
theorem wk_X7_poke_96 {p : Program} {l : Launch} {e : Env} {s : State} {m : MethodId} {args : Array Value} {below : List Frame} {meth : Method} {c : Code} {D : va_G} {cB cI cJ cL cS : ClassId} {T : Nat × Nat × Nat × Nat} {A : Nat → Prop} {ad : Nat → Nat} {active : Int32} {rests : Int32} {writers : Nat → Int32} {tbytes : Nat → Int32} {tlen : Int32} {dbytes : Nat → Int32} {dlen : Int32} {l_made : Nat → Int32} {l_sort : Nat → Int32} {l_digits : Nat → Int32} {l_slots : Nat → Int32} {l_pages : Nat → Int32} {l_highest : Nat → Int64} {l_rows : Nat → Nat → Int32} {Q : Int32 → Int32 → Int32 → (Nat → Int32) → (Nat → Int32) → (Nat → Int32) → (Nat → Int32) → (Nat → Int32) → (Nat → Int32) → (Nat → Int64) → (Nat → Nat → Int64) → (Nat → Nat → Int32) → (Nat → Nat → Int32) → (Nat → Nat → Int32) → (Nat → Int32) → (Nat → Int32) → (Nat → Nat → Int32) → (Nat → Nat → Int64) → (Nat → Nat → Int32) → (Nat → Nat → Int32) → Prop} (C : Cq p s m args meth c D (Z5 cB cI cJ cL cS) T A cX7_poke RX7 12 (Option.some Jvm.ClassFile.FieldType.int)) {j7 : Nat} {x1 : Int32} {x2 : Int32} {x3 : Int32} {x4 : Int32} {x6 : Int32} {x8 : Int32} {k1 : Int32} {next : Int32} {known : Int32} {rec : Nat → Int32} {m_made : Nat → Int32} {m_sort : Nat → Int32} {m_digits : Nat → Int32} {m_slots : Nat → Int32} {m_pages : Nat → Int32} {m_highest : Nat → Int64} {m_units : Nat → Nat → Int64} {m_kinds : Nat → Nat → Int32} {m_rows : Nat → Nat → Int32} {m_marks : Nat → Nat → Int32} {q_active : Nat → Int32} {q_rests : Nat → Int32} {q_writers : Nat → Nat → Int32} {l_units : Nat → Nat → Int64} {l_kinds : Nat → Nat → Int32} {l_marks : Nat → Nat → Int32} (hj7 : j7 < 4)  (hw : blk_X7_poke_96 active rests writers l_made l_sort l_digits l_slots l_pages l_highest l_rows  Q j7 x1 x2 x3 x4 x6 x8 k1 next known rec m_made m_sort m_digits m_slots m_pages m_highest m_units m_kinds m_rows m_marks q_active q_rests q_writers l_units l_kinds l_marks) : ww p l e ({ frames := 4, cells := 0, slots := 0, locals := 106 } : Room) s m args below meth c D A 12 (MQ below (va_Qi (fun (r : Int32) (u : Int32 × Int32 × (Nat → Int32) × (Nat → Int32) × (Nat → Int32) × (Nat → Int32) × (Nat → Int32) × (Nat → Int32) × (Nat → Int64) × (Nat → Nat → Int64) × (Nat → Nat → Int32) × (Nat → Nat → Int32) × (Nat → Nat → Int32) × (Nat → Int32) × (Nat → Int32) × (Nat → Nat → Int32) × (Nat → Nat → Int64) × (Nat → Nat → Int32) × (Nat → Nat → Int32)) => Q r u.1 u.2.1 u.2.2.1 u.2.2.2.1 u.2.2.2.2.1 u.2.2.2.2.2.1 u.2.2.2.2.2.2.1 u.2.2.2.2.2.2.2.1 u.2.2.2.2.2.2.2.2.1 u.2.2.2.2.2.2.2.2.2.1 u.2.2.2.2.2.2.2.2.2.2.1 u.2.2.2.2.2.2.2.2.2.2.2.1 u.2.2.2.2.2.2.2.2.2.2.2.2.1 u.2.2.2.2.2.2.2.2.2.2.2.2.2.1 u.2.2.2.2.2.2.2.2.2.2.2.2.2.2.1 u.2.2.2.2.2.2.2.2.2.2.2.2.2.2.2.1 u.2.2.2.2.2.2.2.2.2.2.2.2.2.2.2.2.1 u.2.2.2.2.2.2.2.2.2.2.2.2.2.2.2.2.2.1 u.2.2.2.2.2.2.2.2.2.2.2.2.2.2.2.2.2.2) (OutP D (fun (u : Int32 × Int32 × (Nat → Int32) × (Nat → Int32) × (Nat → Int32) × (Nat → Int32) × (Nat → Int32) × (Nat → Int32) × (Nat → Int64) × (Nat → Nat → Int64) × (Nat → Nat → Int32) × (Nat → Nat → Int32) × (Nat → Nat → Int32) × (Nat → Int32) × (Nat → Int32) × (Nat → Nat → Int32) × (Nat → Nat → Int64) × (Nat → Nat → Int32) × (Nat → Nat → Int32)) => (mw ad 94 (ctT cI cJ cL cS ad active rests writers tbytes tlen dbytes dlen u.1 u.2.1 u.2.2.1 u.2.2.2.1 u.2.2.2.2.1 u.2.2.2.2.2.1 u.2.2.2.2.2.2.1 u.2.2.2.2.2.2.2.1 u.2.2.2.2.2.2.2.2.1 u.2.2.2.2.2.2.2.2.2.1 u.2.2.2.2.2.2.2.2.2.2.1 u.2.2.2.2.2.2.2.2.2.2.2.1 u.2.2.2.2.2.2.2.2.2.2.2.2.1 u.2.2.2.2.2.2.2.2.2.2.2.2.2.1 u.2.2.2.2.2.2.2.2.2.2.2.2.2.2.1 u.2.2.2.2.2.2.2.2.2.2.2.2.2.2.2.1 l_made l_sort l_digits l_slots l_pages l_highest u.2.2.2.2.2.2.2.2.2.2.2.2.2.2.2.2.1 u.2.2.2.2.2.2.2.2.2.2.2.2.2.2.2.2.2.1 l_rows u.2.2.2.2.2.2.2.2.2.2.2.2.2.2.2.2.2.2)))) A) args s 0 0 A) 0 0 (mw ad 94 (ctT cI cJ cL cS ad active rests writers tbytes tlen dbytes dlen next known rec m_made m_sort m_digits m_slots m_pages m_highest m_units m_kinds m_rows m_marks q_active q_rests q_writers l_made l_sort l_digits l_slots l_pages l_highest l_units l_kinds l_rows l_marks)) 96 [(0, .ref (ad 0)), (1, .int x1), (2, .int x2), (3, .int x3), (4, .int x4), (6, .int x6), (7, .ref (ad (74 + 5 * j7 + 0))), (8, .int x8)] [.int k1, .ref T.2.2.2] := by
  unfold blk_X7_poke_96 at hw
  refine w_iload C 4 dX7_poke_96 rfl ?_
  refine w_iload C 7 dX7_poke_98 rfl ?_
  refine w_callSI C (c_X7_refusal_TAKES hw) f_X7_refusal k_703 rfl ⟨Nat.le_of_ble_eq_true rfl, Nat.le_of_ble_eq_true rfl⟩ rfl rfl ⟨Nat.le_of_ble_eq_true rfl, Nat.le_of_ble_eq_true rfl⟩ rfl (Nat.le_of_ble_eq_true rfl) dX7_poke_100 (fun r_100 u_100 hw => ?_)
  try dsimp only at hw
  refine w_istore C (fun x9_103 => [(9, .int x9_103), (0, .ref (ad 0)), (1, .int x1), (2, .int x2), (3, .int x3), (4, .int x4), (6, .int x6), (7, .ref (ad (74 + 5 * j7 + 0))), (8, .int x8)]) dX7_poke_103 (by decide) (fun _ => rfl) (fun x9_103 e_x9_103 => ?_)
  replace hw := hw x9_103 e_x9_103
  refine w_iload C 0 dX7_poke_105 rfl ?_
  refine w_if_eq C 113 (by decide) dX7_poke_107 (fun c_107 => ?_) (fun c_107 => ?_)
  · replace hw := hw.1 c_107
    refine w_aload_n C 1 dX7_poke_113 rfl ?_
    refine w_iload_n C 2 dX7_poke_114 rfl ?_
    refine w_callVV C (c_X7_remember (ad := ad) hw) f_X7_remember k_8 k_386 rfl ⟨Nat.le_of_ble_eq_true rfl, Nat.le_of_ble_eq_true rfl⟩ rfl rfl ⟨Nat.le_of_ble_eq_true rfl, Nat.le_of_ble_eq_true rfl⟩ 0 (mw_at (by decide) rfl) (rr := (RX7, TX7, 5)) rfl rfl (fun _ => mw_addr) rfl (Nat.le_of_ble_eq_true rfl) dX7_poke_115 (fun u_115 hw => ?_)
    obtain ⟨next_115, known_115, rec_115, m_made_115, m_sort_115, m_digits_115, m_slots_115, m_pages_115, m_highest_115, m_units_115, m_kinds_115, m_rows_115, m_marks_115, q_active_115, q_rests_115, q_writers_115⟩ := u_115
    try dsimp only at hw
    refine w_bipush C (v := (16 : Int32)) dX7_poke_118 (by decide) ?_
    refine w_iload_n C 4 dX7_poke_120 rfl ?_
    refine w_imul C dX7_poke_121 ?_
    refine w_iload C 5 dX7_poke_122 rfl ?_
    refine w_iadd C dX7_poke_124 ?_
    refine w_istore C (fun x10_125 => [(10, .int x10_125), (9, .int x9_103), (0, .ref (ad 0)), (1, .int x1), (2, .int x2), (3, .int x3), (4, .int x4), (6, .int x6), (7, .ref (ad (74 + 5 * j7 + 0))), (8, .int x8)]) dX7_poke_125 (by decide) (fun _ => rfl) (fun x10_125 e_x10_125 => ?_)
    replace hw := hw x10_125 e_x10_125
    refine w_iload_n C 4 dX7_poke_127 rfl ?_
    refine w_iconst C (v := (1 : Int32)) dX7_poke_128 (by decide) ?_
    refine w_icmp_ne C 155 (by decide) dX7_poke_129 (fun c_129 => ?_) (fun c_129 => ?_)
    · replace hw := hw.1 c_129
      refine w_iload C 9 dX7_poke_155 rfl ?_
      refine w_iconst C (v := (1 : Int32)) dX7_poke_157 (by decide) ?_
      refine w_icmp_ne C 170 (by decide) dX7_poke_158 (fun c_158 => ?_) (fun c_158 => ?_)
      · replace hw := hw.1 c_158
        refine w_iload C 7 dX7_poke_170 rfl ?_
        refine w_sub (lv' := [(7, .ref (ad (74 + 5 * j7 + 0))), (10, .int x10_125)]) C [8, 0] rfl ?_
        exact wk_X7_poke_172 C (by assumption)  hw
      · replace hw := hw.2 c_158
        refine w_iload C 7 dX7_poke_161 rfl ?_
        refine w_iconst C (v := (1 : Int32)) dX7_poke_163 (by decide) ?_
        refine w_imin C k_738 f_imin.1 f_imin.2.1 f_imin.2.2 (Nat.le_of_ble_eq_true rfl) (Nat.le_of_ble_eq_true rfl) (Nat.le_of_ble_eq_true rfl) (Nat.le_of_ble_eq_true rfl) dX7_poke_164 ?_
        refine w_goto C 172 (by decide) dX7_poke_167 ?_
        refine w_sub (lv' := [(7, .ref (ad (74 + 5 * j7 + 0))), (10, .int x10_125)]) C [8, 0] rfl ?_
        exact wk_X7_poke_172 C (by assumption)  hw
    · replace hw := hw.2 c_129
      refine w_aload C 8 dX7_poke_132 rfl ?_
      refine w_iload C 0 dX7_poke_134 rfl ?_
      refine w_iload C 9 dX7_poke_136 rfl ?_
      refine w_bipush C (v := (19 : Int32)) dX7_poke_138 (by decide) ?_
      refine w_icmp_ne C 147 (by decide) dX7_poke_140 (fun c_140 => ?_) (fun c_140 => ?_)
      · replace hw := hw.1 c_140
        refine w_iload C 7 dX7_poke_147 rfl ?_
        refine w_sub (lv' := []) C [] rfl ?_
        exact wk_X7_poke_149 C (by assumption)  hw
      · replace hw := hw.2 c_140
        refine w_iconst C (v := (-1 : Int32)) dX7_poke_143 (by decide) ?_
        refine w_goto C 149 (by decide) dX7_poke_144 ?_
        refine w_sub (lv' := []) C [] rfl ?_
        exact wk_X7_poke_149 C (by assumption)  hw
  · replace hw := hw.2 c_107
    refine w_iload C 0 dX7_poke_110 rfl ?_
    exact w_iret C (next, known, rec, m_made, m_sort, m_digits, m_slots, m_pages, m_highest, m_units, m_kinds, m_rows, m_marks, q_active, q_rests, q_writers, l_units, l_kinds, l_marks) hw rfl (Nat.le_of_ble_eq_true rfl) (Nat.le_of_ble_eq_true rfl) dX7_poke_112
set_option maxHeartbeats 4000000 in
set_option maxRecDepth 100000 in
theorem wk_X7_poke_72 {p : Program} {l : Launch} {e : Env} {s : State} {m : MethodId} {args : Array Value} {below : List Frame} {meth : Method} {c : Code} {D : va_G} {cB cI cJ cL cS : ClassId} {T : Nat × Nat × Nat × Nat} {A : Nat → Prop} {ad : Nat → Nat} {active : Int32} {rests : Int32} {writers : Nat → Int32} {tbytes : Nat → Int32} {tlen : Int32} {dbytes : Nat → Int32} {dlen : Int32} {l_made : Nat → Int32} {l_sort : Nat → Int32} {l_digits : Nat → Int32} {l_slots : Nat → Int32} {l_pages : Nat → Int32} {l_highest : Nat → Int64} {l_rows : Nat → Nat → Int32} {Q : Int32 → Int32 → Int32 → (Nat → Int32) → (Nat → Int32) → (Nat → Int32) → (Nat → Int32) → (Nat → Int32) → (Nat → Int32) → (Nat → Int64) → (Nat → Nat → Int64) → (Nat → Nat → Int32) → (Nat → Nat → Int32) → (Nat → Nat → Int32) → (Nat → Int32) → (Nat → Int32) → (Nat → Nat → Int32) → (Nat → Nat → Int64) → (Nat → Nat → Int32) → (Nat → Nat → Int32) → Prop} (C : Cq p s m args meth c D (Z5 cB cI cJ cL cS) T A cX7_poke RX7 12 (Option.some Jvm.ClassFile.FieldType.int)) {j7 : Nat} {x1 : Int32} {x2 : Int32} {x3 : Int32} {x4 : Int32} {x6 : Int32} {k0 : Int32} {next : Int32} {known : Int32} {rec : Nat → Int32} {m_made : Nat → Int32} {m_sort : Nat → Int32} {m_digits : Nat → Int32} {m_slots : Nat → Int32} {m_pages : Nat → Int32} {m_highest : Nat → Int64} {m_units : Nat → Nat → Int64} {m_kinds : Nat → Nat → Int32} {m_rows : Nat → Nat → Int32} {m_marks : Nat → Nat → Int32} {q_active : Nat → Int32} {q_rests : Nat → Int32} {q_writers : Nat → Nat → Int32} {l_units : Nat → Nat → Int64} {l_kinds : Nat → Nat → Int32} {l_marks : Nat → Nat → Int32} (hj7 : j7 < 4)  (hw : blk_X7_poke_72 active rests writers l_made l_sort l_digits l_slots l_pages l_highest l_rows  Q j7 x1 x2 x3 x4 x6 k0 next known rec m_made m_sort m_digits m_slots m_pages m_highest m_units m_kinds m_rows m_marks q_active q_rests q_writers l_units l_kinds l_marks) : ww p l e ({ frames := 4, cells := 0, slots := 0, locals := 106 } : Room) s m args below meth c D A 12 (MQ below (va_Qi (fun (r : Int32) (u : Int32 × Int32 × (Nat → Int32) × (Nat → Int32) × (Nat → Int32) × (Nat → Int32) × (Nat → Int32) × (Nat → Int32) × (Nat → Int64) × (Nat → Nat → Int64) × (Nat → Nat → Int32) × (Nat → Nat → Int32) × (Nat → Nat → Int32) × (Nat → Int32) × (Nat → Int32) × (Nat → Nat → Int32) × (Nat → Nat → Int64) × (Nat → Nat → Int32) × (Nat → Nat → Int32)) => Q r u.1 u.2.1 u.2.2.1 u.2.2.2.1 u.2.2.2.2.1 u.2.2.2.2.2.1 u.2.2.2.2.2.2.1 u.2.2.2.2.2.2.2.1 u.2.2.2.2.2.2.2.2.1 u.2.2.2.2.2.2.2.2.2.1 u.2.2.2.2.2.2.2.2.2.2.1 u.2.2.2.2.2.2.2.2.2.2.2.1 u.2.2.2.2.2.2.2.2.2.2.2.2.1 u.2.2.2.2.2.2.2.2.2.2.2.2.2.1 u.2.2.2.2.2.2.2.2.2.2.2.2.2.2.1 u.2.2.2.2.2.2.2.2.2.2.2.2.2.2.2.1 u.2.2.2.2.2.2.2.2.2.2.2.2.2.2.2.2.1 u.2.2.2.2.2.2.2.2.2.2.2.2.2.2.2.2.2.1 u.2.2.2.2.2.2.2.2.2.2.2.2.2.2.2.2.2.2) (OutP D (fun (u : Int32 × Int32 × (Nat → Int32) × (Nat → Int32) × (Nat → Int32) × (Nat → Int32) × (Nat → Int32) × (Nat → Int32) × (Nat → Int64) × (Nat → Nat → Int64) × (Nat → Nat → Int32) × (Nat → Nat → Int32) × (Nat → Nat → Int32) × (Nat → Int32) × (Nat → Int32) × (Nat → Nat → Int32) × (Nat → Nat → Int64) × (Nat → Nat → Int32) × (Nat → Nat → Int32)) => (mw ad 94 (ctT cI cJ cL cS ad active rests writers tbytes tlen dbytes dlen u.1 u.2.1 u.2.2.1 u.2.2.2.1 u.2.2.2.2.1 u.2.2.2.2.2.1 u.2.2.2.2.2.2.1 u.2.2.2.2.2.2.2.1 u.2.2.2.2.2.2.2.2.1 u.2.2.2.2.2.2.2.2.2.1 u.2.2.2.2.2.2.2.2.2.2.1 u.2.2.2.2.2.2.2.2.2.2.2.1 u.2.2.2.2.2.2.2.2.2.2.2.2.1 u.2.2.2.2.2.2.2.2.2.2.2.2.2.1 u.2.2.2.2.2.2.2.2.2.2.2.2.2.2.1 u.2.2.2.2.2.2.2.2.2.2.2.2.2.2.2.1 l_made l_sort l_digits l_slots l_pages l_highest u.2.2.2.2.2.2.2.2.2.2.2.2.2.2.2.2.1 u.2.2.2.2.2.2.2.2.2.2.2.2.2.2.2.2.2.1 l_rows u.2.2.2.2.2.2.2.2.2.2.2.2.2.2.2.2.2.2)))) A) args s 0 0 A) 0 0 (mw ad 94 (ctT cI cJ cL cS ad active rests writers tbytes tlen dbytes dlen next known rec m_made m_sort m_digits m_slots m_pages m_highest m_units m_kinds m_rows m_marks q_active q_rests q_writers l_made l_sort l_digits l_slots l_pages l_highest l_units l_kinds l_rows l_marks)) 72 [(0, .ref (ad 0)), (1, .int x1), (2, .int x2), (3, .int x3), (4, .int x4), (6, .int x6), (7, .ref (ad (74 + 5 * j7 + 0)))] [.int k0] := by
  unfold blk_X7_poke_72 at hw
  refine w_istore C (fun x8_72 => [(8, .int x8_72), (0, .ref (ad 0)), (1, .int x1), (2, .int x2), (3, .int x3), (4, .int x4), (6, .int x6), (7, .ref (ad (74 + 5 * j7 + 0)))]) dX7_poke_72 (by decide) (fun _ => rfl) (fun x8_72 e_x8_72 => ?_)
  replace hw := hw x8_72 e_x8_72
  refine w_gets_TAKES C k_732 dX7_poke_74 ?_
  refine w_iload_n C 3 dX7_poke_77 rfl ?_
  refine w_if_ne C 90 (by decide) dX7_poke_78 (fun c_78 => ?_) (fun c_78 => ?_)
  · replace hw := hw.1 c_78
    refine w_aload C 7 dX7_poke_90 rfl ?_
    refine w_iload_n C 4 dX7_poke_92 rfl ?_
    refine w_callXI C (c_X1_rowOf (a := fun i => ad (74 + 5 * j7 + i)) hw) f_X1_rowOf k_699 k_697 rfl ⟨Nat.le_of_ble_eq_true rfl, Nat.le_of_ble_eq_true rfl⟩ rfl rfl ⟨Nat.le_of_ble_eq_true rfl, Nat.le_of_ble_eq_true rfl⟩ 0 rfl (rr := (RX1, TX1, 10)) rfl rfl (ad := ad) (N := 94) ((plL j7)) (wc_L (cB := cB) j7) (lt_L (by assumption)) nd_L (fun (u : Unit) => (ctT cI cJ cL cS ad active rests writers tbytes tlen dbytes dlen next known rec m_made m_sort m_digits m_slots m_pages m_highest m_units m_kinds m_rows m_marks q_active q_rests q_writers l_made l_sort l_digits l_slots l_pages l_highest l_units l_kinds l_rows l_marks)) (fun _ => (wc_L (cB := cB) j7).trans (by first | (simp only [va_up_self]; done) | rfl)) (fun _ _ _ _ => rfl) rfl (Nat.le_of_ble_eq_true rfl) dX7_poke_93 (fun r_93 u_93 hw => ?_)
    try dsimp only at hw
    refine w_sub (lv' := [(0, .ref (ad 0)), (1, .int x1), (2, .int x2), (3, .int x3), (4, .int x4), (6, .int x6), (7, .ref (ad (74 + 5 * j7 + 0))), (8, .int x8_72)]) C [1, 2, 3, 4, 5, 6, 7, 0] rfl ?_
    exact wk_X7_poke_96 C (by assumption)  hw
  · replace hw := hw.2 c_78
    refine w_aload C 7 dX7_poke_81 rfl ?_
    refine w_iload_n C 4 dX7_poke_83 rfl ?_
    refine w_callXI C (c_X1_kindOf (a := fun i => ad (74 + 5 * j7 + i)) hw) f_X1_kindOf k_283 k_681 rfl ⟨Nat.le_of_ble_eq_true rfl, Nat.le_of_ble_eq_true rfl⟩ rfl rfl ⟨Nat.le_of_ble_eq_true rfl, Nat.le_of_ble_eq_true rfl⟩ 0 rfl (rr := (RX1, TX1, 10)) rfl rfl (ad := ad) (N := 94) ((plL j7)) (wc_L (cB := cB) j7) (lt_L (by assumption)) nd_L (fun (u : Unit) => (ctT cI cJ cL cS ad active rests writers tbytes tlen dbytes dlen next known rec m_made m_sort m_digits m_slots m_pages m_highest m_units m_kinds m_rows m_marks q_active q_rests q_writers l_made l_sort l_digits l_slots l_pages l_highest l_units l_kinds l_rows l_marks)) (fun _ => (wc_L (cB := cB) j7).trans (by first | (simp only [va_up_self]; done) | rfl)) (fun _ _ _ _ => rfl) rfl (Nat.le_of_ble_eq_true rfl) dX7_poke_84 (fun r_84 u_84 hw => ?_)
    try dsimp only at hw
    refine w_goto C 96 (by decide) dX7_poke_87 ?_
    refine w_sub (lv' := [(0, .ref (ad 0)), (1, .int x1), (2, .int x2), (3, .int x3), (4, .int x4), (6, .int x6), (7, .ref (ad (74 + 5 * j7 + 0))), (8, .int x8_72)]) C [1, 2, 3, 4, 5, 6, 7, 0] rfl ?_
    exact wk_X7_poke_96 C (by assumption)  hw
set_option maxHeartbeats 4000000 in
set_option maxRecDepth 100000 in
theorem wk_X7_poke_70 {p : Program} {l : Launch} {e : Env} {s : State} {m : MethodId} {args : Array Value} {below : List Frame} {meth : Method} {c : Code} {D : va_G} {cB cI cJ cL cS : ClassId} {T : Nat × Nat × Nat × Nat} {A : Nat → Prop} {ad : Nat → Nat} {active : Int32} {rests : Int32} {writers : Nat → Int32} {tbytes : Nat → Int32} {tlen : Int32} {dbytes : Nat → Int32} {dlen : Int32} {l_made : Nat → Int32} {l_sort : Nat → Int32} {l_digits : Nat → Int32} {l_slots : Nat → Int32} {l_pages : Nat → Int32} {l_highest : Nat → Int64} {l_rows : Nat → Nat → Int32} {Q : Int32 → Int32 → Int32 → (Nat → Int32) → (Nat → Int32) → (Nat → Int32) → (Nat → Int32) → (Nat → Int32) → (Nat → Int32) → (Nat → Int64) → (Nat → Nat → Int64) → (Nat → Nat → Int32) → (Nat → Nat → Int32) → (Nat → Nat → Int32) → (Nat → Int32) → (Nat → Int32) → (Nat → Nat → Int32) → (Nat → Nat → Int64) → (Nat → Nat → Int32) → (Nat → Nat → Int32) → Prop} (C : Cq p s m args meth c D (Z5 cB cI cJ cL cS) T A cX7_poke RX7 12 (Option.some Jvm.ClassFile.FieldType.int)) {j7 : Nat} {x1 : Int32} {x2 : Int32} {x3 : Int32} {x4 : Int32} {x5 : Int32} {x6 : Int32} {next : Int32} {known : Int32} {rec : Nat → Int32} {m_made : Nat → Int32} {m_sort : Nat → Int32} {m_digits : Nat → Int32} {m_slots : Nat → Int32} {m_pages : Nat → Int32} {m_highest : Nat → Int64} {m_units : Nat → Nat → Int64} {m_kinds : Nat → Nat → Int32} {m_rows : Nat → Nat → Int32} {m_marks : Nat → Nat → Int32} {q_active : Nat → Int32} {q_rests : Nat → Int32} {q_writers : Nat → Nat → Int32} {l_units : Nat → Nat → Int64} {l_kinds : Nat → Nat → Int32} {l_marks : Nat → Nat → Int32} (hj7 : j7 < 4)  (hw : blk_X7_poke_70 active rests writers l_made l_sort l_digits l_slots l_pages l_highest l_rows  Q j7 x1 x2 x3 x4 x5 x6 next known rec m_made m_sort m_digits m_slots m_pages m_highest m_units m_kinds m_rows m_marks q_active q_rests q_writers l_units l_kinds l_marks) : ww p l e ({ frames := 4, cells := 0, slots := 0, locals := 106 } : Room) s m args below meth c D A 12 (MQ below (va_Qi (fun (r : Int32) (u : Int32 × Int32 × (Nat → Int32) × (Nat → Int32) × (Nat → Int32) × (Nat → Int32) × (Nat → Int32) × (Nat → Int32) × (Nat → Int64) × (Nat → Nat → Int64) × (Nat → Nat → Int32) × (Nat → Nat → Int32) × (Nat → Nat → Int32) × (Nat → Int32) × (Nat → Int32) × (Nat → Nat → Int32) × (Nat → Nat → Int64) × (Nat → Nat → Int32) × (Nat → Nat → Int32)) => Q r u.1 u.2.1 u.2.2.1 u.2.2.2.1 u.2.2.2.2.1 u.2.2.2.2.2.1 u.2.2.2.2.2.2.1 u.2.2.2.2.2.2.2.1 u.2.2.2.2.2.2.2.2.1 u.2.2.2.2.2.2.2.2.2.1 u.2.2.2.2.2.2.2.2.2.2.1 u.2.2.2.2.2.2.2.2.2.2.2.1 u.2.2.2.2.2.2.2.2.2.2.2.2.1 u.2.2.2.2.2.2.2.2.2.2.2.2.2.1 u.2.2.2.2.2.2.2.2.2.2.2.2.2.2.1 u.2.2.2.2.2.2.2.2.2.2.2.2.2.2.2.1 u.2.2.2.2.2.2.2.2.2.2.2.2.2.2.2.2.1 u.2.2.2.2.2.2.2.2.2.2.2.2.2.2.2.2.2.1 u.2.2.2.2.2.2.2.2.2.2.2.2.2.2.2.2.2.2) (OutP D (fun (u : Int32 × Int32 × (Nat → Int32) × (Nat → Int32) × (Nat → Int32) × (Nat → Int32) × (Nat → Int32) × (Nat → Int32) × (Nat → Int64) × (Nat → Nat → Int64) × (Nat → Nat → Int32) × (Nat → Nat → Int32) × (Nat → Nat → Int32) × (Nat → Int32) × (Nat → Int32) × (Nat → Nat → Int32) × (Nat → Nat → Int64) × (Nat → Nat → Int32) × (Nat → Nat → Int32)) => (mw ad 94 (ctT cI cJ cL cS ad active rests writers tbytes tlen dbytes dlen u.1 u.2.1 u.2.2.1 u.2.2.2.1 u.2.2.2.2.1 u.2.2.2.2.2.1 u.2.2.2.2.2.2.1 u.2.2.2.2.2.2.2.1 u.2.2.2.2.2.2.2.2.1 u.2.2.2.2.2.2.2.2.2.1 u.2.2.2.2.2.2.2.2.2.2.1 u.2.2.2.2.2.2.2.2.2.2.2.1 u.2.2.2.2.2.2.2.2.2.2.2.2.1 u.2.2.2.2.2.2.2.2.2.2.2.2.2.1 u.2.2.2.2.2.2.2.2.2.2.2.2.2.2.1 u.2.2.2.2.2.2.2.2.2.2.2.2.2.2.2.1 l_made l_sort l_digits l_slots l_pages l_highest u.2.2.2.2.2.2.2.2.2.2.2.2.2.2.2.2.1 u.2.2.2.2.2.2.2.2.2.2.2.2.2.2.2.2.2.1 l_rows u.2.2.2.2.2.2.2.2.2.2.2.2.2.2.2.2.2.2)))) A) args s 0 0 A) 0 0 (mw ad 94 (ctT cI cJ cL cS ad active rests writers tbytes tlen dbytes dlen next known rec m_made m_sort m_digits m_slots m_pages m_highest m_units m_kinds m_rows m_marks q_active q_rests q_writers l_made l_sort l_digits l_slots l_pages l_highest l_units l_kinds l_rows l_marks)) 70 [(0, .ref (ad 0)), (1, .int x1), (2, .int x2), (3, .int x3), (4, .int x4), (5, .int x5), (6, .int x6), (7, .ref (ad (74 + 5 * j7 + 0)))] [] := by
  unfold blk_X7_poke_70 at hw
  refine w_iload C 5 dX7_poke_70 rfl ?_
  refine w_sub (lv' := [(0, .ref (ad 0)), (1, .int x1), (2, .int x2), (3, .int x3), (4, .int x4), (6, .int x6), (7, .ref (ad (74 + 5 * j7 + 0)))]) C [0, 1, 2, 3, 4, 6, 7] rfl ?_
  exact wk_X7_poke_72 C (by assumption)  hw
set_option maxHeartbeats 4000000 in
set_option maxRecDepth 100000 in
theorem c_X7_poke {l : Launch} {D : va_G} {cB cI cJ cL cS : ClassId} {T : Nat × Nat × Nat × Nat} {ad : Nat → Nat} {p0 : Int32} {p1 : Int32} {p2 : Int32} {p3 : Int32} {p4 : Int32} {p5 : Int32} {active : Int32} {rests : Int32} {writers : Nat → Int32} {tbytes : Nat → Int32} {tlen : Int32} {dbytes : Nat → Int32} {dlen : Int32} {next : Int32} {known : Int32} {rec : Nat → Int32} {m_made : Nat → Int32} {m_sort : Nat → Int32} {m_digits : Nat → Int32} {m_slots : Nat → Int32} {m_pages : Nat → Int32} {m_highest : Nat → Int64} {m_units : Nat → Nat → Int64} {m_kinds : Nat → Nat → Int32} {m_rows : Nat → Nat → Int32} {m_marks : Nat → Nat → Int32} {q_active : Nat → Int32} {q_rests : Nat → Int32} {q_writers : Nat → Nat → Int32} {l_made : Nat → Int32} {l_sort : Nat → Int32} {l_digits : Nat → Int32} {l_slots : Nat → Int32} {l_pages : Nat → Int32} {l_highest : Nat → Int64} {l_units : Nat → Nat → Int64} {l_kinds : Nat → Nat → Int32} {l_rows : Nat → Nat → Int32} {l_marks : Nat → Nat → Int32} {Q : Int32 → Int32 → Int32 → (Nat → Int32) → (Nat → Int32) → (Nat → Int32) → (Nat → Int32) → (Nat → Int32) → (Nat → Int32) → (Nat → Int64) → (Nat → Nat → Int64) → (Nat → Nat → Int32) → (Nat → Nat → Int32) → (Nat → Nat → Int32) → (Nat → Int32) → (Nat → Int32) → (Nat → Nat → Int32) → (Nat → Nat → Int64) → (Nat → Nat → Int32) → (Nat → Nat → Int32) → Prop} (hw : wp_X7_poke p0 p1 p2 p3 p4 p5 active rests writers next known rec m_made m_sort m_digits m_slots m_pages m_highest m_units m_kinds m_rows m_marks q_active q_rests q_writers l_made l_sort l_digits l_slots l_pages l_highest l_units l_kinds l_rows l_marks Q) : CtI l D (Z5 cB cI cJ cL cS) T yX7_poke cX7_poke 12 ({ frames := 4, cells := 0, slots := 0, locals := 106 } : Room) (Option.some Jvm.ClassFile.FieldType.int) [.ref (ad 0), .int p0, .int p1, .int p2, .int p3, .int p4, .int p5] (mw ad 94 (ctT cI cJ cL cS ad active rests writers tbytes tlen dbytes dlen next known rec m_made m_sort m_digits m_slots m_pages m_highest m_units m_kinds m_rows m_marks q_active q_rests q_writers l_made l_sort l_digits l_slots l_pages l_highest l_units l_kinds l_rows l_marks)) (fun (u : Int32 × Int32 × (Nat → Int32) × (Nat → Int32) × (Nat → Int32) × (Nat → Int32) × (Nat → Int32) × (Nat → Int32) × (Nat → Int64) × (Nat → Nat → Int64) × (Nat → Nat → Int32) × (Nat → Nat → Int32) × (Nat → Nat → Int32) × (Nat → Int32) × (Nat → Int32) × (Nat → Nat → Int32) × (Nat → Nat → Int64) × (Nat → Nat → Int32) × (Nat → Nat → Int32)) => (mw ad 94 (ctT cI cJ cL cS ad active rests writers tbytes tlen dbytes dlen u.1 u.2.1 u.2.2.1 u.2.2.2.1 u.2.2.2.2.1 u.2.2.2.2.2.1 u.2.2.2.2.2.2.1 u.2.2.2.2.2.2.2.1 u.2.2.2.2.2.2.2.2.1 u.2.2.2.2.2.2.2.2.2.1 u.2.2.2.2.2.2.2.2.2.2.1 u.2.2.2.2.2.2.2.2.2.2.2.1 u.2.2.2.2.2.2.2.2.2.2.2.2.1 u.2.2.2.2.2.2.2.2.2.2.2.2.2.1 u.2.2.2.2.2.2.2.2.2.2.2.2.2.2.1 u.2.2.2.2.2.2.2.2.2.2.2.2.2.2.2.1 l_made l_sort l_digits l_slots l_pages l_highest u.2.2.2.2.2.2.2.2.2.2.2.2.2.2.2.2.1 u.2.2.2.2.2.2.2.2.2.2.2.2.2.2.2.2.2.1 l_rows u.2.2.2.2.2.2.2.2.2.2.2.2.2.2.2.2.2.2))) (fun (r : Int32) (u : Int32 × Int32 × (Nat → Int32) × (Nat → Int32) × (Nat → Int32) × (Nat → Int32) × (Nat → Int32) × (Nat → Int32) × (Nat → Int64) × (Nat → Nat → Int64) × (Nat → Nat → Int32) × (Nat → Nat → Int32) × (Nat → Nat → Int32) × (Nat → Int32) × (Nat → Int32) × (Nat → Nat → Int32) × (Nat → Nat → Int64) × (Nat → Nat → Int32) × (Nat → Nat → Int32)) => Q r u.1 u.2.1 u.2.2.1 u.2.2.2.1 u.2.2.2.2.1 u.2.2.2.2.2.1 u.2.2.2.2.2.2.1 u.2.2.2.2.2.2.2.1 u.2.2.2.2.2.2.2.2.1 u.2.2.2.2.2.2.2.2.2.1 u.2.2.2.2.2.2.2.2.2.2.1 u.2.2.2.2.2.2.2.2.2.2.2.1 u.2.2.2.2.2.2.2.2.2.2.2.2.1 u.2.2.2.2.2.2.2.2.2.2.2.2.2.1 u.2.2.2.2.2.2.2.2.2.2.2.2.2.2.1 u.2.2.2.2.2.2.2.2.2.2.2.2.2.2.2.1 u.2.2.2.2.2.2.2.2.2.2.2.2.2.2.2.2.1 u.2.2.2.2.2.2.2.2.2.2.2.2.2.2.2.2.2.1 u.2.2.2.2.2.2.2.2.2.2.2.2.2.2.2.2.2.2) 0 0 := by
  refine ctI_of (own := RX7) (by decide +kernel) rfl (Nat.le_of_ble_eq_true rfl) (fun p e s m below meth c A C => ?_)
  refine w_sub (lv' := [(0, .ref (ad 0)), (1, .int p0), (2, .int p1), (3, .int p2), (4, .int p3), (5, .int p4), (6, .int p5)]) C [0, 1, 2, 3, 4, 5, 6] rfl ?_
  unfold wp_X7_poke at hw
  refine w_aload_n C 0 dX7_poke_0 rfl ?_
  refine w_iload_n C 1 dX7_poke_1 rfl ?_
  refine w_callVE C (c_X7_madeAt (ad := ad) hw) f_X7_madeAt k_0 k_255 rfl ⟨Nat.le_of_ble_eq_true rfl, Nat.le_of_ble_eq_true rfl⟩ rfl rfl ⟨Nat.le_of_ble_eq_true rfl, Nat.le_of_ble_eq_true rfl⟩ 0 (mw_at (by decide) rfl) (rr := (RX7, TX7, 5)) rfl rfl (fun _ => mw_addr) rfl (Nat.le_of_ble_eq_true rfl) dX7_poke_2 (fun r_2 u_2 hw => ?_)
  obtain ⟨hw, hb_2⟩ := hw
  try dsimp only at hw
  cases r_2 with
  | none =>
    replace hw := hw.1 rfl
    refine w_astoreN C [(7, .null), (0, .ref (ad 0)), (1, .int p0), (2, .int p1), (3, .int p2), (4, .int p3), (5, .int p4), (6, .int p5)] dX7_poke_5 (by decide) rfl ?_
    refine w_aloadN C 0 dX7_poke_7 rfl ?_
    refine w_ifnullN C 46 (by decide) dX7_poke_9 ?_
    refine w_iconst C (v := (-1 : Int32)) dX7_poke_46 (by decide) ?_
    exact w_iret C (next, known, rec, m_made, m_sort, m_digits, m_slots, m_pages, m_highest, m_units, m_kinds, m_rows, m_marks, q_active, q_rests, q_writers, l_units, l_kinds, l_marks) hw rfl (Nat.le_of_ble_eq_true rfl) (Nat.le_of_ble_eq_true rfl) dX7_poke_47
  | some j_2 =>
    replace hw := hw.2 j_2 rfl
    have hb_2 := hb_2 j_2 rfl
    refine w_astore C [(7, .ref (ad (74 + 5 * j_2 + 0))), (0, .ref (ad 0)), (1, .int p0), (2, .int p1), (3, .int p2), (4, .int p3), (5, .int p4), (6, .int p5)] dX7_poke_5 (by decide) rfl ?_
    refine w_aload C 0 dX7_poke_7 rfl ?_
    refine w_ifnull C dX7_poke_9 ?_
    refine w_iload_n C 3 dX7_poke_12 rfl ?_
    refine w_if_lt C 46 (by decide) dX7_poke_13 (fun c_13 => ?_) (fun c_13 => ?_)
    · replace hw := hw.1 c_13
      refine w_iconst C (v := (-1 : Int32)) dX7_poke_46 (by decide) ?_
      exact w_iret C (next, known, rec, m_made, m_sort, m_digits, m_slots, m_pages, m_highest, m_units, m_kinds, m_rows, m_marks, q_active, q_rests, q_writers, l_units, l_kinds, l_marks) hw rfl (Nat.le_of_ble_eq_true rfl) (Nat.le_of_ble_eq_true rfl) dX7_poke_47
    · replace hw := hw.2 c_13
      refine w_iload_n C 3 dX7_poke_16 rfl ?_
      refine w_iconst C (v := (1 : Int32)) dX7_poke_17 (by decide) ?_
      refine w_icmp_gt C 46 (by decide) dX7_poke_18 (fun c_18 => ?_) (fun c_18 => ?_)
      · replace hw := hw.1 c_18
        refine w_iconst C (v := (-1 : Int32)) dX7_poke_46 (by decide) ?_
        exact w_iret C (next, known, rec, m_made, m_sort, m_digits, m_slots, m_pages, m_highest, m_units, m_kinds, m_rows, m_marks, q_active, q_rests, q_writers, l_units, l_kinds, l_marks) hw rfl (Nat.le_of_ble_eq_true rfl) (Nat.le_of_ble_eq_true rfl) dX7_poke_47
      · replace hw := hw.2 c_18
        refine w_aload C 0 dX7_poke_21 rfl ?_
        refine w_iload_n C 4 dX7_poke_23 rfl ?_
        refine w_callXI C (c_X1_hasPage (a := fun i => ad (74 + 5 * j_2 + i)) hw) f_X1_hasPage k_679 k_677 rfl ⟨Nat.le_of_ble_eq_true rfl, Nat.le_of_ble_eq_true rfl⟩ rfl rfl ⟨Nat.le_of_ble_eq_true rfl, Nat.le_of_ble_eq_true rfl⟩ 0 rfl (rr := (RX1, TX1, 10)) rfl rfl (ad := ad) (N := 94) ((plL j_2)) (wc_L (cB := cB) j_2) (lt_L (by assumption)) nd_L (fun (u : Unit) => (ctT cI cJ cL cS ad active rests writers tbytes tlen dbytes dlen next known rec m_made m_sort m_digits m_slots m_pages m_highest m_units m_kinds m_rows m_marks q_active q_rests q_writers l_made l_sort l_digits l_slots l_pages l_highest l_units l_kinds l_rows l_marks)) (fun _ => (wc_L (cB := cB) j_2).trans (by first | (simp only [va_up_self]; done) | rfl)) (fun _ _ _ _ => rfl) rfl (Nat.le_of_ble_eq_true rfl) dX7_poke_24 (fun r_24 u_24 hw => ?_)
        try dsimp only at hw
        refine w_if_eq C 46 (by decide) dX7_poke_27 (fun c_27 => ?_) (fun c_27 => ?_)
        · replace hw := hw.1 c_27
          refine w_iconst C (v := (-1 : Int32)) dX7_poke_46 (by decide) ?_
          exact w_iret C (next, known, rec, m_made, m_sort, m_digits, m_slots, m_pages, m_highest, m_units, m_kinds, m_rows, m_marks, q_active, q_rests, q_writers, l_units, l_kinds, l_marks) hw rfl (Nat.le_of_ble_eq_true rfl) (Nat.le_of_ble_eq_true rfl) dX7_poke_47
        · replace hw := hw.2 c_27
          refine w_iload C 6 dX7_poke_30 rfl ?_
          refine w_callSI C (c_X7_isPokeHow hw) f_X7_isPokeHow k_726 rfl ⟨Nat.le_of_ble_eq_true rfl, Nat.le_of_ble_eq_true rfl⟩ rfl rfl ⟨Nat.le_of_ble_eq_true rfl, Nat.le_of_ble_eq_true rfl⟩ rfl (Nat.le_of_ble_eq_true rfl) dX7_poke_32 (fun r_32 u_32 hw => ?_)
          try dsimp only at hw
          refine w_if_eq C 46 (by decide) dX7_poke_35 (fun c_35 => ?_) (fun c_35 => ?_)
          · replace hw := hw.1 c_35
            refine w_iconst C (v := (-1 : Int32)) dX7_poke_46 (by decide) ?_
            exact w_iret C (next, known, rec, m_made, m_sort, m_digits, m_slots, m_pages, m_highest, m_units, m_kinds, m_rows, m_marks, q_active, q_rests, q_writers, l_units, l_kinds, l_marks) hw rfl (Nat.le_of_ble_eq_true rfl) (Nat.le_of_ble_eq_true rfl) dX7_poke_47
          · replace hw := hw.2 c_35
            refine w_iload C 7 dX7_poke_38 rfl ?_
            refine w_callSI C (c_X7_isMark hw) f_X7_isMark k_729 rfl ⟨Nat.le_of_ble_eq_true rfl, Nat.le_of_ble_eq_true rfl⟩ rfl rfl ⟨Nat.le_of_ble_eq_true rfl, Nat.le_of_ble_eq_true rfl⟩ rfl (Nat.le_of_ble_eq_true rfl) dX7_poke_40 (fun r_40 u_40 hw => ?_)
            try dsimp only at hw
            refine w_if_ne C 48 (by decide) dX7_poke_43 (fun c_43 => ?_) (fun c_43 => ?_)
            · replace hw := hw.1 c_43
              refine w_iload C 6 dX7_poke_48 rfl ?_
              refine w_bipush C (v := (10 : Int32)) dX7_poke_50 (by decide) ?_
              refine w_icmp_le C 70 (by decide) dX7_poke_52 (fun c_52 => ?_) (fun c_52 => ?_)
              · replace hw := hw.1 c_52
                refine w_sub (lv' := [(0, .ref (ad 0)), (1, .int p0), (2, .int p1), (3, .int p2), (4, .int p3), (5, .int p4), (6, .int p5), (7, .ref (ad (74 + 5 * j_2 + 0)))]) C [1, 2, 3, 4, 5, 6, 7, 0] rfl ?_
                exact wk_X7_poke_70 C (by assumption)  hw
              · replace hw := hw.2 c_52
                refine w_iload C 6 dX7_poke_55 rfl ?_
                refine w_bipush C (v := (19 : Int32)) dX7_poke_57 (by decide) ?_
                refine w_icmp_ge C 70 (by decide) dX7_poke_59 (fun c_59 => ?_) (fun c_59 => ?_)
                · replace hw := hw.1 c_59
                  refine w_sub (lv' := [(0, .ref (ad 0)), (1, .int p0), (2, .int p1), (3, .int p2), (4, .int p3), (5, .int p4), (6, .int p5), (7, .ref (ad (74 + 5 * j_2 + 0)))]) C [1, 2, 3, 4, 5, 6, 7, 0] rfl ?_
                  exact wk_X7_poke_70 C (by assumption)  hw
                · replace hw := hw.2 c_59
                  refine w_iload C 6 dX7_poke_62 rfl ?_
                  refine w_bipush C (v := (10 : Int32)) dX7_poke_64 (by decide) ?_
                  refine w_isub C dX7_poke_66 ?_
                  refine w_goto C 72 (by decide) dX7_poke_67 ?_
                  refine w_sub (lv' := [(0, .ref (ad 0)), (1, .int p0), (2, .int p1), (3, .int p2), (4, .int p3), (6, .int p5), (7, .ref (ad (74 + 5 * j_2 + 0)))]) C [1, 2, 3, 4, 5, 7, 0] rfl ?_
                  exact wk_X7_poke_72 C (by assumption)  hw
            · replace hw := hw.2 c_43
              refine w_iconst C (v := (-1 : Int32)) dX7_poke_46 (by decide) ?_
              exact w_iret C (next, known, rec, m_made, m_sort, m_digits, m_slots, m_pages, m_highest, m_units, m_kinds, m_rows, m_marks, q_active, q_rests, q_writers, l_units, l_kinds, l_marks) hw rfl (Nat.le_of_ble_eq_true rfl) (Nat.le_of_ble_eq_true rfl) dX7_poke_47
def blk_X7_example_83 (active : Int32) (rests : Int32) (writers : Nat → Int32) (l_made : Nat → Int32) (l_sort : Nat → Int32) (l_digits : Nat → Int32) (l_slots : Nat → Int32) (l_pages : Nat → Int32) (l_highest : Nat → Int64) (l_units : Nat → Nat → Int64) (l_kinds : Nat → Nat → Int32)  (Q : Int32 → Int32 → Int32 → (Nat → Int32) → (Nat → Int32) → (Nat → Int32) → (Nat → Int32) → (Nat → Int32) → (Nat → Int32) → (Nat → Int64) → (Nat → Nat → Int64) → (Nat → Nat → Int32) → (Nat → Nat → Int32) → (Nat → Nat → Int32) → (Nat → Int32) → (Nat → Int32) → (Nat → Nat → Int32) → (Nat → Nat → Int32) → (Nat → Nat → Int32) → Prop) (j6 : Nat) (x1 : Int32) (x5 : Int32) (x7 : Int32) (x9 : Int32) (next : Int32) (known : Int32) (rec : Nat → Int32) (m_made : Nat → Int32) (m_sort : Nat → Int32) (m_digits : Nat → Int32) (m_slots : Nat → Int32) (m_pages : Nat → Int32) (m_highest : Nat → Int64) (m_units : Nat → Nat → Int64) (m_kinds : Nat → Nat → Int32) (m_rows : Nat → Nat → Int32) (m_marks : Nat → Nat → Int32) (q_active : Nat → Int32) (q_rests : Nat → Int32) (q_writers : Nat → Nat → Int32) (l_rows : Nat → Nat → Int32) (l_marks : Nat → Nat → Int32) : Prop := wp_X7_remember x1 active rests writers next known rec m_made m_sort m_digits m_slots m_pages m_highest m_units m_kinds m_rows m_marks q_active q_rests q_writers l_made l_sort l_digits l_slots l_pages l_highest l_units l_kinds l_rows l_marks (fun (next_85 : Int32) (known_85 : Int32) (rec_85 : Nat → Int32) (m_made_85 : Nat → Int32) (m_sort_85 : Nat → Int32) (m_digits_85 : Nat → Int32) (m_slots_85 : Nat → Int32) (m_pages_85 : Nat → Int32) (m_highest_85 : Nat → Int64) (m_units_85 : Nat → Nat → Int64) (m_kinds_85 : Nat → Nat → Int32) (m_rows_85 : Nat → Nat → Int32) (m_marks_85 : Nat → Nat → Int32) (q_active_85 : Nat → Int32) (q_rests_85 : Nat → Int32) (q_writers_85 : Nat → Nat → Int32) => wp_X1_putRow (x7 / (16 : Int32)) x9 (l_rows j6) (fun (l_rows_97 : Nat → Int32) => wp_X1_putMark x7 x5 (l_marks j6) (fun (l_marks_106 : Nat → Int32) => Q (0 : Int32) next_85 known_85 rec_85 m_made_85 m_sort_85 m_digits_85 m_slots_85 m_pages_85 m_highest_85 m_units_85 m_kinds_85 m_rows_85 m_marks_85 q_active_85 q_rests_85 q_writers_85 (va_up l_rows j6 l_rows_97) (va_up l_marks j6 l_marks_106))))
def blk_X7_example_66 (active : Int32) (rests : Int32) (writers : Nat → Int32) (l_made : Nat → Int32) (l_sort : Nat → Int32) (l_digits : Nat → Int32) (l_slots : Nat → Int32) (l_pages : Nat → Int32) (l_highest : Nat → Int64) (l_units : Nat → Nat → Int64) (l_kinds : Nat → Nat → Int32)  (Q : Int32 → Int32 → Int32 → (Nat → Int32) → (Nat → Int32) → (Nat → Int32) → (Nat → Int32) → (Nat → Int32) → (Nat → Int32) → (Nat → Int64) → (Nat → Nat → Int64) → (Nat → Nat → Int32) → (Nat → Nat → Int32) → (Nat → Nat → Int32) → (Nat → Int32) → (Nat → Int32) → (Nat → Nat → Int32) → (Nat → Nat → Int32) → (Nat → Nat → Int32) → Prop) (j6 : Nat) (x1 : Int32) (x5 : Int32) (x7 : Int32) (x8 : Int32) (k0 : Int32) (next : Int32) (known : Int32) (rec : Nat → Int32) (m_made : Nat → Int32) (m_sort : Nat → Int32) (m_digits : Nat → Int32) (m_slots : Nat → Int32) (m_pages : Nat → Int32) (m_highest : Nat → Int64) (m_units : Nat → Nat → Int64) (m_kinds : Nat → Nat → Int32) (m_rows : Nat → Nat → Int32) (m_marks : Nat → Nat → Int32) (q_active : Nat → Int32) (q_rests : Nat → Int32) (q_writers : Nat → Nat → Int32) (l_rows : Nat → Nat → Int32) (l_marks : Nat → Nat → Int32) : Prop := ∀ x9_66 : Int32, x9_66 = k0 → ((x8 = 0 → ((blk_X7_example_83 active rests writers l_made l_sort l_digits l_slots l_pages l_highest l_units l_kinds  Q j6 x1 x5 x7 x9_66 next known rec m_made m_sort m_digits m_slots m_pages m_highest m_units m_kinds m_rows m_marks q_active q_rests q_writers l_rows l_marks))) ∧ (¬ x8 = 0 → (((x8 = x9_66 → ((blk_X7_example_83 active rests writers l_made l_sort l_digits l_slots l_pages l_highest l_units l_kinds  Q j6 x1 x5 x7 x9_66 next known rec m_made m_sort m_digits m_slots m_pages m_highest m_units m_kinds m_rows m_marks q_active q_rests q_writers l_rows l_marks))) ∧ (¬ x8 = x9_66 → (Q (-3 : Int32) next known rec m_made m_sort m_digits m_slots m_pages m_highest m_units m_kinds m_rows m_marks q_active q_rests q_writers l_rows l_marks))))))
def wp_X7_example (p0 : Int32) (p1 : Int64) (p2 : Int32) (p3 : Int32) (active : Int32) (rests : Int32) (writers : Nat → Int32) (next : Int32) (known : Int32) (rec : Nat → Int32) (m_made : Nat → Int32) (m_sort : Nat → Int32) (m_digits : Nat → Int32) (m_slots : Nat → Int32) (m_pages : Nat → Int32) (m_highest : Nat → Int64) (m_units : Nat → Nat → Int64) (m_kinds : Nat → Nat → Int32) (m_rows : Nat → Nat → Int32) (m_marks : Nat → Nat → Int32) (q_active : Nat → Int32) (q_rests : Nat → Int32) (q_writers : Nat → Nat → Int32) (l_made : Nat → Int32) (l_sort : Nat → Int32) (l_digits : Nat → Int32) (l_slots : Nat → Int32) (l_pages : Nat → Int32) (l_highest : Nat → Int64) (l_units : Nat → Nat → Int64) (l_kinds : Nat → Nat → Int32) (l_rows : Nat → Nat → Int32) (l_marks : Nat → Nat → Int32) (Q : Int32 → Int32 → Int32 → (Nat → Int32) → (Nat → Int32) → (Nat → Int32) → (Nat → Int32) → (Nat → Int32) → (Nat → Int32) → (Nat → Int64) → (Nat → Nat → Int64) → (Nat → Nat → Int32) → (Nat → Nat → Int32) → (Nat → Nat → Int32) → (Nat → Int32) → (Nat → Int32) → (Nat → Nat → Int32) → (Nat → Nat → Int32) → (Nat → Nat → Int32) → Prop) : Prop := wp_X7_madeAt p0 l_made (fun (r_2 : Option Nat) => ((r_2 = none → (Q (-1 : Int32) next known rec m_made m_sort m_digits m_slots m_pages m_highest m_units m_kinds m_rows m_marks q_active q_rests q_writers l_rows l_marks)) ∧ (∀ j_2 : Nat, r_2 = some j_2 → (wp_X1_reaches p1 (l_highest j_2) (fun (r_15 : Int32) => ((r_15 = 0 → (Q (-1 : Int32) next known rec m_made m_sort m_digits m_slots m_pages m_highest m_units m_kinds m_rows m_marks q_active q_rests q_writers l_rows l_marks)) ∧ (¬ r_15 = 0 → (wp_X7_isMark p3  (fun (r_23 : Int32) => ((¬ r_23 = 0 → (wp_X7_slotOf (l_digits j_2) p1  (fun (r_37 : Int32) => ∀ x7_40 : Int32, x7_40 = r_37 → wp_X1_rowOf (x7_40 / (16 : Int32)) (l_rows j_2) (fun (r_49 : Int32) => ∀ x8_52 : Int32, x8_52 = r_49 → ((p2 = 0 → ((blk_X7_example_66 active rests writers l_made l_sort l_digits l_slots l_pages l_highest l_units l_kinds  Q j_2 p0 p3 x7_40 x8_52 (11 : Int32) next known rec m_made m_sort m_digits m_slots m_pages m_highest m_units m_kinds m_rows m_marks q_active q_rests q_writers l_rows l_marks))) ∧ (¬ p2 = 0 → ((blk_X7_example_66 active rests writers l_made l_sort l_digits l_slots l_pages l_highest l_units l_kinds  Q j_2 p0 p3 x7_40 x8_52 (12 : Int32) next known rec m_made m_sort m_digits m_slots m_pages m_highest m_units m_kinds m_rows m_marks q_active q_rests q_writers l_rows l_marks)))))))) ∧ (r_23 = 0 → (Q (-1 : Int32) next known rec m_made m_sort m_digits m_slots m_pages m_highest m_units m_kinds m_rows m_marks q_active q_rests q_writers l_rows l_marks))))))))))))
set_option maxHeartbeats 4000000 in
set_option maxRecDepth 100000 in
theorem wk_X7_example_83 {p : Program} {l : Launch} {e : Env} {s : State} {m : MethodId} {args : Array Value} {below : List Frame} {meth : Method} {c : Code} {D : va_G} {cB cI cJ cL cS : ClassId} {T : Nat × Nat × Nat × Nat} {A : Nat → Prop} {ad : Nat → Nat} {active : Int32} {rests : Int32} {writers : Nat → Int32} {tbytes : Nat → Int32} {tlen : Int32} {dbytes : Nat → Int32} {dlen : Int32} {l_made : Nat → Int32} {l_sort : Nat → Int32} {l_digits : Nat → Int32} {l_slots : Nat → Int32} {l_pages : Nat → Int32} {l_highest : Nat → Int64} {l_units : Nat → Nat → Int64} {l_kinds : Nat → Nat → Int32} {Q : Int32 → Int32 → Int32 → (Nat → Int32) → (Nat → Int32) → (Nat → Int32) → (Nat → Int32) → (Nat → Int32) → (Nat → Int32) → (Nat → Int64) → (Nat → Nat → Int64) → (Nat → Nat → Int32) → (Nat → Nat → Int32) → (Nat → Nat → Int32) → (Nat → Int32) → (Nat → Int32) → (Nat → Nat → Int32) → (Nat → Nat → Int32) → (Nat → Nat → Int32) → Prop} (C : Cq p s m args meth c D (Z5 cB cI cJ cL cS) T A cX7_example RX7 10 (Option.some Jvm.ClassFile.FieldType.int)) {j6 : Nat} {x1 : Int32} {x5 : Int32} {x7 : Int32} {x9 : Int32} {next : Int32} {known : Int32} {rec : Nat → Int32} {m_made : Nat → Int32} {m_sort : Nat → Int32} {m_digits : Nat → Int32} {m_slots : Nat → Int32} {m_pages : Nat → Int32} {m_highest : Nat → Int64} {m_units : Nat → Nat → Int64} {m_kinds : Nat → Nat → Int32} {m_rows : Nat → Nat → Int32} {m_marks : Nat → Nat → Int32} {q_active : Nat → Int32} {q_rests : Nat → Int32} {q_writers : Nat → Nat → Int32} {l_rows : Nat → Nat → Int32} {l_marks : Nat → Nat → Int32} (hj6 : j6 < 4)  (hw : blk_X7_example_83 active rests writers l_made l_sort l_digits l_slots l_pages l_highest l_units l_kinds  Q j6 x1 x5 x7 x9 next known rec m_made m_sort m_digits m_slots m_pages m_highest m_units m_kinds m_rows m_marks q_active q_rests q_writers l_rows l_marks) : ww p l e ({ frames := 3, cells := 0, slots := 0, locals := 85 } : Room) s m args below meth c D A 10 (MQ below (va_Qi (fun (r : Int32) (u : Int32 × Int32 × (Nat → Int32) × (Nat → Int32) × (Nat → Int32) × (Nat → Int32) × (Nat → Int32) × (Nat → Int32) × (Nat → Int64) × (Nat → Nat → Int64) × (Nat → Nat → Int32) × (Nat → Nat → Int32) × (Nat → Nat → Int32) × (Nat → Int32) × (Nat → Int32) × (Nat → Nat → Int32) × (Nat → Nat → Int32) × (Nat → Nat → Int32)) => Q r u.1 u.2.1 u.2.2.1 u.2.2.2.1 u.2.2.2.2.1 u.2.2.2.2.2.1 u.2.2.2.2.2.2.1 u.2.2.2.2.2.2.2.1 u.2.2.2.2.2.2.2.2.1 u.2.2.2.2.2.2.2.2.2.1 u.2.2.2.2.2.2.2.2.2.2.1 u.2.2.2.2.2.2.2.2.2.2.2.1 u.2.2.2.2.2.2.2.2.2.2.2.2.1 u.2.2.2.2.2.2.2.2.2.2.2.2.2.1 u.2.2.2.2.2.2.2.2.2.2.2.2.2.2.1 u.2.2.2.2.2.2.2.2.2.2.2.2.2.2.2.1 u.2.2.2.2.2.2.2.2.2.2.2.2.2.2.2.2.1 u.2.2.2.2.2.2.2.2.2.2.2.2.2.2.2.2.2) (OutP D (fun (u : Int32 × Int32 × (Nat → Int32) × (Nat → Int32) × (Nat → Int32) × (Nat → Int32) × (Nat → Int32) × (Nat → Int32) × (Nat → Int64) × (Nat → Nat → Int64) × (Nat → Nat → Int32) × (Nat → Nat → Int32) × (Nat → Nat → Int32) × (Nat → Int32) × (Nat → Int32) × (Nat → Nat → Int32) × (Nat → Nat → Int32) × (Nat → Nat → Int32)) => (mw ad 94 (ctT cI cJ cL cS ad active rests writers tbytes tlen dbytes dlen u.1 u.2.1 u.2.2.1 u.2.2.2.1 u.2.2.2.2.1 u.2.2.2.2.2.1 u.2.2.2.2.2.2.1 u.2.2.2.2.2.2.2.1 u.2.2.2.2.2.2.2.2.1 u.2.2.2.2.2.2.2.2.2.1 u.2.2.2.2.2.2.2.2.2.2.1 u.2.2.2.2.2.2.2.2.2.2.2.1 u.2.2.2.2.2.2.2.2.2.2.2.2.1 u.2.2.2.2.2.2.2.2.2.2.2.2.2.1 u.2.2.2.2.2.2.2.2.2.2.2.2.2.2.1 u.2.2.2.2.2.2.2.2.2.2.2.2.2.2.2.1 l_made l_sort l_digits l_slots l_pages l_highest l_units l_kinds u.2.2.2.2.2.2.2.2.2.2.2.2.2.2.2.2.1 u.2.2.2.2.2.2.2.2.2.2.2.2.2.2.2.2.2)))) A) args s 0 0 A) 0 0 (mw ad 94 (ctT cI cJ cL cS ad active rests writers tbytes tlen dbytes dlen next known rec m_made m_sort m_digits m_slots m_pages m_highest m_units m_kinds m_rows m_marks q_active q_rests q_writers l_made l_sort l_digits l_slots l_pages l_highest l_units l_kinds l_rows l_marks)) 83 [(0, .ref (ad 0)), (1, .int x1), (5, .int x5), (6, .ref (ad (74 + 5 * j6 + 0))), (7, .int x7), (9, .int x9)] [] := by
  unfold blk_X7_example_83 at hw
  refine w_aload_n C 0 dX7_example_83 rfl ?_
  refine w_iload_n C 1 dX7_example_84 rfl ?_
  refine w_callVV C (c_X7_remember (ad := ad) hw) f_X7_remember k_8 k_386 rfl ⟨Nat.le_of_ble_eq_true rfl, Nat.le_of_ble_eq_true rfl⟩ rfl rfl ⟨Nat.le_of_ble_eq_true rfl, Nat.le_of_ble_eq_true rfl⟩ 0 (mw_at (by decide) rfl) (rr := (RX7, TX7, 5)) rfl rfl (fun _ => mw_addr) rfl (Nat.le_of_ble_eq_true rfl) dX7_example_85 (fun u_85 hw => ?_)
  obtain ⟨next_85, known_85, rec_85, m_made_85, m_sort_85, m_digits_85, m_slots_85, m_pages_85, m_highest_85, m_units_85, m_kinds_85, m_rows_85, m_marks_85, q_active_85, q_rests_85, q_writers_85⟩ := u_85
  try dsimp only at hw
  refine w_aload C 3 dX7_example_88 rfl ?_
  refine w_iload C 4 dX7_example_90 rfl ?_
  refine w_bipush C (v := (16 : Int32)) dX7_example_92 (by decide) ?_
  refine w_idiv C (by decide) dX7_example_94 ?_
  refine w_iload C 5 dX7_example_95 rfl ?_
  refine w_callXV C (c_X1_putRow (a := fun i => ad (74 + 5 * j6 + i)) hw) f_X1_putRow k_746 k_744 rfl ⟨Nat.le_of_ble_eq_true rfl, Nat.le_of_ble_eq_true rfl⟩ rfl rfl ⟨Nat.le_of_ble_eq_true rfl, Nat.le_of_ble_eq_true rfl⟩ 0 rfl (rr := (RX1, TX1, 10)) rfl rfl (ad := ad) (N := 94) ((plL j6)) (wc_L (cB := cB) j6) (lt_L (by assumption)) nd_L (fun (u : (Nat → Int32)) => (ctT cI cJ cL cS ad active rests writers tbytes tlen dbytes dlen next_85 known_85 rec_85 m_made_85 m_sort_85 m_digits_85 m_slots_85 m_pages_85 m_highest_85 m_units_85 m_kinds_85 m_rows_85 m_marks_85 q_active_85 q_rests_85 q_writers_85 l_made l_sort l_digits l_slots l_pages l_highest l_units l_kinds (va_up l_rows j6 u) l_marks)) (fun _ => (wc_L (cB := cB) j6).trans (by first | (simp only [va_up_self]; done) | rfl)) (fun _ n _ hn => rest_L (fun _ _ => rfl) (fun _ _ => rfl) (fun _ _ => rfl) (fun _ _ => rfl) (fun _ _ => rfl) (fun _ _ => rfl) (fun _ _ => rfl) (fun _ _ => rfl) (fun _ h => va_up_ne _ _ h) (fun _ _ => rfl) n hn) rfl (Nat.le_of_ble_eq_true rfl) dX7_example_97 (fun u_97 hw => ?_)
  obtain ⟨l_rows_97, rfl⟩ : ∃ z, z = u_97 := ⟨_, rfl⟩
  try dsimp only at hw
  refine w_aload C 3 dX7_example_100 rfl ?_
  refine w_iload C 4 dX7_example_102 rfl ?_
  refine w_iload C 2 dX7_example_104 rfl ?_
  refine w_callXV C (c_X1_putMark (a := fun i => ad (74 + 5 * j6 + i)) hw) f_X1_putMark k_736 k_734 rfl ⟨Nat.le_of_ble_eq_true rfl, Nat.le_of_ble_eq_true rfl⟩ rfl rfl ⟨Nat.le_of_ble_eq_true rfl, Nat.le_of_ble_eq_true rfl⟩ 0 rfl (rr := (RX1, TX1, 10)) rfl rfl (ad := ad) (N := 94) ((plL j6)) (wc_L (cB := cB) j6) (lt_L (by assumption)) nd_L (fun (u : (Nat → Int32)) => (ctT cI cJ cL cS ad active rests writers tbytes tlen dbytes dlen next_85 known_85 rec_85 m_made_85 m_sort_85 m_digits_85 m_slots_85 m_pages_85 m_highest_85 m_units_85 m_kinds_85 m_rows_85 m_marks_85 q_active_85 q_rests_85 q_writers_85 l_made l_sort l_digits l_slots l_pages l_highest l_units l_kinds (va_up l_rows j6 l_rows_97) (va_up l_marks j6 u))) (fun _ => (wc_L (cB := cB) j6).trans (by first | (simp only [va_up_self]; done) | rfl)) (fun _ n _ hn => rest_L (fun _ _ => rfl) (fun _ _ => rfl) (fun _ _ => rfl) (fun _ _ => rfl) (fun _ _ => rfl) (fun _ _ => rfl) (fun _ _ => rfl) (fun _ _ => rfl) (fun _ _ => rfl) (fun _ h => va_up_ne _ _ h) n hn) rfl (Nat.le_of_ble_eq_true rfl) dX7_example_106 (fun u_106 hw => ?_)
  obtain ⟨l_marks_106, rfl⟩ : ∃ z, z = u_106 := ⟨_, rfl⟩
  try dsimp only at hw
  refine w_iconst C (v := (0 : Int32)) dX7_example_109 (by decide) ?_
  exact w_iret C (next_85, known_85, rec_85, m_made_85, m_sort_85, m_digits_85, m_slots_85, m_pages_85, m_highest_85, m_units_85, m_kinds_85, m_rows_85, m_marks_85, q_active_85, q_rests_85, q_writers_85, (va_up l_rows j6 l_rows_97), (va_up l_marks j6 l_marks_106)) hw rfl (Nat.le_of_ble_eq_true rfl) (Nat.le_of_ble_eq_true rfl) dX7_example_110
set_option maxHeartbeats 4000000 in
set_option maxRecDepth 100000 in
theorem wk_X7_example_66 {p : Program} {l : Launch} {e : Env} {s : State} {m : MethodId} {args : Array Value} {below : List Frame} {meth : Method} {c : Code} {D : va_G} {cB cI cJ cL cS : ClassId} {T : Nat × Nat × Nat × Nat} {A : Nat → Prop} {ad : Nat → Nat} {active : Int32} {rests : Int32} {writers : Nat → Int32} {tbytes : Nat → Int32} {tlen : Int32} {dbytes : Nat → Int32} {dlen : Int32} {l_made : Nat → Int32} {l_sort : Nat → Int32} {l_digits : Nat → Int32} {l_slots : Nat → Int32} {l_pages : Nat → Int32} {l_highest : Nat → Int64} {l_units : Nat → Nat → Int64} {l_kinds : Nat → Nat → Int32} {Q : Int32 → Int32 → Int32 → (Nat → Int32) → (Nat → Int32) → (Nat → Int32) → (Nat → Int32) → (Nat → Int32) → (Nat → Int32) → (Nat → Int64) → (Nat → Nat → Int64) → (Nat → Nat → Int32) → (Nat → Nat → Int32) → (Nat → Nat → Int32) → (Nat → Int32) → (Nat → Int32) → (Nat → Nat → Int32) → (Nat → Nat → Int32) → (Nat → Nat → Int32) → Prop} (C : Cq p s m args meth c D (Z5 cB cI cJ cL cS) T A cX7_example RX7 10 (Option.some Jvm.ClassFile.FieldType.int)) {j6 : Nat} {x1 : Int32} {x5 : Int32} {x7 : Int32} {x8 : Int32} {k0 : Int32} {next : Int32} {known : Int32} {rec : Nat → Int32} {m_made : Nat → Int32} {m_sort : Nat → Int32} {m_digits : Nat → Int32} {m_slots : Nat → Int32} {m_pages : Nat → Int32} {m_highest : Nat → Int64} {m_units : Nat → Nat → Int64} {m_kinds : Nat → Nat → Int32} {m_rows : Nat → Nat → Int32} {m_marks : Nat → Nat → Int32} {q_active : Nat → Int32} {q_rests : Nat → Int32} {q_writers : Nat → Nat → Int32} {l_rows : Nat → Nat → Int32} {l_marks : Nat → Nat → Int32} (hj6 : j6 < 4)  (hw : blk_X7_example_66 active rests writers l_made l_sort l_digits l_slots l_pages l_highest l_units l_kinds  Q j6 x1 x5 x7 x8 k0 next known rec m_made m_sort m_digits m_slots m_pages m_highest m_units m_kinds m_rows m_marks q_active q_rests q_writers l_rows l_marks) : ww p l e ({ frames := 3, cells := 0, slots := 0, locals := 85 } : Room) s m args below meth c D A 10 (MQ below (va_Qi (fun (r : Int32) (u : Int32 × Int32 × (Nat → Int32) × (Nat → Int32) × (Nat → Int32) × (Nat → Int32) × (Nat → Int32) × (Nat → Int32) × (Nat → Int64) × (Nat → Nat → Int64) × (Nat → Nat → Int32) × (Nat → Nat → Int32) × (Nat → Nat → Int32) × (Nat → Int32) × (Nat → Int32) × (Nat → Nat → Int32) × (Nat → Nat → Int32) × (Nat → Nat → Int32)) => Q r u.1 u.2.1 u.2.2.1 u.2.2.2.1 u.2.2.2.2.1 u.2.2.2.2.2.1 u.2.2.2.2.2.2.1 u.2.2.2.2.2.2.2.1 u.2.2.2.2.2.2.2.2.1 u.2.2.2.2.2.2.2.2.2.1 u.2.2.2.2.2.2.2.2.2.2.1 u.2.2.2.2.2.2.2.2.2.2.2.1 u.2.2.2.2.2.2.2.2.2.2.2.2.1 u.2.2.2.2.2.2.2.2.2.2.2.2.2.1 u.2.2.2.2.2.2.2.2.2.2.2.2.2.2.1 u.2.2.2.2.2.2.2.2.2.2.2.2.2.2.2.1 u.2.2.2.2.2.2.2.2.2.2.2.2.2.2.2.2.1 u.2.2.2.2.2.2.2.2.2.2.2.2.2.2.2.2.2) (OutP D (fun (u : Int32 × Int32 × (Nat → Int32) × (Nat → Int32) × (Nat → Int32) × (Nat → Int32) × (Nat → Int32) × (Nat → Int32) × (Nat → Int64) × (Nat → Nat → Int64) × (Nat → Nat → Int32) × (Nat → Nat → Int32) × (Nat → Nat → Int32) × (Nat → Int32) × (Nat → Int32) × (Nat → Nat → Int32) × (Nat → Nat → Int32) × (Nat → Nat → Int32)) => (mw ad 94 (ctT cI cJ cL cS ad active rests writers tbytes tlen dbytes dlen u.1 u.2.1 u.2.2.1 u.2.2.2.1 u.2.2.2.2.1 u.2.2.2.2.2.1 u.2.2.2.2.2.2.1 u.2.2.2.2.2.2.2.1 u.2.2.2.2.2.2.2.2.1 u.2.2.2.2.2.2.2.2.2.1 u.2.2.2.2.2.2.2.2.2.2.1 u.2.2.2.2.2.2.2.2.2.2.2.1 u.2.2.2.2.2.2.2.2.2.2.2.2.1 u.2.2.2.2.2.2.2.2.2.2.2.2.2.1 u.2.2.2.2.2.2.2.2.2.2.2.2.2.2.1 u.2.2.2.2.2.2.2.2.2.2.2.2.2.2.2.1 l_made l_sort l_digits l_slots l_pages l_highest l_units l_kinds u.2.2.2.2.2.2.2.2.2.2.2.2.2.2.2.2.1 u.2.2.2.2.2.2.2.2.2.2.2.2.2.2.2.2.2)))) A) args s 0 0 A) 0 0 (mw ad 94 (ctT cI cJ cL cS ad active rests writers tbytes tlen dbytes dlen next known rec m_made m_sort m_digits m_slots m_pages m_highest m_units m_kinds m_rows m_marks q_active q_rests q_writers l_made l_sort l_digits l_slots l_pages l_highest l_units l_kinds l_rows l_marks)) 66 [(0, .ref (ad 0)), (1, .int x1), (5, .int x5), (6, .ref (ad (74 + 5 * j6 + 0))), (7, .int x7), (8, .int x8)] [.int k0] := by
  unfold blk_X7_example_66 at hw
  refine w_istore C (fun x9_66 => [(9, .int x9_66), (0, .ref (ad 0)), (1, .int x1), (5, .int x5), (6, .ref (ad (74 + 5 * j6 + 0))), (7, .int x7), (8, .int x8)]) dX7_example_66 (by decide) (fun _ => rfl) (fun x9_66 e_x9_66 => ?_)
  replace hw := hw x9_66 e_x9_66
  refine w_iload C 6 dX7_example_68 rfl ?_
  refine w_if_eq C 83 (by decide) dX7_example_70 (fun c_70 => ?_) (fun c_70 => ?_)
  · replace hw := hw.1 c_70
    refine w_sub (lv' := [(0, .ref (ad 0)), (1, .int x1), (5, .int x5), (6, .ref (ad (74 + 5 * j6 + 0))), (7, .int x7), (9, .int x9_66)]) C [1, 2, 3, 4, 5, 0] rfl ?_
    exact wk_X7_example_83 C (by assumption)  hw
  · replace hw := hw.2 c_70
    refine w_iload C 6 dX7_example_73 rfl ?_
    refine w_iload C 0 dX7_example_75 rfl ?_
    refine w_icmp_eq C 83 (by decide) dX7_example_77 (fun c_77 => ?_) (fun c_77 => ?_)
    · replace hw := hw.1 c_77
      refine w_sub (lv' := [(0, .ref (ad 0)), (1, .int x1), (5, .int x5), (6, .ref (ad (74 + 5 * j6 + 0))), (7, .int x7), (9, .int x9_66)]) C [1, 2, 3, 4, 5, 0] rfl ?_
      exact wk_X7_example_83 C (by assumption)  hw
    · replace hw := hw.2 c_77
      refine w_bipush C (v := (-3 : Int32)) dX7_example_80 (by decide) ?_
      exact w_iret C (next, known, rec, m_made, m_sort, m_digits, m_slots, m_pages, m_highest, m_units, m_kinds, m_rows, m_marks, q_active, q_rests, q_writers, l_rows, l_marks) hw rfl (Nat.le_of_ble_eq_true rfl) (Nat.le_of_ble_eq_true rfl) dX7_example_82
set_option maxHeartbeats 4000000 in
set_option maxRecDepth 100000 in
theorem c_X7_example {l : Launch} {D : va_G} {cB cI cJ cL cS : ClassId} {T : Nat × Nat × Nat × Nat} {ad : Nat → Nat} {p0 : Int32} {p1 : Int64} {p2 : Int32} {p3 : Int32} {active : Int32} {rests : Int32} {writers : Nat → Int32} {tbytes : Nat → Int32} {tlen : Int32} {dbytes : Nat → Int32} {dlen : Int32} {next : Int32} {known : Int32} {rec : Nat → Int32} {m_made : Nat → Int32} {m_sort : Nat → Int32} {m_digits : Nat → Int32} {m_slots : Nat → Int32} {m_pages : Nat → Int32} {m_highest : Nat → Int64} {m_units : Nat → Nat → Int64} {m_kinds : Nat → Nat → Int32} {m_rows : Nat → Nat → Int32} {m_marks : Nat → Nat → Int32} {q_active : Nat → Int32} {q_rests : Nat → Int32} {q_writers : Nat → Nat → Int32} {l_made : Nat → Int32} {l_sort : Nat → Int32} {l_digits : Nat → Int32} {l_slots : Nat → Int32} {l_pages : Nat → Int32} {l_highest : Nat → Int64} {l_units : Nat → Nat → Int64} {l_kinds : Nat → Nat → Int32} {l_rows : Nat → Nat → Int32} {l_marks : Nat → Nat → Int32} {Q : Int32 → Int32 → Int32 → (Nat → Int32) → (Nat → Int32) → (Nat → Int32) → (Nat → Int32) → (Nat → Int32) → (Nat → Int32) → (Nat → Int64) → (Nat → Nat → Int64) → (Nat → Nat → Int32) → (Nat → Nat → Int32) → (Nat → Nat → Int32) → (Nat → Int32) → (Nat → Int32) → (Nat → Nat → Int32) → (Nat → Nat → Int32) → (Nat → Nat → Int32) → Prop} (hw : wp_X7_example p0 p1 p2 p3 active rests writers next known rec m_made m_sort m_digits m_slots m_pages m_highest m_units m_kinds m_rows m_marks q_active q_rests q_writers l_made l_sort l_digits l_slots l_pages l_highest l_units l_kinds l_rows l_marks Q) : CtI l D (Z5 cB cI cJ cL cS) T yX7_example cX7_example 10 ({ frames := 3, cells := 0, slots := 0, locals := 85 } : Room) (Option.some Jvm.ClassFile.FieldType.int) [.ref (ad 0), .int p0, .long p1, .int p2, .int p3] (mw ad 94 (ctT cI cJ cL cS ad active rests writers tbytes tlen dbytes dlen next known rec m_made m_sort m_digits m_slots m_pages m_highest m_units m_kinds m_rows m_marks q_active q_rests q_writers l_made l_sort l_digits l_slots l_pages l_highest l_units l_kinds l_rows l_marks)) (fun (u : Int32 × Int32 × (Nat → Int32) × (Nat → Int32) × (Nat → Int32) × (Nat → Int32) × (Nat → Int32) × (Nat → Int32) × (Nat → Int64) × (Nat → Nat → Int64) × (Nat → Nat → Int32) × (Nat → Nat → Int32) × (Nat → Nat → Int32) × (Nat → Int32) × (Nat → Int32) × (Nat → Nat → Int32) × (Nat → Nat → Int32) × (Nat → Nat → Int32)) => (mw ad 94 (ctT cI cJ cL cS ad active rests writers tbytes tlen dbytes dlen u.1 u.2.1 u.2.2.1 u.2.2.2.1 u.2.2.2.2.1 u.2.2.2.2.2.1 u.2.2.2.2.2.2.1 u.2.2.2.2.2.2.2.1 u.2.2.2.2.2.2.2.2.1 u.2.2.2.2.2.2.2.2.2.1 u.2.2.2.2.2.2.2.2.2.2.1 u.2.2.2.2.2.2.2.2.2.2.2.1 u.2.2.2.2.2.2.2.2.2.2.2.2.1 u.2.2.2.2.2.2.2.2.2.2.2.2.2.1 u.2.2.2.2.2.2.2.2.2.2.2.2.2.2.1 u.2.2.2.2.2.2.2.2.2.2.2.2.2.2.2.1 l_made l_sort l_digits l_slots l_pages l_highest l_units l_kinds u.2.2.2.2.2.2.2.2.2.2.2.2.2.2.2.2.1 u.2.2.2.2.2.2.2.2.2.2.2.2.2.2.2.2.2))) (fun (r : Int32) (u : Int32 × Int32 × (Nat → Int32) × (Nat → Int32) × (Nat → Int32) × (Nat → Int32) × (Nat → Int32) × (Nat → Int32) × (Nat → Int64) × (Nat → Nat → Int64) × (Nat → Nat → Int32) × (Nat → Nat → Int32) × (Nat → Nat → Int32) × (Nat → Int32) × (Nat → Int32) × (Nat → Nat → Int32) × (Nat → Nat → Int32) × (Nat → Nat → Int32)) => Q r u.1 u.2.1 u.2.2.1 u.2.2.2.1 u.2.2.2.2.1 u.2.2.2.2.2.1 u.2.2.2.2.2.2.1 u.2.2.2.2.2.2.2.1 u.2.2.2.2.2.2.2.2.1 u.2.2.2.2.2.2.2.2.2.1 u.2.2.2.2.2.2.2.2.2.2.1 u.2.2.2.2.2.2.2.2.2.2.2.1 u.2.2.2.2.2.2.2.2.2.2.2.2.1 u.2.2.2.2.2.2.2.2.2.2.2.2.2.1 u.2.2.2.2.2.2.2.2.2.2.2.2.2.2.1 u.2.2.2.2.2.2.2.2.2.2.2.2.2.2.2.1 u.2.2.2.2.2.2.2.2.2.2.2.2.2.2.2.2.1 u.2.2.2.2.2.2.2.2.2.2.2.2.2.2.2.2.2) 0 0 := by
  refine ctI_of (own := RX7) (by decide +kernel) rfl (Nat.le_of_ble_eq_true rfl) (fun p e s m below meth c A C => ?_)
  refine w_sub (lv' := [(0, .ref (ad 0)), (1, .int p0), (2, .long p1), (4, .int p2), (5, .int p3)]) C [0, 1, 2, 3, 4] rfl ?_
  unfold wp_X7_example at hw
  refine w_aload_n C 0 dX7_example_0 rfl ?_
  refine w_iload_n C 1 dX7_example_1 rfl ?_
  refine w_callVE C (c_X7_madeAt (ad := ad) hw) f_X7_madeAt k_0 k_255 rfl ⟨Nat.le_of_ble_eq_true rfl, Nat.le_of_ble_eq_true rfl⟩ rfl rfl ⟨Nat.le_of_ble_eq_true rfl, Nat.le_of_ble_eq_true rfl⟩ 0 (mw_at (by decide) rfl) (rr := (RX7, TX7, 5)) rfl rfl (fun _ => mw_addr) rfl (Nat.le_of_ble_eq_true rfl) dX7_example_2 (fun r_2 u_2 hw => ?_)
  obtain ⟨hw, hb_2⟩ := hw
  try dsimp only at hw
  cases r_2 with
  | none =>
    replace hw := hw.1 rfl
    refine w_astoreN C [(6, .null), (0, .ref (ad 0)), (1, .int p0), (2, .long p1), (4, .int p2), (5, .int p3)] dX7_example_5 (by decide) rfl ?_
    refine w_aloadN C 0 dX7_example_7 rfl ?_
    refine w_ifnullN C 29 (by decide) dX7_example_9 ?_
    refine w_iconst C (v := (-1 : Int32)) dX7_example_29 (by decide) ?_
    exact w_iret C (next, known, rec, m_made, m_sort, m_digits, m_slots, m_pages, m_highest, m_units, m_kinds, m_rows, m_marks, q_active, q_rests, q_writers, l_rows, l_marks) hw rfl (Nat.le_of_ble_eq_true rfl) (Nat.le_of_ble_eq_true rfl) dX7_example_30
  | some j_2 =>
    replace hw := hw.2 j_2 rfl
    have hb_2 := hb_2 j_2 rfl
    refine w_astore C [(6, .ref (ad (74 + 5 * j_2 + 0))), (0, .ref (ad 0)), (1, .int p0), (2, .long p1), (4, .int p2), (5, .int p3)] dX7_example_5 (by decide) rfl ?_
    refine w_aload C 0 dX7_example_7 rfl ?_
    refine w_ifnull C dX7_example_9 ?_
    refine w_aload C 0 dX7_example_12 rfl ?_
    refine w_lload_n C 3 dX7_example_14 rfl ?_
    refine w_callXI C (c_X1_reaches (a := fun i => ad (74 + 5 * j_2 + i)) hw) f_X1_reaches k_514 k_530 rfl ⟨Nat.le_of_ble_eq_true rfl, Nat.le_of_ble_eq_true rfl⟩ rfl rfl ⟨Nat.le_of_ble_eq_true rfl, Nat.le_of_ble_eq_true rfl⟩ 0 rfl (rr := (RX1, TX1, 10)) rfl rfl (ad := ad) (N := 94) ((plL j_2)) (wc_L (cB := cB) j_2) (lt_L (by assumption)) nd_L (fun (u : Unit) => (ctT cI cJ cL cS ad active rests writers tbytes tlen dbytes dlen next known rec m_made m_sort m_digits m_slots m_pages m_highest m_units m_kinds m_rows m_marks q_active q_rests q_writers l_made l_sort l_digits l_slots l_pages l_highest l_units l_kinds l_rows l_marks)) (fun _ => (wc_L (cB := cB) j_2).trans (by first | (simp only [va_up_self]; done) | rfl)) (fun _ _ _ _ => rfl) rfl (Nat.le_of_ble_eq_true rfl) dX7_example_15 (fun r_15 u_15 hw => ?_)
    try dsimp only at hw
    refine w_if_eq C 29 (by decide) dX7_example_18 (fun c_18 => ?_) (fun c_18 => ?_)
    · replace hw := hw.1 c_18
      refine w_iconst C (v := (-1 : Int32)) dX7_example_29 (by decide) ?_
      exact w_iret C (next, known, rec, m_made, m_sort, m_digits, m_slots, m_pages, m_highest, m_units, m_kinds, m_rows, m_marks, q_active, q_rests, q_writers, l_rows, l_marks) hw rfl (Nat.le_of_ble_eq_true rfl) (Nat.le_of_ble_eq_true rfl) dX7_example_30
    · replace hw := hw.2 c_18
      refine w_iload C 5 dX7_example_21 rfl ?_
      refine w_callSI C (c_X7_isMark hw) f_X7_isMark k_729 rfl ⟨Nat.le_of_ble_eq_true rfl, Nat.le_of_ble_eq_true rfl⟩ rfl rfl ⟨Nat.le_of_ble_eq_true rfl, Nat.le_of_ble_eq_true rfl⟩ rfl (Nat.le_of_ble_eq_true rfl) dX7_example_23 (fun r_23 u_23 hw => ?_)
      try dsimp only at hw
      refine w_if_ne C 31 (by decide) dX7_example_26 (fun c_26 => ?_) (fun c_26 => ?_)
      · replace hw := hw.1 c_26
        refine w_aload C 0 dX7_example_31 rfl ?_
        refine w_getN C (T1 := TX1) (74 + 5 * j_2 + 0) 2 u_X1 n_151 rfl (by decide) (mw_at (by omega) (ct_L0 j_2)) rfl dX7_example_33 ?_
        refine w_lload_n C 3 dX7_example_36 rfl ?_
        refine w_callSI C (c_X7_slotOf hw) f_X7_slotOf k_476 rfl ⟨Nat.le_of_ble_eq_true rfl, Nat.le_of_ble_eq_true rfl⟩ rfl rfl ⟨Nat.le_of_ble_eq_true rfl, Nat.le_of_ble_eq_true rfl⟩ rfl (Nat.le_of_ble_eq_true rfl) dX7_example_37 (fun r_37 u_37 hw => ?_)
        try dsimp only at hw
        refine w_istore C (fun x7_40 => [(7, .int x7_40), (6, .ref (ad (74 + 5 * j_2 + 0))), (0, .ref (ad 0)), (1, .int p0), (2, .long p1), (4, .int p2), (5, .int p3)]) dX7_example_40 (by decide) (fun _ => rfl) (fun x7_40 e_x7_40 => ?_)
        replace hw := hw x7_40 e_x7_40
        refine w_aload C 1 dX7_example_42 rfl ?_
        refine w_iload C 0 dX7_example_44 rfl ?_
        refine w_bipush C (v := (16 : Int32)) dX7_example_46 (by decide) ?_
        refine w_idiv C (by decide) dX7_example_48 ?_
        refine w_callXI C (c_X1_rowOf (a := fun i => ad (74 + 5 * j_2 + i)) hw) f_X1_rowOf k_699 k_697 rfl ⟨Nat.le_of_ble_eq_true rfl, Nat.le_of_ble_eq_true rfl⟩ rfl rfl ⟨Nat.le_of_ble_eq_true rfl, Nat.le_of_ble_eq_true rfl⟩ 0 rfl (rr := (RX1, TX1, 10)) rfl rfl (ad := ad) (N := 94) ((plL j_2)) (wc_L (cB := cB) j_2) (lt_L (by assumption)) nd_L (fun (u : Unit) => (ctT cI cJ cL cS ad active rests writers tbytes tlen dbytes dlen next known rec m_made m_sort m_digits m_slots m_pages m_highest m_units m_kinds m_rows m_marks q_active q_rests q_writers l_made l_sort l_digits l_slots l_pages l_highest l_units l_kinds l_rows l_marks)) (fun _ => (wc_L (cB := cB) j_2).trans (by first | (simp only [va_up_self]; done) | rfl)) (fun _ _ _ _ => rfl) rfl (Nat.le_of_ble_eq_true rfl) dX7_example_49 (fun r_49 u_49 hw => ?_)
        try dsimp only at hw
        refine w_istore C (fun x8_52 => [(8, .int x8_52), (7, .int x7_40), (6, .ref (ad (74 + 5 * j_2 + 0))), (0, .ref (ad 0)), (1, .int p0), (2, .long p1), (4, .int p2), (5, .int p3)]) dX7_example_52 (by decide) (fun _ => rfl) (fun x8_52 e_x8_52 => ?_)
        replace hw := hw x8_52 e_x8_52
        refine w_iload C 6 dX7_example_54 rfl ?_
        refine w_if_eq C 64 (by decide) dX7_example_56 (fun c_56 => ?_) (fun c_56 => ?_)
        · replace hw := hw.1 c_56
          refine w_bipush C (v := (11 : Int32)) dX7_example_64 (by decide) ?_
          refine w_sub (lv' := [(0, .ref (ad 0)), (1, .int p0), (5, .int p3), (6, .ref (ad (74 + 5 * j_2 + 0))), (7, .int x7_40), (8, .int x8_52)]) C [3, 4, 7, 2, 1, 0] rfl ?_
          exact wk_X7_example_66 C (by assumption)  hw
        · replace hw := hw.2 c_56
          refine w_bipush C (v := (12 : Int32)) dX7_example_59 (by decide) ?_
          refine w_goto C 66 (by decide) dX7_example_61 ?_
          refine w_sub (lv' := [(0, .ref (ad 0)), (1, .int p0), (5, .int p3), (6, .ref (ad (74 + 5 * j_2 + 0))), (7, .int x7_40), (8, .int x8_52)]) C [3, 4, 7, 2, 1, 0] rfl ?_
          exact wk_X7_example_66 C (by assumption)  hw
      · replace hw := hw.2 c_26
        refine w_iconst C (v := (-1 : Int32)) dX7_example_29 (by decide) ?_
        exact w_iret C (next, known, rec, m_made, m_sort, m_digits, m_slots, m_pages, m_highest, m_units, m_kinds, m_rows, m_marks, q_active, q_rests, q_writers, l_rows, l_marks) hw rfl (Nat.le_of_ble_eq_true rfl) (Nat.le_of_ble_eq_true rfl) dX7_example_30
def wp_X7_examples (p0 : Int32) (l_made : Nat → Int32) (l_pages : Nat → Int32) (l_marks : Nat → Nat → Int32) (Q : Int32 → Prop) : Prop := wp_X7_madeAt p0 l_made (fun (r_2 : Option Nat) => ((r_2 = none → (Q (-1 : Int32))) ∧ (∀ j_2 : Nat, r_2 = some j_2 → (wp_X1_marksInAll  (l_pages j_2) (l_marks j_2) (fun (r_15 : Int32) => Q r_15)))))
set_option maxHeartbeats 4000000 in
set_option maxRecDepth 100000 in
theorem c_X7_examples {l : Launch} {D : va_G} {cB cI cJ cL cS : ClassId} {T : Nat × Nat × Nat × Nat} {ad : Nat → Nat} {p0 : Int32} {active : Int32} {rests : Int32} {writers : Nat → Int32} {tbytes : Nat → Int32} {tlen : Int32} {dbytes : Nat → Int32} {dlen : Int32} {next : Int32} {known : Int32} {rec : Nat → Int32} {m_made : Nat → Int32} {m_sort : Nat → Int32} {m_digits : Nat → Int32} {m_slots : Nat → Int32} {m_pages : Nat → Int32} {m_highest : Nat → Int64} {m_units : Nat → Nat → Int64} {m_kinds : Nat → Nat → Int32} {m_rows : Nat → Nat → Int32} {m_marks : Nat → Nat → Int32} {q_active : Nat → Int32} {q_rests : Nat → Int32} {q_writers : Nat → Nat → Int32} {l_made : Nat → Int32} {l_sort : Nat → Int32} {l_digits : Nat → Int32} {l_slots : Nat → Int32} {l_pages : Nat → Int32} {l_highest : Nat → Int64} {l_units : Nat → Nat → Int64} {l_kinds : Nat → Nat → Int32} {l_rows : Nat → Nat → Int32} {l_marks : Nat → Nat → Int32} {Q : Int32 → Prop} (hw : wp_X7_examples p0 l_made l_pages l_marks Q) : CtI l D (Z5 cB cI cJ cL cS) T yX7_examples cX7_examples 3 ({ frames := 2, cells := 0, slots := 0, locals := 43 } : Room) (Option.some Jvm.ClassFile.FieldType.int) [.ref (ad 0), .int p0] (mw ad 94 (ctT cI cJ cL cS ad active rests writers tbytes tlen dbytes dlen next known rec m_made m_sort m_digits m_slots m_pages m_highest m_units m_kinds m_rows m_marks q_active q_rests q_writers l_made l_sort l_digits l_slots l_pages l_highest l_units l_kinds l_rows l_marks)) (fun (u : Unit) => (mw ad 94 (ctT cI cJ cL cS ad active rests writers tbytes tlen dbytes dlen next known rec m_made m_sort m_digits m_slots m_pages m_highest m_units m_kinds m_rows m_marks q_active q_rests q_writers l_made l_sort l_digits l_slots l_pages l_highest l_units l_kinds l_rows l_marks))) (fun (r : Int32) (u : Unit) => Q r ) 0 0 := by
  refine ctI_of (own := RX7) (by decide +kernel) rfl (Nat.le_of_ble_eq_true rfl) (fun p e s m below meth c A C => ?_)
  refine w_sub (lv' := [(0, .ref (ad 0)), (1, .int p0)]) C [0, 1] rfl ?_
  unfold wp_X7_examples at hw
  refine w_aload_n C 0 dX7_examples_0 rfl ?_
  refine w_iload_n C 1 dX7_examples_1 rfl ?_
  refine w_callVE C (c_X7_madeAt (ad := ad) hw) f_X7_madeAt k_0 k_255 rfl ⟨Nat.le_of_ble_eq_true rfl, Nat.le_of_ble_eq_true rfl⟩ rfl rfl ⟨Nat.le_of_ble_eq_true rfl, Nat.le_of_ble_eq_true rfl⟩ 0 (mw_at (by decide) rfl) (rr := (RX7, TX7, 5)) rfl rfl (fun _ => mw_addr) rfl (Nat.le_of_ble_eq_true rfl) dX7_examples_2 (fun r_2 u_2 hw => ?_)
  obtain ⟨hw, hb_2⟩ := hw
  try dsimp only at hw
  cases r_2 with
  | none =>
    replace hw := hw.1 rfl
    refine w_astore_nN C [(2, .null), (0, .ref (ad 0)), (1, .int p0)] dX7_examples_5 (by decide) rfl ?_
    refine w_aload_nN C 0 dX7_examples_6 rfl ?_
    refine w_ifnonnullN C dX7_examples_7 ?_
    refine w_iconst C (v := (-1 : Int32)) dX7_examples_10 (by decide) ?_
    refine w_goto C 18 (by decide) dX7_examples_11 ?_
    exact w_iret C () hw rfl (Nat.le_of_ble_eq_true rfl) (Nat.le_of_ble_eq_true rfl) dX7_examples_18
  | some j_2 =>
    replace hw := hw.2 j_2 rfl
    have hb_2 := hb_2 j_2 rfl
    refine w_astore_n C [(2, .ref (ad (74 + 5 * j_2 + 0))), (0, .ref (ad 0)), (1, .int p0)] dX7_examples_5 (by decide) rfl ?_
    refine w_aload_n C 0 dX7_examples_6 rfl ?_
    refine w_ifnonnull C 14 (by decide) dX7_examples_7 ?_
    refine w_aload_n C 0 dX7_examples_14 rfl ?_
    refine w_callXI C (c_X1_marksInAll (a := fun i => ad (74 + 5 * j_2 + i)) hw) f_X1_marksInAll k_754 k_752 rfl ⟨Nat.le_of_ble_eq_true rfl, Nat.le_of_ble_eq_true rfl⟩ rfl rfl ⟨Nat.le_of_ble_eq_true rfl, Nat.le_of_ble_eq_true rfl⟩ 0 rfl (rr := (RX1, TX1, 10)) rfl rfl (ad := ad) (N := 94) ((plL j_2)) (wc_L (cB := cB) j_2) (lt_L (by assumption)) nd_L (fun (u : Unit) => (ctT cI cJ cL cS ad active rests writers tbytes tlen dbytes dlen next known rec m_made m_sort m_digits m_slots m_pages m_highest m_units m_kinds m_rows m_marks q_active q_rests q_writers l_made l_sort l_digits l_slots l_pages l_highest l_units l_kinds l_rows l_marks)) (fun _ => (wc_L (cB := cB) j_2).trans (by first | (simp only [va_up_self]; done) | rfl)) (fun _ _ _ _ => rfl) rfl (Nat.le_of_ble_eq_true rfl) dX7_examples_15 (fun r_15 u_15 hw => ?_)
    try dsimp only at hw
    exact w_iret C () hw rfl (Nat.le_of_ble_eq_true rfl) (Nat.le_of_ble_eq_true rfl) dX7_examples_18
def wp_X7_begin (p0 : Int32) (active : Int32) (rests : Int32) (writers : Nat → Int32) (next : Int32) (known : Int32) (rec : Nat → Int32) (m_made : Nat → Int32) (m_sort : Nat → Int32) (m_digits : Nat → Int32) (m_slots : Nat → Int32) (m_pages : Nat → Int32) (m_highest : Nat → Int64) (m_units : Nat → Nat → Int64) (m_kinds : Nat → Nat → Int32) (m_rows : Nat → Nat → Int32) (m_marks : Nat → Nat → Int32) (q_active : Nat → Int32) (q_rests : Nat → Int32) (q_writers : Nat → Nat → Int32) (l_made : Nat → Int32) (l_sort : Nat → Int32) (l_digits : Nat → Int32) (l_slots : Nat → Int32) (l_pages : Nat → Int32) (l_highest : Nat → Int64) (l_units : Nat → Nat → Int64) (l_kinds : Nat → Nat → Int32) (l_rows : Nat → Nat → Int32) (l_marks : Nat → Nat → Int32) (Q : Int32 → (Nat → Int32) → Int32 → Int32 → (Nat → Int32) → (Nat → Int32) → (Nat → Int32) → (Nat → Int32) → (Nat → Int32) → (Nat → Int32) → (Nat → Int64) → (Nat → Nat → Int64) → (Nat → Nat → Int32) → (Nat → Nat → Int32) → (Nat → Nat → Int32) → (Nat → Int32) → (Nat → Int32) → (Nat → Nat → Int32) → Prop) : Prop := ((p0 < 0 → (Q (-1 : Int32) writers next known rec m_made m_sort m_digits m_slots m_pages m_highest m_units m_kinds m_rows m_marks q_active q_rests q_writers)) ∧ (¬ p0 < 0 → ((((4 : Int32) ≤ p0 → (Q (-1 : Int32) writers next known rec m_made m_sort m_digits m_slots m_pages m_highest m_units m_kinds m_rows m_marks q_active q_rests q_writers)) ∧ (¬ (4 : Int32) ≤ p0 → (wp_X2_recorderOf p0 writers (fun (r_14 : Int32) => ((¬ r_14 = (-1 : Int32) → (Q (-1 : Int32) writers next known rec m_made m_sort m_digits m_slots m_pages m_highest m_units m_kinds m_rows m_marks q_active q_rests q_writers)) ∧ (r_14 = (-1 : Int32) → (wp_X7_madeAt active l_made (fun (r_29 : Option Nat) => ((r_29 = none → (Q (-1 : Int32) writers next known rec m_made m_sort m_digits m_slots m_pages m_highest m_units m_kinds m_rows m_marks q_active q_rests q_writers)) ∧ (∀ j_29 : Nat, r_29 = some j_29 → (wp_X7_remember (-1 : Int32) active rests writers next known rec m_made m_sort m_digits m_slots m_pages m_highest m_units m_kinds m_rows m_marks q_active q_rests q_writers l_made l_sort l_digits l_slots l_pages l_highest l_units l_kinds l_rows l_marks (fun (next_39 : Int32) (known_39 : Int32) (rec_39 : Nat → Int32) (m_made_39 : Nat → Int32) (m_sort_39 : Nat → Int32) (m_digits_39 : Nat → Int32) (m_slots_39 : Nat → Int32) (m_pages_39 : Nat → Int32) (m_highest_39 : Nat → Int64) (m_units_39 : Nat → Nat → Int64) (m_kinds_39 : Nat → Nat → Int32) (m_rows_39 : Nat → Nat → Int32) (m_marks_39 : Nat → Nat → Int32) (q_active_39 : Nat → Int32) (q_rests_39 : Nat → Int32) (q_writers_39 : Nat → Nat → Int32) => wp_X2_setRecorderOf p0 active writers (fun (writers_54 : Nat → Int32) => Q active writers_54 next_39 known_39 rec_39 m_made_39 m_sort_39 m_digits_39 m_slots_39 m_pages_39 m_highest_39 m_units_39 m_kinds_39 m_rows_39 m_marks_39 q_active_39 q_rests_39 q_writers_39))))))))))))))))
set_option maxHeartbeats 4000000 in
set_option maxRecDepth 100000 in
theorem c_X7_begin {l : Launch} {D : va_G} {cB cI cJ cL cS : ClassId} {T : Nat × Nat × Nat × Nat} {ad : Nat → Nat} {p0 : Int32} {active : Int32} {rests : Int32} {writers : Nat → Int32} {tbytes : Nat → Int32} {tlen : Int32} {dbytes : Nat → Int32} {dlen : Int32} {next : Int32} {known : Int32} {rec : Nat → Int32} {m_made : Nat → Int32} {m_sort : Nat → Int32} {m_digits : Nat → Int32} {m_slots : Nat → Int32} {m_pages : Nat → Int32} {m_highest : Nat → Int64} {m_units : Nat → Nat → Int64} {m_kinds : Nat → Nat → Int32} {m_rows : Nat → Nat → Int32} {m_marks : Nat → Nat → Int32} {q_active : Nat → Int32} {q_rests : Nat → Int32} {q_writers : Nat → Nat → Int32} {l_made : Nat → Int32} {l_sort : Nat → Int32} {l_digits : Nat → Int32} {l_slots : Nat → Int32} {l_pages : Nat → Int32} {l_highest : Nat → Int64} {l_units : Nat → Nat → Int64} {l_kinds : Nat → Nat → Int32} {l_rows : Nat → Nat → Int32} {l_marks : Nat → Nat → Int32} {Q : Int32 → (Nat → Int32) → Int32 → Int32 → (Nat → Int32) → (Nat → Int32) → (Nat → Int32) → (Nat → Int32) → (Nat → Int32) → (Nat → Int32) → (Nat → Int64) → (Nat → Nat → Int64) → (Nat → Nat → Int32) → (Nat → Nat → Int32) → (Nat → Nat → Int32) → (Nat → Int32) → (Nat → Int32) → (Nat → Nat → Int32) → Prop} (hw : wp_X7_begin p0 active rests writers next known rec m_made m_sort m_digits m_slots m_pages m_highest m_units m_kinds m_rows m_marks q_active q_rests q_writers l_made l_sort l_digits l_slots l_pages l_highest l_units l_kinds l_rows l_marks Q) : CtI l D (Z5 cB cI cJ cL cS) T yX7_begin cX7_begin 2 ({ frames := 3, cells := 0, slots := 0, locals := 85 } : Room) (Option.some Jvm.ClassFile.FieldType.int) [.ref (ad 0), .int p0] (mw ad 94 (ctT cI cJ cL cS ad active rests writers tbytes tlen dbytes dlen next known rec m_made m_sort m_digits m_slots m_pages m_highest m_units m_kinds m_rows m_marks q_active q_rests q_writers l_made l_sort l_digits l_slots l_pages l_highest l_units l_kinds l_rows l_marks)) (fun (u : (Nat → Int32) × Int32 × Int32 × (Nat → Int32) × (Nat → Int32) × (Nat → Int32) × (Nat → Int32) × (Nat → Int32) × (Nat → Int32) × (Nat → Int64) × (Nat → Nat → Int64) × (Nat → Nat → Int32) × (Nat → Nat → Int32) × (Nat → Nat → Int32) × (Nat → Int32) × (Nat → Int32) × (Nat → Nat → Int32)) => (mw ad 94 (ctT cI cJ cL cS ad active rests u.1 tbytes tlen dbytes dlen u.2.1 u.2.2.1 u.2.2.2.1 u.2.2.2.2.1 u.2.2.2.2.2.1 u.2.2.2.2.2.2.1 u.2.2.2.2.2.2.2.1 u.2.2.2.2.2.2.2.2.1 u.2.2.2.2.2.2.2.2.2.1 u.2.2.2.2.2.2.2.2.2.2.1 u.2.2.2.2.2.2.2.2.2.2.2.1 u.2.2.2.2.2.2.2.2.2.2.2.2.1 u.2.2.2.2.2.2.2.2.2.2.2.2.2.1 u.2.2.2.2.2.2.2.2.2.2.2.2.2.2.1 u.2.2.2.2.2.2.2.2.2.2.2.2.2.2.2.1 u.2.2.2.2.2.2.2.2.2.2.2.2.2.2.2.2 l_made l_sort l_digits l_slots l_pages l_highest l_units l_kinds l_rows l_marks))) (fun (r : Int32) (u : (Nat → Int32) × Int32 × Int32 × (Nat → Int32) × (Nat → Int32) × (Nat → Int32) × (Nat → Int32) × (Nat → Int32) × (Nat → Int32) × (Nat → Int64) × (Nat → Nat → Int64) × (Nat → Nat → Int32) × (Nat → Nat → Int32) × (Nat → Nat → Int32) × (Nat → Int32) × (Nat → Int32) × (Nat → Nat → Int32)) => Q r u.1 u.2.1 u.2.2.1 u.2.2.2.1 u.2.2.2.2.1 u.2.2.2.2.2.1 u.2.2.2.2.2.2.1 u.2.2.2.2.2.2.2.1 u.2.2.2.2.2.2.2.2.1 u.2.2.2.2.2.2.2.2.2.1 u.2.2.2.2.2.2.2.2.2.2.1 u.2.2.2.2.2.2.2.2.2.2.2.1 u.2.2.2.2.2.2.2.2.2.2.2.2.1 u.2.2.2.2.2.2.2.2.2.2.2.2.2.1 u.2.2.2.2.2.2.2.2.2.2.2.2.2.2.1 u.2.2.2.2.2.2.2.2.2.2.2.2.2.2.2.1 u.2.2.2.2.2.2.2.2.2.2.2.2.2.2.2.2) 0 0 := by
  refine ctI_of (own := RX7) (by decide +kernel) rfl (Nat.le_of_ble_eq_true rfl) (fun p e s m below meth c A C => ?_)
  refine w_sub (lv' := [(0, .ref (ad 0)), (1, .int p0)]) C [0, 1] rfl ?_
  unfold wp_X7_begin at hw
  refine w_iload_n C 1 dX7_begin_0 rfl ?_
  refine w_if_lt C 35 (by decide) dX7_begin_1 (fun c_1 => ?_) (fun c_1 => ?_)
  · replace hw := hw.1 c_1
    refine w_iconst C (v := (-1 : Int32)) dX7_begin_35 (by decide) ?_
    exact w_iret C (writers, next, known, rec, m_made, m_sort, m_digits, m_slots, m_pages, m_highest, m_units, m_kinds, m_rows, m_marks, q_active, q_rests, q_writers) hw rfl (Nat.le_of_ble_eq_true rfl) (Nat.le_of_ble_eq_true rfl) dX7_begin_36
  · replace hw := hw.2 c_1
    refine w_iload_n C 1 dX7_begin_4 rfl ?_
    refine w_iconst C (v := (4 : Int32)) dX7_begin_5 (by decide) ?_
    refine w_icmp_ge C 35 (by decide) dX7_begin_6 (fun c_6 => ?_) (fun c_6 => ?_)
    · replace hw := hw.1 c_6
      refine w_iconst C (v := (-1 : Int32)) dX7_begin_35 (by decide) ?_
      exact w_iret C (writers, next, known, rec, m_made, m_sort, m_digits, m_slots, m_pages, m_highest, m_units, m_kinds, m_rows, m_marks, q_active, q_rests, q_writers) hw rfl (Nat.le_of_ble_eq_true rfl) (Nat.le_of_ble_eq_true rfl) dX7_begin_36
    · replace hw := hw.2 c_6
      refine w_aload_n C 0 dX7_begin_9 rfl ?_
      refine w_get C (T1 := TX7) (0) 1 u_X7 k_212 rfl (by decide) (mw_at (by decide) rfl) rfl dX7_begin_10 ?_
      refine w_iload_n C 1 dX7_begin_13 rfl ?_
      refine w_callXI C (c_X2_recorderOf (a := fun i => ad (2 + i)) hw) f_X2_recorderOf k_405 k_761 rfl ⟨Nat.le_of_ble_eq_true rfl, Nat.le_of_ble_eq_true rfl⟩ rfl rfl ⟨Nat.le_of_ble_eq_true rfl, Nat.le_of_ble_eq_true rfl⟩ 0 rfl (rr := (RX2, TX2, 3)) rfl rfl (ad := ad) (N := 94) (plP) (wc_P (cB := cB)) lt_P nd_P (fun (u : Unit) => (ctT cI cJ cL cS ad active rests writers tbytes tlen dbytes dlen next known rec m_made m_sort m_digits m_slots m_pages m_highest m_units m_kinds m_rows m_marks q_active q_rests q_writers l_made l_sort l_digits l_slots l_pages l_highest l_units l_kinds l_rows l_marks)) (fun _ => rfl) (fun _ _ _ _ => rfl) rfl (Nat.le_of_ble_eq_true rfl) dX7_begin_14 (fun r_14 u_14 hw => ?_)
      try dsimp only at hw
      refine w_iconst C (v := (-1 : Int32)) dX7_begin_17 (by decide) ?_
      refine w_icmp_ne C 35 (by decide) dX7_begin_18 (fun c_18 => ?_) (fun c_18 => ?_)
      · replace hw := hw.1 c_18
        refine w_iconst C (v := (-1 : Int32)) dX7_begin_35 (by decide) ?_
        exact w_iret C (writers, next, known, rec, m_made, m_sort, m_digits, m_slots, m_pages, m_highest, m_units, m_kinds, m_rows, m_marks, q_active, q_rests, q_writers) hw rfl (Nat.le_of_ble_eq_true rfl) (Nat.le_of_ble_eq_true rfl) dX7_begin_36
      · replace hw := hw.2 c_18
        refine w_aload_n C 0 dX7_begin_21 rfl ?_
        refine w_aload_n C 0 dX7_begin_22 rfl ?_
        refine w_get C (T1 := TX7) (0) 1 u_X7 k_212 rfl (by decide) (mw_at (by decide) rfl) rfl dX7_begin_23 ?_
        refine w_getN C (T1 := TX2) (2 + 0) 0 u_X2 n_100 rfl (by decide) (mw_at (by decide) rfl) rfl dX7_begin_26 ?_
        refine w_callVE C (c_X7_madeAt (ad := ad) hw) f_X7_madeAt k_0 k_255 rfl ⟨Nat.le_of_ble_eq_true rfl, Nat.le_of_ble_eq_true rfl⟩ rfl rfl ⟨Nat.le_of_ble_eq_true rfl, Nat.le_of_ble_eq_true rfl⟩ 0 (mw_at (by decide) rfl) (rr := (RX7, TX7, 5)) rfl rfl (fun _ => mw_addr) rfl (Nat.le_of_ble_eq_true rfl) dX7_begin_29 (fun r_29 u_29 hw => ?_)
        obtain ⟨hw, hb_29⟩ := hw
        try dsimp only at hw
        cases r_29 with
        | none =>
          replace hw := hw.1 rfl
          refine w_ifnonnullN C dX7_begin_32 ?_
          refine w_iconst C (v := (-1 : Int32)) dX7_begin_35 (by decide) ?_
          exact w_iret C (writers, next, known, rec, m_made, m_sort, m_digits, m_slots, m_pages, m_highest, m_units, m_kinds, m_rows, m_marks, q_active, q_rests, q_writers) hw rfl (Nat.le_of_ble_eq_true rfl) (Nat.le_of_ble_eq_true rfl) dX7_begin_36
        | some j_29 =>
          replace hw := hw.2 j_29 rfl
          have hb_29 := hb_29 j_29 rfl
          refine w_ifnonnull C 37 (by decide) dX7_begin_32 ?_
          refine w_aload_n C 0 dX7_begin_37 rfl ?_
          refine w_iconst C (v := (-1 : Int32)) dX7_begin_38 (by decide) ?_
          refine w_callVV C (c_X7_remember (ad := ad) hw) f_X7_remember k_8 k_386 rfl ⟨Nat.le_of_ble_eq_true rfl, Nat.le_of_ble_eq_true rfl⟩ rfl rfl ⟨Nat.le_of_ble_eq_true rfl, Nat.le_of_ble_eq_true rfl⟩ 0 (mw_at (by decide) rfl) (rr := (RX7, TX7, 5)) rfl rfl (fun _ => mw_addr) rfl (Nat.le_of_ble_eq_true rfl) dX7_begin_39 (fun u_39 hw => ?_)
          obtain ⟨next_39, known_39, rec_39, m_made_39, m_sort_39, m_digits_39, m_slots_39, m_pages_39, m_highest_39, m_units_39, m_kinds_39, m_rows_39, m_marks_39, q_active_39, q_rests_39, q_writers_39⟩ := u_39
          try dsimp only at hw
          refine w_aload_n C 0 dX7_begin_42 rfl ?_
          refine w_get C (T1 := TX7) (0) 1 u_X7 k_212 rfl (by decide) (mw_at (by decide) rfl) rfl dX7_begin_43 ?_
          refine w_iload_n C 1 dX7_begin_46 rfl ?_
          refine w_aload_n C 0 dX7_begin_47 rfl ?_
          refine w_get C (T1 := TX7) (0) 1 u_X7 k_212 rfl (by decide) (mw_at (by decide) rfl) rfl dX7_begin_48 ?_
          refine w_getN C (T1 := TX2) (2 + 0) 0 u_X2 n_100 rfl (by decide) (mw_at (by decide) rfl) rfl dX7_begin_51 ?_
          refine w_callXV C (c_X2_setRecorderOf (a := fun i => ad (2 + i)) hw) f_X2_setRecorderOf k_409 k_762 rfl ⟨Nat.le_of_ble_eq_true rfl, Nat.le_of_ble_eq_true rfl⟩ rfl rfl ⟨Nat.le_of_ble_eq_true rfl, Nat.le_of_ble_eq_true rfl⟩ 0 rfl (rr := (RX2, TX2, 3)) rfl rfl (ad := ad) (N := 94) (plP) (wc_P (cB := cB)) lt_P nd_P (fun (u : (Nat → Int32)) => (ctT cI cJ cL cS ad active rests u tbytes tlen dbytes dlen next_39 known_39 rec_39 m_made_39 m_sort_39 m_digits_39 m_slots_39 m_pages_39 m_highest_39 m_units_39 m_kinds_39 m_rows_39 m_marks_39 q_active_39 q_rests_39 q_writers_39 l_made l_sort l_digits l_slots l_pages l_highest l_units l_kinds l_rows l_marks)) (fun _ => rfl) (fun _ n _ hn => rest_P n hn) rfl (Nat.le_of_ble_eq_true rfl) dX7_begin_54 (fun u_54 hw => ?_)
          obtain ⟨writers_54, rfl⟩ : ∃ z, z = u_54 := ⟨_, rfl⟩
          try dsimp only at hw
          refine w_aload_n C 0 dX7_begin_57 rfl ?_
          refine w_get C (T1 := TX7) (0) 1 u_X7 k_212 rfl (by decide) (mw_at (by decide) rfl) rfl dX7_begin_58 ?_
          refine w_getN C (T1 := TX2) (2 + 0) 0 u_X2 n_100 rfl (by decide) (mw_at (by decide) rfl) rfl dX7_begin_61 ?_
          exact w_iret C (writers_54, next_39, known_39, rec_39, m_made_39, m_sort_39, m_digits_39, m_slots_39, m_pages_39, m_highest_39, m_units_39, m_kinds_39, m_rows_39, m_marks_39, q_active_39, q_rests_39, q_writers_39) hw rfl (Nat.le_of_ble_eq_true rfl) (Nat.le_of_ble_eq_true rfl) dX7_begin_64
def wp_X7_write (p0 : Int32) (p1 : Int64) (p2 : Int64) (p3 : Int64) (active : Int32) (rests : Int32) (writers : Nat → Int32) (next : Int32) (known : Int32) (rec : Nat → Int32) (m_made : Nat → Int32) (m_sort : Nat → Int32) (m_digits : Nat → Int32) (m_slots : Nat → Int32) (m_pages : Nat → Int32) (m_highest : Nat → Int64) (m_units : Nat → Nat → Int64) (m_kinds : Nat → Nat → Int32) (m_rows : Nat → Nat → Int32) (m_marks : Nat → Nat → Int32) (q_active : Nat → Int32) (q_rests : Nat → Int32) (q_writers : Nat → Nat → Int32) (l_made : Nat → Int32) (l_sort : Nat → Int32) (l_digits : Nat → Int32) (l_slots : Nat → Int32) (l_pages : Nat → Int32) (l_highest : Nat → Int64) (l_units : Nat → Nat → Int64) (l_kinds : Nat → Nat → Int32) (l_rows : Nat → Nat → Int32) (l_marks : Nat → Nat → Int32) (Q : Int64 → Int32 → Int32 → (Nat → Int32) → (Nat → Int32) → (Nat → Int32) → (Nat → Int32) → (Nat → Int32) → (Nat → Int32) → (Nat → Int64) → (Nat → Nat → Int64) → (Nat → Nat → Int32) → (Nat → Nat → Int32) → (Nat → Nat → Int32) → (Nat → Int32) → (Nat → Int32) → (Nat → Nat → Int32) → (Nat → Nat → Int64) → (Nat → Nat → Int32) → Prop) : Prop := wp_X2_recorderOf p0 writers (fun (r_6 : Int32) => wp_X7_record r_6 p1 p2 p3 active rests writers next known rec m_made m_sort m_digits m_slots m_pages m_highest m_units m_kinds m_rows m_marks q_active q_rests q_writers l_made l_sort l_digits l_slots l_pages l_highest l_units l_kinds l_rows l_marks (fun (r_14 : Int64) (next_14 : Int32) (known_14 : Int32) (rec_14 : Nat → Int32) (m_made_14 : Nat → Int32) (m_sort_14 : Nat → Int32) (m_digits_14 : Nat → Int32) (m_slots_14 : Nat → Int32) (m_pages_14 : Nat → Int32) (m_highest_14 : Nat → Int64) (m_units_14 : Nat → Nat → Int64) (m_kinds_14 : Nat → Nat → Int32) (m_rows_14 : Nat → Nat → Int32) (m_marks_14 : Nat → Nat → Int32) (q_active_14 : Nat → Int32) (q_rests_14 : Nat → Int32) (q_writers_14 : Nat → Nat → Int32) (l_units_14 : Nat → Nat → Int64) (l_kinds_14 : Nat → Nat → Int32) => Q r_14 next_14 known_14 rec_14 m_made_14 m_sort_14 m_digits_14 m_slots_14 m_pages_14 m_highest_14 m_units_14 m_kinds_14 m_rows_14 m_marks_14 q_active_14 q_rests_14 q_writers_14 l_units_14 l_kinds_14))
set_option maxHeartbeats 4000000 in
set_option maxRecDepth 100000 in
theorem c_X7_write {l : Launch} {D : va_G} {cB cI cJ cL cS : ClassId} {T : Nat × Nat × Nat × Nat} {ad : Nat → Nat} {p0 : Int32} {p1 : Int64} {p2 : Int64} {p3 : Int64} {active : Int32} {rests : Int32} {writers : Nat → Int32} {tbytes : Nat → Int32} {tlen : Int32} {dbytes : Nat → Int32} {dlen : Int32} {next : Int32} {known : Int32} {rec : Nat → Int32} {m_made : Nat → Int32} {m_sort : Nat → Int32} {m_digits : Nat → Int32} {m_slots : Nat → Int32} {m_pages : Nat → Int32} {m_highest : Nat → Int64} {m_units : Nat → Nat → Int64} {m_kinds : Nat → Nat → Int32} {m_rows : Nat → Nat → Int32} {m_marks : Nat → Nat → Int32} {q_active : Nat → Int32} {q_rests : Nat → Int32} {q_writers : Nat → Nat → Int32} {l_made : Nat → Int32} {l_sort : Nat → Int32} {l_digits : Nat → Int32} {l_slots : Nat → Int32} {l_pages : Nat → Int32} {l_highest : Nat → Int64} {l_units : Nat → Nat → Int64} {l_kinds : Nat → Nat → Int32} {l_rows : Nat → Nat → Int32} {l_marks : Nat → Nat → Int32} {Q : Int64 → Int32 → Int32 → (Nat → Int32) → (Nat → Int32) → (Nat → Int32) → (Nat → Int32) → (Nat → Int32) → (Nat → Int32) → (Nat → Int64) → (Nat → Nat → Int64) → (Nat → Nat → Int32) → (Nat → Nat → Int32) → (Nat → Nat → Int32) → (Nat → Int32) → (Nat → Int32) → (Nat → Nat → Int32) → (Nat → Nat → Int64) → (Nat → Nat → Int32) → Prop} (hw : wp_X7_write p0 p1 p2 p3 active rests writers next known rec m_made m_sort m_digits m_slots m_pages m_highest m_units m_kinds m_rows m_marks q_active q_rests q_writers l_made l_sort l_digits l_slots l_pages l_highest l_units l_kinds l_rows l_marks Q) : CtL l D (Z5 cB cI cJ cL cS) T yX7_write cX7_write 8 ({ frames := 6, cells := 0, slots := 0, locals := 169 } : Room) (Option.some Jvm.ClassFile.FieldType.long) [.ref (ad 0), .int p0, .long p1, .long p2, .long p3] (mw ad 94 (ctT cI cJ cL cS ad active rests writers tbytes tlen dbytes dlen next known rec m_made m_sort m_digits m_slots m_pages m_highest m_units m_kinds m_rows m_marks q_active q_rests q_writers l_made l_sort l_digits l_slots l_pages l_highest l_units l_kinds l_rows l_marks)) (fun (u : Int32 × Int32 × (Nat → Int32) × (Nat → Int32) × (Nat → Int32) × (Nat → Int32) × (Nat → Int32) × (Nat → Int32) × (Nat → Int64) × (Nat → Nat → Int64) × (Nat → Nat → Int32) × (Nat → Nat → Int32) × (Nat → Nat → Int32) × (Nat → Int32) × (Nat → Int32) × (Nat → Nat → Int32) × (Nat → Nat → Int64) × (Nat → Nat → Int32)) => (mw ad 94 (ctT cI cJ cL cS ad active rests writers tbytes tlen dbytes dlen u.1 u.2.1 u.2.2.1 u.2.2.2.1 u.2.2.2.2.1 u.2.2.2.2.2.1 u.2.2.2.2.2.2.1 u.2.2.2.2.2.2.2.1 u.2.2.2.2.2.2.2.2.1 u.2.2.2.2.2.2.2.2.2.1 u.2.2.2.2.2.2.2.2.2.2.1 u.2.2.2.2.2.2.2.2.2.2.2.1 u.2.2.2.2.2.2.2.2.2.2.2.2.1 u.2.2.2.2.2.2.2.2.2.2.2.2.2.1 u.2.2.2.2.2.2.2.2.2.2.2.2.2.2.1 u.2.2.2.2.2.2.2.2.2.2.2.2.2.2.2.1 l_made l_sort l_digits l_slots l_pages l_highest u.2.2.2.2.2.2.2.2.2.2.2.2.2.2.2.2.1 u.2.2.2.2.2.2.2.2.2.2.2.2.2.2.2.2.2 l_rows l_marks))) (fun (r : Int64) (u : Int32 × Int32 × (Nat → Int32) × (Nat → Int32) × (Nat → Int32) × (Nat → Int32) × (Nat → Int32) × (Nat → Int32) × (Nat → Int64) × (Nat → Nat → Int64) × (Nat → Nat → Int32) × (Nat → Nat → Int32) × (Nat → Nat → Int32) × (Nat → Int32) × (Nat → Int32) × (Nat → Nat → Int32) × (Nat → Nat → Int64) × (Nat → Nat → Int32)) => Q r u.1 u.2.1 u.2.2.1 u.2.2.2.1 u.2.2.2.2.1 u.2.2.2.2.2.1 u.2.2.2.2.2.2.1 u.2.2.2.2.2.2.2.1 u.2.2.2.2.2.2.2.2.1 u.2.2.2.2.2.2.2.2.2.1 u.2.2.2.2.2.2.2.2.2.2.1 u.2.2.2.2.2.2.2.2.2.2.2.1 u.2.2.2.2.2.2.2.2.2.2.2.2.1 u.2.2.2.2.2.2.2.2.2.2.2.2.2.1 u.2.2.2.2.2.2.2.2.2.2.2.2.2.2.1 u.2.2.2.2.2.2.2.2.2.2.2.2.2.2.2.1 u.2.2.2.2.2.2.2.2.2.2.2.2.2.2.2.2.1 u.2.2.2.2.2.2.2.2.2.2.2.2.2.2.2.2.2) 0 0 := by
  refine ctL_of (own := RX7) (by decide +kernel) rfl (Nat.le_of_ble_eq_true rfl) (fun p e s m below meth c A C => ?_)
  refine w_sub (lv' := [(0, .ref (ad 0)), (1, .int p0), (2, .long p1), (4, .long p2), (6, .long p3)]) C [0, 1, 2, 3, 4] rfl ?_
  unfold wp_X7_write at hw
  refine w_aload_n C 0 dX7_write_0 rfl ?_
  refine w_aload_n C 0 dX7_write_1 rfl ?_
  refine w_get C (T1 := TX7) (0) 1 u_X7 k_212 rfl (by decide) (mw_at (by decide) rfl) rfl dX7_write_2 ?_
  refine w_iload_n C 1 dX7_write_5 rfl ?_
  refine w_callXI C (c_X2_recorderOf (a := fun i => ad (2 + i)) hw) f_X2_recorderOf k_405 k_761 rfl ⟨Nat.le_of_ble_eq_true rfl, Nat.le_of_ble_eq_true rfl⟩ rfl rfl ⟨Nat.le_of_ble_eq_true rfl, Nat.le_of_ble_eq_true rfl⟩ 0 rfl (rr := (RX2, TX2, 3)) rfl rfl (ad := ad) (N := 94) (plP) (wc_P (cB := cB)) lt_P nd_P (fun (u : Unit) => (ctT cI cJ cL cS ad active rests writers tbytes tlen dbytes dlen next known rec m_made m_sort m_digits m_slots m_pages m_highest m_units m_kinds m_rows m_marks q_active q_rests q_writers l_made l_sort l_digits l_slots l_pages l_highest l_units l_kinds l_rows l_marks)) (fun _ => rfl) (fun _ _ _ _ => rfl) rfl (Nat.le_of_ble_eq_true rfl) dX7_write_6 (fun r_6 u_6 hw => ?_)
  try dsimp only at hw
  refine w_lload_n C 2 dX7_write_9 rfl ?_
  refine w_lload C 3 dX7_write_10 rfl ?_
  refine w_lload C 4 dX7_write_12 rfl ?_
  refine w_callVL C (c_X7_record (ad := ad) hw) f_X7_record k_506 k_767 rfl ⟨Nat.le_of_ble_eq_true rfl, Nat.le_of_ble_eq_true rfl⟩ rfl rfl ⟨Nat.le_of_ble_eq_true rfl, Nat.le_of_ble_eq_true rfl⟩ 0 (mw_at (by decide) rfl) (rr := (RX7, TX7, 5)) rfl rfl (fun _ => mw_addr) rfl (Nat.le_of_ble_eq_true rfl) dX7_write_14 (fun r_14 u_14 hw => ?_)
  obtain ⟨next_14, known_14, rec_14, m_made_14, m_sort_14, m_digits_14, m_slots_14, m_pages_14, m_highest_14, m_units_14, m_kinds_14, m_rows_14, m_marks_14, q_active_14, q_rests_14, q_writers_14, l_units_14, l_kinds_14⟩ := u_14
  try dsimp only at hw
  exact w_lret C (next_14, known_14, rec_14, m_made_14, m_sort_14, m_digits_14, m_slots_14, m_pages_14, m_highest_14, m_units_14, m_kinds_14, m_rows_14, m_marks_14, q_active_14, q_rests_14, q_writers_14, l_units_14, l_kinds_14) hw rfl (Nat.le_of_ble_eq_true rfl) (Nat.le_of_ble_eq_true rfl) dX7_write_17
def wp_X7_stop (p0 : Int32) (active : Int32) (rests : Int32) (writers : Nat → Int32) (next : Int32) (known : Int32) (rec : Nat → Int32) (m_made : Nat → Int32) (m_sort : Nat → Int32) (m_digits : Nat → Int32) (m_slots : Nat → Int32) (m_pages : Nat → Int32) (m_highest : Nat → Int64) (m_units : Nat → Nat → Int64) (m_kinds : Nat → Nat → Int32) (m_rows : Nat → Nat → Int32) (m_marks : Nat → Nat → Int32) (q_active : Nat → Int32) (q_rests : Nat → Int32) (q_writers : Nat → Nat → Int32) (l_made : Nat → Int32) (l_sort : Nat → Int32) (l_digits : Nat → Int32) (l_slots : Nat → Int32) (l_pages : Nat → Int32) (l_highest : Nat → Int64) (l_units : Nat → Nat → Int64) (l_kinds : Nat → Nat → Int32) (l_rows : Nat → Nat → Int32) (l_marks : Nat → Nat → Int32) (Q : Int32 → (Nat → Int32) → Int32 → Int32 → (Nat → Int32) → (Nat → Int32) → (Nat → Int32) → (Nat → Int32) → (Nat → Int32) → (Nat → Int32) → (Nat → Int64) → (Nat → Nat → Int64) → (Nat → Nat → Int32) → (Nat → Nat → Int32) → (Nat → Nat → Int32) → (Nat → Int32) → (Nat → Int32) → (Nat → Nat → Int32) → Prop) : Prop := wp_X2_recorderOf p0 writers (fun (r_5 : Int32) => ((¬ r_5 = (-1 : Int32) → (wp_X7_remember (-1 : Int32) active rests writers next known rec m_made m_sort m_digits m_slots m_pages m_highest m_units m_kinds m_rows m_marks q_active q_rests q_writers l_made l_sort l_digits l_slots l_pages l_highest l_units l_kinds l_rows l_marks (fun (next_16 : Int32) (known_16 : Int32) (rec_16 : Nat → Int32) (m_made_16 : Nat → Int32) (m_sort_16 : Nat → Int32) (m_digits_16 : Nat → Int32) (m_slots_16 : Nat → Int32) (m_pages_16 : Nat → Int32) (m_highest_16 : Nat → Int64) (m_units_16 : Nat → Nat → Int64) (m_kinds_16 : Nat → Nat → Int32) (m_rows_16 : Nat → Nat → Int32) (m_marks_16 : Nat → Nat → Int32) (q_active_16 : Nat → Int32) (q_rests_16 : Nat → Int32) (q_writers_16 : Nat → Nat → Int32) => wp_X2_setRecorderOf p0 (-1 : Int32) writers (fun (writers_25 : Nat → Int32) => wp_X2_writerBits  writers_25 (fun (r_32 : Int32) => wp_J6_bitCount_0f7a4 r_32  (fun (r_35 : Int32) => Q r_35 writers_25 next_16 known_16 rec_16 m_made_16 m_sort_16 m_digits_16 m_slots_16 m_pages_16 m_highest_16 m_units_16 m_kinds_16 m_rows_16 m_marks_16 q_active_16 q_rests_16 q_writers_16)))))) ∧ (r_5 = (-1 : Int32) → (Q (-1 : Int32) writers next known rec m_made m_sort m_digits m_slots m_pages m_highest m_units m_kinds m_rows m_marks q_active q_rests q_writers))))
set_option maxHeartbeats 4000000 in
set_option maxRecDepth 100000 in
theorem c_X7_stop {l : Launch} {D : va_G} {cB cI cJ cL cS : ClassId} {T : Nat × Nat × Nat × Nat} {ad : Nat → Nat} {p0 : Int32} {active : Int32} {rests : Int32} {writers : Nat → Int32} {tbytes : Nat → Int32} {tlen : Int32} {dbytes : Nat → Int32} {dlen : Int32} {next : Int32} {known : Int32} {rec : Nat → Int32} {m_made : Nat → Int32} {m_sort : Nat → Int32} {m_digits : Nat → Int32} {m_slots : Nat → Int32} {m_pages : Nat → Int32} {m_highest : Nat → Int64} {m_units : Nat → Nat → Int64} {m_kinds : Nat → Nat → Int32} {m_rows : Nat → Nat → Int32} {m_marks : Nat → Nat → Int32} {q_active : Nat → Int32} {q_rests : Nat → Int32} {q_writers : Nat → Nat → Int32} {l_made : Nat → Int32} {l_sort : Nat → Int32} {l_digits : Nat → Int32} {l_slots : Nat → Int32} {l_pages : Nat → Int32} {l_highest : Nat → Int64} {l_units : Nat → Nat → Int64} {l_kinds : Nat → Nat → Int32} {l_rows : Nat → Nat → Int32} {l_marks : Nat → Nat → Int32} {Q : Int32 → (Nat → Int32) → Int32 → Int32 → (Nat → Int32) → (Nat → Int32) → (Nat → Int32) → (Nat → Int32) → (Nat → Int32) → (Nat → Int32) → (Nat → Int64) → (Nat → Nat → Int64) → (Nat → Nat → Int32) → (Nat → Nat → Int32) → (Nat → Nat → Int32) → (Nat → Int32) → (Nat → Int32) → (Nat → Nat → Int32) → Prop} (hw : wp_X7_stop p0 active rests writers next known rec m_made m_sort m_digits m_slots m_pages m_highest m_units m_kinds m_rows m_marks q_active q_rests q_writers l_made l_sort l_digits l_slots l_pages l_highest l_units l_kinds l_rows l_marks Q) : CtI l D (Z5 cB cI cJ cL cS) T yX7_stop cX7_stop 2 ({ frames := 3, cells := 0, slots := 0, locals := 85 } : Room) (Option.some Jvm.ClassFile.FieldType.int) [.ref (ad 0), .int p0] (mw ad 94 (ctT cI cJ cL cS ad active rests writers tbytes tlen dbytes dlen next known rec m_made m_sort m_digits m_slots m_pages m_highest m_units m_kinds m_rows m_marks q_active q_rests q_writers l_made l_sort l_digits l_slots l_pages l_highest l_units l_kinds l_rows l_marks)) (fun (u : (Nat → Int32) × Int32 × Int32 × (Nat → Int32) × (Nat → Int32) × (Nat → Int32) × (Nat → Int32) × (Nat → Int32) × (Nat → Int32) × (Nat → Int64) × (Nat → Nat → Int64) × (Nat → Nat → Int32) × (Nat → Nat → Int32) × (Nat → Nat → Int32) × (Nat → Int32) × (Nat → Int32) × (Nat → Nat → Int32)) => (mw ad 94 (ctT cI cJ cL cS ad active rests u.1 tbytes tlen dbytes dlen u.2.1 u.2.2.1 u.2.2.2.1 u.2.2.2.2.1 u.2.2.2.2.2.1 u.2.2.2.2.2.2.1 u.2.2.2.2.2.2.2.1 u.2.2.2.2.2.2.2.2.1 u.2.2.2.2.2.2.2.2.2.1 u.2.2.2.2.2.2.2.2.2.2.1 u.2.2.2.2.2.2.2.2.2.2.2.1 u.2.2.2.2.2.2.2.2.2.2.2.2.1 u.2.2.2.2.2.2.2.2.2.2.2.2.2.1 u.2.2.2.2.2.2.2.2.2.2.2.2.2.2.1 u.2.2.2.2.2.2.2.2.2.2.2.2.2.2.2.1 u.2.2.2.2.2.2.2.2.2.2.2.2.2.2.2.2 l_made l_sort l_digits l_slots l_pages l_highest l_units l_kinds l_rows l_marks))) (fun (r : Int32) (u : (Nat → Int32) × Int32 × Int32 × (Nat → Int32) × (Nat → Int32) × (Nat → Int32) × (Nat → Int32) × (Nat → Int32) × (Nat → Int32) × (Nat → Int64) × (Nat → Nat → Int64) × (Nat → Nat → Int32) × (Nat → Nat → Int32) × (Nat → Nat → Int32) × (Nat → Int32) × (Nat → Int32) × (Nat → Nat → Int32)) => Q r u.1 u.2.1 u.2.2.1 u.2.2.2.1 u.2.2.2.2.1 u.2.2.2.2.2.1 u.2.2.2.2.2.2.1 u.2.2.2.2.2.2.2.1 u.2.2.2.2.2.2.2.2.1 u.2.2.2.2.2.2.2.2.2.1 u.2.2.2.2.2.2.2.2.2.2.1 u.2.2.2.2.2.2.2.2.2.2.2.1 u.2.2.2.2.2.2.2.2.2.2.2.2.1 u.2.2.2.2.2.2.2.2.2.2.2.2.2.1 u.2.2.2.2.2.2.2.2.2.2.2.2.2.2.1 u.2.2.2.2.2.2.2.2.2.2.2.2.2.2.2.1 u.2.2.2.2.2.2.2.2.2.2.2.2.2.2.2.2) 0 0 := by
  refine ctI_of (own := RX7) (by decide +kernel) rfl (Nat.le_of_ble_eq_true rfl) (fun p e s m below meth c A C => ?_)
  refine w_sub (lv' := [(0, .ref (ad 0)), (1, .int p0)]) C [0, 1] rfl ?_
  unfold wp_X7_stop at hw
  refine w_aload_n C 0 dX7_stop_0 rfl ?_
  refine w_get C (T1 := TX7) (0) 1 u_X7 k_212 rfl (by decide) (mw_at (by decide) rfl) rfl dX7_stop_1 ?_
  refine w_iload_n C 1 dX7_stop_4 rfl ?_
  refine w_callXI C (c_X2_recorderOf (a := fun i => ad (2 + i)) hw) f_X2_recorderOf k_405 k_761 rfl ⟨Nat.le_of_ble_eq_true rfl, Nat.le_of_ble_eq_true rfl⟩ rfl rfl ⟨Nat.le_of_ble_eq_true rfl, Nat.le_of_ble_eq_true rfl⟩ 0 rfl (rr := (RX2, TX2, 3)) rfl rfl (ad := ad) (N := 94) (plP) (wc_P (cB := cB)) lt_P nd_P (fun (u : Unit) => (ctT cI cJ cL cS ad active rests writers tbytes tlen dbytes dlen next known rec m_made m_sort m_digits m_slots m_pages m_highest m_units m_kinds m_rows m_marks q_active q_rests q_writers l_made l_sort l_digits l_slots l_pages l_highest l_units l_kinds l_rows l_marks)) (fun _ => rfl) (fun _ _ _ _ => rfl) rfl (Nat.le_of_ble_eq_true rfl) dX7_stop_5 (fun r_5 u_5 hw => ?_)
  try dsimp only at hw
  refine w_iconst C (v := (-1 : Int32)) dX7_stop_8 (by decide) ?_
  refine w_icmp_ne C 14 (by decide) dX7_stop_9 (fun c_9 => ?_) (fun c_9 => ?_)
  · replace hw := hw.1 c_9
    refine w_aload_n C 0 dX7_stop_14 rfl ?_
    refine w_iconst C (v := (-1 : Int32)) dX7_stop_15 (by decide) ?_
    refine w_callVV C (c_X7_remember (ad := ad) hw) f_X7_remember k_8 k_386 rfl ⟨Nat.le_of_ble_eq_true rfl, Nat.le_of_ble_eq_true rfl⟩ rfl rfl ⟨Nat.le_of_ble_eq_true rfl, Nat.le_of_ble_eq_true rfl⟩ 0 (mw_at (by decide) rfl) (rr := (RX7, TX7, 5)) rfl rfl (fun _ => mw_addr) rfl (Nat.le_of_ble_eq_true rfl) dX7_stop_16 (fun u_16 hw => ?_)
    obtain ⟨next_16, known_16, rec_16, m_made_16, m_sort_16, m_digits_16, m_slots_16, m_pages_16, m_highest_16, m_units_16, m_kinds_16, m_rows_16, m_marks_16, q_active_16, q_rests_16, q_writers_16⟩ := u_16
    try dsimp only at hw
    refine w_aload_n C 0 dX7_stop_19 rfl ?_
    refine w_get C (T1 := TX7) (0) 1 u_X7 k_212 rfl (by decide) (mw_at (by decide) rfl) rfl dX7_stop_20 ?_
    refine w_iload_n C 1 dX7_stop_23 rfl ?_
    refine w_iconst C (v := (-1 : Int32)) dX7_stop_24 (by decide) ?_
    refine w_callXV C (c_X2_setRecorderOf (a := fun i => ad (2 + i)) hw) f_X2_setRecorderOf k_409 k_762 rfl ⟨Nat.le_of_ble_eq_true rfl, Nat.le_of_ble_eq_true rfl⟩ rfl rfl ⟨Nat.le_of_ble_eq_true rfl, Nat.le_of_ble_eq_true rfl⟩ 0 rfl (rr := (RX2, TX2, 3)) rfl rfl (ad := ad) (N := 94) (plP) (wc_P (cB := cB)) lt_P nd_P (fun (u : (Nat → Int32)) => (ctT cI cJ cL cS ad active rests u tbytes tlen dbytes dlen next_16 known_16 rec_16 m_made_16 m_sort_16 m_digits_16 m_slots_16 m_pages_16 m_highest_16 m_units_16 m_kinds_16 m_rows_16 m_marks_16 q_active_16 q_rests_16 q_writers_16 l_made l_sort l_digits l_slots l_pages l_highest l_units l_kinds l_rows l_marks)) (fun _ => rfl) (fun _ n _ hn => rest_P n hn) rfl (Nat.le_of_ble_eq_true rfl) dX7_stop_25 (fun u_25 hw => ?_)
    obtain ⟨writers_25, rfl⟩ : ∃ z, z = u_25 := ⟨_, rfl⟩
    try dsimp only at hw
    refine w_aload_n C 0 dX7_stop_28 rfl ?_
    refine w_get C (T1 := TX7) (0) 1 u_X7 k_212 rfl (by decide) (mw_at (by decide) rfl) rfl dX7_stop_29 ?_
    refine w_callXI C (c_X2_writerBits (a := fun i => ad (2 + i)) hw) f_X2_writerBits k_774 k_772 rfl ⟨Nat.le_of_ble_eq_true rfl, Nat.le_of_ble_eq_true rfl⟩ rfl rfl ⟨Nat.le_of_ble_eq_true rfl, Nat.le_of_ble_eq_true rfl⟩ 0 rfl (rr := (RX2, TX2, 3)) rfl rfl (ad := ad) (N := 94) (plP) (wc_P (cB := cB)) lt_P nd_P (fun (u : Unit) => (ctT cI cJ cL cS ad active rests writers_25 tbytes tlen dbytes dlen next_16 known_16 rec_16 m_made_16 m_sort_16 m_digits_16 m_slots_16 m_pages_16 m_highest_16 m_units_16 m_kinds_16 m_rows_16 m_marks_16 q_active_16 q_rests_16 q_writers_16 l_made l_sort l_digits l_slots l_pages l_highest l_units l_kinds l_rows l_marks)) (fun _ => rfl) (fun _ _ _ _ => rfl) rfl (Nat.le_of_ble_eq_true rfl) dX7_stop_32 (fun r_32 u_32 hw => ?_)
    try dsimp only at hw
    refine w_callSI C (c_J6_bitCount_0f7a4 hw) f_J6_bitCount_0f7a4 k_776 rfl ⟨Nat.le_of_ble_eq_true rfl, Nat.le_of_ble_eq_true rfl⟩ rfl rfl ⟨Nat.le_of_ble_eq_true rfl, Nat.le_of_ble_eq_true rfl⟩ rfl (Nat.le_of_ble_eq_true rfl) dX7_stop_35 (fun r_35 u_35 hw => ?_)
    try dsimp only at hw
    exact w_iret C (writers_25, next_16, known_16, rec_16, m_made_16, m_sort_16, m_digits_16, m_slots_16, m_pages_16, m_highest_16, m_units_16, m_kinds_16, m_rows_16, m_marks_16, q_active_16, q_rests_16, q_writers_16) hw rfl (Nat.le_of_ble_eq_true rfl) (Nat.le_of_ble_eq_true rfl) dX7_stop_38
  · replace hw := hw.2 c_9
    refine w_iconst C (v := (-1 : Int32)) dX7_stop_12 (by decide) ?_
    exact w_iret C (writers, next, known, rec, m_made, m_sort, m_digits, m_slots, m_pages, m_highest, m_units, m_kinds, m_rows, m_marks, q_active, q_rests, q_writers) hw rfl (Nat.le_of_ble_eq_true rfl) (Nat.le_of_ble_eq_true rfl) dX7_stop_13
def wp_X7_swap  (active : Int32) (rests : Int32) (writers : Nat → Int32) (next : Int32) (known : Int32) (rec : Nat → Int32) (m_made : Nat → Int32) (m_sort : Nat → Int32) (m_digits : Nat → Int32) (m_slots : Nat → Int32) (m_pages : Nat → Int32) (m_highest : Nat → Int64) (m_units : Nat → Nat → Int64) (m_kinds : Nat → Nat → Int32) (m_rows : Nat → Nat → Int32) (m_marks : Nat → Nat → Int32) (q_active : Nat → Int32) (q_rests : Nat → Int32) (q_writers : Nat → Nat → Int32) (l_made : Nat → Int32) (l_sort : Nat → Int32) (l_digits : Nat → Int32) (l_slots : Nat → Int32) (l_pages : Nat → Int32) (l_highest : Nat → Int64) (l_units : Nat → Nat → Int64) (l_kinds : Nat → Nat → Int32) (l_rows : Nat → Nat → Int32) (l_marks : Nat → Nat → Int32) (Q : Int32 → Int32 → Int32 → Int32 → Int32 → (Nat → Int32) → (Nat → Int32) → (Nat → Int32) → (Nat → Int32) → (Nat → Int32) → (Nat → Int32) → (Nat → Int64) → (Nat → Nat → Int64) → (Nat → Nat → Int32) → (Nat → Nat → Int32) → (Nat → Nat → Int32) → (Nat → Int32) → (Nat → Int32) → (Nat → Nat → Int32) → (Nat → Nat → Int64) → (Nat → Nat → Int32) → (Nat → Nat → Int32) → (Nat → Nat → Int32) → Prop) : Prop := wp_X7_madeAt ((1 : Int32) - active) l_made (fun (r_10 : Option Nat) => ((r_10 = none → (Q (-1 : Int32) active rests next known rec m_made m_sort m_digits m_slots m_pages m_highest m_units m_kinds m_rows m_marks q_active q_rests q_writers l_units l_kinds l_rows l_marks)) ∧ (∀ j_10 : Nat, r_10 = some j_10 → (wp_X7_madeAt active l_made (fun (r_26 : Option Nat) => ((r_26 = none → (Q (-1 : Int32) active rests next known rec m_made m_sort m_digits m_slots m_pages m_highest m_units m_kinds m_rows m_marks q_active q_rests q_writers l_units l_kinds l_rows l_marks)) ∧ (∀ j_26 : Nat, r_26 = some j_26 → (wp_X2_isWrittenTo ((1 : Int32) - active) writers (fun (r_47 : Int32) => ((r_47 = 0 → (wp_X7_remember ((1 : Int32) - active) active rests writers next known rec m_made m_sort m_digits m_slots m_pages m_highest m_units m_kinds m_rows m_marks q_active q_rests q_writers l_made l_sort l_digits l_slots l_pages l_highest l_units l_kinds l_rows l_marks (fun (next_66 : Int32) (known_66 : Int32) (rec_66 : Nat → Int32) (m_made_66 : Nat → Int32) (m_sort_66 : Nat → Int32) (m_digits_66 : Nat → Int32) (m_slots_66 : Nat → Int32) (m_pages_66 : Nat → Int32) (m_highest_66 : Nat → Int64) (m_units_66 : Nat → Nat → Int64) (m_kinds_66 : Nat → Nat → Int32) (m_rows_66 : Nat → Nat → Int32) (m_marks_66 : Nat → Nat → Int32) (q_active_66 : Nat → Int32) (q_rests_66 : Nat → Int32) (q_writers_66 : Nat → Nat → Int32) => wp_X1_clear  (l_units j_10) (l_kinds j_10) (l_rows j_10) (l_marks j_10) (fun (l_units_70 : Nat → Int64) (l_kinds_70 : Nat → Int32) (l_rows_70 : Nat → Int32) (l_marks_70 : Nat → Int32) => ∀ rests_84 : Int32, rests_84 = active → ∀ active_100 : Int32, active_100 = ((1 : Int32) - active) → Q active_100 active_100 rests_84 next_66 known_66 rec_66 m_made_66 m_sort_66 m_digits_66 m_slots_66 m_pages_66 m_highest_66 m_units_66 m_kinds_66 m_rows_66 m_marks_66 q_active_66 q_rests_66 q_writers_66 (va_up l_units j_10 l_units_70) (va_up l_kinds j_10 l_kinds_70) (va_up l_rows j_10 l_rows_70) (va_up l_marks j_10 l_marks_70))))) ∧ (¬ r_47 = 0 → (Q (-2 : Int32) active rests next known rec m_made m_sort m_digits m_slots m_pages m_highest m_units m_kinds m_rows m_marks q_active q_rests q_writers l_units l_kinds l_rows l_marks))))))))))))
set_option maxHeartbeats 4000000 in
set_option maxRecDepth 100000 in
theorem c_X7_swap {l : Launch} {D : va_G} {cB cI cJ cL cS : ClassId} {T : Nat × Nat × Nat × Nat} {ad : Nat → Nat}  {active : Int32} {rests : Int32} {writers : Nat → Int32} {tbytes : Nat → Int32} {tlen : Int32} {dbytes : Nat → Int32} {dlen : Int32} {next : Int32} {known : Int32} {rec : Nat → Int32} {m_made : Nat → Int32} {m_sort : Nat → Int32} {m_digits : Nat → Int32} {m_slots : Nat → Int32} {m_pages : Nat → Int32} {m_highest : Nat → Int64} {m_units : Nat → Nat → Int64} {m_kinds : Nat → Nat → Int32} {m_rows : Nat → Nat → Int32} {m_marks : Nat → Nat → Int32} {q_active : Nat → Int32} {q_rests : Nat → Int32} {q_writers : Nat → Nat → Int32} {l_made : Nat → Int32} {l_sort : Nat → Int32} {l_digits : Nat → Int32} {l_slots : Nat → Int32} {l_pages : Nat → Int32} {l_highest : Nat → Int64} {l_units : Nat → Nat → Int64} {l_kinds : Nat → Nat → Int32} {l_rows : Nat → Nat → Int32} {l_marks : Nat → Nat → Int32} {Q : Int32 → Int32 → Int32 → Int32 → Int32 → (Nat → Int32) → (Nat → Int32) → (Nat → Int32) → (Nat → Int32) → (Nat → Int32) → (Nat → Int32) → (Nat → Int64) → (Nat → Nat → Int64) → (Nat → Nat → Int32) → (Nat → Nat → Int32) → (Nat → Nat → Int32) → (Nat → Int32) → (Nat → Int32) → (Nat → Nat → Int32) → (Nat → Nat → Int64) → (Nat → Nat → Int32) → (Nat → Nat → Int32) → (Nat → Nat → Int32) → Prop} (hw : wp_X7_swap  active rests writers next known rec m_made m_sort m_digits m_slots m_pages m_highest m_units m_kinds m_rows m_marks q_active q_rests q_writers l_made l_sort l_digits l_slots l_pages l_highest l_units l_kinds l_rows l_marks Q) : CtI l D (Z5 cB cI cJ cL cS) T yX7_swap cX7_swap 2 ({ frames := 3, cells := 0, slots := 0, locals := 85 } : Room) (Option.some Jvm.ClassFile.FieldType.int) [.ref (ad 0)] (mw ad 94 (ctT cI cJ cL cS ad active rests writers tbytes tlen dbytes dlen next known rec m_made m_sort m_digits m_slots m_pages m_highest m_units m_kinds m_rows m_marks q_active q_rests q_writers l_made l_sort l_digits l_slots l_pages l_highest l_units l_kinds l_rows l_marks)) (fun (u : Int32 × Int32 × Int32 × Int32 × (Nat → Int32) × (Nat → Int32) × (Nat → Int32) × (Nat → Int32) × (Nat → Int32) × (Nat → Int32) × (Nat → Int64) × (Nat → Nat → Int64) × (Nat → Nat → Int32) × (Nat → Nat → Int32) × (Nat → Nat → Int32) × (Nat → Int32) × (Nat → Int32) × (Nat → Nat → Int32) × (Nat → Nat → Int64) × (Nat → Nat → Int32) × (Nat → Nat → Int32) × (Nat → Nat → Int32)) => (mw ad 94 (ctT cI cJ cL cS ad u.1 u.2.1 writers tbytes tlen dbytes dlen u.2.2.1 u.2.2.2.1 u.2.2.2.2.1 u.2.2.2.2.2.1 u.2.2.2.2.2.2.1 u.2.2.2.2.2.2.2.1 u.2.2.2.2.2.2.2.2.1 u.2.2.2.2.2.2.2.2.2.1 u.2.2.2.2.2.2.2.2.2.2.1 u.2.2.2.2.2.2.2.2.2.2.2.1 u.2.2.2.2.2.2.2.2.2.2.2.2.1 u.2.2.2.2.2.2.2.2.2.2.2.2.2.1 u.2.2.2.2.2.2.2.2.2.2.2.2.2.2.1 u.2.2.2.2.2.2.2.2.2.2.2.2.2.2.2.1 u.2.2.2.2.2.2.2.2.2.2.2.2.2.2.2.2.1 u.2.2.2.2.2.2.2.2.2.2.2.2.2.2.2.2.2.1 l_made l_sort l_digits l_slots l_pages l_highest u.2.2.2.2.2.2.2.2.2.2.2.2.2.2.2.2.2.2.1 u.2.2.2.2.2.2.2.2.2.2.2.2.2.2.2.2.2.2.2.1 u.2.2.2.2.2.2.2.2.2.2.2.2.2.2.2.2.2.2.2.2.1 u.2.2.2.2.2.2.2.2.2.2.2.2.2.2.2.2.2.2.2.2.2))) (fun (r : Int32) (u : Int32 × Int32 × Int32 × Int32 × (Nat → Int32) × (Nat → Int32) × (Nat → Int32) × (Nat → Int32) × (Nat → Int32) × (Nat → Int32) × (Nat → Int64) × (Nat → Nat → Int64) × (Nat → Nat → Int32) × (Nat → Nat → Int32) × (Nat → Nat → Int32) × (Nat → Int32) × (Nat → Int32) × (Nat → Nat → Int32) × (Nat → Nat → Int64) × (Nat → Nat → Int32) × (Nat → Nat → Int32) × (Nat → Nat → Int32)) => Q r u.1 u.2.1 u.2.2.1 u.2.2.2.1 u.2.2.2.2.1 u.2.2.2.2.2.1 u.2.2.2.2.2.2.1 u.2.2.2.2.2.2.2.1 u.2.2.2.2.2.2.2.2.1 u.2.2.2.2.2.2.2.2.2.1 u.2.2.2.2.2.2.2.2.2.2.1 u.2.2.2.2.2.2.2.2.2.2.2.1 u.2.2.2.2.2.2.2.2.2.2.2.2.1 u.2.2.2.2.2.2.2.2.2.2.2.2.2.1 u.2.2.2.2.2.2.2.2.2.2.2.2.2.2.1 u.2.2.2.2.2.2.2.2.2.2.2.2.2.2.2.1 u.2.2.2.2.2.2.2.2.2.2.2.2.2.2.2.2.1 u.2.2.2.2.2.2.2.2.2.2.2.2.2.2.2.2.2.1 u.2.2.2.2.2.2.2.2.2.2.2.2.2.2.2.2.2.2.1 u.2.2.2.2.2.2.2.2.2.2.2.2.2.2.2.2.2.2.2.1 u.2.2.2.2.2.2.2.2.2.2.2.2.2.2.2.2.2.2.2.2.1 u.2.2.2.2.2.2.2.2.2.2.2.2.2.2.2.2.2.2.2.2.2) 0 0 := by
  refine ctI_of (own := RX7) (by decide +kernel) rfl (Nat.le_of_ble_eq_true rfl) (fun p e s m below meth c A C => ?_)
  refine w_sub (lv' := [(0, .ref (ad 0))]) C [0] rfl ?_
  unfold wp_X7_swap at hw
  refine w_aload_n C 0 dX7_swap_0 rfl ?_
  refine w_iconst C (v := (1 : Int32)) dX7_swap_1 (by decide) ?_
  refine w_aload_n C 0 dX7_swap_2 rfl ?_
  refine w_get C (T1 := TX7) (0) 1 u_X7 k_212 rfl (by decide) (mw_at (by decide) rfl) rfl dX7_swap_3 ?_
  refine w_getN C (T1 := TX2) (2 + 0) 0 u_X2 n_100 rfl (by decide) (mw_at (by decide) rfl) rfl dX7_swap_6 ?_
  refine w_isub C dX7_swap_9 ?_
  refine w_callVE C (c_X7_madeAt (ad := ad) hw) f_X7_madeAt k_0 k_255 rfl ⟨Nat.le_of_ble_eq_true rfl, Nat.le_of_ble_eq_true rfl⟩ rfl rfl ⟨Nat.le_of_ble_eq_true rfl, Nat.le_of_ble_eq_true rfl⟩ 0 (mw_at (by decide) rfl) (rr := (RX7, TX7, 5)) rfl rfl (fun _ => mw_addr) rfl (Nat.le_of_ble_eq_true rfl) dX7_swap_10 (fun r_10 u_10 hw => ?_)
  obtain ⟨hw, hb_10⟩ := hw
  try dsimp only at hw
  cases r_10 with
  | none =>
    replace hw := hw.1 rfl
    refine w_astore_nN C [(1, .null), (0, .ref (ad 0))] dX7_swap_13 (by decide) rfl ?_
    refine w_aload_nN C 0 dX7_swap_14 rfl ?_
    refine w_ifnullN C 32 (by decide) dX7_swap_15 ?_
    refine w_iconst C (v := (-1 : Int32)) dX7_swap_32 (by decide) ?_
    exact w_iret C (active, rests, next, known, rec, m_made, m_sort, m_digits, m_slots, m_pages, m_highest, m_units, m_kinds, m_rows, m_marks, q_active, q_rests, q_writers, l_units, l_kinds, l_rows, l_marks) hw rfl (Nat.le_of_ble_eq_true rfl) (Nat.le_of_ble_eq_true rfl) dX7_swap_33
  | some j_10 =>
    replace hw := hw.2 j_10 rfl
    have hb_10 := hb_10 j_10 rfl
    refine w_astore_n C [(1, .ref (ad (74 + 5 * j_10 + 0))), (0, .ref (ad 0))] dX7_swap_13 (by decide) rfl ?_
    refine w_aload_n C 0 dX7_swap_14 rfl ?_
    refine w_ifnull C dX7_swap_15 ?_
    refine w_aload_n C 1 dX7_swap_18 rfl ?_
    refine w_aload_n C 1 dX7_swap_19 rfl ?_
    refine w_get C (T1 := TX7) (0) 1 u_X7 k_212 rfl (by decide) (mw_at (by decide) rfl) rfl dX7_swap_20 ?_
    refine w_getN C (T1 := TX2) (2 + 0) 0 u_X2 n_100 rfl (by decide) (mw_at (by decide) rfl) rfl dX7_swap_23 ?_
    refine w_callVE C (c_X7_madeAt (ad := ad) hw) f_X7_madeAt k_0 k_255 rfl ⟨Nat.le_of_ble_eq_true rfl, Nat.le_of_ble_eq_true rfl⟩ rfl rfl ⟨Nat.le_of_ble_eq_true rfl, Nat.le_of_ble_eq_true rfl⟩ 0 (mw_at (by decide) rfl) (rr := (RX7, TX7, 5)) rfl rfl (fun _ => mw_addr) rfl (Nat.le_of_ble_eq_true rfl) dX7_swap_26 (fun r_26 u_26 hw => ?_)
    obtain ⟨hw, hb_26⟩ := hw
    try dsimp only at hw
    cases r_26 with
    | none =>
      replace hw := hw.1 rfl
      refine w_ifnonnullN C dX7_swap_29 ?_
      refine w_iconst C (v := (-1 : Int32)) dX7_swap_32 (by decide) ?_
      exact w_iret C (active, rests, next, known, rec, m_made, m_sort, m_digits, m_slots, m_pages, m_highest, m_units, m_kinds, m_rows, m_marks, q_active, q_rests, q_writers, l_units, l_kinds, l_rows, l_marks) hw rfl (Nat.le_of_ble_eq_true rfl) (Nat.le_of_ble_eq_true rfl) dX7_swap_33
    | some j_26 =>
      replace hw := hw.2 j_26 rfl
      have hb_26 := hb_26 j_26 rfl
      refine w_ifnonnull C 34 (by decide) dX7_swap_29 ?_
      refine w_aload_n C 1 dX7_swap_34 rfl ?_
      refine w_get C (T1 := TX7) (0) 1 u_X7 k_212 rfl (by decide) (mw_at (by decide) rfl) rfl dX7_swap_35 ?_
      refine w_iconst C (v := (1 : Int32)) dX7_swap_38 (by decide) ?_
      refine w_aload_n C 1 dX7_swap_39 rfl ?_
      refine w_get C (T1 := TX7) (0) 1 u_X7 k_212 rfl (by decide) (mw_at (by decide) rfl) rfl dX7_swap_40 ?_
      refine w_getN C (T1 := TX2) (2 + 0) 0 u_X2 n_100 rfl (by decide) (mw_at (by decide) rfl) rfl dX7_swap_43 ?_
      refine w_isub C dX7_swap_46 ?_
      refine w_callXI C (c_X2_isWrittenTo (a := fun i => ad (2 + i)) hw) f_X2_isWrittenTo k_788 k_786 rfl ⟨Nat.le_of_ble_eq_true rfl, Nat.le_of_ble_eq_true rfl⟩ rfl rfl ⟨Nat.le_of_ble_eq_true rfl, Nat.le_of_ble_eq_true rfl⟩ 0 rfl (rr := (RX2, TX2, 3)) rfl rfl (ad := ad) (N := 94) (plP) (wc_P (cB := cB)) lt_P nd_P (fun (u : Unit) => (ctT cI cJ cL cS ad active rests writers tbytes tlen dbytes dlen next known rec m_made m_sort m_digits m_slots m_pages m_highest m_units m_kinds m_rows m_marks q_active q_rests q_writers l_made l_sort l_digits l_slots l_pages l_highest l_units l_kinds l_rows l_marks)) (fun _ => rfl) (fun _ _ _ _ => rfl) rfl (Nat.le_of_ble_eq_true rfl) dX7_swap_47 (fun r_47 u_47 hw => ?_)
      try dsimp only at hw
      refine w_if_eq C 56 (by decide) dX7_swap_50 (fun c_50 => ?_) (fun c_50 => ?_)
      · replace hw := hw.1 c_50
        refine w_aload_n C 1 dX7_swap_56 rfl ?_
        refine w_iconst C (v := (1 : Int32)) dX7_swap_57 (by decide) ?_
        refine w_aload_n C 1 dX7_swap_58 rfl ?_
        refine w_get C (T1 := TX7) (0) 1 u_X7 k_212 rfl (by decide) (mw_at (by decide) rfl) rfl dX7_swap_59 ?_
        refine w_getN C (T1 := TX2) (2 + 0) 0 u_X2 n_100 rfl (by decide) (mw_at (by decide) rfl) rfl dX7_swap_62 ?_
        refine w_isub C dX7_swap_65 ?_
        refine w_callVV C (c_X7_remember (ad := ad) hw) f_X7_remember k_8 k_386 rfl ⟨Nat.le_of_ble_eq_true rfl, Nat.le_of_ble_eq_true rfl⟩ rfl rfl ⟨Nat.le_of_ble_eq_true rfl, Nat.le_of_ble_eq_true rfl⟩ 0 (mw_at (by decide) rfl) (rr := (RX7, TX7, 5)) rfl rfl (fun _ => mw_addr) rfl (Nat.le_of_ble_eq_true rfl) dX7_swap_66 (fun u_66 hw => ?_)
        obtain ⟨next_66, known_66, rec_66, m_made_66, m_sort_66, m_digits_66, m_slots_66, m_pages_66, m_highest_66, m_units_66, m_kinds_66, m_rows_66, m_marks_66, q_active_66, q_rests_66, q_writers_66⟩ := u_66
        try dsimp only at hw
        refine w_aload_n C 0 dX7_swap_69 rfl ?_
        refine w_callXV C (c_X1_clear (a := fun i => ad (74 + 5 * j_10 + i)) hw) f_X1_clear k_428 k_790 rfl ⟨Nat.le_of_ble_eq_true rfl, Nat.le_of_ble_eq_true rfl⟩ rfl rfl ⟨Nat.le_of_ble_eq_true rfl, Nat.le_of_ble_eq_true rfl⟩ 0 rfl (rr := (RX1, TX1, 10)) rfl rfl (ad := ad) (N := 94) ((plL j_10)) (wc_L (cB := cB) j_10) (lt_L (by assumption)) nd_L (fun (u : (Nat → Int64) × (Nat → Int32) × (Nat → Int32) × (Nat → Int32)) => (ctT cI cJ cL cS ad active rests writers tbytes tlen dbytes dlen next_66 known_66 rec_66 m_made_66 m_sort_66 m_digits_66 m_slots_66 m_pages_66 m_highest_66 m_units_66 m_kinds_66 m_rows_66 m_marks_66 q_active_66 q_rests_66 q_writers_66 l_made l_sort l_digits l_slots l_pages l_highest (va_up l_units j_10 u.1) (va_up l_kinds j_10 u.2.1) (va_up l_rows j_10 u.2.2.1) (va_up l_marks j_10 u.2.2.2))) (fun _ => (wc_L (cB := cB) j_10).trans (by first | (simp only [va_up_self]; done) | rfl)) (fun _ n _ hn => rest_L (fun _ _ => rfl) (fun _ _ => rfl) (fun _ _ => rfl) (fun _ _ => rfl) (fun _ _ => rfl) (fun _ _ => rfl) (fun _ h => va_up_ne _ _ h) (fun _ h => va_up_ne _ _ h) (fun _ h => va_up_ne _ _ h) (fun _ h => va_up_ne _ _ h) n hn) rfl (Nat.le_of_ble_eq_true rfl) dX7_swap_70 (fun u_70 hw => ?_)
        obtain ⟨l_units_70, l_kinds_70, l_rows_70, l_marks_70⟩ := u_70
        try dsimp only at hw
        refine w_aload_n C 1 dX7_swap_73 rfl ?_
        refine w_get C (T1 := TX7) (0) 1 u_X7 k_212 rfl (by decide) (mw_at (by decide) rfl) rfl dX7_swap_74 ?_
        refine w_aload_n C 1 dX7_swap_77 rfl ?_
        refine w_get C (T1 := TX7) (0) 1 u_X7 k_212 rfl (by decide) (mw_at (by decide) rfl) rfl dX7_swap_78 ?_
        refine w_getN C (T1 := TX2) (2 + 0) 0 u_X2 n_100 rfl (by decide) (mw_at (by decide) rfl) rfl dX7_swap_81 ?_
        refine w_putiN C (T1 := TX2) (ty := .int) (2 + 0) 1 (fun z => (mw ad 94 (ctT cI cJ cL cS ad active z writers tbytes tlen dbytes dlen next_66 known_66 rec_66 m_made_66 m_sort_66 m_digits_66 m_slots_66 m_pages_66 m_highest_66 m_units_66 m_kinds_66 m_rows_66 m_marks_66 q_active_66 q_rests_66 q_writers_66 l_made l_sort l_digits l_slots l_pages l_highest (va_up l_units j_10 l_units_70) (va_up l_kinds j_10 l_kinds_70) (va_up l_rows j_10 l_rows_70) (va_up l_marks j_10 l_marks_70)))) u_X2 tyX2 tyX2_ok nmX2 n_102 rfl (by decide) (mw_at (by decide) rfl) rfl (by decide +kernel) rfl rfl (Nat.le_of_ble_eq_true rfl) (fun _ => mw_set (by decide) rfl (fun m _ hm => put_P m hm)) dX7_swap_84 (fun rests_84 e_rests_84 => ?_)
        replace hw := hw rests_84 e_rests_84
        refine w_aload_n C 1 dX7_swap_87 rfl ?_
        refine w_get C (T1 := TX7) (0) 1 u_X7 k_212 rfl (by decide) (mw_at (by decide) rfl) rfl dX7_swap_88 ?_
        refine w_iconst C (v := (1 : Int32)) dX7_swap_91 (by decide) ?_
        refine w_aload_n C 1 dX7_swap_92 rfl ?_
        refine w_get C (T1 := TX7) (0) 1 u_X7 k_212 rfl (by decide) (mw_at (by decide) rfl) rfl dX7_swap_93 ?_
        refine w_getN C (T1 := TX2) (2 + 0) 0 u_X2 n_100 rfl (by decide) (mw_at (by decide) rfl) rfl dX7_swap_96 ?_
        refine w_isub C dX7_swap_99 ?_
        refine w_putiN C (T1 := TX2) (ty := .int) (2 + 0) 0 (fun z => (mw ad 94 (ctT cI cJ cL cS ad z rests_84 writers tbytes tlen dbytes dlen next_66 known_66 rec_66 m_made_66 m_sort_66 m_digits_66 m_slots_66 m_pages_66 m_highest_66 m_units_66 m_kinds_66 m_rows_66 m_marks_66 q_active_66 q_rests_66 q_writers_66 l_made l_sort l_digits l_slots l_pages l_highest (va_up l_units j_10 l_units_70) (va_up l_kinds j_10 l_kinds_70) (va_up l_rows j_10 l_rows_70) (va_up l_marks j_10 l_marks_70)))) u_X2 tyX2 tyX2_ok nmX2 n_100 rfl (by decide) (mw_at (by decide) rfl) rfl (by decide +kernel) rfl rfl (Nat.le_of_ble_eq_true rfl) (fun _ => mw_set (by decide) rfl (fun m _ hm => put_P m hm)) dX7_swap_100 (fun active_100 e_active_100 => ?_)
        replace hw := hw active_100 e_active_100
        refine w_aload_n C 1 dX7_swap_103 rfl ?_
        refine w_get C (T1 := TX7) (0) 1 u_X7 k_212 rfl (by decide) (mw_at (by decide) rfl) rfl dX7_swap_104 ?_
        refine w_getN C (T1 := TX2) (2 + 0) 0 u_X2 n_100 rfl (by decide) (mw_at (by decide) rfl) rfl dX7_swap_107 ?_
        exact w_iret C (active_100, rests_84, next_66, known_66, rec_66, m_made_66, m_sort_66, m_digits_66, m_slots_66, m_pages_66, m_highest_66, m_units_66, m_kinds_66, m_rows_66, m_marks_66, q_active_66, q_rests_66, q_writers_66, (va_up l_units j_10 l_units_70), (va_up l_kinds j_10 l_kinds_70), (va_up l_rows j_10 l_rows_70), (va_up l_marks j_10 l_marks_70)) hw rfl (Nat.le_of_ble_eq_true rfl) (Nat.le_of_ble_eq_true rfl) dX7_swap_110
      · replace hw := hw.2 c_50
        refine w_bipush C (v := (-2 : Int32)) dX7_swap_53 (by decide) ?_
        exact w_iret C (active, rests, next, known, rec, m_made, m_sort, m_digits, m_slots, m_pages, m_highest, m_units, m_kinds, m_rows, m_marks, q_active, q_rests, q_writers, l_units, l_kinds, l_rows, l_marks) hw rfl (Nat.le_of_ble_eq_true rfl) (Nat.le_of_ble_eq_true rfl) dX7_swap_55
def wp_X7_read  (rests : Int32) (writers : Nat → Int32) (l_made : Nat → Int32) (l_slots : Nat → Int32) (l_pages : Nat → Int32) (l_units : Nat → Nat → Int64) (l_kinds : Nat → Nat → Int32) (Q : Int64 → Prop) : Prop := wp_X7_madeAt rests l_made (fun (r_8 : Option Nat) => ((r_8 = none → (Q (-1 : Int64))) ∧ (∀ j_8 : Nat, r_8 = some j_8 → (wp_X2_isWrittenTo rests writers (fun (r_31 : Int32) => ((r_31 = 0 → (wp_X1_allUnits  (l_slots j_8) (l_pages j_8) (l_units j_8) (l_kinds j_8) (fun (r_44 : Int64) => Q r_44))) ∧ (¬ r_31 = 0 → (Q (-2 : Int64)))))))))
set_option maxHeartbeats 4000000 in
set_option maxRecDepth 100000 in
theorem c_X7_read {l : Launch} {D : va_G} {cB cI cJ cL cS : ClassId} {T : Nat × Nat × Nat × Nat} {ad : Nat → Nat}  {active : Int32} {rests : Int32} {writers : Nat → Int32} {tbytes : Nat → Int32} {tlen : Int32} {dbytes : Nat → Int32} {dlen : Int32} {next : Int32} {known : Int32} {rec : Nat → Int32} {m_made : Nat → Int32} {m_sort : Nat → Int32} {m_digits : Nat → Int32} {m_slots : Nat → Int32} {m_pages : Nat → Int32} {m_highest : Nat → Int64} {m_units : Nat → Nat → Int64} {m_kinds : Nat → Nat → Int32} {m_rows : Nat → Nat → Int32} {m_marks : Nat → Nat → Int32} {q_active : Nat → Int32} {q_rests : Nat → Int32} {q_writers : Nat → Nat → Int32} {l_made : Nat → Int32} {l_sort : Nat → Int32} {l_digits : Nat → Int32} {l_slots : Nat → Int32} {l_pages : Nat → Int32} {l_highest : Nat → Int64} {l_units : Nat → Nat → Int64} {l_kinds : Nat → Nat → Int32} {l_rows : Nat → Nat → Int32} {l_marks : Nat → Nat → Int32} {Q : Int64 → Prop} (hw : wp_X7_read  rests writers l_made l_slots l_pages l_units l_kinds Q) : CtL l D (Z5 cB cI cJ cL cS) T yX7_read cX7_read 2 ({ frames := 4, cells := 0, slots := 0, locals := 99 } : Room) (Option.some Jvm.ClassFile.FieldType.long) [.ref (ad 0)] (mw ad 94 (ctT cI cJ cL cS ad active rests writers tbytes tlen dbytes dlen next known rec m_made m_sort m_digits m_slots m_pages m_highest m_units m_kinds m_rows m_marks q_active q_rests q_writers l_made l_sort l_digits l_slots l_pages l_highest l_units l_kinds l_rows l_marks)) (fun (u : Unit) => (mw ad 94 (ctT cI cJ cL cS ad active rests writers tbytes tlen dbytes dlen next known rec m_made m_sort m_digits m_slots m_pages m_highest m_units m_kinds m_rows m_marks q_active q_rests q_writers l_made l_sort l_digits l_slots l_pages l_highest l_units l_kinds l_rows l_marks))) (fun (r : Int64) (u : Unit) => Q r ) 0 0 := by
  refine ctL_of (own := RX7) (by decide +kernel) rfl (Nat.le_of_ble_eq_true rfl) (fun p e s m below meth c A C => ?_)
  refine w_sub (lv' := [(0, .ref (ad 0))]) C [0] rfl ?_
  unfold wp_X7_read at hw
  refine w_aload_n C 0 dX7_read_0 rfl ?_
  refine w_aload_n C 0 dX7_read_1 rfl ?_
  refine w_get C (T1 := TX7) (0) 1 u_X7 k_212 rfl (by decide) (mw_at (by decide) rfl) rfl dX7_read_2 ?_
  refine w_getN C (T1 := TX2) (2 + 0) 1 u_X2 n_102 rfl (by decide) (mw_at (by decide) rfl) rfl dX7_read_5 ?_
  refine w_callVE C (c_X7_madeAt (ad := ad) hw) f_X7_madeAt k_0 k_255 rfl ⟨Nat.le_of_ble_eq_true rfl, Nat.le_of_ble_eq_true rfl⟩ rfl rfl ⟨Nat.le_of_ble_eq_true rfl, Nat.le_of_ble_eq_true rfl⟩ 0 (mw_at (by decide) rfl) (rr := (RX7, TX7, 5)) rfl rfl (fun _ => mw_addr) rfl (Nat.le_of_ble_eq_true rfl) dX7_read_8 (fun r_8 u_8 hw => ?_)
  obtain ⟨hw, hb_8⟩ := hw
  try dsimp only at hw
  cases r_8 with
  | none =>
    replace hw := hw.1 rfl
    refine w_astore_nN C [(1, .null), (0, .ref (ad 0))] dX7_read_11 (by decide) rfl ?_
    refine w_aload_nN C 0 dX7_read_12 rfl ?_
    refine w_ifnonnullN C dX7_read_13 ?_
    refine w_ldc2 C (v := (-1 : Int64)) dX7_read_16 k_481 ?_
    exact w_lret C () hw rfl (Nat.le_of_ble_eq_true rfl) (Nat.le_of_ble_eq_true rfl) dX7_read_19
  | some j_8 =>
    replace hw := hw.2 j_8 rfl
    have hb_8 := hb_8 j_8 rfl
    refine w_astore_n C [(1, .ref (ad (74 + 5 * j_8 + 0))), (0, .ref (ad 0))] dX7_read_11 (by decide) rfl ?_
    refine w_aload_n C 0 dX7_read_12 rfl ?_
    refine w_ifnonnull C 20 (by decide) dX7_read_13 ?_
    refine w_aload_n C 1 dX7_read_20 rfl ?_
    refine w_get C (T1 := TX7) (0) 1 u_X7 k_212 rfl (by decide) (mw_at (by decide) rfl) rfl dX7_read_21 ?_
    refine w_aload_n C 1 dX7_read_24 rfl ?_
    refine w_get C (T1 := TX7) (0) 1 u_X7 k_212 rfl (by decide) (mw_at (by decide) rfl) rfl dX7_read_25 ?_
    refine w_getN C (T1 := TX2) (2 + 0) 1 u_X2 n_102 rfl (by decide) (mw_at (by decide) rfl) rfl dX7_read_28 ?_
    refine w_callXI C (c_X2_isWrittenTo (a := fun i => ad (2 + i)) hw) f_X2_isWrittenTo k_788 k_786 rfl ⟨Nat.le_of_ble_eq_true rfl, Nat.le_of_ble_eq_true rfl⟩ rfl rfl ⟨Nat.le_of_ble_eq_true rfl, Nat.le_of_ble_eq_true rfl⟩ 0 rfl (rr := (RX2, TX2, 3)) rfl rfl (ad := ad) (N := 94) (plP) (wc_P (cB := cB)) lt_P nd_P (fun (u : Unit) => (ctT cI cJ cL cS ad active rests writers tbytes tlen dbytes dlen next known rec m_made m_sort m_digits m_slots m_pages m_highest m_units m_kinds m_rows m_marks q_active q_rests q_writers l_made l_sort l_digits l_slots l_pages l_highest l_units l_kinds l_rows l_marks)) (fun _ => rfl) (fun _ _ _ _ => rfl) rfl (Nat.le_of_ble_eq_true rfl) dX7_read_31 (fun r_31 u_31 hw => ?_)
    try dsimp only at hw
    refine w_if_eq C 43 (by decide) dX7_read_34 (fun c_34 => ?_) (fun c_34 => ?_)
    · replace hw := hw.1 c_34
      refine w_aload_n C 0 dX7_read_43 rfl ?_
      refine w_callXL C (c_X1_allUnits (a := fun i => ad (74 + 5 * j_8 + i)) hw) f_X1_allUnits k_545 k_543 rfl ⟨Nat.le_of_ble_eq_true rfl, Nat.le_of_ble_eq_true rfl⟩ rfl rfl ⟨Nat.le_of_ble_eq_true rfl, Nat.le_of_ble_eq_true rfl⟩ 0 rfl (rr := (RX1, TX1, 10)) rfl rfl (ad := ad) (N := 94) ((plL j_8)) (wc_L (cB := cB) j_8) (lt_L (by assumption)) nd_L (fun (u : Unit) => (ctT cI cJ cL cS ad active rests writers tbytes tlen dbytes dlen next known rec m_made m_sort m_digits m_slots m_pages m_highest m_units m_kinds m_rows m_marks q_active q_rests q_writers l_made l_sort l_digits l_slots l_pages l_highest l_units l_kinds l_rows l_marks)) (fun _ => (wc_L (cB := cB) j_8).trans (by first | (simp only [va_up_self]; done) | rfl)) (fun _ _ _ _ => rfl) rfl (Nat.le_of_ble_eq_true rfl) dX7_read_44 (fun r_44 u_44 hw => ?_)
      try dsimp only at hw
      exact w_lret C () hw rfl (Nat.le_of_ble_eq_true rfl) (Nat.le_of_ble_eq_true rfl) dX7_read_47
    · replace hw := hw.2 c_34
      refine w_ldc2 C (v := (-2 : Int64)) dX7_read_37 k_524 ?_
      refine w_goto C 47 (by decide) dX7_read_40 ?_
      exact w_lret C () hw rfl (Nat.le_of_ble_eq_true rfl) (Nat.le_of_ble_eq_true rfl) dX7_read_47
def wp_X0_takeLast  (next : Int32) (known : Int32) (Q : Option Nat → Int32 → Int32 → Prop) : Prop := ((¬ known = 0 → (∀ known_16 : Int32, known_16 = (known - (1 : Int32)) → ∀ next_32 : Int32, next_32 = (((next + (8 : Int32)) - (1 : Int32)) - ((next + (8 : Int32)) - (1 : Int32)) / (8 : Int32) * (8 : Int32)) → wp_X0_stepAt next_32  (fun (r_40 : Option Nat) => ((r_40 = none → (Q none next_32 known_16)) ∧ (∀ j_40 : Nat, r_40 = some j_40 → (Q (some j_40) next_32 known_16)))))) ∧ (known = 0 → (Q none next known)))
set_option maxHeartbeats 4000000 in
set_option maxRecDepth 100000 in
theorem c_X0_takeLast {l : Launch} {D : va_G} {cB cI cJ cL cS : ClassId} {T : Nat × Nat × Nat × Nat} {ad : Nat → Nat}  {active : Int32} {rests : Int32} {writers : Nat → Int32} {tbytes : Nat → Int32} {tlen : Int32} {dbytes : Nat → Int32} {dlen : Int32} {next : Int32} {known : Int32} {rec : Nat → Int32} {m_made : Nat → Int32} {m_sort : Nat → Int32} {m_digits : Nat → Int32} {m_slots : Nat → Int32} {m_pages : Nat → Int32} {m_highest : Nat → Int64} {m_units : Nat → Nat → Int64} {m_kinds : Nat → Nat → Int32} {m_rows : Nat → Nat → Int32} {m_marks : Nat → Nat → Int32} {q_active : Nat → Int32} {q_rests : Nat → Int32} {q_writers : Nat → Nat → Int32} {l_made : Nat → Int32} {l_sort : Nat → Int32} {l_digits : Nat → Int32} {l_slots : Nat → Int32} {l_pages : Nat → Int32} {l_highest : Nat → Int64} {l_units : Nat → Nat → Int64} {l_kinds : Nat → Nat → Int32} {l_rows : Nat → Nat → Int32} {l_marks : Nat → Nat → Int32} {Q : Option Nat → Int32 → Int32 → Prop} (hw : wp_X0_takeLast  next known Q) : CtE l D (Z5 cB cI cJ cL cS) T yX0_takeLast cX0_takeLast 1 ({ frames := 1, cells := 0, slots := 0, locals := 21 } : Room) (Option.some (Jvm.ClassFile.FieldType.object "TailRecorder$Step")) [.ref (ad 8)] (mw ad 94 (ctT cI cJ cL cS ad active rests writers tbytes tlen dbytes dlen next known rec m_made m_sort m_digits m_slots m_pages m_highest m_units m_kinds m_rows m_marks q_active q_rests q_writers l_made l_sort l_digits l_slots l_pages l_highest l_units l_kinds l_rows l_marks)) (fun (u : Int32 × Int32) => (mw ad 94 (ctT cI cJ cL cS ad active rests writers tbytes tlen dbytes dlen u.1 u.2 rec m_made m_sort m_digits m_slots m_pages m_highest m_units m_kinds m_rows m_marks q_active q_rests q_writers l_made l_sort l_digits l_slots l_pages l_highest l_units l_kinds l_rows l_marks))) (fun j => ad (10 + 8 * j + 0)) (fun (o : Option Nat) (u : Int32 × Int32) => Q o u.1 u.2 ∧ ∀ j : Nat, o = some j → j < 8) 0 0 := by
  refine ctE_of (own := RX0) (by decide +kernel) rfl (Nat.le_of_ble_eq_true rfl) (fun p e s m below meth c A C => ?_)
  refine w_sub (lv' := [(0, .ref (ad 8))]) C [0] rfl ?_
  unfold wp_X0_takeLast at hw
  refine w_aload_n C 0 dX0_takeLast_0 rfl ?_
  refine w_get C (T1 := TX0) (8) 2 u_X0 k_201 rfl (by decide) (mw_at (by decide) rfl) rfl dX0_takeLast_1 ?_
  refine w_if_ne C 9 (by decide) dX0_takeLast_4 (fun c_4 => ?_) (fun c_4 => ?_)
  · replace hw := hw.1 c_4
    refine w_aload_n C 0 dX0_takeLast_9 rfl ?_
    refine w_dup C rfl dX0_takeLast_10 ?_
    refine w_get C (T1 := TX0) (8) 2 u_X0 k_201 rfl (by decide) (mw_at (by decide) rfl) rfl dX0_takeLast_11 ?_
    refine w_iconst C (v := (1 : Int32)) dX0_takeLast_14 (by decide) ?_
    refine w_isub C dX0_takeLast_15 ?_
    refine w_puti C (T1 := TX0) (ty := .int) (8) 2 (fun z => (mw ad 94 (ctT cI cJ cL cS ad active rests writers tbytes tlen dbytes dlen next z rec m_made m_sort m_digits m_slots m_pages m_highest m_units m_kinds m_rows m_marks q_active q_rests q_writers l_made l_sort l_digits l_slots l_pages l_highest l_units l_kinds l_rows l_marks))) u_X0 tyX0 tyX0_ok nmX0 k_201 rfl (by decide) (mw_at (by decide) rfl) rfl (by decide +kernel) rfl rfl (Nat.le_of_ble_eq_true rfl) (fun _ => mw_set (by decide) rfl (fun m _ hm => put_H m hm)) dX0_takeLast_16 (fun known_16 e_known_16 => ?_)
    replace hw := hw known_16 e_known_16
    refine w_aload_n C 0 dX0_takeLast_19 rfl ?_
    refine w_aload_n C 0 dX0_takeLast_20 rfl ?_
    refine w_get C (T1 := TX0) (8) 1 u_X0 k_200 rfl (by decide) (mw_at (by decide) rfl) rfl dX0_takeLast_21 ?_
    refine w_bipush C (v := (8 : Int32)) dX0_takeLast_24 (by decide) ?_
    refine w_iadd C dX0_takeLast_26 ?_
    refine w_iconst C (v := (1 : Int32)) dX0_takeLast_27 (by decide) ?_
    refine w_isub C dX0_takeLast_28 ?_
    refine w_bipush C (v := (8 : Int32)) dX0_takeLast_29 (by decide) ?_
    refine w_irem C (by decide) dX0_takeLast_31 ?_
    refine w_puti C (T1 := TX0) (ty := .int) (8) 1 (fun z => (mw ad 94 (ctT cI cJ cL cS ad active rests writers tbytes tlen dbytes dlen z known_16 rec m_made m_sort m_digits m_slots m_pages m_highest m_units m_kinds m_rows m_marks q_active q_rests q_writers l_made l_sort l_digits l_slots l_pages l_highest l_units l_kinds l_rows l_marks))) u_X0 tyX0 tyX0_ok nmX0 k_200 rfl (by decide) (mw_at (by decide) rfl) rfl (by decide +kernel) rfl rfl (Nat.le_of_ble_eq_true rfl) (fun _ => mw_set (by decide) rfl (fun m _ hm => put_H m hm)) dX0_takeLast_32 (fun next_32 e_next_32 => ?_)
    replace hw := hw next_32 e_next_32
    refine w_aload_n C 0 dX0_takeLast_35 rfl ?_
    refine w_aload_n C 0 dX0_takeLast_36 rfl ?_
    refine w_get C (T1 := TX0) (8) 1 u_X0 k_200 rfl (by decide) (mw_at (by decide) rfl) rfl dX0_takeLast_37 ?_
    refine w_callVE C (c_X0_stepAt (ad := ad) hw) f_X0_stepAt k_9 k_394 rfl ⟨Nat.le_of_ble_eq_true rfl, Nat.le_of_ble_eq_true rfl⟩ rfl rfl ⟨Nat.le_of_ble_eq_true rfl, Nat.le_of_ble_eq_true rfl⟩ 8 (mw_at (by decide) rfl) (rr := (RX0, TX0, 3)) rfl rfl (fun _ => mw_addr) rfl (Nat.le_of_ble_eq_true rfl) dX0_takeLast_40 (fun r_40 u_40 hw => ?_)
    obtain ⟨hw, hb_40⟩ := hw
    try dsimp only at hw
    cases r_40 with
    | none =>
      replace hw := hw.1 rfl
      exact w_eret C (Or.inl ⟨_, rfl⟩) none (next_32, known_16) ⟨hw, fun j h => by cases h⟩ rfl rfl (Nat.le_of_ble_eq_true rfl) (Nat.le_of_ble_eq_true rfl) dX0_takeLast_43
    | some j_40 =>
      replace hw := hw.2 j_40 rfl
      have hb_40 := hb_40 j_40 rfl
      exact w_eret C (Or.inl ⟨_, rfl⟩) (some j_40) (next_32, known_16) ⟨hw, fun j h => by cases h; assumption⟩ rfl rfl (Nat.le_of_ble_eq_true rfl) (Nat.le_of_ble_eq_true rfl) dX0_takeLast_43
  · replace hw := hw.2 c_4
    refine w_null C dX0_takeLast_7 ?_
    exact w_eret C (Or.inl ⟨_, rfl⟩) none (next, known) ⟨hw, fun j h => by cases h⟩ rfl rfl (Nat.le_of_ble_eq_true rfl) (Nat.le_of_ble_eq_true rfl) dX0_takeLast_8
def blk_X7_undo_35 (rec : Nat → Int32) (m_made : Nat → Int32) (m_sort : Nat → Int32) (m_digits : Nat → Int32) (m_slots : Nat → Int32) (m_pages : Nat → Int32) (m_highest : Nat → Int64) (m_units : Nat → Nat → Int64) (m_kinds : Nat → Nat → Int32) (m_rows : Nat → Nat → Int32) (m_marks : Nat → Nat → Int32) (q_active : Nat → Int32) (q_rests : Nat → Int32) (q_writers : Nat → Nat → Int32)  (Q : Int32 → Int32 → Int32 → (Nat → Int32) → Int32 → Int32 → (Nat → Int32) → (Nat → Int32) → (Nat → Int32) → (Nat → Int32) → (Nat → Int32) → (Nat → Int64) → (Nat → Nat → Int64) → (Nat → Nat → Int32) → (Nat → Nat → Int32) → (Nat → Nat → Int32) → Prop) (j1 : Nat) (active : Int32) (rests : Int32) (writers : Nat → Int32) (next : Int32) (known : Int32) (l_made : Nat → Int32) (l_sort : Nat → Int32) (l_digits : Nat → Int32) (l_slots : Nat → Int32) (l_pages : Nat → Int32) (l_highest : Nat → Int64) (l_units : Nat → Nat → Int64) (l_kinds : Nat → Nat → Int32) (l_rows : Nat → Nat → Int32) (l_marks : Nat → Nat → Int32) : Prop := wp_X2_become  active rests writers (q_active j1) (q_rests j1) (q_writers j1) (fun (active_43 : Int32) (rests_43 : Int32) (writers_43 : Nat → Int32) => Q known active_43 rests_43 writers_43 next known l_made l_sort l_digits l_slots l_pages l_highest l_units l_kinds l_rows l_marks)
def wp_X7_undo  (active : Int32) (rests : Int32) (writers : Nat → Int32) (next : Int32) (known : Int32) (rec : Nat → Int32) (m_made : Nat → Int32) (m_sort : Nat → Int32) (m_digits : Nat → Int32) (m_slots : Nat → Int32) (m_pages : Nat → Int32) (m_highest : Nat → Int64) (m_units : Nat → Nat → Int64) (m_kinds : Nat → Nat → Int32) (m_rows : Nat → Nat → Int32) (m_marks : Nat → Nat → Int32) (q_active : Nat → Int32) (q_rests : Nat → Int32) (q_writers : Nat → Nat → Int32) (l_made : Nat → Int32) (l_sort : Nat → Int32) (l_digits : Nat → Int32) (l_slots : Nat → Int32) (l_pages : Nat → Int32) (l_highest : Nat → Int64) (l_units : Nat → Nat → Int64) (l_kinds : Nat → Nat → Int32) (l_rows : Nat → Nat → Int32) (l_marks : Nat → Nat → Int32) (Q : Int32 → Int32 → Int32 → (Nat → Int32) → Int32 → Int32 → (Nat → Int32) → (Nat → Int32) → (Nat → Int32) → (Nat → Int32) → (Nat → Int32) → (Nat → Int64) → (Nat → Nat → Int64) → (Nat → Nat → Int32) → (Nat → Nat → Int32) → (Nat → Nat → Int32) → Prop) : Prop := wp_X0_takeLast  next known (fun (r_4 : Option Nat) (next_4 : Int32) (known_4 : Int32) => ((r_4 = none → (Q (-1 : Int32) active rests writers next_4 known_4 l_made l_sort l_digits l_slots l_pages l_highest l_units l_kinds l_rows l_marks)) ∧ (∀ j_4 : Nat, r_4 = some j_4 → (wp_X7_ledgerAt (rec j_4)  (fun (r_19 : Option Nat) => ((r_19 = none → ((blk_X7_undo_35 rec m_made m_sort m_digits m_slots m_pages m_highest m_units m_kinds m_rows m_marks q_active q_rests q_writers  Q j_4 active rests writers next_4 known_4 l_made l_sort l_digits l_slots l_pages l_highest l_units l_kinds l_rows l_marks))) ∧ (∀ j_19 : Nat, r_19 = some j_19 → (wp_X1_become  (l_made j_19) (l_sort j_19) (l_digits j_19) (l_slots j_19) (l_pages j_19) (l_highest j_19) (l_units j_19) (l_kinds j_19) (l_rows j_19) (l_marks j_19) (m_made j_4) (m_sort j_4) (m_digits j_4) (m_slots j_4) (m_pages j_4) (m_highest j_4) (m_units j_4) (m_kinds j_4) (m_rows j_4) (m_marks j_4) (fun (l_made_32 : Int32) (l_sort_32 : Int32) (l_digits_32 : Int32) (l_slots_32 : Int32) (l_pages_32 : Int32) (l_highest_32 : Int64) (l_units_32 : Nat → Int64) (l_kinds_32 : Nat → Int32) (l_rows_32 : Nat → Int32) (l_marks_32 : Nat → Int32) => (blk_X7_undo_35 rec m_made m_sort m_digits m_slots m_pages m_highest m_units m_kinds m_rows m_marks q_active q_rests q_writers  Q j_4 active rests writers next_4 known_4 (va_up l_made j_19 l_made_32) (va_up l_sort j_19 l_sort_32) (va_up l_digits j_19 l_digits_32) (va_up l_slots j_19 l_slots_32) (va_up l_pages j_19 l_pages_32) (va_up l_highest j_19 l_highest_32) (va_up l_units j_19 l_units_32) (va_up l_kinds j_19 l_kinds_32) (va_up l_rows j_19 l_rows_32) (va_up l_marks j_19 l_marks_32)))))))))))
set_option maxHeartbeats 4000000 in
set_option maxRecDepth 100000 in
theorem wk_X7_undo_35 {p : Program} {l : Launch} {e : Env} {s : State} {m : MethodId} {args : Array Value} {below : List Frame} {meth : Method} {c : Code} {D : va_G} {cB cI cJ cL cS : ClassId} {T : Nat × Nat × Nat × Nat} {A : Nat → Prop} {ad : Nat → Nat} {tbytes : Nat → Int32} {tlen : Int32} {dbytes : Nat → Int32} {dlen : Int32} {rec : Nat → Int32} {m_made : Nat → Int32} {m_sort : Nat → Int32} {m_digits : Nat → Int32} {m_slots : Nat → Int32} {m_pages : Nat → Int32} {m_highest : Nat → Int64} {m_units : Nat → Nat → Int64} {m_kinds : Nat → Nat → Int32} {m_rows : Nat → Nat → Int32} {m_marks : Nat → Nat → Int32} {q_active : Nat → Int32} {q_rests : Nat → Int32} {q_writers : Nat → Nat → Int32} {Q : Int32 → Int32 → Int32 → (Nat → Int32) → Int32 → Int32 → (Nat → Int32) → (Nat → Int32) → (Nat → Int32) → (Nat → Int32) → (Nat → Int32) → (Nat → Int64) → (Nat → Nat → Int64) → (Nat → Nat → Int32) → (Nat → Nat → Int32) → (Nat → Nat → Int32) → Prop} (C : Cq p s m args meth c D (Z5 cB cI cJ cL cS) T A cX7_undo RX7 3 (Option.some Jvm.ClassFile.FieldType.int)) {j1 : Nat} {active : Int32} {rests : Int32} {writers : Nat → Int32} {next : Int32} {known : Int32} {l_made : Nat → Int32} {l_sort : Nat → Int32} {l_digits : Nat → Int32} {l_slots : Nat → Int32} {l_pages : Nat → Int32} {l_highest : Nat → Int64} {l_units : Nat → Nat → Int64} {l_kinds : Nat → Nat → Int32} {l_rows : Nat → Nat → Int32} {l_marks : Nat → Nat → Int32} (hj1 : j1 < 8)  (hw : blk_X7_undo_35 rec m_made m_sort m_digits m_slots m_pages m_highest m_units m_kinds m_rows m_marks q_active q_rests q_writers  Q j1 active rests writers next known l_made l_sort l_digits l_slots l_pages l_highest l_units l_kinds l_rows l_marks) : ww p l e ({ frames := 2, cells := 0, slots := 0, locals := 62 } : Room) s m args below meth c D A 3 (MQ below (va_Qi (fun (r : Int32) (u : Int32 × Int32 × (Nat → Int32) × Int32 × Int32 × (Nat → Int32) × (Nat → Int32) × (Nat → Int32) × (Nat → Int32) × (Nat → Int32) × (Nat → Int64) × (Nat → Nat → Int64) × (Nat → Nat → Int32) × (Nat → Nat → Int32) × (Nat → Nat → Int32)) => Q r u.1 u.2.1 u.2.2.1 u.2.2.2.1 u.2.2.2.2.1 u.2.2.2.2.2.1 u.2.2.2.2.2.2.1 u.2.2.2.2.2.2.2.1 u.2.2.2.2.2.2.2.2.1 u.2.2.2.2.2.2.2.2.2.1 u.2.2.2.2.2.2.2.2.2.2.1 u.2.2.2.2.2.2.2.2.2.2.2.1 u.2.2.2.2.2.2.2.2.2.2.2.2.1 u.2.2.2.2.2.2.2.2.2.2.2.2.2.1 u.2.2.2.2.2.2.2.2.2.2.2.2.2.2) (OutP D (fun (u : Int32 × Int32 × (Nat → Int32) × Int32 × Int32 × (Nat → Int32) × (Nat → Int32) × (Nat → Int32) × (Nat → Int32) × (Nat → Int32) × (Nat → Int64) × (Nat → Nat → Int64) × (Nat → Nat → Int32) × (Nat → Nat → Int32) × (Nat → Nat → Int32)) => (mw ad 94 (ctT cI cJ cL cS ad u.1 u.2.1 u.2.2.1 tbytes tlen dbytes dlen u.2.2.2.1 u.2.2.2.2.1 rec m_made m_sort m_digits m_slots m_pages m_highest m_units m_kinds m_rows m_marks q_active q_rests q_writers u.2.2.2.2.2.1 u.2.2.2.2.2.2.1 u.2.2.2.2.2.2.2.1 u.2.2.2.2.2.2.2.2.1 u.2.2.2.2.2.2.2.2.2.1 u.2.2.2.2.2.2.2.2.2.2.1 u.2.2.2.2.2.2.2.2.2.2.2.1 u.2.2.2.2.2.2.2.2.2.2.2.2.1 u.2.2.2.2.2.2.2.2.2.2.2.2.2.1 u.2.2.2.2.2.2.2.2.2.2.2.2.2.2)))) A) args s 0 0 A) 0 0 (mw ad 94 (ctT cI cJ cL cS ad active rests writers tbytes tlen dbytes dlen next known rec m_made m_sort m_digits m_slots m_pages m_highest m_units m_kinds m_rows m_marks q_active q_rests q_writers l_made l_sort l_digits l_slots l_pages l_highest l_units l_kinds l_rows l_marks)) 35 [(0, .ref (ad 0)), (1, .ref (ad (10 + 8 * j1 + 0)))] [] := by
  unfold blk_X7_undo_35 at hw
  refine w_aload_n C 0 dX7_undo_35 rfl ?_
  refine w_get C (T1 := TX7) (0) 1 u_X7 k_212 rfl (by decide) (mw_at (by decide) rfl) rfl dX7_undo_36 ?_
  refine w_aload_n C 1 dX7_undo_39 rfl ?_
  refine w_getN C (T1 := TX4) (10 + 8 * j1 + 0) 2 u_X4 n_191 rfl (by decide) (mw_at (by omega) (ct_S0 j1 (by assumption))) rfl dX7_undo_40 ?_
  refine w_callXV C (c_X2_become (a := fun i => ad (2 + i)) (b := fun i => ad (16 + 8 * j1 + i)) hw) f_X2_become k_401 k_399 rfl ⟨Nat.le_of_ble_eq_true rfl, Nat.le_of_ble_eq_true rfl⟩ rfl rfl ⟨Nat.le_of_ble_eq_true rfl, Nat.le_of_ble_eq_true rfl⟩ 0 rfl (rr := (RX2, TX2, 3)) rfl rfl (ad := ad) (N := 94) (plP ++ (plR j1)) (by rw [List.map_append, wc_P (cB := cB), wc_R (cB := cB) j1 (by assumption)]) (lt_app lt_P (lt_R (by assumption))) nd_PR (fun (u : Int32 × Int32 × (Nat → Int32)) => (ctT cI cJ cL cS ad u.1 u.2.1 u.2.2 tbytes tlen dbytes dlen next known rec m_made m_sort m_digits m_slots m_pages m_highest m_units m_kinds m_rows m_marks q_active q_rests q_writers l_made l_sort l_digits l_slots l_pages l_highest l_units l_kinds l_rows l_marks)) (fun _ => by rw [List.map_append, wc_P (cB := cB), wc_R (cB := cB) j1 (by assumption)]; first | done | (simp only [va_up_self]; done) | rfl) (fun _ n _ hn => rest_P n (fun h => hn (List.mem_append_left _ h))) rfl (Nat.le_of_ble_eq_true rfl) dX7_undo_43 (fun u_43 hw => ?_)
  obtain ⟨active_43, rests_43, writers_43⟩ := u_43
  try dsimp only at hw
  refine w_aload_n C 0 dX7_undo_46 rfl ?_
  refine w_get C (T1 := TX7) (0) 4 u_X7 k_215 rfl (by decide) (mw_at (by decide) rfl) rfl dX7_undo_47 ?_
  refine w_getN C (T1 := TX0) (8) 2 u_X0 n_202 rfl (by decide) (mw_at (by decide) rfl) rfl dX7_undo_50 ?_
  exact w_iret C (active_43, rests_43, writers_43, next, known, l_made, l_sort, l_digits, l_slots, l_pages, l_highest, l_units, l_kinds, l_rows, l_marks) hw rfl (Nat.le_of_ble_eq_true rfl) (Nat.le_of_ble_eq_true rfl) dX7_undo_53
set_option maxHeartbeats 4000000 in
set_option maxRecDepth 100000 in
theorem c_X7_undo {l : Launch} {D : va_G} {cB cI cJ cL cS : ClassId} {T : Nat × Nat × Nat × Nat} {ad : Nat → Nat}  {active : Int32} {rests : Int32} {writers : Nat → Int32} {tbytes : Nat → Int32} {tlen : Int32} {dbytes : Nat → Int32} {dlen : Int32} {next : Int32} {known : Int32} {rec : Nat → Int32} {m_made : Nat → Int32} {m_sort : Nat → Int32} {m_digits : Nat → Int32} {m_slots : Nat → Int32} {m_pages : Nat → Int32} {m_highest : Nat → Int64} {m_units : Nat → Nat → Int64} {m_kinds : Nat → Nat → Int32} {m_rows : Nat → Nat → Int32} {m_marks : Nat → Nat → Int32} {q_active : Nat → Int32} {q_rests : Nat → Int32} {q_writers : Nat → Nat → Int32} {l_made : Nat → Int32} {l_sort : Nat → Int32} {l_digits : Nat → Int32} {l_slots : Nat → Int32} {l_pages : Nat → Int32} {l_highest : Nat → Int64} {l_units : Nat → Nat → Int64} {l_kinds : Nat → Nat → Int32} {l_rows : Nat → Nat → Int32} {l_marks : Nat → Nat → Int32} {Q : Int32 → Int32 → Int32 → (Nat → Int32) → Int32 → Int32 → (Nat → Int32) → (Nat → Int32) → (Nat → Int32) → (Nat → Int32) → (Nat → Int32) → (Nat → Int64) → (Nat → Nat → Int64) → (Nat → Nat → Int32) → (Nat → Nat → Int32) → (Nat → Nat → Int32) → Prop} (hw : wp_X7_undo  active rests writers next known rec m_made m_sort m_digits m_slots m_pages m_highest m_units m_kinds m_rows m_marks q_active q_rests q_writers l_made l_sort l_digits l_slots l_pages l_highest l_units l_kinds l_rows l_marks Q) : CtI l D (Z5 cB cI cJ cL cS) T yX7_undo cX7_undo 3 ({ frames := 2, cells := 0, slots := 0, locals := 62 } : Room) (Option.some Jvm.ClassFile.FieldType.int) [.ref (ad 0)] (mw ad 94 (ctT cI cJ cL cS ad active rests writers tbytes tlen dbytes dlen next known rec m_made m_sort m_digits m_slots m_pages m_highest m_units m_kinds m_rows m_marks q_active q_rests q_writers l_made l_sort l_digits l_slots l_pages l_highest l_units l_kinds l_rows l_marks)) (fun (u : Int32 × Int32 × (Nat → Int32) × Int32 × Int32 × (Nat → Int32) × (Nat → Int32) × (Nat → Int32) × (Nat → Int32) × (Nat → Int32) × (Nat → Int64) × (Nat → Nat → Int64) × (Nat → Nat → Int32) × (Nat → Nat → Int32) × (Nat → Nat → Int32)) => (mw ad 94 (ctT cI cJ cL cS ad u.1 u.2.1 u.2.2.1 tbytes tlen dbytes dlen u.2.2.2.1 u.2.2.2.2.1 rec m_made m_sort m_digits m_slots m_pages m_highest m_units m_kinds m_rows m_marks q_active q_rests q_writers u.2.2.2.2.2.1 u.2.2.2.2.2.2.1 u.2.2.2.2.2.2.2.1 u.2.2.2.2.2.2.2.2.1 u.2.2.2.2.2.2.2.2.2.1 u.2.2.2.2.2.2.2.2.2.2.1 u.2.2.2.2.2.2.2.2.2.2.2.1 u.2.2.2.2.2.2.2.2.2.2.2.2.1 u.2.2.2.2.2.2.2.2.2.2.2.2.2.1 u.2.2.2.2.2.2.2.2.2.2.2.2.2.2))) (fun (r : Int32) (u : Int32 × Int32 × (Nat → Int32) × Int32 × Int32 × (Nat → Int32) × (Nat → Int32) × (Nat → Int32) × (Nat → Int32) × (Nat → Int32) × (Nat → Int64) × (Nat → Nat → Int64) × (Nat → Nat → Int32) × (Nat → Nat → Int32) × (Nat → Nat → Int32)) => Q r u.1 u.2.1 u.2.2.1 u.2.2.2.1 u.2.2.2.2.1 u.2.2.2.2.2.1 u.2.2.2.2.2.2.1 u.2.2.2.2.2.2.2.1 u.2.2.2.2.2.2.2.2.1 u.2.2.2.2.2.2.2.2.2.1 u.2.2.2.2.2.2.2.2.2.2.1 u.2.2.2.2.2.2.2.2.2.2.2.1 u.2.2.2.2.2.2.2.2.2.2.2.2.1 u.2.2.2.2.2.2.2.2.2.2.2.2.2.1 u.2.2.2.2.2.2.2.2.2.2.2.2.2.2) 0 0 := by
  refine ctI_of (own := RX7) (by decide +kernel) rfl (Nat.le_of_ble_eq_true rfl) (fun p e s m below meth c A C => ?_)
  refine w_sub (lv' := [(0, .ref (ad 0))]) C [0] rfl ?_
  unfold wp_X7_undo at hw
  refine w_aload_n C 0 dX7_undo_0 rfl ?_
  refine w_get C (T1 := TX7) (0) 4 u_X7 k_215 rfl (by decide) (mw_at (by decide) rfl) rfl dX7_undo_1 ?_
  refine w_callVE C (c_X0_takeLast (ad := ad) hw) f_X0_takeLast k_801 k_799 rfl ⟨Nat.le_of_ble_eq_true rfl, Nat.le_of_ble_eq_true rfl⟩ rfl rfl ⟨Nat.le_of_ble_eq_true rfl, Nat.le_of_ble_eq_true rfl⟩ 8 (mw_at (by decide) rfl) (rr := (RX0, TX0, 3)) rfl rfl (fun _ => mw_addr) rfl (Nat.le_of_ble_eq_true rfl) dX7_undo_4 (fun r_4 u_4 hw => ?_)
  obtain ⟨hw, hb_4⟩ := hw
  obtain ⟨next_4, known_4⟩ := u_4
  try dsimp only at hw
  cases r_4 with
  | none =>
    replace hw := hw.1 rfl
    refine w_astore_nN C [(1, .null), (0, .ref (ad 0))] dX7_undo_7 (by decide) rfl ?_
    refine w_aload_nN C 0 dX7_undo_8 rfl ?_
    refine w_ifnonnullN C dX7_undo_9 ?_
    refine w_iconst C (v := (-1 : Int32)) dX7_undo_12 (by decide) ?_
    exact w_iret C (active, rests, writers, next_4, known_4, l_made, l_sort, l_digits, l_slots, l_pages, l_highest, l_units, l_kinds, l_rows, l_marks) hw rfl (Nat.le_of_ble_eq_true rfl) (Nat.le_of_ble_eq_true rfl) dX7_undo_13
  | some j_4 =>
    replace hw := hw.2 j_4 rfl
    have hb_4 := hb_4 j_4 rfl
    refine w_astore_n C [(1, .ref (ad (10 + 8 * j_4 + 0))), (0, .ref (ad 0))] dX7_undo_7 (by decide) rfl ?_
    refine w_aload_n C 0 dX7_undo_8 rfl ?_
    refine w_ifnonnull C 14 (by decide) dX7_undo_9 ?_
    refine w_aload_n C 1 dX7_undo_14 rfl ?_
    refine w_aload_n C 0 dX7_undo_15 rfl ?_
    refine w_getN C (T1 := TX4) (10 + 8 * j_4 + 0) 0 u_X4 n_187 rfl (by decide) (mw_at (by omega) (ct_S0 j_4 (by assumption))) rfl dX7_undo_16 ?_
    refine w_callVE C (c_X7_ledgerAt (ad := ad) hw) f_X7_ledgerAt k_1 k_259 rfl ⟨Nat.le_of_ble_eq_true rfl, Nat.le_of_ble_eq_true rfl⟩ rfl rfl ⟨Nat.le_of_ble_eq_true rfl, Nat.le_of_ble_eq_true rfl⟩ 0 (mw_at (by decide) rfl) (rr := (RX7, TX7, 5)) rfl rfl (fun _ => mw_addr) rfl (Nat.le_of_ble_eq_true rfl) dX7_undo_19 (fun r_19 u_19 hw => ?_)
    obtain ⟨hw, hb_19⟩ := hw
    try dsimp only at hw
    cases r_19 with
    | none =>
      replace hw := hw.1 rfl
      refine w_astore_nN C [(2, .null), (1, .ref (ad (10 + 8 * j_4 + 0))), (0, .ref (ad 0))] dX7_undo_22 (by decide) rfl ?_
      refine w_aload_nN C 0 dX7_undo_23 rfl ?_
      refine w_ifnullN C 35 (by decide) dX7_undo_24 ?_
      refine w_sub (lv' := [(0, .ref (ad 0)), (1, .ref (ad (10 + 8 * j_4 + 0)))]) C [2, 1] rfl ?_
      exact wk_X7_undo_35 C (by assumption)  hw
    | some j_19 =>
      replace hw := hw.2 j_19 rfl
      have hb_19 := hb_19 j_19 rfl
      refine w_astore_n C [(2, .ref (ad (74 + 5 * j_19 + 0))), (1, .ref (ad (10 + 8 * j_4 + 0))), (0, .ref (ad 0))] dX7_undo_22 (by decide) rfl ?_
      refine w_aload_n C 0 dX7_undo_23 rfl ?_
      refine w_ifnull C dX7_undo_24 ?_
      refine w_aload_n C 0 dX7_undo_27 rfl ?_
      refine w_aload_n C 1 dX7_undo_28 rfl ?_
      refine w_getN C (T1 := TX4) (10 + 8 * j_4 + 0) 1 u_X4 n_189 rfl (by decide) (mw_at (by omega) (ct_S0 j_4 (by assumption))) rfl dX7_undo_29 ?_
      refine w_callXV C (c_X1_become (a := fun i => ad (74 + 5 * j_19 + i)) (b := fun i => ad (11 + 8 * j_4 + i)) hw) f_X1_become k_413 k_411 rfl ⟨Nat.le_of_ble_eq_true rfl, Nat.le_of_ble_eq_true rfl⟩ rfl rfl ⟨Nat.le_of_ble_eq_true rfl, Nat.le_of_ble_eq_true rfl⟩ 0 rfl (rr := (RX1, TX1, 10)) rfl rfl (ad := ad) (N := 94) ((plL j_19) ++ (plM j_4)) (by rw [List.map_append, wc_L (cB := cB) j_19, wc_M (cB := cB) j_4 (by assumption)]) (lt_app (lt_L (by assumption)) (lt_M (by assumption))) (nd_LM (by assumption)) (fun (u : Int32 × Int32 × Int32 × Int32 × Int32 × Int64 × (Nat → Int64) × (Nat → Int32) × (Nat → Int32) × (Nat → Int32)) => (ctT cI cJ cL cS ad active rests writers tbytes tlen dbytes dlen next_4 known_4 rec m_made m_sort m_digits m_slots m_pages m_highest m_units m_kinds m_rows m_marks q_active q_rests q_writers (va_up l_made j_19 u.1) (va_up l_sort j_19 u.2.1) (va_up l_digits j_19 u.2.2.1) (va_up l_slots j_19 u.2.2.2.1) (va_up l_pages j_19 u.2.2.2.2.1) (va_up l_highest j_19 u.2.2.2.2.2.1) (va_up l_units j_19 u.2.2.2.2.2.2.1) (va_up l_kinds j_19 u.2.2.2.2.2.2.2.1) (va_up l_rows j_19 u.2.2.2.2.2.2.2.2.1) (va_up l_marks j_19 u.2.2.2.2.2.2.2.2.2))) (fun _ => by rw [List.map_append, wc_L (cB := cB) j_19, wc_M (cB := cB) j_4 (by assumption)]; first | done | (simp only [va_up_self]; done) | rfl) (fun _ n _ hn => rest_L (fun _ h => va_up_ne _ _ h) (fun _ h => va_up_ne _ _ h) (fun _ h => va_up_ne _ _ h) (fun _ h => va_up_ne _ _ h) (fun _ h => va_up_ne _ _ h) (fun _ h => va_up_ne _ _ h) (fun _ h => va_up_ne _ _ h) (fun _ h => va_up_ne _ _ h) (fun _ h => va_up_ne _ _ h) (fun _ h => va_up_ne _ _ h) n (fun h => hn (List.mem_append_left _ h))) rfl (Nat.le_of_ble_eq_true rfl) dX7_undo_32 (fun u_32 hw => ?_)
      obtain ⟨l_made_32, l_sort_32, l_digits_32, l_slots_32, l_pages_32, l_highest_32, l_units_32, l_kinds_32, l_rows_32, l_marks_32⟩ := u_32
      try dsimp only at hw
      refine w_sub (lv' := [(0, .ref (ad 0)), (1, .ref (ad (10 + 8 * j_4 + 0)))]) C [2, 1] rfl ?_
      exact wk_X7_undo_35 C (by assumption)  hw
def blk_X7_madeBits_23 (l_made : Nat → Int32) (K4 : Int32 → Int32 → Prop) (Q : Int32 → Prop) (x1 : Int32) (x2 : Int32) : Prop := ∀ x2_23 : Int32, x2_23 = x2 + (1 : Int32) → K4 x1 x2_23
def bod_X7_madeBits_4 (l_made : Nat → Int32)  (Q : Int32 → Prop)   (K4 : Int32 → Int32 → Prop) (x1 : Int32) (x2 : Int32) : Prop := (((4 : Int32) ≤ x2 → (Q x1)) ∧ (¬ (4 : Int32) ≤ x2 → (wp_X7_madeAt x2 l_made (fun (r_11 : Option Nat) => ((r_11 = none → ((blk_X7_madeBits_23 l_made K4 Q x1 x2))) ∧ (∀ j_11 : Nat, r_11 = some j_11 → (∀ x1_22 : Int32, x1_22 = (x1 ||| ((1 : Int32) <<< (x2 &&& 31))) → (blk_X7_madeBits_23 l_made K4 Q x1_22 x2))))))))
def lp_X7_madeBits_4 (l_made : Nat → Int32)  (Q : Int32 → Prop)   : Nat → Int32 → Int32 → Prop
  | 0, _, _ => False
  | j + 1, x1, x2 => bod_X7_madeBits_4 l_made  Q  (fun v0 v1 => lp_X7_madeBits_4 l_made  Q  j v0 v1) x1 x2
def wp_X7_madeBits  (l_made : Nat → Int32) (Q : Int32 → Prop) : Prop := ∀ x1_1 : Int32, x1_1 = (0 : Int32) → ∀ x2_3 : Int32, x2_3 = (0 : Int32) → (∃ j : Nat, lp_X7_madeBits_4 l_made  Q  j x1_1 x2_3)
set_option maxHeartbeats 4000000 in
set_option maxRecDepth 100000 in
theorem wk_X7_madeBits_23 {p : Program} {l : Launch} {e : Env} {s : State} {m : MethodId} {args : Array Value} {below : List Frame} {meth : Method} {c : Code} {D : va_G} {cB cI cJ cL cS : ClassId} {T : Nat × Nat × Nat × Nat} {A : Nat → Prop} {ad : Nat → Nat} {active : Int32} {rests : Int32} {writers : Nat → Int32} {tbytes : Nat → Int32} {tlen : Int32} {dbytes : Nat → Int32} {dlen : Int32} {next : Int32} {known : Int32} {rec : Nat → Int32} {m_made : Nat → Int32} {m_sort : Nat → Int32} {m_digits : Nat → Int32} {m_slots : Nat → Int32} {m_pages : Nat → Int32} {m_highest : Nat → Int64} {m_units : Nat → Nat → Int64} {m_kinds : Nat → Nat → Int32} {m_rows : Nat → Nat → Int32} {m_marks : Nat → Nat → Int32} {q_active : Nat → Int32} {q_rests : Nat → Int32} {q_writers : Nat → Nat → Int32} {l_made : Nat → Int32} {l_sort : Nat → Int32} {l_digits : Nat → Int32} {l_slots : Nat → Int32} {l_pages : Nat → Int32} {l_highest : Nat → Int64} {l_units : Nat → Nat → Int64} {l_kinds : Nat → Nat → Int32} {l_rows : Nat → Nat → Int32} {l_marks : Nat → Nat → Int32} {Q : Int32 → Prop} (C : Cq p s m args meth c D (Z5 cB cI cJ cL cS) T A cX7_madeBits RX7 3 (Option.some Jvm.ClassFile.FieldType.int)) {x1 : Int32} {x2 : Int32} {K4 : Int32 → Int32 → Prop} (hK4 : ∀ (y1 : Int32) (y2 : Int32), K4 y1 y2 → ww p l e ({ frames := 2, cells := 0, slots := 0, locals := 43 } : Room) s m args below meth c D A 3 (MQ below (va_Qi (fun (r : Int32) (u : Unit) => Q r ) (OutP D (fun (u : Unit) => (mw ad 94 (ctT cI cJ cL cS ad active rests writers tbytes tlen dbytes dlen next known rec m_made m_sort m_digits m_slots m_pages m_highest m_units m_kinds m_rows m_marks q_active q_rests q_writers l_made l_sort l_digits l_slots l_pages l_highest l_units l_kinds l_rows l_marks)))) A) args s 0 0 A) 0 0 (mw ad 94 (ctT cI cJ cL cS ad active rests writers tbytes tlen dbytes dlen next known rec m_made m_sort m_digits m_slots m_pages m_highest m_units m_kinds m_rows m_marks q_active q_rests q_writers l_made l_sort l_digits l_slots l_pages l_highest l_units l_kinds l_rows l_marks)) 4 [(0, .ref (ad 0)), (1, .int y1), (2, .int y2)] []) (hw : blk_X7_madeBits_23 l_made K4 Q x1 x2) : ww p l e ({ frames := 2, cells := 0, slots := 0, locals := 43 } : Room) s m args below meth c D A 3 (MQ below (va_Qi (fun (r : Int32) (u : Unit) => Q r ) (OutP D (fun (u : Unit) => (mw ad 94 (ctT cI cJ cL cS ad active rests writers tbytes tlen dbytes dlen next known rec m_made m_sort m_digits m_slots m_pages m_highest m_units m_kinds m_rows m_marks q_active q_rests q_writers l_made l_sort l_digits l_slots l_pages l_highest l_units l_kinds l_rows l_marks)))) A) args s 0 0 A) 0 0 (mw ad 94 (ctT cI cJ cL cS ad active rests writers tbytes tlen dbytes dlen next known rec m_made m_sort m_digits m_slots m_pages m_highest m_units m_kinds m_rows m_marks q_active q_rests q_writers l_made l_sort l_digits l_slots l_pages l_highest l_units l_kinds l_rows l_marks)) 23 [(0, .ref (ad 0)), (1, .int x1), (2, .int x2)] [] := by
  unfold blk_X7_madeBits_23 at hw
  refine w_iinc C (v := x2 + (1 : Int32)) 2 (fun x2_23 => [(2, .int x2_23), (0, .ref (ad 0)), (1, .int x1)]) dX7_madeBits_23 rfl rfl (by decide) (fun _ => rfl) (fun x2_23 e_x2_23 => ?_)
  replace hw := hw x2_23 e_x2_23
  refine w_goto C 4 (by decide) dX7_madeBits_26 ?_
  refine w_sub (lv' := [(0, .ref (ad 0)), (1, .int x1), (2, .int x2_23)]) C [1, 2, 0] rfl ?_
  exact hK4 _ _ hw
set_option maxHeartbeats 4000000 in
set_option maxRecDepth 100000 in
theorem wl_X7_madeBits_4 {p : Program} {l : Launch} {e : Env} {s : State} {m : MethodId} {args : Array Value} {below : List Frame} {meth : Method} {c : Code} {D : va_G} {cB cI cJ cL cS : ClassId} {T : Nat × Nat × Nat × Nat} {A : Nat → Prop} {ad : Nat → Nat} {active : Int32} {rests : Int32} {writers : Nat → Int32} {tbytes : Nat → Int32} {tlen : Int32} {dbytes : Nat → Int32} {dlen : Int32} {next : Int32} {known : Int32} {rec : Nat → Int32} {m_made : Nat → Int32} {m_sort : Nat → Int32} {m_digits : Nat → Int32} {m_slots : Nat → Int32} {m_pages : Nat → Int32} {m_highest : Nat → Int64} {m_units : Nat → Nat → Int64} {m_kinds : Nat → Nat → Int32} {m_rows : Nat → Nat → Int32} {m_marks : Nat → Nat → Int32} {q_active : Nat → Int32} {q_rests : Nat → Int32} {q_writers : Nat → Nat → Int32} {l_made : Nat → Int32} {l_sort : Nat → Int32} {l_digits : Nat → Int32} {l_slots : Nat → Int32} {l_pages : Nat → Int32} {l_highest : Nat → Int64} {l_units : Nat → Nat → Int64} {l_kinds : Nat → Nat → Int32} {l_rows : Nat → Nat → Int32} {l_marks : Nat → Nat → Int32} {Q : Int32 → Prop} (C : Cq p s m args meth c D (Z5 cB cI cJ cL cS) T A cX7_madeBits RX7 3 (Option.some Jvm.ClassFile.FieldType.int))    : ∀ (j : Nat) (x1 : Int32) (x2 : Int32), lp_X7_madeBits_4 l_made  Q  j x1 x2 → ww p l e ({ frames := 2, cells := 0, slots := 0, locals := 43 } : Room) s m args below meth c D A 3 (MQ below (va_Qi (fun (r : Int32) (u : Unit) => Q r ) (OutP D (fun (u : Unit) => (mw ad 94 (ctT cI cJ cL cS ad active rests writers tbytes tlen dbytes dlen next known rec m_made m_sort m_digits m_slots m_pages m_highest m_units m_kinds m_rows m_marks q_active q_rests q_writers l_made l_sort l_digits l_slots l_pages l_highest l_units l_kinds l_rows l_marks)))) A) args s 0 0 A) 0 0 (mw ad 94 (ctT cI cJ cL cS ad active rests writers tbytes tlen dbytes dlen next known rec m_made m_sort m_digits m_slots m_pages m_highest m_units m_kinds m_rows m_marks q_active q_rests q_writers l_made l_sort l_digits l_slots l_pages l_highest l_units l_kinds l_rows l_marks)) 4 [(0, .ref (ad 0)), (1, .int x1), (2, .int x2)] [] := by
  intro j
  induction j with
  | zero => intro _ _ hw; exact hw.elim
  | succ j hK4 =>
    intro x1 x2 hw
    have hw : bod_X7_madeBits_4 l_made  Q  (fun v0 v1 => lp_X7_madeBits_4 l_made  Q  j v0 v1) x1 x2 := hw
    unfold bod_X7_madeBits_4 at hw
    refine w_iload_n C 2 dX7_madeBits_4 rfl ?_
    refine w_iconst C (v := (4 : Int32)) dX7_madeBits_5 (by decide) ?_
    refine w_icmp_ge C 29 (by decide) dX7_madeBits_6 (fun c_6 => ?_) (fun c_6 => ?_)
    · replace hw := hw.1 c_6
      refine w_iload_n C 1 dX7_madeBits_29 rfl ?_
      exact w_iret C () hw rfl (Nat.le_of_ble_eq_true rfl) (Nat.le_of_ble_eq_true rfl) dX7_madeBits_30
    · replace hw := hw.2 c_6
      refine w_aload_n C 0 dX7_madeBits_9 rfl ?_
      refine w_iload_n C 2 dX7_madeBits_10 rfl ?_
      refine w_callVE C (c_X7_madeAt (ad := ad) hw) f_X7_madeAt k_0 k_255 rfl ⟨Nat.le_of_ble_eq_true rfl, Nat.le_of_ble_eq_true rfl⟩ rfl rfl ⟨Nat.le_of_ble_eq_true rfl, Nat.le_of_ble_eq_true rfl⟩ 0 (mw_at (by decide) rfl) (rr := (RX7, TX7, 5)) rfl rfl (fun _ => mw_addr) rfl (Nat.le_of_ble_eq_true rfl) dX7_madeBits_11 (fun r_11 u_11 hw => ?_)
      obtain ⟨hw, hb_11⟩ := hw
      try dsimp only at hw
      cases r_11 with
      | none =>
        replace hw := hw.1 rfl
        refine w_ifnullN C 23 (by decide) dX7_madeBits_14 ?_
        refine w_sub (lv' := [(0, .ref (ad 0)), (1, .int x1), (2, .int x2)]) C [0, 1, 2] rfl ?_
        exact wk_X7_madeBits_23 C hK4 hw
      | some j_11 =>
        replace hw := hw.2 j_11 rfl
        have hb_11 := hb_11 j_11 rfl
        refine w_ifnull C dX7_madeBits_14 ?_
        refine w_iload_n C 1 dX7_madeBits_17 rfl ?_
        refine w_iconst C (v := (1 : Int32)) dX7_madeBits_18 (by decide) ?_
        refine w_iload_n C 2 dX7_madeBits_19 rfl ?_
        refine w_ishl C dX7_madeBits_20 ?_
        refine w_ior C dX7_madeBits_21 ?_
        refine w_istore_n C (fun x1_22 => [(1, .int x1_22), (0, .ref (ad 0)), (2, .int x2)]) dX7_madeBits_22 (by decide) (fun _ => rfl) (fun x1_22 e_x1_22 => ?_)
        replace hw := hw x1_22 e_x1_22
        refine w_sub (lv' := [(0, .ref (ad 0)), (1, .int x1_22), (2, .int x2)]) C [1, 0, 2] rfl ?_
        exact wk_X7_madeBits_23 C hK4 hw
set_option maxHeartbeats 4000000 in
set_option maxRecDepth 100000 in
theorem c_X7_madeBits {l : Launch} {D : va_G} {cB cI cJ cL cS : ClassId} {T : Nat × Nat × Nat × Nat} {ad : Nat → Nat}  {active : Int32} {rests : Int32} {writers : Nat → Int32} {tbytes : Nat → Int32} {tlen : Int32} {dbytes : Nat → Int32} {dlen : Int32} {next : Int32} {known : Int32} {rec : Nat → Int32} {m_made : Nat → Int32} {m_sort : Nat → Int32} {m_digits : Nat → Int32} {m_slots : Nat → Int32} {m_pages : Nat → Int32} {m_highest : Nat → Int64} {m_units : Nat → Nat → Int64} {m_kinds : Nat → Nat → Int32} {m_rows : Nat → Nat → Int32} {m_marks : Nat → Nat → Int32} {q_active : Nat → Int32} {q_rests : Nat → Int32} {q_writers : Nat → Nat → Int32} {l_made : Nat → Int32} {l_sort : Nat → Int32} {l_digits : Nat → Int32} {l_slots : Nat → Int32} {l_pages : Nat → Int32} {l_highest : Nat → Int64} {l_units : Nat → Nat → Int64} {l_kinds : Nat → Nat → Int32} {l_rows : Nat → Nat → Int32} {l_marks : Nat → Nat → Int32} {Q : Int32 → Prop} (hw : wp_X7_madeBits  l_made Q) : CtI l D (Z5 cB cI cJ cL cS) T yX7_madeBits cX7_madeBits 3 ({ frames := 2, cells := 0, slots := 0, locals := 43 } : Room) (Option.some Jvm.ClassFile.FieldType.int) [.ref (ad 0)] (mw ad 94 (ctT cI cJ cL cS ad active rests writers tbytes tlen dbytes dlen next known rec m_made m_sort m_digits m_slots m_pages m_highest m_units m_kinds m_rows m_marks q_active q_rests q_writers l_made l_sort l_digits l_slots l_pages l_highest l_units l_kinds l_rows l_marks)) (fun (u : Unit) => (mw ad 94 (ctT cI cJ cL cS ad active rests writers tbytes tlen dbytes dlen next known rec m_made m_sort m_digits m_slots m_pages m_highest m_units m_kinds m_rows m_marks q_active q_rests q_writers l_made l_sort l_digits l_slots l_pages l_highest l_units l_kinds l_rows l_marks))) (fun (r : Int32) (u : Unit) => Q r ) 0 0 := by
  refine ctI_of (own := RX7) (by decide +kernel) rfl (Nat.le_of_ble_eq_true rfl) (fun p e s m below meth c A C => ?_)
  refine w_sub (lv' := [(0, .ref (ad 0))]) C [0] rfl ?_
  unfold wp_X7_madeBits at hw
  refine w_iconst C (v := (0 : Int32)) dX7_madeBits_0 (by decide) ?_
  refine w_istore_n C (fun x1_1 => [(1, .int x1_1), (0, .ref (ad 0))]) dX7_madeBits_1 (by decide) (fun _ => rfl) (fun x1_1 e_x1_1 => ?_)
  replace hw := hw x1_1 e_x1_1
  refine w_iconst C (v := (0 : Int32)) dX7_madeBits_2 (by decide) ?_
  refine w_istore_n C (fun x2_3 => [(2, .int x2_3), (1, .int x1_1), (0, .ref (ad 0))]) dX7_madeBits_3 (by decide) (fun _ => rfl) (fun x2_3 e_x2_3 => ?_)
  replace hw := hw x2_3 e_x2_3
  refine w_sub (lv' := [(0, .ref (ad 0)), (1, .int x1_1), (2, .int x2_3)]) C [2, 1, 0] rfl ?_
  obtain ⟨j, hw⟩ := hw
  exact wl_X7_madeBits_4 C  j _ _ hw
def wp_X7_count (p0 : Int32) (active : Int32) (rests : Int32) (writers : Nat → Int32) (tlen : Int32) (known : Int32) (l_made : Nat → Int32) (Q : Int32 → Prop) : Prop := (((p0).toInt = 0 → (wp_X7_madeBits  l_made (fun (r_41 : Int32) => Q r_41))) ∧ ((p0).toInt = 1 → (Q active)) ∧ ((p0).toInt = 2 → (wp_X2_writerBits  writers (fun (r_57 : Int32) => Q r_57))) ∧ ((p0).toInt = 3 → (Q rests)) ∧ ((p0).toInt = 4 → (Q known)) ∧ ((p0).toInt = 5 → (Q tlen)) ∧ ((p0).toInt < 0 ∨ 5 < (p0).toInt → (Q (-1 : Int32))))
set_option maxHeartbeats 4000000 in
set_option maxRecDepth 100000 in
theorem c_X7_count {l : Launch} {D : va_G} {cB cI cJ cL cS : ClassId} {T : Nat × Nat × Nat × Nat} {ad : Nat → Nat} {p0 : Int32} {active : Int32} {rests : Int32} {writers : Nat → Int32} {tbytes : Nat → Int32} {tlen : Int32} {dbytes : Nat → Int32} {dlen : Int32} {next : Int32} {known : Int32} {rec : Nat → Int32} {m_made : Nat → Int32} {m_sort : Nat → Int32} {m_digits : Nat → Int32} {m_slots : Nat → Int32} {m_pages : Nat → Int32} {m_highest : Nat → Int64} {m_units : Nat → Nat → Int64} {m_kinds : Nat → Nat → Int32} {m_rows : Nat → Nat → Int32} {m_marks : Nat → Nat → Int32} {q_active : Nat → Int32} {q_rests : Nat → Int32} {q_writers : Nat → Nat → Int32} {l_made : Nat → Int32} {l_sort : Nat → Int32} {l_digits : Nat → Int32} {l_slots : Nat → Int32} {l_pages : Nat → Int32} {l_highest : Nat → Int64} {l_units : Nat → Nat → Int64} {l_kinds : Nat → Nat → Int32} {l_rows : Nat → Nat → Int32} {l_marks : Nat → Nat → Int32} {Q : Int32 → Prop} (hw : wp_X7_count p0 active rests writers tlen known l_made Q) : CtI l D (Z5 cB cI cJ cL cS) T yX7_count cX7_count 2 ({ frames := 3, cells := 0, slots := 0, locals := 65 } : Room) (Option.some Jvm.ClassFile.FieldType.int) [.ref (ad 0), .int p0] (mw ad 94 (ctT cI cJ cL cS ad active rests writers tbytes tlen dbytes dlen next known rec m_made m_sort m_digits m_slots m_pages m_highest m_units m_kinds m_rows m_marks q_active q_rests q_writers l_made l_sort l_digits l_slots l_pages l_highest l_units l_kinds l_rows l_marks)) (fun (u : Unit) => (mw ad 94 (ctT cI cJ cL cS ad active rests writers tbytes tlen dbytes dlen next known rec m_made m_sort m_digits m_slots m_pages m_highest m_units m_kinds m_rows m_marks q_active q_rests q_writers l_made l_sort l_digits l_slots l_pages l_highest l_units l_kinds l_rows l_marks))) (fun (r : Int32) (u : Unit) => Q r ) 0 0 := by
  refine ctI_of (own := RX7) (by decide +kernel) rfl (Nat.le_of_ble_eq_true rfl) (fun p e s m below meth c A C => ?_)
  refine w_sub (lv' := [(0, .ref (ad 0)), (1, .int p0)]) C [0, 1] rfl ?_
  unfold wp_X7_count at hw
  refine w_iload_n C 1 dX7_count_0 rfl ?_
  by_cases h1_1 : (p0).toInt < 0
  · replace hw := hw.2.2.2.2.2.2 (Or.inl h1_1)
    refine w_tout C 85 (Or.inl h1_1) (by decide) dX7_count_1 ?_
    refine w_iconst C (v := (-1 : Int32)) dX7_count_85 (by decide) ?_
    exact w_iret C () hw rfl (Nat.le_of_ble_eq_true rfl) (Nat.le_of_ble_eq_true rfl) dX7_count_86
  by_cases h2_1 : 5 < (p0).toInt
  · replace hw := hw.2.2.2.2.2.2 (Or.inr h2_1)
    refine w_tout C 85 (Or.inr h2_1) (by decide) dX7_count_1 ?_
    refine w_iconst C (v := (-1 : Int32)) dX7_count_85 (by decide) ?_
    exact w_iret C () hw rfl (Nat.le_of_ble_eq_true rfl) (Nat.le_of_ble_eq_true rfl) dX7_count_86
  rcases (show (p0).toInt = 0 ∨ (p0).toInt = 1 ∨ (p0).toInt = 2 ∨ (p0).toInt = 3 ∨ (p0).toInt = 4 ∨ (p0).toInt = 5 by omega) with h3_1 | h3_1 | h3_1 | h3_1 | h3_1 | h3_1
  · replace hw := hw.1 h3_1
    refine w_tin C 40 h1_1 h2_1 (by rw [h3_1]; rfl) (by decide) dX7_count_1 ?_
    refine w_aload_n C 0 dX7_count_40 rfl ?_
    refine w_callVI C (c_X7_madeBits (ad := ad) hw) f_X7_madeBits k_20 k_807 rfl ⟨Nat.le_of_ble_eq_true rfl, Nat.le_of_ble_eq_true rfl⟩ rfl rfl ⟨Nat.le_of_ble_eq_true rfl, Nat.le_of_ble_eq_true rfl⟩ 0 (mw_at (by decide) rfl) (rr := (RX7, TX7, 5)) rfl rfl (fun _ => mw_addr) rfl (Nat.le_of_ble_eq_true rfl) dX7_count_41 (fun r_41 u_41 hw => ?_)
    try dsimp only at hw
    exact w_iret C () hw rfl (Nat.le_of_ble_eq_true rfl) (Nat.le_of_ble_eq_true rfl) dX7_count_44
  · replace hw := hw.2.1 h3_1
    refine w_tin C 45 h1_1 h2_1 (by rw [h3_1]; rfl) (by decide) dX7_count_1 ?_
    refine w_aload_n C 0 dX7_count_45 rfl ?_
    refine w_get C (T1 := TX7) (0) 1 u_X7 k_212 rfl (by decide) (mw_at (by decide) rfl) rfl dX7_count_46 ?_
    refine w_getN C (T1 := TX2) (2 + 0) 0 u_X2 n_100 rfl (by decide) (mw_at (by decide) rfl) rfl dX7_count_49 ?_
    exact w_iret C () hw rfl (Nat.le_of_ble_eq_true rfl) (Nat.le_of_ble_eq_true rfl) dX7_count_52
  · replace hw := hw.2.2.1 h3_1
    refine w_tin C 53 h1_1 h2_1 (by rw [h3_1]; rfl) (by decide) dX7_count_1 ?_
    refine w_aload_n C 0 dX7_count_53 rfl ?_
    refine w_get C (T1 := TX7) (0) 1 u_X7 k_212 rfl (by decide) (mw_at (by decide) rfl) rfl dX7_count_54 ?_
    refine w_callXI C (c_X2_writerBits (a := fun i => ad (2 + i)) hw) f_X2_writerBits k_774 k_772 rfl ⟨Nat.le_of_ble_eq_true rfl, Nat.le_of_ble_eq_true rfl⟩ rfl rfl ⟨Nat.le_of_ble_eq_true rfl, Nat.le_of_ble_eq_true rfl⟩ 0 rfl (rr := (RX2, TX2, 3)) rfl rfl (ad := ad) (N := 94) (plP) (wc_P (cB := cB)) lt_P nd_P (fun (u : Unit) => (ctT cI cJ cL cS ad active rests writers tbytes tlen dbytes dlen next known rec m_made m_sort m_digits m_slots m_pages m_highest m_units m_kinds m_rows m_marks q_active q_rests q_writers l_made l_sort l_digits l_slots l_pages l_highest l_units l_kinds l_rows l_marks)) (fun _ => rfl) (fun _ _ _ _ => rfl) rfl (Nat.le_of_ble_eq_true rfl) dX7_count_57 (fun r_57 u_57 hw => ?_)
    try dsimp only at hw
    exact w_iret C () hw rfl (Nat.le_of_ble_eq_true rfl) (Nat.le_of_ble_eq_true rfl) dX7_count_60
  · replace hw := hw.2.2.2.1 h3_1
    refine w_tin C 61 h1_1 h2_1 (by rw [h3_1]; rfl) (by decide) dX7_count_1 ?_
    refine w_aload_n C 0 dX7_count_61 rfl ?_
    refine w_get C (T1 := TX7) (0) 1 u_X7 k_212 rfl (by decide) (mw_at (by decide) rfl) rfl dX7_count_62 ?_
    refine w_getN C (T1 := TX2) (2 + 0) 1 u_X2 n_102 rfl (by decide) (mw_at (by decide) rfl) rfl dX7_count_65 ?_
    exact w_iret C () hw rfl (Nat.le_of_ble_eq_true rfl) (Nat.le_of_ble_eq_true rfl) dX7_count_68
  · replace hw := hw.2.2.2.2.1 h3_1
    refine w_tin C 69 h1_1 h2_1 (by rw [h3_1]; rfl) (by decide) dX7_count_1 ?_
    refine w_aload_n C 0 dX7_count_69 rfl ?_
    refine w_get C (T1 := TX7) (0) 4 u_X7 k_215 rfl (by decide) (mw_at (by decide) rfl) rfl dX7_count_70 ?_
    refine w_getN C (T1 := TX0) (8) 2 u_X0 n_202 rfl (by decide) (mw_at (by decide) rfl) rfl dX7_count_73 ?_
    exact w_iret C () hw rfl (Nat.le_of_ble_eq_true rfl) (Nat.le_of_ble_eq_true rfl) dX7_count_76
  · replace hw := hw.2.2.2.2.2.1 h3_1
    refine w_tin C 77 h1_1 h2_1 (by rw [h3_1]; rfl) (by decide) dX7_count_1 ?_
    refine w_aload_n C 0 dX7_count_77 rfl ?_
    refine w_get C (T1 := TX7) (0) 2 u_X7 k_213 rfl (by decide) (mw_at (by decide) rfl) rfl dX7_count_78 ?_
    refine w_getN C (T1 := TX5) (4 + 0) 1 u_X5 n_119 rfl (by decide) (mw_at (by decide) rfl) rfl dX7_count_81 ?_
    exact w_iret C () hw rfl (Nat.le_of_ble_eq_true rfl) (Nat.le_of_ble_eq_true rfl) dX7_count_84
