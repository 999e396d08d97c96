/-! ===== peek ===== -/
theorem stp_peek : Stp_peek Inv := by
  unfold Stp_peek
  intro p0 p1 p2 p3 p4 active rests writers tbytes tlen dbytes dlen next known rec m_made m_sort m_digits m_slots m_pages m_highest m_units m_kinds m_rows m_marks q_active q_rests q_writers l_made l_sort l_digits l_slots l_pages l_highest l_units l_kinds l_rows l_marks t_tape t_taped t_set t_highest t_units t_kinds t_sideKind t_side t_active t_rests t_writes t_more t_packed t_packedMany t_at t_wrong t_number t_readSort t_readDigits t_readHighest t_wasSet t_wasHighest t_wasUnits t_wasKinds t_wasSideKind t_wasSide t_undone hI
  obtain ⟨hT, hP, hO, hL, hH⟩ := id hI
  have z0 : (0 : Int32).toInt = 0 := by decide
  have z1 : (1 : Int32).toInt = 1 := by decide
  have z8 : (8 : Int32).toInt = 8 := by decide
  have z15 : (15 : Int64).toInt = 15 := by decide
  rcases made_cases l_made l_sort l_digits l_slots l_pages l_highest l_units l_kinds l_rows l_marks t_set t_highest t_units t_kinds t_sideKind t_side hL p0 with ⟨r, hr, e, so, d, h, u, k, rr, m, hA, hC, hM⟩ | ho
  rotate_left
  · unfold wp_X7_peek
    refine sp_madeAt_out (fun r hr e => (ho r hr e).1) (opt_n ?_)
    unfold wp_X8_peek wp_X8_isPage
    exact sp_isMade_out (fun r hr e => (ho r hr e).2) (q0b (q0b ⟨rfl, hI⟩))
  subst e
  obtain ⟨hso, hd, hh1, hh2, hu, hk, hrr, hm, hm0⟩ := id hA
  obtain ⟨c_made, c_sort, c_dig, c_slots, c_pages, c_high, c_u, c_k, c_r, c_m⟩ := id hC
  obtain ⟨v_sort, v_dig, v_slots, v_made, v_high, v_u, v_k, v_r, v_m⟩ := id hM
  have ⟨b1, b2, b3, b4⟩ := PG_b hd hh2
  have v_sort : t_set (4 * r + 0) = nI so := v_sort
  have v_dig : t_set (4 * r + 1) = nI d := v_dig
  have v_slots : t_set (4 * r + 2) = nI (Slot d h + 1) := v_slots
  have v_made : t_set (4 * r + 3) = 1 := v_made
  have v_u : ∀ j, j < 16 * PG d h → t_units (4352 * r + j) = lN (u j) := v_u
  have v_k : ∀ p, p < PG d h → t_kinds (272 * r + p) = nI (k p) := v_k
  have v_r : ∀ p, p < PG d h → t_sideKind (272 * r + p) = nI (rr p) := v_r
  have v_m : ∀ j, j < 4352 → t_side (4352 * r + j) = nI (m j) := v_m
  have hk10 : ∀ p, k p ≤ 10 := fun p => KOK_le hso (hk p)
  by_cases hBad : (p1.toInt < 0 ∨ 1 < p1.toInt ∨ (p2.toInt < 0 ∨ (PG d h : Int) ≤ p2.toInt) ∨ p4.toInt < 0 ∨ 8 < p4.toInt)
  · have m8 : ∀ Q : Int64 → Prop, Q (-9223372036854775808) → wp_X8_peek (nI r) p1 p2 p3 p4 t_set t_units t_kinds t_sideKind t_side Q := by
      intro Q q
      unfold wp_X8_peek
      exact sp_isPage2 hr hd hh2 v_slots v_made (fun a1 a2 => q1b (sp_mIn (b := 1) (by decide) (fun a3 a4 => q1b (sp_mIn (b := 8) (by decide) (fun a5 a6 => by omega) (fun _ => q0a q))) (fun _ => q0b q))) (fun _ => q0b q)
    unfold wp_X7_peek
    refine sp_madeAt_in hr c_made (opt_s ?_)
    refine q_if (fa_lt _ _) (fun _ => m8 _ ⟨rfl, hI⟩) (fun a1 => q_if (fa_lt _ _) (fun _ => m8 _ ⟨rfl, hI⟩) (fun a2 => ?_))
    refine sp_hasPage2 b1 c_pages (fun q hq e => q1b ?_) (fun _ => q0b (m8 _ ⟨rfl, hI⟩))
    refine q_if (fa_lt _ _) (fun _ => m8 _ ⟨rfl, hI⟩) (fun a3 => q_if (fa_le _ _) (fun a4 => ?_) (fun _ => m8 _ ⟨rfl, hI⟩))
    exfalso
    rw [e, nI_toInt (by omega)] at hBad
    omega
  obtain ⟨wh, hwh, e1⟩ := int_nI (p := p1) (b := 1) (by omega) (by omega) (by decide)
  obtain ⟨q, hq, e2⟩ := int_nI (p := p2) (b := PG d h - 1) (by omega) (by omega) (by omega)
  obtain ⟨hw, hhw, e4⟩ := int_nI (p := p4) (b := 8) (by omega) (by omega) (by decide)
  clear hBad
  subst e1 e2 e4
  have hqP : q < PG d h := by omega
  have hkq := hk10 q
  have hrq := hrr q
  have t1 := nI_toInt (n := wh) (by omega)
  have t2 := nI_toInt (n := q) (by omega)
  have t4 := nI_toInt (n := hw) (by omega)
  have c8 : ∀ Q kk, (wh = 0 → kk = k q) → (wh = 1 → kk = rr q) → blk_X8_peek_67 t_set t_units t_kinds t_sideKind t_side Q (nI r) (nI wh) (nI q) p3 (nI hw) (nI kk) → wp_X8_peek (nI r) (nI wh) (nI q) p3 (nI hw) t_set t_units t_kinds t_sideKind t_side Q := by
    intro Q kk k0 k1 hQ
    unfold wp_X8_peek
    refine sp_isPage2 hr hd hh2 v_slots v_made (fun _ _ => q1b ?_) (fun o => by omega)
    refine sp_mIn (b := 1) (by decide) (fun _ _ => q1b ?_) (fun o => by omega)
    refine sp_mIn (b := 8) (by decide) (fun _ _ => q1a ?_) (fun o => by omega)
    rw [show (272 : Int32) * nI r + nI q = nI (272 * r + q) from ix_at 272 r q]
    refine q_fi (nI_eq (b := 0) (by omega) (by decide)) (fun a => ?_) (fun a => ?_)
    · refine q_in (by omega) (by decide) ?_
      rw [nI_clamp (by omega), v_k q hqP, ← k0 a]
      exact hQ
    · refine q_in (by omega) (by decide) ?_
      rw [nI_clamp (by omega), v_r q hqP, ← k1 (by omega)]
      exact hQ
  unfold wp_X7_peek
  refine sp_madeAt_in hr c_made (opt_s ?_)
  refine q_if (fa_lt _ _) (fun a => by omega) (fun _ => q_if (fa_lt _ _) (fun a => by omega) (fun _ => ?_))
  refine sp_hasPage2 b1 c_pages (fun _ _ _ => q1b ?_) (fun o => by omega)
  refine q_if (fa_lt _ _) (fun a => by omega) (fun _ => q_if (fa_le _ _) (fun _ => ?_) (fun a => by omega))
  have n4 : ((-4 : Int32)).toInt64 = (-4 : Int64) := by decide
  have n3 : ((-3 : Int32)).toInt64 = (-3 : Int64) := by decide
  have n2 : ((-2 : Int32)).toInt64 = (-2 : Int64) := by decide
  refine q_fi (nI_eq (b := 0) (by omega) (by decide)) (fun a => ?_) (fun a => ?_)
  · -- units
    subst a
    refine sp_kindOf (by omega) ?_
    rw [c_k q hqP]
    unfold blk_X7_peek_65
    intro x7 hx7
    rw [hx7]
    refine sp_refG (by omega) (by omega) (fun e0 x9 hx9 => ?_) (fun e0 pp x9 hx9 => ?_) (fun e0 pa pb nt x9 hx9 => ?_) (fun e0 pa pb tt x9 hx9 => ?_)
    · rw [hx9]
      refine ⟨fun a => absurd a (by decide), fun _ => ?_⟩
      refine c8 _ (k q) (fun _ => rfl) (fun a => absurd a (by decide)) ?_
      unfold blk_X8_peek_67
      intro x6 hx6
      rw [hx6, e0]
      exact q0a ⟨n4, hI⟩
    · rw [hx9]
      refine ⟨fun a => absurd a (by decide), fun _ => ?_⟩
      refine c8 _ (k q) (fun _ => rfl) (fun a => absurd a (by decide)) ?_
      unfold blk_X8_peek_67
      intro x6 hx6
      rw [hx6]
      refine q_fi (nI_eq (b := 0) (by omega) (by decide)) (fun a => absurd a e0) (fun _ => ?_)
      exact sp_mIn z15 (fun _ _ => by omega) (fun _ => q0a ⟨n2, hI⟩)
    · rw [hx9]
      refine ⟨fun a => absurd a (by decide), fun _ => ?_⟩
      refine c8 _ (k q) (fun _ => rfl) (fun a => absurd a (by decide)) ?_
      unfold blk_X8_peek_67
      intro x6 hx6
      rw [hx6]
      refine q_fi (nI_eq (b := 0) (by omega) (by decide)) (fun a => absurd a e0) (fun _ => ?_)
      refine sp_mIn z15 (fun _ _ => q1a ?_) (fun _ => by omega)
      intro x7b hx7b
      refine ⟨fun _ => ?_, fun a => absurd a (by decide)⟩
      refine q_if (nI_ltI (a := 8) (by decide) (by omega)) (fun g => ⟨n3, hI⟩) (fun g => ?_)
      exact sp_tells (by omega) (by omega) hhw (fun t => absurd t nt) (fun _ => q0a ⟨n3, hI⟩)
    · rw [hx9]
      refine ⟨fun _ => ?_, fun a => absurd rfl a⟩
      obtain ⟨i, hi, e3⟩ := int_nI (p := p3) (b := 15) pa (by omega) (by decide)
      subst e3
      have t3 := nI_toInt (n := i) (by omega)
      have h8 : k q ≤ 8 := by
        rcases Nat.lt_or_ge 8 (k q) with z | z
        · exact absurd tt (gv_9 z hkq)
        · exact z
      have a7 : k q = 7 → hw = 0 ∨ hw = 7 ∨ hw = 8 := fun e7 => by
        by_cases z : hw = 0
        · exact Or.inl z
        · rw [e7, gv_7 z] at tt; omega
      have a8 : k q = 8 → hw = 0 ∨ hw = 8 := fun e8 => by
        by_cases z : hw = 0
        · exact Or.inl z
        · rw [e8, gv_8 z] at tt; exact Or.inr tt
      have hub := hu (16 * q + i)
      have h7 : k q = 7 → u (16 * q + i) ≤ 1048576 := by
        intro e7
        have := (hk q).2.2.2 (by omega) h8 i (by omega)
        rw [e7] at this
        have c7 : cap 7 = 1048576 := by decide
        rw [c7] at this
        exact this
      intro x9b hx9b
      rw [hx9b, show (16 : Int32) * nI q + nI i = nI (16 * q + i) from ix_at 16 q i]
      refine ⟨fun a => absurd rfl a, fun _ => ?_⟩
      refine sp_unitsOf (by omega) ?_
      rw [c_u _ (by omega)]
      refine sp_told (by omega) h8 hhw hub ?_
      refine c8 _ (k q) (fun _ => rfl) (fun a => absurd a (by decide)) ?_
      unfold blk_X8_peek_67
      intro x6 hx6
      rw [hx6]
      refine q_fi (nI_eq (b := 0) (by omega) (by decide)) (fun a => absurd a e0) (fun _ => ?_)
      refine sp_mIn z15 (fun _ _ => q1a ?_) (fun _ => by omega)
      intro x7b hx7b
      refine ⟨fun _ => ?_, fun a => absurd a (by decide)⟩
      refine q_if (nI_ltI (a := 8) (by decide) (by omega)) (fun g => absurd g (by omega)) (fun g => ?_)
      refine sp_tells (by omega) h8 hhw (fun t => q1a ?_) (fun nt => absurd tt nt)
      rw [hx7b, show (((4352 : Int32) * nI r) + ((16 : Int32) * nI q)) + nI i = nI (4352 * r + (16 * q + i)) from ix_up r q i]
      refine q_in (by omega) (by decide) ?_
      rw [nI_clamp (by omega), v_u _ (by omega)]
      exact sp_toldBy (by omega) h8 hhw hub h7 a7 a8 ⟨rfl, hI⟩
  · -- marks
    have e1 : wh = 1 := by omega
    subst e1
    refine sp_rowOf (by omega) ?_
    rw [c_r q hqP]
    have hrw : rwc (rr q) < 13 ∧ (rwc (rr q) = 0 ↔ rr q = 0) ∧ (rr q ≠ 0 → rwc (rr q) = 11 ∨ rwc (rr q) = 12) := by
      unfold rwc
      split <;> omega
    unfold blk_X7_peek_65
    intro x7 hx7
    rw [hx7]
    refine sp_refG hrw.1 (by omega) (fun e0 x9 hx9 => ?_) (fun e0 pp x9 hx9 => ?_) (fun e0 pa pb nt x9 hx9 => ?_) (fun e0 pa pb tt x9 hx9 => ?_)
    · rw [hx9]
      refine ⟨fun a => absurd a (by decide), fun _ => ?_⟩
      refine c8 _ (rr q) (fun a => absurd a (by decide)) (fun _ => rfl) ?_
      unfold blk_X8_peek_67
      intro x6 hx6
      rw [hx6, hrw.2.1.mp e0]
      exact q0a ⟨n4, hI⟩
    · rw [hx9]
      refine ⟨fun a => absurd a (by decide), fun _ => ?_⟩
      refine c8 _ (rr q) (fun a => absurd a (by decide)) (fun _ => rfl) ?_
      unfold blk_X8_peek_67
      intro x6 hx6
      rw [hx6]
      refine q_fi (nI_eq (b := 0) (by omega) (by decide)) (fun a => absurd (hrw.2.1.mpr a) e0) (fun _ => ?_)
      exact sp_mIn z15 (fun _ _ => by omega) (fun _ => q0a ⟨n2, hI⟩)
    · rw [hx9]
      refine ⟨fun a => absurd a (by decide), fun _ => ?_⟩
      refine c8 _ (rr q) (fun a => absurd a (by decide)) (fun _ => rfl) ?_
      unfold blk_X8_peek_67
      intro x6 hx6
      rw [hx6]
      refine q_fi (nI_eq (b := 0) (by omega) (by decide)) (fun a => absurd (hrw.2.1.mpr a) e0) (fun nz => ?_)
      refine sp_mIn z15 (fun _ _ => q1a ?_) (fun _ => by omega)
      intro x7b hx7b
      refine ⟨fun a => absurd rfl a, fun _ => ?_⟩
      have hne : hw ≠ 0 := by
        exact fun e => nt ((gv_m (hrw.2.2 nz)).mpr e)
      exact q_fi (nI_eq (b := 0) (by omega) (by decide)) (fun a => absurd a hne) (fun _ => ⟨n3, hI⟩)
    · rw [hx9]
      refine ⟨fun _ => ?_, fun a => absurd rfl a⟩
      obtain ⟨i, hi, e3⟩ := int_nI (p := p3) (b := 15) pa (by omega) (by decide)
      subst e3
      have t3 := nI_toInt (n := i) (by omega)
      have nz : rr q ≠ 0 := fun a => e0 (hrw.2.1.mpr a)
      have hw0 : hw = 0 := (gv_m (hrw.2.2 nz)).mp tt
      intro x9b hx9b
      rw [hx9b, show (16 : Int32) * nI q + nI i = nI (16 * q + i) from ix_at 16 q i]
      refine ⟨fun _ => ?_, fun a => absurd a (by decide)⟩
      refine sp_markOf (by omega) ?_
      rw [c_m _ (by omega)]
      refine c8 _ (rr q) (fun a => absurd a (by decide)) (fun _ => rfl) ?_
      unfold blk_X8_peek_67
      intro x6 hx6
      rw [hx6]
      refine q_fi (nI_eq (b := 0) (by omega) (by decide)) (fun a => absurd a nz) (fun _ => ?_)
      refine sp_mIn z15 (fun _ _ => q1a ?_) (fun _ => by omega)
      intro x7b hx7b
      refine ⟨fun a => absurd rfl a, fun _ => ?_⟩
      refine q_fi (nI_eq (b := 0) (by omega) (by decide)) (fun _ => ?_) (fun a => absurd hw0 a)
      rw [hx7b, show (((4352 : Int32) * nI r) + ((16 : Int32) * nI q)) + nI i = nI (4352 * r + (16 * q + i)) from ix_up r q i]
      refine q_in (by omega) (by decide) ?_
      rw [nI_clamp (by omega), v_m _ (by omega)]
      exact ⟨rfl, hI⟩
