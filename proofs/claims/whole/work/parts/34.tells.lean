/-! ===== calls that only tell ===== -/
theorem stp_total : Stp_total Inv := by
  unfold Stp_total
  intro p0 active rests writers tbytes tlen dbytes dlen next known rec m_made m_sort m_digits m_slots m_pages m_highest m_units m_kinds m_rows m_marks q_active q_rests q_writers l_made l_sort l_digits l_slots l_pages l_highest l_units l_kinds l_rows l_marks t_tape t_taped t_set t_highest t_units t_kinds t_sideKind t_side t_active t_rests t_writes t_more t_packed t_packedMany t_at t_wrong t_number t_readSort t_readDigits t_readHighest t_wasSet t_wasHighest t_wasUnits t_wasKinds t_wasSideKind t_wasSide t_undone hI
  obtain ⟨hT, hP, hO, hL, hH⟩ := id hI
  rcases made_cases l_made l_sort l_digits l_slots l_pages l_highest l_units l_kinds l_rows l_marks t_set t_highest t_units t_kinds t_sideKind t_side hL p0 with ⟨r, hr, e, so, d, h, u, k, rr, m, hA, hC, hM⟩ | ho
  · subst e
    obtain ⟨hso, hd, hh1, hh2, hu, hk, hrr, hm, hm0⟩ := id hA
    obtain ⟨c_made, c_sort, c_dig, c_slots, c_pages, c_high, c_u, c_k, c_r, c_m⟩ := id hC
    obtain ⟨v_sort, v_dig, v_slots, v_made, v_high, v_u, v_k, v_r, v_m⟩ := id hM
    have ⟨b1, b2, b3, b4⟩ := PG_b hd hh2
    have v_sort : t_set (4 * r + 0) = nI so := v_sort
    have v_dig : t_set (4 * r + 1) = nI d := v_dig
    have v_slots : t_set (4 * r + 2) = nI (Slot d h + 1) := v_slots
    have v_made : t_set (4 * r + 3) = 1 := v_made
    have v_u : ∀ j, j < 16 * PG d h → t_units (4352 * r + j) = lN (u j) := v_u
    have v_k : ∀ p, p < PG d h → t_kinds (272 * r + p) = nI (k p) := v_k
    have v_r : ∀ p, p < PG d h → t_sideKind (272 * r + p) = nI (rr p) := v_r
    have v_m : ∀ j, j < 4352 → t_side (4352 * r + j) = nI (m j) := v_m
    have hk10 : ∀ p, k p ≤ 10 := fun p => KOK_le hso (hk p)
    unfold wp_X7_total
    refine sp_madeAt_in hr c_made (opt_s ?_)
    refine sp_all hA hC ?_
    unfold wp_X8_total
    refine sp_isMade_in hr v_made (q1b ?_)
    exact sp_tot hr hA hM ⟨rfl, hI⟩
  · unfold wp_X7_total
    refine sp_madeAt_out (fun r hr e => (ho r hr e).1) (opt_n ?_)
    unfold wp_X8_total
    exact sp_isMade_out (fun r hr e => (ho r hr e).2) (q0b ⟨rfl, hI⟩)
theorem stp_at : Stp_at Inv := by
  unfold Stp_at
  intro p0 p1 active rests writers tbytes tlen dbytes dlen next known rec m_made m_sort m_digits m_slots m_pages m_highest m_units m_kinds m_rows m_marks q_active q_rests q_writers l_made l_sort l_digits l_slots l_pages l_highest l_units l_kinds l_rows l_marks t_tape t_taped t_set t_highest t_units t_kinds t_sideKind t_side t_active t_rests t_writes t_more t_packed t_packedMany t_at t_wrong t_number t_readSort t_readDigits t_readHighest t_wasSet t_wasHighest t_wasUnits t_wasKinds t_wasSideKind t_wasSide t_undone hI
  obtain ⟨hT, hP, hO, hL, hH⟩ := id hI
  rcases made_cases l_made l_sort l_digits l_slots l_pages l_highest l_units l_kinds l_rows l_marks t_set t_highest t_units t_kinds t_sideKind t_side hL p0 with ⟨r, hr, e, so, d, h, u, k, rr, m, hA, hC, hM⟩ | ho
  · subst e
    obtain ⟨hso, hd, hh1, hh2, hu, hk, hrr, hm, hm0⟩ := id hA
    obtain ⟨c_made, c_sort, c_dig, c_slots, c_pages, c_high, c_u, c_k, c_r, c_m⟩ := id hC
    obtain ⟨v_sort, v_dig, v_slots, v_made, v_high, v_u, v_k, v_r, v_m⟩ := id hM
    have ⟨b1, b2, b3, b4⟩ := PG_b hd hh2
    have v_sort : t_set (4 * r + 0) = nI so := v_sort
    have v_dig : t_set (4 * r + 1) = nI d := v_dig
    have v_slots : t_set (4 * r + 2) = nI (Slot d h + 1) := v_slots
    have v_made : t_set (4 * r + 3) = 1 := v_made
    have v_u : ∀ j, j < 16 * PG d h → t_units (4352 * r + j) = lN (u j) := v_u
    have v_k : ∀ p, p < PG d h → t_kinds (272 * r + p) = nI (k p) := v_k
    have v_r : ∀ p, p < PG d h → t_sideKind (272 * r + p) = nI (rr p) := v_r
    have v_m : ∀ j, j < 4352 → t_side (4352 * r + j) = nI (m j) := v_m
    have hk10 : ∀ p, k p ≤ 10 := fun p => KOK_le hso (hk p)
    unfold wp_X7_at
    refine sp_madeAt_in hr c_made (opt_s ?_)
    rw [c_high, c_dig]
    rcases reach_cases p1 hh2 with ⟨v, hv, e⟩ | o
    · subst e
      have hs := Slot_mono hd hv (show h < 2 ^ 63 by omega)
      refine sp_reaches_in hv hh2 (q1a ?_)
      refine sp_X7_slotOf hd (by omega) ?_
      refine sp_unitsOf (by omega) ?_
      rw [c_u _ (by omega)]
      unfold wp_X8_at
      refine sp_isMade_in hr v_made (q1b ?_)
      refine q_in hr (by decide) ?_
      rw [nI_clamp (by omega), v_high]
      refine sp_upto_in hv hh2 (q1b ?_)
      refine sp_of (c := 1) hr (by decide) ?_
      rw [v_dig]
      refine sp_X8_slotOf hd (by omega) ?_
      rw [show (4352 : Int32) * nI r + nI (Slot d v) = nI (4352 * r + Slot d v) by rw [show (4352 : Int32) = nI 4352 from rfl, pk_mul, nI_add]]
      refine q_in (by omega) (by decide) ?_
      rw [nI_clamp (by omega), v_u _ (by omega)]
      exact ⟨rfl, hI⟩
    · refine sp_reaches_out o hh2 (q0a ?_)
      unfold wp_X8_at
      refine sp_isMade_in hr v_made (q1b ?_)
      refine q_in hr (by decide) ?_
      rw [nI_clamp (by omega), v_high]
      exact sp_upto_out o hh2 (q0b ⟨rfl, hI⟩)
  · unfold wp_X7_at
    refine sp_madeAt_out (fun r hr e => (ho r hr e).1) (opt_n ?_)
    unfold wp_X8_at
    exact sp_isMade_out (fun r hr e => (ho r hr e).2) (q0b ⟨rfl, hI⟩)
theorem stp_below : Stp_below Inv := by
  unfold Stp_below
  intro p0 p1 active rests writers tbytes tlen dbytes dlen next known rec m_made m_sort m_digits m_slots m_pages m_highest m_units m_kinds m_rows m_marks q_active q_rests q_writers l_made l_sort l_digits l_slots l_pages l_highest l_units l_kinds l_rows l_marks t_tape t_taped t_set t_highest t_units t_kinds t_sideKind t_side t_active t_rests t_writes t_more t_packed t_packedMany t_at t_wrong t_number t_readSort t_readDigits t_readHighest t_wasSet t_wasHighest t_wasUnits t_wasKinds t_wasSideKind t_wasSide t_undone hI
  obtain ⟨hT, hP, hO, hL, hH⟩ := id hI
  rcases made_cases l_made l_sort l_digits l_slots l_pages l_highest l_units l_kinds l_rows l_marks t_set t_highest t_units t_kinds t_sideKind t_side hL p0 with ⟨r, hr, e, so, d, h, u, k, rr, m, hA, hC, hM⟩ | ho
  · subst e
    obtain ⟨hso, hd, hh1, hh2, hu, hk, hrr, hm, hm0⟩ := id hA
    obtain ⟨c_made, c_sort, c_dig, c_slots, c_pages, c_high, c_u, c_k, c_r, c_m⟩ := id hC
    obtain ⟨v_sort, v_dig, v_slots, v_made, v_high, v_u, v_k, v_r, v_m⟩ := id hM
    have ⟨b1, b2, b3, b4⟩ := PG_b hd hh2
    have v_sort : t_set (4 * r + 0) = nI so := v_sort
    have v_dig : t_set (4 * r + 1) = nI d := v_dig
    have v_slots : t_set (4 * r + 2) = nI (Slot d h + 1) := v_slots
    have v_made : t_set (4 * r + 3) = 1 := v_made
    have v_u : ∀ j, j < 16 * PG d h → t_units (4352 * r + j) = lN (u j) := v_u
    have v_k : ∀ p, p < PG d h → t_kinds (272 * r + p) = nI (k p) := v_k
    have v_r : ∀ p, p < PG d h → t_sideKind (272 * r + p) = nI (rr p) := v_r
    have v_m : ∀ j, j < 4352 → t_side (4352 * r + j) = nI (m j) := v_m
    have hk10 : ∀ p, k p ≤ 10 := fun p => KOK_le hso (hk p)
    unfold wp_X7_below
    refine sp_madeAt_in hr c_made (opt_s ?_)
    rw [c_high, c_dig]
    rcases reach_cases p1 hh2 with ⟨v, hv, e⟩ | o
    · subst e
      have hs := Slot_mono hd hv (show h < 2 ^ 63 by omega)
      refine sp_reaches_in hv hh2 (q1a ?_)
      refine sp_X7_slotOf hd (by omega) ?_
      refine sp_unitsAhead (N := Slot d h + 1) (P := PG d h) (by omega) b1 (by omega) c_slots c_pages c_u c_k (fun p => by have := hk10 p; omega) (fun p => (hk p).1) ?_
      unfold wp_X8_below
      refine sp_isMade_in hr v_made (q1b ?_)
      refine q_in hr (by decide) ?_
      rw [nI_clamp (by omega), v_high]
      refine sp_upto_in hv hh2 (q1b ?_)
      refine sp_of (c := 1) hr (by decide) ?_
      rw [v_dig]
      refine sp_X8_slotOf hd (by omega) ?_
      exact sp_sumOf hr (by omega) (fun j hj => v_u j (by omega)) ⟨rfl, hI⟩
    · refine sp_reaches_out o hh2 (q0a ?_)
      unfold wp_X8_below
      refine sp_isMade_in hr v_made (q1b ?_)
      refine q_in hr (by decide) ?_
      rw [nI_clamp (by omega), v_high]
      exact sp_upto_out o hh2 (q0b ⟨rfl, hI⟩)
  · unfold wp_X7_below
    refine sp_madeAt_out (fun r hr e => (ho r hr e).1) (opt_n ?_)
    unfold wp_X8_below
    exact sp_isMade_out (fun r hr e => (ho r hr e).2) (q0b ⟨rfl, hI⟩)
theorem stp_kind : Stp_kind Inv := by
  unfold Stp_kind
  intro p0 p1 active rests writers tbytes tlen dbytes dlen next known rec m_made m_sort m_digits m_slots m_pages m_highest m_units m_kinds m_rows m_marks q_active q_rests q_writers l_made l_sort l_digits l_slots l_pages l_highest l_units l_kinds l_rows l_marks t_tape t_taped t_set t_highest t_units t_kinds t_sideKind t_side t_active t_rests t_writes t_more t_packed t_packedMany t_at t_wrong t_number t_readSort t_readDigits t_readHighest t_wasSet t_wasHighest t_wasUnits t_wasKinds t_wasSideKind t_wasSide t_undone hI
  obtain ⟨hT, hP, hO, hL, hH⟩ := id hI
  rcases made_cases l_made l_sort l_digits l_slots l_pages l_highest l_units l_kinds l_rows l_marks t_set t_highest t_units t_kinds t_sideKind t_side hL p0 with ⟨r, hr, e, so, d, h, u, k, rr, m, hA, hC, hM⟩ | ho
  · subst e
    obtain ⟨hso, hd, hh1, hh2, hu, hk, hrr, hm, hm0⟩ := id hA
    obtain ⟨c_made, c_sort, c_dig, c_slots, c_pages, c_high, c_u, c_k, c_r, c_m⟩ := id hC
    obtain ⟨v_sort, v_dig, v_slots, v_made, v_high, v_u, v_k, v_r, v_m⟩ := id hM
    have ⟨b1, b2, b3, b4⟩ := PG_b hd hh2
    have v_sort : t_set (4 * r + 0) = nI so := v_sort
    have v_dig : t_set (4 * r + 1) = nI d := v_dig
    have v_slots : t_set (4 * r + 2) = nI (Slot d h + 1) := v_slots
    have v_made : t_set (4 * r + 3) = 1 := v_made
    have v_u : ∀ j, j < 16 * PG d h → t_units (4352 * r + j) = lN (u j) := v_u
    have v_k : ∀ p, p < PG d h → t_kinds (272 * r + p) = nI (k p) := v_k
    have v_r : ∀ p, p < PG d h → t_sideKind (272 * r + p) = nI (rr p) := v_r
    have v_m : ∀ j, j < 4352 → t_side (4352 * r + j) = nI (m j) := v_m
    have hk10 : ∀ p, k p ≤ 10 := fun p => KOK_le hso (hk p)
    unfold wp_X7_kind
    refine sp_madeAt_in hr c_made (opt_s ?_)
    rw [c_pages]
    unfold wp_X8_kind
    by_cases hp1 : p1 = -1
    · refine ⟨fun n => absurd hp1 n, fun _ => ?_⟩
      refine sp_isMade_in hr v_made (q1a ?_)
      exact ⟨fun n => absurd hp1 n, fun _ => sp_pagesOf hr hd hh2 v_slots ⟨rfl, hI⟩⟩
    · refine ⟨fun _ => ?_, fun n => absurd n hp1⟩
      rcases page_cases p1 b1 with ⟨q, hq, e⟩ | o
      · subst e
        refine sp_hasPage_in hq b1 (q1b ?_)
        refine sp_kindOf (by omega) ?_
        rw [c_k q hq]
        refine sp_isMade_in hr v_made (q1a ?_)
        refine ⟨fun _ => sp_pagesOf hr hd hh2 v_slots ?_, fun n => absurd n hp1⟩
        refine sp_inP_in hq b1 (q1b ?_)
        rw [show (272 : Int32) * nI r + nI q = nI (272 * r + q) by rw [show (272 : Int32) = nI 272 from rfl, pk_mul, nI_add]]
        refine q_in (by omega) (by decide) ?_
        rw [nI_clamp (by omega), v_k q hq]
        exact ⟨rfl, hI⟩
      · refine sp_hasPage_out o b1 (q0b ?_)
        refine sp_isMade_in hr v_made (q1a ?_)
        refine ⟨fun _ => sp_pagesOf hr hd hh2 v_slots ?_, fun n => absurd n hp1⟩
        exact sp_inP_out o b2 b1 (q0b ⟨rfl, hI⟩)
  · unfold wp_X7_kind
    refine sp_madeAt_out (fun r hr e => (ho r hr e).1) (opt_n ?_)
    unfold wp_X8_kind
    exact sp_isMade_out (fun r hr e => (ho r hr e).2) (q0a ⟨rfl, hI⟩)
theorem stp_room : Stp_room Inv := by
  unfold Stp_room
  intro p0 active rests writers tbytes tlen dbytes dlen next known rec m_made m_sort m_digits m_slots m_pages m_highest m_units m_kinds m_rows m_marks q_active q_rests q_writers l_made l_sort l_digits l_slots l_pages l_highest l_units l_kinds l_rows l_marks t_tape t_taped t_set t_highest t_units t_kinds t_sideKind t_side t_active t_rests t_writes t_more t_packed t_packedMany t_at t_wrong t_number t_readSort t_readDigits t_readHighest t_wasSet t_wasHighest t_wasUnits t_wasKinds t_wasSideKind t_wasSide t_undone hI
  obtain ⟨hT, hP, hO, hL, hH⟩ := id hI
  rcases made_cases l_made l_sort l_digits l_slots l_pages l_highest l_units l_kinds l_rows l_marks t_set t_highest t_units t_kinds t_sideKind t_side hL p0 with ⟨r, hr, e, so, d, h, u, k, rr, m, hA, hC, hM⟩ | ho
  · subst e
    obtain ⟨hso, hd, hh1, hh2, hu, hk, hrr, hm, hm0⟩ := id hA
    obtain ⟨c_made, c_sort, c_dig, c_slots, c_pages, c_high, c_u, c_k, c_r, c_m⟩ := id hC
    obtain ⟨v_sort, v_dig, v_slots, v_made, v_high, v_u, v_k, v_r, v_m⟩ := id hM
    have ⟨b1, b2, b3, b4⟩ := PG_b hd hh2
    have v_sort : t_set (4 * r + 0) = nI so := v_sort
    have v_dig : t_set (4 * r + 1) = nI d := v_dig
    have v_slots : t_set (4 * r + 2) = nI (Slot d h + 1) := v_slots
    have v_made : t_set (4 * r + 3) = 1 := v_made
    have v_u : ∀ j, j < 16 * PG d h → t_units (4352 * r + j) = lN (u j) := v_u
    have v_k : ∀ p, p < PG d h → t_kinds (272 * r + p) = nI (k p) := v_k
    have v_r : ∀ p, p < PG d h → t_sideKind (272 * r + p) = nI (rr p) := v_r
    have v_m : ∀ j, j < 4352 → t_side (4352 * r + j) = nI (m j) := v_m
    have hk10 : ∀ p, k p ≤ 10 := fun p => KOK_le hso (hk p)
    unfold wp_X7_room
    refine sp_madeAt_in hr c_made (opt_s ?_)
    refine sp_bytesOfPages b1 c_pages c_k (fun p => by have := hk10 p; omega) ?_
    exact sp_room hr hd hh2 v_made v_slots v_k (fun p => by have := hk10 p; omega) ⟨rfl, hI⟩
  · unfold wp_X7_room
    refine sp_madeAt_out (fun r hr e => (ho r hr e).1) (opt_n ?_)
    unfold wp_X8_room
    exact sp_isMade_out (fun r hr e => (ho r hr e).2) (q0a ⟨rfl, hI⟩)
theorem stp_examples : Stp_examples Inv := by
  unfold Stp_examples
  intro p0 active rests writers tbytes tlen dbytes dlen next known rec m_made m_sort m_digits m_slots m_pages m_highest m_units m_kinds m_rows m_marks q_active q_rests q_writers l_made l_sort l_digits l_slots l_pages l_highest l_units l_kinds l_rows l_marks t_tape t_taped t_set t_highest t_units t_kinds t_sideKind t_side t_active t_rests t_writes t_more t_packed t_packedMany t_at t_wrong t_number t_readSort t_readDigits t_readHighest t_wasSet t_wasHighest t_wasUnits t_wasKinds t_wasSideKind t_wasSide t_undone hI
  obtain ⟨hT, hP, hO, hL, hH⟩ := id hI
  rcases made_cases l_made l_sort l_digits l_slots l_pages l_highest l_units l_kinds l_rows l_marks t_set t_highest t_units t_kinds t_sideKind t_side hL p0 with ⟨r, hr, e, so, d, h, u, k, rr, m, hA, hC, hM⟩ | ho
  · subst e
    obtain ⟨hso, hd, hh1, hh2, hu, hk, hrr, hm, hm0⟩ := id hA
    obtain ⟨c_made, c_sort, c_dig, c_slots, c_pages, c_high, c_u, c_k, c_r, c_m⟩ := id hC
    obtain ⟨v_sort, v_dig, v_slots, v_made, v_high, v_u, v_k, v_r, v_m⟩ := id hM
    have ⟨b1, b2, b3, b4⟩ := PG_b hd hh2
    have v_sort : t_set (4 * r + 0) = nI so := v_sort
    have v_dig : t_set (4 * r + 1) = nI d := v_dig
    have v_slots : t_set (4 * r + 2) = nI (Slot d h + 1) := v_slots
    have v_made : t_set (4 * r + 3) = 1 := v_made
    have v_u : ∀ j, j < 16 * PG d h → t_units (4352 * r + j) = lN (u j) := v_u
    have v_k : ∀ p, p < PG d h → t_kinds (272 * r + p) = nI (k p) := v_k
    have v_r : ∀ p, p < PG d h → t_sideKind (272 * r + p) = nI (rr p) := v_r
    have v_m : ∀ j, j < 4352 → t_side (4352 * r + j) = nI (m j) := v_m
    have hk10 : ∀ p, k p ≤ 10 := fun p => KOK_le hso (hk p)
    unfold wp_X7_examples
    refine sp_madeAt_in hr c_made (opt_s ?_)
    refine sp_marksInAll b1 c_pages c_m (fun j => by have := hm j; omega) ?_
    refine sp_examples hr v_made v_m (fun j => by have := hm j; omega) ⟨?_, hI⟩
    rw [sm_ext (u := nz m) (a := 16 * PG d h) (b := 4352) (by omega) (fun i a _ => if_pos (hm0 i a))]
  · unfold wp_X7_examples
    refine sp_madeAt_out (fun r hr e => (ho r hr e).1) (opt_n ?_)
    unfold wp_X8_examples
    exact sp_isMade_out (fun r hr e => (ho r hr e).2) (q0a ⟨rfl, hI⟩)
theorem stp_setting : Stp_setting Inv := by
  unfold Stp_setting
  intro p0 p1 active rests writers tbytes tlen dbytes dlen next known rec m_made m_sort m_digits m_slots m_pages m_highest m_units m_kinds m_rows m_marks q_active q_rests q_writers l_made l_sort l_digits l_slots l_pages l_highest l_units l_kinds l_rows l_marks t_tape t_taped t_set t_highest t_units t_kinds t_sideKind t_side t_active t_rests t_writes t_more t_packed t_packedMany t_at t_wrong t_number t_readSort t_readDigits t_readHighest t_wasSet t_wasHighest t_wasUnits t_wasKinds t_wasSideKind t_wasSide t_undone hI
  obtain ⟨hT, hP, hO, hL, hH⟩ := id hI
  rcases made_cases l_made l_sort l_digits l_slots l_pages l_highest l_units l_kinds l_rows l_marks t_set t_highest t_units t_kinds t_sideKind t_side hL p0 with ⟨r, hr, e, so, d, h, u, k, rr, m, hA, hC, hM⟩ | ho
  · subst e
    obtain ⟨hso, hd, hh1, hh2, hu, hk, hrr, hm, hm0⟩ := id hA
    obtain ⟨c_made, c_sort, c_dig, c_slots, c_pages, c_high, c_u, c_k, c_r, c_m⟩ := id hC
    obtain ⟨v_sort, v_dig, v_slots, v_made, v_high, v_u, v_k, v_r, v_m⟩ := id hM
    have ⟨b1, b2, b3, b4⟩ := PG_b hd hh2
    have v_sort : t_set (4 * r + 0) = nI so := v_sort
    have v_dig : t_set (4 * r + 1) = nI d := v_dig
    have v_slots : t_set (4 * r + 2) = nI (Slot d h + 1) := v_slots
    have v_made : t_set (4 * r + 3) = 1 := v_made
    have v_u : ∀ j, j < 16 * PG d h → t_units (4352 * r + j) = lN (u j) := v_u
    have v_k : ∀ p, p < PG d h → t_kinds (272 * r + p) = nI (k p) := v_k
    have v_r : ∀ p, p < PG d h → t_sideKind (272 * r + p) = nI (rr p) := v_r
    have v_m : ∀ j, j < 4352 → t_side (4352 * r + j) = nI (m j) := v_m
    have hk10 : ∀ p, k p ≤ 10 := fun p => KOK_le hso (hk p)
    unfold wp_X7_setting
    refine sp_madeAt_in hr c_made (opt_s ?_)
    unfold wp_X8_setting
    refine ⟨fun e => ?_, fun e => ?_, fun e => ?_, fun e => ?_, fun e => ?_, fun e => ?_⟩
    · refine sp_isMade_in hr v_made (q1a ?_)
      exact ⟨fun _ => sp_of (c := 0) hr (by decide) ⟨by rw [v_sort, c_sort], hI⟩, fun n => absurd n (by omega), fun n => absurd n (by omega), fun n => absurd n (by omega), fun n => absurd n (by omega), fun n => absurd n (by omega)⟩
    · refine sp_isMade_in hr v_made (q1a ?_)
      exact ⟨fun n => absurd n (by omega), fun _ => sp_of (c := 1) hr (by decide) ⟨by rw [v_dig, c_dig], hI⟩, fun n => absurd n (by omega), fun n => absurd n (by omega), fun n => absurd n (by omega), fun n => absurd n (by omega)⟩
    · refine sp_isMade_in hr v_made (q1a ?_)
      exact ⟨fun n => absurd n (by omega), fun n => absurd n (by omega), fun _ => q_in hr (by decide) ⟨by rw [nI_clamp (by omega), v_high, c_high], hI⟩, fun n => absurd n (by omega), fun n => absurd n (by omega), fun n => absurd n (by omega)⟩
    · refine sp_isMade_in hr v_made (q1a ?_)
      exact ⟨fun n => absurd n (by omega), fun n => absurd n (by omega), fun n => absurd n (by omega), fun _ => sp_of (c := 2) hr (by decide) ⟨by rw [v_slots, c_slots], hI⟩, fun n => absurd n (by omega), fun n => absurd n (by omega)⟩
    · refine sp_usedSlots b1 (by omega) c_slots c_pages c_u (fun j => by have := hu j; omega) c_k (fun p => by have := hk10 p; omega) (fun p => (hk p).1) ?_
      refine sp_isMade_in hr v_made (q1a ?_)
      exact ⟨fun n => absurd n (by omega), fun n => absurd n (by omega), fun n => absurd n (by omega), fun n => absurd n (by omega), fun _ => sp_filled hr (by omega) v_slots (fun j hj => v_u j (by omega)) (fun j => by have := hu j; omega) ⟨rfl, hI⟩, fun n => absurd n (by omega)⟩
    · refine sp_isMade_in hr v_made (q1a ?_)
      exact ⟨fun n => absurd n (by omega), fun n => absurd n (by omega), fun n => absurd n (by omega), fun n => absurd n (by omega), fun n => absurd n (by omega), fun _ => ⟨rfl, hI⟩⟩
  · unfold wp_X7_setting
    refine sp_madeAt_out (fun r hr e => (ho r hr e).1) (opt_n ?_)
    unfold wp_X8_setting
    exact sp_isMade_out (fun r hr e => (ho r hr e).2) (q0a ⟨rfl, hI⟩)
theorem oct_and {b : Nat} (h : b < 256) : (nI b).toInt8.toInt32 &&& (255 : Int32) = nI b := by
  have : ∀ j : Fin 256, (nI j.val).toInt8.toInt32 &&& (255 : Int32) = nI j.val := by decide +kernel
  exact this ⟨b, h⟩
theorem stp_octet : Stp_octet Inv := by
  unfold Stp_octet
  intro p0 active rests writers tbytes tlen dbytes dlen next known rec m_made m_sort m_digits m_slots m_pages m_highest m_units m_kinds m_rows m_marks q_active q_rests q_writers l_made l_sort l_digits l_slots l_pages l_highest l_units l_kinds l_rows l_marks t_tape t_taped t_set t_highest t_units t_kinds t_sideKind t_side t_active t_rests t_writes t_more t_packed t_packedMany t_at t_wrong t_number t_readSort t_readDigits t_readHighest t_wasSet t_wasHighest t_wasUnits t_wasKinds t_wasSideKind t_wasSide t_undone hI
  obtain ⟨⟨n, hn, e1, e2, ht⟩, hP, hO, hL, hH⟩ := id hI
  have z : (0 : Int64).toInt = 0 := by decide
  have z32 : (0 : Int32).toInt = 0 := by decide
  have z4 : (400 : Int32).toInt = 400 := by decide
  unfold wp_X7_octet wp_X5_byteAt wp_X8_octet
  have ep : p0.toInt64.toInt = p0.toInt := Int32.toInt_toInt64 p0
  have es : (t_taped - (1 : Int32)).toInt64.toInt = (n : Int) - 1 := by
    rw [Int32.toInt_toInt64, e2]
    have e1 : (1 : Int32).toInt = 1 := by decide
    rw [fb_subI (by rw [nI_toInt (by omega)]; omega) (by rw [nI_toInt (by omega)]; omega), nI_toInt (by omega), e1]
  have el : tlen.toInt = n := by rw [e1, nI_toInt (by omega)]
  refine q_if (fa_lt _ _) (fun a => sp_isIn (fun _ _ => by omega) (fun _ => q0b ⟨rfl, hI⟩)) (fun a => q_if (fa_le _ _) (fun b => sp_isIn (fun _ _ => by omega) (fun _ => q0b ⟨rfl, hI⟩)) (fun b => q_if (fa_lt _ _) (fun c => ?_) (fun c => by omega)))
  obtain ⟨j, ej⟩ : ∃ j : Nat, p0.toInt = j := ⟨p0.toInt.toNat, by omega⟩
  have e3 : p0 = nI j := Int32.toInt_inj.mp (by rw [ej, nI_toInt (by omega)])
  obtain ⟨bb, hb, t1, t2⟩ := ht j (by omega)
  rw [e3]
  refine q_in (by omega) (by decide) ?_
  rw [nI_clamp (by omega), t1]
  rw [e3] at ep
  refine sp_isIn (fun _ _ => q1b ?_) (fun o => by rw [nI_toInt (by omega)] at ep; omega)
  refine q_in (by omega) (by decide) ?_
  rw [t2, oct_and hb]
  exact ⟨rfl, hI⟩
theorem stp_end : Stp_end Inv := by
  unfold Stp_end
  intro p0 active rests writers tbytes tlen dbytes dlen next known rec m_made m_sort m_digits m_slots m_pages m_highest m_units m_kinds m_rows m_marks q_active q_rests q_writers l_made l_sort l_digits l_slots l_pages l_highest l_units l_kinds l_rows l_marks t_tape t_taped t_set t_highest t_units t_kinds t_sideKind t_side t_active t_rests t_writes t_more t_packed t_packedMany t_at t_wrong t_number t_readSort t_readDigits t_readHighest t_wasSet t_wasHighest t_wasUnits t_wasKinds t_wasSideKind t_wasSide t_undone hI
  obtain ⟨⟨n, hn, e1, e2, ht⟩, hP, hO, hL, hH⟩ := id hI
  have z : (0 : Int64).toInt = 0 := by decide
  have z32 : (0 : Int32).toInt = 0 := by decide
  unfold wp_X7_end wp_X8_end
  have ep : p0.toInt64.toInt = p0.toInt := Int32.toInt_toInt64 p0
  have es : t_taped.toInt64.toInt = (n : Int) := by rw [Int32.toInt_toInt64, e2, nI_toInt (by omega)]
  have el : tlen.toInt = n := by rw [e1, nI_toInt (by omega)]
  refine q_if (fa_lt _ _) (fun a => sp_isIn (fun _ _ => by omega) (fun _ => q0a ⟨rfl, hI⟩)) (fun a => q_if (fa_le _ _) (fun b => ?_) (fun b => sp_isIn (fun _ _ => by omega) (fun _ => q0a ⟨rfl, hI⟩)))
  intro x hx
  refine sp_isIn (fun _ _ => q1a ?_) (fun o => by omega)
  intro y hy
  refine ⟨rfl, ?_, hP, hO, hL, hH⟩
  obtain ⟨j, ej⟩ : ∃ j : Nat, p0.toInt = j := ⟨p0.toInt.toNat, by omega⟩
  have e3 : p0 = nI j := Int32.toInt_inj.mp (by rw [ej, nI_toInt (by omega)])
  exact ⟨j, by omega, by rw [hx, e3], by rw [hy, e3], fun k hk => ht k (by omega)⟩
theorem stp_count : Stp_count Inv := by
  unfold Stp_count
  intro p0 active rests writers tbytes tlen dbytes dlen next known rec m_made m_sort m_digits m_slots m_pages m_highest m_units m_kinds m_rows m_marks q_active q_rests q_writers l_made l_sort l_digits l_slots l_pages l_highest l_units l_kinds l_rows l_marks t_tape t_taped t_set t_highest t_units t_kinds t_sideKind t_side t_active t_rests t_writes t_more t_packed t_packedMany t_at t_wrong t_number t_readSort t_readDigits t_readHighest t_wasSet t_wasHighest t_wasUnits t_wasKinds t_wasSideKind t_wasSide t_undone hI
  obtain ⟨⟨n, hn, e1, e2, ht⟩, ⟨ea, er, ew⟩, hO, hL, ⟨hn2, hx, h8, hx8, ek, ex, eu, hl⟩, hby⟩ := id hI
  unfold wp_X7_count wp_X8_count
  refine ⟨fun e => ?_, fun e => ?_, fun e => ?_, fun e => ?_, fun e => ?_, fun e => ?_, fun e => ?_⟩
  · have hf : ∀ r, r < 4 → (l_made r = 1 → t_set (4 * r + 3) = 1) ∧ (¬ l_made r = 1 → l_made r = 0 ∧ t_set (4 * r + 3) = 0) := by
      intro r hr
      rcases hL r hr with ⟨a, b⟩ | ⟨so, d, h, u, k, rr, m, hA, hC, hM⟩
      · exact ⟨fun c => absurd (a.symm.trans c) (by decide), fun _ => ⟨a, b⟩⟩
      · exact ⟨fun _ => hM.2.2.2.1, fun c => absurd hC.1 c⟩
    refine sp_madeBits (f := fun r => l_made r = 1) (fun r hr => ⟨fun a => a, fun a => ((hf r hr).2 a).1⟩) ?_
    refine ⟨fun _ => sp_madeSet (f := fun r => l_made r = 1) (fun r hr => ⟨(hf r hr).1, fun a => ((hf r hr).2 a).2⟩) ⟨rfl, hI⟩, fun n => absurd n (by omega), fun n => absurd n (by omega), fun n => absurd n (by omega), fun n => absurd n (by omega), fun n => absurd n (by omega), fun n => absurd n (by omega)⟩
  · exact ⟨fun n => absurd n (by omega), fun _ => ⟨ea, hI⟩, fun n => absurd n (by omega), fun n => absurd n (by omega), fun n => absurd n (by omega), fun n => absurd n (by omega), fun n => absurd n (by omega)⟩
  · refine sp_writerBits (f := fun r => t_writes r ≠ -1) (fun r hr => by rw [ew r hr]) ?_
    exact ⟨fun n => absurd n (by omega), fun n => absurd n (by omega), fun _ => sp_writersSet (f := fun r => t_writes r ≠ -1) (fun r hr => Iff.rfl) ⟨rfl, hI⟩, fun n => absurd n (by omega), fun n => absurd n (by omega), fun n => absurd n (by omega), fun n => absurd n (by omega)⟩
  · exact ⟨fun n => absurd n (by omega), fun n => absurd n (by omega), fun n => absurd n (by omega), fun _ => ⟨er, hI⟩, fun n => absurd n (by omega), fun n => absurd n (by omega), fun n => absurd n (by omega)⟩
  · exact ⟨fun n => absurd n (by omega), fun n => absurd n (by omega), fun n => absurd n (by omega), fun n => absurd n (by omega), fun _ => ⟨by rw [ek, eu], hI⟩, fun n => absurd n (by omega), fun n => absurd n (by omega)⟩
  · exact ⟨fun n => absurd n (by omega), fun n => absurd n (by omega), fun n => absurd n (by omega), fun n => absurd n (by omega), fun n => absurd n (by omega), fun _ => ⟨by rw [e1, e2], hI⟩, fun n => absurd n (by omega)⟩
  · exact ⟨fun n => absurd n (by omega), fun n => absurd n (by omega), fun n => absurd n (by omega), fun n => absurd n (by omega), fun n => absurd n (by omega), fun n => absurd n (by omega), fun _ => ⟨rfl, hI⟩⟩
theorem stp_read : Stp_read Inv := by
  unfold Stp_read
  intro active rests writers tbytes tlen dbytes dlen next known rec m_made m_sort m_digits m_slots m_pages m_highest m_units m_kinds m_rows m_marks q_active q_rests q_writers l_made l_sort l_digits l_slots l_pages l_highest l_units l_kinds l_rows l_marks t_tape t_taped t_set t_highest t_units t_kinds t_sideKind t_side t_active t_rests t_writes t_more t_packed t_packedMany t_at t_wrong t_number t_readSort t_readDigits t_readHighest t_wasSet t_wasHighest t_wasUnits t_wasKinds t_wasSideKind t_wasSide t_undone hI
  obtain ⟨hT, ⟨ea, er, ew⟩, ⟨o1, o2, o3⟩, hL, hH⟩ := id hI
  subst er
  unfold wp_X7_read wp_X8_read
  rcases o2 with e | ⟨i, hi, e, hm⟩
  · subst e
    refine sp_madeAt_out (fun r hr e => absurd e ?_) (opt_n ?_)
    · intro e; have := (fa_eq _ _).mp e; rw [nI_toInt (by omega)] at this; have z : (-1 : Int32).toInt = -1 := by decide
      omega
    · exact ⟨fun n => absurd rfl n, fun _ => ⟨rfl, hI⟩⟩
  · rcases hL i (by omega) with ⟨a, b⟩ | ⟨so, d, h, u, k, rr, m, hA, hC, hM⟩
    · exact absurd (hm.symm.trans b) (by decide)
    subst e
    refine sp_madeAt_in (by omega) hC.1 (opt_s ?_)
    have hne : ¬ nI i = -1 := by
      intro e; have := (fa_eq _ _).mp e; rw [nI_toInt (by omega)] at this; have z : (-1 : Int32).toInt = -1 := by decide
      omega
    refine sp_X2_isWrittenTo (fun ⟨k, hk, e2⟩ => q1b ?_) (fun hno => q0b ?_)
    · refine ⟨fun _ => ?_, fun n => absurd n hne⟩
      refine sp_X8_isWrittenTo (fun _ => q1b ⟨rfl, hI⟩) (fun hno => absurd ?_ (hno k hk))
      rw [← ew k hk]; exact e2
    · refine sp_all hA hC ?_
      refine ⟨fun _ => ?_, fun n => absurd n hne⟩
      refine sp_X8_isWrittenTo (fun ⟨k, hk, e2⟩ => absurd ?_ (hno k hk)) (fun _ => q0b ?_)
      · rw [ew k hk]; exact e2
      · exact sp_tot (by omega) hA hM ⟨rfl, hI⟩
