/-! ===== recording, both sides ===== -/
theorem rec_both {r so d h : Nat} {u k rr m : Nat → Nat} {p1 p2 p3 : Int64} {active : Int32} {rests : Int32} {writers : Nat → Int32} {tbytes : Nat → Int32} {tlen : Int32} {dbytes : Nat → Int32} {dlen : Int32} {next : Int32} {known : Int32} {rec : Nat → Int32} {m_made : Nat → Int32} {m_sort : Nat → Int32} {m_digits : Nat → Int32} {m_slots : Nat → Int32} {m_pages : Nat → Int32} {m_highest : Nat → Int64} {m_units : Nat → Nat → Int64} {m_kinds : Nat → Nat → Int32} {m_rows : Nat → Nat → Int32} {m_marks : Nat → Nat → Int32} {q_active : Nat → Int32} {q_rests : Nat → Int32} {q_writers : Nat → Nat → Int32} {l_made : Nat → Int32} {l_sort : Nat → Int32} {l_digits : Nat → Int32} {l_slots : Nat → Int32} {l_pages : Nat → Int32} {l_highest : Nat → Int64} {l_units : Nat → Nat → Int64} {l_kinds : Nat → Nat → Int32} {l_rows : Nat → Nat → Int32} {l_marks : Nat → Nat → Int32} {t_tape : Nat → Int32} {t_taped : Int32} {t_set : Nat → Int32} {t_highest : Nat → Int64} {t_units : Nat → Int64} {t_kinds : Nat → Int32} {t_sideKind : Nat → Int32} {t_side : Nat → Int32} {t_active : Int32} {t_rests : Int32} {t_writes : Nat → Int32} {t_more : Nat → Int64} {t_packed : Nat → Int32} {t_packedMany : Int32} {t_at : Int32} {t_wrong : Int32} {t_number : Int64} {t_readSort : Int32} {t_readDigits : Int32} {t_readHighest : Int64} {t_wasSet : Nat → Int32} {t_wasHighest : Nat → Int64} {t_wasUnits : Nat → Int64} {t_wasKinds : Nat → Int32} {t_wasSideKind : Nat → Int32} {t_wasSide : Nat → Int32} {t_undone : Int32} {Q7 : (Int64) → (Int32) → (Int32) → (Nat → Int32) → (Nat → Int32) → (Nat → Int32) → (Nat → Int32) → (Nat → Int32) → (Nat → Int32) → (Nat → Int64) → (Nat → Nat → Int64) → (Nat → Nat → Int32) → (Nat → Nat → Int32) → (Nat → Nat → Int32) → (Nat → Int32) → (Nat → Int32) → (Nat → Nat → Int32) → (Nat → Nat → Int64) → (Nat → Nat → Int32) → Prop} (hr : r < 4) (hI : Inv active rests writers tbytes tlen dbytes dlen next known rec m_made m_sort m_digits m_slots m_pages m_highest m_units m_kinds m_rows m_marks q_active q_rests q_writers l_made l_sort l_digits l_slots l_pages l_highest l_units l_kinds l_rows l_marks t_tape t_taped t_set t_highest t_units t_kinds t_sideKind t_side t_active t_rests t_writes t_more t_packed t_packedMany t_at t_wrong t_number t_readSort t_readDigits t_readHighest t_wasSet t_wasHighest t_wasUnits t_wasKinds t_wasSideKind t_wasSide t_undone) (hA : Abs so d h u k rr m) (hC : CLed (l_made r) (l_sort r) (l_digits r) (l_slots r) (l_pages r) (l_highest r) (l_units r) (l_kinds r) (l_rows r) (l_marks r) so d h u k rr m) (hM : MLed (fun c => t_set (4 * r + c)) (t_highest r) (fun j => t_units (4352 * r + j)) (fun p => t_kinds (272 * r + p)) (fun p => t_sideKind (272 * r + p)) (fun j => t_side (4352 * r + j)) so d h u k rr m) (hQ : ∀ (a1 : Int64) (next' : Int32) (known' : Int32) (rec' : Nat → Int32) (m_made' : Nat → Int32) (m_sort' : Nat → Int32) (m_digits' : Nat → Int32) (m_slots' : Nat → Int32) (m_pages' : Nat → Int32) (m_highest' : Nat → Int64) (m_units' : Nat → Nat → Int64) (m_kinds' : Nat → Nat → Int32) (m_rows' : Nat → Nat → Int32) (m_marks' : Nat → Nat → Int32) (q_active' : Nat → Int32) (q_rests' : Nat → Int32) (q_writers' : Nat → Nat → Int32) (l_units' : Nat → Nat → Int64) (l_kinds' : Nat → Nat → Int32), wp_X8_records (nI r) p1 p2 p3 t_set t_highest t_units t_kinds t_sideKind t_side t_active t_rests t_writes t_more t_wasSet t_wasHighest t_wasUnits t_wasKinds t_wasSideKind t_wasSide t_undone (fun (r2 : Int64) (t_units' : Nat → Int64) (t_kinds' : Nat → Int32) (t_more' : Nat → Int64) (t_wasSet' : Nat → Int32) (t_wasHighest' : Nat → Int64) (t_wasUnits' : Nat → Int64) (t_wasKinds' : Nat → Int32) (t_wasSideKind' : Nat → Int32) (t_wasSide' : Nat → Int32) (t_undone' : Int32) => a1 = r2 ∧ Inv active rests writers tbytes tlen dbytes dlen next' known' rec' m_made' m_sort' m_digits' m_slots' m_pages' m_highest' m_units' m_kinds' m_rows' m_marks' q_active' q_rests' q_writers' l_made l_sort l_digits l_slots l_pages l_highest l_units' l_kinds' l_rows l_marks t_tape t_taped t_set t_highest t_units' t_kinds' t_sideKind t_side t_active t_rests t_writes t_more' t_packed t_packedMany t_at t_wrong t_number t_readSort t_readDigits t_readHighest t_wasSet' t_wasHighest' t_wasUnits' t_wasKinds' t_wasSideKind' t_wasSide' t_undone') → Q7 a1 next' known' rec' m_made' m_sort' m_digits' m_slots' m_pages' m_highest' m_units' m_kinds' m_rows' m_marks' q_active' q_rests' q_writers' l_units' l_kinds') : wp_X7_record (nI r) p1 p2 p3 active rests writers next known rec m_made m_sort m_digits m_slots m_pages m_highest m_units m_kinds m_rows m_marks q_active q_rests q_writers l_made l_sort l_digits l_slots l_pages l_highest l_units l_kinds l_rows l_marks Q7 := by
  obtain ⟨hT, ⟨ea, er, ew⟩, hO, hL, ⟨⟨n, x, hn, hx, ek, ex, eu, hl⟩, hb1, hb2, hb3, hb4, hb5, hb6⟩⟩ := id hI
  subst ea er ek ex eu
  obtain ⟨hso, hd, hh1, hh2, hu, hk, hrr, hm, hm0⟩ := id hA
  obtain ⟨c_made, c_sort, c_dig, c_slots, c_pages, c_high, c_u, c_k, c_r, c_m⟩ := id hC
  obtain ⟨v_sort, v_dig, v_slots, v_made, v_high, v_u, v_k, v_r, v_m⟩ := id hM
  have ⟨b1, b2, b3, b4⟩ := PG_b hd hh2
  have v_sort : t_set (4 * r + 0) = nI so := v_sort
  have v_dig : t_set (4 * r + 1) = nI d := v_dig
  have v_slots : t_set (4 * r + 2) = nI (Slot d h + 1) := v_slots
  have v_made : t_set (4 * r + 3) = 1 := v_made
  have v_u : ∀ j, j < 16 * PG d h → t_units (4352 * r + j) = lN (u j) := v_u
  have v_k : ∀ p, p < PG d h → t_kinds (272 * r + p) = nI (k p) := v_k
  have v_r : ∀ p, p < PG d h → t_sideKind (272 * r + p) = nI (rr p) := v_r
  have v_m : ∀ j, j < 4352 → t_side (4352 * r + j) = nI (m j) := v_m
  have hk10 : ∀ p, k p ≤ 10 := fun p => KOK_le hso (hk p)
  have hN : Slot d h + 1 ≤ 16 * PG d h := by omega
  have z1 : (1 : Int64).toInt = 1 := by decide
  have z2 : (1000000000000 : Int64).toInt = 1000000000000 := by decide
  have z3 : (0 : Int64).toInt = 0 := by decide
  unfold wp_X7_record
  refine sp_madeAt_in hr c_made (opt_s ?_)
  refine q_if (fa_lt64 _ _) (fun q1 => ?_) (fun q1 => ?_)
  · refine hQ _ _ _ _ _ _ _ _ _ _ _ _ _ _ _ _ _ _ _ ?_
    unfold wp_X8_records
    exact sp_isIn (fun a b => absurd a (by omega)) (fun _ => q0b ⟨rfl, hI⟩)
  refine q_if (fa_lt64 _ _) (fun q2 => ?_) (fun q2 => ?_)
  · refine hQ _ _ _ _ _ _ _ _ _ _ _ _ _ _ _ _ _ _ _ ?_
    unfold wp_X8_records
    exact sp_isIn (fun a b => absurd b (by omega)) (fun _ => q0b ⟨rfl, hI⟩)
  refine q_if (fa_le64 _ _) (fun q3 => ?_) (fun q3 => ?_)
  rotate_left
  · refine hQ _ _ _ _ _ _ _ _ _ _ _ _ _ _ _ _ _ _ _ ?_
    unfold wp_X8_records
    refine sp_isIn (fun _ _ => q1b ?_) (fun o => absurd o (by omega))
    exact ⟨fun c => absurd ((fa_le64 _ _).mp c) q3, fun _ => ⟨rfl, hI⟩⟩
  obtain ⟨n', hn', en⟩ := lon_of (p := p2) (by omega)
  obtain ⟨i, hi2, ei⟩ := lon_of (p := p3) (by omega)
  subst en ei
  rw [pk_lT hn'] at q1 q2
  have hn12 : n' ≤ 1000000000000 := by omega
  rcases reach_cases p1 hh2 with ⟨v, hv, e⟩ | o
  rotate_left
  · refine sp_pour_out hh2 c_high o (q0a ?_)
    rw [va_up_id, va_up_id]
    refine hQ _ _ _ _ _ _ _ _ _ _ _ _ _ _ _ _ _ _ _ ?_
    unfold wp_X8_records
    refine sp_isIn (fun _ _ => q1b ?_) (fun o => absurd o (by rw [pk_lT hn']; omega))
    refine ⟨fun _ => ?_, fun c => absurd ((fa_le64 _ _).mpr q3) c⟩
    unfold wp_X8_laysRecording
    refine q_in hr (by decide) ?_
    rw [nI_clamp (by omega), v_high]
    exact sp_upto_out o hh2 (q0a (q0a ⟨rfl, hI⟩))
  subst e
  have hsv := Slot_mono hd hv (show h < 2 ^ 63 by omega)
  by_cases hC1 : v / i - 1 ≤ 1000
  rotate_left
  · refine sp_pour_far hh2 c_high hv hi2 hC1 (q0a ?_)
    rw [va_up_id, va_up_id]
    refine hQ _ _ _ _ _ _ _ _ _ _ _ _ _ _ _ _ _ _ _ ?_
    unfold wp_X8_records
    refine sp_isIn (fun _ _ => q1b ?_) (fun o => absurd o (by rw [pk_lT hn']; omega))
    refine ⟨fun _ => ?_, fun c => absurd ((fa_le64 _ _).mpr q3) c⟩
    exact sp_laysRec hr hd hh2 v_dig v_slots v_high (fun j hj => v_u j (by omega)) hu hv hn12 hi2 (fun c => absurd c hC1) (fun _ m' => q0a ⟨rfl, hI⟩)
  refine sp_pour (fr := 0) (Or.inl rfl) hso hd hh2 c_sort c_dig c_high b1 hN hk hu ⟨c_u, c_k⟩ hv hn12 hi2 hC1 (fun e => absurd e (by decide)) (fun hroom U1 K1 f0 _ => q1a ?_) (fun hex _ => q0a ?_)
  rotate_left
  · rw [va_up_id, va_up_id]
    refine hQ _ _ _ _ _ _ _ _ _ _ _ _ _ _ _ _ _ _ _ ?_
    unfold wp_X8_records
    refine sp_isIn (fun _ _ => q1b ?_) (fun o => absurd o (by rw [pk_lT hn']; omega))
    refine ⟨fun _ => ?_, fun c => absurd ((fa_le64 _ _).mpr q3) c⟩
    obtain ⟨j0, hj0⟩ := hex
    exact sp_laysRec hr hd hh2 v_dig v_slots v_high (fun j hj => v_u j (by omega)) hu hv hn12 hi2 (fun _ hh => absurd (hh j0) hj0) (fun _ m' => q0a ⟨rfl, hI⟩)
  obtain ⟨eU, eK⟩ := f0 rfl
  subst eU eK
  rw [va_up_id, va_up_id]
  refine sp_remember_in hr hx hn (Or.inr c_made) (fun W U K R M hW hc => ?_)
  refine sp_pour (fr := 1) (Or.inr rfl) hso hd hh2 c_sort c_dig c_high b1 hN hk hu ⟨c_u, c_k⟩ hv hn12 hi2 hC1 (fun _ => hroom) (fun _ U2 K2 _ f1 => ?_) (fun _ e => absurd e (by decide))
  have hUK := f1 rfl
  have hσh : ∀ c, Slot d (v - c * i) ≤ Slot d h := fun c => Slot_mono hd (by omega) (by omega)
  have hMz : ∀ j, Slot d h + 1 ≤ j → mo (fun c => Slot d (v - c * i)) (fun _ => n') (v / i - 1 + 1) j = 0 := fun j hj => mo_zero (fun e _ => by have := hσh e; show Slot d (v - e * i) ≠ j; omega)
  generalize eMM : mo (fun c => Slot d (v - c * i)) (fun _ => n') (v / i - 1 + 1) = MM at *
  have hfk := KOK_fk hso hk hu hroom
  rw [c_dig]
  refine sp_X7_slotOf hd (by omega) ?_
  rw [va_up_self]
  refine sp_unitsOf (by omega) ?_
  refine hQ _ _ _ _ _ _ _ _ _ _ _ _ _ _ _ _ _ _ _ ?_
  unfold wp_X8_records
  refine sp_isIn (fun _ _ => q1b ?_) (fun o => absurd o (by rw [pk_lT hn']; omega))
  refine ⟨fun _ => ?_, fun c => absurd ((fa_le64 _ _).mpr q3) c⟩
  refine sp_laysRec hr hd hh2 v_dig v_slots v_high (fun j hj => v_u j (by omega)) hu hv hn12 hi2 (fun _ _ m' hm' => q1a ?_) (fun o => ?_)
  rotate_left
  · exfalso
    rcases o with o | o
    · exact o hC1
    · rw [eMM] at o; exact o hroom
  rw [eMM] at hm'
  refine sp_keepsAct hn hb1 hb2 hb3 hb4 hb5 hb6 (fun wS wH wU wK wX wD k1 k2 k3 k4 k5 k6 hb7 hb8 hb9 => ?_)
  refine sp_addsLaid hr hso v_sort v_slots b1 hN hk hu (fun j hj => hm' j (by omega)) hroom hMz ⟨v_u, v_k⟩ hb1 (fun tu tk hB ho1 ho2 hb10 => ?_)
  refine sp_of (c := 1) hr (by decide) ?_
  rw [v_dig]
  refine sp_X8_slotOf hd (by omega) ?_
  rw [show (4352 : Int32) * nI r + nI (Slot d v) = nI (4352 * r + Slot d v) from ix_at 4352 r _]
  refine q_in (by omega) (by decide) ?_
  rw [nI_clamp (by omega), hB.1 _ (by omega), hUK.1 _ (by omega)]
  have ho : Oth r t_set t_set t_highest t_highest tu t_units tk t_kinds t_sideKind t_sideKind t_side t_side := ⟨Only_rfl, fun _ _ => rfl, ho1, ho2, Only_rfl, Only_rfl⟩
  refine ⟨rfl, hT, ⟨rfl, rfl, ew⟩, hO, LRs_act hr hL (fun i hi => ⟨rfl, rfl, rfl, rfl, rfl, rfl, va_up_ne _ _ hi, va_up_ne _ _ hi, rfl, rfl⟩) ho ?_, ?_, hb10, hb2, hb3, hb7, hb8, hb9⟩
  · unfold LRs
    rw [va_up_self, va_up_self]
    exact Or.inr ⟨so, d, h, ua u MM, fk so u k (ua u MM), rr, m, ⟨hso, hd, hh1, hh2, hroom, hfk, hrr, hm, hm0⟩, ⟨c_made, c_sort, c_dig, c_slots, c_pages, c_high, hUK.1, hUK.2, c_r, c_m⟩, ⟨v_sort, v_dig, v_slots, v_made, v_high, hB.1, hB.2, v_r, v_m⟩⟩
  · exact Hist_act hn hx hl k1 k2 k3 k4 k5 k6 hO rfl rfl (fun k hk => (hW k hk).trans (ew k hk)) (fun i hi => ⟨va_up_ne _ _ hi, va_up_ne _ _ hi, va_up_ne _ _ hi, va_up_ne _ _ hi, va_up_ne _ _ hi, va_up_ne _ _ hi, va_up_ne _ _ hi, va_up_ne _ _ hi, va_up_ne _ _ hi, va_up_ne _ _ hi⟩) (Or.inr ⟨r, hr, rfl, by
          rw [va_up_self, va_up_self, va_up_self, va_up_self, va_up_self, va_up_self, va_up_self, va_up_self, va_up_self, va_up_self]
          exact LR_eq (by have q := hL r hr; unfold LRs at q; rw [c_dig] at q; exact q) hc (fun _ _ => rfl) rfl (fun _ _ => rfl) (fun _ _ => rfl) (fun _ _ => rfl) (fun _ _ => rfl)⟩) (Oth_same ho)
theorem stp_record : Stp_record Inv := by
  unfold Stp_record
  intro p0 p1 p2 p3 active rests writers tbytes tlen dbytes dlen next known rec m_made m_sort m_digits m_slots m_pages m_highest m_units m_kinds m_rows m_marks q_active q_rests q_writers l_made l_sort l_digits l_slots l_pages l_highest l_units l_kinds l_rows l_marks t_tape t_taped t_set t_highest t_units t_kinds t_sideKind t_side t_active t_rests t_writes t_more t_packed t_packedMany t_at t_wrong t_number t_readSort t_readDigits t_readHighest t_wasSet t_wasHighest t_wasUnits t_wasKinds t_wasSideKind t_wasSide t_undone hI
  obtain ⟨hT, hP, hO, hL, hH⟩ := id hI
  rcases made_cases l_made l_sort l_digits l_slots l_pages l_highest l_units l_kinds l_rows l_marks t_set t_highest t_units t_kinds t_sideKind t_side hL p0 with ⟨r, hr, e, so, d, h, u, k, rr, m, hA, hC, hM⟩ | ho
  · subst e
    refine rec_both hr hI hA hC hM (fun _ _ _ _ _ _ _ _ _ _ _ _ _ _ _ _ _ _ _ hq => ?_)
    unfold wp_X8_record
    exact sp_isMade_in hr hM.2.2.2.1 (q1b hq)
  · unfold wp_X7_record
    refine sp_madeAt_out (fun r hr e => (ho r hr e).1) (opt_n ?_)
    unfold wp_X8_record
    exact sp_isMade_out (fun r hr e => (ho r hr e).2) (q0b ⟨rfl, hI⟩)
theorem sp_recorderOf_out {p : Int32} {W : Nat → Int32} {Q : Int32 → Prop} (o : p.toInt < 0 ∨ 4 ≤ p.toInt) (h : Q (-1)) : wp_X2_recorderOf p W Q := by
  unfold wp_X2_recorderOf
  have z : (0 : Int32).toInt = 0 := by decide
  have z4 : (4 : Int32).toInt = 4 := by decide
  refine q_if (fa_lt _ _) (fun _ => h) (fun a => q_if (fa_lt _ _) (fun b => absurd o (by omega)) (fun _ => h))
theorem sp_isWriting_out {p : Int32} {W : Nat → Int32} {Q : Int32 → Prop} (o : p.toInt < 0 ∨ 4 ≤ p.toInt) (h : Q 0) : wp_X8_isWriting p W Q := by
  unfold wp_X8_isWriting
  have z : (0 : Int64).toInt = 0 := by decide
  have z3 : (3 : Int64).toInt = 3 := by decide
  have e : p.toInt64.toInt = p.toInt := Int32.toInt_toInt64 p
  exact sp_isIn (fun a b => absurd o (by omega)) (fun _ => q0b h)
theorem stp_write : Stp_write Inv := by
  unfold Stp_write
  intro p0 p1 p2 p3 active rests writers tbytes tlen dbytes dlen next known rec m_made m_sort m_digits m_slots m_pages m_highest m_units m_kinds m_rows m_marks q_active q_rests q_writers l_made l_sort l_digits l_slots l_pages l_highest l_units l_kinds l_rows l_marks t_tape t_taped t_set t_highest t_units t_kinds t_sideKind t_side t_active t_rests t_writes t_more t_packed t_packedMany t_at t_wrong t_number t_readSort t_readDigits t_readHighest t_wasSet t_wasHighest t_wasUnits t_wasKinds t_wasSideKind t_wasSide t_undone hI
  obtain ⟨hT, ⟨ea, er, ew⟩, hO, hL, hH⟩ := id hI
  have hnone : ∀ r, r < 4 → (-1 : Int32) = nI r → l_made r = 0 := fun r hr e => absurd e (by
    intro e
    have h1 : (-1 : Int32).toInt = -1 := by decide
    rw [e, nI_toInt (by omega)] at h1
    omega)
  unfold wp_X7_write wp_X8_write
  rcases page_cases p0 (P := 4) (by decide) with ⟨w, hw, e⟩ | o
  rotate_left
  · refine sp_recorderOf_out o ?_
    unfold wp_X7_record
    refine sp_madeAt_out hnone (opt_n ?_)
    exact sp_isWriting_out o (q0b ⟨rfl, hI⟩)
  subst e
  refine sp_recorderOf hw ?_
  rw [ew w hw]
  rcases hO.2.2 w hw with e | ⟨i, hi, e, hmk⟩
  · rw [e]
    unfold wp_X7_record
    refine sp_madeAt_out hnone (opt_n ?_)
    exact sp_isWriting hw (fun ne => absurd e ne) (fun _ => q0b ⟨rfl, hI⟩)
  · rcases made_cases l_made l_sort l_digits l_slots l_pages l_highest l_units l_kinds l_rows l_marks t_set t_highest t_units t_kinds t_sideKind t_side hL (nI i) with ⟨r, hr, e2, so, d, h, u, k, rr, m, hA, hC, hM⟩ | ho
    · have e3 : i = r := (nI_eq (by omega) (by omega)).mp e2
      subst e3
      rw [e]
      refine rec_both (by omega) hI hA hC hM (fun _ _ _ _ _ _ _ _ _ _ _ _ _ _ _ _ _ _ _ hq => ?_)
      refine sp_isWriting hw (fun _ => q1b ?_) (fun e4 => ?_)
      · refine q_in hw (by decide) ?_
        rw [nI_clamp (by omega), e]
        exact hq
      · rw [e] at e4
        have h1 : (-1 : Int32).toInt = -1 := by decide
        rw [← e4, nI_toInt (by omega)] at h1
        omega
    · have := (ho i (by omega) rfl).2
      exact absurd (this.symm.trans hmk) (by decide)
