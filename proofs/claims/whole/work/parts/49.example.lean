/-! ===== example ===== -/
theorem q_pick {c : Prop} {a b v : Int32} (F : Int32 → Prop) (h1 : c → a = v) (h2 : ¬ c → b = v) (h : F v) : (c → F a) ∧ (¬ c → F b) := ⟨fun e => by rw [h1 e]; exact h, fun e => by rw [h2 e]; exact h⟩
theorem sp_putRow {t : Nat} {p1 : Int32} {M : Nat → Int32} {Q : (Nat → Int32) → Prop} (ht : t < 271) (h : Q (upd M t p1)) : wp_X1_putRow (nI t) p1 M Q := by
  unfold wp_X1_putRow
  refine ⟨fun n => absurd n (nI_nneg (by omega)), fun _ => q_if (nI_leI (a := 271) (by decide) (by omega)) (fun n => absurd n (by omega)) (fun _ => ?_)⟩
  refine q_in (by omega) (by decide) ?_
  intro M2 hM2
  rw [hM2, nI_clamp (by omega)]
  exact h
theorem bl_mono2 {d a b : Nat} (hd : d = 1 ∨ d = 2) (h : a ≤ b) (hb : b ≤ 1000000000000) : Slot d a ≤ Slot d b := Slot_mono hd h (by omega)
theorem stp_example : Stp_example Inv := by
  unfold Stp_example
  intro p0 p1 p2 p3 active rests writers tbytes tlen dbytes dlen next known rec m_made m_sort m_digits m_slots m_pages m_highest m_units m_kinds m_rows m_marks q_active q_rests q_writers l_made l_sort l_digits l_slots l_pages l_highest l_units l_kinds l_rows l_marks t_tape t_taped t_set t_highest t_units t_kinds t_sideKind t_side t_active t_rests t_writes t_more t_packed t_packedMany t_at t_wrong t_number t_readSort t_readDigits t_readHighest t_wasSet t_wasHighest t_wasUnits t_wasKinds t_wasSideKind t_wasSide t_undone hI
  obtain ⟨hT, ⟨ea, er, ew⟩, hO, hL, ⟨⟨n, x, hn, hx, ek, ex, eu, hl⟩, hb1, hb2, hb3, hb4, hb5, hb6⟩⟩ := id hI
  subst ea er ek ex eu
  rcases made_cases l_made l_sort l_digits l_slots l_pages l_highest l_units l_kinds l_rows l_marks t_set t_highest t_units t_kinds t_sideKind t_side hL p0 with ⟨r, hr, e, so, d, h, u, k, rr, m, hA, hC, hM⟩ | ho
  · subst e
    obtain ⟨hso, hd, hh1, hh2, hu, hk, hrr, hm, hm0⟩ := id hA
    obtain ⟨c_made, c_sort, c_dig, c_slots, c_pages, c_high, c_u, c_k, c_r, c_m⟩ := id hC
    obtain ⟨v_sort, v_dig, v_slots, v_made, v_high, v_u, v_k, v_r, v_m⟩ := id hM
    have ⟨b1, b2, b3, b4⟩ := PG_b hd hh2
    have v_sort : t_set (4 * r + 0) = nI so := v_sort
    have v_dig : t_set (4 * r + 1) = nI d := v_dig
    have v_slots : t_set (4 * r + 2) = nI (Slot d h + 1) := v_slots
    have v_made : t_set (4 * r + 3) = 1 := v_made
    have v_u : ∀ j, j < 16 * PG d h → t_units (4352 * r + j) = lN (u j) := v_u
    have v_k : ∀ p, p < PG d h → t_kinds (272 * r + p) = nI (k p) := v_k
    have v_r : ∀ p, p < PG d h → t_sideKind (272 * r + p) = nI (rr p) := v_r
    have v_m : ∀ j, j < 4352 → t_side (4352 * r + j) = nI (m j) := v_m
    have hk10 : ∀ p, k p ≤ 10 := fun p => KOK_le hso (hk p)
    have v_high : t_highest r = lN h := v_high
    unfold wp_X7_example
    refine sp_madeAt_in hr c_made (opt_s ?_)
    rw [c_high]
    rcases reach_cases p1 hh2 with ⟨v, hv, e⟩ | o
    rotate_left
    · refine sp_reaches_out o hh2 (q0b ?_)
      unfold wp_X8_example
      refine sp_isMade_in hr v_made (q1b ?_)
      refine q_in hr (by decide) ?_
      rw [nI_clamp (by omega), v_high]
      exact sp_upto_out o hh2 (q0b ⟨rfl, hI⟩)
    subst e
    refine sp_reaches_in hv hh2 (q1b ?_)
    refine sp_isMark (fun g1 g2 => q1a ?_) (fun o => q0a ?_)
    rotate_left
    · unfold wp_X8_example
      refine sp_isMade_in hr v_made (q1b ?_)
      refine q_in hr (by decide) ?_
      rw [nI_clamp (by omega), v_high]
      exact sp_upto_in hv hh2 (q1b (sp_mIn (b := 100) (by decide) (fun _ _ => by omega) (fun _ => q0a ⟨rfl, hI⟩)))
    obtain ⟨w, hw, e⟩ := int_nI (p := p3) (b := 100) g1 (by omega) (by decide)
    subst e
    rw [c_dig]
    refine sp_X7_slotOf hd (by omega) ?_
    obtain ⟨s, hs⟩ : ∃ s, s = Slot d v := ⟨_, rfl⟩
    have hsS : s ≤ Slot d h := by rw [hs]; exact bl_mono2 hd hv hh2
    rw [← hs]
    intro x7 hx7
    rw [hx7, show nI s / (16 : Int32) = nI (s / 16) from pk_div (d := 16) (by omega) (by decide) (by decide)]
    have hp : s / 16 < PG d h := by omega
    refine sp_rowOf (by omega) ?_
    intro x8 hx8
    rw [hx8, c_r _ hp]
    have hrq := hrr (s / 16)
    obtain ⟨wn, hwn, hwa, hwb⟩ : ∃ wn, (wn = 1 ∨ wn = 2) ∧ (p2 = 0 → wn = 1) ∧ (¬ p2 = 0 → wn = 2) := by
      by_cases z : p2 = 0
      · exact ⟨1, Or.inl rfl, fun _ => rfl, fun a => absurd z a⟩
      · exact ⟨2, Or.inr rfl, fun a => absurd a z, fun _ => rfl⟩
    have hrw : ∀ a, a ≤ 2 → rwc a ≤ 12 ∧ (rwc a = 0 ↔ a = 0) ∧ (rwc a = rwc wn ↔ a = wn) := by
      intro a ha
      unfold rwc
      rcases hwn with z | z <;> subst z <;> split <;> simp <;> omega
    have ⟨hrw1, hrw2, hrw3⟩ := hrw _ hrq
    have ⟨hrw4, _, _⟩ := hrw wn (by omega)
    have e8 : ∀ Q, blk_X8_example_72 t_set t_highest t_units t_kinds active rests t_writes Q (nI r) (nI w) (nI s) (nI (272 * r + s / 16)) (nI wn) t_sideKind t_side t_wasSet t_wasHighest t_wasUnits t_wasKinds t_wasSideKind t_wasSide (nI n) → wp_X8_example (nI r) (lN v) p2 (nI w) t_set t_highest t_units t_kinds t_sideKind t_side active rests t_writes t_wasSet t_wasHighest t_wasUnits t_wasKinds t_wasSideKind t_wasSide (nI n) Q := by
      intro Q hQ
      unfold wp_X8_example
      refine sp_isMade_in hr v_made (q1b ?_)
      refine q_in hr (by decide) ?_
      rw [nI_clamp (by omega), v_high]
      refine sp_upto_in hv hh2 (q1b (sp_mIn (b := 100) (by decide) (fun _ _ => q1a ?_) (fun _ => by omega)))
      refine sp_of (c := 1) hr (by decide) ?_
      rw [v_dig]
      refine sp_X8_slotOf hd (by omega) ?_
      rw [← hs]
      intro x6 hx6 x7 hx7
      rw [hx6, show nI s / (16 : Int32) = nI (s / 16) from pk_div (d := 16) (by omega) (by decide) (by decide), show (272 : Int32) * nI r + nI (s / 16) = nI (272 * r + s / 16) from ix_at 272 r (s / 16)] at hx7
      rw [hx6, hx7]
      exact q_pick (fun z => blk_X8_example_72 t_set t_highest t_units t_kinds active rests t_writes Q (nI r) (nI w) (nI s) (nI (272 * r + s / 16)) z t_sideKind t_side t_wasSet t_wasHighest t_wasUnits t_wasKinds t_wasSideKind t_wasSide (nI n)) (v := nI wn) (fun a => by rw [hwa a]; rfl) (fun a => by rw [hwb a]; rfl) hQ
    have n7 : nI (272 * r + s / 16) = nI (272 * r + s / 16) := rfl
    have m99 : ∀ Q, (∀ wS wH wU wK wX wD, Kept n 22 t_wasSet wS 22 (fun j => if j < 16 then t_set j else if j = 16 then active else if j = 17 then rests else t_writes (j - 18)) → Kept n 4 t_wasHighest wH 4 t_highest → Kept n 17408 t_wasUnits wU 17408 t_units → Kept n 1088 t_wasKinds wK 1088 t_kinds → Kept n 1088 t_wasSideKind wX 1088 t_sideKind → Kept n 17408 t_wasSide wD 17408 t_side → BY wK → BY wX → BY wD → Q 0 (upd t_sideKind (272 * r + s / 16) (nI wn)) (upd t_side (4352 * r + s) (nI (w + 1))) wS wH wU wK wX wD (nI (min n 7 + 1))) → blk_X8_example_99 t_set t_highest t_units t_kinds active rests t_writes Q (nI r) (nI w) (nI s) (nI (272 * r + s / 16)) (nI wn) t_sideKind t_side t_wasSet t_wasHighest t_wasUnits t_wasKinds t_wasSideKind t_wasSide (nI n) := by
      intro Q hQ
      unfold blk_X8_example_99
      refine sp_keepsAct hn hb1 hb2 hb3 hb4 hb5 hb6 (fun wS wH wU wK wX wD k1 k2 k3 k4 k5 k6 hb7 hb8 hb9 => ?_)
      refine q_in (by omega) (by decide) ?_
      intro X3 hX3
      rw [show (4352 : Int32) * nI r + nI s = nI (4352 * r + s) from ix_at 4352 r s]
      refine q_in (by omega) (by decide) ?_
      intro D3 hD3
      rw [nI_clamp (by omega), vp_nar_byte, byte_small (by omega), byte_small (by omega)] at hX3
      rw [nI_clamp (by omega), nI_1, vp_nar_byte, byte_small (by omega), byte_small (by omega)] at hD3
      rw [hX3, hD3]
      exact hQ wS wH wU wK wX wD k1 k2 k3 k4 k5 k6 hb7 hb8 hb9
    refine q_pick (fun z => blk_X7_example_66 active rests writers l_made l_sort l_digits l_slots l_pages l_highest l_units l_kinds _ r (nI r) (nI w) (nI s) (nI (rwc (rr (s / 16)))) z (nI x) (nI n) rec m_made m_sort m_digits m_slots m_pages m_highest m_units m_kinds m_rows m_marks q_active q_rests q_writers l_rows l_marks) (v := nI (rwc wn)) (fun a => by rw [hwa a]; rfl) (fun a => by rw [hwb a]; rfl) ?_
    unfold blk_X7_example_66
    intro x9 hx9
    rw [hx9]
    by_cases hfit : rr (s / 16) = 0 ∨ rr (s / 16) = wn
    rotate_left
    · refine q_if (nI_eq (b := 0) (by omega) (by decide)) (fun a => absurd (Or.inl (hrw2.mp a)) hfit) (fun a => ?_)
      refine q_if (nI_eq (by omega) (by omega)) (fun b => absurd (Or.inr (hrw3.mp b)) hfit) (fun b => ?_)
      refine e8 _ ?_
      unfold blk_X8_example_72
      intro x8 hx8
      rw [hx8]
      refine q_in (by omega) (by decide) ?_
      rw [nI_clamp (by omega), v_r _ hp]
      refine q_if (nI_eq (b := 0) (by omega) (by decide)) (fun a => absurd (Or.inl a) hfit) (fun a => ?_)
      refine q_in (by omega) (by decide) ?_
      exact q_if (nI_eq (by omega) (by omega)) (fun a => absurd (Or.inr a) hfit) (fun _ => ⟨rfl, hI⟩)
    have m72 : ∀ Q, blk_X8_example_99 t_set t_highest t_units t_kinds active rests t_writes Q (nI r) (nI w) (nI s) (nI (272 * r + s / 16)) (nI wn) t_sideKind t_side t_wasSet t_wasHighest t_wasUnits t_wasKinds t_wasSideKind t_wasSide (nI n) → blk_X8_example_72 t_set t_highest t_units t_kinds active rests t_writes Q (nI r) (nI w) (nI s) (nI (272 * r + s / 16)) (nI wn) t_sideKind t_side t_wasSet t_wasHighest t_wasUnits t_wasKinds t_wasSideKind t_wasSide (nI n) := by
      intro Q hQ
      unfold blk_X8_example_72
      intro x8 hx8
      rw [hx8]
      refine q_in (by omega) (by decide) ?_
      rw [nI_clamp (by omega), v_r _ hp]
      refine q_if (nI_eq (b := 0) (by omega) (by decide)) (fun a => hQ) (fun a => ?_)
      refine q_in (by omega) (by decide) ?_
      exact q_if (nI_eq (by omega) (by omega)) (fun a => hQ) (fun b => absurd hfit (by omega))
    have c66 : ∀ B A C : Prop, B → (nI (rwc (rr (s / 16))) = 0 → B) ∧ (¬ nI (rwc (rr (s / 16))) = 0 → (nI (rwc (rr (s / 16))) = nI (rwc wn) → B) ∧ (¬ nI (rwc (rr (s / 16))) = nI (rwc wn) → C)) := by
      intro B A C hB
      refine q_if (nI_eq (b := 0) (by omega) (by decide)) (fun a => hB) (fun a => ?_)
      exact q_if (nI_eq (by omega) (by omega)) (fun b => hB) (fun b => absurd hfit (fun c => by
        rcases c with c | c
        · exact a (hrw2.mpr c)
        · exact b (hrw3.mpr c)))
    refine c66 _ True _ ?_
    unfold blk_X7_example_83
    refine sp_remember_in hr hx hn (Or.inr c_made) (fun W U K R M hW hc => ?_)
    rw [show nI s / (16 : Int32) = nI (s / 16) from pk_div (d := 16) (by omega) (by decide) (by decide)]
    refine sp_putRow (by omega) (sp_putMark (by omega) ?_)
    rw [nI_1]
    refine e8 _ (m72 _ (m99 _ (fun wS wH wU wK wX wD k1 k2 k3 k4 k5 k6 hb7 hb8 hb9 => ?_)))
    have hmn : ∀ j, upn m s (w + 1) j ≤ 101 := by
      intro j
      by_cases e : j = s
      · rw [e, upn_s]; omega
      · rw [upn_n e]; exact hm j
    have hmn0 : ∀ j, 16 * PG d h ≤ j → upn m s (w + 1) j = 0 := by
      intro j hj
      rw [upn_n (by omega)]
      exact hm0 j hj
    have hrn : ∀ p, upn rr (s / 16) wn p ≤ 2 := by
      intro p
      by_cases e : p = s / 16
      · rw [e, upn_s]; omega
      · rw [upn_n e]; exact hrr p
    have ho1 : Only 272 r (upd t_sideKind (272 * r + s / 16) (nI wn)) t_sideKind := fun j hj => pk_un (by omega)
    have ho2 : Only 4352 r (upd t_side (4352 * r + s) (nI (w + 1))) t_side := fun j hj => pk_un (by omega)
    have ho : Oth r t_set t_set t_highest t_highest t_units t_units t_kinds t_kinds (upd t_sideKind (272 * r + s / 16) (nI wn)) t_sideKind (upd t_side (4352 * r + s) (nI (w + 1))) t_side := ⟨Only_rfl, fun _ _ => rfl, Only_rfl, Only_rfl, ho1, ho2⟩
    refine ⟨rfl, hT, ⟨rfl, rfl, ew⟩, hO, LRs_act hr hL (fun i hi => ⟨rfl, rfl, rfl, rfl, rfl, rfl, rfl, rfl, va_up_ne _ _ hi, va_up_ne _ _ hi⟩) ho ?_, ?_, hb1, BY_upd hb2 (by omega), BY_upd hb3 (by omega), hb7, hb8, hb9⟩
    · unfold LRs
      rw [va_up_self, va_up_self]
      refine Or.inr ⟨so, d, h, u, k, upn rr (s / 16) wn, upn m s (w + 1), ⟨hso, hd, hh1, hh2, hu, hk, hrn, hmn, hmn0⟩, ⟨c_made, c_sort, c_dig, c_slots, c_pages, c_high, c_u, c_k, fun p hp2 => ?_, fun j hj => ?_⟩, ⟨v_sort, v_dig, v_slots, v_made, v_high, v_u, v_k, fun p hp2 => ?_, fun j hj => ?_⟩⟩
      · by_cases e : p = s / 16
        · rw [e, pk_us, upn_s]
        · rw [pk_un e, upn_n e]; exact c_r p hp2
      · by_cases e : j = s
        · rw [e, pk_us, upn_s]
        · rw [pk_un e, upn_n e]; exact c_m j hj
      · show upd t_sideKind (272 * r + s / 16) (nI wn) (272 * r + p) = _
        by_cases e : p = s / 16
        · rw [e, pk_us, upn_s]
        · rw [pk_un (by omega), upn_n e]; exact v_r p hp2
      · show upd t_side (4352 * r + s) (nI (w + 1)) (4352 * r + j) = _
        by_cases e : j = s
        · rw [e, pk_us, upn_s]
        · rw [pk_un (by omega), upn_n e]; exact v_m j hj
    · exact Hist_act hn hx hl k1 k2 k3 k4 k5 k6 hO rfl rfl (fun k hk => (hW k hk).trans (ew k hk)) (fun i hi => ⟨va_up_ne _ _ hi, va_up_ne _ _ hi, va_up_ne _ _ hi, va_up_ne _ _ hi, va_up_ne _ _ hi, va_up_ne _ _ hi, va_up_ne _ _ hi, va_up_ne _ _ hi, va_up_ne _ _ hi, va_up_ne _ _ hi⟩) (Or.inr ⟨r, hr, rfl, by
          rw [va_up_self, va_up_self, va_up_self, va_up_self, va_up_self, va_up_self, va_up_self, va_up_self, va_up_self, va_up_self]
          exact LR_eq (hL r hr) hc (fun _ _ => rfl) rfl (fun _ _ => rfl) (fun _ _ => rfl) (fun _ _ => rfl) (fun _ _ => rfl)⟩) (Oth_same ho)
  · unfold wp_X7_example
    refine sp_madeAt_out (fun r hr e => (ho r hr e).1) (opt_n ?_)
    unfold wp_X8_example
    exact sp_isMade_out (fun r hr e => (ho r hr e).2) (q0b ⟨rfl, hI⟩)
