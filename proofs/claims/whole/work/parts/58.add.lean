/-! ===== add, takeOff ===== -/
theorem us_add (u τ u2 : Nat → Nat) (c : Nat) : us 0 u τ u2 c = ua u (mo τ u2 c) := funext fun _ => rfl
theorem us_off (u τ u2 : Nat → Nat) (c : Nat) : us 1 u τ u2 c = fun t => u t - mo τ u2 c t := funext fun _ => rfl
theorem gd_add {a m : Nat} : gd 0 a m ↔ a + m ≤ 1000000000000000 := Iff.rfl
theorem gd_off {a m : Nat} : gd 1 a m ↔ m ≤ a := Iff.rfl
theorem sp_takeLoop {r so N P : Nat} {t_set : Nat → Int32} {t_highest tu tm : Nat → Int64} {tk t_sideKind t_side : Nat → Int32} {ta tr : Int32} {t_writes wS wK wX wD : Nat → Int32} {wH wU : Nat → Int64} {und : Int32} {u k M : Nat → Nat} {Q : Int64 → (Nat → Int64) → (Nat → Int32) → (Nat → Int64) → (Nat → Int32) → (Nat → Int64) → (Nat → Int64) → (Nat → Int32) → (Nat → Int32) → (Nat → Int32) → Int32 → Prop} (hr : r < 4) (hso : so = 0 ∨ so = 1) (hs0 : t_set (4 * r + 0) = nI so) (hs : t_set (4 * r + 2) = nI N) (hP : P ≤ 271) (hN : N ≤ 16 * P) (hk0 : ∀ p, KOK so (k p) (fun i => u (16 * p + i))) (hb0 : ∀ j, u j ≤ 1000000000000000) (hm : ∀ j, j < N → tm j = lN (M j)) (hM : ∀ j, M j ≤ u j) (hz : ∀ j, N ≤ j → M j = 0) (hR : VK r P tu tk u k) (hy : BY tk) (h : ∀ tu' tk', VK r P tu' tk' (fun j => u j - M j) (fk so u k (fun j => u j - M j)) → Only 4352 r tu' tu → Only 272 r tk' tk → BY tk' → wp_X8_totalOf (nI r) t_set tu' (fun v => Q v tu' tk' tm wS wH wU wK wX wD und)) (x0 : Int32) (hx0 : x0 = (0 : Int32)) : ∃ j : Nat, lp_X8_takeOff_47 t_set t_highest t_sideKind t_side ta tr t_writes Q (nI r) tm wS wH wU wK wX wD und j x0 tu tk := by
  have hub : ∀ j, (fun j => u j - M j) j ≤ 1000000000000000 := fun j => by have := hb0 j; show u j - M j ≤ _; omega
  have hall : pf u (fun j => u j - M j) N = fun j => u j - M j := pf_all (fun j hj => by show u j - M j = u j; rw [hz j hj]; rfl)
  rw [hx0]
  refine lp3 (fun n a b c => lp_X8_takeOff_47 t_set t_highest t_sideKind t_side ta tr t_writes Q (nI r) tm wS wH wU wK wX wD und n a b c) (fun a b c => ∃ z, z ≤ N ∧ a = nI z ∧ VK r P b c (pf u (fun j => u j - M j) z) (fk so u k (pf u (fun j => u j - M j) z)) ∧ Only 4352 r b tu ∧ Only 272 r c tk ∧ BY c) (fun a _ _ => N - a.toInt.toNat) ?_ _ _ _ ⟨0, by omega, rfl, by rw [pf_0, fk_0]; exact hR, Only_rfl, Only_rfl, hy⟩
  intro n a b c hI hs2
  obtain ⟨z, hz2, ea, hB, o1, o2, hy2⟩ := hI
  subst ea
  show bod_X8_takeOff_47 t_set t_highest t_sideKind t_side ta tr t_writes Q (nI r) tm wS wH wU wK wX wD und (fun v0 v1 v2 => lp_X8_takeOff_47 t_set t_highest t_sideKind t_side ta tr t_writes Q (nI r) tm wS wH wU wK wX wD und n v0 v1 v2) (nI z) b c
  unfold bod_X8_takeOff_47
  refine sp_of (c := 2) hr (by decide) ?_
  rw [hs]
  refine q_if (nI_leI (by omega) (by omega)) (fun q => ?_) (fun q => ?_)
  · have ez : z = N := by omega
    subst ez
    rw [hall] at hB
    exact h b c hB o1 o2 hy2
  refine q_in (by omega) (by decide) ?_
  have c1 := hM z
  have c2 := hb0 z
  rw [nI_clamp (by omega), hm z (by omega)]
  refine q_if (pk_lLE (b := 0) (by omega) (by decide)) (fun q2 => ?_) (fun q2 => ?_)
  · unfold blk_X8_takeOff_93
    intro x1 hx1
    rw [hx1, nI_1]
    refine hs2 _ _ _ ⟨z + 1, by omega, rfl, ?_, o1, o2, hy2⟩ ?_
    · rw [← pf_k (show u z - M z = u z by omega)]; exact hB
    · rw [nI_toInt (by omega), nI_toInt (by omega)]
      omega
  · rw [show (4352 : Int32) * nI r + nI z = nI (4352 * r + z) from ix_at 4352 r z]
    refine q_in (by omega) (by decide) ?_
    refine q_in (by omega) (by decide) ?_
    rw [nI_clamp (by omega), hB.1 z (by omega), pf_at, lN_sub c1]
    refine sp_writesPlace hr hso hs0 hP (by omega) hk0 hb0 (pf_b z hb0 hub) (by omega) (Or.inr ⟨fun j => ?_, by rw [pf_at]; omega⟩) hB hy2 (fun U3 K3 h3 o3 o4 hy3 => ?_)
    · unfold pf; split
      · show u j - M j ≤ u j; omega
      · exact Nat.le_refl _
    · unfold blk_X8_takeOff_93
      intro x1 hx1
      rw [hx1, nI_1]
      rw [show u z - M z = (fun j => u j - M j) z from rfl, pf_s] at h3
      refine hs2 _ _ _ ⟨z + 1, by omega, rfl, h3, Only_tr o3 o1, Only_tr o4 o2, hy3⟩ ?_
      rw [nI_toInt (by omega), nI_toInt (by omega)]
      omega
theorem stp_add : Stp_add Inv := by
  unfold Stp_add
  intro p0 p1 active rests writers tbytes tlen dbytes dlen next known rec m_made m_sort m_digits m_slots m_pages m_highest m_units m_kinds m_rows m_marks q_active q_rests q_writers l_made l_sort l_digits l_slots l_pages l_highest l_units l_kinds l_rows l_marks t_tape t_taped t_set t_highest t_units t_kinds t_sideKind t_side t_active t_rests t_writes t_more t_packed t_packedMany t_at t_wrong t_number t_readSort t_readDigits t_readHighest t_wasSet t_wasHighest t_wasUnits t_wasKinds t_wasSideKind t_wasSide t_undone hI
  obtain ⟨hT, ⟨ea, er, ew⟩, hO, hL, ⟨⟨n, x, hn, hx, ek, ex, eu, hl⟩, hb1, hb2, hb3, hb4, hb5, hb6⟩⟩ := id hI
  subst ea er ek ex eu
  have hmd : ∀ r, r < 4 → l_made r = 0 ∨ l_made r = 1 := fun r hr => LRs_made (hL r hr)
  unfold wp_X7_add wp_X7_merge
  rcases made_cases l_made l_sort l_digits l_slots l_pages l_highest l_units l_kinds l_rows l_marks t_set t_highest t_units t_kinds t_sideKind t_side hL p0 with ⟨r, hr, e, so, d, h, u, k, rr, m, hA, hC, hM⟩ | ho
  rotate_left
  · refine sp_madeAt_out (fun r hr e => (ho r hr e).1) (opt_n ?_)
    refine sp_madeAt_any hmd (fun x => ?_)
    refine opt_x ?_
    unfold wp_X8_add
    exact sp_isMade_out (fun r hr e => (ho r hr e).2) (q0b ⟨rfl, hI⟩)
  subst e
  obtain ⟨hso, hd, hh1, hh2, hu, hk, hrr, hm, hm0⟩ := id hA
  obtain ⟨c_made, c_sort, c_dig, c_slots, c_pages, c_high, c_u, c_k, c_r, c_m⟩ := id hC
  obtain ⟨v_sort, v_dig, v_slots, v_made, v_high, v_u, v_k, v_r, v_m⟩ := id hM
  have ⟨b1, b2, b3, b4⟩ := PG_b hd hh2
  have v_sort : t_set (4 * r + 0) = nI so := v_sort
  have v_dig : t_set (4 * r + 1) = nI d := v_dig
  have v_slots : t_set (4 * r + 2) = nI (Slot d h + 1) := v_slots
  have v_made : t_set (4 * r + 3) = 1 := v_made
  have v_u : ∀ j, j < 16 * PG d h → t_units (4352 * r + j) = lN (u j) := v_u
  have v_k : ∀ p, p < PG d h → t_kinds (272 * r + p) = nI (k p) := v_k
  have v_r : ∀ p, p < PG d h → t_sideKind (272 * r + p) = nI (rr p) := v_r
  have v_m : ∀ j, j < 4352 → t_side (4352 * r + j) = nI (m j) := v_m
  have hk10 : ∀ p, k p ≤ 10 := fun p => KOK_le hso (hk p)
  have hN : Slot d h + 1 ≤ 16 * PG d h := by omega
  refine sp_madeAt_in hr c_made (opt_s ?_)
  rcases made_cases l_made l_sort l_digits l_slots l_pages l_highest l_units l_kinds l_rows l_marks t_set t_highest t_units t_kinds t_sideKind t_side hL p1 with ⟨r2, hr2, e, so2, d2, h2, u2, k2, rr2, m2, hA2, hC2, hM2⟩ | ho
  rotate_left
  · refine sp_madeAt_out (fun r hr e => (ho r hr e).1) (opt_n ?_)
    unfold wp_X8_add
    refine sp_isMade_in hr v_made (q1b ?_)
    exact sp_isMade_out (fun r hr e => (ho r hr e).2) (q0a ⟨rfl, hI⟩)
  subst e
  obtain ⟨hso2, hd2, hh12, hh22, hu2, hkk2, hrr2, hm2, hm02⟩ := id hA2
  obtain ⟨e_made, e_sort, e_dig, e_slots, e_pages, e_high, e_u, e_k, e_r, e_m⟩ := id hC2
  obtain ⟨w_sort, w_dig, w_slots, w_made, w_high, w_u, w_k, w_r, w_m⟩ := id hM2
  have ⟨b12, b22, b32, b42⟩ := PG_b hd2 hh22
  have w_sort : t_set (4 * r2 + 0) = nI so2 := w_sort
  have w_dig : t_set (4 * r2 + 1) = nI d2 := w_dig
  have w_slots : t_set (4 * r2 + 2) = nI (Slot d2 h2 + 1) := w_slots
  have w_made : t_set (4 * r2 + 3) = 1 := w_made
  have w_u : ∀ j, j < 16 * PG d2 h2 → t_units (4352 * r2 + j) = lN (u2 j) := w_u
  have w_k : ∀ p, p < PG d2 h2 → t_kinds (272 * r2 + p) = nI (k2 p) := w_k
  have w_r : ∀ p, p < PG d2 h2 → t_sideKind (272 * r2 + p) = nI (rr2 p) := w_r
  have w_m : ∀ j, j < 4352 → t_side (4352 * r2 + j) = nI (m2 j) := w_m
  have hk102 : ∀ p, k2 p ≤ 10 := fun p => KOK_le hso2 (hkk2 p)
  refine sp_madeAt_in hr2 e_made (opt_s ?_)
  have good : ∀ (so2 d2 h2 : Nat) (u2 : Nat → Nat) (hso2 : so2 = 0 ∨ so2 = 1) (hd2 : d2 = 1 ∨ d2 = 2) (hh22 : h2 ≤ 1000000000000) (hu2 : ∀ j, u2 j ≤ 1000000000000000) (w_made : t_set (4 * r2 + 3) = 1) (w_sort : t_set (4 * r2 + 0) = nI so2) (w_dig : t_set (4 * r2 + 1) = nI d2) (w_slots : t_set (4 * r2 + 2) = nI (Slot d2 h2 + 1)) (w_u : ∀ j, j < Slot d2 h2 + 1 → t_units (4352 * r2 + j) = lN (u2 j)), CanM 0 so d h u so2 d2 h2 u2 → ∀ (W : Nat → Int32) (U : Nat → Int64) (K R M : Nat → Int32), (∀ k, k < 4 → W k = writers k) → (∀ P, P ≤ 271 → l_pages r = nI P → (∀ j, j < 16 * P → U j = l_units r j) ∧ (∀ p, p < P → K p = l_kinds r p) ∧ (∀ p, p < P → R p = l_rows r p) ∧ (∀ j, j < 16 * P → M j = l_marks r j)) → ∀ (U2 : Nat → Int64) (K2 : Nat → Int32), UK (PG d h) U2 K2 (us 0 u (tau d d2) u2 (Slot d2 h2 + 1)) (fk so u k (us 0 u (tau d d2) u2 (Slot d2 h2 + 1))) → (∀ j, us 0 u (tau d d2) u2 (Slot d2 h2 + 1) j ≤ 1000000000000000) → (∀ p, KOK so (fk so u k (us 0 u (tau d d2) u2 (Slot d2 h2 + 1)) p) (fun i => us 0 u (tau d d2) u2 (Slot d2 h2 + 1) (16 * p + i))) → wp_X8_add (nI r) (nI r2) t_set t_highest t_units t_kinds t_sideKind t_side active rests t_writes t_more t_wasSet t_wasHighest t_wasUnits t_wasKinds t_wasSideKind t_wasSide (nI n) (fun (rb : Int64) (t_units' : Nat → Int64) (t_kinds' : Nat → Int32) (t_more' : Nat → Int64) (t_wasSet' : Nat → Int32) (t_wasHighest' : Nat → Int64) (t_wasUnits' : Nat → Int64) (t_wasKinds' : Nat → Int32) (t_wasSideKind' : Nat → Int32) (t_wasSide' : Nat → Int32) (t_undone' : Int32) => lN (fb_sm (us 0 u (tau d d2) u2 (Slot d2 h2 + 1)) (Slot d h + 1)) = rb ∧ Inv active rests writers tbytes tlen dbytes dlen (nI ((x + 1) % 8)) (nI (min (n + 1) 8)) (va_up rec x (nI r)) (va_up m_made x (l_made r)) (va_up m_sort x (l_sort r)) (va_up m_digits x (l_digits r)) (va_up m_slots x (l_slots r)) (va_up m_pages x (l_pages r)) (va_up m_highest x (l_highest r)) (va_up m_units x U) (va_up m_kinds x K) (va_up m_rows x R) (va_up m_marks x M) (va_up q_active x active) (va_up q_rests x rests) (va_up q_writers x W) l_made l_sort l_digits l_slots l_pages l_highest (va_up l_units r U2) (va_up l_kinds r K2) l_rows l_marks t_tape t_taped t_set t_highest t_units' t_kinds' t_sideKind t_side active rests t_writes t_more' t_packed t_packedMany t_at t_wrong t_number t_readSort t_readDigits t_readHighest t_wasSet' t_wasHighest' t_wasUnits' t_wasKinds' t_wasSideKind' t_wasSide' t_undone') := by
        intro so2 d2 h2 u2 hso2 hd2 hh22 hu2 w_made w_sort w_dig w_slots w_u hcan W U K R M hW hc U2 K2 hUK hfb hfk
        have hMe : ∀ t, min (mo (tau d d2) u2 (Slot d2 h2 + 1) t) 2000000000000000 = mo (tau d d2) u2 (Slot d2 h2 + 1) t := fun t => by
          have := hu t
          have := gd_add.mp (hcan.2.2 t)
          omega
        have hMz : ∀ t, Slot d h + 1 ≤ t → mo (tau d d2) u2 (Slot d2 h2 + 1) t = 0 := fun t ht => mo_z2 (fun i hi e => by
          rcases Nat.eq_zero_or_pos (u2 i) with q | q
          · exact q
          · have := hcan.2.1 i hi (by omega)
            have := Slot_mono hd this (by omega)
            have : tau d d2 i ≤ Slot d h := this
            exfalso
            omega)
        unfold wp_X8_add
        refine sp_isMade_in hr v_made (q1b ?_)
        refine sp_isMade_in hr2 w_made (q1a ?_)
        refine sp_laysOther hr hr2 (by omega) (by omega) hd hd2 hh2 hh22 v_sort v_dig v_high w_sort w_dig w_slots w_u hu2 (fun _ _ m' hm' => q1b ?_) (fun ne => absurd ⟨hcan.1, hcan.2.1⟩ ne)
        refine sp_isRoom (M := mo (tau d d2) u2 (Slot d2 h2 + 1)) hr (by omega) v_slots (fun j hj => v_u j (by omega)) hu (fun j hj => by rw [hm' j (by omega), hMe]) (fun j => by have := gd_add.mp (hcan.2.2 j); omega) (fun _ => q1a ?_) (fun ne => absurd (fun j _ => gd_add.mp (hcan.2.2 j)) ne)
        refine sp_keepsAct hn hb1 hb2 hb3 hb4 hb5 hb6 (fun wS wH wU wK wX wD k1 k2 k3 k4 k5 k6 hb7 hb8 hb9 => ?_)
        rw [us_add] at hUK hfb hfk ⊢
        refine sp_addsLaid (M := mo (tau d d2) u2 (Slot d2 h2 + 1)) hr hso v_sort v_slots b1 hN hk hu (fun j hj => by rw [hm' j (by omega), hMe]) hfb hMz ⟨v_u, v_k⟩ hb1 (fun tu tk hB ho1 ho2 hb10 => ?_)
        refine sp_totalOf hr hN b1 v_slots hB.1 ?_
        have ho : Oth r t_set t_set t_highest t_highest tu t_units tk t_kinds t_sideKind t_sideKind t_side t_side := ⟨Only_rfl, fun _ _ => rfl, ho1, ho2, Only_rfl, Only_rfl⟩
        refine ⟨rfl, hT, ⟨rfl, rfl, ew⟩, hO, LRs_act hr hL (fun i hi => ⟨rfl, rfl, rfl, rfl, rfl, rfl, va_up_ne _ _ hi, va_up_ne _ _ hi, rfl, rfl⟩) ho ?_, ?_, hb10, hb2, hb3, hb7, hb8, hb9⟩
        · unfold LRs
          rw [va_up_self, va_up_self]
          exact Or.inr ⟨so, d, h, _, _, rr, m, ⟨hso, hd, hh1, hh2, hfb, hfk, hrr, hm, hm0⟩, ⟨c_made, c_sort, c_dig, c_slots, c_pages, c_high, hUK.1, hUK.2, c_r, c_m⟩, ⟨v_sort, v_dig, v_slots, v_made, v_high, hB.1, hB.2, v_r, v_m⟩⟩
        · exact Hist_act hn hx hl k1 k2 k3 k4 k5 k6 hO rfl rfl (fun k hk => (hW k hk).trans (ew k hk)) (fun i hi => ⟨va_up_ne _ _ hi, va_up_ne _ _ hi, va_up_ne _ _ hi, va_up_ne _ _ hi, va_up_ne _ _ hi, va_up_ne _ _ hi, va_up_ne _ _ hi, va_up_ne _ _ hi, va_up_ne _ _ hi, va_up_ne _ _ hi⟩) (Or.inr ⟨r, hr, rfl, by
          rw [va_up_self, va_up_self, va_up_self, va_up_self, va_up_self, va_up_self, va_up_self, va_up_self, va_up_self, va_up_self]
          exact LR_eq (hL r hr) hc (fun _ _ => rfl) rfl (fun _ _ => rfl) (fun _ _ => rfl) (fun _ _ => rfl) (fun _ _ => rfl)⟩) (Oth_same ho)
  have bad : ∀ (so2 d2 h2 : Nat) (u2 : Nat → Nat) (hso2 : so2 = 0 ∨ so2 = 1) (hd2 : d2 = 1 ∨ d2 = 2) (hh22 : h2 ≤ 1000000000000) (hu2 : ∀ j, u2 j ≤ 1000000000000000) (w_made : t_set (4 * r2 + 3) = 1) (w_sort : t_set (4 * r2 + 0) = nI so2) (w_dig : t_set (4 * r2 + 1) = nI d2) (w_slots : t_set (4 * r2 + 2) = nI (Slot d2 h2 + 1)) (w_u : ∀ j, j < Slot d2 h2 + 1 → t_units (4352 * r2 + j) = lN (u2 j)), ¬ CanM 0 so d h u so2 d2 h2 u2 → wp_X8_add (nI r) (nI r2) t_set t_highest t_units t_kinds t_sideKind t_side active rests t_writes t_more t_wasSet t_wasHighest t_wasUnits t_wasKinds t_wasSideKind t_wasSide (nI n) (fun (rb : Int64) (t_units' : Nat → Int64) (t_kinds' : Nat → Int32) (t_more' : Nat → Int64) (t_wasSet' : Nat → Int32) (t_wasHighest' : Nat → Int64) (t_wasUnits' : Nat → Int64) (t_wasKinds' : Nat → Int32) (t_wasSideKind' : Nat → Int32) (t_wasSide' : Nat → Int32) (t_undone' : Int32) => (-2 : Int64) = rb ∧ Inv active rests writers tbytes tlen dbytes dlen (nI x) (nI n) rec m_made m_sort m_digits m_slots m_pages m_highest m_units m_kinds m_rows m_marks q_active q_rests q_writers l_made l_sort l_digits l_slots l_pages l_highest l_units l_kinds l_rows l_marks t_tape t_taped t_set t_highest t_units' t_kinds' t_sideKind t_side active rests t_writes t_more' t_packed t_packedMany t_at t_wrong t_number t_readSort t_readDigits t_readHighest t_wasSet' t_wasHighest' t_wasUnits' t_wasKinds' t_wasSideKind' t_wasSide' t_undone') := by
        intro so2 d2 h2 u2 hso2 hd2 hh22 hu2 w_made w_sort w_dig w_slots w_u hcan
        unfold wp_X8_add
        refine sp_isMade_in hr v_made (q1b ?_)
        refine sp_isMade_in hr2 w_made (q1a ?_)
        by_cases hc : so = so2 ∧ ∀ s, s < Slot d2 h2 + 1 → u2 s ≠ 0 → Low d2 s ≤ h
        rotate_left
        · exact sp_laysOther hr hr2 (by omega) (by omega) hd hd2 hh2 hh22 v_sort v_dig v_high w_sort w_dig w_slots w_u hu2 (fun e1 e2 => absurd ⟨e1, e2⟩ hc) (fun _ m' => q0b ⟨rfl, hI⟩)
        refine sp_laysOther hr hr2 (by omega) (by omega) hd hd2 hh2 hh22 v_sort v_dig v_high w_sort w_dig w_slots w_u hu2 (fun _ _ m' hm' => q1b ?_) (fun ne => absurd hc ne)
        refine sp_isRoom (M := fun j => min (mo (tau d d2) u2 (Slot d2 h2 + 1) j) 2000000000000000) hr (by omega) v_slots (fun j hj => v_u j (by omega)) hu (fun j hj => hm' j (by omega)) (fun j => by show min _ 2000000000000000 < _; omega) (fun hroom => ?_) (fun _ => q0a ⟨rfl, hI⟩)
        refine absurd ⟨hc.1, hc.2, fun t => gd_add.mpr ?_⟩ hcan
        rcases Nat.lt_or_ge t (Slot d h + 1) with q | q
        · have h9 : u t + min (mo (tau d d2) u2 (Slot d2 h2 + 1) t) 2000000000000000 ≤ 1000000000000000 := hroom t q
          omega
        · rw [mo_z2 (fun i hi e => ?_)]
          · exact hu t
          · rcases Nat.eq_zero_or_pos (u2 i) with q2 | q2
            · exact q2
            · have := hc.2 i hi (by omega)
              have := Slot_mono hd this (by omega)
              have : tau d d2 i ≤ Slot d h := this
              exfalso
              omega
  have usb : ∀ (so2 d2 h2 : Nat) (u2 : Nat → Nat), CanM 0 so d h u so2 d2 h2 u2 → ∀ j, us 0 u (tau d d2) u2 (Slot d2 h2 + 1) j ≤ 1000000000000000 := fun so2 d2 h2 u2 hcan => us_b hu hcan.2.2 (Nat.le_refl _)
  by_cases e : r = r2
  · refine ⟨fun _ => ?_, fun n => absurd e n⟩
    subst e
    refine sp_canMerge_sE (sg := 0) c_high c_sort c_dig c_slots c_pages (by omega) hd hh2 b1 (by omega) (by omega) c_u hu c_k (fun p => by have := hk10 p; omega) (fun p => (hk p).1) (fun hcan => q1a ?_) (fun hcan => q0a ?_)
    · refine sp_remember_in hr hx hn (Or.inr c_made) (fun W U K R M hW hc => ?_)
      refine sp_mergeFrom_s (sg := 0) c_sort c_dig c_slots c_pages hso hd hh2 b1 hN hu hk ⟨c_u, c_k⟩ hcan.2.1 hcan.2.2 (fun U2 K2 hUK => ?_)
      have hfb := usb _ _ _ _ hcan
      have hfk := KOK_fk hso hk hu hfb
      rw [va_up_self, va_up_self]
      refine sp_allU b1 hN c_slots c_pages hUK.1 hUK.2 (fun p => by have := KOK_le hso (hfk p); omega) (fun p => (hfk p).1) ?_
      exact good so d h u hso hd hh2 hu v_made v_sort v_dig v_slots (fun j hj => v_u j (by omega)) hcan W U K R M hW hc U2 K2 hUK hfb hfk
    · exact bad so d h u hso hd hh2 hu v_made v_sort v_dig v_slots (fun j hj => v_u j (by omega)) hcan
  · refine ⟨fun n => absurd n e, fun _ => ?_⟩
    refine sp_canMergeE (sg := 0) c_sort c_dig c_high e_sort e_dig e_slots e_pages (by omega) (by omega) hd hd2 hh2 hh22 b1 hN b12 (by omega) (by omega) c_u hu e_u hu2 e_k (fun p => by have := hk102 p; omega) (fun p => (hkk2 p).1) (fun hcan => q1a ?_) (fun hcan => q0a ?_)
    · refine sp_remember_in hr hx hn (Or.inr c_made) (fun W U K R M hW hc => ?_)
      refine sp_mergeFrom (sg := 0) c_sort c_dig e_dig e_slots e_pages hso hd hh2 b1 hN hu hk ⟨c_u, c_k⟩ hd2 hh22 b12 (by omega) e_u hu2 e_k (fun p => by have := hk102 p; omega) (fun p => (hkk2 p).1) hcan.2.1 hcan.2.2 (fun U2 K2 hUK => ?_)
      have hfb := usb _ _ _ _ hcan
      have hfk := KOK_fk hso hk hu hfb
      rw [va_up_self, va_up_self]
      refine sp_allU b1 hN c_slots c_pages hUK.1 hUK.2 (fun p => by have := KOK_le hso (hfk p); omega) (fun p => (hfk p).1) ?_
      exact good so2 d2 h2 u2 hso2 hd2 hh22 hu2 w_made w_sort w_dig w_slots (fun j hj => w_u j (by omega)) hcan W U K R M hW hc U2 K2 hUK hfb hfk
    · exact bad so2 d2 h2 u2 hso2 hd2 hh22 hu2 w_made w_sort w_dig w_slots (fun j hj => w_u j (by omega)) hcan
theorem stp_takeOff : Stp_takeOff Inv := by
  unfold Stp_takeOff
  intro p0 p1 active rests writers tbytes tlen dbytes dlen next known rec m_made m_sort m_digits m_slots m_pages m_highest m_units m_kinds m_rows m_marks q_active q_rests q_writers l_made l_sort l_digits l_slots l_pages l_highest l_units l_kinds l_rows l_marks t_tape t_taped t_set t_highest t_units t_kinds t_sideKind t_side t_active t_rests t_writes t_more t_packed t_packedMany t_at t_wrong t_number t_readSort t_readDigits t_readHighest t_wasSet t_wasHighest t_wasUnits t_wasKinds t_wasSideKind t_wasSide t_undone hI
  obtain ⟨hT, ⟨ea, er, ew⟩, hO, hL, ⟨⟨n, x, hn, hx, ek, ex, eu, hl⟩, hb1, hb2, hb3, hb4, hb5, hb6⟩⟩ := id hI
  subst ea er ek ex eu
  have hmd : ∀ r, r < 4 → l_made r = 0 ∨ l_made r = 1 := fun r hr => LRs_made (hL r hr)
  unfold wp_X7_takeOff wp_X7_merge
  rcases made_cases l_made l_sort l_digits l_slots l_pages l_highest l_units l_kinds l_rows l_marks t_set t_highest t_units t_kinds t_sideKind t_side hL p0 with ⟨r, hr, e, so, d, h, u, k, rr, m, hA, hC, hM⟩ | ho
  rotate_left
  · refine sp_madeAt_out (fun r hr e => (ho r hr e).1) (opt_n ?_)
    refine sp_madeAt_any hmd (fun x => ?_)
    refine opt_x ?_
    unfold wp_X8_takeOff
    exact sp_isMade_out (fun r hr e => (ho r hr e).2) (q0b ⟨rfl, hI⟩)
  subst e
  obtain ⟨hso, hd, hh1, hh2, hu, hk, hrr, hm, hm0⟩ := id hA
  obtain ⟨c_made, c_sort, c_dig, c_slots, c_pages, c_high, c_u, c_k, c_r, c_m⟩ := id hC
  obtain ⟨v_sort, v_dig, v_slots, v_made, v_high, v_u, v_k, v_r, v_m⟩ := id hM
  have ⟨b1, b2, b3, b4⟩ := PG_b hd hh2
  have v_sort : t_set (4 * r + 0) = nI so := v_sort
  have v_dig : t_set (4 * r + 1) = nI d := v_dig
  have v_slots : t_set (4 * r + 2) = nI (Slot d h + 1) := v_slots
  have v_made : t_set (4 * r + 3) = 1 := v_made
  have v_u : ∀ j, j < 16 * PG d h → t_units (4352 * r + j) = lN (u j) := v_u
  have v_k : ∀ p, p < PG d h → t_kinds (272 * r + p) = nI (k p) := v_k
  have v_r : ∀ p, p < PG d h → t_sideKind (272 * r + p) = nI (rr p) := v_r
  have v_m : ∀ j, j < 4352 → t_side (4352 * r + j) = nI (m j) := v_m
  have hk10 : ∀ p, k p ≤ 10 := fun p => KOK_le hso (hk p)
  have hN : Slot d h + 1 ≤ 16 * PG d h := by omega
  refine sp_madeAt_in hr c_made (opt_s ?_)
  rcases made_cases l_made l_sort l_digits l_slots l_pages l_highest l_units l_kinds l_rows l_marks t_set t_highest t_units t_kinds t_sideKind t_side hL p1 with ⟨r2, hr2, e, so2, d2, h2, u2, k2, rr2, m2, hA2, hC2, hM2⟩ | ho
  rotate_left
  · refine sp_madeAt_out (fun r hr e => (ho r hr e).1) (opt_n ?_)
    unfold wp_X8_takeOff
    refine sp_isMade_in hr v_made (q1b ?_)
    exact sp_isMade_out (fun r hr e => (ho r hr e).2) (q0a ⟨rfl, hI⟩)
  subst e
  obtain ⟨hso2, hd2, hh12, hh22, hu2, hkk2, hrr2, hm2, hm02⟩ := id hA2
  obtain ⟨e_made, e_sort, e_dig, e_slots, e_pages, e_high, e_u, e_k, e_r, e_m⟩ := id hC2
  obtain ⟨w_sort, w_dig, w_slots, w_made, w_high, w_u, w_k, w_r, w_m⟩ := id hM2
  have ⟨b12, b22, b32, b42⟩ := PG_b hd2 hh22
  have w_sort : t_set (4 * r2 + 0) = nI so2 := w_sort
  have w_dig : t_set (4 * r2 + 1) = nI d2 := w_dig
  have w_slots : t_set (4 * r2 + 2) = nI (Slot d2 h2 + 1) := w_slots
  have w_made : t_set (4 * r2 + 3) = 1 := w_made
  have w_u : ∀ j, j < 16 * PG d2 h2 → t_units (4352 * r2 + j) = lN (u2 j) := w_u
  have w_k : ∀ p, p < PG d2 h2 → t_kinds (272 * r2 + p) = nI (k2 p) := w_k
  have w_r : ∀ p, p < PG d2 h2 → t_sideKind (272 * r2 + p) = nI (rr2 p) := w_r
  have w_m : ∀ j, j < 4352 → t_side (4352 * r2 + j) = nI (m2 j) := w_m
  have hk102 : ∀ p, k2 p ≤ 10 := fun p => KOK_le hso2 (hkk2 p)
  refine sp_madeAt_in hr2 e_made (opt_s ?_)
  have good : ∀ (so2 d2 h2 : Nat) (u2 : Nat → Nat) (hso2 : so2 = 0 ∨ so2 = 1) (hd2 : d2 = 1 ∨ d2 = 2) (hh22 : h2 ≤ 1000000000000) (hu2 : ∀ j, u2 j ≤ 1000000000000000) (w_made : t_set (4 * r2 + 3) = 1) (w_sort : t_set (4 * r2 + 0) = nI so2) (w_dig : t_set (4 * r2 + 1) = nI d2) (w_slots : t_set (4 * r2 + 2) = nI (Slot d2 h2 + 1)) (w_u : ∀ j, j < Slot d2 h2 + 1 → t_units (4352 * r2 + j) = lN (u2 j)), CanM 1 so d h u so2 d2 h2 u2 → ∀ (W : Nat → Int32) (U : Nat → Int64) (K R M : Nat → Int32), (∀ k, k < 4 → W k = writers k) → (∀ P, P ≤ 271 → l_pages r = nI P → (∀ j, j < 16 * P → U j = l_units r j) ∧ (∀ p, p < P → K p = l_kinds r p) ∧ (∀ p, p < P → R p = l_rows r p) ∧ (∀ j, j < 16 * P → M j = l_marks r j)) → ∀ (U2 : Nat → Int64) (K2 : Nat → Int32), UK (PG d h) U2 K2 (us 1 u (tau d d2) u2 (Slot d2 h2 + 1)) (fk so u k (us 1 u (tau d d2) u2 (Slot d2 h2 + 1))) → (∀ j, us 1 u (tau d d2) u2 (Slot d2 h2 + 1) j ≤ 1000000000000000) → (∀ p, KOK so (fk so u k (us 1 u (tau d d2) u2 (Slot d2 h2 + 1)) p) (fun i => us 1 u (tau d d2) u2 (Slot d2 h2 + 1) (16 * p + i))) → wp_X8_takeOff (nI r) (nI r2) t_set t_highest t_units t_kinds t_sideKind t_side active rests t_writes t_more t_wasSet t_wasHighest t_wasUnits t_wasKinds t_wasSideKind t_wasSide (nI n) (fun (rb : Int64) (t_units' : Nat → Int64) (t_kinds' : Nat → Int32) (t_more' : Nat → Int64) (t_wasSet' : Nat → Int32) (t_wasHighest' : Nat → Int64) (t_wasUnits' : Nat → Int64) (t_wasKinds' : Nat → Int32) (t_wasSideKind' : Nat → Int32) (t_wasSide' : Nat → Int32) (t_undone' : Int32) => lN (fb_sm (us 1 u (tau d d2) u2 (Slot d2 h2 + 1)) (Slot d h + 1)) = rb ∧ Inv active rests writers tbytes tlen dbytes dlen (nI ((x + 1) % 8)) (nI (min (n + 1) 8)) (va_up rec x (nI r)) (va_up m_made x (l_made r)) (va_up m_sort x (l_sort r)) (va_up m_digits x (l_digits r)) (va_up m_slots x (l_slots r)) (va_up m_pages x (l_pages r)) (va_up m_highest x (l_highest r)) (va_up m_units x U) (va_up m_kinds x K) (va_up m_rows x R) (va_up m_marks x M) (va_up q_active x active) (va_up q_rests x rests) (va_up q_writers x W) l_made l_sort l_digits l_slots l_pages l_highest (va_up l_units r U2) (va_up l_kinds r K2) l_rows l_marks t_tape t_taped t_set t_highest t_units' t_kinds' t_sideKind t_side active rests t_writes t_more' t_packed t_packedMany t_at t_wrong t_number t_readSort t_readDigits t_readHighest t_wasSet' t_wasHighest' t_wasUnits' t_wasKinds' t_wasSideKind' t_wasSide' t_undone') := by
        intro so2 d2 h2 u2 hso2 hd2 hh22 hu2 w_made w_sort w_dig w_slots w_u hcan W U K R M hW hc U2 K2 hUK hfb hfk
        have hMe : ∀ t, min (mo (tau d d2) u2 (Slot d2 h2 + 1) t) 2000000000000000 = mo (tau d d2) u2 (Slot d2 h2 + 1) t := fun t => by
          have := hu t
          have := gd_off.mp (hcan.2.2 t)
          omega
        have hMz : ∀ t, Slot d h + 1 ≤ t → mo (tau d d2) u2 (Slot d2 h2 + 1) t = 0 := fun t ht => mo_z2 (fun i hi e => by
          rcases Nat.eq_zero_or_pos (u2 i) with q | q
          · exact q
          · have := hcan.2.1 i hi (by omega)
            have := Slot_mono hd this (by omega)
            have : tau d d2 i ≤ Slot d h := this
            exfalso
            omega)
        unfold wp_X8_takeOff
        refine sp_isMade_in hr v_made (q1b ?_)
        refine sp_isMade_in hr2 w_made (q1a ?_)
        refine sp_laysOther hr hr2 (by omega) (by omega) hd hd2 hh2 hh22 v_sort v_dig v_high w_sort w_dig w_slots w_u hu2 (fun _ _ m' hm' => q1b ?_) (fun ne => absurd ⟨hcan.1, hcan.2.1⟩ ne)
        refine sp_isEnough (M := mo (tau d d2) u2 (Slot d2 h2 + 1)) hr (by omega) v_slots (fun j hj => v_u j (by omega)) hu (fun j hj => by rw [hm' j (by omega), hMe]) (fun j => by have := gd_off.mp (hcan.2.2 j); have := hu j; omega) (fun _ => q1a ?_) (fun ne => absurd (fun j _ => gd_off.mp (hcan.2.2 j)) ne)
        refine sp_keepsAct hn hb1 hb2 hb3 hb4 hb5 hb6 (fun wS wH wU wK wX wD k1 k2 k3 k4 k5 k6 hb7 hb8 hb9 => ?_)
        rw [us_off] at hUK hfb hfk ⊢
        intro x3 hx3
        refine sp_takeLoop (M := mo (tau d d2) u2 (Slot d2 h2 + 1)) hr hso v_sort v_slots b1 hN hk hu (fun j hj => by rw [hm' j (by omega), hMe]) (fun j => gd_off.mp (hcan.2.2 j)) hMz ⟨v_u, v_k⟩ hb1 (fun tu tk hB ho1 ho2 hb10 => ?_) x3 hx3
        refine sp_totalOf hr hN b1 v_slots hB.1 ?_
        have ho : Oth r t_set t_set t_highest t_highest tu t_units tk t_kinds t_sideKind t_sideKind t_side t_side := ⟨Only_rfl, fun _ _ => rfl, ho1, ho2, Only_rfl, Only_rfl⟩
        refine ⟨rfl, hT, ⟨rfl, rfl, ew⟩, hO, LRs_act hr hL (fun i hi => ⟨rfl, rfl, rfl, rfl, rfl, rfl, va_up_ne _ _ hi, va_up_ne _ _ hi, rfl, rfl⟩) ho ?_, ?_, hb10, hb2, hb3, hb7, hb8, hb9⟩
        · unfold LRs
          rw [va_up_self, va_up_self]
          exact Or.inr ⟨so, d, h, _, _, rr, m, ⟨hso, hd, hh1, hh2, hfb, hfk, hrr, hm, hm0⟩, ⟨c_made, c_sort, c_dig, c_slots, c_pages, c_high, hUK.1, hUK.2, c_r, c_m⟩, ⟨v_sort, v_dig, v_slots, v_made, v_high, hB.1, hB.2, v_r, v_m⟩⟩
        · exact Hist_act hn hx hl k1 k2 k3 k4 k5 k6 hO rfl rfl (fun k hk => (hW k hk).trans (ew k hk)) (fun i hi => ⟨va_up_ne _ _ hi, va_up_ne _ _ hi, va_up_ne _ _ hi, va_up_ne _ _ hi, va_up_ne _ _ hi, va_up_ne _ _ hi, va_up_ne _ _ hi, va_up_ne _ _ hi, va_up_ne _ _ hi, va_up_ne _ _ hi⟩) (Or.inr ⟨r, hr, rfl, by
          rw [va_up_self, va_up_self, va_up_self, va_up_self, va_up_self, va_up_self, va_up_self, va_up_self, va_up_self, va_up_self]
          exact LR_eq (hL r hr) hc (fun _ _ => rfl) rfl (fun _ _ => rfl) (fun _ _ => rfl) (fun _ _ => rfl) (fun _ _ => rfl)⟩) (Oth_same ho)
  have bad : ∀ (so2 d2 h2 : Nat) (u2 : Nat → Nat) (hso2 : so2 = 0 ∨ so2 = 1) (hd2 : d2 = 1 ∨ d2 = 2) (hh22 : h2 ≤ 1000000000000) (hu2 : ∀ j, u2 j ≤ 1000000000000000) (w_made : t_set (4 * r2 + 3) = 1) (w_sort : t_set (4 * r2 + 0) = nI so2) (w_dig : t_set (4 * r2 + 1) = nI d2) (w_slots : t_set (4 * r2 + 2) = nI (Slot d2 h2 + 1)) (w_u : ∀ j, j < Slot d2 h2 + 1 → t_units (4352 * r2 + j) = lN (u2 j)), ¬ CanM 1 so d h u so2 d2 h2 u2 → wp_X8_takeOff (nI r) (nI r2) t_set t_highest t_units t_kinds t_sideKind t_side active rests t_writes t_more t_wasSet t_wasHighest t_wasUnits t_wasKinds t_wasSideKind t_wasSide (nI n) (fun (rb : Int64) (t_units' : Nat → Int64) (t_kinds' : Nat → Int32) (t_more' : Nat → Int64) (t_wasSet' : Nat → Int32) (t_wasHighest' : Nat → Int64) (t_wasUnits' : Nat → Int64) (t_wasKinds' : Nat → Int32) (t_wasSideKind' : Nat → Int32) (t_wasSide' : Nat → Int32) (t_undone' : Int32) => (-2 : Int64) = rb ∧ Inv active rests writers tbytes tlen dbytes dlen (nI x) (nI n) rec m_made m_sort m_digits m_slots m_pages m_highest m_units m_kinds m_rows m_marks q_active q_rests q_writers l_made l_sort l_digits l_slots l_pages l_highest l_units l_kinds l_rows l_marks t_tape t_taped t_set t_highest t_units' t_kinds' t_sideKind t_side active rests t_writes t_more' t_packed t_packedMany t_at t_wrong t_number t_readSort t_readDigits t_readHighest t_wasSet' t_wasHighest' t_wasUnits' t_wasKinds' t_wasSideKind' t_wasSide' t_undone') := by
        intro so2 d2 h2 u2 hso2 hd2 hh22 hu2 w_made w_sort w_dig w_slots w_u hcan
        unfold wp_X8_takeOff
        refine sp_isMade_in hr v_made (q1b ?_)
        refine sp_isMade_in hr2 w_made (q1a ?_)
        by_cases hc : so = so2 ∧ ∀ s, s < Slot d2 h2 + 1 → u2 s ≠ 0 → Low d2 s ≤ h
        rotate_left
        · exact sp_laysOther hr hr2 (by omega) (by omega) hd hd2 hh2 hh22 v_sort v_dig v_high w_sort w_dig w_slots w_u hu2 (fun e1 e2 => absurd ⟨e1, e2⟩ hc) (fun _ m' => q0b ⟨rfl, hI⟩)
        refine sp_laysOther hr hr2 (by omega) (by omega) hd hd2 hh2 hh22 v_sort v_dig v_high w_sort w_dig w_slots w_u hu2 (fun _ _ m' hm' => q1b ?_) (fun ne => absurd hc ne)
        refine sp_isEnough (M := fun j => min (mo (tau d d2) u2 (Slot d2 h2 + 1) j) 2000000000000000) hr (by omega) v_slots (fun j hj => v_u j (by omega)) hu (fun j hj => hm' j (by omega)) (fun j => by show min _ 2000000000000000 < _; omega) (fun hroom => ?_) (fun _ => q0a ⟨rfl, hI⟩)
        refine absurd ⟨hc.1, hc.2, fun t => gd_off.mpr ?_⟩ hcan
        rcases Nat.lt_or_ge t (Slot d h + 1) with q | q
        · have h9 : min (mo (tau d d2) u2 (Slot d2 h2 + 1) t) 2000000000000000 ≤ u t := hroom t q
          have := hu t
          omega
        · rw [mo_z2 (fun i hi e => ?_)]
          · exact Nat.zero_le _
          · rcases Nat.eq_zero_or_pos (u2 i) with q2 | q2
            · exact q2
            · have := hc.2 i hi (by omega)
              have := Slot_mono hd this (by omega)
              have : tau d d2 i ≤ Slot d h := this
              exfalso
              omega
  have usb : ∀ (so2 d2 h2 : Nat) (u2 : Nat → Nat), CanM 1 so d h u so2 d2 h2 u2 → ∀ j, us 1 u (tau d d2) u2 (Slot d2 h2 + 1) j ≤ 1000000000000000 := fun so2 d2 h2 u2 hcan => us_b hu hcan.2.2 (Nat.le_refl _)
  by_cases e : r = r2
  · refine ⟨fun _ => ?_, fun n => absurd e n⟩
    subst e
    refine sp_canMerge_sE (sg := 1) c_high c_sort c_dig c_slots c_pages (by omega) hd hh2 b1 (by omega) (by omega) c_u hu c_k (fun p => by have := hk10 p; omega) (fun p => (hk p).1) (fun hcan => q1a ?_) (fun hcan => q0a ?_)
    · refine sp_remember_in hr hx hn (Or.inr c_made) (fun W U K R M hW hc => ?_)
      refine sp_mergeFrom_s (sg := 1) c_sort c_dig c_slots c_pages hso hd hh2 b1 hN hu hk ⟨c_u, c_k⟩ hcan.2.1 hcan.2.2 (fun U2 K2 hUK => ?_)
      have hfb := usb _ _ _ _ hcan
      have hfk := KOK_fk hso hk hu hfb
      rw [va_up_self, va_up_self]
      refine sp_allU b1 hN c_slots c_pages hUK.1 hUK.2 (fun p => by have := KOK_le hso (hfk p); omega) (fun p => (hfk p).1) ?_
      exact good so d h u hso hd hh2 hu v_made v_sort v_dig v_slots (fun j hj => v_u j (by omega)) hcan W U K R M hW hc U2 K2 hUK hfb hfk
    · exact bad so d h u hso hd hh2 hu v_made v_sort v_dig v_slots (fun j hj => v_u j (by omega)) hcan
  · refine ⟨fun n => absurd n e, fun _ => ?_⟩
    refine sp_canMergeE (sg := 1) c_sort c_dig c_high e_sort e_dig e_slots e_pages (by omega) (by omega) hd hd2 hh2 hh22 b1 hN b12 (by omega) (by omega) c_u hu e_u hu2 e_k (fun p => by have := hk102 p; omega) (fun p => (hkk2 p).1) (fun hcan => q1a ?_) (fun hcan => q0a ?_)
    · refine sp_remember_in hr hx hn (Or.inr c_made) (fun W U K R M hW hc => ?_)
      refine sp_mergeFrom (sg := 1) c_sort c_dig e_dig e_slots e_pages hso hd hh2 b1 hN hu hk ⟨c_u, c_k⟩ hd2 hh22 b12 (by omega) e_u hu2 e_k (fun p => by have := hk102 p; omega) (fun p => (hkk2 p).1) hcan.2.1 hcan.2.2 (fun U2 K2 hUK => ?_)
      have hfb := usb _ _ _ _ hcan
      have hfk := KOK_fk hso hk hu hfb
      rw [va_up_self, va_up_self]
      refine sp_allU b1 hN c_slots c_pages hUK.1 hUK.2 (fun p => by have := KOK_le hso (hfk p); omega) (fun p => (hfk p).1) ?_
      exact good so2 d2 h2 u2 hso2 hd2 hh22 hu2 w_made w_sort w_dig w_slots (fun j hj => w_u j (by omega)) hcan W U K R M hW hc U2 K2 hUK hfb hfk
    · exact bad so2 d2 h2 u2 hso2 hd2 hh22 hu2 w_made w_sort w_dig w_slots (fun j hj => w_u j (by omega)) hcan
