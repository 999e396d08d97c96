/-! ===== whether two are alike ===== -/
theorem nI_max2 {a b : Nat} (ha : a < 2 ^ 31) (hb : b < 2 ^ 31) : (if nI a < nI b then nI b else nI a) = nI (max a b) := by
  by_cases h : a < b
  · rw [if_pos (nI_lt h hb), Nat.max_eq_right (by omega)]
  · rw [if_neg (nI_nlt (by omega) ha), Nat.max_eq_left (by omega)]
theorem sp_isLike_s {N P : Nat} {so di slots pages : Int32} {hi : Int64} {U : Nat → Int64} {K : Nat → Int32} {k : Nat → Nat} {Q : Int32 → Prop} (hP : P ≤ 271) (hN : N ≤ 16 * P) (es : slots = nI N) (ep : pages = nI P) (hk : ∀ p, p < P → K p = nI (k p)) (hk31 : ∀ p, k p < 2 ^ 31) (h1 : Q 1) : wp_X1_isLike_s so di slots pages hi U K Q := by
  unfold wp_X1_isLike_s
  refine ⟨fun n => absurd rfl n, fun _ => ⟨fun n => absurd rfl n, fun _ => ⟨fun _ => ?_, fun n => absurd rfl n⟩⟩⟩
  intro x ex
  rw [ex, es, ep]
  refine lp1 (fun n a => lp_X1_isLike_s_38 so di (nI N) (nI P) hi U K Q n a) (fun a => ∃ p, p ≤ P ∧ a = nI p) (fun a => P - a.toInt.toNat) ?_ _ ⟨0, by omega, rfl⟩
  intro n a hI ho
  obtain ⟨p, hp, ea⟩ := hI
  subst ea
  show bod_X1_isLike_s_38 so di (nI N) (nI P) hi U K Q (fun v0 => lp_X1_isLike_s_38 so di (nI N) (nI P) hi U K Q n v0) (nI p)
  unfold bod_X1_isLike_s_38
  refine q_if (nI_leI (by omega) (by omega)) (fun q => h1) (fun q => ?_)
  have hpP : p < P := by omega
  have hb : endP N (k p) p ≤ 16 * p + 16 := by unfold endP; split <;> omega
  refine sp_endOf (by omega) (hk p hpP) (hk31 p) rfl (by omega) ?_
  refine sp_endOf (by omega) (hk p hpP) (hk31 p) rfl (by omega) ?_
  intro e1 he1 x6 hx6
  rw [he1, hx6, pg16, nI_max2 (by omega) (by omega), Nat.max_self]
  refine lp1 (fun n2 a => lp_X1_isLike_s_66 so di (nI N) (nI P) hi U K (fun v0 => lp_X1_isLike_s_38 so di (nI N) (nI P) hi U K Q n v0) Q (nI p) (nI (endP N (k p) p)) n2 a) (fun a => ∃ z, z ≤ 16 * p + 16 ∧ a = nI z) (fun a => 16 * p + 16 - a.toInt.toNat) ?_ _ ⟨16 * p, by omega, rfl⟩
  intro n2 a2 hI2 hs2
  obtain ⟨z, hz, ea2⟩ := hI2
  subst ea2
  show bod_X1_isLike_s_66 so di (nI N) (nI P) hi U K (fun v0 => lp_X1_isLike_s_38 so di (nI N) (nI P) hi U K Q n v0) Q (nI p) (nI (endP N (k p) p)) (fun v0 => lp_X1_isLike_s_66 so di (nI N) (nI P) hi U K (fun v0 => lp_X1_isLike_s_38 so di (nI N) (nI P) hi U K Q n v0) Q (nI p) (nI (endP N (k p) p)) n2 v0) (nI z)
  unfold bod_X1_isLike_s_66
  refine q_if (nI_leI (by omega) (by omega)) (fun q2 => ?_) (fun q2 => ?_)
  · intro x4 hx4
    rw [hx4, nI_1]
    refine ho _ ⟨p + 1, by omega, rfl⟩ ?_
    rw [nI_toInt (by omega), nI_toInt (by omega)]
    omega
  · refine sp_unitsOf (by omega) ?_
    refine sp_unitsOf (by omega) ?_
    refine ⟨fun _ => ?_, fun n => absurd rfl n⟩
    intro x7 hx7
    rw [hx7, nI_1]
    refine hs2 _ ⟨z + 1, by omega, rfl⟩ ?_
    rw [nI_toInt (by omega), nI_toInt (by omega)]
    omega
def Like (so d h : Nat) (u : Nat → Nat) (so2 d2 h2 : Nat) (u2 : Nat → Nat) : Prop := so = so2 ∧ d = d2 ∧ h = h2 ∧ ∀ j, j < Slot d h + 1 → u j = u2 j
theorem sp_isLike {P so d h so2 d2 h2 : Nat} {srt di slots pages srt2 di2 slots2 : Int32} {hi hi2 : Int64} {U U2 : Nat → Int64} {K K2 : Nat → Int32} {u k u2 k2 : Nat → Nat} {Q : Int32 → Prop} (hso : so < 2) (hso2 : so2 < 2) (hd : d < 3) (hd2 : d2 < 3) (hh : h < 2 ^ 62) (hh2 : h2 < 2 ^ 62) (hP : P ≤ 271) (hN : Slot d h + 1 ≤ 16 * P) (e0 : srt = nI so) (e1 : di = nI d) (e2 : hi = lN h) (e3 : srt2 = nI so2) (e4 : di2 = nI d2) (e5 : hi2 = lN h2) (es : slots = nI (Slot d h + 1)) (ep : pages = nI P) (es2 : slots2 = nI (Slot d2 h2 + 1)) (hu : ∀ j, j < 16 * P → U j = lN (u j)) (hk : ∀ p, p < P → K p = nI (k p)) (hk31 : ∀ p, k p < 2 ^ 31) (hz : ∀ p, k p = 0 → ∀ i, i < 16 → u (16 * p + i) = 0) (hu2 : Slot d2 h2 = Slot d h → ∀ j, j < 16 * P → U2 j = lN (u2 j)) (hk2 : Slot d2 h2 = Slot d h → ∀ p, p < P → K2 p = nI (k2 p)) (hk312 : ∀ p, k2 p < 2 ^ 31) (hz2 : ∀ p, k2 p = 0 → ∀ i, i < 16 → u2 (16 * p + i) = 0) (hb : ∀ j, u j ≤ 1000000000000000) (hb2 : ∀ j, u2 j ≤ 1000000000000000) (h1 : Like so d h u so2 d2 h2 u2 → Q 1) (h0 : ¬ Like so d h u so2 d2 h2 u2 → Q 0) : wp_X1_isLike srt di slots pages hi U K srt2 di2 slots2 hi2 U2 K2 Q := by
  unfold wp_X1_isLike
  rw [e0, e1, e2, e3, e4, e5]
  refine q_fi (nI_eq (by omega) (by omega)) (fun c0 => ?_) (fun c => h0 (fun L => c L.1))
  refine q_fi (nI_eq (by omega) (by omega)) (fun c1 => ?_) (fun c => h0 (fun L => c L.2.1))
  refine q_if (pk_lEQ (by omega) (by omega)) (fun c2 => ?_) (fun c => h0 (fun L => c L.2.2.1))
  subst c0 c1 c2
  intro x ex
  rw [ex, es, ep, es2]
  have hu2 := hu2 rfl
  have hk2 := hk2 rfl
  have hL : (∀ j, j < Slot d h + 1 → u j = u2 j) ↔ Like so d h u so d h u2 := ⟨fun q => ⟨rfl, rfl, rfl, q⟩, fun L => L.2.2.2⟩
  generalize Slot d h + 1 = N at hN hL
  generalize nI so = srt
  generalize nI d = di
  generalize lN h = hi
  refine lp1 (fun n a => lp_X1_isLike_38 srt di (nI N) (nI P) hi U K srt di (nI N) hi U2 K2 Q n a) (fun a => ∃ p, p ≤ P ∧ a = nI p ∧ ∀ j, j < min (16 * p) N → u j = u2 j) (fun a => P - a.toInt.toNat) ?_ _ ⟨0, by omega, rfl, fun j hj => absurd hj (by omega)⟩
  intro n a hI ho
  obtain ⟨p, hp, ea, hj⟩ := hI
  subst ea
  show bod_X1_isLike_38 srt di (nI N) (nI P) hi U K srt di (nI N) hi U2 K2 Q (fun v0 => lp_X1_isLike_38 srt di (nI N) (nI P) hi U K srt di (nI N) hi U2 K2 Q n v0) (nI p)
  unfold bod_X1_isLike_38
  refine q_if (nI_leI (by omega) (by omega)) (fun q => h1 (hL.mp (fun j h => hj j (by omega)))) (fun q => ?_)
  have hpP : p < P := by omega
  have hb1 : endP N (k p) p ≤ 16 * p + 16 := by unfold endP; split <;> omega
  have hb3 : endP N (k2 p) p ≤ 16 * p + 16 := by unfold endP; split <;> omega
  refine sp_endOf (by omega) (hk p hpP) (hk31 p) rfl (by omega) ?_
  refine sp_endOf (by omega) (hk2 p hpP) (hk312 p) rfl (by omega) ?_
  intro e1 he1 x6 hx6
  rw [he1, hx6, pg16, nI_max2 (by omega) (by omega)]
  generalize eE : max (endP N (k p) p) (endP N (k2 p) p) = E
  have hE : E ≤ 16 * p + 16 := by omega
  have hEN : k p ≠ 0 ∨ k2 p ≠ 0 → (E = min (16 * p + 16) N ∨ (E = 16 * p ∧ N ≤ 16 * p)) := by
    intro k0
    rw [← eE]
    unfold endP
    by_cases z1 : k p = 0 <;> by_cases z2 : k2 p = 0
    · exact absurd k0 (by omega)
    · rw [if_pos z1, if_neg z2]; omega
    · rw [if_neg z1, if_pos z2]; omega
    · rw [if_neg z1, if_neg z2]; omega
  have hE0 : k p = 0 → k2 p = 0 → E = 16 * p := by
    intro z1 z2
    rw [← eE]
    unfold endP
    rw [if_pos z1, if_pos z2]; omega
  refine lp1 (fun n2 a => lp_X1_isLike_66 srt di (nI N) (nI P) hi U K srt di (nI N) hi U2 K2 (fun v0 => lp_X1_isLike_38 srt di (nI N) (nI P) hi U K srt di (nI N) hi U2 K2 Q n v0) Q (nI p) (nI E) n2 a) (fun a => ∃ z, (16 * p = z ∨ (16 * p ≤ z ∧ z ≤ E)) ∧ a = nI z ∧ ∀ j, j < min z N → u j = u2 j) (fun a => 16 * p + 16 - a.toInt.toNat) ?_ _ ⟨16 * p, Or.inl rfl, rfl, hj⟩
  intro n2 a2 hI2 hs2
  obtain ⟨z, hz1, ea2, hj2⟩ := hI2
  subst ea2
  show bod_X1_isLike_66 srt di (nI N) (nI P) hi U K srt di (nI N) hi U2 K2 (fun v0 => lp_X1_isLike_38 srt di (nI N) (nI P) hi U K srt di (nI N) hi U2 K2 Q n v0) Q (nI p) (nI E) (fun v0 => lp_X1_isLike_66 srt di (nI N) (nI P) hi U K srt di (nI N) hi U2 K2 (fun v0 => lp_X1_isLike_38 srt di (nI N) (nI P) hi U K srt di (nI N) hi U2 K2 Q n v0) Q (nI p) (nI E) n2 v0) (nI z)
  unfold bod_X1_isLike_66
  refine q_if (nI_leI (by omega) (by omega)) (fun q2 => ?_) (fun q2 => ?_)
  · intro x4 hx4
    rw [hx4, nI_1]
    refine ho _ ⟨p + 1, by omega, rfl, fun j hj3 => ?_⟩ ?_
    · rcases Nat.lt_or_ge j (min z N) with q3 | q3
      · exact hj2 j q3
      · by_cases z1 : k p = 0 ∧ k2 p = 0
        · have a1 := hz p z1.1 (j - 16 * p) (by omega)
          have a2 := hz2 p z1.2 (j - 16 * p) (by omega)
          rw [show 16 * p + (j - 16 * p) = j by omega] at a1 a2
          rw [a1, a2]
        · have := hEN (by omega)
          exfalso
          omega
    · rw [nI_toInt (by omega), nI_toInt (by omega)]
      omega
  · have hzN : z < N := by
      by_cases z1 : k p = 0 ∧ k2 p = 0
      · have := hE0 z1.1 z1.2; omega
      · have := hEN (by omega); omega
    refine sp_unitsOf (by omega) ?_
    refine sp_unitsOf (by omega) ?_
    have c1 := hb z
    have c2 := hb2 z
    rw [hu z (by omega), hu2 z (by omega)]
    refine q_if (pk_lEQ (by omega) (by omega)) (fun q3 => ?_) (fun q3 => h0 (fun L => q3 (hL.mpr L z hzN)))
    intro x7 hx7
    rw [hx7, nI_1]
    refine hs2 _ ⟨z + 1, by omega, rfl, fun j hj3 => ?_⟩ ?_
    · rcases Nat.lt_or_ge j z with q4 | q4
      · exact hj2 j (by omega)
      · rw [show j = z by omega]; exact q3
    · rw [nI_toInt (by omega), nI_toInt (by omega)]
      omega
theorem sp_same8 {r1 r2 so d h so2 d2 h2 : Nat} {t_set : Nat → Int32} {t_highest t_units : Nat → Int64} {u u2 : Nat → Nat} {Q : Int32 → Prop} (hr1 : r1 < 4) (hr2 : r2 < 4) (hso : so < 2) (hso2 : so2 < 2) (hd : d < 3) (hd2 : d2 < 3) (hh : h < 2 ^ 62) (hh2 : h2 < 2 ^ 62) (hN : Slot d h + 1 ≤ 4336) (e0 : t_set (4 * r1 + 0) = nI so) (e1 : t_set (4 * r1 + 1) = nI d) (e2 : t_set (4 * r1 + 2) = nI (Slot d h + 1)) (e3 : t_set (4 * r1 + 3) = 1) (f0 : t_set (4 * r2 + 0) = nI so2) (f1 : t_set (4 * r2 + 1) = nI d2) (f3 : t_set (4 * r2 + 3) = 1) (eh : t_highest r1 = lN h) (fh : t_highest r2 = lN h2) (hu : ∀ j, j < Slot d h + 1 → t_units (4352 * r1 + j) = lN (u j)) (hu2 : Slot d2 h2 = Slot d h → ∀ j, j < Slot d h + 1 → t_units (4352 * r2 + j) = lN (u2 j)) (hb : ∀ j, u j ≤ 1000000000000000) (hb2 : ∀ j, u2 j ≤ 1000000000000000) (h1 : Like so d h u so2 d2 h2 u2 → Q 1) (h0 : ¬ Like so d h u so2 d2 h2 u2 → Q 0) : wp_X8_same (nI r1) (nI r2) t_set t_highest t_units Q := by
  unfold wp_X8_same
  refine sp_isMade_in hr1 e3 (q1b ?_)
  refine sp_isMade_in hr2 f3 (q1a ?_)
  refine sp_of (c := 0) hr1 (by decide) ?_
  refine sp_of (c := 0) hr2 (by decide) ?_
  rw [e0, f0]
  refine q_fi (nI_eq (by omega) (by omega)) (fun c0 => ?_) (fun c => h0 (fun L => c L.1))
  refine sp_of (c := 1) hr1 (by decide) ?_
  refine sp_of (c := 1) hr2 (by decide) ?_
  rw [e1, f1]
  refine q_fi (nI_eq (by omega) (by omega)) (fun c1 => ?_) (fun c => h0 (fun L => c L.2.1))
  refine q_in hr1 (by decide) ?_
  refine q_in hr2 (by decide) ?_
  rw [nI_clamp (by omega), nI_clamp (by omega), eh, fh]
  refine q_if (pk_lEQ (by omega) (by omega)) (fun c2 => ?_) (fun c => h0 (fun L => c L.2.2.1))
  subst c0 c1 c2
  have hu2 := hu2 rfl
  have hL : (∀ j, j < Slot d h + 1 → u j = u2 j) ↔ Like so d h u so d h u2 := ⟨fun q => ⟨rfl, rfl, rfl, q⟩, fun L => L.2.2.2⟩
  generalize Slot d h + 1 = N at *
  intro x ex
  rw [ex]
  refine lp1 (fun n a => lp_X8_same_68 t_set t_highest t_units Q (nI r1) (nI r2) n a) (fun a => ∃ z, z ≤ N ∧ a = nI z ∧ ∀ j, j < z → u j = u2 j) (fun a => N - a.toInt.toNat) ?_ _ ⟨0, by omega, rfl, fun j hj => absurd hj (by omega)⟩
  intro n a hI hs2
  obtain ⟨z, hz, ea, hj⟩ := hI
  subst ea
  show bod_X8_same_68 t_set t_highest t_units Q (nI r1) (nI r2) (fun v0 => lp_X8_same_68 t_set t_highest t_units Q (nI r1) (nI r2) n v0) (nI z)
  unfold bod_X8_same_68
  refine sp_of (c := 2) hr1 (by decide) ?_
  rw [e2]
  refine q_if (nI_leI (by omega) (by omega)) (fun q => h1 (hL.mp (fun j h => hj j (by omega)))) (fun q => ?_)
  rw [show (4352 : Int32) * nI r1 + nI z = nI (4352 * r1 + z) from ix_at 4352 r1 z, show (4352 : Int32) * nI r2 + nI z = nI (4352 * r2 + z) from ix_at 4352 r2 z]
  refine q_in (by omega) (by decide) ?_
  refine q_in (by omega) (by decide) ?_
  have c1 := hb z
  have c2 := hb2 z
  rw [nI_clamp (by omega), nI_clamp (by omega), hu z (by omega), hu2 z (by omega)]
  refine q_if (pk_lEQ (by omega) (by omega)) (fun q3 => ?_) (fun q3 => h0 (fun L => q3 (hL.mpr L z (by omega))))
  intro x7 hx7
  rw [hx7, nI_1]
  refine hs2 _ ⟨z + 1, by omega, rfl, fun j hj3 => ?_⟩ ?_
  · rcases Nat.lt_or_ge j z with q4 | q4
    · exact hj j (by omega)
    · rw [show j = z by omega]; exact q3
  · rw [nI_toInt (by omega), nI_toInt (by omega)]
    omega
theorem opt_x {a : Option Nat} {Q : Prop} (h : Q) : (a = none → Q) ∧ (∀ j : Nat, a = some j → Q) := ⟨fun _ => h, fun _ _ => h⟩
theorem sp_madeAt_any {p : Int32} {l_made : Nat → Int32} {Q : Option Nat → Prop} (hm : ∀ r, r < 4 → l_made r = 0 ∨ l_made r = 1) (h : ∀ x, Q x) : wp_X7_madeAt p l_made Q := by
  by_cases hp : ∃ r, r < 4 ∧ p = nI r ∧ l_made r = 1
  · obtain ⟨r, hr, e, e1⟩ := hp
    subst e
    exact sp_madeAt_in hr e1 (h _)
  · refine sp_madeAt_out (fun r hr e => ?_) (h _)
    rcases hm r hr with q | q
    · exact q
    · exact absurd ⟨r, hr, e, q⟩ hp
theorem stp_same : Stp_same Inv := by
  unfold Stp_same
  intro p0 p1 active rests writers tbytes tlen dbytes dlen next known rec m_made m_sort m_digits m_slots m_pages m_highest m_units m_kinds m_rows m_marks q_active q_rests q_writers l_made l_sort l_digits l_slots l_pages l_highest l_units l_kinds l_rows l_marks t_tape t_taped t_set t_highest t_units t_kinds t_sideKind t_side t_active t_rests t_writes t_more t_packed t_packedMany t_at t_wrong t_number t_readSort t_readDigits t_readHighest t_wasSet t_wasHighest t_wasUnits t_wasKinds t_wasSideKind t_wasSide t_undone hI
  obtain ⟨hT, hP, hO, hL, hH⟩ := id hI
  have hmd : ∀ r, r < 4 → l_made r = 0 ∨ l_made r = 1 := fun r hr => LRs_made (hL r hr)
  unfold wp_X7_same
  rcases made_cases l_made l_sort l_digits l_slots l_pages l_highest l_units l_kinds l_rows l_marks t_set t_highest t_units t_kinds t_sideKind t_side hL p0 with ⟨r, hr, e, so, d, h, u, k, rr, m, hA, hC, hM⟩ | ho
  · subst e
    obtain ⟨hso, hd, hh1, hh2, hu, hk, hrr, hm, hm0⟩ := id hA
    obtain ⟨c_made, c_sort, c_dig, c_slots, c_pages, c_high, c_u, c_k, c_r, c_m⟩ := id hC
    obtain ⟨v_sort, v_dig, v_slots, v_made, v_high, v_u, v_k, v_r, v_m⟩ := id hM
    have ⟨b1, b2, b3, b4⟩ := PG_b hd hh2
    have v_sort : t_set (4 * r + 0) = nI so := v_sort
    have v_dig : t_set (4 * r + 1) = nI d := v_dig
    have v_slots : t_set (4 * r + 2) = nI (Slot d h + 1) := v_slots
    have v_made : t_set (4 * r + 3) = 1 := v_made
    have v_u : ∀ j, j < 16 * PG d h → t_units (4352 * r + j) = lN (u j) := v_u
    have v_k : ∀ p, p < PG d h → t_kinds (272 * r + p) = nI (k p) := v_k
    have v_r : ∀ p, p < PG d h → t_sideKind (272 * r + p) = nI (rr p) := v_r
    have v_m : ∀ j, j < 4352 → t_side (4352 * r + j) = nI (m j) := v_m
    have hk10 : ∀ p, k p ≤ 10 := fun p => KOK_le hso (hk p)
    refine sp_madeAt_in hr c_made (opt_s ?_)
    rcases made_cases l_made l_sort l_digits l_slots l_pages l_highest l_units l_kinds l_rows l_marks t_set t_highest t_units t_kinds t_sideKind t_side hL p1 with ⟨r2, hr2, e, so2, d2, h2, u2, k2, rr2, m2, hA2, hC2, hM2⟩ | ho
    · subst e
      obtain ⟨hso2, hd2, hh12, hh22, hu2, hkk2, hrr2, hm2, hm02⟩ := id hA2
      obtain ⟨e_made, e_sort, e_dig, e_slots, e_pages, e_high, e_u, e_k, e_r, e_m⟩ := id hC2
      obtain ⟨w_sort, w_dig, w_slots, w_made, w_high, w_u, w_k, w_r, w_m⟩ := id hM2
      have ⟨b12, b22, b32, b42⟩ := PG_b hd2 hh22
      have w_sort : t_set (4 * r2 + 0) = nI so2 := w_sort
      have w_dig : t_set (4 * r2 + 1) = nI d2 := w_dig
      have w_slots : t_set (4 * r2 + 2) = nI (Slot d2 h2 + 1) := w_slots
      have w_made : t_set (4 * r2 + 3) = 1 := w_made
      have w_u : ∀ j, j < 16 * PG d2 h2 → t_units (4352 * r2 + j) = lN (u2 j) := w_u
      have w_k : ∀ p, p < PG d2 h2 → t_kinds (272 * r2 + p) = nI (k2 p) := w_k
      have w_r : ∀ p, p < PG d2 h2 → t_sideKind (272 * r2 + p) = nI (rr2 p) := w_r
      have w_m : ∀ j, j < 4352 → t_side (4352 * r2 + j) = nI (m2 j) := w_m
      have hk102 : ∀ p, k2 p ≤ 10 := fun p => KOK_le hso2 (hkk2 p)
      refine sp_madeAt_in hr2 e_made (opt_s ?_)
      have fin : ∀ Q : Int32 → Prop, (Like so d h u so2 d2 h2 u2 → Q 1) → (¬ Like so d h u so2 d2 h2 u2 → Q 0) → wp_X8_same (nI r) (nI r2) t_set t_highest t_units Q := fun Q q1 q0 => sp_same8 hr hr2 (by omega) (by omega) (by omega) (by omega) (by omega) (by omega) (by omega) v_sort v_dig v_slots v_made w_sort w_dig w_made v_high w_high (fun j hj => v_u j (by omega)) (fun e j hj => w_u j (by omega)) hu hu2 q1 q0
      by_cases e : r = r2
      · refine ⟨fun _ => ?_, fun n => absurd e n⟩
        subst e
        refine sp_isLike_s (P := PG d h) b1 (by omega) c_slots c_pages c_k (fun p => by have := hk10 p; omega) (q1b ?_)
        refine fin _ (fun _ => ⟨rfl, hI⟩) (fun n => absurd ?_ n)
        have e1 : so = so2 := (nI_eq (by omega) (by omega)).mp (v_sort.symm.trans w_sort)
        have e2 : d = d2 := (nI_eq (by omega) (by omega)).mp (v_dig.symm.trans w_dig)
        have e3 : h = h2 := (pk_lEQ (by omega) (by omega)).mp (v_high.symm.trans w_high)
        subst e1 e2 e3
        refine ⟨rfl, rfl, rfl, fun j hj => ?_⟩
        have c1 := hu j
        have c2 := hu2 j
        exact (pk_lEQ (by omega) (by omega)).mp ((v_u j (by omega)).symm.trans (w_u j (by omega)))
      · refine ⟨fun n => absurd n e, fun _ => ?_⟩
        refine sp_isLike (P := PG d h) (by omega) (by omega) (by omega) (by omega) (by omega) (by omega) b1 (by omega) c_sort c_dig c_high e_sort e_dig e_high c_slots c_pages e_slots c_u c_k (fun p => by have := hk10 p; omega) (fun p => (hk p).1) (fun e => ?_) (fun e => ?_) (fun p => by have := hk102 p; omega) (fun p => (hkk2 p).1) hu hu2 (fun L => q1b ?_) (fun L => q0b ?_)
        · have : PG d2 h2 = PG d h := by unfold PG; rw [e]
          rw [← this]; exact e_u
        · have : PG d2 h2 = PG d h := by unfold PG; rw [e]
          rw [← this]; exact e_k
        · exact fin _ (fun _ => ⟨rfl, hI⟩) (fun n => absurd L n)
        · exact fin _ (fun n => absurd n L) (fun _ => ⟨rfl, hI⟩)
    · refine sp_madeAt_out (fun r hr e => (ho r hr e).1) (opt_n ?_)
      unfold wp_X8_same
      refine sp_isMade_in hr v_made (q1b ?_)
      exact sp_isMade_out (fun r hr e => (ho r hr e).2) (q0a ⟨rfl, hI⟩)
  · refine sp_madeAt_out (fun r hr e => (ho r hr e).1) (opt_n ?_)
    refine sp_madeAt_any hmd (fun x => ?_)
    refine opt_x ?_
    unfold wp_X8_same
    exact sp_isMade_out (fun r hr e => (ho r hr e).2) (q0b ⟨rfl, hI⟩)
