/-! ===== halve ===== -/
theorem Only_tr {α : Type} {w r : Nat} {a b c : Nat → α} (h1 : Only w r a b) (h2 : Only w r b c) : Only w r a c := fun i hi => (h1 i hi).trans (h2 i hi)
def hv (u : Nat → Nat) (i : Nat) : Nat → Nat := fun j => if j < i then u j / 2 else u j
theorem hv_0 (u : Nat → Nat) : hv u 0 = u := funext fun j => if_neg (by omega)
theorem hv_s (u : Nat → Nat) (i : Nat) : upn (hv u i) i (u i / 2) = hv u (i + 1) := funext fun j => by
  by_cases e : j = i
  · rw [e, upn_s]; exact (if_pos (by omega)).symm
  · rw [upn_n e]
    unfold hv
    by_cases q : j < i
    · rw [if_pos q, if_pos (by omega)]
    · rw [if_neg q, if_neg (by omega)]
theorem hv_at (u : Nat → Nat) (i : Nat) : hv u i i = u i := if_neg (by omega)
theorem hv_le (u : Nat → Nat) (i : Nat) : ∀ j, hv u i j ≤ u j := by
  intro j
  unfold hv
  split <;> omega
theorem hv_ext {u : Nat → Nat} {a b : Nat} (h : a ≤ b) (hz : ∀ i, a ≤ i → i < b → u i = 0) : hv u a = hv u b := funext fun j => by
  unfold hv
  by_cases q : j < a
  · rw [if_pos q, if_pos (by omega)]
  · rw [if_neg q]
    by_cases q2 : j < b
    · rw [if_pos q2, hz j (by omega) q2]
    · rw [if_neg q2]
theorem lN_half {n : Nat} (h : n < 2 ^ 63) : lN n / (2 : Int64) = lN (n / 2) := pk_lDiv (b := 2) h (by decide) (by decide)
theorem sp_halveAll {so N P : Nat} {srt slots pages : Int32} {U : Nat → Int64} {K : Nat → Int32} {u k : Nat → Nat} {Q : (Nat → Int64) → (Nat → Int32) → Prop} (hso : so = 0 ∨ so = 1) (es0 : srt = nI so) (hP : P ≤ 271) (hN : N ≤ 16 * P) (es : slots = nI N) (ep : pages = nI P) (hk0 : ∀ p, KOK so (k p) (fun i => u (16 * p + i))) (hb0 : ∀ j, u j ≤ 1000000000000000) (hR : UK P U K u k) (h : ∀ U' K', UK P U' K' (hv u N) (fk so u k (hv u N)) → Q U' K') : wp_X1_halveAll srt slots pages U K Q := by
  subst es0
  unfold wp_X1_halveAll
  intro x ex
  rw [ex, ep]
  have hk10 : ∀ p, k p ≤ 10 := fun p => KOK_le hso (hk0 p)
  refine lp3 (fun n a b c => lp_X1_halveAll_2 (nI so) slots (nI P) Q n a b c) (fun a b c => ∃ p, p ≤ P ∧ a = nI p ∧ UK P b c (hv u (min (16 * p) N)) (fk so u k (hv u (min (16 * p) N)))) (fun a _ _ => P - a.toInt.toNat) ?_ _ _ _ ⟨0, by omega, rfl, by rw [show min (16 * 0) N = 0 by omega, hv_0, fk_0]; exact hR⟩
  intro n a b c hI ho
  obtain ⟨p, hp, ea, hB⟩ := hI
  subst ea
  show bod_X1_halveAll_2 (nI so) slots (nI P) Q (fun v0 v1 v2 => lp_X1_halveAll_2 (nI so) slots (nI P) Q n v0 v1 v2) (nI p) b c
  unfold bod_X1_halveAll_2
  refine q_if (nI_leI (by omega) (by omega)) (fun q => ?_) (fun q => ?_)
  · rw [show min (16 * p) N = N by omega] at hB
    exact h b c hB
  have hpP : p < P := by omega
  have hkp : c p = nI (k p) := by
    have := hB.2 p hpP
    rw [fk_un (fun i hi => if_neg (by omega))] at this
    exact this
  have hkpb := hk10 p
  refine sp_endOf (by omega) hkp (by omega) es (by omega) ?_
  intro e1 he1 x6 hx6
  have hb : endP N (k p) p ≤ 16 * p + 16 := by unfold endP; split <;> omega
  have hbN : k p ≠ 0 → endP N (k p) p ≤ N := by intro k0; unfold endP; rw [if_neg k0]; omega
  rw [he1, hx6, pg16]
  refine lp3 (fun n2 a b c => lp_X1_halveAll_21 (nI so) slots (nI P) (fun v0 v1 v2 => lp_X1_halveAll_2 (nI so) slots (nI P) Q n v0 v1 v2) Q (nI p) (nI (endP N (k p) p)) n2 a b c) (fun a b c => ∃ z, (16 * p = z ∨ (16 * p ≤ z ∧ z ≤ endP N (k p) p)) ∧ a = nI z ∧ UK P b c (hv u (min z N)) (fk so u k (hv u (min z N)))) (fun a _ _ => 16 * p + 16 - a.toInt.toNat) ?_ _ _ _ ⟨16 * p, Or.inl rfl, rfl, hB⟩
  intro n2 a2 b2 c2 hI2 hs2
  obtain ⟨z, hz1, ea2, hB2⟩ := hI2
  subst ea2
  show bod_X1_halveAll_21 (nI so) slots (nI P) (fun v0 v1 v2 => lp_X1_halveAll_2 (nI so) slots (nI P) Q n v0 v1 v2) Q (nI p) (nI (endP N (k p) p)) (fun v0 v1 v2 => lp_X1_halveAll_21 (nI so) slots (nI P) (fun v0 v1 v2 => lp_X1_halveAll_2 (nI so) slots (nI P) Q n v0 v1 v2) Q (nI p) (nI (endP N (k p) p)) n2 v0 v1 v2) (nI z) b2 c2
  unfold bod_X1_halveAll_21
  refine q_if (nI_leI (by omega) (by omega)) (fun q2 => ?_) (fun q2 => ?_)
  · intro x4 hx4
    rw [hx4, nI_1]
    refine ho _ _ _ ⟨p + 1, by omega, rfl, ?_⟩ ?_
    · have : hv u (min z N) = hv u (min (16 * (p + 1)) N) := by
        by_cases k0 : k p = 0
        · have e0 : endP N (k p) p = 16 * p := by unfold endP; rw [if_pos k0]
          refine hv_ext (by omega) ?_
          intro i a1 b1
          have : u (16 * p + (i - 16 * p)) = 0 := (hk0 p).1 k0 (i - 16 * p) (by omega)
          rw [show 16 * p + (i - 16 * p) = i by omega] at this
          exact this
        · have e0 : endP N (k p) p = min (16 * p + 16) N := by unfold endP; rw [if_neg k0]
          rw [show min z N = min (16 * (p + 1)) N by omega]
      rw [← this]
      exact hB2
    · rw [nI_toInt (by omega), nI_toInt (by omega)]
      omega
  · have hzN : z < N := by
      by_cases k0 : k p = 0
      · have e0 : endP N (k p) p = 16 * p := by unfold endP; rw [if_pos k0]
        omega
      · have := hbN k0; omega
    have e3 : min z N = z := by omega
    rw [e3] at hB2
    have hbz := hb0 z
    refine sp_unitsOf (by omega) ?_
    rw [hB2.1 z (by omega), hv_at, lN_half (by omega)]
    refine sp_rewrite hso hP (by omega) hk0 hb0 (fun j => Nat.le_trans (hv_le u z j) (hb0 j)) (by omega) (Or.inr ⟨hv_le u z, by rw [hv_at]; omega⟩) hB2 (fun U2 K2 h2 => ?_)
    rw [hv_s] at h2
    intro x7 hx7
    rw [hx7, nI_1]
    refine hs2 _ _ _ ⟨z + 1, by omega, rfl, by rw [show min (z + 1) N = z + 1 by omega]; exact h2⟩ ?_
    rw [nI_toInt (by omega), nI_toInt (by omega)]
    omega
theorem sp_allU {N P : Nat} {slots pages : Int32} {U : Nat → Int64} {K : Nat → Int32} {u k : Nat → Nat} {Q : Int64 → Prop} (hP : P ≤ 271) (hN : N ≤ 16 * P) (es : slots = nI N) (ep : pages = nI P) (hu : ∀ j, j < 16 * P → U j = lN (u j)) (hk : ∀ p, p < P → K p = nI (k p)) (hk31 : ∀ p, k p < 2 ^ 31) (hz : ∀ p, k p = 0 → ∀ i, i < 16 → u (16 * p + i) = 0) (h : Q (lN (fb_sm u N))) : wp_X1_allUnits slots pages U K Q := by
  subst es
  unfold wp_X1_allUnits
  exact sp_unitsAhead (Nat.le_refl _) hP hN rfl ep hu hk hk31 hz h
theorem sp_totalOf {r N P : Nat} {t_set : Nat → Int32} {tu : Nat → Int64} {u : Nat → Nat} {Q : Int64 → Prop} (hr : r < 4) (hN : N ≤ 16 * P) (hP : P ≤ 271) (hs : t_set (4 * r + 2) = nI N) (hu : ∀ j, j < 16 * P → tu (4352 * r + j) = lN (u j)) (h : Q (lN (fb_sm u N))) : wp_X8_totalOf (nI r) t_set tu Q := by
  unfold wp_X8_totalOf
  refine sp_of (c := 2) hr (by decide) ?_
  rw [hs]
  exact sp_sumOf hr (by omega) (fun j hj => hu j (by omega)) h
theorem stp_halve : Stp_halve Inv := by
  unfold Stp_halve
  intro p0 active rests writers tbytes tlen dbytes dlen next known rec m_made m_sort m_digits m_slots m_pages m_highest m_units m_kinds m_rows m_marks q_active q_rests q_writers l_made l_sort l_digits l_slots l_pages l_highest l_units l_kinds l_rows l_marks t_tape t_taped t_set t_highest t_units t_kinds t_sideKind t_side t_active t_rests t_writes t_more t_packed t_packedMany t_at t_wrong t_number t_readSort t_readDigits t_readHighest t_wasSet t_wasHighest t_wasUnits t_wasKinds t_wasSideKind t_wasSide t_undone hI
  obtain ⟨hT, ⟨ea, er, ew⟩, hO, hL, ⟨⟨n, x, hn, hx, ek, ex, eu, hl⟩, hb1, hb2, hb3, hb4, hb5, hb6⟩⟩ := id hI
  subst ea er ek ex eu
  rcases made_cases l_made l_sort l_digits l_slots l_pages l_highest l_units l_kinds l_rows l_marks t_set t_highest t_units t_kinds t_sideKind t_side hL p0 with ⟨r, hr, e, so, d, h, u, k, rr, m, hA, hC, hM⟩ | ho
  · subst e
    obtain ⟨hso, hd, hh1, hh2, hu, hk, hrr, hm, hm0⟩ := id hA
    obtain ⟨c_made, c_sort, c_dig, c_slots, c_pages, c_high, c_u, c_k, c_r, c_m⟩ := id hC
    obtain ⟨v_sort, v_dig, v_slots, v_made, v_high, v_u, v_k, v_r, v_m⟩ := id hM
    have ⟨b1, b2, b3, b4⟩ := PG_b hd hh2
    have v_sort : t_set (4 * r + 0) = nI so := v_sort
    have v_dig : t_set (4 * r + 1) = nI d := v_dig
    have v_slots : t_set (4 * r + 2) = nI (Slot d h + 1) := v_slots
    have v_made : t_set (4 * r + 3) = 1 := v_made
    have v_u : ∀ j, j < 16 * PG d h → t_units (4352 * r + j) = lN (u j) := v_u
    have v_k : ∀ p, p < PG d h → t_kinds (272 * r + p) = nI (k p) := v_k
    have v_r : ∀ p, p < PG d h → t_sideKind (272 * r + p) = nI (rr p) := v_r
    have v_m : ∀ j, j < 4352 → t_side (4352 * r + j) = nI (m j) := v_m
    have hk10 : ∀ p, k p ≤ 10 := fun p => KOK_le hso (hk p)
    have hkok := hk
    have hN : Slot d h + 1 ≤ 16 * PG d h := by omega
    have hfb : ∀ j, hv u (Slot d h + 1) j ≤ 1000000000000000 := fun j => Nat.le_trans (hv_le u _ j) (hu j)
    have hfk := KOK_fk hso hk hu hfb
    unfold wp_X7_halve
    refine sp_madeAt_in hr c_made (opt_s ?_)
    refine sp_remember_in hr hx hn (Or.inr c_made) (fun W U K R M hW hc => ?_)
    refine sp_halveAll hso c_sort b1 hN c_slots c_pages hk hu ⟨c_u, c_k⟩ (fun U2 K2 hUK => ?_)
    rw [va_up_self, va_up_self]
    refine sp_allU b1 hN c_slots c_pages hUK.1 hUK.2 (fun p => by have := KOK_le hso (hfk p); omega) (fun p => (hfk p).1) ?_
    unfold wp_X8_halve
    refine sp_isMade_in hr v_made (q1a ?_)
    refine sp_keepsAct hn hb1 hb2 hb3 hb4 hb5 hb6 (fun wS wH wU wK wX wD k1 k2 k3 k4 k5 k6 hb7 hb8 hb9 => ?_)
    intro x2 hx2
    rw [hx2]
    refine lp3 (fun n a b c => lp_X8_halve_18 t_set t_highest t_sideKind t_side active rests t_writes _ (nI r) wS wH wU wK wX wD _ n a b c) (fun a b c => ∃ z, z ≤ Slot d h + 1 ∧ a = nI z ∧ VK r (PG d h) b c (hv u z) (fk so u k (hv u z)) ∧ Only 4352 r b t_units ∧ Only 272 r c t_kinds ∧ BY c) (fun a _ _ => Slot d h + 1 - a.toInt.toNat) ?_ _ _ _ ⟨0, by omega, rfl, by rw [hv_0, fk_0]; exact ⟨v_u, v_k⟩, Only_rfl, Only_rfl, hb1⟩
    intro n2 a b c hI2 hs2
    obtain ⟨z, hz, ea, hB, ho1, ho2, hb10⟩ := hI2
    subst ea
    show bod_X8_halve_18 t_set t_highest t_sideKind t_side active rests t_writes _ (nI r) wS wH wU wK wX wD _ (fun v0 v1 v2 => lp_X8_halve_18 t_set t_highest t_sideKind t_side active rests t_writes _ (nI r) wS wH wU wK wX wD _ n2 v0 v1 v2) (nI z) b c
    unfold bod_X8_halve_18
    refine sp_of (c := 2) hr (by decide) ?_
    rw [v_slots]
    refine q_if (nI_leI (by omega) (by omega)) (fun q => ?_) (fun q => ?_)
    · have ez : z = Slot d h + 1 := by omega
      subst ez
      refine sp_totalOf hr hN b1 v_slots hB.1 ?_
      have ho : Oth r t_set t_set t_highest t_highest b t_units c t_kinds t_sideKind t_sideKind t_side t_side := ⟨Only_rfl, fun _ _ => rfl, ho1, ho2, Only_rfl, Only_rfl⟩
      refine ⟨rfl, hT, ⟨rfl, rfl, ew⟩, hO, LRs_act hr hL (fun i hi => ⟨rfl, rfl, rfl, rfl, rfl, rfl, va_up_ne _ _ hi, va_up_ne _ _ hi, rfl, rfl⟩) ho ?_, ?_, hb10, hb2, hb3, hb7, hb8, hb9⟩
      · unfold LRs
        rw [va_up_self, va_up_self]
        exact Or.inr ⟨so, d, h, hv u (Slot d h + 1), fk so u k (hv u (Slot d h + 1)), rr, m, ⟨hso, hd, hh1, hh2, hfb, hfk, hrr, hm, hm0⟩, ⟨c_made, c_sort, c_dig, c_slots, c_pages, c_high, hUK.1, hUK.2, c_r, c_m⟩, ⟨v_sort, v_dig, v_slots, v_made, v_high, hB.1, hB.2, v_r, v_m⟩⟩
      · exact Hist_act hn hx hl k1 k2 k3 k4 k5 k6 hO rfl rfl (fun k hk => (hW k hk).trans (ew k hk)) (fun i hi => ⟨va_up_ne _ _ hi, va_up_ne _ _ hi, va_up_ne _ _ hi, va_up_ne _ _ hi, va_up_ne _ _ hi, va_up_ne _ _ hi, va_up_ne _ _ hi, va_up_ne _ _ hi, va_up_ne _ _ hi, va_up_ne _ _ hi⟩) (Or.inr ⟨r, hr, rfl, by
          rw [va_up_self, va_up_self, va_up_self, va_up_self, va_up_self, va_up_self, va_up_self, va_up_self, va_up_self, va_up_self]
          exact LR_eq (hL r hr) hc (fun _ _ => rfl) rfl (fun _ _ => rfl) (fun _ _ => rfl) (fun _ _ => rfl) (fun _ _ => rfl)⟩) (Oth_same ho)
    · rw [show (4352 : Int32) * nI r + nI z = nI (4352 * r + z) from ix_at 4352 r z]
      refine q_in (by omega) (by decide) ?_
      have hbz := hu z
      rw [nI_clamp (by omega), hB.1 z (by omega), hv_at, lN_half (by omega)]
      refine sp_writesPlace hr hso v_sort b1 (by omega) hk hu (fun j => Nat.le_trans (hv_le u z j) (hu j)) (by omega) (Or.inr ⟨hv_le u z, by rw [hv_at]; omega⟩) hB hb10 (fun U3 K3 h3 o3 o4 hb11 => ?_)
      rw [hv_s] at h3
      intro x7 hx7
      rw [hx7, nI_1]
      refine hs2 _ _ _ ⟨z + 1, by omega, rfl, h3, Only_tr o3 ho1, Only_tr o4 ho2, hb11⟩ ?_
      rw [nI_toInt (by omega), nI_toInt (by omega)]
      omega
  · unfold wp_X7_halve
    refine sp_madeAt_out (fun r hr e => (ho r hr e).1) (opt_n ?_)
    unfold wp_X8_halve
    exact sp_isMade_out (fun r hr e => (ho r hr e).2) (q0a ⟨rfl, hI⟩)
