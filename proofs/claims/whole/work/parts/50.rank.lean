/-! ===== the first slot with which there are so many ===== -/
theorem sm_le {u : Nat → Nat} {a b : Nat} (h : a ≤ b) : fb_sm u a ≤ fb_sm u b := by
  have := fb_sm_mono u a (b - a)
  rw [show a + (b - a) = b by omega] at this
  exact this
theorem sm_uniq {u : Nat → Nat} {w a b : Nat} (a1 : fb_sm u a < w) (a2 : w ≤ fb_sm u (a + 1)) (b1 : fb_sm u b < w) (b2 : w ≤ fb_sm u (b + 1)) : a = b := by
  rcases Nat.lt_trichotomy a b with q | q | q
  · have := sm_le (u := u) (show a + 1 ≤ b by omega); omega
  · exact q
  · have := sm_le (u := u) (show b + 1 ≤ a by omega); omega
theorem sm_63 {u : Nat → Nat} {n : Nat} (hb : ∀ j, u j ≤ 1000000000000000) (hn : n ≤ 4352) : fb_sm u n < 4400000000000000000 := by
  have h1 := fb_sm_bound (f := u) (c := 1000000000000000) (n := n) (fun k _ => hb k)
  have h2 : n * 1000000000000000 ≤ 4352 * 1000000000000000 := Nat.mul_le_mul_right _ hn
  omega
theorem lN_min {a b : Nat} (ha : a < 2 ^ 63) (hb : b < 2 ^ 63) : (if lN a < lN b then lN a else lN b) = lN (min a b) := by
  by_cases q : a < b
  · rw [if_pos ((pk_lLT ha hb).mpr q), Nat.min_eq_left (by omega)]
  · rw [if_neg (fun h => q ((pk_lLT ha hb).mp h)), Nat.min_eq_right (by omega)]
theorem ShS_s {d h s : Nat} (hd : d = 1 ∨ d = 2) (hh : h ≤ 1000000000000) (hs : s ≤ Slot d h) : ShS d s ≤ 36 ∧ s < 2 ^ 20 := by
  have ⟨a, b⟩ := Slot_le hd hh
  have c : ShS d s ≤ ShS d (Slot d h) := by
    unfold ShS
    have := Nat.div_le_div_right (c := 2 ^ (bb d - 1)) hs
    omega
  rw [ShS_Slot hd (by omega)] at c
  omega
theorem Hi_lt {d h s : Nat} (hd : d = 1 ∨ d = 2) (hh : h ≤ 1000000000000) (hs : s ≤ Slot d h) : Low d s + Reach d s < 2 ^ 63 := by
  have ⟨a, b⟩ := ShS_s hd hh hs
  have ⟨a1, b1⟩ := Slot_le hd hh
  have p := Nat.pow_le_pow_right (n := 2) (by decide) a
  have e : (2 : Nat) ^ 36 = 68719476736 := by decide
  rw [e] at p
  have q : Low d s ≤ 4335 * 68719476736 := by
    unfold Low
    exact Nat.mul_le_mul (by omega) p
  have q2 : Reach d s ≤ 68719476736 := by unfold Reach; omega
  omega
theorem sp_cappedHigh {d h s : Nat} {dig : Int32} {hi : Int64} {Q : Int64 → Prop} (hd : d = 1 ∨ d = 2) (hh : h ≤ 1000000000000) (ed : dig = nI d) (eh : hi = lN h) (hs : s ≤ Slot d h) (k : Q (lN (min (Low d s + Reach d s) h))) : wp_X1_cappedHigh (nI s) dig hi Q := by
  subst ed eh
  have ⟨a, b⟩ := ShS_s hd hh hs
  have c := Hi_lt hd hh hs
  unfold wp_X1_cappedHigh
  refine sp_X7_highOf hd b (by omega) ?_
  rw [lN_min c (by omega)]
  exact k
theorem sp_highAt {r d h s : Nat} {t_set : Nat → Int32} {t_highest : Nat → Int64} {Q : Int64 → Prop} (hr : r < 4) (hd : d = 1 ∨ d = 2) (hh : h ≤ 1000000000000) (ed : t_set (4 * r + 1) = nI d) (eh : t_highest r = lN h) (hs : s ≤ Slot d h) (k : Q (lN (min (Low d s + Reach d s) h))) : wp_X8_highAt (nI r) (nI s) t_set t_highest Q := by
  have ⟨a, b⟩ := ShS_s hd hh hs
  have c := Hi_lt hd hh hs
  unfold wp_X8_highAt
  refine sp_of (c := 1) hr (by decide) ?_
  rw [ed]
  refine sp_X8_highOf hd b (by omega) ?_
  intro x hx
  rw [hx]
  refine q_in hr (by decide) ?_
  rw [nI_clamp (by omega), eh]
  refine q_if (pk_lLE (by omega) c) (fun q => ?_) (fun q => ?_)
  · refine q_in hr (by decide) ?_
    rw [Nat.min_eq_right q] at k; exact k
  · rw [Nat.min_eq_left (by omega)] at k; exact k
theorem sp_valueWith {d h w P : Nat} {dig slots pages : Int32} {hi : Int64} {U : Nat → Int64} {K : Nat → Int32} {u k : Nat → Nat} {Q : Int64 → Prop} (hd : d = 1 ∨ d = 2) (hh : h ≤ 1000000000000) (ed : dig = nI d) (eh : hi = lN h) (hP : P ≤ 271) (hN : Slot d h + 1 ≤ 16 * P) (es : slots = nI (Slot d h + 1)) (ep : pages = nI P) (hu : ∀ j, j < 16 * P → U j = lN (u j)) (hub : ∀ j, u j ≤ 1000000000000000) (hk : ∀ p, p < P → K p = nI (k p)) (hk31 : ∀ p, k p < 2 ^ 31) (hz : ∀ p, k p = 0 → ∀ i, i < 16 → u (16 * p + i) = 0) (hw : 0 < w) (hw2 : w ≤ fb_sm u (Slot d h + 1)) (kk : ∀ s, s ≤ Slot d h → fb_sm u s < w → w ≤ fb_sm u (s + 1) → Q (lN (min (Low d s + Reach d s) h))) : wp_X1_valueWith (lN w) dig slots pages hi U K Q := by
  have hw63 : w < 2 ^ 63 := by have := sm_63 hub (n := Slot d h + 1) (by omega); omega
  unfold wp_X1_valueWith
  intro x ex y ey
  rw [ex, ey, es, ep]
  generalize eN : Slot d h + 1 = N at hN hw2
  refine lp2 (fun n a b => lp_X1_valueWith_5 dig (nI N) (nI P) hi U K Q (lN w) n a b) (fun a b => ∃ p, p ≤ P ∧ b = nI p ∧ a = lN (fb_sm u (min (16 * p) N)) ∧ fb_sm u (min (16 * p) N) < w) (fun _ b => P - b.toInt.toNat) ?_ _ _ ⟨0, by omega, rfl, by rw [show min (16 * 0) N = 0 by omega]; rfl, by rw [show min (16 * 0) N = 0 by omega]; exact hw⟩
  intro n a b hI ho
  obtain ⟨p, hp, eb, ea, hlt⟩ := hI
  subst eb
  show bod_X1_valueWith_5 dig (nI N) (nI P) hi U K Q (lN w) (fun v0 v1 => lp_X1_valueWith_5 dig (nI N) (nI P) hi U K Q (lN w) n v0 v1) a (nI p)
  unfold bod_X1_valueWith_5
  refine q_if (nI_leI (by omega) (by omega)) (fun q => ?_) (fun q => ?_)
  · rw [show min (16 * p) N = N by omega] at hlt
    exact absurd hw2 (by omega)
  have hpP : p < P := by omega
  refine sp_endOf (by omega) (hk p hpP) (hk31 p) rfl (by omega) ?_
  intro e1 he1 x6 hx6
  have hb : endP N (k p) p ≤ 16 * p + 16 := by unfold endP; split <;> omega
  have hbN : k p ≠ 0 → endP N (k p) p ≤ N := by intro k0; unfold endP; rw [if_neg k0]; omega
  rw [he1, hx6, pg16]
  refine lp2 (fun n2 a b => lp_X1_valueWith_29 dig (nI N) (nI P) hi U K (fun v0 v1 => lp_X1_valueWith_5 dig (nI N) (nI P) hi U K Q (lN w) n v0 v1) Q (lN w) (nI p) (nI (endP N (k p) p)) n2 a b) (fun a b => ∃ z, (16 * p = z ∨ (16 * p ≤ z ∧ z ≤ endP N (k p) p)) ∧ b = nI z ∧ a = lN (fb_sm u (min z N)) ∧ fb_sm u (min z N) < w) (fun _ b => 16 * p + 16 - b.toInt.toNat) ?_ _ _ ⟨16 * p, Or.inl rfl, rfl, ea, hlt⟩
  intro n2 a2 b2 hI2 hs2
  obtain ⟨z, hz1, eb2, ea2, hlt2⟩ := hI2
  subst eb2
  show bod_X1_valueWith_29 dig (nI N) (nI P) hi U K (fun v0 v1 => lp_X1_valueWith_5 dig (nI N) (nI P) hi U K Q (lN w) n v0 v1) Q (lN w) (nI p) (nI (endP N (k p) p)) (fun v0 v1 => lp_X1_valueWith_29 dig (nI N) (nI P) hi U K (fun v0 v1 => lp_X1_valueWith_5 dig (nI N) (nI P) hi U K Q (lN w) n v0 v1) Q (lN w) (nI p) (nI (endP N (k p) p)) n2 v0 v1) a2 (nI z)
  unfold bod_X1_valueWith_29
  refine q_if (nI_leI (by omega) (by omega)) (fun q2 => ?_) (fun q2 => ?_)
  · intro x4 hx4
    rw [hx4, nI_1]
    have ez : fb_sm u (min z N) = fb_sm u (min (16 * (p + 1)) N) := by
      by_cases k0 : k p = 0
      · have e0 : endP N (k p) p = 16 * p := by unfold endP; rw [if_pos k0]
        refine (sm_ext (by omega) ?_).symm
        intro i a1 b1
        have := hz p k0 (i - 16 * p) (by omega)
        rw [show 16 * p + (i - 16 * p) = i by omega] at this
        exact this
      · have e0 : endP N (k p) p = min (16 * p + 16) N := by unfold endP; rw [if_neg k0]
        rw [show min z N = min (16 * (p + 1)) N by omega]
    refine ho _ _ ⟨p + 1, by omega, rfl, ?_, ?_⟩ ?_
    · rw [ea2, ez]
    · rw [← ez]; exact hlt2
    · rw [nI_toInt (by omega), nI_toInt (by omega)]
      omega
  · refine sp_unitsOf (by omega) ?_
    have hzN : z < N := by
      by_cases k0 : k p = 0
      · have e0 : endP N (k p) p = 16 * p := by unfold endP; rw [if_pos k0]
        omega
      · have := hbN k0; omega
    rw [show min z N = z by omega] at hlt2 ea2
    have h63 := sm_63 hub (n := z + 1) (by omega)
    intro x2 hx2
    rw [hx2, ea2, hu z (by omega), lN_add, show fb_sm u z + u z = fb_sm u (z + 1) from rfl]
    refine q_if (pk_lLT (by omega) hw63) (fun q3 => ?_) (fun q3 => ?_)
    · intro x7 hx7
      rw [hx7, nI_1]
      refine hs2 _ _ ⟨z + 1, by omega, rfl, ?_, ?_⟩ ?_
      · rw [show min (z + 1) N = z + 1 by omega]
      · rw [show min (z + 1) N = z + 1 by omega]; exact q3
      · rw [nI_toInt (by omega), nI_toInt (by omega)]
        omega
    · refine sp_cappedHigh hd hh ed eh (by omega) ?_
      exact kk z (by omega) hlt2 (by omega)
def Wanted (r t : Nat) : Nat := max 1 (t / 100000 * r + (t % 100000 * r + 99999) / 100000)
theorem Wanted_le {r t : Nat} (hr : r ≤ 100000) (ht : 0 < t) : Wanted r t ≤ t := by
  have h1 : t / 100000 * r ≤ t / 100000 * 100000 := Nat.mul_le_mul_left _ hr
  have h2 : t % 100000 * r ≤ t % 100000 * 100000 := Nat.mul_le_mul_left _ hr
  unfold Wanted
  omega
theorem sp_wanted {r t : Nat} {Q : Int64 → Prop} (hr : r ≤ 100000) (ht : t < 4400000000000000000) (k : Q (lN (Wanted r t))) : wp_X7_wanted (nI r) (lN t) Q := by
  have h1 : t / 100000 * r ≤ t / 100000 * 100000 := Nat.mul_le_mul_left _ hr
  have h2 : t % 100000 * r ≤ t % 100000 * 100000 := Nat.mul_le_mul_left _ hr
  unfold wp_X7_wanted
  intro x ex
  have e : x = lN ((t % 100000 * r + 99999) / 100000) := by
    rw [ex, show (100000 : Int64) = lN 100000 from rfl, pk_lRem (by omega) (by decide) (by decide), nI_l (by omega), lN_mul, lN_add, show (1 : Int64) = lN 1 from rfl, lN_sub (by omega), show t % 100000 * r + 100000 - 1 = t % 100000 * r + 99999 by omega, pk_lDiv (by omega) (by decide) (by decide)]
  rw [e, show (100000 : Int64) = lN 100000 from rfl, pk_lDiv (by omega) (by decide) (by decide), nI_l (by omega), lN_mul, lN_add, show (1 : Int64) = lN 1 from rfl, lN_max (by omega) (by omega)]
  rw [show max 1 (t / 100000 * r + (t % 100000 * r + 99999) / 100000) = Wanted r t from rfl]
  exact k
theorem stp_rank : Stp_rank Inv := by
  unfold Stp_rank
  intro p0 p1 active rests writers tbytes tlen dbytes dlen next known rec m_made m_sort m_digits m_slots m_pages m_highest m_units m_kinds m_rows m_marks q_active q_rests q_writers l_made l_sort l_digits l_slots l_pages l_highest l_units l_kinds l_rows l_marks t_tape t_taped t_set t_highest t_units t_kinds t_sideKind t_side t_active t_rests t_writes t_more t_packed t_packedMany t_at t_wrong t_number t_readSort t_readDigits t_readHighest t_wasSet t_wasHighest t_wasUnits t_wasKinds t_wasSideKind t_wasSide t_undone hI
  obtain ⟨hT, hP, hO, hL, hH⟩ := id hI
  rcases made_cases l_made l_sort l_digits l_slots l_pages l_highest l_units l_kinds l_rows l_marks t_set t_highest t_units t_kinds t_sideKind t_side hL p0 with ⟨r, hr, e, so, d, h, u, k, rr, m, hA, hC, hM⟩ | ho
  · subst e
    obtain ⟨hso, hd, hh1, hh2, hu, hk, hrr, hm, hm0⟩ := id hA
    obtain ⟨c_made, c_sort, c_dig, c_slots, c_pages, c_high, c_u, c_k, c_r, c_m⟩ := id hC
    obtain ⟨v_sort, v_dig, v_slots, v_made, v_high, v_u, v_k, v_r, v_m⟩ := id hM
    have ⟨b1, b2, b3, b4⟩ := PG_b hd hh2
    have v_sort : t_set (4 * r + 0) = nI so := v_sort
    have v_dig : t_set (4 * r + 1) = nI d := v_dig
    have v_slots : t_set (4 * r + 2) = nI (Slot d h + 1) := v_slots
    have v_made : t_set (4 * r + 3) = 1 := v_made
    have v_u : ∀ j, j < 16 * PG d h → t_units (4352 * r + j) = lN (u j) := v_u
    have v_k : ∀ p, p < PG d h → t_kinds (272 * r + p) = nI (k p) := v_k
    have v_r : ∀ p, p < PG d h → t_sideKind (272 * r + p) = nI (rr p) := v_r
    have v_m : ∀ j, j < 4352 → t_side (4352 * r + j) = nI (m j) := v_m
    have hk10 : ∀ p, k p ≤ 10 := fun p => KOK_le hso (hk p)
    have hN : Slot d h + 1 ≤ 16 * PG d h := by omega
    have h63 := sm_63 hu (n := Slot d h + 1) (by omega)
    have z0 : (0 : Int64).toInt = 0 := by decide
    have z1 : (100000 : Int64).toInt = 100000 := by decide
    have z2 : (0 : Int32).toInt = 0 := by decide
    have z3 : (100000 : Int32).toInt = 100000 := by decide
    have z4 : p1.toInt64.toInt = p1.toInt := Int32.toInt_toInt64 p1
    unfold wp_X7_rank
    refine sp_madeAt_in hr c_made (opt_s ?_)
    refine q_if (fa_lt _ _) (fun q => ?_) (fun q => q_if (fa_le _ _) (fun q2 => ?_) (fun q2 => ?_))
    · unfold wp_X8_rank
      refine sp_isMade_in hr v_made (q1b ?_)
      exact sp_isIn (fun a b => absurd a (by omega)) (fun _ => q0a ⟨rfl, hI⟩)
    rotate_left
    · unfold wp_X8_rank
      refine sp_isMade_in hr v_made (q1b ?_)
      exact sp_isIn (fun a b => absurd b (by omega)) (fun _ => q0a ⟨rfl, hI⟩)
    obtain ⟨w, hw, ew⟩ := int_nI (p := p1) (b := 100000) (by omega) (by omega) (by decide)
    subst ew
    refine sp_all hA hC ?_
    intro x ex
    rw [ex]
    unfold wp_X8_rank
    have hback : ∀ Q : Int64 → Prop, (∀ y, y = lN (fb_sm u (Slot d h + 1)) → Q y) → wp_X8_totalOf (nI r) t_set t_units Q := fun Q hQ => sp_tot hr hA hM (hQ _ rfl)
    refine q_fi (lN_z (by omega)) (fun e0 => ?_) (fun e0 => ?_)
    · refine sp_isMade_in hr v_made (q1b ?_)
      refine sp_isIn (fun _ _ => q1a ?_) (fun o => absurd o (by omega))
      refine hback _ (fun y ey => ?_)
      subst ey
      intro x3 hx3
      rw [hx3]
      exact ⟨fun n => absurd ((lN_z (by omega)).mpr e0) n, fun _ => ⟨rfl, hI⟩⟩
    · have hW1 : 0 < Wanted w (fb_sm u (Slot d h + 1)) := by unfold Wanted; omega
      have hW2 := Wanted_le hw (show 0 < fb_sm u (Slot d h + 1) by omega)
      refine sp_wanted hw h63 ?_
      refine sp_valueWith hd hh2 c_dig c_high b1 hN c_slots c_pages c_u hu c_k (fun p => by have := hk10 p; omega) (fun p => (hk p).1) hW1 hW2 (fun s hs s1 s2 => ?_)
      refine sp_isMade_in hr v_made (q1b ?_)
      refine sp_isIn (fun _ _ => q1a ?_) (fun o => absurd o (by omega))
      refine hback _ (fun y ey => ?_)
      subst ey
      intro x3 hx3
      rw [hx3]
      refine ⟨fun _ => ?_, fun n => absurd ((lN_z (by omega)).mp n) e0⟩
      have h1 : fb_sm u (Slot d h + 1) / 100000 * w ≤ fb_sm u (Slot d h + 1) / 100000 * 100000 := Nat.mul_le_mul_left _ hw
      have h2 : fb_sm u (Slot d h + 1) % 100000 * w ≤ fb_sm u (Slot d h + 1) % 100000 * 100000 := Nat.mul_le_mul_left _ hw
      have hk2 : ∀ W : Int64, W = lN (Wanted w (fb_sm u (Slot d h + 1))) → blk_X8_rank_82 t_set t_highest t_units (fun v => (lN (min (Low d s + Reach d s) h)) = v ∧ Inv active rests writers tbytes tlen dbytes dlen next known rec m_made m_sort m_digits m_slots m_pages m_highest m_units m_kinds m_rows m_marks q_active q_rests q_writers l_made l_sort l_digits l_slots l_pages l_highest l_units l_kinds l_rows l_marks t_tape t_taped t_set t_highest t_units t_kinds t_sideKind t_side t_active t_rests t_writes t_more t_packed t_packedMany t_at t_wrong t_number t_readSort t_readDigits t_readHighest t_wasSet t_wasHighest t_wasUnits t_wasKinds t_wasSideKind t_wasSide t_undone) (nI r) W := by
        intro W hW
        subst hW
        unfold blk_X8_rank_82
        intro x5 hx5 x7 hx7
        rw [hx5, hx7]
        rw [show (4352 : Int32) * nI r = nI (4352 * r) from pk_mul 4352 r]
        refine q_in (by omega) (by decide) ?_
        intro x8 hx8
        have e00 : x8 = lN (fb_sm u 1) := by
          rw [hx8, nI_clamp (by omega)]
          have := v_u 0 (by omega)
          rw [Nat.add_zero] at this
          rw [this]
          congr 1
          show u 0 = fb_sm u 0 + u 0
          rw [show fb_sm u 0 = 0 from rfl]; omega
        rw [e00]
        refine lp2 (fun n a b => lp_X8_rank_99 t_set t_highest t_units _ (nI r) (lN (Wanted w (fb_sm u (Slot d h + 1)))) n a b) (fun a b => ∃ z, z ≤ s ∧ a = nI z ∧ b = lN (fb_sm u (z + 1))) (fun a _ => Slot d h + 1 - a.toInt.toNat) ?_ _ _ ⟨0, by omega, rfl, rfl⟩
        intro n a b hI2 hs2
        obtain ⟨z, hz, ea, eb⟩ := hI2
        subst ea eb
        show bod_X8_rank_99 t_set t_highest t_units _ (nI r) (lN (Wanted w (fb_sm u (Slot d h + 1)))) (fun v0 v1 => lp_X8_rank_99 t_set t_highest t_units _ (nI r) (lN (Wanted w (fb_sm u (Slot d h + 1)))) n v0 v1) (nI z) (lN (fb_sm u (z + 1)))
        unfold bod_X8_rank_99
        have h64 := sm_63 hu (n := z + 1) (by omega)
        refine q_if (pk_lLE (by omega) (by omega)) (fun q3 => ?_) (fun q3 => ?_)
        · have ez : z = s := by
            rcases Nat.lt_or_ge z s with q4 | q4
            · have := sm_le (u := u) (show z + 1 ≤ s by omega); omega
            · omega
          subst ez
          exact sp_highAt hr hd hh2 v_dig v_high hs ⟨rfl, hI⟩
        · have hzs : z < s := by
            rcases Nat.lt_or_ge z s with q4 | q4
            · exact q4
            · rw [show z = s by omega] at q3; exact absurd s2 q3
          intro x7b hx7b
          rw [hx7b, nI_1, show (4352 : Int32) * nI r + nI (z + 1) = nI (4352 * r + (z + 1)) from ix_at 4352 r _]
          refine q_in (by omega) (by decide) ?_
          intro x8b hx8b
          rw [hx8b, nI_clamp (by omega), v_u _ (by omega), lN_add]
          refine hs2 _ _ ⟨z + 1, by omega, rfl, rfl⟩ ?_
          rw [nI_toInt (by omega), nI_toInt (by omega)]
          omega
      intro x5 hx5
      have e5 : x5 = lN (fb_sm u (Slot d h + 1) / 100000 * w + (fb_sm u (Slot d h + 1) % 100000 * w + 99999) / 100000) := by
        rw [hx5, show (100000 : Int64) = lN 100000 from rfl, pk_lRem (by omega) (by decide) (by decide), nI_l (by omega), lN_mul, lN_add, show (1 : Int64) = lN 1 from rfl, lN_sub (by omega), show fb_sm u (Slot d h + 1) % 100000 * w + 100000 - 1 = fb_sm u (Slot d h + 1) % 100000 * w + 99999 by omega, pk_lDiv (by omega) (by decide) (by decide), pk_lDiv (by omega) (by decide) (by decide), lN_mul, lN_add]
      refine ⟨fun c => hk2 _ ?_, fun c => hk2 _ ?_⟩
      · rw [e5] at c
        have c2 := (pk_lLE (a := 1) (by decide) (by omega)).mp c
        rw [e5]
        unfold Wanted
        rw [Nat.max_eq_right c2]
      · rw [e5] at c
        have c2 : ¬ 1 ≤ fb_sm u (Slot d h + 1) / 100000 * w + (fb_sm u (Slot d h + 1) % 100000 * w + 99999) / 100000 := fun q => c ((pk_lLE (a := 1) (by decide) (by omega)).mpr q)
        unfold Wanted
        rw [Nat.max_eq_left (by omega)]
        rfl
  · unfold wp_X7_rank
    refine sp_madeAt_out (fun r hr e => (ho r hr e).1) (opt_n ?_)
    unfold wp_X8_rank
    exact sp_isMade_out (fun r hr e => (ho r hr e).2) (q0b ⟨rfl, hI⟩)
