/-! ===== shelve ===== -/
theorem shK_z {so : Nat} {u : Nat → Nat} {p : Nat} (h : mxf (pgu u p) 16 = 0) : shK so u p = 0 := by
  unfold shK
  rw [if_pos h]
theorem KOK_shK {so : Nat} {u : Nat → Nat} (hso : so = 0 ∨ so = 1) (hub : ∀ j, u j ≤ 1000000000000000) (p : Nat) : KOK so (shK so u p) (fun i => u (16 * p + i)) := by
  have b1 : mxf (pgu u p) 16 ≤ 1000000000000000 := mxf_b (fun i => hub _)
  have hm : ∀ i, i < 16 → u (16 * p + i) ≤ mxf (pgu u p) 16 := mxf_le.mp (Nat.le_refl _)
  obtain ⟨r1, l1, c1, m1⟩ := kf_row (Rk_st hso) b1
  by_cases q : mxf (pgu u p) 16 = 0
  · rw [shK_z q]
    refine ⟨fun _ i hi => ?_, fun _ => Or.inl (Nat.zero_le 6), fun _ => Or.inl rfl, fun e => absurd e (by decide)⟩
    have := hm i hi
    show u (16 * p + i) = 0
    omega
  unfold shK
  rw [if_neg q]
  by_cases q2 : Lev u p
  · rw [if_pos q2]
    exact ⟨fun e => absurd e (by decide), fun _ => Or.inr (Or.inl rfl), fun _ => Or.inr (Or.inr (Or.inr rfl)), fun _ e => absurd e (by decide)⟩
  rw [if_neg q2]
  by_cases q3 : so = 0 ∧ mxf (pgu u p) 16 ≤ 65535
  · rw [if_pos q3]
    exact ⟨fun e => absurd e (by decide), fun _ => Or.inr (Or.inr rfl), fun e => absurd (e.symm.trans q3.1) (by decide), fun _ e => absurd e (by decide)⟩
  rw [if_neg q3]
  have ⟨b3, b4⟩ := Rk_b r1
  refine ⟨fun e => absurd e (by omega), fun e => Or.inl ?_, fun e => ?_, fun _ _ i hi => Nat.le_trans (hm i hi) c1⟩
  · rcases r1 with ⟨_, _, z⟩ | ⟨z, _, _⟩ <;> omega
  · rcases r1 with ⟨z, _, _⟩ | ⟨_, a, b⟩ <;> omega
theorem shK_le {so : Nat} {u : Nat → Nat} (hso : so = 0 ∨ so = 1) (hub : ∀ j, u j ≤ 1000000000000000) (p : Nat) : shK so u p ≤ 10 := KOK_le hso (KOK_shK hso hub p)
noncomputable def shc (so : Nat) (u k : Nat → Nat) (p : Nat) : Nat := if shK so u p = k p then 0 else 1
theorem sp_shelveAll {so P : Nat} {srt pages : Int32} {U : Nat → Int64} {K : Nat → Int32} {u k : Nat → Nat} {Q : Int32 → (Nat → Int32) → Prop} (hso : so = 0 ∨ so = 1) (es : srt = nI so) (hP : P ≤ 271) (ep : pages = nI P) (hu : ∀ j, j < 16 * P → U j = lN (u j)) (hub : ∀ j, u j ≤ 1000000000000000) (hk : ∀ p, p < P → K p = nI (k p)) (hk10 : ∀ p, k p ≤ 10) (hz : ∀ p, k p = 0 → ∀ i, i < 16 → u (16 * p + i) = 0) (h : ∀ K', (∀ p, p < P → K' p = nI (shK so u p)) → Q (nI (fb_sm (shc so u k) P)) K') : wp_X1_shelveAll srt pages U K Q := by
  subst es
  unfold wp_X1_shelveAll
  intro x ex y ey
  rw [ex, ey, ep]
  refine lp3 (fun n a b c => lp_X1_shelveAll_4 (nI so) (nI P) U Q n a b c) (fun a b c => ∃ i, i ≤ P ∧ b = nI i ∧ a = nI (fb_sm (shc so u k) i) ∧ (∀ p, p < i → c p = nI (shK so u p)) ∧ ∀ p, i ≤ p → p < P → c p = nI (k p)) (fun _ b _ => P - b.toInt.toNat) ?_ _ _ _ ⟨0, by omega, rfl, rfl, fun p hp => absurd hp (by omega), fun p _ hp => hk p hp⟩
  intro n a b c hI hs
  obtain ⟨i, hi, eb, ea, hc1, hc2⟩ := hI
  subst ea eb
  show bod_X1_shelveAll_4 (nI so) (nI P) U Q (fun v0 v1 v2 => lp_X1_shelveAll_4 (nI so) (nI P) U Q n v0 v1 v2) _ (nI i) c
  unfold bod_X1_shelveAll_4
  refine q_if (nI_leI (by omega) (by omega)) (fun q => ?_) (fun q => ?_)
  · have e : i = P := by omega
    subst e
    exact h c hc1
  refine q_if (nI_leI (a := 271) (by decide) (by omega)) (fun q => absurd q (by omega)) (fun _ => ?_)
  refine q_in (by omega) (by decide) ?_
  have hki := hk10 i
  have hsi := shK_le hso hub i
  rw [nI_clamp (by omega), hc2 i (Nat.le_refl _) (by omega)]
  have hst : ∀ K2 w, w = shc so u k i → (∀ p, p < i + 1 → K2 p = nI (shK so u p)) → (∀ p, i + 1 ≤ p → p < P → K2 p = nI (k p)) → blk_X1_shelveAll_60 (nI so) (nI P) U (fun v0 v1 v2 => lp_X1_shelveAll_4 (nI so) (nI P) U Q n v0 v1 v2) Q (nI (fb_sm (shc so u k) i + w)) (nI i) K2 := by
    intro K2 w hw h1 h2
    unfold blk_X1_shelveAll_60
    intro y hy
    rw [hy, nI_1]
    refine hs _ _ _ ⟨i + 1, by omega, rfl, by rw [hw]; rfl, h1, h2⟩ ?_
    rw [nI_toInt (by omega), nI_toInt (by omega)]
    omega
  have main : blk_X1_shelveAll_39 (nI so) (nI P) U (fun v0 v1 v2 => lp_X1_shelveAll_4 (nI so) (nI P) U Q n v0 v1 v2) Q (nI (fb_sm (shc so u k) i)) (nI i) (nI (shK so u i)) c := by
    unfold blk_X1_shelveAll_39
    intro x3 h3
    refine q_in (by omega) (by decide) ?_
    rw [h3, nI_clamp (by omega), hc2 i (Nat.le_refl _) (by omega)]
    refine q_if (nI_eq (by omega) (by omega)) (fun q2 => ?_) (fun q2 => ?_)
    · refine hst c 0 (if_pos q2).symm (fun p hp => ?_) (fun p a b => hc2 p (by omega) b)
      by_cases e : p = i
      · rw [e, hc2 i (Nat.le_refl _) (by omega), q2]
      · exact hc1 p (by omega)
    · refine q_in (by omega) (by decide) ?_
      intro K2 hK2 x1 hx1
      rw [hx1, nI_1]
      refine hst K2 1 (if_neg q2).symm (fun p hp => ?_) (fun p a b => ?_)
      · by_cases e : p = i
        · rw [e, hK2, pk_us]
        · rw [hK2, pk_un e]; exact hc1 p (by omega)
      · rw [hK2, pk_un (by omega)]; exact hc2 p (by omega) b
  refine q_fi (nI_eq (b := 0) (by omega) (by decide)) (fun e => ?_) (fun e => ?_)
  · have z : shK so u i = 0 := shK_z (Nat.le_zero.mp (mxf_le.mpr (fun j hj => Nat.le_of_eq (hz i e j hj))))
    rw [z] at main
    exact main
  · exact sp_shelfOf hso (by omega) hP hu hub main
theorem byte_small {k : Nat} (h : k < 128) : (nI k).toInt8.toInt32 = nI k := fb_byte (by rw [nI_toInt (by omega)]; omega) (by rw [nI_toInt (by omega)]; omega)
theorem BY_upd {f : Nat → Int32} {i k : Nat} (hf : BY f) (hk : k < 128) : BY (upd f i (nI k)) := by
  intro j
  by_cases e : j = i
  · rw [e, pk_us]; exact byte_small hk
  · rw [pk_un e]; exact hf j
theorem sp_shelves {r so d h : Nat} {t_set : Nat → Int32} {t_units : Nat → Int64} {t_kinds : Nat → Int32} {u k : Nat → Nat} {Q : Int32 → (Nat → Int32) → Prop} (hr : r < 4) (hso : so = 0 ∨ so = 1) (hd : d = 1 ∨ d = 2) (hh : h ≤ 1000000000000) (hs0 : t_set (4 * r + 0) = nI so) (hs2 : t_set (4 * r + 2) = nI (Slot d h + 1)) (hu : ∀ j, j < 16 * PG d h → t_units (4352 * r + j) = lN (u j)) (hub : ∀ j, u j ≤ 1000000000000000) (hk : ∀ p, p < PG d h → t_kinds (272 * r + p) = nI (k p)) (hk10 : ∀ p, k p ≤ 10) (hb : BY t_kinds) (hq : ∀ K', (∀ p, p < PG d h → K' (272 * r + p) = nI (shK so u p)) → Only 272 r K' t_kinds → BY K' → Q (nI (fb_sm (shc so u k) (PG d h))) K') : wp_X8_shelves (nI r) t_set t_units t_kinds Q := by
  unfold wp_X8_shelves
  intro x ex y ey
  rw [ex, ey]
  have ⟨b1, b2, b3, b4⟩ := PG_b hd hh
  refine lp3 (fun n a b c => lp_X8_shelves_4 t_set t_units Q (nI r) n a b c) (fun a b c => ∃ i, i ≤ PG d h ∧ b = nI i ∧ a = nI (fb_sm (shc so u k) i) ∧ (∀ p, p < i → c (272 * r + p) = nI (shK so u p)) ∧ (∀ p, i ≤ p → p < PG d h → c (272 * r + p) = nI (k p)) ∧ Only 272 r c t_kinds ∧ BY c) (fun _ b _ => PG d h - b.toInt.toNat) ?_ _ _ _ ⟨0, by omega, rfl, rfl, fun p hp => absurd hp (by omega), fun p _ hp => hk p hp, Only_rfl, hb⟩
  intro n a b c hI hs
  obtain ⟨i, hi, eb, ea, hc1, hc2, ho, hy⟩ := hI
  subst ea eb
  show bod_X8_shelves_4 t_set t_units Q (nI r) (fun v0 v1 v2 => lp_X8_shelves_4 t_set t_units Q (nI r) n v0 v1 v2) _ (nI i) c
  unfold bod_X8_shelves_4
  refine sp_pagesOf hr hd hh hs2 ?_
  refine q_if (nI_leI (by omega) (by omega)) (fun q => ?_) (fun q => ?_)
  · have e : i = PG d h := by omega
    subst e
    exact hq c hc1 ho hy
  refine sp_shelvedKind hr hso hs0 (by omega) b1 hu hub ?_
  intro x4 hx4
  have hki := hk10 i
  have hsi := shK_le hso hub i
  rw [hx4, show (272 : Int32) * nI r + nI i = nI (272 * r + i) from ix_at 272 r i]
  refine q_in (by omega) (by decide) ?_
  rw [nI_clamp (by omega), hc2 i (Nat.le_refl _) (by omega)]
  have hst : ∀ w, w = shc so u k i → blk_X8_shelves_44 t_set t_units (fun v0 v1 v2 => lp_X8_shelves_4 t_set t_units Q (nI r) n v0 v1 v2) Q (nI r) (nI i) (nI (shK so u i)) (nI (fb_sm (shc so u k) i)) (nI w) c := by
    intro w hw
    unfold blk_X8_shelves_44
    intro y1 hy1
    rw [show (272 : Int32) * nI r + nI i = nI (272 * r + i) from ix_at 272 r i]
    refine q_in (by omega) (by decide) ?_
    intro K2 hK2 z hz
    rw [nI_clamp (by omega), vp_nar_byte, byte_small (by omega), byte_small (by omega)] at hK2
    rw [hy1, hz, nI_1, nI_add, hK2]
    refine hs _ _ _ ⟨i + 1, by omega, rfl, by rw [hw]; rfl, fun p hp => ?_, fun p p1 p2 => ?_, fun j hj => ?_, BY_upd hy (by omega)⟩ ?_
    · by_cases e : p = i
      · rw [e, pk_us]
      · rw [pk_un (by omega)]; exact hc1 p (by omega)
    · rw [pk_un (by omega)]; exact hc2 p (by omega) p2
    · rw [pk_un (by omega)]; exact ho j hj
    · rw [nI_toInt (by omega), nI_toInt (by omega)]
      omega
  refine q_fi (nI_eq (by omega) (by omega)) (fun q2 => hst 0 (if_pos q2).symm) (fun q2 => hst 1 (if_neg q2).symm)
theorem stp_shelve : Stp_shelve Inv := by
  unfold Stp_shelve
  intro p0 active rests writers tbytes tlen dbytes dlen next known rec m_made m_sort m_digits m_slots m_pages m_highest m_units m_kinds m_rows m_marks q_active q_rests q_writers l_made l_sort l_digits l_slots l_pages l_highest l_units l_kinds l_rows l_marks t_tape t_taped t_set t_highest t_units t_kinds t_sideKind t_side t_active t_rests t_writes t_more t_packed t_packedMany t_at t_wrong t_number t_readSort t_readDigits t_readHighest t_wasSet t_wasHighest t_wasUnits t_wasKinds t_wasSideKind t_wasSide t_undone hI
  obtain ⟨hT, ⟨ea, er, ew⟩, hO, hL, ⟨⟨n, x, hn, hx, ek, ex, eu, hl⟩, hb1, hb2, hb3, hb4, hb5, hb6⟩⟩ := id hI
  subst ea er ek ex eu
  rcases made_cases l_made l_sort l_digits l_slots l_pages l_highest l_units l_kinds l_rows l_marks t_set t_highest t_units t_kinds t_sideKind t_side hL p0 with ⟨r, hr, e, so, d, h, u, k, rr, m, hA, hC, hM⟩ | ho
  · subst e
    obtain ⟨hso, hd, hh1, hh2, hu, hk, hrr, hm, hm0⟩ := id hA
    obtain ⟨c_made, c_sort, c_dig, c_slots, c_pages, c_high, c_u, c_k, c_r, c_m⟩ := id hC
    obtain ⟨v_sort, v_dig, v_slots, v_made, v_high, v_u, v_k, v_r, v_m⟩ := id hM
    have ⟨b1, b2, b3, b4⟩ := PG_b hd hh2
    have v_sort : t_set (4 * r + 0) = nI so := v_sort
    have v_dig : t_set (4 * r + 1) = nI d := v_dig
    have v_slots : t_set (4 * r + 2) = nI (Slot d h + 1) := v_slots
    have v_made : t_set (4 * r + 3) = 1 := v_made
    have v_u : ∀ j, j < 16 * PG d h → t_units (4352 * r + j) = lN (u j) := v_u
    have v_k : ∀ p, p < PG d h → t_kinds (272 * r + p) = nI (k p) := v_k
    have v_r : ∀ p, p < PG d h → t_sideKind (272 * r + p) = nI (rr p) := v_r
    have v_m : ∀ j, j < 4352 → t_side (4352 * r + j) = nI (m j) := v_m
    have hk10 : ∀ p, k p ≤ 10 := fun p => KOK_le hso (hk p)
    unfold wp_X7_shelve
    refine sp_madeAt_in hr c_made (opt_s ?_)
    refine sp_remember_in hr hx hn (Or.inr c_made) (fun W U K R M hW hc => ?_)
    refine sp_shelveAll hso c_sort b1 c_pages c_u hu c_k hk10 (fun p => (hk p).1) (fun K2 hK2 => ?_)
    unfold wp_X8_shelve
    refine sp_isMade_in hr v_made (q1a ?_)
    refine sp_keepsAct hn hb1 hb2 hb3 hb4 hb5 hb6 (fun wS wH wU wK wX wD k1 k2 k3 k4 k5 k6 hb7 hb8 hb9 => ?_)
    refine sp_shelves hr hso hd hh2 v_sort v_slots v_u hu v_k hk10 hb1 (fun K3 hK3 o3 hb10 => ?_)
    have ho : Oth r t_set t_set t_highest t_highest t_units t_units K3 t_kinds t_sideKind t_sideKind t_side t_side := ⟨Only_rfl, fun _ _ => rfl, Only_rfl, o3, Only_rfl, Only_rfl⟩
    refine ⟨rfl, hT, ⟨rfl, rfl, ew⟩, hO, LRs_act hr hL (fun i hi => ⟨rfl, rfl, rfl, rfl, rfl, rfl, rfl, va_up_ne _ _ hi, rfl, rfl⟩) ho ?_, ?_, hb10, hb2, hb3, hb7, hb8, hb9⟩
    · unfold LRs
      rw [va_up_self]
      exact Or.inr ⟨so, d, h, u, shK so u, rr, m, ⟨hso, hd, hh1, hh2, hu, KOK_shK hso hu, hrr, hm, hm0⟩, ⟨c_made, c_sort, c_dig, c_slots, c_pages, c_high, c_u, hK2, c_r, c_m⟩, ⟨v_sort, v_dig, v_slots, v_made, v_high, v_u, hK3, v_r, v_m⟩⟩
    · exact Hist_act hn hx hl k1 k2 k3 k4 k5 k6 hO rfl rfl (fun k hk => (hW k hk).trans (ew k hk)) (fun i hi => ⟨va_up_ne _ _ hi, va_up_ne _ _ hi, va_up_ne _ _ hi, va_up_ne _ _ hi, va_up_ne _ _ hi, va_up_ne _ _ hi, va_up_ne _ _ hi, va_up_ne _ _ hi, va_up_ne _ _ hi, va_up_ne _ _ hi⟩) (Or.inr ⟨r, hr, rfl, by
          rw [va_up_self, va_up_self, va_up_self, va_up_self, va_up_self, va_up_self, va_up_self, va_up_self, va_up_self, va_up_self]
          exact LR_eq (hL r hr) hc (fun _ _ => rfl) rfl (fun _ _ => rfl) (fun _ _ => rfl) (fun _ _ => rfl) (fun _ _ => rfl)⟩) (Oth_same ho)
  · unfold wp_X7_shelve
    refine sp_madeAt_out (fun r hr e => (ho r hr e).1) (opt_n ?_)
    unfold wp_X8_shelve
    exact sp_isMade_out (fun r hr e => (ho r hr e).2) (q0a ⟨rfl, hI⟩)
