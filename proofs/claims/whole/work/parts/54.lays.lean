/-! ===== what is laid by, and added ===== -/
def pf (u u' : Nat → Nat) (i : Nat) : Nat → Nat := fun j => if j < i then u' j else u j
theorem pf_0 (u u' : Nat → Nat) : pf u u' 0 = u := funext fun j => if_neg (by omega)
theorem pf_at (u u' : Nat → Nat) (i : Nat) : pf u u' i i = u i := if_neg (by omega)
theorem pf_s (u u' : Nat → Nat) (i : Nat) : upn (pf u u' i) i (u' i) = pf u u' (i + 1) := funext fun j => by
  by_cases e : j = i
  · rw [e, upn_s]; exact (if_pos (by omega)).symm
  · rw [upn_n e]
    unfold pf
    by_cases q : j < i
    · rw [if_pos q, if_pos (by omega)]
    · rw [if_neg q, if_neg (by omega)]
theorem pf_k {u u' : Nat → Nat} {i : Nat} (h : u' i = u i) : pf u u' i = pf u u' (i + 1) := by
  rw [← pf_s, h]
  exact (upn_id (pf_at u u' i)).symm
theorem pf_all {u u' : Nat → Nat} {N : Nat} (h : ∀ j, N ≤ j → u' j = u j) : pf u u' N = u' := funext fun j => by
  unfold pf
  by_cases q : j < N
  · rw [if_pos q]
  · rw [if_neg q, h j (by omega)]
theorem pf_b {u u' : Nat → Nat} {c : Nat} (i : Nat) (h : ∀ j, u j ≤ c) (h2 : ∀ j, u' j ≤ c) : ∀ j, pf u u' i j ≤ c := fun j => by
  unfold pf
  split
  · exact h2 j
  · exact h j
theorem va_up_id {α : Type} (f : Nat → α) (k : Nat) : va_up f k (f k) = f := funext fun j => by
  by_cases e : j = k
  · rw [e, va_up_self]
  · rw [va_up_ne _ _ e]
theorem sp_laysNone {t_more : Nat → Int64} {Q : (Nat → Int64) → Prop} (h : ∀ m', (∀ j, j < 4352 → m' j = lN 0) → Q m') : wp_X8_laysNone t_more Q := by
  unfold wp_X8_laysNone
  intro x ex
  rw [ex]
  refine lp2 (fun n a b => lp_X8_laysNone_2 Q n a b) (fun a b => ∃ z, z ≤ 4352 ∧ a = nI z ∧ ∀ j, j < z → b j = lN 0) (fun a _ => 4352 - a.toInt.toNat) ?_ _ _ ⟨0, by omega, rfl, fun j hj => absurd hj (by omega)⟩
  intro n a b hI hs2
  obtain ⟨z, hz, ea, hj⟩ := hI
  subst ea
  show bod_X8_laysNone_2 Q (fun v0 v1 => lp_X8_laysNone_2 Q n v0 v1) (nI z) b
  unfold bod_X8_laysNone_2
  refine q_if (nI_leI (a := 4352) (by decide) (by omega)) (fun q => h b (fun j hj2 => hj j (by omega))) (fun q => ?_)
  refine q_in (by omega) (by decide) ?_
  intro b2 hb2 x1 hx1
  rw [hx1, nI_1]
  refine hs2 _ _ ⟨z + 1, by omega, rfl, fun j hj2 => ?_⟩ ?_
  · rw [hb2, nI_clamp (by omega)]
    by_cases e : j = z
    · rw [e, pk_uLs]; rfl
    · rw [pk_uLn e]; exact hj j (by omega)
  · rw [nI_toInt (by omega), nI_toInt (by omega)]
    omega
theorem sp_isRoom {r N : Nat} {t_set : Nat → Int32} {t_units t_more : Nat → Int64} {u M : Nat → Nat} {Q : Int32 → Prop} (hr : r < 4) (hN : N ≤ 4336) (hs : t_set (4 * r + 2) = nI N) (hu : ∀ j, j < N → t_units (4352 * r + j) = lN (u j)) (hb0 : ∀ j, u j ≤ 1000000000000000) (hm : ∀ j, j < N → t_more j = lN (M j)) (hM : ∀ j, M j < 2 ^ 62) (h1 : (∀ j, j < N → ua u M j ≤ 1000000000000000) → Q 1) (h0 : ¬ (∀ j, j < N → ua u M j ≤ 1000000000000000) → Q 0) : wp_X8_isRoom (nI r) t_set t_units t_more Q := by
  unfold wp_X8_isRoom
  intro x ex
  rw [ex]
  refine lp1 (fun n a => lp_X8_isRoom_2 t_set t_units t_more Q (nI r) n a) (fun a => ∃ z, z ≤ N ∧ a = nI z ∧ ∀ j, j < z → ua u M j ≤ 1000000000000000) (fun a => N - a.toInt.toNat) ?_ _ ⟨0, by omega, rfl, fun j hj => absurd hj (by omega)⟩
  intro n a hI hs2
  obtain ⟨z, hz, ea, hj⟩ := hI
  subst ea
  show bod_X8_isRoom_2 t_set t_units t_more Q (nI r) (fun v0 => lp_X8_isRoom_2 t_set t_units t_more Q (nI r) n v0) (nI z)
  unfold bod_X8_isRoom_2
  refine sp_of (c := 2) hr (by decide) ?_
  rw [hs]
  refine q_if (nI_leI (by omega) (by omega)) (fun q => h1 (fun j hj2 => hj j (by omega))) (fun q => ?_)
  refine q_in (by omega) (by decide) ?_
  have c1 := hb0 z
  have c2 := hM z
  rw [nI_clamp (by omega), hm z (by omega)]
  refine q_if (pk_lLT (a := 1000000000000000) (by decide) (by omega)) (fun q2 => h0 (fun hh => ?_)) (fun q2 => ?_)
  · have := hh z (by omega)
    unfold ua at this
    omega
  rw [show (4352 : Int32) * nI r + nI z = nI (4352 * r + z) from ix_at 4352 r z]
  refine q_in (by omega) (by decide) ?_
  refine q_in (by omega) (by decide) ?_
  rw [nI_clamp (by omega), hu z (by omega), lN_add]
  refine q_if (pk_lLE (b := 1000000000000000) (by omega) (by decide)) (fun q3 => ?_) (fun q3 => h0 (fun hh => q3 (hh z (by omega))))
  intro x1 hx1
  rw [hx1, nI_1]
  refine hs2 _ ⟨z + 1, by omega, rfl, fun j hj2 => ?_⟩ ?_
  · rcases Nat.lt_or_ge j z with q4 | q4
    · exact hj j q4
    · rw [show j = z by omega]; exact q3
  · rw [nI_toInt (by omega), nI_toInt (by omega)]
    omega
theorem sp_addsLaid {r so N P : Nat} {t_set : Nat → Int32} {tu tm : Nat → Int64} {tk : Nat → Int32} {u k M : Nat → Nat} {Q : (Nat → Int64) → (Nat → Int32) → Prop} (hr : r < 4) (hso : so = 0 ∨ so = 1) (hs0 : t_set (4 * r + 0) = nI so) (hs : t_set (4 * r + 2) = nI N) (hP : P ≤ 271) (hN : N ≤ 16 * P) (hk0 : ∀ p, KOK so (k p) (fun i => u (16 * p + i))) (hb0 : ∀ j, u j ≤ 1000000000000000) (hm : ∀ j, j < N → tm j = lN (M j)) (hM : ∀ j, ua u M j ≤ 1000000000000000) (hz : ∀ j, N ≤ j → M j = 0) (hR : VK r P tu tk u k) (hy : BY tk) (h : ∀ tu' tk', VK r P tu' tk' (ua u M) (fk so u k (ua u M)) → Only 4352 r tu' tu → Only 272 r tk' tk → BY tk' → Q tu' tk') : wp_X8_addsLaid (nI r) t_set tu tk tm Q := by
  have hall : pf u (ua u M) N = ua u M := pf_all (fun j hj => by unfold ua; rw [hz j hj]; rfl)
  unfold wp_X8_addsLaid
  intro x ex
  rw [ex]
  refine lp3 (fun n a b c => lp_X8_addsLaid_2 t_set tm Q (nI r) n a b c) (fun a b c => ∃ z, z ≤ N ∧ a = nI z ∧ VK r P b c (pf u (ua u M) z) (fk so u k (pf u (ua u M) z)) ∧ Only 4352 r b tu ∧ Only 272 r c tk ∧ BY c) (fun a _ _ => N - a.toInt.toNat) ?_ _ _ _ ⟨0, by omega, rfl, by rw [pf_0, fk_0]; exact hR, Only_rfl, Only_rfl, hy⟩
  intro n a b c hI hs2
  obtain ⟨z, hz2, ea, hB, o1, o2, hy2⟩ := hI
  subst ea
  show bod_X8_addsLaid_2 t_set tm Q (nI r) (fun v0 v1 v2 => lp_X8_addsLaid_2 t_set tm Q (nI r) n v0 v1 v2) (nI z) b c
  unfold bod_X8_addsLaid_2
  refine sp_of (c := 2) hr (by decide) ?_
  rw [hs]
  refine q_if (nI_leI (by omega) (by omega)) (fun q => ?_) (fun q => ?_)
  · have ez : z = N := by omega
    subst ez
    rw [hall] at hB
    exact h b c hB o1 o2 hy2
  refine q_in (by omega) (by decide) ?_
  have c1 := hM z
  have c2 : u z + M z ≤ 1000000000000000 := c1
  rw [nI_clamp (by omega), hm z (by omega)]
  refine q_if (pk_lLE (b := 0) (by omega) (by decide)) (fun q2 => ?_) (fun q2 => ?_)
  · unfold blk_X8_addsLaid_48
    intro x1 hx1
    rw [hx1, nI_1]
    refine hs2 _ _ _ ⟨z + 1, by omega, rfl, ?_, o1, o2, hy2⟩ ?_
    · rw [← pf_k (by unfold ua; omega)]; exact hB
    · rw [nI_toInt (by omega), nI_toInt (by omega)]
      omega
  · rw [show (4352 : Int32) * nI r + nI z = nI (4352 * r + z) from ix_at 4352 r z]
    refine q_in (by omega) (by decide) ?_
    refine q_in (by omega) (by decide) ?_
    rw [nI_clamp (by omega), hB.1 z (by omega), pf_at, lN_add]
    refine sp_writesPlace hr hso hs0 hP (by omega) hk0 hb0 (pf_b z hb0 hM) c2 (Or.inl ⟨fun j => ?_, by rw [pf_at]; omega⟩) hB hy2 (fun U3 K3 h3 o3 o4 hy3 => ?_)
    · unfold pf; split
      · unfold ua; omega
      · exact Nat.le_refl _
    · unfold blk_X8_addsLaid_48
      intro x1 hx1
      rw [hx1, nI_1]
      rw [show u z + M z = ua u M z from rfl, pf_s] at h3
      refine hs2 _ _ _ ⟨z + 1, by omega, rfl, h3, Only_tr o3 o1, Only_tr o4 o2, hy3⟩ ?_
      rw [nI_toInt (by omega), nI_toInt (by omega)]
      omega
theorem more_s {tm : Nat → Int64} {σ : Nat → Nat} {n c : Nat} (hm : ∀ j, j < 4352 → tm j = lN (mo σ (fun _ => n) c j)) (hs : σ c < 4352) : ∀ j, j < 4352 → vp_updL tm (σ c) (tm (σ c) + lN n) j = lN (mo σ (fun _ => n) (c + 1) j) := by
  intro j hj
  by_cases e : j = σ c
  · rw [e, pk_uLs, hm _ hs, lN_add, mo_at rfl]
  · rw [pk_uLn e, hm j hj, mo_ne (fun q => e q.symm)]
theorem sp_laysRec {r d h v n i : Nat} {t_set : Nat → Int32} {t_highest t_units t_more : Nat → Int64} {u : Nat → Nat} {Q : Int32 → (Nat → Int64) → Prop} (hr : r < 4) (hd : d = 1 ∨ d = 2) (hh : h ≤ 1000000000000) (ed : t_set (4 * r + 1) = nI d) (es : t_set (4 * r + 2) = nI (Slot d h + 1)) (eh : t_highest r = lN h) (hu : ∀ j, j < Slot d h + 1 → t_units (4352 * r + j) = lN (u j)) (hb0 : ∀ j, u j ≤ 1000000000000000) (hv : v ≤ h) (hn : n ≤ 1000000000000) (hi2 : i < 2 ^ 63)
    (h1 : v / i - 1 ≤ 1000 → (∀ j, ua u (mo (fun c => Slot d (v - c * i)) (fun _ => n) (v / i - 1 + 1)) j ≤ 1000000000000000) → ∀ m', (∀ j, j < 4352 → m' j = lN (mo (fun c => Slot d (v - c * i)) (fun _ => n) (v / i - 1 + 1) j)) → Q 1 m')
    (h0 : (¬ v / i - 1 ≤ 1000 ∨ ¬ (∀ j, ua u (mo (fun c => Slot d (v - c * i)) (fun _ => n) (v / i - 1 + 1)) j ≤ 1000000000000000)) → ∀ m', Q 0 m') : wp_X8_laysRecording (nI r) (lN v) (lN n) (lN i) t_set t_highest t_units t_more Q := by
  have ⟨b1, b2⟩ := Slot_le hd hh
  generalize eσ : (fun c => Slot d (v - c * i)) = σ at *
  have hσ : ∀ c, σ c = Slot d (v - c * i) := fun c => by rw [← eσ]
  have hσh : ∀ c, σ c ≤ Slot d h := fun c => by rw [hσ]; exact Slot_mono hd (by omega) (by omega)
  have hbv : v / i ≤ v := Nat.div_le_self _ _
  have fin : v / i - 1 ≤ 1000 → ∀ m', (∀ j, j < 4352 → m' j = lN (mo σ (fun _ => n) (v / i - 1 + 1) j)) → blk_X8_laysRecording_107 t_set t_highest t_units Q (nI r) m' := by
    intro hC m' hm'
    unfold blk_X8_laysRecording_107
    have hMb : ∀ j, mo σ (fun _ => n) (v / i - 1 + 1) j < 2 ^ 62 := fun j => by
      have q1 := mo_b (σ := σ) (w := fun _ => n) (n := n) (s := j) (fun _ => Nat.le_refl _) (v / i - 1 + 1)
      have q2 : (v / i - 1 + 1) * n ≤ 1001 * 1000000000000 := Nat.mul_le_mul (by omega) hn
      omega
    refine sp_isRoom hr (by omega) es hu hb0 (fun j hj => hm' j (by omega)) hMb (fun hh2 => ⟨Or.inr rfl, h1 hC (fun j => ?_) m' hm'⟩) (fun hh2 => ⟨Or.inl rfl, h0 (Or.inr (fun hh3 => hh2 (fun j _ => hh3 j))) m'⟩)
    rcases Nat.lt_or_ge j (Slot d h + 1) with q | q
    · exact hh2 j q
    · unfold ua
      rw [mo_zero (fun e _ => by have := hσh e; omega)]
      exact hb0 j
  unfold wp_X8_laysRecording
  refine q_in hr (by decide) ?_
  rw [nI_clamp (by omega), eh]
  refine sp_upto_in hv hh (q1a ?_)
  refine sp_laysNone (fun m0 hm0 => ?_)
  refine sp_of (c := 1) hr (by decide) ?_
  rw [ed]
  refine sp_X8_slotOf hd (by omega) ?_
  have hs0 : Slot d v = σ 0 := by rw [hσ, Nat.zero_mul]; rfl
  have hsb := hσh 0
  rw [hs0]
  refine q_in (by omega) (by decide) ?_
  refine q_in (by omega) (by decide) ?_
  intro m1 hm1
  rw [nI_clamp (by omega)] at hm1
  have M1 : ∀ j, j < 4352 → m1 j = lN (mo σ (fun _ => n) (0 + 1) j) := by
    rw [hm1]
    exact more_s (c := 0) (fun j hj => hm0 j hj) (by omega)
  refine q_if (pk_lLE (b := 0) hi2 (by decide)) (fun q => ?_) (fun q => ⟨fun e => q (by have := (lN_z hi2).mp e; omega), ?_⟩)
  · have i0 : i = 0 := by omega
    subst i0
    have ed0 : v / 0 = 0 := Nat.div_zero v
    refine fin (by rw [ed0]; decide) m1 ?_
    rw [ed0]; exact M1
  have ip : 0 < i := by omega
  refine q_if (dv_le (by omega) ip hi2) (fun hC => ?_) (fun hC => h0 (Or.inl hC) m1)
  intro x8 hx8
  have dm := Nat.div_add_mod v i
  have ml := Nat.mod_lt v ip
  rw [Nat.mul_comm] at dm
  refine lp2 (fun n' a b => lp_X8_laysRecording_68 t_set t_highest t_units Q (nI r) (lN n) (lN i) n' a b) (fun a b => ∃ c, 1 ≤ c ∧ c ≤ v / i - 1 + 1 ∧ a.toInt = (v : Int) - (c * i : Nat) ∧ ∀ j, j < 4352 → b j = lN (mo σ (fun _ => n) c j)) (fun a _ => (a.toInt + 9223372036854775808).toNat) ?_ _ _ ⟨1, by omega, by omega, ?_, M1⟩
  · intro n' a b hI hs2
    obtain ⟨c, hc1, hc2, ea, hm⟩ := hI
    show bod_X8_laysRecording_68 t_set t_highest t_units Q (nI r) (lN n) (lN i) (fun v0 v1 => lp_X8_laysRecording_68 t_set t_highest t_units Q (nI r) (lN n) (lN i) n' v0 v1) a b
    unfold bod_X8_laysRecording_68
    refine q_if (fa_lt64 _ _) (fun q2 => ?_) (fun q2 => ?_)
    · rw [ea, pk_lT hi2] at q2
      have ec : c = v / i - 1 + 1 := by
        rcases Nat.lt_or_ge c (v / i - 1 + 1) with q3 | q3
        · have : (c + 1) * i ≤ v / i * i := Nat.mul_le_mul_right _ (by omega)
          rw [Nat.succ_mul] at this
          omega
        · omega
      rw [ec] at hm
      exact fin hC b hm
    · rw [ea, pk_lT hi2] at q2
      have hle : (c + 1) * i ≤ v := by rw [Nat.succ_mul]; omega
      have hc3 : c + 1 ≤ v / i := (Nat.le_div_iff_mul_le ip).mpr hle
      rw [Nat.succ_mul] at hle
      have ea2 : a = lN (v - c * i) := Int64.toInt_inj.mp (by rw [ea, pk_lT (by omega)]; omega)
      refine sp_of (c := 1) hr (by decide) ?_
      rw [ed, ea2]
      refine sp_X8_slotOf hd (by omega) ?_
      rw [← hσ c]
      have hsc := hσh c
      refine q_in (by omega) (by decide) ?_
      refine q_in (by omega) (by decide) ?_
      intro b2 hb2 x8b hx8b
      rw [nI_clamp (by omega)] at hb2
      have ex8 : x8b.toInt = (v : Int) - ((c + 1) * i : Nat) := by
        rw [hx8b, lN_sub (by omega), pk_lT (by omega), Nat.succ_mul]
        omega
      refine hs2 _ _ ⟨c + 1, by omega, by omega, ex8, ?_⟩ ?_
      · rw [hb2]
        exact more_s hm (by omega)
      · rw [ex8, ea, Nat.succ_mul]
        omega
  · rw [hx8, fb_subL (by rw [pk_lT (by omega), pk_lT hi2]; omega) (by rw [pk_lT (by omega), pk_lT hi2]; omega), pk_lT (by omega), pk_lT hi2, Nat.one_mul]
