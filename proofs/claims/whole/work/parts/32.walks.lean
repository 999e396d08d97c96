/-! ===== walks over the pages, sums over the places ===== -/
def nz (u : Nat → Nat) (j : Nat) : Nat := if u j = 0 then 0 else 1
theorem KOK_le {so kp : Nat} {f : Nat → Nat} (hs : so = 0 ∨ so = 1) (h : KOK so kp f) : kp ≤ 10 := by
  obtain ⟨_, a, b, _⟩ := h
  rcases hs with e | e
  · have := a e; omega
  · have := b e; omega
theorem lN_z {n : Nat} (h : n < 2 ^ 63) : (lN n = (0 : Int64)) ↔ n = 0 := pk_lEQ (b := 0) h (by decide)
theorem walk_out {u k : Nat → Nat} {N p s z : Nat} (hz : k p = 0 → ∀ i, i < 16 → u (16 * p + i) = 0) (h1 : 16 * p = z ∨ (16 * p ≤ z ∧ z ≤ min (endP N (k p) p) s)) (h2 : min (endP N (k p) p) s ≤ z) (hs : s ≤ N) : fb_sm u (min z s) = fb_sm u (min (16 * (p + 1)) s) := by
  unfold endP at h1 h2
  split at h1
  · rename_i k0
    rw [if_pos k0] at h2
    have hh : ∀ i, min z s ≤ i → i < min (16 * (p + 1)) s → u i = 0 := by
      intro i a b
      have := hz k0 (i - 16 * p) (by omega)
      rw [show 16 * p + (i - 16 * p) = i by omega] at this
      exact this
    exact (sm_ext (by omega) hh).symm
  · rename_i k0
    rw [if_neg k0] at h2
    have : min z s = min (16 * (p + 1)) s := by omega
    rw [this]
theorem sp_usedSlots {N P : Nat} {slots pages : Int32} {U : Nat → Int64} {K : Nat → Int32} {u k : Nat → Nat} {Q : Int32 → Prop} (hP : P ≤ 271) (hN : N ≤ 16 * P) (es : slots = nI N) (ep : pages = nI P) (hu : ∀ j, j < 16 * P → U j = lN (u j)) (hu63 : ∀ j, u j < 2 ^ 63) (hk : ∀ p, p < P → K p = nI (k p)) (hk31 : ∀ p, k p < 2 ^ 31) (hz : ∀ p, k p = 0 → ∀ i, i < 16 → u (16 * p + i) = 0) (h : Q (nI (fb_sm (nz u) N))) : wp_X1_usedSlots slots pages U K Q := by
  unfold wp_X1_usedSlots
  intro x ex y ey
  rw [ex, ey]
  have hnz : ∀ p, k p = 0 → ∀ i, i < 16 → nz u (16 * p + i) = 0 := fun p a i b => if_pos (hz p a i b)
  refine lp2 (fun n a b => lp_X1_usedSlots_4 slots pages U K Q n a b) (fun a b => ∃ p, p ≤ P ∧ b = nI p ∧ a = nI (fb_sm (nz u) (min (16 * p) N))) (fun _ b => P - b.toInt.toNat) ?_ _ _ ⟨0, by omega, rfl, by rw [show min (16 * 0) N = 0 by omega]; rfl⟩
  intro n a b hI ho
  obtain ⟨p, hp, eb, ea⟩ := hI
  subst eb
  show bod_X1_usedSlots_4 slots pages U K Q (fun v0 v1 => lp_X1_usedSlots_4 slots pages U K Q n v0 v1) a (nI p)
  unfold bod_X1_usedSlots_4
  rw [ep]
  refine q_if (nI_leI (by omega) (by omega)) (fun q => ?_) (fun q => ?_)
  · rw [ea, show min (16 * p) N = N by omega]; exact h
  have hpP : p < P := by omega
  refine sp_endOf (by omega) (hk p hpP) (hk31 p) es (by omega) ?_
  intro e1 he1 x6 hx6
  have hb : endP N (k p) p ≤ 16 * p + 16 := by unfold endP; split <;> omega
  have hbN : k p ≠ 0 → endP N (k p) p ≤ N := by intro k0; unfold endP; rw [if_neg k0]; omega
  rw [he1, hx6, pg16]
  refine lp2 (fun n2 a b => lp_X1_usedSlots_24 slots (nI P) U K (fun v0 v1 => lp_X1_usedSlots_4 slots (nI P) U K Q n v0 v1) Q (nI p) (nI (endP N (k p) p)) n2 a b) (fun a b => ∃ z, (16 * p = z ∨ (16 * p ≤ z ∧ z ≤ endP N (k p) p)) ∧ b = nI z ∧ a = nI (fb_sm (nz u) (min z N))) (fun _ b => 16 * p + 16 - b.toInt.toNat) ?_ _ _ ⟨16 * p, Or.inl rfl, rfl, ea⟩
  intro n2 a2 b2 hI2 hs2
  obtain ⟨z, hz1, eb2, ea2⟩ := hI2
  subst eb2
  show bod_X1_usedSlots_24 slots (nI P) U K (fun v0 v1 => lp_X1_usedSlots_4 slots (nI P) U K Q n v0 v1) Q (nI p) (nI (endP N (k p) p)) (fun v0 v1 => lp_X1_usedSlots_24 slots (nI P) U K (fun v0 v1 => lp_X1_usedSlots_4 slots (nI P) U K Q n v0 v1) Q (nI p) (nI (endP N (k p) p)) n2 v0 v1) a2 (nI z)
  unfold bod_X1_usedSlots_24
  refine q_if (nI_leI (by omega) (by omega)) (fun q2 => ?_) (fun q2 => ?_)
  · intro x4 hx4
    rw [hx4, nI_1]
    rw [ep] at ho
    refine ho _ _ ⟨p + 1, by omega, rfl, ?_⟩ ?_
    · rw [ea2]
      have : fb_sm (nz u) (min z N) = fb_sm (nz u) (min (16 * (p + 1)) N) := by
        by_cases k0 : k p = 0
        · have e0 : endP N (k p) p = 16 * p := by unfold endP; rw [if_pos k0]
          refine (sm_ext (by omega) ?_).symm
          intro i a1 b1
          have := hnz p k0 (i - 16 * p) (by omega)
          rw [show 16 * p + (i - 16 * p) = i by omega] at this
          exact this
        · have e0 : endP N (k p) p = min (16 * p + 16) N := by unfold endP; rw [if_neg k0]
          rw [show min z N = min (16 * (p + 1)) N by omega]
      rw [this]
    · rw [nI_toInt (by omega), nI_toInt (by omega)]
      omega
  · refine sp_unitsOf (by omega) ?_
    have hzN : z < N := by
      by_cases k0 : k p = 0
      · have e0 : endP N (k p) p = 16 * p := by unfold endP; rw [if_pos k0]
        omega
      · have := hbN k0; omega
    have hst : ∀ w, w = nz u z → blk_X1_usedSlots_47 slots (nI P) U K (fun v0 v1 => lp_X1_usedSlots_4 slots (nI P) U K Q n v0 v1) (fun v0 v1 => lp_X1_usedSlots_24 slots (nI P) U K (fun v0 v1 => lp_X1_usedSlots_4 slots (nI P) U K Q n v0 v1) Q (nI p) (nI (endP N (k p) p)) n2 v0 v1) Q (nI p) (nI (endP N (k p) p)) (nI z) a2 (nI w) := by
      intro w hw
      unfold blk_X1_usedSlots_47
      intro x1 hx1 x7 hx7
      rw [hx7, nI_1, hx1, ea2, nI_add]
      refine hs2 _ _ ⟨z + 1, by omega, rfl, ?_⟩ ?_
      · rw [show min z N = z by omega, show min (z + 1) N = z + 1 by omega, hw]
        rfl
      · rw [nI_toInt (by omega), nI_toInt (by omega)]
        omega
    rw [hu z (by omega)]
    refine q_fi (lN_z (hu63 z)) (fun e => hst 0 ?_) (fun e => hst 1 ?_)
    · unfold nz; rw [if_pos e]
    · unfold nz; rw [if_neg e]
theorem sp_filled {r N : Nat} {t_set : Nat → Int32} {t_units : Nat → Int64} {u : Nat → Nat} {Q : Int32 → Prop} (hr : r < 4) (hN : N ≤ 4352) (hs : t_set (4 * r + 2) = nI N) (hu : ∀ j, j < N → t_units (4352 * r + j) = lN (u j)) (hu63 : ∀ j, u j < 2 ^ 63) (h : Q (nI (fb_sm (nz u) N))) : wp_X8_filled (nI r) t_set t_units Q := by
  unfold wp_X8_filled
  intro x ex y ey
  rw [ex, ey]
  refine lp2 (fun n a b => lp_X8_filled_4 t_set t_units Q (nI r) n a b) (fun a b => ∃ i, i ≤ N ∧ b = nI i ∧ a = nI (fb_sm (nz u) i)) (fun _ b => N - b.toInt.toNat) ?_ _ _ ⟨0, by omega, rfl, rfl⟩
  intro n a b hI hs2
  obtain ⟨i, hi, eb, ea⟩ := hI
  subst ea eb
  show bod_X8_filled_4 t_set t_units Q (nI r) (fun v0 v1 => lp_X8_filled_4 t_set t_units Q (nI r) n v0 v1) (nI (fb_sm (nz u) i)) (nI i)
  unfold bod_X8_filled_4
  refine sp_of (c := 2) hr (by decide) ?_
  rw [hs]
  refine q_if (nI_leI (by omega) (by omega)) (fun q => ?_) (fun q => ?_)
  · rw [show i = N by omega]; exact h
  · have e : (4352 : Int32) * nI r + nI i = nI (4352 * r + i) := by rw [show (4352 : Int32) = nI 4352 from rfl, pk_mul, nI_add]
    rw [e]
    refine q_in (by omega) (by decide) ?_
    rw [nI_clamp (by omega), hu i (by omega)]
    have hst : ∀ w, w = nz u i → blk_X8_filled_37 t_set t_units (fun v0 v1 => lp_X8_filled_4 t_set t_units Q (nI r) n v0 v1) Q (nI r) (nI i) (nI (fb_sm (nz u) i)) (nI w) := by
      intro w hw
      unfold blk_X8_filled_37
      intro x1 hx1 x7 hx7
      rw [hx7, nI_1, hx1, nI_add]
      refine hs2 _ _ ⟨i + 1, by omega, rfl, ?_⟩ ?_
      · rw [hw]; rfl
      · rw [nI_toInt (by omega), nI_toInt (by omega)]
        omega
    refine q_if (pk_lLE (b := 0) (hu63 i) (by decide)) (fun e => hst 0 ?_) (fun e => hst 1 ?_)
    · unfold nz; rw [if_pos (by omega)]
    · unfold nz; rw [if_neg (by omega)]
/-! ===== the rooms of the pages ===== -/
def byt (k : Nat) : Nat := if k = 1 then 16 else if k = 2 then 16 else if k = 3 then 32 else if k = 4 then 32 else if k = 5 then 64 else if k = 6 then 128 else if k = 7 then 64 else if k = 8 then 128 else if k = 9 then 8 else if k = 10 then 32 else 0
theorem byt_e : ∀ k, k < 11 → stB.getD k 0 = nI (byt k) := by decide
theorem sp_roomOf {k : Nat} {Q : Int32 → Prop} (hk : k < 11) (h : Q (nI (byt k))) : wp_X8_roomOf (nI k) Q := by
  unfold wp_X8_roomOf
  rw [nI_toInt (by omega)]
  have e1 : nI (byt 1) = 16 := by decide
  have e2 : nI (byt 2) = 16 := by decide
  have e3 : nI (byt 3) = 32 := by decide
  have e4 : nI (byt 4) = 32 := by decide
  have e5 : nI (byt 5) = 64 := by decide
  have e6 : nI (byt 6) = 128 := by decide
  have e7 : nI (byt 7) = 64 := by decide
  have e8 : nI (byt 8) = 128 := by decide
  have e9 : nI (byt 9) = 8 := by decide
  have e10 : nI (byt 10) = 32 := by decide
  have e0 : nI (byt 0) = 0 := by decide
  exact ⟨fun e => (by rw [show k = 1 by omega, e1] at h; exact h), fun e => (by rw [show k = 2 by omega, e2] at h; exact h), fun e => (by rw [show k = 3 by omega, e3] at h; exact h), fun e => (by rw [show k = 4 by omega, e4] at h; exact h), fun e => (by rw [show k = 5 by omega, e5] at h; exact h), fun e => (by rw [show k = 6 by omega, e6] at h; exact h), fun e => (by rw [show k = 7 by omega, e7] at h; exact h), fun e => (by rw [show k = 8 by omega, e8] at h; exact h), fun e => (by rw [show k = 9 by omega, e9] at h; exact h), fun e => (by rw [show k = 10 by omega, e10] at h; exact h), fun e => (by rw [show k = 0 by omega, e0] at h; exact h)⟩
theorem sp_pagesOf {r d h : Nat} {t_set : Nat → Int32} {Q : Int32 → Prop} (hr : r < 4) (hd : d = 1 ∨ d = 2) (hh : h ≤ 1000000000000) (hs : t_set (4 * r + 2) = nI (Slot d h + 1)) (h0 : Q (nI (PG d h))) : wp_X8_pagesOf (nI r) t_set Q := by
  unfold wp_X8_pagesOf
  refine sp_of (c := 2) hr (by decide) ?_
  have ⟨a, _⟩ := Slot_le hd hh
  rw [hs, show (16 : Int32) = nI 16 from rfl, nI_add, show (1 : Int32) = nI 1 from rfl, pk_sub (by omega), pk_div (by omega) (by decide) (by decide), show (Slot d h + 1 + 16 - 1) / 16 = PG d h by unfold PG; omega]
  exact h0
theorem sp_bytesOfPages {P : Nat} {pages : Int32} {K : Nat → Int32} {k : Nat → Nat} {Q : Int32 → Prop} (hP : P ≤ 271) (ep : pages = nI P) (hk : ∀ p, p < P → K p = nI (k p)) (hk11 : ∀ p, k p < 11) (h : Q (nI (fb_sm (fun p => byt (k p)) P))) : wp_X1_bytesOfPages pages K Q := by
  unfold wp_X1_bytesOfPages
  intro x ex y ey
  rw [ex, ey]
  refine lp2 (fun n a b => lp_X1_bytesOfPages_4 pages K Q n a b) (fun a b => ∃ i, i ≤ P ∧ b = nI i ∧ a = nI (fb_sm (fun p => byt (k p)) i)) (fun _ b => P - b.toInt.toNat) ?_ _ _ ⟨0, by omega, rfl, rfl⟩
  intro n a b hI hs2
  obtain ⟨i, hi, eb, ea⟩ := hI
  subst ea eb
  show bod_X1_bytesOfPages_4 pages K Q (fun v0 v1 => lp_X1_bytesOfPages_4 pages K Q n v0 v1) _ (nI i)
  unfold bod_X1_bytesOfPages_4
  rw [ep]
  refine q_if (nI_leI (by omega) (by omega)) (fun q => ?_) (fun q => ?_)
  · rw [show i = P by omega]; exact h
  · refine sp_kindOf (by omega) ?_
    intro x3 hx3
    have h11 := hk11 i
    rw [hx3, hk i (by omega)]
    refine ⟨fun n => absurd n (nI_nneg (by omega)), fun _ => q_if (nI_leI (a := 11) (by decide) (by omega)) (fun q => absurd q (by omega)) (fun q => ?_)⟩
    refine q_in (by omega) (by decide) ?_
    rw [nI_clamp (by omega), byt_e _ h11]
    unfold blk_X1_bytesOfPages_40
    intro x1 hx1 x7 hx7
    rw [hx7, nI_1, hx1, nI_add]
    rw [ep] at hs2
    refine hs2 _ _ ⟨i + 1, by omega, rfl, rfl⟩ ?_
    rw [nI_toInt (by omega), nI_toInt (by omega)]
    omega
theorem sp_room {r d h : Nat} {t_set t_kinds : Nat → Int32} {k : Nat → Nat} {Q : Int32 → Prop} (hr : r < 4) (hd : d = 1 ∨ d = 2) (hh : h ≤ 1000000000000) (hm : t_set (4 * r + 3) = 1) (hs : t_set (4 * r + 2) = nI (Slot d h + 1)) (hk : ∀ p, p < PG d h → t_kinds (272 * r + p) = nI (k p)) (hk11 : ∀ p, k p < 11) (h0 : Q (nI (fb_sm (fun p => byt (k p)) (PG d h)))) : wp_X8_room (nI r) t_set t_kinds Q := by
  unfold wp_X8_room
  refine sp_isMade_in hr hm (q1a ?_)
  intro x ex y ey
  rw [ex, ey]
  have ⟨b1, b2, b3, b4⟩ := PG_b hd hh
  refine lp2 (fun n a b => lp_X8_room_14 t_set t_kinds Q (nI r) n a b) (fun a b => ∃ i, i ≤ PG d h ∧ b = nI i ∧ a = nI (fb_sm (fun p => byt (k p)) i)) (fun _ b => PG d h - b.toInt.toNat) ?_ _ _ ⟨0, by omega, rfl, rfl⟩
  intro n a b hI hs2
  obtain ⟨i, hi, eb, ea⟩ := hI
  subst ea eb
  show bod_X8_room_14 t_set t_kinds Q (nI r) (fun v0 v1 => lp_X8_room_14 t_set t_kinds Q (nI r) n v0 v1) _ (nI i)
  unfold bod_X8_room_14
  refine sp_pagesOf hr hd hh hs ?_
  refine q_if (nI_leI (by omega) (by omega)) (fun q => ?_) (fun q => ?_)
  · rw [show i = PG d h by omega]; exact h0
  · have e : (272 : Int32) * nI r + nI i = nI (272 * r + i) := by rw [show (272 : Int32) = nI 272 from rfl, pk_mul, nI_add]
    rw [e]
    refine q_in (by omega) (by decide) ?_
    rw [nI_clamp (by omega), hk i (by omega)]
    refine sp_roomOf (hk11 i) ?_
    intro x1 hx1 x7 hx7
    rw [hx7, nI_1, hx1, nI_add]
    refine hs2 _ _ ⟨i + 1, by omega, rfl, rfl⟩ ?_
    rw [nI_toInt (by omega), nI_toInt (by omega)]
    omega
/-! ===== marks ===== -/
theorem mk1 {m : Nat} (h : m < 2 ^ 30) : (nI m - (1 : Int32) = -1) ↔ m = 0 := by
  have e1 : (1 : Int32).toInt = 1 := by decide
  have e2 : (-1 : Int32).toInt = -1 := by decide
  have e3 : (nI m - (1 : Int32)).toInt = (m : Int) - 1 := by rw [fb_subI (by rw [nI_toInt (by omega)]; omega) (by rw [nI_toInt (by omega)]; omega), nI_toInt (by omega), e1]
  rw [fa_eq, e3, e2]
  omega
theorem sp_marksInAll {P : Nat} {pages : Int32} {M : Nat → Int32} {m : Nat → Nat} {Q : Int32 → Prop} (hP : P ≤ 271) (ep : pages = nI P) (hm : ∀ j, j < 16 * P → M j = nI (m j)) (hm2 : ∀ j, m j < 2 ^ 30) (h : Q (nI (fb_sm (nz m) (16 * P)))) : wp_X1_marksInAll pages M Q := by
  unfold wp_X1_marksInAll
  intro x ex y ey
  rw [ex, ey]
  refine lp2 (fun n a b => lp_X1_marksInAll_4 pages M Q n a b) (fun a b => ∃ i, i ≤ 16 * P ∧ b = nI i ∧ a = nI (fb_sm (nz m) i)) (fun _ b => 16 * P - b.toInt.toNat) ?_ _ _ ⟨0, by omega, rfl, rfl⟩
  intro n a b hI hs2
  obtain ⟨i, hi, eb, ea⟩ := hI
  subst ea eb
  show bod_X1_marksInAll_4 pages M Q (fun v0 v1 => lp_X1_marksInAll_4 pages M Q n v0 v1) _ (nI i)
  unfold bod_X1_marksInAll_4
  rw [ep, pg16]
  refine q_if (nI_leI (by omega) (by omega)) (fun q => ?_) (fun q => ?_)
  · rw [show i = 16 * P by omega]; exact h
  · refine sp_markOf (by omega) ?_
    rw [hm i (by omega)]
    have hst : ∀ w, w = nz m i → blk_X1_marksInAll_27 (nI P) M (fun v0 v1 => lp_X1_marksInAll_4 (nI P) M Q n v0 v1) Q (nI (fb_sm (nz m) i + w)) (nI i) := by
      intro w hw
      unfold blk_X1_marksInAll_27
      intro x7 hx7
      rw [hx7, nI_1]
      rw [ep] at hs2
      refine hs2 _ _ ⟨i + 1, by omega, rfl, ?_⟩ ?_
      · rw [hw]; rfl
      · rw [nI_toInt (by omega), nI_toInt (by omega)]
        omega
    refine q_if (mk1 (hm2 i)) (fun e => hst 0 ?_) (fun e => ?_)
    · unfold nz; rw [if_pos e]
    · intro x1 hx1
      rw [hx1, nI_1]
      exact hst 1 (by unfold nz; rw [if_neg e])
theorem sp_examples {r : Nat} {t_set t_side : Nat → Int32} {m : Nat → Nat} {Q : Int32 → Prop} (hr : r < 4) (hm1 : t_set (4 * r + 3) = 1) (hm : ∀ j, j < 4352 → t_side (4352 * r + j) = nI (m j)) (hm2 : ∀ j, m j < 2 ^ 30) (h0 : Q (nI (fb_sm (nz m) 4352))) : wp_X8_examples (nI r) t_set t_side Q := by
  unfold wp_X8_examples
  refine sp_isMade_in hr hm1 (q1a ?_)
  intro x ex y ey
  rw [ex, ey]
  refine lp2 (fun n a b => lp_X8_examples_14 t_set t_side Q (nI r) n a b) (fun a b => ∃ i, i ≤ 4352 ∧ b = nI i ∧ a = nI (fb_sm (nz m) i)) (fun _ b => 4352 - b.toInt.toNat) ?_ _ _ ⟨0, by omega, rfl, rfl⟩
  intro n a b hI hs2
  obtain ⟨i, hi, eb, ea⟩ := hI
  subst ea eb
  show bod_X8_examples_14 t_set t_side Q (nI r) (fun v0 v1 => lp_X8_examples_14 t_set t_side Q (nI r) n v0 v1) _ (nI i)
  unfold bod_X8_examples_14
  refine q_if (nI_leI (a := 4352) (by decide) (by omega)) (fun q => ?_) (fun q => ?_)
  · rw [show i = 4352 by omega]; exact h0
  · have e : (4352 : Int32) * nI r + nI i = nI (4352 * r + i) := by rw [show (4352 : Int32) = nI 4352 from rfl, pk_mul, nI_add]
    rw [e]
    refine q_in (by omega) (by decide) ?_
    have hb := hm2 i
    rw [nI_clamp (by omega), hm i (by omega)]
    have hst : ∀ w, w = nz m i → blk_X8_examples_42 t_set t_side (fun v0 v1 => lp_X8_examples_14 t_set t_side Q (nI r) n v0 v1) Q (nI r) (nI i) (nI (fb_sm (nz m) i)) (nI w) := by
      intro w hw
      unfold blk_X8_examples_42
      intro x1 hx1 x7 hx7
      rw [hx7, nI_1, hx1, nI_add]
      refine hs2 _ _ ⟨i + 1, by omega, rfl, ?_⟩ ?_
      · rw [hw]; rfl
      · rw [nI_toInt (by omega), nI_toInt (by omega)]
        omega
    refine q_if (nI_leI (b := 0) (by omega) (by decide)) (fun e => hst 0 ?_) (fun e => hst 1 ?_)
    · unfold nz; rw [if_pos (by omega)]
    · unfold nz; rw [if_neg (by omega)]
