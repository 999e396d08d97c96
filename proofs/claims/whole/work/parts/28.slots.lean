/-! ===== slots of values, on numbers ===== -/
def bb (d : Nat) : Nat := if d = 1 then 5 else 8
def Sh (d v : Nat) : Nat := bl v - bb d
def Slot (d v : Nat) : Nat := Sh d v * 2 ^ (bb d - 1) + v / 2 ^ Sh d v
def ShS (d s : Nat) : Nat := s / 2 ^ (bb d - 1) - 1
def Low (d s : Nat) : Nat := (s - ShS d s * 2 ^ (bb d - 1)) * 2 ^ ShS d s
def Reach (d s : Nat) : Nat := 2 ^ ShS d s - 1
theorem bb_c {d : Nat} (hd : d = 1 ∨ d = 2) : (d = 1 ∧ bb d = 5) ∨ (d = 2 ∧ bb d = 8) := by rcases hd with h | h <;> subst h <;> simp [bb]
theorem Sh_lt (d : Nat) {v : Nat} (h : v < 2 ^ 63) : Sh d v < 64 := by
  have := bl_le h (by decide)
  unfold Sh; omega
/-- v lies, shifted, in the lower half of the row -/
theorem Slot_cut {d v : Nat} (hd : d = 1 ∨ d = 2) (h : v < 2 ^ 63) : v / 2 ^ Sh d v < 2 ^ bb d ∧ (Sh d v ≠ 0 → 2 ^ (bb d - 1) ≤ v / 2 ^ Sh d v) := by
  have h64 : v < 2 ^ 64 := Nat.lt_of_lt_of_le h (by decide)
  have a := bl_lt h64
  have hb : 5 ≤ bb d := by rcases bb_c hd with ⟨_, e⟩ | ⟨_, e⟩ <;> omega
  constructor
  · rw [Nat.div_lt_iff_lt_mul (Nat.two_pow_pos _), ← Nat.pow_add]
    refine Nat.lt_of_lt_of_le a (Nat.pow_le_pow_right (by decide) ?_)
    unfold Sh; omega
  · intro z
    have z2 : bb d < bl v := by unfold Sh at z; omega
    have hv : v ≠ 0 := by intro e; rw [e, bl_0] at z2; omega
    have ⟨b, c⟩ := bl_ge hv h64
    rw [Nat.le_div_iff_mul_le (Nat.two_pow_pos _), ← Nat.pow_add]
    rw [show bb d - 1 + Sh d v = bl v - 1 by unfold Sh; omega]
    exact c
theorem Slot_lt {d v : Nat} (hd : d = 1 ∨ d = 2) (h : v < 2 ^ 63) : Slot d v < 2 ^ 14 := by
  have ⟨a, _⟩ := Slot_cut hd h
  have b := Sh_lt d h
  unfold Slot
  rcases bb_c hd with ⟨_, e⟩ | ⟨_, e⟩ <;> rw [e] at a ⊢ <;> simp at a ⊢ <;> omega
/-! ===== the leading zeros ===== -/
theorem sp_nlz73 {m c : Nat} {Q : Int32 → Prop} (h1 : 1 ≤ m) (h2 : m < 4) (hc : 1 ≤ c) (hc2 : c < 32) (h : Q (nI (c + 1 - bl m))) : blk_J6_numberOfLeadingZeros_0f7a4_73 Q (nI m) (nI c) := by
  unfold blk_J6_numberOfLeadingZeros_0f7a4_73
  have e : ((nI m).toUInt32 >>> (((1 : Int32)).toUInt32 &&& Int32.toUInt32 31)).toInt32 = nI (m / 2 ^ 1) := pk_ushrN (by omega) 1 1 (by decide)
  rw [e, pk_sub (by omega)]
  have : c - m / 2 ^ 1 = c + 1 - bl m := by
    match m, h1, h2 with
    | 1, _, _ => have : bl 1 = 1 := by decide
                 omega
    | 2, _, _ => have : bl 2 = 2 := by decide
                 omega
    | 3, _, _ => have : bl 3 = 2 := by decide
                 omega
    | m + 4, _, h2 => exact absurd h2 (by omega)
  rw [this]
  exact h
theorem sp_nlz61 {m c : Nat} {Q : Int32 → Prop} (h1 : 1 ≤ m) (h2 : m < 16) (hc : 3 ≤ c) (hc2 : c < 32) (h : Q (nI (c + 1 - bl m))) : blk_J6_numberOfLeadingZeros_0f7a4_61 Q (nI m) (nI c) := by
  unfold blk_J6_numberOfLeadingZeros_0f7a4_61
  refine q_if (nI_ltI (b := 4) (by omega) (by decide)) (fun q => sp_nlz73 h1 q (by omega) hc2 h) (fun q => ?_)
  intro x ex y ey
  rw [ex, ey, show nI c + (-2 : Int32) = nI (c - 2) from nI_neg (b := 2) (by omega), show ((nI m).toUInt32 >>> (((2 : Int32)).toUInt32 &&& Int32.toUInt32 31)).toInt32 = nI (m / 2 ^ 2) from pk_ushrN (by omega) 2 2 (by decide)]
  have := bl_div (v := m) (k := 2) (by omega) (by omega)
  exact sp_nlz73 (by omega) (by omega) (by omega) (by omega) (by rw [show c - 2 + 1 - bl (m / 2 ^ 2) = c + 1 - bl m by omega]; exact h)
theorem sp_nlz48 {m c : Nat} {Q : Int32 → Prop} (h1 : 1 ≤ m) (h2 : m < 256) (hc : 7 ≤ c) (hc2 : c < 32) (h : Q (nI (c + 1 - bl m))) : blk_J6_numberOfLeadingZeros_0f7a4_48 Q (nI m) (nI c) := by
  unfold blk_J6_numberOfLeadingZeros_0f7a4_48
  refine q_if (nI_ltI (b := 16) (by omega) (by decide)) (fun q => sp_nlz61 h1 q (by omega) hc2 h) (fun q => ?_)
  intro x ex y ey
  rw [ex, ey, show nI c + (-4 : Int32) = nI (c - 4) from nI_neg (b := 4) (by omega), show ((nI m).toUInt32 >>> (((4 : Int32)).toUInt32 &&& Int32.toUInt32 31)).toInt32 = nI (m / 2 ^ 4) from pk_ushrN (by omega) 4 4 (by decide)]
  have := bl_div (v := m) (k := 4) (by omega) (by omega)
  exact sp_nlz61 (by omega) (by omega) (by omega) (by omega) (by rw [show c - 4 + 1 - bl (m / 2 ^ 4) = c + 1 - bl m by omega]; exact h)
theorem sp_nlz33 {m c : Nat} {Q : Int32 → Prop} (h1 : 1 ≤ m) (h2 : m < 65536) (hc : 15 ≤ c) (hc2 : c < 32) (h : Q (nI (c + 1 - bl m))) : blk_J6_numberOfLeadingZeros_0f7a4_33 Q (nI m) (nI c) := by
  unfold blk_J6_numberOfLeadingZeros_0f7a4_33
  refine q_if (nI_ltI (b := 256) (by omega) (by decide)) (fun q => sp_nlz48 h1 q (by omega) hc2 h) (fun q => ?_)
  intro x ex y ey
  rw [ex, ey, show nI c + (-8 : Int32) = nI (c - 8) from nI_neg (b := 8) (by omega), show ((nI m).toUInt32 >>> (((8 : Int32)).toUInt32 &&& Int32.toUInt32 31)).toInt32 = nI (m / 2 ^ 8) from pk_ushrN (by omega) 8 8 (by decide)]
  have := bl_div (v := m) (k := 8) (by omega) (by omega)
  exact sp_nlz48 (by omega) (by omega) (by omega) (by omega) (by rw [show c - 8 + 1 - bl (m / 2 ^ 8) = c + 1 - bl m by omega]; exact h)
theorem nI_big {n : Nat} (h : 2 ^ 31 ≤ n) (h2 : n < 2 ^ 32) : (nI n).toInt = (n : Int) - 2 ^ 32 := by
  rw [show (nI n).toInt = (nI n).toBitVec.toInt from rfl, BitVec.toInt_eq_toNat_cond, pk_tn h2, if_neg (by omega)]
  omega
theorem sp_nlz32 {m : Nat} {Q : Int32 → Prop} (h2 : m < 2 ^ 32) (h : Q (nI (32 - bl m))) : wp_J6_numberOfLeadingZeros_0f7a4 (nI m) Q := by
  unfold wp_J6_numberOfLeadingZeros_0f7a4
  have z0 : (0 : Int32).toInt = 0 := by decide
  rcases Nat.lt_or_ge m (2 ^ 31) with q | q
  · refine q_if (nI_ltI (a := 0) (by decide) q) (fun p => ?_) (fun p => ?_)
    · intro x ex
      rw [ex]
      refine q_if (nI_ltI (b := 65536) (by omega) (by decide)) (fun q => sp_nlz33 (c := 31) (by omega) q (by decide) (by decide) h) (fun q => ?_)
      intro x ex y ey
      rw [ex, ey, show (31 : Int32) + (-16 : Int32) = nI (31 - 16) from nI_neg (a := 31) (b := 16) (by omega), show ((nI m).toUInt32 >>> (((16 : Int32)).toUInt32 &&& Int32.toUInt32 31)).toInt32 = nI (m / 2 ^ 16) from pk_ushrN (by omega) 16 16 (by decide)]
      have := bl_div (v := m) (k := 16) (by omega) (by omega)
      exact sp_nlz33 (by omega) (by omega) (by omega) (by omega) (by rw [show 31 - 16 + 1 - bl (m / 2 ^ 16) = 32 - bl m by omega]; exact h)
    · have e : m = 0 := by omega
      subst e
      exact ⟨fun n => absurd rfl n, fun _ => h⟩
  · have hb := nI_big q h2
    have n1 : ¬ 0 < nI m := by rw [fa_lt]; omega
    have n2 : ¬ nI m = 0 := by rw [fa_eq]; omega
    refine ⟨fun p => absurd p n1, fun _ => ⟨fun _ => ?_, fun p => absurd p n2⟩⟩
    have : bl m = 32 := bl_uniq (k := 31) (by omega) q h2
    rw [this] at h
    exact h
theorem sp_nlz64 {v : Nat} {Q : Int32 → Prop} (h2 : v < 2 ^ 63) (h : Q (nI (64 - bl v))) : wp_J13_numberOfLeadingZeros_95d88 (lN v) Q := by
  unfold wp_J13_numberOfLeadingZeros_95d88
  intro x ex
  have e : x = nI (v / 2 ^ 32) := by
    rw [ex, show (32 : Int32) = nI 32 from rfl, wb_shr (by omega) (by decide), lN_i]
  rw [e]
  refine q_fi (nI_eq (b := 0) (by omega) (by decide)) (fun p => ?_) (fun p => ?_)
  · rw [lN_i]
    refine sp_nlz32 (by omega) ?_
    have hb : bl v ≤ 32 := bl_le (by omega) (by decide)
    rw [show (32 : Int32) = nI 32 from rfl, nI_add, show 32 + (32 - bl v) = 64 - bl v by omega]
    exact h
  · refine sp_nlz32 (by omega) ?_
    have hb := bl_div (v := v) (k := 32) (by omega) (by omega)
    rw [show 32 - bl (v / 2 ^ 32) = 64 - bl v by omega]
    exact h
/-! ===== slotOf, both ===== -/
theorem sp_X8_bitsOf {d : Nat} {Q : Int32 → Prop} (hd : d = 1 ∨ d = 2) (h : Q (nI (bb d))) : wp_X8_bitsOf (nI d) Q := by
  unfold wp_X8_bitsOf
  rcases hd with e | e <;> subst e
  · exact ⟨fun n => absurd rfl n, fun _ => h⟩
  · exact ⟨fun _ => h, fun n => absurd n (by decide)⟩
theorem sp_X7_bitsOf {d : Nat} {Q : Int32 → Prop} (hd : d = 1 ∨ d = 2) (h : Q (nI (bb d))) : wp_X7_bitsOf (nI d) Q := by
  unfold wp_X7_bitsOf
  rcases hd with e | e <;> subst e
  · exact ⟨fun n => absurd rfl n, fun _ => h⟩
  · exact ⟨fun _ => h, fun n => absurd n (by decide)⟩
theorem sp_X8_lengthOf {v : Nat} {Q : Int32 → Prop} (hv : v < 2 ^ 63) (h : Q (nI (bl v))) : wp_X8_lengthOf (lN v) Q := by
  unfold wp_X8_lengthOf
  intro x ex y ey
  rw [ex, ey]
  refine lp2 (fun n a b => lp_X8_lengthOf_4 Q n a b) (fun a b => ∃ k w, a = nI k ∧ b = lN w ∧ w < 2 ^ 63 ∧ k + bl w = bl v) (fun _ b => b.toInt.toNat) ?_ _ _ ⟨0, v, rfl, rfl, hv, by omega⟩
  intro n a b hI hs
  obtain ⟨k, w, ea, eb, hw, hk⟩ := hI
  subst ea eb
  show bod_X8_lengthOf_4 Q (fun v0 v1 => lp_X8_lengthOf_4 Q n v0 v1) (nI k) (lN w)
  unfold bod_X8_lengthOf_4
  refine q_if (pk_lLE (b := 0) hw (by decide)) (fun p => ?_) (fun p => ?_)
  · have e : w = 0 := by omega
    rw [e, bl_0] at hk
    rw [show k = bl v by omega]
    exact h
  · intro x2 e2 x3 e3
    have e4 : x3 = lN (w / 2) := by rw [e3, show (1 : Int32) = nI 1 from rfl, lN_shr hw (by decide), Nat.pow_one]
    have e5 : x2 = nI (k + 1) := by rw [e2]; exact nI_1 k
    rw [e4, e5]
    have hh := bl_half (v := w) (by omega) (by omega)
    refine hs _ _ ⟨k + 1, w / 2, rfl, rfl, by omega, by omega⟩ ?_
    rw [pk_lT hw, pk_lT (by omega)]
    omega
theorem Slot_e {d v : Nat} (hd : d = 1 ∨ d = 2) (hv : v < 2 ^ 63) : (nI (Sh d v) <<< ((nI (bb d) - (1 : Int32)) &&& 31)) + (lN v >>> ((nI (Sh d v)).toInt64 &&& 63)).toInt32 = nI (Slot d v) := by
  have hs := Sh_lt d hv
  rw [lN_shr hv hs, lN_i]
  have e : nI (Sh d v) <<< ((nI (bb d) - (1 : Int32)) &&& 31) = nI (Sh d v * 2 ^ (bb d - 1)) := by
    rcases bb_c hd with ⟨_, e⟩ | ⟨_, e⟩ <;> rw [e]
    · exact pk_shlN _ 4 (by decide) (by omega)
    · exact pk_shlN _ 7 (by decide) (by omega)
  rw [e, nI_add]
  rfl
theorem sp_X8_slotOf {d v : Nat} {Q : Int32 → Prop} (hd : d = 1 ∨ d = 2) (hv : v < 2 ^ 63) (h : Q (nI (Slot d v))) : wp_X8_slotOf (nI d) (lN v) Q := by
  unfold wp_X8_slotOf
  refine sp_X8_bitsOf hd ?_
  intro x ex
  refine sp_X8_lengthOf hv ?_
  intro y ey
  rw [ey, ex]
  have hb : bl v ≤ 63 := bl_le hv (by decide)
  have hb2 : bb d ≤ 8 := by rcases bb_c hd with ⟨_, e⟩ | ⟨_, e⟩ <;> omega
  unfold blk_X8_slotOf_21
  rcases Nat.lt_or_ge (bl v) (bb d) with q | q
  · have n := pk_sneg (b := bb d) (by omega) q
    have n2 : ¬ 0 ≤ nI (bl v) - nI (bb d) := by rw [fa_le]; rw [fa_lt] at n; omega
    refine ⟨fun p => absurd p n2, fun _ => ?_⟩
    intro z ez
    have e : z = nI (Sh d v) := by rw [ez, show Sh d v = 0 by unfold Sh; omega]; rfl
    rw [e, Slot_e hd hv]
    exact h
  · have e : nI (bl v) - nI (bb d) = nI (Sh d v) := pk_sub q
    rw [e]
    refine ⟨fun _ => ?_, fun p => absurd (nI_le (a := 0) (by omega) (by unfold Sh; omega)) p⟩
    rw [Slot_e hd hv]
    exact h
theorem sp_X7_slotOf {d v : Nat} {Q : Int32 → Prop} (hd : d = 1 ∨ d = 2) (hv : v < 2 ^ 63) (h : Q (nI (Slot d v))) : wp_X7_slotOf (nI d) (lN v) Q := by
  unfold wp_X7_slotOf
  refine sp_X7_bitsOf hd ?_
  intro x ex
  refine sp_nlz64 hv ?_
  intro y ey
  have hb : bl v ≤ 63 := bl_le hv (by decide)
  have hb2 : bb d ≤ 8 := by rcases bb_c hd with ⟨_, e⟩ | ⟨_, e⟩ <;> omega
  have e : y = nI (Sh d v) := by
    rw [ey, ex, show (64 : Int32) = nI 64 from rfl, pk_sub (by omega), show 64 - (64 - bl v) = bl v by omega, nI_max (by omega) (by omega)]
    rfl
  rw [e, ex, Slot_e hd hv]
  exact h
