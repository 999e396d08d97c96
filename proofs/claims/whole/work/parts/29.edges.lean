/-! ===== shiftOf, lowOf, highOf, middleOf, both ===== -/
theorem bb_p {d : Nat} (hd : d = 1 ∨ d = 2) : (bb d = 5 ∧ 2 ^ (bb d - 1) = 16) ∨ (bb d = 8 ∧ 2 ^ (bb d - 1) = 128) := by rcases hd with h | h <;> subst h <;> simp [bb]
theorem ShS_mul (d s : Nat) : ShS d s * 2 ^ (bb d - 1) ≤ s := by
  unfold ShS
  have p := Nat.two_pow_pos (bb d - 1)
  have := Nat.div_mul_le_self s (2 ^ (bb d - 1))
  have h2 : (s / 2 ^ (bb d - 1) - 1) * 2 ^ (bb d - 1) ≤ s / 2 ^ (bb d - 1) * 2 ^ (bb d - 1) := Nat.mul_le_mul_right _ (Nat.sub_le _ _)
  omega
theorem ShS_Slot {d v : Nat} (hd : d = 1 ∨ d = 2) (h : v < 2 ^ 63) : ShS d (Slot d v) = Sh d v := by
  have ⟨a, b⟩ := Slot_cut hd h
  unfold ShS Slot
  rcases bb_p hd with ⟨e, e2⟩ | ⟨e, e2⟩ <;> rw [e2] at b ⊢ <;> rw [e] at a
  · by_cases z : Sh d v = 0
    · rw [z] at a ⊢; simp at a ⊢; omega
    · have := b z; simp at a; omega
  · by_cases z : Sh d v = 0
    · rw [z] at a ⊢; simp at a ⊢; omega
    · have := b z; simp at a; omega
theorem ShS_lt63 {d v : Nat} (hd : d = 1 ∨ d = 2) (h : v < 2 ^ 63) : ShS d (Slot d v) < 63 := by
  rw [ShS_Slot hd h]
  have := bl_le h (by decide)
  unfold Sh
  rcases bb_p hd with ⟨e, _⟩ | ⟨e, _⟩ <;> omega
theorem sp_X8_shiftOf {d s : Nat} {Q : Int32 → Prop} (hd : d = 1 ∨ d = 2) (hs : s < 2 ^ 30) (h : Q (nI (ShS d s))) : wp_X8_shiftOf (nI d) (nI s) Q := by
  unfold wp_X8_shiftOf
  refine sp_X8_bitsOf hd ?_
  intro x ex
  have e : x = nI (2 ^ (bb d - 1)) := by
    rw [ex]
    rcases bb_p hd with ⟨e, _⟩ | ⟨e, _⟩ <;> rw [e] <;> decide
  rw [e, show (2 : Int32) * nI (2 ^ (bb d - 1)) = nI (2 * 2 ^ (bb d - 1)) from pk_mul 2 _]
  unfold ShS at h
  rcases bb_p hd with ⟨_, e⟩ | ⟨_, e⟩ <;> rw [e] at h ⊢
  · refine q_if (nI_leI (by omega) (by omega)) (fun p => ⟨by decide, ?_⟩) (fun p => ?_)
    · rw [pk_div (by omega) (by decide) (by decide), show (1 : Int32) = nI 1 from rfl, pk_sub (by omega)]
      exact h
    · rw [show s / 16 - 1 = 0 by omega] at h; exact h
  · refine q_if (nI_leI (by omega) (by omega)) (fun p => ⟨by decide, ?_⟩) (fun p => ?_)
    · rw [pk_div (by omega) (by decide) (by decide), show (1 : Int32) = nI 1 from rfl, pk_sub (by omega)]
      exact h
    · rw [show s / 128 - 1 = 0 by omega] at h; exact h
theorem sp_X7_shiftOf {d s : Nat} {Q : Int32 → Prop} (hd : d = 1 ∨ d = 2) (hs : s < 2 ^ 30) (h : Q (nI (ShS d s))) : wp_X7_shiftOf (nI (bb d)) (nI s) Q := by
  unfold wp_X7_shiftOf
  have e : nI s >>> ((nI (bb d) - (1 : Int32)) &&& 31) = nI (s / 2 ^ (bb d - 1)) := by
    rcases bb_c hd with ⟨_, e⟩ | ⟨_, e⟩ <;> rw [e]
    · exact pk_shrN (by omega) _ 4 (by decide)
    · exact pk_shrN (by omega) _ 7 (by decide)
  have h2 : s / 2 ^ (bb d - 1) ≤ s := Nat.div_le_self _ _
  rw [e, show (1 : Int32) = nI 1 from rfl, nI_max (by omega) (by decide)]
  exact h
theorem ShS_le (d s : Nat) : ShS d s ≤ s := by
  have h2 : s / 2 ^ (bb d - 1) ≤ s := Nat.div_le_self _ _
  unfold ShS; omega
theorem Low_e {d s : Nat} (hd : d = 1 ∨ d = 2) (hs : s < 2 ^ 20) (h64 : ShS d s < 64) : ((nI s - (nI (ShS d s) <<< ((nI (bb d) - (1 : Int32)) &&& 31))).toInt64) <<< ((nI (ShS d s)).toInt64 &&& 63) = lN (Low d s) := by
  have hm := ShS_mul d s
  have e : nI (ShS d s) <<< ((nI (bb d) - (1 : Int32)) &&& 31) = nI (ShS d s * 2 ^ (bb d - 1)) := by
    rcases bb_c hd with ⟨_, e⟩ | ⟨_, e⟩ <;> rw [e]
    · exact pk_shlN _ 4 (by decide) (by omega)
    · exact pk_shlN _ 7 (by decide) (by omega)
  rw [e, pk_sub hm, nI_l (by omega), wb_shl _ h64]
  rfl
theorem sp_X8_lowOf {d s : Nat} {Q : Int64 → Prop} (hd : d = 1 ∨ d = 2) (hs : s < 2 ^ 20) (h64 : ShS d s < 64) (h : Q (lN (Low d s))) : wp_X8_lowOf (nI d) (nI s) Q := by
  unfold wp_X8_lowOf
  refine sp_X8_shiftOf hd (by omega) ?_
  intro x ex
  refine sp_X8_bitsOf hd ?_
  rw [ex, Low_e hd hs h64]
  exact h
theorem sp_X7_lowOf {d s : Nat} {Q : Int64 → Prop} (hd : d = 1 ∨ d = 2) (hs : s < 2 ^ 20) (h64 : ShS d s < 64) (h : Q (lN (Low d s))) : wp_X7_lowOf (nI d) (nI s) Q := by
  unfold wp_X7_lowOf
  refine sp_X7_bitsOf hd ?_
  intro x ex
  rw [ex]
  refine sp_X7_shiftOf hd (by omega) ?_
  intro y ey
  rw [ey, Low_e hd hs h64]
  exact h
theorem Reach_e {d s : Nat} (h64 : ShS d s < 64) : ((1 : Int64) <<< ((nI (ShS d s)).toInt64 &&& 63)) - (1 : Int64) = lN (Reach d s) := by
  have p := Nat.two_pow_pos (ShS d s)
  rw [show (1 : Int64) = lN 1 from rfl, wb_shl _ h64, Nat.one_mul, lN_sub (by omega)]
  rfl
theorem Reach_lt {d s : Nat} (h : ShS d s < 63) : Reach d s < 2 ^ 63 := by
  have := wb_lt2 h
  unfold Reach; omega
theorem sp_X8_highOf {d s : Nat} {Q : Int64 → Prop} (hd : d = 1 ∨ d = 2) (hs : s < 2 ^ 20) (h64 : ShS d s < 64) (h : Q (lN (Low d s + Reach d s))) : wp_X8_highOf (nI d) (nI s) Q := by
  unfold wp_X8_highOf
  refine sp_X8_lowOf hd hs h64 ?_
  refine sp_X8_shiftOf hd (by omega) ?_
  rw [Reach_e h64, lN_add]
  exact h
theorem sp_X7_reachOf {d s : Nat} {Q : Int64 → Prop} (hd : d = 1 ∨ d = 2) (hs : s < 2 ^ 20) (h64 : ShS d s < 64) (h : Q (lN (Reach d s))) : wp_X7_reachOf (nI d) (nI s) Q := by
  unfold wp_X7_reachOf
  refine sp_X7_bitsOf hd ?_
  refine sp_X7_shiftOf hd (by omega) ?_
  rw [Reach_e h64]
  exact h
theorem sp_X7_highOf {d s : Nat} {Q : Int64 → Prop} (hd : d = 1 ∨ d = 2) (hs : s < 2 ^ 20) (h64 : ShS d s < 64) (h : Q (lN (Low d s + Reach d s))) : wp_X7_highOf (nI d) (nI s) Q := by
  unfold wp_X7_highOf
  refine sp_X7_lowOf hd hs h64 ?_
  refine sp_X7_reachOf hd hs h64 ?_
  rw [lN_add]
  exact h
theorem sp_X8_middleOf {d s : Nat} {Q : Int64 → Prop} (hd : d = 1 ∨ d = 2) (hs : s < 2 ^ 20) (h64 : ShS d s < 63) (h : Q (lN (Low d s + Reach d s / 2))) : wp_X8_middleOf (nI d) (nI s) Q := by
  unfold wp_X8_middleOf
  refine sp_X8_lowOf hd hs (by omega) ?_
  refine sp_X8_shiftOf hd (by omega) ?_
  rw [Reach_e (by omega), show (2 : Int64) = lN 2 from rfl, pk_lDiv (Reach_lt h64) (by decide) (by decide), lN_add]
  exact h
theorem sp_X7_middleOf {d s : Nat} {Q : Int64 → Prop} (hd : d = 1 ∨ d = 2) (hs : s < 2 ^ 20) (h64 : ShS d s < 63) (h : Q (lN (Low d s + Reach d s / 2))) : wp_X7_middleOf (nI d) (nI s) Q := by
  unfold wp_X7_middleOf
  refine sp_X7_lowOf hd hs (by omega) ?_
  refine sp_X7_reachOf hd hs (by omega) ?_
  rw [show (2 : Int64) = lN 2 from rfl, pk_lDiv (Reach_lt h64) (by decide) (by decide), lN_add]
  exact h
/-! ===== slot and edge ===== -/
theorem dig_of {p : Int32} (h1 : 1 ≤ p.toInt) (h2 : p.toInt ≤ 2) : ∃ d, (d = 1 ∨ d = 2) ∧ p = nI d := by
  rcases (show p.toInt = 1 ∨ p.toInt = 2 by omega) with h | h
  · exact ⟨1, Or.inl rfl, Int32.toInt_inj.mp (by rw [h]; decide)⟩
  · exact ⟨2, Or.inr rfl, Int32.toInt_inj.mp (by rw [h]; decide)⟩
theorem lon_of {p : Int64} (h : 0 ≤ p.toInt) : ∃ v, v < 2 ^ 63 ∧ p = lN v := by
  have z : (0 : Int64).toInt = 0 := by decide
  exact pk_lOf (by rw [fa_lt64]; omega)
theorem sp_X7_slot {p0 : Int32} {p1 : Int64} {Q : Int32 → Prop} (h1 : ∀ d v, (d = 1 ∨ d = 2) → v < 2 ^ 63 → p0 = nI d → p1 = lN v → Q (nI (Slot d v))) (h2 : (p0.toInt < 1 ∨ 2 < p0.toInt ∨ p1.toInt < 0) → Q (-1)) : wp_X7_slot p0 p1 Q := by
  unfold wp_X7_slot
  have a1 : (1 : Int32).toInt = 1 := by decide
  have a2 : (2 : Int32).toInt = 2 := by decide
  have a3 : (0 : Int64).toInt = 0 := by decide
  refine q_if (fa_lt _ _) (fun p => h2 (by omega)) (fun p => q_if (fa_lt _ _) (fun q => h2 (by omega)) (fun q => q_if (fa_le64 _ _) (fun r => ?_) (fun r => h2 (by omega))))
  obtain ⟨d, hd, e⟩ := dig_of (p := p0) (by omega) (by omega)
  obtain ⟨v, hv, e2⟩ := lon_of (p := p1) (by omega)
  have := h1 d v hd hv e e2
  rw [e, e2]
  exact sp_X7_slotOf hd hv this
theorem sp_X8_slot_in {d v : Nat} {Q : Int32 → Prop} (hd : d = 1 ∨ d = 2) (hv : v < 2 ^ 63) (h : Q (nI (Slot d v))) : wp_X8_slot (nI d) (lN v) Q := by
  unfold wp_X8_slot
  have hd2 : d < 2 ^ 31 := by omega
  have a1 : (1 : Int64).toInt = 1 := by decide
  have a2 : (2 : Int64).toInt = 2 := by decide
  have e : (nI d).toInt64.toInt = d := by rw [nI_l hd2, pk_lT (by omega)]
  refine sp_isIn (fun _ _ => q1b ?_) (fun o => absurd o (by omega))
  refine ⟨fun n => absurd n ?_, fun _ => sp_X8_slotOf hd hv h⟩
  rw [fa_lt64, pk_lT hv]
  have : (0 : Int64).toInt = 0 := by decide
  omega
theorem sp_X8_slot_out {p0 : Int32} {p1 : Int64} {Q : Int32 → Prop} (o : p0.toInt < 1 ∨ 2 < p0.toInt ∨ p1.toInt < 0) (h : Q (-1)) : wp_X8_slot p0 p1 Q := by
  unfold wp_X8_slot
  have a1 : (1 : Int64).toInt = 1 := by decide
  have a2 : (2 : Int64).toInt = 2 := by decide
  have a3 : (0 : Int64).toInt = 0 := by decide
  have e : p0.toInt64.toInt = p0.toInt := Int32.toInt_toInt64 p0
  refine sp_isIn (fun _ _ => q1b ?_) (fun _ => q0b h)
  refine ⟨fun _ => h, fun n => absurd ?_ n⟩
  rw [fa_lt64]
  omega
theorem stp_slot (Inv) : Stp_slot Inv := by
  unfold Stp_slot
  intro p0 p1
  intros
  rename_i hI
  refine sp_X7_slot (fun d v hd hv e e2 => ?_) (fun o => ?_)
  · rw [e, e2]
    exact sp_X8_slot_in hd hv ⟨rfl, hI⟩
  · exact sp_X8_slot_out o ⟨rfl, hI⟩
theorem what_of {p : Int32} (h1 : 0 ≤ p.toInt) (h2 : p.toInt ≤ 2) : p = nI 0 ∨ p = nI 1 ∨ p = nI 2 := by
  rcases (show p.toInt = 0 ∨ p.toInt = 1 ∨ p.toInt = 2 by omega) with h | h | h
  · exact Or.inl (Int32.toInt_inj.mp (by rw [h]; decide))
  · exact Or.inr (Or.inl (Int32.toInt_inj.mp (by rw [h]; decide)))
  · exact Or.inr (Or.inr (Int32.toInt_inj.mp (by rw [h]; decide)))
def Edge (d v w : Nat) : Nat := if w = 0 then Low d (Slot d v) else if w = 1 then Low d (Slot d v) + Reach d (Slot d v) else Low d (Slot d v) + Reach d (Slot d v) / 2
theorem sp_X7_edge {p0 : Int32} {p1 : Int64} {p2 : Int32} {Q : Int64 → Prop} (h1 : ∀ d v w, (d = 1 ∨ d = 2) → v < 2 ^ 63 → w < 3 → p0 = nI d → p1 = lN v → p2 = nI w → Q (lN (Edge d v w))) (h2 : (p0.toInt < 1 ∨ 2 < p0.toInt ∨ p1.toInt < 0 ∨ p2.toInt < 0 ∨ 2 < p2.toInt) → Q (-1)) : wp_X7_edge p0 p1 p2 Q := by
  unfold wp_X7_edge
  have a0 : (0 : Int32).toInt = 0 := by decide
  have a1 : (1 : Int32).toInt = 1 := by decide
  have a2 : (2 : Int32).toInt = 2 := by decide
  have a3 : (0 : Int64).toInt = 0 := by decide
  refine q_if (fa_lt _ _) (fun p => h2 (by omega)) (fun p => q_if (fa_lt _ _) (fun q => h2 (by omega)) (fun q => q_if (fa_lt64 _ _) (fun r => h2 (by omega)) (fun r => q_if (fa_lt _ _) (fun t => h2 (by omega)) (fun t => q_if (fa_le _ _) (fun u => ?_) (fun u => h2 (by omega))))))
  obtain ⟨d, hd, e⟩ := dig_of (p := p0) (by omega) (by omega)
  obtain ⟨v, hv, e2⟩ := lon_of (p := p1) (by omega)
  have hw := what_of (p := p2) (by omega) (by omega)
  have hS := Slot_lt hd hv
  have h63 := ShS_lt63 hd hv
  rw [e, e2]
  refine sp_X7_slotOf hd hv ?_
  intro x ex
  rw [ex]
  rcases hw with e3 | e3 | e3
  · have := h1 d v 0 hd hv (by decide) e e2 e3
    rw [e3]
    exact ⟨fun n => absurd rfl n, fun _ => sp_X7_lowOf hd (by omega) (by omega) this⟩
  · have := h1 d v 1 hd hv (by decide) e e2 e3
    rw [e3]
    exact ⟨fun _ => ⟨fun n => absurd rfl n, fun _ => sp_X7_highOf hd (by omega) (by omega) this⟩, fun n => absurd n (by decide)⟩
  · have := h1 d v 2 hd hv (by decide) e e2 e3
    rw [e3]
    exact ⟨fun _ => ⟨fun _ => sp_X7_middleOf hd (by omega) (by omega) this, fun n => absurd n (by decide)⟩, fun n => absurd n (by decide)⟩
theorem sp_X8_edge_in {d v w : Nat} {Q : Int64 → Prop} (hd : d = 1 ∨ d = 2) (hv : v < 2 ^ 63) (hw : w < 3) (h : Q (lN (Edge d v w))) : wp_X8_edge (nI d) (lN v) (nI w) Q := by
  unfold wp_X8_edge
  have hd2 : d < 2 ^ 31 := by omega
  have hS := Slot_lt hd hv
  have h63 := ShS_lt63 hd hv
  have a1 : (1 : Int64).toInt = 1 := by decide
  have a2 : (2 : Int64).toInt = 2 := by decide
  have a0 : (0 : Int64).toInt = 0 := by decide
  have e : (nI d).toInt64.toInt = d := by rw [nI_l hd2, pk_lT (by omega)]
  have e2 : (nI w).toInt64.toInt = w := by rw [nI_l (by omega), pk_lT (by omega)]
  refine sp_isIn (fun _ _ => q1b ?_) (fun o => absurd o (by omega))
  refine ⟨fun n => absurd n ?_, fun _ => ?_⟩
  · rw [fa_lt64, pk_lT hv]; omega
  refine sp_isIn (fun _ _ => q1a ?_) (fun o => absurd o (by omega))
  refine sp_X8_slotOf hd hv ?_
  intro x ex
  rw [ex]
  match w, hw with
  | 0, _ => exact ⟨fun n => absurd rfl n, fun _ => sp_X8_lowOf hd (by omega) (by omega) h⟩
  | 1, _ => exact ⟨fun _ => ⟨fun n => absurd rfl n, fun _ => sp_X8_highOf hd (by omega) (by omega) h⟩, fun n => absurd n (by decide)⟩
  | 2, _ => exact ⟨fun _ => ⟨fun _ => sp_X8_middleOf hd (by omega) (by omega) h, fun n => absurd n (by decide)⟩, fun n => absurd n (by decide)⟩
  | w + 3, hw => exact absurd hw (by omega)
theorem sp_X8_edge_out {p0 : Int32} {p1 : Int64} {p2 : Int32} {Q : Int64 → Prop} (o : p0.toInt < 1 ∨ 2 < p0.toInt ∨ p1.toInt < 0 ∨ p2.toInt < 0 ∨ 2 < p2.toInt) (h : Q (-1)) : wp_X8_edge p0 p1 p2 Q := by
  unfold wp_X8_edge
  have a1 : (1 : Int64).toInt = 1 := by decide
  have a2 : (2 : Int64).toInt = 2 := by decide
  have a3 : (0 : Int64).toInt = 0 := by decide
  have e : p0.toInt64.toInt = p0.toInt := Int32.toInt_toInt64 p0
  have e2 : p2.toInt64.toInt = p2.toInt := Int32.toInt_toInt64 p2
  refine sp_isIn (fun _ _ => q1b ?_) (fun _ => q0b h)
  refine q_if (fa_lt64 _ _) (fun _ => h) (fun n => ?_)
  exact sp_isIn (fun _ _ => absurd o (by omega)) (fun _ => q0a h)
theorem stp_edge (Inv) : Stp_edge Inv := by
  unfold Stp_edge
  intro p0 p1 p2
  intros
  rename_i hI
  refine sp_X7_edge (fun d v w hd hv hw e e2 e3 => ?_) (fun o => ?_)
  · rw [e, e2, e3]
    exact sp_X8_edge_in hd hv hw ⟨rfl, hI⟩
  · exact sp_X8_edge_out o ⟨rfl, hI⟩
