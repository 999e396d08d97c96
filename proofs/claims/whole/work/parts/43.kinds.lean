/-! ===== kinds of rows: the first that holds so much ===== -/
def kff : Nat → Nat → Nat → Nat
  | 0, k, _ => k
  | f + 1, k, v => if v ≤ cap k then k else kff f (k + 1) v
def kf (k v : Nat) : Nat := kff 8 k v
def kst (so : Nat) : Nat := if so = 0 then 1 else 7
def Rk (so k : Nat) : Prop := (so = 0 ∧ 1 ≤ k ∧ k ≤ 6) ∨ (so = 1 ∧ 7 ≤ k ∧ k ≤ 8)
theorem kff_spec : ∀ (f k v : Nat), (∃ j, k ≤ j ∧ j ≤ k + f ∧ v ≤ cap j) → k ≤ kff f k v ∧ v ≤ cap (kff f k v) ∧ ∀ i, k ≤ i → i < kff f k v → cap i < v
  | 0, k, v, ⟨j, h1, h2, h3⟩ => by
    have : j = k := by omega
    subst this
    exact ⟨Nat.le_refl _, h3, fun i a b => absurd (show i < j from b) (by omega)⟩
  | f + 1, k, v, ⟨j, h1, h2, h3⟩ => by
    unfold kff
    by_cases q : v ≤ cap k
    · rw [if_pos q]
      exact ⟨Nat.le_refl _, q, fun i a b => absurd b (by omega)⟩
    · rw [if_neg q]
      have hj : k + 1 ≤ j := by
        rcases Nat.lt_or_ge k j with z | z
        · omega
        · exact absurd (by rw [show k = j by omega]; exact h3) q
      obtain ⟨a, b, c⟩ := kff_spec f (k + 1) v ⟨j, hj, by omega, h3⟩
      refine ⟨by omega, b, fun i h4 h5 => ?_⟩
      by_cases e : i = k
      · rw [e]; omega
      · exact c i (by omega) h5
theorem kf_uniq {k v j : Nat} (h1 : k ≤ j) (h2 : j ≤ k + 8) (h3 : v ≤ cap j) (h4 : ∀ i, k ≤ i → i < j → cap i < v) : kf k v = j := by
  obtain ⟨a, b, c⟩ := kff_spec 8 k v ⟨j, h1, h2, h3⟩
  show kff 8 k v = j
  rcases Nat.lt_trichotomy (kff 8 k v) j with q | q | q
  · have := h4 _ a q; omega
  · exact q
  · have := c j h1 q; omega
theorem kf_row {so k v : Nat} (hk : Rk so k) (hv : v ≤ 1000000000000000) : Rk so (kf k v) ∧ k ≤ kf k v ∧ v ≤ cap (kf k v) ∧ ∀ i, k ≤ i → i < kf k v → cap i < v := by
  have c6 : cap 6 = 1000000000000000 := by decide
  have c8 : cap 8 = 1000000000000000 := by decide
  rcases hk with ⟨h0, h1, h2⟩ | ⟨h0, h1, h2⟩
  · obtain ⟨a, b, c⟩ := kff_spec 8 k v ⟨6, h2, by omega, by omega⟩
    refine ⟨Or.inl ⟨h0, Nat.le_trans h1 a, ?_⟩, a, b, c⟩
    rcases Nat.lt_or_ge 6 (kff 8 k v) with z | z
    · have := c 6 h2 z; omega
    · exact z
  · obtain ⟨a, b, c⟩ := kff_spec 8 k v ⟨8, h2, by omega, by omega⟩
    refine ⟨Or.inr ⟨h0, Nat.le_trans h1 a, ?_⟩, a, b, c⟩
    rcases Nat.lt_or_ge 8 (kff 8 k v) with z | z
    · have := c 8 h2 z; omega
    · exact z
theorem kf_kf {so k a b : Nat} (hk : Rk so k) (ha : a ≤ 1000000000000000) (hb : b ≤ 1000000000000000) : kf (kf k a) b = kf k (max a b) := by
  obtain ⟨r1, l1, c1, m1⟩ := kf_row hk ha
  obtain ⟨r2, l2, c2, m2⟩ := kf_row r1 hb
  symm
  refine kf_uniq (Nat.le_trans l1 l2) ?_ ?_ (fun i h1 h2 => ?_)
  · rcases hk with ⟨e, _, _⟩ | ⟨e, _, _⟩ <;> rcases r2 with ⟨e2, _, _⟩ | ⟨e2, _, _⟩ <;> omega
  · rcases Nat.lt_or_ge (kf k a) (kf (kf k a) b) with z | z
    · have := m2 (kf k a) (Nat.le_refl _) z; omega
    · rw [show kf (kf k a) b = kf k a by omega] at c2 ⊢; omega
  · rcases Nat.lt_or_ge i (kf k a) with z | z
    · have := m1 i h1 z; omega
    · have := m2 i z h2; omega
theorem kf_self {k v : Nat} (h : v ≤ cap k) : kf k v = k := kf_uniq (Nat.le_refl _) (by omega) h (fun i a b => absurd b (by omega))
theorem stH_cap : ∀ k, k < 9 → 1 ≤ k → stH.getD k 0 = lN (cap k) := by decide
theorem cap_lt : ∀ k, cap k ≤ 1000000000000000 := by
  intro k
  unfold cap
  repeat' split
  all_goals omega
theorem Rk_b {so k : Nat} (h : Rk so k) : 1 ≤ k ∧ k ≤ 8 := by rcases h with ⟨_, a, b⟩ | ⟨_, a, b⟩ <;> omega
theorem sp_rowThatHolds {so k v : Nat} {Q : Int32 → Prop} (hk : Rk so k) (hv : v ≤ 1000000000000000) (h : Q (nI (kf k v))) : wp_X1_rowThatHolds (nI k) (lN v) (nI so) Q := by
  unfold wp_X1_rowThatHolds
  obtain ⟨r1, l1, c1, m1⟩ := kf_row hk hv
  have go : ∀ last, k ≤ last → last ≤ 8 → kf k v ≤ last → blk_X1_rowThatHolds_14 (nI so) Q (nI k) (lN v) (nI last) := by
    intro last h1 h2 h3
    have ⟨b1, b2⟩ := Rk_b hk
    unfold blk_X1_rowThatHolds_14
    intro x4 e4 x5 e5
    have e6 : x5 = nI k := by rw [e5, if_pos (show (0 : Int32) < nI k from nI_lt (a := 0) (b := k) (by omega) (by omega))]
    rw [e4, e6]
    refine lp1 (fun n a => lp_X1_rowThatHolds_23 (nI so) Q (lN v) (nI last) n a) (fun a => ∃ i, a = nI i ∧ k ≤ i ∧ i ≤ kf k v) (fun a => 9 - a.toInt.toNat) ?_ _ ⟨k, rfl, Nat.le_refl _, l1⟩
    intro n a hI hs
    obtain ⟨i, ea, i1, i2⟩ := hI
    subst ea
    show bod_X1_rowThatHolds_23 (nI so) Q (lN v) (nI last) (fun v0 => lp_X1_rowThatHolds_23 (nI so) Q (lN v) (nI last) n v0) (nI i)
    unfold bod_X1_rowThatHolds_23
    refine q_if (nI_leI (by omega) (by omega)) (fun q => ?_) (fun q => ?_)
    · rw [show last = kf k v by omega]; exact h
    refine q_if (nI_leI (a := 9) (by decide) (by omega)) (fun q => absurd q (by omega)) (fun q => ?_)
    refine q_in (by omega) (by decide) ?_
    rw [nI_clamp (by omega), stH_cap i (by omega) (by omega)]
    have hc := cap_lt i
    refine q_if (pk_lLT (by omega) (by omega)) (fun q2 => ?_) (fun q2 => ?_)
    · intro y hy
      rw [hy, nI_1]
      have : i ≠ kf k v := by intro e; rw [← e] at c1; omega
      refine hs _ ⟨i + 1, rfl, by omega, by omega⟩ ?_
      rw [nI_toInt (by omega), nI_toInt (by omega)]
      omega
    · have : kf k v = i := by
        rcases Nat.lt_or_ge i (kf k v) with z | z
        · have := m1 i i1 z; omega
        · omega
      rw [this] at h
      exact h
  rcases hk with ⟨e, h1, h2⟩ | ⟨e, h1, h2⟩
  · subst e
    have h3 : kf k v ≤ 6 := by rcases r1 with ⟨_, _, z⟩ | ⟨z, _, _⟩ <;> omega
    exact ⟨fun n => absurd rfl n, fun _ => go 6 h2 (by decide) h3⟩
  · subst e
    exact ⟨fun _ => go 8 h2 (by decide) (by rcases r1 with ⟨_, _, z⟩ | ⟨_, _, z⟩ <;> omega), fun n => absurd n (by decide)⟩
theorem sp_holds {k v : Nat} {Q : Int32 → Prop} (h1 : 1 ≤ k) (h8 : k ≤ 8) (hv : v ≤ 1000000000000000) (ht : v ≤ cap k → Q 1) (hf : ¬ v ≤ cap k → Q 0) : wp_X8_holds (nI k) (lN v) Q := by
  unfold wp_X8_holds
  rw [nI_toInt (by omega)]
  have c1 : cap 1 = 1 := by decide
  have c2 : cap 2 = 127 := by decide
  have c3 : cap 3 = 32767 := by decide
  have c4 : cap 4 = 65535 := by decide
  have c5 : cap 5 = 2147483647 := by decide
  have c6 : cap 6 = 1000000000000000 := by decide
  have c7 : cap 7 = 1048576 := by decide
  have c8 : cap 8 = 1000000000000000 := by decide
  have b : ∀ c : Nat, c < 2 ^ 63 → cap k = c → (lN c < lN v → Q 0) ∧ (¬ lN c < lN v → Q 1) := by
    intro c hc e
    rw [e] at ht hf
    exact q_if (pk_lLT hc (by omega)) (fun q => hf (by omega)) (fun q => ht (by omega))
  refine ⟨fun e => ?_, fun e => ?_, fun e => ?_, fun e => ?_, fun e => ?_, fun e => ?_, fun e => ?_, fun e => ?_⟩
  · exact b 1 (by decide) (by rw [show k = 1 by omega]; exact c1)
  · exact b 127 (by decide) (by rw [show k = 2 by omega]; exact c2)
  · exact b 32767 (by decide) (by rw [show k = 3 by omega]; exact c3)
  · exact b 65535 (by decide) (by rw [show k = 4 by omega]; exact c4)
  · exact b 2147483647 (by decide) (by rw [show k = 5 by omega]; exact c5)
  · exact ht (by rw [show k = 6 by omega, c6]; omega)
  · exact b 1048576 (by decide) (by rw [show k = 7 by omega]; exact c7)
  · exact ht (by rw [show k = 8 by omega, c8]; omega)
theorem sp_kindFor {so k v : Nat} {Q : Int32 → Prop} (hk : Rk so k) (hv : v ≤ 1000000000000000) (h : Q (nI (kf k v))) : wp_X8_kindFor (nI k) (lN v) Q := by
  unfold wp_X8_kindFor
  obtain ⟨r1, l1, c1, m1⟩ := kf_row hk hv
  have ⟨b1, b2⟩ := Rk_b hk
  have ⟨b3, b4⟩ := Rk_b r1
  intro x ex
  rw [ex]
  refine lp1 (fun n a => lp_X8_kindFor_2 Q (lN v) n a) (fun a => ∃ i, a = nI i ∧ k ≤ i ∧ i ≤ kf k v) (fun a => 9 - a.toInt.toNat) ?_ _ ⟨k, rfl, Nat.le_refl _, l1⟩
  intro n a hI hs
  obtain ⟨i, ea, i1, i2⟩ := hI
  subst ea
  show bod_X8_kindFor_2 Q (lN v) (fun v0 => lp_X8_kindFor_2 Q (lN v) n v0) (nI i)
  unfold bod_X8_kindFor_2
  refine sp_holds (by omega) (by omega) hv (fun q => q1a ?_) (fun q => q0a ?_)
  · have : kf k v = i := by
      rcases Nat.lt_or_ge i (kf k v) with z | z
      · have := m1 i i1 z; omega
      · omega
    rw [this] at h
    exact h
  · intro y hy
    rw [hy, nI_1]
    have : i ≠ kf k v := by intro e; rw [← e] at c1; omega
    refine hs _ ⟨i + 1, rfl, by omega, by omega⟩ ?_
    rw [nI_toInt (by omega), nI_toInt (by omega)]
    omega
