/-! ===== the last slot that is not 0 ===== -/
def LastIs (u : Nat → Nat) (N : Nat) (L : Int32) : Prop := (L = -1 ∧ ∀ j, j < N → u j = 0) ∨ ∃ s, s < N ∧ L = nI s ∧ u s ≠ 0 ∧ ∀ j, s < j → j < N → u j = 0
theorem m1_ne {s : Nat} (h : s < 2 ^ 31) : nI s ≠ -1 := by
  intro e
  have h1 : (-1 : Int32).toInt = -1 := by decide
  rw [← e, nI_toInt h] at h1
  omega
theorem LastIs_u {u : Nat → Nat} {N : Nat} {L L2 : Int32} (a : LastIs u N L) (b : LastIs u N L2) : L = L2 := by
  rcases a with ⟨e, a⟩ | ⟨s, hs, e, a1, a2⟩ <;> rcases b with ⟨e2, b⟩ | ⟨s2, hs2, e2, b1, b2⟩
  · rw [e, e2]
  · exact absurd (a s2 hs2) b1
  · exact absurd (b s hs) a1
  · have : s = s2 := by
      rcases Nat.lt_trichotomy s s2 with q | q | q
      · exact absurd (a2 s2 q hs2) b1
      · exact q
      · exact absurd (b2 s q hs) a1
    rw [e, e2, this]
theorem nI_s1 {z : Nat} (h : z < 2 ^ 30) : (nI z - (1 : Int32)).toInt = (z : Int) - 1 := by
  have e1 : (1 : Int32).toInt = 1 := by decide
  rw [fb_subI (by rw [nI_toInt (by omega), e1]; omega) (by rw [nI_toInt (by omega), e1]; omega), nI_toInt (by omega), e1]
theorem nI_s2 {z : Nat} (h : 1 ≤ z) : nI z - (1 : Int32) = nI (z - 1) := by rw [show (1 : Int32) = nI 1 from rfl, pk_sub h]
theorem nI_s3 (z : Nat) : nI z + (-1 : Int32) = nI z - (1 : Int32) := (Int32.sub_eq_add_neg _ _).symm
theorem sp_lastUsed {N P : Nat} {slots pages : Int32} {U : Nat → Int64} {K : Nat → Int32} {u k : Nat → Nat} {Q : Int32 → Prop} (hP : P ≤ 271) (hN : N ≤ 16 * P) (hN2 : 16 * P < N + 16) (es : slots = nI N) (ep : pages = nI P) (hu : ∀ j, j < 16 * P → U j = lN (u j)) (hb : ∀ j, u j ≤ 1000000000000000) (hk : ∀ p, p < P → K p = nI (k p)) (hk31 : ∀ p, k p < 2 ^ 31) (hz : ∀ p, k p = 0 → ∀ i, i < 16 → u (16 * p + i) = 0) (h : ∀ L, LastIs u N L → Q L) : wp_X1_lastUsed slots pages U K Q := by
  have z0 : (0 : Int32).toInt = 0 := by decide
  unfold wp_X1_lastUsed
  intro x ex
  rw [ex, es, ep]
  refine lp1 (fun n a => lp_X1_lastUsed_7 (nI N) (nI P) U K Q n a) (fun a => ∃ p, p ≤ P ∧ a = nI p - (1 : Int32) ∧ ∀ j, 16 * p ≤ j → j < N → u j = 0) (fun a => (a.toInt + 1).toNat) ?_ _ ⟨P, by omega, rfl, fun j h1 h2 => absurd h1 (by omega)⟩
  intro n a hI ho
  obtain ⟨p, hp, ea, hj⟩ := hI
  subst ea
  show bod_X1_lastUsed_7 (nI N) (nI P) U K Q (fun v0 => lp_X1_lastUsed_7 (nI N) (nI P) U K Q n v0) (nI p - (1 : Int32))
  unfold bod_X1_lastUsed_7
  refine q_if (fa_lt _ _) (fun q => ?_) (fun q => ?_)
  · rw [nI_s1 (by omega)] at q
    have e : p = 0 := by omega
    subst e
    exact h _ (Or.inl ⟨by decide, fun j hj2 => hj j (by omega) hj2⟩)
  rw [nI_s1 (by omega)] at q
  obtain ⟨p', rfl⟩ : ∃ p', p = p' + 1 := ⟨p - 1, by omega⟩
  rw [nI_pred]
  have hb1 : endP N (k p') p' ≤ 16 * p' + 16 ∧ 16 * p' ≤ endP N (k p') p' := by unfold endP; split <;> omega
  refine sp_endOf (by omega) (hk p' (by omega)) (hk31 p') rfl (by omega) ?_
  intro x2 hx2
  rw [hx2]
  refine lp1 (fun n2 a => lp_X1_lastUsed_19 (nI N) (nI P) U K (fun v0 => lp_X1_lastUsed_7 (nI N) (nI P) U K Q n v0) Q (nI p') n2 a) (fun a => ∃ z, 16 * p' ≤ z ∧ z ≤ endP N (k p') p' ∧ a = nI z - (1 : Int32) ∧ ∀ j, z ≤ j → j < N → u j = 0) (fun a => (a.toInt + 1).toNat) ?_ _ ⟨endP N (k p') p', by omega, by omega, rfl, fun j h1 h2 => ?_⟩
  · intro n2 a2 hI2 hs2
    obtain ⟨z, hz1, hz2, ea2, hj2⟩ := hI2
    subst ea2
    show bod_X1_lastUsed_19 (nI N) (nI P) U K (fun v0 => lp_X1_lastUsed_7 (nI N) (nI P) U K Q n v0) Q (nI p') (fun v0 => lp_X1_lastUsed_19 (nI N) (nI P) U K (fun v0 => lp_X1_lastUsed_7 (nI N) (nI P) U K Q n v0) Q (nI p') n2 v0) (nI z - (1 : Int32))
    unfold bod_X1_lastUsed_19
    rw [pg16]
    refine q_if (fa_lt _ _) (fun q2 => ?_) (fun q2 => ?_)
    · rw [nI_s1 (by omega), nI_toInt (by omega)] at q2
      intro x1 hx1
      rw [hx1, nI_s3]
      refine ho _ ⟨p', by omega, rfl, fun j h1 h2 => hj2 j (by omega) h2⟩ ?_
      rw [nI_s1 (by omega), nI_s1 (by omega)]
      omega
    · rw [nI_s1 (by omega), nI_toInt (by omega)] at q2
      rw [nI_s2 (by omega)]
      have hzN : z ≤ N := by
        unfold endP at hz2
        split at hz2 <;> omega
      have hbz := hb (z - 1)
      refine sp_unitsOf (by omega) ?_
      rw [hu _ (by omega)]
      refine q_if (lN_z (by omega)) (fun q3 => ?_) (fun q3 => ?_)
      · intro x2b hx2b
        rw [hx2b, nI_s3]
        refine hs2 _ ⟨z - 1, by omega, by omega, rfl, fun j h1 h2 => ?_⟩ ?_
        · rcases Nat.lt_or_ge j z with q4 | q4
          · rw [show j = z - 1 by omega]; exact q3
          · exact hj2 j q4 h2
        · rw [nI_s1 (by omega), nI_s1 (by omega)]
          omega
      · exact h _ (Or.inr ⟨z - 1, by omega, rfl, q3, fun j h1 h2 => hj2 j (by omega) h2⟩)
  · rcases Nat.lt_or_ge j (16 * p' + 16) with q4 | q4
    · by_cases k0 : k p' = 0
      · have e0 : endP N (k p') p' = 16 * p' := by unfold endP; rw [if_pos k0]
        have := hz p' k0 (j - 16 * p') (by omega)
        rw [show 16 * p' + (j - 16 * p') = j by omega] at this
        exact this
      · have e0 : endP N (k p') p' = min (16 * p' + 16) N := by unfold endP; rw [if_neg k0]
        exfalso; omega
    · exact hj j (by omega) h2
theorem sp_lastSlot {r N : Nat} {t_set : Nat → Int32} {t_units : Nat → Int64} {u : Nat → Nat} {Q : Int32 → Prop} (hr : r < 4) (hN : N ≤ 4336) (hs : t_set (4 * r + 2) = nI N) (hu : ∀ j, j < N → t_units (4352 * r + j) = lN (u j)) (hb : ∀ j, u j ≤ 1000000000000000) (h : ∀ L, LastIs u N L → Q L) : wp_X8_lastSlot (nI r) t_set t_units Q := by
  have z0 : (0 : Int32).toInt = 0 := by decide
  unfold wp_X8_lastSlot
  refine sp_of (c := 2) hr (by decide) ?_
  rw [hs]
  intro x ex
  rw [ex]
  refine lp1 (fun n a => lp_X8_lastSlot_9 t_set t_units Q (nI r) n a) (fun a => ∃ z, z ≤ N ∧ a = nI z - (1 : Int32) ∧ ∀ j, z ≤ j → j < N → u j = 0) (fun a => (a.toInt + 1).toNat) ?_ _ ⟨N, by omega, rfl, fun j h1 h2 => absurd h1 (by omega)⟩
  intro n a hI hs2
  obtain ⟨z, hz, ea, hj⟩ := hI
  subst ea
  show bod_X8_lastSlot_9 t_set t_units Q (nI r) (fun v0 => lp_X8_lastSlot_9 t_set t_units Q (nI r) n v0) (nI z - (1 : Int32))
  unfold bod_X8_lastSlot_9
  refine q_if (fa_lt _ _) (fun q => ?_) (fun q => ?_)
  · rw [nI_s1 (by omega)] at q
    have e : z = 0 := by omega
    subst e
    exact h _ (Or.inl ⟨by decide, fun j hj2 => hj j (by omega) hj2⟩)
  rw [nI_s1 (by omega)] at q
  rw [nI_s2 (by omega), show (4352 : Int32) * nI r + nI (z - 1) = nI (4352 * r + (z - 1)) from ix_at 4352 r _]
  refine q_in (by omega) (by decide) ?_
  have hbz := hb (z - 1)
  rw [nI_clamp (by omega), hu _ (by omega)]
  refine q_fi (lN_z (by omega)) (fun q3 => ?_) (fun q3 => ?_)
  · intro x2b hx2b
    rw [hx2b, nI_s3]
    refine hs2 _ ⟨z - 1, by omega, rfl, fun j h1 h2 => ?_⟩ ?_
    · rcases Nat.lt_or_ge j z with q4 | q4
      · rw [show j = z - 1 by omega]; exact q3
      · exact hj j q4 h2
    · rw [nI_s1 (by omega), nI_s1 (by omega)]
      omega
  · exact h _ (Or.inr ⟨z - 1, by omega, rfl, q3, fun j h1 h2 => hj j (by omega) h2⟩)
/-! ===== adding, taking off ===== -/
theorem ShS_mono {d a b : Nat} (h : a ≤ b) : ShS d a ≤ ShS d b := by
  unfold ShS
  have := Nat.div_le_div_right (c := 2 ^ (bb d - 1)) h
  omega
theorem Low_mono {d a b : Nat} (hd : d = 1 ∨ d = 2) (h : a ≤ b) (hb : ShS d b ≤ 40) : Low d a ≤ Low d b := by
  have hs := ShS_mono (d := d) h
  have ⟨a1, a2⟩ := Slot_Low (s := a) hd (by omega)
  have ⟨b1, b2⟩ := Slot_Low (s := b) hd hb
  rcases Nat.lt_or_ge (Low d b) (Low d a) with q | q
  · have m := Slot_mono hd (Nat.le_of_lt q) a2
    rw [a1, b1] at m
    rw [show a = b by omega]
    exact Nat.le_refl _
  · exact q
theorem mo_wz {σ w : Nat → Nat} {s c : Nat} : ∀ {m : Nat}, (∀ i, c ≤ i → i < c + m → w i = 0) → mo σ w (c + m) s = mo σ w c s
  | 0, _ => rfl
  | m + 1, h => by
    rw [← Nat.add_assoc, mo_s, h (c + m) (by omega) (by omega), mo_wz (fun i h1 h2 => h i h1 (by omega))]
    split <;> rfl
theorem mo_wz2 {σ w : Nat → Nat} {s a b : Nat} (hab : a ≤ b) (h : ∀ i, a ≤ i → i < b → w i = 0) : mo σ w b s = mo σ w a s := by
  have := mo_wz (σ := σ) (w := w) (s := s) (c := a) (m := b - a) (fun i h1 h2 => h i h1 (by omega))
  rw [show a + (b - a) = b by omega] at this
  exact this
theorem mo_z2 {σ w : Nat → Nat} {s : Nat} : ∀ {c : Nat}, (∀ i, i < c → σ i = s → w i = 0) → mo σ w c s = 0
  | 0, _ => rfl
  | c + 1, h => by
    rw [mo_s, mo_z2 (fun i hi => h i (by omega))]
    split
    · rename_i e; rw [h c (by omega) e]
    · rfl
def sv (sg a m : Nat) : Nat := if sg = 0 then a + m else a - m
def gd (sg a m : Nat) : Prop := if sg = 0 then a + m ≤ 1000000000000000 else m ≤ a
def sgn (sg : Nat) : Int32 := if sg = 0 then 1 else -1
theorem sv_0 (sg a : Nat) : sv sg a 0 = a := by unfold sv; split <;> rfl
theorem gd_0 {sg a : Nat} (h : a ≤ 1000000000000000) : gd sg a 0 := by unfold gd; split <;> omega
theorem gd_le {sg a m n : Nat} (h : m ≤ n) (g : gd sg a n) : gd sg a m := by unfold gd at *; split at g <;> rename_i e <;> simp only [e, if_true, if_false] <;> omega
theorem sv_le {sg a m : Nat} (ha : a ≤ 1000000000000000) (g : gd sg a m) : sv sg a m ≤ 1000000000000000 := by
  unfold gd at g
  unfold sv
  split at g <;> rename_i e
  · rw [if_pos e]; exact g
  · rw [if_neg e]; omega
theorem sg_step {sg a m w : Nat} (ha : a ≤ 1000000000000000) (hw : w ≤ 1000000000000000) (g : gd sg a m) : (gd sg a (m + w) → lN (sv sg a m) + (sgn sg).toInt64 * lN w = lN (sv sg a (m + w))) ∧ (¬ gd sg a (m + w) → (lN (sv sg a m) + (sgn sg).toInt64 * lN w < (0 : Int64)) ∨ ¬ (lN (sv sg a m) + (sgn sg).toInt64 * lN w ≤ (1000000000000000 : Int64))) := by
  by_cases e : sg = 0
  · have e1 : (sgn sg).toInt64 * lN w = lN w := by
      unfold sgn
      rw [if_pos e]
      have : (1 : Int32).toInt64 = lN 1 := by decide
      rw [this, lN_mul, Nat.one_mul]
    rw [e1]
    unfold gd at g ⊢
    unfold sv
    rw [if_pos e] at g ⊢
    rw [if_pos e, if_pos e, lN_add]
    refine ⟨fun _ => by rw [Nat.add_assoc], fun h => Or.inr (fun q => ?_)⟩
    have := (pk_lLE (b := 1000000000000000) (by omega) (by decide)).mp q
    omega
  · have e1 : lN (sv sg a m) + (sgn sg).toInt64 * lN w = lN (sv sg a m) - lN w := by
      unfold sgn
      rw [if_neg e]
      have : (-1 : Int32).toInt64 = -1 := by decide
      rw [this, Int64.sub_eq_add_neg, ← Int64.neg_eq_neg_one_mul]
    rw [e1]
    unfold gd at g ⊢
    unfold sv
    rw [if_neg e] at g ⊢
    rw [if_neg e, if_neg e]
    refine ⟨fun h => by rw [lN_sub (by omega)]; congr 1; omega, fun h => Or.inl ?_⟩
    have z : (0 : Int64).toInt = 0 := by decide
    rw [fa_lt64, fb_subL (by rw [pk_lT (by omega), pk_lT (by omega)]; omega) (by rw [pk_lT (by omega), pk_lT (by omega)]; omega), pk_lT (by omega), pk_lT (by omega)]
    omega
def tau (d1 d2 : Nat) : Nat → Nat := fun s => Slot d1 (Low d2 s)
def CanM (sg so1 d1 h1 : Nat) (u1 : Nat → Nat) (so2 d2 h2 : Nat) (u2 : Nat → Nat) : Prop := so1 = so2 ∧ (∀ s, s < Slot d2 h2 + 1 → u2 s ≠ 0 → Low d2 s ≤ h1) ∧ ∀ t, gd sg (u1 t) (mo (tau d1 d2) u2 (Slot d2 h2 + 1) t)
theorem tau_mono {d1 d2 h2 a b : Nat} (hd1 : d1 = 1 ∨ d1 = 2) (hd2 : d2 = 1 ∨ d2 = 2) (hh2 : h2 ≤ 1000000000000) (h : a ≤ b) (hb : b ≤ Slot d2 h2) : tau d1 d2 a ≤ tau d1 d2 b := by
  have ⟨q, _⟩ := ShS_s hd2 hh2 hb
  exact Slot_mono hd1 (Low_mono hd2 h (by omega)) (Slot_Low hd2 (by omega)).2
def Tg (sg : Nat) (u1 u2 τ : Nat → Nat) (x4 : Int32) (x5 : Int64) (c : Nat) : Prop := (x4 = -1 ∧ x5 = lN 0 ∧ ∀ s, s < c → u2 s = 0) ∨ ∃ s0, s0 < c ∧ u2 s0 ≠ 0 ∧ (∀ s, s0 < s → s < c → u2 s = 0) ∧ x4 = nI (τ s0) ∧ x5 = lN (sv sg (u1 (τ s0)) (mo τ u2 c (τ s0)))
theorem Tg_ext {sg : Nat} {u1 u2 τ : Nat → Nat} {x4 : Int32} {x5 : Int64} {a b : Nat} (hab : a ≤ b) (hz : ∀ i, a ≤ i → i < b → u2 i = 0) (h : Tg sg u1 u2 τ x4 x5 a) : Tg sg u1 u2 τ x4 x5 b := by
  rcases h with ⟨e1, e2, e3⟩ | ⟨s0, h0, h1, h2, h3, h4⟩
  · refine Or.inl ⟨e1, e2, fun s hs => ?_⟩
    rcases Nat.lt_or_ge s a with q | q
    · exact e3 s q
    · exact hz s q hs
  · refine Or.inr ⟨s0, by omega, h1, fun s hs hs2 => ?_, h3, ?_⟩
    · rcases Nat.lt_or_ge s a with q | q
      · exact h2 s hs q
      · exact hz s q hs2
    · rw [mo_wz2 hab hz]; exact h4
theorem page_z {u k : Nat → Nat} {N p z : Nat} (hz : k p = 0 → ∀ i, i < 16 → u (16 * p + i) = 0) (h1 : 16 * p = z ∨ (16 * p ≤ z ∧ z ≤ endP N (k p) p)) (h2 : endP N (k p) p ≤ z) : ∀ i, min z N ≤ i → i < min (16 * (p + 1)) N → u i = 0 := by
  intro i a b
  by_cases k0 : k p = 0
  · have e0 : endP N (k p) p = 16 * p := by unfold endP; rw [if_pos k0]
    have := hz k0 (i - 16 * p) (by omega)
    rw [show 16 * p + (i - 16 * p) = i by omega] at this
    exact this
  · have e0 : endP N (k p) p = min (16 * p + 16) N := by unfold endP; rw [if_neg k0]
    exfalso
    omega
theorem end_lt {k N p z : Nat} (h1 : 16 * p = z ∨ (16 * p ≤ z ∧ z ≤ endP N k p)) (h2 : ¬ endP N k p ≤ z) : z < N ∧ z < 16 * p + 16 := by
  unfold endP at *
  split at h2 <;> omega
theorem sp_canMerge {sg so1 d1 h1 so2 d2 h2 P1 P2 : Nat} {U1 U2 : Nat → Int64} {K2 : Nat → Int32} {u1 u2 k2 : Nat → Nat} {Q : Int32 → Prop} (hsg : so1 < 2) (hsg2 : so2 < 2) (hd1 : d1 = 1 ∨ d1 = 2) (hd2 : d2 = 1 ∨ d2 = 2) (hh1 : h1 ≤ 1000000000000) (hh2 : h2 ≤ 1000000000000) (hP1 : P1 ≤ 271) (hN1 : Slot d1 h1 + 1 ≤ 16 * P1) (hP2 : P2 ≤ 271) (hN2 : Slot d2 h2 + 1 ≤ 16 * P2) (hN22 : 16 * P2 < Slot d2 h2 + 1 + 16) (hU1 : ∀ j, j < 16 * P1 → U1 j = lN (u1 j)) (hb1 : ∀ j, u1 j ≤ 1000000000000000) (hU2 : ∀ j, j < 16 * P2 → U2 j = lN (u2 j)) (hb2 : ∀ j, u2 j ≤ 1000000000000000) (hk : ∀ p, p < P2 → K2 p = nI (k2 p)) (hk31 : ∀ p, k2 p < 2 ^ 31) (hz : ∀ p, k2 p = 0 → ∀ i, i < 16 → u2 (16 * p + i) = 0) (q1 : CanM sg so1 d1 h1 u1 so2 d2 h2 u2 → Q 1) (q0 : ¬ CanM sg so1 d1 h1 u1 so2 d2 h2 u2 → Q 0) : wp_X1_canMerge (sgn sg) (nI so1) (nI d1) (lN h1) U1 (nI so2) (nI d2) (nI (Slot d2 h2 + 1)) (nI P2) U2 K2 Q := by
  unfold CanM at q1 q0
  have hsh : ∀ s, s < Slot d2 h2 + 1 → ShS d2 s ≤ 36 ∧ s < 2 ^ 20 := fun s hs => ShS_s hd2 hh2 (by omega)
  have hsl : ∀ s, s < Slot d2 h2 + 1 → Low d2 s < 2 ^ 63 := fun s hs => (Slot_Low hd2 (by have := hsh s hs; omega)).2
  have htm : ∀ a b, a ≤ b → b < Slot d2 h2 + 1 → tau d1 d2 a ≤ tau d1 d2 b := fun a b g1 g2 => tau_mono hd1 hd2 hh2 g1 (by omega)
  have hth : ∀ s, s < Slot d2 h2 + 1 → Low d2 s ≤ h1 → tau d1 d2 s ≤ Slot d1 h1 := fun s hs h => Slot_mono hd1 h (by omega)
  have htau : ∀ s, Slot d1 (Low d2 s) = tau d1 d2 s := fun _ => rfl
  generalize tau d1 d2 = τ at *
  generalize eNN : Slot d2 h2 + 1 = N at *
  have main : so1 = so2 → (∀ s, s < N → u2 s ≠ 0 → Low d2 s ≤ h1) → blk_X1_canMerge_39 (nI so1) (nI d1) (lN h1) U1 (nI so2) (nI d2) (nI N) (nI P2) U2 K2 Q (sgn sg) := by
    intro eso hlow
    unfold blk_X1_canMerge_39
    intro x4 hx4 x5 hx5 x7 hx7
    rw [hx4, hx5, hx7]
    refine lp3 (fun n a b c => lp_X1_canMerge_48 (nI so1) (nI d1) (lN h1) U1 (nI so2) (nI d2) (nI N) (nI P2) U2 K2 Q (sgn sg) n a b c) (fun a b c => ∃ p, p ≤ P2 ∧ c = nI p ∧ Tg sg u1 u2 τ a b (min (16 * p) N) ∧ ∀ t, gd sg (u1 t) (mo τ u2 (min (16 * p) N) t)) (fun _ _ c => P2 - c.toInt.toNat) ?_ _ _ _ ⟨0, by omega, rfl, Or.inl ⟨rfl, rfl, fun s hs => absurd hs (by omega)⟩, fun t => by rw [show min (16 * 0) N = 0 by omega]; exact gd_0 (hb1 t)⟩
    intro n a b c hI ho
    obtain ⟨p, hp, ec, hT, hG⟩ := hI
    subst ec
    show bod_X1_canMerge_48 (nI so1) (nI d1) (lN h1) U1 (nI so2) (nI d2) (nI N) (nI P2) U2 K2 Q (sgn sg) (fun v0 v1 v2 => lp_X1_canMerge_48 (nI so1) (nI d1) (lN h1) U1 (nI so2) (nI d2) (nI N) (nI P2) U2 K2 Q (sgn sg) n v0 v1 v2) a b (nI p)
    unfold bod_X1_canMerge_48
    refine q_if (nI_leI (by omega) (by omega)) (fun q => ?_) (fun q => ?_)
    · rw [show min (16 * p) N = N by omega] at hG
      exact q1 ⟨eso, hlow, hG⟩
    have hpP : p < P2 := by omega
    have hb1' : endP N (k2 p) p ≤ 16 * p + 16 := by unfold endP; split <;> omega
    refine sp_endOf (by omega) (hk p hpP) (hk31 p) rfl (by omega) ?_
    intro x8 hx8 x9 hx9
    rw [hx8, hx9, pg16]
    refine lp3 (fun n2 a b c => lp_X1_canMerge_72 (nI so1) (nI d1) (lN h1) U1 (nI so2) (nI d2) (nI N) (nI P2) U2 K2 (fun v0 v1 v2 => lp_X1_canMerge_48 (nI so1) (nI d1) (lN h1) U1 (nI so2) (nI d2) (nI N) (nI P2) U2 K2 Q (sgn sg) n v0 v1 v2) Q (sgn sg) (nI p) (nI (endP N (k2 p) p)) n2 a b c) (fun a b c => ∃ z, (16 * p = z ∨ (16 * p ≤ z ∧ z ≤ endP N (k2 p) p)) ∧ c = nI z ∧ Tg sg u1 u2 τ a b (min z N) ∧ ∀ t, gd sg (u1 t) (mo τ u2 (min z N) t)) (fun _ _ c => 16 * p + 16 - c.toInt.toNat) ?_ _ _ _ ⟨16 * p, Or.inl rfl, rfl, hT, hG⟩
    intro n2 a2 b2 c2 hI2 hs2
    obtain ⟨z, hz1, ec2, hT2, hG2⟩ := hI2
    subst ec2
    show bod_X1_canMerge_72 (nI so1) (nI d1) (lN h1) U1 (nI so2) (nI d2) (nI N) (nI P2) U2 K2 (fun v0 v1 v2 => lp_X1_canMerge_48 (nI so1) (nI d1) (lN h1) U1 (nI so2) (nI d2) (nI N) (nI P2) U2 K2 Q (sgn sg) n v0 v1 v2) Q (sgn sg) (nI p) (nI (endP N (k2 p) p)) (fun v0 v1 v2 => lp_X1_canMerge_72 (nI so1) (nI d1) (lN h1) U1 (nI so2) (nI d2) (nI N) (nI P2) U2 K2 (fun v0 v1 v2 => lp_X1_canMerge_48 (nI so1) (nI d1) (lN h1) U1 (nI so2) (nI d2) (nI N) (nI P2) U2 K2 Q (sgn sg) n v0 v1 v2) Q (sgn sg) (nI p) (nI (endP N (k2 p) p)) n2 v0 v1 v2) a2 b2 (nI z)
    unfold bod_X1_canMerge_72
    refine q_if (nI_leI (by omega) (by omega)) (fun q2 => ?_) (fun q2 => ?_)
    · intro x4 hx4
      rw [hx4, nI_1]
      have hpz := page_z (hz p) hz1 q2
      refine ho _ _ _ ⟨p + 1, by omega, rfl, Tg_ext (by omega) hpz hT2, fun t => ?_⟩ ?_
      · rw [mo_wz2 (by omega) hpz]; exact hG2 t
      · rw [nI_toInt (by omega), nI_toInt (by omega)]
        omega
    have ⟨hzN, hz16⟩ := end_lt hz1 q2
    rw [show min z N = z by omega] at hT2 hG2
    have hbz := hb2 z
    have nxt : ∀ (x4 : Int32) (x5 : Int64), Tg sg u1 u2 τ x4 x5 (z + 1) → (∀ t, gd sg (u1 t) (mo τ u2 (z + 1) t)) → lp_X1_canMerge_72 (nI so1) (nI d1) (lN h1) U1 (nI so2) (nI d2) (nI N) (nI P2) U2 K2 (fun v0 v1 v2 => lp_X1_canMerge_48 (nI so1) (nI d1) (lN h1) U1 (nI so2) (nI d2) (nI N) (nI P2) U2 K2 Q (sgn sg) n v0 v1 v2) Q (sgn sg) (nI p) (nI (endP N (k2 p) p)) n2 x4 x5 (nI (z + 1)) := by
      intro x4 x5 g1 g2
      refine hs2 _ _ _ ⟨z + 1, by omega, rfl, by rw [show min (z + 1) N = z + 1 by omega]; exact g1, fun t => by rw [show min (z + 1) N = z + 1 by omega]; exact g2 t⟩ ?_
      rw [nI_toInt (by omega), nI_toInt (by omega)]
      omega
    refine sp_unitsOf (by omega) ?_
    intro x10 hx10
    rw [hx10, hU2 z (by omega)]
    refine q_fi (lN_z (by omega)) (fun e0 => ?_) (fun e0 => ?_)
    · -- nothing there
      unfold blk_X1_canMerge_115
      intro x12 hx12
      refine ⟨fun ne => absurd hx12 ne, fun _ => ?_⟩
      unfold blk_X1_canMerge_135
      intro x5b hx5b x4b hx4b
      rw [hx4b, hx12]
      have hT3 : Tg sg u1 u2 τ a2 b2 (z + 1) := Tg_ext (by omega) (fun i g1 g2 => by rw [show i = z by omega]; exact e0) hT2
      have hG3 : ∀ t, gd sg (u1 t) (mo τ u2 (z + 1) t) := fun t => by rw [mo_wz2 (a := z) (by omega) (fun i g1 g2 => by rw [show i = z by omega]; exact e0)]; exact hG2 t
      have ⟨v, hv, ev⟩ : ∃ v, v ≤ 1000000000000000 ∧ b2 = lN v := by
        rcases hT2 with ⟨_, e, _⟩ | ⟨s0, _, _, _, _, e⟩
        · exact ⟨0, by omega, e⟩
        · exact ⟨_, sv_le (hb1 _) (hG2 _), e⟩
      have e5 : x5b = b2 := by
        rw [hx5b, e0]
        show b2 + (sgn sg).toInt64 * (0 : Int64) = b2
        rw [Int64.mul_zero, Int64.add_zero]
      rw [e5, ev]
      refine q_if (pk_lLT (b := 0) (by omega) (by decide)) (fun h => absurd h (by omega)) (fun _ => q_if (pk_lLE (b := 1000000000000000) (by omega) (by decide)) (fun _ => ?_) (fun h => absurd hv h))
      intro x9b hx9b
      rw [hx9b, nI_1, ← ev]
      exact nxt _ _ hT3 hG3
    · have hs := hsh z hzN
      have hl := hlow z hzN e0
      refine sp_X7_lowOf hd2 hs.2 (by omega) ?_
      refine sp_X7_slotOf hd1 (hsl z hzN) ?_
      rw [htau]
      have ht := hth z hzN hl
      have fin : blk_X1_canMerge_135 (nI so1) (nI d1) (lN h1) U1 (nI so2) (nI d2) (nI N) (nI P2) U2 K2 (fun v0 v1 v2 => lp_X1_canMerge_48 (nI so1) (nI d1) (lN h1) U1 (nI so2) (nI d2) (nI N) (nI P2) U2 K2 Q (sgn sg) n v0 v1 v2) (fun v0 v1 v2 => lp_X1_canMerge_72 (nI so1) (nI d1) (lN h1) U1 (nI so2) (nI d2) (nI N) (nI P2) U2 K2 (fun v0 v1 v2 => lp_X1_canMerge_48 (nI so1) (nI d1) (lN h1) U1 (nI so2) (nI d2) (nI N) (nI P2) U2 K2 Q (sgn sg) n v0 v1 v2) Q (sgn sg) (nI p) (nI (endP N (k2 p) p)) n2 v0 v1 v2) Q (sgn sg) (nI p) (nI (endP N (k2 p) p)) (nI z) (lN (u2 z)) (nI (τ z)) (lN (sv sg (u1 (τ z)) (mo τ u2 z (τ z)))) := by
        unfold blk_X1_canMerge_135
        intro x5b hx5b x4b hx4b
        have ⟨s1, s2⟩ := sg_step (hb1 (τ z)) hbz (hG2 (τ z))
        rw [← mo_at (c := z) (w := u2) (σ := τ) rfl] at s1 s2
        by_cases hg : gd sg (u1 (τ z)) (mo τ u2 (z + 1) (τ z))
        · have hle := sv_le (hb1 (τ z)) hg
          rw [hx5b, hx4b, s1 hg]
          refine q_if (pk_lLT (b := 0) (by omega) (by decide)) (fun h => absurd h (by omega)) (fun _ => q_if (pk_lLE (b := 1000000000000000) (by omega) (by decide)) (fun _ => ?_) (fun h => absurd hle h))
          intro x9b hx9b
          rw [hx9b, nI_1]
          refine nxt _ _ (Or.inr ⟨z, by omega, e0, fun s g1 g2 => absurd g1 (by omega), rfl, rfl⟩) (fun t => ?_)
          by_cases et : τ z = t
          · rw [← et]; exact hg
          · rw [mo_ne et]; exact hG2 t
        · have hq : Q 0 := q0 (fun hc => hg (gd_le (mo_le (by omega)) (hc.2.2 (τ z))))
          refine ⟨fun _ => hq, fun h => ⟨fun h2 => ?_, fun _ => hq⟩⟩
          rw [hx5b] at h h2
          rcases s2 hg with w | w
          · exact absurd w h
          · exact absurd h2 w
      unfold blk_X1_canMerge_115
      intro x12 hx12
      rw [hx12]
      rcases hT2 with ⟨e1, e2, e3⟩ | ⟨s0, h0, h1', h2', h3', h4'⟩
      · refine ⟨fun _ => ?_, fun e => absurd (e.trans e1) (m1_ne (by omega))⟩
        refine sp_unitsOf (by omega) ?_
        rw [hU1 _ (by omega)]
        rw [mo_z2 (fun i hi _ => e3 i hi), sv_0] at fin
        exact fin
      · have ht0 := htm s0 z (by omega) hzN
        refine ⟨fun ne => ?_, fun e => ?_⟩
        · refine sp_unitsOf (by omega) ?_
          rw [hU1 _ (by omega)]
          have hne : τ s0 ≠ τ z := fun q => ne (by rw [h3', q])
          rw [mo_z2 (fun i hi e => ?_), sv_0] at fin
          · exact fin
          · rcases Nat.lt_or_ge s0 i with q | q
            · exact h2' i q hi
            · have := htm i s0 q (by omega)
              exfalso
              omega
        · have et : τ z = τ s0 := by
            rw [h3'] at e
            exact (nI_eq (by omega) (by omega)).mp e
          rw [h4', ← et]
          exact fin
  unfold wp_X1_canMerge
  refine sp_lastUsed hP2 hN2 hN22 rfl rfl hU2 hb2 hk hk31 hz (fun L hL => ?_)
  intro x3 hx3
  rw [hx3]
  refine q_fi (nI_eq (by omega) (by omega)) (fun eso => ?_) (fun ne => q0 (fun c => ne c.1))
  rcases hL with ⟨e, hL⟩ | ⟨s, hs, e, hL1, hL2⟩
  · rw [e]
    exact ⟨fun _ => main eso (fun s hs hne => absurd (hL s hs) hne), fun n => absurd rfl n⟩
  · rw [e]
    have hss := hsh s hs
    have hls := hsl s hs
    refine ⟨fun n => absurd n (m1_ne (by omega)), fun _ => ?_⟩
    refine sp_X7_lowOf hd2 hss.2 (by omega) ?_
    refine q_if (pk_lLE hls (by omega)) (fun hle => main eso (fun s2 hs2 hne => ?_)) (fun hnle => q0 (fun c => hnle (c.2.1 s hs hL1)))
    have : s2 ≤ s := by
      rcases Nat.lt_or_ge s s2 with q | q
      · exact absurd (hL2 s2 q hs2) hne
      · exact q
    exact Nat.le_trans (Low_mono hd2 this (by omega)) hle
theorem sp_canMerge_s {sg so2 d2 h2 P2 : Nat} {U2 : Nat → Int64} {K2 : Nat → Int32} {u2 k2 : Nat → Nat} {Q : Int32 → Prop} (hsg : so2 < 2) (hsg2 : so2 < 2) (hd1 : d2 = 1 ∨ d2 = 2) (hd2 : d2 = 1 ∨ d2 = 2) (hh1 : h2 ≤ 1000000000000) (hh2 : h2 ≤ 1000000000000) (hP1 : P2 ≤ 271) (hN1 : Slot d2 h2 + 1 ≤ 16 * P2) (hP2 : P2 ≤ 271) (hN2 : Slot d2 h2 + 1 ≤ 16 * P2) (hN22 : 16 * P2 < Slot d2 h2 + 1 + 16) (hU1 : ∀ j, j < 16 * P2 → U2 j = lN (u2 j)) (hb1 : ∀ j, u2 j ≤ 1000000000000000) (hU2 : ∀ j, j < 16 * P2 → U2 j = lN (u2 j)) (hb2 : ∀ j, u2 j ≤ 1000000000000000) (hk : ∀ p, p < P2 → K2 p = nI (k2 p)) (hk31 : ∀ p, k2 p < 2 ^ 31) (hz : ∀ p, k2 p = 0 → ∀ i, i < 16 → u2 (16 * p + i) = 0) (q1 : CanM sg so2 d2 h2 u2 so2 d2 h2 u2 → Q 1) (q0 : ¬ CanM sg so2 d2 h2 u2 so2 d2 h2 u2 → Q 0) : wp_X1_canMerge_s (sgn sg) (nI so2) (nI d2) (nI (Slot d2 h2 + 1)) (nI P2) (lN h2) U2 K2 Q := by
  unfold CanM at q1 q0
  have hsh : ∀ s, s < Slot d2 h2 + 1 → ShS d2 s ≤ 36 ∧ s < 2 ^ 20 := fun s hs => ShS_s hd2 hh2 (by omega)
  have hsl : ∀ s, s < Slot d2 h2 + 1 → Low d2 s < 2 ^ 63 := fun s hs => (Slot_Low hd2 (by have := hsh s hs; omega)).2
  have htm : ∀ a b, a ≤ b → b < Slot d2 h2 + 1 → tau d2 d2 a ≤ tau d2 d2 b := fun a b g1 g2 => tau_mono hd1 hd2 hh2 g1 (by omega)
  have hth : ∀ s, s < Slot d2 h2 + 1 → Low d2 s ≤ h2 → tau d2 d2 s ≤ Slot d2 h2 := fun s hs h => Slot_mono hd1 h (by omega)
  have htau : ∀ s, Slot d2 (Low d2 s) = tau d2 d2 s := fun _ => rfl
  generalize tau d2 d2 = τ at *
  generalize eNN : Slot d2 h2 + 1 = N at *
  have main : so2 = so2 → (∀ s, s < N → u2 s ≠ 0 → Low d2 s ≤ h2) → blk_X1_canMerge_s_39 (nI so2) (nI d2) (nI N) (nI P2) (lN h2) U2 K2 Q (sgn sg) := by
    intro eso hlow
    unfold blk_X1_canMerge_s_39
    intro x4 hx4 x5 hx5 x7 hx7
    rw [hx4, hx5, hx7]
    refine lp3 (fun n a b c => lp_X1_canMerge_s_48 (nI so2) (nI d2) (nI N) (nI P2) (lN h2) U2 K2 Q (sgn sg) n a b c) (fun a b c => ∃ p, p ≤ P2 ∧ c = nI p ∧ Tg sg u2 u2 τ a b (min (16 * p) N) ∧ ∀ t, gd sg (u2 t) (mo τ u2 (min (16 * p) N) t)) (fun _ _ c => P2 - c.toInt.toNat) ?_ _ _ _ ⟨0, by omega, rfl, Or.inl ⟨rfl, rfl, fun s hs => absurd hs (by omega)⟩, fun t => by rw [show min (16 * 0) N = 0 by omega]; exact gd_0 (hb1 t)⟩
    intro n a b c hI ho
    obtain ⟨p, hp, ec, hT, hG⟩ := hI
    subst ec
    show bod_X1_canMerge_s_48 (nI so2) (nI d2) (nI N) (nI P2) (lN h2) U2 K2 Q (sgn sg) (fun v0 v1 v2 => lp_X1_canMerge_s_48 (nI so2) (nI d2) (nI N) (nI P2) (lN h2) U2 K2 Q (sgn sg) n v0 v1 v2) a b (nI p)
    unfold bod_X1_canMerge_s_48
    refine q_if (nI_leI (by omega) (by omega)) (fun q => ?_) (fun q => ?_)
    · rw [show min (16 * p) N = N by omega] at hG
      exact q1 ⟨eso, hlow, hG⟩
    have hpP : p < P2 := by omega
    have hb1' : endP N (k2 p) p ≤ 16 * p + 16 := by unfold endP; split <;> omega
    refine sp_endOf (by omega) (hk p hpP) (hk31 p) rfl (by omega) ?_
    intro x8 hx8 x9 hx9
    rw [hx8, hx9, pg16]
    refine lp3 (fun n2 a b c => lp_X1_canMerge_s_72 (nI so2) (nI d2) (nI N) (nI P2) (lN h2) U2 K2 (fun v0 v1 v2 => lp_X1_canMerge_s_48 (nI so2) (nI d2) (nI N) (nI P2) (lN h2) U2 K2 Q (sgn sg) n v0 v1 v2) Q (sgn sg) (nI p) (nI (endP N (k2 p) p)) n2 a b c) (fun a b c => ∃ z, (16 * p = z ∨ (16 * p ≤ z ∧ z ≤ endP N (k2 p) p)) ∧ c = nI z ∧ Tg sg u2 u2 τ a b (min z N) ∧ ∀ t, gd sg (u2 t) (mo τ u2 (min z N) t)) (fun _ _ c => 16 * p + 16 - c.toInt.toNat) ?_ _ _ _ ⟨16 * p, Or.inl rfl, rfl, hT, hG⟩
    intro n2 a2 b2 c2 hI2 hs2
    obtain ⟨z, hz1, ec2, hT2, hG2⟩ := hI2
    subst ec2
    show bod_X1_canMerge_s_72 (nI so2) (nI d2) (nI N) (nI P2) (lN h2) U2 K2 (fun v0 v1 v2 => lp_X1_canMerge_s_48 (nI so2) (nI d2) (nI N) (nI P2) (lN h2) U2 K2 Q (sgn sg) n v0 v1 v2) Q (sgn sg) (nI p) (nI (endP N (k2 p) p)) (fun v0 v1 v2 => lp_X1_canMerge_s_72 (nI so2) (nI d2) (nI N) (nI P2) (lN h2) U2 K2 (fun v0 v1 v2 => lp_X1_canMerge_s_48 (nI so2) (nI d2) (nI N) (nI P2) (lN h2) U2 K2 Q (sgn sg) n v0 v1 v2) Q (sgn sg) (nI p) (nI (endP N (k2 p) p)) n2 v0 v1 v2) a2 b2 (nI z)
    unfold bod_X1_canMerge_s_72
    refine q_if (nI_leI (by omega) (by omega)) (fun q2 => ?_) (fun q2 => ?_)
    · intro x4 hx4
      rw [hx4, nI_1]
      have hpz := page_z (hz p) hz1 q2
      refine ho _ _ _ ⟨p + 1, by omega, rfl, Tg_ext (by omega) hpz hT2, fun t => ?_⟩ ?_
      · rw [mo_wz2 (by omega) hpz]; exact hG2 t
      · rw [nI_toInt (by omega), nI_toInt (by omega)]
        omega
    have ⟨hzN, hz16⟩ := end_lt hz1 q2
    rw [show min z N = z by omega] at hT2 hG2
    have hbz := hb2 z
    have nxt : ∀ (x4 : Int32) (x5 : Int64), Tg sg u2 u2 τ x4 x5 (z + 1) → (∀ t, gd sg (u2 t) (mo τ u2 (z + 1) t)) → lp_X1_canMerge_s_72 (nI so2) (nI d2) (nI N) (nI P2) (lN h2) U2 K2 (fun v0 v1 v2 => lp_X1_canMerge_s_48 (nI so2) (nI d2) (nI N) (nI P2) (lN h2) U2 K2 Q (sgn sg) n v0 v1 v2) Q (sgn sg) (nI p) (nI (endP N (k2 p) p)) n2 x4 x5 (nI (z + 1)) := by
      intro x4 x5 g1 g2
      refine hs2 _ _ _ ⟨z + 1, by omega, rfl, by rw [show min (z + 1) N = z + 1 by omega]; exact g1, fun t => by rw [show min (z + 1) N = z + 1 by omega]; exact g2 t⟩ ?_
      rw [nI_toInt (by omega), nI_toInt (by omega)]
      omega
    refine sp_unitsOf (by omega) ?_
    intro x10 hx10
    rw [hx10, hU2 z (by omega)]
    refine q_fi (lN_z (by omega)) (fun e0 => ?_) (fun e0 => ?_)
    · -- nothing there
      unfold blk_X1_canMerge_s_115
      intro x12 hx12
      refine ⟨fun ne => absurd hx12 ne, fun _ => ?_⟩
      unfold blk_X1_canMerge_s_135
      intro x5b hx5b x4b hx4b
      rw [hx4b, hx12]
      have hT3 : Tg sg u2 u2 τ a2 b2 (z + 1) := Tg_ext (by omega) (fun i g1 g2 => by rw [show i = z by omega]; exact e0) hT2
      have hG3 : ∀ t, gd sg (u2 t) (mo τ u2 (z + 1) t) := fun t => by rw [mo_wz2 (a := z) (by omega) (fun i g1 g2 => by rw [show i = z by omega]; exact e0)]; exact hG2 t
      have ⟨v, hv, ev⟩ : ∃ v, v ≤ 1000000000000000 ∧ b2 = lN v := by
        rcases hT2 with ⟨_, e, _⟩ | ⟨s0, _, _, _, _, e⟩
        · exact ⟨0, by omega, e⟩
        · exact ⟨_, sv_le (hb1 _) (hG2 _), e⟩
      have e5 : x5b = b2 := by
        rw [hx5b, e0]
        show b2 + (sgn sg).toInt64 * (0 : Int64) = b2
        rw [Int64.mul_zero, Int64.add_zero]
      rw [e5, ev]
      refine q_if (pk_lLT (b := 0) (by omega) (by decide)) (fun h => absurd h (by omega)) (fun _ => q_if (pk_lLE (b := 1000000000000000) (by omega) (by decide)) (fun _ => ?_) (fun h => absurd hv h))
      intro x9b hx9b
      rw [hx9b, nI_1, ← ev]
      exact nxt _ _ hT3 hG3
    · have hs := hsh z hzN
      have hl := hlow z hzN e0
      refine sp_X7_lowOf hd2 hs.2 (by omega) ?_
      refine sp_X7_slotOf hd1 (hsl z hzN) ?_
      rw [htau]
      have ht := hth z hzN hl
      have fin : blk_X1_canMerge_s_135 (nI so2) (nI d2) (nI N) (nI P2) (lN h2) U2 K2 (fun v0 v1 v2 => lp_X1_canMerge_s_48 (nI so2) (nI d2) (nI N) (nI P2) (lN h2) U2 K2 Q (sgn sg) n v0 v1 v2) (fun v0 v1 v2 => lp_X1_canMerge_s_72 (nI so2) (nI d2) (nI N) (nI P2) (lN h2) U2 K2 (fun v0 v1 v2 => lp_X1_canMerge_s_48 (nI so2) (nI d2) (nI N) (nI P2) (lN h2) U2 K2 Q (sgn sg) n v0 v1 v2) Q (sgn sg) (nI p) (nI (endP N (k2 p) p)) n2 v0 v1 v2) Q (sgn sg) (nI p) (nI (endP N (k2 p) p)) (nI z) (lN (u2 z)) (nI (τ z)) (lN (sv sg (u2 (τ z)) (mo τ u2 z (τ z)))) := by
        unfold blk_X1_canMerge_s_135
        intro x5b hx5b x4b hx4b
        have ⟨s1, s2⟩ := sg_step (hb1 (τ z)) hbz (hG2 (τ z))
        rw [← mo_at (c := z) (w := u2) (σ := τ) rfl] at s1 s2
        by_cases hg : gd sg (u2 (τ z)) (mo τ u2 (z + 1) (τ z))
        · have hle := sv_le (hb1 (τ z)) hg
          rw [hx5b, hx4b, s1 hg]
          refine q_if (pk_lLT (b := 0) (by omega) (by decide)) (fun h => absurd h (by omega)) (fun _ => q_if (pk_lLE (b := 1000000000000000) (by omega) (by decide)) (fun _ => ?_) (fun h => absurd hle h))
          intro x9b hx9b
          rw [hx9b, nI_1]
          refine nxt _ _ (Or.inr ⟨z, by omega, e0, fun s g1 g2 => absurd g1 (by omega), rfl, rfl⟩) (fun t => ?_)
          by_cases et : τ z = t
          · rw [← et]; exact hg
          · rw [mo_ne et]; exact hG2 t
        · have hq : Q 0 := q0 (fun hc => hg (gd_le (mo_le (by omega)) (hc.2.2 (τ z))))
          refine ⟨fun _ => hq, fun h => ⟨fun h2 => ?_, fun _ => hq⟩⟩
          rw [hx5b] at h h2
          rcases s2 hg with w | w
          · exact absurd w h
          · exact absurd h2 w
      unfold blk_X1_canMerge_s_115
      intro x12 hx12
      rw [hx12]
      rcases hT2 with ⟨e1, e2, e3⟩ | ⟨s0, h0, h1', h2', h3', h4'⟩
      · refine ⟨fun _ => ?_, fun e => absurd (e.trans e1) (m1_ne (by omega))⟩
        refine sp_unitsOf (by omega) ?_
        rw [hU1 _ (by omega)]
        rw [mo_z2 (fun i hi _ => e3 i hi), sv_0] at fin
        exact fin
      · have ht0 := htm s0 z (by omega) hzN
        refine ⟨fun ne => ?_, fun e => ?_⟩
        · refine sp_unitsOf (by omega) ?_
          rw [hU1 _ (by omega)]
          have hne : τ s0 ≠ τ z := fun q => ne (by rw [h3', q])
          rw [mo_z2 (fun i hi e => ?_), sv_0] at fin
          · exact fin
          · rcases Nat.lt_or_ge s0 i with q | q
            · exact h2' i q hi
            · have := htm i s0 q (by omega)
              exfalso
              omega
        · have et : τ z = τ s0 := by
            rw [h3'] at e
            exact (nI_eq (by omega) (by omega)).mp e
          rw [h4', ← et]
          exact fin
  unfold wp_X1_canMerge_s
  refine sp_lastUsed hP2 hN2 hN22 rfl rfl hU2 hb2 hk hk31 hz (fun L hL => ?_)
  intro x3 hx3
  rw [hx3]
  refine q_fi (nI_eq (by omega) (by omega)) (fun eso => ?_) (fun ne => q0 (fun c => ne c.1))
  rcases hL with ⟨e, hL⟩ | ⟨s, hs, e, hL1, hL2⟩
  · rw [e]
    exact ⟨fun _ => main eso (fun s hs hne => absurd (hL s hs) hne), fun n => absurd rfl n⟩
  · rw [e]
    have hss := hsh s hs
    have hls := hsl s hs
    refine ⟨fun n => absurd n (m1_ne (by omega)), fun _ => ?_⟩
    refine sp_X7_lowOf hd2 hss.2 (by omega) ?_
    refine q_if (pk_lLE hls (by omega)) (fun hle => main eso (fun s2 hs2 hne => ?_)) (fun hnle => q0 (fun c => hnle (c.2.1 s hs hL1)))
    have : s2 ≤ s := by
      rcases Nat.lt_or_ge s s2 with q | q
      · exact absurd (hL2 s2 q hs2) hne
      · exact q
    exact Nat.le_trans (Low_mono hd2 this (by omega)) hle
