/-! ===== what is brought over ===== -/
def us (sg : Nat) (u1 τ u2 : Nat → Nat) (c : Nat) : Nat → Nat := fun t => sv sg (u1 t) (mo τ u2 c t)
theorem us_0 (sg : Nat) (u1 τ u2 : Nat → Nat) : us sg u1 τ u2 0 = u1 := funext fun t => sv_0 sg (u1 t)
theorem us_z {sg : Nat} {u1 τ u2 : Nat → Nat} {a b : Nat} (hab : a ≤ b) (hz : ∀ i, a ≤ i → i < b → u2 i = 0) : us sg u1 τ u2 b = us sg u1 τ u2 a := funext fun t => by
  unfold us
  rw [mo_wz2 hab hz]
theorem us_s (sg : Nat) (u1 τ u2 : Nat → Nat) (z : Nat) : us sg u1 τ u2 (z + 1) = upn (us sg u1 τ u2 z) (τ z) (us sg u1 τ u2 (z + 1) (τ z)) := funext fun t => by
  by_cases e : t = τ z
  · rw [e, upn_s]
  · rw [upn_n e]
    unfold us
    rw [mo_ne (fun q => e q.symm)]
theorem us_b {sg : Nat} {u1 τ u2 : Nat → Nat} {N : Nat} (hb : ∀ j, u1 j ≤ 1000000000000000) (hG : ∀ t, gd sg (u1 t) (mo τ u2 N t)) {c : Nat} (hc : c ≤ N) : ∀ j, us sg u1 τ u2 c j ≤ 1000000000000000 := fun j => sv_le (hb j) (gd_le (mo_le hc) (hG j))
theorem us_dir {sg : Nat} {u1 τ u2 : Nat → Nat} {z : Nat} : Dir u1 (us sg u1 τ u2 z) (τ z) (us sg u1 τ u2 (z + 1) (τ z)) := by
  have h := mo_at (σ := τ) (w := u2) (c := z) (s := τ z) rfl
  by_cases e : sg = 0
  · left
    refine ⟨fun j => ?_, ?_⟩
    · show u1 j ≤ sv sg (u1 j) (mo τ u2 z j)
      unfold sv; rw [if_pos e]; omega
    · show sv sg (u1 (τ z)) (mo τ u2 z (τ z)) ≤ sv sg (u1 (τ z)) (mo τ u2 (z + 1) (τ z))
      unfold sv; rw [if_pos e, if_pos e, h]; omega
  · right
    refine ⟨fun j => ?_, ?_⟩
    · show sv sg (u1 j) (mo τ u2 z j) ≤ u1 j
      unfold sv; rw [if_neg e]; omega
    · show sv sg (u1 (τ z)) (mo τ u2 (z + 1) (τ z)) ≤ sv sg (u1 (τ z)) (mo τ u2 z (τ z))
      unfold sv; rw [if_neg e, if_neg e, h]; omega
theorem tau_id {d s : Nat} (hd : d = 1 ∨ d = 2) (hs : ShS d s ≤ 40) : tau d d s = s := (Slot_Low hd hs).1
theorem sp_canMergeE {sg so1 d1 h1 so2 d2 h2 P1 P2 : Nat} {x1 x2 x4 x5 x6 x7 : Int32} {x3 : Int64} {U1 U2 : Nat → Int64} {K2 : Nat → Int32} {u1 u2 k2 : Nat → Nat} {Q : Int32 → Prop} (e1 : x1 = nI so1) (e2 : x2 = nI d1) (e3 : x3 = lN h1) (e4 : x4 = nI so2) (e5 : x5 = nI d2) (e6 : x6 = nI (Slot d2 h2 + 1)) (e7 : x7 = nI P2) (hsg : so1 < 2) (hsg2 : so2 < 2) (hd1 : d1 = 1 ∨ d1 = 2) (hd2 : d2 = 1 ∨ d2 = 2) (hh1 : h1 ≤ 1000000000000) (hh2 : h2 ≤ 1000000000000) (hP1 : P1 ≤ 271) (hN1 : Slot d1 h1 + 1 ≤ 16 * P1) (hP2 : P2 ≤ 271) (hN2 : Slot d2 h2 + 1 ≤ 16 * P2) (hN22 : 16 * P2 < Slot d2 h2 + 1 + 16) (hU1 : ∀ j, j < 16 * P1 → U1 j = lN (u1 j)) (hb1 : ∀ j, u1 j ≤ 1000000000000000) (hU2 : ∀ j, j < 16 * P2 → U2 j = lN (u2 j)) (hb2 : ∀ j, u2 j ≤ 1000000000000000) (hk : ∀ p, p < P2 → K2 p = nI (k2 p)) (hk31 : ∀ p, k2 p < 2 ^ 31) (hz : ∀ p, k2 p = 0 → ∀ i, i < 16 → u2 (16 * p + i) = 0) (q1 : CanM sg so1 d1 h1 u1 so2 d2 h2 u2 → Q 1) (q0 : ¬ CanM sg so1 d1 h1 u1 so2 d2 h2 u2 → Q 0) : wp_X1_canMerge (sgn sg) x1 x2 x3 U1 x4 x5 x6 x7 U2 K2 Q := by
  subst e1 e2 e3 e4 e5 e6 e7
  exact sp_canMerge hsg hsg2 hd1 hd2 hh1 hh2 hP1 hN1 hP2 hN2 hN22 hU1 hb1 hU2 hb2 hk hk31 hz q1 q0
theorem sp_canMerge_sE {sg so2 d2 h2 P2 : Nat} {x4 x5 x6 x7 : Int32} {x3 : Int64} {U2 : Nat → Int64} {K2 : Nat → Int32} {u2 k2 : Nat → Nat} {Q : Int32 → Prop} (e3 : x3 = lN h2) (e4 : x4 = nI so2) (e5 : x5 = nI d2) (e6 : x6 = nI (Slot d2 h2 + 1)) (e7 : x7 = nI P2) (hsg2 : so2 < 2) (hd2 : d2 = 1 ∨ d2 = 2) (hh2 : h2 ≤ 1000000000000) (hP2 : P2 ≤ 271) (hN2 : Slot d2 h2 + 1 ≤ 16 * P2) (hN22 : 16 * P2 < Slot d2 h2 + 1 + 16) (hU2 : ∀ j, j < 16 * P2 → U2 j = lN (u2 j)) (hb2 : ∀ j, u2 j ≤ 1000000000000000) (hk : ∀ p, p < P2 → K2 p = nI (k2 p)) (hk31 : ∀ p, k2 p < 2 ^ 31) (hz : ∀ p, k2 p = 0 → ∀ i, i < 16 → u2 (16 * p + i) = 0) (q1 : CanM sg so2 d2 h2 u2 so2 d2 h2 u2 → Q 1) (q0 : ¬ CanM sg so2 d2 h2 u2 so2 d2 h2 u2 → Q 0) : wp_X1_canMerge_s (sgn sg) x4 x5 x6 x7 x3 U2 K2 Q := by
  subst e3 e4 e5 e6 e7
  exact sp_canMerge_s hsg2 hsg2 hd2 hd2 hh2 hh2 hP2 hN2 hP2 hN2 hN22 hU2 hb2 hU2 hb2 hk hk31 hz q1 q0
theorem sp_mergeFrom {sg so1 d1 h1 d2 h2 P1 P2 : Nat} {x1 x2 x3 x4 x5 : Int32} {U1 U2 : Nat → Int64} {K1 K2 : Nat → Int32} {u1 k1 u2 k2 : Nat → Nat} {Q : (Nat → Int64) → (Nat → Int32) → Prop} (e1 : x1 = nI so1) (e2 : x2 = nI d1) (e3 : x3 = nI d2) (e4 : x4 = nI (Slot d2 h2 + 1)) (e5 : x5 = nI P2) (hso : so1 = 0 ∨ so1 = 1) (hd1 : d1 = 1 ∨ d1 = 2) (hh1 : h1 ≤ 1000000000000) (hP1 : P1 ≤ 271) (hN1 : Slot d1 h1 + 1 ≤ 16 * P1) (hb1 : ∀ j, u1 j ≤ 1000000000000000) (hk1 : ∀ p, KOK so1 (k1 p) (fun i => u1 (16 * p + i))) (hR : UK P1 U1 K1 u1 k1) (hd2 : d2 = 1 ∨ d2 = 2) (hh2 : h2 ≤ 1000000000000) (hP2 : P2 ≤ 271) (hN2 : Slot d2 h2 + 1 ≤ 16 * P2) (hU2 : ∀ j, j < 16 * P2 → U2 j = lN (u2 j)) (hb2 : ∀ j, u2 j ≤ 1000000000000000) (hk : ∀ p, p < P2 → K2 p = nI (k2 p)) (hk31 : ∀ p, k2 p < 2 ^ 31) (hz : ∀ p, k2 p = 0 → ∀ i, i < 16 → u2 (16 * p + i) = 0) (hlow : ∀ s, s < Slot d2 h2 + 1 → u2 s ≠ 0 → Low d2 s ≤ h1) (hG : ∀ t, gd sg (u1 t) (mo (tau d1 d2) u2 (Slot d2 h2 + 1) t)) (kk : ∀ U' K', UK P1 U' K' (us sg u1 (tau d1 d2) u2 (Slot d2 h2 + 1)) (fk so1 u1 k1 (us sg u1 (tau d1 d2) u2 (Slot d2 h2 + 1))) → Q U' K') : wp_X1_mergeFrom (sgn sg) x1 x2 U1 K1 x3 x4 x5 U2 K2 Q := by
  subst e1 e2 e3 e4 e5
  have hsh : ∀ s, s < Slot d2 h2 + 1 → ShS d2 s ≤ 36 ∧ s < 2 ^ 20 := fun s hs => ShS_s hd2 hh2 (by omega)
  have hsl : ∀ s, s < Slot d2 h2 + 1 → Low d2 s < 2 ^ 63 := fun s hs => (Slot_Low hd2 (by have := hsh s hs; omega)).2
  have hth : ∀ s, s < Slot d2 h2 + 1 → Low d2 s ≤ h1 → tau d1 d2 s ≤ Slot d1 h1 := fun s hs h => Slot_mono hd1 h (by omega)
  have htau : ∀ s, Slot d1 (Low d2 s) = tau d1 d2 s := fun _ => rfl
  generalize tau d1 d2 = τ at *
  generalize eNN : Slot d2 h2 + 1 = N at *
  unfold wp_X1_mergeFrom
  intro x3 hx3
  rw [hx3]
  refine lp3 (fun n a b c => lp_X1_mergeFrom_2 (nI so1) (nI d1) (nI d2) (nI N) (nI P2) U2 K2 Q (sgn sg) n a b c) (fun a b c => ∃ p, p ≤ P2 ∧ a = nI p ∧ UK P1 b c (us sg u1 τ u2 (min (16 * p) N)) (fk so1 u1 k1 (us sg u1 τ u2 (min (16 * p) N)))) (fun a _ _ => P2 - a.toInt.toNat) ?_ _ _ _ ⟨0, by omega, rfl, by rw [show min (16 * 0) N = 0 by omega, us_0, fk_0]; exact hR⟩
  intro n a b c hI ho
  obtain ⟨p, hp, ea, hB⟩ := hI
  subst ea
  show bod_X1_mergeFrom_2 (nI so1) (nI d1) (nI d2) (nI N) (nI P2) U2 K2 Q (sgn sg) (fun v0 v1 v2 => lp_X1_mergeFrom_2 (nI so1) (nI d1) (nI d2) (nI N) (nI P2) U2 K2 Q (sgn sg) n v0 v1 v2) (nI p) b c
  unfold bod_X1_mergeFrom_2
  refine q_if (nI_leI (by omega) (by omega)) (fun q => ?_) (fun q => ?_)
  · rw [show min (16 * p) N = N by omega] at hB
    exact kk b c hB
  have hpP : p < P2 := by omega
  have hb1' : endP N (k2 p) p ≤ 16 * p + 16 := by unfold endP; split <;> omega
  have hkp := hk p hpP
  refine sp_endOf (by omega) hkp (hk31 p) rfl (by omega) ?_
  intro x8 hx8 x9 hx9
  rw [hx8, hx9, pg16]
  refine lp3 (fun n2 a b c => lp_X1_mergeFrom_23 (nI so1) (nI d1) (nI d2) (nI N) (nI P2) U2 K2 (fun v0 v1 v2 => lp_X1_mergeFrom_2 (nI so1) (nI d1) (nI d2) (nI N) (nI P2) U2 K2 Q (sgn sg) n v0 v1 v2) Q (sgn sg) (nI p) (nI (endP N (k2 p) p)) n2 a b c) (fun a b c => ∃ z, (16 * p = z ∨ (16 * p ≤ z ∧ z ≤ endP N (k2 p) p)) ∧ a = nI z ∧ UK P1 b c (us sg u1 τ u2 (min z N)) (fk so1 u1 k1 (us sg u1 τ u2 (min z N)))) (fun a _ _ => 16 * p + 16 - a.toInt.toNat) ?_ _ _ _ ⟨16 * p, Or.inl rfl, rfl, hB⟩
  intro n2 a2 b2 c2 hI2 hs2
  obtain ⟨z, hz1, ea2, hB2⟩ := hI2
  subst ea2
  show bod_X1_mergeFrom_23 (nI so1) (nI d1) (nI d2) (nI N) (nI P2) U2 K2 (fun v0 v1 v2 => lp_X1_mergeFrom_2 (nI so1) (nI d1) (nI d2) (nI N) (nI P2) U2 K2 Q (sgn sg) n v0 v1 v2) Q (sgn sg) (nI p) (nI (endP N (k2 p) p)) (fun v0 v1 v2 => lp_X1_mergeFrom_23 (nI so1) (nI d1) (nI d2) (nI N) (nI P2) U2 K2 (fun v0 v1 v2 => lp_X1_mergeFrom_2 (nI so1) (nI d1) (nI d2) (nI N) (nI P2) U2 K2 Q (sgn sg) n v0 v1 v2) Q (sgn sg) (nI p) (nI (endP N (k2 p) p)) n2 v0 v1 v2) (nI z) b2 c2
  unfold bod_X1_mergeFrom_23
  refine q_if (nI_leI (by omega) (by omega)) (fun q2 => ?_) (fun q2 => ?_)
  · intro x4 hx4
    rw [hx4, nI_1]
    have hpz := page_z (hz p) hz1 q2
    refine ho _ _ _ ⟨p + 1, by omega, rfl, ?_⟩ ?_
    · rw [us_z (by omega) hpz]; exact hB2
    · rw [nI_toInt (by omega), nI_toInt (by omega)]
      omega
  have ⟨hzN, hz16⟩ := end_lt hz1 q2
  rw [show min z N = z by omega] at hB2
  have hbz := hb2 z
  have nxt : ∀ U K, UK P1 U K (us sg u1 τ u2 (z + 1)) (fk so1 u1 k1 (us sg u1 τ u2 (z + 1))) → blk_X1_mergeFrom_81 (nI so1) (nI d1) (nI d2) (nI N) (nI P2) U2 K2 (fun v0 v1 v2 => lp_X1_mergeFrom_2 (nI so1) (nI d1) (nI d2) (nI N) (nI P2) U2 K2 Q (sgn sg) n v0 v1 v2) (fun v0 v1 v2 => lp_X1_mergeFrom_23 (nI so1) (nI d1) (nI d2) (nI N) (nI P2) U2 K2 (fun v0 v1 v2 => lp_X1_mergeFrom_2 (nI so1) (nI d1) (nI d2) (nI N) (nI P2) U2 K2 Q (sgn sg) n v0 v1 v2) Q (sgn sg) (nI p) (nI (endP N (k2 p) p)) n2 v0 v1 v2) Q (sgn sg) (nI p) (nI (endP N (k2 p) p)) (nI z) U K := by
    intro U K h
    unfold blk_X1_mergeFrom_81
    intro x5 hx5
    rw [hx5, nI_1]
    refine hs2 _ _ _ ⟨z + 1, by omega, rfl, by rw [show min (z + 1) N = z + 1 by omega]; exact h⟩ ?_
    rw [nI_toInt (by omega), nI_toInt (by omega)]
    omega
  refine sp_unitsOf (by omega) ?_
  intro x6 hx6
  have hmv := hU2 z (by omega)
  rw [hx6, hmv]
  refine q_if (lN_z (by omega)) (fun e0 => ?_) (fun e0 => ?_)
  · refine nxt _ _ ?_
    rw [us_z (a := z) (by omega) (fun i g1 g2 => by rw [show i = z by omega]; exact e0)]
    exact hB2
  · have hs := hsh z hzN
    have hl := hlow z hzN e0
    refine sp_X7_lowOf hd2 hs.2 (by omega) ?_
    refine sp_X7_slotOf hd1 (hsl z hzN) ?_
    rw [htau]
    have ht := hth z hzN hl
    intro x8b hx8b
    rw [hx8b]
    refine sp_unitsOf (by omega) ?_
    have hg : gd sg (u1 (τ z)) (mo τ u2 (z + 1) (τ z)) := gd_le (mo_le (by omega)) (hG (τ z))
    have hg0 : gd sg (u1 (τ z)) (mo τ u2 z (τ z)) := gd_le (mo_le (by omega)) (hG (τ z))
    have s1 := (sg_step (hb1 (τ z)) hbz hg0).1
    rw [← mo_at (c := z) (w := u2) (σ := τ) rfl] at s1
    have hv : b2 (τ z) + (sgn sg).toInt64 * lN (u2 z) = lN (us sg u1 τ u2 (z + 1) (τ z)) := by
      rw [hB2.1 _ (by omega)]
      exact s1 hg
    rw [hv]
    refine sp_rewrite hso hP1 (by omega) hk1 hb1 (us_b hb1 hG (by omega)) (us_b hb1 hG (by omega) _) us_dir hB2 (fun U3 K3 h3 => nxt _ _ ?_)
    rw [← us_s] at h3
    exact h3
theorem sp_mergeFrom_s {sg so1 d1 h1 P1 : Nat} {x1 x2 x3 x4 : Int32} {U1 : Nat → Int64} {K1 : Nat → Int32} {u1 k1 : Nat → Nat} {Q : (Nat → Int64) → (Nat → Int32) → Prop} (e1 : x1 = nI so1) (e2 : x2 = nI d1) (e3 : x3 = nI (Slot d1 h1 + 1)) (e4 : x4 = nI P1) (hso : so1 = 0 ∨ so1 = 1) (hd1 : d1 = 1 ∨ d1 = 2) (hh1 : h1 ≤ 1000000000000) (hP1 : P1 ≤ 271) (hN1 : Slot d1 h1 + 1 ≤ 16 * P1) (hb1 : ∀ j, u1 j ≤ 1000000000000000) (hk1 : ∀ p, KOK so1 (k1 p) (fun i => u1 (16 * p + i))) (hR : UK P1 U1 K1 u1 k1) (hlow : ∀ s, s < Slot d1 h1 + 1 → u1 s ≠ 0 → Low d1 s ≤ h1) (hG : ∀ t, gd sg (u1 t) (mo (tau d1 d1) u1 (Slot d1 h1 + 1) t)) (kk : ∀ U' K', UK P1 U' K' (us sg u1 (tau d1 d1) u1 (Slot d1 h1 + 1)) (fk so1 u1 k1 (us sg u1 (tau d1 d1) u1 (Slot d1 h1 + 1))) → Q U' K') : wp_X1_mergeFrom_s (sgn sg) x1 x2 x3 x4 U1 K1 Q := by
  subst e1 e2 e3 e4
  have hd2 := hd1
  have hh2 := hh1
  have hb2 := hb1
  have hsh : ∀ s, s < Slot d1 h1 + 1 → ShS d1 s ≤ 36 ∧ s < 2 ^ 20 := fun s hs => ShS_s hd2 hh2 (by omega)
  have hsl : ∀ s, s < Slot d1 h1 + 1 → Low d1 s < 2 ^ 63 := fun s hs => (Slot_Low hd2 (by have := hsh s hs; omega)).2
  have hth : ∀ s, s < Slot d1 h1 + 1 → Low d1 s ≤ h1 → tau d1 d1 s ≤ Slot d1 h1 := fun s hs h => Slot_mono hd1 h (by omega)
  have htau : ∀ s, Slot d1 (Low d1 s) = tau d1 d1 s := fun _ => rfl
  have hk31 : ∀ p, k1 p < 2 ^ 31 := fun p => by have := KOK_le hso (hk1 p); omega
  have hz : ∀ p, k1 p = 0 → ∀ i, i < 16 → u1 (16 * p + i) = 0 := fun p => (hk1 p).1
  have htid : ∀ s, s < Slot d1 h1 + 1 → tau d1 d1 s = s := fun s hs => tau_id hd1 (by have := hsh s hs; omega)
  generalize tau d1 d1 = τ at *
  generalize eNN : Slot d1 h1 + 1 = N at *
  unfold wp_X1_mergeFrom_s
  intro x3 hx3
  rw [hx3]
  refine lp3 (fun n a b c => lp_X1_mergeFrom_s_2 (nI so1) (nI d1) (nI N) (nI P1) Q (sgn sg) n a b c) (fun a b c => ∃ p, p ≤ P1 ∧ a = nI p ∧ UK P1 b c (us sg u1 τ u1 (min (16 * p) N)) (fk so1 u1 k1 (us sg u1 τ u1 (min (16 * p) N)))) (fun a _ _ => P1 - a.toInt.toNat) ?_ _ _ _ ⟨0, by omega, rfl, by rw [show min (16 * 0) N = 0 by omega, us_0, fk_0]; exact hR⟩
  intro n a b c hI ho
  obtain ⟨p, hp, ea, hB⟩ := hI
  subst ea
  show bod_X1_mergeFrom_s_2 (nI so1) (nI d1) (nI N) (nI P1) Q (sgn sg) (fun v0 v1 v2 => lp_X1_mergeFrom_s_2 (nI so1) (nI d1) (nI N) (nI P1) Q (sgn sg) n v0 v1 v2) (nI p) b c
  unfold bod_X1_mergeFrom_s_2
  refine q_if (nI_leI (by omega) (by omega)) (fun q => ?_) (fun q => ?_)
  · rw [show min (16 * p) N = N by omega] at hB
    exact kk b c hB
  have hpP : p < P1 := by omega
  have hb1' : endP N (k1 p) p ≤ 16 * p + 16 := by unfold endP; split <;> omega
  have hkp : c p = nI (k1 p) := by
    have := hB.2 p hpP
    rw [fk_un (fun i hi => ?_)] at this
    · exact this
    · unfold us
      rw [mo_zero (fun e he => by rw [htid e (by omega)]; omega), sv_0]
  refine sp_endOf (by omega) hkp (hk31 p) rfl (by omega) ?_
  intro x8 hx8 x9 hx9
  rw [hx8, hx9, pg16]
  refine lp3 (fun n2 a b c => lp_X1_mergeFrom_s_23 (nI so1) (nI d1) (nI N) (nI P1) (fun v0 v1 v2 => lp_X1_mergeFrom_s_2 (nI so1) (nI d1) (nI N) (nI P1) Q (sgn sg) n v0 v1 v2) Q (sgn sg) (nI p) (nI (endP N (k1 p) p)) n2 a b c) (fun a b c => ∃ z, (16 * p = z ∨ (16 * p ≤ z ∧ z ≤ endP N (k1 p) p)) ∧ a = nI z ∧ UK P1 b c (us sg u1 τ u1 (min z N)) (fk so1 u1 k1 (us sg u1 τ u1 (min z N)))) (fun a _ _ => 16 * p + 16 - a.toInt.toNat) ?_ _ _ _ ⟨16 * p, Or.inl rfl, rfl, hB⟩
  intro n2 a2 b2 c2 hI2 hs2
  obtain ⟨z, hz1, ea2, hB2⟩ := hI2
  subst ea2
  show bod_X1_mergeFrom_s_23 (nI so1) (nI d1) (nI N) (nI P1) (fun v0 v1 v2 => lp_X1_mergeFrom_s_2 (nI so1) (nI d1) (nI N) (nI P1) Q (sgn sg) n v0 v1 v2) Q (sgn sg) (nI p) (nI (endP N (k1 p) p)) (fun v0 v1 v2 => lp_X1_mergeFrom_s_23 (nI so1) (nI d1) (nI N) (nI P1) (fun v0 v1 v2 => lp_X1_mergeFrom_s_2 (nI so1) (nI d1) (nI N) (nI P1) Q (sgn sg) n v0 v1 v2) Q (sgn sg) (nI p) (nI (endP N (k1 p) p)) n2 v0 v1 v2) (nI z) b2 c2
  unfold bod_X1_mergeFrom_s_23
  refine q_if (nI_leI (by omega) (by omega)) (fun q2 => ?_) (fun q2 => ?_)
  · intro x4 hx4
    rw [hx4, nI_1]
    have hpz := page_z (hz p) hz1 q2
    refine ho _ _ _ ⟨p + 1, by omega, rfl, ?_⟩ ?_
    · rw [us_z (by omega) hpz]; exact hB2
    · rw [nI_toInt (by omega), nI_toInt (by omega)]
      omega
  have ⟨hzN, hz16⟩ := end_lt hz1 q2
  rw [show min z N = z by omega] at hB2
  have hbz := hb2 z
  have nxt : ∀ U K, UK P1 U K (us sg u1 τ u1 (z + 1)) (fk so1 u1 k1 (us sg u1 τ u1 (z + 1))) → blk_X1_mergeFrom_s_81 (nI so1) (nI d1) (nI N) (nI P1) (fun v0 v1 v2 => lp_X1_mergeFrom_s_2 (nI so1) (nI d1) (nI N) (nI P1) Q (sgn sg) n v0 v1 v2) (fun v0 v1 v2 => lp_X1_mergeFrom_s_23 (nI so1) (nI d1) (nI N) (nI P1) (fun v0 v1 v2 => lp_X1_mergeFrom_s_2 (nI so1) (nI d1) (nI N) (nI P1) Q (sgn sg) n v0 v1 v2) Q (sgn sg) (nI p) (nI (endP N (k1 p) p)) n2 v0 v1 v2) Q (sgn sg) (nI p) (nI (endP N (k1 p) p)) (nI z) U K := by
    intro U K h
    unfold blk_X1_mergeFrom_s_81
    intro x5 hx5
    rw [hx5, nI_1]
    refine hs2 _ _ _ ⟨z + 1, by omega, rfl, by rw [show min (z + 1) N = z + 1 by omega]; exact h⟩ ?_
    rw [nI_toInt (by omega), nI_toInt (by omega)]
    omega
  refine sp_unitsOf (by omega) ?_
  intro x6 hx6
  have hmv : b2 z = lN (u1 z) := by
    rw [hB2.1 z (by omega)]
    unfold us
    rw [mo_zero (fun e he => by rw [htid e (by omega)]; omega), sv_0]
  rw [hx6, hmv]
  refine q_if (lN_z (by omega)) (fun e0 => ?_) (fun e0 => ?_)
  · refine nxt _ _ ?_
    rw [us_z (a := z) (by omega) (fun i g1 g2 => by rw [show i = z by omega]; exact e0)]
    exact hB2
  · have hs := hsh z hzN
    have hl := hlow z hzN e0
    refine sp_X7_lowOf hd2 hs.2 (by omega) ?_
    refine sp_X7_slotOf hd1 (hsl z hzN) ?_
    rw [htau]
    have ht := hth z hzN hl
    intro x8b hx8b
    rw [hx8b]
    refine sp_unitsOf (by omega) ?_
    have hg : gd sg (u1 (τ z)) (mo τ u1 (z + 1) (τ z)) := gd_le (mo_le (by omega)) (hG (τ z))
    have hg0 : gd sg (u1 (τ z)) (mo τ u1 z (τ z)) := gd_le (mo_le (by omega)) (hG (τ z))
    have s1 := (sg_step (hb1 (τ z)) hbz hg0).1
    rw [← mo_at (c := z) (w := u1) (σ := τ) rfl] at s1
    have hv : b2 (τ z) + (sgn sg).toInt64 * lN (u1 z) = lN (us sg u1 τ u1 (z + 1) (τ z)) := by
      rw [hB2.1 _ (by omega)]
      exact s1 hg
    rw [hv]
    refine sp_rewrite hso hP1 (by omega) hk1 hb1 (us_b hb1 hG (by omega)) (us_b hb1 hG (by omega) _) us_dir hB2 (fun U3 K3 h3 => nxt _ _ ?_)
    rw [← us_s] at h3
    exact h3
theorem sp_laysOther {r1 r2 so1 d1 h1 so2 d2 h2 : Nat} {t_set : Nat → Int32} {t_highest t_units t_more : Nat → Int64} {u2 : Nat → Nat} {Q : Int32 → (Nat → Int64) → Prop} (hr1 : r1 < 4) (hr2 : r2 < 4) (hso1 : so1 < 2) (hso2 : so2 < 2) (hd1 : d1 = 1 ∨ d1 = 2) (hd2 : d2 = 1 ∨ d2 = 2) (hh1 : h1 ≤ 1000000000000) (hh2 : h2 ≤ 1000000000000) (e0 : t_set (4 * r1 + 0) = nI so1) (e1 : t_set (4 * r1 + 1) = nI d1) (eh : t_highest r1 = lN h1) (f0 : t_set (4 * r2 + 0) = nI so2) (f1 : t_set (4 * r2 + 1) = nI d2) (f2 : t_set (4 * r2 + 2) = nI (Slot d2 h2 + 1)) (hu2 : ∀ j, j < Slot d2 h2 + 1 → t_units (4352 * r2 + j) = lN (u2 j)) (hb2 : ∀ j, u2 j ≤ 1000000000000000) (q1 : so1 = so2 → (∀ s, s < Slot d2 h2 + 1 → u2 s ≠ 0 → Low d2 s ≤ h1) → ∀ m', (∀ j, j < 4352 → m' j = lN (min (mo (tau d1 d2) u2 (Slot d2 h2 + 1) j) 2000000000000000)) → Q 1 m') (q0 : ¬ (so1 = so2 ∧ ∀ s, s < Slot d2 h2 + 1 → u2 s ≠ 0 → Low d2 s ≤ h1) → ∀ m', Q 0 m') : wp_X8_laysOther (nI r1) (nI r2) t_set t_highest t_units t_more Q := by
  have ⟨a1, a2⟩ := Slot_le hd1 hh1
  have ⟨b1, b2⟩ := Slot_le hd2 hh2
  have z0 : (0 : Int32).toInt = 0 := by decide
  have zm : (-1 : Int32).toInt = -1 := by decide
  have hsh : ∀ s, s < Slot d2 h2 + 1 → ShS d2 s ≤ 36 ∧ s < 2 ^ 20 := fun s hs => ShS_s hd2 hh2 (by omega)
  have hsl : ∀ s, s < Slot d2 h2 + 1 → Low d2 s < 2 ^ 63 := fun s hs => (Slot_Low hd2 (by have := hsh s hs; omega)).2
  have hth : ∀ s, s < Slot d2 h2 + 1 → Low d2 s ≤ h1 → tau d1 d2 s ≤ Slot d1 h1 := fun s hs h => Slot_mono hd1 h (by omega)
  have htau : ∀ s, Slot d1 (Low d2 s) = tau d1 d2 s := fun _ => rfl
  generalize tau d1 d2 = τ at *
  generalize eNN : Slot d2 h2 + 1 = N at *
  have main : so1 = so2 → ∀ (L : Int32) (c : Nat), c ≤ N → L.toInt = (c : Int) - 1 → (∀ i, c ≤ i → i < N → u2 i = 0) → (∀ i, i < c → Low d2 i ≤ h1) → blk_X8_laysOther_49 t_set t_highest t_units Q (nI r1) (nI r2) L t_more := by
    intro eso L c hc eL hz hl
    have hlow : ∀ s, s < N → u2 s ≠ 0 → Low d2 s ≤ h1 := by
      intro s hs hne
      rcases Nat.lt_or_ge s c with q | q
      · exact hl s q
      · exact absurd (hz s q hs) hne
    unfold blk_X8_laysOther_49
    refine sp_laysNone (fun m0 hm0 => ?_)
    intro x4 hx4
    rw [hx4]
    refine lp2 (fun n a b => lp_X8_laysOther_56 t_set t_highest t_units Q (nI r1) (nI r2) L n a b) (fun a b => ∃ z, z ≤ c ∧ a = nI z ∧ ∀ j, j < 4352 → b j = lN (min (mo τ u2 z j) 2000000000000000)) (fun a _ => c - a.toInt.toNat) ?_ _ _ ⟨0, by omega, rfl, fun j hj => by rw [hm0 j hj]; rfl⟩
    intro n a b hI hs2
    obtain ⟨z, hzc, ea, hm⟩ := hI
    subst ea
    show bod_X8_laysOther_56 t_set t_highest t_units Q (nI r1) (nI r2) L (fun v0 v1 => lp_X8_laysOther_56 t_set t_highest t_units Q (nI r1) (nI r2) L n v0 v1) (nI z) b
    unfold bod_X8_laysOther_56
    refine q_if (fa_lt _ _) (fun q => ?_) (fun q => ?_)
    · rw [nI_toInt (by omega)] at q
      have ez : z = c := by omega
      subst ez
      refine q1 eso hlow b (fun j hj => ?_)
      rw [hm j hj, mo_wz2 hc hz]
    rw [nI_toInt (by omega)] at q
    have hzN : z < N := by omega
    have hs := hsh z hzN
    have hlz := hl z (by omega)
    refine sp_of (c := 1) hr1 (by decide) ?_
    refine sp_of (c := 1) hr2 (by decide) ?_
    rw [e1, f1]
    refine sp_X8_lowOf hd2 hs.2 (by omega) ?_
    refine sp_X8_slotOf hd1 (hsl z hzN) ?_
    rw [htau]
    have ht := hth z hzN hlz
    intro x5 hx5
    rw [hx5, show (4352 : Int32) * nI r2 + nI z = nI (4352 * r2 + z) from ix_at 4352 r2 z]
    refine q_in (by omega) (by decide) ?_
    intro x6 hx6
    have hbz := hb2 z
    rw [nI_clamp (by omega), hu2 z hzN] at hx6
    rw [hx6]
    refine q_in (by omega) (by decide) ?_
    rw [nI_clamp (by omega), hm _ (by omega), lN_add]
    have go : ∀ v, v = min (mo τ u2 (z + 1) (τ z)) 2000000000000000 → blk_X8_laysOther_138 t_set t_highest t_units (fun v0 v1 => lp_X8_laysOther_56 t_set t_highest t_units Q (nI r1) (nI r2) L n v0 v1) Q (nI r1) (nI r2) L (nI z) (nI (τ z)) (lN v) b := by
      intro v hv
      unfold blk_X8_laysOther_138
      refine q_in (by omega) (by decide) ?_
      intro m2 hm2 x4b hx4b
      rw [nI_clamp (by omega)] at hm2
      rw [hx4b, nI_1]
      refine hs2 _ _ ⟨z + 1, by omega, rfl, fun j hj => ?_⟩ ?_
      · rw [hm2]
        by_cases e : j = τ z
        · rw [e, pk_uLs, hv]
        · rw [pk_uLn e, hm j hj, mo_ne (fun q => e q.symm)]
      · rw [nI_toInt (by omega), nI_toInt (by omega)]
        omega
    have hmo := mo_at (σ := τ) (w := u2) (c := z) (s := τ z) rfl
    refine q_if (pk_lLE (b := 2000000000000000) (by omega) (by decide)) (fun q3 => ?_) (fun q3 => ?_)
    · refine q_in (by omega) (by decide) ?_
      refine go _ ?_
      rw [hmo]; omega
    · refine go 2000000000000000 ?_
      rw [hmo]; omega
  unfold wp_X8_laysOther
  refine sp_of (c := 0) hr1 (by decide) ?_
  refine sp_of (c := 0) hr2 (by decide) ?_
  rw [e0, f0]
  refine q_if (nI_eq (by omega) (by omega)) (fun eso => ?_) (fun ne => q0 (fun c => ne c.1) _)
  refine sp_lastSlot hr2 (by omega) f2 hu2 hb2 (fun L hL => ?_)
  intro x3 hx3
  rw [hx3]
  rcases hL with ⟨e, hL⟩ | ⟨s, hs, e, hL1, hL2⟩
  · refine q_if (fa_lt _ _) (fun _ => main eso L 0 (by omega) (by rw [e, zm]; rfl) (fun i _ hi => hL i hi) (fun i hi => absurd hi (by omega))) (fun q => ?_)
    rw [e, zm, z0] at q
    exact absurd (by decide) q
  · rw [e]
    have hss := hsh s hs
    have hls := hsl s hs
    refine ⟨fun q => absurd q (nI_nneg (by omega)), fun _ => ?_⟩
    refine sp_of (c := 1) hr2 (by decide) ?_
    rw [f1]
    refine sp_X8_lowOf hd2 hss.2 (by omega) ?_
    refine q_in hr1 (by decide) ?_
    rw [nI_clamp (by omega), eh]
    refine q_if (pk_lLE hls (by omega)) (fun hle => main eso (nI s) (s + 1) (by omega) (by rw [nI_toInt (by omega)]; omega) (fun i h1 h2 => hL2 i (by omega) h2) (fun i hi => Nat.le_trans (Low_mono hd2 (show i ≤ s by omega) (by omega)) hle)) (fun hnle => q0 (fun c => hnle (c.2 s hs hL1)) _)
theorem sp_isEnough {r N : Nat} {t_set : Nat → Int32} {t_units t_more : Nat → Int64} {u M : Nat → Nat} {Q : Int32 → Prop} (hr : r < 4) (hN : N ≤ 4336) (hs : t_set (4 * r + 2) = nI N) (hu : ∀ j, j < N → t_units (4352 * r + j) = lN (u j)) (hb0 : ∀ j, u j ≤ 1000000000000000) (hm : ∀ j, j < N → t_more j = lN (M j)) (hM : ∀ j, M j < 2 ^ 62) (h1 : (∀ j, j < N → M j ≤ u j) → Q 1) (h0 : ¬ (∀ j, j < N → M j ≤ u j) → Q 0) : wp_X8_isEnough (nI r) t_set t_units t_more Q := by
  unfold wp_X8_isEnough
  intro x ex
  rw [ex]
  refine lp1 (fun n a => lp_X8_isEnough_2 t_set t_units t_more Q (nI r) n a) (fun a => ∃ z, z ≤ N ∧ a = nI z ∧ ∀ j, j < z → M j ≤ u j) (fun a => N - a.toInt.toNat) ?_ _ ⟨0, by omega, rfl, fun j hj => absurd hj (by omega)⟩
  intro n a hI hs2
  obtain ⟨z, hz, ea, hj⟩ := hI
  subst ea
  show bod_X8_isEnough_2 t_set t_units t_more Q (nI r) (fun v0 => lp_X8_isEnough_2 t_set t_units t_more Q (nI r) n v0) (nI z)
  unfold bod_X8_isEnough_2
  refine sp_of (c := 2) hr (by decide) ?_
  rw [hs]
  refine q_if (nI_leI (by omega) (by omega)) (fun q => h1 (fun j hj2 => hj j (by omega))) (fun q => ?_)
  refine q_in (by omega) (by decide) ?_
  have c1 := hb0 z
  have c2 := hM z
  rw [show (4352 : Int32) * nI r + nI z = nI (4352 * r + z) from ix_at 4352 r z]
  refine q_in (by omega) (by decide) ?_
  rw [nI_clamp (by omega), nI_clamp (by omega), hm z (by omega), hu z (by omega)]
  refine q_if (pk_lLE (by omega) (by omega)) (fun q3 => ?_) (fun q3 => h0 (fun hh => q3 (hh z (by omega))))
  intro x1 hx1
  rw [hx1, nI_1]
  refine hs2 _ ⟨z + 1, by omega, rfl, fun j hj2 => ?_⟩ ?_
  · rcases Nat.lt_or_ge j z with q4 | q4
    · exact hj j q4
    · rw [show j = z by omega]; exact q3
  · rw [nI_toInt (by omega), nI_toInt (by omega)]
    omega
