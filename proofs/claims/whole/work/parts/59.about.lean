/-! ===== the mean ===== -/
def md (d k : Nat) : Nat := Low d k + Reach d k / 2
theorem md_b {d h k : Nat} (hd : d = 1 ∨ d = 2) (hh : h ≤ 1000000000000) (hk : k < Slot d h + 1) : md d k < 2199023255552 ∧ ShS d k ≤ 36 ∧ k < 2 ^ 20 := by
  have ⟨a, b⟩ := ShS_s hd hh (show k ≤ Slot d h by omega)
  have c := Low_mono hd (show k ≤ Slot d h by omega) (by rw [ShS_Slot hd (by omega)]; have := (Slot_le hd hh).2; omega)
  have e := Low_le hd (x := h) (by omega)
  have p := Nat.pow_le_pow_right (n := 2) (by decide) a
  have e36 : (2 : Nat) ^ 36 = 68719476736 := by decide
  rw [e36] at p
  unfold md Reach
  refine ⟨by omega, a, b⟩
theorem cut4 (a b c e : Nat) : (a * 1048576 + b) * (c * 33554432 + e) = a * c * 35184372088832 + a * e * 1048576 + b * c * 33554432 + b * e := by
  rw [Nat.add_mul, Nat.mul_add, Nat.mul_add, Nat.mul_mul_mul_comm, Nat.mul_right_comm a 1048576 e, ← Nat.mul_assoc b c]
  omega
def pHH (d : Nat) (u : Nat → Nat) (k : Nat) : Nat := md d k / 1048576 * (u k / 33554432)
def pHL (d : Nat) (u : Nat → Nat) (k : Nat) : Nat := md d k / 1048576 * (u k % 33554432)
def pLH (d : Nat) (u : Nat → Nat) (k : Nat) : Nat := md d k % 1048576 * (u k / 33554432)
def pLL (d : Nat) (u : Nat → Nat) (k : Nat) : Nat := md d k % 1048576 * (u k % 33554432)
theorem prod_cut (d : Nat) (u : Nat → Nat) (k : Nat) : md d k * u k = pHH d u k * 35184372088832 + pHL d u k * 1048576 + pLH d u k * 33554432 + pLL d u k := by
  have h := cut4 (md d k / 1048576) (md d k % 1048576) (u k / 33554432) (u k % 33554432)
  rw [Nat.mul_comm (md d k / 1048576) 1048576, Nat.div_add_mod, Nat.mul_comm (u k / 33554432) 33554432, Nat.div_add_mod] at h
  exact h
theorem sum_cut (d : Nat) (u : Nat → Nat) : ∀ n, fb_sm (fun k => md d k * u k) n = fb_sm (pHH d u) n * 35184372088832 + fb_sm (pHL d u) n * 1048576 + fb_sm (pLH d u) n * 33554432 + fb_sm (pLL d u) n
  | 0 => by simp [fb_sm]
  | n + 1 => by
    have h := sum_cut d u n
    have e := prod_cut d u n
    rw [fb_sm_succ, fb_sm_succ, fb_sm_succ, fb_sm_succ, fb_sm_succ, h]
    show _ + md d n * u n = _
    rw [e]
    omega
theorem div_step {X q r t : Nat} (ht : 0 < t) (h : X = q * t + r) (hr : r < t) : X / t = q := by
  rw [h, Nat.mul_comm, Nat.mul_add_div ht, Nat.div_eq_of_lt hr]
  rfl
theorem bit_of {T low K e : Nat} (h : T = low + 35184372088832 * K) (he : e < 45) : T / 2 ^ e = 2 * (T / 2 ^ (e + 1)) + low / 2 ^ e % 2 := by
  have p : 35184372088832 = 2 ^ e * (2 ^ (44 - e) * 2) := by
    rw [← Nat.pow_succ, ← Nat.pow_add, show e + (44 - e + 1) = 45 by omega]
  have pe := Nat.two_pow_pos e
  have h1 : T / 2 ^ e = low / 2 ^ e + 2 * (2 ^ (44 - e) * K) := by
    rw [h, p, Nat.mul_assoc, Nat.add_mul_div_left _ _ pe]
    congr 1
    rw [Nat.mul_comm (2 ^ (44 - e)) 2, Nat.mul_assoc]
  have h2 : T / 2 ^ (e + 1) = T / 2 ^ e / 2 := by rw [Nat.pow_succ, Nat.div_div_eq_div_mul]
  rw [h2]
  omega
theorem sp_include {m w a b c e : Nat} {Q : Int64 → Int64 → Int64 → Int64 → Prop} (hm : m < 2 ^ 63) (hw : w < 2 ^ 63) (k : Q (lN (a + m / 1048576 * (w / 33554432))) (lN (b + m / 1048576 * (w % 33554432))) (lN (c + m % 1048576 * (w / 33554432))) (lN (e + m % 1048576 * (w % 33554432)))) : wp_X3_include (lN m) (lN w) (lN a) (lN b) (lN c) (lN e) Q := by
  unfold wp_X3_include
  intro x5 h5 x7 h7 x9 h9 x11 h11 y1 g1 y2 g2 y3 g3 y4 g4
  have e5 : x5 = lN (m / 1048576) := h5.trans (lN_shr (k := 20) hm (by decide))
  have e7 : x7 = lN (m % 1048576) := h7.trans (wb_mask (k := 20) (by omega) (by decide))
  have e9 : x9 = lN (w / 33554432) := h9.trans (lN_shr (k := 25) hw (by decide))
  have e11 : x11 = lN (w % 33554432) := h11.trans (wb_mask (k := 25) (by omega) (by decide))
  rw [g1, g2, g3, g4, e5, e7, e9, e11, lN_mul, lN_add, lN_mul, lN_add, lN_mul, lN_add, lN_mul, lN_add]
  exact k
theorem sp_dividedBy {HH HL LH LL t : Nat} {Q : Int64 → Prop} (h1 : HH < 1152921504606846976) (h2 : HL < 1152921504606846976) (h3 : LH < 1152921504606846976) (h4 : LL < 1152921504606846976) (ht : 0 < t) (ht2 : t < 4400000000000000000) (kk : Q (lN ((HH * 35184372088832 + HL * 1048576 + LH * 33554432 + LL) / t))) : wp_X3_dividedBy (lN t) (lN HH) (lN HL) (lN LH) (lN LL) Q := by
  unfold wp_X3_dividedBy
  refine q_if (pk_lLT (a := 0) (by decide) (by omega)) (fun _ => ?_) (fun n => absurd ht n)
  have tne : ¬ lN t = (0 : Int64) := fun e => by have := (lN_z (by omega)).mp e; omega
  intro x3 hx3 x5 hx5
  have e3 : x3 = lN (HL % 33554432 * 1048576 + LH % 1048576 * 33554432 + LL) := by
    have m1 : lN HL &&& (33554431 : Int64) = lN (HL % 33554432) := wb_mask (k := 25) (by omega) (by decide)
    have m2 : lN LH &&& (1048575 : Int64) = lN (LH % 1048576) := wb_mask (k := 20) (by omega) (by decide)
    have s1 : lN (HL % 33554432) <<< (((20 : Int32)).toInt64 &&& 63) = lN (HL % 33554432 * 1048576) := wb_shl _ (k := 20) (by decide)
    have s2 : lN (LH % 1048576) <<< (((25 : Int32)).toInt64 &&& 63) = lN (LH % 1048576 * 33554432) := wb_shl _ (k := 25) (by decide)
    rw [hx3, m1, m2, s1, s2, lN_add, lN_add]
  obtain ⟨low, elow⟩ : ∃ low, HL % 33554432 * 1048576 + LH % 1048576 * 33554432 + LL = low := ⟨_, rfl⟩
  rw [elow] at e3
  have e5 : x5 = lN (HH + HL / 33554432 + LH / 1048576 + low / 35184372088832) := by
    have m1 : lN HL >>> (((25 : Int32)).toInt64 &&& 63) = lN (HL / 33554432) := lN_shr (k := 25) (by omega) (by decide)
    have m2 : lN LH >>> (((20 : Int32)).toInt64 &&& 63) = lN (LH / 1048576) := lN_shr (k := 20) (by omega) (by decide)
    have m3 : lN low >>> (((45 : Int32)).toInt64 &&& 63) = lN (low / 35184372088832) := lN_shr (k := 45) (by omega) (by decide)
    rw [hx5, e3, m1, m2, m3, lN_add, lN_add, lN_add]
  obtain ⟨high, ehi⟩ : ∃ high, HH + HL / 33554432 + LH / 1048576 + low / 35184372088832 = high := ⟨_, rfl⟩
  rw [ehi] at e5
  obtain ⟨T, eT⟩ : ∃ T, HH * 35184372088832 + HL * 1048576 + LH * 33554432 + LL = T := ⟨_, rfl⟩
  rw [eT] at kk
  have hT : T = low + 35184372088832 * (HH + HL / 33554432 + LH / 1048576) := by omega
  have hT45 : T / 2 ^ 45 = high := by
    show T / 35184372088832 = high
    omega
  refine ⟨tne, ?_⟩
  intro x7 hx7
  refine ⟨tne, ?_⟩
  intro x9 hx9 x11 hx11
  have hh63 : high < 2 ^ 63 := by omega
  rw [e5, pk_lDiv hh63 ht (by omega)] at hx7
  rw [e5, pk_lRem hh63 ht (by omega)] at hx9
  rw [hx7, hx9, hx11, e3]
  refine lp3 (fun n a b c => lp_X3_dividedBy_82 (lN HH) (lN HL) (lN LH) (lN LL) Q (lN t) (lN low) n a b c) (fun a b c => ∃ e q r, e ≤ 45 ∧ a = lN q ∧ b = lN r ∧ c = nI e - (1 : Int32) ∧ T / 2 ^ e = q * t + r ∧ r < t) (fun _ _ c => (c.toInt + 1).toNat) ?_ _ _ _ ⟨45, high / t, high % t, by omega, rfl, rfl, by decide, by rw [hT45, Nat.mul_comm]; exact (Nat.div_add_mod high t).symm, Nat.mod_lt _ ht⟩
  intro n a b c hI hs2
  obtain ⟨e, q, r, he, ea, eb, ec, hq, hr⟩ := hI
  subst ea eb ec
  show bod_X3_dividedBy_82 (lN HH) (lN HL) (lN LH) (lN LL) Q (lN t) (lN low) (fun v0 v1 v2 => lp_X3_dividedBy_82 (lN HH) (lN HL) (lN LH) (lN LL) Q (lN t) (lN low) n v0 v1 v2) (lN q) (lN r) (nI e - (1 : Int32))
  unfold bod_X3_dividedBy_82
  have z0 : (0 : Int32).toInt = 0 := by decide
  refine q_if (fa_lt _ _) (fun q2 => ?_) (fun q2 => ?_)
  · rw [nI_s1 (by omega)] at q2
    have e0 : e = 0 := by omega
    subst e0
    rw [Nat.pow_zero, Nat.div_one] at hq
    rw [div_step ht hq hr] at kk
    exact kk
  rw [nI_s1 (by omega)] at q2
  obtain ⟨e', rfl⟩ : ∃ e', e = e' + 1 := ⟨e - 1, by omega⟩
  rw [nI_pred]
  have hb := bit_of hT (show e' < 45 by omega)
  have hlow : low / 2 ^ e' ≤ low := Nat.div_le_self _ _
  intro x9b hx9b
  have e9 : x9b = lN (2 * r + low / 2 ^ e' % 2) := by
    rw [hx9b, lN_shr (by omega) (by omega), wb_a1 (by omega), show (2 : Int64) = lN 2 from rfl, lN_mul, lN_add]
  rw [e9]
  generalize low / 2 ^ e' % 2 = β at *
  have hβ : β < 2 := by
    rcases Nat.lt_or_ge β 2 with g | g
    · exact g
    · exfalso
      have := Nat.mod_lt (T / 2 ^ e') (show 0 < 2 by decide)
      have h9 : T / 2 ^ e' / 2 = T / 2 ^ (e' + 1) := by rw [Nat.pow_succ, Nat.div_div_eq_div_mul]
      omega
  have nxt : ∀ q' r', T / 2 ^ e' = q' * t + r' → r' < t → lp_X3_dividedBy_82 (lN HH) (lN HL) (lN LH) (lN LL) Q (lN t) (lN low) n (lN q') (lN r') (nI e' - (1 : Int32)) := by
    intro q' r' a1 a2
    refine hs2 _ _ _ ⟨e', q', r', by omega, rfl, rfl, rfl, a1, a2⟩ ?_
    rw [nI_s1 (by omega), nI_s1 (by omega)]
    omega
  rw [hq] at hb
  refine q_if (pk_lLT (by omega) (by omega)) (fun q3 => ?_) (fun q3 => ?_)
  · unfold blk_X3_dividedBy_120
    intro x7b hx7b
    refine ⟨fun _ => ?_, fun ne => absurd ((pk_lLT (by omega) (by omega)).mpr q3) ne⟩
    unfold blk_X3_dividedBy_138
    intro x9c hx9c x11c hx11c
    rw [hx11c, nI_s3, hx9c, hx7b, Int64.sub_zero, show ((0 : Int32)).toInt64 = lN 0 from by decide, show (2 : Int64) = lN 2 from rfl, lN_mul, lN_add]
    refine nxt _ _ ?_ q3
    rw [hb, Nat.mul_add, ← Nat.mul_assoc, Nat.add_zero]
    omega
  · unfold blk_X3_dividedBy_120
    intro x7b hx7b
    refine ⟨fun ne => absurd ((pk_lLT (by omega) (by omega)).mp ne) q3, fun _ => ?_⟩
    unfold blk_X3_dividedBy_138
    intro x9c hx9c x11c hx11c
    rw [hx11c, nI_s3, hx9c, hx7b, lN_sub (by omega), show ((1 : Int32)).toInt64 = lN 1 from by decide, show (2 : Int64) = lN 2 from rfl, lN_mul, lN_add]
    refine nxt _ _ ?_ (by omega)
    rw [hb, Nat.mul_add, ← Nat.mul_assoc, Nat.add_mul]
    omega
theorem sm_zz {f u : Nat → Nat} {a b : Nat} (hab : a ≤ b) (hf : ∀ i, u i = 0 → f i = 0) (hz : ∀ i, a ≤ i → i < b → u i = 0) : fb_sm f b = fb_sm f a := sm_ext hab (fun i h1 h2 => hf i (hz i h1 h2))
theorem pb_HH {d h : Nat} {u : Nat → Nat} (hd : d = 1 ∨ d = 2) (hh : h ≤ 1000000000000) (hb : ∀ j, u j ≤ 1000000000000000) {n : Nat} (hn : n ≤ Slot d h + 1) : fb_sm (pHH d u) n < 1152921504606846976 ∧ fb_sm (pHL d u) n < 1152921504606846976 ∧ fb_sm (pLH d u) n < 1152921504606846976 ∧ fb_sm (pLL d u) n < 1152921504606846976 := by
  have ⟨s1, _⟩ := Slot_le hd hh
  have hn2 : n * 70368744177664 ≤ 4352 * 70368744177664 := Nat.mul_le_mul_right _ (by omega)
  have main : ∀ f : Nat → Nat, (∀ k, k < n → f k ≤ 2097152 * 33554432) → fb_sm f n < 1152921504606846976 := by
    intro f hf
    have := fb_sm_bound (f := f) (c := 70368744177664) (n := n) hf
    omega
  refine ⟨main _ (fun k hk => ?_), main _ (fun k hk => ?_), main _ (fun k hk => ?_), main _ (fun k hk => ?_)⟩ <;> have ⟨m1, _⟩ := md_b hd hh (k := k) (by omega) <;> have m2 := hb k
  · exact Nat.mul_le_mul (by omega) (by omega)
  · exact Nat.mul_le_mul (by omega) (by omega)
  · exact Nat.mul_le_mul (by omega) (by omega)
  · exact Nat.mul_le_mul (by omega) (by omega)
theorem sp_mean {d h P : Nat} {dig slots pages : Int32} {U : Nat → Int64} {K : Nat → Int32} {u k : Nat → Nat} {Q : Int64 → Prop} (hd : d = 1 ∨ d = 2) (hh : h ≤ 1000000000000) (ed : dig = nI d) (hP : P ≤ 271) (hN : Slot d h + 1 ≤ 16 * P) (es : slots = nI (Slot d h + 1)) (ep : pages = nI P) (hu : ∀ j, j < 16 * P → U j = lN (u j)) (hb : ∀ j, u j ≤ 1000000000000000) (hk : ∀ p, p < P → K p = nI (k p)) (hk31 : ∀ p, k p < 2 ^ 31) (hz : ∀ p, k p = 0 → ∀ i, i < 16 → u (16 * p + i) = 0) (ht : 0 < fb_sm u (Slot d h + 1)) (kk : Q (lN (fb_sm (fun k => md d k * u k) (Slot d h + 1) / fb_sm u (Slot d h + 1)))) : wp_X1_mean dig slots pages U K Q := by
  subst ed es ep
  have hbnd := pb_HH hd hh hb (Nat.le_refl (Slot d h + 1))
  have hmd : ∀ k, k < Slot d h + 1 → md d k < 2199023255552 ∧ ShS d k ≤ 36 ∧ k < 2 ^ 20 := fun k hk => md_b hd hh hk
  have h63 := sm_63 hb (n := Slot d h + 1) (by omega)
  rw [sum_cut] at kk
  unfold wp_X1_mean blk_X1_mean_b_8
  intro x2 hx2
  rw [hx2]
  generalize eN : Slot d h + 1 = N at *
  generalize eQ : (fun (r : Int64) (_ : Int64) (_ : Int64) (_ : Int64) (_ : Int64) => Q r) = Q5
  have hQ5 : ∀ r a b c e, Q5 r a b c e = Q r := fun r a b c e => by rw [← eQ]
  refine lp5 (fun n a b c e f => lp_X1_mean_b_10 (nI d) (nI N) (nI P) U K Q5 n a b c e f) (fun a b c e f => ∃ p, p ≤ P ∧ a = nI p ∧ b = lN (fb_sm (pHH d u) (min (16 * p) N)) ∧ c = lN (fb_sm (pHL d u) (min (16 * p) N)) ∧ e = lN (fb_sm (pLH d u) (min (16 * p) N)) ∧ f = lN (fb_sm (pLL d u) (min (16 * p) N))) (fun a _ _ _ _ => P - a.toInt.toNat) ?_ _ _ _ _ _ ⟨0, by omega, rfl, by rw [show min (16 * 0) N = 0 by omega]; rfl, by rw [show min (16 * 0) N = 0 by omega]; rfl, by rw [show min (16 * 0) N = 0 by omega]; rfl, by rw [show min (16 * 0) N = 0 by omega]; rfl⟩
  intro n a b c e f hI ho
  obtain ⟨p, hp, ea, e1, e2, e3, e4⟩ := hI
  subst ea
  show bod_X1_mean_b_10 (nI d) (nI N) (nI P) U K Q5 (fun v0 v1 v2 v3 v4 => lp_X1_mean_b_10 (nI d) (nI N) (nI P) U K Q5 n v0 v1 v2 v3 v4) (nI p) b c e f
  unfold bod_X1_mean_b_10
  refine q_if (nI_leI (by omega) (by omega)) (fun q => ?_) (fun q => ?_)
  · rw [show min (16 * p) N = N by omega] at e1 e2 e3 e4
    refine sp_allU hP hN rfl rfl hu hk hk31 hz ?_
    rw [e1, e2, e3, e4]
    refine sp_dividedBy hbnd.1 hbnd.2.1 hbnd.2.2.1 hbnd.2.2.2 ht h63 ?_
    rw [hQ5]
    exact kk
  have hpP : p < P := by omega
  have hb1' : endP N (k p) p ≤ 16 * p + 16 := by unfold endP; split <;> omega
  refine sp_endOf (by omega) (hk p hpP) (hk31 p) rfl (by omega) ?_
  intro x8 hx8 x9 hx9
  rw [hx8, hx9, pg16]
  refine lp5 (fun n2 a b c e f => lp_X1_mean_b_30 (nI d) (nI N) (nI P) U K (fun v0 v1 v2 v3 v4 => lp_X1_mean_b_10 (nI d) (nI N) (nI P) U K Q5 n v0 v1 v2 v3 v4) Q5 (nI p) (nI (endP N (k p) p)) n2 a b c e f) (fun a b c e f => ∃ z, (16 * p = z ∨ (16 * p ≤ z ∧ z ≤ endP N (k p) p)) ∧ a = nI z ∧ b = lN (fb_sm (pHH d u) (min z N)) ∧ c = lN (fb_sm (pHL d u) (min z N)) ∧ e = lN (fb_sm (pLH d u) (min z N)) ∧ f = lN (fb_sm (pLL d u) (min z N))) (fun a _ _ _ _ => 16 * p + 16 - a.toInt.toNat) ?_ _ _ _ _ _ ⟨16 * p, Or.inl rfl, rfl, e1, e2, e3, e4⟩
  intro n2 a2 b2 c2 e2' f2 hI2 hs2
  obtain ⟨z, hz1, ea2, g1, g2, g3, g4⟩ := hI2
  subst ea2
  show bod_X1_mean_b_30 (nI d) (nI N) (nI P) U K (fun v0 v1 v2 v3 v4 => lp_X1_mean_b_10 (nI d) (nI N) (nI P) U K Q5 n v0 v1 v2 v3 v4) Q5 (nI p) (nI (endP N (k p) p)) (fun v0 v1 v2 v3 v4 => lp_X1_mean_b_30 (nI d) (nI N) (nI P) U K (fun v0 v1 v2 v3 v4 => lp_X1_mean_b_10 (nI d) (nI N) (nI P) U K Q5 n v0 v1 v2 v3 v4) Q5 (nI p) (nI (endP N (k p) p)) n2 v0 v1 v2 v3 v4) (nI z) b2 c2 e2' f2
  unfold bod_X1_mean_b_30
  refine q_if (nI_leI (by omega) (by omega)) (fun q2 => ?_) (fun q2 => ?_)
  · intro x4 hx4
    rw [hx4, nI_1]
    have hpz := page_z (hz p) hz1 q2
    refine ho _ _ _ _ _ ⟨p + 1, by omega, rfl, ?_, ?_, ?_, ?_⟩ ?_
    · rw [sm_zz (u := u) (by omega) (fun i h => by unfold pHH; rw [h]; rfl) hpz]; exact g1
    · rw [sm_zz (u := u) (by omega) (fun i h => by unfold pHL; rw [h]; rfl) hpz]; exact g2
    · rw [sm_zz (u := u) (by omega) (fun i h => by unfold pLH; rw [h]; rfl) hpz]; exact g3
    · rw [sm_zz (u := u) (by omega) (fun i h => by unfold pLL; rw [h]; rfl) hpz]; exact g4
    · rw [nI_toInt (by omega), nI_toInt (by omega)]
      omega
  have ⟨hzN, hz16⟩ := end_lt hz1 q2
  rw [show min z N = z by omega] at g1 g2 g3 g4
  have hbz := hb z
  have hm := hmd z hzN
  refine sp_X7_middleOf hd hm.2.2 (by omega) ?_
  refine sp_unitsOf (by omega) ?_
  rw [hu z (by omega), g1, g2, g3, g4]
  refine sp_include (m := md d z) (by omega) (by omega) ?_
  intro x4 hx4
  rw [hx4, nI_1]
  refine hs2 _ _ _ _ _ ⟨z + 1, by omega, rfl, ?_, ?_, ?_, ?_⟩ ?_
  · rw [show min (z + 1) N = z + 1 by omega]; rfl
  · rw [show min (z + 1) N = z + 1 by omega]; rfl
  · rw [show min (z + 1) N = z + 1 by omega]; rfl
  · rw [show min (z + 1) N = z + 1 by omega]; rfl
  · rw [nI_toInt (by omega), nI_toInt (by omega)]
    omega
/-! ===== the mean bit by bit ===== -/
def fbt (d : Nat) (u : Nat → Nat) (e k : Nat) : Nat := if md d k / 2 ^ e % 2 = 1 then u k else 0
theorem sum_bit (d : Nat) (u : Nat → Nat) (e : Nat) : ∀ n, fb_sm (fun k => md d k / 2 ^ e * u k) n = 2 * fb_sm (fun k => md d k / 2 ^ (e + 1) * u k) n + fb_sm (fbt d u e) n
  | 0 => rfl
  | n + 1 => by
    have h := sum_bit d u e n
    rw [fb_sm_succ, fb_sm_succ, fb_sm_succ, h]
    have h2 : md d n / 2 ^ (e + 1) = md d n / 2 ^ e / 2 := by rw [Nat.pow_succ, Nat.div_div_eq_div_mul]
    show _ + md d n / 2 ^ e * u n = 2 * (_ + md d n / 2 ^ (e + 1) * u n) + (_ + fbt d u e n)
    rw [h2]
    unfold fbt
    generalize md d n / 2 ^ e = X
    have e2 : X * u n = 2 * (X / 2 * u n) + X % 2 * u n := by
      rw [← Nat.mul_assoc, ← Nat.add_mul]
      congr 1
      omega
    rw [e2]
    by_cases q : X % 2 = 1
    · rw [if_pos q, q, Nat.one_mul]
      omega
    · rw [if_neg q, show X % 2 = 0 by omega, Nat.zero_mul]
      omega
theorem sp_meanOf {r d h : Nat} {t_set : Nat → Int32} {t_units : Nat → Int64} {u : Nat → Nat} {Q : Int64 → Prop} (hr : r < 4) (hd : d = 1 ∨ d = 2) (hh : h ≤ 1000000000000) (ed : t_set (4 * r + 1) = nI d) (es : t_set (4 * r + 2) = nI (Slot d h + 1)) (hu : ∀ j, j < Slot d h + 1 → t_units (4352 * r + j) = lN (u j)) (hb : ∀ j, u j ≤ 1000000000000000) (ht : 0 < fb_sm u (Slot d h + 1)) (kk : Q (lN (fb_sm (fun k => md d k * u k) (Slot d h + 1) / fb_sm u (Slot d h + 1)))) : wp_X8_meanOf (nI r) (lN (fb_sm u (Slot d h + 1))) t_set t_units Q := by
  have ⟨s1, _⟩ := Slot_le hd hh
  have hmd : ∀ k, k < Slot d h + 1 → md d k < 2199023255552 ∧ ShS d k ≤ 36 ∧ k < 2 ^ 20 := fun k hk => md_b hd hh hk
  have h63 := sm_63 hb (n := Slot d h + 1) (by omega)
  generalize eN : Slot d h + 1 = N at *
  have hfle : ∀ e, fb_sm (fbt d u e) N ≤ fb_sm u N := fun e => fb_sm_le (fun k _ => by unfold fbt; split <;> omega)
  generalize et : fb_sm u N = t at *
  unfold wp_X8_meanOf
  intro x4 hx4 x6 hx6 x8 hx8
  rw [hx4, hx6, hx8]
  refine lp3 (fun n a b c => lp_X8_meanOf_10 t_set t_units Q (nI r) (lN t) n a b c) (fun a b c => ∃ e q l, e ≤ 41 ∧ a = lN q ∧ b = lN l ∧ c = nI e - (1 : Int32) ∧ fb_sm (fun k => md d k / 2 ^ e * u k) N = q * t + l ∧ l < t) (fun _ _ c => (c.toInt + 1).toNat) ?_ _ _ _ ⟨41, 0, 0, by omega, rfl, rfl, by decide, ?_, ht⟩
  rotate_left
  · rw [Nat.zero_mul]
    have : fb_sm (fun k => md d k / 2 ^ 41 * u k) N = fb_sm (fun _ => 0) N := fb_sm_cong (fun k hk => by
      have := (hmd k hk).1
      show md d k / 2199023255552 * u k = 0
      rw [Nat.div_eq_of_lt this, Nat.zero_mul])
    rw [this, fb_sm_const]
    omega
  intro n a b c hI hs2
  obtain ⟨e, q, l, he, ea, eb, ec, hq, hl⟩ := hI
  subst ea eb ec
  show bod_X8_meanOf_10 t_set t_units Q (nI r) (lN t) (fun v0 v1 v2 => lp_X8_meanOf_10 t_set t_units Q (nI r) (lN t) n v0 v1 v2) (lN q) (lN l) (nI e - (1 : Int32))
  unfold bod_X8_meanOf_10
  have z0 : (0 : Int32).toInt = 0 := by decide
  refine q_if (fa_lt _ _) (fun q2 => ?_) (fun q2 => ?_)
  · rw [nI_s1 (by omega)] at q2
    have e0 : e = 0 := by omega
    subst e0
    have hq2 : fb_sm (fun k => md d k * u k) N = q * t + l := by
      rw [← hq]
      exact fb_sm_cong (fun k _ => by rw [Nat.pow_zero, Nat.div_one])
    rw [div_step ht hq2 hl] at kk
    exact kk
  rw [nI_s1 (by omega)] at q2
  obtain ⟨e', rfl⟩ : ∃ e', e = e' + 1 := ⟨e - 1, by omega⟩
  rw [nI_pred]
  have hsb := sum_bit d u e' N
  rw [hq] at hsb
  have hf := hfle e'
  intro x9 hx9 x11 hx11
  rw [hx9, hx11]
  refine lp2 (fun n2 a b => lp_X8_meanOf_21 t_set t_units (fun v0 v1 v2 => lp_X8_meanOf_10 t_set t_units Q (nI r) (lN t) n v0 v1 v2) Q (nI r) (lN t) (lN q) (lN l) (nI e') n2 a b) (fun a b => ∃ z, z ≤ N ∧ b = nI z ∧ a = lN (fb_sm (fbt d u e') z)) (fun _ b => N - b.toInt.toNat) ?_ _ _ ⟨0, by omega, rfl, rfl⟩
  intro n2 a2 b2 hI2 hs3
  obtain ⟨z, hz, eb2, ea2⟩ := hI2
  subst ea2 eb2
  show bod_X8_meanOf_21 t_set t_units (fun v0 v1 v2 => lp_X8_meanOf_10 t_set t_units Q (nI r) (lN t) n v0 v1 v2) Q (nI r) (lN t) (lN q) (lN l) (nI e') (fun v0 v1 => lp_X8_meanOf_21 t_set t_units (fun v0 v1 v2 => lp_X8_meanOf_10 t_set t_units Q (nI r) (lN t) n v0 v1 v2) Q (nI r) (lN t) (lN q) (lN l) (nI e') n2 v0 v1) (lN (fb_sm (fbt d u e') z)) (nI z)
  unfold bod_X8_meanOf_21
  refine sp_of (c := 2) hr (by decide) ?_
  rw [es]
  refine q_if (nI_leI (by omega) (by omega)) (fun q3 => ?_) (fun q3 => ?_)
  · have ez : z = N := by omega
    subst ez
    generalize fb_sm (fbt d u e') z = S at *
    have nxt : ∀ q' l', fb_sm (fun k => md d k / 2 ^ e' * u k) z = q' * t + l' → l' < t → blk_X8_meanOf_138 t_set t_units (fun v0 v1 v2 => lp_X8_meanOf_10 t_set t_units Q (nI r) (lN t) n v0 v1 v2) Q (nI r) (lN t) (lN q') (lN l') (nI e') := by
      intro q' l' a1 a2
      unfold blk_X8_meanOf_138
      intro x8b hx8b
      rw [hx8b, nI_s3]
      refine hs2 _ _ _ ⟨e', q', l', by omega, rfl, rfl, rfl, a1, a2⟩ ?_
      rw [nI_s1 (by omega), nI_s1 (by omega)]
      omega
    have mid : ∀ q' l', 2 * (q * t + l) = q' * t + l' → l' < t → blk_X8_meanOf_112 t_set t_units (fun v0 v1 v2 => lp_X8_meanOf_10 t_set t_units Q (nI r) (lN t) n v0 v1 v2) Q (nI r) (lN t) (lN q') (lN l') (nI e') (lN S) := by
      intro q' l' a1 a2
      unfold blk_X8_meanOf_112
      intro x6b hx6b
      rw [hx6b, lN_add]
      refine q_if (pk_lLT (by omega) (by omega)) (fun q4 => ?_) (fun q4 => ?_)
      · refine nxt _ _ ?_ q4
        rw [hsb, a1]; omega
      · intro x6c hx6c x4c hx4c
        rw [hx6c, hx4c, lN_sub (by omega), lN_1]
        refine nxt _ _ ?_ (by omega)
        rw [hsb, a1, Nat.add_mul]; omega
    intro x4b hx4b x6b hx6b
    rw [hx4b, hx6b, show (2 : Int64) = lN 2 from rfl, lN_mul, lN_mul]
    refine q_if (pk_lLT (by omega) (by omega)) (fun q4 => ?_) (fun q4 => ?_)
    · refine mid _ _ ?_ q4
      rw [Nat.mul_add, ← Nat.mul_assoc, Nat.mul_comm q 2, Nat.mul_comm l 2]
    · intro x6c hx6c x4c hx4c
      rw [hx6c, hx4c, lN_sub (by omega), lN_1]
      refine mid _ _ ?_ (by omega)
      rw [Nat.mul_add, ← Nat.mul_assoc, Nat.mul_comm q 2, Nat.add_mul]
      omega
  · have hzN : z < N := by omega
    have hm := hmd z hzN
    refine sp_of (c := 1) hr (by decide) ?_
    rw [ed]
    refine sp_X8_middleOf hd hm.2.2 (by omega) ?_
    rw [show Low d z + Reach d z / 2 = md d z from rfl]
    have hmb : md d z / 2 ^ e' ≤ md d z := Nat.div_le_self _ _
    have hmb2 : md d z / 2 ^ e' % 2 ≤ md d z / 2 ^ e' := Nat.mod_le _ _
    rw [lN_shr (by omega) (by omega), wb_a1 (by omega)]
    have nx : ∀ v, v = fb_sm (fbt d u e') (z + 1) → blk_X8_meanOf_71 t_set t_units (fun v0 v1 v2 => lp_X8_meanOf_10 t_set t_units Q (nI r) (lN t) n v0 v1 v2) (fun v0 v1 => lp_X8_meanOf_21 t_set t_units (fun v0 v1 v2 => lp_X8_meanOf_10 t_set t_units Q (nI r) (lN t) n v0 v1 v2) Q (nI r) (lN t) (lN q) (lN l) (nI e') n2 v0 v1) Q (nI r) (lN t) (lN q) (lN l) (nI e') (lN v) (nI z) := by
      intro v hv
      unfold blk_X8_meanOf_71
      intro x11b hx11b
      rw [hx11b, nI_1, hv]
      refine hs3 _ _ ⟨z + 1, by omega, rfl, rfl⟩ ?_
      rw [nI_toInt (by omega), nI_toInt (by omega)]
      omega
    refine q_fi (pk_lEQ (b := 1) (by omega) (by decide)) (fun q4 => ?_) (fun q4 => ?_)
    · rw [show (4352 : Int32) * nI r + nI z = nI (4352 * r + z) from ix_at 4352 r z]
      refine q_in (by omega) (by decide) ?_
      intro x9b hx9b
      rw [nI_clamp (by omega), hu z hzN, lN_add] at hx9b
      rw [hx9b]
      refine nx _ ?_
      rw [fb_sm_succ]
      unfold fbt
      rw [if_pos q4]
    · refine nx _ ?_
      rw [fb_sm_succ]
      unfold fbt
      rw [if_neg q4]
      rfl
/-! ===== the first slot that is not 0 ===== -/
theorem sp_firstUsed {N P : Nat} {slots pages : Int32} {U : Nat → Int64} {K : Nat → Int32} {u k : Nat → Nat} {Q : Int32 → Prop} (hP : P ≤ 271) (hN : N ≤ 16 * P) (es : slots = nI N) (ep : pages = nI P) (hu : ∀ j, j < 16 * P → U j = lN (u j)) (hb : ∀ j, u j ≤ 1000000000000000) (hk : ∀ p, p < P → K p = nI (k p)) (hk31 : ∀ p, k p < 2 ^ 31) (hz : ∀ p, k p = 0 → ∀ i, i < 16 → u (16 * p + i) = 0) (hne : ∃ s, s < N ∧ u s ≠ 0) (h : ∀ s, s < N → u s ≠ 0 → (∀ j, j < s → u j = 0) → Q (nI s)) : wp_X1_firstUsed slots pages U K Q := by
  subst es ep
  unfold wp_X1_firstUsed
  intro x ex
  rw [ex]
  refine lp1 (fun n a => lp_X1_firstUsed_2 (nI N) (nI P) U K Q n a) (fun a => ∃ p, p ≤ P ∧ a = nI p ∧ ∀ j, j < min (16 * p) N → u j = 0) (fun a => P - a.toInt.toNat) ?_ _ ⟨0, by omega, rfl, fun j hj => absurd hj (by omega)⟩
  intro n a hI ho
  obtain ⟨p, hp, ea, hj⟩ := hI
  subst ea
  show bod_X1_firstUsed_2 (nI N) (nI P) U K Q (fun v0 => lp_X1_firstUsed_2 (nI N) (nI P) U K Q n v0) (nI p)
  unfold bod_X1_firstUsed_2
  refine q_if (nI_leI (by omega) (by omega)) (fun q => ?_) (fun q => ?_)
  · obtain ⟨s, hs, hs2⟩ := hne
    exact absurd (hj s (by omega)) hs2
  have hpP : p < P := by omega
  have hb1' : endP N (k p) p ≤ 16 * p + 16 := by unfold endP; split <;> omega
  refine sp_endOf (by omega) (hk p hpP) (hk31 p) rfl (by omega) ?_
  intro x8 hx8 x9 hx9
  rw [hx8, hx9, pg16]
  refine lp1 (fun n2 a => lp_X1_firstUsed_21 (nI N) (nI P) U K (fun v0 => lp_X1_firstUsed_2 (nI N) (nI P) U K Q n v0) Q (nI p) (nI (endP N (k p) p)) n2 a) (fun a => ∃ z, (16 * p = z ∨ (16 * p ≤ z ∧ z ≤ endP N (k p) p)) ∧ a = nI z ∧ ∀ j, j < min z N → u j = 0) (fun a => 16 * p + 16 - a.toInt.toNat) ?_ _ ⟨16 * p, Or.inl rfl, rfl, hj⟩
  intro n2 a2 hI2 hs2
  obtain ⟨z, hz1, ea2, hj2⟩ := hI2
  subst ea2
  show bod_X1_firstUsed_21 (nI N) (nI P) U K (fun v0 => lp_X1_firstUsed_2 (nI N) (nI P) U K Q n v0) Q (nI p) (nI (endP N (k p) p)) (fun v0 => lp_X1_firstUsed_21 (nI N) (nI P) U K (fun v0 => lp_X1_firstUsed_2 (nI N) (nI P) U K Q n v0) Q (nI p) (nI (endP N (k p) p)) n2 v0) (nI z)
  unfold bod_X1_firstUsed_21
  refine q_if (nI_leI (by omega) (by omega)) (fun q2 => ?_) (fun q2 => ?_)
  · intro x4 hx4
    rw [hx4, nI_1]
    have hpz := page_z (hz p) hz1 q2
    refine ho _ ⟨p + 1, by omega, rfl, fun j hj3 => ?_⟩ ?_
    · rcases Nat.lt_or_ge j (min z N) with q3 | q3
      · exact hj2 j q3
      · exact hpz j q3 hj3
    · rw [nI_toInt (by omega), nI_toInt (by omega)]
      omega
  have ⟨hzN, hz16⟩ := end_lt hz1 q2
  have hbz := hb z
  refine sp_unitsOf (by omega) ?_
  rw [hu z (by omega)]
  refine q_if (lN_z (by omega)) (fun q3 => ?_) (fun q3 => ?_)
  · intro x3 hx3
    rw [hx3, nI_1]
    refine hs2 _ ⟨z + 1, by omega, rfl, fun j hj3 => ?_⟩ ?_
    · rcases Nat.lt_or_ge j z with q4 | q4
      · exact hj2 j (by omega)
      · rw [show j = z by omega]; exact q3
    · rw [nI_toInt (by omega), nI_toInt (by omega)]
      omega
  · exact h z hzN q3 (fun j hj3 => hj2 j (by omega))
theorem sp_firstSlot {r N : Nat} {t_units : Nat → Int64} {u : Nat → Nat} {Q : Int32 → Prop} (hr : r < 4) (hN : N ≤ 4336) (hu : ∀ j, j < N → t_units (4352 * r + j) = lN (u j)) (hb : ∀ j, u j ≤ 1000000000000000) (hne : ∃ s, s < N ∧ u s ≠ 0) (h : ∀ s, s < N → u s ≠ 0 → (∀ j, j < s → u j = 0) → Q (nI s)) : wp_X8_firstSlot (nI r) t_units Q := by
  obtain ⟨s0, hs0, hs1⟩ := hne
  unfold wp_X8_firstSlot
  intro x ex
  rw [ex]
  refine lp1 (fun n a => lp_X8_firstSlot_2 t_units Q (nI r) n a) (fun a => ∃ z, z ≤ s0 ∧ a = nI z ∧ ∀ j, j < z → u j = 0) (fun a => N - a.toInt.toNat) ?_ _ ⟨0, by omega, rfl, fun j hj => absurd hj (by omega)⟩
  intro n a hI hs2
  obtain ⟨z, hz, ea, hj⟩ := hI
  subst ea
  show bod_X8_firstSlot_2 t_units Q (nI r) (fun v0 => lp_X8_firstSlot_2 t_units Q (nI r) n v0) (nI z)
  unfold bod_X8_firstSlot_2
  rw [show (4352 : Int32) * nI r + nI z = nI (4352 * r + z) from ix_at 4352 r z]
  refine q_in (by omega) (by decide) ?_
  have hbz := hb z
  rw [nI_clamp (by omega), hu z (by omega)]
  refine q_fi (lN_z (by omega)) (fun q3 => ?_) (fun q3 => h z (by omega) q3 hj)
  intro x3 hx3
  rw [hx3, nI_1]
  have : z ≠ s0 := fun e => hs1 (by rw [← e]; exact q3)
  refine hs2 _ ⟨z + 1, by omega, rfl, fun j hj3 => ?_⟩ ?_
  · rcases Nat.lt_or_ge j z with q4 | q4
    · exact hj j q4
    · rw [show j = z by omega]; exact q3
  · rw [nI_toInt (by omega), nI_toInt (by omega)]
    omega
theorem nI_max0 {s : Nat} (h : s < 2 ^ 31) : (if (0 : Int32) < nI s then nI s else (0 : Int32)) = nI s := by
  by_cases e : s = 0
  · subst e; rfl
  · show (if nI 0 < nI s then nI s else nI 0) = nI s
    rw [if_pos (nI_lt (a := 0) (by omega) h)]
theorem stp_about : Stp_about Inv := by
  unfold Stp_about
  intro p0 p1 active rests writers tbytes tlen dbytes dlen next known rec m_made m_sort m_digits m_slots m_pages m_highest m_units m_kinds m_rows m_marks q_active q_rests q_writers l_made l_sort l_digits l_slots l_pages l_highest l_units l_kinds l_rows l_marks t_tape t_taped t_set t_highest t_units t_kinds t_sideKind t_side t_active t_rests t_writes t_more t_packed t_packedMany t_at t_wrong t_number t_readSort t_readDigits t_readHighest t_wasSet t_wasHighest t_wasUnits t_wasKinds t_wasSideKind t_wasSide t_undone hI
  obtain ⟨hT, hP, hO, hL, hH⟩ := id hI
  rcases made_cases l_made l_sort l_digits l_slots l_pages l_highest l_units l_kinds l_rows l_marks t_set t_highest t_units t_kinds t_sideKind t_side hL p0 with ⟨r, hr, e, so, d, h, u, k, rr, m, hA, hC, hM⟩ | ho
  · subst e
    obtain ⟨hso, hd, hh1, hh2, hu, hk, hrr, hm, hm0⟩ := id hA
    obtain ⟨c_made, c_sort, c_dig, c_slots, c_pages, c_high, c_u, c_k, c_r, c_m⟩ := id hC
    obtain ⟨v_sort, v_dig, v_slots, v_made, v_high, v_u, v_k, v_r, v_m⟩ := id hM
    have ⟨b1, b2, b3, b4⟩ := PG_b hd hh2
    have v_sort : t_set (4 * r + 0) = nI so := v_sort
    have v_dig : t_set (4 * r + 1) = nI d := v_dig
    have v_slots : t_set (4 * r + 2) = nI (Slot d h + 1) := v_slots
    have v_made : t_set (4 * r + 3) = 1 := v_made
    have v_u : ∀ j, j < 16 * PG d h → t_units (4352 * r + j) = lN (u j) := v_u
    have v_k : ∀ p, p < PG d h → t_kinds (272 * r + p) = nI (k p) := v_k
    have v_r : ∀ p, p < PG d h → t_sideKind (272 * r + p) = nI (rr p) := v_r
    have v_m : ∀ j, j < 4352 → t_side (4352 * r + j) = nI (m j) := v_m
    have hk10 : ∀ p, k p ≤ 10 := fun p => KOK_le hso (hk p)
    have hN : Slot d h + 1 ≤ 16 * PG d h := by omega
    have hk31 : ∀ p, k p < 2 ^ 31 := fun p => by have := hk10 p; omega
    have hz : ∀ p, k p = 0 → ∀ i, i < 16 → u (16 * p + i) = 0 := fun p => (hk p).1
    have h63 := sm_63 hu (n := Slot d h + 1) (by omega)
    have z0 : (0 : Int64).toInt = 0 := by decide
    have z1 : (2 : Int64).toInt = 2 := by decide
    have z2 : (0 : Int32).toInt = 0 := by decide
    have z3 : (2 : Int32).toInt = 2 := by decide
    have z4 : p1.toInt64.toInt = p1.toInt := Int32.toInt_toInt64 p1
    unfold wp_X7_about
    refine sp_madeAt_in hr c_made (opt_s ?_)
    refine q_if (fa_lt _ _) (fun q => ?_) (fun q => q_if (fa_le _ _) (fun q2 => ?_) (fun q2 => ?_))
    · unfold wp_X8_about
      refine sp_isMade_in hr v_made (q1b ?_)
      exact sp_isIn (fun a b => absurd a (by omega)) (fun _ => q0a ⟨rfl, hI⟩)
    rotate_left
    · unfold wp_X8_about
      refine sp_isMade_in hr v_made (q1b ?_)
      exact sp_isIn (fun a b => absurd b (by omega)) (fun _ => q0a ⟨rfl, hI⟩)
    refine sp_lastUsed b1 hN (by omega) c_slots c_pages c_u hu c_k hk31 hz (fun L hL => ?_)
    rcases id hL with ⟨e, hL0⟩ | ⟨s, hs, e, hL1, hL2⟩
    · refine ⟨fun n => absurd e n, fun _ => ?_⟩
      unfold wp_X8_about
      refine sp_isMade_in hr v_made (q1b ?_)
      refine sp_isIn (fun _ _ => q1a ?_) (fun o => absurd o (by omega))
      refine sp_tot hr hA hM ?_
      intro x3 hx3
      have e0 : fb_sm u (Slot d h + 1) = 0 := by
        rw [fb_sm_cong (g := fun _ => 0) (fun k hk => hL0 k hk), fb_sm_const]; omega
      rw [hx3, e0]
      exact ⟨fun n => absurd rfl n, fun _ => ⟨rfl, hI⟩⟩
    · have hpos : 0 < fb_sm u (Slot d h + 1) := by
        have := fb_sm_part u hs
        omega
      refine ⟨fun _ => ?_, fun n => absurd (e.symm.trans n) (m1_ne (by omega))⟩
      have ref : ∀ Q : Int64 → Prop, ((¬ p1 = 0 → ((¬ p1 = (1 : Int32) → wp_X8_meanOf (nI r) (lN (fb_sm u (Slot d h + 1))) t_set t_units (fun (r_80 : Int64) => Q r_80)) ∧ (p1 = (1 : Int32) → wp_X8_lastSlot (nI r) t_set t_units (fun (r_68 : Int32) => wp_X8_highAt (nI r) r_68 t_set t_highest (fun (r_71 : Int64) => Q r_71))))) ∧ (p1 = 0 → wp_X8_of (nI r) (1 : Int32) t_set (fun (r_47 : Int32) => wp_X8_firstSlot (nI r) t_units (fun (r_52 : Int32) => wp_X8_lowOf r_47 r_52 (fun (r_55 : Int64) => Q r_55))))) → wp_X8_about (nI r) p1 t_set t_highest t_units Q := by
        intro Q hQ
        unfold wp_X8_about
        refine sp_isMade_in hr v_made (q1b ?_)
        refine sp_isIn (fun _ _ => q1a ?_) (fun o => absurd o (by omega))
        refine sp_tot hr hA hM ?_
        intro x3 hx3
        rw [hx3]
        exact ⟨fun _ => hQ, fun n => absurd ((lN_z (by omega)).mp n) (by omega)⟩
      refine ⟨fun n0 => ⟨fun n1 => ?_, fun e1 => ?_⟩, fun e0 => ?_⟩
      · refine sp_mean hd hh2 c_dig b1 hN c_slots c_pages c_u hu c_k hk31 hz hpos ?_
        refine ref _ ⟨fun _ => ⟨fun _ => ?_, fun n => absurd n n1⟩, fun n => absurd n n0⟩
        exact sp_meanOf hr hd hh2 v_dig v_slots (fun j hj => v_u j (by omega)) hu hpos ⟨rfl, hI⟩
      · unfold wp_X1_greatest
        refine sp_lastUsed b1 hN (by omega) c_slots c_pages c_u hu c_k hk31 hz (fun L2 hL3 => ?_)
        rw [LastIs_u hL3 hL, e, nI_max0 (by omega)]
        refine sp_cappedHigh hd hh2 c_dig c_high (by omega) ?_
        refine ref _ ⟨fun _ => ⟨fun n => absurd e1 n, fun _ => ?_⟩, fun n => absurd n n0⟩
        refine sp_lastSlot hr (by omega) v_slots (fun j hj => v_u j (by omega)) hu (fun L2 hL3 => ?_)
        rw [LastIs_u hL3 hL, e]
        exact sp_highAt hr hd hh2 v_dig v_high (by omega) ⟨rfl, hI⟩
      · unfold wp_X1_least
        refine sp_firstUsed b1 hN c_slots c_pages c_u hu c_k hk31 hz ⟨s, hs, hL1⟩ (fun s1 hs1 g1 g2 => ?_)
        rw [nI_max0 (by omega), c_dig]
        have ⟨t1, t2⟩ := ShS_s hd hh2 (show s1 ≤ Slot d h by omega)
        refine sp_X7_lowOf hd t2 (by omega) ?_
        refine ref _ ⟨fun n => absurd e0 n, fun _ => ?_⟩
        refine sp_of (c := 1) hr (by decide) ?_
        rw [v_dig]
        refine sp_firstSlot hr (by omega) (fun j hj => v_u j (by omega)) hu ⟨s, hs, hL1⟩ (fun s2 hs2 g3 g4 => ?_)
        have es : s2 = s1 := by
          rcases Nat.lt_trichotomy s2 s1 with q5 | q5 | q5
          · exact absurd (g2 s2 q5) g3
          · exact q5
          · exact absurd (g4 s1 q5) g1
        subst es
        exact sp_X8_lowOf hd t2 (by omega) ⟨rfl, hI⟩
  · unfold wp_X7_about
    refine sp_madeAt_out (fun r hr e => (ho r hr e).1) (opt_n ?_)
    unfold wp_X8_about
    exact sp_isMade_out (fun r hr e => (ho r hr e).2) (q0b ⟨rfl, hI⟩)
