/-! ===== numbers read from a tape ===== -/
def Tp (B : Nat → Nat) (n : Nat) (tb : Nat → Int32) : Prop := ∀ k, k < n → tb k = nI (B k)
def Tr (B : Nat → Nat) (n : Nat) (tt : Nat → Int32) : Prop := ∀ k, k < n → tt k = (nI (B k)).toInt8.toInt32
theorem TapeR_B {tb tt : Nat → Int32} {tl td : Int32} (h : TapeR tb tl tt td) : ∃ n B, n ≤ 400 ∧ tl = nI n ∧ td = nI n ∧ (∀ k, k < n → B k < 256) ∧ Tp B n tb ∧ Tr B n tt := by
  obtain ⟨n, hn, e1, e2, hk⟩ := h
  refine ⟨n, fun k => (tb k).toInt.toNat, hn, e1, e2, fun k hk2 => ?_, fun k hk2 => ?_, fun k hk2 => ?_⟩
  · obtain ⟨b, hb, e3, e4⟩ := hk k hk2
    show (tb k).toInt.toNat < 256
    rw [e3, nI_toInt (by omega)]; omega
  · obtain ⟨b, hb, e3, e4⟩ := hk k hk2
    show tb k = nI (tb k).toInt.toNat
    rw [e3, nI_toInt (by omega)]; rfl
  · obtain ⟨b, hb, e3, e4⟩ := hk k hk2
    show tt k = (nI (tb k).toInt.toNat).toInt8.toInt32
    rw [e4, e3, nI_toInt (by omega)]; rfl
theorem sp_byteAt {B : Nat → Nat} {n q : Nat} {tb : Nat → Int32} {Q : Int32 → Prop} (hT : Tp B n tb) (hn : n ≤ 400) (hq : q ≤ 400) (h1 : q < n → Q (nI (B q))) (h0 : n ≤ q → Q (-1)) : wp_X5_byteAt (nI q) tb (nI n) Q := by
  unfold wp_X5_byteAt
  refine ⟨fun e => absurd e (nI_nneg (by omega)), fun _ => q_if (nI_leI (by omega) (by omega)) (fun g => h0 g) (fun g => ?_)⟩
  refine q_if (nI_ltI (b := 400) (by omega) (by decide)) (fun g2 => ?_) (fun g2 => absurd g2 (by omega))
  refine q_in (by omega) (by decide) ?_
  rw [nI_clamp (by omega), hT q (by omega)]
  exact h1 (by omega)
def rnf (B : Nat → Nat) (n p0 : Nat) : Nat → Nat → Nat → Nat → Nat × Nat × Nat
  | 0, _, q, _ => (8 * p0 + 2, 0, q)
  | f + 1, k, q, x => if n ≤ q then (8 * q + 1, 0, q) else if B q < 128 then (0, x + B q % 128 * 2 ^ (7 * k), q + 1) else rnf B n p0 f (k + 1) (q + 1) (x + B q % 128 * 2 ^ (7 * k))
def rn (B : Nat → Nat) (n p : Nat) : Nat × Nat × Nat := rnf B n p 9 0 p 0
theorem or_add {x b k : Nat} (hx : x < 2 ^ k) : x ||| b * 2 ^ k = x + b * 2 ^ k := by
  rw [Nat.or_comm, Nat.mul_comm, ← Nat.two_pow_add_eq_or_of_lt hx, Nat.add_comm]
theorem pw7 {k : Nat} : 2 ^ (7 * (k + 1)) = 2 ^ (7 * k) * 128 := by rw [show 7 * (k + 1) = 7 * k + 7 by omega, Nat.pow_add]
theorem acc_b {x b k : Nat} (hx : x < 2 ^ (7 * k)) (hb : b < 128) : x + b * 2 ^ (7 * k) < 2 ^ (7 * (k + 1)) := by
  have : b * 2 ^ (7 * k) ≤ 127 * 2 ^ (7 * k) := Nat.mul_le_mul_right _ (by omega)
  rw [pw7]
  omega
theorem p63 {k : Nat} (hk : k ≤ 9) : 2 ^ (7 * k) ≤ 9223372036854775808 := Nat.pow_le_pow_right (n := 2) (j := 63) (by decide) (by omega)
theorem acc_e {x b k : Nat} {y : Int64} (hk : k ≤ 8) (hx : x < 2 ^ (7 * k)) (hy : y = lN b) (hb : b < 256) : lN x ||| ((y &&& (127 : Int64)) <<< ((((7 : Int32) * nI k)).toInt64 &&& 63)) = lN (x + b % 128 * 2 ^ (7 * k)) := by
  have m : lN b &&& (127 : Int64) = lN (b % 128) := wb_mask (k := 7) (by omega) (by decide)
  have h63 := p63 (k := k + 1) (by omega)
  have h63b := p63 (k := k) (by omega)
  have ha := acc_b hx (Nat.mod_lt b (show 0 < 128 by decide))
  rw [hy, m, show (7 : Int32) * nI k = nI (7 * k) from pk_mul 7 k, wb_shl _ (by omega), wb_or (by omega) (by omega), or_add hx]
theorem sp_nextNumber {B : Nat → Nat} {n p : Nat} {tb : Nat → Int32} {fl : Int32} {Q : Int64 → Int32 → Int32 → Prop} (hT : Tp B n tb) (hB : ∀ k, k < n → B k < 256) (hn : n ≤ 400) (hp : p ≤ n) (h1 : ∀ x p', rn B n p = (0, x, p') → x < 9223372036854775808 → p < p' → p' ≤ n → Q (lN x) (nI p') fl) (h0 : ∀ f x p', rn B n p = (f, x, p') → f ≠ 0 → f < 4000 → Q 0 (nI p') (nI f)) : wp_X6_nextNumber (nI p) fl tb (nI n) Q := by
  unfold wp_X6_nextNumber
  intro x1 hx1 x2 hx2 x4 hx4
  rw [hx1, hx2, hx4]
  refine lp3 (fun m a b c => lp_X6_nextNumber_10 tb (nI n) Q (nI p) fl m a b c) (fun a b c => ∃ k x, k ≤ 9 ∧ p + k ≤ n ∧ x < 2 ^ (7 * k) ∧ rn B n p = rnf B n p (9 - k) k (p + k) x ∧ a = lN x ∧ b = nI k ∧ c = nI (p + k)) (fun _ b _ => 20 - b.toInt.toNat) ?_ _ _ _ ⟨0, 0, by omega, by omega, by decide, rfl, rfl, rfl, rfl⟩
  intro m a b c hI hs
  obtain ⟨k, x, hk, hkn, hx, hr, ea, eb, ec⟩ := hI
  subst ea eb ec
  show bod_X6_nextNumber_10 tb (nI n) Q (nI p) fl (fun v0 v1 v2 => lp_X6_nextNumber_10 tb (nI n) Q (nI p) fl m v0 v1 v2) (lN x) (nI k) (nI (p + k))
  unfold bod_X6_nextNumber_10
  refine q_if (nI_leI (a := 9) (by decide) (by omega)) (fun q => ?_) (fun q => ?_)
  · have e9 : k = 9 := by omega
    subst e9
    unfold wp_X6_fail
    intro f hf
    rw [show (8 : Int32) * nI p + (2 : Int32) = nI (8 * p + 2) from ix_at 8 p 2] at hf
    rw [hf]
    exact h0 _ _ _ hr (by omega) (by omega)
  obtain ⟨f, ef⟩ : ∃ f, 9 - k = f + 1 := ⟨8 - k, by omega⟩
  rw [ef] at hr
  refine sp_byteAt hT hn (by omega) (fun g => ?_) (fun g => ?_)
  · have hb := hB _ g
    intro x5 hx5
    rw [hx5]
    refine ⟨fun _ => ?_, fun e => absurd e (m1_ne (by omega))⟩
    intro pl hpl y hy
    rw [nI_l (by omega)] at hy
    rw [acc_e (by omega) hx rfl hb] at hy
    rw [hpl, hy, show nI (p + k) + (1 : Int32) = nI (p + k + 1) from nI_1 _]
    have ha := acc_b hx (Nat.mod_lt (B (p + k)) (show 0 < 128 by decide))
    have h63 := p63 (k := k + 1) (by omega)
    refine q_if (nI_leI (a := 128) (by decide) (by omega)) (fun q2 => ?_) (fun q2 => ?_)
    · intro x4b hx4b
      rw [hx4b, nI_1]
      have hr2 : rn B n p = rnf B n p f (k + 1) (p + (k + 1)) (x + B (p + k) % 128 * 2 ^ (7 * k)) := by
        rw [hr]
        show (if n ≤ p + k then _ else if B (p + k) < 128 then _ else _) = _
        rw [if_neg (by omega), if_neg (by omega)]
        rfl
      refine hs _ _ _ ⟨k + 1, _, by omega, by omega, ha, by rw [hr2]; congr 1; omega, rfl, rfl, rfl⟩ ?_
      rw [nI_toInt (by omega), nI_toInt (by omega)]
      omega
    · have hr2 : rn B n p = (0, x + B (p + k) % 128 * 2 ^ (7 * k), p + k + 1) := by
        rw [hr]
        show (if n ≤ p + k then _ else if B (p + k) < 128 then _ else _) = _
        rw [if_neg (by omega), if_pos (by omega)]
      exact h1 _ _ hr2 (by omega) (by omega) (by omega)
  · intro x5 hx5
    rw [hx5]
    refine ⟨fun ne => absurd rfl ne, fun _ => ?_⟩
    have hr2 : rn B n p = (8 * (p + k) + 1, 0, p + k) := by
      rw [hr]
      show (if n ≤ p + k then _ else if B (p + k) < 128 then _ else _) = _
      rw [if_pos g]
    unfold wp_X6_fail
    intro f2 hf2
    rw [show (8 : Int32) * nI (p + k) + (1 : Int32) = nI (8 * (p + k) + 1) from ix_at 8 (p + k) 1] at hf2
    rw [hf2]
    exact h0 _ _ _ hr2 (by omega) (by omega)
theorem sp_readsNumber {B : Nat → Nat} {n p : Nat} {tt : Nat → Int32} {wr : Int32} {nu : Int64} {Q : Int32 → Int32 → Int32 → Int64 → Prop} (hT : Tr B n tt) (hB : ∀ k, k < n → B k < 256) (hn : n ≤ 400) (hp : p ≤ n) (h1 : ∀ x p', rn B n p = (0, x, p') → x < 9223372036854775808 → p < p' → p' ≤ n → Q 1 (nI p') wr (lN x)) (h0 : ∀ f x p', rn B n p = (f, x, p') → f ≠ 0 → f < 4000 → ∀ a b, Q 0 a (nI f) b) : wp_X8_readsNumber tt (nI n) (nI p) wr nu Q := by
  unfold wp_X8_readsNumber
  intro x1 hx1 x2 hx2 x4 hx4
  rw [hx1, hx2, hx4]
  refine lp3 (fun m a b c => lp_X8_readsNumber_12 tt (nI n) Q (nI p) wr m a b c) (fun b c a => ∃ k x, k ≤ 9 ∧ p + k ≤ n ∧ x < 2 ^ (7 * k) ∧ rn B n p = rnf B n p (9 - k) k (p + k) x ∧ a = lN x ∧ b = nI k ∧ c = nI (p + k)) (fun b _ _ => 20 - b.toInt.toNat) ?_ _ _ _ ⟨0, 0, by omega, by omega, by decide, rfl, rfl, rfl, rfl⟩
  intro m b c a hI hs
  obtain ⟨k, x, hk, hkn, hx, hr, ea, eb, ec⟩ := hI
  subst ea eb ec
  show bod_X8_readsNumber_12 tt (nI n) Q (nI p) wr (fun v0 v1 v2 => lp_X8_readsNumber_12 tt (nI n) Q (nI p) wr m v0 v1 v2) (nI k) (nI (p + k)) (lN x)
  unfold bod_X8_readsNumber_12
  refine q_if (nI_leI (a := 9) (by decide) (by omega)) (fun q => ?_) (fun q => ?_)
  · have e9 : k = 9 := by omega
    subst e9
    unfold wp_X8_fails
    intro f hf
    rw [show (8 : Int32) * nI p + (2 : Int32) = nI (8 * p + 2) from ix_at 8 p 2] at hf
    rw [hf]
    exact ⟨Or.inl rfl, h0 _ _ _ hr (by omega) (by omega) _ _⟩
  obtain ⟨f, ef⟩ : ∃ f, 9 - k = f + 1 := ⟨8 - k, by omega⟩
  rw [ef] at hr
  refine q_fi (nI_eq (by omega) (by omega)) (fun g => ?_) (fun g => ?_)
  · have hr2 : rn B n p = (8 * (p + k) + 1, 0, p + k) := by
      rw [hr]
      show (if n ≤ p + k then _ else if B (p + k) < 128 then _ else _) = _
      rw [if_pos (by omega)]
    unfold wp_X8_fails
    intro f2 hf2
    rw [show (8 : Int32) * nI (p + k) + (1 : Int32) = nI (8 * (p + k) + 1) from ix_at 8 (p + k) 1] at hf2
    rw [hf2]
    exact ⟨Or.inl rfl, h0 _ _ _ hr2 (by omega) (by omega) _ _⟩
  · have g2 : p + k < n := by omega
    have hb := hB _ g2
    refine q_in (by omega) (by decide) ?_
    intro x3 hx3 pl hpl y hy
    rw [nI_clamp (by omega), hT _ g2, oct_and hb, nI_l (by omega)] at hx3
    rw [acc_e (by omega) hx hx3 hb] at hy
    rw [hpl, hy, show nI (p + k) + (1 : Int32) = nI (p + k + 1) from nI_1 _, hx3]
    have ha := acc_b hx (Nat.mod_lt (B (p + k)) (show 0 < 128 by decide))
    have h63 := p63 (k := k + 1) (by omega)
    refine q_if (pk_lLE (a := 128) (by decide) (by omega)) (fun q2 => ?_) (fun q2 => ?_)
    · intro x4b hx4b
      rw [hx4b, nI_1]
      have hr2 : rn B n p = rnf B n p f (k + 1) (p + (k + 1)) (x + B (p + k) % 128 * 2 ^ (7 * k)) := by
        rw [hr]
        show (if n ≤ p + k then _ else if B (p + k) < 128 then _ else _) = _
        rw [if_neg (by omega), if_neg (by omega)]
        rfl
      refine hs _ _ _ ⟨k + 1, _, by omega, by omega, ha, by rw [hr2]; congr 1; omega, rfl, rfl, rfl⟩ ?_
      rw [nI_toInt (by omega), nI_toInt (by omega)]
      omega
    · have hr2 : rn B n p = (0, x + B (p + k) % 128 * 2 ^ (7 * k), p + k + 1) := by
        rw [hr]
        show (if n ≤ p + k then _ else if B (p + k) < 128 then _ else _) = _
        rw [if_neg (by omega), if_pos (by omega)]
      exact h1 _ _ hr2 (by omega) (by omega) (by omega)
/-! ===== the head of a packed recorder ===== -/
def Hd (B : Nat → Nat) (n : Nat) : Nat :=
  if n < 1 ∨ B 0 ≠ 165 then 1 else if n < 2 ∨ 1 < B 1 then 9 else if n < 3 ∨ B 2 = 0 ∨ 2 < B 2 then 17 else
  if (rn B n 3).1 ≠ 0 then (rn B n 3).1 else if (rn B n 3).2.1 < 1000 ∨ 1000000000000 < (rn B n 3).2.1 then 26 else 0
theorem sp_nextByte {B : Nat → Nat} {n q lo hi : Nat} {tb : Nat → Int32} {fl : Int32} {Q : Int32 → Int32 → Int32 → Prop} (hT : Tp B n tb) (hB : ∀ k, k < n → B k < 256) (hn : n ≤ 400) (hq : q ≤ 400) (hlo : lo < 1000) (hhi : hi < 1000) (h1 : q < n → lo ≤ B q → B q ≤ hi → Q (nI (B q)) (nI (q + 1)) fl) (h0 : (n ≤ q ∨ B q < lo ∨ hi < B q) → Q (-1) (nI q) (nI (8 * q + 1))) : wp_X6_nextByte (nI lo) (nI hi) (nI q) fl tb (nI n) Q := by
  have bad : (n ≤ q ∨ B q < lo ∨ hi < B q) → blk_X6_nextByte_22 tb (nI n) Q (nI q) fl := by
    intro o
    unfold blk_X6_nextByte_22 wp_X6_fail
    intro f hf
    rw [show (8 : Int32) * nI q + (1 : Int32) = nI (8 * q + 1) from ix_at 8 q 1] at hf
    rw [hf]
    exact h0 o
  unfold wp_X6_nextByte
  refine sp_byteAt hT hn hq (fun g => ?_) (fun g => ?_)
  · have hb := hB _ g
    intro x hx
    rw [hx]
    refine q_if (nI_ltI (by omega) (by omega)) (fun g2 => bad (Or.inr (Or.inl g2))) (fun g2 => q_if (nI_leI (by omega) (by omega)) (fun g3 => ?_) (fun g3 => bad (Or.inr (Or.inr (by omega)))))
    intro y hy
    rw [hy, nI_1]
    exact h1 g (by omega) g3
  · intro x hx
    rw [hx]
    have h9 : (-1 : Int32) < nI lo := by
      have e1 : (-1 : Int32).toInt = -1 := by decide
      rw [fa_lt, e1, nI_toInt (by omega)]
      omega
    exact ⟨fun _ => bad (Or.inl g), fun ne => absurd h9 ne⟩
theorem sp_readHead {B : Nat → Nat} {n : Nat} {tb : Nat → Int32} {p0 f0 s0 d0 : Int32} {g0 : Int64} {Q : Int32 → Int32 → Int32 → Int32 → Int64 → Prop} (hT : Tp B n tb) (hB : ∀ k, k < n → B k < 256) (hn : n ≤ 400) (hf0 : f0 = 0) (h1 : ∀ so d h q, (so = 0 ∨ so = 1) → (d = 1 ∨ d = 2) → 1000 ≤ h → h ≤ 1000000000000 → so = B 1 → d = B 2 → rn B n 3 = (0, h, q) → Hd B n = 0 → q ≤ n → 3 < q → Q (nI q) 0 (nI so) (nI d) (lN h)) (h0 : ∀ f a b c e, f = Hd B n → f ≠ 0 → f < 4000 → Q a (nI f) b c e) : wp_X6_readHead p0 f0 s0 d0 g0 tb (nI n) Q := by
  subst hf0
  unfold wp_X6_readHead
  intro pl hpl
  rw [hpl]
  refine sp_nextByte (lo := 165) (hi := 165) (q := 0) hT hB hn (by decide) (by decide) (by decide) (fun g1 g2 g3 => ?_) (fun o => ?_)
  rotate_left
  · refine ⟨fun ne => absurd rfl ne, fun _ => h0 1 _ _ _ _ ?_ (by decide) (by decide)⟩
    unfold Hd
    rw [if_pos (by omega)]
  have e0 : B 0 = 165 := by omega
  refine ⟨fun _ => ?_, fun e => absurd e (m1_ne (by omega))⟩
  refine sp_nextByte (lo := 0) (hi := 1) (q := 1) hT hB hn (by decide) (by decide) (by decide) (fun k1 k2 k3 => ?_) (fun o => ?_)
  rotate_left
  · intro y hy
    rw [hy]
    refine ⟨fun ne => absurd rfl ne, fun _ => h0 9 _ _ _ _ ?_ (by decide) (by decide)⟩
    unfold Hd
    rw [if_neg (by omega), if_pos (by omega)]
  intro y hy
  rw [hy]
  refine ⟨fun _ => ?_, fun e => absurd e (m1_ne (by omega))⟩
  refine sp_nextByte (lo := 1) (hi := 2) (q := 2) hT hB hn (by decide) (by decide) (by decide) (fun l1 l2 l3 => ?_) (fun o => ?_)
  rotate_left
  · intro y2 hy2
    rw [hy2]
    refine ⟨fun ne => absurd rfl ne, fun _ => h0 17 _ _ _ _ ?_ (by decide) (by decide)⟩
    unfold Hd
    rw [if_neg (by omega), if_neg (by omega), if_pos (by omega)]
  intro y2 hy2
  rw [hy2]
  refine ⟨fun _ => ?_, fun e => absurd e (m1_ne (by omega))⟩
  intro x1 hx1
  rw [hx1]
  refine sp_nextNumber (p := 3) hT hB hn (by omega) (fun x p' hr hx hp1 hp2 => ?_) (fun f x p' hr hne hlt => ?_)
  · intro t ht
    rw [ht]
    refine ⟨fun ne => absurd rfl ne, fun _ => ?_⟩
    by_cases o : x < 1000 ∨ 1000000000000 < x
    · refine sp_set_out (Or.inr (Or.inr (Or.inr (Or.inr ?_)))) (q0a ?_)
      · rw [pk_lT (by omega)]; omega
      unfold wp_X6_fail
      intro f hf
      rw [show (8 : Int32) * nI (2 + 1) + (2 : Int32) = nI 26 from by decide] at hf
      rw [hf]
      refine h0 26 _ _ _ _ ?_ (by decide) (by decide)
      unfold Hd
      rw [if_neg (by omega), if_neg (by omega), if_neg (by omega), hr]
      show 26 = (if (0 : Nat) ≠ 0 then (0 : Nat) else if x < 1000 ∨ 1000000000000 < x then 26 else 0)
      rw [if_neg (by omega), if_pos o]
    · refine sp_set_in (by omega) (by omega) (by omega) (by omega) (q1a ?_)
      refine h1 _ _ _ _ (by omega) (by omega) (by omega) (by omega) rfl rfl hr ?_ hp2 hp1
      unfold Hd
      rw [if_neg (by omega), if_neg (by omega), if_neg (by omega), hr]
      show (if (0 : Nat) ≠ 0 then (0 : Nat) else if x < 1000 ∨ 1000000000000 < x then 26 else 0) = 0
      rw [if_neg (by omega), if_neg o]
  · intro t ht
    have hnz : ¬ nI f = 0 := fun e => hne ((nI_eq (b := 0) (by omega) (by decide)).mp e)
    refine ⟨fun _ => h0 f _ _ _ _ ?_ hne hlt, fun e => absurd e hnz⟩
    unfold Hd
    rw [if_neg (by omega), if_neg (by omega), if_neg (by omega), hr]
    show f = (if f ≠ 0 then f else _)
    rw [if_pos hne]
theorem by_small : ∀ b, b < 256 → ((nI b).toInt8.toInt32).toInt = if b < 128 then (b : Int) else (b : Int) - 256 := by decide +kernel
theorem sp_byteIn {b lo hi : Nat} {x : Int32} {Q : Int32 → Prop} {lo' hi' : Int64} (hx : x = (nI b).toInt8.toInt32) (hb : b < 256) (e1 : lo'.toInt = lo) (e2 : hi'.toInt = hi) (hh : hi < 128) (h1 : lo ≤ b → b ≤ hi → x = nI b → Q 1) (h0 : (b < lo ∨ hi < b) → Q 0) : wp_X8_isIn x.toInt64 lo' hi' Q := by
  have e3 : x.toInt64.toInt = x.toInt := Int32.toInt_toInt64 x
  have e4 := by_small b hb
  rw [← hx] at e4
  refine sp_isIn (fun g1 g2 => ?_) (fun o => ?_)
  · by_cases q : b < 128
    · rw [if_pos q] at e4
      exact h1 (by omega) (by omega) (Int32.toInt_inj.mp (by rw [e4, nI_toInt (by omega)]))
    · rw [if_neg q] at e4
      exfalso; omega
  · refine h0 ?_
    by_cases q : b < 128
    · rw [if_pos q] at e4; omega
    · omega
theorem sp_readsHead {B : Nat → Nat} {n : Nat} {tt : Nat → Int32} {a0 w0 s0 d0 : Int32} {n0 g0 : Int64} {Q : Int32 → Int32 → Int32 → Int64 → Int32 → Int32 → Int64 → Prop} (hT : Tr B n tt) (hB : ∀ k, k < n → B k < 256) (hn : n ≤ 400) (h1 : ∀ so d h q w nu, (so = 0 ∨ so = 1) → (d = 1 ∨ d = 2) → 1000 ≤ h → h ≤ 1000000000000 → so = B 1 → d = B 2 → rn B n 3 = (0, h, q) → Hd B n = 0 → q ≤ n → 3 < q → Q 1 (nI q) w nu (nI so) (nI d) (lN h)) (h0 : ∀ f a b c e g, f = Hd B n → f ≠ 0 → f < 4000 → Q 0 a (nI f) b c e g) : wp_X8_readsHead tt (nI n) a0 w0 n0 s0 d0 g0 Q := by
  have z0 : (0 : Int64).toInt = (0 : Nat) := by decide
  have z1 : (1 : Int64).toInt = (1 : Nat) := by decide
  have z2 : (2 : Int64).toInt = (2 : Nat) := by decide
  unfold wp_X8_readsHead
  intro at1 hat1
  rw [hat1]
  have b29 : (n < 1 ∨ B 0 ≠ 165) → blk_X8_readsHead_29 tt (nI n) Q 0 w0 n0 s0 d0 g0 := by
    intro o
    unfold blk_X8_readsHead_29 wp_X8_fails
    intro w hw
    rw [show (8 : Int32) * 0 + (1 : Int32) = nI 1 from by decide] at hw
    rw [hw]
    refine ⟨Or.inl rfl, h0 1 _ _ _ _ _ ?_ (by decide) (by decide)⟩
    unfold Hd
    rw [if_pos (by omega)]
  refine q_if (nI_ltI (b := 1) (by omega) (by decide)) (fun g => b29 (Or.inl g)) (fun g => ?_)
  refine ⟨nI_in (c := 0) (by decide) (by decide), ?_⟩
  rw [show ((0 : Int32)).toNatClampNeg = 0 from by decide, hT 0 (by omega), oct_and (hB 0 (by omega))]
  have hb0 := hB 0 (by omega)
  refine q_if (nI_eq (b := 165) (by omega) (by decide)) (fun e0 => ?_) (fun ne => b29 (Or.inr ne))
  have b59 : (n < 2 ∨ 1 < B 1) → blk_X8_readsHead_59 tt (nI n) Q 0 w0 n0 s0 d0 g0 := by
    intro o
    unfold blk_X8_readsHead_59 wp_X8_fails
    intro w hw
    rw [show (8 : Int32) * 1 + (1 : Int32) = nI 9 from by decide] at hw
    rw [hw]
    refine ⟨Or.inl rfl, h0 9 _ _ _ _ _ ?_ (by decide) (by decide)⟩
    unfold Hd
    rw [if_neg (by omega), if_pos (by omega)]
  refine q_if (nI_ltI (b := 2) (by omega) (by decide)) (fun g => b59 (Or.inl g)) (fun g => ?_)
  refine ⟨nI_in (c := 1) (by decide) (by decide), ?_⟩
  rw [show ((1 : Int32)).toNatClampNeg = 1 from by decide]
  refine sp_byteIn (hT 1 (by omega)) (hB 1 (by omega)) z0 z1 (by decide) (fun g1 g2 e1 => q1a ?_) (fun o => q0a (b59 (Or.inr (by omega))))
  have b91 : (n < 3 ∨ B 2 = 0 ∨ 2 < B 2) → blk_X8_readsHead_91 tt (nI n) Q 0 w0 n0 s0 d0 g0 := by
    intro o
    unfold blk_X8_readsHead_91 wp_X8_fails
    intro w hw
    rw [show (8 : Int32) * 2 + (1 : Int32) = nI 17 from by decide] at hw
    rw [hw]
    refine ⟨Or.inl rfl, h0 17 _ _ _ _ _ ?_ (by decide) (by decide)⟩
    unfold Hd
    rw [if_neg (by omega), if_neg (by omega), if_pos (by omega)]
  refine q_if (nI_ltI (b := 3) (by omega) (by decide)) (fun g => b91 (Or.inl g)) (fun g => ?_)
  refine ⟨nI_in (c := 2) (by decide) (by decide), ?_⟩
  rw [show ((2 : Int32)).toNatClampNeg = 2 from by decide]
  refine sp_byteIn (hT 2 (by omega)) (hB 2 (by omega)) z1 z2 (by decide) (fun k1 k2 e2 => q1a ?_) (fun o => q0a (b91 (Or.inr (by omega))))
  refine ⟨nI_in (c := 1) (by decide) (by decide), ?_⟩
  intro rs hrs
  refine ⟨nI_in (c := 2) (by decide) (by decide), ?_⟩
  intro rd hrd at2 hat2
  rw [e1] at hrs
  rw [e2] at hrd
  rw [hrs, hrd, hat2]
  refine sp_readsNumber (p := 3) hT hB hn (by omega) (fun x p' hr hx hp1 hp2 => q1a ?_) (fun f x p' hr hne hlt a b => q0a ?_)
  · have zA : (1000 : Int64).toInt = 1000 := by decide
    have zB : (1000000000000 : Int64).toInt = 1000000000000 := by decide
    have zx := pk_lT (n := x) (by omega)
    refine sp_isIn (fun g1 g2 => q1a ?_) (fun o => q0a ?_)
    · intro hg hhg
      rw [hhg]
      refine h1 _ _ _ _ _ _ (by omega) (by omega) (by omega) (by omega) rfl rfl hr ?_ hp2 hp1
      unfold Hd
      rw [if_neg (by omega), if_neg (by omega), if_neg (by omega), hr]
      show (if (0 : Nat) ≠ 0 then (0 : Nat) else if x < 1000 ∨ 1000000000000 < x then 26 else 0) = 0
      rw [if_neg (by omega), if_neg (by omega)]
    · unfold wp_X8_fails
      intro w hw
      rw [show (8 : Int32) * 3 + (2 : Int32) = nI 26 from by decide] at hw
      rw [hw]
      refine ⟨Or.inl rfl, h0 26 _ _ _ _ _ ?_ (by decide) (by decide)⟩
      unfold Hd
      rw [if_neg (by omega), if_neg (by omega), if_neg (by omega), hr]
      show 26 = (if (0 : Nat) ≠ 0 then (0 : Nat) else if x < 1000 ∨ 1000000000000 < x then 26 else 0)
      rw [if_neg (by omega), if_pos (by omega)]
  · refine h0 f _ _ _ _ _ ?_ hne hlt
    unfold Hd
    rw [if_neg (by omega), if_neg (by omega), if_neg (by omega), hr]
    show f = (if f ≠ 0 then f else _)
    rw [if_pos hne]
