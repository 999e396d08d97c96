/-! ===== the slots of a packed recorder ===== -/
def slo (x : Nat) : Nat := if x % 2 = 1 then x / 2 + 1 else 1
def slf (B : Nat → Nat) (n N : Nat) : Nat → Nat → Nat → Nat → (Nat → Nat) → Nat × (Nat → Nat)
  | 0, _, _, _, M => (0, M)
  | f + 1, s, zf, q, M => if n ≤ q then (if zf = 0 then 0 else 8 * zf + 4, M) else if (rn B n q).1 ≠ 0 then ((rn B n q).1, M) else if (rn B n q).2.1 % 2 = 0 ∧ 1000000000000000 < (rn B n q).2.1 / 2 then (8 * q + 2, M) else if (rn B n q).2.1 = 0 ∨ N - s < slo (rn B n q).2.1 ∨ ((rn B n q).2.1 % 2 = 1 ∧ zf ≠ 0) then (8 * q + 3, M) else slf B n N f (s + slo (rn B n q).2.1) (if (rn B n q).2.1 % 2 = 1 then q else 0) (rn B n q).2.2 (if (rn B n q).2.1 % 2 = 1 then M else upn M s ((rn B n q).2.1 / 2))
theorem slf_end {B : Nat → Nat} {n N f s zf q : Nat} {M : Nat → Nat} (h : n ≤ q) : slf B n N (f + 1) s zf q M = (if zf = 0 then 0 else 8 * zf + 4, M) := if_pos h
theorem slf_e {B : Nat → Nat} {n N f s zf q e x p : Nat} {M : Nat → Nat} (h : ¬ n ≤ q) (hr : rn B n q = (e, x, p)) (he : e ≠ 0) : slf B n N (f + 1) s zf q M = (e, M) := by
  show (if n ≤ q then _ else _) = _
  rw [if_neg h, hr]
  exact if_pos he
theorem slf_2 {B : Nat → Nat} {n N f s zf q x p : Nat} {M : Nat → Nat} (h : ¬ n ≤ q) (hr : rn B n q = (0, x, p)) (h2 : x % 2 = 0 ∧ 1000000000000000 < x / 2) : slf B n N (f + 1) s zf q M = (8 * q + 2, M) := by
  show (if n ≤ q then _ else _) = _
  rw [if_neg h, hr, if_neg (by show ¬ (0 : Nat) ≠ 0; omega)]
  exact if_pos h2
theorem slf_3 {B : Nat → Nat} {n N f s zf q x p : Nat} {M : Nat → Nat} (h : ¬ n ≤ q) (hr : rn B n q = (0, x, p)) (h2 : ¬ (x % 2 = 0 ∧ 1000000000000000 < x / 2)) (h3 : x = 0 ∨ N - s < slo x ∨ (x % 2 = 1 ∧ zf ≠ 0)) : slf B n N (f + 1) s zf q M = (8 * q + 3, M) := by
  show (if n ≤ q then _ else _) = _
  rw [if_neg h, hr, if_neg (by show ¬ (0 : Nat) ≠ 0; omega), if_neg h2]
  exact if_pos h3
theorem slf_n {B : Nat → Nat} {n N f s zf q x p : Nat} {M : Nat → Nat} (h : ¬ n ≤ q) (hr : rn B n q = (0, x, p)) (h2 : ¬ (x % 2 = 0 ∧ 1000000000000000 < x / 2)) (h3 : ¬ (x = 0 ∨ N - s < slo x ∨ (x % 2 = 1 ∧ zf ≠ 0))) : slf B n N (f + 1) s zf q M = slf B n N f (s + slo x) (if x % 2 = 1 then q else 0) p (if x % 2 = 1 then M else upn M s (x / 2)) := by
  show (if n ≤ q then _ else _) = _
  rw [if_neg h, hr, if_neg (by show ¬ (0 : Nat) ≠ 0; omega), if_neg h2]
  exact if_neg h3
def Lay (s : Nat) (M : Nat → Nat) : Prop := (∀ j, s ≤ j → M j = 0) ∧ ∀ j, M j ≤ 1000000000000000
theorem Lay_n {s x : Nat} {M : Nat → Nat} (hx : x ≠ 0) (h2 : ¬ (x % 2 = 0 ∧ 1000000000000000 < x / 2)) (h : Lay s M) : Lay (s + slo x) (if x % 2 = 1 then M else upn M s (x / 2)) := by
  obtain ⟨a, b⟩ := h
  unfold slo
  by_cases q : x % 2 = 1
  · rw [if_pos q, if_pos q]
    exact ⟨fun j hj => a j (by omega), b⟩
  · rw [if_neg q, if_neg q]
    exact ⟨fun j hj => by rw [upn_n (by omega)]; exact a j (by omega), upn_b b (by omega)⟩
theorem rn_more {B : Nat → Nat} {n q : Nat} : (rn B n q).1 ≠ 0 ∨ ∃ x p, rn B n q = (0, x, p) := by
  by_cases h : (rn B n q).1 = 0
  · right
    exact ⟨(rn B n q).2.1, (rn B n q).2.2, by
      rw [← h]⟩
  · exact Or.inl h
theorem slf_lay {B : Nat → Nat} {n N : Nat} : ∀ (f s zf q : Nat) (M : Nat → Nat), s ≤ N → Lay s M → Lay N (slf B n N f s zf q M).2
  | 0, s, zf, q, M, hs, h => ⟨fun j hj => h.1 j (by omega), h.2⟩
  | f + 1, s, zf, q, M, hs, h => by
    have base : Lay N M := ⟨fun j hj => h.1 j (by omega), h.2⟩
    by_cases hq : n ≤ q
    · rw [slf_end hq]; exact base
    rcases rn_more (B := B) (n := n) (q := q) with he | ⟨x, p, hr⟩
    · have : rn B n q = ((rn B n q).1, (rn B n q).2.1, (rn B n q).2.2) := rfl
      rw [slf_e hq this he]; exact base
    by_cases h2 : x % 2 = 0 ∧ 1000000000000000 < x / 2
    · rw [slf_2 hq hr h2]; exact base
    by_cases h3 : x = 0 ∨ N - s < slo x ∨ (x % 2 = 1 ∧ zf ≠ 0)
    · rw [slf_3 hq hr h2 h3]; exact base
    rw [slf_n hq hr h2 h3]
    exact slf_lay f _ _ _ _ (by omega) (Lay_n (by omega) h2 h)
theorem rnf_p {B : Nat → Nat} {n p0 : Nat} : ∀ (f k q x x' p : Nat), rnf B n p0 f k q x = (0, x', p) → q < p ∧ p ≤ n
  | 0, k, q, x, x', p, h => by
    have h1 : 8 * p0 + 2 = 0 := congrArg Prod.fst h
    omega
  | f + 1, k, q, x, x', p, h => by
    have h2 : (if n ≤ q then (8 * q + 1, 0, q) else if B q < 128 then (0, x + B q % 128 * 2 ^ (7 * k), q + 1) else rnf B n p0 f (k + 1) (q + 1) (x + B q % 128 * 2 ^ (7 * k))) = (0, x', p) := h
    by_cases g : n ≤ q
    · rw [if_pos g] at h2
      have h1 : 8 * q + 1 = 0 := congrArg Prod.fst h2
      omega
    · rw [if_neg g] at h2
      by_cases g2 : B q < 128
      · rw [if_pos g2] at h2
        have h1 : q + 1 = p := congrArg (fun t => t.2.2) h2
        omega
      · rw [if_neg g2] at h2
        have := rnf_p f _ _ _ _ _ h2
        omega
theorem slf_fuel {B : Nat → Nat} {n N : Nat} : ∀ (f g s zf q : Nat) (M : Nat → Nat), n - q + 1 ≤ f → n - q + 1 ≤ g → slf B n N f s zf q M = slf B n N g s zf q M
  | 0, g, s, zf, q, M, h, _ => absurd h (by omega)
  | f + 1, 0, s, zf, q, M, _, h => absurd h (by omega)
  | f + 1, g + 1, s, zf, q, M, h1, h2 => by
    by_cases hq : n ≤ q
    · rw [slf_end hq, slf_end hq]
    rcases rn_more (B := B) (n := n) (q := q) with he | ⟨x, p, hr⟩
    · have : rn B n q = ((rn B n q).1, (rn B n q).2.1, (rn B n q).2.2) := rfl
      rw [slf_e hq this he, slf_e hq this he]
    by_cases o2 : x % 2 = 0 ∧ 1000000000000000 < x / 2
    · rw [slf_2 hq hr o2, slf_2 hq hr o2]
    by_cases o3 : x = 0 ∨ N - s < slo x ∨ (x % 2 = 1 ∧ zf ≠ 0)
    · rw [slf_3 hq hr o2 o3, slf_3 hq hr o2 o3]
    rw [slf_n hq hr o2 o3, slf_n hq hr o2 o3]
    have hp := rnf_p _ _ _ _ _ _ (show rnf B n q 9 0 q 0 = (0, x, p) from hr)
    exact slf_fuel f g _ _ _ _ (by omega) (by omega)
theorem sp_isZ {x : Nat} {Q : Int32 → Prop} (hx : x < 9223372036854775808) (h1 : x % 2 = 1 → Q 1) (h0 : ¬ x % 2 = 1 → Q 0) : wp_X6_isZeros (lN x) Q := by
  unfold wp_X6_isZeros
  rw [wb_a1 (by omega)]
  exact q_fi (pk_lEQ (b := 1) (by omega) (by decide)) h1 h0
theorem sp_slotsOf {x : Nat} {Q : Int64 → Prop} (hx : x < 9223372036854775808) (h : Q (lN (slo x))) : wp_X6_slotsOf (lN x) Q := by
  unfold wp_X6_slotsOf
  unfold slo at h
  refine sp_isZ hx (fun q => q1b ?_) (fun q => q0b ?_)
  · rw [if_pos q] at h
    rw [lN_half (by omega), lN_1]; exact h
  · rw [if_neg q] at h; exact h
theorem sp_checkSlots {B : Nat → Nat} {n N q0 : Nat} {tb : Nat → Int32} {Q : Int32 → Int32 → Prop} (hT : Tp B n tb) (hB : ∀ k, k < n → B k < 256) (hn : n ≤ 400) (hq : q0 ≤ n) (hq0 : 1 ≤ q0) (hN : N ≤ 4336) (h : ∀ pl, Q pl (nI (slf B n N (n - q0 + 1) 0 0 q0 (fun _ => 0)).1)) : wp_X6_checkSlots (nI N) (nI q0) 0 tb (nI n) Q := by
  generalize eR : slf B n N (n - q0 + 1) 0 0 q0 (fun _ => 0) = R at h
  unfold wp_X6_checkSlots
  intro x2 hx2 x4 hx4 x5 hx5
  rw [hx2, hx4, hx5]
  refine lp5 (fun m a b c e f => lp_X6_checkSlots_8 tb (nI n) Q (nI N) m a b c e f) (fun a b c e f => ∃ s zf q M j, slf B n N (n - q + 1) s zf q M = R ∧ 1 ≤ q ∧ q ≤ n ∧ s ≤ N ∧ j ≤ q ∧ zf ≤ 400 ∧ a = lN s ∧ b = (if zf = 0 then (-1 : Int32) else nI zf) ∧ c = nI j ∧ e = nI q ∧ f = 0) (fun _ _ c _ _ => 500 - c.toInt.toNat) ?_ _ _ _ _ _ ⟨0, 0, q0, fun _ => 0, 0, eR, hq0, hq, by omega, by omega, by omega, rfl, rfl, rfl, rfl, rfl⟩
  intro m a b c e f hI hs
  obtain ⟨s, zf, q, M, j, hR, hq1, hqn, hsN, hj, hzf, ea, eb, ec, ee, ef⟩ := hI
  subst ea ec ee ef
  show bod_X6_checkSlots_8 tb (nI n) Q (nI N) (fun v0 v1 v2 v3 v4 => lp_X6_checkSlots_8 tb (nI n) Q (nI N) m v0 v1 v2 v3 v4) (lN s) b (nI j) (nI q) 0
  unfold bod_X6_checkSlots_8
  have hend : n ≤ q → blk_X6_checkSlots_151 tb (nI n) Q b (nI q) 0 := by
    intro g
    rw [slf_end g] at hR
    unfold blk_X6_checkSlots_151
    rw [eb]
    by_cases z0 : zf = 0
    · rw [if_pos z0]
      rw [if_pos z0] at hR
      refine ⟨fun _ => ?_, fun ne => absurd rfl ne⟩
      have := h (nI q)
      rw [← hR] at this
      exact this
    · rw [if_neg z0]
      rw [if_neg z0] at hR
      refine ⟨fun e => absurd e (m1_ne (by omega)), fun _ => ?_⟩
      unfold wp_X6_fail
      intro t ht
      rw [show (8 : Int32) * nI zf + (4 : Int32) = nI (8 * zf + 4) from ix_at 8 zf 4] at ht
      have := h (nI q)
      rw [← hR] at this
      rw [ht]
      exact this
  refine q_if (nI_leI (a := 400) (by decide) (by omega)) (fun g => hend (by omega)) (fun g => ?_)
  refine q_if (nI_leI (by omega) (by omega)) (fun g2 => hend g2) (fun g2 => ?_)
  intro x6 hx6
  rw [hx6]
  refine sp_nextNumber hT hB hn hqn (fun x p' hr hx hp1 hp2 => ?_) (fun f2 x p' hr hne hlt => ?_)
  rotate_left
  · intro x7 hx7
    have hnz : ¬ nI f2 = 0 := fun e => hne ((nI_eq (b := 0) (by omega) (by decide)).mp e)
    refine ⟨fun e => absurd e hnz, fun _ => ?_⟩
    rw [slf_e g2 hr hne] at hR
    have := h (nI p')
    rw [← hR] at this
    exact this
  intro x7 hx7
  rw [hx7]
  refine ⟨fun _ => ?_, fun ne => absurd rfl ne⟩
  have hsl : slo x ≤ x / 2 + 1 := by unfold slo; split <;> omega
  have b79 : ¬ (x % 2 = 0 ∧ 1000000000000000 < x / 2) → blk_X6_checkSlots_79 tb (nI n) (fun v0 v1 v2 v3 v4 => lp_X6_checkSlots_8 tb (nI n) Q (nI N) m v0 v1 v2 v3 v4) Q (nI N) (lN s) b (nI j) (nI q) (lN x) (nI p') 0 := by
    intro h2
    have b113 : (x = 0 ∨ N - s < slo x ∨ (x % 2 = 1 ∧ zf ≠ 0)) → blk_X6_checkSlots_113 tb (nI n) Q (nI q) (nI p') 0 := by
      intro h3
      rw [slf_3 g2 hr h2 h3] at hR
      unfold blk_X6_checkSlots_113 wp_X6_fail
      intro t ht
      rw [show (8 : Int32) * nI q + (3 : Int32) = nI (8 * q + 3) from ix_at 8 q 3] at ht
      have := h (nI p')
      rw [← hR] at this
      rw [ht]
      exact this
    have b121 : ¬ (x = 0 ∨ N - s < slo x ∨ (x % 2 = 1 ∧ zf ≠ 0)) → blk_X6_checkSlots_121 tb (nI n) (fun v0 v1 v2 v3 v4 => lp_X6_checkSlots_8 tb (nI n) Q (nI N) m v0 v1 v2 v3 v4) Q (nI N) (lN s) (nI j) (nI q) (lN x) (nI p') 0 := by
      intro h3
      have hR2 := hR
      rw [slf_n g2 hr h2 h3] at hR2
      unfold blk_X6_checkSlots_121
      refine sp_slotsOf hx ?_
      intro x2b hx2b
      rw [hx2b, lN_add]
      have nxt : ∀ (k0 : Int32) (zf' : Nat), zf' ≤ 400 → zf' = (if x % 2 = 1 then q else 0) → k0 = (if zf' = 0 then (-1 : Int32) else nI zf') → blk_X6_checkSlots_143 tb (nI n) (fun v0 v1 v2 v3 v4 => lp_X6_checkSlots_8 tb (nI n) Q (nI N) m v0 v1 v2 v3 v4) Q (nI N) (lN (s + slo x)) (nI j) k0 (nI p') 0 := by
        intro k0 zf' hz' ez' ek
        unfold blk_X6_checkSlots_143
        intro x4b hx4b x5b hx5b
        rw [hx4b, hx5b, nI_1, ek]
        refine hs _ _ _ _ _ ⟨s + slo x, zf', p', (if x % 2 = 1 then M else upn M s (x / 2)), j + 1, ?_, by omega, hp2, by omega, by omega, hz', rfl, rfl, rfl, rfl, rfl⟩ ?_
        · rw [← hR2, ← ez']
          -- fuel: more fuel changes nothing
          exact slf_fuel _ _ _ _ _ _ (by omega) (by omega)
        · rw [nI_toInt (by omega), nI_toInt (by omega)]
          omega
      refine sp_isZ hx (fun o => q1b ?_) (fun o => q0b ?_)
      · exact nxt _ q (by omega) (by rw [if_pos o]) (by rw [if_neg (by omega)])
      · exact nxt _ 0 (by omega) (by rw [if_neg o]) rfl
    unfold blk_X6_checkSlots_79
    refine q_if (lN_z (by omega)) (fun o => b113 (Or.inl o)) (fun o => ?_)
    refine sp_slotsOf hx ?_
    rw [nI_l (by omega), lN_sub hsN]
    refine q_if (pk_lLT (by omega) (by omega)) (fun o2 => b113 (Or.inr (Or.inl o2))) (fun o2 => ?_)
    refine sp_isZ hx (fun o3 => q1b ?_) (fun o3 => q0b (b121 (by omega)))
    rw [eb]
    by_cases z0 : zf = 0
    · rw [if_pos z0]
      exact ⟨fun _ => b121 (by omega), fun ne => absurd rfl ne⟩
    · rw [if_neg z0]
      exact ⟨fun e => absurd e (m1_ne (by omega)), fun _ => b113 (Or.inr (Or.inr ⟨o3, z0⟩))⟩
  refine sp_isZ hx (fun o => q1a (b79 (by omega))) (fun o => q0a ?_)
  rw [lN_half (by omega)]
  refine q_if (pk_lLE (b := 1000000000000000) (by omega) (by decide)) (fun o2 => b79 (by omega)) (fun o2 => ?_)
  rw [slf_2 g2 hr ⟨by omega, by omega⟩] at hR
  unfold wp_X6_fail
  intro t ht
  rw [show (8 : Int32) * nI q + (2 : Int32) = nI (8 * q + 2) from ix_at 8 q 2] at ht
  have := h (nI p')
  rw [← hR] at this
  rw [ht]
  exact this
theorem sp_readsSlots {B : Nat → Nat} {n q0 d h : Nat} {tt : Nat → Int32} {tm : Nat → Int64} {wr : Int32} {nu : Int64} {Q : Int32 → (Nat → Int64) → Int32 → Int32 → Int64 → Prop} (hT : Tr B n tt) (hB : ∀ k, k < n → B k < 256) (hn : n ≤ 400) (hq : q0 ≤ n) (hq0 : 1 ≤ q0) (hd : d = 1 ∨ d = 2) (hh : h ≤ 1000000000000)
    (h1 : (slf B n (Slot d h + 1) (n - q0 + 1) 0 0 q0 (fun _ => 0)).1 = 0 → ∀ m' a w c, (∀ j, j < 4352 → m' j = lN ((slf B n (Slot d h + 1) (n - q0 + 1) 0 0 q0 (fun _ => 0)).2 j)) → Q 1 m' a w c)
    (h0 : (slf B n (Slot d h + 1) (n - q0 + 1) 0 0 q0 (fun _ => 0)).1 ≠ 0 → ∀ m' a c, Q 0 m' a (nI (slf B n (Slot d h + 1) (n - q0 + 1) 0 0 q0 (fun _ => 0)).1) c) : wp_X8_readsSlots tt (nI n) tm (nI q0) wr nu (nI d) (lN h) Q := by
  have ⟨s1, _⟩ := Slot_le hd hh
  have zz : (0 : Int32).toInt = 0 := by decide
  have zm : (-1 : Int32).toInt = -1 := by decide
  unfold wp_X8_readsSlots
  refine sp_laysNone (fun m0 hm0 => ?_)
  refine sp_X8_slotOf hd (by omega) ?_
  intro x1 hx1 x2 hx2 x3 hx3
  rw [hx1, hx2, hx3, nI_1]
  generalize eN : Slot d h + 1 = N at *
  generalize eR : slf B n N (n - q0 + 1) 0 0 q0 (fun _ => 0) = R at *
  refine lp6 (fun m a b c e f g => lp_X8_readsSlots_22 tt (nI n) (nI d) (lN h) Q (nI N) m a b c e f g) (fun a b c e _ _ => ∃ s zf q M, slf B n N (n - q + 1) s zf q M = R ∧ 1 ≤ q ∧ q ≤ n ∧ s ≤ N ∧ zf ≤ 400 ∧ a = nI s ∧ b = (if zf = 0 then (-1 : Int32) else nI zf) ∧ e = nI q ∧ ∀ j, j < 4352 → c j = lN (M j)) (fun _ _ _ e _ _ => 500 - e.toInt.toNat) ?_ _ _ _ _ _ _ ⟨0, 0, q0, fun _ => 0, eR, hq0, hq, by omega, by omega, rfl, rfl, rfl, hm0⟩
  intro m a b c e wr nu hI hs
  obtain ⟨s, zf, q, M, hR, hq1, hqn, hsN, hzf, ea, eb, ee, hm⟩ := hI
  subst ea ee
  show bod_X8_readsSlots_22 tt (nI n) (nI d) (lN h) Q (nI N) (fun v0 v1 v2 v3 v4 v5 => lp_X8_readsSlots_22 tt (nI n) (nI d) (lN h) Q (nI N) m v0 v1 v2 v3 v4 v5) (nI s) b c (nI q) wr nu
  unfold bod_X8_readsSlots_22
  refine q_if (nI_leI (by omega) (by omega)) (fun g2 => ?_) (fun g2 => ?_)
  · rw [slf_end g2] at hR
    rw [eb]
    by_cases z0 : zf = 0
    · rw [if_pos z0]
      rw [if_pos z0] at hR
      refine ⟨fun _ => ?_, fun ne => absurd (by decide) ne⟩
      rw [← hR] at h1
      exact h1 rfl _ _ _ _ hm
    · rw [if_neg z0]
      rw [if_neg z0] at hR
      refine ⟨fun e => absurd e (nI_nneg (by omega)), fun _ => ?_⟩
      unfold wp_X8_fails
      intro t ht
      rw [show (8 : Int32) * nI zf + (4 : Int32) = nI (8 * zf + 4) from ix_at 8 zf 4] at ht
      refine ⟨fun _ => ?_, fun ne => absurd rfl ne⟩
      rw [← hR] at h0
      rw [ht]
      exact h0 (by show 8 * zf + 4 ≠ 0; omega) _ _ _
  intro x4 hx4
  rw [hx4]
  refine sp_readsNumber hT hB hn hqn (fun x p' hr hx hp1 hp2 => q1a ?_) (fun f2 x p' hr hne hlt a2 b2 => q0a ?_)
  rotate_left
  · rw [slf_e g2 hr hne] at hR
    rw [← hR] at h0
    exact h0 hne _ _ _
  have hmod : lN x - lN x / (2 : Int64) * (2 : Int64) = lN (x % 2) := pk_lRem (b := 2) (by omega) (by decide) (by decide)
  rw [hmod]
  have hsl : slo x ≤ x / 2 + 1 := by unfold slo; split <;> omega
  have f3 : (x = 0 ∨ N - s < slo x ∨ (x % 2 = 1 ∧ zf ≠ 0)) → ¬ (x % 2 = 0 ∧ 1000000000000000 < x / 2) → blk_X8_readsSlots_154 tt (nI n) (nI d) (lN h) Q (nI q) c (nI p') wr (lN x) := by
    intro h3 h2
    rw [slf_3 g2 hr h2 h3] at hR
    unfold blk_X8_readsSlots_154 wp_X8_fails
    intro t ht
    rw [show (8 : Int32) * nI q + (3 : Int32) = nI (8 * q + 3) from ix_at 8 q 3] at ht
    rw [← hR] at h0
    rw [ht]
    exact ⟨Or.inl rfl, h0 (by show 8 * q + 3 ≠ 0; omega) _ _ _⟩
  -- going on, once all is well
  have nxt : ∀ (k0 : Int32) (zf' : Nat) (c' : Nat → Int64), ¬ (x % 2 = 0 ∧ 1000000000000000 < x / 2) → ¬ (x = 0 ∨ N - s < slo x ∨ (x % 2 = 1 ∧ zf ≠ 0)) → zf' ≤ 400 → zf' = (if x % 2 = 1 then q else 0) → k0 = (if zf' = 0 then (-1 : Int32) else nI zf') → (∀ j, j < 4352 → c' j = lN ((if x % 2 = 1 then M else upn M s (x / 2)) j)) → blk_X8_readsSlots_201 tt (nI n) (nI d) (lN h) (fun v0 v1 v2 v3 v4 v5 => lp_X8_readsSlots_22 tt (nI n) (nI d) (lN h) Q (nI N) m v0 v1 v2 v3 v4 v5) Q (nI N) (nI (s + slo x)) k0 c' (nI p') wr (lN x) := by
    intro k0 zf' c' h2 h3 hz' ez' ek hc'
    have hR2 := hR
    rw [slf_n g2 hr h2 h3] at hR2
    unfold blk_X8_readsSlots_201
    intro x3b hx3b
    rw [hx3b, ek]
    refine hs _ _ _ _ _ _ ⟨s + slo x, zf', p', (if x % 2 = 1 then M else upn M s (x / 2)), ?_, by omega, hp2, by omega, hz', rfl, rfl, rfl, hc'⟩ ?_
    · rw [← hR2, ← ez']
      exact slf_fuel _ _ _ _ _ _ (by omega) (by omega)
    · rw [nI_toInt (by omega), nI_toInt (by omega)]
      omega
  refine q_fi (pk_lEQ (b := 1) (by omega) (by decide)) (fun o => ?_) (fun o => ?_)
  · -- a row of none
    have es : slo x = x / 2 + 1 := if_pos o
    unfold blk_X8_readsSlots_66
    intro x5 hx5
    rw [hx5, lN_half (by omega), lN_1]
    refine q1b ?_
    unfold blk_X8_readsSlots_94
    intro x6 hx6
    rw [hx6]
    refine q1a ?_
    unfold blk_X8_readsSlots_118
    refine ⟨fun e => absurd ((lN_z (by omega)).mp e) (by omega), fun _ => ?_⟩
    refine q1b ?_
    have go : zf = 0 → blk_X8_readsSlots_134 tt (nI n) (nI d) (lN h) (fun v0 v1 v2 v3 v4 v5 => lp_X8_readsSlots_22 tt (nI n) (nI d) (lN h) Q (nI N) m v0 v1 v2 v3 v4 v5) Q (nI N) (nI s) (nI q) 1 (lN (x / 2 + 1)) c (nI p') wr (lN x) := by
      intro z0
      unfold blk_X8_readsSlots_134
      refine q1b ?_
      unfold blk_X8_readsSlots_147
      rw [nI_l (by omega), nI_l (by omega), lN_add]
      refine q_if (pk_lLE (by omega) (by omega)) (fun g3 => ?_) (fun g3 => f3 (Or.inr (Or.inl (by omega))) (by omega))
      refine q1a ?_
      unfold blk_X8_readsSlots_175
      refine q1b ?_
      unfold blk_X8_readsSlots_188
      intro x2b hx2b
      rw [hx2b, lN_i, nI_add]
      refine q1b ?_
      rw [← es]
      exact nxt _ q c (by omega) (by omega) (by omega) (by rw [if_pos o]) (by rw [if_neg (by omega)]) (fun j hj => by rw [if_pos o]; exact hm j hj)
    rw [eb]
    by_cases z0 : zf = 0
    · rw [if_pos z0]
      exact ⟨fun e => absurd e (by decide), fun _ => go z0⟩
    · rw [if_neg z0]
      refine ⟨fun _ => f3 (Or.inr (Or.inr ⟨o, z0⟩)) (by omega), fun ne => absurd ?_ ne⟩
      exact (nI_leI (a := 0) (by decide) (by omega)).mpr (by omega)
  · have es : slo x = 1 := if_neg o
    unfold blk_X8_readsSlots_66
    intro x5 hx5
    rw [hx5, lN_half (by omega)]
    refine q0b ?_
    unfold blk_X8_readsSlots_94
    intro x6 hx6
    rw [hx6]
    refine q0a ?_
    refine q_if (pk_lLE (b := 1000000000000000) (by omega) (by decide)) (fun g3 => ?_) (fun g3 => ?_)
    rotate_left
    · rw [slf_2 g2 hr ⟨by omega, by omega⟩] at hR
      unfold wp_X8_fails
      intro t ht
      rw [show (8 : Int32) * nI q + (2 : Int32) = nI (8 * q + 2) from ix_at 8 q 2] at ht
      rw [← hR] at h0
      rw [ht]
      exact ⟨Or.inl rfl, h0 (by show 8 * q + 2 ≠ 0; omega) _ _ _⟩
    unfold blk_X8_readsSlots_118
    refine q_if (lN_z (by omega)) (fun g4 => f3 (Or.inl (by omega)) (by omega)) (fun g4 => ?_)
    refine q0b ?_
    unfold blk_X8_readsSlots_134
    refine q0b ?_
    unfold blk_X8_readsSlots_147
    rw [nI_l (by omega), nI_l (by omega), show (1 : Int64) = lN 1 from rfl, lN_add]
    refine q_if (pk_lLE (by omega) (by omega)) (fun g5 => ?_) (fun g5 => f3 (Or.inr (Or.inl (by omega))) (by omega))
    refine q0a ?_
    refine q_in (by omega) (by decide) ?_
    intro c2 hc2
    rw [nI_clamp (by omega)] at hc2
    unfold blk_X8_readsSlots_175
    refine q0b ?_
    unfold blk_X8_readsSlots_188
    intro x2b hx2b
    rw [hx2b, nI_1]
    refine q0b ?_
    rw [show s + 1 = s + slo x by rw [es]]
    refine nxt _ 0 c2 (by omega) (by omega) (by omega) (by rw [if_neg o]) rfl (fun j hj => ?_)
    rw [if_neg o, hc2]
    by_cases e : j = s
    · rw [e, pk_uLs, upn_s]
    · rw [pk_uLn e, upn_n e]; exact hm j hj
