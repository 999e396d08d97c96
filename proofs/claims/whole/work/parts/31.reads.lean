/-! ===== what a call answers of a recorder: both sides ===== -/
theorem opt_s {j : Nat} {A : Prop} {B : Nat → Prop} (h : B j) : ((some j : Option Nat) = none → A) ∧ (∀ i : Nat, (some j : Option Nat) = some i → B i) := ⟨fun e => (by cases e), fun i e => (by cases e; exact h)⟩
theorem opt_n {A : Prop} {B : Nat → Prop} (h : A) : ((none : Option Nat) = none → A) ∧ (∀ i : Nat, (none : Option Nat) = some i → B i) := ⟨fun _ => h, fun i e => (by cases e)⟩
theorem nI_nneg {n : Nat} (h : n < 2 ^ 31) : ¬ nI n < 0 := by
  rw [fa_lt, nI_toInt h]
  have : (0 : Int32).toInt = 0 := by decide
  omega
theorem sp_ledgerAt_in {r : Nat} {Q : Option Nat → Prop} (hr : r < 4) (h : Q (some r)) : wp_X7_ledgerAt (nI r) Q := by
  unfold wp_X7_ledgerAt
  refine ⟨fun n => absurd n ?_, fun _ => q_if (nI_ltI (b := 4) (by omega) (by decide)) (fun _ => ?_) (fun n => absurd hr n)⟩
  · exact nI_nneg (by omega)
  · refine q_in hr (by decide) ?_
    rw [nI_clamp (by omega)]
    exact h
theorem sp_ledgerAt_out {p : Int32} {Q : Option Nat → Prop} (ho : ∀ r, r < 4 → p ≠ nI r) (h : Q none) : wp_X7_ledgerAt p Q := by
  unfold wp_X7_ledgerAt
  have z : (0 : Int32).toInt = 0 := by decide
  have z4 : (4 : Int32).toInt = 4 := by decide
  refine q_if (fa_lt _ _) (fun _ => h) (fun a => q_if (fa_lt _ _) (fun b => ?_) (fun _ => h))
  exfalso
  obtain ⟨r, e⟩ : ∃ r : Nat, p.toInt = r := ⟨p.toInt.toNat, by omega⟩
  exact ho r (by omega) (Int32.toInt_inj.mp (by rw [e, nI_toInt (by omega)]))
theorem sp_madeAt_in {r : Nat} {l_made : Nat → Int32} {Q : Option Nat → Prop} (hr : r < 4) (hm : l_made r = 1) (h : Q (some r)) : wp_X7_madeAt (nI r) l_made Q := by
  unfold wp_X7_madeAt
  refine sp_ledgerAt_in hr (opt_s ?_)
  rw [hm]
  exact q1a h
theorem sp_madeAt_out {p : Int32} {l_made : Nat → Int32} {Q : Option Nat → Prop} (ho : ∀ r, r < 4 → p = nI r → l_made r = 0) (h : Q none) : wp_X7_madeAt p l_made Q := by
  unfold wp_X7_madeAt
  by_cases hp : ∃ r, r < 4 ∧ p = nI r
  · obtain ⟨r, hr, e⟩ := hp
    rw [e]
    refine sp_ledgerAt_in hr (opt_s ?_)
    rw [ho r hr e]
    exact q0a h
  · exact sp_ledgerAt_out (fun r hr e => hp ⟨r, hr, e⟩) (opt_n h)
theorem sp_of {r c : Nat} {t_set : Nat → Int32} {Q : Int32 → Prop} (hr : r < 4) (hc : c < 4) (h : Q (t_set (4 * r + c))) : wp_X8_of (nI r) (nI c) t_set Q := by
  unfold wp_X8_of
  have e : (4 : Int32) * nI r + nI c = nI (4 * r + c) := by rw [show (4 : Int32) = nI 4 from rfl, pk_mul, nI_add]
  rw [e]
  refine q_in (by omega) (by decide) ?_
  rw [nI_clamp (by omega)]
  exact h
theorem sp_in4 {r : Nat} {n : Int64} {Q : Int32 → Prop} (hr : r < 4) (hn : n.toInt = 3) (h : Q 1) : wp_X8_isIn (nI r).toInt64 0 n Q := by
  have z : (0 : Int64).toInt = 0 := by decide
  have e : (nI r).toInt64.toInt = r := by rw [nI_l (by omega), pk_lT (by omega)]
  exact sp_isIn (fun _ _ => h) (fun o => absurd o (by omega))
theorem sp_isMade_in {r : Nat} {t_set : Nat → Int32} {Q : Int32 → Prop} (hr : r < 4) (hm : t_set (4 * r + 3) = 1) (h : Q 1) : wp_X8_isMade (nI r) t_set Q := by
  unfold wp_X8_isMade
  refine sp_in4 hr (by decide) (q1b ?_)
  refine sp_of (c := 3) hr (by decide) ?_
  rw [hm]
  exact ⟨fun n => absurd rfl n, fun _ => h⟩
theorem sp_isMade_out {p : Int32} {t_set : Nat → Int32} {Q : Int32 → Prop} (ho : ∀ r, r < 4 → p = nI r → t_set (4 * r + 3) = 0) (h : Q 0) : wp_X8_isMade p t_set Q := by
  unfold wp_X8_isMade
  have z : (0 : Int64).toInt = 0 := by decide
  have z3 : (3 : Int64).toInt = 3 := by decide
  have e : p.toInt64.toInt = p.toInt := Int32.toInt_toInt64 p
  refine sp_isIn (fun a b => q1b ?_) (fun _ => q0b h)
  obtain ⟨r, e2⟩ : ∃ r : Nat, p.toInt = r := ⟨p.toInt.toNat, by omega⟩
  have hr : r < 4 := by omega
  have e3 : p = nI r := Int32.toInt_inj.mp (by rw [e2, nI_toInt (by omega)])
  have hm := ho r hr e3
  rw [e3]
  refine sp_of (c := 3) hr (by decide) ?_
  rw [hm]
  exact ⟨fun _ => h, fun n => absurd n (by decide)⟩
theorem sp_unitsOf {j : Nat} {U : Nat → Int64} {Q : Int64 → Prop} (hj : j < 4336) (h : Q (U j)) : wp_X1_unitsOf (nI j) U Q := by
  unfold wp_X1_unitsOf
  refine ⟨fun n => absurd n (nI_nneg (by omega)), fun _ => q_if (nI_ltI (b := 4336) (by omega) (by decide)) (fun _ => ?_) (fun n => absurd hj n)⟩
  refine q_in hj (by decide) ?_
  rw [nI_clamp (by omega)]
  exact h
theorem sp_kindOf {j : Nat} {U : Nat → Int32} {Q : Int32 → Prop} (hj : j < 271) (h : Q (U j)) : wp_X1_kindOf (nI j) U Q := by
  unfold wp_X1_kindOf
  refine ⟨fun n => absurd n (nI_nneg (by omega)), fun _ => q_if (nI_ltI (b := 271) (by omega) (by decide)) (fun _ => ?_) (fun n => absurd hj n)⟩
  refine q_in hj (by decide) ?_
  rw [nI_clamp (by omega)]
  exact h
theorem sp_rowOf {j : Nat} {U : Nat → Int32} {Q : Int32 → Prop} (hj : j < 271) (h : Q (U j)) : wp_X1_rowOf (nI j) U Q := by
  unfold wp_X1_rowOf
  refine ⟨fun n => absurd n (nI_nneg (by omega)), fun _ => q_if (nI_ltI (b := 271) (by omega) (by decide)) (fun _ => ?_) (fun n => absurd hj n)⟩
  refine q_in hj (by decide) ?_
  rw [nI_clamp (by omega)]
  exact h
theorem sp_markOf {j : Nat} {U : Nat → Int32} {Q : Int32 → Prop} (hj : j < 4336) (h : Q (U j - 1)) : wp_X1_markOf (nI j) U Q := by
  unfold wp_X1_markOf
  refine ⟨fun n => absurd n (nI_nneg (by omega)), fun _ => q_if (nI_ltI (b := 4336) (by omega) (by decide)) (fun _ => ?_) (fun n => absurd hj n)⟩
  refine q_in hj (by decide) ?_
  rw [nI_clamp (by omega)]
  exact h
theorem pg16 (p : Nat) : (16 : Int32) * nI p = nI (16 * p) := pk_mul 16 p
theorem nI_min {a b : Nat} (ha : a < 2 ^ 31) (hb : b < 2 ^ 31) : (if nI a < nI b then nI a else nI b) = nI (min a b) := by
  by_cases h : a < b
  · rw [if_pos (nI_lt h hb), Nat.min_eq_left (by omega)]
  · rw [if_neg (nI_nlt (by omega) ha), Nat.min_eq_right (by omega)]
def endP (N kp p : Nat) : Nat := if kp = 0 then 16 * p else min (16 * p + 16) N
theorem sp_endOf {p kp N : Nat} {K : Nat → Int32} {slots : Int32} {Q : Int32 → Prop} (hp : p < 271) (hk : K p = nI kp) (hkp : kp < 2 ^ 31) (hs : slots = nI N) (hN : N < 2 ^ 31) (h : Q (nI (endP N kp p))) : wp_X1_endOf (nI p) slots K Q := by
  unfold wp_X1_endOf
  refine sp_kindOf hp ?_
  rw [hk, hs, pg16]
  unfold endP at h
  refine q_fi (nI_eq (b := 0) hkp (by decide)) (fun e => ?_) (fun e => ?_)
  · rw [if_pos e] at h; exact h
  · rw [if_neg e] at h
    rw [show (16 : Int32) = nI 16 from rfl, nI_add, nI_min (by omega) hN]
    exact h
/-! ===== sums of units ===== -/
theorem sm_ext {u : Nat → Nat} {a b : Nat} (h : a ≤ b) (hz : ∀ i, a ≤ i → i < b → u i = 0) : fb_sm u b = fb_sm u a := by
  obtain ⟨n, rfl⟩ : ∃ n, b = a + n := ⟨b - a, by omega⟩
  clear h
  induction n with
  | zero => rfl
  | succ n ih =>
    have i := ih (fun i h1 h2 => hz i h1 (by omega))
    have z := hz (a + n) (by omega) (by omega)
    show fb_sm u (a + n + 1) = _
    rw [fb_sm_succ, i, z]
    rfl
theorem sp_sumOf {r s : Nat} {t_units : Nat → Int64} {u : Nat → Nat} {Q : Int64 → Prop} (hr : r < 4) (hs : s ≤ 4352) (hu : ∀ j, j < s → t_units (4352 * r + j) = lN (u j)) (h : Q (lN (fb_sm u s))) : wp_X8_sumOf (nI r) (nI s) t_units Q := by
  unfold wp_X8_sumOf
  intro x ex y ey
  rw [ex, ey]
  refine lp2 (fun n a b => lp_X8_sumOf_5 t_units Q (nI r) (nI s) n a b) (fun a b => ∃ i, i ≤ s ∧ b = nI i ∧ a = lN (fb_sm u i)) (fun _ b => s - b.toInt.toNat) ?_ _ _ ⟨0, by omega, rfl, rfl⟩
  intro n a b hI hs2
  obtain ⟨i, hi, eb, ea⟩ := hI
  subst ea eb
  show bod_X8_sumOf_5 t_units Q (nI r) (nI s) (fun v0 v1 => lp_X8_sumOf_5 t_units Q (nI r) (nI s) n v0 v1) (lN (fb_sm u i)) (nI i)
  unfold bod_X8_sumOf_5
  refine q_if (nI_leI (by omega) (by omega)) (fun q => ?_) (fun q => ?_)
  · rw [show i = s by omega]; exact h
  · have e : (4352 : Int32) * nI r + nI i = nI (4352 * r + i) := by rw [show (4352 : Int32) = nI 4352 from rfl, pk_mul, nI_add]
    rw [e]
    refine q_in (by omega) (by decide) ?_
    rw [nI_clamp (by omega), hu i (by omega), lN_add]
    intro a2 e2 b2 e3
    rw [e2, e3, nI_1]
    refine hs2 _ _ ⟨i + 1, by omega, rfl, rfl⟩ ?_
    rw [nI_toInt (by omega), nI_toInt (by omega)]
    omega
theorem sp_unitsAhead {s N P : Nat} {slots pages : Int32} {U : Nat → Int64} {K : Nat → Int32} {u k : Nat → Nat} {Q : Int64 → Prop} (hsN : s ≤ N) (hP : P ≤ 271) (hN : N ≤ 16 * P) (es : slots = nI N) (ep : pages = nI P) (hu : ∀ j, j < 16 * P → U j = lN (u j)) (hk : ∀ p, p < P → K p = nI (k p)) (hk31 : ∀ p, k p < 2 ^ 31) (hz : ∀ p, k p = 0 → ∀ i, i < 16 → u (16 * p + i) = 0) (h : Q (lN (fb_sm u s))) : wp_X1_unitsAhead (nI s) slots pages U K Q := by
  unfold wp_X1_unitsAhead
  intro x ex y ey
  rw [ex, ey]
  refine lp2 (fun n a b => lp_X1_unitsAhead_5 slots pages U K Q (nI s) n a b) (fun a b => ∃ p, p ≤ P ∧ b = nI p ∧ a = lN (fb_sm u (min (16 * p) s))) (fun _ b => P - b.toInt.toNat) ?_ _ _ ⟨0, by omega, rfl, by rw [show min (16 * 0) s = 0 by omega]; rfl⟩
  intro n a b hI ho
  obtain ⟨p, hp, eb, ea⟩ := hI
  subst eb
  show bod_X1_unitsAhead_5 slots pages U K Q (nI s) (fun v0 v1 => lp_X1_unitsAhead_5 slots pages U K Q (nI s) n v0 v1) a (nI p)
  unfold bod_X1_unitsAhead_5
  rw [ep]
  refine q_if (nI_leI (by omega) (by omega)) (fun q => ?_) (fun q => ?_)
  · rw [ea, show min (16 * p) s = s by omega]; exact h
  have hpP : p < P := by omega
  refine sp_endOf (by omega) (hk p hpP) (hk31 p) es (by omega) ?_
  intro e1 he1 x6 hx6
  have hb : endP N (k p) p ≤ 16 * p + 16 := by unfold endP; split <;> omega
  have e2 : e1 = nI (min (endP N (k p) p) s) := by rw [he1, nI_min (by omega) (by omega)]
  rw [e2, hx6, pg16]
  have hout : ∀ z, (16 * p = z ∨ (16 * p ≤ z ∧ z ≤ min (endP N (k p) p) s)) → min (endP N (k p) p) s ≤ z → fb_sm u (min z s) = fb_sm u (min (16 * (p + 1)) s) := by
    intro z hz1 hz2
    unfold endP at hz1 hz2
    split at hz1
    · rename_i k0
      rw [if_pos k0] at hz2
      have hh : ∀ i, min z s ≤ i → i < min (16 * (p + 1)) s → u i = 0 := by
        intro i h1 h2
        have := hz p k0 (i - 16 * p) (by omega)
        rw [show 16 * p + (i - 16 * p) = i by omega] at this
        exact this
      exact (sm_ext (by omega) hh).symm
    · rename_i k0
      rw [if_neg k0] at hz2
      have : min z s = min (16 * (p + 1)) s := by omega
      rw [this]
  refine lp2 (fun n2 a b => lp_X1_unitsAhead_33 slots (nI P) U K (fun v0 v1 => lp_X1_unitsAhead_5 slots (nI P) U K Q (nI s) n v0 v1) Q (nI s) (nI p) (nI (min (endP N (k p) p) s)) n2 a b) (fun a b => ∃ z, (16 * p = z ∨ (16 * p ≤ z ∧ z ≤ min (endP N (k p) p) s)) ∧ b = nI z ∧ a = lN (fb_sm u (min z s))) (fun _ b => 16 * p + 16 - b.toInt.toNat) ?_ _ _ ⟨16 * p, Or.inl rfl, rfl, ea⟩
  intro n2 a2 b2 hI2 hs2
  obtain ⟨z, hz1, eb2, ea2⟩ := hI2
  subst eb2
  show bod_X1_unitsAhead_33 slots (nI P) U K (fun v0 v1 => lp_X1_unitsAhead_5 slots (nI P) U K Q (nI s) n v0 v1) Q (nI s) (nI p) (nI (min (endP N (k p) p) s)) (fun v0 v1 => lp_X1_unitsAhead_33 slots (nI P) U K (fun v0 v1 => lp_X1_unitsAhead_5 slots (nI P) U K Q (nI s) n v0 v1) Q (nI s) (nI p) (nI (min (endP N (k p) p) s)) n2 v0 v1) a2 (nI z)
  unfold bod_X1_unitsAhead_33
  refine q_if (nI_leI (by omega) (by omega)) (fun q2 => ?_) (fun q2 => ?_)
  · intro x4 hx4
    rw [hx4, nI_1]
    rw [ep] at ho
    refine ho _ _ ⟨p + 1, by omega, rfl, ?_⟩ ?_
    · rw [ea2, hout z hz1 q2]
    · rw [nI_toInt (by omega), nI_toInt (by omega)]
      omega
  · refine sp_unitsOf (by omega) ?_
    intro x2 hx2 x7 hx7
    rw [hx7, nI_1, hx2, ea2, hu z (by omega), lN_add]
    refine hs2 _ _ ⟨z + 1, by omega, rfl, ?_⟩ ?_
    · rw [show min z s = z by omega, show min (z + 1) s = z + 1 by omega]
      rfl
    · rw [nI_toInt (by omega), nI_toInt (by omega)]
      omega
