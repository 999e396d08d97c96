/-! ===== the most of a page, level pages ===== -/
def mxf (f : Nat → Nat) : Nat → Nat
  | 0 => 0
  | n + 1 => max (mxf f n) (f n)
theorem mxf_le {f : Nat → Nat} {c : Nat} : ∀ {n : Nat}, mxf f n ≤ c ↔ ∀ i, i < n → f i ≤ c
  | 0 => ⟨fun _ i h => absurd h (by omega), fun _ => Nat.zero_le _⟩
  | n + 1 => by
    have ih := mxf_le (f := f) (c := c) (n := n)
    constructor
    · intro h i hi
      have h2 : max (mxf f n) (f n) ≤ c := h
      rcases Nat.lt_or_ge i n with z | z
      · exact ih.mp (by omega) i z
      · rw [show i = n by omega]; omega
    · intro h
      have a := ih.mpr (fun i hi => h i (by omega))
      have b := h n (by omega)
      show max (mxf f n) (f n) ≤ c
      omega
def pgu (u : Nat → Nat) (p : Nat) : Nat → Nat := fun i => u (16 * p + i)
theorem lN_max {a b : Nat} (ha : a < 2 ^ 63) (hb : b < 2 ^ 63) : (if lN b < lN a then lN a else lN b) = lN (max a b) := by
  by_cases h : b < a
  · rw [if_pos ((pk_lLT hb ha).mpr h), Nat.max_eq_left (by omega)]
  · rw [if_neg (fun q => h ((pk_lLT hb ha).mp q)), Nat.max_eq_right (by omega)]
theorem mxf_b {f : Nat → Nat} {c n : Nat} (h : ∀ i, f i ≤ c) : mxf f n ≤ c := mxf_le.mpr (fun i _ => h i)
theorem sp_X1_mostOf {p P : Nat} {U : Nat → Int64} {u : Nat → Nat} {Q : Int64 → Prop} (hp : p < P) (hP : P ≤ 271) (hu : ∀ j, j < 16 * P → U j = lN (u j)) (hub : ∀ j, u j ≤ 1000000000000000) (h : Q (lN (mxf (pgu u p) 16))) : wp_X1_mostOf (nI p) U Q := by
  unfold wp_X1_mostOf
  intro x ex y ey
  rw [ex, ey]
  refine lp2 (fun n a b => lp_X1_mostOf_5 U Q (nI p) n a b) (fun a b => ∃ i, i ≤ 16 ∧ b = nI i ∧ a = lN (mxf (pgu u p) i)) (fun _ b => 16 - b.toInt.toNat) ?_ _ _ ⟨0, by omega, rfl, rfl⟩
  intro n a b hI hs
  obtain ⟨i, hi, eb, ea⟩ := hI
  subst ea eb
  show bod_X1_mostOf_5 U Q (nI p) (fun v0 v1 => lp_X1_mostOf_5 U Q (nI p) n v0 v1) _ (nI i)
  unfold bod_X1_mostOf_5
  refine q_if (nI_leI (a := 16) (by decide) (by omega)) (fun q => ?_) (fun q => ?_)
  · have e16 : i = 16 := by omega
    subst e16
    exact h
  · rw [pg16, nI_add]
    refine sp_unitsOf (by omega) ?_
    intro x2 hx2 x4 hx4
    have b1 : mxf (pgu u p) i ≤ 1000000000000000 := mxf_b (fun i => hub _)
    have b2 := hub (16 * p + i)
    rw [hu _ (by omega), lN_max (by omega) (by omega)] at hx2
    rw [hx2, hx4, nI_1]
    refine hs _ _ ⟨i + 1, by omega, rfl, rfl⟩ ?_
    rw [nI_toInt (by omega), nI_toInt (by omega)]
    omega
theorem ix_up (r p i : Nat) : (((4352 : Int32) * nI r) + ((16 : Int32) * nI p)) + nI i = nI (4352 * r + (16 * p + i)) := by
  rw [pg16, show (4352 : Int32) = nI 4352 from rfl, pk_mul, nI_add, nI_add]
  exact congrArg nI (by omega)
theorem sp_X8_mostOf {r p P : Nat} {t_units : Nat → Int64} {u : Nat → Nat} {Q : Int64 → Prop} (hr : r < 4) (hp : p < P) (hP : P ≤ 271) (hu : ∀ j, j < 16 * P → t_units (4352 * r + j) = lN (u j)) (hub : ∀ j, u j ≤ 1000000000000000) (h : Q (lN (mxf (pgu u p) 16))) : wp_X8_mostOf (nI r) (nI p) t_units Q := by
  unfold wp_X8_mostOf
  intro x ex y ey
  rw [ex, ey]
  refine lp2 (fun n a b => lp_X8_mostOf_5 t_units Q (nI r) (nI p) n a b) (fun a b => ∃ i, i ≤ 16 ∧ b = nI i ∧ a = lN (mxf (pgu u p) i)) (fun _ b => 16 - b.toInt.toNat) ?_ _ _ ⟨0, by omega, rfl, rfl⟩
  intro n a b hI hs
  obtain ⟨i, hi, eb, ea⟩ := hI
  subst ea eb
  show bod_X8_mostOf_5 t_units Q (nI r) (nI p) (fun v0 v1 => lp_X8_mostOf_5 t_units Q (nI r) (nI p) n v0 v1) _ (nI i)
  unfold bod_X8_mostOf_5
  refine q_if (nI_leI (a := 16) (by decide) (by omega)) (fun q => ?_) (fun q => ?_)
  · have e16 : i = 16 := by omega
    subst e16
    exact h
  · rw [ix_up]
    refine q_in (by omega) (by decide) ?_
    rw [nI_clamp (by omega), hu _ (by omega)]
    intro x6 h6
    rw [h6]
    have b1 : mxf (pgu u p) i ≤ 1000000000000000 := mxf_b (fun i => hub _)
    have b2 := hub (16 * p + i)
    have hst : ∀ w, w = mxf (pgu u p) (i + 1) → blk_X8_mostOf_45 t_units (fun v0 v1 => lp_X8_mostOf_5 t_units Q (nI r) (nI p) n v0 v1) Q (nI r) (nI p) (nI i) (lN w) := by
      intro w hw
      unfold blk_X8_mostOf_45
      intro x3 h3 x5 h5
      rw [h3, h5, nI_1]
      refine hs _ _ ⟨i + 1, by omega, rfl, by rw [hw]⟩ ?_
      rw [nI_toInt (by omega), nI_toInt (by omega)]
      omega
    refine q_if (pk_lLE (by omega) (by omega)) (fun q2 => hst _ ?_) (fun q2 => hst _ ?_)
    · show _ = max (mxf (pgu u p) i) (u (16 * p + i)); omega
    · show _ = max (mxf (pgu u p) i) (u (16 * p + i)); omega
def Lev (u : Nat → Nat) (p : Nat) : Prop := ∀ i, i < 16 → u (16 * p + i) = u (16 * p)
theorem sp_X1_isLevel {p P : Nat} {U : Nat → Int64} {u : Nat → Nat} {Q : Int32 → Prop} (hp : p < P) (hP : P ≤ 271) (hu : ∀ j, j < 16 * P → U j = lN (u j)) (hub : ∀ j, u j ≤ 1000000000000000) (h1 : Lev u p → Q 1) (h0 : ¬ Lev u p → Q 0) : wp_X1_isLevel (nI p) U Q := by
  unfold wp_X1_isLevel
  intro x ex
  rw [ex]
  refine lp1 (fun n a => lp_X1_isLevel_2 U Q (nI p) n a) (fun a => ∃ i, 1 ≤ i ∧ i ≤ 16 ∧ a = nI i ∧ ∀ j, j < i → u (16 * p + j) = u (16 * p)) (fun a => 16 - a.toInt.toNat) ?_ _ ⟨1, by omega, by omega, rfl, fun j hj => by rw [show j = 0 by omega]; rfl⟩
  intro n a hI hs
  obtain ⟨i, i1, hi, ea, hl⟩ := hI
  subst ea
  show bod_X1_isLevel_2 U Q (nI p) (fun v0 => lp_X1_isLevel_2 U Q (nI p) n v0) (nI i)
  unfold bod_X1_isLevel_2
  refine q_if (nI_leI (a := 16) (by decide) (by omega)) (fun q => h1 (fun j hj => hl j (by omega))) (fun q => ?_)
  rw [pg16, nI_add]
  refine sp_unitsOf (by omega) (sp_unitsOf (by omega) ?_)
  have b1 := hub (16 * p + i)
  have b2 := hub (16 * p)
  rw [hu _ (by omega), hu _ (by omega)]
  refine q_if (pk_lEQ (by omega) (by omega)) (fun q2 => ?_) (fun q2 => h0 (fun hL => q2 (hL i (by omega))))
  intro y hy
  rw [hy, nI_1]
  refine hs _ ⟨i + 1, by omega, by omega, rfl, fun j hj => ?_⟩ ?_
  · by_cases e : j = i
    · rw [e]; exact q2
    · exact hl j (by omega)
  · rw [nI_toInt (by omega), nI_toInt (by omega)]
    omega
theorem sp_X8_isLevel {r p P : Nat} {t_units : Nat → Int64} {u : Nat → Nat} {Q : Int32 → Prop} (hr : r < 4) (hp : p < P) (hP : P ≤ 271) (hu : ∀ j, j < 16 * P → t_units (4352 * r + j) = lN (u j)) (hub : ∀ j, u j ≤ 1000000000000000) (h1 : Lev u p → Q 1) (h0 : ¬ Lev u p → Q 0) : wp_X8_isLevel (nI r) (nI p) t_units Q := by
  unfold wp_X8_isLevel
  intro x ex
  rw [ex]
  refine lp1 (fun n a => lp_X8_isLevel_2 t_units Q (nI r) (nI p) n a) (fun a => ∃ i, 1 ≤ i ∧ i ≤ 16 ∧ a = nI i ∧ ∀ j, j < i → u (16 * p + j) = u (16 * p)) (fun a => 16 - a.toInt.toNat) ?_ _ ⟨1, by omega, by omega, rfl, fun j hj => by rw [show j = 0 by omega]; rfl⟩
  intro n a hI hs
  obtain ⟨i, i1, hi, ea, hl⟩ := hI
  subst ea
  show bod_X8_isLevel_2 t_units Q (nI r) (nI p) (fun v0 => lp_X8_isLevel_2 t_units Q (nI r) (nI p) n v0) (nI i)
  unfold bod_X8_isLevel_2
  refine q_if (nI_leI (a := 16) (by decide) (by omega)) (fun q => h1 (fun j hj => hl j (by omega))) (fun q => ?_)
  rw [ix_up, show (((4352 : Int32) * nI r) + ((16 : Int32) * nI p)) = nI (4352 * r + 16 * p) by rw [pg16, show (4352 : Int32) = nI 4352 from rfl, pk_mul, nI_add]]
  refine q_in (by omega) (by decide) (q_in (by omega) (by decide) ?_)
  have b1 := hub (16 * p + i)
  have b2 := hub (16 * p)
  rw [nI_clamp (by omega), nI_clamp (by omega), hu _ (by omega), hu _ (by omega)]
  refine q_if (pk_lEQ (by omega) (by omega)) (fun q2 => ?_) (fun q2 => h0 (fun hL => q2 (hL i (by omega))))
  intro y hy
  rw [hy, nI_1]
  refine hs _ ⟨i + 1, by omega, by omega, rfl, fun j hj => ?_⟩ ?_
  · by_cases e : j = i
    · rw [e]; exact q2
    · exact hl j (by omega)
  · rw [nI_toInt (by omega), nI_toInt (by omega)]
    omega
/-! ===== the kind on the shelf ===== -/
noncomputable def shK (so : Nat) (u : Nat → Nat) (p : Nat) : Nat := @ite Nat (mxf (pgu u p) 16 = 0) (Classical.propDecidable _) 0 (@ite Nat (Lev u p) (Classical.propDecidable _) 9 (@ite Nat (so = 0 ∧ mxf (pgu u p) 16 ≤ 65535) (Classical.propDecidable _) 10 (kf (kst so) (mxf (pgu u p) 16))))
theorem Rk_st {so : Nat} (h : so = 0 ∨ so = 1) : Rk so (kst so) := by
  rcases h with e | e <;> subst e
  · exact Or.inl ⟨rfl, by decide, by decide⟩
  · exact Or.inr ⟨rfl, by decide, by decide⟩
theorem sp_firstRow {so : Nat} {Q : Int32 → Prop} (hso : so = 0 ∨ so = 1) (h : Q (nI (kst so))) : wp_X1_firstRow (nI so) Q := by
  unfold wp_X1_firstRow
  rcases hso with e | e <;> subst e
  · exact ⟨fun n => absurd rfl n, fun _ => h⟩
  · exact ⟨fun _ => h, fun n => absurd n (by decide)⟩
theorem sp_firstKind {r so : Nat} {t_set : Nat → Int32} {Q : Int32 → Prop} (hr : r < 4) (hso : so = 0 ∨ so = 1) (hs : t_set (4 * r + 0) = nI so) (h : Q (nI (kst so))) : wp_X8_firstKind (nI r) t_set Q := by
  unfold wp_X8_firstKind
  refine sp_of (c := 0) hr (by decide) ?_
  rw [hs]
  rcases hso with e | e <;> subst e
  · exact ⟨fun n => absurd rfl n, fun _ => h⟩
  · exact ⟨fun _ => h, fun n => absurd n (by decide)⟩
theorem sp_shelfOf {so p P : Nat} {U : Nat → Int64} {u : Nat → Nat} {Q : Int32 → Prop} (hso : so = 0 ∨ so = 1) (hp : p < P) (hP : P ≤ 271) (hu : ∀ j, j < 16 * P → U j = lN (u j)) (hub : ∀ j, u j ≤ 1000000000000000) (h : Q (nI (shK so u p))) : wp_X1_shelfOf (nI p) (nI so) U Q := by
  unfold wp_X1_shelfOf
  refine sp_X1_mostOf hp hP hu hub ?_
  intro x hx
  rw [hx]
  have b1 : mxf (pgu u p) 16 ≤ 1000000000000000 := mxf_b (fun i => hub _)
  unfold shK at h
  refine q_fi (lN_z (by omega)) (fun q => ?_) (fun q => ?_)
  · rw [if_pos q] at h; exact h
  rw [if_neg q] at h
  have tail : ¬ (so = 0 ∧ mxf (pgu u p) 16 ≤ 65535) → ¬ Lev u p → blk_X1_shelfOf_45 (nI so) U Q (lN (mxf (pgu u p) 16)) := by
    intro n1 n2
    rw [if_neg n2, if_neg n1] at h
    unfold blk_X1_shelfOf_45
    exact sp_firstRow hso (sp_rowThatHolds (Rk_st hso) b1 h)
  refine sp_X1_isLevel hp hP hu hub (fun q2 => q1b ?_) (fun q2 => q0b ?_)
  · rw [if_pos q2] at h; exact h
  · refine q_fi (nI_eq (b := 0) (by omega) (by decide)) (fun e => ?_) (fun e => tail (fun c => e c.1) q2)
    refine q_if (pk_lLT (a := 65535) (by decide) (by omega)) (fun q3 => tail (fun c => by omega) q2) (fun q3 => ?_)
    rw [if_neg q2, if_pos ⟨e, by omega⟩] at h
    exact h
theorem sp_shelvedKind {r so p P : Nat} {t_set : Nat → Int32} {t_units : Nat → Int64} {u : Nat → Nat} {Q : Int32 → Prop} (hr : r < 4) (hso : so = 0 ∨ so = 1) (hs : t_set (4 * r + 0) = nI so) (hp : p < P) (hP : P ≤ 271) (hu : ∀ j, j < 16 * P → t_units (4352 * r + j) = lN (u j)) (hub : ∀ j, u j ≤ 1000000000000000) (h : Q (nI (shK so u p))) : wp_X8_shelvedKind (nI r) (nI p) t_set t_units Q := by
  unfold wp_X8_shelvedKind
  refine sp_X8_mostOf hr hp hP hu hub ?_
  intro x hx
  rw [hx]
  have b1 : mxf (pgu u p) 16 ≤ 1000000000000000 := mxf_b (fun i => hub _)
  unfold shK at h
  refine q_fi (lN_z (by omega)) (fun q => ?_) (fun q => ?_)
  · rw [if_pos q] at h; exact h
  rw [if_neg q] at h
  have tail : ¬ (so = 0 ∧ mxf (pgu u p) 16 ≤ 65535) → ¬ Lev u p → blk_X8_shelvedKind_49 t_set t_units Q (nI r) (lN (mxf (pgu u p) 16)) := by
    intro n1 n2
    rw [if_neg n2, if_neg n1] at h
    unfold blk_X8_shelvedKind_49
    exact sp_firstKind hr hso hs (sp_kindFor (Rk_st hso) b1 h)
  refine sp_X8_isLevel hr hp hP hu hub (fun q2 => q1b ?_) (fun q2 => q0b ?_)
  · rw [if_pos q2] at h; exact h
  · refine sp_of (c := 0) hr (by decide) ?_
    rw [hs]
    refine q_fi (nI_eq (b := 0) (by omega) (by decide)) (fun e => ?_) (fun e => tail (fun c => e c.1) q2)
    refine q_if (pk_lLT (a := 65535) (by decide) (by omega)) (fun q3 => tail (fun c => by omega) q2) (fun q3 => ?_)
    rw [if_neg q2, if_pos ⟨e, by omega⟩] at h
    exact h
