/-! ===== what is undone: the reference ===== -/
theorem sp_un202 {u : Nat} {t_wasSet : Nat → Int32} {t_wasHighest t_wasUnits : Nat → Int64} {t_wasKinds t_wasSideKind t_wasSide : Nat → Int32} {Q : Int32 → (Nat → Int32) → (Nat → Int64) → (Nat → Int64) → (Nat → Int32) → (Nat → Int32) → (Nat → Int32) → Int32 → Int32 → (Nat → Int32) → Int32 → Prop} {t_set : Nat → Int32} {t_highest t_units : Nat → Int64} {t_kinds t_sideKind t_side : Nat → Int32} {t_active t_rests t_undone : Int32} {t_writes : Nat → Int32} (hu7 : u ≤ 7) (hb_t_wasKinds : BY t_wasKinds) (hb_t_wasSideKind : BY t_wasSideKind) (h : Q t_undone t_set t_highest t_units (va_cpy t_wasKinds t_kinds (1088 * u) 0 1088) (va_cpy t_wasSideKind t_sideKind (1088 * u) 0 1088) t_side t_active t_rests t_writes t_undone) : ∃ j, lp_X8_undo_202 t_wasSet t_wasHighest t_wasUnits t_wasKinds t_wasSideKind t_wasSide Q (nI u) t_set t_highest t_units t_side t_active t_rests t_writes t_undone j 0 t_kinds t_sideKind := by
  refine lp3 (fun n a b c => lp_X8_undo_202 t_wasSet t_wasHighest t_wasUnits t_wasKinds t_wasSideKind t_wasSide Q (nI u) t_set t_highest t_units t_side t_active t_rests t_writes t_undone n a b c) (fun a b c => ∃ i, i ≤ 1088 ∧ a = nI i ∧ b = va_cpy t_wasKinds t_kinds (1088 * u) 0 i ∧ c = va_cpy t_wasSideKind t_sideKind (1088 * u) 0 i) (fun a _ _ => 1088 - a.toInt.toNat) ?_ _ _ _ ⟨0, by omega, rfl, (cp0 _ _ _ _).symm, (cp0 _ _ _ _).symm⟩
  intro n a b c hI hs
  obtain ⟨i, hi, ea, eb, ec⟩ := hI
  subst ea eb ec
  show bod_X8_undo_202 t_wasSet t_wasHighest t_wasUnits t_wasKinds t_wasSideKind t_wasSide Q (nI u) t_set t_highest t_units t_side t_active t_rests t_writes t_undone (fun v0 v1 v2 => lp_X8_undo_202 t_wasSet t_wasHighest t_wasUnits t_wasKinds t_wasSideKind t_wasSide Q (nI u) t_set t_highest t_units t_side t_active t_rests t_writes t_undone n v0 v1 v2) _ _ _
  unfold bod_X8_undo_202
  refine q_if (nI_leI (a := 1088) (by decide) (by omega)) (fun q => ?_) (fun q => ?_)
  · have : i = 1088 := by omega
    subst this
    exact h
  · rw [show (1088 : Int32) * nI u + nI i = nI (1088 * u + i) from ix_at 1088 u i]
    refine q_in (by omega) (by decide) (q_in (by omega) (by decide) ?_)
    intro x0 hx0
    refine q_in (by omega) (by decide) (q_in (by omega) (by decide) ?_)
    intro x1 hx1
    intro z hz
    rw [hz, nI_1]
    rw [nI_clamp (by omega), nI_clamp (by omega)] at hx0
    rw [vp_nar_byte, hb_t_wasKinds] at hx0
    have c0 := cpS t_wasKinds t_kinds (1088 * u) 0 i
    rw [Nat.zero_add] at c0
    rw [c0] at hx0
    rw [nI_clamp (by omega), nI_clamp (by omega)] at hx1
    rw [vp_nar_byte, hb_t_wasSideKind] at hx1
    have c1 := cpS t_wasSideKind t_sideKind (1088 * u) 0 i
    rw [Nat.zero_add] at c1
    rw [c1] at hx1
    refine hs _ _ _ ⟨i + 1, by omega, rfl, hx0, hx1⟩ ?_
    rw [nI_toInt (by omega), nI_toInt (by omega)]
    omega
theorem sp_un151 {u : Nat} {t_wasSet : Nat → Int32} {t_wasHighest t_wasUnits : Nat → Int64} {t_wasKinds t_wasSideKind t_wasSide : Nat → Int32} {Q : Int32 → (Nat → Int32) → (Nat → Int64) → (Nat → Int64) → (Nat → Int32) → (Nat → Int32) → (Nat → Int32) → Int32 → Int32 → (Nat → Int32) → Int32 → Prop} {t_set : Nat → Int32} {t_highest t_units : Nat → Int64} {t_kinds t_sideKind t_side : Nat → Int32} {t_active t_rests t_undone : Int32} {t_writes : Nat → Int32} (hu7 : u ≤ 7) (hb_t_wasSide : BY t_wasSide) (h : ∀ x : Int32, x = (0 : Int32) → ∃ j, lp_X8_undo_202 t_wasSet t_wasHighest t_wasUnits t_wasKinds t_wasSideKind t_wasSide Q (nI u) t_set t_highest (va_cpy t_wasUnits t_units (17408 * u) 0 17408) (va_cpy t_wasSide t_side (17408 * u) 0 17408) t_active t_rests t_writes t_undone j x t_kinds t_sideKind) : ∃ j, lp_X8_undo_151 t_wasSet t_wasHighest t_wasUnits t_wasKinds t_wasSideKind t_wasSide Q (nI u) t_set t_highest t_kinds t_sideKind t_active t_rests t_writes t_undone j 0 t_units t_side := by
  refine lp3 (fun n a b c => lp_X8_undo_151 t_wasSet t_wasHighest t_wasUnits t_wasKinds t_wasSideKind t_wasSide Q (nI u) t_set t_highest t_kinds t_sideKind t_active t_rests t_writes t_undone n a b c) (fun a b c => ∃ i, i ≤ 17408 ∧ a = nI i ∧ b = va_cpy t_wasUnits t_units (17408 * u) 0 i ∧ c = va_cpy t_wasSide t_side (17408 * u) 0 i) (fun a _ _ => 17408 - a.toInt.toNat) ?_ _ _ _ ⟨0, by omega, rfl, (cp0 _ _ _ _).symm, (cp0 _ _ _ _).symm⟩
  intro n a b c hI hs
  obtain ⟨i, hi, ea, eb, ec⟩ := hI
  subst ea eb ec
  show bod_X8_undo_151 t_wasSet t_wasHighest t_wasUnits t_wasKinds t_wasSideKind t_wasSide Q (nI u) t_set t_highest t_kinds t_sideKind t_active t_rests t_writes t_undone (fun v0 v1 v2 => lp_X8_undo_151 t_wasSet t_wasHighest t_wasUnits t_wasKinds t_wasSideKind t_wasSide Q (nI u) t_set t_highest t_kinds t_sideKind t_active t_rests t_writes t_undone n v0 v1 v2) _ _ _
  unfold bod_X8_undo_151
  refine q_if (nI_leI (a := 17408) (by decide) (by omega)) (fun q => ?_) (fun q => ?_)
  · have : i = 17408 := by omega
    subst this
    exact h
  · rw [show (17408 : Int32) * nI u + nI i = nI (17408 * u + i) from ix_at 17408 u i]
    refine q_in (by omega) (by decide) (q_in (by omega) (by decide) ?_)
    intro x0 hx0
    refine q_in (by omega) (by decide) (q_in (by omega) (by decide) ?_)
    intro x1 hx1
    intro z hz
    rw [hz, nI_1]
    rw [nI_clamp (by omega), nI_clamp (by omega)] at hx0
    have c0 := cpL t_wasUnits t_units (17408 * u) 0 i
    rw [Nat.zero_add] at c0
    rw [c0] at hx0
    rw [nI_clamp (by omega), nI_clamp (by omega)] at hx1
    rw [vp_nar_byte, hb_t_wasSide] at hx1
    have c1 := cpS t_wasSide t_side (17408 * u) 0 i
    rw [Nat.zero_add] at c1
    rw [c1] at hx1
    refine hs _ _ _ ⟨i + 1, by omega, rfl, hx0, hx1⟩ ?_
    rw [nI_toInt (by omega), nI_toInt (by omega)]
    omega
theorem sp_un122 {u : Nat} {t_wasSet : Nat → Int32} {t_wasHighest t_wasUnits : Nat → Int64} {t_wasKinds t_wasSideKind t_wasSide : Nat → Int32} {Q : Int32 → (Nat → Int32) → (Nat → Int64) → (Nat → Int64) → (Nat → Int32) → (Nat → Int32) → (Nat → Int32) → Int32 → Int32 → (Nat → Int32) → Int32 → Prop} {t_set : Nat → Int32} {t_highest t_units : Nat → Int64} {t_kinds t_sideKind t_side : Nat → Int32} {t_active t_rests t_undone : Int32} {t_writes : Nat → Int32} (hu7 : u ≤ 7) (h : ∀ x : Int32, x = (0 : Int32) → ∃ j, lp_X8_undo_151 t_wasSet t_wasHighest t_wasUnits t_wasKinds t_wasSideKind t_wasSide Q (nI u) t_set (va_cpy t_wasHighest t_highest (4 * u) 0 4) t_kinds t_sideKind t_active t_rests t_writes t_undone j x t_units t_side) : ∃ j, lp_X8_undo_122 t_wasSet t_wasHighest t_wasUnits t_wasKinds t_wasSideKind t_wasSide Q (nI u) t_set t_units t_kinds t_sideKind t_side t_active t_rests t_writes t_undone j 0 t_highest := by
  refine lp2 (fun n a b => lp_X8_undo_122 t_wasSet t_wasHighest t_wasUnits t_wasKinds t_wasSideKind t_wasSide Q (nI u) t_set t_units t_kinds t_sideKind t_side t_active t_rests t_writes t_undone n a b) (fun a b => ∃ i, i ≤ 4 ∧ a = nI i ∧ b = va_cpy t_wasHighest t_highest (4 * u) 0 i) (fun a _ => 4 - a.toInt.toNat) ?_ _ _ ⟨0, by omega, rfl, (cp0 _ _ _ _).symm⟩
  intro n a b hI hs
  obtain ⟨i, hi, ea, eb⟩ := hI
  subst ea eb
  show bod_X8_undo_122 t_wasSet t_wasHighest t_wasUnits t_wasKinds t_wasSideKind t_wasSide Q (nI u) t_set t_units t_kinds t_sideKind t_side t_active t_rests t_writes t_undone (fun v0 v1 => lp_X8_undo_122 t_wasSet t_wasHighest t_wasUnits t_wasKinds t_wasSideKind t_wasSide Q (nI u) t_set t_units t_kinds t_sideKind t_side t_active t_rests t_writes t_undone n v0 v1) _ _
  unfold bod_X8_undo_122
  refine q_if (nI_leI (a := 4) (by decide) (by omega)) (fun q => ?_) (fun q => ?_)
  · have : i = 4 := by omega
    subst this
    exact h
  · rw [show (4 : Int32) * nI u + nI i = nI (4 * u + i) from ix_at 4 u i]
    refine q_in (by omega) (by decide) (q_in (by omega) (by decide) ?_)
    intro x0 hx0
    intro z hz
    rw [hz, nI_1]
    rw [nI_clamp (by omega), nI_clamp (by omega)] at hx0
    have c0 := cpL t_wasHighest t_highest (4 * u) 0 i
    rw [Nat.zero_add] at c0
    rw [c0] at hx0
    refine hs _ _ ⟨i + 1, by omega, rfl, hx0⟩ ?_
    rw [nI_toInt (by omega), nI_toInt (by omega)]
    omega
theorem sp_un89 {u : Nat} {t_wasSet : Nat → Int32} {t_wasHighest t_wasUnits : Nat → Int64} {t_wasKinds t_wasSideKind t_wasSide : Nat → Int32} {Q : Int32 → (Nat → Int32) → (Nat → Int64) → (Nat → Int64) → (Nat → Int32) → (Nat → Int32) → (Nat → Int32) → Int32 → Int32 → (Nat → Int32) → Int32 → Prop} {t_set : Nat → Int32} {t_highest t_units : Nat → Int64} {t_kinds t_sideKind t_side : Nat → Int32} {t_active t_rests t_undone : Int32} {t_writes : Nat → Int32} (hu7 : u ≤ 7) (h : ∀ x : Int32, x = (0 : Int32) → ∃ j, lp_X8_undo_122 t_wasSet t_wasHighest t_wasUnits t_wasKinds t_wasSideKind t_wasSide Q (nI u) t_set t_units t_kinds t_sideKind t_side t_active t_rests (va_cpy t_wasSet t_writes (22 * u + 18) 0 4) t_undone j x t_highest) : ∃ j, lp_X8_undo_89 t_wasSet t_wasHighest t_wasUnits t_wasKinds t_wasSideKind t_wasSide Q (nI u) t_set t_highest t_units t_kinds t_sideKind t_side t_active t_rests t_undone j 0 t_writes := by
  refine lp2 (fun n a b => lp_X8_undo_89 t_wasSet t_wasHighest t_wasUnits t_wasKinds t_wasSideKind t_wasSide Q (nI u) t_set t_highest t_units t_kinds t_sideKind t_side t_active t_rests t_undone n a b) (fun a b => ∃ i, i ≤ 4 ∧ a = nI i ∧ b = va_cpy t_wasSet t_writes (22 * u + 18) 0 i) (fun a _ => 4 - a.toInt.toNat) ?_ _ _ ⟨0, by omega, rfl, (cp0 _ _ _ _).symm⟩
  intro n a b hI hs
  obtain ⟨i, hi, ea, eb⟩ := hI
  subst ea eb
  show bod_X8_undo_89 t_wasSet t_wasHighest t_wasUnits t_wasKinds t_wasSideKind t_wasSide Q (nI u) t_set t_highest t_units t_kinds t_sideKind t_side t_active t_rests t_undone (fun v0 v1 => lp_X8_undo_89 t_wasSet t_wasHighest t_wasUnits t_wasKinds t_wasSideKind t_wasSide Q (nI u) t_set t_highest t_units t_kinds t_sideKind t_side t_active t_rests t_undone n v0 v1) _ _
  unfold bod_X8_undo_89
  refine q_if (nI_leI (a := 4) (by decide) (by omega)) (fun q => ?_) (fun q => ?_)
  · have : i = 4 := by omega
    subst this
    exact h
  · rw [show ((22 : Int32) * nI u + (18 : Int32)) + nI i = nI (22 * u + 18 + i) by rw [show (22 : Int32) * nI u + (18 : Int32) = nI (22 * u + 18) from ix_at 22 u 18, nI_add]]
    refine q_in (by omega) (by decide) (q_in (by omega) (by decide) ?_)
    intro x0 hx0
    intro z hz
    rw [hz, nI_1]
    rw [nI_clamp (by omega), nI_clamp (by omega)] at hx0
    have c0 := cpS t_wasSet t_writes (22 * u + 18) 0 i
    rw [Nat.zero_add] at c0
    rw [c0] at hx0
    refine hs _ _ ⟨i + 1, by omega, rfl, hx0⟩ ?_
    rw [nI_toInt (by omega), nI_toInt (by omega)]
    omega
theorem sp_un26 {u : Nat} {t_wasSet : Nat → Int32} {t_wasHighest t_wasUnits : Nat → Int64} {t_wasKinds t_wasSideKind t_wasSide : Nat → Int32} {Q : Int32 → (Nat → Int32) → (Nat → Int64) → (Nat → Int64) → (Nat → Int32) → (Nat → Int32) → (Nat → Int32) → Int32 → Int32 → (Nat → Int32) → Int32 → Prop} {t_set : Nat → Int32} {t_highest t_units : Nat → Int64} {t_kinds t_sideKind t_side : Nat → Int32} {t_active t_rests t_undone : Int32} {t_writes : Nat → Int32} (hu7 : u ≤ 7) (h : ∀ x : Int32, x = (0 : Int32) → ∃ j, lp_X8_undo_89 t_wasSet t_wasHighest t_wasUnits t_wasKinds t_wasSideKind t_wasSide Q (nI u) (va_cpy t_wasSet t_set (22 * u) 0 16) t_highest t_units t_kinds t_sideKind t_side (t_wasSet (22 * u + 16)) (t_wasSet (22 * u + 17)) t_undone j x t_writes) : ∃ j, lp_X8_undo_26 t_wasSet t_wasHighest t_wasUnits t_wasKinds t_wasSideKind t_wasSide Q (nI u) t_highest t_units t_kinds t_sideKind t_side t_active t_rests t_writes t_undone j 0 t_set := by
  refine lp2 (fun n a b => lp_X8_undo_26 t_wasSet t_wasHighest t_wasUnits t_wasKinds t_wasSideKind t_wasSide Q (nI u) t_highest t_units t_kinds t_sideKind t_side t_active t_rests t_writes t_undone n a b) (fun a b => ∃ i, i ≤ 16 ∧ a = nI i ∧ b = va_cpy t_wasSet t_set (22 * u) 0 i) (fun a _ => 16 - a.toInt.toNat) ?_ _ _ ⟨0, by omega, rfl, (cp0 _ _ _ _).symm⟩
  intro n a b hI hs
  obtain ⟨i, hi, ea, eb⟩ := hI
  subst ea eb
  show bod_X8_undo_26 t_wasSet t_wasHighest t_wasUnits t_wasKinds t_wasSideKind t_wasSide Q (nI u) t_highest t_units t_kinds t_sideKind t_side t_active t_rests t_writes t_undone (fun v0 v1 => lp_X8_undo_26 t_wasSet t_wasHighest t_wasUnits t_wasKinds t_wasSideKind t_wasSide Q (nI u) t_highest t_units t_kinds t_sideKind t_side t_active t_rests t_writes t_undone n v0 v1) _ _
  unfold bod_X8_undo_26
  refine q_if (nI_leI (a := 16) (by decide) (by omega)) (fun q => ?_) (fun q => ?_)
  · have : i = 16 := by omega
    subst this
    rw [show (22 : Int32) * nI u + (16 : Int32) = nI (22 * u + 16) from ix_at 22 u 16, show (22 : Int32) * nI u + (17 : Int32) = nI (22 * u + 17) from ix_at 22 u 17]
    refine q_in (by omega) (by decide) ?_
    intro ac hac
    refine q_in (by omega) (by decide) ?_
    intro re hre x2 hx2
    rw [nI_clamp (by omega)] at hac hre
    rw [hac, hre]
    exact h x2 hx2
  · rw [show (22 : Int32) * nI u + nI i = nI (22 * u + i) from ix_at 22 u i]
    refine q_in (by omega) (by decide) (q_in (by omega) (by decide) ?_)
    intro x0 hx0
    intro z hz
    rw [hz, nI_1]
    rw [nI_clamp (by omega), nI_clamp (by omega)] at hx0
    have c0 := cpS t_wasSet t_set (22 * u) 0 i
    rw [Nat.zero_add] at c0
    rw [c0] at hx0
    refine hs _ _ ⟨i + 1, by omega, rfl, hx0⟩ ?_
    rw [nI_toInt (by omega), nI_toInt (by omega)]
    omega
theorem sp_X8_undo {u : Nat} {t_wasSet : Nat → Int32} {t_wasHighest t_wasUnits : Nat → Int64} {t_wasKinds t_wasSideKind t_wasSide : Nat → Int32} {Q : Int32 → (Nat → Int32) → (Nat → Int64) → (Nat → Int64) → (Nat → Int32) → (Nat → Int32) → (Nat → Int32) → Int32 → Int32 → (Nat → Int32) → Int32 → Prop} {t_set : Nat → Int32} {t_highest t_units : Nat → Int64} {t_kinds t_sideKind t_side : Nat → Int32} {t_active t_rests t_undone : Int32} {t_writes : Nat → Int32} (hu7 : u ≤ 7) (hb_t_wasKinds : BY t_wasKinds) (hb_t_wasSideKind : BY t_wasSideKind) (hb_t_wasSide : BY t_wasSide) (h : Q (nI u) (va_cpy t_wasSet t_set (22 * u) 0 16) (va_cpy t_wasHighest t_highest (4 * u) 0 4) (va_cpy t_wasUnits t_units (17408 * u) 0 17408) (va_cpy t_wasKinds t_kinds (1088 * u) 0 1088) (va_cpy t_wasSideKind t_sideKind (1088 * u) 0 1088) (va_cpy t_wasSide t_side (17408 * u) 0 17408) (t_wasSet (22 * u + 16)) (t_wasSet (22 * u + 17)) (va_cpy t_wasSet t_writes (22 * u + 18) 0 4) (nI u)) : wp_X8_undo t_set t_highest t_units t_kinds t_sideKind t_side t_active t_rests t_writes t_wasSet t_wasHighest t_wasUnits t_wasKinds t_wasSideKind t_wasSide (nI (u + 1)) Q := by
  unfold wp_X8_undo
  refine ⟨fun _ => ?_, fun e => absurd ((nI_eq (b := 0) (by omega) (by decide)).mp e) (by omega)⟩
  intro y hy x1 hx1 x2 hx2
  rw [nI_pred] at hy
  rw [hx1, hy, hx2]
  refine sp_un26 hu7 (fun x hx => ?_)
  rw [hx]
  refine sp_un89 hu7 (fun x hx => ?_)
  rw [hx]
  refine sp_un122 hu7 (fun x hx => ?_)
  rw [hx]
  refine sp_un151 hu7 hb_t_wasSide (fun x hx => ?_)
  rw [hx]
  exact sp_un202 hu7 hb_t_wasKinds hb_t_wasSideKind h
theorem cpy_at {α : Type} {f g : Nat → α} {s n j : Nat} (h : j < n) : va_cpy f g s 0 n j = f (s + j) := by
  rw [pk_cpy_in (by omega) (by omega)]
  rfl
theorem VUS {u w W : Nat} {was cur cur' : Nat → Int32} (hc : ∀ j, j < W → cur' j = was (w * u + j)) {v j : Nat} (hv : v ≤ u) (hj : j < W) : vwS u w was cur' v j = vwS (u + 1) w was cur v j := by
  unfold vwS
  rw [if_pos (show v < u + 1 by omega)]
  by_cases q : v < u
  · rw [if_pos q]
  · rw [if_neg q, hc j hj, show v = u by omega]
theorem VUL {u w W : Nat} {was cur cur' : Nat → Int64} (hc : ∀ j, j < W → cur' j = was (w * u + j)) {v j : Nat} (hv : v ≤ u) (hj : j < W) : vwL u w was cur' v j = vwL (u + 1) w was cur v j := by
  unfold vwL
  rw [if_pos (show v < u + 1 by omega)]
  by_cases q : v < u
  · rw [if_pos q]
  · rw [if_neg q, hc j hj, show v = u by omega]
theorem sp_takeLast {x u : Nat} {Q : Option Nat → Int32 → Int32 → Prop} (hx : x < 8) (hu : u < 8) (h : Q (some ((x + 7) % 8)) (nI ((x + 7) % 8)) (nI u)) : wp_X0_takeLast (nI x) (nI (u + 1)) Q := by
  unfold wp_X0_takeLast
  refine ⟨fun _ => ?_, fun e => absurd ((nI_eq (b := 0) (by omega) (by decide)).mp e) (by omega)⟩
  intro a ha b hb
  have e1 : a = nI u := by rw [ha, nI_pred]
  have e2 : b = nI ((x + 7) % 8) := by
    rw [hb, show (8 : Int32) = nI 8 from rfl, nI_add, show (1 : Int32) = nI 1 from rfl, pk_sub (by omega), show x + 8 - 1 = x + 7 by omega]
    exact pk_rem (by omega) (by decide) (by decide)
  rw [e1, e2]
  exact sp_stepAt (by omega) (opt_s h)
theorem Same_un {u v r : Nat} {t_set : Nat → Int32} {t_highest : Nat → Int64} {t_units : Nat → Int64} {t_kinds : Nat → Int32} {t_sideKind : Nat → Int32} {t_side : Nat → Int32} {t_wasSet : Nat → Int32} {t_wasHighest : Nat → Int64} {t_wasUnits : Nat → Int64} {t_wasKinds : Nat → Int32} {t_wasSideKind : Nat → Int32} {t_wasSide : Nat → Int32} (hr : r < 4) (hv : v < u) (h : Same1 (u + 1) t_set t_highest t_units t_kinds t_sideKind t_side t_wasSet t_wasHighest t_wasUnits t_wasKinds t_wasSideKind t_wasSide v r) : Same1 u (va_cpy t_wasSet t_set (22 * u) 0 16) (va_cpy t_wasHighest t_highest (4 * u) 0 4) (va_cpy t_wasUnits t_units (17408 * u) 0 17408) (va_cpy t_wasKinds t_kinds (1088 * u) 0 1088) (va_cpy t_wasSideKind t_sideKind (1088 * u) 0 1088) (va_cpy t_wasSide t_side (17408 * u) 0 17408) t_wasSet t_wasHighest t_wasUnits t_wasKinds t_wasSideKind t_wasSide v r := by
  obtain ⟨h1, h2, h3, h4, h5, h6⟩ := h
  have c1 : ∀ j, j < 16 → va_cpy t_wasSet t_set (22 * u) 0 16 j = t_wasSet (22 * u + j) := fun j hj => cpy_at hj
  have c2 : ∀ j, j < 4 → va_cpy t_wasHighest t_highest (4 * u) 0 4 j = t_wasHighest (4 * u + j) := fun j hj => cpy_at hj
  have c3 : ∀ j, j < 17408 → va_cpy t_wasUnits t_units (17408 * u) 0 17408 j = t_wasUnits (17408 * u + j) := fun j hj => cpy_at hj
  have c4 : ∀ j, j < 1088 → va_cpy t_wasKinds t_kinds (1088 * u) 0 1088 j = t_wasKinds (1088 * u + j) := fun j hj => cpy_at hj
  have c5 : ∀ j, j < 1088 → va_cpy t_wasSideKind t_sideKind (1088 * u) 0 1088 j = t_wasSideKind (1088 * u + j) := fun j hj => cpy_at hj
  have c6 : ∀ j, j < 17408 → va_cpy t_wasSide t_side (17408 * u) 0 17408 j = t_wasSide (17408 * u + j) := fun j hj => cpy_at hj
  refine ⟨fun c hc => ?_, ?_, fun j hj => ?_, fun p hp => ?_, fun p hp => ?_, fun j hj => ?_⟩
  · rw [VUS (cur := t_set) c1 (by omega) (by omega), VUS (cur := t_set) c1 (by omega) (by omega)]; exact h1 c hc
  · rw [VUL (cur := t_highest) c2 (by omega) (by omega), VUL (cur := t_highest) c2 (by omega) (by omega)]; exact h2
  · rw [VUL (cur := t_units) c3 (by omega) (by omega), VUL (cur := t_units) c3 (by omega) (by omega)]; exact h3 j hj
  · rw [VUS (cur := t_kinds) c4 (by omega) (by omega), VUS (cur := t_kinds) c4 (by omega) (by omega)]; exact h4 p hp
  · rw [VUS (cur := t_sideKind) c5 (by omega) (by omega), VUS (cur := t_sideKind) c5 (by omega) (by omega)]; exact h5 p hp
  · rw [VUS (cur := t_side) c6 (by omega) (by omega), VUS (cur := t_side) c6 (by omega) (by omega)]; exact h6 j hj
theorem stp_undo : Stp_undo Inv := by
  unfold Stp_undo
  intro  active rests writers tbytes tlen dbytes dlen next known rec m_made m_sort m_digits m_slots m_pages m_highest m_units m_kinds m_rows m_marks q_active q_rests q_writers l_made l_sort l_digits l_slots l_pages l_highest l_units l_kinds l_rows l_marks t_tape t_taped t_set t_highest t_units t_kinds t_sideKind t_side t_active t_rests t_writes t_more t_packed t_packedMany t_at t_wrong t_number t_readSort t_readDigits t_readHighest t_wasSet t_wasHighest t_wasUnits t_wasKinds t_wasSideKind t_wasSide t_undone hI
  obtain ⟨hT, ⟨ea, er, ew⟩, hO, hL, ⟨⟨n, x, hn, hx, ek, ex, eu, hl⟩, hb1, hb2, hb3, hb4, hb5, hb6⟩⟩ := id hI
  subst ea er ek ex eu
  unfold wp_X7_undo
  by_cases n0 : n = 0
  · subst n0
    unfold wp_X0_takeLast
    refine ⟨fun ne => absurd rfl ne, fun _ => opt_n ?_⟩
    unfold wp_X8_undo
    exact ⟨fun ne => absurd rfl ne, fun _ => ⟨rfl, hI⟩⟩
  obtain ⟨u, rfl⟩ : ∃ u, n = u + 1 := ⟨n - 1, by omega⟩
  refine sp_takeLast hx (by omega) (opt_s ?_)
  have hLu := hl u (by omega)
  rw [show (x + 8 - (u + 1) + u) % 8 = (x + 7) % 8 by omega] at hLu
  have hix : (x + 7) % 8 < 8 := by omega
  generalize hi : (x + 7) % 8 = i at *
  obtain ⟨k1, k2, k3, k4, k5, k6⟩ := hLu
  have c1 : ∀ j, j < 16 → va_cpy t_wasSet t_set (22 * u) 0 16 j = t_wasSet (22 * u + j) := fun j hj => cpy_at hj
  have c2 : ∀ j, j < 4 → va_cpy t_wasHighest t_highest (4 * u) 0 4 j = t_wasHighest (4 * u + j) := fun j hj => cpy_at hj
  have c3 : ∀ j, j < 17408 → va_cpy t_wasUnits t_units (17408 * u) 0 17408 j = t_wasUnits (17408 * u + j) := fun j hj => cpy_at hj
  have c4 : ∀ j, j < 1088 → va_cpy t_wasKinds t_kinds (1088 * u) 0 1088 j = t_wasKinds (1088 * u + j) := fun j hj => cpy_at hj
  have c5 : ∀ j, j < 1088 → va_cpy t_wasSideKind t_sideKind (1088 * u) 0 1088 j = t_wasSideKind (1088 * u + j) := fun j hj => cpy_at hj
  have c6 : ∀ j, j < 17408 → va_cpy t_wasSide t_side (17408 * u) 0 17408 j = t_wasSide (17408 * u + j) := fun j hj => cpy_at hj
  have oth : ∀ q, q < 4 → rec i ≠ nI q → LRs l_made l_sort l_digits l_slots l_pages l_highest l_units l_kinds l_rows l_marks (va_cpy t_wasSet t_set (22 * u) 0 16) (va_cpy t_wasHighest t_highest (4 * u) 0 4) (va_cpy t_wasUnits t_units (17408 * u) 0 17408) (va_cpy t_wasKinds t_kinds (1088 * u) 0 1088) (va_cpy t_wasSideKind t_sideKind (1088 * u) 0 1088) (va_cpy t_wasSide t_side (17408 * u) 0 17408) q := by
    intro q hq hne
    obtain ⟨f1, f2, f3, f4, f5, f6⟩ := k6 q hq hne
    unfold vwS at f1 f4 f5 f6
    unfold vwL at f2 f3
    simp only [Nat.lt_succ_self, Nat.lt_irrefl, if_true, if_false] at f1 f2 f3 f4 f5 f6
    exact LR_eq (hL q hq) (fun P _ _ => ⟨fun _ _ => rfl, fun _ _ => rfl, fun _ _ => rfl, fun _ _ => rfl⟩) (fun c hc => (c1 _ (by omega)).trans (f1 c hc)) ((c2 q (by omega)).trans f2) (fun j hj => (c3 _ (by omega)).trans (f3 j hj)) (fun p hp => (c4 _ (by omega)).trans (f4 p hp)) (fun p hp => (c5 _ (by omega)).trans (f5 p hp)) (fun j hj => (c6 _ (by omega)).trans (f6 j hj))
  have fin : ∀ (W : Nat → Int32) (n_made : Nat → Int32) (n_sort : Nat → Int32) (n_digits : Nat → Int32) (n_slots : Nat → Int32) (n_pages : Nat → Int32) (n_highest : Nat → Int64) (n_units : Nat → Nat → Int64) (n_kinds : Nat → Nat → Int32) (n_rows : Nat → Nat → Int32) (n_marks : Nat → Nat → Int32), (∀ k, k < 4 → W k = q_writers i k) → (∀ q, q < 4 → LRs n_made n_sort n_digits n_slots n_pages n_highest n_units n_kinds n_rows n_marks (va_cpy t_wasSet t_set (22 * u) 0 16) (va_cpy t_wasHighest t_highest (4 * u) 0 4) (va_cpy t_wasUnits t_units (17408 * u) 0 17408) (va_cpy t_wasKinds t_kinds (1088 * u) 0 1088) (va_cpy t_wasSideKind t_sideKind (1088 * u) 0 1088) (va_cpy t_wasSide t_side (17408 * u) 0 17408) q) → wp_X8_undo t_set t_highest t_units t_kinds t_sideKind t_side active rests t_writes t_wasSet t_wasHighest t_wasUnits t_wasKinds t_wasSideKind t_wasSide (nI (u + 1)) (fun (r2 : Int32) (t_set' : Nat → Int32) (t_highest' : Nat → Int64) (t_units' : Nat → Int64) (t_kinds' : Nat → Int32) (t_sideKind' : Nat → Int32) (t_side' : Nat → Int32) (t_active' : Int32) (t_rests' : Int32) (t_writes' : Nat → Int32) (t_undone' : Int32) => nI u = r2 ∧ Inv (q_active i) (q_rests i) W tbytes tlen dbytes dlen (nI i) (nI u) rec m_made m_sort m_digits m_slots m_pages m_highest m_units m_kinds m_rows m_marks q_active q_rests q_writers n_made n_sort n_digits n_slots n_pages n_highest n_units n_kinds n_rows n_marks t_tape t_taped t_set' t_highest' t_units' t_kinds' t_sideKind' t_side' t_active' t_rests' t_writes' t_more t_packed t_packedMany t_at t_wrong t_number t_readSort t_readDigits t_readHighest t_wasSet t_wasHighest t_wasUnits t_wasKinds t_wasSideKind t_wasSide t_undone') := by
    intro W n_made n_sort n_digits n_slots n_pages n_highest n_units n_kinds n_rows n_marks hW hLn
    refine sp_X8_undo (t_undone := 0) (by omega) hb4 hb5 hb6 ?_
    refine ⟨rfl, hT, ⟨k1, k2, fun k hk => ?_⟩, PairOK_eq k4 rfl rfl (fun k hk => cpy_at hk) (fun j hj e => (c1 _ (by omega)).trans e), hLn, ⟨u, i, by omega, hix, rfl, rfl, rfl, fun v hv => ?_⟩, BY_cpy hb4 hb1, BY_cpy hb5 hb2, BY_cpy hb6 hb3, hb4, hb5, hb6⟩
    · rw [hW k hk, cpy_at hk]; exact k3 k hk
    · have hv2 := hl v (by omega)
      rw [show (x + 8 - (u + 1) + v) % 8 = (i + 8 - u + v) % 8 by omega] at hv2
      obtain ⟨g1, g2, g3, g4, g5, g6⟩ := hv2
      exact ⟨g1, g2, g3, g4, g5, fun r hr hne => Same_un hr hv (g6 r hr hne)⟩
  rcases k5 with e | ⟨r, hr, e, hLs⟩
  · rw [e]
    refine sp_ledgerAt_out neg1_ne (opt_n ?_)
    unfold blk_X7_undo_35
    refine sp_X2_become (fun W hW => ?_)
    exact fin W _ _ _ _ _ _ _ _ _ _ hW (fun q hq => oth q hq (fun e2 => neg1_ne q hq (e.symm.trans e2)))
  · have hne : ∀ q, q < 4 → q ≠ r → rec i ≠ nI q := fun q hq h e2 => h ((nI_eq (by omega) (by omega)).mp (e2.symm.trans e))
    rw [e]
    refine sp_ledgerAt_in hr (opt_s ?_)
    have hm : m_made i = 0 ∨ m_made i = 1 := by
      rcases hLs with ⟨a, _⟩ | ⟨so, d, h, u', k, rr, m, hA, hC, hM⟩
      · exact Or.inl a
      · exact Or.inr hC.1
    refine sp_X1_become hm (fun U K R M hc => ?_)
    unfold blk_X7_undo_35
    refine sp_X2_become (fun W hW => ?_)
    refine fin W _ _ _ _ _ _ _ _ _ _ hW (fun q hq => ?_)
    by_cases eq : q = r
    · subst eq
      unfold LRs
      rw [va_up_self, va_up_self, va_up_self, va_up_self, va_up_self, va_up_self, va_up_self, va_up_self, va_up_self, va_up_self]
      exact LR_eq hLs hc (fun c hc => c1 _ (by omega)) (c2 q (by omega)) (fun j hj => c3 _ (by omega)) (fun p hp => c4 _ (by omega)) (fun p hp => c5 _ (by omega)) (fun j hj => c6 _ (by omega))
    · have h9 := oth q hq (hne q hq eq)
      unfold LRs at h9 ⊢
      rw [va_up_ne _ _ eq, va_up_ne _ _ eq, va_up_ne _ _ eq, va_up_ne _ _ eq, va_up_ne _ _ eq, va_up_ne _ _ eq, va_up_ne _ _ eq, va_up_ne _ _ eq, va_up_ne _ _ eq, va_up_ne _ _ eq]
      exact h9
