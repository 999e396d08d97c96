/-! ===== what the reference keeps of an act: the copy ===== -/
def mvs {α : Type} (w c : Nat) (f : Nat → α) : Nat → α := fun j => if j < w * (c - 1) then f (j + w) else f j
theorem mvs_1 {α : Type} (w : Nat) (f : Nat → α) : mvs w 1 f = f := by
  funext j
  unfold mvs
  rw [if_neg (by simp)]
theorem mvs_s {α : Type} (w : Nat) (c : Nat) (hc : 1 ≤ c) (f : Nat → α) : mv1 w c (mvs w c f) = mvs w (c + 1) f := by
  funext j
  obtain ⟨c, rfl⟩ : ∃ e, c = e + 1 := ⟨c - 1, by omega⟩
  have e1 : w * (c + 1) = w * c + w := Nat.mul_succ w c
  unfold mv1
  rw [show w * (c + 1) - w = w * c by omega]
  by_cases h : w * c ≤ j ∧ j < w * c + w
  · rw [pk_cpy_in h.1 h.2]
    unfold mvs
    rw [if_neg (by simp; omega), if_pos (by simp; omega)]
    congr 1; omega
  · rw [pk_cpy_out (by omega)]
    unfold mvs
    by_cases q : j < w * c
    · rw [if_pos (by simpa using q), if_pos (by simp; omega)]
    · rw [if_neg (by simpa using q), if_neg (by simp; omega)]
theorem BY_mvs {w c : Nat} {f : Nat → Int32} (h : BY f) : BY (mvs w c f) := by
  intro j
  unfold mvs
  split
  · exact h _
  · exact h _
theorem sp_kp221 {u : Nat} {t_set : Nat → Int32} {t_highest t_units : Nat → Int64} {t_kinds t_sideKind t_side : Nat → Int32} {t_active t_rests : Int32} {t_writes : Nat → Int32} {t_wasSet : Nat → Int32} {t_wasHighest t_wasUnits : Nat → Int64} {t_wasKinds t_wasSideKind t_wasSide : Nat → Int32} {Q : (Nat → Int32) → (Nat → Int64) → (Nat → Int64) → (Nat → Int32) → (Nat → Int32) → (Nat → Int32) → Int32 → Prop} (hu7 : u ≤ 7) (hb1 : BY t_kinds) (hb2 : BY t_sideKind) (h : ∀ y : Int32, y = nI u + (1 : Int32) → Q t_wasSet t_wasHighest t_wasUnits (va_cpy t_kinds t_wasKinds 0 (1088 * u) 1088) (va_cpy t_sideKind t_wasSideKind 0 (1088 * u) 1088) t_wasSide y) : ∃ j, lp_X8_keepsAct_221 t_set t_highest t_units t_kinds t_sideKind t_side t_active t_rests t_writes Q (nI u) t_wasSet t_wasHighest t_wasUnits t_wasSide (nI u) j 0 t_wasKinds t_wasSideKind := by
  refine lp3 (fun n a b c => lp_X8_keepsAct_221 t_set t_highest t_units t_kinds t_sideKind t_side t_active t_rests t_writes Q (nI u) t_wasSet t_wasHighest t_wasUnits t_wasSide (nI u) n a b c) (fun a b c => ∃ i, i ≤ 1088 ∧ a = nI i ∧ b = va_cpy t_kinds t_wasKinds 0 (1088 * u) i ∧ c = va_cpy t_sideKind t_wasSideKind 0 (1088 * u) i) (fun a _ _ => 1088 - a.toInt.toNat) ?_ _ _ _ ⟨0, by omega, rfl, (cp0 _ _ _ _).symm, (cp0 _ _ _ _).symm⟩
  intro n a b c hI hs
  obtain ⟨i, hi, ea, eb, ec⟩ := hI
  subst ea eb ec
  show bod_X8_keepsAct_221 t_set t_highest t_units t_kinds t_sideKind t_side t_active t_rests t_writes Q (nI u) t_wasSet t_wasHighest t_wasUnits t_wasSide (nI u) (fun v0 v1 v2 => lp_X8_keepsAct_221 t_set t_highest t_units t_kinds t_sideKind t_side t_active t_rests t_writes Q (nI u) t_wasSet t_wasHighest t_wasUnits t_wasSide (nI u) n v0 v1 v2) _ _ _
  unfold bod_X8_keepsAct_221
  refine q_if (nI_leI (a := 1088) (by decide) (by omega)) (fun q => ?_) (fun q => ?_)
  · have : i = 1088 := by omega
    subst this
    exact h
  · rw [show (1088 : Int32) * nI u + nI i = nI (1088 * u + i) from ix_at 1088 u i]
    refine q_in (by omega) (by decide) (q_in (by omega) (by decide) ?_)
    intro x0 hx0
    refine q_in (by omega) (by decide) (q_in (by omega) (by decide) ?_)
    intro x1 hx1
    intro z hz
    rw [hz, nI_1]
    rw [nI_clamp (by omega), nI_clamp (by omega)] at hx0
    rw [vp_nar_byte, hb1] at hx0
    have c0 := cpS t_kinds t_wasKinds 0 (1088 * u) i
    rw [Nat.zero_add] at c0
    rw [c0] at hx0
    rw [nI_clamp (by omega), nI_clamp (by omega)] at hx1
    rw [vp_nar_byte, hb2] at hx1
    have c1 := cpS t_sideKind t_wasSideKind 0 (1088 * u) i
    rw [Nat.zero_add] at c1
    rw [c1] at hx1
    refine hs _ _ _ ⟨i + 1, by omega, rfl, hx0, hx1⟩ ?_
    rw [nI_toInt (by omega), nI_toInt (by omega)]
    omega
theorem sp_kp170 {u : Nat} {t_set : Nat → Int32} {t_highest t_units : Nat → Int64} {t_kinds t_sideKind t_side : Nat → Int32} {t_active t_rests : Int32} {t_writes : Nat → Int32} {t_wasSet : Nat → Int32} {t_wasHighest t_wasUnits : Nat → Int64} {t_wasKinds t_wasSideKind t_wasSide : Nat → Int32} {Q : (Nat → Int32) → (Nat → Int64) → (Nat → Int64) → (Nat → Int32) → (Nat → Int32) → (Nat → Int32) → Int32 → Prop} (hu7 : u ≤ 7) (hb2 : BY t_side) (h : ∀ x : Int32, x = (0 : Int32) → ∃ j, lp_X8_keepsAct_221 t_set t_highest t_units t_kinds t_sideKind t_side t_active t_rests t_writes Q (nI u) t_wasSet t_wasHighest (va_cpy t_units t_wasUnits 0 (17408 * u) 17408) (va_cpy t_side t_wasSide 0 (17408 * u) 17408) (nI u) j x t_wasKinds t_wasSideKind) : ∃ j, lp_X8_keepsAct_170 t_set t_highest t_units t_kinds t_sideKind t_side t_active t_rests t_writes Q (nI u) t_wasSet t_wasHighest t_wasKinds t_wasSideKind (nI u) j 0 t_wasUnits t_wasSide := by
  refine lp3 (fun n a b c => lp_X8_keepsAct_170 t_set t_highest t_units t_kinds t_sideKind t_side t_active t_rests t_writes Q (nI u) t_wasSet t_wasHighest t_wasKinds t_wasSideKind (nI u) n a b c) (fun a b c => ∃ i, i ≤ 17408 ∧ a = nI i ∧ b = va_cpy t_units t_wasUnits 0 (17408 * u) i ∧ c = va_cpy t_side t_wasSide 0 (17408 * u) i) (fun a _ _ => 17408 - a.toInt.toNat) ?_ _ _ _ ⟨0, by omega, rfl, (cp0 _ _ _ _).symm, (cp0 _ _ _ _).symm⟩
  intro n a b c hI hs
  obtain ⟨i, hi, ea, eb, ec⟩ := hI
  subst ea eb ec
  show bod_X8_keepsAct_170 t_set t_highest t_units t_kinds t_sideKind t_side t_active t_rests t_writes Q (nI u) t_wasSet t_wasHighest t_wasKinds t_wasSideKind (nI u) (fun v0 v1 v2 => lp_X8_keepsAct_170 t_set t_highest t_units t_kinds t_sideKind t_side t_active t_rests t_writes Q (nI u) t_wasSet t_wasHighest t_wasKinds t_wasSideKind (nI u) n v0 v1 v2) _ _ _
  unfold bod_X8_keepsAct_170
  refine q_if (nI_leI (a := 17408) (by decide) (by omega)) (fun q => ?_) (fun q => ?_)
  · have : i = 17408 := by omega
    subst this
    exact h
  · rw [show (17408 : Int32) * nI u + nI i = nI (17408 * u + i) from ix_at 17408 u i]
    refine q_in (by omega) (by decide) (q_in (by omega) (by decide) ?_)
    intro x0 hx0
    refine q_in (by omega) (by decide) (q_in (by omega) (by decide) ?_)
    intro x1 hx1
    intro z hz
    rw [hz, nI_1]
    rw [nI_clamp (by omega), nI_clamp (by omega)] at hx0
    have c0 := cpL t_units t_wasUnits 0 (17408 * u) i
    rw [Nat.zero_add] at c0
    rw [c0] at hx0
    rw [nI_clamp (by omega), nI_clamp (by omega)] at hx1
    rw [vp_nar_byte, hb2] at hx1
    have c1 := cpS t_side t_wasSide 0 (17408 * u) i
    rw [Nat.zero_add] at c1
    rw [c1] at hx1
    refine hs _ _ _ ⟨i + 1, by omega, rfl, hx0, hx1⟩ ?_
    rw [nI_toInt (by omega), nI_toInt (by omega)]
    omega
theorem sp_kp141 {u : Nat} {t_set : Nat → Int32} {t_highest t_units : Nat → Int64} {t_kinds t_sideKind t_side : Nat → Int32} {t_active t_rests : Int32} {t_writes : Nat → Int32} {t_wasSet : Nat → Int32} {t_wasHighest t_wasUnits : Nat → Int64} {t_wasKinds t_wasSideKind t_wasSide : Nat → Int32} {Q : (Nat → Int32) → (Nat → Int64) → (Nat → Int64) → (Nat → Int32) → (Nat → Int32) → (Nat → Int32) → Int32 → Prop} (hu7 : u ≤ 7) (h : ∀ x : Int32, x = (0 : Int32) → ∃ j, lp_X8_keepsAct_170 t_set t_highest t_units t_kinds t_sideKind t_side t_active t_rests t_writes Q (nI u) t_wasSet (va_cpy t_highest t_wasHighest 0 (4 * u) 4) t_wasKinds t_wasSideKind (nI u) j x t_wasUnits t_wasSide) : ∃ j, lp_X8_keepsAct_141 t_set t_highest t_units t_kinds t_sideKind t_side t_active t_rests t_writes Q (nI u) t_wasSet t_wasUnits t_wasKinds t_wasSideKind t_wasSide (nI u) j 0 t_wasHighest := by
  refine lp2 (fun n a b => lp_X8_keepsAct_141 t_set t_highest t_units t_kinds t_sideKind t_side t_active t_rests t_writes Q (nI u) t_wasSet t_wasUnits t_wasKinds t_wasSideKind t_wasSide (nI u) n a b) (fun a b => ∃ i, i ≤ 4 ∧ a = nI i ∧ b = va_cpy t_highest t_wasHighest 0 (4 * u) i) (fun a _ => 4 - a.toInt.toNat) ?_ _ _ ⟨0, by omega, rfl, (cp0 _ _ _ _).symm⟩
  intro n a b hI hs
  obtain ⟨i, hi, ea, eb⟩ := hI
  subst ea eb
  show bod_X8_keepsAct_141 t_set t_highest t_units t_kinds t_sideKind t_side t_active t_rests t_writes Q (nI u) t_wasSet t_wasUnits t_wasKinds t_wasSideKind t_wasSide (nI u) (fun v0 v1 => lp_X8_keepsAct_141 t_set t_highest t_units t_kinds t_sideKind t_side t_active t_rests t_writes Q (nI u) t_wasSet t_wasUnits t_wasKinds t_wasSideKind t_wasSide (nI u) n v0 v1) _ _
  unfold bod_X8_keepsAct_141
  refine q_if (nI_leI (a := 4) (by decide) (by omega)) (fun q => ?_) (fun q => ?_)
  · have : i = 4 := by omega
    subst this
    exact h
  · rw [show (4 : Int32) * nI u + nI i = nI (4 * u + i) from ix_at 4 u i]
    refine q_in (by omega) (by decide) (q_in (by omega) (by decide) ?_)
    intro x0 hx0
    intro z hz
    rw [hz, nI_1]
    rw [nI_clamp (by omega), nI_clamp (by omega)] at hx0
    have c0 := cpL t_highest t_wasHighest 0 (4 * u) i
    rw [Nat.zero_add] at c0
    rw [c0] at hx0
    refine hs _ _ ⟨i + 1, by omega, rfl, hx0⟩ ?_
    rw [nI_toInt (by omega), nI_toInt (by omega)]
    omega
theorem sp_kp108 {u : Nat} {t_set : Nat → Int32} {t_highest t_units : Nat → Int64} {t_kinds t_sideKind t_side : Nat → Int32} {t_active t_rests : Int32} {t_writes : Nat → Int32} {t_wasSet : Nat → Int32} {t_wasHighest t_wasUnits : Nat → Int64} {t_wasKinds t_wasSideKind t_wasSide : Nat → Int32} {Q : (Nat → Int32) → (Nat → Int64) → (Nat → Int64) → (Nat → Int32) → (Nat → Int32) → (Nat → Int32) → Int32 → Prop} (hu7 : u ≤ 7) (h : ∀ x : Int32, x = (0 : Int32) → ∃ j, lp_X8_keepsAct_141 t_set t_highest t_units t_kinds t_sideKind t_side t_active t_rests t_writes Q (nI u) (va_cpy t_writes t_wasSet 0 (22 * u + 18) 4) t_wasUnits t_wasKinds t_wasSideKind t_wasSide (nI u) j x t_wasHighest) : ∃ j, lp_X8_keepsAct_108 t_set t_highest t_units t_kinds t_sideKind t_side t_active t_rests t_writes Q (nI u) t_wasHighest t_wasUnits t_wasKinds t_wasSideKind t_wasSide (nI u) j 0 t_wasSet := by
  refine lp2 (fun n a b => lp_X8_keepsAct_108 t_set t_highest t_units t_kinds t_sideKind t_side t_active t_rests t_writes Q (nI u) t_wasHighest t_wasUnits t_wasKinds t_wasSideKind t_wasSide (nI u) n a b) (fun a b => ∃ i, i ≤ 4 ∧ a = nI i ∧ b = va_cpy t_writes t_wasSet 0 (22 * u + 18) i) (fun a _ => 4 - a.toInt.toNat) ?_ _ _ ⟨0, by omega, rfl, (cp0 _ _ _ _).symm⟩
  intro n a b hI hs
  obtain ⟨i, hi, ea, eb⟩ := hI
  subst ea eb
  show bod_X8_keepsAct_108 t_set t_highest t_units t_kinds t_sideKind t_side t_active t_rests t_writes Q (nI u) t_wasHighest t_wasUnits t_wasKinds t_wasSideKind t_wasSide (nI u) (fun v0 v1 => lp_X8_keepsAct_108 t_set t_highest t_units t_kinds t_sideKind t_side t_active t_rests t_writes Q (nI u) t_wasHighest t_wasUnits t_wasKinds t_wasSideKind t_wasSide (nI u) n v0 v1) _ _
  unfold bod_X8_keepsAct_108
  refine q_if (nI_leI (a := 4) (by decide) (by omega)) (fun q => ?_) (fun q => ?_)
  · have : i = 4 := by omega
    subst this
    exact h
  · rw [show ((22 : Int32) * nI u + (18 : Int32)) + nI i = nI (22 * u + 18 + i) by rw [show (22 : Int32) * nI u = nI (22 * u) from pk_mul 22 u, show (18 : Int32) = nI 18 from rfl, nI_add, nI_add]]
    refine q_in (by omega) (by decide) (q_in (by omega) (by decide) ?_)
    intro x0 hx0
    intro z hz
    rw [hz, nI_1]
    rw [nI_clamp (by omega), nI_clamp (by omega)] at hx0
    have c0 := cpS t_writes t_wasSet 0 (22 * u + 18) i
    rw [Nat.zero_add] at c0
    rw [c0] at hx0
    refine hs _ _ ⟨i + 1, by omega, rfl, hx0⟩ ?_
    rw [nI_toInt (by omega), nI_toInt (by omega)]
    omega
theorem sp_kp45 {u : Nat} {t_set : Nat → Int32} {t_highest t_units : Nat → Int64} {t_kinds t_sideKind t_side : Nat → Int32} {t_active t_rests : Int32} {t_writes : Nat → Int32} {t_wasSet : Nat → Int32} {t_wasHighest t_wasUnits : Nat → Int64} {t_wasKinds t_wasSideKind t_wasSide : Nat → Int32} {Q : (Nat → Int32) → (Nat → Int64) → (Nat → Int64) → (Nat → Int32) → (Nat → Int32) → (Nat → Int32) → Int32 → Prop} (hu7 : u ≤ 7) (h : (vp_in (((22 : Int32) * nI u) + (16 : Int32)) 176) ∧ ∀ y : Nat → Int32, y = upd (va_cpy t_set t_wasSet 0 (22 * u) 16) ((((22 : Int32) * nI u) + (16 : Int32))).toNatClampNeg t_active → (vp_in (((22 : Int32) * nI u) + (17 : Int32)) 176) ∧ ∀ z : Nat → Int32, z = upd y ((((22 : Int32) * nI u) + (17 : Int32))).toNatClampNeg t_rests → ∀ x : Int32, x = (0 : Int32) → ∃ j, lp_X8_keepsAct_108 t_set t_highest t_units t_kinds t_sideKind t_side t_active t_rests t_writes Q (nI u) t_wasHighest t_wasUnits t_wasKinds t_wasSideKind t_wasSide (nI u) j x z) : ∃ j, lp_X8_keepsAct_45 t_set t_highest t_units t_kinds t_sideKind t_side t_active t_rests t_writes Q (nI u) t_wasHighest t_wasUnits t_wasKinds t_wasSideKind t_wasSide (nI u) j 0 t_wasSet := by
  refine lp2 (fun n a b => lp_X8_keepsAct_45 t_set t_highest t_units t_kinds t_sideKind t_side t_active t_rests t_writes Q (nI u) t_wasHighest t_wasUnits t_wasKinds t_wasSideKind t_wasSide (nI u) n a b) (fun a b => ∃ i, i ≤ 16 ∧ a = nI i ∧ b = va_cpy t_set t_wasSet 0 (22 * u) i) (fun a _ => 16 - a.toInt.toNat) ?_ _ _ ⟨0, by omega, rfl, (cp0 _ _ _ _).symm⟩
  intro n a b hI hs
  obtain ⟨i, hi, ea, eb⟩ := hI
  subst ea eb
  show bod_X8_keepsAct_45 t_set t_highest t_units t_kinds t_sideKind t_side t_active t_rests t_writes Q (nI u) t_wasHighest t_wasUnits t_wasKinds t_wasSideKind t_wasSide (nI u) (fun v0 v1 => lp_X8_keepsAct_45 t_set t_highest t_units t_kinds t_sideKind t_side t_active t_rests t_writes Q (nI u) t_wasHighest t_wasUnits t_wasKinds t_wasSideKind t_wasSide (nI u) n v0 v1) _ _
  unfold bod_X8_keepsAct_45
  refine q_if (nI_leI (a := 16) (by decide) (by omega)) (fun q => ?_) (fun q => ?_)
  · have : i = 16 := by omega
    subst this
    exact h
  · rw [show (22 : Int32) * nI u + nI i = nI (22 * u + i) from ix_at 22 u i]
    refine q_in (by omega) (by decide) (q_in (by omega) (by decide) ?_)
    intro x0 hx0
    intro z hz
    rw [hz, nI_1]
    rw [nI_clamp (by omega), nI_clamp (by omega)] at hx0
    have c0 := cpS t_set t_wasSet 0 (22 * u) i
    rw [Nat.zero_add] at c0
    rw [c0] at hx0
    refine hs _ _ ⟨i + 1, by omega, rfl, hx0⟩ ?_
    rw [nI_toInt (by omega), nI_toInt (by omega)]
    omega
def kS (u : Nat) (t_set : Nat → Int32) (t_active t_rests : Int32) (t_writes t_wasSet : Nat → Int32) : Nat → Int32 := va_cpy t_writes (upd (upd (va_cpy t_set t_wasSet 0 (22 * u) 16) (22 * u + 16) t_active) (22 * u + 17) t_rests) 0 (22 * u + 18) 4
theorem sp_kp38 {u : Nat} {t_set : Nat → Int32} {t_highest t_units : Nat → Int64} {t_kinds t_sideKind t_side : Nat → Int32} {t_active t_rests : Int32} {t_writes : Nat → Int32} {t_wasSet : Nat → Int32} {t_wasHighest t_wasUnits : Nat → Int64} {t_wasKinds t_wasSideKind t_wasSide : Nat → Int32} {Q : (Nat → Int32) → (Nat → Int64) → (Nat → Int64) → (Nat → Int32) → (Nat → Int32) → (Nat → Int32) → Int32 → Prop} (hu7 : u ≤ 7) (hb1 : BY t_kinds) (hb2 : BY t_sideKind) (hb3 : BY t_side) (h : Q (kS u t_set t_active t_rests t_writes t_wasSet) (va_cpy t_highest t_wasHighest 0 (4 * u) 4) (va_cpy t_units t_wasUnits 0 (17408 * u) 17408) (va_cpy t_kinds t_wasKinds 0 (1088 * u) 1088) (va_cpy t_sideKind t_wasSideKind 0 (1088 * u) 1088) (va_cpy t_side t_wasSide 0 (17408 * u) 17408) (nI (u + 1))) : blk_X8_keepsAct_38 t_set t_highest t_units t_kinds t_sideKind t_side t_active t_rests t_writes Q t_wasSet t_wasHighest t_wasUnits t_wasKinds t_wasSideKind t_wasSide (nI u) := by
  unfold blk_X8_keepsAct_38
  intro x hx y hy
  rw [hx, hy]
  refine sp_kp45 hu7 ?_
  rw [show (22 : Int32) * nI u + (16 : Int32) = nI (22 * u + 16) from ix_at 22 u 16, show (22 : Int32) * nI u + (17 : Int32) = nI (22 * u + 17) from ix_at 22 u 17]
  refine q_in (by omega) (by decide) ?_
  rw [nI_clamp (by omega), nI_clamp (by omega)]
  intro y1 hy1
  refine q_in (by omega) (by decide) ?_
  intro z1 hz1 x1 hx1
  rw [hx1]
  refine sp_kp108 hu7 ?_
  intro x2 hx2
  rw [hx2]
  refine sp_kp141 hu7 ?_
  intro x3 hx3
  rw [hx3]
  refine sp_kp170 hu7 hb3 ?_
  intro x4 hx4
  rw [hx4]
  refine sp_kp221 hu7 hb1 hb2 ?_
  intro y5 hy5
  rw [hy5, nI_1, hz1, hy1]
  exact h
theorem sp_kp11 {t_set : Nat → Int32} {t_highest t_units : Nat → Int64} {t_kinds t_sideKind t_side : Nat → Int32} {t_active t_rests : Int32} {t_writes : Nat → Int32} {t_wasSet : Nat → Int32} {t_wasHighest t_wasUnits : Nat → Int64} {t_wasKinds t_wasSideKind t_wasSide : Nat → Int32} {Q : (Nat → Int32) → (Nat → Int64) → (Nat → Int64) → (Nat → Int32) → (Nat → Int32) → (Nat → Int32) → Int32 → Prop} (hb1 : BY t_wasKinds) (hb2 : BY t_wasSideKind) (hb3 : BY t_wasSide) (h : blk_X8_keepsAct_38 t_set t_highest t_units t_kinds t_sideKind t_side t_active t_rests t_writes Q (mvs 22 8 t_wasSet) (mvs 4 8 t_wasHighest) (mvs 17408 8 t_wasUnits) (mvs 1088 8 t_wasKinds) (mvs 1088 8 t_wasSideKind) (mvs 17408 8 t_wasSide) (nI 7)) : ∃ j, lp_X8_keepsAct_11 t_set t_highest t_units t_kinds t_sideKind t_side t_active t_rests t_writes Q (nI 8) j (nI 1) t_wasSet t_wasHighest t_wasUnits t_wasKinds t_wasSideKind t_wasSide := by
  refine lp7 (fun n a b c d e f g => lp_X8_keepsAct_11 t_set t_highest t_units t_kinds t_sideKind t_side t_active t_rests t_writes Q (nI 8) n a b c d e f g) (fun a b c d e f g => ∃ i, 1 ≤ i ∧ i ≤ 8 ∧ a = nI i ∧ b = mvs 22 i t_wasSet ∧ c = mvs 4 i t_wasHighest ∧ d = mvs 17408 i t_wasUnits ∧ e = mvs 1088 i t_wasKinds ∧ f = mvs 1088 i t_wasSideKind ∧ g = mvs 17408 i t_wasSide) (fun a _ _ _ _ _ _ => 8 - a.toInt.toNat) ?_ _ _ _ _ _ _ _ ⟨1, by omega, by omega, rfl, (mvs_1 _ _).symm, (mvs_1 _ _).symm, (mvs_1 _ _).symm, (mvs_1 _ _).symm, (mvs_1 _ _).symm, (mvs_1 _ _).symm⟩
  intro n a b c d e f g hI hs
  obtain ⟨i, hi1, hi, ea, eb, ec, ed, ee, ef, eg⟩ := hI
  subst ea eb ec ed ee ef eg
  show bod_X8_keepsAct_11 t_set t_highest t_units t_kinds t_sideKind t_side t_active t_rests t_writes Q (nI 8) (fun v0 v1 v2 v3 v4 v5 v6 => lp_X8_keepsAct_11 t_set t_highest t_units t_kinds t_sideKind t_side t_active t_rests t_writes Q (nI 8) n v0 v1 v2 v3 v4 v5 v6) _ _ _ _ _ _ _
  unfold bod_X8_keepsAct_11
  refine q_if (nI_leI (a := 8) (by decide) (by omega)) (fun q => ?_) (fun q => ?_)
  · have : i = 8 := by omega
    subst this
    intro y hy
    rw [hy, show nI 8 - (1 : Int32) = nI 7 by decide]
    exact h
  · refine sp_moves hi1 (by omega) (BY_mvs hb1) (BY_mvs hb2) (BY_mvs hb3) ?_
    intro y hy
    rw [hy, nI_1, mvs_s _ _ hi1, mvs_s _ _ hi1, mvs_s _ _ hi1, mvs_s _ _ hi1, mvs_s _ _ hi1, mvs_s _ _ hi1]
    refine hs _ _ _ _ _ _ _ ⟨i + 1, by omega, by omega, rfl, rfl, rfl, rfl, rfl, rfl, rfl⟩ ?_
    rw [nI_toInt (by omega), nI_toInt (by omega)]
    omega
/-- what was kept, after an act: n before, the oldest gone if there were 8 -/
def Kept {α : Type} (n w : Nat) (was was' : Nat → α) (W : Nat) (cur : Nat → α) : Prop := (∀ u, u < min n 7 → ∀ j, j < w → was' (w * u + j) = was (w * (u + (n - 7)) + j)) ∧ ∀ j, j < W → was' (w * min n 7 + j) = cur j
theorem mulb {w u n j : Nat} (hu : u < n) (hj : j < w) : w * u + j < w * n := by
  have : w * (u + 1) ≤ w * n := Nat.mul_le_mul_left w hu
  rw [Nat.mul_succ] at this
  omega
theorem Kept_cp {α : Type} {n w : Nat} (hn : n ≤ 8) (was cur : Nat → α) : Kept n w was (va_cpy cur (if n = 8 then mvs w 8 was else was) 0 (w * min n 7) w) w cur := by
  refine ⟨fun u hu j hj => ?_, fun j hj => ?_⟩
  · have hb := mulb hu hj
    rw [pk_cpy_out (Or.inl hb)]
    by_cases h : n = 8
    · subst h
      rw [if_pos rfl]
      unfold mvs
      rw [if_pos (show w * u + j < w * (8 - 1) from hb)]
      show was (w * u + j + w) = was (w * (u + 1) + j)
      rw [Nat.mul_succ]
      congr 1; omega
    · rw [if_neg h, show u + (n - 7) = u by omega]
  · rw [pk_cpy_in (by omega) (by omega)]
    congr 1; omega
theorem Kept_set {n : Nat} (hn : n ≤ 8) (t_set : Nat → Int32) (t_active t_rests : Int32) (t_writes was : Nat → Int32) : Kept n 22 was (kS (min n 7) t_set t_active t_rests t_writes (if n = 8 then mvs 22 8 was else was)) 22 (fun j => if j < 16 then t_set j else if j = 16 then t_active else if j = 17 then t_rests else t_writes (j - 18)) := by
  refine ⟨fun u hu j hj => ?_, fun j hj => ?_⟩
  · have hb := mulb hu hj
    unfold kS
    rw [pk_cpy_out (by omega), pk_un (by omega), pk_un (by omega), pk_cpy_out (by omega)]
    by_cases h : n = 8
    · subst h
      rw [if_pos rfl]
      unfold mvs
      rw [if_pos (by simpa using hb)]
      show was (22 * u + j + 22) = was (22 * (u + 1) + j)
      congr 1; omega
    · rw [if_neg h, show u + (n - 7) = u by omega]
  · unfold kS
    show _ = (if j < 16 then t_set j else if j = 16 then t_active else if j = 17 then t_rests else t_writes (j - 18))
    by_cases h18 : 18 ≤ j
    · rw [pk_cpy_in (by omega) (by omega), if_neg (by omega), if_neg (by omega), if_neg (by omega)]
      congr 1; omega
    · rw [pk_cpy_out (by omega)]
      by_cases h17 : j = 17
      · subst h17; rw [pk_us]; rfl
      · rw [pk_un (by omega)]
        by_cases h16 : j = 16
        · subst h16; rw [pk_us]; rfl
        · rw [pk_un (by omega), pk_cpy_in (by omega) (by omega), if_pos (by omega)]
          congr 1; omega
theorem BY_if {n : Nat} {f g : Nat → Int32} (hf : BY f) (hg : BY g) : BY (if n = 8 then f else g) := by split <;> assumption
theorem sp_keepsAct {n : Nat} {t_set : Nat → Int32} {t_highest t_units : Nat → Int64} {t_kinds t_sideKind t_side : Nat → Int32} {t_active t_rests : Int32} {t_writes : Nat → Int32} {t_wasSet : Nat → Int32} {t_wasHighest t_wasUnits : Nat → Int64} {t_wasKinds t_wasSideKind t_wasSide : Nat → Int32} {Q : (Nat → Int32) → (Nat → Int64) → (Nat → Int64) → (Nat → Int32) → (Nat → Int32) → (Nat → Int32) → Int32 → Prop} (hn : n ≤ 8) (hb1 : BY t_kinds) (hb2 : BY t_sideKind) (hb3 : BY t_side) (hb4 : BY t_wasKinds) (hb5 : BY t_wasSideKind) (hb6 : BY t_wasSide) (h : ∀ wS wH wU wK wX wD, Kept n 22 t_wasSet wS 22 (fun j => if j < 16 then t_set j else if j = 16 then t_active else if j = 17 then t_rests else t_writes (j - 18)) → Kept n 4 t_wasHighest wH 4 t_highest → Kept n 17408 t_wasUnits wU 17408 t_units → Kept n 1088 t_wasKinds wK 1088 t_kinds → Kept n 1088 t_wasSideKind wX 1088 t_sideKind → Kept n 17408 t_wasSide wD 17408 t_side → BY wK → BY wX → BY wD → Q wS wH wU wK wX wD (nI (min n 7 + 1))) : wp_X8_keepsAct t_set t_highest t_units t_kinds t_sideKind t_side t_active t_rests t_writes t_wasSet t_wasHighest t_wasUnits t_wasKinds t_wasSideKind t_wasSide (nI n) Q := by
  unfold wp_X8_keepsAct
  have k1 := Kept_set hn t_set t_active t_rests t_writes t_wasSet
  have k2 := Kept_cp (w := 4) hn t_wasHighest t_highest
  have k3 := Kept_cp (w := 17408) hn t_wasUnits t_units
  have k4 := Kept_cp (w := 1088) hn t_wasKinds t_kinds
  have k5 := Kept_cp (w := 1088) hn t_wasSideKind t_sideKind
  have k6 := Kept_cp (w := 17408) hn t_wasSide t_side
  have hq := h _ _ _ _ _ _ k1 k2 k3 k4 k5 k6 (BY_cpy hb1 (BY_if (BY_mvs hb4) hb4)) (BY_cpy hb2 (BY_if (BY_mvs hb5) hb5)) (BY_cpy hb3 (BY_if (BY_mvs hb6) hb6))
  refine q_fi (nI_eq (b := 8) (by omega) (by decide)) (fun e => ?_) (fun e => ?_)
  · subst e
    intro x hx
    rw [hx]
    exact sp_kp11 hb4 hb5 hb6 (sp_kp38 (u := 7) (by decide) hb1 hb2 hb3 hq)
  · rw [if_neg e, if_neg e, if_neg e, if_neg e, if_neg e, if_neg e] at hq
    rw [show min n 7 = n by omega] at hq
    exact sp_kp38 (by omega) hb1 hb2 hb3 hq
