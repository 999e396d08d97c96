/-! ===== what the reference keeps of an act ===== -/
theorem cpS (f g : Nat → Int32) (sp dp n : Nat) : upd (va_cpy f g sp dp n) (dp + n) (f (sp + n)) = va_cpy f g sp dp (n + 1) := by
  funext j
  by_cases e : j = dp + n
  · subst e
    rw [pk_us, pk_cpy_in (by omega) (by omega), show dp + n - dp = n by omega]
  · rw [pk_un e]
    by_cases h : dp ≤ j ∧ j < dp + n
    · rw [pk_cpy_in h.1 h.2, pk_cpy_in h.1 (by omega)]
    · rw [pk_cpy_out (by omega), pk_cpy_out (by omega)]
theorem cpL (f g : Nat → Int64) (sp dp n : Nat) : vp_updL (va_cpy f g sp dp n) (dp + n) (f (sp + n)) = va_cpy f g sp dp (n + 1) := by
  funext j
  by_cases e : j = dp + n
  · subst e
    rw [pk_uLs, pk_cpy_in (by omega) (by omega), show dp + n - dp = n by omega]
  · rw [pk_uLn e]
    by_cases h : dp ≤ j ∧ j < dp + n
    · rw [pk_cpy_in h.1 h.2, pk_cpy_in h.1 (by omega)]
    · rw [pk_cpy_out (by omega), pk_cpy_out (by omega)]
theorem cp0 {α : Type} (f g : Nat → α) (sp dp : Nat) : va_cpy f g sp dp 0 = g := by
  funext j
  exact pk_cpy_out (by omega)
theorem BY_cpy {f g : Nat → Int32} {sp dp n : Nat} (hf : BY f) (hg : BY g) : BY (va_cpy f g sp dp n) := by
  intro j
  by_cases h : dp ≤ j ∧ j < dp + n
  · rw [pk_cpy_in h.1 h.2]; exact hf _
  · rw [pk_cpy_out (by omega)]; exact hg _
theorem ix_at (w u i : Nat) : nI w * nI u + nI i = nI (w * u + i) := by rw [pk_mul, nI_add]
theorem sp_mv133 {u : Nat} {t_wasSet : Nat → Int32} {t_wasHighest : Nat → Int64} {t_wasUnits : Nat → Int64} {t_wasKinds : Nat → Int32} {t_wasSideKind : Nat → Int32} {t_wasSide : Nat → Int32} {Q : (Nat → Int32) → (Nat → Int64) → (Nat → Int64) → (Nat → Int32) → (Nat → Int32) → (Nat → Int32) → Prop} (hu : 1 ≤ u) (hu7 : u ≤ 7) (hb1 : BY t_wasKinds) (hb2 : BY t_wasSideKind) (h : Q t_wasSet t_wasHighest t_wasUnits (va_cpy t_wasKinds t_wasKinds (1088 * u) (1088 * u - 1088) 1088) (va_cpy t_wasSideKind t_wasSideKind (1088 * u) (1088 * u - 1088) 1088) t_wasSide) : ∃ j, lp_X8_moves_133 Q (nI u) t_wasSet t_wasHighest t_wasUnits t_wasSide j (nI (1088 * u)) t_wasKinds t_wasSideKind := by
  refine lp3 (fun n a b c => lp_X8_moves_133 Q (nI u) t_wasSet t_wasHighest t_wasUnits t_wasSide n a b c) (fun a b c => ∃ i, i ≤ 1088 ∧ a = nI (1088 * u + i) ∧ b = va_cpy t_wasKinds t_wasKinds (1088 * u) (1088 * u - 1088) i ∧ c = va_cpy t_wasSideKind t_wasSideKind (1088 * u) (1088 * u - 1088) i) (fun a _ _ => 1088 * u + 1088 - a.toInt.toNat) ?_ _ _ _ ⟨0, by omega, rfl, (cp0 _ _ _ _).symm, (cp0 _ _ _ _).symm⟩
  intro n a b c hI hs
  obtain ⟨i, hi, ea, eb, ec⟩ := hI
  subst ea eb ec
  show bod_X8_moves_133 Q (nI u) t_wasSet t_wasHighest t_wasUnits t_wasSide (fun v0 v1 v2 => lp_X8_moves_133 Q (nI u) t_wasSet t_wasHighest t_wasUnits t_wasSide n v0 v1 v2) _ _ _
  unfold bod_X8_moves_133
  rw [show (1088 : Int32) * nI u + (1088 : Int32) = nI (1088 * u + 1088) from ix_at 1088 u 1088]
  refine q_if (nI_leI (by omega) (by omega)) (fun q => ?_) (fun q => ?_)
  · have : i = 1088 := by omega
    subst this
    exact h
  · rw [show nI (1088 * u + i) - (1088 : Int32) = nI (1088 * u - 1088 + i) by rw [show (1088 : Int32) = nI 1088 from rfl, pk_sub (by omega)]; exact congrArg nI (by omega)]
    refine q_in (by omega) (by decide) (q_in (by omega) (by decide) ?_)
    intro x hx
    refine q_in (by omega) (by decide) (q_in (by omega) (by decide) ?_)
    intro y hy z hz
    rw [hz, nI_1]
    rw [nI_clamp (by omega), nI_clamp (by omega), pk_cpy_out (by omega)] at hx
    rw [nI_clamp (by omega), nI_clamp (by omega), pk_cpy_out (by omega)] at hy
    rw [vp_nar_byte, hb1] at hx
    rw [vp_nar_byte, hb2] at hy
    rw [cpS] at hx
    rw [cpS] at hy
    refine hs _ _ _ ⟨i + 1, by omega, by rw [Nat.add_assoc], hx, hy⟩ ?_
    rw [nI_toInt (by omega), nI_toInt (by omega)]
    omega
theorem sp_mv76 {u : Nat} {t_wasSet : Nat → Int32} {t_wasHighest : Nat → Int64} {t_wasUnits : Nat → Int64} {t_wasKinds : Nat → Int32} {t_wasSideKind : Nat → Int32} {t_wasSide : Nat → Int32} {Q : (Nat → Int32) → (Nat → Int64) → (Nat → Int64) → (Nat → Int32) → (Nat → Int32) → (Nat → Int32) → Prop} (hu : 1 ≤ u) (hu7 : u ≤ 7) (hb2 : BY t_wasSide) (h : ∀ x : Int32, x = (1088 : Int32) * nI u → ∃ j, lp_X8_moves_133 Q (nI u) t_wasSet t_wasHighest (va_cpy t_wasUnits t_wasUnits (17408 * u) (17408 * u - 17408) 17408) (va_cpy t_wasSide t_wasSide (17408 * u) (17408 * u - 17408) 17408) j x t_wasKinds t_wasSideKind) : ∃ j, lp_X8_moves_76 Q (nI u) t_wasSet t_wasHighest t_wasKinds t_wasSideKind j (nI (17408 * u)) t_wasUnits t_wasSide := by
  refine lp3 (fun n a b c => lp_X8_moves_76 Q (nI u) t_wasSet t_wasHighest t_wasKinds t_wasSideKind n a b c) (fun a b c => ∃ i, i ≤ 17408 ∧ a = nI (17408 * u + i) ∧ b = va_cpy t_wasUnits t_wasUnits (17408 * u) (17408 * u - 17408) i ∧ c = va_cpy t_wasSide t_wasSide (17408 * u) (17408 * u - 17408) i) (fun a _ _ => 17408 * u + 17408 - a.toInt.toNat) ?_ _ _ _ ⟨0, by omega, rfl, (cp0 _ _ _ _).symm, (cp0 _ _ _ _).symm⟩
  intro n a b c hI hs
  obtain ⟨i, hi, ea, eb, ec⟩ := hI
  subst ea eb ec
  show bod_X8_moves_76 Q (nI u) t_wasSet t_wasHighest t_wasKinds t_wasSideKind (fun v0 v1 v2 => lp_X8_moves_76 Q (nI u) t_wasSet t_wasHighest t_wasKinds t_wasSideKind n v0 v1 v2) _ _ _
  unfold bod_X8_moves_76
  rw [show (17408 : Int32) * nI u + (17408 : Int32) = nI (17408 * u + 17408) from ix_at 17408 u 17408]
  refine q_if (nI_leI (by omega) (by omega)) (fun q => ?_) (fun q => ?_)
  · have : i = 17408 := by omega
    subst this
    exact h
  · rw [show nI (17408 * u + i) - (17408 : Int32) = nI (17408 * u - 17408 + i) by rw [show (17408 : Int32) = nI 17408 from rfl, pk_sub (by omega)]; exact congrArg nI (by omega)]
    refine q_in (by omega) (by decide) (q_in (by omega) (by decide) ?_)
    intro x hx
    refine q_in (by omega) (by decide) (q_in (by omega) (by decide) ?_)
    intro y hy z hz
    rw [hz, nI_1]
    rw [nI_clamp (by omega), nI_clamp (by omega), pk_cpy_out (by omega)] at hx
    rw [nI_clamp (by omega), nI_clamp (by omega), pk_cpy_out (by omega)] at hy
    rw [vp_nar_byte, hb2] at hy
    rw [cpL] at hx
    rw [cpS] at hy
    refine hs _ _ _ ⟨i + 1, by omega, by rw [Nat.add_assoc], hx, hy⟩ ?_
    rw [nI_toInt (by omega), nI_toInt (by omega)]
    omega
theorem sp_mv41 {u : Nat} {t_wasSet : Nat → Int32} {t_wasHighest : Nat → Int64} {t_wasUnits : Nat → Int64} {t_wasKinds : Nat → Int32} {t_wasSideKind : Nat → Int32} {t_wasSide : Nat → Int32} {Q : (Nat → Int32) → (Nat → Int64) → (Nat → Int64) → (Nat → Int32) → (Nat → Int32) → (Nat → Int32) → Prop} (hu : 1 ≤ u) (hu7 : u ≤ 7) (h : ∀ x : Int32, x = (17408 : Int32) * nI u → ∃ j, lp_X8_moves_76 Q (nI u) t_wasSet (va_cpy t_wasHighest t_wasHighest (4 * u) (4 * u - 4) 4) t_wasKinds t_wasSideKind j x t_wasUnits t_wasSide) : ∃ j, lp_X8_moves_41 Q (nI u) t_wasSet t_wasUnits t_wasKinds t_wasSideKind t_wasSide j (nI (4 * u)) t_wasHighest := by
  refine lp2 (fun n a b => lp_X8_moves_41 Q (nI u) t_wasSet t_wasUnits t_wasKinds t_wasSideKind t_wasSide n a b) (fun a b => ∃ i, i ≤ 4 ∧ a = nI (4 * u + i) ∧ b = va_cpy t_wasHighest t_wasHighest (4 * u) (4 * u - 4) i) (fun a _ => 4 * u + 4 - a.toInt.toNat) ?_ _ _ ⟨0, by omega, rfl, (cp0 _ _ _ _).symm⟩
  intro n a b hI hs
  obtain ⟨i, hi, ea, eb⟩ := hI
  subst ea eb
  show bod_X8_moves_41 Q (nI u) t_wasSet t_wasUnits t_wasKinds t_wasSideKind t_wasSide (fun v0 v1 => lp_X8_moves_41 Q (nI u) t_wasSet t_wasUnits t_wasKinds t_wasSideKind t_wasSide n v0 v1) _ _
  unfold bod_X8_moves_41
  rw [show (4 : Int32) * nI u + (4 : Int32) = nI (4 * u + 4) from ix_at 4 u 4]
  refine q_if (nI_leI (by omega) (by omega)) (fun q => ?_) (fun q => ?_)
  · have : i = 4 := by omega
    subst this
    exact h
  · rw [show nI (4 * u + i) - (4 : Int32) = nI (4 * u - 4 + i) by rw [show (4 : Int32) = nI 4 from rfl, pk_sub (by omega)]; exact congrArg nI (by omega)]
    refine q_in (by omega) (by decide) (q_in (by omega) (by decide) ?_)
    intro x hx z hz
    rw [hz, nI_1]
    rw [nI_clamp (by omega), nI_clamp (by omega), pk_cpy_out (by omega), cpL] at hx
    refine hs _ _ ⟨i + 1, by omega, by rw [Nat.add_assoc], hx⟩ ?_
    rw [nI_toInt (by omega), nI_toInt (by omega)]
    omega
theorem sp_mv5 {u : Nat} {t_wasSet : Nat → Int32} {t_wasHighest : Nat → Int64} {t_wasUnits : Nat → Int64} {t_wasKinds : Nat → Int32} {t_wasSideKind : Nat → Int32} {t_wasSide : Nat → Int32} {Q : (Nat → Int32) → (Nat → Int64) → (Nat → Int64) → (Nat → Int32) → (Nat → Int32) → (Nat → Int32) → Prop} (hu : 1 ≤ u) (hu7 : u ≤ 7) (h : ∀ x : Int32, x = (4 : Int32) * nI u → ∃ j, lp_X8_moves_41 Q (nI u) (va_cpy t_wasSet t_wasSet (22 * u) (22 * u - 22) 22) t_wasUnits t_wasKinds t_wasSideKind t_wasSide j x t_wasHighest) : ∃ j, lp_X8_moves_5 Q (nI u) t_wasHighest t_wasUnits t_wasKinds t_wasSideKind t_wasSide j (nI (22 * u)) t_wasSet := by
  refine lp2 (fun n a b => lp_X8_moves_5 Q (nI u) t_wasHighest t_wasUnits t_wasKinds t_wasSideKind t_wasSide n a b) (fun a b => ∃ i, i ≤ 22 ∧ a = nI (22 * u + i) ∧ b = va_cpy t_wasSet t_wasSet (22 * u) (22 * u - 22) i) (fun a _ => 22 * u + 22 - a.toInt.toNat) ?_ _ _ ⟨0, by omega, rfl, (cp0 _ _ _ _).symm⟩
  intro n a b hI hs
  obtain ⟨i, hi, ea, eb⟩ := hI
  subst ea eb
  show bod_X8_moves_5 Q (nI u) t_wasHighest t_wasUnits t_wasKinds t_wasSideKind t_wasSide (fun v0 v1 => lp_X8_moves_5 Q (nI u) t_wasHighest t_wasUnits t_wasKinds t_wasSideKind t_wasSide n v0 v1) _ _
  unfold bod_X8_moves_5
  rw [show (22 : Int32) * nI u + (22 : Int32) = nI (22 * u + 22) from ix_at 22 u 22]
  refine q_if (nI_leI (by omega) (by omega)) (fun q => ?_) (fun q => ?_)
  · have : i = 22 := by omega
    subst this
    exact h
  · rw [show nI (22 * u + i) - (22 : Int32) = nI (22 * u - 22 + i) by rw [show (22 : Int32) = nI 22 from rfl, pk_sub (by omega)]; exact congrArg nI (by omega)]
    refine q_in (by omega) (by decide) (q_in (by omega) (by decide) ?_)
    intro x hx z hz
    rw [hz, nI_1]
    rw [nI_clamp (by omega), nI_clamp (by omega), pk_cpy_out (by omega), cpS] at hx
    refine hs _ _ ⟨i + 1, by omega, by rw [Nat.add_assoc], hx⟩ ?_
    rw [nI_toInt (by omega), nI_toInt (by omega)]
    omega
def mv1 {α : Type} (w u : Nat) (f : Nat → α) : Nat → α := va_cpy f f (w * u) (w * u - w) w
theorem sp_moves {u : Nat} {t_wasSet : Nat → Int32} {t_wasHighest t_wasUnits : Nat → Int64} {t_wasKinds t_wasSideKind t_wasSide : Nat → Int32} {Q : (Nat → Int32) → (Nat → Int64) → (Nat → Int64) → (Nat → Int32) → (Nat → Int32) → (Nat → Int32) → Prop} (hu : 1 ≤ u) (hu7 : u ≤ 7) (hb1 : BY t_wasKinds) (hb2 : BY t_wasSideKind) (hb3 : BY t_wasSide) (h : Q (mv1 22 u t_wasSet) (mv1 4 u t_wasHighest) (mv1 17408 u t_wasUnits) (mv1 1088 u t_wasKinds) (mv1 1088 u t_wasSideKind) (mv1 17408 u t_wasSide)) : wp_X8_moves (nI u) t_wasSet t_wasHighest t_wasUnits t_wasKinds t_wasSideKind t_wasSide Q := by
  unfold wp_X8_moves
  intro x hx
  rw [hx, show (22 : Int32) * nI u = nI (22 * u) from pk_mul 22 u]
  refine sp_mv5 hu hu7 ?_
  intro x hx
  rw [hx, show (4 : Int32) * nI u = nI (4 * u) from pk_mul 4 u]
  refine sp_mv41 hu hu7 ?_
  intro x hx
  rw [hx, show (17408 : Int32) * nI u = nI (17408 * u) from pk_mul 17408 u]
  refine sp_mv76 hu hu7 hb3 ?_
  intro x hx
  rw [hx, show (1088 : Int32) * nI u = nI (1088 * u) from pk_mul 1088 u]
  exact sp_mv133 hu hu7 hb1 hb2 h
