/-! ===== one recorder changed, the others as they were ===== -/
def Only {α : Type} (w r : Nat) (f' f : Nat → α) : Prop := ∀ i, (i < w * r ∨ w * r + w ≤ i) → f' i = f i
theorem Only_rfl {α : Type} {w r : Nat} {f : Nat → α} : Only w r f f := fun _ _ => rfl
def Oth (r : Nat) (s' t_set : Nat → Int32) (h' t_highest u' t_units : Nat → Int64) (k' t_kinds x' t_sideKind d' t_side : Nat → Int32) : Prop := Only 4 r s' t_set ∧ (∀ q, q ≠ r → h' q = t_highest q) ∧ Only 4352 r u' t_units ∧ Only 272 r k' t_kinds ∧ Only 272 r x' t_sideKind ∧ Only 4352 r d' t_side
theorem Oth_same {r : Nat} {t_set : Nat → Int32} {t_highest t_units : Nat → Int64} {t_kinds t_sideKind t_side : Nat → Int32} {s' : Nat → Int32} {h' u' : Nat → Int64} {k' x' d' : Nat → Int32} (h : Oth r s' t_set h' t_highest u' t_units k' t_kinds x' t_sideKind d' t_side) : ∀ q, q < 4 → nI r ≠ nI q → (∀ c, c < 4 → s' (4 * q + c) = t_set (4 * q + c)) ∧ h' q = t_highest q ∧ (∀ j, j < 4352 → u' (4352 * q + j) = t_units (4352 * q + j)) ∧ (∀ p, p < 272 → k' (272 * q + p) = t_kinds (272 * q + p)) ∧ (∀ p, p < 272 → x' (272 * q + p) = t_sideKind (272 * q + p)) ∧ (∀ j, j < 4352 → d' (4352 * q + j) = t_side (4352 * q + j)) := by
  obtain ⟨h1, h2, h3, h4, h5, h6⟩ := h
  intro q hq hne
  have hqr : q ≠ r := fun e => hne (by rw [e])
  exact ⟨fun c hc => h1 _ (by omega), h2 q hqr, fun j hj => h3 _ (by omega), fun j hj => h4 _ (by omega), fun j hj => h5 _ (by omega), fun j hj => h6 _ (by omega)⟩
theorem LRs_act {r : Nat} {l_made : Nat → Int32} {l_sort : Nat → Int32} {l_digits : Nat → Int32} {l_slots : Nat → Int32} {l_pages : Nat → Int32} {l_highest : Nat → Int64} {l_units : Nat → Nat → Int64} {l_kinds : Nat → Nat → Int32} {l_rows : Nat → Nat → Int32} {l_marks : Nat → Nat → Int32} {n_made : Nat → Int32} {n_sort : Nat → Int32} {n_digits : Nat → Int32} {n_slots : Nat → Int32} {n_pages : Nat → Int32} {n_highest : Nat → Int64} {n_units : Nat → Nat → Int64} {n_kinds : Nat → Nat → Int32} {n_rows : Nat → Nat → Int32} {n_marks : Nat → Nat → Int32} {t_set : Nat → Int32} {t_highest t_units : Nat → Int64} {t_kinds t_sideKind t_side : Nat → Int32} {s' : Nat → Int32} {h' u' : Nat → Int64} {k' x' d' : Nat → Int32} (hr : r < 4) (hL : ∀ q, q < 4 → LRs l_made l_sort l_digits l_slots l_pages l_highest l_units l_kinds l_rows l_marks t_set t_highest t_units t_kinds t_sideKind t_side q) (hm : ∀ q, q ≠ r → n_made q = l_made q ∧ n_sort q = l_sort q ∧ n_digits q = l_digits q ∧ n_slots q = l_slots q ∧ n_pages q = l_pages q ∧ n_highest q = l_highest q ∧ n_units q = l_units q ∧ n_kinds q = l_kinds q ∧ n_rows q = l_rows q ∧ n_marks q = l_marks q) (ho : Oth r s' t_set h' t_highest u' t_units k' t_kinds x' t_sideKind d' t_side) (hn : LRs n_made n_sort n_digits n_slots n_pages n_highest n_units n_kinds n_rows n_marks s' h' u' k' x' d' r) : ∀ q, q < 4 → LRs n_made n_sort n_digits n_slots n_pages n_highest n_units n_kinds n_rows n_marks s' h' u' k' x' d' q := by
  intro q hq
  by_cases e : q = r
  · rw [e]; exact hn
  · have h0 := hL q hq
    obtain ⟨f1, f2, f3, f4, f5, f6⟩ := Oth_same ho q hq (fun h => e ((nI_eq (by omega) (by omega)).mp h).symm)
    obtain ⟨e1, e2, e3, e4, e5, e6, e7, e8, e9, e10⟩ := hm q e
    unfold LRs at h0 ⊢
    rw [e1, e2, e3, e4, e5, e6, e7, e8, e9, e10]
    exact LR_eq h0 (fun P _ _ => ⟨fun _ _ => rfl, fun _ _ => rfl, fun _ _ => rfl, fun _ _ => rfl⟩) f1 f2 f3 f4 f5 f6
/-! ===== clearing ===== -/
theorem nar0 : vp_nar .byte (0 : Int32) = 0 := by rw [vp_nar_byte]; decide
theorem z32 (f : Nat → Int32) (dp n : Nat) : upd (va_cpy (fun _ => 0) f 0 dp n) (dp + n) 0 = va_cpy (fun _ => 0) f 0 dp (n + 1) := cpS (fun _ => 0) f 0 dp n
theorem z64 (f : Nat → Int64) (dp n : Nat) : vp_updL (va_cpy (fun _ => 0) f 0 dp n) (dp + n) 0 = va_cpy (fun _ => 0) f 0 dp (n + 1) := cpL (fun _ => 0) f 0 dp n
theorem BY_0 : BY (fun _ => 0) := fun _ => (by decide : ((0 : Int32)).toInt8.toInt32 = 0)
theorem sp_cl43 {r : Nat} {t_units : Nat → Int64} {t_kinds t_sideKind t_side : Nat → Int32} {Q : (Nat → Int64) → (Nat → Int32) → (Nat → Int32) → (Nat → Int32) → Prop} (hr : r < 4) (h : Q t_units (va_cpy (fun _ => 0) t_kinds 0 (272 * r) 272) (va_cpy (fun _ => 0) t_sideKind 0 (272 * r) 272) t_side) : ∃ j, lp_X8_clears_43 Q (nI r) t_units t_side j 0 t_kinds t_sideKind := by
  refine lp3 (fun n a b c => lp_X8_clears_43 Q (nI r) t_units t_side n a b c) (fun a b c => ∃ i, i ≤ 272 ∧ a = nI i ∧ b = va_cpy (fun _ => 0) t_kinds 0 (272 * r) i ∧ c = va_cpy (fun _ => 0) t_sideKind 0 (272 * r) i) (fun a _ _ => 272 - a.toInt.toNat) ?_ _ _ _ ⟨0, by omega, rfl, (cp0 _ _ _ _).symm, (cp0 _ _ _ _).symm⟩
  intro n a b c hI hs
  obtain ⟨i, hi, ea, eb, ec⟩ := hI
  subst ea eb ec
  show bod_X8_clears_43 Q (nI r) t_units t_side (fun v0 v1 v2 => lp_X8_clears_43 Q (nI r) t_units t_side n v0 v1 v2) _ _ _
  unfold bod_X8_clears_43
  refine q_if (nI_leI (a := 272) (by decide) (by omega)) (fun q => ?_) (fun q => ?_)
  · have : i = 272 := by omega
    subst this
    exact h
  · rw [show (272 : Int32) * nI r + nI i = nI (272 * r + i) from ix_at 272 r i]
    refine q_in (by omega) (by decide) ?_
    intro y hy
    refine q_in (by omega) (by decide) ?_
    intro z hz w hw
    rw [nI_clamp (by omega), nar0, z32] at hy hz
    rw [hw, nI_1]
    refine hs _ _ _ ⟨i + 1, by omega, rfl, hy, hz⟩ ?_
    rw [nI_toInt (by omega), nI_toInt (by omega)]
    omega
theorem sp_clears {r : Nat} {t_units : Nat → Int64} {t_kinds t_sideKind t_side : Nat → Int32} {Q : (Nat → Int64) → (Nat → Int32) → (Nat → Int32) → (Nat → Int32) → Prop} (hr : r < 4) (hb1 : BY t_kinds) (hb2 : BY t_sideKind) (hb3 : BY t_side) (h : ∀ u' k' x' d', Only 4352 r u' t_units → Only 272 r k' t_kinds → Only 272 r x' t_sideKind → Only 4352 r d' t_side → (∀ j, j < 4352 → u' (4352 * r + j) = 0) → (∀ j, j < 272 → k' (272 * r + j) = 0) → (∀ j, j < 272 → x' (272 * r + j) = 0) → (∀ j, j < 4352 → d' (4352 * r + j) = 0) → BY k' → BY x' → BY d' → Q u' k' x' d') : wp_X8_clears (nI r) t_units t_kinds t_sideKind t_side Q := by
  unfold wp_X8_clears
  intro x hx
  rw [hx]
  have hq : Q (va_cpy (fun _ => 0) t_units 0 (4352 * r) 4352) (va_cpy (fun _ => 0) t_kinds 0 (272 * r) 272) (va_cpy (fun _ => 0) t_sideKind 0 (272 * r) 272) (va_cpy (fun _ => 0) t_side 0 (4352 * r) 4352) := by
    refine h _ _ _ _ (fun i hi => pk_cpy_out hi) (fun i hi => pk_cpy_out hi) (fun i hi => pk_cpy_out hi) (fun i hi => pk_cpy_out hi) (fun j hj => pk_cpy_in (by omega) (by omega)) (fun j hj => pk_cpy_in (by omega) (by omega)) (fun j hj => pk_cpy_in (by omega) (by omega)) (fun j hj => pk_cpy_in (by omega) (by omega)) (BY_cpy BY_0 hb1) (BY_cpy BY_0 hb2) (BY_cpy BY_0 hb3)
  refine lp3 (fun n a b c => lp_X8_clears_2 Q (nI r) t_kinds t_sideKind n a b c) (fun a b c => ∃ i, i ≤ 4352 ∧ a = nI i ∧ b = va_cpy (fun _ => 0) t_units 0 (4352 * r) i ∧ c = va_cpy (fun _ => 0) t_side 0 (4352 * r) i) (fun a _ _ => 4352 - a.toInt.toNat) ?_ _ _ _ ⟨0, by omega, rfl, (cp0 _ _ _ _).symm, (cp0 _ _ _ _).symm⟩
  intro n a b c hI hs
  obtain ⟨i, hi, ea, eb, ec⟩ := hI
  subst ea eb ec
  show bod_X8_clears_2 Q (nI r) t_kinds t_sideKind (fun v0 v1 v2 => lp_X8_clears_2 Q (nI r) t_kinds t_sideKind n v0 v1 v2) _ _ _
  unfold bod_X8_clears_2
  refine q_if (nI_leI (a := 4352) (by decide) (by omega)) (fun q => ?_) (fun q => ?_)
  · have : i = 4352 := by omega
    subst this
    intro y hy
    rw [hy]
    exact sp_cl43 hr hq
  · rw [show (4352 : Int32) * nI r + nI i = nI (4352 * r + i) from ix_at 4352 r i]
    refine q_in (by omega) (by decide) ?_
    intro y hy
    refine q_in (by omega) (by decide) ?_
    intro z hz w hw
    rw [nI_clamp (by omega), z64] at hy
    rw [nI_clamp (by omega), nar0, z32] at hz
    rw [hw, nI_1]
    refine hs _ _ _ ⟨i + 1, by omega, rfl, hy, hz⟩ ?_
    rw [nI_toInt (by omega), nI_toInt (by omega)]
    omega
/-! ===== a recorder made ===== -/
theorem Abs_0 {so d h : Nat} (hso : so = 0 ∨ so = 1) (hd : d = 1 ∨ d = 2) (h1 : 1000 ≤ h) (h2 : h ≤ 1000000000000) : Abs so d h (fun _ => 0) (fun _ => 0) (fun _ => 0) (fun _ => 0) := by
  refine ⟨hso, hd, h1, h2, fun _ => Nat.zero_le _, fun p => ⟨fun _ _ _ => rfl, fun _ => Or.inl (Nat.zero_le 6), fun _ => Or.inl rfl, fun e => absurd (show 1 ≤ 0 from e) (by decide)⟩, fun _ => Nat.zero_le _, fun _ => Nat.zero_le _, fun _ _ => rfl⟩
theorem sp_becomes {r so d hi : Nat} {t_set : Nat → Int32} {t_highest t_units : Nat → Int64} {t_kinds t_sideKind t_side : Nat → Int32} {Q : (Nat → Int32) → (Nat → Int64) → (Nat → Int64) → (Nat → Int32) → (Nat → Int32) → (Nat → Int32) → Prop} (hr : r < 4) (hd : d = 1 ∨ d = 2) (hh : hi ≤ 1000000000000) (hb1 : BY t_kinds) (hb2 : BY t_sideKind) (hb3 : BY t_side) (h : ∀ s' h' u' k' x' d', Oth r s' t_set h' t_highest u' t_units k' t_kinds x' t_sideKind d' t_side → MLed (fun c => s' (4 * r + c)) (h' r) (fun j => u' (4352 * r + j)) (fun p => k' (272 * r + p)) (fun p => x' (272 * r + p)) (fun j => d' (4352 * r + j)) so d hi (fun _ => 0) (fun _ => 0) (fun _ => 0) (fun _ => 0) → (∀ j, j < 4352 → u' (4352 * r + j) = 0) → BY k' → BY x' → BY d' → Q s' h' u' k' x' d') : wp_X8_becomes (nI r) (nI so) (nI d) (lN hi) t_set t_highest t_units t_kinds t_sideKind t_side Q := by
  unfold wp_X8_becomes
  refine sp_clears hr hb1 hb2 hb3 (fun u' k' x' d' o1 o2 o3 o4 z1 z2 z3 z4 b1 b2 b3 => ?_)
  have ⟨p1, p2, p3, p4⟩ := PG_b hd hh
  rw [show (4 : Int32) * nI r + (0 : Int32) = nI (4 * r + 0) from ix_at 4 r 0, show (4 : Int32) * nI r + (1 : Int32) = nI (4 * r + 1) from ix_at 4 r 1, show (4 : Int32) * nI r + (2 : Int32) = nI (4 * r + 2) from ix_at 4 r 2, show (4 : Int32) * nI r + (3 : Int32) = nI (4 * r + 3) from ix_at 4 r 3]
  rw [nI_clamp (by omega), nI_clamp (by omega), nI_clamp (by omega), nI_clamp (by omega), nI_clamp (by omega)]
  refine q_in (by omega) (by decide) ?_
  intro s1 e1
  refine q_in (by omega) (by decide) ?_
  intro s2 e2
  refine sp_X8_slotOf hd (by omega) ?_
  refine q_in (by omega) (by decide) ?_
  intro s3 e3
  refine q_in (by omega) (by decide) ?_
  intro s4 e4
  refine q_in (by omega) (by decide) ?_
  intro hg eh
  refine h s4 hg u' k' x' d' ⟨fun i hi => ?_, fun q hq => ?_, o1, o2, o3, o4⟩ ⟨?_, ?_, ?_, ?_, ?_, fun j hj => z1 j (by omega), fun p hp => z2 p (by omega), fun p hp => z3 p (by omega), fun j hj => z4 j hj⟩ z1 b1 b2 b3
  · rw [e4, pk_un (by omega), e3, pk_un (by omega), e2, pk_un (by omega), e1, pk_un (by omega)]
  · rw [eh, pk_uLn hq]
  · show s4 (4 * r + 0) = nI so
    rw [e4, pk_un (by omega), e3, pk_un (by omega), e2, pk_un (by omega), e1, pk_us]
  · show s4 (4 * r + 1) = nI d
    rw [e4, pk_un (by omega), e3, pk_un (by omega), e2, pk_us]
  · show s4 (4 * r + 2) = nI (Slot d hi + 1)
    rw [e4, pk_un (by omega), e3, pk_us]; exact nI_1 _
  · show s4 (4 * r + 3) = 1
    rw [e4, pk_us]
  · rw [eh, pk_uLs]
theorem sp_open {so d hi : Nat} {tm ts td tsl tp : Int32} {th : Int64} {tu : Nat → Int64} {tk tr tmk : Nat → Int32} {Q : Int32 → Int32 → Int32 → Int32 → Int32 → Int64 → (Nat → Int64) → (Nat → Int32) → (Nat → Int32) → (Nat → Int32) → Prop} (hd : d = 1 ∨ d = 2) (hh : hi ≤ 1000000000000) (h : ∀ m s dd sl pg hg U K R M, CLed m s dd sl pg hg U K R M so d hi (fun _ => 0) (fun _ => 0) (fun _ => 0) (fun _ => 0) → Q m s dd sl pg hg U K R M) : wp_X1_open (nI so) (nI d) (lN hi) tm ts td tsl tp th tu tk tr tmk Q := by
  unfold wp_X1_open
  have ⟨p1, p2, p3, p4⟩ := PG_b hd hh
  have ⟨q1, _⟩ := Slot_le hd hh
  intro a ha b hb c hc g hg
  refine sp_X7_slotOf hd (by omega) ?_
  intro sl hsl pg hpg
  have e1 : sl = nI (Slot d hi + 1) := by
    rw [hsl, show nI (Slot d hi) + (1 : Int32) = nI (Slot d hi + 1) from nI_1 _, show (4336 : Int32) = nI 4336 from rfl, nI_min (by decide) (by omega), show min 4336 (Slot d hi + 1) = Slot d hi + 1 by omega]
  have e2 : pg = nI (PG d hi) := by
    rw [hpg, e1, show (16 : Int32) = nI 16 from rfl, nI_add, show (1 : Int32) = nI 1 from rfl, pk_sub (by omega), pk_div (by omega) (by decide) (by decide), show (Slot d hi + 1 + 16 - 1) / 16 = PG d hi by unfold PG; omega, show (271 : Int32) = nI 271 from rfl, nI_min (by decide) (by omega), show min 271 (PG d hi) = PG d hi by omega]
  unfold wp_X1_clear
  intro U hU K hK R hR M hM
  exact h _ _ _ _ _ _ _ _ _ _ ⟨ha, hb, hc, e1, e2, hg, fun j hj => hU j (by omega), fun p hp => hK p (by omega), fun p hp => hR p (by omega), fun j hj => hM j (by omega)⟩
