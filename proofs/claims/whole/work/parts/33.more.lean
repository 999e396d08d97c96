/-! ===== bounds, once more ===== -/
theorem bl_mono {v w : Nat} (h : v ≤ w) (hw : w < 2 ^ 64) : bl v ≤ bl w := by
  have a := bl_lt hw
  have b := bl_le (v := w) (k := 64) hw (by decide)
  exact bl_le (Nat.lt_of_le_of_lt h a) b
theorem Slot_mono {d v w : Nat} (hd : d = 1 ∨ d = 2) (h : v ≤ w) (hw : w < 2 ^ 63) : Slot d v ≤ Slot d w := by
  have hm := bl_mono h (by omega)
  have ⟨a1, a2⟩ := Slot_cut hd (v := v) (by omega)
  have ⟨b1, b2⟩ := Slot_cut hd hw
  have s1 : Sh d v = bl v - bb d := rfl
  have s2 : Sh d w = bl w - bb d := rfl
  unfold Slot
  by_cases q : Sh d v = Sh d w
  · rw [q]
    have : v / 2 ^ Sh d w ≤ w / 2 ^ Sh d w := Nat.div_le_div_right h
    omega
  · have b3 := b2 (by omega)
    rcases bb_p hd with ⟨e, e2⟩ | ⟨e, e2⟩ <;> rw [e] at a1 s1 s2 <;> rw [e2] at b3 ⊢ <;> simp at a1 <;> omega
theorem reach_cases (p : Int64) {h : Nat} (hh : h ≤ 1000000000000) : (∃ v, v ≤ h ∧ p = lN v) ∨ (p.toInt < 0 ∨ (h : Int) < p.toInt) := by
  by_cases q : p.toInt < 0 ∨ (h : Int) < p.toInt
  · exact Or.inr q
  · obtain ⟨v, hv, e⟩ := lon_of (p := p) (by omega)
    rw [e, pk_lT hv] at q
    exact Or.inl ⟨v, by omega, e⟩
theorem page_cases (p : Int32) {P : Nat} (hP : P ≤ 271) : (∃ q, q < P ∧ p = nI q) ∨ (p.toInt < 0 ∨ (P : Int) ≤ p.toInt) := by
  by_cases q : p.toInt < 0 ∨ (P : Int) ≤ p.toInt
  · exact Or.inr q
  · obtain ⟨v, e⟩ : ∃ v : Nat, p.toInt = v := ⟨p.toInt.toNat, by omega⟩
    exact Or.inl ⟨v, by omega, Int32.toInt_inj.mp (by rw [e, nI_toInt (by omega)])⟩
theorem sp_reaches_in {v h : Nat} {Q : Int32 → Prop} (hv : v ≤ h) (hh : h ≤ 1000000000000) (k : Q 1) : wp_X1_reaches (lN v) (lN h) Q := by
  unfold wp_X1_reaches
  have z : (0 : Int64).toInt = 0 := by decide
  refine q_if (fa_lt64 _ _) (fun n => absurd n ?_) (fun _ => q_if (fa_lt64 _ _) (fun n => absurd n ?_) (fun _ => k))
  · rw [pk_lT (by omega)]; omega
  · rw [pk_lT (by omega), pk_lT (by omega)]; omega
theorem sp_reaches_out {p : Int64} {h : Nat} {Q : Int32 → Prop} (o : p.toInt < 0 ∨ (h : Int) < p.toInt) (hh : h ≤ 1000000000000) (k : Q 0) : wp_X1_reaches p (lN h) Q := by
  unfold wp_X1_reaches
  have z : (0 : Int64).toInt = 0 := by decide
  refine q_if (fa_lt64 _ _) (fun _ => k) (fun a => q_if (fa_lt64 _ _) (fun _ => k) (fun b => ?_))
  rw [pk_lT (by omega)] at b
  omega
theorem sp_upto_in {v h : Nat} {Q : Int32 → Prop} (hv : v ≤ h) (hh : h ≤ 1000000000000) (k : Q 1) : wp_X8_isIn (lN v) 0 (lN h) Q := by
  have z : (0 : Int64).toInt = 0 := by decide
  have e1 := pk_lT (n := v) (by omega)
  have e2 := pk_lT (n := h) (by omega)
  exact sp_isIn (fun _ _ => k) (fun o => absurd o (by omega))
theorem sp_upto_out {p : Int64} {h : Nat} {Q : Int32 → Prop} (o : p.toInt < 0 ∨ (h : Int) < p.toInt) (hh : h ≤ 1000000000000) (k : Q 0) : wp_X8_isIn p 0 (lN h) Q := by
  have z : (0 : Int64).toInt = 0 := by decide
  have e2 := pk_lT (n := h) (by omega)
  exact sp_isIn (fun _ _ => absurd o (by omega)) (fun _ => k)
theorem sp_hasPage_in {q P : Nat} {Q : Int32 → Prop} (hq : q < P) (hP : P ≤ 271) (k : Q 1) : wp_X1_hasPage (nI q) (nI P) Q := by
  unfold wp_X1_hasPage
  refine ⟨fun n => absurd n (nI_nneg (by omega)), fun _ => q_if (nI_leI (by omega) (by omega)) (fun n => absurd n (by omega)) (fun _ => k)⟩
theorem sp_hasPage_out {p : Int32} {P : Nat} {Q : Int32 → Prop} (o : p.toInt < 0 ∨ (P : Int) ≤ p.toInt) (hP : P ≤ 271) (k : Q 0) : wp_X1_hasPage p (nI P) Q := by
  unfold wp_X1_hasPage
  have z : (0 : Int32).toInt = 0 := by decide
  refine q_if (fa_lt _ _) (fun _ => k) (fun a => q_if (fa_le _ _) (fun _ => k) (fun b => ?_))
  rw [nI_toInt (by omega)] at b
  omega
theorem sp_inP_in {q P : Nat} {Q : Int32 → Prop} (hq : q < P) (hP : P ≤ 271) (k : Q 1) : wp_X8_isIn (nI q).toInt64 0 (nI P - (1 : Int32)).toInt64 Q := by
  have z : (0 : Int64).toInt = 0 := by decide
  rw [show (1 : Int32) = nI 1 from rfl, pk_sub (by omega), nI_l (by omega), nI_l (by omega)]
  have e1 := pk_lT (n := q) (by omega)
  have e2 := pk_lT (n := P - 1) (by omega)
  exact sp_isIn (fun _ _ => k) (fun o => absurd o (by omega))
theorem sp_inP_out {p : Int32} {P : Nat} {Q : Int32 → Prop} (o : p.toInt < 0 ∨ (P : Int) ≤ p.toInt) (h1 : 1 ≤ P) (hP : P ≤ 271) (k : Q 0) : wp_X8_isIn p.toInt64 0 (nI P - (1 : Int32)).toInt64 Q := by
  have z : (0 : Int64).toInt = 0 := by decide
  have e : p.toInt64.toInt = p.toInt := Int32.toInt_toInt64 p
  rw [show (1 : Int32) = nI 1 from rfl, pk_sub (by omega), nI_l (n := P - 1) (by omega)]
  have e2 := pk_lT (n := P - 1) (by omega)
  exact sp_isIn (fun _ _ => absurd o (by omega)) (fun _ => k)
/-! ===== the whole of a recorder, both sides ===== -/
theorem sp_all {made sort digits slots pages : Int32} {highest : Int64} {U : Nat → Int64} {K R M : Nat → Int32} {so d h : Nat} {u k r m : Nat → Nat} {Q : Int64 → Prop} (hA : Abs so d h u k r m) (hC : CLed made sort digits slots pages highest U K R M so d h u k r m) (q : Q (lN (fb_sm u (Slot d h + 1)))) : wp_X1_allUnits slots pages U K Q := by
  obtain ⟨hso, hd, hh1, hh2, hu, hk, hrr, hm, hm0⟩ := hA
  obtain ⟨c_made, c_sort, c_dig, c_slots, c_pages, c_high, c_u, c_k, c_r, c_m⟩ := hC
  have ⟨b1, b2, b3, b4⟩ := PG_b hd hh2
  unfold wp_X1_allUnits
  subst c_slots
  exact sp_unitsAhead (N := Slot d h + 1) (P := PG d h) (Nat.le_refl _) b1 (by omega) rfl c_pages c_u c_k (fun p => by have := KOK_le hso (hk p); omega) (fun p => (hk p).1) q
theorem sp_tot {r : Nat} {t_set : Nat → Int32} {vh : Int64} {t_units : Nat → Int64} {vK vS vM : Nat → Int32} {so d h : Nat} {u k rr m : Nat → Nat} {Q : Int64 → Prop} (hr : r < 4) (hA : Abs so d h u k rr m) (hM : MLed (fun c => t_set (4 * r + c)) vh (fun j => t_units (4352 * r + j)) vK vS vM so d h u k rr m) (q : Q (lN (fb_sm u (Slot d h + 1)))) : wp_X8_totalOf (nI r) t_set t_units Q := by
  obtain ⟨hso, hd, hh1, hh2, hu, hk, hrr, hm, hm0⟩ := hA
  obtain ⟨v_sort, v_dig, v_slots, v_made, v_high, v_u, v_k, v_r, v_m⟩ := hM
  have ⟨b1, b2, b3, b4⟩ := PG_b hd hh2
  unfold wp_X8_totalOf
  refine sp_of (c := 2) hr (by decide) ?_
  rw [show t_set (4 * r + 2) = nI (Slot d h + 1) from v_slots]
  exact sp_sumOf hr (by omega) (fun j hj => v_u j (by omega)) q
/-! ===== bits of four ===== -/
def bits4 (f : Nat → Prop) [DecidablePred f] : Nat → Int32
  | 0 => 0
  | n + 1 => if f n then bits4 f n ||| ((1 : Int32) <<< (nI n &&& 31)) else bits4 f n
theorem or_0 (x : Int32) : x ||| 0 = x := Int32.or_zero
theorem sp_madeBits {l_made : Nat → Int32} {f : Nat → Prop} [DecidablePred f] {Q : Int32 → Prop} (hf : ∀ r, r < 4 → (f r → l_made r = 1) ∧ (¬ f r → l_made r = 0)) (h : Q (bits4 f 4)) : wp_X7_madeBits l_made Q := by
  unfold wp_X7_madeBits
  intro x ex y ey
  rw [ex, ey]
  refine lp2 (fun n a b => lp_X7_madeBits_4 l_made Q n a b) (fun a b => ∃ i, i ≤ 4 ∧ b = nI i ∧ a = bits4 f i) (fun _ b => 4 - b.toInt.toNat) ?_ _ _ ⟨0, by omega, rfl, rfl⟩
  intro n a b hI hs2
  obtain ⟨i, hi, eb, ea⟩ := hI
  subst ea eb
  show bod_X7_madeBits_4 l_made Q (fun v0 v1 => lp_X7_madeBits_4 l_made Q n v0 v1) _ (nI i)
  unfold bod_X7_madeBits_4
  refine q_if (nI_leI (a := 4) (by decide) (by omega)) (fun q => ?_) (fun q => ?_)
  · have e4 : i = 4 := by omega
    subst e4
    exact h
  · have hst : blk_X7_madeBits_23 l_made (fun v0 v1 => lp_X7_madeBits_4 l_made Q n v0 v1) Q (bits4 f (i + 1)) (nI i) := by
      unfold blk_X7_madeBits_23
      intro x7 hx7
      rw [hx7, nI_1]
      refine hs2 _ _ ⟨i + 1, by omega, rfl, rfl⟩ ?_
      rw [nI_toInt (by omega), nI_toInt (by omega)]
      omega
    by_cases hfi : f i
    · refine sp_madeAt_in (by omega) ((hf i (by omega)).1 hfi) (opt_s ?_)
      intro x1 hx1
      have e : x1 = bits4 f (i + 1) := by rw [hx1]; show _ = (if f i then _ else _); rw [if_pos hfi]
      rw [e]; exact hst
    · refine sp_madeAt_out (fun r hr e => ?_) (opt_n ?_)
      · have : i = r := (nI_eq (by omega) (by omega)).mp e
        rw [← this]; exact (hf i (by omega)).2 hfi
      · have e : bits4 f i = bits4 f (i + 1) := by show _ = (if f i then _ else _); rw [if_neg hfi]
        rw [e]; exact hst
theorem sp_madeSet {t_set : Nat → Int32} {f : Nat → Prop} [DecidablePred f] {Q : Int32 → Prop} (hf : ∀ r, r < 4 → (f r → t_set (4 * r + 3) = 1) ∧ (¬ f r → t_set (4 * r + 3) = 0)) (h : Q (bits4 f 4)) : wp_X8_madeSet t_set Q := by
  unfold wp_X8_madeSet
  intro x ex y ey
  rw [ex, ey]
  refine lp2 (fun n a b => lp_X8_madeSet_4 t_set Q n a b) (fun a b => ∃ i, i ≤ 4 ∧ b = nI i ∧ a = bits4 f i) (fun _ b => 4 - b.toInt.toNat) ?_ _ _ ⟨0, by omega, rfl, rfl⟩
  intro n a b hI hs2
  obtain ⟨i, hi, eb, ea⟩ := hI
  subst ea eb
  show bod_X8_madeSet_4 t_set Q (fun v0 v1 => lp_X8_madeSet_4 t_set Q n v0 v1) _ (nI i)
  unfold bod_X8_madeSet_4
  refine q_if (nI_leI (a := 4) (by decide) (by omega)) (fun q => ?_) (fun q => ?_)
  · have e4 : i = 4 := by omega
    subst e4
    exact h
  · have hst : ∀ w, bits4 f i ||| w = bits4 f (i + 1) → blk_X8_madeSet_25 t_set (fun v0 v1 => lp_X8_madeSet_4 t_set Q n v0 v1) Q (nI i) (bits4 f i) w := by
      intro w hw
      unfold blk_X8_madeSet_25
      intro x1 hx1 x7 hx7
      rw [hx7, nI_1, hx1, hw]
      refine hs2 _ _ ⟨i + 1, by omega, rfl, rfl⟩ ?_
      rw [nI_toInt (by omega), nI_toInt (by omega)]
      omega
    by_cases hfi : f i
    · refine sp_isMade_in (by omega) ((hf i (by omega)).1 hfi) (q1b (hst _ ?_))
      show _ = (if f i then _ else _); rw [if_pos hfi]
    · refine sp_isMade_out (fun r hr e => ?_) (q0b (hst _ ?_))
      · have : i = r := (nI_eq (by omega) (by omega)).mp e
        rw [← this]; exact (hf i (by omega)).2 hfi
      · show _ = (if f i then _ else _); rw [if_neg hfi, or_0]
theorem sp_recorderOf {i : Nat} {W : Nat → Int32} {Q : Int32 → Prop} (hi : i < 4) (h : Q (W i)) : wp_X2_recorderOf (nI i) W Q := by
  unfold wp_X2_recorderOf
  refine ⟨fun n => absurd n (nI_nneg (by omega)), fun _ => q_if (nI_ltI (b := 4) (by omega) (by decide)) (fun _ => ?_) (fun n => absurd hi n)⟩
  refine q_in hi (by decide) ?_
  rw [nI_clamp (by omega)]
  exact h
theorem sp_isWriting {i : Nat} {W : Nat → Int32} {Q : Int32 → Prop} (hi : i < 4) (h1 : W i ≠ -1 → Q 1) (h0 : W i = -1 → Q 0) : wp_X8_isWriting (nI i) W Q := by
  unfold wp_X8_isWriting
  refine sp_in4 hi (by decide) (q1b ?_)
  refine q_in hi (by decide) ?_
  rw [nI_clamp (by omega)]
  exact ⟨h0, h1⟩
theorem sp_writerBits {W : Nat → Int32} {f : Nat → Prop} [DecidablePred f] {Q : Int32 → Prop} (hf : ∀ r, r < 4 → (f r ↔ W r ≠ -1)) (h : Q (bits4 f 4)) : wp_X2_writerBits W Q := by
  unfold wp_X2_writerBits
  intro x ex y ey
  rw [ex, ey]
  refine lp2 (fun n a b => lp_X2_writerBits_4 W Q n a b) (fun a b => ∃ i, i ≤ 4 ∧ b = nI i ∧ a = bits4 f i) (fun _ b => 4 - b.toInt.toNat) ?_ _ _ ⟨0, by omega, rfl, rfl⟩
  intro n a b hI hs2
  obtain ⟨i, hi, eb, ea⟩ := hI
  subst ea eb
  show bod_X2_writerBits_4 W Q (fun v0 v1 => lp_X2_writerBits_4 W Q n v0 v1) _ (nI i)
  unfold bod_X2_writerBits_4
  refine q_if (nI_leI (a := 4) (by decide) (by omega)) (fun q => ?_) (fun q => ?_)
  · have e4 : i = 4 := by omega
    subst e4
    exact h
  · have hst : blk_X2_writerBits_24 W (fun v0 v1 => lp_X2_writerBits_4 W Q n v0 v1) Q (bits4 f (i + 1)) (nI i) := by
      unfold blk_X2_writerBits_24
      intro x7 hx7
      rw [hx7, nI_1]
      refine hs2 _ _ ⟨i + 1, by omega, rfl, rfl⟩ ?_
      rw [nI_toInt (by omega), nI_toInt (by omega)]
      omega
    refine sp_recorderOf (by omega) ⟨fun e0 => ?_, fun e1 => ?_⟩
    · have hfi : ¬ f i := fun q => (hf i (by omega)).mp q e0
      have e : bits4 f i = bits4 f (i + 1) := by show _ = (if f i then _ else _); rw [if_neg hfi]
      rw [e]; exact hst
    · have hfi : f i := (hf i (by omega)).mpr e1
      intro x1 hx1
      have e : x1 = bits4 f (i + 1) := by rw [hx1]; show _ = (if f i then _ else _); rw [if_pos hfi]
      rw [e]; exact hst
theorem sp_writersSet {W : Nat → Int32} {f : Nat → Prop} [DecidablePred f] {Q : Int32 → Prop} (hf : ∀ r, r < 4 → (f r ↔ W r ≠ -1)) (h : Q (bits4 f 4)) : wp_X8_writersSet W Q := by
  unfold wp_X8_writersSet
  intro x ex y ey
  rw [ex, ey]
  refine lp2 (fun n a b => lp_X8_writersSet_4 W Q n a b) (fun a b => ∃ i, i ≤ 4 ∧ b = nI i ∧ a = bits4 f i) (fun _ b => 4 - b.toInt.toNat) ?_ _ _ ⟨0, by omega, rfl, rfl⟩
  intro n a b hI hs2
  obtain ⟨i, hi, eb, ea⟩ := hI
  subst ea eb
  show bod_X8_writersSet_4 W Q (fun v0 v1 => lp_X8_writersSet_4 W Q n v0 v1) _ (nI i)
  unfold bod_X8_writersSet_4
  refine q_if (nI_leI (a := 4) (by decide) (by omega)) (fun q => ?_) (fun q => ?_)
  · have e4 : i = 4 := by omega
    subst e4
    exact h
  · have hst : ∀ w, bits4 f i ||| w = bits4 f (i + 1) → blk_X8_writersSet_25 W (fun v0 v1 => lp_X8_writersSet_4 W Q n v0 v1) Q (nI i) (bits4 f i) w := by
      intro w hw
      unfold blk_X8_writersSet_25
      intro x1 hx1 x7 hx7
      rw [hx7, nI_1, hx1, hw]
      refine hs2 _ _ ⟨i + 1, by omega, rfl, rfl⟩ ?_
      rw [nI_toInt (by omega), nI_toInt (by omega)]
      omega
    refine sp_isWriting (by omega) (fun e1 => q1b (hst _ ?_)) (fun e0 => q0b (hst _ ?_))
    · have hfi : f i := (hf i (by omega)).mpr e1
      show _ = (if f i then _ else _); rw [if_pos hfi]
    · have hfi : ¬ f i := fun q => (hf i (by omega)).mp q e0
      show _ = (if f i then _ else _); rw [if_neg hfi, or_0]
theorem sp_X2_isWrittenTo {p : Int32} {W : Nat → Int32} {Q : Int32 → Prop} (h1 : (∃ k, k < 4 ∧ W k = p) → Q 1) (h0 : (∀ k, k < 4 → W k ≠ p) → Q 0) : wp_X2_isWrittenTo p W Q := by
  unfold wp_X2_isWrittenTo
  intro x ex
  rw [ex]
  refine lp1 (fun n a => lp_X2_isWrittenTo_2 W Q p n a) (fun a => ∃ i, i ≤ 4 ∧ a = nI i ∧ ∀ k, k < i → W k ≠ p) (fun a => 4 - a.toInt.toNat) ?_ _ ⟨0, by omega, rfl, fun k hk => absurd hk (by omega)⟩
  intro n a hI hs2
  obtain ⟨i, hi, ea, hk⟩ := hI
  subst ea
  show bod_X2_isWrittenTo_2 W Q p (fun v0 => lp_X2_isWrittenTo_2 W Q p n v0) (nI i)
  unfold bod_X2_isWrittenTo_2
  refine q_if (nI_leI (a := 4) (by decide) (by omega)) (fun q => h0 (fun k hk2 => hk k (by omega))) (fun q => ?_)
  refine sp_recorderOf (by omega) ⟨fun e => ?_, fun e => h1 ⟨i, by omega, e⟩⟩
  intro x2 hx2
  rw [hx2, nI_1]
  refine hs2 _ ⟨i + 1, by omega, rfl, fun k hk2 => ?_⟩ ?_
  · rcases Nat.lt_or_ge k i with z | z
    · exact hk k z
    · rw [show k = i by omega]; exact e
  · rw [nI_toInt (by omega), nI_toInt (by omega)]
    omega
theorem sp_X8_isWrittenTo {p : Int32} {W : Nat → Int32} {Q : Int32 → Prop} (h1 : (∃ k, k < 4 ∧ W k = p) → Q 1) (h0 : (∀ k, k < 4 → W k ≠ p) → Q 0) : wp_X8_isWrittenTo p W Q := by
  unfold wp_X8_isWrittenTo
  intro x ex
  rw [ex]
  refine lp1 (fun n a => lp_X8_isWrittenTo_2 W Q p n a) (fun a => ∃ i, i ≤ 4 ∧ a = nI i ∧ ∀ k, k < i → W k ≠ p) (fun a => 4 - a.toInt.toNat) ?_ _ ⟨0, by omega, rfl, fun k hk => absurd hk (by omega)⟩
  intro n a hI hs2
  obtain ⟨i, hi, ea, hk⟩ := hI
  subst ea
  show bod_X8_isWrittenTo_2 W Q p (fun v0 => lp_X8_isWrittenTo_2 W Q p n v0) (nI i)
  unfold bod_X8_isWrittenTo_2
  refine q_if (nI_leI (a := 4) (by decide) (by omega)) (fun q => h0 (fun k hk2 => hk k (by omega))) (fun q => ?_)
  refine q_in (by omega) (by decide) ?_
  rw [nI_clamp (by omega)]
  refine ⟨fun e => ?_, fun e => h1 ⟨i, by omega, e⟩⟩
  intro x2 hx2
  rw [hx2, nI_1]
  refine hs2 _ ⟨i + 1, by omega, rfl, fun k hk2 => ?_⟩ ?_
  · rcases Nat.lt_or_ge k i with z | z
    · exact hk k z
    · rw [show k = i by omega]; exact e
  · rw [nI_toInt (by omega), nI_toInt (by omega)]
    omega
