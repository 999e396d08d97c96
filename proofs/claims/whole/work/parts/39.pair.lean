/-! ===== begin and stop ===== -/
theorem neg1_ne : ∀ r, r < 4 → (-1 : Int32) ≠ nI r := by
  intro r hr e
  have := (fa_eq _ _).mp e
  rw [nI_toInt (by omega)] at this
  have z : (-1 : Int32).toInt = -1 := by decide
  omega
theorem upd_eq {f g : Nat → Int32} {i : Nat} {v : Int32} {N : Nat} (h : ∀ k, k < N → f k = g k) : ∀ k, k < N → upd f i v k = upd g i v k := by
  intro k hk
  by_cases e : k = i
  · rw [e, pk_us, pk_us]
  · rw [pk_un e, pk_un e]; exact h k hk
def cnt4 (f : Nat → Prop) [DecidablePred f] : Nat → Nat
  | 0 => 0
  | n + 1 => if f n then cnt4 f n + 1 else cnt4 f n
def bc1 (x : Int32) : Int32 := x - (((x).toUInt32 >>> (((1 : Int32)).toUInt32 &&& Int32.toUInt32 31)).toInt32 &&& (1431655765 : Int32))
def bc2 (x : Int32) : Int32 := (x &&& (858993459 : Int32)) + (((x).toUInt32 >>> (((2 : Int32)).toUInt32 &&& Int32.toUInt32 31)).toInt32 &&& (858993459 : Int32))
def bc3 (x : Int32) : Int32 := (x + ((x).toUInt32 >>> (((4 : Int32)).toUInt32 &&& Int32.toUInt32 31)).toInt32) &&& (252645135 : Int32)
def bc4 (x : Int32) : Int32 := x + ((x).toUInt32 >>> (((8 : Int32)).toUInt32 &&& Int32.toUInt32 31)).toInt32
def bc5 (x : Int32) : Int32 := (x + ((x).toUInt32 >>> (((16 : Int32)).toUInt32 &&& Int32.toUInt32 31)).toInt32) &&& (63 : Int32)
theorem sp_bitCount {p : Int32} {Q : Int32 → Prop} (h : Q (bc5 (bc4 (bc3 (bc2 (bc1 p)))))) : wp_J6_bitCount_0f7a4 p Q := by
  unfold wp_J6_bitCount_0f7a4
  intro a ha b hb c hc d hd e he
  rw [he, hd, hc, hb, ha]
  exact h
theorem bits_cnt (f : Nat → Prop) [DecidablePred f] : bc5 (bc4 (bc3 (bc2 (bc1 (bits4 f 4))))) = nI (cnt4 f 4) := by
  by_cases h0 : f 0 <;> by_cases h1 : f 1 <;> by_cases h2 : f 2 <;> by_cases h3 : f 3 <;> simp only [bits4, cnt4, h0, h1, h2, h3, if_true, if_false] <;> decide +kernel
theorem sp_writing {W : Nat → Int32} {f : Nat → Prop} [DecidablePred f] {Q : Int32 → Prop} (hf : ∀ r, r < 4 → (f r ↔ W r ≠ -1)) (h : Q (nI (cnt4 f 4))) : wp_X8_writing W Q := by
  unfold wp_X8_writing
  intro x ex y ey
  rw [ex, ey]
  refine lp2 (fun n a b => lp_X8_writing_4 W Q n a b) (fun a b => ∃ i, i ≤ 4 ∧ b = nI i ∧ a = nI (cnt4 f i)) (fun _ b => 4 - b.toInt.toNat) ?_ _ _ ⟨0, by omega, rfl, rfl⟩
  intro n a b hI hs2
  obtain ⟨i, hi, eb, ea⟩ := hI
  subst ea eb
  show bod_X8_writing_4 W Q (fun v0 v1 => lp_X8_writing_4 W Q n v0 v1) _ (nI i)
  unfold bod_X8_writing_4
  refine q_if (nI_leI (a := 4) (by decide) (by omega)) (fun q => ?_) (fun q => ?_)
  · have e4 : i = 4 := by omega
    subst e4
    exact h
  · have hst : ∀ w, cnt4 f i + w = cnt4 f (i + 1) → blk_X8_writing_25 W (fun v0 v1 => lp_X8_writing_4 W Q n v0 v1) Q (nI i) (nI (cnt4 f i)) (nI w) := by
      intro w hw
      unfold blk_X8_writing_25
      intro x1 hx1 x7 hx7
      rw [hx7, nI_1, hx1, nI_add, hw]
      refine hs2 _ _ ⟨i + 1, by omega, rfl, rfl⟩ ?_
      rw [nI_toInt (by omega), nI_toInt (by omega)]
      omega
    refine q_in (by omega) (by decide) ?_
    rw [nI_clamp (by omega)]
    refine ⟨fun e1 => hst 1 ?_, fun e0 => hst 0 ?_⟩
    · have hfi : f i := (hf i (by omega)).mpr e1
      show _ = (if f i then _ else _); rw [if_pos hfi]
    · have hfi : ¬ f i := fun q => (hf i (by omega)).mp q e0
      show _ = (if f i then _ else _); rw [if_neg hfi]; rfl
theorem sp_recOut {p : Int32} {W : Nat → Int32} {Q : Int32 → Prop} (o : p.toInt < 0 ∨ ((4 : Nat) : Int) ≤ p.toInt) (h : Q (-1)) : wp_X2_recorderOf p W Q := by
  unfold wp_X2_recorderOf
  have z : (0 : Int32).toInt = 0 := by decide
  have z4 : (4 : Int32).toInt = 4 := by decide
  exact q_if (fa_lt _ _) (fun _ => h) (fun a => q_if (fa_lt _ _) (fun b => absurd o (by omega)) (fun _ => h))
theorem sp_in4out {p : Int32} {Q : Int32 → Prop} (o : p.toInt < 0 ∨ ((4 : Nat) : Int) ≤ p.toInt) (h : Q 0) : wp_X8_isIn p.toInt64 0 3 Q := by
  have z : (0 : Int64).toInt = 0 := by decide
  have z3 : (3 : Int64).toInt = 3 := by decide
  have e : p.toInt64.toInt = p.toInt := Int32.toInt_toInt64 p
  exact sp_isIn (fun _ _ => absurd o (by omega)) (fun _ => h)
theorem stp_begin : Stp_begin Inv := by
  unfold Stp_begin
  intro p0 active rests writers tbytes tlen dbytes dlen next known rec m_made m_sort m_digits m_slots m_pages m_highest m_units m_kinds m_rows m_marks q_active q_rests q_writers l_made l_sort l_digits l_slots l_pages l_highest l_units l_kinds l_rows l_marks t_tape t_taped t_set t_highest t_units t_kinds t_sideKind t_side t_active t_rests t_writes t_more t_packed t_packedMany t_at t_wrong t_number t_readSort t_readDigits t_readHighest t_wasSet t_wasHighest t_wasUnits t_wasKinds t_wasSideKind t_wasSide t_undone hI
  obtain ⟨hT, ⟨ea, er, ew⟩, hO, hL, ⟨⟨n, x, hn, hx, ek, ex, eu, hl⟩, hb1, hb2, hb3, hb4, hb5, hb6⟩⟩ := id hI
  subst ea er ek ex eu
  unfold wp_X7_begin wp_X8_begin
  have z : (0 : Int32).toInt = 0 := by decide
  have z4 : (4 : Int32).toInt = 4 := by decide
  rcases page_cases p0 (P := 4) (by decide) with ⟨i, hi, e⟩ | o
  · subst e
    refine ⟨fun n => absurd n (nI_nneg (by omega)), fun _ => q_if (nI_leI (a := 4) (by decide) (by omega)) (fun n => absurd hi (by omega)) (fun _ => ?_)⟩
    refine sp_recorderOf hi ⟨fun hne => ?_, fun he => ?_⟩
    · refine sp_in4 hi (by decide) (q1b ?_)
      exact sp_isWriting hi (fun _ => q1a ⟨rfl, hI⟩) (fun e0 => absurd ((ew i hi).trans e0) hne)
    · rcases made_cases l_made l_sort l_digits l_slots l_pages l_highest l_units l_kinds l_rows l_marks t_set t_highest t_units t_kinds t_sideKind t_side hL active with ⟨r, hr, e, so, d, h, u, k, rr, m, hA, hC, hM⟩ | ho
      · subst e
        refine sp_madeAt_in hr hC.1 (opt_s ?_)
        refine sp_remember_none neg1_ne hx hn (fun W hW => ?_)
        refine sp_setRec hi ?_
        refine sp_in4 hi (by decide) (q1b ?_)
        refine sp_isWriting hi (fun e1 => absurd ((ew i hi).symm.trans he) e1) (fun _ => q0a ?_)
        refine sp_isMade_in hr hM.2.2.2.1 (q1a ?_)
        refine sp_keepsAct hn hb1 hb2 hb3 hb4 hb5 hb6 (fun wS wH wU wK wX wD k1 k2 k3 k4 k5 k6 hb7 hb8 hb9 => ?_)
        refine q_in hi (by decide) ?_
        rw [nI_clamp (by omega)]
        intro y hy
        rw [hy]
        refine ⟨rfl, hT, ⟨rfl, rfl, upd_eq ew⟩, ⟨hO.1, hO.2.1, fun k hk => ?_⟩, hL, ?_, hb1, hb2, hb3, hb7, hb8, hb9⟩
        · by_cases e : k = i
          · rw [e, pk_us]
            have hr2 : r < 2 := by
              rcases hO.1 with e | e
              · have := (nI_eq (a := r) (b := 0) (by omega) (by omega)).mp e; omega
              · have := (nI_eq (a := r) (b := 1) (by omega) (by omega)).mp e; omega
            exact Or.inr ⟨r, hr2, rfl, hM.2.2.2.1⟩
          · rw [pk_un e]; exact hO.2.2 k hk
        · exact Hist_act hn hx hl k1 k2 k3 k4 k5 k6 hO rfl rfl (fun k hk => (hW k hk).trans (ew k hk)) (fun i _ => ⟨rfl, rfl, rfl, rfl, rfl, rfl, rfl, rfl, rfl, rfl⟩) (Or.inl rfl) (fun r hr _ => ⟨fun _ _ => rfl, rfl, fun _ _ => rfl, fun _ _ => rfl, fun _ _ => rfl, fun _ _ => rfl⟩)
      · refine sp_madeAt_out (fun r hr e => (ho r hr e).1) (opt_n ?_)
        refine sp_in4 hi (by decide) (q1b ?_)
        refine sp_isWriting hi (fun e1 => absurd ((ew i hi).symm.trans he) e1) (fun _ => q0a ?_)
        exact sp_isMade_out (fun r hr e => (ho r hr e).2) (q0a ⟨rfl, hI⟩)
  · refine q_if (fa_lt _ _) (fun _ => sp_in4out o (q0b ⟨rfl, hI⟩)) (fun a => q_if (fa_le _ _) (fun _ => sp_in4out o (q0b ⟨rfl, hI⟩)) (fun b => absurd o (by omega)))
theorem stp_stop : Stp_stop Inv := by
  unfold Stp_stop
  intro p0 active rests writers tbytes tlen dbytes dlen next known rec m_made m_sort m_digits m_slots m_pages m_highest m_units m_kinds m_rows m_marks q_active q_rests q_writers l_made l_sort l_digits l_slots l_pages l_highest l_units l_kinds l_rows l_marks t_tape t_taped t_set t_highest t_units t_kinds t_sideKind t_side t_active t_rests t_writes t_more t_packed t_packedMany t_at t_wrong t_number t_readSort t_readDigits t_readHighest t_wasSet t_wasHighest t_wasUnits t_wasKinds t_wasSideKind t_wasSide t_undone hI
  obtain ⟨hT, ⟨ea, er, ew⟩, hO, hL, ⟨⟨n, x, hn, hx, ek, ex, eu, hl⟩, hb1, hb2, hb3, hb4, hb5, hb6⟩⟩ := id hI
  subst ea er ek ex eu
  unfold wp_X7_stop wp_X8_stop
  rcases page_cases p0 (P := 4) (by decide) with ⟨i, hi, e⟩ | o
  · subst e
    refine sp_recorderOf hi ⟨fun hne => ?_, fun he => ?_⟩
    · refine sp_remember_none neg1_ne hx hn (fun W hW => ?_)
      refine sp_setRec hi ?_
      refine sp_writerBits (f := fun k => upd t_writes i (-1) k ≠ -1) (fun k hk => by rw [upd_eq ew k hk]) ?_
      refine sp_bitCount ?_
      rw [bits_cnt]
      refine sp_isWriting hi (fun _ => q1a ?_) (fun e0 => absurd ((ew i hi).trans e0) hne)
      refine sp_keepsAct hn hb1 hb2 hb3 hb4 hb5 hb6 (fun wS wH wU wK wX wD k1 k2 k3 k4 k5 k6 hb7 hb8 hb9 => ?_)
      refine q_in hi (by decide) ?_
      rw [nI_clamp (by omega)]
      intro y hy
      rw [hy]
      refine sp_writing (f := fun k => upd t_writes i (-1) k ≠ -1) (fun k hk => Iff.rfl) ?_
      refine ⟨rfl, hT, ⟨rfl, rfl, upd_eq ew⟩, ⟨hO.1, hO.2.1, fun k hk => ?_⟩, hL, ?_, hb1, hb2, hb3, hb7, hb8, hb9⟩
      · by_cases e : k = i
        · rw [e, pk_us]; exact Or.inl rfl
        · rw [pk_un e]; exact hO.2.2 k hk
      · exact Hist_act hn hx hl k1 k2 k3 k4 k5 k6 hO rfl rfl (fun k hk => (hW k hk).trans (ew k hk)) (fun i _ => ⟨rfl, rfl, rfl, rfl, rfl, rfl, rfl, rfl, rfl, rfl⟩) (Or.inl rfl) (fun r hr _ => ⟨fun _ _ => rfl, rfl, fun _ _ => rfl, fun _ _ => rfl, fun _ _ => rfl, fun _ _ => rfl⟩)
    · exact sp_isWriting hi (fun e1 => absurd ((ew i hi).symm.trans he) e1) (fun _ => q0a ⟨rfl, hI⟩)
  · refine sp_recOut o ⟨fun n => absurd rfl n, fun _ => ?_⟩
    unfold wp_X8_isWriting
    exact sp_in4out o (q0b (q0a ⟨rfl, hI⟩))
