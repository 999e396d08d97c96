/-! ===== swap ===== -/
theorem stp_swap : Stp_swap Inv := by
  unfold Stp_swap
  intro active rests writers tbytes tlen dbytes dlen next known rec m_made m_sort m_digits m_slots m_pages m_highest m_units m_kinds m_rows m_marks q_active q_rests q_writers l_made l_sort l_digits l_slots l_pages l_highest l_units l_kinds l_rows l_marks t_tape t_taped t_set t_highest t_units t_kinds t_sideKind t_side t_active t_rests t_writes t_more t_packed t_packedMany t_at t_wrong t_number t_readSort t_readDigits t_readHighest t_wasSet t_wasHighest t_wasUnits t_wasKinds t_wasSideKind t_wasSide t_undone hI
  obtain ⟨hT, ⟨ea, er, ew⟩, hO, hL, ⟨⟨n, x, hn, hx, ek, ex, eu, hl⟩, hb1, hb2, hb3, hb4, hb5, hb6⟩⟩ := id hI
  subst ea er ek ex eu
  unfold wp_X7_swap
  have hf : ∀ r, r < 4 → (l_made r = 0 ∧ t_set (4 * r + 3) = 0) ∨ (l_made r = 1 ∧ t_set (4 * r + 3) = 1) := by
    intro r hr
    rcases hL r hr with h | ⟨so, d, h, u, k, rr, m, hA, hC, hM⟩
    · exact Or.inl h
    · exact Or.inr ⟨hC.1, hM.2.2.2.1⟩
  obtain ⟨a, b, hab, ea, eb⟩ : ∃ a b, ((a = 0 ∧ b = 1) ∨ (a = 1 ∧ b = 0)) ∧ active = nI a ∧ (1 : Int32) - nI a = nI b := by
    rcases hO.1 with e | e
    · exact ⟨0, 1, Or.inl ⟨rfl, rfl⟩, e, by decide⟩
    · exact ⟨1, 0, Or.inr ⟨rfl, rfl⟩, e, by decide⟩
  subst ea
  have ha4 : a < 4 := by omega
  have hr : b < 4 := by omega
  rw [eb]
  have mout : (t_set (4 * 0 + 3) = 0 ∨ t_set (4 * 1 + 3) = 0) → ∀ {Q : Int32 → (Nat → Int64) → (Nat → Int32) → (Nat → Int32) → (Nat → Int32) → Int32 → Int32 → (Nat → Int32) → (Nat → Int64) → (Nat → Int64) → (Nat → Int32) → (Nat → Int32) → (Nat → Int32) → Int32 → Prop}, Q (-1) t_units t_kinds t_sideKind t_side (nI a) rests t_wasSet t_wasHighest t_wasUnits t_wasKinds t_wasSideKind t_wasSide (nI n) → wp_X8_swap t_set t_highest t_units t_kinds t_sideKind t_side (nI a) rests t_writes t_wasSet t_wasHighest t_wasUnits t_wasKinds t_wasSideKind t_wasSide (nI n) Q := by
    intro h0 Q hq
    unfold wp_X8_swap
    rcases hf 0 (by decide) with ⟨_, z⟩ | ⟨_, z⟩
    · exact sp_isMade_out (p := 0) (fun r hr e => by
        have : 0 = r := (nI_eq (a := 0) (by decide) (by omega)).mp e
        rw [← this]; exact z) (q0b hq)
    · refine sp_isMade_in (r := 0) (by decide) z (q1b ?_)
      have z1 : t_set (4 * 1 + 3) = 0 := by
        rcases h0 with h | h
        · exact absurd (h.symm.trans z) (by decide)
        · exact h
      exact sp_isMade_out (p := 1) (fun r hr e => by
        have : 1 = r := (nI_eq (a := 1) (by decide) (by omega)).mp e
        rw [← this]; exact z1) (q0a hq)
  rcases hf b hr with ⟨lb, tb⟩ | ⟨lb, tb⟩
  · refine sp_madeAt_out (fun r hr2 e => ?_) (opt_n ?_)
    · have : b = r := (nI_eq (by omega) (by omega)).mp e
      rw [← this]; exact lb
    · refine mout ?_ ⟨rfl, hI⟩
      rcases hab with ⟨e1, e2⟩ | ⟨e1, e2⟩ <;> subst e1 e2
      · exact Or.inr tb
      · exact Or.inl tb
  refine sp_madeAt_in hr lb (opt_s ?_)
  rcases hf a ha4 with ⟨la, ta⟩ | ⟨la, ta⟩
  · refine sp_madeAt_out (fun r hr2 e => ?_) (opt_n ?_)
    · have : a = r := (nI_eq (by omega) (by omega)).mp e
      rw [← this]; exact la
    · refine mout ?_ ⟨rfl, hI⟩
      rcases hab with ⟨e1, e2⟩ | ⟨e1, e2⟩ <;> subst e1 e2
      · exact Or.inl ta
      · exact Or.inr ta
  refine sp_madeAt_in ha4 la (opt_s ?_)
  have m0 : t_set (4 * 0 + 3) = 1 := by rcases hab with ⟨e1, e2⟩ | ⟨e1, e2⟩ <;> subst e1 e2 <;> assumption
  have m1 : t_set (4 * 1 + 3) = 1 := by rcases hab with ⟨e1, e2⟩ | ⟨e1, e2⟩ <;> subst e1 e2 <;> assumption
  refine sp_X2_isWrittenTo (fun ⟨k, hk, e2⟩ => q1b ?_) (fun hno => q0b ?_)
  · unfold wp_X8_swap
    refine sp_isMade_in (r := 0) (by decide) m0 (q1b ?_)
    refine sp_isMade_in (r := 1) (by decide) m1 (q1a ?_)
    rw [eb]
    exact sp_X8_isWrittenTo (fun _ => q1b ⟨rfl, hI⟩) (fun hno => absurd ((ew k hk).symm.trans e2) (hno k hk))
  · rcases hL b hr with h | ⟨so, d, h, u, k, rr, m, hA, hC, hM⟩
    · exact absurd (h.1.symm.trans lb) (by decide)
    have hd := hA.2.1
    have h2 := hA.2.2.2.1
    have ⟨b1, b2, b3, b4⟩ := PG_b hd h2
    refine sp_remember_in hr hx hn (Or.inr lb) (fun W U K R M hW hc => ?_)
    unfold wp_X1_clear
    intro U2 hU2 K2 hK2 R2 hR2 M2 hM2
    intro re' hre ac' hac
    unfold wp_X8_swap
    refine sp_isMade_in (r := 0) (by decide) m0 (q1b ?_)
    refine sp_isMade_in (r := 1) (by decide) m1 (q1a ?_)
    rw [eb]
    refine sp_X8_isWrittenTo (fun ⟨k, hk, e2⟩ => absurd ((ew k hk).trans e2) (hno k hk)) (fun _ => q0b ?_)
    refine sp_keepsAct hn hb1 hb2 hb3 hb4 hb5 hb6 (fun wS wH wU wK wX wD k1 k2 k3 k4 k5 k6 hb7 hb8 hb9 => ?_)
    refine sp_clears hr hb1 hb2 hb3 (fun u' k' x' d' o1 o2 o3 o4 z1 z2 z3 z4 hb10 hb11 hb12 => ?_)
    intro r2 hr2 a2 ha2
    rw [hre, hac, hr2, ha2]
    have ho : Oth b t_set t_set t_highest t_highest u' t_units k' t_kinds x' t_sideKind d' t_side := ⟨Only_rfl, fun _ _ => rfl, o1, o2, o3, o4⟩
    refine ⟨rfl, hT, ⟨rfl, rfl, ew⟩, ⟨?_, Or.inr ⟨a, by omega, rfl, ta⟩, hO.2.2⟩, LRs_act hr hL (fun i hi => ⟨rfl, rfl, rfl, rfl, rfl, rfl, va_up_ne _ _ hi, va_up_ne _ _ hi, va_up_ne _ _ hi, va_up_ne _ _ hi⟩) ho ?_, ?_, hb10, hb11, hb12, hb7, hb8, hb9⟩
    · rcases hab with ⟨e1, e2⟩ | ⟨e1, e2⟩ <;> subst e1 e2
      · exact Or.inr rfl
      · exact Or.inl rfl
    · unfold LRs
      rw [va_up_self, va_up_self, va_up_self, va_up_self]
      obtain ⟨c_made, c_sort, c_dig, c_slots, c_pages, c_high, c_u, c_k, c_r, c_m⟩ := hC
      obtain ⟨v_sort, v_dig, v_slots, v_made, v_high, v_u, v_k, v_r, v_m⟩ := hM
      exact Or.inr ⟨so, d, h, _, _, _, _, Abs_0 hA.1 hd hA.2.2.1 h2, ⟨c_made, c_sort, c_dig, c_slots, c_pages, c_high, fun j hj => hU2 j (by omega), fun p hp => hK2 p (by omega), fun p hp => hR2 p (by omega), fun j hj => hM2 j (by omega)⟩, ⟨v_sort, v_dig, v_slots, v_made, v_high, fun j hj => z1 j (by omega), fun p hp => z2 p (by omega), fun p hp => z3 p (by omega), fun j hj => z4 j hj⟩⟩
    · exact Hist_act hn hx hl k1 k2 k3 k4 k5 k6 hO rfl rfl (fun k hk => (hW k hk).trans (ew k hk)) (fun i hi => ⟨va_up_ne _ _ hi, va_up_ne _ _ hi, va_up_ne _ _ hi, va_up_ne _ _ hi, va_up_ne _ _ hi, va_up_ne _ _ hi, va_up_ne _ _ hi, va_up_ne _ _ hi, va_up_ne _ _ hi, va_up_ne _ _ hi⟩) (Or.inr ⟨b, hr, rfl, by
          rw [va_up_self, va_up_self, va_up_self, va_up_self, va_up_self, va_up_self, va_up_self, va_up_self, va_up_self, va_up_self]
          exact LR_eq (hL b hr) hc (fun _ _ => rfl) rfl (fun _ _ => rfl) (fun _ _ => rfl) (fun _ _ => rfl) (fun _ _ => rfl)⟩) (Oth_same ho)
