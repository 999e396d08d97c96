/-! ===== make ===== -/
theorem sp_set_in {so d h : Nat} {Q : Int32 → Prop} (hso : so = 0 ∨ so = 1) (hd : d = 1 ∨ d = 2) (h1 : 1000 ≤ h) (h2 : h ≤ 1000000000000) (k : Q 1) : wp_X7_isSetting (nI so) (nI d) (lN h) Q := by
  have c : blk_X7_isSetting_19 Q (lN h) := by
    unfold blk_X7_isSetting_19
    exact q_if (pk_lLT (b := 1000) (by omega) (by decide)) (fun n => absurd n (by omega)) (fun _ => q_if (pk_lLT (a := 1000000000000) (by decide) (by omega)) (fun n => absurd n (by omega)) (fun _ => k))
  have c2 : blk_X7_isSetting_9 Q (nI d) (lN h) := by
    unfold blk_X7_isSetting_9
    rcases hd with e | e <;> subst e
    · exact ⟨fun _ => c, fun n => absurd rfl n⟩
    · exact ⟨fun n => absurd n (by decide), fun _ => ⟨fun n => absurd rfl n, fun _ => c⟩⟩
  unfold wp_X7_isSetting
  rcases hso with e | e <;> subst e
  · exact ⟨fun _ => c2, fun n => absurd rfl n⟩
  · exact ⟨fun n => absurd n (by decide), fun _ => ⟨fun n => absurd rfl n, fun _ => c2⟩⟩
theorem sp_set_out {p0 p1 : Int32} {p2 : Int64} {Q : Int32 → Prop} (o : p0.toInt < 0 ∨ 1 < p0.toInt ∨ p1.toInt < 1 ∨ 2 < p1.toInt ∨ p2.toInt < 1000 ∨ 1000000000000 < p2.toInt) (k : Q 0) : wp_X7_isSetting p0 p1 p2 Q := by
  have a0 : (0 : Int32).toInt = 0 := by decide
  have a1 : (1 : Int32).toInt = 1 := by decide
  have a2 : (2 : Int32).toInt = 2 := by decide
  have a3 : (1000 : Int64).toInt = 1000 := by decide
  have a4 : (1000000000000 : Int64).toInt = 1000000000000 := by decide
  have c : (0 ≤ p0.toInt → p0.toInt ≤ 1 → 1 ≤ p1.toInt → p1.toInt ≤ 2 → blk_X7_isSetting_19 Q p2) := by
    intro q1 q2 q3 q4
    unfold blk_X7_isSetting_19
    exact q_if (fa_lt64 _ _) (fun _ => k) (fun b => q_if (fa_lt64 _ _) (fun _ => k) (fun e => absurd o (by omega)))
  have c2 : (0 ≤ p0.toInt → p0.toInt ≤ 1 → blk_X7_isSetting_9 Q p1 p2) := by
    intro q1 q2
    unfold blk_X7_isSetting_9
    exact q_if (fa_eq _ _) (fun e => c q1 q2 (by omega) (by omega)) (fun e => q_fi (fa_eq _ _) (fun e => c q1 q2 (by omega) (by omega)) (fun _ => k))
  unfold wp_X7_isSetting
  exact q_if (fa_eq _ _) (fun e => c2 (by omega) (by omega)) (fun e => q_fi (fa_eq _ _) (fun e => c2 (by omega) (by omega)) (fun _ => k))
theorem LRs_made {l_made : Nat → Int32} {l_sort : Nat → Int32} {l_digits : Nat → Int32} {l_slots : Nat → Int32} {l_pages : Nat → Int32} {l_highest : Nat → Int64} {l_units : Nat → Nat → Int64} {l_kinds : Nat → Nat → Int32} {l_rows : Nat → Nat → Int32} {l_marks : Nat → Nat → Int32} {t_set : Nat → Int32} {t_highest t_units : Nat → Int64} {t_kinds t_sideKind t_side : Nat → Int32} {r : Nat} (h : LRs l_made l_sort l_digits l_slots l_pages l_highest l_units l_kinds l_rows l_marks t_set t_highest t_units t_kinds t_sideKind t_side r) : l_made r = 0 ∨ l_made r = 1 := by
  rcases h with ⟨a, _⟩ | ⟨so, d, h, u, k, rr, m, hA, hC, hM⟩
  · exact Or.inl a
  · exact Or.inr hC.1
theorem stp_make : Stp_make Inv := by
  unfold Stp_make
  intro p0 p1 p2 p3 active rests writers tbytes tlen dbytes dlen next known rec m_made m_sort m_digits m_slots m_pages m_highest m_units m_kinds m_rows m_marks q_active q_rests q_writers l_made l_sort l_digits l_slots l_pages l_highest l_units l_kinds l_rows l_marks t_tape t_taped t_set t_highest t_units t_kinds t_sideKind t_side t_active t_rests t_writes t_more t_packed t_packedMany t_at t_wrong t_number t_readSort t_readDigits t_readHighest t_wasSet t_wasHighest t_wasUnits t_wasKinds t_wasSideKind t_wasSide t_undone hI
  obtain ⟨hT, ⟨ea, er, ew⟩, hO, hL, ⟨⟨n, x, hn, hx, ek, ex, eu, hl⟩, hb1, hb2, hb3, hb4, hb5, hb6⟩⟩ := id hI
  subst ea er ek ex eu
  unfold wp_X7_make wp_X8_make
  have a0 : (0 : Int64).toInt = 0 := by decide
  have a1 : (1 : Int64).toInt = 1 := by decide
  have a2 : (2 : Int64).toInt = 2 := by decide
  have a3 : (1000 : Int64).toInt = 1000 := by decide
  have a4 : (1000000000000 : Int64).toInt = 1000000000000 := by decide
  have e1 : p1.toInt64.toInt = p1.toInt := Int32.toInt_toInt64 p1
  have e2 : p2.toInt64.toInt = p2.toInt := Int32.toInt_toInt64 p2
  rcases page_cases p0 (P := 4) (by decide) with ⟨r, hr, e⟩ | o
  · subst e
    refine sp_ledgerAt_in hr (opt_s ?_)
    by_cases o : p1.toInt < 0 ∨ 1 < p1.toInt ∨ p2.toInt < 1 ∨ 2 < p2.toInt ∨ p3.toInt < 1000 ∨ 1000000000000 < p3.toInt
    · refine sp_set_out o (q0a ?_)
      refine sp_in4 hr (by decide) (q1b ?_)
      refine sp_isIn (fun _ _ => q1b ?_) (fun _ => q0b ⟨rfl, hI⟩)
      refine sp_isIn (fun _ _ => q1b ?_) (fun _ => q0b ⟨rfl, hI⟩)
      exact sp_isIn (fun _ _ => absurd o (by omega)) (fun _ => q0a ⟨rfl, hI⟩)
    · obtain ⟨d, hd, ed⟩ := dig_of (p := p2) (by omega) (by omega)
      obtain ⟨h, hh, eh⟩ := lon_of (p := p3) (by omega)
      obtain ⟨so, hso, es⟩ : ∃ so, (so = 0 ∨ so = 1) ∧ p1 = nI so := by
        rcases what_of (p := p1) (by omega) (by omega) with e | e | e
        · exact ⟨0, Or.inl rfl, e⟩
        · exact ⟨1, Or.inr rfl, e⟩
        · rw [e] at o; exact absurd (Or.inr (Or.inl (by decide))) o
      subst ed eh es
      rw [pk_lT hh] at o
      have h1 : 1000 ≤ h := by omega
      have h2 : h ≤ 1000000000000 := by omega
      refine sp_set_in hso hd h1 h2 (q1a ?_)
      refine sp_remember_in hr hx hn (LRs_made (hL r hr)) (fun W U K R M hW hc => ?_)
      refine sp_open hd h2 (fun m s dd sl pg hg U2 K2 R2 M2 hC2 => ?_)
      refine sp_in4 hr (by decide) (q1b ?_)
      refine sp_isIn (fun _ _ => q1b ?_) (fun q => absurd q (by omega))
      refine sp_isIn (fun _ _ => q1b ?_) (fun q => absurd q (by omega))
      refine sp_isIn (fun _ _ => q1a ?_) (fun q => absurd q (by rw [pk_lT hh]; omega))
      refine sp_keepsAct hn hb1 hb2 hb3 hb4 hb5 hb6 (fun wS wH wU wK wX wD k1 k2 k3 k4 k5 k6 hb7 hb8 hb9 => ?_)
      refine sp_becomes hr hd h2 hb1 hb2 hb3 (fun s' h' u' k' x' d' ho hM2 _ hb10 hb11 hb12 => ?_)
      refine sp_of (c := 2) hr (by decide) ?_
      have hs2 : s' (4 * r + 2) = nI (Slot d h + 1) := hM2.2.2.1
      have hs3 : s' (4 * r + 3) = 1 := hM2.2.2.2.1
      refine ⟨?_, hT, ⟨rfl, rfl, ew⟩, PairOK_eq hO rfl rfl (fun _ _ => rfl) (fun i hi h => ?_), LRs_act hr hL (fun i hi => ⟨va_up_ne _ _ hi, va_up_ne _ _ hi, va_up_ne _ _ hi, va_up_ne _ _ hi, va_up_ne _ _ hi, va_up_ne _ _ hi, va_up_ne _ _ hi, va_up_ne _ _ hi, va_up_ne _ _ hi, va_up_ne _ _ hi⟩) ho ?_, ?_, hb10, hb11, hb12, hb7, hb8, hb9⟩
      · rw [va_up_self, hs2]; exact hC2.2.2.2.1
      · by_cases e : i = r
        · rw [e]; exact hs3
        · show s' (4 * i + 3) = 1
          rw [ho.1 _ (by omega)]; exact h
      · unfold LRs
        rw [va_up_self, va_up_self, va_up_self, va_up_self, va_up_self, va_up_self, va_up_self, va_up_self, va_up_self, va_up_self]
        exact Or.inr ⟨so, d, h, _, _, _, _, Abs_0 hso hd h1 h2, hC2, hM2⟩
      · exact Hist_act hn hx hl k1 k2 k3 k4 k5 k6 hO rfl rfl (fun k hk => (hW k hk).trans (ew k hk)) (fun i hi => ⟨va_up_ne _ _ hi, va_up_ne _ _ hi, va_up_ne _ _ hi, va_up_ne _ _ hi, va_up_ne _ _ hi, va_up_ne _ _ hi, va_up_ne _ _ hi, va_up_ne _ _ hi, va_up_ne _ _ hi, va_up_ne _ _ hi⟩) (Or.inr ⟨r, hr, rfl, by
          rw [va_up_self, va_up_self, va_up_self, va_up_self, va_up_self, va_up_self, va_up_self, va_up_self, va_up_self, va_up_self]
          exact LR_eq (hL r hr) hc (fun _ _ => rfl) rfl (fun _ _ => rfl) (fun _ _ => rfl) (fun _ _ => rfl) (fun _ _ => rfl)⟩) (Oth_same ho)
  · refine sp_ledgerAt_out (fun r hr e => ?_) (opt_n ?_)
    · rw [e, nI_toInt (by omega)] at o; omega
    · exact sp_in4out o (q0b ⟨rfl, hI⟩)
