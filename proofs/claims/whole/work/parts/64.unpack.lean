/-! ===== unpack ===== -/
theorem rnf_b {B : Nat → Nat} {n p0 : Nat} (hn : n ≤ 400) (hp : p0 ≤ 400) : ∀ (f k q x : Nat), q ≤ n → (rnf B n p0 f k q x).1 < 4000
  | 0, k, q, x, h => by show 8 * p0 + 2 < 4000; omega
  | f + 1, k, q, x, h => by
    show (if n ≤ q then (8 * q + 1, 0, q) else if B q < 128 then (0, x + B q % 128 * 2 ^ (7 * k), q + 1) else rnf B n p0 f (k + 1) (q + 1) (x + B q % 128 * 2 ^ (7 * k))).1 < 4000
    by_cases g : n ≤ q
    · rw [if_pos g]; show 8 * q + 1 < 4000; omega
    · rw [if_neg g]
      by_cases g2 : B q < 128
      · rw [if_pos g2]; show 0 < 4000; omega
      · rw [if_neg g2]
        exact rnf_b hn hp f _ _ _ (by omega)
theorem slf_b {B : Nat → Nat} {n N : Nat} (hn : n ≤ 400) : ∀ (f s zf q : Nat) (M : Nat → Nat), q ≤ n → zf ≤ 400 → (slf B n N f s zf q M).1 < 4000
  | 0, s, zf, q, M, _, _ => by show 0 < 4000; omega
  | f + 1, s, zf, q, M, hq0, hz => by
    by_cases hq : n ≤ q
    · rw [slf_end hq]
      show (if zf = 0 then 0 else 8 * zf + 4) < 4000
      split <;> omega
    have hb : (rn B n q).1 < 4000 := rnf_b hn (by omega) _ _ _ _ hq0
    rcases rn_more (B := B) (n := n) (q := q) with he | ⟨x, p, hr⟩
    · have : rn B n q = ((rn B n q).1, (rn B n q).2.1, (rn B n q).2.2) := rfl
      rw [slf_e hq this he]; exact hb
    by_cases h2 : x % 2 = 0 ∧ 1000000000000000 < x / 2
    · rw [slf_2 hq hr h2]; show 8 * q + 2 < 4000; omega
    by_cases h3 : x = 0 ∨ N - s < slo x ∨ (x % 2 = 1 ∧ zf ≠ 0)
    · rw [slf_3 hq hr h2 h3]; show 8 * q + 3 < 4000; omega
    rw [slf_n hq hr h2 h3]
    have hp := rnf_p _ _ _ _ _ _ (show rnf B n q 9 0 q 0 = (0, x, p) from hr)
    exact slf_b hn f _ _ _ _ (by omega) (by split <;> omega)
def zro : Nat → Nat := fun _ => 0
theorem sp_fill {B : Nat → Nat} {n so d h q0 : Nat} {tb : Nat → Int32} {p0 s0 d0 tm ts td tsl tp : Int32} {g0 th : Int64} {tu : Nat → Int64} {tk tr tmk : Nat → Int32} {Q : Int32 → Int32 → Int32 → Int32 → Int64 → Int32 → Int32 → Int32 → Int32 → Int32 → Int64 → (Nat → Int64) → (Nat → Int32) → (Nat → Int32) → (Nat → Int32) → Prop} (hT : Tp B n tb) (hB : ∀ k, k < n → B k < 256) (hn : n ≤ 400) (hHd : Hd B n = 0) (hso : so = B 1) (hd : d = B 2) (hr3 : rn B n 3 = (0, h, q0)) (hok : (slf B n (Slot d h + 1) (n - q0 + 1) 0 0 q0 zro).1 = 0)
    (kk : ∀ a b c e f made srt dg sl pg hi U K R M, CLed made srt dg sl pg hi U K R M so d h (slf B n (Slot d h + 1) (n - q0 + 1) 0 0 q0 zro).2 (shK so (slf B n (Slot d h + 1) (n - q0 + 1) 0 0 q0 zro).2) zro zro → Q a b c e f made srt dg sl pg hi U K R M) : wp_X6_fill p0 0 s0 d0 g0 tb (nI n) tm ts td tsl tp th tu tk tr tmk Q := by
  unfold wp_X6_fill
  refine sp_readHead hT hB hn rfl (fun so' d' h' q' a1 a2 a3 a4 a5 a6 a7 _ a8 a9 => ?_) (fun f a b c e ef fne _ => absurd (ef.trans hHd) fne)
  have e1 : so' = so := a5.trans hso.symm
  have e2 : d' = d := a6.trans hd.symm
  have e3 : h' = h := by have := a7.symm.trans hr3; exact congrArg (fun t => t.2.1) this
  have e4 : q' = q0 := by have := a7.symm.trans hr3; exact congrArg (fun t => t.2.2) this
  subst e1 e2 e3 e4
  have hP := PG_b a2 a4
  obtain ⟨b1, b2, b3, b4⟩ := hP
  refine sp_open a2 a4 (fun made srt dg sl pg hi U0 K0 R0 M0 hC => ?_)
  obtain ⟨c_made, c_sort, c_dig, c_slots, c_pages, c_high, c_u, c_k, c_r, c_m⟩ := hC
  subst c_sort
  have hk0 : ∀ p, KOK so' (zro p) (fun i => zro (16 * p + i)) := (Abs_0 a1 a2 a3 a4).2.2.2.2.2.1
  have hz0 : ∀ j, zro j ≤ 1000000000000000 := fun j => by show 0 ≤ _; omega
  have hNP : Slot d' h' + 1 ≤ 16 * PG d' h' := by omega
  have hN4 : Slot d' h' + 1 ≤ 4336 := by omega
  generalize eP : PG d' h' = P at *
  intro x2 hx2 x4 hx4
  rw [hx2, hx4]
  generalize eN : Slot d' h' + 1 = N at *
  generalize eR : slf B n N (n - q' + 1) 0 0 q' zro = R at *
  refine lp6 (fun m a b c e f g => lp_X6_fill_25 tb (nI n) Q (nI so') (nI d') (lN h') made (nI so') dg sl pg hi R0 M0 m a b c e f g) (fun a b c e U K => ∃ s zf q M j, slf B n N (n - q + 1) s zf q M = R ∧ 1 ≤ q ∧ q ≤ n ∧ s ≤ N ∧ j ≤ q ∧ a = lN s ∧ b = nI j ∧ c = nI q ∧ e = 0 ∧ Lay s M ∧ UK P U K M (fk so' zro zro M)) (fun _ b _ _ _ _ => 500 - b.toInt.toNat) ?_ _ _ _ _ _ _ ⟨0, 0, q', zro, 0, eR, by omega, a8, by omega, by omega, rfl, rfl, rfl, rfl, ⟨fun _ _ => rfl, hz0⟩, by rw [fk_0]; exact ⟨c_u, c_k⟩⟩
  intro m a b c e U K hI hs
  obtain ⟨s, zf, q, M, j, hR, hq1, hqn, hsN, hj, ea, eb, ec, ee, hLay, hUK⟩ := hI
  subst ea eb ec ee
  show bod_X6_fill_25 tb (nI n) Q (nI so') (nI d') (lN h') made (nI so') dg sl pg hi R0 M0 (fun v0 v1 v2 v3 v4 v5 => lp_X6_fill_25 tb (nI n) Q (nI so') (nI d') (lN h') made (nI so') dg sl pg hi R0 M0 m v0 v1 v2 v3 v4 v5) (lN s) (nI j) (nI q) 0 U K
  unfold bod_X6_fill_25
  have hfk := KOK_fk a1 hk0 hz0 hLay.2
  have hend : n ≤ q → blk_X6_fill_94 tb (nI n) Q (nI q) 0 (nI so') (nI d') (lN h') made (nI so') dg sl pg hi U K R0 M0 := by
    intro g
    rw [slf_end g] at hR
    have hM : R.2 = M := by rw [← hR]
    unfold blk_X6_fill_94
    refine sp_shelveAll a1 rfl b1 c_pages hUK.1 hLay.2 hUK.2 (fun p => KOK_le a1 (hfk p)) (fun p => (hfk p).1) (fun K2 hK2 => ?_)
    refine kk _ _ _ _ _ _ _ _ _ _ _ _ _ _ _ ?_
    rw [hM]
    unfold CLed
    rw [eN, eP]
    exact ⟨c_made, rfl, c_dig, c_slots, c_pages, c_high, hUK.1, hK2, c_r, c_m⟩
  refine q_if (nI_leI (a := 400) (by decide) (by omega)) (fun g => hend (by omega)) (fun g => ?_)
  refine q_if (nI_leI (by omega) (by omega)) (fun g2 => hend g2) (fun g2 => ?_)
  refine sp_nextNumber hT hB hn hqn (fun x p' hr hx hp1 hp2 => ?_) (fun f2 x p' hr hne hlt => ?_)
  rotate_left
  · rw [slf_e g2 hr hne] at hR
    rw [← hR] at hok
    exact absurd hok hne
  have h2 : ¬ (x % 2 = 0 ∧ 1000000000000000 < x / 2) := fun o => by
    rw [slf_2 g2 hr o] at hR
    rw [← hR] at hok
    have : 8 * q + 2 = 0 := hok
    omega
  have h3 : ¬ (x = 0 ∨ N - s < slo x ∨ (x % 2 = 1 ∧ zf ≠ 0)) := fun o => by
    rw [slf_3 g2 hr h2 o] at hR
    rw [← hR] at hok
    have : 8 * q + 3 = 0 := hok
    omega
  have hR2 := hR
  rw [slf_n g2 hr h2 h3] at hR2
  have hLay2 := Lay_n (x := x) (by omega) h2 hLay
  intro x5 hx5
  rw [hx5]
  have nxt : ∀ U2 K2, UK P U2 K2 (if x % 2 = 1 then M else upn M s (x / 2)) (fk so' zro zro (if x % 2 = 1 then M else upn M s (x / 2))) → blk_X6_fill_88 tb (nI n) (fun v0 v1 v2 v3 v4 v5 => lp_X6_fill_25 tb (nI n) Q (nI so') (nI d') (lN h') made (nI so') dg sl pg hi R0 M0 m v0 v1 v2 v3 v4 v5) Q (lN (s + slo x)) (nI j) (nI p') 0 (nI so') (nI d') (lN h') made (nI so') dg sl pg hi U2 K2 R0 M0 := by
    intro U2 K2 hUK2
    unfold blk_X6_fill_88
    intro x4b hx4b
    rw [hx4b, nI_1]
    refine hs _ _ _ _ _ _ ⟨s + slo x, (if x % 2 = 1 then q else 0), p', (if x % 2 = 1 then M else upn M s (x / 2)), j + 1, ?_, by omega, hp2, by omega, by omega, rfl, rfl, rfl, rfl, hLay2, hUK2⟩ ?_
    · rw [← hR2]
      exact slf_fuel _ _ _ _ _ _ (by omega) (by omega)
    · rw [nI_toInt (by omega), nI_toInt (by omega)]
      omega
  refine sp_isZ hx (fun o => q1b ?_) (fun o => q0b ?_)
  · refine sp_slotsOf hx ?_
    intro x2b hx2b
    rw [hx2b, lN_add]
    refine nxt _ _ ?_
    rw [if_pos o]
    exact hUK
  · have es : slo x = 1 := if_neg o
    rw [lN_i, lN_half (by omega)]
    refine sp_rewrite a1 b1 (by omega) hk0 hz0 hLay.2 (by omega) (Or.inl ⟨fun j => by show 0 ≤ _; omega, by rw [hLay.1 s (by omega)]; omega⟩) hUK (fun U2 K2 hUK2 => ?_)
    intro x2b hx2b
    rw [hx2b, lN_1, show s + 1 = s + slo x by rw [es]]
    refine nxt _ _ ?_
    rw [if_neg o]
    exact hUK2
theorem stp_unpack : Stp_unpack Inv := by
  unfold Stp_unpack
  intro p0 active rests writers tbytes tlen dbytes dlen next known rec m_made m_sort m_digits m_slots m_pages m_highest m_units m_kinds m_rows m_marks q_active q_rests q_writers l_made l_sort l_digits l_slots l_pages l_highest l_units l_kinds l_rows l_marks t_tape t_taped t_set t_highest t_units t_kinds t_sideKind t_side t_active t_rests t_writes t_more t_packed t_packedMany t_at t_wrong t_number t_readSort t_readDigits t_readHighest t_wasSet t_wasHighest t_wasUnits t_wasKinds t_wasSideKind t_wasSide t_undone hI
  obtain ⟨hT, ⟨ea, er, ew⟩, hO, hL, ⟨⟨n, x, hn, hx, ek, ex, eu, hl⟩, hb1, hb2, hb3, hb4, hb5, hb6⟩⟩ := id hI
  subst ea er ek ex eu
  obtain ⟨tn, B, htn, etl, etd, hB, hTp, hTr⟩ := TapeR_B hT
  subst etl etd
  have hT0 : TapeR tbytes 0 t_tape 0 := ⟨0, by omega, rfl, rfl, fun k hk => absurd hk (by omega)⟩
  unfold wp_X7_unpack
  rcases page_cases p0 (P := 4) (by decide) with ⟨r, hr, e⟩ | o
  rotate_left
  · refine sp_ledgerAt_out (fun r hr e => ?_) (opt_n ?_)
    · rw [e, nI_toInt (by omega)] at o; omega
    unfold wp_X8_unpack
    exact sp_in4out o (q0a ⟨rfl, hI⟩)
  subst e
  refine sp_ledgerAt_in hr (opt_s ?_)
  have bad : ∀ f : Nat, f = Hd B tn → f ≠ 0 → f < 4000 → wp_X8_unpack (nI r) t_tape (nI tn) t_set t_highest t_units t_kinds t_sideKind t_side active rests t_writes t_more t_at t_wrong t_number t_readSort t_readDigits t_readHighest t_wasSet t_wasHighest t_wasUnits t_wasKinds t_wasSideKind t_wasSide (nI n) (fun (r2 : Int32) (t_taped' : Int32) (t_set' : Nat → Int32) (t_highest' : Nat → Int64) (t_units' : Nat → Int64) (t_kinds' : Nat → Int32) (t_sideKind' : Nat → Int32) (t_side' : Nat → Int32) (t_more' : Nat → Int64) (t_at' : Int32) (t_wrong' : Int32) (t_number' : Int64) (t_readSort' : Int32) (t_readDigits' : Int32) (t_readHighest' : Int64) (t_wasSet' : Nat → Int32) (t_wasHighest' : Nat → Int64) (t_wasUnits' : Nat → Int64) (t_wasKinds' : Nat → Int32) (t_wasSideKind' : Nat → Int32) (t_wasSide' : Nat → Int32) (t_undone' : Int32) => ((-2 : Int32) - nI f) = r2 ∧ Inv active rests writers tbytes 0 dbytes dlen (nI x) (nI n) rec m_made m_sort m_digits m_slots m_pages m_highest m_units m_kinds m_rows m_marks q_active q_rests q_writers l_made l_sort l_digits l_slots l_pages l_highest l_units l_kinds l_rows l_marks t_tape t_taped' t_set' t_highest' t_units' t_kinds' t_sideKind' t_side' active rests t_writes t_more' t_packed t_packedMany t_at' t_wrong' t_number' t_readSort' t_readDigits' t_readHighest' t_wasSet' t_wasHighest' t_wasUnits' t_wasKinds' t_wasSideKind' t_wasSide' t_undone') := by
    intro f ef fne flt
    unfold wp_X8_unpack
    refine sp_in4 hr (by decide) (q1a ?_)
    refine sp_readsHead hTr hB htn (fun so d h q w nu a1 a2 a3 a4 a5 a6 a7 a8 a9 a10 => absurd (ef.trans a8) fne) (fun f2 a b c e g ef2 f2ne f2lt => q0b ?_)
    have e2 : f2 = f := ef2.trans ef.symm
    subst e2
    unfold blk_X8_unpack_32 blk_X8_unpack_33
    intro x2 hx2 tp htp
    rw [hx2, htp]
    exact q0a ⟨rfl, hT0, ⟨rfl, rfl, ew⟩, hO, hL, ⟨⟨n, x, hn, hx, rfl, rfl, rfl, hl⟩, hb1, hb2, hb3, hb4, hb5, hb6⟩⟩
  unfold wp_X6_faultOfAll
  refine sp_readHead hTp hB htn rfl (fun so d h q hso hd h1 h2 eso ed hr3 hHd hq hq3 => ?_) (fun f a b c e ef fne flt => ?_)
  rotate_left
  · have hnz : ¬ nI f = 0 := fun e => fne ((nI_eq (b := 0) (by omega) (by decide)).mp e)
    refine ⟨fun _ => ?_, fun e => absurd e hnz⟩
    exact ⟨fun _ => bad f ef fne flt, fun e => absurd e hnz⟩
  refine ⟨fun ne => absurd rfl ne, fun _ => ?_⟩
  refine sp_X7_slotOf hd (by omega) ?_
  rw [nI_1]
  have ⟨s1, _⟩ := Slot_le hd h2
  refine sp_checkSlots hTp hB htn hq (by omega) (by omega) (fun pl => ?_)
  have hlay := slf_lay (B := B) (n := tn) (N := Slot d h + 1) (tn - q + 1) 0 0 q zro (by omega) ⟨fun _ _ => rfl, fun j => by show 0 ≤ _; omega⟩
  have hbnd := slf_b (B := B) (n := tn) (N := Slot d h + 1) htn (tn - q + 1) 0 0 q zro hq (by omega)
  have same : ∀ {so' d' h' q' : Nat}, so' = B 1 → d' = B 2 → rn B tn 3 = (0, h', q') → so' = so ∧ d' = d ∧ h' = h ∧ q' = q := by
    intro so' d' h' q' e1 e2 e3
    have e4 := e3.symm.trans hr3
    exact ⟨e1.trans eso.symm, e2.trans ed.symm, congrArg (fun t => t.2.1) e4, congrArg (fun t => t.2.2) e4⟩
  by_cases hok : (slf B tn (Slot d h + 1) (tn - q + 1) 0 0 q zro).1 = 0
  rotate_left
  · have hnz : ¬ nI (slf B tn (Slot d h + 1) (tn - q + 1) 0 0 q zro).1 = 0 := fun e => hok ((nI_eq (b := 0) (by omega) (by decide)).mp e)
    refine ⟨fun _ => ?_, fun e => absurd e hnz⟩
    unfold wp_X8_unpack
    refine sp_in4 hr (by decide) (q1a ?_)
    refine sp_readsHead hTr hB htn (fun so' d' h' q' w nu a1 a2 a3 a4 a5 a6 a7 a8 a9 a10 => q1b ?_) (fun f2 a b c e g ef2 f2ne f2lt => absurd (ef2.trans hHd) f2ne)
    obtain ⟨e1, e2, e3, e4⟩ := same a5 a6 a7
    subst e1 e2 e3 e4
    refine sp_readsSlots hTr hB htn a9 (by omega) a2 a4 (fun z => absurd z hok) (fun _ m' a c => q0b ?_)
    unfold blk_X8_unpack_32 blk_X8_unpack_33
    intro x2 hx2 tp htp
    rw [hx2, htp]
    exact q0a ⟨rfl, hT0, ⟨rfl, rfl, ew⟩, hO, hL, ⟨⟨n, x, hn, hx, rfl, rfl, rfl, hl⟩, hb1, hb2, hb3, hb4, hb5, hb6⟩⟩
  rw [show (slf B tn (Slot d h + 1) (tn - q + 1) 0 0 q (fun _ => 0)).1 = 0 from hok]
  refine ⟨fun ne => absurd rfl ne, fun _ => ?_⟩
  refine sp_remember_in hr hx hn (LRs_made (hL r hr)) (fun W U K R M hW hc => ?_)
  refine sp_fill hTp hB htn hHd eso ed hr3 hok (fun _ _ _ _ _ made srt dg sl pg hi U2 K2 R2 M2 hC => ?_)
  unfold wp_X8_unpack
  refine sp_in4 hr (by decide) (q1a ?_)
  refine sp_readsHead hTr hB htn (fun so' d' h' q' w nu a1 a2 a3 a4 a5 a6 a7 a8 a9 a10 => q1b ?_) (fun f2 a b c e g ef2 f2ne f2lt => absurd (ef2.trans hHd) f2ne)
  obtain ⟨e1, e2, e3, e4⟩ := same a5 a6 a7
  subst e1 e2 e3 e4
  refine sp_readsSlots hTr hB htn a9 (by omega) a2 a4 (fun _ m' a w2 c hm' => q1b ?_) (fun ne => absurd hok ne)
  have hm' : ∀ j, j < 4352 → m' j = lN ((slf B tn (Slot d' h' + 1) (tn - q' + 1) 0 0 q' zro).2 j) := hm'
  generalize (slf B tn (Slot d' h' + 1) (tn - q' + 1) 0 0 q' zro).2 = F at *
  obtain ⟨b1, b2, b3, b4⟩ := PG_b a2 a4
  have hzb : ∀ j, zro j ≤ 1000000000000000 := fun j => by show 0 ≤ _; omega
  unfold blk_X8_unpack_33
  intro x2 hx2 tp htp
  rw [hx2, htp]
  refine q1a ?_
  refine sp_keepsAct hn hb1 hb2 hb3 hb4 hb5 hb6 (fun wS wH wU wK wX wD k1 k2 k3 k4 k5 k6 hb7 hb8 hb9 => ?_)
  refine sp_becomes hr a2 a4 hb1 hb2 hb3 (fun s' h8 u' k' x' d8 ho0 hM0 hu0 hb10 hb11 hb12 => ?_)
  obtain ⟨v_sort, v_dig, v_slots, v_made, v_high, v_u, v_k, v_r, v_m⟩ := hM0
  have v_sort : s' (4 * r + 0) = nI so' := v_sort
  have v_slots : s' (4 * r + 2) = nI (Slot d' h' + 1) := v_slots
  have v_made : s' (4 * r + 3) = 1 := v_made
  have v_k : ∀ p, p < PG d' h' → k' (272 * r + p) = nI 0 := v_k
  intro x3 hx3
  rw [hx3]
  refine lp2 (fun m a b => lp_X8_unpack_74 t_tape active rests t_writes _ (nI r) 0 s' h8 k' x' d8 m' _ w2 c (nI so') (nI d') (lN h') wS wH wU wK wX wD _ m a b) (fun a b => ∃ z, z ≤ Slot d' h' + 1 ∧ a = nI z ∧ (∀ j, j < 4352 → b (4352 * r + j) = lN (pf zro F z j)) ∧ Only 4352 r b u') (fun a _ => Slot d' h' + 1 - a.toInt.toNat) ?_ _ _ ⟨0, by omega, rfl, fun j hj => by rw [hu0 j hj, pf_0]; rfl, Only_rfl⟩
  intro m a b hI2 hs2
  obtain ⟨z, hz, ea, hbz, ho3⟩ := hI2
  subst ea
  show bod_X8_unpack_74 t_tape active rests t_writes _ (nI r) 0 s' h8 k' x' d8 m' _ w2 c (nI so') (nI d') (lN h') wS wH wU wK wX wD _ (fun v0 v1 => lp_X8_unpack_74 t_tape active rests t_writes _ (nI r) 0 s' h8 k' x' d8 m' _ w2 c (nI so') (nI d') (lN h') wS wH wU wK wX wD _ m v0 v1) (nI z) b
  unfold bod_X8_unpack_74
  refine sp_of (c := 2) hr (by decide) ?_
  rw [v_slots]
  refine q_if (nI_leI (by omega) (by omega)) (fun g => ?_) (fun g => ?_)
  · have ez : z = Slot d' h' + 1 := by omega
    subst ez
    rw [pf_all (u := zro) (fun j hj => hlay.1 j hj)] at hbz
    refine sp_shelves (u := F) (k := zro) hr a1 a2 a4 v_sort v_slots (fun j hj => hbz j (by omega)) hlay.2 v_k (fun p => by show 0 ≤ 10; omega) hb10 (fun K8 hK8 ho4 hb13 => ?_)
    intro x3b hx3b
    refine sp_of (c := 2) hr (by decide) ?_
    obtain ⟨o1, o2, o3, o4, o5, o6⟩ := ho0
    have ho : Oth r s' t_set h8 t_highest b t_units K8 t_kinds x' t_sideKind d8 t_side := ⟨o1, o2, Only_tr ho3 o3, Only_tr ho4 o4, o5, o6⟩
    refine ⟨?_, hT0, ⟨rfl, rfl, ew⟩, PairOK_eq hO rfl rfl (fun _ _ => rfl) (fun i hi h => ?_), LRs_act hr hL (fun i hi => ⟨va_up_ne _ _ hi, va_up_ne _ _ hi, va_up_ne _ _ hi, va_up_ne _ _ hi, va_up_ne _ _ hi, va_up_ne _ _ hi, va_up_ne _ _ hi, va_up_ne _ _ hi, va_up_ne _ _ hi, va_up_ne _ _ hi⟩) ho ?_, ?_, hb13, hb11, hb12, hb7, hb8, hb9⟩
    · rw [v_slots]; exact hC.2.2.2.1
    · by_cases e : i = r
      · rw [e]; exact v_made
      · show s' (4 * i + 3) = 1
        rw [o1 _ (by omega)]; exact h
    · unfold LRs
      rw [va_up_self, va_up_self, va_up_self, va_up_self, va_up_self, va_up_self, va_up_self, va_up_self, va_up_self, va_up_self]
      exact Or.inr ⟨so', d', h', F, shK so' F, zro, zro, ⟨a1, a2, a3, a4, hlay.2, KOK_shK a1 hlay.2, fun p => by show 0 ≤ 2; omega, fun j => by show 0 ≤ 101; omega, fun j _ => rfl⟩, hC, ⟨v_sort, v_dig, v_slots, v_made, v_high, fun j hj => hbz j (by omega), hK8, v_r, v_m⟩⟩
    · exact Hist_act hn hx hl k1 k2 k3 k4 k5 k6 hO rfl rfl (fun k hk => (hW k hk).trans (ew k hk)) (fun i hi => ⟨va_up_ne _ _ hi, va_up_ne _ _ hi, va_up_ne _ _ hi, va_up_ne _ _ hi, va_up_ne _ _ hi, va_up_ne _ _ hi, va_up_ne _ _ hi, va_up_ne _ _ hi, va_up_ne _ _ hi, va_up_ne _ _ hi⟩) (Or.inr ⟨r, hr, rfl, by
          rw [va_up_self, va_up_self, va_up_self, va_up_self, va_up_self, va_up_self, va_up_self, va_up_self, va_up_self, va_up_self]
          exact LR_eq (hL r hr) hc (fun _ _ => rfl) rfl (fun _ _ => rfl) (fun _ _ => rfl) (fun _ _ => rfl) (fun _ _ => rfl)⟩) (Oth_same ho)
  · refine q_in (by omega) (by decide) ?_
    rw [show (4352 : Int32) * nI r + nI z = nI (4352 * r + z) from ix_at 4352 r z]
    refine q_in (by omega) (by decide) ?_
    intro b2 hb2' x3b hx3b
    rw [nI_clamp (by omega), nI_clamp (by omega), hm' z (by omega)] at hb2'
    rw [hx3b, nI_1]
    refine hs2 _ _ ⟨z + 1, by omega, rfl, fun j hj => ?_, fun i hi => ?_⟩ ?_
    · rw [hb2', ← pf_s]
      by_cases e : j = z
      · rw [e, pk_uLs, upn_s]
      · rw [pk_uLn (by omega), upn_n e]; exact hbz j hj
    · rw [hb2', pk_uLn (by omega)]; exact ho3 i hi
    · rw [nI_toInt (by omega), nI_toInt (by omega)]
      omega
