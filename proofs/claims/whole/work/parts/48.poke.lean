/-! ===== poke ===== -/
def tkB (k p : Nat) : Bool := (k == 1 && p == 1) || (k == 2 && p == 2) || (k == 3 && decide (2 ≤ p) && decide (p ≤ 3)) || (k == 4 && p == 4) || (decide (5 ≤ k) && decide (k ≤ 8) && decide (2 ≤ p) && decide (p ≤ k)) || (k == 11 && decide (19 ≤ p) && decide (p ≤ 20)) || (k == 12 && (p == 19 || p == 21))
def tkb (k p : Nat) : Prop := (k = 1 ∧ p = 1) ∨ (k = 2 ∧ p = 2) ∨ (k = 3 ∧ 2 ≤ p ∧ p ≤ 3) ∨ (k = 4 ∧ p = 4) ∨ (5 ≤ k ∧ k ≤ 8 ∧ 2 ≤ p ∧ p ≤ k) ∨ (k = 11 ∧ 19 ≤ p ∧ p ≤ 20) ∨ (k = 12 ∧ (p = 19 ∨ p = 21))
theorem tkB_i (k p : Nat) : tkB k p = true ↔ tkb k p := by
  unfold tkB tkb
  simp only [Bool.or_eq_true, Bool.and_eq_true, beq_iff_eq, decide_eq_true_eq]
  omega
theorem stK_B : ∀ k, k < 13 → ∀ p, p < 22 → (((stK.getD k 0 >>> (nI p &&& 31)) &&& (1 : Int32)) = (1 : Int32) ↔ tkB k p = true) := by decide +kernel
theorem stK_t (k : Nat) (hk : k < 13) (p : Nat) (hp : p < 22) : ((stK.getD k 0 >>> (nI p &&& 31)) &&& (1 : Int32)) = (1 : Int32) ↔ tkb k p := (stK_B k hk p hp).trans (tkB_i k p)
theorem sp_refT {kk pl : Nat} {p3 : Int32} {Q : Int32 → Prop} (hk : kk < 13) (hp : pl < 22) (h4 : kk = 0 → Q (-4)) (h2 : kk ≠ 0 → (p3.toInt < 0 ∨ 16 ≤ p3.toInt) → Q (-2)) (h3 : kk ≠ 0 → 0 ≤ p3.toInt → p3.toInt < 16 → ¬ tkb kk pl → Q (-3)) (h1 : kk ≠ 0 → 0 ≤ p3.toInt → p3.toInt < 16 → tkb kk pl → Q 0) : wp_X7_refusal_TAKES (nI kk) p3 (nI pl) Q := by
  unfold wp_X7_refusal_TAKES
  have z0 : (0 : Int32).toInt = 0 := by decide
  have z16 : (16 : Int32).toInt = 16 := by decide
  refine q_fi (nI_eq (b := 0) (by omega) (by decide)) (fun e => h4 e) (fun e => ?_)
  refine q_if (fa_lt _ _) (fun a => h2 e (by omega)) (fun a => ?_)
  refine q_if (fa_lt _ _) (fun b => ?_) (fun b => h2 e (by omega))
  refine q_if (nI_leI (b := 0) (by omega) (by decide)) (fun c => absurd c (by omega)) (fun _ => ?_)
  refine q_if (nI_leI (a := 13) (by decide) (by omega)) (fun c => absurd c (by omega)) (fun _ => ?_)
  refine q_in (by omega) (by decide) ?_
  rw [nI_clamp (by omega)]
  refine q_fi (stK_t kk hk pl hp) (fun t => ?_) (fun t => ?_)
  · unfold blk_X7_refusal_TAKES_46
    intro x hx
    rw [hx]
    exact q1b (h1 e (by omega) (by omega) t)
  · unfold blk_X7_refusal_TAKES_45 blk_X7_refusal_TAKES_46
    intro x hx
    rw [hx]
    exact q0b (h3 e (by omega) (by omega) t)
theorem sp_takes {kk pl : Nat} {Q : Int32 → Prop} (h0 : 1 ≤ kk) (hk : kk ≤ 10) (hp : pl ≤ 8) (h1 : tkb kk pl → Q 1) (h2 : ¬ tkb kk pl → Q 0) : wp_X8_takes (nI kk) (nI pl) Q := by
  unfold wp_X8_takes
  rw [nI_toInt (by omega)]
  unfold tkb at h1 h2
  have b : ∀ c : Nat, c < 100 → (pl = c → Q 1) → (pl ≠ c → Q 0) → (¬ nI pl = nI c → Q 0) ∧ (nI pl = nI c → Q 1) := fun c hc f g => q_fi (nI_eq (by omega) (by omega)) f g
  have g : ∀ c : Nat, c < 100 → (2 ≤ pl → pl ≤ c → Q 1) → (¬ (2 ≤ pl ∧ pl ≤ c) → Q 0) → (nI pl < nI 2 → Q 0) ∧ (¬ nI pl < nI 2 → (nI c < nI pl → Q 0) ∧ (¬ nI c < nI pl → Q 1)) := fun c hc f g => q_if (nI_ltI (by omega) (by omega)) (fun a => g (by omega)) (fun a => q_if (nI_ltI (by omega) (by omega)) (fun a => g (by omega)) (fun a => f (by omega) (by omega)))
  refine ⟨fun e => ?_, fun e => ?_, fun e => ?_, fun e => ?_, fun e => ?_, fun e => ?_, fun e => ?_, fun e => ?_, fun e => ?_⟩
  · exact b 1 (by decide) (fun a => h1 (by omega)) (fun a => h2 (by omega))
  · exact b 2 (by decide) (fun a => h1 (by omega)) (fun a => h2 (by omega))
  · exact q_if (nI_eq (b := 2) (by omega) (by decide)) (fun a => h1 (by omega)) (fun a => b 3 (by decide) (fun a => h1 (by omega)) (fun a => h2 (by omega)))
  · exact b 4 (by decide) (fun a => h1 (by omega)) (fun a => h2 (by omega))
  · exact g 5 (by decide) (fun a b => h1 (by omega)) (fun a => h2 (by omega))
  · exact g 6 (by decide) (fun a b => h1 (by omega)) (fun a => h2 (by omega))
  · exact g 7 (by decide) (fun a b => h1 (by omega)) (fun a => h2 (by omega))
  · exact g 8 (by decide) (fun a b => h1 (by omega)) (fun a => h2 (by omega))
  · exact h2 (by omega)
def hwOK (z : Int) : Prop := (1 ≤ z ∧ z ≤ 8) ∨ (11 ≤ z ∧ z ≤ 21)
theorem sp_pokeHow {p : Int32} {Q : Int32 → Prop} (h1 : hwOK p.toInt → Q 1) (h0 : ¬ hwOK p.toInt → Q 0) : wp_X7_isPokeHow p Q := by
  have z1 : (1 : Int32).toInt = 1 := by decide
  have z8 : (8 : Int32).toInt = 8 := by decide
  have z10 : (10 : Int32).toInt = 10 := by decide
  have z21 : (21 : Int32).toInt = 21 := by decide
  unfold hwOK at h1 h0
  have c : ¬ (1 ≤ p.toInt ∧ p.toInt ≤ 8) → blk_X7_isPokeHow_11 Q p := by
    intro n
    unfold blk_X7_isPokeHow_11
    exact q_if (fa_le _ _) (fun a => h0 (by omega)) (fun a => q_if (fa_lt _ _) (fun b => h0 (by omega)) (fun b => h1 (by omega)))
  unfold wp_X7_isPokeHow
  exact q_if (fa_lt _ _) (fun a => c (by omega)) (fun a => q_if (fa_le _ _) (fun b => h1 (by omega)) (fun b => c (by omega)))
theorem sp_isMark {p : Int32} {Q : Int32 → Prop} (h1 : 0 ≤ p.toInt → p.toInt ≤ 100 → Q 1) (h0 : (p.toInt < 0 ∨ 100 < p.toInt) → Q 0) : wp_X7_isMark p Q := by
  have z0 : (0 : Int32).toInt = 0 := by decide
  have z1 : (100 : Int32).toInt = 100 := by decide
  unfold wp_X7_isMark
  exact q_if (fa_lt _ _) (fun a => h0 (by omega)) (fun a => q_if (fa_lt _ _) (fun b => h0 (by omega)) (fun b => h1 (by omega) (by omega)))
theorem sp_mIn {p : Int32} {n : Int64} {Q : Int32 → Prop} {b : Int} (hn : n.toInt = b) (h1 : 0 ≤ p.toInt → p.toInt ≤ b → Q 1) (h0 : (p.toInt < 0 ∨ b < p.toInt) → Q 0) : wp_X8_isIn p.toInt64 0 n Q := by
  have z : (0 : Int64).toInt = 0 := by decide
  have e : p.toInt64.toInt = p.toInt := Int32.toInt_toInt64 p
  exact sp_isIn (fun a c => h1 (by omega) (by omega)) (fun o => h0 (by omega))
theorem sp_isHow {p : Int32} {Q : Int32 → Prop} (h1 : hwOK p.toInt → Q 1) (h0 : ¬ hwOK p.toInt → Q 0) : wp_X8_isHow p Q := by
  have z1 : (1 : Int64).toInt = 1 := by decide
  have z8 : (8 : Int64).toInt = 8 := by decide
  have z11 : (11 : Int64).toInt = 11 := by decide
  have z21 : (21 : Int64).toInt = 21 := by decide
  have e : p.toInt64.toInt = p.toInt := Int32.toInt_toInt64 p
  unfold hwOK at h1 h0
  unfold wp_X8_isHow
  exact sp_isIn (fun a b => q1a (h1 (by omega))) (fun o => q0a (sp_isIn (fun a b => q1b (h1 (by omega))) (fun o2 => q0b (h0 (by omega)))))
theorem sp_hasPage2 {p : Int32} {P : Nat} {pages : Int32} {Q : Int32 → Prop} (hP : P ≤ 271) (ep : pages = nI P) (h1 : ∀ q, q < P → p = nI q → Q 1) (h0 : (p.toInt < 0 ∨ (P : Int) ≤ p.toInt) → Q 0) : wp_X1_hasPage p pages Q := by
  rw [ep]
  rcases page_cases p hP with ⟨q, hq, e⟩ | o
  · have := h1 q hq e
    rw [e]
    exact sp_hasPage_in hq hP this
  · exact sp_hasPage_out o hP (h0 o)
theorem sp_isPage2 {r d h : Nat} {p : Int32} {t_set : Nat → Int32} {Q : Int32 → Prop} (hr : r < 4) (hd : d = 1 ∨ d = 2) (hh : h ≤ 1000000000000) (hs : t_set (4 * r + 2) = nI (Slot d h + 1)) (hm : t_set (4 * r + 3) = 1) (h1 : (0 ≤ p.toInt → p.toInt < (PG d h : Int) → Q 1)) (h0 : (p.toInt < 0 ∨ (PG d h : Int) ≤ p.toInt) → Q 0) : wp_X8_isPage (nI r) p t_set Q := by
  have ⟨b1, b2, b3, b4⟩ := PG_b hd hh
  unfold wp_X8_isPage
  refine sp_isMade_in hr hm (q1b (sp_pagesOf hr hd hh hs ?_))
  have e1 : (1 : Int32).toInt = 1 := by decide
  have e3 : (nI (PG d h) - (1 : Int32)).toInt64.toInt = (PG d h : Int) - 1 := by rw [Int32.toInt_toInt64, fb_subI (by rw [nI_toInt (by omega)]; omega) (by rw [nI_toInt (by omega)]; omega), nI_toInt (by omega), e1]
  exact sp_mIn e3 (fun a b => q1b (h1 a (by omega))) (fun o => q0b (h0 (by omega)))
theorem fk_fit {so : Nat} {u k : Nat → Nat} {t v : Nat} (hso : so = 0 ∨ so = 1) (hk0 : ∀ p, KOK so (k p) (fun i => u (16 * p + i))) (hb : ∀ j, u j ≤ 1000000000000000) (h1 : 1 ≤ k (t / 16)) (h8 : k (t / 16) ≤ 8) (hv : v ≤ cap (k (t / 16))) : fk so u k (upn u t v) = k := funext fun p => by
  by_cases e : p = t / 16
  · by_cases q : u t = v
    · rw [upn_id q, fk_0]
    · have hvb := cap_lt (k (t / 16))
      have hD : Dir u u t v := by
        rcases Nat.le_total (u t) v with z | z
        · exact Or.inl ⟨fun _ => Nat.le_refl _, z⟩
        · exact Or.inr ⟨fun _ => Nat.le_refl _, z⟩
      rw [e, fk_s hso hk0 hb hb (by omega) hD q, fk_0, show bs so (k (t / 16)) (mxf (pgu u (t / 16)) 16) = k (t / 16) from if_pos ⟨h1, h8⟩, kf_self hv]
  · rw [fk_o e, fk_0]
theorem int_nI {p : Int32} {b : Nat} (h : 0 ≤ p.toInt) (h2 : p.toInt ≤ (b : Int)) (hb : b < 2 ^ 31) : ∃ j : Nat, j ≤ b ∧ p = nI j := ⟨p.toInt.toNat, by omega, Int32.toInt_inj.mp (by rw [nI_toInt (by omega)]; omega)⟩
theorem cap_big : ∀ k, k < 9 → 2 ≤ k → 100 ≤ cap k ∧ (7 ≤ k → 1600 ≤ cap k) := by decide
theorem sp_putMark {t : Nat} {p1 : Int32} {M : Nat → Int32} {Q : (Nat → Int32) → Prop} (ht : t < 4336) (h : Q (upd M t (p1 + 1))) : wp_X1_putMark (nI t) p1 M Q := by
  unfold wp_X1_putMark
  refine ⟨fun n => absurd n (nI_nneg (by omega)), fun _ => q_if (nI_leI (a := 4336) (by decide) (by omega)) (fun n => absurd n (by omega)) (fun _ => ?_)⟩
  refine q_in (by omega) (by decide) ?_
  intro M2 hM2
  rw [hM2, nI_clamp (by omega)]
  exact h
theorem stp_poke : Stp_poke Inv := by
  unfold Stp_poke
  intro p0 p1 p2 p3 p4 p5 active rests writers tbytes tlen dbytes dlen next known rec m_made m_sort m_digits m_slots m_pages m_highest m_units m_kinds m_rows m_marks q_active q_rests q_writers l_made l_sort l_digits l_slots l_pages l_highest l_units l_kinds l_rows l_marks t_tape t_taped t_set t_highest t_units t_kinds t_sideKind t_side t_active t_rests t_writes t_more t_packed t_packedMany t_at t_wrong t_number t_readSort t_readDigits t_readHighest t_wasSet t_wasHighest t_wasUnits t_wasKinds t_wasSideKind t_wasSide t_undone hI
  obtain ⟨hT, ⟨ea, er, ew⟩, hO, hL, ⟨⟨n, x, hn, hx, ek, ex, eu, hl⟩, hb1, hb2, hb3, hb4, hb5, hb6⟩⟩ := id hI
  subst ea er ek ex eu
  have z0 : (0 : Int32).toInt = 0 := by decide
  have z1 : (1 : Int32).toInt = 1 := by decide
  rcases made_cases l_made l_sort l_digits l_slots l_pages l_highest l_units l_kinds l_rows l_marks t_set t_highest t_units t_kinds t_sideKind t_side hL p0 with ⟨r, hr, e, so, d, h, u, k, rr, m, hA, hC, hM⟩ | ho
  · subst e
    obtain ⟨hso, hd, hh1, hh2, hu, hk, hrr, hm, hm0⟩ := id hA
    obtain ⟨c_made, c_sort, c_dig, c_slots, c_pages, c_high, c_u, c_k, c_r, c_m⟩ := id hC
    obtain ⟨v_sort, v_dig, v_slots, v_made, v_high, v_u, v_k, v_r, v_m⟩ := id hM
    have ⟨b1, b2, b3, b4⟩ := PG_b hd hh2
    have v_sort : t_set (4 * r + 0) = nI so := v_sort
    have v_dig : t_set (4 * r + 1) = nI d := v_dig
    have v_slots : t_set (4 * r + 2) = nI (Slot d h + 1) := v_slots
    have v_made : t_set (4 * r + 3) = 1 := v_made
    have v_u : ∀ j, j < 16 * PG d h → t_units (4352 * r + j) = lN (u j) := v_u
    have v_k : ∀ p, p < PG d h → t_kinds (272 * r + p) = nI (k p) := v_k
    have v_r : ∀ p, p < PG d h → t_sideKind (272 * r + p) = nI (rr p) := v_r
    have v_m : ∀ j, j < 4352 → t_side (4352 * r + j) = nI (m j) := v_m
    have hk10 : ∀ p, k p ≤ 10 := fun p => KOK_le hso (hk p)
    by_cases hBad : (p1.toInt < 0 ∨ 1 < p1.toInt ∨ (p2.toInt < 0 ∨ (PG d h : Int) ≤ p2.toInt) ∨ ¬ hwOK p4.toInt ∨ p5.toInt < 0 ∨ 100 < p5.toInt)
    · have m8 : ∀ Q : Int32 → (Nat → Int64) → (Nat → Int32) → (Nat → Int32) → (Nat → Int64) → (Nat → Int64) → (Nat → Int32) → (Nat → Int32) → (Nat → Int32) → Int32 → Prop, Q (-1) t_units t_side t_wasSet t_wasHighest t_wasUnits t_wasKinds t_wasSideKind t_wasSide (nI n) → wp_X8_poke (nI r) p1 p2 p3 p4 p5 t_set t_highest t_units t_kinds t_sideKind t_side active rests t_writes t_wasSet t_wasHighest t_wasUnits t_wasKinds t_wasSideKind t_wasSide (nI n) Q := by
        intro Q q
        unfold wp_X8_poke
        exact sp_isPage2 hr hd hh2 v_slots v_made (fun a1 a2 => q1b (sp_mIn (b := 1) (by decide) (fun a3 a4 => q1b (sp_isHow (fun a5 => q1b (sp_mIn (b := 100) (by decide) (fun a6 a7 => by rcases hBad with z | z | z | z | z | z <;> first | exact absurd a5 z | omega) (fun _ => q0a q))) (fun _ => q0b q))) (fun _ => q0b q))) (fun _ => q0b q)
      unfold wp_X7_poke
      refine sp_madeAt_in hr c_made (opt_s ?_)
      refine q_if (fa_lt _ _) (fun _ => m8 _ ⟨rfl, hI⟩) (fun a1 => q_if (fa_lt _ _) (fun _ => m8 _ ⟨rfl, hI⟩) (fun a2 => ?_))
      refine sp_hasPage2 b1 c_pages (fun q hq e => q1b ?_) (fun _ => q0b (m8 _ ⟨rfl, hI⟩))
      refine sp_pokeHow (fun a3 => q1b ?_) (fun _ => q0b (m8 _ ⟨rfl, hI⟩))
      refine sp_isMark (fun a4 a5 => ?_) (fun _ => q0a (m8 _ ⟨rfl, hI⟩))
      exfalso
      rcases hBad with z | z | z | z | z | z
      · omega
      · omega
      · rw [e, nI_toInt (by omega)] at z; omega
      · exact z a3
      · omega
      · omega
    -- what is asked may be
    have g1 : 0 ≤ p1.toInt ∧ p1.toInt ≤ 1 := ⟨by omega, by omega⟩
    have g2 : 0 ≤ p2.toInt ∧ p2.toInt < (PG d h : Int) := ⟨by omega, by omega⟩
    have g3 : hwOK p4.toInt := by
      by_cases z : hwOK p4.toInt
      · exact z
      · exact absurd (Or.inr (Or.inr (Or.inr (Or.inl z)))) hBad
    have g4 : 0 ≤ p5.toInt ∧ p5.toInt ≤ 100 := ⟨by omega, by omega⟩
    clear hBad
    obtain ⟨wh, hwh, e1⟩ := int_nI (p := p1) (b := 1) g1.1 (by omega) (by decide)
    obtain ⟨q, hq, e2⟩ := int_nI (p := p2) (b := PG d h - 1) g2.1 (by omega) (by omega)
    obtain ⟨hw, hhw, e4⟩ := int_nI (p := p4) (b := 21) (by unfold hwOK at g3; omega) (by unfold hwOK at g3; omega) (by decide)
    obtain ⟨w, hw100, e5⟩ := int_nI (p := p5) (b := 100) g4.1 (by omega) (by decide)
    subst e1 e2 e4 e5
    have hqP : q < PG d h := by omega
    have g3' : (1 ≤ hw ∧ hw ≤ 8) ∨ (11 ≤ hw ∧ hw ≤ 21) := by
      unfold hwOK at g3
      rw [nI_toInt (by omega)] at g3
      omega
    have hrq := hrr q
    have hkq := hk10 q
    -- the class, down to the table
    have c7 : ∀ pl, pl = (if hw ≤ 10 ∨ 19 ≤ hw then hw else hw - 10) → ∀ Q, blk_X7_poke_72 active rests writers l_made l_sort l_digits l_slots l_pages l_highest l_rows Q r (nI r) (nI wh) (nI q) p3 (nI w) (nI pl) (nI x) (nI n) rec m_made m_sort m_digits m_slots m_pages m_highest m_units m_kinds m_rows m_marks q_active q_rests q_writers l_units l_kinds l_marks → wp_X7_poke (nI r) (nI wh) (nI q) p3 (nI hw) (nI w) active rests writers (nI x) (nI n) rec m_made m_sort m_digits m_slots m_pages m_highest m_units m_kinds m_rows m_marks q_active q_rests q_writers l_made l_sort l_digits l_slots l_pages l_highest l_units l_kinds l_rows l_marks Q := by
      intro pl hpl Q hQ
      unfold wp_X7_poke
      refine sp_madeAt_in hr c_made (opt_s ?_)
      refine q_if (fa_lt _ _) (fun a => by omega) (fun _ => q_if (fa_lt _ _) (fun a => by omega) (fun _ => ?_))
      refine sp_hasPage2 b1 c_pages (fun _ _ _ => q1b ?_) (fun o => by omega)
      refine sp_pokeHow (fun _ => q1b ?_) (fun o => absurd g3 o)
      refine sp_isMark (fun _ _ => q1a ?_) (fun o => by omega)
      refine q_if (nI_leI (b := 10) (by omega) (by decide)) (fun a => ?_) (fun a => ?_)
      · rw [if_pos (Or.inl a)] at hpl
        subst hpl
        exact hQ
      refine q_if (nI_leI (a := 19) (by decide) (by omega)) (fun b => ?_) (fun b => ?_)
      · rw [if_pos (Or.inr b)] at hpl
        subst hpl
        exact hQ
      · rw [if_neg (by omega)] at hpl
        rw [show nI hw - (10 : Int32) = nI pl by rw [hpl]; exact pk_sub (b := 10) (by omega)]
        exact hQ
    -- the reference, down to the kind
    have c8 : ∀ Q kk, (wh = 0 → kk = k q) → (wh = 1 → kk = rr q) → blk_X8_poke_73 t_set t_highest t_kinds t_sideKind active rests t_writes Q (nI r) (nI wh) (nI q) p3 (nI hw) (nI w) (nI kk) t_units t_side t_wasSet t_wasHighest t_wasUnits t_wasKinds t_wasSideKind t_wasSide (nI n) → wp_X8_poke (nI r) (nI wh) (nI q) p3 (nI hw) (nI w) t_set t_highest t_units t_kinds t_sideKind t_side active rests t_writes t_wasSet t_wasHighest t_wasUnits t_wasKinds t_wasSideKind t_wasSide (nI n) Q := by
      intro Q kk k0 k1 hQ
      unfold wp_X8_poke
      refine sp_isPage2 hr hd hh2 v_slots v_made (fun _ _ => q1b ?_) (fun o => by omega)
      refine sp_mIn (b := 1) (by decide) (fun _ _ => q1b ?_) (fun o => by omega)
      refine sp_isHow (fun _ => q1b ?_) (fun o => absurd g3 o)
      refine sp_mIn (b := 100) (by decide) (fun _ _ => q1a ?_) (fun o => by omega)
      rw [show (272 : Int32) * nI r + nI q = nI (272 * r + q) from ix_at 272 r q]
      refine q_fi (nI_eq (b := 0) (by omega) (by decide)) (fun a => ?_) (fun a => ?_)
      · refine q_in (by omega) (by decide) ?_
        rw [nI_clamp (by omega), v_k q hqP, ← k0 a]
        exact hQ
      · refine q_in (by omega) (by decide) ?_
        rw [nI_clamp (by omega), v_r q hqP, ← k1 (by omega)]
        exact hQ
    obtain ⟨pl, hpl⟩ : ∃ pl, pl = (if hw ≤ 10 ∨ 19 ≤ hw then hw else hw - 10) := ⟨_, rfl⟩
    have hpl22 : pl < 22 := by rw [hpl]; split <;> omega
    refine c7 pl hpl _ ?_
    unfold blk_X7_poke_72
    intro x8 hx8
    rw [hx8]
    have z15 : (15 : Int64).toInt = 15 := by decide
    refine q_fi (nI_eq (b := 0) (by omega) (by decide)) (fun a => ?_) (fun a => ?_)
    · -- units
      subst a
      refine sp_kindOf (by omega) ?_
      rw [c_k q hqP]
      unfold blk_X7_poke_96
      refine sp_refT (by omega) hpl22 (fun e0 x9 hx9 => ?_) (fun e0 pp x9 hx9 => ?_) (fun e0 pa pb nt x9 hx9 => ?_) (fun e0 pa pb tt x9 hx9 => ?_)
      · rw [hx9]
        refine ⟨fun a => absurd a (by decide), fun _ => ?_⟩
        refine c8 _ (k q) (fun _ => rfl) (fun a => absurd a (by decide)) ?_
        unfold blk_X8_poke_73
        intro x7 hx7
        rw [hx7, e0]
        exact q0a ⟨rfl, hI⟩
      · rw [hx9]
        refine ⟨fun a => absurd a (by decide), fun _ => ?_⟩
        refine c8 _ (k q) (fun _ => rfl) (fun a => absurd a (by decide)) ?_
        unfold blk_X8_poke_73
        intro x7 hx7
        rw [hx7]
        refine q_fi (nI_eq (b := 0) (by omega) (by decide)) (fun a => absurd a e0) (fun _ => ?_)
        exact sp_mIn z15 (fun _ _ => by omega) (fun _ => q0a ⟨rfl, hI⟩)
      · rw [hx9]
        refine ⟨fun a => absurd a (by decide), fun _ => ?_⟩
        refine c8 _ (k q) (fun _ => rfl) (fun a => absurd a (by decide)) ?_
        unfold blk_X8_poke_73
        intro x7 hx7
        rw [hx7]
        refine q_fi (nI_eq (b := 0) (by omega) (by decide)) (fun a => absurd a e0) (fun _ => ?_)
        refine sp_mIn z15 (fun _ _ => q1a ?_) (fun _ => by omega)
        refine ⟨fun _ => ?_, fun a => absurd a (by decide)⟩
        have ref : ∀ Q, Q (-3) t_units t_side t_wasSet t_wasHighest t_wasUnits t_wasKinds t_wasSideKind t_wasSide (nI n) → blk_X8_poke_153 t_set t_highest t_kinds t_sideKind active rests t_writes Q (nI r) (nI 0) (nI q) p3 (nI hw) (nI w) (nI (k q)) t_units t_side t_wasSet t_wasHighest t_wasUnits t_wasKinds t_wasSideKind t_wasSide (nI n) := by
          intro Q hQ
          unfold blk_X8_poke_153 blk_X8_poke_154
          intro x8 hx8
          rw [hx8]
          exact q0a hQ
        refine q_if (nI_leI (a := 19) (by decide) (by omega)) (fun b => ref _ ⟨rfl, hI⟩) (fun b => ?_)
        have eh : pl = hw % 10 := by
          rw [hpl]
          split <;> omega
        rw [show nI hw - nI hw / (10 : Int32) * (10 : Int32) = nI (hw % 10) from pk_rem (d := 10) (by omega) (by decide) (by decide), ← eh]
        exact sp_takes (by omega) hkq (by omega) (fun t => absurd t nt) (fun _ => q0b (ref _ ⟨rfl, hI⟩))
      · rw [hx9]
        refine q0b ?_
        obtain ⟨i, hi, e3⟩ := int_nI (p := p3) (b := 15) pa (by omega) (by decide)
        subst e3
        have tt2 := id tt
        unfold tkb at tt2
        have h8 : k q ≤ 8 := by omega
        have hp18 : pl ≤ 8 := by omega
        have h19 : hw < 19 := by
          rw [hpl] at hp18
          split at hp18 <;> omega
        have eh : pl = hw % 10 := by
          rw [hpl]
          split <;> omega
        have hso7 : (so = 1 ↔ 7 ≤ k q) := by
          have k1 := (hk q).2.1
          have k2 := (hk q).2.2.1
          rcases hso with e | e
          · have := k1 e; omega
          · have := k2 e; omega
        have hone : pl = 1 ↔ k q = 1 := by omega
        -- the number that is put
        obtain ⟨v, hvd⟩ : ∃ v, v = (if k q = 1 then min w 1 else if k q ≤ 6 then w else 16 * w) := ⟨_, rfl⟩
        have hcb := cap_big (k q) (by omega)
        have c1 : cap 1 = 1 := by decide
        have hvc : v ≤ cap (k q) := by
          rw [hvd]
          by_cases q1 : k q = 1
          · rw [if_pos q1, q1, c1]; omega
          · have := hcb (by omega)
            rw [if_neg q1]
            by_cases q2 : k q ≤ 6
            · rw [if_pos q2]; omega
            · rw [if_neg q2]; have := this.2 (by omega); omega
        have hvb := cap_lt (k q)
        have et : (16 * q + i) / 16 = q := by omega
        have hfit := fk_fit (t := 16 * q + i) (v := v) hso hk hu (by rw [et]; omega) (by rw [et]; omega) (by rw [et]; exact hvc)
        have hub := upn_b (t := 16 * q + i) hu (show v ≤ 1000000000000000 by omega)
        have hkn : ∀ p, KOK so (k p) (fun i' => upn u (16 * q + i) v (16 * p + i')) := by
          intro p
          have := KOK_fk (u := upn u (16 * q + i) v) hso hk hu hub p
          rw [hfit] at this
          exact this
        have hD : Dir u u (16 * q + i) v := by
          rcases Nat.le_total (u (16 * q + i)) v with z | z
          · exact Or.inl ⟨fun _ => Nat.le_refl _, z⟩
          · exact Or.inr ⟨fun _ => Nat.le_refl _, z⟩
        have m8u : ∀ Q, (∀ wS wH wU wK wX wD, Kept n 22 t_wasSet wS 22 (fun j => if j < 16 then t_set j else if j = 16 then active else if j = 17 then rests else t_writes (j - 18)) → Kept n 4 t_wasHighest wH 4 t_highest → Kept n 17408 t_wasUnits wU 17408 t_units → Kept n 1088 t_wasKinds wK 1088 t_kinds → Kept n 1088 t_wasSideKind wX 1088 t_sideKind → Kept n 17408 t_wasSide wD 17408 t_side → BY wK → BY wX → BY wD → Q 0 (vp_updL t_units (4352 * r + (16 * q + i)) (lN v)) t_side wS wH wU wK wX wD (nI (min n 7 + 1))) → wp_X8_poke (nI r) (nI 0) (nI q) (nI i) (nI hw) (nI w) t_set t_highest t_units t_kinds t_sideKind t_side active rests t_writes t_wasSet t_wasHighest t_wasUnits t_wasKinds t_wasSideKind t_wasSide (nI n) Q := by
          intro Q hQ
          refine c8 Q (k q) (fun _ => rfl) (fun a => absurd a (by decide)) ?_
          unfold blk_X8_poke_73
          intro x7 hx7
          rw [hx7]
          refine q_fi (nI_eq (b := 0) (by omega) (by decide)) (fun a => absurd a e0) (fun _ => ?_)
          refine sp_mIn z15 (fun _ _ => q1a ?_) (fun _ => by omega)
          refine ⟨fun _ => ?_, fun a => absurd a (by decide)⟩
          refine q_if (nI_leI (a := 19) (by decide) (by omega)) (fun b => absurd b (by omega)) (fun b => ?_)
          rw [show nI hw - nI hw / (10 : Int32) * (10 : Int32) = nI (hw % 10) from pk_rem (d := 10) (by omega) (by decide) (by decide), ← eh]
          refine sp_takes (by omega) hkq (by omega) (fun _ => q1b ?_) (fun t => absurd tt t)
          unfold blk_X8_poke_154
          intro x8 hx8
          rw [hx8]
          refine q1a ?_
          refine sp_keepsAct hn hb1 hb2 hb3 hb4 hb5 hb6 (fun wS wH wU wK wX wD k1 k2 k3 k4 k5 k6 hb7 hb8 hb9 => ?_)
          intro x9 hx9
          rw [ix_up] at hx9
          rw [hx9]
          refine ⟨fun _ => ?_, fun a => absurd a (by decide)⟩
          have put : ∀ val, val = lN v → (vp_in (nI (4352 * r + (16 * q + i))) 17408 ∧ ∀ t_units_259 : Nat → Int64, t_units_259 = vp_updL t_units (nI (4352 * r + (16 * q + i))).toNatClampNeg val → Q 0 t_units_259 t_side wS wH wU wK wX wD (nI (min n 7 + 1))) := by
            intro val hval
            refine q_in (by omega) (by decide) ?_
            intro U3 hU3
            rw [nI_clamp (by omega), hval] at hU3
            rw [hU3]
            exact hQ wS wH wU wK wX wD k1 k2 k3 k4 k5 k6 hb7 hb8 hb9
          have hl1 : (nI w).toInt64 = lN w := nI_l (by omega)
          refine q_fi (nI_eq (b := 1) (by omega) (by decide)) (fun q1 => ?_) (fun q1 => ?_)
          · rw [if_pos q1] at hvd
            refine q_if (nI_leI (b := 0) (by omega) (by decide)) (fun w0 => put 0 ?_) (fun w0 => put 1 ?_)
            · rw [hvd, show min w 1 = 0 by omega]; rfl
            · rw [hvd, show min w 1 = 1 by omega]; rfl
          · rw [if_neg q1] at hvd
            refine q_if (nI_leI (b := 6) (by omega) (by decide)) (fun q2 => put _ ?_) (fun q2 => put _ ?_)
            · rw [if_pos q2] at hvd
              rw [hvd, hl1]
            · rw [if_neg q2] at hvd
              rw [hvd, hl1]
              exact lN_mul 16 w
        refine sp_remember_in hr hx hn (Or.inr c_made) (fun W U K R M hW hc => ?_)
        intro x10 hx10
        rw [pg16, nI_add] at hx10
        rw [hx10]
        refine ⟨fun _ => ?_, fun a => absurd a (by decide)⟩
        -- the class writes
        have wr : ∀ val Q, val = lN v → (∀ U2 K2, UK (PG d h) U2 K2 (upn u (16 * q + i) v) k → Q U2 K2) → wp_X1_rewrite (nI (16 * q + i)) val (l_sort r) (l_units r) (l_kinds r) Q := by
          intro val Q hval hQ
          rw [c_sort, hval]
          refine sp_rewrite hso b1 (by omega) hk hu hu (by omega) hD (by rw [fk_0]; exact ⟨c_u, c_k⟩) (fun U2 K2 h2 => hQ U2 K2 ?_)
          rw [hfit] at h2
          exact h2
        have s1 : l_sort r = 1 ↔ so = 1 := by
          rw [c_sort]
          exact nI_eq (b := 1) (by omega) (by decide)
        refine q_fi (nI_eq (b := 1) (by omega) (by decide)) (fun q1 => ?_) (fun q1 => ?_)
        all_goals unfold blk_X7_poke_172
        all_goals intro x11 hx11
        all_goals refine q_fi s1 (fun e => ?_) (fun e => ?_)
        all_goals unfold blk_X7_poke_199
        all_goals refine wr _ _ ?_ (fun U2 K2 hUK => m8u _ (fun wS wH wU wK wX wD k1 k2 k3 k4 k5 k6 hb7 hb8 hb9 => ?_))
        · exact absurd q1 (by omega)
        rotate_left
        · rw [hx11, hvd, if_pos (show k q = 1 by omega)]
          by_cases z : 1 < w
          · have z2 : (1 : Int32) < nI w := nI_lt (a := 1) z (by omega)
            rw [if_pos z2, show min w 1 = 1 by omega]
            decide
          · have z2 : ¬ (1 : Int32) < nI w := nI_nlt (b := w) (a := 1) (by omega) (by decide)
            rw [if_neg z2, show min w 1 = w by omega, nI_l (by omega)]
        rotate_left
        · rw [hx11, show (16 : Int32) * nI w = nI (16 * w) from pk_mul 16 w, nI_l (by omega), hvd, if_neg (show ¬ k q = 1 by omega), if_neg (show ¬ k q ≤ 6 by omega)]
        rotate_left
        · rw [hx11, nI_l (by omega), hvd, if_neg (show ¬ k q = 1 by omega), if_pos (show k q ≤ 6 by omega)]
        all_goals
          have ho1 : Only 4352 r (vp_updL t_units (4352 * r + (16 * q + i)) (lN v)) t_units := by
            intro j hj
            exact pk_uLn (by omega)
          have ho : Oth r t_set t_set t_highest t_highest (vp_updL t_units (4352 * r + (16 * q + i)) (lN v)) t_units t_kinds t_kinds t_sideKind t_sideKind t_side t_side := ⟨Only_rfl, fun _ _ => rfl, ho1, Only_rfl, Only_rfl, Only_rfl⟩
          refine ⟨rfl, hT, ⟨rfl, rfl, ew⟩, hO, LRs_act hr hL (fun i hi => ⟨rfl, rfl, rfl, rfl, rfl, rfl, va_up_ne _ _ hi, va_up_ne _ _ hi, rfl, rfl⟩) ho ?_, ?_, hb1, hb2, hb3, hb7, hb8, hb9⟩
          · unfold LRs
            rw [va_up_self, va_up_self]
            refine Or.inr ⟨so, d, h, upn u (16 * q + i) v, k, rr, m, ⟨hso, hd, hh1, hh2, hub, hkn, hrr, hm, hm0⟩, ⟨c_made, c_sort, c_dig, c_slots, c_pages, c_high, hUK.1, hUK.2, c_r, c_m⟩, ⟨v_sort, v_dig, v_slots, v_made, v_high, fun j hj => ?_, v_k, v_r, v_m⟩⟩
            show vp_updL t_units (4352 * r + (16 * q + i)) (lN v) (4352 * r + j) = _
            by_cases e : j = 16 * q + i
            · rw [e, pk_uLs, upn_s]
            · rw [pk_uLn (by omega), upn_n e]
              exact v_u j hj
          · exact Hist_act hn hx hl k1 k2 k3 k4 k5 k6 hO rfl rfl (fun k hk => (hW k hk).trans (ew k hk)) (fun i hi => ⟨va_up_ne _ _ hi, va_up_ne _ _ hi, va_up_ne _ _ hi, va_up_ne _ _ hi, va_up_ne _ _ hi, va_up_ne _ _ hi, va_up_ne _ _ hi, va_up_ne _ _ hi, va_up_ne _ _ hi, va_up_ne _ _ hi⟩) (Or.inr ⟨r, hr, rfl, by
          rw [va_up_self, va_up_self, va_up_self, va_up_self, va_up_self, va_up_self, va_up_self, va_up_self, va_up_self, va_up_self]
          exact LR_eq (hL r hr) hc (fun _ _ => rfl) rfl (fun _ _ => rfl) (fun _ _ => rfl) (fun _ _ => rfl) (fun _ _ => rfl)⟩) (Oth_same ho)
    · -- examples
      have a1 : wh = 1 := by omega
      subst a1
      refine sp_rowOf (by omega) ?_
      rw [c_r q hqP]
      have hrw : rwc (rr q) < 13 := by unfold rwc; split <;> omega
      have hrw0 : rwc (rr q) = 0 ↔ rr q = 0 := by unfold rwc; split <;> omega
      have htk : tkb (rwc (rr q)) pl ↔ rr q ≠ 0 ∧ (hw = 19 ∨ hw = 19 + rr q) := by
        unfold tkb rwc
        rw [hpl]
        split <;> split <;> omega
      unfold blk_X7_poke_96
      have m73 : ∀ Q, (rr q = 0 → Q (-4) t_units t_side t_wasSet t_wasHighest t_wasUnits t_wasKinds t_wasSideKind t_wasSide (nI n)) → (rr q ≠ 0 → (p3.toInt < 0 ∨ 15 < p3.toInt) → Q (-2) t_units t_side t_wasSet t_wasHighest t_wasUnits t_wasKinds t_wasSideKind t_wasSide (nI n)) → (rr q ≠ 0 → 0 ≤ p3.toInt → p3.toInt ≤ 15 → ¬ (hw = 19 ∨ hw = 19 + rr q) → Q (-3) t_units t_side t_wasSet t_wasHighest t_wasUnits t_wasKinds t_wasSideKind t_wasSide (nI n)) → (rr q ≠ 0 → 0 ≤ p3.toInt → p3.toInt ≤ 15 → (hw = 19 ∨ hw = 19 + rr q) → blk_X8_poke_121 t_set t_highest t_kinds t_sideKind active rests t_writes Q (nI r) (nI 1) (nI q) p3 (nI hw) (nI w) (nI (rr q)) t_units t_side t_wasSet t_wasHighest t_wasUnits t_wasKinds t_wasSideKind t_wasSide (nI n)) → wp_X8_poke (nI r) (nI 1) (nI q) p3 (nI hw) (nI w) t_set t_highest t_units t_kinds t_sideKind t_side active rests t_writes t_wasSet t_wasHighest t_wasUnits t_wasKinds t_wasSideKind t_wasSide (nI n) Q := by
        intro Q h4 h2 h3 h1
        refine c8 Q (rr q) (fun a => absurd a (by decide)) (fun _ => rfl) ?_
        unfold blk_X8_poke_73
        intro x7 hx7
        rw [hx7]
        refine q_fi (nI_eq (b := 0) (by omega) (by decide)) (fun a => h4 a) (fun e0 => ?_)
        refine sp_mIn z15 (fun pa pb => q1a ?_) (fun o => q0a (h2 e0 (by omega)))
        refine ⟨fun a => absurd rfl a, fun _ => ?_⟩
        refine q_if (nI_eq (b := 19) (by omega) (by decide)) (fun b => h1 e0 pa pb (Or.inl b)) (fun b => ?_)
        rw [show (19 : Int32) + nI (rr q) = nI (19 + rr q) from nI_add 19 (rr q)]
        refine q_fi (nI_eq (by omega) (by omega)) (fun b2 => h1 e0 pa pb (Or.inr b2)) (fun b2 => ?_)
        unfold blk_X8_poke_154
        intro x8 hx8
        rw [hx8]
        exact q0a (h3 e0 pa pb (by omega))
      refine sp_refT hrw hpl22 (fun e0 x9 hx9 => ?_) (fun e0 pp x9 hx9 => ?_) (fun e0 pa pb nt x9 hx9 => ?_) (fun e0 pa pb tt x9 hx9 => ?_)
      · rw [hx9]
        refine ⟨fun a => absurd a (by decide), fun _ => ?_⟩
        have r0 := hrw0.mp e0
        exact m73 _ (fun _ => ⟨rfl, hI⟩) (fun a => absurd r0 a) (fun a => absurd r0 a) (fun a => absurd r0 a)
      · rw [hx9]
        refine ⟨fun a => absurd a (by decide), fun _ => ?_⟩
        have r0 : rr q ≠ 0 := fun a => e0 (hrw0.mpr a)
        exact m73 _ (fun a => absurd a r0) (fun _ _ => ⟨rfl, hI⟩) (fun _ a b => absurd pp (by omega)) (fun _ a b => absurd pp (by omega))
      · rw [hx9]
        refine ⟨fun a => absurd a (by decide), fun _ => ?_⟩
        have r0 : rr q ≠ 0 := fun a => e0 (hrw0.mpr a)
        exact m73 _ (fun a => absurd a r0) (fun _ o => absurd o (by omega)) (fun _ _ _ _ => ⟨rfl, hI⟩) (fun _ _ _ c => absurd (htk.mpr ⟨r0, c⟩) nt)
      · rw [hx9]
        refine q0b ?_
        have r0 : rr q ≠ 0 := fun a => e0 (hrw0.mpr a)
        obtain ⟨i, hi, e3⟩ := int_nI (p := p3) (b := 15) pa (by omega) (by decide)
        subst e3
        have hc19 := (htk.mp tt).2
        have epl : pl = hw := by
          rw [hpl, if_pos (by omega)]
        obtain ⟨v, hvd⟩ : ∃ v, v = (if hw = 19 then 0 else w + 1) := ⟨_, rfl⟩
        have hv101 : v ≤ 101 := by rw [hvd]; split <;> omega
        have hmn : ∀ j, upn m (16 * q + i) v j ≤ 101 := by
          intro j
          by_cases e : j = 16 * q + i
          · rw [e, upn_s]; exact hv101
          · rw [upn_n e]; exact hm j
        have hmn0 : ∀ j, 16 * PG d h ≤ j → upn m (16 * q + i) v j = 0 := by
          intro j hj
          rw [upn_n (by omega)]
          exact hm0 j hj
        have m8m : ∀ Q, (∀ wS wH wU wK wX wD, Kept n 22 t_wasSet wS 22 (fun j => if j < 16 then t_set j else if j = 16 then active else if j = 17 then rests else t_writes (j - 18)) → Kept n 4 t_wasHighest wH 4 t_highest → Kept n 17408 t_wasUnits wU 17408 t_units → Kept n 1088 t_wasKinds wK 1088 t_kinds → Kept n 1088 t_wasSideKind wX 1088 t_sideKind → Kept n 17408 t_wasSide wD 17408 t_side → BY wK → BY wX → BY wD → Q 0 t_units (upd t_side (4352 * r + (16 * q + i)) (nI v)) wS wH wU wK wX wD (nI (min n 7 + 1))) → wp_X8_poke (nI r) (nI 1) (nI q) (nI i) (nI hw) (nI w) t_set t_highest t_units t_kinds t_sideKind t_side active rests t_writes t_wasSet t_wasHighest t_wasUnits t_wasKinds t_wasSideKind t_wasSide (nI n) Q := by
          intro Q hQ
          refine m73 Q (fun a => absurd a r0) (fun _ o => absurd o (by omega)) (fun _ _ _ a => absurd hc19 a) (fun _ _ _ _ => ?_)
          unfold blk_X8_poke_121 blk_X8_poke_154
          intro x8 hx8
          rw [hx8]
          refine q1a ?_
          refine sp_keepsAct hn hb1 hb2 hb3 hb4 hb5 hb6 (fun wS wH wU wK wX wD k1 k2 k3 k4 k5 k6 hb7 hb8 hb9 => ?_)
          intro x9 hx9
          rw [ix_up] at hx9
          rw [hx9]
          refine ⟨fun a => absurd rfl a, fun _ => ?_⟩
          have put : ∀ val, val = nI v → (vp_in (nI (4352 * r + (16 * q + i))) 17408 ∧ ∀ t_side_210 : Nat → Int32, t_side_210 = upd t_side (nI (4352 * r + (16 * q + i))).toNatClampNeg val → Q 0 t_units t_side_210 wS wH wU wK wX wD (nI (min n 7 + 1))) := by
            intro val hval
            refine q_in (by omega) (by decide) ?_
            intro D3 hD3
            rw [nI_clamp (by omega), hval] at hD3
            rw [hD3]
            exact hQ wS wH wU wK wX wD k1 k2 k3 k4 k5 k6 hb7 hb8 hb9
          refine q_fi (nI_eq (b := 19) (by omega) (by decide)) (fun q1 => put _ ?_) (fun q1 => put _ ?_)
          · rw [if_pos q1] at hvd
            rw [hvd]; decide
          · rw [if_neg q1] at hvd
            rw [nI_1, ← hvd, vp_nar_byte, byte_small (by omega), byte_small (by omega)]
        refine sp_remember_in hr hx hn (Or.inr c_made) (fun W U K R M hW hc => ?_)
        intro x10 hx10
        rw [pg16, nI_add] at hx10
        rw [hx10]
        refine ⟨fun a => absurd rfl a, fun _ => ?_⟩
        rw [epl]
        refine q_fi (nI_eq (b := 19) (by omega) (by decide)) (fun q1 => ?_) (fun q1 => ?_)
        all_goals unfold blk_X7_poke_149
        all_goals refine sp_putMark (by omega) (m8m _ (fun wS wH wU wK wX wD k1 k2 k3 k4 k5 k6 hb7 hb8 hb9 => ?_))
        · rw [if_pos q1] at hvd
          rw [show (-1 : Int32) + 1 = nI v by rw [hvd]; decide]
          refine ⟨rfl, ?_⟩
          have hbD : BY (upd t_side (4352 * r + (16 * q + i)) (nI v)) := BY_upd hb3 (by omega)
          have ho1 : Only 4352 r (upd t_side (4352 * r + (16 * q + i)) (nI v)) t_side := fun j hj => pk_un (by omega)
          have ho : Oth r t_set t_set t_highest t_highest t_units t_units t_kinds t_kinds t_sideKind t_sideKind (upd t_side (4352 * r + (16 * q + i)) (nI v)) t_side := ⟨Only_rfl, fun _ _ => rfl, Only_rfl, Only_rfl, Only_rfl, ho1⟩
          refine ⟨hT, ⟨rfl, rfl, ew⟩, hO, LRs_act hr hL (fun i hi => ⟨rfl, rfl, rfl, rfl, rfl, rfl, rfl, rfl, rfl, va_up_ne _ _ hi⟩) ho ?_, ?_, hb1, hb2, hbD, hb7, hb8, hb9⟩
          · unfold LRs
            rw [va_up_self]
            refine Or.inr ⟨so, d, h, u, k, rr, upn m (16 * q + i) v, ⟨hso, hd, hh1, hh2, hu, hk, hrr, hmn, hmn0⟩, ⟨c_made, c_sort, c_dig, c_slots, c_pages, c_high, c_u, c_k, c_r, fun j hj => ?_⟩, ⟨v_sort, v_dig, v_slots, v_made, v_high, v_u, v_k, v_r, fun j hj => ?_⟩⟩
            · by_cases e : j = 16 * q + i
              · rw [e, pk_us, upn_s]
              · rw [pk_un e, upn_n e]; exact c_m j hj
            · show upd t_side (4352 * r + (16 * q + i)) (nI v) (4352 * r + j) = _
              by_cases e : j = 16 * q + i
              · rw [e, pk_us, upn_s]
              · rw [pk_un (by omega), upn_n e]; exact v_m j hj
          · exact Hist_act hn hx hl k1 k2 k3 k4 k5 k6 hO rfl rfl (fun k hk => (hW k hk).trans (ew k hk)) (fun i hi => ⟨va_up_ne _ _ hi, va_up_ne _ _ hi, va_up_ne _ _ hi, va_up_ne _ _ hi, va_up_ne _ _ hi, va_up_ne _ _ hi, va_up_ne _ _ hi, va_up_ne _ _ hi, va_up_ne _ _ hi, va_up_ne _ _ hi⟩) (Or.inr ⟨r, hr, rfl, by
          rw [va_up_self, va_up_self, va_up_self, va_up_self, va_up_self, va_up_self, va_up_self, va_up_self, va_up_self, va_up_self]
          exact LR_eq (hL r hr) hc (fun _ _ => rfl) rfl (fun _ _ => rfl) (fun _ _ => rfl) (fun _ _ => rfl) (fun _ _ => rfl)⟩) (Oth_same ho)
        · rw [if_neg q1] at hvd
          rw [nI_1, ← hvd]
          refine ⟨rfl, ?_⟩
          have hbD : BY (upd t_side (4352 * r + (16 * q + i)) (nI v)) := BY_upd hb3 (by omega)
          have ho1 : Only 4352 r (upd t_side (4352 * r + (16 * q + i)) (nI v)) t_side := fun j hj => pk_un (by omega)
          have ho : Oth r t_set t_set t_highest t_highest t_units t_units t_kinds t_kinds t_sideKind t_sideKind (upd t_side (4352 * r + (16 * q + i)) (nI v)) t_side := ⟨Only_rfl, fun _ _ => rfl, Only_rfl, Only_rfl, Only_rfl, ho1⟩
          refine ⟨hT, ⟨rfl, rfl, ew⟩, hO, LRs_act hr hL (fun i hi => ⟨rfl, rfl, rfl, rfl, rfl, rfl, rfl, rfl, rfl, va_up_ne _ _ hi⟩) ho ?_, ?_, hb1, hb2, hbD, hb7, hb8, hb9⟩
          · unfold LRs
            rw [va_up_self]
            refine Or.inr ⟨so, d, h, u, k, rr, upn m (16 * q + i) v, ⟨hso, hd, hh1, hh2, hu, hk, hrr, hmn, hmn0⟩, ⟨c_made, c_sort, c_dig, c_slots, c_pages, c_high, c_u, c_k, c_r, fun j hj => ?_⟩, ⟨v_sort, v_dig, v_slots, v_made, v_high, v_u, v_k, v_r, fun j hj => ?_⟩⟩
            · by_cases e : j = 16 * q + i
              · rw [e, pk_us, upn_s]
              · rw [pk_un e, upn_n e]; exact c_m j hj
            · show upd t_side (4352 * r + (16 * q + i)) (nI v) (4352 * r + j) = _
              by_cases e : j = 16 * q + i
              · rw [e, pk_us, upn_s]
              · rw [pk_un (by omega), upn_n e]; exact v_m j hj
          · exact Hist_act hn hx hl k1 k2 k3 k4 k5 k6 hO rfl rfl (fun k hk => (hW k hk).trans (ew k hk)) (fun i hi => ⟨va_up_ne _ _ hi, va_up_ne _ _ hi, va_up_ne _ _ hi, va_up_ne _ _ hi, va_up_ne _ _ hi, va_up_ne _ _ hi, va_up_ne _ _ hi, va_up_ne _ _ hi, va_up_ne _ _ hi, va_up_ne _ _ hi⟩) (Or.inr ⟨r, hr, rfl, by
          rw [va_up_self, va_up_self, va_up_self, va_up_self, va_up_self, va_up_self, va_up_self, va_up_self, va_up_self, va_up_self]
          exact LR_eq (hL r hr) hc (fun _ _ => rfl) rfl (fun _ _ => rfl) (fun _ _ => rfl) (fun _ _ => rfl) (fun _ _ => rfl)⟩) (Oth_same ho)
  · unfold wp_X7_poke
    refine sp_madeAt_out (fun r hr e => (ho r hr e).1) (opt_n ?_)
    unfold wp_X8_poke wp_X8_isPage
    exact sp_isMade_out (fun r hr e => (ho r hr e).2) (q0b (q0b ⟨rfl, hI⟩))
