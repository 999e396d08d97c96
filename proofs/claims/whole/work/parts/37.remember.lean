/-! ===== what the class remembers of an act ===== -/
theorem clampP (p : Int32) : ∃ c, c ≤ 271 ∧ (if (0 : Int32) < (if (271 : Int32) < p then (271 : Int32) else p) then (if (271 : Int32) < p then (271 : Int32) else p) else (0 : Int32)) = nI c ∧ ∀ P, P ≤ 271 → p = nI P → c = P := by
  have z : (0 : Int32).toInt = 0 := by decide
  have z2 : (271 : Int32).toInt = 271 := by decide
  by_cases h : (271 : Int32) < p
  · rw [if_pos h, if_pos (by decide)]
    refine ⟨271, by decide, rfl, fun P hP e => ?_⟩
    rw [fa_lt, e, nI_toInt (by omega)] at h
    omega
  · rw [if_neg h]
    by_cases h0 : (0 : Int32) < p
    · rw [if_pos h0]
      rw [fa_lt] at h h0
      obtain ⟨c, e⟩ : ∃ c : Nat, p.toInt = c := ⟨p.toInt.toNat, by omega⟩
      have e2 : p = nI c := Int32.toInt_inj.mp (by rw [e, nI_toInt (by omega)])
      refine ⟨c, by omega, e2, fun P hP e3 => ?_⟩
      exact (nI_eq (by omega) (by omega)).mp (by rw [← e2, e3])
    · rw [if_neg h0]
      refine ⟨0, by decide, rfl, fun P hP e => ?_⟩
      rw [fa_lt, e, nI_toInt (by omega)] at h0
      omega
theorem sp_setRec {i : Nat} {v : Int32} {W : Nat → Int32} {Q : (Nat → Int32) → Prop} (hi : i < 4) (h : Q (upd W i v)) : wp_X2_setRecorderOf (nI i) v W Q := by
  unfold wp_X2_setRecorderOf
  refine ⟨fun n => absurd n (nI_nneg (by omega)), fun _ => q_if (nI_leI (a := 4) (by decide) (by omega)) (fun n => absurd hi (by omega)) (fun _ => ?_)⟩
  refine q_in hi (by decide) ?_
  intro x hx
  rw [hx, nI_clamp (by omega)]
  exact h
theorem sp_X2_become {ta tr oa or : Int32} {tw ow : Nat → Int32} {Q : Int32 → Int32 → (Nat → Int32) → Prop} (h : ∀ W, (∀ k, k < 4 → W k = ow k) → Q oa or W) : wp_X2_become ta tr tw oa or ow Q := by
  unfold wp_X2_become
  intro a ha b hb c hc
  rw [ha, hb, hc]
  refine lp2 (fun n a b => lp_X2_become_18 oa or ow Q oa or n a b) (fun a b => ∃ i, i ≤ 4 ∧ a = nI i ∧ ∀ k, k < i → b k = ow k) (fun a _ => 4 - a.toInt.toNat) ?_ _ _ ⟨0, by omega, rfl, fun k hk => absurd hk (by omega)⟩
  intro n a b hI hs
  obtain ⟨i, hi, ea, hb2⟩ := hI
  subst ea
  show bod_X2_become_18 oa or ow Q oa or (fun v0 v1 => lp_X2_become_18 oa or ow Q oa or n v0 v1) _ _
  unfold bod_X2_become_18
  refine q_if (nI_leI (a := 4) (by decide) (by omega)) (fun q => h b (fun k hk => hb2 k (by omega))) (fun q => ?_)
  refine sp_recorderOf (by omega) (sp_setRec (by omega) ?_)
  intro x hx
  rw [hx, nI_1]
  refine hs _ _ ⟨i + 1, by omega, rfl, fun k hk => ?_⟩ ?_
  · by_cases e : k = i
    · rw [e, pk_us]
    · rw [pk_un e]; exact hb2 k (by omega)
  · rw [nI_toInt (by omega), nI_toInt (by omega)]
    omega
theorem n00 : ¬ (0 : Int32) < 0 := by decide
theorem sp_X1_become {tm ts td tsl tp om os od osl op : Int32} {th oh : Int64} {tu ou : Nat → Int64} {tk tr tmk ok orr omk : Nat → Int32} {Q : Int32 → Int32 → Int32 → Int32 → Int32 → Int64 → (Nat → Int64) → (Nat → Int32) → (Nat → Int32) → (Nat → Int32) → Prop} (hm : om = 0 ∨ om = 1) (h : ∀ U K R M, (∀ P, P ≤ 271 → op = nI P → (∀ j, j < 16 * P → U j = ou j) ∧ (∀ p, p < P → K p = ok p) ∧ (∀ p, p < P → R p = orr p) ∧ (∀ j, j < 16 * P → M j = omk j)) → Q om os od osl op oh U K R M) : wp_X1_become tm ts td tsl tp th tu tk tr tmk om os od osl op oh ou ok orr omk Q := by
  unfold wp_X1_become
  refine ⟨hm, ?_⟩
  intro a ha b hb c hc d hd e he f hf x hx
  rw [ha, hb, hc, hd, he, hf]
  rw [he] at hx
  obtain ⟨c, hc1, hc2, hc3⟩ := clampP op
  rw [hc2] at hx
  rw [hx, pg16, nI_clamp (by omega), nI_clamp (by omega), show ((0 : Int32)).toNatClampNeg = 0 from by decide]
  refine ⟨n00, n00, nI_nneg (by omega), by omega, by omega, ?_⟩
  intro U hU
  refine ⟨n00, n00, nI_nneg (by omega), by omega, by omega, ?_⟩
  intro K hK
  refine ⟨n00, n00, nI_nneg (by omega), by omega, by omega, ?_⟩
  intro R hR
  refine ⟨n00, n00, nI_nneg (by omega), by omega, by omega, ?_⟩
  intro M hM
  refine h U K R M (fun P hP e => ?_)
  have := hc3 P hP e
  subst this
  refine ⟨fun j hj => ?_, fun j hj => ?_, fun j hj => ?_, fun j hj => ?_⟩
  · rw [hU, pk_cpy_in (by omega) (by omega)]; congr 1; omega
  · rw [hK, pk_cpy_in (by omega) (by omega)]; congr 1; omega
  · rw [hR, pk_cpy_in (by omega) (by omega)]; congr 1; omega
  · rw [hM, pk_cpy_in (by omega) (by omega)]; congr 1; omega
theorem sp_stepAt {x : Nat} {Q : Option Nat → Prop} (hx : x < 8) (h : Q (some x)) : wp_X0_stepAt (nI x) Q := by
  unfold wp_X0_stepAt
  refine ⟨fun n => absurd n (nI_nneg (by omega)), fun _ => q_if (nI_ltI (b := 8) (by omega) (by decide)) (fun _ => ?_) (fun n => absurd hx n)⟩
  refine q_in hx (by decide) ?_
  rw [nI_clamp (by omega)]
  exact h
theorem sp_another {x n : Nat} {Q : Option Nat → Int32 → Int32 → Prop} (hx : x < 8) (hn : n ≤ 8) (h : Q (some x) (nI ((x + 1) % 8)) (nI (min (n + 1) 8))) : wp_X0_another (nI x) (nI n) Q := by
  unfold wp_X0_another
  refine sp_stepAt hx (opt_s ?_)
  intro a ha b hb
  have e1 : a = nI ((x + 1) % 8) := by
    rw [ha, show nI x + (1 : Int32) = nI (x + 1) from nI_1 x, show (8 : Int32) = nI 8 from rfl]
    exact pk_rem (by omega) (by decide) (by decide)
  have e2 : b = nI (min (n + 1) 8) := by
    rw [hb, show nI n + (1 : Int32) = nI (n + 1) from nI_1 n, show (8 : Int32) = nI 8 from rfl, nI_min (by decide) (by omega), Nat.min_comm]
  rw [e1, e2]
  exact h
theorem sp_remember_in {r x n : Nat} {active : Int32} {rests : Int32} {writers : Nat → Int32} {rec : Nat → Int32} {m_made : Nat → Int32} {m_sort : Nat → Int32} {m_digits : Nat → Int32} {m_slots : Nat → Int32} {m_pages : Nat → Int32} {m_highest : Nat → Int64} {m_units : Nat → Nat → Int64} {m_kinds : Nat → Nat → Int32} {m_rows : Nat → Nat → Int32} {m_marks : Nat → Nat → Int32} {q_active : Nat → Int32} {q_rests : Nat → Int32} {q_writers : Nat → Nat → Int32} {l_made : Nat → Int32} {l_sort : Nat → Int32} {l_digits : Nat → Int32} {l_slots : Nat → Int32} {l_pages : Nat → Int32} {l_highest : Nat → Int64} {l_units : Nat → Nat → Int64} {l_kinds : Nat → Nat → Int32} {l_rows : Nat → Nat → Int32} {l_marks : Nat → Nat → Int32} {Q : Int32 → Int32 → (Nat → Int32) → (Nat → Int32) → (Nat → Int32) → (Nat → Int32) → (Nat → Int32) → (Nat → Int32) → (Nat → Int64) → (Nat → Nat → Int64) → (Nat → Nat → Int32) → (Nat → Nat → Int32) → (Nat → Nat → Int32) → (Nat → Int32) → (Nat → Int32) → (Nat → Nat → Int32) → Prop} (hr : r < 4) (hx : x < 8) (hn : n ≤ 8) (hm : l_made r = 0 ∨ l_made r = 1) (h : ∀ W U K R M, (∀ k, k < 4 → W k = writers k) → (∀ P, P ≤ 271 → l_pages r = nI P → (∀ j, j < 16 * P → U j = l_units r j) ∧ (∀ p, p < P → K p = l_kinds r p) ∧ (∀ p, p < P → R p = l_rows r p) ∧ (∀ j, j < 16 * P → M j = l_marks r j)) → Q (nI ((x + 1) % 8)) (nI (min (n + 1) 8)) (va_up rec x (nI r)) (va_up m_made x (l_made r)) (va_up m_sort x (l_sort r)) (va_up m_digits x (l_digits r)) (va_up m_slots x (l_slots r)) (va_up m_pages x (l_pages r)) (va_up m_highest x (l_highest r)) (va_up m_units x U) (va_up m_kinds x K) (va_up m_rows x R) (va_up m_marks x M) (va_up q_active x active) (va_up q_rests x rests) (va_up q_writers x W)) : wp_X7_remember (nI r) active rests writers (nI x) (nI n) rec m_made m_sort m_digits m_slots m_pages m_highest m_units m_kinds m_rows m_marks q_active q_rests q_writers l_made l_sort l_digits l_slots l_pages l_highest l_units l_kinds l_rows l_marks Q := by
  unfold wp_X7_remember
  refine sp_another hx hn (opt_s ?_)
  intro a ha
  rw [ha]
  refine sp_X2_become (fun W hW => ?_)
  refine sp_ledgerAt_in hr (opt_s ?_)
  refine sp_X1_become hm (fun U K R M hc => ?_)
  exact h W U K R M hW hc
theorem sp_remember_none {x n : Nat} {p : Int32} {active : Int32} {rests : Int32} {writers : Nat → Int32} {rec : Nat → Int32} {m_made : Nat → Int32} {m_sort : Nat → Int32} {m_digits : Nat → Int32} {m_slots : Nat → Int32} {m_pages : Nat → Int32} {m_highest : Nat → Int64} {m_units : Nat → Nat → Int64} {m_kinds : Nat → Nat → Int32} {m_rows : Nat → Nat → Int32} {m_marks : Nat → Nat → Int32} {q_active : Nat → Int32} {q_rests : Nat → Int32} {q_writers : Nat → Nat → Int32} {l_made : Nat → Int32} {l_sort : Nat → Int32} {l_digits : Nat → Int32} {l_slots : Nat → Int32} {l_pages : Nat → Int32} {l_highest : Nat → Int64} {l_units : Nat → Nat → Int64} {l_kinds : Nat → Nat → Int32} {l_rows : Nat → Nat → Int32} {l_marks : Nat → Nat → Int32} {Q : Int32 → Int32 → (Nat → Int32) → (Nat → Int32) → (Nat → Int32) → (Nat → Int32) → (Nat → Int32) → (Nat → Int32) → (Nat → Int64) → (Nat → Nat → Int64) → (Nat → Nat → Int32) → (Nat → Nat → Int32) → (Nat → Nat → Int32) → (Nat → Int32) → (Nat → Int32) → (Nat → Nat → Int32) → Prop} (hp : ∀ r, r < 4 → p ≠ nI r) (hx : x < 8) (hn : n ≤ 8) (h : ∀ W, (∀ k, k < 4 → W k = writers k) → Q (nI ((x + 1) % 8)) (nI (min (n + 1) 8)) (va_up rec x p) m_made m_sort m_digits m_slots m_pages m_highest m_units m_kinds m_rows m_marks (va_up q_active x active) (va_up q_rests x rests) (va_up q_writers x W)) : wp_X7_remember p active rests writers (nI x) (nI n) rec m_made m_sort m_digits m_slots m_pages m_highest m_units m_kinds m_rows m_marks q_active q_rests q_writers l_made l_sort l_digits l_slots l_pages l_highest l_units l_kinds l_rows l_marks Q := by
  unfold wp_X7_remember
  refine sp_another hx hn (opt_s ?_)
  intro a ha
  rw [ha]
  refine sp_X2_become (fun W hW => ?_)
  exact sp_ledgerAt_out hp (opt_n (h W hW))
/-! ===== pictures carried over ===== -/
theorem CLed_eq {made sort digits slots pages : Int32} {highest : Int64} {U U' : Nat → Int64} {K K' R R' M M' : Nat → Int32} {so d h : Nat} {u k r m : Nat → Nat} (hd : d = 1 ∨ d = 2) (hh : h ≤ 1000000000000) (hC : CLed made sort digits slots pages highest U K R M so d h u k r m) (hc : ∀ P, P ≤ 271 → pages = nI P → (∀ j, j < 16 * P → U' j = U j) ∧ (∀ p, p < P → K' p = K p) ∧ (∀ p, p < P → R' p = R p) ∧ (∀ j, j < 16 * P → M' j = M j)) : CLed made sort digits slots pages highest U' K' R' M' so d h u k r m := by
  obtain ⟨c_made, c_sort, c_dig, c_slots, c_pages, c_high, c_u, c_k, c_r, c_m⟩ := hC
  have ⟨b1, b2, b3, b4⟩ := PG_b hd hh
  obtain ⟨e1, e2, e3, e4⟩ := hc (PG d h) b1 c_pages
  exact ⟨c_made, c_sort, c_dig, c_slots, c_pages, c_high, fun j hj => (e1 j hj).trans (c_u j hj), fun j hj => (e2 j hj).trans (c_k j hj), fun j hj => (e3 j hj).trans (c_r j hj), fun j hj => (e4 j hj).trans (c_m j hj)⟩
theorem MLed_eq {vs vs' : Nat → Int32} {vh vh' : Int64} {vU vU' : Nat → Int64} {vK vK' vS vS' vM vM' : Nat → Int32} {so d h : Nat} {u k r m : Nat → Nat} (hd : d = 1 ∨ d = 2) (hh : h ≤ 1000000000000) (hM : MLed vs vh vU vK vS vM so d h u k r m) (h1 : ∀ c, c < 4 → vs' c = vs c) (h2 : vh' = vh) (h3 : ∀ j, j < 4352 → vU' j = vU j) (h4 : ∀ p, p < 272 → vK' p = vK p) (h5 : ∀ p, p < 272 → vS' p = vS p) (h6 : ∀ j, j < 4352 → vM' j = vM j) : MLed vs' vh' vU' vK' vS' vM' so d h u k r m := by
  obtain ⟨v_sort, v_dig, v_slots, v_made, v_high, v_u, v_k, v_r, v_m⟩ := hM
  have ⟨b1, b2, b3, b4⟩ := PG_b hd hh
  exact ⟨(h1 0 (by decide)).trans v_sort, (h1 1 (by decide)).trans v_dig, (h1 2 (by decide)).trans v_slots, (h1 3 (by decide)).trans v_made, h2.trans v_high, fun j hj => (h3 j (by omega)).trans (v_u j hj), fun j hj => (h4 j (by omega)).trans (v_k j hj), fun j hj => (h5 j (by omega)).trans (v_r j hj), fun j hj => (h6 j hj).trans (v_m j hj)⟩
theorem LR_eq {made sort digits slots pages : Int32} {highest : Int64} {U U' : Nat → Int64} {K K' R R' M M' : Nat → Int32} {vs vs' : Nat → Int32} {vh vh' : Int64} {vU vU' : Nat → Int64} {vK vK' vS vS' vM vM' : Nat → Int32} (hL : LR made sort digits slots pages highest U K R M vs vh vU vK vS vM) (hc : ∀ P, P ≤ 271 → pages = nI P → (∀ j, j < 16 * P → U' j = U j) ∧ (∀ p, p < P → K' p = K p) ∧ (∀ p, p < P → R' p = R p) ∧ (∀ j, j < 16 * P → M' j = M j)) (h1 : ∀ c, c < 4 → vs' c = vs c) (h2 : vh' = vh) (h3 : ∀ j, j < 4352 → vU' j = vU j) (h4 : ∀ p, p < 272 → vK' p = vK p) (h5 : ∀ p, p < 272 → vS' p = vS p) (h6 : ∀ j, j < 4352 → vM' j = vM j) : LR made sort digits slots pages highest U' K' R' M' vs' vh' vU' vK' vS' vM' := by
  rcases hL with ⟨a, b⟩ | ⟨so, d, h, u, k, r, m, hA, hC, hM⟩
  · exact Or.inl ⟨a, (h1 3 (by decide)).trans b⟩
  · have hd := hA.2.1
    have hh := hA.2.2.2.1
    exact Or.inr ⟨so, d, h, u, k, r, m, hA, CLed_eq hd hh hC hc, MLed_eq hd hh hM h1 h2 h3 h4 h5 h6⟩
theorem PairOK_eq {ac ac' re re' : Int32} {wr wr' mk mk' : Nat → Int32} (h : PairOK ac re wr mk) (h1 : ac' = ac) (h2 : re' = re) (h3 : ∀ k, k < 4 → wr' k = wr k) (h4 : ∀ i, i < 2 → mk i = 1 → mk' i = 1) : PairOK ac' re' wr' mk' := by
  obtain ⟨a, b, c⟩ := h
  subst h1 h2
  refine ⟨a, ?_, fun k hk => ?_⟩
  · rcases b with e | ⟨i, hi, e, m⟩
    · exact Or.inl e
    · exact Or.inr ⟨i, hi, e, h4 i hi m⟩
  · rw [h3 k hk]
    rcases c k hk with e | ⟨i, hi, e, m⟩
    · exact Or.inl e
    · exact Or.inr ⟨i, hi, e, h4 i hi m⟩
