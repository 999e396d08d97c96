/-! ===== the history after an act ===== -/
theorem KVS {n w W V : Nat} {was was' cur cur' c2 : Nat → Int32} (hn : n ≤ 8) (hW : W ≤ w) (hV : V ≤ W) (h : Kept n w was was' W cur) (hc : ∀ j, j < V → cur j = c2 j) {u j : Nat} (hu : u ≤ min n 7) (hj : j < V) : vwS (min n 7 + 1) w was' cur' u j = vwS n w was c2 (u + (n - 7)) j := by
  unfold vwS
  rw [if_pos (by omega)]
  by_cases q : u < min n 7
  · rw [h.1 u q j (by omega), if_pos (by omega)]
  · have e : u = min n 7 := by omega
    subst e
    rw [h.2 j (by omega), if_neg (by omega)]
    exact hc j hj
theorem KVL {n w W V : Nat} {was was' cur cur' c2 : Nat → Int64} (hn : n ≤ 8) (hW : W ≤ w) (hV : V ≤ W) (h : Kept n w was was' W cur) (hc : ∀ j, j < V → cur j = c2 j) {u j : Nat} (hu : u ≤ min n 7) (hj : j < V) : vwL (min n 7 + 1) w was' cur' u j = vwL n w was c2 (u + (n - 7)) j := by
  unfold vwL
  rw [if_pos (by omega)]
  by_cases q : u < min n 7
  · rw [h.1 u q j (by omega), if_pos (by omega)]
  · have e : u = min n 7 := by omega
    subst e
    rw [h.2 j (by omega), if_neg (by omega)]
    exact hc j hj
theorem VNS {n w : Nat} {was cur : Nat → Int32} (j : Nat) : vwS n w was cur n j = cur j := if_neg (by omega)
theorem VNL {n w : Nat} {was cur : Nat → Int64} (j : Nat) : vwL n w was cur n j = cur j := if_neg (by omega)
theorem Hist_act {n x : Nat} {p : Int32} {active : Int32} {rests : Int32} {rec : Nat → Int32} {m_made : Nat → Int32} {m_sort : Nat → Int32} {m_digits : Nat → Int32} {m_slots : Nat → Int32} {m_pages : Nat → Int32} {m_highest : Nat → Int64} {m_units : Nat → Nat → Int64} {m_kinds : Nat → Nat → Int32} {m_rows : Nat → Nat → Int32} {m_marks : Nat → Nat → Int32} {q_active : Nat → Int32} {q_rests : Nat → Int32} {q_writers : Nat → Nat → Int32} {t_set : Nat → Int32} {t_highest : Nat → Int64} {t_units : Nat → Int64} {t_kinds : Nat → Int32} {t_sideKind : Nat → Int32} {t_side : Nat → Int32} {t_active : Int32} {t_rests : Int32} {t_writes : Nat → Int32} {t_wasSet : Nat → Int32} {t_wasHighest : Nat → Int64} {t_wasUnits : Nat → Int64} {t_wasKinds : Nat → Int32} {t_wasSideKind : Nat → Int32} {t_wasSide : Nat → Int32} {n_made : Nat → Int32} {n_sort : Nat → Int32} {n_digits : Nat → Int32} {n_slots : Nat → Int32} {n_pages : Nat → Int32} {n_highest : Nat → Int64} {n_units : Nat → Nat → Int64} {n_kinds : Nat → Nat → Int32} {n_rows : Nat → Nat → Int32} {n_marks : Nat → Nat → Int32} {W wS wK wX wD s' k' x' d' : Nat → Int32} {wH wU h' u' : Nat → Int64} (hn : n ≤ 8) (hx : x < 8)
    (hl : ∀ u, u < n → Link n ((x + 8 - n + u) % 8) u rec m_made m_sort m_digits m_slots m_pages m_highest m_units m_kinds m_rows m_marks q_active q_rests q_writers t_set t_highest t_units t_kinds t_sideKind t_side t_wasSet t_wasHighest t_wasUnits t_wasKinds t_wasSideKind t_wasSide)
    (k1 : Kept n 22 t_wasSet wS 22 (fun j => if j < 16 then t_set j else if j = 16 then t_active else if j = 17 then t_rests else t_writes (j - 18))) (k2 : Kept n 4 t_wasHighest wH 4 t_highest) (k3 : Kept n 17408 t_wasUnits wU 17408 t_units) (k4 : Kept n 1088 t_wasKinds wK 1088 t_kinds) (k5 : Kept n 1088 t_wasSideKind wX 1088 t_sideKind) (k6 : Kept n 17408 t_wasSide wD 17408 t_side)
    (hO : PairOK t_active t_rests t_writes (fun r => t_set (4 * r + 3))) (ea : active = t_active) (er : rests = t_rests) (ew : ∀ k, k < 4 → W k = t_writes k)
    (hm : ∀ i, i ≠ x → n_made i = m_made i ∧ n_sort i = m_sort i ∧ n_digits i = m_digits i ∧ n_slots i = m_slots i ∧ n_pages i = m_pages i ∧ n_highest i = m_highest i ∧ n_units i = m_units i ∧ n_kinds i = m_kinds i ∧ n_rows i = m_rows i ∧ n_marks i = m_marks i)
    (hrho : p = -1 ∨ ∃ r, r < 4 ∧ p = nI r ∧ LR (n_made x) (n_sort x) (n_digits x) (n_slots x) (n_pages x) (n_highest x) (n_units x) (n_kinds x) (n_rows x) (n_marks x) (fun c => t_set (4 * r + c)) (t_highest r) (fun j => t_units (4352 * r + j)) (fun p => t_kinds (272 * r + p)) (fun p => t_sideKind (272 * r + p)) (fun j => t_side (4352 * r + j)))
    (hsame : ∀ r, r < 4 → p ≠ nI r → (∀ c, c < 4 → s' (4 * r + c) = t_set (4 * r + c)) ∧ h' r = t_highest r ∧ (∀ j, j < 4352 → u' (4352 * r + j) = t_units (4352 * r + j)) ∧ (∀ p, p < 272 → k' (272 * r + p) = t_kinds (272 * r + p)) ∧ (∀ p, p < 272 → x' (272 * r + p) = t_sideKind (272 * r + p)) ∧ (∀ j, j < 4352 → d' (4352 * r + j) = t_side (4352 * r + j))) :
    Hist (nI ((x + 1) % 8)) (nI (min (n + 1) 8)) (va_up rec x p) n_made n_sort n_digits n_slots n_pages n_highest n_units n_kinds n_rows n_marks (va_up q_active x active) (va_up q_rests x rests) (va_up q_writers x W) s' h' u' k' x' d' wS wH wU wK wX wD (nI (min n 7 + 1)) := by
  refine ⟨min n 7 + 1, (x + 1) % 8, by omega, by omega, congrArg nI (by omega), rfl, rfl, fun u hu => ?_⟩
  by_cases hu7 : u = min n 7
  · rw [show ((x + 1) % 8 + 8 - (min n 7 + 1) + u) % 8 = x by omega]
    subst hu7
    have c16 : wS (22 * min n 7 + 16) = t_active := k1.2 16 (by decide)
    have c17 : wS (22 * min n 7 + 17) = t_rests := k1.2 17 (by decide)
    have c18 : ∀ k, k < 4 → wS (22 * min n 7 + 18 + k) = t_writes k := by
      intro k hk
      rw [Nat.add_assoc, k1.2 (18 + k) (by omega)]
      show (if 18 + k < 16 then t_set (18 + k) else if 18 + k = 16 then t_active else if 18 + k = 17 then t_rests else t_writes (18 + k - 18)) = _
      rw [if_neg (by omega), if_neg (by omega), if_neg (by omega)]
      congr 1; omega
    have c0 : ∀ j, j < 16 → wS (22 * min n 7 + j) = t_set j := by
      intro j hj
      rw [k1.2 j (by omega)]
      exact if_pos hj
    refine ⟨?_, ?_, ?_, ?_, ?_, ?_⟩
    · rw [va_up_self, c16]; exact ea
    · rw [va_up_self, c17]; exact er
    · intro k hk
      rw [va_up_self, c18 k hk]; exact ew k hk
    · refine PairOK_eq hO c16 c17 c18 (fun i hi h => ?_)
      exact (c0 (4 * i + 3) (by omega)).trans h
    · rw [va_up_self]
      rcases hrho with e | ⟨r, hr, e, hL⟩
      · exact Or.inl e
      · refine Or.inr ⟨r, hr, e, LR_eq hL (fun P _ _ => ⟨fun _ _ => rfl, fun _ _ => rfl, fun _ _ => rfl, fun _ _ => rfl⟩) (fun c hc => c0 _ (by omega)) (k2.2 r hr) (fun j hj => k3.2 _ (by omega)) (fun j hj => k4.2 _ (by omega)) (fun j hj => k5.2 _ (by omega)) (fun j hj => k6.2 _ (by omega))⟩
    · intro r hr hne
      rw [va_up_self] at hne
      obtain ⟨e1, e2, e3, e4, e5, e6⟩ := hsame r hr hne
      refine ⟨fun c hc => ?_, ?_, fun j hj => ?_, fun j hj => ?_, fun j hj => ?_, fun j hj => ?_⟩
      · rw [VNS, e1 c hc]; unfold vwS; rw [if_pos (by omega)]; exact c0 _ (by omega)
      · rw [VNL, e2]; unfold vwL; rw [if_pos (by omega)]; exact k2.2 r hr
      · rw [VNL, e3 j hj]; unfold vwL; rw [if_pos (by omega)]; exact k3.2 _ (by omega)
      · rw [VNS, e4 j hj]; unfold vwS; rw [if_pos (by omega)]; exact k4.2 _ (by omega)
      · rw [VNS, e5 j hj]; unfold vwS; rw [if_pos (by omega)]; exact k5.2 _ (by omega)
      · rw [VNS, e6 j hj]; unfold vwS; rw [if_pos (by omega)]; exact k6.2 _ (by omega)
  · have hlt : u < min n 7 := by omega
    have hL := hl (u + (n - 7)) (by omega)
    rw [show ((x + 1) % 8 + 8 - (min n 7 + 1) + u) % 8 = (x + 8 - n + (u + (n - 7))) % 8 by omega]
    have hne : (x + 8 - n + (u + (n - 7))) % 8 ≠ x := by omega
    generalize (x + 8 - n + (u + (n - 7))) % 8 = i at hL hne
    obtain ⟨l1, l2, l3, l4, l5, l6⟩ := hL
    obtain ⟨e1, e2, e3, e4, e5, e6, e7, e8, e9, e10⟩ := hm i hne
    have c0 : ∀ j, j < 22 → wS (22 * u + j) = t_wasSet (22 * (u + (n - 7)) + j) := fun j hj => k1.1 u hlt j hj
    have c18 : ∀ k, k < 4 → wS (22 * u + 18 + k) = t_wasSet (22 * (u + (n - 7)) + 18 + k) := by
      intro k hk
      rw [Nat.add_assoc, c0 (18 + k) (by omega), Nat.add_assoc]
    refine ⟨?_, ?_, ?_, ?_, ?_, ?_⟩
    · rw [va_up_ne _ _ hne, c0 16 (by decide)]; exact l1
    · rw [va_up_ne _ _ hne, c0 17 (by decide)]; exact l2
    · intro k hk
      rw [va_up_ne _ _ hne, c18 k hk]; exact l3 k hk
    · refine PairOK_eq l4 (c0 16 (by decide)) (c0 17 (by decide)) c18 (fun i hi h => ?_)
      exact (c0 (4 * i + 3) (by omega)).trans h
    · rw [va_up_ne _ _ hne, e1, e2, e3, e4, e5, e6, e7, e8, e9, e10]
      rcases l5 with e | ⟨r, hr, e, hL⟩
      · exact Or.inl e
      · refine Or.inr ⟨r, hr, e, LR_eq hL (fun P _ _ => ⟨fun _ _ => rfl, fun _ _ => rfl, fun _ _ => rfl, fun _ _ => rfl⟩) (fun c hc => c0 _ (by omega)) (k2.1 u hlt r hr) (fun j hj => k3.1 u hlt _ (by omega)) (fun j hj => k4.1 u hlt _ (by omega)) (fun j hj => k5.1 u hlt _ (by omega)) (fun j hj => k6.1 u hlt _ (by omega))⟩
    · intro r hr hne2
      rw [va_up_ne _ _ hne] at hne2
      obtain ⟨f1, f2, f3, f4, f5, f6⟩ := l6 r hr hne2
      have hs : u + 1 + (n - 7) = u + (n - 7) + 1 := by omega
      have hcs : ∀ j, j < 16 → (fun j => if j < 16 then t_set j else if j = 16 then t_active else if j = 17 then t_rests else t_writes (j - 18)) j = t_set j := fun j hj => if_pos hj
      refine ⟨fun c hc => ?_, ?_, fun j hj => ?_, fun j hj => ?_, fun j hj => ?_, fun j hj => ?_⟩
      · rw [KVS (V := 16) hn (Nat.le_refl _) (by decide) k1 hcs (by omega) (by omega), KVS (V := 16) hn (Nat.le_refl _) (by decide) k1 hcs (by omega) (by omega), hs]
        exact f1 c hc
      · rw [KVL hn (Nat.le_refl _) (Nat.le_refl _) k2 (fun _ _ => rfl) (by omega) (by omega), KVL hn (Nat.le_refl _) (Nat.le_refl _) k2 (fun _ _ => rfl) (by omega) (by omega), hs]
        exact f2
      · rw [KVL hn (Nat.le_refl _) (Nat.le_refl _) k3 (fun _ _ => rfl) (by omega) (by omega), KVL hn (Nat.le_refl _) (Nat.le_refl _) k3 (fun _ _ => rfl) (by omega) (by omega), hs]
        exact f3 j hj
      · rw [KVS hn (Nat.le_refl _) (Nat.le_refl _) k4 (fun _ _ => rfl) (by omega) (by omega), KVS hn (Nat.le_refl _) (Nat.le_refl _) k4 (fun _ _ => rfl) (by omega) (by omega), hs]
        exact f4 j hj
      · rw [KVS hn (Nat.le_refl _) (Nat.le_refl _) k5 (fun _ _ => rfl) (by omega) (by omega), KVS hn (Nat.le_refl _) (Nat.le_refl _) k5 (fun _ _ => rfl) (by omega) (by omega), hs]
        exact f5 j hj
      · rw [KVS hn (Nat.le_refl _) (Nat.le_refl _) k6 (fun _ _ => rfl) (by omega) (by omega), KVS hn (Nat.le_refl _) (Nat.le_refl _) k6 (fun _ _ => rfl) (by omega) (by omega), hs]
        exact f6 j hj
