/-! ===== one write, and many: what kind a page then has ===== -/
def upn (u : Nat → Nat) (t v : Nat) : Nat → Nat := fun j => if j = t then v else u j
def bs (so kp m : Nat) : Nat := if 1 ≤ kp ∧ kp ≤ 8 then kp else kf (kst so) m
def Un (u0 u : Nat → Nat) (p : Nat) : Prop := ∀ i, i < 16 → u (16 * p + i) = u0 (16 * p + i)
noncomputable def fk (so : Nat) (u0 k0 u : Nat → Nat) (p : Nat) : Nat := @ite _ (Un u0 u p) (Classical.propDecidable _) (k0 p) (kf (bs so (k0 p) (mxf (pgu u0 p) 16)) (mxf (pgu u p) 16))
theorem fk_un {so : Nat} {u0 k0 u : Nat → Nat} {p : Nat} (h : Un u0 u p) : fk so u0 k0 u p = k0 p := by
  unfold fk
  rw [if_pos h]
theorem fk_ch {so : Nat} {u0 k0 u : Nat → Nat} {p : Nat} (h : ¬ Un u0 u p) : fk so u0 k0 u p = kf (bs so (k0 p) (mxf (pgu u0 p) 16)) (mxf (pgu u p) 16) := by
  unfold fk
  rw [if_neg h]
theorem fk_0 (so : Nat) (u0 k0 : Nat → Nat) : fk so u0 k0 u0 = k0 := funext fun _ => fk_un (fun _ _ => rfl)
theorem upn_s {u : Nat → Nat} {t v : Nat} : upn u t v t = v := if_pos rfl
theorem upn_n {u : Nat → Nat} {t v j : Nat} (h : j ≠ t) : upn u t v j = u j := if_neg h
theorem upn_id {u : Nat → Nat} {t v : Nat} (h : u t = v) : upn u t v = u := funext fun j => by
  by_cases e : j = t
  · rw [e, upn_s, h]
  · rw [upn_n e]
theorem mxf_ge {f : Nat → Nat} {n i : Nat} (h : i < n) : f i ≤ mxf f n := mxf_le.mp (Nat.le_refl _) i h
theorem mxf_ext {f g : Nat → Nat} {n : Nat} (h : ∀ i, i < n → f i = g i) : mxf f n = mxf g n :=
  Nat.le_antisymm (mxf_le.mpr fun i hi => by rw [h i hi]; exact mxf_ge hi) (mxf_le.mpr fun i hi => by rw [← h i hi]; exact mxf_ge hi)
theorem kf_cap {so B m v : Nat} (hB : Rk so B) (hm : m ≤ 1000000000000000) (h1 : v ≤ m) (h2 : m ≤ max (cap B) v) : kf B m = kf B v := by
  by_cases q : v ≤ cap B
  · rw [kf_self q, kf_self (by omega)]
  · rw [show m = v by omega]
theorem Rk_bs {so kp m : Nat} {f : Nat → Nat} (hso : so = 0 ∨ so = 1) (hk : KOK so kp f) (hm : m ≤ 1000000000000000) : Rk so (bs so kp m) := by
  unfold bs
  by_cases q : 1 ≤ kp ∧ kp ≤ 8
  · rw [if_pos q]
    rcases hso with e | e
    · have := hk.2.1 e; exact Or.inl ⟨e, q.1, by omega⟩
    · have := hk.2.2.1 e; exact Or.inr ⟨e, by omega, q.2⟩
  · rw [if_neg q]
    exact (kf_row (Rk_st hso) hm).1
theorem cap_bs {so kp m : Nat} {f : Nat → Nat} (hso : so = 0 ∨ so = 1) (hk : KOK so kp f) (hm : m ≤ 1000000000000000) (hf : ∀ i, i < 16 → f i ≤ m) : ∀ i, i < 16 → f i ≤ cap (bs so kp m) := by
  intro i hi
  unfold bs
  by_cases q : 1 ≤ kp ∧ kp ≤ 8
  · rw [if_pos q]
    exact hk.2.2.2 q.1 q.2 i hi
  · rw [if_neg q]
    exact Nat.le_trans (hf i hi) (kf_row (Rk_st hso) hm).2.2.1
theorem bs_row {so k m : Nat} (h : Rk so k) : bs so k m = k := if_pos (Rk_b h)
def Dir (u0 u : Nat → Nat) (t v : Nat) : Prop := ((∀ j, u0 j ≤ u j) ∧ u t ≤ v) ∨ ((∀ j, u j ≤ u0 j) ∧ v ≤ u t)
theorem fk_o {so : Nat} {u0 k0 u : Nat → Nat} {t v p : Nat} (h : p ≠ t / 16) : fk so u0 k0 (upn u t v) p = fk so u0 k0 u p := by
  have e : ∀ i, i < 16 → upn u t v (16 * p + i) = u (16 * p + i) := fun i hi => upn_n (by omega)
  by_cases q : Un u0 u p
  · rw [fk_un q, fk_un (fun i hi => (e i hi).trans (q i hi))]
  · have m : mxf (pgu (upn u t v) p) 16 = mxf (pgu u p) 16 := mxf_ext e
    rw [fk_ch q, fk_ch (fun q2 => q (fun i hi => (e i hi).symm.trans (q2 i hi))), m]
theorem fk_s {so : Nat} {u0 k0 u : Nat → Nat} {t v : Nat} (hso : so = 0 ∨ so = 1) (hk0 : ∀ p, KOK so (k0 p) (fun i => u0 (16 * p + i))) (hb0 : ∀ j, u0 j ≤ 1000000000000000) (hb : ∀ j, u j ≤ 1000000000000000) (hv : v ≤ 1000000000000000) (hD : Dir u0 u t v) (hne : u t ≠ v) : fk so u0 k0 (upn u t v) (t / 16) = kf (bs so (fk so u0 k0 u (t / 16)) (mxf (pgu u (t / 16)) 16)) v := by
  have hB0 : mxf (pgu u0 (t / 16)) 16 ≤ 1000000000000000 := mxf_b (fun i => hb0 _)
  have hB1 : mxf (pgu u (t / 16)) 16 ≤ 1000000000000000 := mxf_b (fun i => hb _)
  have hRB := Rk_bs hso (hk0 (t / 16)) hB0
  have hcB := cap_bs hso (hk0 (t / 16)) hB0 (fun i hi => mxf_ge (f := pgu u0 (t / 16)) hi)
  have et : 16 * (t / 16) + t % 16 = t := by omega
  have hch : ¬ Un u0 (upn u t v) (t / 16) := by
    intro q
    have q2 := q (t % 16) (by omega)
    rw [et, upn_s] at q2
    rcases hD with ⟨a, b⟩ | ⟨a, b⟩
    · have := a t; omega
    · have := a t; omega
  have hbn : ∀ j, upn u t v j ≤ 1000000000000000 := by
    intro j
    by_cases e : j = t
    · rw [e, upn_s]; exact hv
    · rw [upn_n e]; exact hb j
  have hB2 : mxf (pgu (upn u t v) (t / 16)) 16 ≤ 1000000000000000 := mxf_b (fun i => hbn _)
  have hvm : v ≤ mxf (pgu (upn u t v) (t / 16)) 16 := by
    have := mxf_ge (f := pgu (upn u t v) (t / 16)) (n := 16) (i := t % 16) (by omega)
    have e : pgu (upn u t v) (t / 16) (t % 16) = v := by show upn u t v (16 * (t / 16) + t % 16) = v; rw [et, upn_s]
    rw [e] at this
    exact this
  have oth : ∀ i, i < 16 → 16 * (t / 16) + i ≠ t → pgu (upn u t v) (t / 16) i = u (16 * (t / 16) + i) := fun i _ h => upn_n h
  rw [fk_ch hch]
  by_cases q : Un u0 u (t / 16)
  · rw [fk_un q, show mxf (pgu u (t / 16)) 16 = mxf (pgu u0 (t / 16)) 16 from mxf_ext q]
    refine kf_cap hRB hB2 hvm (mxf_le.mpr fun i hi => ?_)
    by_cases e : 16 * (t / 16) + i = t
    · have : pgu (upn u t v) (t / 16) i = v := by show upn u t v (16 * (t / 16) + i) = v; rw [e, upn_s]
      rw [this]; omega
    · rw [oth i hi e, q i hi]
      have := hcB i hi
      have h2 : u0 (16 * (t / 16) + i) ≤ cap (bs so (k0 (t / 16)) (mxf (pgu u0 (t / 16)) 16)) := this
      omega
  · rw [fk_ch q]
    have hrow := (kf_row hRB hB1).1
    rw [bs_row hrow, kf_kf hRB hB1 hv]
    have htm : u t ≤ mxf (pgu u (t / 16)) 16 := by
      have := mxf_ge (f := pgu u (t / 16)) (n := 16) (i := t % 16) (by omega)
      have e : pgu u (t / 16) (t % 16) = u t := by show u (16 * (t / 16) + t % 16) = u t; rw [et]
      rw [e] at this
      exact this
    rcases hD with ⟨a, b⟩ | ⟨a, b⟩
    · have : mxf (pgu (upn u t v) (t / 16)) 16 = max (mxf (pgu u (t / 16)) 16) v := by
        refine Nat.le_antisymm (mxf_le.mpr fun i hi => ?_) (Nat.max_le.mpr ⟨mxf_le.mpr fun i hi => ?_, hvm⟩)
        · by_cases e : 16 * (t / 16) + i = t
          · have : pgu (upn u t v) (t / 16) i = v := by show upn u t v (16 * (t / 16) + i) = v; rw [e, upn_s]
            rw [this]; omega
          · rw [oth i hi e]
            have h2 : u (16 * (t / 16) + i) ≤ mxf (pgu u (t / 16)) 16 := mxf_ge (f := pgu u (t / 16)) hi
            omega
        · by_cases e : 16 * (t / 16) + i = t
          · show u (16 * (t / 16) + i) ≤ _
            rw [e]; omega
          · have h2 := mxf_ge (f := pgu (upn u t v) (t / 16)) (n := 16) (i := i) hi
            rw [oth i hi e] at h2
            exact h2
      rw [this]
    · have c0 : ∀ i, i < 16 → u0 (16 * (t / 16) + i) ≤ cap (bs so (k0 (t / 16)) (mxf (pgu u0 (t / 16)) 16)) := hcB
      have c1 : mxf (pgu u (t / 16)) 16 ≤ cap (bs so (k0 (t / 16)) (mxf (pgu u0 (t / 16)) 16)) := mxf_le.mpr fun i hi => Nat.le_trans (a _) (c0 i hi)
      have c2 : mxf (pgu (upn u t v) (t / 16)) 16 ≤ cap (bs so (k0 (t / 16)) (mxf (pgu u0 (t / 16)) 16)) := mxf_le.mpr fun i hi => by
        by_cases e : 16 * (t / 16) + i = t
        · have : pgu (upn u t v) (t / 16) i = v := by show upn u t v (16 * (t / 16) + i) = v; rw [e, upn_s]
          rw [this]; omega
        · rw [oth i hi e]
          exact Nat.le_trans (a _) (c0 i hi)
      rw [kf_self c2, kf_self (by omega)]
theorem KOK_fk {so : Nat} {u0 k0 u : Nat → Nat} (hso : so = 0 ∨ so = 1) (hk0 : ∀ p, KOK so (k0 p) (fun i => u0 (16 * p + i))) (hb0 : ∀ j, u0 j ≤ 1000000000000000) (hb : ∀ j, u j ≤ 1000000000000000) (p : Nat) : KOK so (fk so u0 k0 u p) (fun i => u (16 * p + i)) := by
  by_cases q : Un u0 u p
  · rw [fk_un q]
    obtain ⟨h1, h2, h3, h4⟩ := hk0 p
    exact ⟨fun e i hi => (q i hi).trans (h1 e i hi), h2, h3, fun a b i hi => Nat.le_trans (Nat.le_of_eq (q i hi)) (h4 a b i hi)⟩
  · rw [fk_ch q]
    have hB0 : mxf (pgu u0 p) 16 ≤ 1000000000000000 := mxf_b (fun i => hb0 _)
    have hB1 : mxf (pgu u p) 16 ≤ 1000000000000000 := mxf_b (fun i => hb _)
    obtain ⟨r1, l1, c1, m1⟩ := kf_row (Rk_bs hso (hk0 p) hB0) hB1
    have ⟨b3, b4⟩ := Rk_b r1
    refine ⟨fun e => absurd e (by omega), fun e => Or.inl ?_, fun e => ?_, fun _ _ i hi => Nat.le_trans (mxf_ge (f := pgu u p) hi) c1⟩
    · rcases r1 with ⟨_, _, z⟩ | ⟨z, _, _⟩ <;> omega
    · rcases r1 with ⟨z, _, _⟩ | ⟨_, a, b⟩ <;> omega
/-- what stands in a class's rows -/
def UK (P : Nat) (U : Nat → Int64) (K : Nat → Int32) (u k : Nat → Nat) : Prop := (∀ j, j < 16 * P → U j = lN (u j)) ∧ ∀ p, p < P → K p = nI (k p)
/-- what stands in the reference's rows -/
def VK (r P : Nat) (tu : Nat → Int64) (tk : Nat → Int32) (u k : Nat → Nat) : Prop := (∀ j, j < 16 * P → tu (4352 * r + j) = lN (u j)) ∧ ∀ p, p < P → tk (272 * r + p) = nI (k p)
theorem upn_b {u : Nat → Nat} {t v : Nat} (hb : ∀ j, u j ≤ 1000000000000000) (hv : v ≤ 1000000000000000) : ∀ j, upn u t v j ≤ 1000000000000000 := by
  intro j
  by_cases e : j = t
  · rw [e, upn_s]; exact hv
  · rw [upn_n e]; exact hb j
theorem sp_rewrite {so t v P : Nat} {U : Nat → Int64} {K : Nat → Int32} {u0 k0 u : Nat → Nat} {Q : (Nat → Int64) → (Nat → Int32) → Prop} (hso : so = 0 ∨ so = 1) (hP : P ≤ 271) (ht : t < 16 * P) (hk0 : ∀ p, KOK so (k0 p) (fun i => u0 (16 * p + i))) (hb0 : ∀ j, u0 j ≤ 1000000000000000) (hb : ∀ j, u j ≤ 1000000000000000) (hv : v ≤ 1000000000000000) (hD : Dir u0 u t v) (hR : UK P U K u (fk so u0 k0 u)) (h : ∀ U' K', UK P U' K' (upn u t v) (fk so u0 k0 (upn u t v)) → Q U' K') : wp_X1_rewrite (nI t) (lN v) (nI so) U K Q := by
  obtain ⟨hU, hK⟩ := id hR
  unfold wp_X1_rewrite
  refine ⟨fun n => absurd n (nI_nneg (by omega)), fun _ => q_if (nI_leI (a := 4336) (by decide) (by omega)) (fun n => absurd n (by omega)) (fun _ => ?_)⟩
  refine q_in (by omega) (by decide) ?_
  have hbt := hb t
  rw [nI_clamp (by omega), hU t ht]
  refine q_fi (pk_lEQ (by omega) (by omega)) (fun e => ?_) (fun hne => ?_)
  · rw [upn_id e] at h
    exact h U K hR
  intro x4 hx4
  have e4 : x4 = nI (t / 16) := by rw [hx4]; exact pk_div (d := 16) (by omega) (by decide) (by decide)
  rw [e4]
  refine q_if (nI_leI (a := 271) (by decide) (by omega)) (fun n => absurd n (by omega)) (fun _ => ?_)
  have hp : t / 16 < P := by omega
  have hkok := KOK_fk hso hk0 hb0 hb (t / 16)
  have hk10 := KOK_le hso hkok
  have hB1 : mxf (pgu u (t / 16)) 16 ≤ 1000000000000000 := mxf_b (fun i => hb _)
  have hRB := Rk_bs hso hkok hB1
  have fin : ∀ kk, kk = kf (bs so (fk so u0 k0 u (t / 16)) (mxf (pgu u (t / 16)) 16)) v → (vp_in (nI (t / 16)) 271 ∧ ∀ t_kinds_54 : Nat → Int32, t_kinds_54 = upd K (nI (t / 16)).toNatClampNeg (nI kk) → blk_X1_rewrite_55 (nI so) Q (nI t) (lN v) U t_kinds_54) := by
    intro kk hkk
    refine q_in (by omega) (by decide) ?_
    intro K2 hK2
    unfold blk_X1_rewrite_55
    refine q_in (by omega) (by decide) ?_
    intro U2 hU2
    rw [nI_clamp (by omega)] at hK2 hU2
    refine h U2 K2 ⟨fun j hj => ?_, fun p hp2 => ?_⟩
    · by_cases e : j = t
      · rw [e, hU2, pk_uLs, upn_s]
      · rw [hU2, pk_uLn e, upn_n e]; exact hU j hj
    · by_cases e : p = t / 16
      · rw [e, hK2, pk_us, hkk, fk_s hso hk0 hb0 hb hv hD hne]
      · rw [hK2, pk_un e, fk_o e]; exact hK p hp2
  have c51 : ∀ B, B = bs so (fk so u0 k0 u (t / 16)) (mxf (pgu u (t / 16)) 16) → blk_X1_rowToWrite_51 (nI so) U K (fun (r_51 : Int32) => vp_in (nI (t / 16)) 271 ∧ ∀ t_kinds_54 : Nat → Int32, t_kinds_54 = upd K (nI (t / 16)).toNatClampNeg r_51 → blk_X1_rewrite_55 (nI so) Q (nI t) (lN v) U t_kinds_54) (lN v) (nI B) := by
    intro B hB
    unfold blk_X1_rowToWrite_51
    rw [hB]
    exact sp_rowThatHolds hRB hv (fin _ rfl)
  unfold wp_X1_rowToWrite
  refine sp_kindOf (by omega) ?_
  intro x5 hx5
  rw [hx5, hK _ hp]
  have c24 : ¬ (1 ≤ fk so u0 k0 u (t / 16) ∧ fk so u0 k0 u (t / 16) ≤ 8) → blk_X1_rowToWrite_24 (nI so) U K (fun (r_51 : Int32) => vp_in (nI (t / 16)) 271 ∧ ∀ t_kinds_54 : Nat → Int32, t_kinds_54 = upd K (nI (t / 16)).toNatClampNeg r_51 → blk_X1_rewrite_55 (nI so) Q (nI t) (lN v) U t_kinds_54) (nI (t / 16)) (lN v) (nI (fk so u0 k0 u (t / 16))) := by
    intro hn
    unfold blk_X1_rowToWrite_24 blk_X1_rowToWrite_25
    intro x6 hx6
    rw [hx6]
    refine q0b ?_
    refine sp_firstRow hso (sp_X1_mostOf hp hP hU hb (sp_rowThatHolds (Rk_st hso) hB1 ?_))
    exact c51 _ (if_neg hn).symm
  refine q_if (nI_ltI (b := 1) (by omega) (by decide)) (fun q => c24 (by omega)) (fun q => ?_)
  refine q_if (nI_ltI (a := 8) (by decide) (by omega)) (fun q2 => c24 (by omega)) (fun q2 => ?_)
  unfold blk_X1_rowToWrite_25
  intro x6 hx6
  rw [hx6]
  exact q1b (c51 _ (if_pos ⟨by omega, by omega⟩).symm)
theorem sp_isRow {r p P k : Nat} {tk : Nat → Int32} {Q : Int32 → Prop} (hr : r < 4) (hp : p < P) (hP : P ≤ 271) (hk : tk (272 * r + p) = nI k) (hk10 : k ≤ 10) (h1 : 1 ≤ k → k ≤ 8 → Q 1) (h0 : ¬ (1 ≤ k ∧ k ≤ 8) → Q 0) : wp_X8_isRow (nI r) (nI p) tk Q := by
  unfold wp_X8_isRow
  rw [show (272 : Int32) * nI r + nI p = nI (272 * r + p) from ix_at 272 r p]
  refine q_in (by omega) (by decide) ?_
  rw [nI_clamp (by omega), hk]
  have e : (nI k).toInt64.toInt = k := by rw [nI_l (by omega), pk_lT (by omega)]
  have z1 : (1 : Int64).toInt = 1 := by decide
  have z8 : (8 : Int64).toInt = 8 := by decide
  exact sp_isIn (fun a b => ⟨Or.inr rfl, h1 (by omega) (by omega)⟩) (fun a => ⟨Or.inl rfl, h0 (by omega)⟩)
theorem sp_writesPlace {r so t v P : Nat} {t_set : Nat → Int32} {tu : Nat → Int64} {tk : Nat → Int32} {u0 k0 u : Nat → Nat} {Q : (Nat → Int64) → (Nat → Int32) → Prop} (hr : r < 4) (hso : so = 0 ∨ so = 1) (hs0 : t_set (4 * r + 0) = nI so) (hP : P ≤ 271) (ht : t < 16 * P) (hk0 : ∀ p, KOK so (k0 p) (fun i => u0 (16 * p + i))) (hb0 : ∀ j, u0 j ≤ 1000000000000000) (hb : ∀ j, u j ≤ 1000000000000000) (hv : v ≤ 1000000000000000) (hD : Dir u0 u t v) (hR : VK r P tu tk u (fk so u0 k0 u)) (hy : BY tk) (h : ∀ tu' tk', VK r P tu' tk' (upn u t v) (fk so u0 k0 (upn u t v)) → Only 4352 r tu' tu → Only 272 r tk' tk → BY tk' → Q tu' tk') : wp_X8_writesPlace (nI r) (nI t) (lN v) t_set tu tk Q := by
  obtain ⟨hU, hK⟩ := id hR
  unfold wp_X8_writesPlace
  rw [show (4352 : Int32) * nI r + nI t = nI (4352 * r + t) from ix_at 4352 r t]
  refine q_in (by omega) (by decide) ?_
  have hbt := hb t
  rw [nI_clamp (by omega), hU t ht]
  refine q_fi (pk_lEQ (by omega) (by omega)) (fun e => ?_) (fun hne => ?_)
  · rw [upn_id e] at h
    exact h tu tk hR Only_rfl Only_rfl hy
  intro x4 hx4
  have e4 : x4 = nI (t / 16) := by rw [hx4]; exact pk_div (d := 16) (by omega) (by decide) (by decide)
  rw [e4]
  have hp : t / 16 < P := by omega
  have hkok := KOK_fk hso hk0 hb0 hb (t / 16)
  have hk10 := KOK_le hso hkok
  have hB1 : mxf (pgu u (t / 16)) 16 ≤ 1000000000000000 := mxf_b (fun i => hb _)
  have hRB := Rk_bs hso hkok hB1
  have fin : ∀ B, B = bs so (fk so u0 k0 u (t / 16)) (mxf (pgu u (t / 16)) 16) → blk_X8_writesPlace_65 t_set Q (nI r) (nI t) (lN v) (nI (t / 16)) (nI B) tu tk := by
    intro B hB
    unfold blk_X8_writesPlace_65
    intro x6 hx6
    rw [hx6, hB]
    refine sp_kindFor hRB hv ?_
    rw [show (272 : Int32) * nI r + nI (t / 16) = nI (272 * r + t / 16) from ix_at 272 r (t / 16)]
    refine q_in (by omega) (by decide) ?_
    intro K2 hK2
    rw [show (4352 : Int32) * nI r + nI t = nI (4352 * r + t) from ix_at 4352 r t]
    refine q_in (by omega) (by decide) ?_
    intro U2 hU2
    have ⟨_, hb8⟩ := Rk_b (kf_row hRB hv).1
    rw [nI_clamp (by omega), vp_nar_byte, byte_small (by omega), byte_small (by omega)] at hK2
    rw [nI_clamp (by omega)] at hU2
    subst hK2 hU2
    refine h _ _ ⟨fun j hj => ?_, fun p hp2 => ?_⟩ (fun j hj => pk_uLn (by omega)) (fun j hj => pk_un (by omega)) (BY_upd hy (by omega))
    · by_cases e : j = t
      · rw [e, pk_uLs, upn_s]
      · rw [pk_uLn (by omega), upn_n e]; exact hU j hj
    · by_cases e : p = t / 16
      · rw [e, pk_us, fk_s hso hk0 hb0 hb hv hD hne]
      · rw [pk_un (by omega), fk_o e]; exact hK p hp2
  have hkp := hK _ hp
  refine sp_isRow hr hp hP hkp hk10 (fun a b => ?_) (fun a => ?_)
  · refine q1b ?_
    rw [show (272 : Int32) * nI r + nI (t / 16) = nI (272 * r + t / 16) from ix_at 272 r (t / 16)]
    refine q_in (by omega) (by decide) ?_
    rw [nI_clamp (by omega), hkp]
    exact fin _ (if_pos ⟨a, b⟩).symm
  · refine q0b ?_
    refine sp_firstKind hr hso hs0 (sp_X8_mostOf hr hp hP hU hb (sp_kindFor (Rk_st hso) hB1 ?_))
    exact fin _ (if_neg a).symm
