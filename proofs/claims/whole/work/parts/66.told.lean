/-! ===== peek ===== -/
def fBz (u dn : Nat) : Nat := if u = 0 then 0 else fB u dn
def dBz (u dn : Nat) : Nat := if u = 0 then 0 else dB u dn
theorem fz_l : FP.l2f (lN 0) = UInt32.ofNat 0 := by decide +kernel
theorem fz_d : FP.fdiv (FP.l2f (lN 0)) (1098907648 : UInt32) = UInt32.ofNat 0 := by decide +kernel
theorem fz_c : FP.f2d (UInt32.ofNat 0) = UInt64.ofNat 0 := by decide +kernel
theorem dz_l : FP.l2d (lN 0) = UInt64.ofNat 0 := by decide +kernel
theorem dz_d : FP.ddiv (FP.l2d (lN 0)) (4625196817309499392 : UInt64) = UInt64.ofNat 0 := by decide +kernel
theorem fz_e : FP.Core.decode FP.Core.b32 0 = .fin false 0 (-149) := by decide +kernel
theorem dz_e : FP.Core.decode FP.Core.b64 0 = .fin false 0 (-1074) := by decide +kernel
theorem fBz_0 (dn : Nat) : fBz 0 dn = 0 := rfl
theorem dBz_0 (dn : Nat) : dBz 0 dn = 0 := rfl
theorem fBz_n {u : Nat} (h : u ≠ 0) (dn : Nat) : fBz u dn = fB u dn := if_neg h
theorem dBz_n {u : Nat} (h : u ≠ 0) (dn : Nat) : dBz u dn = dB u dn := if_neg h
theorem sp_fB {u dn : Nat} {Q : Int32 → Prop} (h : u ≤ 1000000000000000) (hd : dn ≤ 4) (k : Q (nI (fBz u dn))) : wp_Jxf58ca_floatToIntBits_5c35a (UInt32.ofNat (fBz u dn)) Q := by
  by_cases h0 : u = 0
  · subst h0
    rw [fBz_0] at k ⊢
    exact sp_fBits (by omega) fz_e k
  · rw [fBz_n h0] at k ⊢
    obtain ⟨c, q, e⟩ := fB_de h0 h hd
    have b := fB_b h0 h hd
    exact sp_fBits (by omega) e k
theorem sp_dB {u dn : Nat} {Q : Int64 → Prop} (h : u ≤ 1000000000000000) (hd : dn ≤ 4) (k : Q (lN (dBz u dn))) : wp_Jxe99ae_doubleToLongBits_ccdee (UInt64.ofNat (dBz u dn)) Q := by
  by_cases h0 : u = 0
  · subst h0
    rw [dBz_0] at k ⊢
    exact sp_dBits (by omega) dz_e k
  · rw [dBz_n h0] at k ⊢
    have b := dB_b h0 h hd
    exact sp_dBits (by omega) (dB_de h0 h hd) k
theorem fBz_b {u dn : Nat} (h : u ≤ 1000000000000000) (hd : dn ≤ 4) : fBz u dn < 2147483648 ∧ fBz u dn ≤ 0x7f800000 := by
  by_cases h0 : u = 0
  · subst h0; rw [fBz_0]; omega
  · rw [fBz_n h0]; exact fB_b h0 h hd
theorem dBz_b {u dn : Nat} (h : u ≤ 1000000000000000) (hd : dn ≤ 4) : dBz u dn ≤ 0x7ff0000000000000 := by
  by_cases h0 : u = 0
  · subst h0; rw [dBz_0]; omega
  · rw [dBz_n h0]; exact dB_b h0 h hd
theorem l2f_z {u : Nat} (h : u ≤ 1000000000000000) : FP.l2f (lN u) = UInt32.ofNat (fBz u 0) := by
  by_cases h0 : u = 0
  · subst h0; exact fz_l
  · rw [fBz_n h0]; exact l2f_n h0 h
theorem l2d_z {u : Nat} (h : u ≤ 1000000000000000) : FP.l2d (lN u) = UInt64.ofNat (dBz u 0) := by
  by_cases h0 : u = 0
  · subst h0; exact dz_l
  · rw [dBz_n h0]; exact l2d_n h0 h
theorem fdiv_z {u : Nat} (h : u ≤ 1048576) : FP.fdiv (FP.l2f (lN u)) (1098907648 : UInt32) = UInt32.ofNat (fBz u 4) := by
  by_cases h0 : u = 0
  · subst h0; exact fz_d
  · rw [fBz_n h0]; exact fdiv_n h0 h
theorem ddiv_z {u : Nat} (h : u ≤ 1000000000000000) : FP.ddiv (FP.l2d (lN u)) (4625196817309499392 : UInt64) = UInt64.ofNat (dBz u 4) := by
  by_cases h0 : u = 0
  · subst h0; exact dz_d
  · rw [dBz_n h0]; exact ddiv_n h0 h
theorem f2d_z {u : Nat} (h : u ≤ 1048576) : FP.f2d (UInt32.ofNat (fBz u 4)) = UInt64.ofNat (dBz u 4) := by
  by_cases h0 : u = 0
  · subst h0; exact fz_c
  · rw [fBz_n h0, dBz_n h0]; exact f2d_n h0 h
/-! ===== what the class makes of it ===== -/
theorem top_e {u : Nat} (h0 : u ≠ 0) (h : u ≤ 1000000000000000) : (63 : Int32) - nI (64 - bl u) = nI (tp u) := by
  have ⟨h1, h2, h3⟩ := tp_b h0 h
  have ⟨b, c⟩ := bl_ge h0 (show u < 2 ^ 64 by omega)
  unfold tp at h3 ⊢
  rw [show (63 : Int32) = nI 63 from rfl, pk_sub (by omega)]
  congr 1
  omega
theorem exp_e {a t dn : Nat} (h : dn ≤ a) : (nI a + nI t) - nI dn = nI (t + a - dn) := by
  rw [nI_add, pk_sub (by omega), Nat.add_comm]
theorem sp_floatBits {u dn : Nat} {Q : Int64 → Prop} (h : u ≤ 1000000000000000) (hd : dn ≤ 4) (k : Q (lN (fBz u dn))) : wp_X7_floatBits (lN u) (nI dn) Q := by
  unfold wp_X7_floatBits
  refine q_if (pk_lLT (a := 0) (by decide) (by omega)) (fun g => ?_) (fun g => ?_)
  rotate_left
  · rw [show u = 0 by omega, fBz_0] at k; exact k
  have h0 : u ≠ 0 := by omega
  rw [fBz_n h0] at k
  have ⟨h1, h2, h3⟩ := tp_b h0 h
  refine sp_nlz64 (by omega) ?_
  intro x3 hx3
  rw [top_e h0 h] at hx3
  rw [hx3]
  have fin : ∀ x, x = kf32 u → blk_X7_floatBits_94 Q (nI dn) (nI (tp u)) (lN x) := by
    intro x hx
    unfold blk_X7_floatBits_94 wp_X7_withExponent
    rw [show (126 : Int32) + nI (tp u) - nI dn = nI (tp u + 126 - dn) from exp_e (a := 126) (by omega), nI_l (by omega), show (23 : Int32) = nI 23 from rfl, wb_shl _ (by decide), lN_add, hx]
    exact k
  intro x4 hx4
  rw [show (23 : Int32) = nI 23 from rfl, nI_max (by decide) (by omega), wb_shl _ (by omega)] at hx4
  refine q_if (nI_leI (b := 23) (by omega) (by decide)) (fun g2 => ?_) (fun g2 => ?_)
  · rw [hx4]
    exact fin _ (if_pos g2).symm
  have ek : kf32 u = FP.Core.nearest u (2 ^ (tp u - 23)) := if_neg g2
  intro x6 hx6 x4b hx4b x7 hx7 x9 hx9
  have e6 : x6 = nI (tp u - 23) := hx6.trans (pk_sub (b := 23) (by omega))
  have p := Nat.two_pow_pos (tp u - 23)
  have e4 : x4b = lN (u / 2 ^ (tp u - 23)) := by rw [hx4b, e6, lN_shr (by omega) (by omega)]
  have dm := Nat.div_add_mod u (2 ^ (tp u - 23))
  have ml := Nat.mod_lt u p
  have e7 : x7 = lN (u % 2 ^ (tp u - 23)) := by
    rw [hx7, e4, e6, wb_shl _ (by omega), lN_sub (Nat.div_mul_le_self _ _)]
    congr 1
    rw [Nat.mul_comm]
    omega
  have hD : 2 ^ (tp u - 23) = 2 * 2 ^ (tp u - 24) := by
    rw [show tp u - 23 = (tp u - 24) + 1 by omega, Nat.pow_succ, Nat.mul_comm]
  have e9 : x9 = lN (2 ^ (tp u - 24)) := by
    rw [hx9, e6, show (1 : Int32) = nI 1 from rfl, pk_sub (by omega), show (1 : Int64) = lN 1 from rfl, wb_shl _ (by omega), Nat.one_mul]
    congr 2
  have hDb : 2 ^ (tp u - 23) ≤ 2 ^ 26 := Nat.pow_le_pow_right (by decide) (by omega)
  have e26 : (2 : Nat) ^ 26 = 67108864 := by decide
  rw [e26] at hDb
  have hkb : u / 2 ^ (tp u - 23) ≤ u := Nat.div_le_self _ _
  unfold FP.Core.nearest at ek
  rw [e4, e7, e9]
  generalize u / 2 ^ (tp u - 23) = kp at *
  generalize u % 2 ^ (tp u - 23) = rs at *
  generalize 2 ^ (tp u - 24) = hf at *
  rw [hD] at ek ml hDb
  have up : kf32 u = kp + 1 → blk_X7_floatBits_88 Q (nI dn) (nI (tp u)) (lN kp) := by
    intro e
    unfold blk_X7_floatBits_88
    intro y hy
    rw [hy, lN_1]
    exact fin _ e.symm
  refine q_if (pk_lLT (by omega) (by omega)) (fun g3 => up (by rw [ek, if_neg (by omega), if_pos (by omega)])) (fun g3 => ?_)
  refine q_fi (pk_lEQ (by omega) (by omega)) (fun g4 => ?_) (fun g4 => fin _ (by rw [ek, if_pos (by omega)]))
  rw [wb_a1 (by omega)]
  refine q_fi (pk_lEQ (b := 1) (by omega) (by decide)) (fun g5 => up (by rw [ek, if_neg (by omega), if_neg (by omega), g5])) (fun g5 => fin _ (by rw [ek, if_neg (by omega), if_neg (by omega)]; omega))
theorem sp_doubleBits {u dn : Nat} {Q : Int64 → Prop} (h : u ≤ 1000000000000000) (hd : dn ≤ 4) (k : Q (lN (dBz u dn))) : wp_X7_doubleBits (lN u) (nI dn) Q := by
  unfold wp_X7_doubleBits
  refine q_if (pk_lLT (a := 0) (by decide) (by omega)) (fun g => ?_) (fun g => ?_)
  rotate_left
  · rw [show u = 0 by omega, dBz_0] at k; exact k
  have h0 : u ≠ 0 := by omega
  rw [dBz_n h0] at k
  have ⟨h1, h2, h3⟩ := tp_b h0 h
  refine sp_nlz64 (by omega) ?_
  intro x3 hx3
  rw [top_e h0 h] at hx3
  rw [hx3]
  unfold wp_X7_withExponent
  rw [show (1022 : Int32) + nI (tp u) - nI dn = nI (tp u + 1022 - dn) from exp_e (a := 1022) (by omega), nI_l (by omega), show (52 : Int32) = nI 52 from rfl, nI_max (by decide) (by omega), wb_shl _ (by decide), wb_shl _ (by omega), lN_add]
  exact k
def Tv (k hw u : Nat) : Nat := if hw = 7 ∨ (hw = 0 ∧ k = 7) then fBz u (if 7 ≤ k then 4 else 0) else if hw = 8 ∨ (hw = 0 ∧ k = 8) then dBz u (if 7 ≤ k then 4 else 0) else u
theorem sp_told {k hw u : Nat} {Q : Int64 → Prop} (hk1 : 1 ≤ k) (hk : k ≤ 8) (hhw : hw ≤ 8) (h : u ≤ 1000000000000000) (kk : Q (lN (Tv k hw u))) : wp_X7_told (nI k) (nI hw) (lN u) Q := by
  unfold Tv at kk
  have b17 : ∀ dn, dn = (if 7 ≤ k then 4 else 0) → blk_X7_told_17 Q (nI k) (nI hw) (lN u) (nI dn) := by
    intro dn hdn
    rw [← hdn] at kk
    have hdn4 : dn ≤ 4 := by rw [hdn]; split <;> omega
    have b58 : ¬ (hw = 7 ∨ (hw = 0 ∧ k = 7)) → (hw = 8 ∨ (hw = 0 ∧ k = 8)) → blk_X7_told_58 Q (lN u) (nI dn) := by
      intro g1 g2
      rw [if_neg g1, if_pos g2] at kk
      unfold blk_X7_told_58
      exact sp_doubleBits h hdn4 kk
    have bu : ¬ (hw = 7 ∨ (hw = 0 ∧ k = 7)) → ¬ (hw = 8 ∨ (hw = 0 ∧ k = 8)) → Q (lN u) := by
      intro g1 g2
      rw [if_neg g1, if_neg g2] at kk
      exact kk
    have b35 : (hw = 7 ∨ (hw = 0 ∧ k = 7)) → blk_X7_told_35 Q (lN u) (nI dn) := by
      intro g1
      rw [if_pos g1] at kk
      unfold blk_X7_told_35
      exact sp_floatBits h hdn4 kk
    have b42 : ¬ (hw = 7 ∨ (hw = 0 ∧ k = 7)) → blk_X7_told_42 Q (nI k) (nI hw) (lN u) (nI dn) := by
      intro g1
      unfold blk_X7_told_42
      refine q_if (nI_eq (b := 8) (by omega) (by decide)) (fun a => b58 g1 (Or.inl a)) (fun a => ?_)
      refine q_fi (nI_eq (b := 0) (by omega) (by decide)) (fun b => ?_) (fun b => bu g1 (by omega))
      exact q_fi (nI_eq (b := 8) (by omega) (by decide)) (fun c => b58 g1 (by omega)) (fun c => bu g1 (by omega))
    unfold blk_X7_told_17
    intro x4 hx4
    rw [hx4]
    refine q_if (nI_eq (b := 7) (by omega) (by decide)) (fun a => b35 (Or.inl a)) (fun a => ?_)
    refine q_fi (nI_eq (b := 0) (by omega) (by decide)) (fun b => ?_) (fun b => b42 (by omega))
    exact q_fi (nI_eq (b := 7) (by omega) (by decide)) (fun c => b35 (by omega)) (fun c => b42 (by omega))
  unfold wp_X7_told
  refine q_if (nI_eq (b := 7) (by omega) (by decide)) (fun a => ?_) (fun a => ?_)
  · unfold blk_X7_told_12
    exact b17 4 (by rw [if_pos (by omega)])
  · refine q_fi (nI_eq (b := 8) (by omega) (by decide)) (fun b => ?_) (fun b => ?_)
    · unfold blk_X7_told_12
      exact b17 4 (by rw [if_pos (by omega)])
    · exact b17 0 (by rw [if_neg (by omega)])
theorem sp_toldBy {k hw u : Nat} {Q : Int64 → Prop} (hk1 : 1 ≤ k) (hk : k ≤ 8) (hhw : hw ≤ 8) (h : u ≤ 1000000000000000) (h7 : k = 7 → u ≤ 1048576) (a7 : k = 7 → hw = 0 ∨ hw = 7 ∨ hw = 8) (a8 : k = 8 → hw = 0 ∨ hw = 8) (kk : Q (lN (Tv k hw u))) : wp_X8_toldBy (nI k) (lN u) (nI hw) Q := by
  unfold Tv at kk
  unfold wp_X8_toldBy
  refine q_fi (nI_eq (b := 7) (by omega) (by decide)) (fun a => ?_) (fun a => ?_)
  · have hu7 := h7 a
    have b := fBz_b (dn := 4) h (by decide)
    rw [if_pos (show 7 ≤ k by omega)] at kk
    rw [fdiv_z hu7]
    refine ⟨vn32 b.2, ?_⟩
    intro x4 hx4
    rw [hx4]
    refine q_fi (nI_eq (b := 8) (by omega) (by decide)) (fun g => ?_) (fun g => ?_)
    · rw [f2d_z hu7]
      refine ⟨vn64 (dBz_b h (by decide)), ?_⟩
      rw [if_neg (by omega), if_pos (by omega)] at kk
      exact sp_dB h (by decide) kk
    · rw [if_pos (by omega)] at kk
      refine sp_fB h (by decide) ?_
      rw [nI_l b.1]
      exact kk
  refine q_fi (nI_eq (b := 8) (by omega) (by decide)) (fun a8b => ?_) (fun a8b => ?_)
  · have := a8 a8b
    rw [if_neg (by omega), if_pos (by omega), if_pos (by omega)] at kk
    rw [ddiv_z h]
    exact ⟨vn64 (dBz_b h (by decide)), sp_dB h (by decide) kk⟩
  rw [if_neg (show ¬ 7 ≤ k by omega)] at kk
  refine q_fi (nI_eq (b := 7) (by omega) (by decide)) (fun g => ?_) (fun g => ?_)
  · have b := fBz_b (dn := 0) h (by decide)
    rw [if_pos (by omega)] at kk
    rw [l2f_z h]
    refine sp_fB h (by decide) ?_
    rw [nI_l b.1]
    exact kk
  refine q_fi (nI_eq (b := 8) (by omega) (by decide)) (fun g2 => ?_) (fun g2 => ?_)
  · rw [if_neg (by omega), if_pos (by omega)] at kk
    rw [l2d_z h]
    exact sp_dB h (by decide) kk
  · rw [if_neg (by omega), if_neg (by omega)] at kk
    exact kk
/-! ===== who may be asked how ===== -/
def gvB (k h : Nat) : Bool := (h == 0 && (decide (1 ≤ k) && decide (k ≤ 8) || k == 11 || k == 12)) || (k == 1 && h == 1) || (k == 2 && (h == 2 || h == 3 || decide (5 ≤ h))) || (k == 3 && (h == 3 || decide (5 ≤ h))) || (k == 4 && decide (4 ≤ h)) || (k == 5 && decide (5 ≤ h)) || (k == 6 && decide (6 ≤ h)) || (k == 7 && decide (7 ≤ h)) || (k == 8 && h == 8)
def gvb (k h : Nat) : Prop := (h = 0 ∧ ((1 ≤ k ∧ k ≤ 8) ∨ k = 11 ∨ k = 12)) ∨ (k = 1 ∧ h = 1) ∨ (k = 2 ∧ (h = 2 ∨ h = 3 ∨ 5 ≤ h)) ∨ (k = 3 ∧ (h = 3 ∨ 5 ≤ h)) ∨ (k = 4 ∧ 4 ≤ h) ∨ (k = 5 ∧ 5 ≤ h) ∨ (k = 6 ∧ 6 ≤ h) ∨ (k = 7 ∧ 7 ≤ h) ∨ (k = 8 ∧ h = 8)
theorem gvB_i (k h : Nat) : gvB k h = true ↔ gvb k h := by
  unfold gvB gvb
  simp only [Bool.or_eq_true, Bool.and_eq_true, beq_iff_eq, decide_eq_true_eq, or_assoc]
theorem stG_B : ∀ k, k < 13 → ∀ h, h < 9 → (((stG.getD k 0 >>> (nI h &&& 31)) &&& (1 : Int32)) = (1 : Int32) ↔ gvB k h = true) := by decide +kernel
theorem sp_refG {kk pl : Nat} {p3 : Int32} {Q : Int32 → Prop} (hk : kk < 13) (hp : pl < 9) (h4 : kk = 0 → Q (-4)) (h2 : kk ≠ 0 → (p3.toInt < 0 ∨ 16 ≤ p3.toInt) → Q (-2)) (h3 : kk ≠ 0 → 0 ≤ p3.toInt → p3.toInt < 16 → ¬ gvb kk pl → Q (-3)) (h1 : kk ≠ 0 → 0 ≤ p3.toInt → p3.toInt < 16 → gvb kk pl → Q 0) : wp_X7_refusal_GIVES (nI kk) p3 (nI pl) Q := by
  unfold wp_X7_refusal_GIVES
  have z0 : (0 : Int32).toInt = 0 := by decide
  have z16 : (16 : Int32).toInt = 16 := by decide
  refine q_fi (nI_eq (b := 0) (by omega) (by decide)) (fun e => h4 e) (fun e => ?_)
  refine q_if (fa_lt _ _) (fun a => h2 e (by omega)) (fun a => ?_)
  refine q_if (fa_lt _ _) (fun b => ?_) (fun b => h2 e (by omega))
  refine q_if (nI_leI (b := 0) (by omega) (by decide)) (fun c => absurd c (by omega)) (fun _ => ?_)
  refine q_if (nI_leI (a := 13) (by decide) (by omega)) (fun c => absurd c (by omega)) (fun _ => ?_)
  refine q_in (by omega) (by decide) ?_
  rw [nI_clamp (by omega)]
  refine q_fi ((stG_B kk hk pl hp).trans (gvB_i kk pl)) (fun t => ?_) (fun t => ?_)
  · unfold blk_X7_refusal_GIVES_46
    intro x hx
    rw [hx]
    exact q1b (h1 e (by omega) (by omega) t)
  · unfold blk_X7_refusal_GIVES_45 blk_X7_refusal_GIVES_46
    intro x hx
    rw [hx]
    exact q0b (h3 e (by omega) (by omega) t)
theorem gv_0 {k h : Nat} (hk : 1 ≤ k) (hk8 : k ≤ 8) (h0 : h = 0) : gvb k h := Or.inl ⟨h0, Or.inl ⟨hk, hk8⟩⟩
theorem gv_1 {h : Nat} (h0 : h ≠ 0) : gvb 1 h ↔ h = 1 := by unfold gvb; omega
theorem gv_2 {h : Nat} (h0 : h ≠ 0) : gvb 2 h ↔ (h = 2 ∨ h = 3 ∨ 5 ≤ h) := by unfold gvb; omega
theorem gv_3 {h : Nat} (h0 : h ≠ 0) : gvb 3 h ↔ (h = 3 ∨ 5 ≤ h) := by unfold gvb; omega
theorem gv_4 {h : Nat} (h0 : h ≠ 0) : gvb 4 h ↔ 4 ≤ h := by unfold gvb; omega
theorem gv_5 {h : Nat} (h0 : h ≠ 0) : gvb 5 h ↔ 5 ≤ h := by unfold gvb; omega
theorem gv_6 {h : Nat} (h0 : h ≠ 0) : gvb 6 h ↔ 6 ≤ h := by unfold gvb; omega
theorem gv_7 {h : Nat} (h0 : h ≠ 0) : gvb 7 h ↔ 7 ≤ h := by unfold gvb; omega
theorem gv_8 {h : Nat} (h0 : h ≠ 0) : gvb 8 h ↔ h = 8 := by unfold gvb; omega
theorem gv_m {k h : Nat} (hk : k = 11 ∨ k = 12) : gvb k h ↔ h = 0 := by rcases hk with e | e <;> subst e <;> unfold gvb <;> omega
theorem gv_9 {k h : Nat} (hk : 9 ≤ k) (hk2 : k ≤ 10) : ¬ gvb k h := by unfold gvb; omega
theorem sp_tells {kk pl : Nat} {Q : Int32 → Prop} (h0 : 1 ≤ kk) (hk : kk ≤ 8) (hp : pl ≤ 8) (h1 : gvb kk pl → Q 1) (h2 : ¬ gvb kk pl → Q 0) : wp_X8_tells (nI kk) (nI pl) Q := by
  unfold wp_X8_tells
  rw [nI_toInt (by omega)]
  have eqb : ∀ c : Nat, c < 100 → (pl = c → Q 1) → (pl ≠ c → Q 0) → (¬ nI pl = nI c → Q 0) ∧ (nI pl = nI c → Q 1) := fun c hc f g => q_fi (nI_eq (by omega) (by omega)) f g
  have ltb : ∀ c : Nat, c < 100 → (c ≤ pl → Q 1) → (¬ c ≤ pl → Q 0) → (nI pl < nI c → Q 0) ∧ (¬ nI pl < nI c → Q 1) := fun c hc f g => q_if (nI_ltI (by omega) (by omega)) (fun a => g (by omega)) (fun a => f (by omega))
  refine q_fi (nI_eq (b := 0) (by omega) (by decide)) (fun e => h1 (gv_0 h0 hk e)) (fun e0 => ?_)
  refine ⟨fun e => ?_, fun e => ?_, fun e => ?_, fun e => ?_, fun e => ?_, fun e => ?_, fun e => ?_, fun e => ?_⟩
  · rw [show kk = 1 by omega, gv_1 e0] at h1 h2
    exact eqb 1 (by decide) h1 h2
  · rw [show kk = 2 by omega, gv_2 e0] at h1 h2
    exact q_if (nI_eq (b := 2) (by omega) (by decide)) (fun a => h1 (by omega)) (fun a => q_if (nI_eq (b := 3) (by omega) (by decide)) (fun a => h1 (by omega)) (fun a => ltb 5 (by decide) (fun a => h1 (by omega)) (fun a => h2 (by omega))))
  · rw [show kk = 3 by omega, gv_3 e0] at h1 h2
    exact q_if (nI_eq (b := 3) (by omega) (by decide)) (fun a => h1 (by omega)) (fun a => ltb 5 (by decide) (fun a => h1 (by omega)) (fun a => h2 (by omega)))
  · rw [show kk = 4 by omega, gv_4 e0] at h1 h2
    exact ltb 4 (by decide) h1 h2
  · rw [show kk = 5 by omega, gv_5 e0] at h1 h2
    exact ltb 5 (by decide) h1 h2
  · rw [show kk = 6 by omega, gv_6 e0] at h1 h2
    exact ltb 6 (by decide) h1 h2
  · rw [show kk = 7 by omega, gv_7 e0] at h1 h2
    exact ltb 7 (by decide) h1 h2
  · rw [show kk = 8 by omega, gv_8 e0] at h1 h2
    exact eqb 8 (by decide) h1 h2
