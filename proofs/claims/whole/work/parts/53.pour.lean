/-! ===== lows of slots ===== -/
theorem Low_Slot {d x : Nat} (hd : d = 1 ∨ d = 2) (hx : x < 2 ^ 63) : Low d (Slot d x) = x / 2 ^ Sh d x * 2 ^ Sh d x := by
  unfold Low
  rw [ShS_Slot hd hx]
  congr 1
  unfold Slot
  exact Nat.add_sub_cancel_left _ _
theorem Low_le {d x : Nat} (hd : d = 1 ∨ d = 2) (hx : x < 2 ^ 63) : Low d (Slot d x) ≤ x := by
  rw [Low_Slot hd hx]
  exact Nat.div_mul_le_self _ _
theorem Slot_Low {d s : Nat} (hd : d = 1 ∨ d = 2) (hs : ShS d s ≤ 40) : Slot d (Low d s) = s ∧ Low d s < 2 ^ 63 := by
  have p := Nat.pow_le_pow_right (n := 2) (by decide) hs
  have pp := Nat.two_pow_pos (ShS d s)
  have e40 : (2 : Nat) ^ 40 = 1099511627776 := by decide
  rw [e40] at p
  have hH : 2 ^ (bb d - 1) * 2 = 2 ^ bb d := by rcases bb_p hd with ⟨e, e2⟩ | ⟨e, e2⟩ <;> rw [e2, e] <;> rfl
  have hH2 : 1 ≤ bb d ∧ bb d ≤ 8 ∧ 16 ≤ 2 ^ (bb d - 1) ∧ 2 ^ (bb d - 1) ≤ 128 := by rcases bb_p hd with ⟨e, e2⟩ | ⟨e, e2⟩ <;> rw [e2, e] <;> decide
  have eS : ShS d s = s / 2 ^ (bb d - 1) - 1 := rfl
  have dm := Nat.div_add_mod s (2 ^ (bb d - 1))
  have ml := Nat.mod_lt s (show 0 < 2 ^ (bb d - 1) by omega)
  generalize eH : 2 ^ (bb d - 1) = H at *
  generalize eq : s / H = q at *
  generalize er : s % H = r at *
  by_cases q0 : q ≤ 1
  · have e1 : ShS d s = 0 := by omega
    have e2 : Low d s = s := by unfold Low; rw [e1]; simp
    have e3 : s < 2 ^ bb d := by
      rw [← hH, ← dm]
      have : H * q ≤ H * 1 := Nat.mul_le_mul_left _ q0
      omega
    have e5 : bl s ≤ bb d := bl_le e3 (by omega)
    have e6 : Sh d s = 0 := by unfold Sh; omega
    rw [e2]
    refine ⟨?_, by omega⟩
    unfold Slot
    rw [e6]
    simp
  · have e1 : ShS d s = q - 1 := eS
    have e2 : s - ShS d s * H = H + r := by
      rw [e1, ← dm, Nat.mul_comm H q, Nat.sub_mul]
      have : 1 * H ≤ q * H := Nat.mul_le_mul_right _ (by omega)
      omega
    have e3 : Low d s = (H + r) * 2 ^ ShS d s := by unfold Low; rw [eH, e2]
    have e4 : Low d s ≤ 256 * 1099511627776 := by rw [e3]; exact Nat.mul_le_mul (by omega) p
    have e5 : Low d s / 2 ^ ShS d s = H + r := by rw [e3]; exact Nat.mul_div_cancel _ pp
    have e6 : bl (H + r) = bb d := by
      have := bl_uniq (v := H + r) (k := bb d - 1) (by omega) (by omega) (by rw [show bb d - 1 + 1 = bb d by omega]; omega)
      omega
    have e7 : 2 ^ ShS d s ≤ Low d s := by
      rw [e3]
      exact Nat.le_mul_of_pos_left _ (by omega)
    have e8 := bl_div e7 (by omega)
    rw [e5, e6] at e8
    have e9 : Sh d (Low d s) = ShS d s := by unfold Sh; omega
    refine ⟨?_, by omega⟩
    show Sh d (Low d s) * 2 ^ (bb d - 1) + Low d s / 2 ^ Sh d (Low d s) = s
    rw [e9, e5, eH]
    rw [← e2]
    have := ShS_mul d s
    rw [eH] at this
    omega
theorem Slot_in {d x y : Nat} (hd : d = 1 ∨ d = 2) (hx : x ≤ 1000000000000) (h1 : Low d (Slot d x) ≤ y) (h2 : y ≤ x) : Slot d y = Slot d x := by
  have ⟨a, b⟩ := Slot_le hd hx
  have c := (Slot_Low (s := Slot d x) hd (by rw [ShS_Slot hd (by omega)]; omega)).1
  have m1 := Slot_mono hd h1 (by omega)
  have m2 := Slot_mono hd h2 (by omega)
  rw [c] at m1
  omega
theorem Slot_below {d x y : Nat} (hd : d = 1 ∨ d = 2) (hx : x ≤ 1000000000000) (h1 : y < Low d (Slot d x)) : Slot d y < Slot d x := by
  have l := Low_le hd (x := x) (by omega)
  have m2 := Slot_mono (w := x) hd (v := y) (by omega) (by omega)
  rcases Nat.lt_or_ge (Slot d y) (Slot d x) with q | q
  · exact q
  · have e : Slot d y = Slot d x := by omega
    have := Low_le hd (x := y) (by omega)
    rw [e] at this
    omega
/-! ===== what comes to each slot, one after the other ===== -/
def mo (σ w : Nat → Nat) : Nat → Nat → Nat
  | 0, _ => 0
  | c + 1, s => mo σ w c s + (if σ c = s then w c else 0)
theorem mo_s (σ w : Nat → Nat) (c s : Nat) : mo σ w (c + 1) s = mo σ w c s + (if σ c = s then w c else 0) := rfl
theorem mo_at {σ w : Nat → Nat} {c s : Nat} (h : σ c = s) : mo σ w (c + 1) s = mo σ w c s + w c := by rw [mo_s, if_pos h]
theorem mo_ne {σ w : Nat → Nat} {c s : Nat} (h : σ c ≠ s) : mo σ w (c + 1) s = mo σ w c s := by rw [mo_s, if_neg h]; rfl
theorem mo_mono {σ w : Nat → Nat} {s a : Nat} : ∀ n, mo σ w a s ≤ mo σ w (a + n) s
  | 0 => Nat.le_refl _
  | n + 1 => Nat.le_trans (mo_mono n) (by rw [← Nat.add_assoc, mo_s]; omega)
theorem mo_le {σ w : Nat → Nat} {s a b : Nat} (h : a ≤ b) : mo σ w a s ≤ mo σ w b s := by
  have := mo_mono (σ := σ) (w := w) (s := s) (a := a) (b - a)
  rw [show a + (b - a) = b by omega] at this
  exact this
theorem mo_zero {σ w : Nat → Nat} {s : Nat} : ∀ {c : Nat}, (∀ i, i < c → σ i ≠ s) → mo σ w c s = 0
  | 0, _ => rfl
  | c + 1, h => by rw [mo_ne (h c (by omega)), mo_zero (fun i hi => h i (by omega))]
theorem mo_out {σ w : Nat → Nat} {s c : Nat} : ∀ {m : Nat}, (∀ i, c ≤ i → i < c + m → σ i ≠ s) → mo σ w (c + m) s = mo σ w c s
  | 0, _ => rfl
  | m + 1, h => by rw [← Nat.add_assoc, mo_ne (h (c + m) (by omega) (by omega)), mo_out (fun i h1 h2 => h i h1 (by omega))]
theorem mo_grp {σ : Nat → Nat} {s c n : Nat} : ∀ {m : Nat}, (∀ i, c ≤ i → i < c + m → σ i = s) → mo σ (fun _ => n) (c + m) s = mo σ (fun _ => n) c s + m * n
  | 0, _ => by rw [Nat.zero_mul]; rfl
  | m + 1, h => by rw [← Nat.add_assoc, mo_at (h (c + m) (by omega) (by omega)), mo_grp (fun i h1 h2 => h i h1 (by omega)), Nat.succ_mul]; omega
theorem mo_b {σ w : Nat → Nat} {n s : Nat} (hw : ∀ i, w i ≤ n) : ∀ c, mo σ w c s ≤ c * n
  | 0 => Nat.zero_le _
  | c + 1 => by
    have h := mo_b hw (s := s) (σ := σ) c
    have h2 := hw c
    rw [mo_s, Nat.succ_mul]
    split <;> omega
def ua (u m : Nat → Nat) : Nat → Nat := fun j => u j + m j
theorem ua_0 (u : Nat → Nat) (σ w : Nat → Nat) : ua u (mo σ w 0) = u := funext fun _ => rfl
/-! ===== the groups of a recording ===== -/
def Many (d x i : Nat) : Nat := if i = 0 ∨ x < max (Low d (Slot d x)) i then 1 else (x - max (Low d (Slot d x)) i) / i + 1
theorem grp {d v i c : Nat} (hd : d = 1 ∨ d = 2) (hv : v ≤ 1000000000000) (hi : i < 2 ^ 63) (hc : c ≤ v / i - 1) : 1 ≤ Many d (v - c * i) i ∧ c + Many d (v - c * i) i ≤ v / i - 1 + 1 ∧ c * i ≤ v ∧ Many d (v - c * i) i * i < 2 ^ 63 ∧ (∀ e, c ≤ e → e < c + Many d (v - c * i) i → Slot d (v - e * i) = Slot d (v - c * i)) ∧ (c + Many d (v - c * i) i ≤ v / i - 1 → Many d (v - c * i) i * i ≤ v - c * i ∧ i ≤ v - (c + Many d (v - c * i) i) * i ∧ v - c * i - Many d (v - c * i) i * i = v - (c + Many d (v - c * i) i) * i ∧ Slot d (v - (c + Many d (v - c * i) i) * i) < Slot d (v - c * i)) ∧ (c + Many d (v - c * i) i = v / i - 1 + 1 → 0 < i → v - c * i < Many d (v - c * i) i * i + i) := by
  by_cases i0 : i = 0
  · subst i0
    rw [Nat.div_zero] at hc ⊢
    have c0 : c = 0 := by omega
    subst c0
    have em : Many d (v - 0 * 0) 0 = 1 := by unfold Many; rw [if_pos (Or.inl rfl)]
    rw [em]
    refine ⟨by omega, by omega, by omega, by omega, fun e h1 h2 => by rw [show e = 0 by omega], fun h => absurd h (by omega), fun _ h => absurd h (by omega)⟩
  have ip : 0 < i := by omega
  have hv63 : v < 2 ^ 63 := by omega
  -- the number of values
  have dm := Nat.div_add_mod v i
  have ml := Nat.mod_lt v ip
  have hdiv : ∀ k, k ≤ v / i ↔ k * i ≤ v := fun k => Nat.le_div_iff_mul_le ip
  generalize v % i = vm at *
  generalize v / i = V at *
  by_cases v0 : V = 0
  · have c0 : c = 0 := by omega
    subst c0
    have hlt : v < i := by
      rw [v0, Nat.mul_zero] at dm; omega
    have hlow := Low_le hd hv63
    have em : Many d (v - 0 * i) i = 1 := by
      unfold Many
      rw [Nat.zero_mul, Nat.sub_zero, if_pos (Or.inr (by omega))]
    rw [em, v0]
    refine ⟨by omega, by omega, by omega, by omega, fun e h1 h2 => by rw [show e = 0 by omega], fun h => absurd h (by omega), fun _ _ => by omega⟩
  have hci : c * i + i ≤ v := by
    have h1 : (c + 1) * i ≤ V * i := Nat.mul_le_mul_right _ (by omega)
    rw [Nat.succ_mul, Nat.mul_comm V i] at h1
    omega
  generalize ex : v - c * i = x at *
  have hx : x ≤ 1000000000000 := by omega
  have hlow := Low_le hd (x := x) (by omega)
  generalize ef : max (Low d (Slot d x)) i = f at *
  have hfx : f ≤ x := by omega
  have em : Many d x i = (x - f) / i + 1 := by
    unfold Many
    rw [ef, if_neg (by omega)]
  rw [em]
  have dm2 := Nat.div_add_mod (x - f) i
  have ml2 := Nat.mod_lt (x - f) ip
  generalize eg : (x - f) / i = g at *
  rw [Nat.mul_comm] at dm2
  have hgi : (g + 1) * i = g * i + i := Nat.succ_mul g i
  have hcg : (c + (g + 1)) * i = c * i + (g * i + i) := by rw [Nat.add_mul, hgi]
  have hle : c + (g + 1) ≤ V := by
    rw [hdiv, hcg]
    omega
  refine ⟨by omega, by omega, by omega, by omega, fun e h1 h2 => ?_, fun h => ?_, fun h _ => ?_⟩
  · obtain ⟨t, rfl⟩ : ∃ t, e = c + t := ⟨e - c, by omega⟩
    have ht : t * i ≤ g * i := Nat.mul_le_mul_right _ (by omega)
    have he : v - (c + t) * i = x - t * i := by rw [Nat.add_mul]; omega
    rw [he]
    exact Slot_in hd hx (by omega) (by omega)
  · have h3 : (c + (g + 1) + 1) * i ≤ V * i := Nat.mul_le_mul_right _ (by omega)
    rw [Nat.succ_mul, hcg, Nat.mul_comm V i] at h3
    rw [hgi, hcg]
    refine ⟨by omega, by omega, by omega, ?_⟩
    exact Slot_below hd hx (by omega)
  · have h3 : (c + (g + 1)) * i = V * i := by rw [h]; congr 1; omega
    rw [hcg, Nat.mul_comm V i] at h3
    rw [hgi]
    omega
theorem sp_awaited {d h x i : Nat} {di : Int32} {Q : Int64 → Prop} (hd : d = 1 ∨ d = 2) (ed : di = nI d) (hx : x ≤ 1000000000000) (hi : i < 2 ^ 63) (k : Q (lN (Many d x i))) : wp_X1_awaitedIn (nI (Slot d x)) (lN x) (lN i) di Q := by
  subst ed
  have ⟨a, b⟩ := Slot_le hd hx
  have c := ShS_Slot hd (v := x) (by omega)
  have l := Low_le hd (x := x) (by omega)
  unfold wp_X1_awaitedIn
  refine sp_X7_lowOf hd (by omega) (by omega) ?_
  intro x6 hx6
  rw [hx6, lN_max (by omega) hi]
  unfold Many at k
  refine q_if (pk_lLE (b := 0) hi (by decide)) (fun q => ?_) (fun q => ?_)
  · rw [if_pos (Or.inl (by omega))] at k; exact k
  · refine q_if (pk_lLE (by omega) (by omega)) (fun q2 => ?_) (fun q2 => ?_)
    · rw [if_neg (by omega)] at k
      refine ⟨fun e => q (by have := (lN_z hi).mp e; omega), ?_⟩
      rw [lN_sub q2, pk_lDiv (by omega) (by omega) hi, lN_1]
      exact k
    · rw [if_pos (Or.inr (by omega))] at k; exact k
theorem dv_le {v i : Nat} (hv : v ≤ 1000000000000) (h0 : 0 < i) (hi : i < 2 ^ 63) : (lN v / lN i - (1 : Int64) ≤ (1000 : Int64)) ↔ v / i - 1 ≤ 1000 := by
  have hb : v / i ≤ v := Nat.div_le_self _ _
  have e1 : (1 : Int64).toInt = 1 := by decide
  have e2 : (1000 : Int64).toInt = 1000 := by decide
  rw [pk_lDiv (by omega) h0 hi]
  generalize v / i = V at *
  rw [fa_le64, fb_subL (by rw [pk_lT (by omega)]; omega) (by rw [pk_lT (by omega)]; omega), pk_lT (by omega), e1, e2]
  omega
theorem sp_pour {fr so d h v n i P : Nat} {srt di : Int32} {hi : Int64} {U : Nat → Int64} {K : Nat → Int32} {u k : Nat → Nat} {Q : Int32 → (Nat → Int64) → (Nat → Int32) → Prop} (hfr : fr = 0 ∨ fr = 1) (hso : so = 0 ∨ so = 1) (hd : d = 1 ∨ d = 2) (hh : h ≤ 1000000000000) (e0 : srt = nI so) (ed : di = nI d) (eh : hi = lN h) (hP : P ≤ 271) (hN : Slot d h + 1 ≤ 16 * P) (hk0 : ∀ p, KOK so (k p) (fun i => u (16 * p + i))) (hb0 : ∀ j, u j ≤ 1000000000000000) (hR : UK P U K u k) (hv : v ≤ h) (hn : n ≤ 1000000000000) (hi2 : i < 2 ^ 63) (hC : v / i - 1 ≤ 1000) (hroom : fr = 1 → ∀ j, ua u (mo (fun c => Slot d (v - c * i)) (fun _ => n) (v / i - 1 + 1)) j ≤ 1000000000000000)
    (h1 : (∀ j, ua u (mo (fun c => Slot d (v - c * i)) (fun _ => n) (v / i - 1 + 1)) j ≤ 1000000000000000) → ∀ U' K', (fr = 0 → U' = U ∧ K' = K) → (fr = 1 → UK P U' K' (ua u (mo (fun c => Slot d (v - c * i)) (fun _ => n) (v / i - 1 + 1))) (fk so u k (ua u (mo (fun c => Slot d (v - c * i)) (fun _ => n) (v / i - 1 + 1))))) → Q 1 U' K')
    (h0 : (∃ j, ¬ ua u (mo (fun c => Slot d (v - c * i)) (fun _ => n) (v / i - 1 + 1)) j ≤ 1000000000000000) → fr = 0 → Q 0 U K) : wp_X1_pour (lN v) (lN n) (lN i) (nI fr) srt di hi U K Q := by
  subst e0 ed eh
  have hv12 : v ≤ 1000000000000 := by omega
  generalize eσ : (fun c => Slot d (v - c * i)) = σ at *
  have hσ : ∀ c, σ c = Slot d (v - c * i) := fun c => by rw [← eσ]
  have hσh : ∀ c, σ c ≤ Slot d h := fun c => by rw [hσ]; exact Slot_mono hd (by omega) (by omega)
  generalize eC : v / i - 1 = C at *
  have main : blk_X1_pour_30 (nI so) (nI d) (lN h) Q (lN v) (lN n) (lN i) (nI fr) U K := by
    unfold blk_X1_pour_30
    intro x8 hx8 x10 hx10
    rw [hx8, hx10]
    refine lp4 (fun j a b c e => lp_X1_pour_36 (nI so) (nI d) (lN h) Q (lN n) (lN i) (nI fr) j a b c e) (fun a b U' K' => ∃ c g, g ≤ c ∧ c ≤ C ∧ a = lN (v - c * i) ∧ b = nI g ∧ (∀ e, e < c → σ c < σ e) ∧ (∀ j, ua u (mo σ (fun _ => n) c) j ≤ 1000000000000000) ∧ (fr = 0 → U' = U ∧ K' = K) ∧ (fr = 1 → UK P U' K' (ua u (mo σ (fun _ => n) c)) (fk so u k (ua u (mo σ (fun _ => n) c))))) (fun _ b _ _ => 2000 - b.toInt.toNat) ?_ _ _ _ _ ⟨0, 0, by omega, by omega, by rw [Nat.zero_mul]; rfl, rfl, fun e he => absurd he (by omega), fun j => by rw [ua_0]; exact hb0 j, fun _ => ⟨rfl, rfl⟩, fun _ => by rw [ua_0, fk_0]; exact hR⟩
    intro j a b U' K' hI hs2
    obtain ⟨c, g, hg, hc, ea, eb, hlt, hle, hf0, hf1⟩ := hI
    subst ea eb
    show bod_X1_pour_36 (nI so) (nI d) (lN h) Q (lN n) (lN i) (nI fr) (fun v0 v1 v2 v3 => lp_X1_pour_36 (nI so) (nI d) (lN h) Q (lN n) (lN i) (nI fr) j v0 v1 v2 v3) (lN (v - c * i)) (nI g) U' K'
    unfold bod_X1_pour_36
    refine q_if (nI_ltI (a := 1000) (by decide) (by omega)) (fun q => absurd q (by omega)) (fun _ => ?_)
    have G := grp hd hv12 hi2 (c := c) (by omega)
    rw [eC] at G
    obtain ⟨g1, g2, g3, g4, g5, g6, g7⟩ := G
    have hx12 : v - c * i ≤ 1000000000000 := by omega
    refine sp_X7_slotOf hd (by omega) ?_
    intro x11 hx11
    rw [hx11]
    refine sp_awaited (h := h) hd rfl hx12 hi2 ?_
    generalize em : Many d (v - c * i) i = m at *
    intro x12 hx12b
    rw [hx12b]
    have es : Slot d (v - c * i) = σ c := (hσ c).symm
    rw [es] at g5 g6 ⊢
    have hsh := hσh c
    have hz : mo σ (fun _ => n) c (σ c) = 0 := mo_zero (fun e he => by have := hlt e he; omega)
    have hU : U' (σ c) = lN (u (σ c)) := by
      rcases hfr with e | e
      · rw [(hf0 e).1]; exact hR.1 _ (by omega)
      · rw [(hf1 e).1 _ (by omega)]
        unfold ua
        rw [hz]; rfl
    have hmo : mo σ (fun _ => n) (c + m) (σ c) = m * n := by
      rw [mo_grp (fun e h1 h2 => by rw [hσ]; exact g5 e h1 h2), hz]; omega
    have hmo2 : ∀ t, t ≠ σ c → mo σ (fun _ => n) (c + m) t = mo σ (fun _ => n) c t := fun t ht => mo_out (fun e h1 h2 => by rw [hσ, g5 e h1 h2]; exact fun q => ht q.symm)
    have hup : ua u (mo σ (fun _ => n) (c + m)) = upn (ua u (mo σ (fun _ => n) c)) (σ c) (u (σ c) + m * n) := funext fun t => by
      by_cases e : t = σ c
      · rw [e, upn_s]; unfold ua; rw [hmo]
      · rw [upn_n e]; unfold ua; rw [hmo2 t e]
    have hmn : m * n ≤ 1001 * 1000000000000 := Nat.mul_le_mul (by omega) hn
    have hbs := hb0 (σ c)
    refine sp_unitsOf (by omega) ?_
    intro x14 hx14
    rw [hx14, hU, lN_mul, lN_add]
    refine q_if (pk_lLE (b := 1000000000000000) (by omega) (by decide)) (fun q => ?_) (fun q => ?_)
    · have hle2 : ∀ t, ua u (mo σ (fun _ => n) (c + m)) t ≤ 1000000000000000 := by
        intro t
        rw [hup]
        exact upn_b hle q t
      have hgo : ∀ U2 K2, (fr = 0 → U2 = U ∧ K2 = K) → (fr = 1 → UK P U2 K2 (ua u (mo σ (fun _ => n) (c + m))) (fk so u k (ua u (mo σ (fun _ => n) (c + m))))) → blk_X1_pour_104 (nI so) (nI d) (lN h) (fun v0 v1 v2 v3 => lp_X1_pour_36 (nI so) (nI d) (lN h) Q (lN n) (lN i) (nI fr) j v0 v1 v2 v3) Q (lN n) (lN i) (nI fr) (lN (v - c * i)) (nI g) (lN m) U2 K2 := by
        intro U2 K2 a0 a1
        unfold blk_X1_pour_104
        intro x8b hx8b
        rw [hx8b, lN_mul]
        by_cases hcm : c + m ≤ C
        · obtain ⟨r1, r2, r3, r4⟩ := g6 hcm
          have ip : i ≠ 0 := by
            intro e; subst e; rw [Nat.div_zero] at eC; omega
          refine ⟨fun e => absurd ((lN_z hi2).mp e) ip, fun _ => ?_⟩
          rw [lN_sub r1, r3]
          refine q_if (pk_lLE hi2 (by omega)) (fun _ => ?_) (fun n => absurd r2 n)
          intro x10b hx10b
          rw [hx10b, nI_1]
          refine hs2 _ _ _ _ ⟨c + m, g + 1, by omega, hcm, rfl, rfl, fun e he => ?_, hle2, a0, a1⟩ ?_
          · rw [hσ (c + m)]
            rcases Nat.lt_or_ge e c with q3 | q3
            · have := hlt e q3; omega
            · rw [hσ e, g5 e q3 he]; exact r4
          · rw [nI_toInt (by omega), nI_toInt (by omega)]
            omega
        · have ecm : c + m = C + 1 := by omega
          rw [ecm] at hle2 a1
          refine ⟨fun _ => h1 hle2 U2 K2 a0 a1, fun ne => ?_⟩
          have ip : 0 < i := by
            rcases Nat.eq_zero_or_pos i with e | e
            · exact absurd (by rw [e]; rfl) ne
            · exact e
          have hr := g7 ecm ip
          refine ⟨fun e => ?_, fun _ => h1 hle2 U2 K2 a0 a1⟩
          rw [fa_le64, pk_lT hi2, fb_subL (by rw [pk_lT (by omega), pk_lT (by omega)]; omega) (by rw [pk_lT (by omega), pk_lT (by omega)]; omega), pk_lT (by omega), pk_lT (by omega)] at e
          exfalso
          omega
      rcases hfr with e | e
      · subst e
        refine ⟨fun _ => hgo U' K' hf0 (fun e => absurd e (by decide)), fun ne => absurd rfl ne⟩
      · subst e
        refine ⟨fun e => absurd e (by decide), fun _ => ?_⟩
        refine sp_rewrite hso hP (by omega) hk0 hb0 hle q (Or.inl ⟨fun j => by unfold ua; omega, by unfold ua; rw [hz]; omega⟩) (hf1 rfl) (fun U2 K2 hUK2 => hgo U2 K2 (fun e => absurd e (by decide)) (fun _ => ?_))
        rw [hup]
        exact hUK2
    · have hex : ∃ j, ¬ ua u (mo σ (fun _ => n) (C + 1)) j ≤ 1000000000000000 := by
        refine ⟨σ c, fun hh => q ?_⟩
        have h2 := mo_le (σ := σ) (w := fun _ => n) (s := σ c) (show c + m ≤ C + 1 by omega)
        unfold ua at hh
        rw [hmo] at h2
        omega
      rcases hfr with e | e
      · rw [(hf0 e).1, (hf0 e).2]
        exact h0 hex e
      · obtain ⟨j, hj⟩ := hex
        exact absurd (hroom e j) hj
  unfold wp_X1_pour
  refine sp_reaches_in hv hh (q1b ?_)
  refine q_if (pk_lLE (b := 0) hi2 (by decide)) (fun _ => main) (fun q => ⟨fun e => q (by have := (lN_z hi2).mp e; omega), ?_⟩)
  exact q_if (dv_le hv12 (by omega) hi2) (fun _ => main) (fun ne => absurd (by rw [eC]; exact hC) ne)
theorem sp_pour_out {p : Int64} {h : Nat} {p1 p2 : Int64} {p3 srt di : Int32} {hi : Int64} {U : Nat → Int64} {K : Nat → Int32} {Q : Int32 → (Nat → Int64) → (Nat → Int32) → Prop} (hh : h ≤ 1000000000000) (eh : hi = lN h) (o : p.toInt < 0 ∨ (h : Int) < p.toInt) (k : Q 0 U K) : wp_X1_pour p p1 p2 p3 srt di hi U K Q := by
  subst eh
  unfold wp_X1_pour
  exact sp_reaches_out o hh (q0b k)
theorem sp_pour_far {v i h : Nat} {p1 : Int64} {p3 srt di : Int32} {hi : Int64} {U : Nat → Int64} {K : Nat → Int32} {Q : Int32 → (Nat → Int64) → (Nat → Int32) → Prop} (hh : h ≤ 1000000000000) (eh : hi = lN h) (hv : v ≤ h) (hi2 : i < 2 ^ 63) (hC : ¬ v / i - 1 ≤ 1000) (k : Q 0 U K) : wp_X1_pour (lN v) p1 (lN i) p3 srt di hi U K Q := by
  subst eh
  have ip : 0 < i := by
    rcases Nat.eq_zero_or_pos i with e | e
    · rw [e, Nat.div_zero] at hC; exact absurd (by decide) hC
    · exact e
  unfold wp_X1_pour
  refine sp_reaches_in hv hh (q1b ?_)
  refine q_if (pk_lLE (b := 0) hi2 (by decide)) (fun q => absurd q (by omega)) (fun q => ⟨fun e => q (by have := (lN_z hi2).mp e; omega), ?_⟩)
  exact q_if (dv_le (by omega) ip hi2) (fun c => absurd c hC) (fun _ => k)
