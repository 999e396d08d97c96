/-! ===== twenty bytes behind the tape ===== -/
def fdA (p0 p1 p2 p3 p4 : Int32) (i : Nat) : Int32 := if i < 4 then p0 else if i < 8 then p1 else if i < 12 then p2 else if i < 16 then p3 else p4
def fdV (p0 p1 p2 p3 p4 : Int32) (i : Nat) : Int32 := fdA p0 p1 p2 p3 p4 i >>> (nI (24 - 8 * (i % 4)) &&& 31)
def App (n i : Nat) (V f0 f : Nat → Int32) : Prop := (∀ k, k < n → f k = f0 k) ∧ ∀ j, j < i → f (n + j) = V j
theorem App_s {n i : Nat} {V f0 f : Nat → Int32} {x : Int32} (h : App n i V f0 f) (hx : x = V i) : App n (i + 1) V f0 (upd f (n + i) x) := by
  refine ⟨fun k hk => ?_, fun j hj => ?_⟩
  · rw [pk_un (by omega)]; exact h.1 k hk
  · rcases Nat.lt_or_ge j i with q | q
    · rw [pk_un (by omega)]; exact h.2 j q
    · rw [show j = i by omega, pk_us]; exact hx
theorem sp_append {n : Nat} {p0 : Int32} {t : Nat → Int32} {Q : Int32 → (Nat → Int32) → Int32 → Prop} (hn : n < 400) (h : Q 1 (upd t n p0) (nI (n + 1))) : wp_X5_append p0 t (nI n) Q := by
  unfold wp_X5_append
  refine ⟨fun e => absurd e (nI_nneg (by omega)), fun _ => q_if (nI_ltI (b := 400) (by omega) (by decide)) (fun _ => ?_) (fun e => absurd hn e)⟩
  refine q_in hn (by decide) ?_
  rw [nI_clamp (by omega)]
  intro x ex y ey
  rw [ex, ey, nI_1]
  exact h
theorem sp_append_out {n : Nat} {p0 : Int32} {t : Nat → Int32} {Q : Int32 → (Nat → Int32) → Int32 → Prop} (hn : 400 ≤ n) (hn2 : n < 2 ^ 31) (h : Q 0 t (nI n)) : wp_X5_append p0 t (nI n) Q := by
  unfold wp_X5_append
  exact ⟨fun e => absurd e (nI_nneg (by omega)), fun _ => q_if (nI_ltI (b := 400) (by omega) (by decide)) (fun e => absurd hn (by omega)) (fun _ => h)⟩
theorem sp_appendInt {n i : Nat} {p0 : Int32} {V f0 f : Nat → Int32} {Q : (Nat → Int32) → Int32 → Prop} (hn : n + i + 4 ≤ 400) (hA : App n i V f0 f) (e0 : (p0 >>> ((24 : Int32) &&& 31)) &&& (255 : Int32) = V i) (e1 : (p0 >>> ((16 : Int32) &&& 31)) &&& (255 : Int32) = V (i + 1)) (e2 : (p0 >>> ((8 : Int32) &&& 31)) &&& (255 : Int32) = V (i + 2)) (e3 : p0 &&& (255 : Int32) = V (i + 3)) (h : ∀ f', App n (i + 4) V f0 f' → Q f' (nI (n + (i + 4)))) : wp_X5_appendInt p0 f (nI (n + i)) Q := by
  unfold wp_X5_appendInt
  refine sp_append (by omega) ?_
  refine sp_append (by omega) ?_
  refine sp_append (by omega) ?_
  refine sp_append (by omega) ?_
  exact h _ (App_s (App_s (App_s (App_s hA e0) e1) e2) e3)
theorem fd_sh0 (x : Int32) : x >>> (nI 0 &&& 31) = x := by
  have : nI 0 &&& (31 : Int32) = 0 := by decide
  rw [this]
  exact Int32.shiftRight_zero
theorem fd_byte (x : Int32) : ∃ b, b < 256 ∧ x &&& (255 : Int32) = nI b ∧ x.toInt8.toInt32 = (nI b).toInt8.toInt32 := by
  refine ⟨x.toBitVec.toNat % 256, Nat.mod_lt _ (by decide), pk_and x 8 (by decide), ?_⟩
  congr 1
  apply Int8.toInt_inj.mp
  have hb := Nat.mod_lt x.toBitVec.toNat (show 0 < 256 by decide)
  rw [Int32.toInt_toInt8, Int32.toInt_toInt8, nI_toInt (by omega), Int.natCast_emod]
  show x.toBitVec.toInt.bmod (2 ^ 8) = _
  rw [BitVec.toInt_eq_toNat_bmod, Int.bmod_bmod_of_dvd (by decide)]
  exact (Int.emod_bmod _ _).symm
theorem fd_shift (z : Nat) : ((24 : Int32) - ((8 : Int32) * (nI z - nI z / (4 : Int32) * (4 : Int32)))) = nI (24 - 8 * (z % 4)) ∨ ¬ z < 2 ^ 31 := by
  by_cases h : z < 2 ^ 31
  · left
    rw [show (4 : Int32) = nI 4 from rfl, pk_rem h (by decide) (by decide), show (8 : Int32) = nI 8 from rfl, pk_mul, show (24 : Int32) = nI 24 from rfl, pk_sub (by omega)]
  · exact Or.inr h
theorem stp_feed : Stp_feed Inv := by
  unfold Stp_feed
  intro p0 p1 p2 p3 p4 active rests writers tbytes tlen dbytes dlen next known rec m_made m_sort m_digits m_slots m_pages m_highest m_units m_kinds m_rows m_marks q_active q_rests q_writers l_made l_sort l_digits l_slots l_pages l_highest l_units l_kinds l_rows l_marks t_tape t_taped t_set t_highest t_units t_kinds t_sideKind t_side t_active t_rests t_writes t_more t_packed t_packedMany t_at t_wrong t_number t_readSort t_readDigits t_readHighest t_wasSet t_wasHighest t_wasUnits t_wasKinds t_wasSideKind t_wasSide t_undone hI
  obtain ⟨⟨n, hn, en, et, hk⟩, hP, hO, hL, hH⟩ := id hI
  subst en et
  unfold wp_X7_feed wp_X8_feed
  refine q_if (nI_leI (b := 380) (by omega) (by decide)) (fun q => ?_) (fun q => ?_)
  rotate_left
  · exact ⟨fun c => absurd ((nI_leI (b := 380) (by omega) (by decide)).mp c) q, fun _ => ⟨rfl, hI⟩⟩
  have hV : ∀ i, fdV p0 p1 p2 p3 p4 i = fdA p0 p1 p2 p3 p4 i >>> (nI (24 - 8 * (i % 4)) &&& 31) := fun _ => rfl
  have hcls : ∀ (p : Int32) (j : Nat), j < 5 → (∀ c, c < 4 → fdA p0 p1 p2 p3 p4 (4 * j + c) = p) → (p >>> ((24 : Int32) &&& 31)) &&& (255 : Int32) = (fun i => fdV p0 p1 p2 p3 p4 i &&& (255 : Int32)) (4 * j) ∧ (p >>> ((16 : Int32) &&& 31)) &&& (255 : Int32) = (fun i => fdV p0 p1 p2 p3 p4 i &&& (255 : Int32)) (4 * j + 1) ∧ (p >>> ((8 : Int32) &&& 31)) &&& (255 : Int32) = (fun i => fdV p0 p1 p2 p3 p4 i &&& (255 : Int32)) (4 * j + 2) ∧ p &&& (255 : Int32) = (fun i => fdV p0 p1 p2 p3 p4 i &&& (255 : Int32)) (4 * j + 3) := by
    intro p j hj hp
    refine ⟨?_, ?_, ?_, ?_⟩
    · show _ = fdV p0 p1 p2 p3 p4 (4 * j) &&& (255 : Int32)
      have h := hp 0 (by decide)
      rw [Nat.add_zero] at h
      rw [hV, h, show 24 - 8 * (4 * j % 4) = 24 by omega]
      rfl
    · show _ = fdV p0 p1 p2 p3 p4 (4 * j + 1) &&& (255 : Int32)
      rw [hV, hp 1 (by decide), show 24 - 8 * ((4 * j + 1) % 4) = 16 by omega]
      rfl
    · show _ = fdV p0 p1 p2 p3 p4 (4 * j + 2) &&& (255 : Int32)
      rw [hV, hp 2 (by decide), show 24 - 8 * ((4 * j + 2) % 4) = 8 by omega]
      rfl
    · show _ = fdV p0 p1 p2 p3 p4 (4 * j + 3) &&& (255 : Int32)
      rw [hV, hp 3 (by decide), show 24 - 8 * ((4 * j + 3) % 4) = 0 by omega, fd_sh0]
  obtain ⟨a0, a1, a2, a3⟩ := hcls p0 0 (by decide) (fun c hc => by unfold fdA; rw [if_pos (by omega)])
  obtain ⟨b0, b1, b2, b3⟩ := hcls p1 1 (by decide) (fun c hc => by unfold fdA; rw [if_neg (by omega), if_pos (by omega)])
  obtain ⟨c0, c1, c2, c3⟩ := hcls p2 2 (by decide) (fun c hc => by unfold fdA; rw [if_neg (by omega), if_neg (by omega), if_pos (by omega)])
  obtain ⟨d0, d1, d2, d3⟩ := hcls p3 3 (by decide) (fun c hc => by unfold fdA; rw [if_neg (by omega), if_neg (by omega), if_neg (by omega), if_pos (by omega)])
  obtain ⟨e0, e1, e2, e3⟩ := hcls p4 4 (by decide) (fun c hc => by unfold fdA; rw [if_neg (by omega), if_neg (by omega), if_neg (by omega), if_neg (by omega)])
  refine sp_appendInt (V := fun i => fdV p0 p1 p2 p3 p4 i &&& (255 : Int32)) (n := n) (i := 0) (f0 := tbytes) (by omega) ⟨fun _ _ => rfl, fun _ hj => absurd hj (by omega)⟩ a0 a1 a2 a3 (fun f1 A1 => ?_)
  refine sp_appendInt (V := fun i => fdV p0 p1 p2 p3 p4 i &&& (255 : Int32)) (n := n) (i := 4) (f0 := tbytes) (by omega) A1 b0 b1 b2 b3 (fun f2 A2 => ?_)
  refine sp_appendInt (V := fun i => fdV p0 p1 p2 p3 p4 i &&& (255 : Int32)) (n := n) (i := 8) (f0 := tbytes) (by omega) A2 c0 c1 c2 c3 (fun f3 A3 => ?_)
  refine sp_appendInt (V := fun i => fdV p0 p1 p2 p3 p4 i &&& (255 : Int32)) (n := n) (i := 12) (f0 := tbytes) (by omega) A3 d0 d1 d2 d3 (fun f4 A4 => ?_)
  refine sp_appendInt (V := fun i => fdV p0 p1 p2 p3 p4 i &&& (255 : Int32)) (n := n) (i := 16) (f0 := tbytes) (by omega) A4 e0 e1 e2 e3 (fun f5 A5 => ?_)
  refine ⟨fun _ => ?_, fun c => absurd ((nI_leI (b := 380) (by omega) (by decide)).mpr q) c⟩
  intro x ex
  rw [ex]
  refine lp2 (fun j a b => lp_X8_feed_15 _ p0 p1 p2 p3 p4 (nI n) j a b) (fun a b => ∃ z, z ≤ 20 ∧ a = nI z ∧ App n z (fun i => (fdV p0 p1 p2 p3 p4 i).toInt8.toInt32) t_tape b) (fun a _ => 20 - a.toInt.toNat) ?_ _ _ ⟨0, by omega, rfl, fun _ _ => rfl, fun _ hj => absurd hj (by omega)⟩
  intro j a b hI2 hs2
  obtain ⟨z, hz, ea, hB⟩ := hI2
  subst ea
  show bod_X8_feed_15 _ p0 p1 p2 p3 p4 (nI n) (fun v0 v1 => lp_X8_feed_15 _ p0 p1 p2 p3 p4 (nI n) j v0 v1) (nI z) b
  unfold bod_X8_feed_15
  refine q_if (nI_leI (a := 20) (by decide) (by omega)) (fun q2 => ?_) (fun q2 => ?_)
  · have ez : z = 20 := by omega
    subst ez
    intro y ey
    rw [ey, show (20 : Int32) = nI 20 from rfl, nI_add]
    refine ⟨rfl, ⟨n + 20, by omega, rfl, rfl, fun k hk2 => ?_⟩, hP, hO, hL, hH⟩
    rcases Nat.lt_or_ge k n with q3 | q3
    · rw [A5.1 k q3, hB.1 k q3]; exact hk k q3
    · obtain ⟨i, rfl⟩ : ∃ i, k = n + i := ⟨k - n, by omega⟩
      rw [A5.2 i (by omega), hB.2 i (by omega)]
      obtain ⟨w, w1, w2, w3⟩ := fd_byte (fdV p0 p1 p2 p3 p4 i)
      exact ⟨w, w1, w2, w3⟩
  · have hst : ∀ p, p = fdA p0 p1 p2 p3 p4 z → blk_X8_feed_68 (fun v0 v1 => lp_X8_feed_15 (fun (r2 : Int32) (t_tape2 : Nat → Int32) (t_taped2 : Int32) => nI (n + (16 + 4)) = r2 ∧ Inv active rests writers f5 (nI (n + (16 + 4))) dbytes dlen next known rec m_made m_sort m_digits m_slots m_pages m_highest m_units m_kinds m_rows m_marks q_active q_rests q_writers l_made l_sort l_digits l_slots l_pages l_highest l_units l_kinds l_rows l_marks t_tape2 t_taped2 t_set t_highest t_units t_kinds t_sideKind t_side t_active t_rests t_writes t_more t_packed t_packedMany t_at t_wrong t_number t_readSort t_readDigits t_readHighest t_wasSet t_wasHighest t_wasUnits t_wasKinds t_wasSideKind t_wasSide t_undone) p0 p1 p2 p3 p4 (nI n) j v0 v1) (fun (r2 : Int32) (t_tape2 : Nat → Int32) (t_taped2 : Int32) => nI (n + (16 + 4)) = r2 ∧ Inv active rests writers f5 (nI (n + (16 + 4))) dbytes dlen next known rec m_made m_sort m_digits m_slots m_pages m_highest m_units m_kinds m_rows m_marks q_active q_rests q_writers l_made l_sort l_digits l_slots l_pages l_highest l_units l_kinds l_rows l_marks t_tape2 t_taped2 t_set t_highest t_units t_kinds t_sideKind t_side t_active t_rests t_writes t_more t_packed t_packedMany t_at t_wrong t_number t_readSort t_readDigits t_readHighest t_wasSet t_wasHighest t_wasUnits t_wasKinds t_wasSideKind t_wasSide t_undone) p0 p1 p2 p3 p4 (nI z) p b (nI n) := by
      intro p ep
      unfold blk_X8_feed_68
      intro x7 hx7
      rw [hx7, nI_add]
      refine q_in (by omega) (by decide) ?_
      intro b2 hb2 x6 hx6
      rw [hx6, nI_1]
      refine hs2 _ _ ⟨z + 1, by omega, rfl, ?_⟩ ?_
      · rw [hb2, nI_clamp (by omega)]
        refine App_s hB ?_
        rw [pk_vb]
        show _ = (fdV p0 p1 p2 p3 p4 z).toInt8.toInt32
        rw [hV, ep]
        rcases fd_shift z with e | e
        · rw [e]
        · exact absurd (show z < 2 ^ 31 by omega) e
      · rw [nI_toInt (by omega), nI_toInt (by omega)]
        omega
    unfold fdA at hst
    refine q_if (nI_leI (a := 4) (by decide) (by omega)) (fun q4 => ?_) (fun q4 => hst _ (by rw [if_pos (by omega)]))
    refine q_if (nI_leI (a := 8) (by decide) (by omega)) (fun q8 => ?_) (fun q8 => hst _ (by rw [if_neg (by omega), if_pos (by omega)]))
    refine q_if (nI_leI (a := 12) (by decide) (by omega)) (fun q12 => ?_) (fun q12 => hst _ (by rw [if_neg (by omega), if_neg (by omega), if_pos (by omega)]))
    refine q_if (nI_leI (a := 16) (by decide) (by omega)) (fun q16 => ?_) (fun q16 => ?_)
    · exact hst _ (by rw [if_neg (by omega), if_neg (by omega), if_neg (by omega), if_neg (by omega)])
    · exact hst _ (by rw [if_neg (by omega), if_neg (by omega), if_neg (by omega), if_pos (by omega)])
