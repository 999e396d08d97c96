/-! ===== rows of bytes ===== -/
def gL (L : List Nat) (k : Nat) : Nat := (L[k]?).getD 0
theorem gL_l {L M : List Nat} {k : Nat} (h : k < L.length) : gL (L ++ M) k = gL L k := by
  unfold gL
  rw [List.getElem?_append_left h]
theorem gL_r {L M : List Nat} (k : Nat) : gL (L ++ M) (L.length + k) = gL M k := by
  unfold gL
  rw [List.getElem?_append_right (by omega), Nat.add_sub_cancel_left]
theorem gL_out {L : List Nat} {k : Nat} (h : L.length ≤ k) : gL L k = 0 := by
  unfold gL
  rw [List.getElem?_eq_none h]
  rfl
def Buf (φ : Int32 → Int32) (f : Nat → Int32) (len : Int32) (L : List Nat) : Prop := len = nI L.length ∧ L.length ≤ 400 ∧ (∀ k, gL L k < 256) ∧ ∀ k, k < L.length → f k = φ (nI (gL L k))
theorem Buf_1 {φ : Int32 → Int32} {f : Nat → Int32} {len v : Int32} {L : List Nat} {b : Nat} (h : Buf φ f len L) (hl : L.length < 400) (hb : b < 256) (hv : v = φ (nI b)) : Buf φ (upd f L.length v) (nI (L.length + 1)) (L ++ [b]) := by
  obtain ⟨h1, h2, h3, h4⟩ := h
  have hlen : (L ++ [b]).length = L.length + 1 := by rw [List.length_append]; rfl
  have ge : gL (L ++ [b]) L.length = b := by
    have := gL_r (L := L) (M := [b]) 0
    rw [Nat.add_zero] at this
    rw [this]; rfl
  refine ⟨by rw [hlen], by omega, fun k => ?_, fun k hk => ?_⟩
  · rcases Nat.lt_trichotomy k L.length with q | q | q
    · rw [gL_l q]; exact h3 k
    · rw [q, ge]; exact hb
    · rw [gL_out (by omega)]; omega
  · rw [hlen] at hk
    by_cases e : k = L.length
    · rw [e, pk_us, ge]; exact hv
    · rw [pk_un e, gL_l (by omega)]; exact h4 k (by omega)
theorem Buf_0 {φ : Int32 → Int32} {f : Nat → Int32} : Buf φ f (nI 0) [] := ⟨rfl, by decide, fun k => by rw [gL_out (by show 0 ≤ k; omega)]; omega, fun k hk => absurd hk (by show ¬ k < 0; omega)⟩
def byc (x : Int32) : Int32 := x.toInt8.toInt32
theorem sp_app1 {f : Nat → Int32} {len : Int32} {L : List Nat} {b : Nat} {Q : Int32 → (Nat → Int32) → Int32 → Prop} (h : Buf id f len L) (hb : b < 256) (h1 : L.length + 1 ≤ 400 → ∀ f' len', Buf id f' len' (L ++ [b]) → Q 1 f' len') (h0 : ¬ L.length + 1 ≤ 400 → ∀ f' len', Q 0 f' len') : wp_X5_append (nI b) f len Q := by
  have e := h.1
  have hl := h.2.1
  subst e
  by_cases q : L.length < 400
  · exact sp_append q (h1 q _ _ (Buf_1 h q hb rfl))
  · exact sp_append_out (by omega) (by omega) (h0 q _ _)
theorem sp_puts {f : Nat → Int32} {len p : Int32} {L : List Nat} {b : Nat} {Q : Int32 → (Nat → Int32) → Int32 → Prop} (h : Buf byc f len L) (hb : b < 256) (hp : p = nI b) (h1 : L.length + 1 ≤ 400 → ∀ f' len', Buf byc f' len' (L ++ [b]) → Q 1 f' len') (h0 : ¬ L.length + 1 ≤ 400 → ∀ f' len', Q 0 f' len') : wp_X8_puts p f len Q := by
  have e := h.1
  have hl := h.2.1
  subst e hp
  unfold wp_X8_puts
  refine q_fi (nI_eq (b := 400) (by omega) (by decide)) (fun q => h0 (by omega) _ _) (fun q => ?_)
  refine q_in (by omega) (by decide) ?_
  intro x hx y hy
  rw [nI_clamp (by omega)] at hx
  rw [hx, hy, nI_1]
  exact h1 (by omega) _ _ (Buf_1 h (by omega) hb (by rw [pk_vb]; rfl))
/-! ===== numbers of bytes ===== -/
def nbf : Nat → Nat → List Nat
  | 0, x => [x]
  | f + 1, x => if x ≤ 127 then [x] else (x % 128 + 128) :: nbf f (x / 128)
def nb (x : Nat) : List Nat := nbf 9 x
theorem nbf_end {f x : Nat} (h : x ≤ 127) : nbf f x = [x] := by
  cases f with
  | zero => rfl
  | succ f => exact if_pos h
theorem nbf_s {f x : Nat} (h : ¬ x ≤ 127) : nbf (f + 1) x = (x % 128 + 128) :: nbf f (x / 128) := if_neg h
theorem and127 {x : Nat} (h : x < 2 ^ 63) : ((lN x &&& (127 : Int64))).toInt32 = nI (x % 128) := by
  have : lN x &&& (127 : Int64) = lN (x % 128) := wb_mask (k := 7) (by omega) (by decide)
  rw [this, lN_i]
theorem or128 : ∀ a, a < 128 → nI a ||| (128 : Int32) = nI (a + 128) := by decide +kernel
theorem sp_appendNumber {f : Nat → Int32} {len : Int32} {L : List Nat} {x : Nat} {Q : Int32 → (Nat → Int32) → Int32 → Prop} (h : Buf id f len L) (hx : x < 2 ^ 63) (h1 : L.length + (nb x).length ≤ 400 → ∀ f' len', Buf id f' len' (L ++ nb x) → Q 1 f' len') (h0 : ¬ L.length + (nb x).length ≤ 400 → ∀ f' len', Q 0 f' len') : wp_X5_appendNumber (lN x) f len Q := by
  unfold wp_X5_appendNumber
  intro x3 hx3 x5 hx5
  rw [hx3, hx5]
  refine lp4 (fun n a b c e => lp_X5_appendNumber_5 Q n a b c e) (fun a b c e => ∃ y M, y < 2 ^ (63 - 7 * M.length) ∧ M.length ≤ 8 ∧ a = lN y ∧ b = nI (M.length + 1) ∧ nb x = M ++ nbf (9 - M.length) y ∧ Buf id c e (L ++ M)) (fun _ b _ _ => 20 - b.toInt.toNat) ?_ _ _ _ _ ⟨x, [], hx, by decide, rfl, rfl, rfl, by rw [List.append_nil]; exact h⟩
  intro n a b c e hI hs
  obtain ⟨y, M, hy, hM, ea, eb, ex, hB⟩ := hI
  subst ea eb
  have hy63 : y < 2 ^ 63 := Nat.lt_of_lt_of_le hy (Nat.pow_le_pow_right (by decide) (by omega))
  show bod_X5_appendNumber_5 Q (fun v0 v1 v2 v3 => lp_X5_appendNumber_5 Q n v0 v1 v2 v3) (lN y) (nI (M.length + 1)) c e
  unfold bod_X5_appendNumber_5
  have hlm : (L ++ M).length = L.length + M.length := List.length_append
  have last : y ≤ 127 → blk_X5_appendNumber_50 Q (lN y) c e := by
    intro hle
    have e1 : nb x = M ++ [y] := by rw [ex, nbf_end hle]
    have e2 : (nb x).length = M.length + 1 := by rw [e1, List.length_append]; rfl
    unfold blk_X5_appendNumber_50
    rw [and127 hy63, Nat.mod_eq_of_lt (by omega)]
    refine sp_app1 hB (by omega) (fun g f' len' hB2 => ⟨Or.inr rfl, h1 (by omega) f' len' ?_⟩) (fun g f' len' => ⟨Or.inl rfl, h0 (by omega) f' len'⟩)
    rw [e1, ← List.append_assoc]
    exact hB2
  refine q_if (nI_leI (a := 9) (by decide) (by omega)) (fun q => ?_) (fun q => ?_)
  · refine last ?_
    rw [show 63 - 7 * M.length = 7 by omega] at hy
    have : (2 : Nat) ^ 7 = 128 := by decide
    omega
  refine q_if (pk_lLE (b := 127) hy63 (by decide)) (fun q2 => last q2) (fun q2 => ?_)
  have e1 : nb x = (M ++ [y % 128 + 128]) ++ nbf (9 - (M.length + 1)) (y / 128) := by
    rw [ex, show 9 - M.length = 9 - (M.length + 1) + 1 by omega, nbf_s q2, List.append_assoc]
    rfl
  have e2 : (nb x).length ≥ M.length + 1 := by
    rw [e1, List.length_append, List.length_append]
    show M.length + 1 + _ ≥ _
    omega
  rw [and127 hy63, show nI (y % 128) + (128 : Int32) = nI (y % 128 + 128) from nI_add _ 128]
  refine sp_app1 hB (by omega) (fun g f' len' hB2 => q1a ?_) (fun g f' len' => q0a (h0 (by omega) f' len'))
  intro x3b hx3b x5b hx5b
  have e3 : x3b = lN (y / 128) := hx3b.trans (lN_shr (k := 7) hy63 (by decide))
  rw [e3, hx5b, nI_1]
  have e4 : (M ++ [y % 128 + 128]).length = M.length + 1 := by rw [List.length_append]; rfl
  refine hs _ _ _ _ ⟨y / 128, M ++ [y % 128 + 128], ?_, by omega, rfl, by rw [e4], by rw [e4]; exact e1, by rw [← List.append_assoc]; exact hB2⟩ ?_
  · rw [e4, Nat.div_lt_iff_lt_mul (by decide)]
    have : 2 ^ (63 - 7 * (M.length + 1)) * 128 = 2 ^ (63 - 7 * M.length) := by
      rw [show 63 - 7 * M.length = 63 - 7 * (M.length + 1) + 7 by omega, Nat.pow_add]
    omega
  · rw [nI_toInt (by omega), nI_toInt (by omega)]
    omega
theorem sp_putsNumber {f : Nat → Int32} {len : Int32} {L : List Nat} {x : Nat} {Q : Int32 → (Nat → Int32) → Int32 → Prop} (h : Buf byc f len L) (hx : x < 2 ^ 63) (h1 : L.length + (nb x).length ≤ 400 → ∀ f' len', Buf byc f' len' (L ++ nb x) → Q 1 f' len') (h0 : ¬ L.length + (nb x).length ≤ 400 → ∀ f' len', Q 0 f' len') : wp_X8_putsNumber (lN x) f len Q := by
  unfold wp_X8_putsNumber
  intro x3 hx3
  rw [hx3]
  refine lp3 (fun n a c e => lp_X8_putsNumber_2 Q n a c e) (fun a c e => ∃ y M, y < 2 ^ (63 - 7 * M.length) ∧ M.length ≤ 8 ∧ a = lN y ∧ nb x = M ++ nbf (9 - M.length) y ∧ Buf byc c e (L ++ M)) (fun a _ _ => a.toInt.toNat) ?_ _ _ _ ⟨x, [], hx, by decide, rfl, rfl, by rw [List.append_nil]; exact h⟩
  intro n a c e hI hs
  obtain ⟨y, M, hy, hM, ea, ex, hB⟩ := hI
  subst ea
  have hy63 : y < 2 ^ 63 := Nat.lt_of_lt_of_le hy (Nat.pow_le_pow_right (by decide) (by omega))
  show bod_X8_putsNumber_2 Q (fun v0 v1 v2 => lp_X8_putsNumber_2 Q n v0 v1 v2) (lN y) c e
  unfold bod_X8_putsNumber_2
  have hlm : (L ++ M).length = L.length + M.length := List.length_append
  refine q_if (pk_lLE (b := 127) hy63 (by decide)) (fun hle => ?_) (fun q2 => ?_)
  · have e1 : nb x = M ++ [y] := by rw [ex, nbf_end hle]
    have e2 : (nb x).length = M.length + 1 := by rw [e1, List.length_append]; rfl
    refine sp_puts hB (by omega) (lN_i y) (fun g f' len' hB2 => ⟨Or.inr rfl, h1 (by omega) f' len' ?_⟩) (fun g f' len' => ⟨Or.inl rfl, h0 (by omega) f' len'⟩)
    rw [e1, ← List.append_assoc]
    exact hB2
  have hM7 : M.length ≤ 7 := by
    rcases Nat.lt_or_ge M.length 8 with g | g
    · omega
    · rw [show 63 - 7 * M.length = 7 by omega] at hy
      have : (2 : Nat) ^ 7 = 128 := by decide
      omega
  have e1 : nb x = (M ++ [y % 128 + 128]) ++ nbf (9 - (M.length + 1)) (y / 128) := by
    rw [ex, show 9 - M.length = 9 - (M.length + 1) + 1 by omega, nbf_s q2, List.append_assoc]
    rfl
  have e2 : (nb x).length ≥ M.length + 1 := by
    rw [e1, List.length_append, List.length_append]
    show M.length + 1 + _ ≥ _
    omega
  rw [and127 hy63, or128 _ (Nat.mod_lt _ (by decide))]
  refine sp_puts hB (b := y % 128 + 128) (by omega) rfl (fun g f' len' hB2 => q1a ?_) (fun g f' len' => q0a (h0 (by omega) f' len'))
  intro x3b hx3b
  have e3 : x3b = lN (y / 128) := hx3b.trans (lN_shr (k := 7) hy63 (by decide))
  rw [e3]
  have e4 : (M ++ [y % 128 + 128]).length = M.length + 1 := by rw [List.length_append]; rfl
  refine hs _ _ _ ⟨y / 128, M ++ [y % 128 + 128], ?_, by omega, rfl, by rw [e4]; exact e1, by rw [← List.append_assoc]; exact hB2⟩ ?_
  · rw [e4, Nat.div_lt_iff_lt_mul (by decide)]
    have : 2 ^ (63 - 7 * (M.length + 1)) * 128 = 2 ^ (63 - 7 * M.length) := by
      rw [show 63 - 7 * M.length = 63 - 7 * (M.length + 1) + 7 by omega, Nat.pow_add]
    omega
  · rw [pk_lT (by omega), pk_lT hy63]
    omega
/-! ===== packing ===== -/
def pbz (u : Nat → Nat) : Nat → Nat
  | 0 => 0
  | c + 1 => if u c = 0 then pbz u c + 1 else 0
def pbw (z v : Nat) : List Nat := (if z = 0 then [] else nb (2 * z - 1)) ++ nb (2 * v)
def pbl (u : Nat → Nat) : Nat → List Nat
  | 0 => []
  | c + 1 => if u c = 0 then pbl u c else pbl u c ++ pbw (pbz u c) (u c)
theorem pbz_le (u : Nat → Nat) : ∀ c, pbz u c ≤ c
  | 0 => Nat.le_refl _
  | c + 1 => by
    have := pbz_le u c
    unfold pbz
    split <;> omega
theorem pbl_len (u : Nat → Nat) (a : Nat) : ∀ n, (pbl u a).length ≤ (pbl u (a + n)).length
  | 0 => Nat.le_refl _
  | n + 1 => by
    have h := pbl_len u a n
    rw [← Nat.add_assoc]
    show _ ≤ (if u (a + n) = 0 then pbl u (a + n) else pbl u (a + n) ++ pbw (pbz u (a + n)) (u (a + n))).length
    split
    · exact h
    · rw [List.length_append]; omega
theorem pbl_le {u : Nat → Nat} {a b : Nat} (h : a ≤ b) : (pbl u a).length ≤ (pbl u b).length := by
  have := pbl_len u a (b - a)
  rw [show a + (b - a) = b by omega] at this
  exact this
def hdB (so d h : Nat) : List Nat := [165] ++ [so] ++ [d] ++ nb h
def Pkd (so d h : Nat) (u : Nat → Nat) (c : Nat) : List Nat := hdB so d h ++ pbl u c
theorem LastIs_ex (u : Nat → Nat) : ∀ N, ∃ L, LastIs u N L
  | 0 => ⟨-1, Or.inl ⟨rfl, fun j hj => absurd hj (by omega)⟩⟩
  | N + 1 => by
    by_cases q : u N = 0
    · obtain ⟨L, h⟩ := LastIs_ex u N
      refine ⟨L, ?_⟩
      rcases h with ⟨e, h⟩ | ⟨s, hs, e, h1, h2⟩
      · refine Or.inl ⟨e, fun j hj => ?_⟩
        rcases Nat.lt_or_ge j N with g | g
        · exact h j g
        · rw [show j = N by omega]; exact q
      · refine Or.inr ⟨s, by omega, e, h1, fun j h3 h4 => ?_⟩
        rcases Nat.lt_or_ge j N with g | g
        · exact h2 j h3 g
        · rw [show j = N by omega]; exact q
    · exact ⟨nI N, Or.inr ⟨N, by omega, rfl, q, fun j h1 h2 => absurd h1 (by omega)⟩⟩
theorem LastIs_c {u : Nat → Nat} {N : Nat} {L : Int32} (hN : N < 2 ^ 31) (h : LastIs u N L) : ∃ c, c ≤ N ∧ L.toInt = (c : Int) - 1 := by
  rcases h with ⟨e, h⟩ | ⟨s, hs, e, h1, h2⟩
  · exact ⟨0, by omega, by rw [e]; decide⟩
  · exact ⟨s + 1, by omega, by rw [e, nI_toInt (by omega)]; omega⟩
theorem sp_packTo {so d h P c : Nat} {srt di slots pages L : Int32} {hi : Int64} {U : Nat → Int64} {K : Nat → Int32} {f0 : Nat → Int32} {u k : Nat → Nat} {Q : Int32 → (Nat → Int32) → Int32 → Prop} (hso : so < 2) (hd : d = 1 ∨ d = 2) (hh : h ≤ 1000000000000) (e0 : srt = nI so) (ed : di = nI d) (eh : hi = lN h) (hP : P ≤ 271) (hN : Slot d h + 1 ≤ 16 * P) (hN2 : 16 * P < Slot d h + 1 + 16) (es : slots = nI (Slot d h + 1)) (ep : pages = nI P) (hu : ∀ j, j < 16 * P → U j = lN (u j)) (hb : ∀ j, u j ≤ 1000000000000000) (hk : ∀ p, p < P → K p = nI (k p)) (hk31 : ∀ p, k p < 2 ^ 31) (hz : ∀ p, k p = 0 → ∀ i, i < 16 → u (16 * p + i) = 0) (hL : LastIs u (Slot d h + 1) L) (hc : c ≤ Slot d h + 1) (eL : L.toInt = (c : Int) - 1)
    (q1 : (Pkd so d h u c).length ≤ 400 → ∀ f' len', Buf id f' len' (Pkd so d h u c) → Q 1 f' len') (q0 : ¬ (Pkd so d h u c).length ≤ 400 → ∀ f' len', Q 0 f' len') : wp_X1_packTo srt di slots pages hi U K f0 (nI 0) Q := by
  subst e0 ed eh es ep
  have hPl : (Pkd so d h u c).length = (hdB so d h).length + (pbl u c).length := List.length_append
  have hHl : (hdB so d h).length = 3 + (nb h).length := by
    unfold hdB
    rw [List.length_append]
    rfl
  have bad : ¬ (Pkd so d h u c).length ≤ 400 → ∀ f' len', blk_X1_packTo_48 (nI so) (nI d) (nI (Slot d h + 1)) (nI P) (lN h) U K Q (0 : Int32) f' len' := by
    intro hn f' len'
    unfold blk_X1_packTo_48
    intro x2 hx2 x3 hx3
    refine sp_lastUsed hP hN hN2 rfl rfl hu hb hk hk31 hz (fun L2 hL2 => ?_)
    intro x5 hx5 x6 hx6
    rw [hx2]
    refine ⟨1, ?_⟩
    show bod_X1_packTo_60 (nI so) (nI d) (nI (Slot d h + 1)) (nI P) (lN h) U K Q x5 _ (0 : Int32) x3 x6 f' len'
    unfold bod_X1_packTo_60
    exact ⟨fun _ => ⟨Or.inl rfl, q0 hn _ _⟩, fun _ => ⟨fun _ => ⟨Or.inl rfl, q0 hn _ _⟩, fun ne => absurd rfl ne⟩⟩
  unfold wp_X1_packTo
  have bad2 : ¬ (Pkd so d h u c).length ≤ 400 → ∀ f' len', blk_X1_packTo_47 (nI so) (nI d) (nI (Slot d h + 1)) (nI P) (lN h) U K Q f' len' := fun hn f' len' => bad hn f' len'
  refine sp_app1 (b := 165) Buf_0 (by decide) (fun g0 f0 l0 B0 => q1b ?_) (fun g f' len' => absurd (by decide) g)
  refine sp_app1 B0 (by omega) (fun g1 f1 l1 B1 => q1b ?_) (fun g f' len' => absurd (by decide) g)
  refine sp_app1 B1 (by omega) (fun g2 f2 l2 B2 => q1b ?_) (fun g f' len' => absurd (show 3 ≤ 400 by decide) g)
  refine sp_appendNumber B2 (x := h) (by omega) (fun g3 f3 l3 B3 => q1b ?_) (fun g f' len' => q0b (bad2 (by
    have : ([] ++ [165] ++ [so] ++ [d] : List Nat).length = 3 := rfl
    omega) f' len'))
  have B3 : Buf id f3 l3 (hdB so d h ++ pbl u 0) := by
    show Buf id f3 l3 (hdB so d h ++ [])
    rw [List.append_nil]
    exact B3
  unfold blk_X1_packTo_48
  intro x2 hx2 x3 hx3
  rw [hx2, hx3]
  refine sp_lastUsed hP hN hN2 rfl rfl hu hb hk hk31 hz (fun L2 hL2 => ?_)
  rw [LastIs_u hL2 hL]
  intro x5 hx5 x6 hx6
  rw [hx5, hx6]
  generalize eN : Slot d h + 1 = N at *
  refine lp5 (fun n a b c e f => lp_X1_packTo_60 (nI so) (nI d) (nI N) (nI P) (lN h) U K Q L n a b c e f) (fun a b x f len => (a = 0 ∧ ¬ (Pkd so d h u c).length ≤ 400 ∧ ∃ z, z ≤ c ∧ x = nI z) ∨ ∃ z, z ≤ c ∧ a = 1 ∧ b = lN (pbz u z) ∧ x = nI z ∧ Buf id f len (hdB so d h ++ pbl u z)) (fun _ _ x _ _ => c + 1 - x.toInt.toNat) ?_ _ _ _ _ _ (Or.inr ⟨0, by omega, rfl, rfl, rfl, B3⟩)
  intro n a b x f len hI hs
  show bod_X1_packTo_60 (nI so) (nI d) (nI N) (nI P) (lN h) U K Q L (fun v0 v1 v2 v3 v4 => lp_X1_packTo_60 (nI so) (nI d) (nI N) (nI P) (lN h) U K Q L n v0 v1 v2 v3 v4) a b x f len
  unfold bod_X1_packTo_60
  rcases hI with ⟨ea, hn, z, hz2, ex⟩ | ⟨z, hz2, ea, eb, ex, hB⟩
  · subst ea
    exact ⟨fun _ => ⟨Or.inl rfl, q0 hn _ _⟩, fun _ => ⟨fun _ => ⟨Or.inl rfl, q0 hn _ _⟩, fun ne => absurd rfl ne⟩⟩
  subst ea eb ex
  refine q_if (fa_lt _ _) (fun q => ?_) (fun q => ?_)
  · rw [eL, nI_toInt (by omega)] at q
    have ez : z = c := by omega
    subst ez
    exact ⟨Or.inr rfl, q1 hB.2.1 _ _ hB⟩
  rw [eL, nI_toInt (by omega)] at q
  have hzc : z < c := by omega
  have hbz := hb z
  have hpz := pbz_le u z
  refine q1b ?_
  refine sp_unitsOf (by omega) ?_
  intro x7 hx7
  rw [hx7, hu z (by omega)]
  have mono : (pbl u (z + 1)).length ≤ (pbl u c).length := pbl_le (by omega)
  have hBl : (hdB so d h ++ pbl u z).length = (hdB so d h).length + (pbl u z).length := List.length_append
  refine q_fi (lN_z (by omega)) (fun q2 => ?_) (fun q2 => ?_)
  · intro x3b hx3b
    unfold blk_X1_packTo_134
    intro x6b hx6b
    rw [hx3b, hx6b, nI_1, lN_1]
    have e1 : pbz u (z + 1) = pbz u z + 1 := if_pos q2
    have e2 : pbl u (z + 1) = pbl u z := if_pos q2
    refine hs _ _ _ _ _ (Or.inr ⟨z + 1, by omega, rfl, by rw [e1], rfl, by rw [e2]; exact hB⟩) ?_
    rw [nI_toInt (by omega), nI_toInt (by omega)]
    omega
  have e1 : pbz u (z + 1) = 0 := if_neg q2
  have e2 : pbl u (z + 1) = pbl u z ++ pbw (pbz u z) (u z) := if_neg q2
  have e3 : (pbl u (z + 1)).length = (pbl u z).length + (pbw (pbz u z) (u z)).length := by rw [e2, List.length_append]
  have no : ∀ f' len', ¬ (Pkd so d h u c).length ≤ 400 → blk_X1_packTo_130 (nI so) (nI d) (nI N) (nI P) (lN h) U K (fun v0 v1 v2 v3 v4 => lp_X1_packTo_60 (nI so) (nI d) (nI N) (nI P) (lN h) U K Q L n v0 v1 v2 v3 v4) Q L (nI z) f' len' := by
    intro f' len' hn
    unfold blk_X1_packTo_130 blk_X1_packTo_131
    intro x2 hx2 x3b hx3b
    unfold blk_X1_packTo_134
    intro x6b hx6b
    rw [hx6b, nI_1, hx2]
    refine hs _ _ _ _ _ (Or.inl ⟨rfl, hn, z + 1, by omega, rfl⟩) ?_
    rw [nI_toInt (by omega), nI_toInt (by omega)]
    omega
  have two : ∀ f' len' M, Buf id f' len' (hdB so d h ++ pbl u z ++ M) → pbw (pbz u z) (u z) = M ++ nb (2 * u z) → blk_X1_packTo_113 (nI so) (nI d) (nI N) (nI P) (lN h) U K (fun v0 v1 v2 v3 v4 => lp_X1_packTo_60 (nI so) (nI d) (nI N) (nI P) (lN h) U K Q L n v0 v1 v2 v3 v4) Q L (nI z) (lN (u z)) f' len' := by
    intro f' len' M hB2 eM
    have e4 : (pbw (pbz u z) (u z)).length = M.length + (nb (2 * u z)).length := by rw [eM, List.length_append]
    have e5 : (hdB so d h ++ pbl u z ++ M).length = (hdB so d h).length + (pbl u z).length + M.length := by rw [List.length_append, hBl]
    unfold blk_X1_packTo_113
    rw [show (2 : Int64) = lN 2 from rfl, lN_mul]
    refine sp_appendNumber hB2 (by omega) (fun g f2 l2 hB3 => q1b ?_) (fun g f2 l2 => q0b (no f2 l2 (by omega)))
    unfold blk_X1_packTo_131
    intro x2 hx2 x3b hx3b
    unfold blk_X1_packTo_134
    intro x6b hx6b
    rw [hx6b, nI_1, hx2, hx3b]
    refine hs _ _ _ _ _ (Or.inr ⟨z + 1, by omega, rfl, by rw [e1]; rfl, rfl, ?_⟩) ?_
    · rw [e2, eM, ← List.append_assoc, ← List.append_assoc]
      exact hB3
    · rw [nI_toInt (by omega), nI_toInt (by omega)]
      omega
  refine q_if (lN_z (by omega)) (fun q3 => ?_) (fun q3 => ?_)
  · refine two _ _ [] (by rw [List.append_nil]; exact hB) ?_
    unfold pbw
    rw [if_pos q3]
  · rw [show (2 : Int64) = lN 2 from rfl, lN_mul, show (1 : Int64) = lN 1 from rfl, lN_sub (by omega)]
    have e4 : pbw (pbz u z) (u z) = nb (2 * pbz u z - 1) ++ nb (2 * u z) := by unfold pbw; rw [if_neg q3]
    have e5 : (pbw (pbz u z) (u z)).length = (nb (2 * pbz u z - 1)).length + (nb (2 * u z)).length := by rw [e4, List.length_append]
    exact sp_appendNumber hB (by omega) (fun g f2 l2 hB3 => q1b (two _ _ _ hB3 e4)) (fun g f2 l2 => q0b (no f2 l2 (by omega)))
theorem sp_packs {r so d h c : Nat} {t_set : Nat → Int32} {t_highest t_units : Nat → Int64} {f0 : Nat → Int32} {m0 L : Int32} {u : Nat → Nat} {Q : Int32 → (Nat → Int32) → Int32 → Prop} (hr : r < 4) (hso : so < 2) (hd : d = 1 ∨ d = 2) (hh : h ≤ 1000000000000) (e0 : t_set (4 * r + 0) = nI so) (ed : t_set (4 * r + 1) = nI d) (es : t_set (4 * r + 2) = nI (Slot d h + 1)) (eh : t_highest r = lN h) (hu : ∀ j, j < Slot d h + 1 → t_units (4352 * r + j) = lN (u j)) (hb : ∀ j, u j ≤ 1000000000000000) (hL : LastIs u (Slot d h + 1) L) (hc : c ≤ Slot d h + 1) (eL : L.toInt = (c : Int) - 1)
    (q1 : (Pkd so d h u c).length ≤ 400 → ∀ f' len', Buf byc f' len' (Pkd so d h u c) → Q 1 f' len') (q0 : ¬ (Pkd so d h u c).length ≤ 400 → ∀ f' len', Q 0 f' len') : wp_X8_packs (nI r) t_set t_highest t_units f0 m0 Q := by
  have ⟨s1, _⟩ := Slot_le hd hh
  have hPl : (Pkd so d h u c).length = (hdB so d h).length + (pbl u c).length := List.length_append
  have hHl : (hdB so d h).length = 3 + (nb h).length := by
    unfold hdB
    rw [List.length_append]
    rfl
  unfold wp_X8_packs
  intro m hm
  rw [hm]
  refine sp_puts (b := 165) (L := []) Buf_0 (by decide) rfl (fun g0 f0 l0 B0 => q1b ?_) (fun g f' len' => absurd (by decide) g)
  refine sp_of (c := 0) hr (by decide) ?_
  refine sp_puts B0 (by omega) e0 (fun g1 f1 l1 B1 => q1b ?_) (fun g f' len' => absurd (by decide) g)
  refine sp_of (c := 1) hr (by decide) ?_
  refine sp_puts B1 (by omega) ed (fun g2 f2 l2 B2 => q1b ?_) (fun g f' len' => absurd (show 3 ≤ 400 by decide) g)
  refine q_in hr (by decide) ?_
  rw [nI_clamp (by omega), eh]
  refine sp_putsNumber B2 (x := h) (by omega) (fun g3 f3 l3 B3 => q1a ?_) (fun g f' len' => q0a (q0 (by
    have : ([] ++ [165] ++ [so] ++ [d] : List Nat).length = 3 := rfl
    omega) f' len'))
  have B3 : Buf byc f3 l3 (hdB so d h ++ pbl u 0) := by
    show Buf byc f3 l3 (hdB so d h ++ [])
    rw [List.append_nil]
    exact B3
  refine sp_lastSlot hr (by omega) es hu hb (fun L2 hL2 => ?_)
  rw [LastIs_u hL2 hL]
  intro x2 hx2 x3 hx3 x4 hx4
  rw [hx2, hx3, hx4]
  generalize eN : Slot d h + 1 = N at *
  refine lp4 (fun n a b c e => lp_X8_packs_67 t_set t_highest t_units Q (nI r) L n a b c e) (fun b x f len => ∃ z, z ≤ c ∧ b = nI (pbz u z) ∧ x = nI z ∧ Buf byc f len (hdB so d h ++ pbl u z)) (fun _ x _ _ => c - x.toInt.toNat) ?_ _ _ _ _ ⟨0, by omega, rfl, rfl, B3⟩
  intro n b x f len hI hs
  obtain ⟨z, hz2, eb, ex, hB⟩ := hI
  subst eb ex
  show bod_X8_packs_67 t_set t_highest t_units Q (nI r) L (fun v0 v1 v2 v3 => lp_X8_packs_67 t_set t_highest t_units Q (nI r) L n v0 v1 v2 v3) (nI (pbz u z)) (nI z) f len
  unfold bod_X8_packs_67
  refine q_if (fa_lt _ _) (fun q => ?_) (fun q => ?_)
  · rw [eL, nI_toInt (by omega)] at q
    have ez : z = c := by omega
    subst ez
    exact q1 hB.2.1 _ _ hB
  rw [eL, nI_toInt (by omega)] at q
  have hzc : z < c := by omega
  have hbz := hb z
  have hpz := pbz_le u z
  rw [show (4352 : Int32) * nI r + nI z = nI (4352 * r + z) from ix_at 4352 r z]
  refine q_in (by omega) (by decide) ?_
  intro x5 hx5
  rw [nI_clamp (by omega), hu z (by omega)] at hx5
  rw [hx5]
  have mono : (pbl u (z + 1)).length ≤ (pbl u c).length := pbl_le (by omega)
  have hBl : (hdB so d h ++ pbl u z).length = (hdB so d h).length + (pbl u z).length := List.length_append
  refine q_fi (lN_z (by omega)) (fun q2 => ?_) (fun q2 => ?_)
  · intro x3b hx3b
    unfold blk_X8_packs_139
    intro x6b hx6b
    rw [hx3b, hx6b, nI_1, nI_1]
    have e1 : pbz u (z + 1) = pbz u z + 1 := if_pos q2
    have e2 : pbl u (z + 1) = pbl u z := if_pos q2
    refine hs _ _ _ _ ⟨z + 1, by omega, by rw [e1], rfl, by rw [e2]; exact hB⟩ ?_
    rw [nI_toInt (by omega), nI_toInt (by omega)]
    omega
  have e1 : pbz u (z + 1) = 0 := if_neg q2
  have e2 : pbl u (z + 1) = pbl u z ++ pbw (pbz u z) (u z) := if_neg q2
  have e3 : (pbl u (z + 1)).length = (pbl u z).length + (pbw (pbz u z) (u z)).length := by rw [e2, List.length_append]
  have two : ∀ f' len' M, Buf byc f' len' (hdB so d h ++ pbl u z ++ M) → pbw (pbz u z) (u z) = M ++ nb (2 * u z) → blk_X8_packs_122 t_set t_highest t_units (fun v0 v1 v2 v3 => lp_X8_packs_67 t_set t_highest t_units Q (nI r) L n v0 v1 v2 v3) Q (nI r) L (nI z) (lN (u z)) f' len' := by
    intro f' len' M hB2 eM
    have e4 : (pbw (pbz u z) (u z)).length = M.length + (nb (2 * u z)).length := by rw [eM, List.length_append]
    have e5 : (hdB so d h ++ pbl u z ++ M).length = (hdB so d h).length + (pbl u z).length + M.length := by rw [List.length_append, hBl]
    unfold blk_X8_packs_122
    intro x3b hx3b
    rw [hx3b, show (2 : Int64) = lN 2 from rfl, lN_mul]
    refine sp_putsNumber hB2 (by omega) (fun g f2 l2 hB3 => q1a ?_) (fun g f2 l2 => q0a (q0 (by omega) f2 l2))
    unfold blk_X8_packs_139
    intro x6b hx6b
    rw [hx6b, nI_1]
    refine hs _ _ _ _ ⟨z + 1, by omega, by rw [e1]; rfl, rfl, ?_⟩ ?_
    · rw [e2, eM, ← List.append_assoc, ← List.append_assoc]
      exact hB3
    · rw [nI_toInt (by omega), nI_toInt (by omega)]
      omega
  refine q_if (nI_leI (b := 0) (by omega) (by decide)) (fun q3 => ?_) (fun q3 => ?_)
  · refine two _ _ [] (by rw [List.append_nil]; exact hB) ?_
    unfold pbw
    rw [if_pos (by omega)]
  · rw [nI_l (by omega), show (2 : Int64) = lN 2 from rfl, lN_mul, show (1 : Int64) = lN 1 from rfl, lN_sub (by omega)]
    have e4 : pbw (pbz u z) (u z) = nb (2 * pbz u z - 1) ++ nb (2 * u z) := by unfold pbw; rw [if_neg (by omega)]
    have e5 : (pbw (pbz u z) (u z)).length = (nb (2 * pbz u z - 1)).length + (nb (2 * u z)).length := by rw [e4, List.length_append]
    exact sp_putsNumber hB (by omega) (fun g f2 l2 hB3 => q1a (two _ _ _ hB3 e4)) (fun g f2 l2 => q0a (q0 (by omega) f2 l2))
theorem clamp4 {n : Nat} (h : n ≤ 400) : (if (0 : Int32) < (if (400 : Int32) < nI n then (400 : Int32) else nI n) then (if (400 : Int32) < nI n then (400 : Int32) else nI n) else (0 : Int32)) = nI n := by
  have h1 : ¬ (400 : Int32) < nI n := fun q => by
    have := (nI_ltI (a := 400) (b := n) (by decide) (by omega)).mp q
    omega
  rw [if_neg h1]
  exact nI_max0 (by omega)
theorem sp_X5_become {tb ob : Nat → Int32} {tl : Int32} {n : Nat} {Q : (Nat → Int32) → Int32 → Prop} (hn : n ≤ 400) (h : ∀ f', (∀ k, k < n → f' k = ob k) → Q f' (nI n)) : wp_X5_become tb tl ob (nI n) Q := by
  unfold wp_X5_become
  intro x hx
  rw [hx, clamp4 hn, nI_clamp (by omega), show ((0 : Int32)).toNatClampNeg = 0 from by decide]
  refine ⟨n00, n00, nI_nneg (by omega), by omega, by omega, ?_⟩
  intro f hf
  refine h f (fun k hk => ?_)
  rw [hf, pk_cpy_in (by omega) (by omega)]
  congr 1
  omega
theorem stp_pack : Stp_pack Inv := by
  unfold Stp_pack
  intro p0 active rests writers tbytes tlen dbytes dlen next known rec m_made m_sort m_digits m_slots m_pages m_highest m_units m_kinds m_rows m_marks q_active q_rests q_writers l_made l_sort l_digits l_slots l_pages l_highest l_units l_kinds l_rows l_marks t_tape t_taped t_set t_highest t_units t_kinds t_sideKind t_side t_active t_rests t_writes t_more t_packed t_packedMany t_at t_wrong t_number t_readSort t_readDigits t_readHighest t_wasSet t_wasHighest t_wasUnits t_wasKinds t_wasSideKind t_wasSide t_undone hI
  obtain ⟨hT, hP, hO, hL, hH⟩ := id hI
  rcases made_cases l_made l_sort l_digits l_slots l_pages l_highest l_units l_kinds l_rows l_marks t_set t_highest t_units t_kinds t_sideKind t_side hL p0 with ⟨r, hr, e, so, d, h, u, k, rr, m, hA, hC, hM⟩ | ho
  · subst e
    obtain ⟨hso, hd, hh1, hh2, hu, hk, hrr, hm, hm0⟩ := id hA
    obtain ⟨c_made, c_sort, c_dig, c_slots, c_pages, c_high, c_u, c_k, c_r, c_m⟩ := id hC
    obtain ⟨v_sort, v_dig, v_slots, v_made, v_high, v_u, v_k, v_r, v_m⟩ := id hM
    have ⟨b1, b2, b3, b4⟩ := PG_b hd hh2
    have v_sort : t_set (4 * r + 0) = nI so := v_sort
    have v_dig : t_set (4 * r + 1) = nI d := v_dig
    have v_slots : t_set (4 * r + 2) = nI (Slot d h + 1) := v_slots
    have v_made : t_set (4 * r + 3) = 1 := v_made
    have v_u : ∀ j, j < 16 * PG d h → t_units (4352 * r + j) = lN (u j) := v_u
    have v_k : ∀ p, p < PG d h → t_kinds (272 * r + p) = nI (k p) := v_k
    have v_r : ∀ p, p < PG d h → t_sideKind (272 * r + p) = nI (rr p) := v_r
    have v_m : ∀ j, j < 4352 → t_side (4352 * r + j) = nI (m j) := v_m
    have hk10 : ∀ p, k p ≤ 10 := fun p => KOK_le hso (hk p)
    have hN : Slot d h + 1 ≤ 16 * PG d h := by omega
    have hk31 : ∀ p, k p < 2 ^ 31 := fun p => by have := hk10 p; omega
    have hz : ∀ p, k p = 0 → ∀ i, i < 16 → u (16 * p + i) = 0 := fun p => (hk p).1
    obtain ⟨L, hLL⟩ := LastIs_ex u (Slot d h + 1)
    obtain ⟨c, hc, eL⟩ := LastIs_c (by omega) hLL
    unfold wp_X7_pack wp_X8_pack
    refine sp_madeAt_in hr c_made (opt_s ?_)
    intro dl hdl
    rw [hdl]
    refine sp_packTo (by omega) hd hh2 c_sort c_dig c_high b1 hN (by omega) c_slots c_pages c_u hu c_k hk31 hz hLL hc eL (fun g f' len' hB => q1a ?_) (fun g f' len' => q0a ?_)
    · have hB1 := hB.1
      subst hB1
      refine sp_X5_become g (fun f2 hf2 => ?_)
      refine sp_isMade_in hr v_made (q1a ?_)
      refine sp_packs hr (by omega) hd hh2 v_sort v_dig v_slots v_high (fun j hj => v_u j (by omega)) hu hLL hc eL (fun g2 f3 l3 hB3 => q1a ?_) (fun g2 _ _ => absurd g g2)
      have hB31 := hB3.1
      subst hB31
      generalize Pkd so d h u c = F at *
      intro x2 hx2
      rw [hx2]
      refine lp2 (fun n a b => lp_X8_pack_23 t_set t_highest t_units _ t_taped f3 (nI F.length) n a b) (fun a b => ∃ z, z ≤ F.length ∧ a = nI z ∧ ∀ j, j < z → b j = f3 j) (fun a _ => F.length - a.toInt.toNat) ?_ _ _ ⟨0, by omega, rfl, fun j hj => absurd hj (by omega)⟩
      intro n a b hI2 hs2
      obtain ⟨z, hz2, ea, hj⟩ := hI2
      subst ea
      show bod_X8_pack_23 t_set t_highest t_units _ t_taped f3 (nI F.length) (fun v0 v1 => lp_X8_pack_23 t_set t_highest t_units _ t_taped f3 (nI F.length) n v0 v1) (nI z) b
      unfold bod_X8_pack_23
      refine q_if (nI_leI (by omega) (by omega)) (fun q => ?_) (fun q => ?_)
      · intro y hy
        rw [hy]
        refine ⟨rfl, ⟨F.length, g, rfl, rfl, fun k hk2 => ?_⟩, hP, hO, hL, hH⟩
        refine ⟨gL F k, hB.2.2.1 k, ?_, ?_⟩
        · rw [hf2 k hk2]; exact hB.2.2.2 k hk2
        · rw [hj k (by omega)]; exact hB3.2.2.2 k hk2
      · refine q_in (by omega) (by decide) ?_
        refine q_in (by omega) (by decide) ?_
        intro b2 hb2 x3 hx3
        rw [nI_clamp (by omega)] at hb2
        rw [hx3, nI_1]
        refine hs2 _ _ ⟨z + 1, by omega, rfl, fun j hj2 => ?_⟩ ?_
        · rw [hb2]
          by_cases e : j = z
          · have h9 := hB3.2.2.2 z (by omega)
            rw [e, pk_us, h9]
            exact pk_vb _
          · rw [pk_un e]; exact hj j (by omega)
        · rw [nI_toInt (by omega), nI_toInt (by omega)]
          omega
    · refine sp_isMade_in hr v_made (q1a ?_)
      exact sp_packs hr (by omega) hd hh2 v_sort v_dig v_slots v_high (fun j hj => v_u j (by omega)) hu hLL hc eL (fun g2 _ _ _ => absurd g2 g) (fun g2 _ _ => q0a ⟨rfl, hT, hP, hO, hL, hH⟩)
  · unfold wp_X7_pack
    refine sp_madeAt_out (fun r hr e => (ho r hr e).1) (opt_n ?_)
    unfold wp_X8_pack
    exact sp_isMade_out (fun r hr e => (ho r hr e).2) (q0a ⟨rfl, hI⟩)
