/-! ===== floats and doubles ===== -/
theorem f64_t : FP.Core.b64.tails = 4503599627370496 := by decide +kernel
theorem f64_x : FP.Core.b64.exps = 2048 := by decide +kernel
theorem f64_q : FP.Core.b64.qmin = -1074 := by decide +kernel
theorem f64_m : FP.Core.b64.qmax = 971 := by decide +kernel
theorem f64_p : 2 ^ FP.Core.b64.p = 9007199254740992 := by decide +kernel
theorem f32_t : FP.Core.b32.tails = 8388608 := by decide +kernel
theorem f32_x : FP.Core.b32.exps = 256 := by decide +kernel
theorem f32_q : FP.Core.b32.qmin = -149 := by decide +kernel
theorem f32_m : FP.Core.b32.qmax = 104 := by decide +kernel
theorem f32_p : 2 ^ FP.Core.b32.p = 16777216 := by decide +kernel
theorem fp_en {f : FP.Core.Fmt} {c E : Nat} {q : Int} (h1 : f.tails ≤ c) (hq : (q - f.qmin).toNat = E) : FP.Core.encode f (.fin false c q) = (E + 1) * f.tails + (c - f.tails) := by
  show (if c < f.tails then FP.Core.assemble f false 0 c else FP.Core.assemble f false ((q - f.qmin).toNat + 1) (c - f.tails)) = _
  rw [if_neg (by omega), hq]
  show ((false.toNat * f.exps + (E + 1)) * f.tails + (c - f.tails)) = _
  rw [show false.toNat = 0 from rfl, Nat.zero_mul, Nat.zero_add]
theorem en64 {c E : Nat} {q : Int} (h1 : 4503599627370496 ≤ c) (hq : q = (E : Int) - 1074) : FP.Core.encode FP.Core.b64 (.fin false c q) = E * 4503599627370496 + c := by
  rw [fp_en (E := E) (by rw [f64_t]; exact h1) (by rw [f64_q, hq]; omega), f64_t]
  omega
theorem en32 {c E : Nat} {q : Int} (h1 : 8388608 ≤ c) (hq : q = (E : Int) - 149) : FP.Core.encode FP.Core.b32 (.fin false c q) = E * 8388608 + c := by
  rw [fp_en (E := E) (by rw [f32_t]; exact h1) (by rw [f32_q, hq]; omega), f32_t]
  omega
theorem de64 {c E : Nat} (h1 : 4503599627370496 ≤ c) (h2 : c < 9007199254740992) (hE : E < 2046) : FP.Core.decode FP.Core.b64 (E * 4503599627370496 + c) = .fin false c ((E : Int) - 1074) := by
  have e1 : FP.Core.fieldE FP.Core.b64 (E * 4503599627370496 + c) = E + 1 := by unfold FP.Core.fieldE; rw [f64_t, f64_x]; omega
  have e2 : FP.Core.fieldT FP.Core.b64 (E * 4503599627370496 + c) = c - 4503599627370496 := by unfold FP.Core.fieldT; rw [f64_t]; omega
  have e3 : FP.Core.fieldS FP.Core.b64 (E * 4503599627370496 + c) = false := by
    unfold FP.Core.fieldS
    rw [f64_t, f64_x, beq_eq_false_iff_ne]
    omega
  unfold FP.Core.decode
  rw [e1, e2, e3, f64_x, f64_t, f64_q, if_neg (by omega), if_neg (by omega), show 4503599627370496 + (c - 4503599627370496) = c by omega, show (-1074 : Int) + (((E + 1 : Nat) : Int) - 1) = (E : Int) - 1074 by omega]
theorem de32 {c E : Nat} (h1 : 8388608 ≤ c) (h2 : c < 16777216) (hE : E < 254) : FP.Core.decode FP.Core.b32 (E * 8388608 + c) = .fin false c ((E : Int) - 149) := by
  have e1 : FP.Core.fieldE FP.Core.b32 (E * 8388608 + c) = E + 1 := by unfold FP.Core.fieldE; rw [f32_t, f32_x]; omega
  have e2 : FP.Core.fieldT FP.Core.b32 (E * 8388608 + c) = c - 8388608 := by unfold FP.Core.fieldT; rw [f32_t]; omega
  have e3 : FP.Core.fieldS FP.Core.b32 (E * 8388608 + c) = false := by
    unfold FP.Core.fieldS
    rw [f32_t, f32_x, beq_eq_false_iff_ne]
    omega
  unfold FP.Core.decode
  rw [e1, e2, e3, f32_x, f32_t, f32_q, if_neg (by omega), if_neg (by omega), show 8388608 + (c - 8388608) = c by omega, show (-149 : Int) + (((E + 1 : Nat) : Int) - 1) = (E : Int) - 149 by omega]
theorem fp_lead1 {u t : Nat} (h1 : 2 ^ t ≤ u) (h2 : u < 2 ^ (t + 1)) : FP.Core.leading u 1 = (t : Int) := by
  have p := Nat.two_pow_pos t
  have e : u.log2 = t := (Nat.log2_eq_iff (by omega)).mpr ⟨h1, h2⟩
  have e1 : (1 : Nat).log2 = 0 := by decide
  unfold FP.Core.leading
  rw [e, e1]
  show (if 1 * 2 ^ ((t : Int) - ((0 : Nat) : Int)).toNat ≤ u * 2 ^ (-((t : Int) - ((0 : Nat) : Int))).toNat then ((t : Int) - ((0 : Nat) : Int)) else ((t : Int) - ((0 : Nat) : Int)) - 1) = (t : Int)
  have e2 : ((t : Int) - ((0 : Nat) : Int)).toNat = t := by omega
  have e3 : (-((t : Int) - ((0 : Nat) : Int))).toNat = 0 := by omega
  rw [e2, e3, if_pos (by rw [Nat.one_mul, Nat.pow_zero, Nat.mul_one]; exact h1)]
  omega
theorem fp_lead0 {c t : Nat} (h1 : 2 ^ t ≤ c) (h2 : c < 2 ^ (t + 1)) : FP.Core.leading c (2 ^ t) = 0 := by
  have p := Nat.two_pow_pos t
  have e : c.log2 = t := (Nat.log2_eq_iff (by omega)).mpr ⟨h1, h2⟩
  have e1 : (2 ^ t : Nat).log2 = t := (Nat.log2_eq_iff (by omega)).mpr ⟨Nat.le_refl _, Nat.pow_lt_pow_right (by decide) (by omega)⟩
  unfold FP.Core.leading
  rw [e, e1]
  show (if 2 ^ t * 2 ^ ((t : Int) - (t : Int)).toNat ≤ c * 2 ^ (-((t : Int) - (t : Int))).toNat then ((t : Int) - (t : Int)) else ((t : Int) - (t : Int)) - 1) = 0
  have e2 : ((t : Int) - (t : Int)).toNat = 0 := by omega
  have e3 : (-((t : Int) - (t : Int))).toNat = 0 := by omega
  rw [e2, e3, if_pos (by rw [Nat.pow_zero, Nat.mul_one, Nat.mul_one]; exact h1)]
  omega
theorem fp_rr {f : FP.Core.Fmt} {num den c : Nat} {e Q : Int} (hn : num ≠ 0) (hq : FP.Core.quantum f num den e = Q) (hu : FP.Core.nearest (FP.Core.unitsNum num e Q) (FP.Core.unitsDen den e Q) = c) (hc : c < 2 ^ f.p) (hQ : Q ≤ f.qmax) : FP.Core.roundRatio f false num den e = .fin false c Q := by
  unfold FP.Core.roundRatio
  rw [if_neg hn, hq]
  unfold FP.Core.roundAt
  rw [hu]
  unfold FP.Core.settle
  rw [if_pos hc]
  unfold FP.Core.bound
  rw [if_pos hQ]
theorem fp_rc {f : FP.Core.Fmt} {num den c : Nat} {e Q : Int} (hn : num ≠ 0) (hq : FP.Core.quantum f num den e = Q) (hu : FP.Core.nearest (FP.Core.unitsNum num e Q) (FP.Core.unitsDen den e Q) = c) (hc : ¬ c < 2 ^ f.p) (hQ : Q + 1 ≤ f.qmax) : FP.Core.roundRatio f false num den e = .fin false f.tails (Q + 1) := by
  unfold FP.Core.roundRatio
  rw [if_neg hn, hq]
  unfold FP.Core.roundAt
  rw [hu]
  unfold FP.Core.settle
  rw [if_neg hc]
  unfold FP.Core.bound
  rw [if_pos hQ]
theorem fp_near {c d : Nat} (hd : 0 < d) : FP.Core.nearest (c * d) d = c := by
  unfold FP.Core.nearest
  rw [Nat.mul_mod_left, if_pos (by omega), Nat.mul_div_cancel _ hd]
theorem fp_near1 (c : Nat) : FP.Core.nearest c 1 = c := by
  have := fp_near (c := c) (d := 1) (by decide)
  rw [Nat.mul_one] at this
  exact this
theorem shl_b {u t k : Nat} (h1 : 2 ^ t ≤ u) (h2 : u < 2 ^ (t + 1)) (ht : t ≤ k) : 2 ^ k ≤ u * 2 ^ (k - t) ∧ u * 2 ^ (k - t) < 2 ^ (k + 1) := by
  have p := Nat.two_pow_pos (k - t)
  have e1 : 2 ^ t * 2 ^ (k - t) = 2 ^ k := by rw [← Nat.pow_add]; congr 1; omega
  have e2 : 2 ^ (t + 1) * 2 ^ (k - t) = 2 ^ (k + 1) := by rw [← Nat.pow_add]; congr 1; omega
  refine ⟨?_, ?_⟩
  · rw [← e1]; exact Nat.mul_le_mul_right _ h1
  · rw [← e2]; exact Nat.mul_lt_mul_of_pos_right h2 p
theorem fromN (f : FP.Core.Fmt) (u : Nat) : FP.Core.fromInt f (u : Int) = FP.Core.encode f (FP.Core.roundRatio f false u 1 0) := by
  show FP.Core.encode f (FP.Core.roundRatio f (decide ((u : Int) < 0)) (u : Int).natAbs 1 0) = _
  rw [show decide ((u : Int) < 0) = false from decide_eq_false (by omega)]
  rfl
theorem rr64 {u t : Nat} (h1 : 2 ^ t ≤ u) (h2 : u < 2 ^ (t + 1)) (ht : t ≤ 52) : FP.Core.roundRatio FP.Core.b64 false u 1 0 = .fin false (u * 2 ^ (52 - t)) ((t : Int) - 52) := by
  have p := Nat.two_pow_pos t
  have ⟨c1, c2⟩ := shl_b h1 h2 ht
  refine fp_rr (by omega) ?_ ?_ ?_ ?_
  · unfold FP.Core.quantum
    rw [f64_q, fp_lead1 h1 h2]
    show max (-1074 : Int) ((t : Int) + 0 - (53 - 1)) = _
    omega
  · have e1 : FP.Core.unitsNum u 0 ((t : Int) - 52) = u * 2 ^ (52 - t) := by
      unfold FP.Core.unitsNum
      rw [show ((0 : Int) - ((t : Int) - 52)).toNat = 52 - t by omega]
    have e2 : FP.Core.unitsDen 1 0 ((t : Int) - 52) = 1 := by
      unfold FP.Core.unitsDen
      rw [show (((t : Int) - 52) - 0).toNat = 0 by omega]
    rw [e1, e2, fp_near1]
  · rw [f64_p]; exact c2
  · rw [f64_m]; omega
theorem rr32 {u t : Nat} (h1 : 2 ^ t ≤ u) (h2 : u < 2 ^ (t + 1)) (ht : t ≤ 23) : FP.Core.roundRatio FP.Core.b32 false u 1 0 = .fin false (u * 2 ^ (23 - t)) ((t : Int) - 23) := by
  have p := Nat.two_pow_pos t
  have ⟨c1, c2⟩ := shl_b h1 h2 ht
  refine fp_rr (by omega) ?_ ?_ ?_ ?_
  · unfold FP.Core.quantum
    rw [f32_q, fp_lead1 h1 h2]
    show max (-149 : Int) ((t : Int) + 0 - (24 - 1)) = _
    omega
  · have e1 : FP.Core.unitsNum u 0 ((t : Int) - 23) = u * 2 ^ (23 - t) := by
      unfold FP.Core.unitsNum
      rw [show ((0 : Int) - ((t : Int) - 23)).toNat = 23 - t by omega]
    have e2 : FP.Core.unitsDen 1 0 ((t : Int) - 23) = 1 := by
      unfold FP.Core.unitsDen
      rw [show (((t : Int) - 23) - 0).toNat = 0 by omega]
    rw [e1, e2, fp_near1]
  · rw [f32_p]; exact c2
  · rw [f32_m]; omega
def tp (u : Nat) : Nat := bl u - 1
def kf32 (u : Nat) : Nat := if tp u ≤ 23 then u * 2 ^ (23 - tp u) else FP.Core.nearest u (2 ^ (tp u - 23))
def fB (u dn : Nat) : Nat := (tp u + 126 - dn) * 8388608 + kf32 u
def dB (u dn : Nat) : Nat := (tp u + 1022 - dn) * 4503599627370496 + u * 2 ^ (52 - tp u)
theorem tp_b {u : Nat} (h0 : u ≠ 0) (h : u ≤ 1000000000000000) : 2 ^ tp u ≤ u ∧ u < 2 ^ (tp u + 1) ∧ tp u ≤ 49 := by
  have a := bl_lt (v := u) (by omega)
  have ⟨b, c⟩ := bl_ge h0 (show u < 2 ^ 64 by omega)
  have e : bl u ≤ 50 := bl_le (by omega) (by decide)
  unfold tp
  refine ⟨c, by rw [show bl u - 1 + 1 = bl u by omega]; exact a, by omega⟩
theorem near_b {u D : Nat} (hD : 0 < D) (h1 : 8388608 * D ≤ u) (h2 : u < 16777216 * D) : 8388608 ≤ FP.Core.nearest u D ∧ FP.Core.nearest u D ≤ 16777216 := by
  have a : 8388608 ≤ u / D := (Nat.le_div_iff_mul_le hD).mpr h1
  have b : u / D < 16777216 := (Nat.div_lt_iff_lt_mul hD).mpr h2
  unfold FP.Core.nearest
  split
  · omega
  · split <;> omega
theorem kf32_b {u : Nat} (h0 : u ≠ 0) (h : u ≤ 1000000000000000) : 8388608 ≤ kf32 u ∧ kf32 u ≤ 16777216 := by
  have ⟨h1, h2, h3⟩ := tp_b h0 h
  unfold kf32
  by_cases q : tp u ≤ 23
  · rw [if_pos q]
    have ⟨a, b⟩ := shl_b h1 h2 q
    exact ⟨a, Nat.le_of_lt b⟩
  · rw [if_neg q]
    have e1 : 2 ^ tp u = 8388608 * 2 ^ (tp u - 23) := by
      show _ = 2 ^ 23 * _
      rw [← Nat.pow_add]; congr 1; omega
    have e2 : 2 ^ (tp u + 1) = 16777216 * 2 ^ (tp u - 23) := by
      show _ = 2 ^ 24 * _
      rw [← Nat.pow_add]; congr 1; omega
    exact near_b (Nat.two_pow_pos _) (by omega) (by omega)
theorem from32 {u : Nat} (h0 : u ≠ 0) (h : u ≤ 1000000000000000) : FP.Core.fromInt FP.Core.b32 (u : Int) = fB u 0 := by
  have ⟨h1, h2, h3⟩ := tp_b h0 h
  have ⟨k1, k2⟩ := kf32_b h0 h
  rw [fromN]
  unfold fB
  by_cases q : tp u ≤ 23
  · have ek : kf32 u = u * 2 ^ (23 - tp u) := if_pos q
    rw [rr32 h1 h2 q, ek, en32 (E := tp u + 126) (by rw [← ek]; exact k1) (by omega)]
    rfl
  · have ek : kf32 u = FP.Core.nearest u (2 ^ (tp u - 23)) := if_neg q
    have hq : FP.Core.quantum FP.Core.b32 u 1 0 = (tp u : Int) - 23 := by
      unfold FP.Core.quantum
      rw [f32_q, fp_lead1 h1 h2]
      show max (-149 : Int) ((tp u : Int) + 0 - (24 - 1)) = _
      omega
    have e1 : FP.Core.unitsNum u 0 ((tp u : Int) - 23) = u := by
      unfold FP.Core.unitsNum
      rw [show ((0 : Int) - ((tp u : Int) - 23)).toNat = 0 by omega, Nat.pow_zero, Nat.mul_one]
    have e2 : FP.Core.unitsDen 1 0 ((tp u : Int) - 23) = 2 ^ (tp u - 23) := by
      unfold FP.Core.unitsDen
      rw [show (((tp u : Int) - 23) - 0).toNat = tp u - 23 by omega, Nat.one_mul]
    have hu : FP.Core.nearest (FP.Core.unitsNum u 0 ((tp u : Int) - 23)) (FP.Core.unitsDen 1 0 ((tp u : Int) - 23)) = kf32 u := by rw [e1, e2, ek]
    by_cases c : kf32 u < 16777216
    · rw [fp_rr h0 hq hu (by rw [f32_p]; exact c) (by rw [f32_m]; omega), en32 (E := tp u + 126) k1 (by omega)]
      rfl
    · rw [fp_rc h0 hq hu (by rw [f32_p]; exact c) (by rw [f32_m]; omega), f32_t, en32 (E := tp u + 127) (by omega) (by omega), show kf32 u = 16777216 by omega]
      omega
theorem from64 {u : Nat} (h0 : u ≠ 0) (h : u ≤ 1000000000000000) : FP.Core.fromInt FP.Core.b64 (u : Int) = dB u 0 := by
  have ⟨h1, h2, h3⟩ := tp_b h0 h
  have ⟨c1, c2⟩ := shl_b h1 h2 (show tp u ≤ 52 by omega)
  rw [fromN, rr64 h1 h2 (by omega), en64 (E := tp u + 1022) c1 (by omega)]
  rfl
theorem fB_b {u dn : Nat} (h0 : u ≠ 0) (h : u ≤ 1000000000000000) (hd : dn ≤ 4) : fB u dn < 2147483648 ∧ fB u dn ≤ 0x7f800000 := by
  have ⟨h1, h2, h3⟩ := tp_b h0 h
  have ⟨k1, k2⟩ := kf32_b h0 h
  unfold fB
  omega
theorem dB_b {u dn : Nat} (h0 : u ≠ 0) (h : u ≤ 1000000000000000) (hd : dn ≤ 4) : dB u dn ≤ 0x7ff0000000000000 := by
  have ⟨h1, h2, h3⟩ := tp_b h0 h
  have ⟨c1, c2⟩ := shl_b h1 h2 (show tp u ≤ 52 by omega)
  have e : (2 : Nat) ^ (52 + 1) = 9007199254740992 := by decide
  rw [e] at c2
  unfold dB
  omega
theorem dB_de {u dn : Nat} (h0 : u ≠ 0) (h : u ≤ 1000000000000000) (hd : dn ≤ 4) : FP.Core.decode FP.Core.b64 (dB u dn) = .fin false (u * 2 ^ (52 - tp u)) ((tp u : Int) - 52 - dn) := by
  have ⟨h1, h2, h3⟩ := tp_b h0 h
  have ⟨c1, c2⟩ := shl_b h1 h2 (show tp u ≤ 52 by omega)
  unfold dB
  rw [de64 c1 c2 (by omega)]
  congr 1
  omega
theorem fB_de {u dn : Nat} (h0 : u ≠ 0) (h : u ≤ 1000000000000000) (hd : dn ≤ 4) : ∃ c q, FP.Core.decode FP.Core.b32 (fB u dn) = .fin false c q := by
  have ⟨h1, h2, h3⟩ := tp_b h0 h
  have ⟨k1, k2⟩ := kf32_b h0 h
  unfold fB
  by_cases c : kf32 u < 16777216
  · exact ⟨_, _, de32 k1 c (by omega)⟩
  · refine ⟨8388608, ((tp u + 127 - dn : Nat) : Int) - 149, ?_⟩
    have := de32 (c := 8388608) (E := tp u + 127 - dn) (by omega) (by omega) (by omega)
    rw [show (tp u + 126 - dn) * 8388608 + kf32 u = (tp u + 127 - dn) * 8388608 + 8388608 by omega]
    exact this
theorem fB_de2 {u dn : Nat} (h0 : u ≠ 0) (h : u ≤ 1048576) (hd : dn ≤ 4) : FP.Core.decode FP.Core.b32 (fB u dn) = .fin false (u * 2 ^ (23 - tp u)) ((tp u : Int) - 23 - dn) ∧ tp u ≤ 20 := by
  have ⟨h1, h2, h3⟩ := tp_b h0 (by omega)
  have ht : tp u ≤ 20 := by
    have : bl u ≤ 21 := bl_le (by omega) (by decide)
    unfold tp; omega
  have ek : kf32 u = u * 2 ^ (23 - tp u) := if_pos (by omega)
  have ⟨c1, c2⟩ := shl_b h1 h2 (show tp u ≤ 23 by omega)
  refine ⟨?_, ht⟩
  unfold fB
  rw [ek, de32 c1 c2 (by omega)]
  congr 1
  omega
theorem fp_quot {f : FP.Core.Fmt} {c d : Nat} {q r : Int} (hd : d ≠ 0) : FP.Core.quotient f (.fin false c q) (.fin false d r) = FP.Core.roundRatio f false c d (q - r) := by
  show (if d = 0 then (if c = 0 then FP.Core.Datum.nan else FP.Core.Datum.inf (false != false)) else FP.Core.roundRatio f (false != false) c d (q - r)) = _
  rw [if_neg hd]
  rfl
theorem d16 : FP.Core.decode FP.Core.b64 4625196817309499392 = .fin false (2 ^ 52) (-48) := by decide +kernel
theorem f16 : FP.Core.decode FP.Core.b32 1098907648 = .fin false (2 ^ 23) (-19) := by decide +kernel
theorem div64 {u : Nat} (h0 : u ≠ 0) (h : u ≤ 1000000000000000) : FP.Core.div FP.Core.b64 (dB u 0) 4625196817309499392 = dB u 4 := by
  have ⟨h1, h2, h3⟩ := tp_b h0 h
  have ⟨c1, c2⟩ := shl_b h1 h2 (show tp u ≤ 52 by omega)
  unfold FP.Core.div
  have p := Nat.two_pow_pos 52
  rw [dB_de h0 h (by decide), d16, fp_quot (by omega)]
  have e0 : ((tp u : Int) - 52 - ((0 : Nat) : Int)) - (-48) = (tp u : Int) - 4 := by omega
  rw [e0, fp_rr (c := u * 2 ^ (52 - tp u)) (Q := (tp u : Int) - 56) (by omega) ?_ ?_ ?_ ?_]
  · rw [en64 (E := tp u + 1018) c1 (by omega)]
    rfl
  · unfold FP.Core.quantum
    rw [f64_q, fp_lead0 c1 c2]
    show max (-1074 : Int) (0 + ((tp u : Int) - 4) - (53 - 1)) = _
    omega
  · have e1 : FP.Core.unitsNum (u * 2 ^ (52 - tp u)) ((tp u : Int) - 4) ((tp u : Int) - 56) = u * 2 ^ (52 - tp u) * 2 ^ 52 := by
      unfold FP.Core.unitsNum
      rw [show (((tp u : Int) - 4) - ((tp u : Int) - 56)).toNat = 52 by omega]
    have e2 : FP.Core.unitsDen (2 ^ 52) ((tp u : Int) - 4) ((tp u : Int) - 56) = 2 ^ 52 := by
      unfold FP.Core.unitsDen
      rw [show (((tp u : Int) - 56) - ((tp u : Int) - 4)).toNat = 0 by omega, Nat.pow_zero, Nat.mul_one]
    rw [e1, e2, fp_near p]
  · rw [f64_p]; exact c2
  · rw [f64_m]; omega
theorem div32 {u : Nat} (h0 : u ≠ 0) (h : u ≤ 1048576) : FP.Core.div FP.Core.b32 (fB u 0) 1098907648 = fB u 4 := by
  have ⟨h1, h2, h3⟩ := tp_b h0 (by omega)
  have ⟨hde, ht⟩ := fB_de2 (dn := 0) h0 h (by decide)
  have ek : kf32 u = u * 2 ^ (23 - tp u) := if_pos (by omega)
  have ⟨c1, c2⟩ := shl_b h1 h2 (show tp u ≤ 23 by omega)
  unfold FP.Core.div
  have p := Nat.two_pow_pos 23
  rw [hde, f16, fp_quot (by omega)]
  have e0 : ((tp u : Int) - 23 - ((0 : Nat) : Int)) - (-19) = (tp u : Int) - 4 := by omega
  rw [e0, fp_rr (c := u * 2 ^ (23 - tp u)) (Q := (tp u : Int) - 27) (by omega) ?_ ?_ ?_ ?_]
  · rw [en32 (E := tp u + 122) c1 (by omega)]
    unfold fB
    rw [ek]
    rfl
  · unfold FP.Core.quantum
    rw [f32_q, fp_lead0 c1 c2]
    show max (-149 : Int) (0 + ((tp u : Int) - 4) - (24 - 1)) = _
    omega
  · have e1 : FP.Core.unitsNum (u * 2 ^ (23 - tp u)) ((tp u : Int) - 4) ((tp u : Int) - 27) = u * 2 ^ (23 - tp u) * 2 ^ 23 := by
      unfold FP.Core.unitsNum
      rw [show (((tp u : Int) - 4) - ((tp u : Int) - 27)).toNat = 23 by omega]
    have e2 : FP.Core.unitsDen (2 ^ 23) ((tp u : Int) - 4) ((tp u : Int) - 27) = 2 ^ 23 := by
      unfold FP.Core.unitsDen
      rw [show (((tp u : Int) - 27) - ((tp u : Int) - 4)).toNat = 0 by omega, Nat.pow_zero, Nat.mul_one]
    rw [e1, e2, fp_near p]
  · rw [f32_p]; exact c2
  · rw [f32_m]; omega
theorem conv {u : Nat} (h0 : u ≠ 0) (h : u ≤ 1048576) : FP.Core.convert FP.Core.b32 FP.Core.b64 (fB u 4) = dB u 4 := by
  have ⟨h1, h2, h3⟩ := tp_b h0 (by omega)
  have ⟨hde, ht⟩ := fB_de2 (dn := 4) h0 h (by decide)
  have ⟨c1, c2⟩ := shl_b h1 h2 (show tp u ≤ 23 by omega)
  have ⟨g1, g2⟩ := shl_b h1 h2 (show tp u ≤ 52 by omega)
  unfold FP.Core.convert
  rw [hde]
  show FP.Core.encode FP.Core.b64 (FP.Core.roundRatio FP.Core.b64 false (u * 2 ^ (23 - tp u)) 1 ((tp u : Int) - 23 - ((4 : Nat) : Int))) = _
  have e0 : (tp u : Int) - 23 - ((4 : Nat) : Int) = (tp u : Int) - 27 := by omega
  have e29 : u * 2 ^ (23 - tp u) * 2 ^ 29 = u * 2 ^ (52 - tp u) := by
    rw [Nat.mul_assoc, ← Nat.pow_add]
    congr 2
    omega
  have p := Nat.two_pow_pos 23
  rw [e0, fp_rr (c := u * 2 ^ (52 - tp u)) (Q := (tp u : Int) - 56) (by omega) ?_ ?_ ?_ ?_]
  · rw [en64 (E := tp u + 1018) g1 (by omega)]
    rfl
  · unfold FP.Core.quantum
    rw [f64_q, fp_lead1 c1 c2]
    show max (-1074 : Int) (((23 : Nat) : Int) + ((tp u : Int) - 27) - (53 - 1)) = _
    omega
  · have e1 : FP.Core.unitsNum (u * 2 ^ (23 - tp u)) ((tp u : Int) - 27) ((tp u : Int) - 56) = u * 2 ^ (52 - tp u) := by
      unfold FP.Core.unitsNum
      rw [show (((tp u : Int) - 27) - ((tp u : Int) - 56)).toNat = 29 by omega, e29]
    have e2 : FP.Core.unitsDen 1 ((tp u : Int) - 27) ((tp u : Int) - 56) = 1 := by
      unfold FP.Core.unitsDen
      rw [show (((tp u : Int) - 56) - ((tp u : Int) - 27)).toNat = 0 by omega]
    rw [e1, e2, fp_near1]
  · rw [f64_p]; exact g2
  · rw [f64_m]; omega
/-! ===== the bits of a number of the machine ===== -/
theorem u64_n {N : Nat} (h : N < 18446744073709551616) : (UInt64.ofNat N).toNat = N := by
  show (BitVec.ofNat 64 N).toNat = N
  rw [BitVec.toNat_ofNat]
  exact Nat.mod_eq_of_lt h
theorem u32_n {N : Nat} (h : N < 4294967296) : (UInt32.ofNat N).toNat = N := by
  show (BitVec.ofNat 32 N).toNat = N
  rw [BitVec.toNat_ofNat]
  exact Nat.mod_eq_of_lt h
theorem l2d_n {u : Nat} (h0 : u ≠ 0) (h : u ≤ 1000000000000000) : FP.l2d (lN u) = UInt64.ofNat (dB u 0) := by
  show UInt64.ofNat (FP.Core.fromInt FP.Core.b64 (lN u).toInt) = _
  rw [pk_lT (by omega), from64 h0 h]
theorem l2f_n {u : Nat} (h0 : u ≠ 0) (h : u ≤ 1000000000000000) : FP.l2f (lN u) = UInt32.ofNat (fB u 0) := by
  show UInt32.ofNat (FP.Core.fromInt FP.Core.b32 (lN u).toInt) = _
  rw [pk_lT (by omega), from32 h0 h]
theorem ddiv_n {u : Nat} (h0 : u ≠ 0) (h : u ≤ 1000000000000000) : FP.ddiv (FP.l2d (lN u)) (4625196817309499392 : UInt64) = UInt64.ofNat (dB u 4) := by
  have b := dB_b (dn := 0) h0 h (by decide)
  rw [l2d_n h0 h]
  show UInt64.ofNat (FP.Core.div FP.Core.b64 (UInt64.ofNat (dB u 0)).toNat 4625196817309499392) = _
  rw [u64_n (by omega), div64 h0 h]
theorem fdiv_n {u : Nat} (h0 : u ≠ 0) (h : u ≤ 1048576) : FP.fdiv (FP.l2f (lN u)) (1098907648 : UInt32) = UInt32.ofNat (fB u 4) := by
  have b := fB_b (dn := 0) h0 (show u ≤ 1000000000000000 by omega) (by decide)
  rw [l2f_n h0 (by omega)]
  show UInt32.ofNat (FP.Core.div FP.Core.b32 (UInt32.ofNat (fB u 0)).toNat 1098907648) = _
  rw [u32_n (by omega), div32 h0 h]
theorem f2d_n {u : Nat} (h0 : u ≠ 0) (h : u ≤ 1048576) : FP.f2d (UInt32.ofNat (fB u 4)) = UInt64.ofNat (dB u 4) := by
  have b := fB_b (dn := 4) h0 (show u ≤ 1000000000000000 by omega) (by decide)
  have ⟨hde, ht⟩ := fB_de2 (dn := 4) h0 h (by decide)
  unfold FP.f2d
  have e : FP.Core.fIsNaN (UInt32.ofNat (fB u 4)) = false := by
    show decide (FP.Core.decode FP.Core.b32 (UInt32.ofNat (fB u 4)).toNat = .nan) = false
    rw [u32_n (by omega), hde]
    exact decide_eq_false (fun e => by cases e)
  rw [e]
  show (if false = true then _ else UInt64.ofNat (FP.Core.convert FP.Core.b32 FP.Core.b64 (UInt32.ofNat (fB u 4)).toNat)) = _
  rw [u32_n (by omega), conv h0 h]
  rfl
theorem vn64 {N : Nat} (h : N ≤ 0x7ff0000000000000) : vf_n64 (UInt64.ofNat N) := by
  unfold vf_n64
  rw [UInt64.le_iff_toNat_le, UInt64.toNat_and, u64_n (by omega)]
  exact Nat.le_trans Nat.and_le_left h
theorem vn32 {N : Nat} (h : N ≤ 0x7f800000) : vf_n32 (UInt32.ofNat N) := by
  unfold vf_n32
  rw [UInt32.le_iff_toNat_le, UInt32.toNat_and, u32_n (by omega)]
  exact Nat.le_trans Nat.and_le_left h
theorem cmp_se (x : Int) : compare x x = Ordering.eq := by
  show compareOfLessAndEq x x = Ordering.eq
  unfold compareOfLessAndEq
  rw [if_neg (by omega), if_pos rfl]
theorem sp_dBits {N c : Nat} {s : Bool} {q : Int} {Q : Int64 → Prop} (hN : N < 18446744073709551616) (h : FP.Core.decode FP.Core.b64 N = .fin s c q) (k : Q (lN N)) : wp_Jxe99ae_doubleToLongBits_ccdee (UInt64.ofNat N) Q := by
  have e : FP.dcmp (UInt64.ofNat N) (UInt64.ofNat N) = some Ordering.eq := by
    show FP.Core.order (FP.Core.decode FP.Core.b64 (UInt64.ofNat N).toNat) (FP.Core.decode FP.Core.b64 (UInt64.ofNat N).toNat) = _
    rw [u64_n hN, h]
    exact congrArg some (cmp_se _)
  unfold wp_Jxe99ae_doubleToLongBits_ccdee wp_Jxe99ae_isNaN_b9ae7
  rw [e]
  refine ⟨fun _ => q0a ?_, fun ne => absurd (by decide) ne⟩
  exact k
theorem sp_fBits {N c : Nat} {s : Bool} {q : Int} {Q : Int32 → Prop} (hN : N < 4294967296) (h : FP.Core.decode FP.Core.b32 N = .fin s c q) (k : Q (nI N)) : wp_Jxf58ca_floatToIntBits_5c35a (UInt32.ofNat N) Q := by
  have e : FP.fcmp (UInt32.ofNat N) (UInt32.ofNat N) = some Ordering.eq := by
    show FP.Core.order (FP.Core.decode FP.Core.b32 (UInt32.ofNat N).toNat) (FP.Core.decode FP.Core.b32 (UInt32.ofNat N).toNat) = _
    rw [u32_n hN, h]
    exact congrArg some (cmp_se _)
  unfold wp_Jxf58ca_floatToIntBits_5c35a wp_Jxf58ca_isNaN_12338
  rw [e]
  refine ⟨fun _ => q0a ?_, fun ne => absurd (by decide) ne⟩
  exact k
