theorem pick_last (wr : va_W) (x : Nat × va_E) : [wr.length].map (fun i => (wr ++ [x])[i]?) = [x].map some := by simp
theorem pick_init (wr wx : va_W) : (List.range wr.length).map (fun i => (wr ++ wx)[i]?) = wr.map some := by
  apply List.ext_getElem?
  intro i
  by_cases h : i < wr.length
  · simp [h, List.getElem?_append_left h]
  · simp [h]
theorem nd_of (l : List Nat) (h : l.Nodup) : va_nd l = true := by
  induction l with
  | nil => rfl
  | cons a t ih =>
    rw [List.nodup_cons] at h
    simp only [va_nd, Bool.and_eq_true, decide_eq_true_eq]
    exact ⟨h.1, ih h.2⟩
theorem dis_last (wr : va_W) : ∀ i ∈ List.range wr.length, i ∉ [wr.length] := by
  intro i hi h
  simp at hi h
  omega
section WA
variable {p : Program} {l : Launch} {e : Env} {R : Room} {s : State} {m : MethodId} {args : Array Value} {below : List Frame} {meth : Method} {c : Code} {D : va_G} {Z : List (ClassId × FieldType)} {T : Nat × Nat × Nat × Nat} {A : Nat → Prop} {cc : ByteArray} {own : String} {nL : Nat} {ret : Option FieldType} {Q : State → Prop} {k n : Nat} {ws : va_W} {pc : Nat} {lv lv' : List (Nat × Value)} {rest st : List Value}
variable {S : Type} {out : S → va_W} {mc ms : Nat} {y : MethodName} {as : List Value} {rm : Room}
variable {b : ByteArray} {mL i j q : Nat} {As : List Value} {wr : va_W} {ev : va_E}
theorem w_iapp (C : Cq p s m args meth c D Z T A cc own nL ret) {Qp : S → Prop} (hC : CtN l D Z T y b mL rm (.ref q :: As) [(q, ev)] out Qp mc ms) (F : FactsV y b mL none j) (hy1 : y.name = "<init>") (hlk : Cond.methodLink own i y ∈ TT) (hj : As.length = j) (hR : rm.frames + 1 ≤ R.frames ∧ 8 + (mL + 11) + rm.locals ≤ R.locals) (hrc : rm.cells = mc) (hrs : rm.slots = ms) (hroom : k + mc ≤ R.cells ∧ n + ms ≤ R.slots) (hst : st = As.reverse ++ .ref q :: rest) (hcat : (rest.map fun v => v.category).sum ≤ 8) (d : decode cc pc = .ok (.invokespecial i, 3)) (kk : ∀ u : S, Qp u → ww p l e R s m args below meth c D A nL Q (k + mc) (n + ms) (wr ++ out u) (pc + 3) lv rest) : ww p l e R s m args below meth c D A nL Q k n (wr ++ [(q, ev)]) pc lv st :=
  w_initN C hC F hy1 hlk hj hR hrc hrs hroom wr [wr.length] (List.range wr.length) (pick_last wr (q, ev)) (pick_init wr [(q, ev)]) (by simp [va_nd]) (nd_of _ List.nodup_range) (dis_last wr) hst hcat d kk
theorem w_iappN (C : Cq p s m args meth c D Z T A cc own nL ret) {Qp : S → Prop} (hC : CtN l D Z T y b mL rm (.ref q :: As) [(q, ev)] out Qp mc ms) (F : FactsV y b mL none j) (hy1 : y.name = "<init>") {host : String} (hlk : Cond.methodLinkNest own i y host ∈ lw_tbl) (hj : As.length = j) (hR : rm.frames + 1 ≤ R.frames ∧ 8 + (mL + 11) + rm.locals ≤ R.locals) (hrc : rm.cells = mc) (hrs : rm.slots = ms) (hroom : k + mc ≤ R.cells ∧ n + ms ≤ R.slots) (hst : st = As.reverse ++ .ref q :: rest) (hcat : (rest.map fun v => v.category).sum ≤ 8) (d : decode cc pc = .ok (.invokespecial i, 3)) (kk : ∀ u : S, Qp u → ww p l e R s m args below meth c D A nL Q (k + mc) (n + ms) (wr ++ out u) (pc + 3) lv rest) : ww p l e R s m args below meth c D A nL Q k n (wr ++ [(q, ev)]) pc lv st :=
  w_initNN C hC F hy1 hlk hj hR hrc hrs hroom wr [wr.length] (List.range wr.length) (pick_last wr (q, ev)) (pick_init wr [(q, ev)]) (by simp [va_nd]) (nd_of _ List.nodup_range) (dis_last wr) hst hcat d kk
end WA
def wSt (cB cI cJ : ClassId) (a0 : Nat) (x : (Nat → Nat) × (Nat → Nat) × (Nat → Int32)) : va_W := [(a0, .inr (4, [.int (-1), .ref (x.1 0), .ref (x.2.1 0)]))] ++ (wL cB cI cJ x.1 0 0 0 0 0 0 (fun _ => 0) (fun _ => 0) (fun _ => 0) (fun _ => 0) ++ wPr cB cI cJ x.2.1 0 (-1) x.2.2)
set_option maxHeartbeats 4000000 in
set_option maxRecDepth 100000 in
theorem c_X4_init {l : Launch} {D : va_G} {cB cI cJ cL cS : ClassId} {T : Nat × Nat × Nat × Nat} {a0 : Nat} : CtN l D (Z5 cB cI cJ cL cS) T yX4_init cX4_init 1 ({ frames := 2, cells := 7, slots := 9231, locals := 100 } : Room) [.ref a0] [(a0, .inr (4, [.int 0, .null, .null]))] (fun (x : (Nat → Nat) × (Nat → Nat) × (Nat → Int32)) => wSt cB cI cJ a0 x) (fun x => ∀ j : Nat, j < 4 → x.2.2 j = -1) 7 9231 := by
  refine ctN_of (own := RX4) (by decide +kernel) rfl rfl (Nat.le_of_ble_eq_true rfl) (fun p e s m below meth c A C hin => ?_)
  refine w_sub (lv' := [(0, .ref a0)]) C [0] rfl ?_
  refine w_aload_n C 0 dX4_init_0 rfl ?_
  refine w_objInit C k_139 (Nat.le_of_ble_eq_true rfl) (Nat.le_of_ble_eq_true rfl) dX4_init_1 ?_
  refine w_aload_n C 0 dX4_init_4 rfl ?_
  refine w_iconst C (v := (-1 : Int32)) dX4_init_5 (by decide) ?_
  refine w_puti C (T1 := TX4) (ty := .int) 0 0 (fun z => [(a0, .inr (4, [.int z, .null, .null]))]) u_X4 tyX4 tyX4_ok nmX4 k_186 rfl (by decide) rfl rfl (by decide +kernel) rfl rfl (Nat.le_of_ble_eq_true rfl) (fun _ => rfl) dX4_init_6 (fun x e_x => ?_)
  subst e_x
  refine w_aload_n C 0 dX4_init_9 rfl ?_
  refine w_new C (ci := 1) (T1 := TX1) u_X1 tyX1 tyX1_ok k_140 k_141 k_69 rfl [.int 0, .int 0, .int 0, .int 0, .int 0, .long 0, .null, .null, .null, .null] (fun j hj => by rcases (show j = 0 ∨ j = 1 ∨ j = 2 ∨ j = 3 ∨ j = 4 ∨ j = 5 ∨ j = 6 ∨ j = 7 ∨ j = 8 ∨ j = 9 by omega) with rfl | rfl | rfl | rfl | rfl | rfl | rfl | rfl | rfl | rfl <;> rfl) (Nat.le_of_ble_eq_true rfl) (Nat.le_of_ble_eq_true rfl) dX4_init_10 (fun q => ?_)
  refine w_dup C rfl dX4_init_13 ?_
  refine w_iappN C c_X1_init f_X1_init rfl n_142 rfl ⟨(Nat.le_of_ble_eq_true rfl), (Nat.le_of_ble_eq_true rfl)⟩ rfl rfl ⟨(Nat.le_of_ble_eq_true rfl), (Nat.le_of_ble_eq_true rfl)⟩ rfl (Nat.le_of_ble_eq_true rfl) dX4_init_14 (fun u hu => ?_)
  subst hu
  refine w_putF C (T1 := TX4) (ty := .object "TailRecorder$Ledger") 0 1 u_X4 tyX4 tyX4_ok nmX4 k_188 rfl (by decide) rfl rfl hin rfl (by decide +kernel) rfl rfl (Nat.le_of_ble_eq_true rfl) ([(a0, .inr (4, [.int (-1), .ref (u 0), .null]))] ++ wL cB cI cJ u 0 0 0 0 0 0 (fun _ => 0) (fun _ => 0) (fun _ => 0) (fun _ => 0)) rfl dX4_init_17 ?_
  refine w_aload_n C 0 dX4_init_20 rfl ?_
  refine w_new C (ci := 2) (T1 := TX2) u_X2 tyX2 tyX2_ok k_184 k_91 k_64 rfl [.int 0, .int 0, .null] (fun j hj => by rcases (show j = 0 ∨ j = 1 ∨ j = 2 by omega) with rfl | rfl | rfl <;> rfl) (Nat.le_of_ble_eq_true rfl) (Nat.le_of_ble_eq_true rfl) dX4_init_21 (fun q => ?_)
  refine w_dup C rfl dX4_init_24 ?_
  refine w_iapp C c_X2_init f_X2_init rfl k_185 rfl ⟨(Nat.le_of_ble_eq_true rfl), (Nat.le_of_ble_eq_true rfl)⟩ rfl rfl ⟨(Nat.le_of_ble_eq_true rfl), (Nat.le_of_ble_eq_true rfl)⟩ rfl (Nat.le_of_ble_eq_true rfl) dX4_init_25 (fun v hv => ?_)
  obtain ⟨v, w⟩ := v
  obtain ⟨hv, hw⟩ := hv
  dsimp only at hv hw
  subst hv
  refine w_putF C (T1 := TX4) (ty := .object "TailRecorder$Pair") 0 2 u_X4 tyX4 tyX4_ok nmX4 k_190 rfl (by decide) rfl rfl hin rfl (by decide +kernel) rfl rfl (Nat.le_of_ble_eq_true rfl) (wSt cB cI cJ a0 (u, v, w)) rfl dX4_init_28 ?_
  exact w_nret C (u, v, w) hw rfl (Nat.le_of_ble_eq_true rfl) (Nat.le_of_ble_eq_true rfl) dX4_init_31
def wHi (cB cI cJ cS : ClassId) (a0 q : Nat) (vs : List (Nat × (Nat → Nat) × (Nat → Nat) × (Nat → Int32))) : va_W := [(a0, .inr (0, [.ref q, .int 0, .int 0])), (q, .inl (cS, 8, .inr (.inr (.inr (.inr (fun j => (vs[j]?).map (fun v => v.1)))))))] ++ vs.flatMap (fun v => wSt cB cI cJ v.1 v.2)
theorem up_app {α : Type} (f : α → Nat) (vs : List α) (v : α) : va_up (fun j => (vs[j]?).map f) vs.length (some (f v)) = (fun j => ((vs ++ [v])[j]?).map f) := by
  funext j
  by_cases h : j = vs.length
  · subst h; simp [va_up]
  · rw [va_up_ne _ _ h]
    rcases Nat.lt_or_ge j vs.length with z | z
    · rw [List.getElem?_append_left z]
    · rw [List.getElem?_append_right z, List.getElem?_eq_none z, List.getElem?_eq_none (by simp; omega)]
theorem W_le {p : Program} {l : Launch} {e : Env} {R : Room} {s : State} {m : MethodId} {args : Array Value} {below : List Frame} {meth : Method} {c : Code} {D : va_G} {A : Nat → Prop} {nL : Nat} {Q : State → Prop} {k n k2 n2 : Nat} {ws : va_W} {pc : Nat} {lv : List (Nat × Value)} {st : List Value} (kk : ww p l e R s m args below meth c D A nL Q k2 n2 ws pc lv st) (h1 : k ≤ k2) (h2 : n ≤ n2) : ww p l e R s m args below meth c D A nL Q k n ws pc lv st := fun H locs ls g1 g2 g3 g4 => W.widen h1 h2 (kk H locs ls g1 g2 g3 g4)
set_option maxHeartbeats 4000000 in
set_option maxRecDepth 100000 in
theorem c_X0_init {l : Launch} {D : va_G} {cB cI cJ cL cS : ClassId} {T : Nat × Nat × Nat × Nat} {a0 : Nat} : CtN l D (Z5 cB cI cJ cL cS) T yX0_init cX0_init 2 ({ frames := 3, cells := 65, slots := 73880, locals := 140 } : Room) [.ref a0] [(a0, .inr (0, [.null, .int 0, .int 0]))] (fun (x : Nat × List (Nat × (Nat → Nat) × (Nat → Nat) × (Nat → Int32))) => wHi cB cI cJ cS a0 x.1 x.2) (fun x => x.2.length = 8 ∧ ∀ v ∈ x.2, ∀ j : Nat, j < 4 → v.2.2.2 j = -1) 65 73880 := by
  refine ctN_of (own := RX0) (by decide +kernel) rfl rfl (Nat.le_of_ble_eq_true rfl) (fun p e s m below meth c A C hin => ?_)
  refine w_sub (lv' := [(0, .ref a0)]) C [0] rfl ?_
  refine w_aload_n C 0 dX0_init_0 rfl ?_
  refine w_objInit C k_132 (Nat.le_of_ble_eq_true rfl) (Nat.le_of_ble_eq_true rfl) dX0_init_1 ?_
  refine w_aload_n C 0 dX0_init_4 rfl ?_
  refine w_bipush C (v := (8 : Int32)) dX0_init_5 (by decide) ?_
  refine w_newq C (Cn := "TailRecorder$Step") 8 4 k_133 n_134 rfl (by decide) (by decide) (by decide) (Nat.le_of_ble_eq_true rfl) (Nat.le_of_ble_eq_true rfl) dX0_init_7 (fun q => ?_)
  refine w_putF C (T1 := TX0) (ty := .array (.object "TailRecorder$Step")) 0 0 u_X0 tyX0 tyX0_ok nmX0 k_199 rfl (by decide) rfl rfl hin rfl (by decide +kernel) rfl rfl (Nat.le_of_ble_eq_true rfl) (wHi cB cI cJ cS a0 q []) rfl dX0_init_10 ?_
  refine w_iconst C (v := (0 : Int32)) dX0_init_13 (by decide) ?_
  refine w_istore_n C (fun x => [(1, .int x), (0, .ref a0)]) dX0_init_14 (by decide) (fun _ => rfl) (fun x e_x => ?_)
  have key : ∀ (n : Nat) (vs : List (Nat × (Nat → Nat) × (Nat → Nat) × (Nat → Int32))), vs.length ≤ 8 → 9 ≤ vs.length + n → (∀ v ∈ vs, ∀ j : Nat, j < 4 → v.2.2.2 j = -1) → ww p l e ({ frames := 3, cells := 65, slots := 73880, locals := 140 } : Room) s m #[Value.ref a0] below meth c D A 2 (MQ below (va_Qv (fun (x : Nat × List (Nat × (Nat → Nat) × (Nat → Nat) × (Nat → Int32))) => x.2.length = 8 ∧ ∀ v ∈ x.2, ∀ j : Nat, j < 4 → v.2.2.2 j = -1) (OutN D A (fun (x : Nat × List (Nat × (Nat → Nat) × (Nat → Nat) × (Nat → Int32))) => wHi cB cI cJ cS a0 x.1 x.2)) A) #[Value.ref a0] s 65 73880 A) (1 + 8 * vs.length) (8 + 9234 * vs.length) (wHi cB cI cJ cS a0 q vs) 15 [(1, .int (nI vs.length)), (0, .ref a0)] [] := by
    intro n
    induction n with
    | zero => intro vs h1 h2; exact absurd h2 (by omega)
    | succ n ih =>
      intro vs h1 h2 h3
      refine w_iload_n C 0 dX0_init_15 rfl ?_
      refine w_aload_n C 1 dX0_init_16 rfl ?_
      refine w_get C (T1 := TX0) 0 0 u_X0 k_199 rfl (by decide) rfl rfl dX0_init_17 ?_
      refine w_alen C (v := nI 8) 1 4 rfl rfl rfl dX0_init_20 ?_
      refine w_icmp_ge C 43 (by decide) dX0_init_21 (fun z => ?_) (fun z => ?_)
      · have hz : ¬ vs.length < 8 := fun h => nI_ge h (by decide) z
        exact w_nret C (q, vs) ⟨by show vs.length = 8; omega, h3⟩ rfl (by omega) (by omega) dX0_init_43
      · have hz : vs.length < 8 := by
          rcases Nat.lt_or_ge vs.length 8 with h | h
          · exact h
          · exact absurd (nI_le h (by omega)) z
        refine w_aload_n C 1 dX0_init_24 rfl ?_
        refine w_get C (T1 := TX0) 0 0 u_X0 k_199 rfl (by decide) rfl rfl dX0_init_25 ?_
        refine w_iload_n C 0 dX0_init_28 rfl ?_
        refine w_new C (ci := 4) (T1 := TX4) u_X4 tyX4 tyX4_ok k_133 k_135 k_68 rfl [.int 0, .null, .null] (fun j hj => by rcases (show j = 0 ∨ j = 1 ∨ j = 2 by omega) with rfl | rfl | rfl <;> rfl) (by show 1 + 8 * vs.length + 1 ≤ 65; omega) (by show 8 + 9234 * vs.length + 3 ≤ 73880; omega) dX0_init_29 (fun qs => ?_)
        refine w_dup C rfl dX0_init_32 ?_
        refine w_iappN C c_X4_init f_X4_init rfl n_136 rfl ⟨(Nat.le_of_ble_eq_true rfl), (Nat.le_of_ble_eq_true rfl)⟩ rfl rfl ⟨by show 1 + 8 * vs.length + 1 + 7 ≤ 65; omega, by show 8 + 9234 * vs.length + 3 + 9231 ≤ 73880; omega⟩ rfl (Nat.le_of_ble_eq_true rfl) dX0_init_33 (fun x5 hx5 => ?_)
        have hlen : (wHi cB cI cJ cS a0 q vs ++ wSt cB cI cJ qs x5)[(wHi cB cI cJ cS a0 q vs).length]? = some (qs, .inr (4, [.int (-1), .ref (x5.1 0), .ref (x5.2.1 0)])) := by
          rw [List.getElem?_append_right (Nat.le_refl _), Nat.sub_self]; rfl
        refine w_aastore C (rr := (RX4, TX4, 3)) 1 4 (wHi cB cI cJ cS a0 q vs).length rfl rfl hlen rfl (vp_in_nI hz (by decide)) (wHi cB cI cJ cS a0 q (vs ++ [(qs, x5)])) ?_ dX0_init_36 ?_
        · rw [nI_clamp (by omega)]
          unfold wHi
          rw [← up_app (fun v : Nat × (Nat → Nat) × (Nat → Nat) × (Nat → Int32) => v.1) vs (qs, x5), List.flatMap_append]
          simp
        · refine w_iinc C (v := nI (vs.length + 1)) 0 (fun x => [(1, .int x), (0, .ref a0)]) dX0_init_37 rfl (by rw [nI_succ]; rfl) (by decide) (fun _ => rfl) (fun x6 e6 => ?_)
          subst e6
          refine w_goto C 15 (by decide) dX0_init_40 ?_
          have ihh := ih (vs ++ [(qs, x5)]) (by simp; omega) (by simp; omega) (fun v hv j hj => by
            rcases List.mem_append.mp hv with h | h
            · exact h3 v h j hj
            · rw [List.mem_singleton.mp h]; exact hx5 j hj)
          rw [List.length_append, List.length_singleton] at ihh
          exact W_le ihh (by omega) (by omega)
  rw [e_x]
  exact key 9 [] (by decide) (by decide) (fun v h => by simp at h)
