section WH
variable {p : Program} {l : Launch} {e : Env} {R : Room} {s : State} {m : MethodId} {args : Array Value} {below : List Frame} {meth : Method} {c : Code} {D : va_G} {Z : List (ClassId × FieldType)} {T : Nat × Nat × Nat × Nat} {A : Nat → Prop} {cc : ByteArray} {own : String} {nL : Nat} {ret : Option FieldType} {Q : State → Prop} {k n : Nat} {ws : va_W} {pc : Nat} {lv lv' : List (Nat × Value)} {rest st : List Value}
variable {S : Type} {out : S → va_W} {mc ms : Nat} {y : MethodName} {as : List Value} {rm : Room}
variable {b : ByteArray} {mL i j q : Nat} {rt : Option FieldType} {As : List Value} {wa wb : va_W}
theorem half_P {A0 : Nat → Prop} {D : va_G} {wa wb : va_W} {H : Heap} {H1 : Heap} (h1 : va_P D vwCl (wa ++ wb) H) (h2 : va_D A0 (wa ++ wb)) (hk : ∀ q : Nat, q < H.size → ¬ va_A wa H.size q → H1[q]? = H[q]?) : va_P D vwCl wb H1 := by
  intro k x hx
  have hx2 : (wa ++ wb)[wa.length + k]? = some x := by rw [List.getElem?_append_right (Nat.le_add_right _ _), Nat.add_sub_cancel_left]; exact hx
  have h0 := h1 _ x hx2
  refine h0.kept (hk x.1 h0.lt (fun h => ?_))
  rcases h with ⟨i, e, h⟩ | h
  · have hl := (List.getElem?_eq_some_iff.mp h).1
    have := h2.1 i (wa.length + k) (x.1, e) x (by rw [List.getElem?_append_left hl]; exact h) hx2 rfl
    omega
  · exact absurd h0.lt (Nat.not_lt.mpr h)
theorem half_Q {A0 : Nat → Prop} {D : va_G} {wa wb : va_W} {H : Heap} {H1 : Heap} (h1 : va_P D vwCl (wa ++ wb) H) (h2 : va_D A0 (wa ++ wb)) (hk : ∀ q : Nat, q < H.size → ¬ va_A wb H.size q → H1[q]? = H[q]?) : va_P D vwCl wa H1 := by
  intro k x hx
  have hl := (List.getElem?_eq_some_iff.mp hx).1
  have hx2 : (wa ++ wb)[k]? = some x := by rw [List.getElem?_append_left hl]; exact hx
  have h0 := h1 _ x hx2
  refine h0.kept (hk x.1 h0.lt (fun h => ?_))
  rcases h with ⟨i, e, h⟩ | h
  · have := h2.1 (wa.length + i) k (x.1, e) x (by rw [List.getElem?_append_right (Nat.le_add_right _ _), Nat.add_sub_cancel_left]; exact h) hx2 rfl
    omega
  · exact absurd h0.lt (Nat.not_lt.mpr h)
theorem left_P {D : va_G} {wa wb : va_W} {H : Heap} (h : va_P D vwCl (wa ++ wb) H) : va_P D vwCl wa H := fun k x hx => h k x (by rw [List.getElem?_append_left (List.getElem?_eq_some_iff.mp hx).1]; exact hx)
theorem right_P {D : va_G} {wa wb : va_W} {H : Heap} (h : va_P D vwCl (wa ++ wb) H) : va_P D vwCl wb H := fun k x hx => h (wa.length + k) x (by rw [List.getElem?_append_right (Nat.le_add_right _ _), Nat.add_sub_cancel_left]; exact hx)
theorem left_D {A0 : Nat → Prop} {wa wb : va_W} (h : va_D A0 (wa ++ wb)) : va_D A0 wa := ⟨fun i j x y hx hy e => h.1 i j x y (by rw [List.getElem?_append_left (List.getElem?_eq_some_iff.mp hx).1]; exact hx) (by rw [List.getElem?_append_left (List.getElem?_eq_some_iff.mp hy).1]; exact hy) e, fun k x hx => h.2 k x (by rw [List.getElem?_append_left (List.getElem?_eq_some_iff.mp hx).1]; exact hx)⟩
theorem right_D {A0 : Nat → Prop} {wa wb : va_W} (h : va_D A0 (wa ++ wb)) : va_D A0 wb := by
  have g : ∀ (k : Nat) (x : Nat × va_E), wb[k]? = some x → (wa ++ wb)[wa.length + k]? = some x := fun k x hx => by rw [List.getElem?_append_right (Nat.le_add_right _ _), Nat.add_sub_cancel_left]; exact hx
  exact ⟨fun i j x y hx hy e => by have := h.1 _ _ x y (g i x hx) (g j y hy) e; omega, fun k x hx => h.2 _ x (g k x hx)⟩
theorem w_callA1I (C : Cq p s m args meth c D Z T A cc own nL ret) {Qp : Int32 → S → Prop} (hC : CtI l D Z T y b mL rm rt (.ref q :: As) wa out Qp mc ms) (F : FactsV y b mL rt j) (hsel : Cond.selects y.cls y y ∈ TT) (hlk : Cond.methodLink own i y ∈ TT) (hj : As.length = j) (hR : rm.frames + 1 ≤ R.frames ∧ 8 + (mL + 11) + rm.locals ≤ R.locals) (hrc : rm.cells = mc) (hrs : rm.slots = ms) (hroom : k + mc ≤ R.cells ∧ n + ms ≤ R.slots) {ci : Nat} {fs : List Value} {rr : vw_C} (q0 : Nat) (hq : wa[q0]? = some (q, .inr (ci, fs))) (hr : vwCl[ci]? = some rr) (hrn : rr.1 = y.cls) (had : ∀ u, (out u).map Prod.fst = wa.map Prod.fst) (hst : st = As.reverse ++ .ref q :: rest) (hcat : (rest.map fun v => v.category).sum ≤ 8) (d : decode cc pc = .ok (.invokevirtual i, 3)) (kk : ∀ (r : Int32) (u : S), Qp r u → ww p l e R s m args below meth c D A nL Q (k + mc) (n + ms) (out u ++ wb) (pc + 3) lv (.int r :: rest)) : ww p l e R s m args below meth c D A nL Q k n (wa ++ wb) pc lv st := by
  intro H locs ls h1 h2 h3 h4
  have hPc := left_P h1
  have hDc := left_D h2
  have hF := free_all hDc h3 C.2.2.2.2.2.2.1
  refine va_calli (c_runV C hC F hsel hlk hj hrc hrs hR hroom hPc (hDc.weaken (fun _ _ _ _ => trivial)) hF h3 h4 hq hr hrn hst hcat d) h3 (fun q _ h => hF q h) hF (fun r u t H1 locs1 ht hvm hw hB hz hk1 hS1 => ?_)
  have hB1 : va_P D vwCl (out u) H1 := by rw [← ht]; exact hB
  exact kk r u hw H1 locs1 ls (va_P.app hB1 (half_P h1 h2 hk1)) (h2.addr (by rw [List.map_append, List.map_append, had u])) hS1 h4
theorem w_callA2I (C : Cq p s m args meth c D Z T A cc own nL ret) {Qp : Int32 → S → Prop} (hC : CtI l D Z T y b mL rm rt (.ref q :: As) wb out Qp mc ms) (F : FactsV y b mL rt j) (hsel : Cond.selects y.cls y y ∈ TT) (hlk : Cond.methodLink own i y ∈ TT) (hj : As.length = j) (hR : rm.frames + 1 ≤ R.frames ∧ 8 + (mL + 11) + rm.locals ≤ R.locals) (hrc : rm.cells = mc) (hrs : rm.slots = ms) (hroom : k + mc ≤ R.cells ∧ n + ms ≤ R.slots) {ci : Nat} {fs : List Value} {rr : vw_C} (q0 : Nat) (hq : wb[q0]? = some (q, .inr (ci, fs))) (hr : vwCl[ci]? = some rr) (hrn : rr.1 = y.cls) (had : ∀ u, (out u).map Prod.fst = wb.map Prod.fst) (hst : st = As.reverse ++ .ref q :: rest) (hcat : (rest.map fun v => v.category).sum ≤ 8) (d : decode cc pc = .ok (.invokevirtual i, 3)) (kk : ∀ (r : Int32) (u : S), Qp r u → ww p l e R s m args below meth c D A nL Q (k + mc) (n + ms) (wa ++ out u) (pc + 3) lv (.int r :: rest)) : ww p l e R s m args below meth c D A nL Q k n (wa ++ wb) pc lv st := by
  intro H locs ls h1 h2 h3 h4
  have hPc := right_P h1
  have hDc := right_D h2
  have hF := free_all hDc h3 C.2.2.2.2.2.2.1
  refine va_calli (c_runV C hC F hsel hlk hj hrc hrs hR hroom hPc (hDc.weaken (fun _ _ _ _ => trivial)) hF h3 h4 hq hr hrn hst hcat d) h3 (fun q _ h => hF q h) hF (fun r u t H1 locs1 ht hvm hw hB hz hk1 hS1 => ?_)
  have hB1 : va_P D vwCl (out u) H1 := by rw [← ht]; exact hB
  exact kk r u hw H1 locs1 ls (va_P.app (half_Q h1 h2 hk1) hB1) (h2.addr (by rw [List.map_append, List.map_append, had u])) hS1 h4
theorem w_callA1L (C : Cq p s m args meth c D Z T A cc own nL ret) {Qp : Int64 → S → Prop} (hC : CtL l D Z T y b mL rm rt (.ref q :: As) wa out Qp mc ms) (F : FactsV y b mL rt j) (hsel : Cond.selects y.cls y y ∈ TT) (hlk : Cond.methodLink own i y ∈ TT) (hj : As.length = j) (hR : rm.frames + 1 ≤ R.frames ∧ 8 + (mL + 11) + rm.locals ≤ R.locals) (hrc : rm.cells = mc) (hrs : rm.slots = ms) (hroom : k + mc ≤ R.cells ∧ n + ms ≤ R.slots) {ci : Nat} {fs : List Value} {rr : vw_C} (q0 : Nat) (hq : wa[q0]? = some (q, .inr (ci, fs))) (hr : vwCl[ci]? = some rr) (hrn : rr.1 = y.cls) (had : ∀ u, (out u).map Prod.fst = wa.map Prod.fst) (hst : st = As.reverse ++ .ref q :: rest) (hcat : (rest.map fun v => v.category).sum ≤ 8) (d : decode cc pc = .ok (.invokevirtual i, 3)) (kk : ∀ (r : Int64) (u : S), Qp r u → ww p l e R s m args below meth c D A nL Q (k + mc) (n + ms) (out u ++ wb) (pc + 3) lv (.long r :: rest)) : ww p l e R s m args below meth c D A nL Q k n (wa ++ wb) pc lv st := by
  intro H locs ls h1 h2 h3 h4
  have hPc := left_P h1
  have hDc := left_D h2
  have hF := free_all hDc h3 C.2.2.2.2.2.2.1
  refine va_calll (c_runV C hC F hsel hlk hj hrc hrs hR hroom hPc (hDc.weaken (fun _ _ _ _ => trivial)) hF h3 h4 hq hr hrn hst hcat d) h3 (fun q _ h => hF q h) hF (fun r u t H1 locs1 ht hvm hw hB hz hk1 hS1 => ?_)
  have hB1 : va_P D vwCl (out u) H1 := by rw [← ht]; exact hB
  exact kk r u hw H1 locs1 ls (va_P.app hB1 (half_P h1 h2 hk1)) (h2.addr (by rw [List.map_append, List.map_append, had u])) hS1 h4
theorem w_callA2L (C : Cq p s m args meth c D Z T A cc own nL ret) {Qp : Int64 → S → Prop} (hC : CtL l D Z T y b mL rm rt (.ref q :: As) wb out Qp mc ms) (F : FactsV y b mL rt j) (hsel : Cond.selects y.cls y y ∈ TT) (hlk : Cond.methodLink own i y ∈ TT) (hj : As.length = j) (hR : rm.frames + 1 ≤ R.frames ∧ 8 + (mL + 11) + rm.locals ≤ R.locals) (hrc : rm.cells = mc) (hrs : rm.slots = ms) (hroom : k + mc ≤ R.cells ∧ n + ms ≤ R.slots) {ci : Nat} {fs : List Value} {rr : vw_C} (q0 : Nat) (hq : wb[q0]? = some (q, .inr (ci, fs))) (hr : vwCl[ci]? = some rr) (hrn : rr.1 = y.cls) (had : ∀ u, (out u).map Prod.fst = wb.map Prod.fst) (hst : st = As.reverse ++ .ref q :: rest) (hcat : (rest.map fun v => v.category).sum ≤ 8) (d : decode cc pc = .ok (.invokevirtual i, 3)) (kk : ∀ (r : Int64) (u : S), Qp r u → ww p l e R s m args below meth c D A nL Q (k + mc) (n + ms) (wa ++ out u) (pc + 3) lv (.long r :: rest)) : ww p l e R s m args below meth c D A nL Q k n (wa ++ wb) pc lv st := by
  intro H locs ls h1 h2 h3 h4
  have hPc := right_P h1
  have hDc := right_D h2
  have hF := free_all hDc h3 C.2.2.2.2.2.2.1
  refine va_calll (c_runV C hC F hsel hlk hj hrc hrs hR hroom hPc (hDc.weaken (fun _ _ _ _ => trivial)) hF h3 h4 hq hr hrn hst hcat d) h3 (fun q _ h => hF q h) hF (fun r u t H1 locs1 ht hvm hw hB hz hk1 hS1 => ?_)
  have hB1 : va_P D vwCl (out u) H1 := by rw [← ht]; exact hB
  exact kk r u hw H1 locs1 ls (va_P.app (half_Q h1 h2 hk1) hB1) (h2.addr (by rw [List.map_append, List.map_append, had u])) hS1 h4
theorem w_sld (C : Cq p s m args meth c D Z T A cc own nL ret) {bb L : Nat} {xs : Nat → Int32} (hX : va_X bb L xs s s.heap) (hbl : bb < s.heap.size) (hbA : ¬ A bb) {x : Int32} (hi : vp_in x L) (d : decode cc pc = .ok (.iaload, 1)) (kk : ww p l e R s m args below meth c D A nL Q k n ws (pc + 1) lv (.int (xs x.toNatClampNeg) :: rest)) : ww p l e R s m args below meth c D A nL Q k n ws pc lv (.int x :: .ref bb :: rest) := fun H locs ls h1 h2 h3 h4 => va_sld C.1 C.2.1 hX hbl hbA h3 hi d (kk H locs ls h1 h2 h3 h4)
theorem w_slen (C : Cq p s m args meth c D Z T A cc own nL ret) {bb L : Nat} {xs : Nat → Int32} (hX : va_X bb L xs s s.heap) (hbl : bb < s.heap.size) (hbA : ¬ A bb) (d : decode cc pc = .ok (.arraylength, 1)) (kk : ww p l e R s m args below meth c D A nL Q k n ws (pc + 1) lv (.int (Int32.ofNat L) :: rest)) : ww p l e R s m args below meth c D A nL Q k n ws pc lv (.ref bb :: rest) := fun H locs ls h1 h2 h3 h4 => va_slen C.1 C.2.1 hX hbl hbA h3 d (kk H locs ls h1 h2 h3 h4)
end WH
theorem w_lend {p : Program} {l : Launch} {e : Env} {s : State} {m : MethodId} {b : Nat} {below : List Frame} {meth : Method} {c : Code} {D : va_G} {Z : List (ClassId × FieldType)} {T : Nat × Nat × Nat × Nat} {k n : Nat} {ws : va_W} {pc : Nat} {lv : List (Nat × Value)} (C : Cq p s m #[.ref b] meth c D Z T (fun q => s.heap.size ≤ q) cL_law RL 4 ret) (hk : k ≤ 600000) (hn : n ≤ 7302250) (d : decode cL_law pc = .ok (.ireturn, 1)) : ww p l e room_1 s m #[.ref b] below meth c D (fun q => s.heap.size ≤ q) 4 (lw_Z below #[.ref b] s) k n ws pc lv [.int 1] := fun H locs ls h1 h2 h3 h4 =>
  va_forget (fun q hq => h3.2.2 q hq) (W.widen hk hn (lw_ret (d0 := s.drawn) (Drawn.sameBut.refl s.drawn lw_cs) C.1 C.2.1 C.2.2.2.2.2.2.2.1 C.2.2.2.2.2.2.2.2 d))
