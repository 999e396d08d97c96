/-! ===== contracts in one form, their ends, and calls ===== -/
def PreC (D : va_G) (Z : List (ClassId × FieldType)) (T : Nat × Nat × Nat × Nat) (as : List Value) (ws : va_W) (sz : Nat) : Array Value → State → Prop :=
  va_Pc as (fun U => U.heap.size = sz ∧ va_P D vwCl ws U.heap ∧ KN D Z T (va_A ws sz) U ∧ va_D (fun _ => True) ws)
def OutP (D : va_G) {S : Type} (out : S → va_W) : S → State → Prop := fun u t => va_P D vwCl (out u) t.heap
def CtI (l : Launch) (D : va_G) (Z : List (ClassId × FieldType)) (T : Nat × Nat × Nat × Nat) (y : MethodName) (cc : ByteArray) (nL : Nat) (rm : Room) (ret : Option FieldType) (as : List Value) (ws : va_W) {S : Type} (out : S → va_W) (Q : Int32 → S → Prop) (mc ms : Nat) : Prop :=
  ∀ sz : Nat, Met l y (.code y cc nL ret :: TT) rm (PreC D Z T as ws sz) (va_Qi Q (OutP D out) (va_A ws sz)) mc ms (va_A ws sz)
def CtL (l : Launch) (D : va_G) (Z : List (ClassId × FieldType)) (T : Nat × Nat × Nat × Nat) (y : MethodName) (cc : ByteArray) (nL : Nat) (rm : Room) (ret : Option FieldType) (as : List Value) (ws : va_W) {S : Type} (out : S → va_W) (Q : Int64 → S → Prop) (mc ms : Nat) : Prop :=
  ∀ sz : Nat, Met l y (.code y cc nL ret :: TT) rm (PreC D Z T as ws sz) (va_Ql Q (OutP D out) (va_A ws sz)) mc ms (va_A ws sz)
def CtV (l : Launch) (D : va_G) (Z : List (ClassId × FieldType)) (T : Nat × Nat × Nat × Nat) (y : MethodName) (cc : ByteArray) (nL : Nat) (rm : Room) (ret : Option FieldType) (as : List Value) (ws : va_W) {S : Type} (out : S → va_W) (Q : S → Prop) (mc ms : Nat) : Prop :=
  ∀ sz : Nat, Met l y (.code y cc nL ret :: TT) rm (PreC D Z T as ws sz) (va_Qv Q (OutP D out) (va_A ws sz)) mc ms (va_A ws sz)
def CtQ (l : Launch) (D : va_G) (Z : List (ClassId × FieldType)) (T : Nat × Nat × Nat × Nat) (y : MethodName) (cc : ByteArray) (nL : Nat) (rm : Room) (ret : Option FieldType) (as : List Value) (ws : va_W) {S : Type} (out : S → va_W) (Q : Option Nat → S → Prop) (mc ms : Nat) : Prop :=
  ∀ sz : Nat, Met l y (.code y cc nL ret :: TT) rm (PreC D Z T as ws sz) (va_Qq Q (OutP D out) (va_A ws sz)) mc ms (va_A ws sz)
def FactsV (y : MethodName) (b : ByteArray) (mL : Nat) (rt : Option FieldType) (j : Nat) : Prop :=
  (Cond.instanceMethod y ∈ TT ∧ Cond.initialized y.cls ∈ TT ∧ Cond.code y b mL rt ∈ TT) ∧ (y.cls ≠ "java/lang/invoke/MethodHandle" ∧ y.cls ≠ "java/lang/invoke/VarHandle" ∧ (parseMethodDescriptor y.desc).map (fun d => d.parameters.length) = some j)
def FactsS (y : MethodName) (b : ByteArray) (mL : Nat) (rt : Option FieldType) (j : Nat) : Prop :=
  (Cond.static y ∈ TT ∧ Cond.initialized y.cls ∈ TT ∧ Cond.code y b mL rt ∈ TT) ∧ (y.cls ≠ "java/lang/invoke/MethodHandle" ∧ y.cls ≠ "java/lang/invoke/VarHandle" ∧ (parseMethodDescriptor y.desc).map (fun d => d.parameters.length) = some j)
theorem tt_all {ws : List Cond} (h : ∀ w ∈ ws, w ∈ TT) : GoodIn TT ws := fun w hw => ⟨h w hw, good_of_word (tt_good w (h w hw))⟩
theorem tt_code {w : Cond} (h : w ∈ TT) : ∀ v ∈ w :: TT, v ∈ TT := fun v hv => by
  rcases List.mem_cons.mp hv with rfl | hv
  · exact h
  · exact hv
theorem va_D.addr {A : Nat → Prop} {w1 w2 : va_W} (h : va_D A w1) (e : w2.map Prod.fst = w1.map Prod.fst) : va_D A w2 := by
  have key : ∀ (k : Nat) (q : Nat × va_E), w2[k]? = some q → ∃ q0, w1[k]? = some q0 ∧ q0.1 = q.1 := by
    intro k q hk
    have h1 : (w2.map Prod.fst)[k]? = some q.1 := by rw [List.getElem?_map, hk]; rfl
    rw [e, List.getElem?_map] at h1
    cases hx : w1[k]? with
    | none => rw [hx] at h1; cases h1
    | some y => rw [hx] at h1; exact ⟨y, rfl, Option.some.inj h1⟩
  refine ⟨fun i j x y hi hj hxy => ?_, fun k q hk => ?_⟩
  · obtain ⟨x0, h1, h2⟩ := key i x hi
    obtain ⟨y0, h3, h4⟩ := key j y hj
    exact h.1 i j x0 y0 h1 h3 (h2.trans (hxy.trans h4.symm))
  · obtain ⟨q0, h1, h2⟩ := key k q hk
    rw [← h2]
    exact h.2 k q0 h1
theorem va_A_addr {w1 w2 : va_W} (e : w2.map Prod.fst = w1.map Prod.fst) {sz q : Nat} (h : va_A w1 sz q) : va_A w2 sz q := by
  rcases h with ⟨k, x, h⟩ | h
  · have h1 : (w1.map Prod.fst)[k]? = some q := by rw [List.getElem?_map, h]; rfl
    rw [← e, List.getElem?_map] at h1
    cases hx : w2[k]? with
    | none => rw [hx] at h1; cases h1
    | some y => rw [hx] at h1; exact Or.inl ⟨k, y.2, by rw [hx]; exact congrArg some (Prod.ext (Option.some.inj h1) rfl)⟩
  · exact Or.inr h
section WW2
variable {p : Program} {l : Launch} {e : Env} {R : Room} {s : State} {m : MethodId} {args : Array Value} {below : List Frame} {meth : Method} {c : Code} {D : va_G} {Z : List (ClassId × FieldType)} {T : Nat × Nat × Nat × Nat} {A : Nat → Prop} {cc : ByteArray} {own : String} {nL : Nat} {ret : Option FieldType} {Q : State → Prop} {k n : Nat} {ws : va_W} {pc : Nat} {lv lv' : List (Nat × Value)} {rest st : List Value}
variable {S : Type} {out : S → va_W} {mc ms : Nat} {y : MethodName} {as : List Value} {rm : Room}
theorem ct_body {Qc : (Nat → Prop) → Array Value → State → Outcome → State → Prop} (hy : plainFor y = true) (hown : y.cls = own) (hlen : (lg_sl as).length ≤ nL) (sz : Nat)
    (body : ∀ (p : Program) (e : Env) (s : State) (m : MethodId) (below : List Frame) (meth : Method) (c : Code) (A : Nat → Prop), Cq p s m as.toArray meth c D Z T A cc own nL ret → ww p l e rm s m as.toArray below meth c D A nL (MQ below (Qc A) as.toArray s mc ms A) 0 0 ws 0 (lv_args 0 as) []) :
    Met l y (.code y cc nL ret :: TT) rm (PreC D Z T as ws sz) (Qc (va_A ws sz)) mc ms (va_A ws sz) := by
  refine va_MetF (cc := cc) (maxL := nL) (ret := ret) hy rfl ?_
  intro p e s m args below meth c s₁ B hml hv
  obtain ⟨rfl, hsz, hP, hK, hD0⟩ := hv
  subst hsz
  have hts := atoms_spec (ws := .code y cc nL ret :: TT) B.pre
  rw [lg_entry_eq]
  exact body p e s m below meth c _ ⟨B.exec, B.bytes, hml, by rw [← hown]; exact findClass_of_methodNamed B.named, fun w h => hts w (List.mem_cons_of_mem _ h), hK, fun q h => Or.inr h, B.returns, B.notSynchronized⟩ s.heap [] _ hP hD0.self va_S.rf (lv_entry as hlen)
theorem ctI_of {Qp : Int32 → S → Prop} (hy : plainFor y = true) (hown : y.cls = own) (hlen : (lg_sl as).length ≤ nL)
    (body : ∀ (p : Program) (e : Env) (s : State) (m : MethodId) (below : List Frame) (meth : Method) (c : Code) (A : Nat → Prop), Cq p s m as.toArray meth c D Z T A cc own nL ret → ww p l e rm s m as.toArray below meth c D A nL (MQ below (va_Qi Qp (OutP D out) A) as.toArray s mc ms A) 0 0 ws 0 (lv_args 0 as) []) : CtI l D Z T y cc nL rm ret as ws out Qp mc ms :=
  fun sz => ct_body (Qc := fun A => va_Qi Qp (OutP D out) A) hy hown hlen sz body
theorem ctL_of {Qp : Int64 → S → Prop} (hy : plainFor y = true) (hown : y.cls = own) (hlen : (lg_sl as).length ≤ nL)
    (body : ∀ (p : Program) (e : Env) (s : State) (m : MethodId) (below : List Frame) (meth : Method) (c : Code) (A : Nat → Prop), Cq p s m as.toArray meth c D Z T A cc own nL ret → ww p l e rm s m as.toArray below meth c D A nL (MQ below (va_Ql Qp (OutP D out) A) as.toArray s mc ms A) 0 0 ws 0 (lv_args 0 as) []) : CtL l D Z T y cc nL rm ret as ws out Qp mc ms :=
  fun sz => ct_body (Qc := fun A => va_Ql Qp (OutP D out) A) hy hown hlen sz body
theorem ctV_of {Qp : S → Prop} (hy : plainFor y = true) (hown : y.cls = own) (hlen : (lg_sl as).length ≤ nL)
    (body : ∀ (p : Program) (e : Env) (s : State) (m : MethodId) (below : List Frame) (meth : Method) (c : Code) (A : Nat → Prop), Cq p s m as.toArray meth c D Z T A cc own nL ret → ww p l e rm s m as.toArray below meth c D A nL (MQ below (va_Qv Qp (OutP D out) A) as.toArray s mc ms A) 0 0 ws 0 (lv_args 0 as) []) : CtV l D Z T y cc nL rm ret as ws out Qp mc ms :=
  fun sz => ct_body (Qc := fun A => va_Qv Qp (OutP D out) A) hy hown hlen sz body
theorem ctQ_of {Qp : Option Nat → S → Prop} (hy : plainFor y = true) (hown : y.cls = own) (hlen : (lg_sl as).length ≤ nL)
    (body : ∀ (p : Program) (e : Env) (s : State) (m : MethodId) (below : List Frame) (meth : Method) (c : Code) (A : Nat → Prop), Cq p s m as.toArray meth c D Z T A cc own nL ret → ww p l e rm s m as.toArray below meth c D A nL (MQ below (va_Qq Qp (OutP D out) A) as.toArray s mc ms A) 0 0 ws 0 (lv_args 0 as) []) : CtQ l D Z T y cc nL rm ret as ws out Qp mc ms :=
  fun sz => ct_body (Qc := fun A => va_Qq Qp (OutP D out) A) hy hown hlen sz body
-- ends
theorem w_iret {Qp : Int32 → S → Prop} (C : Cq p s m args meth c D Z T A cc own nL (some .int)) {v : Int32} (u : S) (hq : Qp v u) (hw : ws = out u) (hk : k ≤ mc) (hn : n ≤ ms) (d : decode cc pc = .ok (.ireturn, 1)) :
    ww p l e R s m args below meth c D A nL (MQ below (va_Qi Qp (OutP D out) A) args s mc ms A) k n ws pc lv [.int v] := fun H locs ls h1 h2 h3 h4 =>
  W.widen hk hn (W.iret C.1 C.2.1 C.2.2.2.2.2.2.2.1 (fun t ht hW => ⟨⟨v, u, rfl, hq, by show va_P D vwCl (out u) t.heap; rw [ht, ← hw]; exact h1⟩, h3.F ht⟩) h3.2.2 d C.2.2.2.2.2.2.2.2)
theorem w_zret {Qp : Int32 → S → Prop} (C : Cq p s m args meth c D Z T A cc own nL (some .boolean)) {v : Int32} (u : S) (hv : v = 0 ∨ v = 1) (hq : Qp v u) (hw : ws = out u) (hk : k ≤ mc) (hn : n ≤ ms) (d : decode cc pc = .ok (.ireturn, 1)) :
    ww p l e R s m args below meth c D A nL (MQ below (va_Qi Qp (OutP D out) A) args s mc ms A) k n ws pc lv [.int v] := fun H locs ls h1 h2 h3 h4 =>
  W.widen hk hn (W.zret C.1 C.2.1 C.2.2.2.2.2.2.2.1 (by rcases hv with rfl | rfl <;> rfl) (fun t ht hW => ⟨⟨v, u, rfl, hq, by show va_P D vwCl (out u) t.heap; rw [ht, ← hw]; exact h1⟩, h3.F ht⟩) h3.2.2 d C.2.2.2.2.2.2.2.2)
theorem w_lret {Qp : Int64 → S → Prop} (C : Cq p s m args meth c D Z T A cc own nL (some .long)) {v : Int64} (u : S) (hq : Qp v u) (hw : ws = out u) (hk : k ≤ mc) (hn : n ≤ ms) (d : decode cc pc = .ok (.lreturn, 1)) :
    ww p l e R s m args below meth c D A nL (MQ below (va_Ql Qp (OutP D out) A) args s mc ms A) k n ws pc lv [.long v] := fun H locs ls h1 h2 h3 h4 =>
  W.widen hk hn (W.lret C.1 C.2.1 C.2.2.2.2.2.2.2.1 (fun t ht hW => ⟨⟨v, u, rfl, hq, by show va_P D vwCl (out u) t.heap; rw [ht, ← hw]; exact h1⟩, h3.F ht⟩) h3.2.2 d C.2.2.2.2.2.2.2.2)
theorem w_vret {Qp : S → Prop} (C : Cq p s m args meth c D Z T A cc own nL none) (u : S) (hq : Qp u) (hw : ws = out u) (hk : k ≤ mc) (hn : n ≤ ms) (d : decode cc pc = .ok (.return_, 1)) :
    ww p l e R s m args below meth c D A nL (MQ below (va_Qv Qp (OutP D out) A) args s mc ms A) k n ws pc lv [] := fun H locs ls h1 h2 h3 h4 =>
  W.widen hk hn (W.vret C.1 C.2.1 C.2.2.2.2.2.2.2.1 (fun t ht hW => ⟨⟨u, rfl, hq, by show va_P D vwCl (out u) t.heap; rw [ht, ← hw]; exact h1⟩, h3.F ht⟩) h3.2.2 d C.2.2.2.2.2.2.2.2)
theorem w_aret {Qp : Option Nat → S → Prop} {rt : FieldType} (C : Cq p s m args meth c D Z T A cc own nL (some rt)) (hrt : (∃ x, rt = .object x) ∨ ∃ t, rt = .array t) {v : Option Nat} (u : S) (hq : Qp v u) (hw : ws = out u) (hk : k ≤ mc) (hn : n ≤ ms) (d : decode cc pc = .ok (.areturn, 1)) :
    ww p l e R s m args below meth c D A nL (MQ below (va_Qq Qp (OutP D out) A) args s mc ms A) k n ws pc lv [va_rf v] := fun H locs ls h1 h2 h3 h4 =>
  W.widen hk hn (W.aret C.1 C.2.1 C.2.2.2.2.2.2.2.1 hrt (by cases v with | none => exact Or.inl rfl | some a => exact Or.inr ⟨a, rfl⟩) (fun t ht hW => ⟨⟨v, u, rfl, hq, by show va_P D vwCl (out u) t.heap; rw [ht, ← hw]; exact h1⟩, h3.F ht⟩) h3.2.2 d C.2.2.2.2.2.2.2.2)
-- what a call needs
theorem pre_blind {as : List Value} {wc : va_W} {sz : Nat} : FrameBlind (PreC D Z T as wc sz) := by
  intro a U g mk q
  obtain ⟨h1, h2, h3, h4, h5⟩ := q
  exact ⟨h1, h2, h3, h4.same (U := U.calling g mk a) rfl rfl, h5⟩
variable {b : ByteArray} {mL i j q : Nat} {rt : Option FieldType} {As : List Value} {wc : va_W} {Qc : Nat → Array Value → State → Outcome → State → Prop} {H : Heap} {locs : List Loc} {ls : Array Slot}
theorem c_runV (C : Cq p s m args meth c D Z T A cc own nL ret) (hM : ∀ sz : Nat, Met l y (.code y b mL rt :: TT) rm (PreC D Z T (.ref q :: As) wc sz) (Qc sz) mc ms (va_A wc sz)) (F : FactsV y b mL rt j) (hsel : Cond.selects y.cls y y ∈ TT) (hlk : Cond.methodLink own i y ∈ TT) (hj : As.length = j) (hrc : rm.cells = mc) (hrs : rm.slots = ms) (hR : rm.frames + 1 ≤ R.frames ∧ 8 + (mL + 11) + rm.locals ≤ R.locals) (hroom : k + mc ≤ R.cells ∧ n + ms ≤ R.slots)
    (hP : va_P D vwCl wc H) (hD : va_D (fun _ => True) wc) (hF : ∀ q, va_A wc H.size q → A q) (hS : va_S A s.heap H locs) (hl : lv_has ls nL lv) {ci q0 : Nat} {fs : List Value} {r : vw_C} (hq : wc[q0]? = some (q, .inr (ci, fs))) (hr : vwCl[ci]? = some r) (hrn : r.1 = y.cls) (hst : st = As.reverse ++ .ref q :: rest) (hcat : (rest.map fun v => v.category).sum ≤ 8) (d : decode cc pc = .ok (.invokevirtual i, 3)) :
    va_Run p l e R s m args below meth c H locs k n mc ms (F0 m pc ls st) rest (Qc H.size (Value.ref q :: As).toArray) (va_A wc H.size) := by
  refine va_runV (C := y.cls) (ws := .code y b mL rt :: TT) ⟨C.1, C.2.1, C.2.2.1, C.2.2.2.1, C.2.2.2.2.1⟩ (hM H.size) (cwV j C.2.2.2.2.1 (tt_all (fun w hw => ?_)) rfl hrc hrs ⟨rfl, F.2⟩ hR) ⟨pre_blind, ?_, fun U hU hW => ⟨rfl, by rw [hU], by rw [hU]; exact hP, C.2.2.2.2.2.1.call hS hU hW hF, hD⟩⟩ rfl hj hl.1 hst (lv_room hcat) d hroom
  · unfold wsV at hw
    rcases List.mem_append.mp hw with h | h
    · simp only [List.mem_cons, List.not_mem_nil, or_false] at h
      rcases h with rfl | rfl | rfl | rfl
      · exact hlk
      · exact F.1.1
      · exact hsel
      · exact F.1.2.1
    · exact tt_code F.1.2.2 w h
  · rw [← hrn]
    exact va_recv C.2.2.2.2.2.1.1 hP hr hq
theorem c_runVN (C : Cq p s m args meth c D Z T A cc own nL ret) (hM : ∀ sz : Nat, Met l y (.code y b mL rt :: TT) rm (PreC D Z T (.ref q :: As) wc sz) (Qc sz) mc ms (va_A wc sz)) (F : FactsV y b mL rt j) (hsel : Cond.selects y.cls y y ∈ TT) {host : String} (hlk : Cond.methodLinkNest own i y host ∈ lw_tbl) (hj : As.length = j) (hrc : rm.cells = mc) (hrs : rm.slots = ms) (hR : rm.frames + 1 ≤ R.frames ∧ 8 + (mL + 11) + rm.locals ≤ R.locals) (hroom : k + mc ≤ R.cells ∧ n + ms ≤ R.slots)
    (hP : va_P D vwCl wc H) (hD : va_D (fun _ => True) wc) (hF : ∀ q, va_A wc H.size q → A q) (hS : va_S A s.heap H locs) (hl : lv_has ls nL lv) {ci q0 : Nat} {fs : List Value} {r : vw_C} (hq : wc[q0]? = some (q, .inr (ci, fs))) (hr : vwCl[ci]? = some r) (hrn : r.1 = y.cls) (hst : st = As.reverse ++ .ref q :: rest) (hcat : (rest.map fun v => v.category).sum ≤ 8) (d : decode cc pc = .ok (.invokevirtual i, 3)) :
    va_Run p l e R s m args below meth c H locs k n mc ms (F0 m pc ls st) rest (Qc H.size (Value.ref q :: As).toArray) (va_A wc H.size) := by
  refine va_runVN (C := y.cls) (ws := .code y b mL rt :: TT) ⟨C.1, C.2.1, C.2.2.1, C.2.2.2.1, C.2.2.2.2.1⟩ (hM H.size) ⟨va_cnB j C.2.2.2.2.1 (tt_all (tt_code F.1.2.2)) rfl hrc hrs (C.2.2.2.2.2.1.2.1 _ hlk rfl) (C.2.2.2.2.1 _ F.1.2.1) F.2 hR, C.2.2.2.2.1 _ F.1.1, C.2.2.2.2.1 _ hsel⟩ ⟨pre_blind, ?_, fun U hU hW => ⟨rfl, by rw [hU], by rw [hU]; exact hP, C.2.2.2.2.2.1.call hS hU hW hF, hD⟩⟩ rfl hj hl.1 hst (lv_room hcat) d hroom
  rw [← hrn]
  exact va_recv C.2.2.2.2.2.1.1 hP hr hq
theorem c_runS (C : Cq p s m args meth c D Z T A cc own nL ret) (hM : ∀ sz : Nat, Met l y (.code y b mL rt :: TT) rm (PreC D Z T As wc sz) (Qc sz) mc ms (va_A wc sz)) (F : FactsS y b mL rt j) (hlk : Cond.methodLink own i y ∈ TT) (hj : As.length = j) (hrc : rm.cells = mc) (hrs : rm.slots = ms) (hR : rm.frames + 1 ≤ R.frames ∧ 8 + (mL + 11) + rm.locals ≤ R.locals) (hroom : k + mc ≤ R.cells ∧ n + ms ≤ R.slots)
    (hP : va_P D vwCl wc H) (hD : va_D (fun _ => True) wc) (hF : ∀ q, va_A wc H.size q → A q) (hS : va_S A s.heap H locs) (hl : lv_has ls nL lv) (hst : st = As.reverse ++ rest) (hcat : (rest.map fun v => v.category).sum ≤ 8) (d : decode cc pc = .ok (.invokestatic i, 3)) :
    va_Run p l e R s m args below meth c H locs k n mc ms (F0 m pc ls st) rest (Qc H.size As.toArray) (va_A wc H.size) := by
  refine va_runS (ws := .code y b mL rt :: TT) ⟨C.1, C.2.1, C.2.2.1, C.2.2.2.1, C.2.2.2.2.1⟩ (hM H.size) (va_cwS j C.2.2.2.2.1 (tt_all (fun w hw => ?_)) rfl hrc hrs F.2 hR) ⟨pre_blind, fun U hU hW => ⟨rfl, by rw [hU], by rw [hU]; exact hP, C.2.2.2.2.2.1.call hS hU hW hF, hD⟩⟩ rfl hj hl.1 hst (lv_room hcat) d hroom
  unfold va_wsS at hw
  rcases List.mem_append.mp hw with h | h
  · simp only [List.mem_cons, List.not_mem_nil, or_false] at h
    rcases h with rfl | rfl | rfl
    · exact hlk
    · exact F.1.1
    · exact F.1.2.1
  · exact tt_code F.1.2.2 w h
theorem c_runSN (C : Cq p s m args meth c D Z T A cc own nL ret) (hM : ∀ sz : Nat, Met l y (.code y b mL rt :: TT) rm (PreC D Z T As wc sz) (Qc sz) mc ms (va_A wc sz)) (F : FactsS y b mL rt j) {host : String} (hlk : Cond.methodLinkNest own i y host ∈ lw_tbl) (hj : As.length = j) (hrc : rm.cells = mc) (hrs : rm.slots = ms) (hR : rm.frames + 1 ≤ R.frames ∧ 8 + (mL + 11) + rm.locals ≤ R.locals) (hroom : k + mc ≤ R.cells ∧ n + ms ≤ R.slots)
    (hP : va_P D vwCl wc H) (hD : va_D (fun _ => True) wc) (hF : ∀ q, va_A wc H.size q → A q) (hS : va_S A s.heap H locs) (hl : lv_has ls nL lv) (hst : st = As.reverse ++ rest) (hcat : (rest.map fun v => v.category).sum ≤ 8) (d : decode cc pc = .ok (.invokestatic i, 3)) :
    va_Run p l e R s m args below meth c H locs k n mc ms (F0 m pc ls st) rest (Qc H.size As.toArray) (va_A wc H.size) :=
  va_runSN (ws := .code y b mL rt :: TT) ⟨C.1, C.2.1, C.2.2.1, C.2.2.2.1, C.2.2.2.2.1⟩ (hM H.size) ⟨va_cnB j C.2.2.2.2.1 (tt_all (tt_code F.1.2.2)) rfl hrc hrs (C.2.2.2.2.2.1.2.1 _ hlk rfl) (C.2.2.2.2.1 _ F.1.2.1) F.2 hR, C.2.2.2.2.1 _ F.1.1, trivial⟩ ⟨pre_blind, fun U hU hW => ⟨rfl, by rw [hU], by rw [hU]; exact hP, C.2.2.2.2.2.1.call hS hU hW hF, hD⟩⟩ rfl hj hl.1 hst (lv_room hcat) d hroom
theorem free_all {A0 : Nat → Prop} {H0 : Heap} (hD : va_D A0 ws) (hS : va_S A0 H0 H locs) (hA : ∀ q, H0.size ≤ q → A0 q) : ∀ q, va_A ws H.size q → A0 q := by
  intro q h
  rcases h with ⟨k, x, h⟩ | h
  · exact hD.2 k (q, x) h
  · exact hA q (Nat.le_trans hS.1 h)
theorem free_nil {A0 : Nat → Prop} {H0 : Heap} (hS : va_S A0 H0 H locs) (hA : ∀ q, H0.size ≤ q → A0 q) : ∀ q, va_A [] H.size q → A0 q := by
  intro q h
  rcases h with ⟨k, x, h⟩ | h
  · simp at h
  · exact hA q (Nat.le_trans hS.1 h)
theorem keep_nil {H1 : Heap} (hP : va_P D vwCl ws H) (hk : ∀ q : Nat, q < H.size → ¬ va_A [] H.size q → H1[q]? = H[q]?) : va_P D vwCl ws H1 :=
  hP.kept (fun k x hx => hk x.1 (hP k x hx).lt (fun h => by
    rcases h with ⟨k2, y, h⟩ | h
    · simp at h
    · exact absurd (hP k x hx).lt (Nat.not_lt.mpr h)))
theorem D_nil {A0 : Nat → Prop} : va_D A0 [] := ⟨fun i j x y h => by simp at h, fun k x h => by simp at h⟩
theorem P_nil : va_P D vwCl [] H := fun k x h => by simp at h
end WW2
-- CALLROWS
theorem w_subP {D : va_G} {cl : List vw_C} {ws ws' : va_W} {H : Heap} (h : va_P D cl ws H) (is : List Nat) (hs : is.map (fun i => ws[i]?) = ws'.map some) : va_P D cl ws' H := by
  intro k q hk
  have h1 : (is.map (fun i => ws[i]?))[k]? = some (some q) := by rw [hs, List.getElem?_map, hk]; rfl
  rw [List.getElem?_map] at h1
  cases hi : is[k]? with
  | none => rw [hi] at h1; cases h1
  | some i => rw [hi] at h1; exact h i q (Option.some.inj h1)
theorem D_self {ws : va_W} {A : Nat → Prop} (h : va_D A ws) (sz : Nat) : va_D (va_A ws sz) ws := h.self
section WW3
variable {p : Program} {l : Launch} {e : Env} {R : Room} {s : State} {m : MethodId} {args : Array Value} {below : List Frame} {meth : Method} {c : Code} {D : va_G} {Z : List (ClassId × FieldType)} {T : Nat × Nat × Nat × Nat} {A : Nat → Prop} {cc : ByteArray} {own : String} {nL : Nat} {ret : Option FieldType} {Q : State → Prop} {k n : Nat} {ws : va_W} {pc : Nat} {lv lv' : List (Nat × Value)} {rest st : List Value}
variable {S : Type} {out : S → va_W} {mc ms : Nat} {y : MethodName} {as : List Value} {rm : Room}
variable {b : ByteArray} {mL i j q : Nat} {rt : Option FieldType} {As : List Value} {wc : va_W}
theorem w_callSI (C : Cq p s m args meth c D Z T A cc own nL ret) {Qp : Int32 → S → Prop} (hC : CtI l D Z T y b mL rm rt As [] out Qp mc ms) (F : FactsS y b mL rt j) (hlk : Cond.methodLink own i y ∈ TT) (hj : As.length = j) (hR : rm.frames + 1 ≤ R.frames ∧ 8 + (mL + 11) + rm.locals ≤ R.locals) (hrc : rm.cells = mc) (hrs : rm.slots = ms) (hroom : k + mc ≤ R.cells ∧ n + ms ≤ R.slots) (hst : st = As.reverse ++ rest) (hcat : (rest.map fun v => v.category).sum ≤ 8) (d : decode cc pc = .ok (.invokestatic i, 3)) (kk : ∀ (r : Int32) (u : S), Qp r u → ww p l e R s m args below meth c D A nL Q (k + mc) (n + ms) ws (pc + 3) lv (.int r :: rest)) : ww p l e R s m args below meth c D A nL Q k n ws pc lv st := by
  intro H locs ls h1 h2 h3 h4
  refine va_calli (c_runS C hC F hlk hj hrc hrs hR hroom P_nil D_nil (free_nil h3 C.2.2.2.2.2.2.1) h3 h4 hst hcat d) h3 (fun q _ h => free_nil h3 C.2.2.2.2.2.2.1 q h) (free_nil h3 C.2.2.2.2.2.2.1) (fun r u t H1 locs1 ht hvm hw hB hz hk1 hS1 => ?_)
  exact kk r u hw H1 locs1 ls (keep_nil h1 hk1) h2 hS1 h4
theorem w_callVI (C : Cq p s m args meth c D Z T A cc own nL ret) {Qp : Int32 → S → Prop} (hC : CtI l D Z T y b mL rm rt (.ref q :: As) ws out Qp mc ms) (F : FactsV y b mL rt j) (hsel : Cond.selects y.cls y y ∈ TT) (hlk : Cond.methodLink own i y ∈ TT) (hj : As.length = j) (hR : rm.frames + 1 ≤ R.frames ∧ 8 + (mL + 11) + rm.locals ≤ R.locals) (hrc : rm.cells = mc) (hrs : rm.slots = ms) (hroom : k + mc ≤ R.cells ∧ n + ms ≤ R.slots) {ci : Nat} {fs : List Value} {rr : vw_C} (q0 : Nat) (hq : ws[q0]? = some (q, .inr (ci, fs))) (hr : vwCl[ci]? = some rr) (hrn : rr.1 = y.cls) (had : ∀ u, (out u).map Prod.fst = ws.map Prod.fst) (hst : st = As.reverse ++ .ref q :: rest) (hcat : (rest.map fun v => v.category).sum ≤ 8) (d : decode cc pc = .ok (.invokevirtual i, 3)) (kk : ∀ (r : Int32) (u : S), Qp r u → ww p l e R s m args below meth c D A nL Q (k + mc) (n + ms) (out u) (pc + 3) lv (.int r :: rest)) : ww p l e R s m args below meth c D A nL Q k n ws pc lv st := by
  intro H locs ls h1 h2 h3 h4
  have hF := free_all h2 h3 C.2.2.2.2.2.2.1
  refine va_calli (c_runV C hC F hsel hlk hj hrc hrs hR hroom h1 (h2.weaken (fun _ _ _ _ => trivial)) hF h3 h4 hq hr hrn hst hcat d) h3 (fun q _ h => hF q h) hF (fun r u t H1 locs1 ht hvm hw hB hz hk1 hS1 => ?_)
  exact kk r u hw H1 locs1 ls (by rw [← ht]; exact hB) (h2.addr (had u)) hS1 h4
theorem w_callPI (C : Cq p s m args meth c D Z T A cc own nL ret) {Qp : Int32 → S → Prop} (hC : CtI l D Z T y b mL rm rt (.ref q :: As) wc out Qp mc ms) (F : FactsV y b mL rt j) (hsel : Cond.selects y.cls y y ∈ TT) (hlk : Cond.methodLink own i y ∈ TT) (hj : As.length = j) (hR : rm.frames + 1 ≤ R.frames ∧ 8 + (mL + 11) + rm.locals ≤ R.locals) (hrc : rm.cells = mc) (hrs : rm.slots = ms) (hroom : k + mc ≤ R.cells ∧ n + ms ≤ R.slots) {ci : Nat} {fs : List Value} {rr : vw_C} (q0 : Nat) (hq : wc[q0]? = some (q, .inr (ci, fs))) (hr : vwCl[ci]? = some rr) (hrn : rr.1 = y.cls) (wr : va_W) (g : S → va_W) (isC isR isP : List Nat) (hC1 : isC.map (fun i => ws[i]?) = wc.map some) (hR1 : isR.map (fun i => ws[i]?) = wr.map some) (hn1 : va_nd isC = true) (hn2 : va_nd isR = true) (hdis : ∀ i ∈ isR, i ∉ isC) (hn3 : va_nd isP = true) (hP1 : ∀ u, isP.map (fun i => (wr ++ out u)[i]?) = (g u).map some) (had : ∀ u, (out u).map Prod.fst = wc.map Prod.fst) (hst : st = As.reverse ++ .ref q :: rest) (hcat : (rest.map fun v => v.category).sum ≤ 8) (d : decode cc pc = .ok (.invokevirtual i, 3)) (kk : ∀ (r : Int32) (u : S), Qp r u → ww p l e R s m args below meth c D A nL Q (k + mc) (n + ms) (g u) (pc + 3) lv (.int r :: rest)) : ww p l e R s m args below meth c D A nL Q k n ws pc lv st := by
  intro H locs ls h1 h2 h3 h4
  have hF := va_free (wc := wc) h2 h3 C.2.2.2.2.2.2.1 isC hC1
  have hPc : va_P D vwCl wc H := w_subP h1 isC hC1
  have hDc : va_D A wc := h2.sub isC hn1 hC1
  refine va_calli (c_runV C hC F hsel hlk hj hrc hrs hR hroom hPc (hDc.weaken (fun _ _ _ _ => trivial)) hF h3 h4 hq hr hrn hst hcat d) h3 (fun q _ h => hF q h) hF (fun r u t H1 locs1 ht hvm hw hB hz hk1 hS1 => ?_)
  have hB1 : va_P D vwCl (out u) H1 := by rw [← ht]; exact hB
  obtain ⟨hP2, hD2⟩ := va_join h1 h2 isC isR hC1 hR1 hn2 hdis hk1 hF hB1 ((D_self hDc H.size).addr (had u))
  exact kk r u hw H1 locs1 ls (w_subP hP2 isP (hP1 u)) (hD2.sub isP hn3 (hP1 u)) hS1 h4
theorem w_callSIN (C : Cq p s m args meth c D Z T A cc own nL ret) {Qp : Int32 → S → Prop} (hC : CtI l D Z T y b mL rm rt As [] out Qp mc ms) (F : FactsS y b mL rt j) {host : String} (hlk : Cond.methodLinkNest own i y host ∈ lw_tbl) (hj : As.length = j) (hR : rm.frames + 1 ≤ R.frames ∧ 8 + (mL + 11) + rm.locals ≤ R.locals) (hrc : rm.cells = mc) (hrs : rm.slots = ms) (hroom : k + mc ≤ R.cells ∧ n + ms ≤ R.slots) (hst : st = As.reverse ++ rest) (hcat : (rest.map fun v => v.category).sum ≤ 8) (d : decode cc pc = .ok (.invokestatic i, 3)) (kk : ∀ (r : Int32) (u : S), Qp r u → ww p l e R s m args below meth c D A nL Q (k + mc) (n + ms) ws (pc + 3) lv (.int r :: rest)) : ww p l e R s m args below meth c D A nL Q k n ws pc lv st := by
  intro H locs ls h1 h2 h3 h4
  refine va_calli (c_runSN C hC F hlk hj hrc hrs hR hroom P_nil D_nil (free_nil h3 C.2.2.2.2.2.2.1) h3 h4 hst hcat d) h3 (fun q _ h => free_nil h3 C.2.2.2.2.2.2.1 q h) (free_nil h3 C.2.2.2.2.2.2.1) (fun r u t H1 locs1 ht hvm hw hB hz hk1 hS1 => ?_)
  exact kk r u hw H1 locs1 ls (keep_nil h1 hk1) h2 hS1 h4
theorem w_callVIN (C : Cq p s m args meth c D Z T A cc own nL ret) {Qp : Int32 → S → Prop} (hC : CtI l D Z T y b mL rm rt (.ref q :: As) ws out Qp mc ms) (F : FactsV y b mL rt j) (hsel : Cond.selects y.cls y y ∈ TT) {host : String} (hlk : Cond.methodLinkNest own i y host ∈ lw_tbl) (hj : As.length = j) (hR : rm.frames + 1 ≤ R.frames ∧ 8 + (mL + 11) + rm.locals ≤ R.locals) (hrc : rm.cells = mc) (hrs : rm.slots = ms) (hroom : k + mc ≤ R.cells ∧ n + ms ≤ R.slots) {ci : Nat} {fs : List Value} {rr : vw_C} (q0 : Nat) (hq : ws[q0]? = some (q, .inr (ci, fs))) (hr : vwCl[ci]? = some rr) (hrn : rr.1 = y.cls) (had : ∀ u, (out u).map Prod.fst = ws.map Prod.fst) (hst : st = As.reverse ++ .ref q :: rest) (hcat : (rest.map fun v => v.category).sum ≤ 8) (d : decode cc pc = .ok (.invokevirtual i, 3)) (kk : ∀ (r : Int32) (u : S), Qp r u → ww p l e R s m args below meth c D A nL Q (k + mc) (n + ms) (out u) (pc + 3) lv (.int r :: rest)) : ww p l e R s m args below meth c D A nL Q k n ws pc lv st := by
  intro H locs ls h1 h2 h3 h4
  have hF := free_all h2 h3 C.2.2.2.2.2.2.1
  refine va_calli (c_runVN C hC F hsel hlk hj hrc hrs hR hroom h1 (h2.weaken (fun _ _ _ _ => trivial)) hF h3 h4 hq hr hrn hst hcat d) h3 (fun q _ h => hF q h) hF (fun r u t H1 locs1 ht hvm hw hB hz hk1 hS1 => ?_)
  exact kk r u hw H1 locs1 ls (by rw [← ht]; exact hB) (h2.addr (had u)) hS1 h4
theorem w_callPIN (C : Cq p s m args meth c D Z T A cc own nL ret) {Qp : Int32 → S → Prop} (hC : CtI l D Z T y b mL rm rt (.ref q :: As) wc out Qp mc ms) (F : FactsV y b mL rt j) (hsel : Cond.selects y.cls y y ∈ TT) {host : String} (hlk : Cond.methodLinkNest own i y host ∈ lw_tbl) (hj : As.length = j) (hR : rm.frames + 1 ≤ R.frames ∧ 8 + (mL + 11) + rm.locals ≤ R.locals) (hrc : rm.cells = mc) (hrs : rm.slots = ms) (hroom : k + mc ≤ R.cells ∧ n + ms ≤ R.slots) {ci : Nat} {fs : List Value} {rr : vw_C} (q0 : Nat) (hq : wc[q0]? = some (q, .inr (ci, fs))) (hr : vwCl[ci]? = some rr) (hrn : rr.1 = y.cls) (wr : va_W) (g : S → va_W) (isC isR isP : List Nat) (hC1 : isC.map (fun i => ws[i]?) = wc.map some) (hR1 : isR.map (fun i => ws[i]?) = wr.map some) (hn1 : va_nd isC = true) (hn2 : va_nd isR = true) (hdis : ∀ i ∈ isR, i ∉ isC) (hn3 : va_nd isP = true) (hP1 : ∀ u, isP.map (fun i => (wr ++ out u)[i]?) = (g u).map some) (had : ∀ u, (out u).map Prod.fst = wc.map Prod.fst) (hst : st = As.reverse ++ .ref q :: rest) (hcat : (rest.map fun v => v.category).sum ≤ 8) (d : decode cc pc = .ok (.invokevirtual i, 3)) (kk : ∀ (r : Int32) (u : S), Qp r u → ww p l e R s m args below meth c D A nL Q (k + mc) (n + ms) (g u) (pc + 3) lv (.int r :: rest)) : ww p l e R s m args below meth c D A nL Q k n ws pc lv st := by
  intro H locs ls h1 h2 h3 h4
  have hF := va_free (wc := wc) h2 h3 C.2.2.2.2.2.2.1 isC hC1
  have hPc : va_P D vwCl wc H := w_subP h1 isC hC1
  have hDc : va_D A wc := h2.sub isC hn1 hC1
  refine va_calli (c_runVN C hC F hsel hlk hj hrc hrs hR hroom hPc (hDc.weaken (fun _ _ _ _ => trivial)) hF h3 h4 hq hr hrn hst hcat d) h3 (fun q _ h => hF q h) hF (fun r u t H1 locs1 ht hvm hw hB hz hk1 hS1 => ?_)
  have hB1 : va_P D vwCl (out u) H1 := by rw [← ht]; exact hB
  obtain ⟨hP2, hD2⟩ := va_join h1 h2 isC isR hC1 hR1 hn2 hdis hk1 hF hB1 ((D_self hDc H.size).addr (had u))
  exact kk r u hw H1 locs1 ls (w_subP hP2 isP (hP1 u)) (hD2.sub isP hn3 (hP1 u)) hS1 h4
theorem w_callSL (C : Cq p s m args meth c D Z T A cc own nL ret) {Qp : Int64 → S → Prop} (hC : CtL l D Z T y b mL rm rt As [] out Qp mc ms) (F : FactsS y b mL rt j) (hlk : Cond.methodLink own i y ∈ TT) (hj : As.length = j) (hR : rm.frames + 1 ≤ R.frames ∧ 8 + (mL + 11) + rm.locals ≤ R.locals) (hrc : rm.cells = mc) (hrs : rm.slots = ms) (hroom : k + mc ≤ R.cells ∧ n + ms ≤ R.slots) (hst : st = As.reverse ++ rest) (hcat : (rest.map fun v => v.category).sum ≤ 8) (d : decode cc pc = .ok (.invokestatic i, 3)) (kk : ∀ (r : Int64) (u : S), Qp r u → ww p l e R s m args below meth c D A nL Q (k + mc) (n + ms) ws (pc + 3) lv (.long r :: rest)) : ww p l e R s m args below meth c D A nL Q k n ws pc lv st := by
  intro H locs ls h1 h2 h3 h4
  refine va_calll (c_runS C hC F hlk hj hrc hrs hR hroom P_nil D_nil (free_nil h3 C.2.2.2.2.2.2.1) h3 h4 hst hcat d) h3 (fun q _ h => free_nil h3 C.2.2.2.2.2.2.1 q h) (free_nil h3 C.2.2.2.2.2.2.1) (fun r u t H1 locs1 ht hvm hw hB hz hk1 hS1 => ?_)
  exact kk r u hw H1 locs1 ls (keep_nil h1 hk1) h2 hS1 h4
theorem w_callVL (C : Cq p s m args meth c D Z T A cc own nL ret) {Qp : Int64 → S → Prop} (hC : CtL l D Z T y b mL rm rt (.ref q :: As) ws out Qp mc ms) (F : FactsV y b mL rt j) (hsel : Cond.selects y.cls y y ∈ TT) (hlk : Cond.methodLink own i y ∈ TT) (hj : As.length = j) (hR : rm.frames + 1 ≤ R.frames ∧ 8 + (mL + 11) + rm.locals ≤ R.locals) (hrc : rm.cells = mc) (hrs : rm.slots = ms) (hroom : k + mc ≤ R.cells ∧ n + ms ≤ R.slots) {ci : Nat} {fs : List Value} {rr : vw_C} (q0 : Nat) (hq : ws[q0]? = some (q, .inr (ci, fs))) (hr : vwCl[ci]? = some rr) (hrn : rr.1 = y.cls) (had : ∀ u, (out u).map Prod.fst = ws.map Prod.fst) (hst : st = As.reverse ++ .ref q :: rest) (hcat : (rest.map fun v => v.category).sum ≤ 8) (d : decode cc pc = .ok (.invokevirtual i, 3)) (kk : ∀ (r : Int64) (u : S), Qp r u → ww p l e R s m args below meth c D A nL Q (k + mc) (n + ms) (out u) (pc + 3) lv (.long r :: rest)) : ww p l e R s m args below meth c D A nL Q k n ws pc lv st := by
  intro H locs ls h1 h2 h3 h4
  have hF := free_all h2 h3 C.2.2.2.2.2.2.1
  refine va_calll (c_runV C hC F hsel hlk hj hrc hrs hR hroom h1 (h2.weaken (fun _ _ _ _ => trivial)) hF h3 h4 hq hr hrn hst hcat d) h3 (fun q _ h => hF q h) hF (fun r u t H1 locs1 ht hvm hw hB hz hk1 hS1 => ?_)
  exact kk r u hw H1 locs1 ls (by rw [← ht]; exact hB) (h2.addr (had u)) hS1 h4
theorem w_callPL (C : Cq p s m args meth c D Z T A cc own nL ret) {Qp : Int64 → S → Prop} (hC : CtL l D Z T y b mL rm rt (.ref q :: As) wc out Qp mc ms) (F : FactsV y b mL rt j) (hsel : Cond.selects y.cls y y ∈ TT) (hlk : Cond.methodLink own i y ∈ TT) (hj : As.length = j) (hR : rm.frames + 1 ≤ R.frames ∧ 8 + (mL + 11) + rm.locals ≤ R.locals) (hrc : rm.cells = mc) (hrs : rm.slots = ms) (hroom : k + mc ≤ R.cells ∧ n + ms ≤ R.slots) {ci : Nat} {fs : List Value} {rr : vw_C} (q0 : Nat) (hq : wc[q0]? = some (q, .inr (ci, fs))) (hr : vwCl[ci]? = some rr) (hrn : rr.1 = y.cls) (wr : va_W) (g : S → va_W) (isC isR isP : List Nat) (hC1 : isC.map (fun i => ws[i]?) = wc.map some) (hR1 : isR.map (fun i => ws[i]?) = wr.map some) (hn1 : va_nd isC = true) (hn2 : va_nd isR = true) (hdis : ∀ i ∈ isR, i ∉ isC) (hn3 : va_nd isP = true) (hP1 : ∀ u, isP.map (fun i => (wr ++ out u)[i]?) = (g u).map some) (had : ∀ u, (out u).map Prod.fst = wc.map Prod.fst) (hst : st = As.reverse ++ .ref q :: rest) (hcat : (rest.map fun v => v.category).sum ≤ 8) (d : decode cc pc = .ok (.invokevirtual i, 3)) (kk : ∀ (r : Int64) (u : S), Qp r u → ww p l e R s m args below meth c D A nL Q (k + mc) (n + ms) (g u) (pc + 3) lv (.long r :: rest)) : ww p l e R s m args below meth c D A nL Q k n ws pc lv st := by
  intro H locs ls h1 h2 h3 h4
  have hF := va_free (wc := wc) h2 h3 C.2.2.2.2.2.2.1 isC hC1
  have hPc : va_P D vwCl wc H := w_subP h1 isC hC1
  have hDc : va_D A wc := h2.sub isC hn1 hC1
  refine va_calll (c_runV C hC F hsel hlk hj hrc hrs hR hroom hPc (hDc.weaken (fun _ _ _ _ => trivial)) hF h3 h4 hq hr hrn hst hcat d) h3 (fun q _ h => hF q h) hF (fun r u t H1 locs1 ht hvm hw hB hz hk1 hS1 => ?_)
  have hB1 : va_P D vwCl (out u) H1 := by rw [← ht]; exact hB
  obtain ⟨hP2, hD2⟩ := va_join h1 h2 isC isR hC1 hR1 hn2 hdis hk1 hF hB1 ((D_self hDc H.size).addr (had u))
  exact kk r u hw H1 locs1 ls (w_subP hP2 isP (hP1 u)) (hD2.sub isP hn3 (hP1 u)) hS1 h4
theorem w_callSLN (C : Cq p s m args meth c D Z T A cc own nL ret) {Qp : Int64 → S → Prop} (hC : CtL l D Z T y b mL rm rt As [] out Qp mc ms) (F : FactsS y b mL rt j) {host : String} (hlk : Cond.methodLinkNest own i y host ∈ lw_tbl) (hj : As.length = j) (hR : rm.frames + 1 ≤ R.frames ∧ 8 + (mL + 11) + rm.locals ≤ R.locals) (hrc : rm.cells = mc) (hrs : rm.slots = ms) (hroom : k + mc ≤ R.cells ∧ n + ms ≤ R.slots) (hst : st = As.reverse ++ rest) (hcat : (rest.map fun v => v.category).sum ≤ 8) (d : decode cc pc = .ok (.invokestatic i, 3)) (kk : ∀ (r : Int64) (u : S), Qp r u → ww p l e R s m args below meth c D A nL Q (k + mc) (n + ms) ws (pc + 3) lv (.long r :: rest)) : ww p l e R s m args below meth c D A nL Q k n ws pc lv st := by
  intro H locs ls h1 h2 h3 h4
  refine va_calll (c_runSN C hC F hlk hj hrc hrs hR hroom P_nil D_nil (free_nil h3 C.2.2.2.2.2.2.1) h3 h4 hst hcat d) h3 (fun q _ h => free_nil h3 C.2.2.2.2.2.2.1 q h) (free_nil h3 C.2.2.2.2.2.2.1) (fun r u t H1 locs1 ht hvm hw hB hz hk1 hS1 => ?_)
  exact kk r u hw H1 locs1 ls (keep_nil h1 hk1) h2 hS1 h4
theorem w_callVLN (C : Cq p s m args meth c D Z T A cc own nL ret) {Qp : Int64 → S → Prop} (hC : CtL l D Z T y b mL rm rt (.ref q :: As) ws out Qp mc ms) (F : FactsV y b mL rt j) (hsel : Cond.selects y.cls y y ∈ TT) {host : String} (hlk : Cond.methodLinkNest own i y host ∈ lw_tbl) (hj : As.length = j) (hR : rm.frames + 1 ≤ R.frames ∧ 8 + (mL + 11) + rm.locals ≤ R.locals) (hrc : rm.cells = mc) (hrs : rm.slots = ms) (hroom : k + mc ≤ R.cells ∧ n + ms ≤ R.slots) {ci : Nat} {fs : List Value} {rr : vw_C} (q0 : Nat) (hq : ws[q0]? = some (q, .inr (ci, fs))) (hr : vwCl[ci]? = some rr) (hrn : rr.1 = y.cls) (had : ∀ u, (out u).map Prod.fst = ws.map Prod.fst) (hst : st = As.reverse ++ .ref q :: rest) (hcat : (rest.map fun v => v.category).sum ≤ 8) (d : decode cc pc = .ok (.invokevirtual i, 3)) (kk : ∀ (r : Int64) (u : S), Qp r u → ww p l e R s m args below meth c D A nL Q (k + mc) (n + ms) (out u) (pc + 3) lv (.long r :: rest)) : ww p l e R s m args below meth c D A nL Q k n ws pc lv st := by
  intro H locs ls h1 h2 h3 h4
  have hF := free_all h2 h3 C.2.2.2.2.2.2.1
  refine va_calll (c_runVN C hC F hsel hlk hj hrc hrs hR hroom h1 (h2.weaken (fun _ _ _ _ => trivial)) hF h3 h4 hq hr hrn hst hcat d) h3 (fun q _ h => hF q h) hF (fun r u t H1 locs1 ht hvm hw hB hz hk1 hS1 => ?_)
  exact kk r u hw H1 locs1 ls (by rw [← ht]; exact hB) (h2.addr (had u)) hS1 h4
theorem w_callPLN (C : Cq p s m args meth c D Z T A cc own nL ret) {Qp : Int64 → S → Prop} (hC : CtL l D Z T y b mL rm rt (.ref q :: As) wc out Qp mc ms) (F : FactsV y b mL rt j) (hsel : Cond.selects y.cls y y ∈ TT) {host : String} (hlk : Cond.methodLinkNest own i y host ∈ lw_tbl) (hj : As.length = j) (hR : rm.frames + 1 ≤ R.frames ∧ 8 + (mL + 11) + rm.locals ≤ R.locals) (hrc : rm.cells = mc) (hrs : rm.slots = ms) (hroom : k + mc ≤ R.cells ∧ n + ms ≤ R.slots) {ci : Nat} {fs : List Value} {rr : vw_C} (q0 : Nat) (hq : wc[q0]? = some (q, .inr (ci, fs))) (hr : vwCl[ci]? = some rr) (hrn : rr.1 = y.cls) (wr : va_W) (g : S → va_W) (isC isR isP : List Nat) (hC1 : isC.map (fun i => ws[i]?) = wc.map some) (hR1 : isR.map (fun i => ws[i]?) = wr.map some) (hn1 : va_nd isC = true) (hn2 : va_nd isR = true) (hdis : ∀ i ∈ isR, i ∉ isC) (hn3 : va_nd isP = true) (hP1 : ∀ u, isP.map (fun i => (wr ++ out u)[i]?) = (g u).map some) (had : ∀ u, (out u).map Prod.fst = wc.map Prod.fst) (hst : st = As.reverse ++ .ref q :: rest) (hcat : (rest.map fun v => v.category).sum ≤ 8) (d : decode cc pc = .ok (.invokevirtual i, 3)) (kk : ∀ (r : Int64) (u : S), Qp r u → ww p l e R s m args below meth c D A nL Q (k + mc) (n + ms) (g u) (pc + 3) lv (.long r :: rest)) : ww p l e R s m args below meth c D A nL Q k n ws pc lv st := by
  intro H locs ls h1 h2 h3 h4
  have hF := va_free (wc := wc) h2 h3 C.2.2.2.2.2.2.1 isC hC1
  have hPc : va_P D vwCl wc H := w_subP h1 isC hC1
  have hDc : va_D A wc := h2.sub isC hn1 hC1
  refine va_calll (c_runVN C hC F hsel hlk hj hrc hrs hR hroom hPc (hDc.weaken (fun _ _ _ _ => trivial)) hF h3 h4 hq hr hrn hst hcat d) h3 (fun q _ h => hF q h) hF (fun r u t H1 locs1 ht hvm hw hB hz hk1 hS1 => ?_)
  have hB1 : va_P D vwCl (out u) H1 := by rw [← ht]; exact hB
  obtain ⟨hP2, hD2⟩ := va_join h1 h2 isC isR hC1 hR1 hn2 hdis hk1 hF hB1 ((D_self hDc H.size).addr (had u))
  exact kk r u hw H1 locs1 ls (w_subP hP2 isP (hP1 u)) (hD2.sub isP hn3 (hP1 u)) hS1 h4
theorem w_callSV (C : Cq p s m args meth c D Z T A cc own nL ret) {Qp : S → Prop} (hC : CtV l D Z T y b mL rm rt As [] out Qp mc ms) (F : FactsS y b mL rt j) (hlk : Cond.methodLink own i y ∈ TT) (hj : As.length = j) (hR : rm.frames + 1 ≤ R.frames ∧ 8 + (mL + 11) + rm.locals ≤ R.locals) (hrc : rm.cells = mc) (hrs : rm.slots = ms) (hroom : k + mc ≤ R.cells ∧ n + ms ≤ R.slots) (hst : st = As.reverse ++ rest) (hcat : (rest.map fun v => v.category).sum ≤ 8) (d : decode cc pc = .ok (.invokestatic i, 3)) (kk : ∀ (u : S), Qp u → ww p l e R s m args below meth c D A nL Q (k + mc) (n + ms) ws (pc + 3) lv rest) : ww p l e R s m args below meth c D A nL Q k n ws pc lv st := by
  intro H locs ls h1 h2 h3 h4
  refine va_callv (c_runS C hC F hlk hj hrc hrs hR hroom P_nil D_nil (free_nil h3 C.2.2.2.2.2.2.1) h3 h4 hst hcat d) h3 (fun q _ h => free_nil h3 C.2.2.2.2.2.2.1 q h) (free_nil h3 C.2.2.2.2.2.2.1) (fun u t H1 locs1 ht hvm hw hB hz hk1 hS1 => ?_)
  exact kk u hw H1 locs1 ls (keep_nil h1 hk1) h2 hS1 h4
theorem w_callVV (C : Cq p s m args meth c D Z T A cc own nL ret) {Qp : S → Prop} (hC : CtV l D Z T y b mL rm rt (.ref q :: As) ws out Qp mc ms) (F : FactsV y b mL rt j) (hsel : Cond.selects y.cls y y ∈ TT) (hlk : Cond.methodLink own i y ∈ TT) (hj : As.length = j) (hR : rm.frames + 1 ≤ R.frames ∧ 8 + (mL + 11) + rm.locals ≤ R.locals) (hrc : rm.cells = mc) (hrs : rm.slots = ms) (hroom : k + mc ≤ R.cells ∧ n + ms ≤ R.slots) {ci : Nat} {fs : List Value} {rr : vw_C} (q0 : Nat) (hq : ws[q0]? = some (q, .inr (ci, fs))) (hr : vwCl[ci]? = some rr) (hrn : rr.1 = y.cls) (had : ∀ u, (out u).map Prod.fst = ws.map Prod.fst) (hst : st = As.reverse ++ .ref q :: rest) (hcat : (rest.map fun v => v.category).sum ≤ 8) (d : decode cc pc = .ok (.invokevirtual i, 3)) (kk : ∀ (u : S), Qp u → ww p l e R s m args below meth c D A nL Q (k + mc) (n + ms) (out u) (pc + 3) lv rest) : ww p l e R s m args below meth c D A nL Q k n ws pc lv st := by
  intro H locs ls h1 h2 h3 h4
  have hF := free_all h2 h3 C.2.2.2.2.2.2.1
  refine va_callv (c_runV C hC F hsel hlk hj hrc hrs hR hroom h1 (h2.weaken (fun _ _ _ _ => trivial)) hF h3 h4 hq hr hrn hst hcat d) h3 (fun q _ h => hF q h) hF (fun u t H1 locs1 ht hvm hw hB hz hk1 hS1 => ?_)
  exact kk u hw H1 locs1 ls (by rw [← ht]; exact hB) (h2.addr (had u)) hS1 h4
theorem w_callPV (C : Cq p s m args meth c D Z T A cc own nL ret) {Qp : S → Prop} (hC : CtV l D Z T y b mL rm rt (.ref q :: As) wc out Qp mc ms) (F : FactsV y b mL rt j) (hsel : Cond.selects y.cls y y ∈ TT) (hlk : Cond.methodLink own i y ∈ TT) (hj : As.length = j) (hR : rm.frames + 1 ≤ R.frames ∧ 8 + (mL + 11) + rm.locals ≤ R.locals) (hrc : rm.cells = mc) (hrs : rm.slots = ms) (hroom : k + mc ≤ R.cells ∧ n + ms ≤ R.slots) {ci : Nat} {fs : List Value} {rr : vw_C} (q0 : Nat) (hq : wc[q0]? = some (q, .inr (ci, fs))) (hr : vwCl[ci]? = some rr) (hrn : rr.1 = y.cls) (wr : va_W) (g : S → va_W) (isC isR isP : List Nat) (hC1 : isC.map (fun i => ws[i]?) = wc.map some) (hR1 : isR.map (fun i => ws[i]?) = wr.map some) (hn1 : va_nd isC = true) (hn2 : va_nd isR = true) (hdis : ∀ i ∈ isR, i ∉ isC) (hn3 : va_nd isP = true) (hP1 : ∀ u, isP.map (fun i => (wr ++ out u)[i]?) = (g u).map some) (had : ∀ u, (out u).map Prod.fst = wc.map Prod.fst) (hst : st = As.reverse ++ .ref q :: rest) (hcat : (rest.map fun v => v.category).sum ≤ 8) (d : decode cc pc = .ok (.invokevirtual i, 3)) (kk : ∀ (u : S), Qp u → ww p l e R s m args below meth c D A nL Q (k + mc) (n + ms) (g u) (pc + 3) lv rest) : ww p l e R s m args below meth c D A nL Q k n ws pc lv st := by
  intro H locs ls h1 h2 h3 h4
  have hF := va_free (wc := wc) h2 h3 C.2.2.2.2.2.2.1 isC hC1
  have hPc : va_P D vwCl wc H := w_subP h1 isC hC1
  have hDc : va_D A wc := h2.sub isC hn1 hC1
  refine va_callv (c_runV C hC F hsel hlk hj hrc hrs hR hroom hPc (hDc.weaken (fun _ _ _ _ => trivial)) hF h3 h4 hq hr hrn hst hcat d) h3 (fun q _ h => hF q h) hF (fun u t H1 locs1 ht hvm hw hB hz hk1 hS1 => ?_)
  have hB1 : va_P D vwCl (out u) H1 := by rw [← ht]; exact hB
  obtain ⟨hP2, hD2⟩ := va_join h1 h2 isC isR hC1 hR1 hn2 hdis hk1 hF hB1 ((D_self hDc H.size).addr (had u))
  exact kk u hw H1 locs1 ls (w_subP hP2 isP (hP1 u)) (hD2.sub isP hn3 (hP1 u)) hS1 h4
theorem w_callSVN (C : Cq p s m args meth c D Z T A cc own nL ret) {Qp : S → Prop} (hC : CtV l D Z T y b mL rm rt As [] out Qp mc ms) (F : FactsS y b mL rt j) {host : String} (hlk : Cond.methodLinkNest own i y host ∈ lw_tbl) (hj : As.length = j) (hR : rm.frames + 1 ≤ R.frames ∧ 8 + (mL + 11) + rm.locals ≤ R.locals) (hrc : rm.cells = mc) (hrs : rm.slots = ms) (hroom : k + mc ≤ R.cells ∧ n + ms ≤ R.slots) (hst : st = As.reverse ++ rest) (hcat : (rest.map fun v => v.category).sum ≤ 8) (d : decode cc pc = .ok (.invokestatic i, 3)) (kk : ∀ (u : S), Qp u → ww p l e R s m args below meth c D A nL Q (k + mc) (n + ms) ws (pc + 3) lv rest) : ww p l e R s m args below meth c D A nL Q k n ws pc lv st := by
  intro H locs ls h1 h2 h3 h4
  refine va_callv (c_runSN C hC F hlk hj hrc hrs hR hroom P_nil D_nil (free_nil h3 C.2.2.2.2.2.2.1) h3 h4 hst hcat d) h3 (fun q _ h => free_nil h3 C.2.2.2.2.2.2.1 q h) (free_nil h3 C.2.2.2.2.2.2.1) (fun u t H1 locs1 ht hvm hw hB hz hk1 hS1 => ?_)
  exact kk u hw H1 locs1 ls (keep_nil h1 hk1) h2 hS1 h4
theorem w_callVVN (C : Cq p s m args meth c D Z T A cc own nL ret) {Qp : S → Prop} (hC : CtV l D Z T y b mL rm rt (.ref q :: As) ws out Qp mc ms) (F : FactsV y b mL rt j) (hsel : Cond.selects y.cls y y ∈ TT) {host : String} (hlk : Cond.methodLinkNest own i y host ∈ lw_tbl) (hj : As.length = j) (hR : rm.frames + 1 ≤ R.frames ∧ 8 + (mL + 11) + rm.locals ≤ R.locals) (hrc : rm.cells = mc) (hrs : rm.slots = ms) (hroom : k + mc ≤ R.cells ∧ n + ms ≤ R.slots) {ci : Nat} {fs : List Value} {rr : vw_C} (q0 : Nat) (hq : ws[q0]? = some (q, .inr (ci, fs))) (hr : vwCl[ci]? = some rr) (hrn : rr.1 = y.cls) (had : ∀ u, (out u).map Prod.fst = ws.map Prod.fst) (hst : st = As.reverse ++ .ref q :: rest) (hcat : (rest.map fun v => v.category).sum ≤ 8) (d : decode cc pc = .ok (.invokevirtual i, 3)) (kk : ∀ (u : S), Qp u → ww p l e R s m args below meth c D A nL Q (k + mc) (n + ms) (out u) (pc + 3) lv rest) : ww p l e R s m args below meth c D A nL Q k n ws pc lv st := by
  intro H locs ls h1 h2 h3 h4
  have hF := free_all h2 h3 C.2.2.2.2.2.2.1
  refine va_callv (c_runVN C hC F hsel hlk hj hrc hrs hR hroom h1 (h2.weaken (fun _ _ _ _ => trivial)) hF h3 h4 hq hr hrn hst hcat d) h3 (fun q _ h => hF q h) hF (fun u t H1 locs1 ht hvm hw hB hz hk1 hS1 => ?_)
  exact kk u hw H1 locs1 ls (by rw [← ht]; exact hB) (h2.addr (had u)) hS1 h4
theorem w_callPVN (C : Cq p s m args meth c D Z T A cc own nL ret) {Qp : S → Prop} (hC : CtV l D Z T y b mL rm rt (.ref q :: As) wc out Qp mc ms) (F : FactsV y b mL rt j) (hsel : Cond.selects y.cls y y ∈ TT) {host : String} (hlk : Cond.methodLinkNest own i y host ∈ lw_tbl) (hj : As.length = j) (hR : rm.frames + 1 ≤ R.frames ∧ 8 + (mL + 11) + rm.locals ≤ R.locals) (hrc : rm.cells = mc) (hrs : rm.slots = ms) (hroom : k + mc ≤ R.cells ∧ n + ms ≤ R.slots) {ci : Nat} {fs : List Value} {rr : vw_C} (q0 : Nat) (hq : wc[q0]? = some (q, .inr (ci, fs))) (hr : vwCl[ci]? = some rr) (hrn : rr.1 = y.cls) (wr : va_W) (g : S → va_W) (isC isR isP : List Nat) (hC1 : isC.map (fun i => ws[i]?) = wc.map some) (hR1 : isR.map (fun i => ws[i]?) = wr.map some) (hn1 : va_nd isC = true) (hn2 : va_nd isR = true) (hdis : ∀ i ∈ isR, i ∉ isC) (hn3 : va_nd isP = true) (hP1 : ∀ u, isP.map (fun i => (wr ++ out u)[i]?) = (g u).map some) (had : ∀ u, (out u).map Prod.fst = wc.map Prod.fst) (hst : st = As.reverse ++ .ref q :: rest) (hcat : (rest.map fun v => v.category).sum ≤ 8) (d : decode cc pc = .ok (.invokevirtual i, 3)) (kk : ∀ (u : S), Qp u → ww p l e R s m args below meth c D A nL Q (k + mc) (n + ms) (g u) (pc + 3) lv rest) : ww p l e R s m args below meth c D A nL Q k n ws pc lv st := by
  intro H locs ls h1 h2 h3 h4
  have hF := va_free (wc := wc) h2 h3 C.2.2.2.2.2.2.1 isC hC1
  have hPc : va_P D vwCl wc H := w_subP h1 isC hC1
  have hDc : va_D A wc := h2.sub isC hn1 hC1
  refine va_callv (c_runVN C hC F hsel hlk hj hrc hrs hR hroom hPc (hDc.weaken (fun _ _ _ _ => trivial)) hF h3 h4 hq hr hrn hst hcat d) h3 (fun q _ h => hF q h) hF (fun u t H1 locs1 ht hvm hw hB hz hk1 hS1 => ?_)
  have hB1 : va_P D vwCl (out u) H1 := by rw [← ht]; exact hB
  obtain ⟨hP2, hD2⟩ := va_join h1 h2 isC isR hC1 hR1 hn2 hdis hk1 hF hB1 ((D_self hDc H.size).addr (had u))
  exact kk u hw H1 locs1 ls (w_subP hP2 isP (hP1 u)) (hD2.sub isP hn3 (hP1 u)) hS1 h4
theorem w_callSQ (C : Cq p s m args meth c D Z T A cc own nL ret) {Qp : Option Nat → S → Prop} (hC : CtQ l D Z T y b mL rm rt As [] out Qp mc ms) (F : FactsS y b mL rt j) (hlk : Cond.methodLink own i y ∈ TT) (hj : As.length = j) (hR : rm.frames + 1 ≤ R.frames ∧ 8 + (mL + 11) + rm.locals ≤ R.locals) (hrc : rm.cells = mc) (hrs : rm.slots = ms) (hroom : k + mc ≤ R.cells ∧ n + ms ≤ R.slots) (hst : st = As.reverse ++ rest) (hcat : (rest.map fun v => v.category).sum ≤ 8) (d : decode cc pc = .ok (.invokestatic i, 3)) (kk : ∀ (r : Option Nat) (u : S), Qp r u → ww p l e R s m args below meth c D A nL Q (k + mc) (n + ms) ws (pc + 3) lv (va_rf r :: rest)) : ww p l e R s m args below meth c D A nL Q k n ws pc lv st := by
  intro H locs ls h1 h2 h3 h4
  refine va_callq (c_runS C hC F hlk hj hrc hrs hR hroom P_nil D_nil (free_nil h3 C.2.2.2.2.2.2.1) h3 h4 hst hcat d) h3 (fun q _ h => free_nil h3 C.2.2.2.2.2.2.1 q h) (free_nil h3 C.2.2.2.2.2.2.1) (fun r u t H1 locs1 ht hvm hw hB hz hk1 hS1 => ?_)
  exact kk r u hw H1 locs1 ls (keep_nil h1 hk1) h2 hS1 h4
theorem w_callVQ (C : Cq p s m args meth c D Z T A cc own nL ret) {Qp : Option Nat → S → Prop} (hC : CtQ l D Z T y b mL rm rt (.ref q :: As) ws out Qp mc ms) (F : FactsV y b mL rt j) (hsel : Cond.selects y.cls y y ∈ TT) (hlk : Cond.methodLink own i y ∈ TT) (hj : As.length = j) (hR : rm.frames + 1 ≤ R.frames ∧ 8 + (mL + 11) + rm.locals ≤ R.locals) (hrc : rm.cells = mc) (hrs : rm.slots = ms) (hroom : k + mc ≤ R.cells ∧ n + ms ≤ R.slots) {ci : Nat} {fs : List Value} {rr : vw_C} (q0 : Nat) (hq : ws[q0]? = some (q, .inr (ci, fs))) (hr : vwCl[ci]? = some rr) (hrn : rr.1 = y.cls) (had : ∀ u, (out u).map Prod.fst = ws.map Prod.fst) (hst : st = As.reverse ++ .ref q :: rest) (hcat : (rest.map fun v => v.category).sum ≤ 8) (d : decode cc pc = .ok (.invokevirtual i, 3)) (kk : ∀ (r : Option Nat) (u : S), Qp r u → ww p l e R s m args below meth c D A nL Q (k + mc) (n + ms) (out u) (pc + 3) lv (va_rf r :: rest)) : ww p l e R s m args below meth c D A nL Q k n ws pc lv st := by
  intro H locs ls h1 h2 h3 h4
  have hF := free_all h2 h3 C.2.2.2.2.2.2.1
  refine va_callq (c_runV C hC F hsel hlk hj hrc hrs hR hroom h1 (h2.weaken (fun _ _ _ _ => trivial)) hF h3 h4 hq hr hrn hst hcat d) h3 (fun q _ h => hF q h) hF (fun r u t H1 locs1 ht hvm hw hB hz hk1 hS1 => ?_)
  exact kk r u hw H1 locs1 ls (by rw [← ht]; exact hB) (h2.addr (had u)) hS1 h4
theorem w_callPQ (C : Cq p s m args meth c D Z T A cc own nL ret) {Qp : Option Nat → S → Prop} (hC : CtQ l D Z T y b mL rm rt (.ref q :: As) wc out Qp mc ms) (F : FactsV y b mL rt j) (hsel : Cond.selects y.cls y y ∈ TT) (hlk : Cond.methodLink own i y ∈ TT) (hj : As.length = j) (hR : rm.frames + 1 ≤ R.frames ∧ 8 + (mL + 11) + rm.locals ≤ R.locals) (hrc : rm.cells = mc) (hrs : rm.slots = ms) (hroom : k + mc ≤ R.cells ∧ n + ms ≤ R.slots) {ci : Nat} {fs : List Value} {rr : vw_C} (q0 : Nat) (hq : wc[q0]? = some (q, .inr (ci, fs))) (hr : vwCl[ci]? = some rr) (hrn : rr.1 = y.cls) (wr : va_W) (g : S → va_W) (isC isR isP : List Nat) (hC1 : isC.map (fun i => ws[i]?) = wc.map some) (hR1 : isR.map (fun i => ws[i]?) = wr.map some) (hn1 : va_nd isC = true) (hn2 : va_nd isR = true) (hdis : ∀ i ∈ isR, i ∉ isC) (hn3 : va_nd isP = true) (hP1 : ∀ u, isP.map (fun i => (wr ++ out u)[i]?) = (g u).map some) (had : ∀ u, (out u).map Prod.fst = wc.map Prod.fst) (hst : st = As.reverse ++ .ref q :: rest) (hcat : (rest.map fun v => v.category).sum ≤ 8) (d : decode cc pc = .ok (.invokevirtual i, 3)) (kk : ∀ (r : Option Nat) (u : S), Qp r u → ww p l e R s m args below meth c D A nL Q (k + mc) (n + ms) (g u) (pc + 3) lv (va_rf r :: rest)) : ww p l e R s m args below meth c D A nL Q k n ws pc lv st := by
  intro H locs ls h1 h2 h3 h4
  have hF := va_free (wc := wc) h2 h3 C.2.2.2.2.2.2.1 isC hC1
  have hPc : va_P D vwCl wc H := w_subP h1 isC hC1
  have hDc : va_D A wc := h2.sub isC hn1 hC1
  refine va_callq (c_runV C hC F hsel hlk hj hrc hrs hR hroom hPc (hDc.weaken (fun _ _ _ _ => trivial)) hF h3 h4 hq hr hrn hst hcat d) h3 (fun q _ h => hF q h) hF (fun r u t H1 locs1 ht hvm hw hB hz hk1 hS1 => ?_)
  have hB1 : va_P D vwCl (out u) H1 := by rw [← ht]; exact hB
  obtain ⟨hP2, hD2⟩ := va_join h1 h2 isC isR hC1 hR1 hn2 hdis hk1 hF hB1 ((D_self hDc H.size).addr (had u))
  exact kk r u hw H1 locs1 ls (w_subP hP2 isP (hP1 u)) (hD2.sub isP hn3 (hP1 u)) hS1 h4
theorem w_callSQN (C : Cq p s m args meth c D Z T A cc own nL ret) {Qp : Option Nat → S → Prop} (hC : CtQ l D Z T y b mL rm rt As [] out Qp mc ms) (F : FactsS y b mL rt j) {host : String} (hlk : Cond.methodLinkNest own i y host ∈ lw_tbl) (hj : As.length = j) (hR : rm.frames + 1 ≤ R.frames ∧ 8 + (mL + 11) + rm.locals ≤ R.locals) (hrc : rm.cells = mc) (hrs : rm.slots = ms) (hroom : k + mc ≤ R.cells ∧ n + ms ≤ R.slots) (hst : st = As.reverse ++ rest) (hcat : (rest.map fun v => v.category).sum ≤ 8) (d : decode cc pc = .ok (.invokestatic i, 3)) (kk : ∀ (r : Option Nat) (u : S), Qp r u → ww p l e R s m args below meth c D A nL Q (k + mc) (n + ms) ws (pc + 3) lv (va_rf r :: rest)) : ww p l e R s m args below meth c D A nL Q k n ws pc lv st := by
  intro H locs ls h1 h2 h3 h4
  refine va_callq (c_runSN C hC F hlk hj hrc hrs hR hroom P_nil D_nil (free_nil h3 C.2.2.2.2.2.2.1) h3 h4 hst hcat d) h3 (fun q _ h => free_nil h3 C.2.2.2.2.2.2.1 q h) (free_nil h3 C.2.2.2.2.2.2.1) (fun r u t H1 locs1 ht hvm hw hB hz hk1 hS1 => ?_)
  exact kk r u hw H1 locs1 ls (keep_nil h1 hk1) h2 hS1 h4
theorem w_callVQN (C : Cq p s m args meth c D Z T A cc own nL ret) {Qp : Option Nat → S → Prop} (hC : CtQ l D Z T y b mL rm rt (.ref q :: As) ws out Qp mc ms) (F : FactsV y b mL rt j) (hsel : Cond.selects y.cls y y ∈ TT) {host : String} (hlk : Cond.methodLinkNest own i y host ∈ lw_tbl) (hj : As.length = j) (hR : rm.frames + 1 ≤ R.frames ∧ 8 + (mL + 11) + rm.locals ≤ R.locals) (hrc : rm.cells = mc) (hrs : rm.slots = ms) (hroom : k + mc ≤ R.cells ∧ n + ms ≤ R.slots) {ci : Nat} {fs : List Value} {rr : vw_C} (q0 : Nat) (hq : ws[q0]? = some (q, .inr (ci, fs))) (hr : vwCl[ci]? = some rr) (hrn : rr.1 = y.cls) (had : ∀ u, (out u).map Prod.fst = ws.map Prod.fst) (hst : st = As.reverse ++ .ref q :: rest) (hcat : (rest.map fun v => v.category).sum ≤ 8) (d : decode cc pc = .ok (.invokevirtual i, 3)) (kk : ∀ (r : Option Nat) (u : S), Qp r u → ww p l e R s m args below meth c D A nL Q (k + mc) (n + ms) (out u) (pc + 3) lv (va_rf r :: rest)) : ww p l e R s m args below meth c D A nL Q k n ws pc lv st := by
  intro H locs ls h1 h2 h3 h4
  have hF := free_all h2 h3 C.2.2.2.2.2.2.1
  refine va_callq (c_runVN C hC F hsel hlk hj hrc hrs hR hroom h1 (h2.weaken (fun _ _ _ _ => trivial)) hF h3 h4 hq hr hrn hst hcat d) h3 (fun q _ h => hF q h) hF (fun r u t H1 locs1 ht hvm hw hB hz hk1 hS1 => ?_)
  exact kk r u hw H1 locs1 ls (by rw [← ht]; exact hB) (h2.addr (had u)) hS1 h4
theorem w_callPQN (C : Cq p s m args meth c D Z T A cc own nL ret) {Qp : Option Nat → S → Prop} (hC : CtQ l D Z T y b mL rm rt (.ref q :: As) wc out Qp mc ms) (F : FactsV y b mL rt j) (hsel : Cond.selects y.cls y y ∈ TT) {host : String} (hlk : Cond.methodLinkNest own i y host ∈ lw_tbl) (hj : As.length = j) (hR : rm.frames + 1 ≤ R.frames ∧ 8 + (mL + 11) + rm.locals ≤ R.locals) (hrc : rm.cells = mc) (hrs : rm.slots = ms) (hroom : k + mc ≤ R.cells ∧ n + ms ≤ R.slots) {ci : Nat} {fs : List Value} {rr : vw_C} (q0 : Nat) (hq : wc[q0]? = some (q, .inr (ci, fs))) (hr : vwCl[ci]? = some rr) (hrn : rr.1 = y.cls) (wr : va_W) (g : S → va_W) (isC isR isP : List Nat) (hC1 : isC.map (fun i => ws[i]?) = wc.map some) (hR1 : isR.map (fun i => ws[i]?) = wr.map some) (hn1 : va_nd isC = true) (hn2 : va_nd isR = true) (hdis : ∀ i ∈ isR, i ∉ isC) (hn3 : va_nd isP = true) (hP1 : ∀ u, isP.map (fun i => (wr ++ out u)[i]?) = (g u).map some) (had : ∀ u, (out u).map Prod.fst = wc.map Prod.fst) (hst : st = As.reverse ++ .ref q :: rest) (hcat : (rest.map fun v => v.category).sum ≤ 8) (d : decode cc pc = .ok (.invokevirtual i, 3)) (kk : ∀ (r : Option Nat) (u : S), Qp r u → ww p l e R s m args below meth c D A nL Q (k + mc) (n + ms) (g u) (pc + 3) lv (va_rf r :: rest)) : ww p l e R s m args below meth c D A nL Q k n ws pc lv st := by
  intro H locs ls h1 h2 h3 h4
  have hF := va_free (wc := wc) h2 h3 C.2.2.2.2.2.2.1 isC hC1
  have hPc : va_P D vwCl wc H := w_subP h1 isC hC1
  have hDc : va_D A wc := h2.sub isC hn1 hC1
  refine va_callq (c_runVN C hC F hsel hlk hj hrc hrs hR hroom hPc (hDc.weaken (fun _ _ _ _ => trivial)) hF h3 h4 hq hr hrn hst hcat d) h3 (fun q _ h => hF q h) hF (fun r u t H1 locs1 ht hvm hw hB hz hk1 hS1 => ?_)
  have hB1 : va_P D vwCl (out u) H1 := by rw [← ht]; exact hB
  obtain ⟨hP2, hD2⟩ := va_join h1 h2 isC isR hC1 hR1 hn2 hdis hk1 hF hB1 ((D_self hDc H.size).addr (had u))
  exact kk r u hw H1 locs1 ls (w_subP hP2 isP (hP1 u)) (hD2.sub isP hn3 (hP1 u)) hS1 h4
theorem w_callPSV (C : Cq p s m args meth c D Z T A cc own nL ret) {Qp : S → Prop} (hC : CtV l D Z T y b mL rm rt As wc out Qp mc ms) (F : FactsS y b mL rt j) (hlk : Cond.methodLink own i y ∈ TT) (hj : As.length = j) (hR : rm.frames + 1 ≤ R.frames ∧ 8 + (mL + 11) + rm.locals ≤ R.locals) (hrc : rm.cells = mc) (hrs : rm.slots = ms) (hroom : k + mc ≤ R.cells ∧ n + ms ≤ R.slots) (wr : va_W) (g : S → va_W) (isC isR isP : List Nat) (hC1 : isC.map (fun i => ws[i]?) = wc.map some) (hR1 : isR.map (fun i => ws[i]?) = wr.map some) (hn1 : va_nd isC = true) (hn2 : va_nd isR = true) (hdis : ∀ i ∈ isR, i ∉ isC) (hn3 : va_nd isP = true) (hP1 : ∀ u, isP.map (fun i => (wr ++ out u)[i]?) = (g u).map some) (had : ∀ u, (out u).map Prod.fst = wc.map Prod.fst) (hst : st = As.reverse ++ rest) (hcat : (rest.map fun v => v.category).sum ≤ 8) (d : decode cc pc = .ok (.invokestatic i, 3)) (kk : ∀ (u : S), Qp u → ww p l e R s m args below meth c D A nL Q (k + mc) (n + ms) (g u) (pc + 3) lv rest) : ww p l e R s m args below meth c D A nL Q k n ws pc lv st := by
  intro H locs ls h1 h2 h3 h4
  have hF := va_free (wc := wc) h2 h3 C.2.2.2.2.2.2.1 isC hC1
  have hPc : va_P D vwCl wc H := w_subP h1 isC hC1
  have hDc : va_D A wc := h2.sub isC hn1 hC1
  refine va_callv (c_runS C hC F hlk hj hrc hrs hR hroom hPc (hDc.weaken (fun _ _ _ _ => trivial)) hF h3 h4 hst hcat d) h3 (fun q _ h => hF q h) hF (fun u t H1 locs1 ht hvm hw hB hz hk1 hS1 => ?_)
  have hB1 : va_P D vwCl (out u) H1 := by rw [← ht]; exact hB
  obtain ⟨hP2, hD2⟩ := va_join h1 h2 isC isR hC1 hR1 hn2 hdis hk1 hF hB1 ((D_self hDc H.size).addr (had u))
  exact kk u hw H1 locs1 ls (w_subP hP2 isP (hP1 u)) (hD2.sub isP hn3 (hP1 u)) hS1 h4
end WW3
