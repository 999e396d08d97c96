/-! ===== constructors ===== -/
def OutN (D : va_G) (A : Nat → Prop) {S : Type} (out : S → va_W) : S → State → Prop := fun u t => va_P D vwCl (out u) t.heap ∧ va_D A (out u)
def CtN (l : Launch) (D : va_G) (Z : List (ClassId × FieldType)) (T : Nat × Nat × Nat × Nat) (y : MethodName) (cc : ByteArray) (nL : Nat) (rm : Room) (as : List Value) (ws : va_W) {S : Type} (out : S → va_W) (Q : S → Prop) (mc ms : Nat) : Prop :=
  ∀ sz : Nat, Met l y (.code y cc nL none :: TT) rm (PreC D Z T as ws sz) (va_Qv Q (OutN D (va_A ws sz) out) (va_A ws sz)) mc ms (va_A ws sz)
section WN
variable {p : Program} {l : Launch} {e : Env} {R : Room} {s : State} {m : MethodId} {args : Array Value} {below : List Frame} {meth : Method} {c : Code} {D : va_G} {Z : List (ClassId × FieldType)} {T : Nat × Nat × Nat × Nat} {A : Nat → Prop} {cc : ByteArray} {own : String} {nL : Nat} {ret : Option FieldType} {Q : State → Prop} {k n : Nat} {ws : va_W} {pc : Nat} {lv lv' : List (Nat × Value)} {rest st : List Value}
variable {S : Type} {out : S → va_W} {mc ms : Nat} {y : MethodName} {as : List Value} {rm : Room}
variable {b : ByteArray} {mL i j q : Nat} {As : List Value} {wc : va_W}
theorem ctN_of {Qp : S → Prop} (hy : plainFor y = true) (hown : y.cls = own) (hin : y.name = "<init>") (hlen : (lg_sl as).length ≤ nL)
    (body : ∀ (p : Program) (e : Env) (s : State) (m : MethodId) (below : List Frame) (meth : Method) (c : Code) (A : Nat → Prop), Cq p s m as.toArray meth c D Z T A cc own nL none → meth.name = "<init>" → ww p l e rm s m as.toArray below meth c D A nL (MQ below (va_Qv Qp (OutN D A out) A) as.toArray s mc ms A) 0 0 ws 0 (lv_args 0 as) []) : CtN l D Z T y cc nL rm as ws out Qp mc ms := by
  intro sz
  refine va_MetF (cc := cc) (maxL := nL) (ret := none) hy rfl ?_
  intro p e s m args below meth c s₁ B hml hv
  obtain ⟨rfl, hsz, hP, hK, hD0⟩ := hv
  subst hsz
  have hts := atoms_spec (ws := .code y cc nL none :: TT) B.pre
  rw [lg_entry_eq]
  exact body p e s m below meth c _ ⟨B.exec, B.bytes, hml, by rw [← hown]; exact findClass_of_methodNamed B.named, fun w h => hts w (List.mem_cons_of_mem _ h), hK, fun q h => Or.inr h, B.returns, B.notSynchronized⟩ ((name_of_methodNamed B.named B.method).1.trans hin) s.heap [] _ hP hD0.self va_S.rf (lv_entry as hlen)
theorem w_nret {Qp : S → Prop} (C : Cq p s m args meth c D Z T A cc own nL none) (u : S) (hq : Qp u) (hw : ws = out u) (hk : k ≤ mc) (hn : n ≤ ms) (d : decode cc pc = .ok (.return_, 1)) :
    ww p l e R s m args below meth c D A nL (MQ below (va_Qv Qp (OutN D A out) A) args s mc ms A) k n ws pc lv [] := fun H locs ls h1 h2 h3 h4 =>
  W.widen hk hn (W.vret C.1 C.2.1 C.2.2.2.2.2.2.2.1 (fun t ht hW => ⟨⟨u, rfl, hq, by show va_P D vwCl (out u) t.heap ∧ va_D A (out u); rw [← hw, ht]; exact ⟨h1, h2⟩⟩, h3.F ht⟩) h3.2.2 d C.2.2.2.2.2.2.2.2)
theorem w_initN (C : Cq p s m args meth c D Z T A cc own nL ret) {Qp : S → Prop} (hC : CtN l D Z T y b mL rm (.ref q :: As) wc out Qp mc ms) (F : FactsV y b mL none j) (hy1 : y.name = "<init>") (hlk : Cond.methodLink own i y ∈ TT) (hj : As.length = j) (hR : rm.frames + 1 ≤ R.frames ∧ 8 + (mL + 11) + rm.locals ≤ R.locals) (hrc : rm.cells = mc) (hrs : rm.slots = ms) (hroom : k + mc ≤ R.cells ∧ n + ms ≤ R.slots) (wr : va_W) (isC isR : List Nat) (hC1 : isC.map (fun i => ws[i]?) = wc.map some) (hR1 : isR.map (fun i => ws[i]?) = wr.map some) (hn1 : va_nd isC = true) (hn2 : va_nd isR = true) (hdis : ∀ i ∈ isR, i ∉ isC) (hst : st = As.reverse ++ .ref q :: rest) (hcat : (rest.map fun v => v.category).sum ≤ 8) (d : decode cc pc = .ok (.invokespecial i, 3)) (kk : ∀ u : S, Qp u → ww p l e R s m args below meth c D A nL Q (k + mc) (n + ms) (wr ++ out u) (pc + 3) lv rest) : ww p l e R s m args below meth c D A nL Q k n ws pc lv st := by
  intro H locs ls h1 h2 h3 h4
  have hF := va_free (wc := wc) h2 h3 C.2.2.2.2.2.2.1 isC hC1
  have hPc : va_P D vwCl wc H := w_subP h1 isC hC1
  have hDc : va_D A wc := h2.sub isC hn1 hC1
  refine va_callv (va_runI (ws := .code y b mL none :: TT) ⟨C.1, C.2.1, C.2.2.1, C.2.2.2.1, C.2.2.2.2.1⟩ (hC H.size) (cwI j C.2.2.2.2.1 (tt_all (tt_code F.1.2.2)) rfl hrc hrs (C.2.2.2.2.1 _ F.1.2.1) (C.2.2.2.2.1 _ hlk) (C.2.2.2.2.1 _ F.1.1) hy1 F.2 hR) ⟨pre_blind, fun U hU hW => ⟨rfl, by rw [hU], by rw [hU]; exact hPc, C.2.2.2.2.2.1.call h3 hU hW hF, hDc.weaken (fun _ _ _ _ => trivial)⟩⟩ rfl hj h4.1 hst (lv_room hcat) d hroom) h3 (fun q _ h => hF q h) hF (fun u t H1 locs1 ht hvm hw hB hz hk1 hS1 => ?_)
  have hB1 : va_P D vwCl (out u) H1 := by rw [← ht]; exact hB.1
  have hB2 := hB.2
  obtain ⟨hP2, hD2⟩ := va_join h1 h2 isC isR hC1 hR1 hn2 hdis hk1 hF hB1 hB2
  exact kk u hw H1 locs1 ls hP2 hD2 hS1 h4
theorem w_initV (C : Cq p s m args meth c D Z T A cc own nL ret) {Qp : S → Prop} (hC : CtV l D Z T y b mL rm none (.ref q :: As) wc out Qp mc ms) (F : FactsV y b mL none j) (hy1 : y.name = "<init>") (hlk : Cond.methodLink own i y ∈ TT) (hj : As.length = j) (hR : rm.frames + 1 ≤ R.frames ∧ 8 + (mL + 11) + rm.locals ≤ R.locals) (hrc : rm.cells = mc) (hrs : rm.slots = ms) (hroom : k + mc ≤ R.cells ∧ n + ms ≤ R.slots) (wr : va_W) (isC isR : List Nat) (hC1 : isC.map (fun i => ws[i]?) = wc.map some) (hR1 : isR.map (fun i => ws[i]?) = wr.map some) (hn1 : va_nd isC = true) (hn2 : va_nd isR = true) (hdis : ∀ i ∈ isR, i ∉ isC) (had : ∀ u, (out u).map Prod.fst = wc.map Prod.fst) (hst : st = As.reverse ++ .ref q :: rest) (hcat : (rest.map fun v => v.category).sum ≤ 8) (d : decode cc pc = .ok (.invokespecial i, 3)) (kk : ∀ u : S, Qp u → ww p l e R s m args below meth c D A nL Q (k + mc) (n + ms) (wr ++ out u) (pc + 3) lv rest) : ww p l e R s m args below meth c D A nL Q k n ws pc lv st := by
  intro H locs ls h1 h2 h3 h4
  have hF := va_free (wc := wc) h2 h3 C.2.2.2.2.2.2.1 isC hC1
  have hPc : va_P D vwCl wc H := w_subP h1 isC hC1
  have hDc : va_D A wc := h2.sub isC hn1 hC1
  refine va_callv (va_runI (ws := .code y b mL none :: TT) ⟨C.1, C.2.1, C.2.2.1, C.2.2.2.1, C.2.2.2.2.1⟩ (hC H.size) (cwI j C.2.2.2.2.1 (tt_all (tt_code F.1.2.2)) rfl hrc hrs (C.2.2.2.2.1 _ F.1.2.1) (C.2.2.2.2.1 _ hlk) (C.2.2.2.2.1 _ F.1.1) hy1 F.2 hR) ⟨pre_blind, fun U hU hW => ⟨rfl, by rw [hU], by rw [hU]; exact hPc, C.2.2.2.2.2.1.call h3 hU hW hF, hDc.weaken (fun _ _ _ _ => trivial)⟩⟩ rfl hj h4.1 hst (lv_room hcat) d hroom) h3 (fun q _ h => hF q h) hF (fun u t H1 locs1 ht hvm hw hB hz hk1 hS1 => ?_)
  have hB1 : va_P D vwCl (out u) H1 := by rw [← ht]; exact hB
  have hB2 := (D_self hDc H.size).addr (had u)
  obtain ⟨hP2, hD2⟩ := va_join h1 h2 isC isR hC1 hR1 hn2 hdis hk1 hF hB1 hB2
  exact kk u hw H1 locs1 ls hP2 hD2 hS1 h4
theorem w_initNN (C : Cq p s m args meth c D Z T A cc own nL ret) {Qp : S → Prop} (hC : CtN l D Z T y b mL rm (.ref q :: As) wc out Qp mc ms) (F : FactsV y b mL none j) (hy1 : y.name = "<init>") {host : String} (hlk : Cond.methodLinkNest own i y host ∈ lw_tbl) (hj : As.length = j) (hR : rm.frames + 1 ≤ R.frames ∧ 8 + (mL + 11) + rm.locals ≤ R.locals) (hrc : rm.cells = mc) (hrs : rm.slots = ms) (hroom : k + mc ≤ R.cells ∧ n + ms ≤ R.slots) (wr : va_W) (isC isR : List Nat) (hC1 : isC.map (fun i => ws[i]?) = wc.map some) (hR1 : isR.map (fun i => ws[i]?) = wr.map some) (hn1 : va_nd isC = true) (hn2 : va_nd isR = true) (hdis : ∀ i ∈ isR, i ∉ isC) (hst : st = As.reverse ++ .ref q :: rest) (hcat : (rest.map fun v => v.category).sum ≤ 8) (d : decode cc pc = .ok (.invokespecial i, 3)) (kk : ∀ u : S, Qp u → ww p l e R s m args below meth c D A nL Q (k + mc) (n + ms) (wr ++ out u) (pc + 3) lv rest) : ww p l e R s m args below meth c D A nL Q k n ws pc lv st := by
  intro H locs ls h1 h2 h3 h4
  have hF := va_free (wc := wc) h2 h3 C.2.2.2.2.2.2.1 isC hC1
  have hPc : va_P D vwCl wc H := w_subP h1 isC hC1
  have hDc : va_D A wc := h2.sub isC hn1 hC1
  refine va_callv (va_runIN (ws := .code y b mL none :: TT) ⟨C.1, C.2.1, C.2.2.1, C.2.2.2.1, C.2.2.2.2.1⟩ (hC H.size) ⟨va_cnB j C.2.2.2.2.1 (tt_all (tt_code F.1.2.2)) rfl hrc hrs (C.2.2.2.2.2.1.2.1 _ hlk rfl) (C.2.2.2.2.1 _ F.1.2.1) F.2 hR, hy1, C.2.2.2.2.1 _ F.1.1⟩ ⟨pre_blind, fun U hU hW => ⟨rfl, by rw [hU], by rw [hU]; exact hPc, C.2.2.2.2.2.1.call h3 hU hW hF, hDc.weaken (fun _ _ _ _ => trivial)⟩⟩ rfl hj h4.1 hst (lv_room hcat) d hroom) h3 (fun q _ h => hF q h) hF (fun u t H1 locs1 ht hvm hw hB hz hk1 hS1 => ?_)
  have hB1 : va_P D vwCl (out u) H1 := by rw [← ht]; exact hB.1
  have hB2 := hB.2
  obtain ⟨hP2, hD2⟩ := va_join h1 h2 isC isR hC1 hR1 hn2 hdis hk1 hF hB1 hB2
  exact kk u hw H1 locs1 ls hP2 hD2 hS1 h4
theorem w_initVN (C : Cq p s m args meth c D Z T A cc own nL ret) {Qp : S → Prop} (hC : CtV l D Z T y b mL rm none (.ref q :: As) wc out Qp mc ms) (F : FactsV y b mL none j) (hy1 : y.name = "<init>") {host : String} (hlk : Cond.methodLinkNest own i y host ∈ lw_tbl) (hj : As.length = j) (hR : rm.frames + 1 ≤ R.frames ∧ 8 + (mL + 11) + rm.locals ≤ R.locals) (hrc : rm.cells = mc) (hrs : rm.slots = ms) (hroom : k + mc ≤ R.cells ∧ n + ms ≤ R.slots) (wr : va_W) (isC isR : List Nat) (hC1 : isC.map (fun i => ws[i]?) = wc.map some) (hR1 : isR.map (fun i => ws[i]?) = wr.map some) (hn1 : va_nd isC = true) (hn2 : va_nd isR = true) (hdis : ∀ i ∈ isR, i ∉ isC) (had : ∀ u, (out u).map Prod.fst = wc.map Prod.fst) (hst : st = As.reverse ++ .ref q :: rest) (hcat : (rest.map fun v => v.category).sum ≤ 8) (d : decode cc pc = .ok (.invokespecial i, 3)) (kk : ∀ u : S, Qp u → ww p l e R s m args below meth c D A nL Q (k + mc) (n + ms) (wr ++ out u) (pc + 3) lv rest) : ww p l e R s m args below meth c D A nL Q k n ws pc lv st := by
  intro H locs ls h1 h2 h3 h4
  have hF := va_free (wc := wc) h2 h3 C.2.2.2.2.2.2.1 isC hC1
  have hPc : va_P D vwCl wc H := w_subP h1 isC hC1
  have hDc : va_D A wc := h2.sub isC hn1 hC1
  refine va_callv (va_runIN (ws := .code y b mL none :: TT) ⟨C.1, C.2.1, C.2.2.1, C.2.2.2.1, C.2.2.2.2.1⟩ (hC H.size) ⟨va_cnB j C.2.2.2.2.1 (tt_all (tt_code F.1.2.2)) rfl hrc hrs (C.2.2.2.2.2.1.2.1 _ hlk rfl) (C.2.2.2.2.1 _ F.1.2.1) F.2 hR, hy1, C.2.2.2.2.1 _ F.1.1⟩ ⟨pre_blind, fun U hU hW => ⟨rfl, by rw [hU], by rw [hU]; exact hPc, C.2.2.2.2.2.1.call h3 hU hW hF, hDc.weaken (fun _ _ _ _ => trivial)⟩⟩ rfl hj h4.1 hst (lv_room hcat) d hroom) h3 (fun q _ h => hF q h) hF (fun u t H1 locs1 ht hvm hw hB hz hk1 hS1 => ?_)
  have hB1 : va_P D vwCl (out u) H1 := by rw [← ht]; exact hB
  have hB2 := (D_self hDc H.size).addr (had u)
  obtain ⟨hP2, hD2⟩ := va_join h1 h2 isC isR hC1 hR1 hn2 hdis hk1 hF hB1 hB2
  exact kk u hw H1 locs1 ls hP2 hD2 hS1 h4
end WN
set_option maxHeartbeats 4000000 in
set_option maxRecDepth 100000 in
theorem c_X3_init {l : Launch} {D : va_G} {cB cI cJ cL cS : ClassId} {T : Nat × Nat × Nat × Nat} {a : Nat → Nat} : CtV l D (Z5 cB cI cJ cL cS) T yX3_init cX3_init 1 ({ frames := 1, cells := 0, slots := 0, locals := 20 } : Room) none [.ref (a 0)] (wPd cB cI cJ a 0 0 0 0) (fun (_ : Unit) => wPd cB cI cJ a 0 0 0 0) (fun _ => True) 0 0 := by
  refine ctV_of (own := RX3) (by decide +kernel) rfl (Nat.le_of_ble_eq_true rfl) (fun p e s m below meth c A C => ?_)
  refine w_sub (lv' := [(0, .ref (a 0))]) C [0] rfl ?_
  refine w_aload_n C 0 dX3_init_0 rfl ?_
  refine w_objInit C k_596 (Nat.le_of_ble_eq_true rfl) (Nat.le_of_ble_eq_true rfl) dX3_init_1 ?_
  exact w_vret C () trivial rfl (Nat.le_of_ble_eq_true rfl) (Nat.le_of_ble_eq_true rfl) dX3_init_4
set_option maxHeartbeats 4000000 in
set_option maxRecDepth 100000 in
theorem c_X6_init {l : Launch} {D : va_G} {cB cI cJ cL cS : ClassId} {T : Nat × Nat × Nat × Nat} {a : Nat → Nat} {t0 : Nat} : CtN l D (Z5 cB cI cJ cL cS) T yX6_init cX6_init 2 ({ frames := 1, cells := 0, slots := 0, locals := 20 } : Room) [.ref (a 0), .ref t0] [(a 0, .inr (6, [.null, .int 0, .int 0, .int 0, .int 0, .long 0]))] (fun (_ : Unit) => wU cB cI cJ a t0 0 0 0 0 0) (fun _ => True) 0 0 := by
  refine ctN_of (own := RX6) (by decide +kernel) rfl rfl (Nat.le_of_ble_eq_true rfl) (fun p e s m below meth c A C hin => ?_)
  refine w_sub (lv' := [(0, .ref (a 0)), (1, .ref t0)]) C [0, 1] rfl ?_
  refine w_aload_n C 0 dX6_init_0 rfl ?_
  refine w_objInit C k_313 (Nat.le_of_ble_eq_true rfl) (Nat.le_of_ble_eq_true rfl) dX6_init_1 ?_
  refine w_aload_n C 0 dX6_init_4 rfl ?_
  refine w_aload_n C 1 dX6_init_5 rfl ?_
  refine w_putF C (T1 := TX6) (ty := .object "TailRecorder$Tape") 0 0 u_X6 tyX6 tyX6_ok nmX6 k_314 rfl (by decide) rfl rfl hin rfl (by decide +kernel) rfl rfl (Nat.le_of_ble_eq_true rfl) (wU cB cI cJ a t0 0 0 0 0 0) rfl dX6_init_6 ?_
  exact w_nret C () trivial rfl (Nat.le_of_ble_eq_true rfl) (Nat.le_of_ble_eq_true rfl) dX6_init_9
set_option maxHeartbeats 4000000 in
set_option maxRecDepth 100000 in
theorem c_X5_init {l : Launch} {D : va_G} {cB cI cJ cL cS : ClassId} {T : Nat × Nat × Nat × Nat} {a0 : Nat} : CtN l D (Z5 cB cI cJ cL cS) T yX5_init cX5_init 1 ({ frames := 1, cells := 1, slots := 400, locals := 20 } : Room) [.ref a0] [(a0, .inr (5, [.null, .int 0]))] (fun (u : Nat → Nat) => wTp cB cI cJ u (fun _ => 0) 0) (fun u => u 0 = a0) 1 400 := by
  refine ctN_of (own := RX5) (by decide +kernel) rfl rfl (Nat.le_of_ble_eq_true rfl) (fun p e s m below meth c A C hin => ?_)
  refine w_sub (lv' := [(0, .ref a0)]) C [0] rfl ?_
  refine w_aload_n C 0 dX5_init_0 rfl ?_
  refine w_objInit C k_117 (Nat.le_of_ble_eq_true rfl) (Nat.le_of_ble_eq_true rfl) dX5_init_1 ?_
  refine w_aload_n C 0 dX5_init_4 rfl ?_
  refine w_sipush C (v := (400 : Int32)) dX5_init_5 (by decide) ?_
  refine w_newaI C 400 1 k_111 rfl (by decide) (by decide) (Nat.le_of_ble_eq_true rfl) (Nat.le_of_ble_eq_true rfl) (Nat.le_of_ble_eq_true rfl) dX5_init_8 (fun q => ?_)
  refine w_putF C (T1 := TX5) (ty := .array .int) 0 0 u_X5 tyX5 tyX5_ok nmX5 k_118 rfl (by decide) rfl rfl hin rfl (by decide +kernel) rfl rfl (Nat.le_of_ble_eq_true rfl) (wTp cB cI cJ (fun i => if i = 0 then a0 else q) (fun _ => 0) 0) rfl dX5_init_10 ?_
  exact w_nret C (fun i => if i = 0 then a0 else q) rfl rfl (Nat.le_of_ble_eq_true rfl) (Nat.le_of_ble_eq_true rfl) dX5_init_13
set_option maxHeartbeats 4000000 in
set_option maxRecDepth 100000 in
theorem c_X2_init {l : Launch} {D : va_G} {cB cI cJ cL cS : ClassId} {T : Nat × Nat × Nat × Nat} {a0 : Nat} : CtN l D (Z5 cB cI cJ cL cS) T yX2_init cX2_init 1 ({ frames := 1, cells := 1, slots := 4, locals := 40 } : Room) [.ref a0] [(a0, .inr (2, [.int 0, .int 0, .null]))] (fun (u : (Nat → Nat) × (Nat → Int32)) => wPr cB cI cJ u.1 0 (-1) u.2) (fun u => u.1 0 = a0 ∧ ∀ j : Nat, j < 4 → u.2 j = -1) 1 4 := by
  refine ctN_of (own := RX2) (by decide +kernel) rfl rfl (Nat.le_of_ble_eq_true rfl) (fun p e s m below meth c A C hin => ?_)
  refine w_sub (lv' := [(0, .ref a0)]) C [0] rfl ?_
  refine w_aload_n C 0 dX2_init_0 rfl ?_
  refine w_objInit C k_95 (Nat.le_of_ble_eq_true rfl) (Nat.le_of_ble_eq_true rfl) dX2_init_1 ?_
  refine w_aload_n C 0 dX2_init_4 rfl ?_
  refine w_iconst C (v := (-1 : Int32)) dX2_init_5 (by decide) ?_
  refine w_puti C (T1 := TX2) (ty := .int) 0 1 (fun z => [(a0, .inr (2, [.int 0, .int z, .null]))]) u_X2 tyX2 tyX2_ok nmX2 k_101 rfl (by decide) rfl rfl (by decide +kernel) rfl rfl (Nat.le_of_ble_eq_true rfl) (fun _ => rfl) dX2_init_6 (fun x e_x => ?_)
  subst e_x
  refine w_aload_n C 0 dX2_init_9 rfl ?_
  refine w_iconst C (v := (4 : Int32)) dX2_init_10 (by decide) ?_
  refine w_newaI C 4 1 k_111 rfl (by decide) (by decide) (Nat.le_of_ble_eq_true rfl) (Nat.le_of_ble_eq_true rfl) (Nat.le_of_ble_eq_true rfl) dX2_init_11 (fun q => ?_)
  refine w_putF C (T1 := TX2) (ty := .array .int) 0 2 u_X2 tyX2 tyX2_ok nmX2 k_103 rfl (by decide) rfl rfl hin rfl (by decide +kernel) rfl rfl (Nat.le_of_ble_eq_true rfl) (wPr cB cI cJ (fun i => if i = 0 then a0 else q) 0 (-1) (fun _ => 0)) rfl dX2_init_13 ?_
  refine w_aload_n C 0 dX2_init_16 rfl ?_
  refine w_get C (T1 := TX2) 0 2 u_X2 k_103 rfl (by decide) rfl rfl dX2_init_17 ?_
  refine w_iconst C (v := (-1 : Int32)) dX2_init_20 (by decide) ?_
  refine w_callPSV C (c_fillI 4 (by decide)) f_J7_fill_53178 k_96 rfl ⟨Nat.le_of_ble_eq_true rfl, Nat.le_of_ble_eq_true rfl⟩ rfl rfl ⟨Nat.le_of_ble_eq_true rfl, Nat.le_of_ble_eq_true rfl⟩ [(a0, .inr (2, [.int 0, .int (-1), .ref q]))] (fun (u : Nat → Int32) => wPr cB cI cJ (fun i => if i = 0 then a0 else q) 0 (-1) u) [1] [0] [0, 1] rfl rfl (by decide) (by decide) (by decide) (by decide) (fun _ => rfl) (fun _ => rfl) rfl (Nat.le_of_ble_eq_true rfl) dX2_init_21 (fun u hu => ?_)
  exact w_nret C (fun i => if i = 0 then a0 else q, u) ⟨rfl, hu⟩ rfl (Nat.le_of_ble_eq_true rfl) (Nat.le_of_ble_eq_true rfl) dX2_init_24
set_option maxHeartbeats 4000000 in
set_option maxRecDepth 100000 in
theorem c_X1_init {l : Launch} {D : va_G} {cB cI cJ cL cS : ClassId} {T : Nat × Nat × Nat × Nat} {a0 : Nat} : CtN l D (Z5 cB cI cJ cL cS) T yX1_init cX1_init 1 ({ frames := 1, cells := 4, slots := 9214, locals := 20 } : Room) [.ref a0] [(a0, .inr (1, [.int 0, .int 0, .int 0, .int 0, .int 0, .long 0, .null, .null, .null, .null]))] (fun (u : Nat → Nat) => wL cB cI cJ u 0 0 0 0 0 0 (fun _ => 0) (fun _ => 0) (fun _ => 0) (fun _ => 0)) (fun u => u 0 = a0) 4 9214 := by
  refine ctN_of (own := RX1) (by decide +kernel) rfl rfl (Nat.le_of_ble_eq_true rfl) (fun p e s m below meth c A C hin => ?_)
  refine w_sub (lv' := [(0, .ref a0)]) C [0] rfl ?_
  refine w_aload_n C 0 dX1_init_0 rfl ?_
  refine w_objInit C k_145 (Nat.le_of_ble_eq_true rfl) (Nat.le_of_ble_eq_true rfl) dX1_init_1 ?_
  refine w_aload_n C 0 dX1_init_4 rfl ?_
  refine w_sipush C (v := (4336 : Int32)) dX1_init_5 (by decide) ?_
  refine w_newaJ C 4336 2 k_183 rfl (by decide) (by decide) (Nat.le_of_ble_eq_true rfl) (Nat.le_of_ble_eq_true rfl) (Nat.le_of_ble_eq_true rfl) dX1_init_8 (fun q1 => ?_)
  refine w_putF C (T1 := TX1) (ty := .array .long) 0 6 u_X1 tyX1 tyX1_ok nmX1 k_158 rfl (by decide) rfl rfl hin rfl (by decide +kernel) rfl rfl (Nat.le_of_ble_eq_true rfl) ((a0, .inr (1, [.int 0, .int 0, .int 0, .int 0, .int 0, .long 0, .ref q1, .null, .null, .null])) :: [(q1, .inl (cJ, 4336, .inr (.inl (fun _ => 0))))]) rfl dX1_init_10 ?_
  refine w_aload_n C 0 dX1_init_13 rfl ?_
  refine w_sipush C (v := (271 : Int32)) dX1_init_14 (by decide) ?_
  refine w_newaI C 271 1 k_111 rfl (by decide) (by decide) (Nat.le_of_ble_eq_true rfl) (Nat.le_of_ble_eq_true rfl) (Nat.le_of_ble_eq_true rfl) dX1_init_17 (fun q2 => ?_)
  refine w_putF C (T1 := TX1) (ty := .array .int) 0 7 u_X1 tyX1 tyX1_ok nmX1 k_159 rfl (by decide) rfl rfl hin rfl (by decide +kernel) rfl rfl (Nat.le_of_ble_eq_true rfl) ((a0, .inr (1, [.int 0, .int 0, .int 0, .int 0, .int 0, .long 0, .ref q1, .ref q2, .null, .null])) :: [(q1, .inl (cJ, 4336, .inr (.inl (fun _ => 0)))), (q2, .inl (cI, 271, .inl (fun _ => 0)))]) rfl dX1_init_19 ?_
  refine w_aload_n C 0 dX1_init_22 rfl ?_
  refine w_sipush C (v := (271 : Int32)) dX1_init_23 (by decide) ?_
  refine w_newaI C 271 1 k_111 rfl (by decide) (by decide) (Nat.le_of_ble_eq_true rfl) (Nat.le_of_ble_eq_true rfl) (Nat.le_of_ble_eq_true rfl) dX1_init_26 (fun q3 => ?_)
  refine w_putF C (T1 := TX1) (ty := .array .int) 0 8 u_X1 tyX1 tyX1_ok nmX1 k_160 rfl (by decide) rfl rfl hin rfl (by decide +kernel) rfl rfl (Nat.le_of_ble_eq_true rfl) ((a0, .inr (1, [.int 0, .int 0, .int 0, .int 0, .int 0, .long 0, .ref q1, .ref q2, .ref q3, .null])) :: [(q1, .inl (cJ, 4336, .inr (.inl (fun _ => 0)))), (q2, .inl (cI, 271, .inl (fun _ => 0))), (q3, .inl (cI, 271, .inl (fun _ => 0)))]) rfl dX1_init_28 ?_
  refine w_aload_n C 0 dX1_init_31 rfl ?_
  refine w_sipush C (v := (4336 : Int32)) dX1_init_32 (by decide) ?_
  refine w_newaI C 4336 1 k_111 rfl (by decide) (by decide) (Nat.le_of_ble_eq_true rfl) (Nat.le_of_ble_eq_true rfl) (Nat.le_of_ble_eq_true rfl) dX1_init_35 (fun q4 => ?_)
  refine w_putF C (T1 := TX1) (ty := .array .int) 0 9 u_X1 tyX1 tyX1_ok nmX1 k_161 rfl (by decide) rfl rfl hin rfl (by decide +kernel) rfl rfl (Nat.le_of_ble_eq_true rfl) ((a0, .inr (1, [.int 0, .int 0, .int 0, .int 0, .int 0, .long 0, .ref q1, .ref q2, .ref q3, .ref q4])) :: [(q1, .inl (cJ, 4336, .inr (.inl (fun _ => 0)))), (q2, .inl (cI, 271, .inl (fun _ => 0))), (q3, .inl (cI, 271, .inl (fun _ => 0))), (q4, .inl (cI, 4336, .inl (fun _ => 0)))]) rfl dX1_init_37 ?_
  exact w_nret C (fun i => if i = 0 then a0 else if i = 1 then q1 else if i = 2 then q2 else if i = 3 then q3 else q4) rfl rfl (Nat.le_of_ble_eq_true rfl) (Nat.le_of_ble_eq_true rfl) dX1_init_40
