/-! ===== a world that is a memory: places 0 .. N-1, each with its address and its content ===== -/
def mw (ad : Nat → Nat) (N : Nat) (ct : Nat → va_E) : va_W := (List.range N).map (fun n => (ad n, ct n))
theorem mw_at {ad : Nat → Nat} {N : Nat} {ct : Nat → va_E} {n : Nat} {e : va_E} (h : n < N) (he : ct n = e) : (mw ad N ct)[n]? = some (ad n, e) := by
  simp [mw, h, he]
theorem mw_of {ad : Nat → Nat} {N : Nat} {ct : Nat → va_E} {n : Nat} {x : Nat × va_E} (h : (mw ad N ct)[n]? = some x) : n < N ∧ x = (ad n, ct n) := by
  by_cases hn : n < N
  · rw [mw_at hn rfl] at h
    exact ⟨hn, (Option.some.inj h).symm⟩
  · simp [mw, hn] at h
theorem mw_set {ad : Nat → Nat} {N : Nat} {ct ct' : Nat → va_E} {n : Nat} {e : va_E} (h : n < N) (h1 : ct' n = e) (h2 : ∀ m, m < N → m ≠ n → ct' m = ct m) : (mw ad N ct).set n (ad n, e) = mw ad N ct' := by
  apply List.ext_getElem?
  intro i
  have hl : n < (mw ad N ct).length := by simp [mw, h]
  by_cases hi : i = n
  · subst hi
    rw [List.getElem?_set_self hl, mw_at h h1]
  · rw [List.getElem?_set_ne (Ne.symm hi)]
    by_cases hN : i < N
    · rw [mw_at hN rfl, mw_at hN (h2 i hN hi)]
    · simp [mw, hN]
theorem mw_addr {ad : Nat → Nat} {N : Nat} {ct ct' : Nat → va_E} : (mw ad N ct').map Prod.fst = (mw ad N ct).map Prod.fst := by
  simp [mw]
theorem mw_inj {A : Nat → Prop} {ad : Nat → Nat} {N : Nat} {ct : Nat → va_E} (h : va_D A (mw ad N ct)) {i j : Nat} (hi : i < N) (hj : j < N) (e : ad i = ad j) : i = j := h.1 i j _ _ (mw_at hi rfl) (mw_at hj rfl) e
theorem mw_pl {ad : Nat → Nat} {ct : Nat → va_E} {pl : List Nat} {wc : va_W} (hwc : pl.map (fun n => (ad n, ct n)) = wc) {k : Nat} {x : Nat × va_E} (hx : wc[k]? = some x) : ∃ n, pl[k]? = some n ∧ x = (ad n, ct n) := by
  rw [← hwc, List.getElem?_map] at hx
  cases hp : pl[k]? with
  | none => rw [hp] at hx; cases hx
  | some n => rw [hp] at hx; exact ⟨n, rfl, (Option.some.inj hx).symm⟩
theorem mw_subP {D : va_G} {cl : List vw_C} {ad : Nat → Nat} {N : Nat} {ct : Nat → va_E} {H : Heap} (h : va_P D cl (mw ad N ct) H) {pl : List Nat} {wc : va_W} (hwc : pl.map (fun n => (ad n, ct n)) = wc) (hlt : ∀ n ∈ pl, n < N) : va_P D cl wc H := by
  intro k x hx
  obtain ⟨n, hn, rfl⟩ := mw_pl hwc hx
  exact h n _ (mw_at (hlt n (List.mem_of_getElem? hn)) rfl)
theorem mw_subD {A : Nat → Prop} {ad : Nat → Nat} {N : Nat} {ct : Nat → va_E} (h : va_D A (mw ad N ct)) {pl : List Nat} {wc : va_W} (hwc : pl.map (fun n => (ad n, ct n)) = wc) (hlt : ∀ n ∈ pl, n < N) (hnd : pl.Nodup) : va_D A wc := by
  refine ⟨fun i j x y hx hy e => ?_, fun k x hx => ?_⟩
  · obtain ⟨n, hn, rfl⟩ := mw_pl hwc hx
    obtain ⟨n', hn', rfl⟩ := mw_pl hwc hy
    have hnn := mw_inj h (hlt n (List.mem_of_getElem? hn)) (hlt n' (List.mem_of_getElem? hn')) e
    subst hnn
    exact (List.getElem?_inj (List.getElem?_eq_some_iff.mp hn).1 hnd).mp (hn.trans hn'.symm)
  · obtain ⟨n, hn, rfl⟩ := mw_pl hwc hx
    exact h.2 n _ (mw_at (hlt n (List.mem_of_getElem? hn)) rfl)
theorem mw_join {D : va_G} {cl : List vw_C} {A : Nat → Prop} {ad : Nat → Nat} {N : Nat} {ct ct' : Nat → va_E} {H H1 : Heap} (hP : va_P D cl (mw ad N ct) H) (hD : va_D A (mw ad N ct)) {pl : List Nat} {wc w1 : va_W} (hwc : pl.map (fun n => (ad n, ct n)) = wc) (hlt : ∀ n ∈ pl, n < N)
    (hout : pl.map (fun n => (ad n, ct' n)) = w1) (hrest : ∀ n, n < N → n ∉ pl → ct' n = ct n) (hk : ∀ q : Nat, q < H.size → ¬ va_A wc H.size q → H1[q]? = H[q]?) (hP1 : va_P D cl w1 H1) : va_P D cl (mw ad N ct') H1 := by
  intro k x hx
  obtain ⟨hkN, rfl⟩ := mw_of hx
  by_cases hm : k ∈ pl
  · obtain ⟨i, hi⟩ := List.getElem?_of_mem hm
    exact hP1 i _ (by rw [← hout, List.getElem?_map, hi]; rfl)
  · rw [hrest k hkN hm]
    have h0 := hP k _ (mw_at hkN rfl)
    refine h0.kept (hk (ad k) h0.lt (fun hA => ?_))
    rcases hA with ⟨i, e, hA⟩ | hA
    · obtain ⟨n, hn, hx2⟩ := mw_pl hwc hA
      have hnm := List.mem_of_getElem? hn
      have := mw_inj hD hkN (hlt n hnm) (congrArg Prod.fst hx2)
      exact hm (this ▸ hnm)
    · exact absurd h0.lt (Nat.not_lt.mpr hA)
theorem vp_lt {i : Int32} {n : Nat} (h : vp_in i n) : i.toNatClampNeg < n := Nat.not_le.mp fun q => h (Or.inr q)
def CtE (l : Launch) (D : va_G) (Z : List (ClassId × FieldType)) (T : Nat × Nat × Nat × Nat) (y : MethodName) (cc : ByteArray) (nL : Nat) (rm : Room) (ret : Option FieldType) (as : List Value) (ws : va_W) {S : Type} (out : S → va_W) (adr : Nat → Nat) (Q : Option Nat → S → Prop) (mc ms : Nat) : Prop :=
  ∀ sz : Nat, Met l y (.code y cc nL ret :: TT) rm (PreC D Z T as ws sz) (va_Qe adr Q (OutP D out) (va_A ws sz)) mc ms (va_A ws sz)
section WX
variable {p : Program} {l : Launch} {e : Env} {R : Room} {s : State} {m : MethodId} {args : Array Value} {below : List Frame} {meth : Method} {c : Code} {D : va_G} {Z : List (ClassId × FieldType)} {T : Nat × Nat × Nat × Nat} {A : Nat → Prop} {cc : ByteArray} {own : String} {nL : Nat} {ret : Option FieldType} {Q : State → Prop} {k n : Nat} {ws : va_W} {pc : Nat} {lv lv' : List (Nat × Value)} {rest st : List Value}
variable {S : Type} {out : S → va_W} {mc ms : Nat} {y : MethodName} {as : List Value} {rm : Room}
variable {b : ByteArray} {mL i j q : Nat} {rt : Option FieldType} {As : List Value} {wc : va_W} {adr : Nat → Nat}
theorem ctE_of {Qp : Option Nat → S → Prop} (hy : plainFor y = true) (hown : y.cls = own) (hlen : (lg_sl as).length ≤ nL)
    (body : ∀ (p : Program) (e : Env) (s : State) (m : MethodId) (below : List Frame) (meth : Method) (c : Code) (A : Nat → Prop), Cq p s m as.toArray meth c D Z T A cc own nL ret → ww p l e rm s m as.toArray below meth c D A nL (MQ below (va_Qe adr Qp (OutP D out) A) as.toArray s mc ms A) 0 0 ws 0 (lv_args 0 as) []) : CtE l D Z T y cc nL rm ret as ws out adr Qp mc ms :=
  fun sz => ct_body (Qc := fun A => va_Qe adr Qp (OutP D out) A) hy hown hlen sz body
theorem w_eret {Qp : Option Nat → S → Prop} {rt : FieldType} (C : Cq p s m args meth c D Z T A cc own nL (some rt)) (hrt : (∃ x, rt = .object x) ∨ ∃ t, rt = .array t) (v : Option Nat) (u : S) (hq : Qp v u) (hw : ws = out u) {va : Value} (hva : va = va_re adr v) (hk : k ≤ mc) (hn : n ≤ ms) (d : decode cc pc = .ok (.areturn, 1)) :
    ww p l e R s m args below meth c D A nL (MQ below (va_Qe adr Qp (OutP D out) A) args s mc ms A) k n ws pc lv [va] := fun H locs ls h1 h2 h3 h4 =>
  W.widen hk hn (W.aret C.1 C.2.1 C.2.2.2.2.2.2.2.1 hrt (by rw [hva]; cases v with | none => exact Or.inl rfl | some a => exact Or.inr ⟨adr a, rfl⟩) (fun t ht hW => ⟨⟨v, u, by rw [hva], hq, by show va_P D vwCl (out u) t.heap; rw [ht, ← hw]; exact h1⟩, h3.F ht⟩) h3.2.2 d C.2.2.2.2.2.2.2.2)
theorem w_aaload (C : Cq p s m args meth c D Z T A cc own nL ret) {a : Nat} {cA : ClassId} {Cn : String} {N : Nat} {f : Nat → Option Nat} {i : Int32} {v : Value} (q0 t0 : Nat) (he : ws[q0]? = some (a, .inl (cA, N, .inr (.inr (.inr (.inr f)))))) (ht : Z[t0]? = some (cA, .object Cn)) (hi : vp_in i N) (hv : va_rf (f i.toNatClampNeg) = v) (d : decode cc pc = .ok (.aaload, 1)) (kk : ww p l e R s m args below meth c D A nL Q k n ws (pc + 1) lv (v :: rest)) : ww p l e R s m args below meth c D A nL Q k n ws pc lv (.int i :: .ref a :: rest) := fun H locs ls h1 h2 h3 h4 => va_aldq C.1 C.2.1 C.2.2.2.2.2.1.1 h1 q0 t0 he ht hi d (by rw [hv]; exact kk H locs ls h1 h2 h3 h4)
theorem w_callXI (C : Cq p s m args meth c D Z T A cc own nL ret) {Qp : Int32 → S → Prop} (hC : CtI l D Z T y b mL rm rt (.ref q :: As) wc out Qp mc ms) (F : FactsV y b mL rt j) (hsel : Cond.selects y.cls y y ∈ TT) (hlk : Cond.methodLink own i y ∈ TT) (hj : As.length = j) (hR : rm.frames + 1 ≤ R.frames ∧ 8 + (mL + 11) + rm.locals ≤ R.locals) (hrc : rm.cells = mc) (hrs : rm.slots = ms) (hroom : k + mc ≤ R.cells ∧ n + ms ≤ R.slots) {ci : Nat} {fs : List Value} {rr : vw_C} (q0 : Nat) (hq : wc[q0]? = some (q, .inr (ci, fs))) (hr : vwCl[ci]? = some rr) (hrn : rr.1 = y.cls) {ad : Nat → Nat} {N : Nat} {ct : Nat → va_E} (pl : List Nat) (hwc : pl.map (fun n => (ad n, ct n)) = wc) (hlt : ∀ n ∈ pl, n < N) (hnd : pl.Nodup) (ct2 : S → Nat → va_E) (hout : ∀ u, pl.map (fun n => (ad n, ct2 u n)) = out u) (hrest : ∀ u n, n < N → n ∉ pl → ct2 u n = ct n) (hst : st = As.reverse ++ .ref q :: rest) (hcat : (rest.map fun v => v.category).sum ≤ 8) (d : decode cc pc = .ok (.invokevirtual i, 3)) (kk : ∀ (r : Int32) (u : S), Qp r u → ww p l e R s m args below meth c D A nL Q (k + mc) (n + ms) (mw ad N (ct2 u)) (pc + 3) lv (.int r :: rest)) : ww p l e R s m args below meth c D A nL Q k n (mw ad N ct) pc lv st := by
  intro H locs ls h1 h2 h3 h4
  have hPc : va_P D vwCl wc H := mw_subP h1 hwc hlt
  have hDc : va_D A wc := mw_subD h2 hwc hlt hnd
  have hF := free_all hDc h3 C.2.2.2.2.2.2.1
  refine va_calli (c_runV C hC F hsel hlk hj hrc hrs hR hroom hPc (hDc.weaken (fun _ _ _ _ => trivial)) hF h3 h4 hq hr hrn hst hcat d) h3 (fun q _ h => hF q h) hF (fun r u t H1 locs1 ht hvm hw hB hz hk1 hS1 => ?_)
  have hB1 : va_P D vwCl (out u) H1 := by rw [← ht]; exact hB
  exact kk r u hw H1 locs1 ls (mw_join h1 h2 hwc hlt (hout u) (hrest u) hk1 hB1) (h2.addr mw_addr) hS1 h4
theorem w_callXIN (C : Cq p s m args meth c D Z T A cc own nL ret) {Qp : Int32 → S → Prop} (hC : CtI l D Z T y b mL rm rt (.ref q :: As) wc out Qp mc ms) (F : FactsV y b mL rt j) (hsel : Cond.selects y.cls y y ∈ TT) {host : String} (hlk : Cond.methodLinkNest own i y host ∈ lw_tbl) (hj : As.length = j) (hR : rm.frames + 1 ≤ R.frames ∧ 8 + (mL + 11) + rm.locals ≤ R.locals) (hrc : rm.cells = mc) (hrs : rm.slots = ms) (hroom : k + mc ≤ R.cells ∧ n + ms ≤ R.slots) {ci : Nat} {fs : List Value} {rr : vw_C} (q0 : Nat) (hq : wc[q0]? = some (q, .inr (ci, fs))) (hr : vwCl[ci]? = some rr) (hrn : rr.1 = y.cls) {ad : Nat → Nat} {N : Nat} {ct : Nat → va_E} (pl : List Nat) (hwc : pl.map (fun n => (ad n, ct n)) = wc) (hlt : ∀ n ∈ pl, n < N) (hnd : pl.Nodup) (ct2 : S → Nat → va_E) (hout : ∀ u, pl.map (fun n => (ad n, ct2 u n)) = out u) (hrest : ∀ u n, n < N → n ∉ pl → ct2 u n = ct n) (hst : st = As.reverse ++ .ref q :: rest) (hcat : (rest.map fun v => v.category).sum ≤ 8) (d : decode cc pc = .ok (.invokevirtual i, 3)) (kk : ∀ (r : Int32) (u : S), Qp r u → ww p l e R s m args below meth c D A nL Q (k + mc) (n + ms) (mw ad N (ct2 u)) (pc + 3) lv (.int r :: rest)) : ww p l e R s m args below meth c D A nL Q k n (mw ad N ct) pc lv st := by
  intro H locs ls h1 h2 h3 h4
  have hPc : va_P D vwCl wc H := mw_subP h1 hwc hlt
  have hDc : va_D A wc := mw_subD h2 hwc hlt hnd
  have hF := free_all hDc h3 C.2.2.2.2.2.2.1
  refine va_calli (c_runVN C hC F hsel hlk hj hrc hrs hR hroom hPc (hDc.weaken (fun _ _ _ _ => trivial)) hF h3 h4 hq hr hrn hst hcat d) h3 (fun q _ h => hF q h) hF (fun r u t H1 locs1 ht hvm hw hB hz hk1 hS1 => ?_)
  have hB1 : va_P D vwCl (out u) H1 := by rw [← ht]; exact hB
  exact kk r u hw H1 locs1 ls (mw_join h1 h2 hwc hlt (hout u) (hrest u) hk1 hB1) (h2.addr mw_addr) hS1 h4
theorem w_callXL (C : Cq p s m args meth c D Z T A cc own nL ret) {Qp : Int64 → S → Prop} (hC : CtL l D Z T y b mL rm rt (.ref q :: As) wc out Qp mc ms) (F : FactsV y b mL rt j) (hsel : Cond.selects y.cls y y ∈ TT) (hlk : Cond.methodLink own i y ∈ TT) (hj : As.length = j) (hR : rm.frames + 1 ≤ R.frames ∧ 8 + (mL + 11) + rm.locals ≤ R.locals) (hrc : rm.cells = mc) (hrs : rm.slots = ms) (hroom : k + mc ≤ R.cells ∧ n + ms ≤ R.slots) {ci : Nat} {fs : List Value} {rr : vw_C} (q0 : Nat) (hq : wc[q0]? = some (q, .inr (ci, fs))) (hr : vwCl[ci]? = some rr) (hrn : rr.1 = y.cls) {ad : Nat → Nat} {N : Nat} {ct : Nat → va_E} (pl : List Nat) (hwc : pl.map (fun n => (ad n, ct n)) = wc) (hlt : ∀ n ∈ pl, n < N) (hnd : pl.Nodup) (ct2 : S → Nat → va_E) (hout : ∀ u, pl.map (fun n => (ad n, ct2 u n)) = out u) (hrest : ∀ u n, n < N → n ∉ pl → ct2 u n = ct n) (hst : st = As.reverse ++ .ref q :: rest) (hcat : (rest.map fun v => v.category).sum ≤ 8) (d : decode cc pc = .ok (.invokevirtual i, 3)) (kk : ∀ (r : Int64) (u : S), Qp r u → ww p l e R s m args below meth c D A nL Q (k + mc) (n + ms) (mw ad N (ct2 u)) (pc + 3) lv (.long r :: rest)) : ww p l e R s m args below meth c D A nL Q k n (mw ad N ct) pc lv st := by
  intro H locs ls h1 h2 h3 h4
  have hPc : va_P D vwCl wc H := mw_subP h1 hwc hlt
  have hDc : va_D A wc := mw_subD h2 hwc hlt hnd
  have hF := free_all hDc h3 C.2.2.2.2.2.2.1
  refine va_calll (c_runV C hC F hsel hlk hj hrc hrs hR hroom hPc (hDc.weaken (fun _ _ _ _ => trivial)) hF h3 h4 hq hr hrn hst hcat d) h3 (fun q _ h => hF q h) hF (fun r u t H1 locs1 ht hvm hw hB hz hk1 hS1 => ?_)
  have hB1 : va_P D vwCl (out u) H1 := by rw [← ht]; exact hB
  exact kk r u hw H1 locs1 ls (mw_join h1 h2 hwc hlt (hout u) (hrest u) hk1 hB1) (h2.addr mw_addr) hS1 h4
theorem w_callXLN (C : Cq p s m args meth c D Z T A cc own nL ret) {Qp : Int64 → S → Prop} (hC : CtL l D Z T y b mL rm rt (.ref q :: As) wc out Qp mc ms) (F : FactsV y b mL rt j) (hsel : Cond.selects y.cls y y ∈ TT) {host : String} (hlk : Cond.methodLinkNest own i y host ∈ lw_tbl) (hj : As.length = j) (hR : rm.frames + 1 ≤ R.frames ∧ 8 + (mL + 11) + rm.locals ≤ R.locals) (hrc : rm.cells = mc) (hrs : rm.slots = ms) (hroom : k + mc ≤ R.cells ∧ n + ms ≤ R.slots) {ci : Nat} {fs : List Value} {rr : vw_C} (q0 : Nat) (hq : wc[q0]? = some (q, .inr (ci, fs))) (hr : vwCl[ci]? = some rr) (hrn : rr.1 = y.cls) {ad : Nat → Nat} {N : Nat} {ct : Nat → va_E} (pl : List Nat) (hwc : pl.map (fun n => (ad n, ct n)) = wc) (hlt : ∀ n ∈ pl, n < N) (hnd : pl.Nodup) (ct2 : S → Nat → va_E) (hout : ∀ u, pl.map (fun n => (ad n, ct2 u n)) = out u) (hrest : ∀ u n, n < N → n ∉ pl → ct2 u n = ct n) (hst : st = As.reverse ++ .ref q :: rest) (hcat : (rest.map fun v => v.category).sum ≤ 8) (d : decode cc pc = .ok (.invokevirtual i, 3)) (kk : ∀ (r : Int64) (u : S), Qp r u → ww p l e R s m args below meth c D A nL Q (k + mc) (n + ms) (mw ad N (ct2 u)) (pc + 3) lv (.long r :: rest)) : ww p l e R s m args below meth c D A nL Q k n (mw ad N ct) pc lv st := by
  intro H locs ls h1 h2 h3 h4
  have hPc : va_P D vwCl wc H := mw_subP h1 hwc hlt
  have hDc : va_D A wc := mw_subD h2 hwc hlt hnd
  have hF := free_all hDc h3 C.2.2.2.2.2.2.1
  refine va_calll (c_runVN C hC F hsel hlk hj hrc hrs hR hroom hPc (hDc.weaken (fun _ _ _ _ => trivial)) hF h3 h4 hq hr hrn hst hcat d) h3 (fun q _ h => hF q h) hF (fun r u t H1 locs1 ht hvm hw hB hz hk1 hS1 => ?_)
  have hB1 : va_P D vwCl (out u) H1 := by rw [← ht]; exact hB
  exact kk r u hw H1 locs1 ls (mw_join h1 h2 hwc hlt (hout u) (hrest u) hk1 hB1) (h2.addr mw_addr) hS1 h4
theorem w_callXV (C : Cq p s m args meth c D Z T A cc own nL ret) {Qp : S → Prop} (hC : CtV l D Z T y b mL rm rt (.ref q :: As) wc out Qp mc ms) (F : FactsV y b mL rt j) (hsel : Cond.selects y.cls y y ∈ TT) (hlk : Cond.methodLink own i y ∈ TT) (hj : As.length = j) (hR : rm.frames + 1 ≤ R.frames ∧ 8 + (mL + 11) + rm.locals ≤ R.locals) (hrc : rm.cells = mc) (hrs : rm.slots = ms) (hroom : k + mc ≤ R.cells ∧ n + ms ≤ R.slots) {ci : Nat} {fs : List Value} {rr : vw_C} (q0 : Nat) (hq : wc[q0]? = some (q, .inr (ci, fs))) (hr : vwCl[ci]? = some rr) (hrn : rr.1 = y.cls) {ad : Nat → Nat} {N : Nat} {ct : Nat → va_E} (pl : List Nat) (hwc : pl.map (fun n => (ad n, ct n)) = wc) (hlt : ∀ n ∈ pl, n < N) (hnd : pl.Nodup) (ct2 : S → Nat → va_E) (hout : ∀ u, pl.map (fun n => (ad n, ct2 u n)) = out u) (hrest : ∀ u n, n < N → n ∉ pl → ct2 u n = ct n) (hst : st = As.reverse ++ .ref q :: rest) (hcat : (rest.map fun v => v.category).sum ≤ 8) (d : decode cc pc = .ok (.invokevirtual i, 3)) (kk : ∀ (u : S), Qp u → ww p l e R s m args below meth c D A nL Q (k + mc) (n + ms) (mw ad N (ct2 u)) (pc + 3) lv rest) : ww p l e R s m args below meth c D A nL Q k n (mw ad N ct) pc lv st := by
  intro H locs ls h1 h2 h3 h4
  have hPc : va_P D vwCl wc H := mw_subP h1 hwc hlt
  have hDc : va_D A wc := mw_subD h2 hwc hlt hnd
  have hF := free_all hDc h3 C.2.2.2.2.2.2.1
  refine va_callv (c_runV C hC F hsel hlk hj hrc hrs hR hroom hPc (hDc.weaken (fun _ _ _ _ => trivial)) hF h3 h4 hq hr hrn hst hcat d) h3 (fun q _ h => hF q h) hF (fun u t H1 locs1 ht hvm hw hB hz hk1 hS1 => ?_)
  have hB1 : va_P D vwCl (out u) H1 := by rw [← ht]; exact hB
  exact kk u hw H1 locs1 ls (mw_join h1 h2 hwc hlt (hout u) (hrest u) hk1 hB1) (h2.addr mw_addr) hS1 h4
theorem w_callXVN (C : Cq p s m args meth c D Z T A cc own nL ret) {Qp : S → Prop} (hC : CtV l D Z T y b mL rm rt (.ref q :: As) wc out Qp mc ms) (F : FactsV y b mL rt j) (hsel : Cond.selects y.cls y y ∈ TT) {host : String} (hlk : Cond.methodLinkNest own i y host ∈ lw_tbl) (hj : As.length = j) (hR : rm.frames + 1 ≤ R.frames ∧ 8 + (mL + 11) + rm.locals ≤ R.locals) (hrc : rm.cells = mc) (hrs : rm.slots = ms) (hroom : k + mc ≤ R.cells ∧ n + ms ≤ R.slots) {ci : Nat} {fs : List Value} {rr : vw_C} (q0 : Nat) (hq : wc[q0]? = some (q, .inr (ci, fs))) (hr : vwCl[ci]? = some rr) (hrn : rr.1 = y.cls) {ad : Nat → Nat} {N : Nat} {ct : Nat → va_E} (pl : List Nat) (hwc : pl.map (fun n => (ad n, ct n)) = wc) (hlt : ∀ n ∈ pl, n < N) (hnd : pl.Nodup) (ct2 : S → Nat → va_E) (hout : ∀ u, pl.map (fun n => (ad n, ct2 u n)) = out u) (hrest : ∀ u n, n < N → n ∉ pl → ct2 u n = ct n) (hst : st = As.reverse ++ .ref q :: rest) (hcat : (rest.map fun v => v.category).sum ≤ 8) (d : decode cc pc = .ok (.invokevirtual i, 3)) (kk : ∀ (u : S), Qp u → ww p l e R s m args below meth c D A nL Q (k + mc) (n + ms) (mw ad N (ct2 u)) (pc + 3) lv rest) : ww p l e R s m args below meth c D A nL Q k n (mw ad N ct) pc lv st := by
  intro H locs ls h1 h2 h3 h4
  have hPc : va_P D vwCl wc H := mw_subP h1 hwc hlt
  have hDc : va_D A wc := mw_subD h2 hwc hlt hnd
  have hF := free_all hDc h3 C.2.2.2.2.2.2.1
  refine va_callv (c_runVN C hC F hsel hlk hj hrc hrs hR hroom hPc (hDc.weaken (fun _ _ _ _ => trivial)) hF h3 h4 hq hr hrn hst hcat d) h3 (fun q _ h => hF q h) hF (fun u t H1 locs1 ht hvm hw hB hz hk1 hS1 => ?_)
  have hB1 : va_P D vwCl (out u) H1 := by rw [← ht]; exact hB
  exact kk u hw H1 locs1 ls (mw_join h1 h2 hwc hlt (hout u) (hrest u) hk1 hB1) (h2.addr mw_addr) hS1 h4
theorem w_callXE (C : Cq p s m args meth c D Z T A cc own nL ret) {Qp : Option Nat → S → Prop} (hC : CtE l D Z T y b mL rm rt (.ref q :: As) wc out adr Qp mc ms) (F : FactsV y b mL rt j) (hsel : Cond.selects y.cls y y ∈ TT) (hlk : Cond.methodLink own i y ∈ TT) (hj : As.length = j) (hR : rm.frames + 1 ≤ R.frames ∧ 8 + (mL + 11) + rm.locals ≤ R.locals) (hrc : rm.cells = mc) (hrs : rm.slots = ms) (hroom : k + mc ≤ R.cells ∧ n + ms ≤ R.slots) {ci : Nat} {fs : List Value} {rr : vw_C} (q0 : Nat) (hq : wc[q0]? = some (q, .inr (ci, fs))) (hr : vwCl[ci]? = some rr) (hrn : rr.1 = y.cls) {ad : Nat → Nat} {N : Nat} {ct : Nat → va_E} (pl : List Nat) (hwc : pl.map (fun n => (ad n, ct n)) = wc) (hlt : ∀ n ∈ pl, n < N) (hnd : pl.Nodup) (ct2 : S → Nat → va_E) (hout : ∀ u, pl.map (fun n => (ad n, ct2 u n)) = out u) (hrest : ∀ u n, n < N → n ∉ pl → ct2 u n = ct n) (hst : st = As.reverse ++ .ref q :: rest) (hcat : (rest.map fun v => v.category).sum ≤ 8) (d : decode cc pc = .ok (.invokevirtual i, 3)) (kk : ∀ (r : Option Nat) (u : S), Qp r u → ww p l e R s m args below meth c D A nL Q (k + mc) (n + ms) (mw ad N (ct2 u)) (pc + 3) lv (va_re adr r :: rest)) : ww p l e R s m args below meth c D A nL Q k n (mw ad N ct) pc lv st := by
  intro H locs ls h1 h2 h3 h4
  have hPc : va_P D vwCl wc H := mw_subP h1 hwc hlt
  have hDc : va_D A wc := mw_subD h2 hwc hlt hnd
  have hF := free_all hDc h3 C.2.2.2.2.2.2.1
  refine va_calle (c_runV C hC F hsel hlk hj hrc hrs hR hroom hPc (hDc.weaken (fun _ _ _ _ => trivial)) hF h3 h4 hq hr hrn hst hcat d) h3 (fun q _ h => hF q h) hF (fun r u t H1 locs1 ht hvm hw hB hz hk1 hS1 => ?_)
  have hB1 : va_P D vwCl (out u) H1 := by rw [← ht]; exact hB
  exact kk r u hw H1 locs1 ls (mw_join h1 h2 hwc hlt (hout u) (hrest u) hk1 hB1) (h2.addr mw_addr) hS1 h4
theorem w_callXEN (C : Cq p s m args meth c D Z T A cc own nL ret) {Qp : Option Nat → S → Prop} (hC : CtE l D Z T y b mL rm rt (.ref q :: As) wc out adr Qp mc ms) (F : FactsV y b mL rt j) (hsel : Cond.selects y.cls y y ∈ TT) {host : String} (hlk : Cond.methodLinkNest own i y host ∈ lw_tbl) (hj : As.length = j) (hR : rm.frames + 1 ≤ R.frames ∧ 8 + (mL + 11) + rm.locals ≤ R.locals) (hrc : rm.cells = mc) (hrs : rm.slots = ms) (hroom : k + mc ≤ R.cells ∧ n + ms ≤ R.slots) {ci : Nat} {fs : List Value} {rr : vw_C} (q0 : Nat) (hq : wc[q0]? = some (q, .inr (ci, fs))) (hr : vwCl[ci]? = some rr) (hrn : rr.1 = y.cls) {ad : Nat → Nat} {N : Nat} {ct : Nat → va_E} (pl : List Nat) (hwc : pl.map (fun n => (ad n, ct n)) = wc) (hlt : ∀ n ∈ pl, n < N) (hnd : pl.Nodup) (ct2 : S → Nat → va_E) (hout : ∀ u, pl.map (fun n => (ad n, ct2 u n)) = out u) (hrest : ∀ u n, n < N → n ∉ pl → ct2 u n = ct n) (hst : st = As.reverse ++ .ref q :: rest) (hcat : (rest.map fun v => v.category).sum ≤ 8) (d : decode cc pc = .ok (.invokevirtual i, 3)) (kk : ∀ (r : Option Nat) (u : S), Qp r u → ww p l e R s m args below meth c D A nL Q (k + mc) (n + ms) (mw ad N (ct2 u)) (pc + 3) lv (va_re adr r :: rest)) : ww p l e R s m args below meth c D A nL Q k n (mw ad N ct) pc lv st := by
  intro H locs ls h1 h2 h3 h4
  have hPc : va_P D vwCl wc H := mw_subP h1 hwc hlt
  have hDc : va_D A wc := mw_subD h2 hwc hlt hnd
  have hF := free_all hDc h3 C.2.2.2.2.2.2.1
  refine va_calle (c_runVN C hC F hsel hlk hj hrc hrs hR hroom hPc (hDc.weaken (fun _ _ _ _ => trivial)) hF h3 h4 hq hr hrn hst hcat d) h3 (fun q _ h => hF q h) hF (fun r u t H1 locs1 ht hvm hw hB hz hk1 hS1 => ?_)
  have hB1 : va_P D vwCl (out u) H1 := by rw [← ht]; exact hB
  exact kk r u hw H1 locs1 ls (mw_join h1 h2 hwc hlt (hout u) (hrest u) hk1 hB1) (h2.addr mw_addr) hS1 h4
theorem w_callVE (C : Cq p s m args meth c D Z T A cc own nL ret) {Qp : Option Nat → S → Prop} (hC : CtE l D Z T y b mL rm rt (.ref q :: As) ws out adr Qp mc ms) (F : FactsV y b mL rt j) (hsel : Cond.selects y.cls y y ∈ TT) (hlk : Cond.methodLink own i y ∈ TT) (hj : As.length = j) (hR : rm.frames + 1 ≤ R.frames ∧ 8 + (mL + 11) + rm.locals ≤ R.locals) (hrc : rm.cells = mc) (hrs : rm.slots = ms) (hroom : k + mc ≤ R.cells ∧ n + ms ≤ R.slots) {ci : Nat} {fs : List Value} {rr : vw_C} (q0 : Nat) (hq : ws[q0]? = some (q, .inr (ci, fs))) (hr : vwCl[ci]? = some rr) (hrn : rr.1 = y.cls) (had : ∀ u, (out u).map Prod.fst = ws.map Prod.fst) (hst : st = As.reverse ++ .ref q :: rest) (hcat : (rest.map fun v => v.category).sum ≤ 8) (d : decode cc pc = .ok (.invokevirtual i, 3)) (kk : ∀ (r : Option Nat) (u : S), Qp r u → ww p l e R s m args below meth c D A nL Q (k + mc) (n + ms) (out u) (pc + 3) lv (va_re adr r :: rest)) : ww p l e R s m args below meth c D A nL Q k n ws pc lv st := by
  intro H locs ls h1 h2 h3 h4
  have hF := free_all h2 h3 C.2.2.2.2.2.2.1
  refine va_calle (c_runV C hC F hsel hlk hj hrc hrs hR hroom h1 (h2.weaken (fun _ _ _ _ => trivial)) hF h3 h4 hq hr hrn hst hcat d) h3 (fun q _ h => hF q h) hF (fun r u t H1 locs1 ht hvm hw hB hz hk1 hS1 => ?_)
  exact kk r u hw H1 locs1 ls (by rw [← ht]; exact hB) (h2.addr (had u)) hS1 h4
end WX
