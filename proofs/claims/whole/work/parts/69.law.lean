/-! ===== the walk of the law ===== -/
theorem P_start {D : va_G} {H : Heap} (cB cI cJ cL cS : ClassId) (a0 q1 : Nat) (pu : Nat → Nat) (pw : Nat → Int32) (t d : Nat → Nat) (h hq : Nat) (V : Nat → Nat × (Nat → Nat) × (Nat → Nat) × (Nat → Int32)) (Lf : Nat → Nat → Nat) (hP : va_P D vwCl (wTR cB cI cJ cL cS a0 q1 pu pw t d h hq ((List.range 8).map V) ((List.range 4).map Lf)) H) : va_P D vwCl (mw (adX a0 q1 pu t d h hq V Lf) 94 (ctT cI cJ cL cS (adX a0 q1 pu t d h hq V Lf) 0 (-1) pw (fun _ => 0) 0 (fun _ => 0) 0 0 0 (fun _ => -1) (fun _ => 0) (fun _ => 0) (fun _ => 0) (fun _ => 0) (fun _ => 0) (fun _ => 0) (fun _ _ => 0) (fun _ _ => 0) (fun _ _ => 0) (fun _ _ => 0) (fun _ => 0) (fun _ => -1) (fun k => (V k).2.2.2) (fun _ => 0) (fun _ => 0) (fun _ => 0) (fun _ => 0) (fun _ => 0) (fun _ => 0) (fun _ _ => 0) (fun _ _ => 0) (fun _ _ => 0) (fun _ _ => 0))) H := by
  have h1 : va_P D vwCl ([(a0, .inr (7, [.ref q1, .ref (pu 0), .ref (t 0), .ref (d 0), .ref h]))] ++ (q1, .inl (cL, 4, .inr (.inr (.inr (.inr (fun j => ((((List.range 4).map Lf))[j]?).map (fun u => u 0))))))) :: (wPr cB cI cJ pu 0 (-1) pw ++ (wTp cB cI cJ t (fun _ => 0) 0 ++ (wTp cB cI cJ d (fun _ => 0) 0 ++ ([(h, .inr (0, [.ref hq, .int 0, .int 0]))] ++ (hq, .inl (cS, 8, .inr (.inr (.inr (.inr (fun j => ((((List.range 8).map V))[j]?).map (fun v => v.1))))))) :: (((List.range 8).map V).flatMap (fun v => wSt cB cI cJ v.1 v.2) ++ wLs cB cI cJ ((List.range 4).map Lf))))))) H := hP
  have h2 := P_cell (g := fun k => some (adX a0 q1 pu t d h hq V Lf (74 + 5 * k + 0))) h1 (fun j hj => by
    match j, hj with
    | 0, _ => rfl
    | 1, _ => rfl
    | 2, _ => rfl
    | 3, _ => rfl
    | j + 4, z => exact absurd z (by omega))
  have h3 : va_P D vwCl (([(a0, .inr (7, [.ref q1, .ref (pu 0), .ref (t 0), .ref (d 0), .ref h])), (q1, .inl (cL, 4, .inr (.inr (.inr (.inr (fun k => some (adX a0 q1 pu t d h hq V Lf (74 + 5 * k + 0))))))))] ++ wPr cB cI cJ pu 0 (-1) pw ++ wTp cB cI cJ t (fun _ => 0) 0 ++ wTp cB cI cJ d (fun _ => 0) 0 ++ [(h, .inr (0, [.ref hq, .int 0, .int 0]))]) ++ (hq, .inl (cS, 8, .inr (.inr (.inr (.inr (fun j => ((((List.range 8).map V))[j]?).map (fun v => v.1))))))) :: (((List.range 8).map V).flatMap (fun v => wSt cB cI cJ v.1 v.2) ++ wLs cB cI cJ ((List.range 4).map Lf))) H := h2
  have h4 := P_cell (g := fun k => some (adX a0 q1 pu t d h hq V Lf (10 + 8 * k + 0))) h3 (fun j hj => by
    match j, hj with
    | 0, _ => rfl
    | 1, _ => rfl
    | 2, _ => rfl
    | 3, _ => rfl
    | 4, _ => rfl
    | 5, _ => rfl
    | 6, _ => rfl
    | 7, _ => rfl
    | j + 8, z => exact absurd z (by omega))
  rw [mw_start]
  exact h4
theorem D_start (cB cI cJ cL cS : ClassId) (a0 q1 : Nat) (pu : Nat → Nat) (pw : Nat → Int32) (t d : Nat → Nat) (h hq : Nat) (V : Nat → Nat × (Nat → Nat) × (Nat → Nat) × (Nat → Int32)) (Lf : Nat → Nat → Nat) : (mw (adX a0 q1 pu t d h hq V Lf) 94 (ctT cI cJ cL cS (adX a0 q1 pu t d h hq V Lf) 0 (-1) pw (fun _ => 0) 0 (fun _ => 0) 0 0 0 (fun _ => -1) (fun _ => 0) (fun _ => 0) (fun _ => 0) (fun _ => 0) (fun _ => 0) (fun _ => 0) (fun _ _ => 0) (fun _ _ => 0) (fun _ _ => 0) (fun _ _ => 0) (fun _ => 0) (fun _ => -1) (fun k => (V k).2.2.2) (fun _ => 0) (fun _ => 0) (fun _ => 0) (fun _ => 0) (fun _ => 0) (fun _ => 0) (fun _ _ => 0) (fun _ _ => 0) (fun _ _ => 0) (fun _ _ => 0))).map Prod.fst = (wTR cB cI cJ cL cS a0 q1 pu pw t d h hq ((List.range 8).map V) ((List.range 4).map Lf)).map Prod.fst := by
  rw [mw_start]
  rfl
theorem Inv_start (pw mw8 : Nat → Int32) (V : Nat → Nat × (Nat → Nat) × (Nat → Nat) × (Nat → Int32)) (h1 : (∀ j : Nat, j < 4 → pw j = -1)) (h2 : ∀ j : Nat, j < 4 → mw8 j = -1) : Inv 0 (-1) pw (fun _ => 0) 0 (fun _ => 0) 0 0 0 (fun _ => -1) (fun _ => 0) (fun _ => 0) (fun _ => 0) (fun _ => 0) (fun _ => 0) (fun _ => 0) (fun _ _ => 0) (fun _ _ => 0) (fun _ _ => 0) (fun _ _ => 0) (fun _ => 0) (fun _ => -1) (fun k => (V k).2.2.2) (fun _ => 0) (fun _ => 0) (fun _ => 0) (fun _ => 0) (fun _ => 0) (fun _ => 0) (fun _ _ => 0) (fun _ _ => 0) (fun _ _ => 0) (fun _ _ => 0) (fun _ => 0) 0 (fun _ => 0) (fun _ => 0) (fun _ => 0) (fun _ => 0) (fun _ => 0) (fun _ => 0) 0 (-1) mw8 (fun _ => 0) (fun _ => 0) 0 0 0 0 0 0 0 (fun _ => 0) (fun _ => 0) (fun _ => 0) (fun _ => 0) (fun _ => 0) (fun _ => 0) 0 := by
  have hb0 : BY (fun _ => 0) := fun j => rfl
  refine ⟨⟨0, by decide, rfl, rfl, fun k hk => absurd hk (Nat.not_lt_zero _)⟩, ⟨rfl, rfl, fun k hk => by rw [h1 k hk, h2 k hk]⟩, ⟨Or.inl rfl, Or.inl rfl, fun k hk => Or.inl (h2 k hk)⟩, fun r hr => Or.inl ⟨rfl, rfl⟩, ⟨0, 0, by decide, by decide, rfl, rfl, rfl, fun u hu => absurd hu (Nat.not_lt_zero _)⟩, hb0, hb0, hb0, hb0, hb0, hb0⟩
set_option maxHeartbeats 4000000 in
set_option maxRecDepth 100000 in
/-- THE LAW, from its entry -/
theorem whole_start {p : Program} {e : Env} {s : State} {m : MethodId} {below : List Frame} {meth : Method} {c : Code} (l : Launch) (hflags : l.flags = flags0) {b L : Nat} {xs : Nat → Int32} (hL : L ≤ 4096) (C0 : lw_At p s m meth c b L xs) : W p l e room_1 s m #[Value.ref b] below meth c s.heap [] 0 0 (lw_Z below #[Value.ref b] s) (entryFrame m ([Value.ref b] : List Value).toArray 4) := by
  obtain ⟨hx, hb, hr, hml, hown, hts, hX, hbl, hlocks, hgv⟩ := id C0
  obtain ⟨D, cB, cI, cJ, cL, cS, T, C⟩ := start_C C0
  have hl := lv_entry ([.ref b]) (n := 4) (Nat.le_of_ble_eq_true rfl)
  rw [lg_entry_eq]
  generalize (lg_sl ([.ref b]) ++ List.replicate (4 - (lg_sl ([.ref b])).length) Slot.unset).toArray = ls at hl ⊢
  have hl : lv_has ls 4 [(0, .ref b)] := hl
  have key : ww p l e room_1 s m #[.ref b] below meth c D (fun q => s.heap.size ≤ q) 4 (lw_Z below #[.ref b] s) 0 0 [] 0 [(0, .ref b)] [] := by
    refine w_new C (ci := 7) (T1 := TX7) u_X7 tyX7 tyX7_ok k_80 k_81 k_63 rfl [.null, .null, .null, .null, .null] (fun j hj => by rcases (show j = 0 ∨ j = 1 ∨ j = 2 ∨ j = 3 ∨ j = 4 by omega) with rfl | rfl | rfl | rfl | rfl <;> rfl) (Nat.le_of_ble_eq_true rfl) (Nat.le_of_ble_eq_true rfl) dL_law_0 (fun a0 => ?_)
    refine w_dup C rfl dL_law_3 ?_
    refine w_iapp C c_X7_init f_X7_init rfl k_82 rfl ⟨(Nat.le_of_ble_eq_true rfl), (Nat.le_of_ble_eq_true rfl)⟩ rfl rfl ⟨(Nat.le_of_ble_eq_true rfl), (Nat.le_of_ble_eq_true rfl)⟩ rfl (Nat.le_of_ble_eq_true rfl) dL_law_4 (fun x hx7 => ?_)
    refine w_astore_n C [(1, .ref a0), (0, .ref b)] dL_law_7 (by decide) rfl ?_
    refine w_new C (ci := 8) (T1 := TX8) u_X8 tyX8 tyX8_ok k_811 k_812 k_70 rfl [.null, .int 0, .null, .null, .null, .null, .null, .null, .int 0, .int 0, .null, .null, .null, .int 0, .int 0, .int 0, .long 0, .int 0, .int 0, .long 0, .null, .null, .null, .null, .null, .null, .int 0] (fun j hj => by
      match j, hj with
      | 0, _ => rfl
      | 1, _ => rfl
      | 2, _ => rfl
      | 3, _ => rfl
      | 4, _ => rfl
      | 5, _ => rfl
      | 6, _ => rfl
      | 7, _ => rfl
      | 8, _ => rfl
      | 9, _ => rfl
      | 10, _ => rfl
      | 11, _ => rfl
      | 12, _ => rfl
      | 13, _ => rfl
      | 14, _ => rfl
      | 15, _ => rfl
      | 16, _ => rfl
      | 17, _ => rfl
      | 18, _ => rfl
      | 19, _ => rfl
      | 20, _ => rfl
      | 21, _ => rfl
      | 22, _ => rfl
      | 23, _ => rfl
      | 24, _ => rfl
      | 25, _ => rfl
      | 26, _ => rfl
      | j + 27, z => exact absurd z (by omega)) (Nat.le_of_ble_eq_true rfl) (Nat.le_of_ble_eq_true rfl) dL_law_8 (fun a8 => ?_)
    refine w_dup C rfl dL_law_11 ?_
    refine w_iapp C c_X8_init f_X8_init rfl k_813 rfl ⟨(Nat.le_of_ble_eq_true rfl), (Nat.le_of_ble_eq_true rfl)⟩ rfl rfl ⟨(Nat.le_of_ble_eq_true rfl), (Nat.le_of_ble_eq_true rfl)⟩ rfl (Nat.le_of_ble_eq_true rfl) dL_law_12 (fun y hy8 => ?_)
    obtain ⟨am, mw8⟩ := y
    obtain ⟨hy1, hy2⟩ := hy8
    dsimp only at hy1 hy2
    subst hy1
    refine w_astore_n C [(2, .ref (am 0)), (1, .ref a0), (0, .ref b)] dL_law_15 (by decide) rfl ?_
    refine w_iconst C (v := (0 : Int32)) dL_law_16 (by decide) ?_
    refine w_istore_n C (fun x => [(3, .int x), (2, .ref (am 0)), (1, .ref a0), (0, .ref b)]) dL_law_17 (by decide) (fun _ => rfl) (fun z e_z => ?_)
    rw [e_z.trans (nI_0.symm.trans (congrArg nI (Nat.mul_zero 8).symm))]
    obtain ⟨q1, pu, pw, t, d, h, hq, vs, ls2⟩ := x
    obtain ⟨hw1, hw2, hw3, hw4⟩ := hx7
    dsimp only at hw1 hw2 hw3 hw4
    obtain ⟨V, hV⟩ : ∃ V : Nat → Nat × (Nat → Nat) × (Nat → Nat) × (Nat → Int32), vs = (List.range 8).map V := ⟨_, ext_map (0, (fun _ => 0), (fun _ => 0), (fun _ => 0)) vs 8 hw2⟩
    obtain ⟨Lf, hLf⟩ : ∃ Lf : Nat → Nat → Nat, ls2 = (List.range 4).map Lf := ⟨_, ext_map (fun _ => 0) ls2 4 hw4⟩
    subst hV hLf
    refine w_sub (lv' := [(3, .int (nI (8 * 0))), (0, .ref b), (1, .ref (adX a0 q1 pu t d h hq V Lf 0)), (2, .ref (am 0))]) C [0, 3, 2, 1] rfl ?_
    refine w_conv (ws2 := mw (adX a0 q1 pu t d h hq V Lf) 94 (ctT cI cJ cL cS (adX a0 q1 pu t d h hq V Lf) 0 (-1) pw (fun _ => 0) 0 (fun _ => 0) 0 0 0 (fun _ => -1) (fun _ => 0) (fun _ => 0) (fun _ => 0) (fun _ => 0) (fun _ => 0) (fun _ => 0) (fun _ _ => 0) (fun _ _ => 0) (fun _ _ => 0) (fun _ _ => 0) (fun _ => 0) (fun _ => -1) (fun k => (V k).2.2.2) (fun _ => 0) (fun _ => 0) (fun _ => 0) (fun _ => 0) (fun _ => 0) (fun _ => 0) (fun _ _ => 0) (fun _ _ => 0) (fun _ _ => 0) (fun _ _ => 0)) ++ wM cB cI cJ am (fun _ => 0) 0 (fun _ => 0) (fun _ => 0) (fun _ => 0) (fun _ => 0) (fun _ => 0) (fun _ => 0) 0 (-1) mw8 (fun _ => 0) (fun _ => 0) 0 0 0 0 0 0 0 (fun _ => 0) (fun _ => 0) (fun _ => 0) (fun _ => 0) (fun _ => 0) (fun _ => 0) 0) (fun H z => va_P.app (P_start cB cI cJ cL cS a0 q1 pu pw t d h hq V Lf (left_P z)) (right_P z)) (fun z => va_D.addr z (by rw [List.map_append, List.map_append, D_start]; rfl)) ?_
    exact W_le (law_loop hL C hX hbl stp_feed stp_end stp_octet stp_make (stp_slot _) (stp_edge _) stp_record stp_at stp_below stp_total stp_rank stp_about stp_add stp_takeOff stp_halve stp_shelve stp_kind stp_room stp_peek stp_poke stp_example stp_examples stp_pack stp_unpack stp_begin stp_write stp_stop stp_swap stp_read stp_undo stp_same stp_count stp_setting (L + 1) 0 _ _ _ _ _ _ _ _ _ _ _ _ _ _ _ _ _ _ _ _ _ _ _ _ _ _ _ _ _ _ _ _ _ _ _ _ _ _ _ _ _ _ _ _ _ _ _ _ _ _ _ _ _ _ _ _ _ _ _ _ (by omega) (by omega) (Inv_start pw mw8 V hw1 hy2)) (Nat.le_of_ble_eq_true rfl) (Nat.le_of_ble_eq_true rfl)
  exact key s.heap [] ls P_nil D_nil va_S.rf hl
