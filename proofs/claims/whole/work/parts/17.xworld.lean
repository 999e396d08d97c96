/-! ===== the recorder as a memory of 94 places ===== -/
def ctF (cI cJ cL cS : ClassId) (ad : Nat → Nat) (active : Int32) (rests : Int32) (writers : Nat → Int32) (tbytes : Nat → Int32) (tlen : Int32) (dbytes : Nat → Int32) (dlen : Int32) (next : Int32) (known : Int32) (rec : Nat → Int32) (m_made : Nat → Int32) (m_sort : Nat → Int32) (m_digits : Nat → Int32) (m_slots : Nat → Int32) (m_pages : Nat → Int32) (m_highest : Nat → Int64) (m_units : Nat → Nat → Int64) (m_kinds : Nat → Nat → Int32) (m_rows : Nat → Nat → Int32) (m_marks : Nat → Nat → Int32) (q_active : Nat → Int32) (q_rests : Nat → Int32) (q_writers : Nat → Nat → Int32) (l_made : Nat → Int32) (l_sort : Nat → Int32) (l_digits : Nat → Int32) (l_slots : Nat → Int32) (l_pages : Nat → Int32) (l_highest : Nat → Int64) (l_units : Nat → Nat → Int64) (l_kinds : Nat → Nat → Int32) (l_rows : Nat → Nat → Int32) (l_marks : Nat → Nat → Int32) (n : Nat) : va_E := match n with
  | 0 => .inr (7, [.ref (ad 1), .ref (ad (2 + 0)), .ref (ad (4 + 0)), .ref (ad (6 + 0)), .ref (ad 8)])
  | 1 => .inl (cL, 4, .inr (.inr (.inr (.inr (fun k => some (ad (74 + 5 * k + 0)))))))
  | 2 => .inr (2, [.int active, .int rests, .ref (ad (2 + 1))])
  | 3 => .inl (cI, 4, .inl writers)
  | 4 => .inr (5, [.ref (ad (4 + 1)), .int tlen])
  | 5 => .inl (cI, 400, .inl tbytes)
  | 6 => .inr (5, [.ref (ad (6 + 1)), .int dlen])
  | 7 => .inl (cI, 400, .inl dbytes)
  | 8 => .inr (0, [.ref (ad 9), .int next, .int known])
  | _ => .inl (cS, 8, .inr (.inr (.inr (.inr (fun k => some (ad (10 + 8 * k + 0)))))))
def ctS (cI cJ cL cS : ClassId) (ad : Nat → Nat) (active : Int32) (rests : Int32) (writers : Nat → Int32) (tbytes : Nat → Int32) (tlen : Int32) (dbytes : Nat → Int32) (dlen : Int32) (next : Int32) (known : Int32) (rec : Nat → Int32) (m_made : Nat → Int32) (m_sort : Nat → Int32) (m_digits : Nat → Int32) (m_slots : Nat → Int32) (m_pages : Nat → Int32) (m_highest : Nat → Int64) (m_units : Nat → Nat → Int64) (m_kinds : Nat → Nat → Int32) (m_rows : Nat → Nat → Int32) (m_marks : Nat → Nat → Int32) (q_active : Nat → Int32) (q_rests : Nat → Int32) (q_writers : Nat → Nat → Int32) (l_made : Nat → Int32) (l_sort : Nat → Int32) (l_digits : Nat → Int32) (l_slots : Nat → Int32) (l_pages : Nat → Int32) (l_highest : Nat → Int64) (l_units : Nat → Nat → Int64) (l_kinds : Nat → Nat → Int32) (l_rows : Nat → Nat → Int32) (l_marks : Nat → Nat → Int32) (k i : Nat) : va_E := match i with
  | 0 => .inr (4, [.int (rec k), .ref (ad (11 + 8 * k + 0)), .ref (ad (16 + 8 * k + 0))])
  | 1 => .inr (1, [.int (m_made k), .int (m_sort k), .int (m_digits k), .int (m_slots k), .int (m_pages k), .long (m_highest k), .ref (ad (11 + 8 * k + 1)), .ref (ad (11 + 8 * k + 2)), .ref (ad (11 + 8 * k + 3)), .ref (ad (11 + 8 * k + 4))])
  | 2 => .inl (cJ, 4336, .inr (.inl (m_units k)))
  | 3 => .inl (cI, 271, .inl (m_kinds k))
  | 4 => .inl (cI, 271, .inl (m_rows k))
  | 5 => .inl (cI, 4336, .inl (m_marks k))
  | 6 => .inr (2, [.int (q_active k), .int (q_rests k), .ref (ad (16 + 8 * k + 1))])
  | _ => .inl (cI, 4, .inl (q_writers k))
def ctL (cI cJ cL cS : ClassId) (ad : Nat → Nat) (active : Int32) (rests : Int32) (writers : Nat → Int32) (tbytes : Nat → Int32) (tlen : Int32) (dbytes : Nat → Int32) (dlen : Int32) (next : Int32) (known : Int32) (rec : Nat → Int32) (m_made : Nat → Int32) (m_sort : Nat → Int32) (m_digits : Nat → Int32) (m_slots : Nat → Int32) (m_pages : Nat → Int32) (m_highest : Nat → Int64) (m_units : Nat → Nat → Int64) (m_kinds : Nat → Nat → Int32) (m_rows : Nat → Nat → Int32) (m_marks : Nat → Nat → Int32) (q_active : Nat → Int32) (q_rests : Nat → Int32) (q_writers : Nat → Nat → Int32) (l_made : Nat → Int32) (l_sort : Nat → Int32) (l_digits : Nat → Int32) (l_slots : Nat → Int32) (l_pages : Nat → Int32) (l_highest : Nat → Int64) (l_units : Nat → Nat → Int64) (l_kinds : Nat → Nat → Int32) (l_rows : Nat → Nat → Int32) (l_marks : Nat → Nat → Int32) (k i : Nat) : va_E := match i with
  | 0 => .inr (1, [.int (l_made k), .int (l_sort k), .int (l_digits k), .int (l_slots k), .int (l_pages k), .long (l_highest k), .ref (ad (74 + 5 * k + 1)), .ref (ad (74 + 5 * k + 2)), .ref (ad (74 + 5 * k + 3)), .ref (ad (74 + 5 * k + 4))])
  | 1 => .inl (cJ, 4336, .inr (.inl (l_units k)))
  | 2 => .inl (cI, 271, .inl (l_kinds k))
  | 3 => .inl (cI, 271, .inl (l_rows k))
  | _ => .inl (cI, 4336, .inl (l_marks k))
def ctT (cI cJ cL cS : ClassId) (ad : Nat → Nat) (active : Int32) (rests : Int32) (writers : Nat → Int32) (tbytes : Nat → Int32) (tlen : Int32) (dbytes : Nat → Int32) (dlen : Int32) (next : Int32) (known : Int32) (rec : Nat → Int32) (m_made : Nat → Int32) (m_sort : Nat → Int32) (m_digits : Nat → Int32) (m_slots : Nat → Int32) (m_pages : Nat → Int32) (m_highest : Nat → Int64) (m_units : Nat → Nat → Int64) (m_kinds : Nat → Nat → Int32) (m_rows : Nat → Nat → Int32) (m_marks : Nat → Nat → Int32) (q_active : Nat → Int32) (q_rests : Nat → Int32) (q_writers : Nat → Nat → Int32) (l_made : Nat → Int32) (l_sort : Nat → Int32) (l_digits : Nat → Int32) (l_slots : Nat → Int32) (l_pages : Nat → Int32) (l_highest : Nat → Int64) (l_units : Nat → Nat → Int64) (l_kinds : Nat → Nat → Int32) (l_rows : Nat → Nat → Int32) (l_marks : Nat → Nat → Int32) (n : Nat) : va_E := if n < 10 then ctF cI cJ cL cS ad active rests writers tbytes tlen dbytes dlen next known rec m_made m_sort m_digits m_slots m_pages m_highest m_units m_kinds m_rows m_marks q_active q_rests q_writers l_made l_sort l_digits l_slots l_pages l_highest l_units l_kinds l_rows l_marks n else if n < 74 then ctS cI cJ cL cS ad active rests writers tbytes tlen dbytes dlen next known rec m_made m_sort m_digits m_slots m_pages m_highest m_units m_kinds m_rows m_marks q_active q_rests q_writers l_made l_sort l_digits l_slots l_pages l_highest l_units l_kinds l_rows l_marks ((n - 10) / 8) ((n - 10) % 8) else ctL cI cJ cL cS ad active rests writers tbytes tlen dbytes dlen next known rec m_made m_sort m_digits m_slots m_pages m_highest m_units m_kinds m_rows m_marks q_active q_rests q_writers l_made l_sort l_digits l_slots l_pages l_highest l_units l_kinds l_rows l_marks ((n - 74) / 5) ((n - 74) % 5)
section XW
variable {cB cI cJ cL cS : ClassId} {ad : Nat → Nat} {active : Int32} {rests : Int32} {writers : Nat → Int32} {tbytes : Nat → Int32} {tlen : Int32} {dbytes : Nat → Int32} {dlen : Int32} {next : Int32} {known : Int32} {rec : Nat → Int32} {m_made : Nat → Int32} {m_sort : Nat → Int32} {m_digits : Nat → Int32} {m_slots : Nat → Int32} {m_pages : Nat → Int32} {m_highest : Nat → Int64} {m_units : Nat → Nat → Int64} {m_kinds : Nat → Nat → Int32} {m_rows : Nat → Nat → Int32} {m_marks : Nat → Nat → Int32} {q_active : Nat → Int32} {q_rests : Nat → Int32} {q_writers : Nat → Nat → Int32} {l_made : Nat → Int32} {l_sort : Nat → Int32} {l_digits : Nat → Int32} {l_slots : Nat → Int32} {l_pages : Nat → Int32} {l_highest : Nat → Int64} {l_units : Nat → Nat → Int64} {l_kinds : Nat → Nat → Int32} {l_rows : Nat → Nat → Int32} {l_marks : Nat → Nat → Int32}
theorem ct_Lg (k i : Nat) (hi : i < 5) : ctT cI cJ cL cS ad active rests writers tbytes tlen dbytes dlen next known rec m_made m_sort m_digits m_slots m_pages m_highest m_units m_kinds m_rows m_marks q_active q_rests q_writers l_made l_sort l_digits l_slots l_pages l_highest l_units l_kinds l_rows l_marks (74 + 5 * k + i) = ctL cI cJ cL cS ad active rests writers tbytes tlen dbytes dlen next known rec m_made m_sort m_digits m_slots m_pages m_highest m_units m_kinds m_rows m_marks q_active q_rests q_writers l_made l_sort l_digits l_slots l_pages l_highest l_units l_kinds l_rows l_marks k i := by
  unfold ctT
  rw [if_neg (by omega), if_neg (by omega), show (74 + 5 * k + i - 74) / 5 = k by omega, show (74 + 5 * k + i - 74) % 5 = i by omega]
theorem ct_Sg (k i : Nat) (hk : k < 8) (hi : i < 8) (n : Nat) (hn : n = 10 + 8 * k + i) : ctT cI cJ cL cS ad active rests writers tbytes tlen dbytes dlen next known rec m_made m_sort m_digits m_slots m_pages m_highest m_units m_kinds m_rows m_marks q_active q_rests q_writers l_made l_sort l_digits l_slots l_pages l_highest l_units l_kinds l_rows l_marks n = ctS cI cJ cL cS ad active rests writers tbytes tlen dbytes dlen next known rec m_made m_sort m_digits m_slots m_pages m_highest m_units m_kinds m_rows m_marks q_active q_rests q_writers l_made l_sort l_digits l_slots l_pages l_highest l_units l_kinds l_rows l_marks k i := by
  unfold ctT
  rw [if_neg (by omega), if_pos (by omega), show (n - 10) / 8 = k by omega, show (n - 10) % 8 = i by omega]
theorem ct_L0 (k : Nat) : ctT cI cJ cL cS ad active rests writers tbytes tlen dbytes dlen next known rec m_made m_sort m_digits m_slots m_pages m_highest m_units m_kinds m_rows m_marks q_active q_rests q_writers l_made l_sort l_digits l_slots l_pages l_highest l_units l_kinds l_rows l_marks (74 + 5 * k + 0) = .inr (1, [.int (l_made k), .int (l_sort k), .int (l_digits k), .int (l_slots k), .int (l_pages k), .long (l_highest k), .ref (ad (74 + 5 * k + 1)), .ref (ad (74 + 5 * k + 2)), .ref (ad (74 + 5 * k + 3)), .ref (ad (74 + 5 * k + 4))]) := ct_Lg k 0 (by decide)
theorem ct_L1 (k : Nat) : ctT cI cJ cL cS ad active rests writers tbytes tlen dbytes dlen next known rec m_made m_sort m_digits m_slots m_pages m_highest m_units m_kinds m_rows m_marks q_active q_rests q_writers l_made l_sort l_digits l_slots l_pages l_highest l_units l_kinds l_rows l_marks (74 + 5 * k + 1) = .inl (cJ, 4336, .inr (.inl (l_units k))) := ct_Lg k 1 (by decide)
theorem ct_L2 (k : Nat) : ctT cI cJ cL cS ad active rests writers tbytes tlen dbytes dlen next known rec m_made m_sort m_digits m_slots m_pages m_highest m_units m_kinds m_rows m_marks q_active q_rests q_writers l_made l_sort l_digits l_slots l_pages l_highest l_units l_kinds l_rows l_marks (74 + 5 * k + 2) = .inl (cI, 271, .inl (l_kinds k)) := ct_Lg k 2 (by decide)
theorem ct_L3 (k : Nat) : ctT cI cJ cL cS ad active rests writers tbytes tlen dbytes dlen next known rec m_made m_sort m_digits m_slots m_pages m_highest m_units m_kinds m_rows m_marks q_active q_rests q_writers l_made l_sort l_digits l_slots l_pages l_highest l_units l_kinds l_rows l_marks (74 + 5 * k + 3) = .inl (cI, 271, .inl (l_rows k)) := ct_Lg k 3 (by decide)
theorem ct_L4 (k : Nat) : ctT cI cJ cL cS ad active rests writers tbytes tlen dbytes dlen next known rec m_made m_sort m_digits m_slots m_pages m_highest m_units m_kinds m_rows m_marks q_active q_rests q_writers l_made l_sort l_digits l_slots l_pages l_highest l_units l_kinds l_rows l_marks (74 + 5 * k + 4) = .inl (cI, 4336, .inl (l_marks k)) := ct_Lg k 4 (by decide)
theorem ct_S0 (k : Nat) (hk : k < 8) : ctT cI cJ cL cS ad active rests writers tbytes tlen dbytes dlen next known rec m_made m_sort m_digits m_slots m_pages m_highest m_units m_kinds m_rows m_marks q_active q_rests q_writers l_made l_sort l_digits l_slots l_pages l_highest l_units l_kinds l_rows l_marks (10 + 8 * k + 0) = .inr (4, [.int (rec k), .ref (ad (11 + 8 * k + 0)), .ref (ad (16 + 8 * k + 0))]) := ct_Sg k 0 hk (by decide) _ rfl
theorem ct_M0 (k : Nat) (hk : k < 8) : ctT cI cJ cL cS ad active rests writers tbytes tlen dbytes dlen next known rec m_made m_sort m_digits m_slots m_pages m_highest m_units m_kinds m_rows m_marks q_active q_rests q_writers l_made l_sort l_digits l_slots l_pages l_highest l_units l_kinds l_rows l_marks (11 + 8 * k + 0) = .inr (1, [.int (m_made k), .int (m_sort k), .int (m_digits k), .int (m_slots k), .int (m_pages k), .long (m_highest k), .ref (ad (11 + 8 * k + 1)), .ref (ad (11 + 8 * k + 2)), .ref (ad (11 + 8 * k + 3)), .ref (ad (11 + 8 * k + 4))]) := ct_Sg k 1 hk (by decide) _ (by omega)
theorem ct_M1 (k : Nat) (hk : k < 8) : ctT cI cJ cL cS ad active rests writers tbytes tlen dbytes dlen next known rec m_made m_sort m_digits m_slots m_pages m_highest m_units m_kinds m_rows m_marks q_active q_rests q_writers l_made l_sort l_digits l_slots l_pages l_highest l_units l_kinds l_rows l_marks (11 + 8 * k + 1) = .inl (cJ, 4336, .inr (.inl (m_units k))) := ct_Sg k 2 hk (by decide) _ (by omega)
theorem ct_M2 (k : Nat) (hk : k < 8) : ctT cI cJ cL cS ad active rests writers tbytes tlen dbytes dlen next known rec m_made m_sort m_digits m_slots m_pages m_highest m_units m_kinds m_rows m_marks q_active q_rests q_writers l_made l_sort l_digits l_slots l_pages l_highest l_units l_kinds l_rows l_marks (11 + 8 * k + 2) = .inl (cI, 271, .inl (m_kinds k)) := ct_Sg k 3 hk (by decide) _ (by omega)
theorem ct_M3 (k : Nat) (hk : k < 8) : ctT cI cJ cL cS ad active rests writers tbytes tlen dbytes dlen next known rec m_made m_sort m_digits m_slots m_pages m_highest m_units m_kinds m_rows m_marks q_active q_rests q_writers l_made l_sort l_digits l_slots l_pages l_highest l_units l_kinds l_rows l_marks (11 + 8 * k + 3) = .inl (cI, 271, .inl (m_rows k)) := ct_Sg k 4 hk (by decide) _ (by omega)
theorem ct_M4 (k : Nat) (hk : k < 8) : ctT cI cJ cL cS ad active rests writers tbytes tlen dbytes dlen next known rec m_made m_sort m_digits m_slots m_pages m_highest m_units m_kinds m_rows m_marks q_active q_rests q_writers l_made l_sort l_digits l_slots l_pages l_highest l_units l_kinds l_rows l_marks (11 + 8 * k + 4) = .inl (cI, 4336, .inl (m_marks k)) := ct_Sg k 5 hk (by decide) _ (by omega)
theorem ct_R0 (k : Nat) (hk : k < 8) : ctT cI cJ cL cS ad active rests writers tbytes tlen dbytes dlen next known rec m_made m_sort m_digits m_slots m_pages m_highest m_units m_kinds m_rows m_marks q_active q_rests q_writers l_made l_sort l_digits l_slots l_pages l_highest l_units l_kinds l_rows l_marks (16 + 8 * k + 0) = .inr (2, [.int (q_active k), .int (q_rests k), .ref (ad (16 + 8 * k + 1))]) := ct_Sg k 6 hk (by decide) _ (by omega)
theorem ct_R1 (k : Nat) (hk : k < 8) : ctT cI cJ cL cS ad active rests writers tbytes tlen dbytes dlen next known rec m_made m_sort m_digits m_slots m_pages m_highest m_units m_kinds m_rows m_marks q_active q_rests q_writers l_made l_sort l_digits l_slots l_pages l_highest l_units l_kinds l_rows l_marks (16 + 8 * k + 1) = .inl (cI, 4, .inl (q_writers k)) := ct_Sg k 7 hk (by decide) _ (by omega)
abbrev plL (k : Nat) : List Nat := [74 + 5 * k + 0, 74 + 5 * k + 1, 74 + 5 * k + 2, 74 + 5 * k + 3, 74 + 5 * k + 4]
abbrev plM (k : Nat) : List Nat := [11 + 8 * k + 0, 11 + 8 * k + 1, 11 + 8 * k + 2, 11 + 8 * k + 3, 11 + 8 * k + 4]
abbrev plR (k : Nat) : List Nat := [16 + 8 * k + 0, 16 + 8 * k + 1]
abbrev plP : List Nat := [2 + 0, 2 + 1]
abbrev plB : List Nat := [4 + 0, 4 + 1]
abbrev plE : List Nat := [6 + 0, 6 + 1]
theorem wc_L (k : Nat) : (plL k).map (fun n => (ad n, ctT cI cJ cL cS ad active rests writers tbytes tlen dbytes dlen next known rec m_made m_sort m_digits m_slots m_pages m_highest m_units m_kinds m_rows m_marks q_active q_rests q_writers l_made l_sort l_digits l_slots l_pages l_highest l_units l_kinds l_rows l_marks n)) = wL cB cI cJ (fun i => ad (74 + 5 * k + i)) (l_made k) (l_sort k) (l_digits k) (l_slots k) (l_pages k) (l_highest k) (l_units k) (l_kinds k) (l_rows k) (l_marks k) := by
  simp only [plL, List.map_cons, List.map_nil, ct_L0, ct_L1, ct_L2, ct_L3, ct_L4]
  rfl
theorem wc_M (k : Nat) (hk : k < 8) : (plM k).map (fun n => (ad n, ctT cI cJ cL cS ad active rests writers tbytes tlen dbytes dlen next known rec m_made m_sort m_digits m_slots m_pages m_highest m_units m_kinds m_rows m_marks q_active q_rests q_writers l_made l_sort l_digits l_slots l_pages l_highest l_units l_kinds l_rows l_marks n)) = wL cB cI cJ (fun i => ad (11 + 8 * k + i)) (m_made k) (m_sort k) (m_digits k) (m_slots k) (m_pages k) (m_highest k) (m_units k) (m_kinds k) (m_rows k) (m_marks k) := by
  simp only [plM, List.map_cons, List.map_nil, ct_M0 k hk, ct_M1 k hk, ct_M2 k hk, ct_M3 k hk, ct_M4 k hk]
  rfl
theorem wc_R (k : Nat) (hk : k < 8) : (plR k).map (fun n => (ad n, ctT cI cJ cL cS ad active rests writers tbytes tlen dbytes dlen next known rec m_made m_sort m_digits m_slots m_pages m_highest m_units m_kinds m_rows m_marks q_active q_rests q_writers l_made l_sort l_digits l_slots l_pages l_highest l_units l_kinds l_rows l_marks n)) = wPr cB cI cJ (fun i => ad (16 + 8 * k + i)) (q_active k) (q_rests k) (q_writers k) := by
  simp only [plR, List.map_cons, List.map_nil, ct_R0 k hk, ct_R1 k hk]
  rfl
theorem wc_P : plP.map (fun n => (ad n, ctT cI cJ cL cS ad active rests writers tbytes tlen dbytes dlen next known rec m_made m_sort m_digits m_slots m_pages m_highest m_units m_kinds m_rows m_marks q_active q_rests q_writers l_made l_sort l_digits l_slots l_pages l_highest l_units l_kinds l_rows l_marks n)) = wPr cB cI cJ (fun i => ad (2 + i)) active rests writers := rfl
theorem wc_B : plB.map (fun n => (ad n, ctT cI cJ cL cS ad active rests writers tbytes tlen dbytes dlen next known rec m_made m_sort m_digits m_slots m_pages m_highest m_units m_kinds m_rows m_marks q_active q_rests q_writers l_made l_sort l_digits l_slots l_pages l_highest l_units l_kinds l_rows l_marks n)) = wTp cB cI cJ (fun i => ad (4 + i)) tbytes tlen := rfl
theorem wc_E : plE.map (fun n => (ad n, ctT cI cJ cL cS ad active rests writers tbytes tlen dbytes dlen next known rec m_made m_sort m_digits m_slots m_pages m_highest m_units m_kinds m_rows m_marks q_active q_rests q_writers l_made l_sort l_digits l_slots l_pages l_highest l_units l_kinds l_rows l_marks n)) = wTp cB cI cJ (fun i => ad (6 + i)) dbytes dlen := rfl
theorem rest_P {active' : Int32} {rests' : Int32} {writers' : Nat → Int32} (n : Nat) (hn : n ∉ plP) : ctT cI cJ cL cS ad active' rests' writers' tbytes tlen dbytes dlen next known rec m_made m_sort m_digits m_slots m_pages m_highest m_units m_kinds m_rows m_marks q_active q_rests q_writers l_made l_sort l_digits l_slots l_pages l_highest l_units l_kinds l_rows l_marks n = ctT cI cJ cL cS ad active rests writers tbytes tlen dbytes dlen next known rec m_made m_sort m_digits m_slots m_pages m_highest m_units m_kinds m_rows m_marks q_active q_rests q_writers l_made l_sort l_digits l_slots l_pages l_highest l_units l_kinds l_rows l_marks n := by
  unfold ctT
  split
  · rename_i h
    have hx : ∀ m : Nat, m ∉ plP → m < 10 → ctF cI cJ cL cS ad active' rests' writers' tbytes tlen dbytes dlen next known rec m_made m_sort m_digits m_slots m_pages m_highest m_units m_kinds m_rows m_marks q_active q_rests q_writers l_made l_sort l_digits l_slots l_pages l_highest l_units l_kinds l_rows l_marks m = ctF cI cJ cL cS ad active rests writers tbytes tlen dbytes dlen next known rec m_made m_sort m_digits m_slots m_pages m_highest m_units m_kinds m_rows m_marks q_active q_rests q_writers l_made l_sort l_digits l_slots l_pages l_highest l_units l_kinds l_rows l_marks m := by
      intro m hm h10
      match m, hm, h10 with
      | 0, hm, _ => first | rfl | exact absurd (by decide) hm
      | 1, hm, _ => first | rfl | exact absurd (by decide) hm
      | 2, hm, _ => first | rfl | exact absurd (by decide) hm
      | 3, hm, _ => first | rfl | exact absurd (by decide) hm
      | 4, hm, _ => first | rfl | exact absurd (by decide) hm
      | 5, hm, _ => first | rfl | exact absurd (by decide) hm
      | 6, hm, _ => first | rfl | exact absurd (by decide) hm
      | 7, hm, _ => first | rfl | exact absurd (by decide) hm
      | 8, hm, _ => first | rfl | exact absurd (by decide) hm
      | 9, hm, _ => first | rfl | exact absurd (by decide) hm
      | m + 10, _, h10 => exact absurd h10 (by omega)
    exact hx n hn h
  · rfl
theorem rest_B {tbytes' : Nat → Int32} {tlen' : Int32} (n : Nat) (hn : n ∉ plB) : ctT cI cJ cL cS ad active rests writers tbytes' tlen' dbytes dlen next known rec m_made m_sort m_digits m_slots m_pages m_highest m_units m_kinds m_rows m_marks q_active q_rests q_writers l_made l_sort l_digits l_slots l_pages l_highest l_units l_kinds l_rows l_marks n = ctT cI cJ cL cS ad active rests writers tbytes tlen dbytes dlen next known rec m_made m_sort m_digits m_slots m_pages m_highest m_units m_kinds m_rows m_marks q_active q_rests q_writers l_made l_sort l_digits l_slots l_pages l_highest l_units l_kinds l_rows l_marks n := by
  unfold ctT
  split
  · rename_i h
    have hx : ∀ m : Nat, m ∉ plB → m < 10 → ctF cI cJ cL cS ad active rests writers tbytes' tlen' dbytes dlen next known rec m_made m_sort m_digits m_slots m_pages m_highest m_units m_kinds m_rows m_marks q_active q_rests q_writers l_made l_sort l_digits l_slots l_pages l_highest l_units l_kinds l_rows l_marks m = ctF cI cJ cL cS ad active rests writers tbytes tlen dbytes dlen next known rec m_made m_sort m_digits m_slots m_pages m_highest m_units m_kinds m_rows m_marks q_active q_rests q_writers l_made l_sort l_digits l_slots l_pages l_highest l_units l_kinds l_rows l_marks m := by
      intro m hm h10
      match m, hm, h10 with
      | 0, hm, _ => first | rfl | exact absurd (by decide) hm
      | 1, hm, _ => first | rfl | exact absurd (by decide) hm
      | 2, hm, _ => first | rfl | exact absurd (by decide) hm
      | 3, hm, _ => first | rfl | exact absurd (by decide) hm
      | 4, hm, _ => first | rfl | exact absurd (by decide) hm
      | 5, hm, _ => first | rfl | exact absurd (by decide) hm
      | 6, hm, _ => first | rfl | exact absurd (by decide) hm
      | 7, hm, _ => first | rfl | exact absurd (by decide) hm
      | 8, hm, _ => first | rfl | exact absurd (by decide) hm
      | 9, hm, _ => first | rfl | exact absurd (by decide) hm
      | m + 10, _, h10 => exact absurd h10 (by omega)
    exact hx n hn h
  · rfl
theorem rest_E {dbytes' : Nat → Int32} {dlen' : Int32} (n : Nat) (hn : n ∉ plE) : ctT cI cJ cL cS ad active rests writers tbytes tlen dbytes' dlen' next known rec m_made m_sort m_digits m_slots m_pages m_highest m_units m_kinds m_rows m_marks q_active q_rests q_writers l_made l_sort l_digits l_slots l_pages l_highest l_units l_kinds l_rows l_marks n = ctT cI cJ cL cS ad active rests writers tbytes tlen dbytes dlen next known rec m_made m_sort m_digits m_slots m_pages m_highest m_units m_kinds m_rows m_marks q_active q_rests q_writers l_made l_sort l_digits l_slots l_pages l_highest l_units l_kinds l_rows l_marks n := by
  unfold ctT
  split
  · rename_i h
    have hx : ∀ m : Nat, m ∉ plE → m < 10 → ctF cI cJ cL cS ad active rests writers tbytes tlen dbytes' dlen' next known rec m_made m_sort m_digits m_slots m_pages m_highest m_units m_kinds m_rows m_marks q_active q_rests q_writers l_made l_sort l_digits l_slots l_pages l_highest l_units l_kinds l_rows l_marks m = ctF cI cJ cL cS ad active rests writers tbytes tlen dbytes dlen next known rec m_made m_sort m_digits m_slots m_pages m_highest m_units m_kinds m_rows m_marks q_active q_rests q_writers l_made l_sort l_digits l_slots l_pages l_highest l_units l_kinds l_rows l_marks m := by
      intro m hm h10
      match m, hm, h10 with
      | 0, hm, _ => first | rfl | exact absurd (by decide) hm
      | 1, hm, _ => first | rfl | exact absurd (by decide) hm
      | 2, hm, _ => first | rfl | exact absurd (by decide) hm
      | 3, hm, _ => first | rfl | exact absurd (by decide) hm
      | 4, hm, _ => first | rfl | exact absurd (by decide) hm
      | 5, hm, _ => first | rfl | exact absurd (by decide) hm
      | 6, hm, _ => first | rfl | exact absurd (by decide) hm
      | 7, hm, _ => first | rfl | exact absurd (by decide) hm
      | 8, hm, _ => first | rfl | exact absurd (by decide) hm
      | 9, hm, _ => first | rfl | exact absurd (by decide) hm
      | m + 10, _, h10 => exact absurd h10 (by omega)
    exact hx n hn h
  · rfl
theorem rest_H {next' : Int32} {known' : Int32} (n : Nat) (hn : n ∉ [8]) : ctT cI cJ cL cS ad active rests writers tbytes tlen dbytes dlen next' known' rec m_made m_sort m_digits m_slots m_pages m_highest m_units m_kinds m_rows m_marks q_active q_rests q_writers l_made l_sort l_digits l_slots l_pages l_highest l_units l_kinds l_rows l_marks n = ctT cI cJ cL cS ad active rests writers tbytes tlen dbytes dlen next known rec m_made m_sort m_digits m_slots m_pages m_highest m_units m_kinds m_rows m_marks q_active q_rests q_writers l_made l_sort l_digits l_slots l_pages l_highest l_units l_kinds l_rows l_marks n := by
  unfold ctT
  split
  · rename_i h
    have hx : ∀ m : Nat, m ∉ [8] → m < 10 → ctF cI cJ cL cS ad active rests writers tbytes tlen dbytes dlen next' known' rec m_made m_sort m_digits m_slots m_pages m_highest m_units m_kinds m_rows m_marks q_active q_rests q_writers l_made l_sort l_digits l_slots l_pages l_highest l_units l_kinds l_rows l_marks m = ctF cI cJ cL cS ad active rests writers tbytes tlen dbytes dlen next known rec m_made m_sort m_digits m_slots m_pages m_highest m_units m_kinds m_rows m_marks q_active q_rests q_writers l_made l_sort l_digits l_slots l_pages l_highest l_units l_kinds l_rows l_marks m := by
      intro m hm h10
      match m, hm, h10 with
      | 0, hm, _ => first | rfl | exact absurd (by decide) hm
      | 1, hm, _ => first | rfl | exact absurd (by decide) hm
      | 2, hm, _ => first | rfl | exact absurd (by decide) hm
      | 3, hm, _ => first | rfl | exact absurd (by decide) hm
      | 4, hm, _ => first | rfl | exact absurd (by decide) hm
      | 5, hm, _ => first | rfl | exact absurd (by decide) hm
      | 6, hm, _ => first | rfl | exact absurd (by decide) hm
      | 7, hm, _ => first | rfl | exact absurd (by decide) hm
      | 8, hm, _ => first | rfl | exact absurd (by decide) hm
      | 9, hm, _ => first | rfl | exact absurd (by decide) hm
      | m + 10, _, h10 => exact absurd h10 (by omega)
    exact hx n hn h
  · rfl
theorem rest_L {l_made' : Nat → Int32} {l_sort' : Nat → Int32} {l_digits' : Nat → Int32} {l_slots' : Nat → Int32} {l_pages' : Nat → Int32} {l_highest' : Nat → Int64} {l_units' : Nat → Nat → Int64} {l_kinds' : Nat → Nat → Int32} {l_rows' : Nat → Nat → Int32} {l_marks' : Nat → Nat → Int32} {k : Nat} (h_l_made : ∀ m, m ≠ k → l_made' m = l_made m) (h_l_sort : ∀ m, m ≠ k → l_sort' m = l_sort m) (h_l_digits : ∀ m, m ≠ k → l_digits' m = l_digits m) (h_l_slots : ∀ m, m ≠ k → l_slots' m = l_slots m) (h_l_pages : ∀ m, m ≠ k → l_pages' m = l_pages m) (h_l_highest : ∀ m, m ≠ k → l_highest' m = l_highest m) (h_l_units : ∀ m, m ≠ k → l_units' m = l_units m) (h_l_kinds : ∀ m, m ≠ k → l_kinds' m = l_kinds m) (h_l_rows : ∀ m, m ≠ k → l_rows' m = l_rows m) (h_l_marks : ∀ m, m ≠ k → l_marks' m = l_marks m) (n : Nat) (hn : n ∉ plL k) : ctT cI cJ cL cS ad active rests writers tbytes tlen dbytes dlen next known rec m_made m_sort m_digits m_slots m_pages m_highest m_units m_kinds m_rows m_marks q_active q_rests q_writers l_made' l_sort' l_digits' l_slots' l_pages' l_highest' l_units' l_kinds' l_rows' l_marks' n = ctT cI cJ cL cS ad active rests writers tbytes tlen dbytes dlen next known rec m_made m_sort m_digits m_slots m_pages m_highest m_units m_kinds m_rows m_marks q_active q_rests q_writers l_made l_sort l_digits l_slots l_pages l_highest l_units l_kinds l_rows l_marks n := by
  unfold ctT
  split
  · rfl
  · split
    · rfl
    · rename_i h1 h2
      have hne : (n - 74) / 5 ≠ k ∨ 5 ≤ (n - 74) % 5 := by
        rcases Nat.lt_or_ge ((n - 74) % 5) 5 with q | q
        · left
          intro e
          apply hn
          have e2 : n = 74 + 5 * k + (n - 74) % 5 := by omega
          rw [e2]
          have : (n - 74) % 5 = 0 ∨ (n - 74) % 5 = 1 ∨ (n - 74) % 5 = 2 ∨ (n - 74) % 5 = 3 ∨ (n - 74) % 5 = 4 := by omega
          rcases this with z | z | z | z | z <;> rw [z] <;> simp [plL]
        · right; exact q
      have hne : (n - 74) / 5 ≠ k := by
        rcases hne with z | z
        · exact z
        · omega
      unfold ctL
      rw [h_l_made _ hne, h_l_sort _ hne, h_l_digits _ hne, h_l_slots _ hne, h_l_pages _ hne, h_l_highest _ hne, h_l_units _ hne, h_l_kinds _ hne, h_l_rows _ hne, h_l_marks _ hne]
theorem rest_M {m_made' : Nat → Int32} {m_sort' : Nat → Int32} {m_digits' : Nat → Int32} {m_slots' : Nat → Int32} {m_pages' : Nat → Int32} {m_highest' : Nat → Int64} {m_units' : Nat → Nat → Int64} {m_kinds' : Nat → Nat → Int32} {m_rows' : Nat → Nat → Int32} {m_marks' : Nat → Nat → Int32} {k : Nat} (h_m_made : ∀ m, m ≠ k → m_made' m = m_made m) (h_m_sort : ∀ m, m ≠ k → m_sort' m = m_sort m) (h_m_digits : ∀ m, m ≠ k → m_digits' m = m_digits m) (h_m_slots : ∀ m, m ≠ k → m_slots' m = m_slots m) (h_m_pages : ∀ m, m ≠ k → m_pages' m = m_pages m) (h_m_highest : ∀ m, m ≠ k → m_highest' m = m_highest m) (h_m_units : ∀ m, m ≠ k → m_units' m = m_units m) (h_m_kinds : ∀ m, m ≠ k → m_kinds' m = m_kinds m) (h_m_rows : ∀ m, m ≠ k → m_rows' m = m_rows m) (h_m_marks : ∀ m, m ≠ k → m_marks' m = m_marks m) (n : Nat) (hn : n ∉ plM k) : ctT cI cJ cL cS ad active rests writers tbytes tlen dbytes dlen next known rec m_made' m_sort' m_digits' m_slots' m_pages' m_highest' m_units' m_kinds' m_rows' m_marks' q_active q_rests q_writers l_made l_sort l_digits l_slots l_pages l_highest l_units l_kinds l_rows l_marks n = ctT cI cJ cL cS ad active rests writers tbytes tlen dbytes dlen next known rec m_made m_sort m_digits m_slots m_pages m_highest m_units m_kinds m_rows m_marks q_active q_rests q_writers l_made l_sort l_digits l_slots l_pages l_highest l_units l_kinds l_rows l_marks n := by
  unfold ctT
  split
  · rfl
  · split
    · rename_i h1 h2
      have key : ∀ i : Nat, i < 8 → ((n - 10) / 8 ≠ k ∨ i ∉ ([1, 2, 3, 4, 5] : List Nat)) → ctS cI cJ cL cS ad active rests writers tbytes tlen dbytes dlen next known rec m_made' m_sort' m_digits' m_slots' m_pages' m_highest' m_units' m_kinds' m_rows' m_marks' q_active q_rests q_writers l_made l_sort l_digits l_slots l_pages l_highest l_units l_kinds l_rows l_marks ((n - 10) / 8) i = ctS cI cJ cL cS ad active rests writers tbytes tlen dbytes dlen next known rec m_made m_sort m_digits m_slots m_pages m_highest m_units m_kinds m_rows m_marks q_active q_rests q_writers l_made l_sort l_digits l_slots l_pages l_highest l_units l_kinds l_rows l_marks ((n - 10) / 8) i := by
        intro i hi h
        match i, hi, h with
        | 0, _, _ => rfl
        | 1, _, h =>
          rcases h with h | h
          · simp only [ctS, h_m_made _ h, h_m_sort _ h, h_m_digits _ h, h_m_slots _ h, h_m_pages _ h, h_m_highest _ h, h_m_units _ h, h_m_kinds _ h, h_m_rows _ h, h_m_marks _ h]
          · exact absurd (by decide) h
        | 2, _, h =>
          rcases h with h | h
          · simp only [ctS, h_m_made _ h, h_m_sort _ h, h_m_digits _ h, h_m_slots _ h, h_m_pages _ h, h_m_highest _ h, h_m_units _ h, h_m_kinds _ h, h_m_rows _ h, h_m_marks _ h]
          · exact absurd (by decide) h
        | 3, _, h =>
          rcases h with h | h
          · simp only [ctS, h_m_made _ h, h_m_sort _ h, h_m_digits _ h, h_m_slots _ h, h_m_pages _ h, h_m_highest _ h, h_m_units _ h, h_m_kinds _ h, h_m_rows _ h, h_m_marks _ h]
          · exact absurd (by decide) h
        | 4, _, h =>
          rcases h with h | h
          · simp only [ctS, h_m_made _ h, h_m_sort _ h, h_m_digits _ h, h_m_slots _ h, h_m_pages _ h, h_m_highest _ h, h_m_units _ h, h_m_kinds _ h, h_m_rows _ h, h_m_marks _ h]
          · exact absurd (by decide) h
        | 5, _, h =>
          rcases h with h | h
          · simp only [ctS, h_m_made _ h, h_m_sort _ h, h_m_digits _ h, h_m_slots _ h, h_m_pages _ h, h_m_highest _ h, h_m_units _ h, h_m_kinds _ h, h_m_rows _ h, h_m_marks _ h]
          · exact absurd (by decide) h
        | 6, _, _ => rfl
        | 7, _, _ => rfl
        | i + 8, hi, _ => exact absurd hi (by omega)
      refine key _ (by omega) ?_
      by_cases e : (n - 10) / 8 = k
      · right
        intro hm
        apply hn
        have e2 : n = 10 + 8 * k + (n - 10) % 8 := by omega
        simp only [plM, List.mem_cons, List.not_mem_nil, or_false] at hm ⊢
        omega
      · left; exact e
    · rfl
theorem rest_R {q_active' : Nat → Int32} {q_rests' : Nat → Int32} {q_writers' : Nat → Nat → Int32} {k : Nat} (h_q_active : ∀ m, m ≠ k → q_active' m = q_active m) (h_q_rests : ∀ m, m ≠ k → q_rests' m = q_rests m) (h_q_writers : ∀ m, m ≠ k → q_writers' m = q_writers m) (n : Nat) (hn : n ∉ plR k) : ctT cI cJ cL cS ad active rests writers tbytes tlen dbytes dlen next known rec m_made m_sort m_digits m_slots m_pages m_highest m_units m_kinds m_rows m_marks q_active' q_rests' q_writers' l_made l_sort l_digits l_slots l_pages l_highest l_units l_kinds l_rows l_marks n = ctT cI cJ cL cS ad active rests writers tbytes tlen dbytes dlen next known rec m_made m_sort m_digits m_slots m_pages m_highest m_units m_kinds m_rows m_marks q_active q_rests q_writers l_made l_sort l_digits l_slots l_pages l_highest l_units l_kinds l_rows l_marks n := by
  unfold ctT
  split
  · rfl
  · split
    · rename_i h1 h2
      have key : ∀ i : Nat, i < 8 → ((n - 10) / 8 ≠ k ∨ i ∉ ([6, 7] : List Nat)) → ctS cI cJ cL cS ad active rests writers tbytes tlen dbytes dlen next known rec m_made m_sort m_digits m_slots m_pages m_highest m_units m_kinds m_rows m_marks q_active' q_rests' q_writers' l_made l_sort l_digits l_slots l_pages l_highest l_units l_kinds l_rows l_marks ((n - 10) / 8) i = ctS cI cJ cL cS ad active rests writers tbytes tlen dbytes dlen next known rec m_made m_sort m_digits m_slots m_pages m_highest m_units m_kinds m_rows m_marks q_active q_rests q_writers l_made l_sort l_digits l_slots l_pages l_highest l_units l_kinds l_rows l_marks ((n - 10) / 8) i := by
        intro i hi h
        match i, hi, h with
        | 0, _, _ => rfl
        | 1, _, _ => rfl
        | 2, _, _ => rfl
        | 3, _, _ => rfl
        | 4, _, _ => rfl
        | 5, _, _ => rfl
        | 6, _, h =>
          rcases h with h | h
          · simp only [ctS, h_q_active _ h, h_q_rests _ h, h_q_writers _ h]
          · exact absurd (by decide) h
        | 7, _, h =>
          rcases h with h | h
          · simp only [ctS, h_q_active _ h, h_q_rests _ h, h_q_writers _ h]
          · exact absurd (by decide) h
        | i + 8, hi, _ => exact absurd hi (by omega)
      refine key _ (by omega) ?_
      by_cases e : (n - 10) / 8 = k
      · right
        intro hm
        apply hn
        have e2 : n = 10 + 8 * k + (n - 10) % 8 := by omega
        simp only [plR, List.mem_cons, List.not_mem_nil, or_false] at hm ⊢
        omega
      · left; exact e
    · rfl
theorem rest_S {rec' : Nat → Int32} {k : Nat} (h_rec : ∀ m, m ≠ k → rec' m = rec m) (n : Nat) (hn : n ∉ [10 + 8 * k + 0]) : ctT cI cJ cL cS ad active rests writers tbytes tlen dbytes dlen next known rec' m_made m_sort m_digits m_slots m_pages m_highest m_units m_kinds m_rows m_marks q_active q_rests q_writers l_made l_sort l_digits l_slots l_pages l_highest l_units l_kinds l_rows l_marks n = ctT cI cJ cL cS ad active rests writers tbytes tlen dbytes dlen next known rec m_made m_sort m_digits m_slots m_pages m_highest m_units m_kinds m_rows m_marks q_active q_rests q_writers l_made l_sort l_digits l_slots l_pages l_highest l_units l_kinds l_rows l_marks n := by
  unfold ctT
  split
  · rfl
  · split
    · rename_i h1 h2
      have key : ∀ i : Nat, i < 8 → ((n - 10) / 8 ≠ k ∨ i ∉ ([0] : List Nat)) → ctS cI cJ cL cS ad active rests writers tbytes tlen dbytes dlen next known rec' m_made m_sort m_digits m_slots m_pages m_highest m_units m_kinds m_rows m_marks q_active q_rests q_writers l_made l_sort l_digits l_slots l_pages l_highest l_units l_kinds l_rows l_marks ((n - 10) / 8) i = ctS cI cJ cL cS ad active rests writers tbytes tlen dbytes dlen next known rec m_made m_sort m_digits m_slots m_pages m_highest m_units m_kinds m_rows m_marks q_active q_rests q_writers l_made l_sort l_digits l_slots l_pages l_highest l_units l_kinds l_rows l_marks ((n - 10) / 8) i := by
        intro i hi h
        match i, hi, h with
        | 0, _, h =>
          rcases h with h | h
          · simp only [ctS, h_rec _ h]
          · exact absurd (by decide) h
        | 1, _, _ => rfl
        | 2, _, _ => rfl
        | 3, _, _ => rfl
        | 4, _, _ => rfl
        | 5, _, _ => rfl
        | 6, _, _ => rfl
        | 7, _, _ => rfl
        | i + 8, hi, _ => exact absurd hi (by omega)
      refine key _ (by omega) ?_
      by_cases e : (n - 10) / 8 = k
      · right
        intro hm
        apply hn
        have e2 : n = 10 + 8 * k + (n - 10) % 8 := by omega
        simp only [List.mem_cons, List.not_mem_nil, or_false] at hm ⊢
        omega
      · left; exact e
    · rfl
theorem put_P {active' : Int32} {rests' : Int32} (m : Nat) (hm : m ≠ 2 + 0) : ctT cI cJ cL cS ad active' rests' writers tbytes tlen dbytes dlen next known rec m_made m_sort m_digits m_slots m_pages m_highest m_units m_kinds m_rows m_marks q_active q_rests q_writers l_made l_sort l_digits l_slots l_pages l_highest l_units l_kinds l_rows l_marks m = ctT cI cJ cL cS ad active rests writers tbytes tlen dbytes dlen next known rec m_made m_sort m_digits m_slots m_pages m_highest m_units m_kinds m_rows m_marks q_active q_rests q_writers l_made l_sort l_digits l_slots l_pages l_highest l_units l_kinds l_rows l_marks m := by
  by_cases h : m = 3
  · subst h; rfl
  · exact rest_P m (by simp only [plP, List.mem_cons, List.not_mem_nil, or_false]; omega)
theorem put_B {tlen' : Int32} (m : Nat) (hm : m ≠ 4 + 0) : ctT cI cJ cL cS ad active rests writers tbytes tlen' dbytes dlen next known rec m_made m_sort m_digits m_slots m_pages m_highest m_units m_kinds m_rows m_marks q_active q_rests q_writers l_made l_sort l_digits l_slots l_pages l_highest l_units l_kinds l_rows l_marks m = ctT cI cJ cL cS ad active rests writers tbytes tlen dbytes dlen next known rec m_made m_sort m_digits m_slots m_pages m_highest m_units m_kinds m_rows m_marks q_active q_rests q_writers l_made l_sort l_digits l_slots l_pages l_highest l_units l_kinds l_rows l_marks m := by
  by_cases h : m = 5
  · subst h; rfl
  · exact rest_B m (by simp only [plB, List.mem_cons, List.not_mem_nil, or_false]; omega)
theorem put_E {dlen' : Int32} (m : Nat) (hm : m ≠ 6 + 0) : ctT cI cJ cL cS ad active rests writers tbytes tlen dbytes dlen' next known rec m_made m_sort m_digits m_slots m_pages m_highest m_units m_kinds m_rows m_marks q_active q_rests q_writers l_made l_sort l_digits l_slots l_pages l_highest l_units l_kinds l_rows l_marks m = ctT cI cJ cL cS ad active rests writers tbytes tlen dbytes dlen next known rec m_made m_sort m_digits m_slots m_pages m_highest m_units m_kinds m_rows m_marks q_active q_rests q_writers l_made l_sort l_digits l_slots l_pages l_highest l_units l_kinds l_rows l_marks m := by
  by_cases h : m = 7
  · subst h; rfl
  · exact rest_E m (by simp only [plE, List.mem_cons, List.not_mem_nil, or_false]; omega)
theorem put_H {next' : Int32} {known' : Int32} (m : Nat) (hm : m ≠ 8) : ctT cI cJ cL cS ad active rests writers tbytes tlen dbytes dlen next' known' rec m_made m_sort m_digits m_slots m_pages m_highest m_units m_kinds m_rows m_marks q_active q_rests q_writers l_made l_sort l_digits l_slots l_pages l_highest l_units l_kinds l_rows l_marks m = ctT cI cJ cL cS ad active rests writers tbytes tlen dbytes dlen next known rec m_made m_sort m_digits m_slots m_pages m_highest m_units m_kinds m_rows m_marks q_active q_rests q_writers l_made l_sort l_digits l_slots l_pages l_highest l_units l_kinds l_rows l_marks m := rest_H m (by simp only [List.mem_singleton]; exact hm)
theorem lt_L {k : Nat} (h : k < 4) : ∀ n ∈ plL k, n < 94 := by intro n hn; simp [plL] at hn; omega
theorem lt_M {k : Nat} (h : k < 8) : ∀ n ∈ plM k, n < 94 := by intro n hn; simp [plM] at hn; omega
theorem lt_R {k : Nat} (h : k < 8) : ∀ n ∈ plR k, n < 94 := by intro n hn; simp [plR] at hn; omega
theorem lt_P : ∀ n ∈ plP, n < 94 := by decide
theorem lt_B : ∀ n ∈ plB, n < 94 := by decide
theorem lt_E : ∀ n ∈ plE, n < 94 := by decide
theorem nd_L {k : Nat} : (plL k).Nodup := by simp [plL, List.nodup_cons] <;> omega
theorem nd_M {k : Nat} : (plM k).Nodup := by simp [plM, List.nodup_cons] <;> omega
theorem nd_R {k : Nat} : (plR k).Nodup := by simp [plR, List.nodup_cons] <;> omega
theorem nd_P : plP.Nodup := by decide
theorem nd_B : plB.Nodup := by decide
theorem nd_E : plE.Nodup := by decide
theorem lt_app {a b : List Nat} {N : Nat} (h1 : ∀ n ∈ a, n < N) (h2 : ∀ n ∈ b, n < N) : ∀ n ∈ a ++ b, n < N := fun n hn => (List.mem_append.mp hn).elim (h1 n) (h2 n)
theorem nd_LL {i k : Nat} (h : i ≠ k) : (plL i ++ plL k).Nodup := List.nodup_append.mpr ⟨nd_L, nd_L, by intro a ha b hb; simp [plL] at ha hb; omega⟩
theorem nd_lt {a b : List Nat} (N : Nat) (ha : a.Nodup) (hb : b.Nodup) (h1 : ∀ n ∈ a, n < N) (h2 : ∀ n ∈ b, N ≤ n) : (a ++ b).Nodup := List.nodup_append.mpr ⟨ha, hb, fun x hx y hy e => Nat.not_lt.mpr (h2 y hy) (e ▸ h1 x hx)⟩
theorem nd_gt {a b : List Nat} (N : Nat) (ha : a.Nodup) (hb : b.Nodup) (h1 : ∀ n ∈ a, N ≤ n) (h2 : ∀ n ∈ b, n < N) : (a ++ b).Nodup := List.nodup_append.mpr ⟨ha, hb, fun x hx y hy e => Nat.not_lt.mpr (h1 x hx) (e ▸ h2 y hy)⟩
theorem ge_L {k : Nat} : ∀ n ∈ plL k, 74 ≤ n := by intro n hn; simp [plL] at hn; omega
theorem lt_M74 {k : Nat} (h : k < 8) : ∀ n ∈ plM k, n < 74 := by intro n hn; simp [plM] at hn; omega
theorem ge_R {k : Nat} : ∀ n ∈ plR k, 16 ≤ n := by intro n hn; simp [plR] at hn; omega
theorem nd_LE {i : Nat} : (plL i ++ plE).Nodup := nd_gt 74 nd_L nd_E ge_L (by decide)
theorem nd_ML {i k : Nat} (h : i < 8) : (plM i ++ plL k).Nodup := nd_lt 74 nd_M nd_L (lt_M74 h) ge_L
theorem nd_LM {i k : Nat} (h : i < 8) : (plL k ++ plM i).Nodup := nd_gt 74 nd_L nd_M ge_L (lt_M74 h)
theorem nd_RP {i : Nat} : (plR i ++ plP).Nodup := nd_gt 16 nd_R nd_P ge_R (by decide)
theorem nd_PR {i : Nat} : (plP ++ plR i).Nodup := nd_lt 16 nd_P nd_R (by decide) ge_R
theorem nd_BE : (plB ++ plE).Nodup := by decide
end XW
