/-! ===== the states of the objects, and the worlds that hold them ===== -/
abbrev UA : Type := Nat → Int32
/-- weights, wears, requestsServed, slots, occupants, holders; size -/
abbrev UC : Type := UA × UA × UA × UA × UA × UA × Int32
/-- files, ranks, ticks; size -/
abbrev UR : Type := UA × UA × UA × Int32
/-- cartridges, requests; wall, weighed, pileSize, pileWeight, lastMounted, ticks, turns, served -/
abbrev UL : Type := UC × UR × Int32 × Int32 × Int32 × Int32 × Int32 × Int32 × Int32 × Int32
/-- signs; length, word, number, end, breaksOffAt, faultPosition, faultReason, faultCause -/
abbrev UO : Type := UA × Int32 × Int32 × Int32 × Int32 × Int32 × Int32 × Int32 × Int32
/-- the four states; next, size -/
abbrev UH : Type := UL × UL × UL × UL × Int32 × Int32
/-- now, trial, history, orders -/
abbrev UM : Type := UL × UL × UH × UO
/-- the model: s, was, begun, aside; states; text; typed, at, reason, cause, digit, order, drive, moved -/
abbrev UX : Type := UA × UA × UA × UA × Int32 × UA × Int32 × Int32 × Int32 × Int32 × Int32 × Int32 × Int32 × Int32
def WA (d : Dt) (a : Nat → Nat) (u : UA) : va_W := [(a 0, .inl (d.2.1, 60, .inl u))]
def WC (d : Dt) (a : Nat → Nat) (u : UC) : va_W := [(a 0, .inr (0, [.ref (a 1), .ref (a 2), .ref (a 3), .ref (a 4), .ref (a 5), .ref (a 6), .int u.2.2.2.2.2.2])), (a 1, .inl (d.2.1, 30, .inl u.1)), (a 2, .inl (d.2.1, 30, .inl u.2.1)), (a 3, .inl (d.2.1, 30, .inl u.2.2.1)), (a 4, .inl (d.2.1, 30, .inl u.2.2.2.1)), (a 5, .inl (d.2.1, 37, .inl u.2.2.2.2.1)), (a 6, .inl (d.2.1, 60, .inl u.2.2.2.2.2.1))]
def WR (d : Dt) (a : Nat → Nat) (u : UR) : va_W := [(a 0, .inr (4, [.ref (a 1), .ref (a 2), .ref (a 3), .int u.2.2.2])), (a 1, .inl (d.2.1, 12, .inl u.1)), (a 2, .inl (d.2.1, 12, .inl u.2.1)), (a 3, .inl (d.2.1, 12, .inl u.2.2.1))]
def WL (d : Dt) (a : Nat → Nat) (u : UL) : va_W := (a 0, .inr (2, [.ref (a 1), .ref (a 8), .int u.2.2.1, .int u.2.2.2.1, .int u.2.2.2.2.1, .int u.2.2.2.2.2.1, .int u.2.2.2.2.2.2.1, .int u.2.2.2.2.2.2.2.1, .int u.2.2.2.2.2.2.2.2.1, .int u.2.2.2.2.2.2.2.2.2])) :: (WC d (fun i => a (i + 1)) u.1 ++ WR d (fun i => a (i + 8)) u.2.1)
def WO (d : Dt) (a : Nat → Nat) (u : UO) : va_W := [(a 0, .inr (3, [.ref (a 1), .int u.2.1, .int u.2.2.1, .int u.2.2.2.1, .int u.2.2.2.2.1, .int u.2.2.2.2.2.1, .int u.2.2.2.2.2.2.1, .int u.2.2.2.2.2.2.2.1, .int u.2.2.2.2.2.2.2.2])), (a 1, .inl (d.2.2.1, 60, .inl u.1))]
def libRow (a : Nat → Nat) : Nat → Option Nat
  | 0 => some (a 2)
  | 1 => some (a 14)
  | 2 => some (a 26)
  | 3 => some (a 38)
  | _ => none
def WH (d : Dt) (a : Nat → Nat) (u : UH) : va_W := (a 0, .inr (1, [.ref (a 1), .int u.2.2.2.2.1, .int u.2.2.2.2.2])) :: (a 1, .inl (d.2.2.2, 4, .inr (.inr (.inr (.inr (libRow a)))))) :: (WL d (fun i => a (i + 2)) u.1 ++ (WL d (fun i => a (i + 14)) u.2.1 ++ (WL d (fun i => a (i + 26)) u.2.2.1 ++ WL d (fun i => a (i + 38)) u.2.2.2.1)))
def WM (d : Dt) (a : Nat → Nat) (u : UM) : va_W := (a 0, .inr (5, [.ref (a 1), .ref (a 13), .ref (a 25), .ref (a 75)])) :: (WL d (fun i => a (i + 1)) u.1 ++ (WL d (fun i => a (i + 13)) u.2.1 ++ (WH d (fun i => a (i + 25)) u.2.2.1 ++ WO d (fun i => a (i + 75)) u.2.2.2)))
def WX (d : Dt) (a : Nat → Nat) (u : UX) : va_W := [(a 0, .inr (6, [.ref (a 1), .ref (a 2), .ref (a 3), .ref (a 4), .int u.2.2.2.2.1, .ref (a 5), .int u.2.2.2.2.2.2.1, .int u.2.2.2.2.2.2.2.1, .int u.2.2.2.2.2.2.2.2.1, .int u.2.2.2.2.2.2.2.2.2.1, .int u.2.2.2.2.2.2.2.2.2.2.1, .int u.2.2.2.2.2.2.2.2.2.2.2.1, .int u.2.2.2.2.2.2.2.2.2.2.2.2.1, .int u.2.2.2.2.2.2.2.2.2.2.2.2.2])), (a 1, .inl (d.2.1, 264, .inl u.1)), (a 2, .inl (d.2.1, 1056, .inl u.2.1)), (a 3, .inl (d.2.1, 264, .inl u.2.2.1)), (a 4, .inl (d.2.1, 264, .inl u.2.2.2.1)), (a 5, .inl (d.2.2.1, 60, .inl u.2.2.2.2.2.1))]
def WCC (d : Dt) (a b : Nat → Nat) (u : UC × UC) : va_W := WC d a u.1 ++ WC d b u.2
def WRR (d : Dt) (a b : Nat → Nat) (u : UR × UR) : va_W := WR d a u.1 ++ WR d b u.2
def WLL (d : Dt) (a b : Nat → Nat) (u : UL × UL) : va_W := WL d a u.1 ++ WL d b u.2
def WRC (d : Dt) (a b : Nat → Nat) (u : UR × UC) : va_W := WR d a u.1 ++ WC d b u.2
def WOL (d : Dt) (a b : Nat → Nat) (u : UO × UL) : va_W := WO d a u.1 ++ WL d b u.2
def WHL (d : Dt) (a b : Nat → Nat) (u : UH × UL) : va_W := WH d a u.1 ++ WL d b u.2
def FUEL : Nat := 2000
theorem tbl_all {ws : List Cond} (h : ∀ w ∈ ws, w ∈ lw_tbl) (g : ws.all goodWord = true) : ∀ w ∈ ws, w ∈ tG := fun w hw => tG_of (h w hw) (List.all_eq_true.mp g w hw)
set_option maxRecDepth 20000 in
theorem fx0 : Fld 0 RX0 TX0 7 tyX0 := ⟨rfl, tbl_all (by decide +kernel) (by decide +kernel), tyX0_ok, nmX0⟩
set_option maxRecDepth 20000 in
theorem fx1 : Fld 1 RX1 TX1 3 tyX1 := ⟨rfl, tbl_all (by decide +kernel) (by decide +kernel), tyX1_ok, nmX1⟩
set_option maxRecDepth 20000 in
theorem fx2 : Fld 2 RX2 TX2 10 tyX2 := ⟨rfl, tbl_all (by decide +kernel) (by decide +kernel), tyX2_ok, nmX2⟩
set_option maxRecDepth 20000 in
theorem fx3 : Fld 3 RX3 TX3 9 tyX3 := ⟨rfl, tbl_all (by decide +kernel) (by decide +kernel), tyX3_ok, nmX3⟩
set_option maxRecDepth 20000 in
theorem fx4 : Fld 4 RX4 TX4 4 tyX4 := ⟨rfl, tbl_all (by decide +kernel) (by decide +kernel), tyX4_ok, nmX4⟩
set_option maxRecDepth 20000 in
theorem fx6 : Fld 5 RX6 TX6 4 tyX6 := ⟨rfl, tbl_all (by decide +kernel) (by decide +kernel), tyX6_ok, nmX6⟩
set_option maxRecDepth 20000 in
theorem fx7 : Fld 6 RX7 TX7 14 tyX7 := ⟨rfl, tbl_all (by decide +kernel) (by decide +kernel), tyX7_ok, nmX7⟩
