/-! ===== the law's loop ===== -/
abbrev WMX (d : Dt) (a b : Nat → Nat) (u : UM × UX) : va_W := WM d a u.1 ++ WX d b u.2
theorem len_X (d : Dt) (a : Nat → Nat) (u : UX) : (WX d a u).length = 6 := rfl
theorem fst_X (d : Dt) (a : Nat → Nat) (u w : UX) : (WX d a u).map (·.1) = (WX d a w).map (·.1) := rfl
theorem emb_MX_M_0 (d : Dt) (a b : Nat → Nat) (u : UM × UX) : [0, 1, 2, 3, 4, 5, 6, 7, 8, 9, 10, 11, 12, 13, 14, 15, 16, 17, 18, 19, 20, 21, 22, 23, 24, 25, 26, 27, 28, 29, 30, 31, 32, 33, 34, 35, 36, 37, 38, 39, 40, 41, 42, 43, 44, 45, 46, 47, 48, 49, 50, 51, 52, 53, 54, 55, 56, 57, 58, 59, 60, 61, 62, 63, 64, 65, 66, 67, 68, 69, 70, 71, 72, 73, 74, 75, 76].map (fun i => (WMX d a b u)[i]?) = (WM d a u.1).map some := emb_of (pre := []) (post := WX d b u.2) rfl rfl (len_M d a u.1) rfl
theorem put_MX_M_0 (d : Dt) (a b : Nat → Nat) (u : UM × UX) (w : UM) : putAt (WMX d a b u) [0, 1, 2, 3, 4, 5, 6, 7, 8, 9, 10, 11, 12, 13, 14, 15, 16, 17, 18, 19, 20, 21, 22, 23, 24, 25, 26, 27, 28, 29, 30, 31, 32, 33, 34, 35, 36, 37, 38, 39, 40, 41, 42, 43, 44, 45, 46, 47, 48, 49, 50, 51, 52, 53, 54, 55, 56, 57, 58, 59, 60, 61, 62, 63, 64, 65, 66, 67, 68, 69, 70, 71, 72, 73, 74, 75, 76] (WM d a w) = WMX d a b (w, u.2) := put_of (pre := []) (S := WM d a u.1) (post := WX d b u.2) rfl rfl (len_M d a u.1) (len_M d a w) rfl rfl
theorem emb_MX_X_1 (d : Dt) (a b : Nat → Nat) (u : UM × UX) : [77, 78, 79, 80, 81, 82].map (fun i => (WMX d a b u)[i]?) = (WX d b u.2).map some := emb_of (pre := WM d a u.1) (post := []) (by simp) (len_M d a u.1) (len_X d b u.2) rfl
theorem put_MX_X_1 (d : Dt) (a b : Nat → Nat) (u : UM × UX) (w : UX) : putAt (WMX d a b u) [77, 78, 79, 80, 81, 82] (WX d b w) = WMX d a b (u.1, w) := put_of (pre := WM d a u.1) (S := WX d b u.2) (post := []) (by simp) (len_M d a u.1) (len_X d b u.2) (len_X d b w) rfl (by simp)
def LX (x : Am) (sb L : Nat) (xs : Nat → Int32) (A : Nat → Prop) : Prop := va_X sb L xs x.s x.s.heap ∧ sb < x.s.heap.size ∧ ¬ A sb
section LAWROWS
variable {x : Am} {R : Room} {cells slots : Nat} {Q : State → Prop} {nL : Nat} {hyp : Prop} {pc : Nat} {ws : va_W} {lv : List (Option Value)} {rest : List Value} {cc : ByteArray} {own : String} {d : Dt} {A : Nat → Prop} {sb L : Nat} {xs : Nat → Int32}
theorem V_sld (C : Cx x cc nL own d (Imu d A x.s.heap)) (hLX : LX x sb L xs A) {i : Int32} (hin : vp_in i L) (hdg : decode cc pc = .ok (.iaload, 1)) (kk : V x R cells slots Q nL (Imu d A x.s.heap) hyp (pc + 1) ws lv (.int (xs i.toNatClampNeg) :: rest)) : V x R cells slots Q nL (Imu d A x.s.heap) hyp pc ws lv (.int i :: .ref sb :: rest) :=
  fun h H locs ls hI hl => va_sld C.1 C.2.1 hLX.1 hLX.2.1 hLX.2.2 hI.2.2.1 hin hdg (kk h H locs ls hI hl)
theorem V_slen (C : Cx x cc nL own d (Imu d A x.s.heap)) (hLX : LX x sb L xs A) (hdg : decode cc pc = .ok (.arraylength, 1)) (kk : V x R cells slots Q nL (Imu d A x.s.heap) hyp (pc + 1) ws lv (.int (nI L) :: rest)) : V x R cells slots Q nL (Imu d A x.s.heap) hyp pc ws lv (.ref sb :: rest) :=
  fun h H locs ls hI hl => va_slen C.1 C.2.1 hLX.1 hLX.2.1 hLX.2.2 hI.2.2.1 hdg (kk h H locs ls hI hl)
theorem V_lret (C : Cx x code nL own d (Imu d A x.s.heap)) (hr : x.meth.sig.returnType = ret) (hlk : x.meth.locks = false) (hargs : x.args = #[Value.ref sb]) (hA0 : ∀ q, A q → x.s.heap.size ≤ q) (hdg : decode code pc = .ok (.ireturn, 1)) : V x room_1 83 3646 (lw_Z x.below #[Value.ref sb] x.s) nL (Imu d A x.s.heap) hyp pc ws lv [.int 1] := by
  intro h H locs ls hI hl
  rw [hargs]
  exact va_forget (fun q hq => hA0 _ (hI.2.2.1.2.2 q hq)) (W.widen (k := 600000) (n := 7302250) (Nat.le_of_ble_eq_true rfl) (Nat.le_of_ble_eq_true rfl) (lw_ret C.1 C.2.1 hr hlk hdg))
end LAWROWS
def f_L_law_b793 (L : Nat) (xs : Nat → Int32) (k18 : (UM × UX) → Int32 → Option Unit) (u : (UM × UX)) (v3 : Int32) : Option Unit :=
  k18 u (v3 + 4)
def f_L_law_b18 (L : Nat) (xs : Nat → Int32) : Nat → (UM × UX) → Int32 → Option Unit
  | 0, _, _ => none
  | n + 1, u, v3 => (if ((nI L) - 4) < v3 then some () else (if inb v3 L = true then (if ((xs v3.toNatClampNeg) &&& 31) = 0 then (if inb (v3 + 1) L = true then (if inb (v3 + 2) L = true then (if inb (v3 + 3) L = true then ((f_X6_bring u.1 (xs (v3 + 1).toNatClampNeg) (xs (v3 + 2).toNatClampNeg) (xs (v3 + 3).toNatClampNeg)).bind fun r164 => (if inb (v3 + 1) L = true then (if inb (v3 + 2) L = true then (if inb (v3 + 3) L = true then ((f_X7_bring u.2 (xs (v3 + 1).toNatClampNeg) (xs (v3 + 2).toNatClampNeg) (xs (v3 + 3).toNatClampNeg)).bind fun r183 => (if r164.1 = r183.1 then f_L_law_b793 L xs (f_L_law_b18 L xs n) (r164.2, r183.2) v3 else none)) else none) else none) else none)) else none) else none) else none) else (if ((xs v3.toNatClampNeg) &&& 31) = 1 then (if inb (v3 + 1) L = true then (if inb (v3 + 2) L = true then (if inb (v3 + 3) L = true then ((f_X6_send u.1 (xs (v3 + 1).toNatClampNeg) (xs (v3 + 2).toNatClampNeg) (xs (v3 + 3).toNatClampNeg)).bind fun r207 => (if inb (v3 + 1) L = true then (if inb (v3 + 2) L = true then (if inb (v3 + 3) L = true then ((f_X7_send u.2 (xs (v3 + 1).toNatClampNeg) (xs (v3 + 2).toNatClampNeg) (xs (v3 + 3).toNatClampNeg)).bind fun r226 => (if r207.1 = r226.1 then f_L_law_b793 L xs (f_L_law_b18 L xs n) (r207.2, r226.2) v3 else none)) else none) else none) else none)) else none) else none) else none) else (if ((xs v3.toNatClampNeg) &&& 31) = 2 then (if inb (v3 + 1) L = true then ((f_X6_lift u.1 (xs (v3 + 1).toNatClampNeg)).bind fun r240 => (if inb (v3 + 1) L = true then ((f_X7_lift u.2 (xs (v3 + 1).toNatClampNeg)).bind fun r249 => (if r240.1 = r249.1 then f_L_law_b793 L xs (f_L_law_b18 L xs n) (r240.2, r249.2) v3 else none)) else none)) else none) else (if ((xs v3.toNatClampNeg) &&& 31) = 3 then (if inb (v3 + 1) L = true then ((f_X6_lay u.1 (xs (v3 + 1).toNatClampNeg)).bind fun r263 => (if inb (v3 + 1) L = true then ((f_X7_lay u.2 (xs (v3 + 1).toNatClampNeg)).bind fun r272 => (if r263.1 = r272.1 then f_L_law_b793 L xs (f_L_law_b18 L xs n) (r263.2, r272.2) v3 else none)) else none)) else none) else (if ((xs v3.toNatClampNeg) &&& 31) = 4 then ((f_X6_weigh u.1).bind fun r281 => ((f_X7_weigh u.2).bind fun r285 => (if r281.1 = r285.1 then f_L_law_b793 L xs (f_L_law_b18 L xs n) (r281.2, r285.2) v3 else none))) else (if ((xs v3.toNatClampNeg) &&& 31) = 5 then (if inb (v3 + 1) L = true then ((f_X6_turn u.1 (xs (v3 + 1).toNatClampNeg)).bind fun r299 => (if inb (v3 + 1) L = true then ((f_X7_turn u.2 (xs (v3 + 1).toNatClampNeg)).bind fun r308 => (if r299.1 = r308.1 then f_L_law_b793 L xs (f_L_law_b18 L xs n) (r299.2, r308.2) v3 else none)) else none)) else none) else (if ((xs v3.toNatClampNeg) &&& 31) = 6 then (if inb (v3 + 1) L = true then ((f_X6_mount u.1 (xs (v3 + 1).toNatClampNeg)).bind fun r322 => (if inb (v3 + 1) L = true then ((f_X7_mount u.2 (xs (v3 + 1).toNatClampNeg)).bind fun r331 => (if r322.1 = r331.1 then f_L_law_b793 L xs (f_L_law_b18 L xs n) (r322.2, r331.2) v3 else none)) else none)) else none) else (if ((xs v3.toNatClampNeg) &&& 31) = 7 then (if inb (v3 + 1) L = true then ((f_X6_take u.1 (xs (v3 + 1).toNatClampNeg)).bind fun r345 => (if inb (v3 + 1) L = true then ((f_X7_take u.2 (xs (v3 + 1).toNatClampNeg)).bind fun r354 => (if r345.1 = r354.1 then f_L_law_b793 L xs (f_L_law_b18 L xs n) (r345.2, r354.2) v3 else none)) else none)) else none) else (if ((xs v3.toNatClampNeg) &&& 31) = 8 then (if inb (v3 + 1) L = true then (if inb (v3 + 2) L = true then ((f_X6_hold u.1 (xs (v3 + 1).toNatClampNeg) (xs (v3 + 2).toNatClampNeg)).bind fun r373 => (if inb (v3 + 1) L = true then (if inb (v3 + 2) L = true then ((f_X7_hold u.2 (xs (v3 + 1).toNatClampNeg) (xs (v3 + 2).toNatClampNeg)).bind fun r387 => (if r373.1 = r387.1 then f_L_law_b793 L xs (f_L_law_b18 L xs n) (r373.2, r387.2) v3 else none)) else none) else none)) else none) else none) else (if ((xs v3.toNatClampNeg) &&& 31) = 9 then (if inb (v3 + 1) L = true then (if inb (v3 + 2) L = true then ((f_X6_request u.1 (xs (v3 + 1).toNatClampNeg) (xs (v3 + 2).toNatClampNeg)).bind fun r406 => (if inb (v3 + 1) L = true then (if inb (v3 + 2) L = true then ((f_X7_request u.2 (xs (v3 + 1).toNatClampNeg) (xs (v3 + 2).toNatClampNeg)).bind fun r420 => (if r406.1 = r420.1 then f_L_law_b793 L xs (f_L_law_b18 L xs n) (r406.2, r420.2) v3 else none)) else none) else none)) else none) else none) else (if ((xs v3.toNatClampNeg) &&& 31) = 10 then (if inb (v3 + 1) L = true then ((f_X6_serve u.1 (xs (v3 + 1).toNatClampNeg)).bind fun r434 => (if inb (v3 + 1) L = true then ((f_X7_serve u.2 (xs (v3 + 1).toNatClampNeg)).bind fun r443 => (if r434.1 = r443.1 then f_L_law_b793 L xs (f_L_law_b18 L xs n) (r434.2, r443.2) v3 else none)) else none)) else none) else (if ((xs v3.toNatClampNeg) &&& 31) = 11 then (if inb (v3 + 1) L = true then (if inb (v3 + 2) L = true then ((f_X6_cartridgeOf u.1 (xs (v3 + 1).toNatClampNeg) (xs (v3 + 2).toNatClampNeg)).bind fun r462 => (if inb (v3 + 1) L = true then (if inb (v3 + 2) L = true then ((f_X7_cartridgeOf u.2 (xs (v3 + 1).toNatClampNeg) (xs (v3 + 2).toNatClampNeg)).bind fun r476 => (if r462 = r476 then f_L_law_b793 L xs (f_L_law_b18 L xs n) u v3 else none)) else none) else none)) else none) else none) else (if ((xs v3.toNatClampNeg) &&& 31) = 12 then (if inb (v3 + 1) L = true then (if inb (v3 + 2) L = true then ((f_X6_shelfOf u.1 (xs (v3 + 1).toNatClampNeg) (xs (v3 + 2).toNatClampNeg)).bind fun r495 => (if inb (v3 + 1) L = true then (if inb (v3 + 2) L = true then ((f_X7_shelfOf u.2 (xs (v3 + 1).toNatClampNeg) (xs (v3 + 2).toNatClampNeg)).bind fun r509 => (if r495 = r509 then f_L_law_b793 L xs (f_L_law_b18 L xs n) u v3 else none)) else none) else none)) else none) else none) else (if ((xs v3.toNatClampNeg) &&& 31) = 13 then (if inb (v3 + 1) L = true then ((f_X6_holder u.1 (xs (v3 + 1).toNatClampNeg)).bind fun r523 => (if inb (v3 + 1) L = true then ((f_X7_holder u.2 (xs (v3 + 1).toNatClampNeg)).bind fun r532 => (if r523 = r532 then f_L_law_b793 L xs (f_L_law_b18 L xs n) u v3 else none)) else none)) else none) else (if ((xs v3.toNatClampNeg) &&& 31) = 14 then (if inb (v3 + 1) L = true then (if inb (v3 + 2) L = true then ((f_X6_requestOf u.1 (xs (v3 + 1).toNatClampNeg) (xs (v3 + 2).toNatClampNeg)).bind fun r551 => (if inb (v3 + 1) L = true then (if inb (v3 + 2) L = true then ((f_X7_requestOf u.2 (xs (v3 + 1).toNatClampNeg) (xs (v3 + 2).toNatClampNeg)).bind fun r565 => (if r551 = r565 then f_L_law_b793 L xs (f_L_law_b18 L xs n) u v3 else none)) else none) else none)) else none) else none) else (if ((xs v3.toNatClampNeg) &&& 31) = 15 then (if inb (v3 + 1) L = true then ((f_X6_nextBy u.1 (xs (v3 + 1).toNatClampNeg)).bind fun r579 => (if inb (v3 + 1) L = true then ((f_X7_nextBy u.2 (xs (v3 + 1).toNatClampNeg)).bind fun r588 => (if r579 = r588 then f_L_law_b793 L xs (f_L_law_b18 L xs n) u v3 else none)) else none)) else none) else (if ((xs v3.toNatClampNeg) &&& 31) = 16 then (if inb (v3 + 1) L = true then (if inb (v3 + 2) L = true then ((f_X6_would u.1 (xs (v3 + 1).toNatClampNeg) (xs (v3 + 2).toNatClampNeg)).bind fun r607 => (if inb (v3 + 1) L = true then (if inb (v3 + 2) L = true then ((f_X7_would u.2 (xs (v3 + 1).toNatClampNeg) (xs (v3 + 2).toNatClampNeg)).bind fun r621 => (if r607.1 = r621.1 then f_L_law_b793 L xs (f_L_law_b18 L xs n) (r607.2, r621.2) v3 else none)) else none) else none)) else none) else none) else (if ((xs v3.toNatClampNeg) &&& 31) = 17 then (if inb (v3 + 1) L = true then ((f_X6_wayTo u.1 (xs (v3 + 1).toNatClampNeg)).bind fun r635 => (if inb (v3 + 1) L = true then ((f_X7_wayTo u.2 (xs (v3 + 1).toNatClampNeg)).bind fun r644 => (if r635.1 = r644.1 then f_L_law_b793 L xs (f_L_law_b18 L xs n) (r635.2, r644.2) v3 else none)) else none)) else none) else (if ((xs v3.toNatClampNeg) &&& 31) = 18 then (if inb (v3 + 1) L = true then (if inb (v3 + 2) L = true then ((f_X6_wholeBatch u.1 (xs (v3 + 1).toNatClampNeg) (xs (v3 + 2).toNatClampNeg)).bind fun r663 => (if inb (v3 + 1) L = true then (if inb (v3 + 2) L = true then ((f_X7_wholeBatch u.2 (xs (v3 + 1).toNatClampNeg) (xs (v3 + 2).toNatClampNeg)).bind fun r677 => (if r663.1 = r677.1 then f_L_law_b793 L xs (f_L_law_b18 L xs n) (r663.2, r677.2) v3 else none)) else none) else none)) else none) else none) else (if ((xs v3.toNatClampNeg) &&& 31) = 19 then (if inb (v3 + 1) L = true then ((f_X6_count u.1 (xs (v3 + 1).toNatClampNeg)).bind fun r691 => (if inb (v3 + 1) L = true then ((f_X7_count u.2 (xs (v3 + 1).toNatClampNeg)).bind fun r700 => (if r691 = r700 then f_L_law_b793 L xs (f_L_law_b18 L xs n) u v3 else none)) else none)) else none) else (if ((xs v3.toNatClampNeg) &&& 31) = 20 then ((f_X6_undo u.1).bind fun r709 => ((f_X7_undo u.2).bind fun r713 => (if r709.1 = r713.1 then f_L_law_b793 L xs (f_L_law_b18 L xs n) (r709.2, r713.2) v3 else none))) else (if ((xs v3.toNatClampNeg) &&& 31) = 21 then (if inb (v3 + 1) L = true then ((f_X6_type u.1 (xs (v3 + 1).toNatClampNeg)).bind fun r727 => (if inb (v3 + 1) L = true then ((f_X7_type u.2 (xs (v3 + 1).toNatClampNeg)).bind fun r736 => (if r727.1 = r736.1 then f_L_law_b793 L xs (f_L_law_b18 L xs n) (r727.2, r736.2) v3 else none)) else none)) else none) else (if ((xs v3.toNatClampNeg) &&& 31) = 22 then ((f_X6_clearText u.1).bind fun r745 => ((f_X7_clearText u.2).bind fun r749 => (if r745.1 = r749.1 then f_L_law_b793 L xs (f_L_law_b18 L xs n) (r745.2, r749.2) v3 else none))) else (if ((xs v3.toNatClampNeg) &&& 31) = 23 then (if inb (v3 + 1) L = true then ((f_X6_fault u.1 (xs (v3 + 1).toNatClampNeg)).bind fun r763 => (if inb (v3 + 1) L = true then ((f_X7_fault u.2 (xs (v3 + 1).toNatClampNeg)).bind fun r772 => (if r763.1 = r772.1 then f_L_law_b793 L xs (f_L_law_b18 L xs n) (r763.2, r772.2) v3 else none)) else none)) else none) else (if ((xs v3.toNatClampNeg) &&& 31) = 24 then ((f_X6_play u.1).bind fun r781 => ((f_X7_play u.2).bind fun r785 => (if r781.1 = r785.1 then f_L_law_b793 L xs (f_L_law_b18 L xs n) (r781.2, r785.2) v3 else none))) else f_L_law_b793 L xs (f_L_law_b18 L xs n) u v3))))))))))))))))))))))))) else none))
set_option maxRecDepth 20000 in
theorem v_L_law_b793 {x : Am} {d : Dt} {σ : Sg} {a b : Nat → Nat} {A : Nat → Prop} {sb L : Nat} {xs : Nat → Int32} (C : Cx x code 4 RL d (Imu d A x.s.heap)) (hr : x.meth.sig.returnType = ret) (hlk : x.meth.locks = false) (hσ : SF σ A x.s x.s.heap) (hLX : LX x sb L xs A) (hA0 : ∀ q, A q → x.s.heap.size ≤ q) (hargs : x.args = #[Value.ref sb]) (k18 : (UM × UX) → Int32 → Option Unit) (hk18 : ∀ (u : (UM × UX)) (v3 : Int32), V x room_1 83 3646 (lw_Z x.below #[Value.ref sb] x.s) 4 (Imu d A x.s.heap) (k18 u v3 = some ()) 18 (WMX d a b u) [some (.ref sb), some (.ref (a 0)), some (.ref (b 0)), some (.int v3)] []) (u : (UM × UX)) (v3 : Int32) : V x room_1 83 3646 (lw_Z x.below #[Value.ref sb] x.s) 4 (Imu d A x.s.heap) (f_L_law_b793 L xs k18 u v3 = some ()) 793 (WMX d a b u) [some (.ref sb), some (.ref (a 0)), some (.ref (b 0)), some (.int v3)] [] := by
  unfold f_L_law_b793
  refine V_iinc (v := (v3 + 4)) (lv' := [some (.ref sb), some (.ref (a 0)), some (.ref (b 0)), some (.int (v3 + 4))]) C dL_law_793 rfl rfl (by decide) rfl ?_
  refine V_goto (tgt := 18) C dL_law_796 (by decide) ?_
  exact hk18 u (v3 + 4)
set_option maxRecDepth 20000 in
set_option maxHeartbeats 4000000 in
theorem v_L_law_b18 {x : Am} {d : Dt} {σ : Sg} {a b : Nat → Nat} {A : Nat → Prop} {sb L : Nat} {xs : Nat → Int32} (C : Cx x code 4 RL d (Imu d A x.s.heap)) (hr : x.meth.sig.returnType = ret) (hlk : x.meth.locks = false) (hσ : SF σ A x.s x.s.heap) (hLX : LX x sb L xs A) (hA0 : ∀ q, A q → x.s.heap.size ≤ q) (hargs : x.args = #[Value.ref sb]) (n : Nat) (u : (UM × UX)) (v3 : Int32) : V x room_1 83 3646 (lw_Z x.below #[Value.ref sb] x.s) 4 (Imu d A x.s.heap) (f_L_law_b18 L xs n u v3 = some ()) 18 (WMX d a b u) [some (.ref sb), some (.ref (a 0)), some (.ref (b 0)), some (.int v3)] [] := by
  induction n generalizing u v3 with
  | zero => exact V_none
  | succ n ih =>
    rw [f_L_law_b18]
    refine V_iload_n C 3 dL_law_18 rfl rfl ?_
    refine V_aload_n C 0 dL_law_19 rfl rfl ?_
    refine V_slen C hLX dL_law_20 ?_
    refine V_iconst (v := 4) C dL_law_21 (by decide) ?_
    refine V_isub C dL_law_22 ?_
    refine V_icmp_gt (tgt := 799) C dL_law_23 (by decide) ?_ ?_
    · refine V_iconst (v := 1) C dL_law_799 (by decide) ?_
      exact V_lret C hr hlk hargs hA0 dL_law_800
    · refine V_aload_n C 0 dL_law_26 rfl rfl ?_
      refine V_iload_n C 3 dL_law_27 rfl rfl ?_
      refine V_test (fun t28 => ?_)
      refine V_sld C hLX (inb_in t28) dL_law_28 ?_
      refine V_bipush (v := 31) C dL_law_29 (by decide) ?_
      refine V_iand C dL_law_31 ?_
      refine V_case (fun c0 => ?_) (fun c0 => ?_)
      · refine V_tsIn (tgt := 148) C c0 dL_law_32 (by decide) (by decide) rfl (by decide) ?_
        refine V_aload_n C 1 dL_law_148 rfl rfl ?_
        refine V_aload_n C 0 dL_law_149 rfl rfl ?_
        refine V_iload_n C 3 dL_law_150 rfl rfl ?_
        refine V_iconst (v := 1) C dL_law_151 (by decide) ?_
        refine V_iadd C dL_law_152 ?_
        refine V_test (fun t153 => ?_)
        refine V_sld C hLX (inb_in t153) dL_law_153 ?_
        refine V_aload_n C 0 dL_law_154 rfl rfl ?_
        refine V_iload_n C 3 dL_law_155 rfl rfl ?_
        refine V_iconst (v := 2) C dL_law_156 (by decide) ?_
        refine V_iadd C dL_law_157 ?_
        refine V_test (fun t158 => ?_)
        refine V_sld C hLX (inb_in t158) dL_law_158 ?_
        refine V_aload_n C 0 dL_law_159 rfl rfl ?_
        refine V_iload_n C 3 dL_law_160 rfl rfl ?_
        refine V_iconst (v := 3) C dL_law_161 (by decide) ?_
        refine V_iadd C dL_law_162 ?_
        refine V_test (fun t163 => ?_)
        refine V_sld C hLX (inb_in t163) dL_law_163 ?_
        refine V_callWi (As := [.int (xs (v3 + 1).toNatClampNeg), .int (xs (v3 + 2).toNatClampNeg), .int (xs (v3 + 3).toNatClampNeg)]) (rest := []) (wc := WM d a u.1) (Wd := fun w => WM d a w) C (fun r h => ct_X6_bring _ d a u.1 (xs (v3 + 1).toNatClampNeg) (xs (v3 + 2).toNatClampNeg) (xs (v3 + 3).toNatClampNeg) r h) kv_X6_bring kl_L_13 [0, 1, 2, 3, 4, 5, 6, 7, 8, 9, 10, 11, 12, 13, 14, 15, 16, 17, 18, 19, 20, 21, 22, 23, 24, 25, 26, 27, 28, 29, 30, 31, 32, 33, 34, 35, 36, 37, 38, 39, 40, 41, 42, 43, 44, 45, 46, 47, 48, 49, 50, 51, 52, 53, 54, 55, 56, 57, 58, 59, 60, 61, 62, 63, 64, 65, 66, 67, 68, 69, 70, 71, 72, 73, 74, 75, 76] (fun w => WMX d a b (w, u.2)) dL_law_164 (emb_MX_M_0 d a b _) rfl (fun _ => fst_M d _ _ _) (fun _ => put_MX_M_0 d a b _ _) rfl rfl rfl (Nat.le_of_ble_eq_true rfl) ⟨(Nat.le_of_ble_eq_true rfl), (Nat.le_of_ble_eq_true rfl)⟩ rfl rfl ⟨(Nat.le_of_ble_eq_true rfl), (Nat.le_of_ble_eq_true rfl)⟩ rfl (fun r164 hr164 => ?_)
        refine V_aload_n C 2 dL_law_167 rfl rfl ?_
        refine V_aload_n C 0 dL_law_168 rfl rfl ?_
        refine V_iload_n C 3 dL_law_169 rfl rfl ?_
        refine V_iconst (v := 1) C dL_law_170 (by decide) ?_
        refine V_iadd C dL_law_171 ?_
        refine V_test (fun t172 => ?_)
        refine V_sld C hLX (inb_in t172) dL_law_172 ?_
        refine V_aload_n C 0 dL_law_173 rfl rfl ?_
        refine V_iload_n C 3 dL_law_174 rfl rfl ?_
        refine V_iconst (v := 2) C dL_law_175 (by decide) ?_
        refine V_iadd C dL_law_176 ?_
        refine V_test (fun t177 => ?_)
        refine V_sld C hLX (inb_in t177) dL_law_177 ?_
        refine V_aload_n C 0 dL_law_178 rfl rfl ?_
        refine V_iload_n C 3 dL_law_179 rfl rfl ?_
        refine V_iconst (v := 3) C dL_law_180 (by decide) ?_
        refine V_iadd C dL_law_181 ?_
        refine V_test (fun t182 => ?_)
        refine V_sld C hLX (inb_in t182) dL_law_182 ?_
        refine V_callWi (As := [.int (xs (v3 + 1).toNatClampNeg), .int (xs (v3 + 2).toNatClampNeg), .int (xs (v3 + 3).toNatClampNeg)]) (rest := [.int r164.1]) (wc := WX d b u.2) (Wd := fun w => WX d b w) C (fun r h => ct_X7_bring _ d b u.2 (xs (v3 + 1).toNatClampNeg) (xs (v3 + 2).toNatClampNeg) (xs (v3 + 3).toNatClampNeg) r h) kv_X7_bring kl_L_17 [77, 78, 79, 80, 81, 82] (fun w => WMX d a b (r164.2, w)) dL_law_183 (emb_MX_X_1 d a b _) rfl (fun _ => fst_X d _ _ _) (fun _ => put_MX_X_1 d a b _ _) rfl rfl rfl (Nat.le_of_ble_eq_true rfl) ⟨(Nat.le_of_ble_eq_true rfl), (Nat.le_of_ble_eq_true rfl)⟩ rfl rfl ⟨(Nat.le_of_ble_eq_true rfl), (Nat.le_of_ble_eq_true rfl)⟩ rfl (fun r183 hr183 => ?_)
        refine V_icmp_eq (tgt := 793) C dL_law_186 (by decide) ?_ ?_
        · exact v_L_law_b793 C hr hlk hσ hLX hA0 hargs (f_L_law_b18 L xs  n) ih (r164.2, r183.2) v3
        · exact V_none
      refine V_case (fun c1 => ?_) (fun c1 => ?_)
      · refine V_tsIn (tgt := 191) C c1 dL_law_32 (by decide) (by decide) rfl (by decide) ?_
        refine V_aload_n C 1 dL_law_191 rfl rfl ?_
        refine V_aload_n C 0 dL_law_192 rfl rfl ?_
        refine V_iload_n C 3 dL_law_193 rfl rfl ?_
        refine V_iconst (v := 1) C dL_law_194 (by decide) ?_
        refine V_iadd C dL_law_195 ?_
        refine V_test (fun t196 => ?_)
        refine V_sld C hLX (inb_in t196) dL_law_196 ?_
        refine V_aload_n C 0 dL_law_197 rfl rfl ?_
        refine V_iload_n C 3 dL_law_198 rfl rfl ?_
        refine V_iconst (v := 2) C dL_law_199 (by decide) ?_
        refine V_iadd C dL_law_200 ?_
        refine V_test (fun t201 => ?_)
        refine V_sld C hLX (inb_in t201) dL_law_201 ?_
        refine V_aload_n C 0 dL_law_202 rfl rfl ?_
        refine V_iload_n C 3 dL_law_203 rfl rfl ?_
        refine V_iconst (v := 3) C dL_law_204 (by decide) ?_
        refine V_iadd C dL_law_205 ?_
        refine V_test (fun t206 => ?_)
        refine V_sld C hLX (inb_in t206) dL_law_206 ?_
        refine V_callWi (As := [.int (xs (v3 + 1).toNatClampNeg), .int (xs (v3 + 2).toNatClampNeg), .int (xs (v3 + 3).toNatClampNeg)]) (rest := []) (wc := WM d a u.1) (Wd := fun w => WM d a w) C (fun r h => ct_X6_send _ d a u.1 (xs (v3 + 1).toNatClampNeg) (xs (v3 + 2).toNatClampNeg) (xs (v3 + 3).toNatClampNeg) r h) kv_X6_send kl_L_18 [0, 1, 2, 3, 4, 5, 6, 7, 8, 9, 10, 11, 12, 13, 14, 15, 16, 17, 18, 19, 20, 21, 22, 23, 24, 25, 26, 27, 28, 29, 30, 31, 32, 33, 34, 35, 36, 37, 38, 39, 40, 41, 42, 43, 44, 45, 46, 47, 48, 49, 50, 51, 52, 53, 54, 55, 56, 57, 58, 59, 60, 61, 62, 63, 64, 65, 66, 67, 68, 69, 70, 71, 72, 73, 74, 75, 76] (fun w => WMX d a b (w, u.2)) dL_law_207 (emb_MX_M_0 d a b _) rfl (fun _ => fst_M d _ _ _) (fun _ => put_MX_M_0 d a b _ _) rfl rfl rfl (Nat.le_of_ble_eq_true rfl) ⟨(Nat.le_of_ble_eq_true rfl), (Nat.le_of_ble_eq_true rfl)⟩ rfl rfl ⟨(Nat.le_of_ble_eq_true rfl), (Nat.le_of_ble_eq_true rfl)⟩ rfl (fun r207 hr207 => ?_)
        refine V_aload_n C 2 dL_law_210 rfl rfl ?_
        refine V_aload_n C 0 dL_law_211 rfl rfl ?_
        refine V_iload_n C 3 dL_law_212 rfl rfl ?_
        refine V_iconst (v := 1) C dL_law_213 (by decide) ?_
        refine V_iadd C dL_law_214 ?_
        refine V_test (fun t215 => ?_)
        refine V_sld C hLX (inb_in t215) dL_law_215 ?_
        refine V_aload_n C 0 dL_law_216 rfl rfl ?_
        refine V_iload_n C 3 dL_law_217 rfl rfl ?_
        refine V_iconst (v := 2) C dL_law_218 (by decide) ?_
        refine V_iadd C dL_law_219 ?_
        refine V_test (fun t220 => ?_)
        refine V_sld C hLX (inb_in t220) dL_law_220 ?_
        refine V_aload_n C 0 dL_law_221 rfl rfl ?_
        refine V_iload_n C 3 dL_law_222 rfl rfl ?_
        refine V_iconst (v := 3) C dL_law_223 (by decide) ?_
        refine V_iadd C dL_law_224 ?_
        refine V_test (fun t225 => ?_)
        refine V_sld C hLX (inb_in t225) dL_law_225 ?_
        refine V_callWi (As := [.int (xs (v3 + 1).toNatClampNeg), .int (xs (v3 + 2).toNatClampNeg), .int (xs (v3 + 3).toNatClampNeg)]) (rest := [.int r207.1]) (wc := WX d b u.2) (Wd := fun w => WX d b w) C (fun r h => ct_X7_send _ d b u.2 (xs (v3 + 1).toNatClampNeg) (xs (v3 + 2).toNatClampNeg) (xs (v3 + 3).toNatClampNeg) r h) kv_X7_send kl_L_21 [77, 78, 79, 80, 81, 82] (fun w => WMX d a b (r207.2, w)) dL_law_226 (emb_MX_X_1 d a b _) rfl (fun _ => fst_X d _ _ _) (fun _ => put_MX_X_1 d a b _ _) rfl rfl rfl (Nat.le_of_ble_eq_true rfl) ⟨(Nat.le_of_ble_eq_true rfl), (Nat.le_of_ble_eq_true rfl)⟩ rfl rfl ⟨(Nat.le_of_ble_eq_true rfl), (Nat.le_of_ble_eq_true rfl)⟩ rfl (fun r226 hr226 => ?_)
        refine V_icmp_eq (tgt := 793) C dL_law_229 (by decide) ?_ ?_
        · exact v_L_law_b793 C hr hlk hσ hLX hA0 hargs (f_L_law_b18 L xs  n) ih (r207.2, r226.2) v3
        · exact V_none
      refine V_case (fun c2 => ?_) (fun c2 => ?_)
      · refine V_tsIn (tgt := 234) C c2 dL_law_32 (by decide) (by decide) rfl (by decide) ?_
        refine V_aload_n C 1 dL_law_234 rfl rfl ?_
        refine V_aload_n C 0 dL_law_235 rfl rfl ?_
        refine V_iload_n C 3 dL_law_236 rfl rfl ?_
        refine V_iconst (v := 1) C dL_law_237 (by decide) ?_
        refine V_iadd C dL_law_238 ?_
        refine V_test (fun t239 => ?_)
        refine V_sld C hLX (inb_in t239) dL_law_239 ?_
        refine V_callWi (As := [.int (xs (v3 + 1).toNatClampNeg)]) (rest := []) (wc := WM d a u.1) (Wd := fun w => WM d a w) C (fun r h => ct_X6_lift _ d a u.1 (xs (v3 + 1).toNatClampNeg) r h) kv_X6_lift kl_L_22 [0, 1, 2, 3, 4, 5, 6, 7, 8, 9, 10, 11, 12, 13, 14, 15, 16, 17, 18, 19, 20, 21, 22, 23, 24, 25, 26, 27, 28, 29, 30, 31, 32, 33, 34, 35, 36, 37, 38, 39, 40, 41, 42, 43, 44, 45, 46, 47, 48, 49, 50, 51, 52, 53, 54, 55, 56, 57, 58, 59, 60, 61, 62, 63, 64, 65, 66, 67, 68, 69, 70, 71, 72, 73, 74, 75, 76] (fun w => WMX d a b (w, u.2)) dL_law_240 (emb_MX_M_0 d a b _) rfl (fun _ => fst_M d _ _ _) (fun _ => put_MX_M_0 d a b _ _) rfl rfl rfl (Nat.le_of_ble_eq_true rfl) ⟨(Nat.le_of_ble_eq_true rfl), (Nat.le_of_ble_eq_true rfl)⟩ rfl rfl ⟨(Nat.le_of_ble_eq_true rfl), (Nat.le_of_ble_eq_true rfl)⟩ rfl (fun r240 hr240 => ?_)
        refine V_aload_n C 2 dL_law_243 rfl rfl ?_
        refine V_aload_n C 0 dL_law_244 rfl rfl ?_
        refine V_iload_n C 3 dL_law_245 rfl rfl ?_
        refine V_iconst (v := 1) C dL_law_246 (by decide) ?_
        refine V_iadd C dL_law_247 ?_
        refine V_test (fun t248 => ?_)
        refine V_sld C hLX (inb_in t248) dL_law_248 ?_
        refine V_callWi (As := [.int (xs (v3 + 1).toNatClampNeg)]) (rest := [.int r240.1]) (wc := WX d b u.2) (Wd := fun w => WX d b w) C (fun r h => ct_X7_lift _ d b u.2 (xs (v3 + 1).toNatClampNeg) r h) kv_X7_lift kl_L_26 [77, 78, 79, 80, 81, 82] (fun w => WMX d a b (r240.2, w)) dL_law_249 (emb_MX_X_1 d a b _) rfl (fun _ => fst_X d _ _ _) (fun _ => put_MX_X_1 d a b _ _) rfl rfl rfl (Nat.le_of_ble_eq_true rfl) ⟨(Nat.le_of_ble_eq_true rfl), (Nat.le_of_ble_eq_true rfl)⟩ rfl rfl ⟨(Nat.le_of_ble_eq_true rfl), (Nat.le_of_ble_eq_true rfl)⟩ rfl (fun r249 hr249 => ?_)
        refine V_icmp_eq (tgt := 793) C dL_law_252 (by decide) ?_ ?_
        · exact v_L_law_b793 C hr hlk hσ hLX hA0 hargs (f_L_law_b18 L xs  n) ih (r240.2, r249.2) v3
        · exact V_none
      refine V_case (fun c3 => ?_) (fun c3 => ?_)
      · refine V_tsIn (tgt := 257) C c3 dL_law_32 (by decide) (by decide) rfl (by decide) ?_
        refine V_aload_n C 1 dL_law_257 rfl rfl ?_
        refine V_aload_n C 0 dL_law_258 rfl rfl ?_
        refine V_iload_n C 3 dL_law_259 rfl rfl ?_
        refine V_iconst (v := 1) C dL_law_260 (by decide) ?_
        refine V_iadd C dL_law_261 ?_
        refine V_test (fun t262 => ?_)
        refine V_sld C hLX (inb_in t262) dL_law_262 ?_
        refine V_callWi (As := [.int (xs (v3 + 1).toNatClampNeg)]) (rest := []) (wc := WM d a u.1) (Wd := fun w => WM d a w) C (fun r h => ct_X6_lay _ d a u.1 (xs (v3 + 1).toNatClampNeg) r h) kv_X6_lay kl_L_27 [0, 1, 2, 3, 4, 5, 6, 7, 8, 9, 10, 11, 12, 13, 14, 15, 16, 17, 18, 19, 20, 21, 22, 23, 24, 25, 26, 27, 28, 29, 30, 31, 32, 33, 34, 35, 36, 37, 38, 39, 40, 41, 42, 43, 44, 45, 46, 47, 48, 49, 50, 51, 52, 53, 54, 55, 56, 57, 58, 59, 60, 61, 62, 63, 64, 65, 66, 67, 68, 69, 70, 71, 72, 73, 74, 75, 76] (fun w => WMX d a b (w, u.2)) dL_law_263 (emb_MX_M_0 d a b _) rfl (fun _ => fst_M d _ _ _) (fun _ => put_MX_M_0 d a b _ _) rfl rfl rfl (Nat.le_of_ble_eq_true rfl) ⟨(Nat.le_of_ble_eq_true rfl), (Nat.le_of_ble_eq_true rfl)⟩ rfl rfl ⟨(Nat.le_of_ble_eq_true rfl), (Nat.le_of_ble_eq_true rfl)⟩ rfl (fun r263 hr263 => ?_)
        refine V_aload_n C 2 dL_law_266 rfl rfl ?_
        refine V_aload_n C 0 dL_law_267 rfl rfl ?_
        refine V_iload_n C 3 dL_law_268 rfl rfl ?_
        refine V_iconst (v := 1) C dL_law_269 (by decide) ?_
        refine V_iadd C dL_law_270 ?_
        refine V_test (fun t271 => ?_)
        refine V_sld C hLX (inb_in t271) dL_law_271 ?_
        refine V_callWi (As := [.int (xs (v3 + 1).toNatClampNeg)]) (rest := [.int r263.1]) (wc := WX d b u.2) (Wd := fun w => WX d b w) C (fun r h => ct_X7_lay _ d b u.2 (xs (v3 + 1).toNatClampNeg) r h) kv_X7_lay kl_L_30 [77, 78, 79, 80, 81, 82] (fun w => WMX d a b (r263.2, w)) dL_law_272 (emb_MX_X_1 d a b _) rfl (fun _ => fst_X d _ _ _) (fun _ => put_MX_X_1 d a b _ _) rfl rfl rfl (Nat.le_of_ble_eq_true rfl) ⟨(Nat.le_of_ble_eq_true rfl), (Nat.le_of_ble_eq_true rfl)⟩ rfl rfl ⟨(Nat.le_of_ble_eq_true rfl), (Nat.le_of_ble_eq_true rfl)⟩ rfl (fun r272 hr272 => ?_)
        refine V_icmp_eq (tgt := 793) C dL_law_275 (by decide) ?_ ?_
        · exact v_L_law_b793 C hr hlk hσ hLX hA0 hargs (f_L_law_b18 L xs  n) ih (r263.2, r272.2) v3
        · exact V_none
      refine V_case (fun c4 => ?_) (fun c4 => ?_)
      · refine V_tsIn (tgt := 280) C c4 dL_law_32 (by decide) (by decide) rfl (by decide) ?_
        refine V_aload_n C 1 dL_law_280 rfl rfl ?_
        refine V_callWi (As := []) (rest := []) (wc := WM d a u.1) (Wd := fun w => WM d a w) C (fun r h => ct_X6_weigh _ d a u.1 r h) kv_X6_weigh kl_L_31 [0, 1, 2, 3, 4, 5, 6, 7, 8, 9, 10, 11, 12, 13, 14, 15, 16, 17, 18, 19, 20, 21, 22, 23, 24, 25, 26, 27, 28, 29, 30, 31, 32, 33, 34, 35, 36, 37, 38, 39, 40, 41, 42, 43, 44, 45, 46, 47, 48, 49, 50, 51, 52, 53, 54, 55, 56, 57, 58, 59, 60, 61, 62, 63, 64, 65, 66, 67, 68, 69, 70, 71, 72, 73, 74, 75, 76] (fun w => WMX d a b (w, u.2)) dL_law_281 (emb_MX_M_0 d a b _) rfl (fun _ => fst_M d _ _ _) (fun _ => put_MX_M_0 d a b _ _) rfl rfl rfl (Nat.le_of_ble_eq_true rfl) ⟨(Nat.le_of_ble_eq_true rfl), (Nat.le_of_ble_eq_true rfl)⟩ rfl rfl ⟨(Nat.le_of_ble_eq_true rfl), (Nat.le_of_ble_eq_true rfl)⟩ rfl (fun r281 hr281 => ?_)
        refine V_aload_n C 2 dL_law_284 rfl rfl ?_
        refine V_callWi (As := []) (rest := [.int r281.1]) (wc := WX d b u.2) (Wd := fun w => WX d b w) C (fun r h => ct_X7_weigh _ d b u.2 r h) kv_X7_weigh kl_L_35 [77, 78, 79, 80, 81, 82] (fun w => WMX d a b (r281.2, w)) dL_law_285 (emb_MX_X_1 d a b _) rfl (fun _ => fst_X d _ _ _) (fun _ => put_MX_X_1 d a b _ _) rfl rfl rfl (Nat.le_of_ble_eq_true rfl) ⟨(Nat.le_of_ble_eq_true rfl), (Nat.le_of_ble_eq_true rfl)⟩ rfl rfl ⟨(Nat.le_of_ble_eq_true rfl), (Nat.le_of_ble_eq_true rfl)⟩ rfl (fun r285 hr285 => ?_)
        refine V_icmp_eq (tgt := 793) C dL_law_288 (by decide) ?_ ?_
        · exact v_L_law_b793 C hr hlk hσ hLX hA0 hargs (f_L_law_b18 L xs  n) ih (r281.2, r285.2) v3
        · exact V_none
      refine V_case (fun c5 => ?_) (fun c5 => ?_)
      · refine V_tsIn (tgt := 293) C c5 dL_law_32 (by decide) (by decide) rfl (by decide) ?_
        refine V_aload_n C 1 dL_law_293 rfl rfl ?_
        refine V_aload_n C 0 dL_law_294 rfl rfl ?_
        refine V_iload_n C 3 dL_law_295 rfl rfl ?_
        refine V_iconst (v := 1) C dL_law_296 (by decide) ?_
        refine V_iadd C dL_law_297 ?_
        refine V_test (fun t298 => ?_)
        refine V_sld C hLX (inb_in t298) dL_law_298 ?_
        refine V_callWi (As := [.int (xs (v3 + 1).toNatClampNeg)]) (rest := []) (wc := WM d a u.1) (Wd := fun w => WM d a w) C (fun r h => ct_X6_turn _ d a u.1 (xs (v3 + 1).toNatClampNeg) r h) kv_X6_turn kl_L_36 [0, 1, 2, 3, 4, 5, 6, 7, 8, 9, 10, 11, 12, 13, 14, 15, 16, 17, 18, 19, 20, 21, 22, 23, 24, 25, 26, 27, 28, 29, 30, 31, 32, 33, 34, 35, 36, 37, 38, 39, 40, 41, 42, 43, 44, 45, 46, 47, 48, 49, 50, 51, 52, 53, 54, 55, 56, 57, 58, 59, 60, 61, 62, 63, 64, 65, 66, 67, 68, 69, 70, 71, 72, 73, 74, 75, 76] (fun w => WMX d a b (w, u.2)) dL_law_299 (emb_MX_M_0 d a b _) rfl (fun _ => fst_M d _ _ _) (fun _ => put_MX_M_0 d a b _ _) rfl rfl rfl (Nat.le_of_ble_eq_true rfl) ⟨(Nat.le_of_ble_eq_true rfl), (Nat.le_of_ble_eq_true rfl)⟩ rfl rfl ⟨(Nat.le_of_ble_eq_true rfl), (Nat.le_of_ble_eq_true rfl)⟩ rfl (fun r299 hr299 => ?_)
        refine V_aload_n C 2 dL_law_302 rfl rfl ?_
        refine V_aload_n C 0 dL_law_303 rfl rfl ?_
        refine V_iload_n C 3 dL_law_304 rfl rfl ?_
        refine V_iconst (v := 1) C dL_law_305 (by decide) ?_
        refine V_iadd C dL_law_306 ?_
        refine V_test (fun t307 => ?_)
        refine V_sld C hLX (inb_in t307) dL_law_307 ?_
        refine V_callWi (As := [.int (xs (v3 + 1).toNatClampNeg)]) (rest := [.int r299.1]) (wc := WX d b u.2) (Wd := fun w => WX d b w) C (fun r h => ct_X7_turn _ d b u.2 (xs (v3 + 1).toNatClampNeg) r h) kv_X7_turn kl_L_39 [77, 78, 79, 80, 81, 82] (fun w => WMX d a b (r299.2, w)) dL_law_308 (emb_MX_X_1 d a b _) rfl (fun _ => fst_X d _ _ _) (fun _ => put_MX_X_1 d a b _ _) rfl rfl rfl (Nat.le_of_ble_eq_true rfl) ⟨(Nat.le_of_ble_eq_true rfl), (Nat.le_of_ble_eq_true rfl)⟩ rfl rfl ⟨(Nat.le_of_ble_eq_true rfl), (Nat.le_of_ble_eq_true rfl)⟩ rfl (fun r308 hr308 => ?_)
        refine V_icmp_eq (tgt := 793) C dL_law_311 (by decide) ?_ ?_
        · exact v_L_law_b793 C hr hlk hσ hLX hA0 hargs (f_L_law_b18 L xs  n) ih (r299.2, r308.2) v3
        · exact V_none
      refine V_case (fun c6 => ?_) (fun c6 => ?_)
      · refine V_tsIn (tgt := 316) C c6 dL_law_32 (by decide) (by decide) rfl (by decide) ?_
        refine V_aload_n C 1 dL_law_316 rfl rfl ?_
        refine V_aload_n C 0 dL_law_317 rfl rfl ?_
        refine V_iload_n C 3 dL_law_318 rfl rfl ?_
        refine V_iconst (v := 1) C dL_law_319 (by decide) ?_
        refine V_iadd C dL_law_320 ?_
        refine V_test (fun t321 => ?_)
        refine V_sld C hLX (inb_in t321) dL_law_321 ?_
        refine V_callWi (As := [.int (xs (v3 + 1).toNatClampNeg)]) (rest := []) (wc := WM d a u.1) (Wd := fun w => WM d a w) C (fun r h => ct_X6_mount _ d a u.1 (xs (v3 + 1).toNatClampNeg) r h) kv_X6_mount kl_L_40 [0, 1, 2, 3, 4, 5, 6, 7, 8, 9, 10, 11, 12, 13, 14, 15, 16, 17, 18, 19, 20, 21, 22, 23, 24, 25, 26, 27, 28, 29, 30, 31, 32, 33, 34, 35, 36, 37, 38, 39, 40, 41, 42, 43, 44, 45, 46, 47, 48, 49, 50, 51, 52, 53, 54, 55, 56, 57, 58, 59, 60, 61, 62, 63, 64, 65, 66, 67, 68, 69, 70, 71, 72, 73, 74, 75, 76] (fun w => WMX d a b (w, u.2)) dL_law_322 (emb_MX_M_0 d a b _) rfl (fun _ => fst_M d _ _ _) (fun _ => put_MX_M_0 d a b _ _) rfl rfl rfl (Nat.le_of_ble_eq_true rfl) ⟨(Nat.le_of_ble_eq_true rfl), (Nat.le_of_ble_eq_true rfl)⟩ rfl rfl ⟨(Nat.le_of_ble_eq_true rfl), (Nat.le_of_ble_eq_true rfl)⟩ rfl (fun r322 hr322 => ?_)
        refine V_aload_n C 2 dL_law_325 rfl rfl ?_
        refine V_aload_n C 0 dL_law_326 rfl rfl ?_
        refine V_iload_n C 3 dL_law_327 rfl rfl ?_
        refine V_iconst (v := 1) C dL_law_328 (by decide) ?_
        refine V_iadd C dL_law_329 ?_
        refine V_test (fun t330 => ?_)
        refine V_sld C hLX (inb_in t330) dL_law_330 ?_
        refine V_callWi (As := [.int (xs (v3 + 1).toNatClampNeg)]) (rest := [.int r322.1]) (wc := WX d b u.2) (Wd := fun w => WX d b w) C (fun r h => ct_X7_mount _ d b u.2 (xs (v3 + 1).toNatClampNeg) r h) kv_X7_mount kl_L_43 [77, 78, 79, 80, 81, 82] (fun w => WMX d a b (r322.2, w)) dL_law_331 (emb_MX_X_1 d a b _) rfl (fun _ => fst_X d _ _ _) (fun _ => put_MX_X_1 d a b _ _) rfl rfl rfl (Nat.le_of_ble_eq_true rfl) ⟨(Nat.le_of_ble_eq_true rfl), (Nat.le_of_ble_eq_true rfl)⟩ rfl rfl ⟨(Nat.le_of_ble_eq_true rfl), (Nat.le_of_ble_eq_true rfl)⟩ rfl (fun r331 hr331 => ?_)
        refine V_icmp_eq (tgt := 793) C dL_law_334 (by decide) ?_ ?_
        · exact v_L_law_b793 C hr hlk hσ hLX hA0 hargs (f_L_law_b18 L xs  n) ih (r322.2, r331.2) v3
        · exact V_none
      refine V_case (fun c7 => ?_) (fun c7 => ?_)
      · refine V_tsIn (tgt := 339) C c7 dL_law_32 (by decide) (by decide) rfl (by decide) ?_
        refine V_aload_n C 1 dL_law_339 rfl rfl ?_
        refine V_aload_n C 0 dL_law_340 rfl rfl ?_
        refine V_iload_n C 3 dL_law_341 rfl rfl ?_
        refine V_iconst (v := 1) C dL_law_342 (by decide) ?_
        refine V_iadd C dL_law_343 ?_
        refine V_test (fun t344 => ?_)
        refine V_sld C hLX (inb_in t344) dL_law_344 ?_
        refine V_callWi (As := [.int (xs (v3 + 1).toNatClampNeg)]) (rest := []) (wc := WM d a u.1) (Wd := fun w => WM d a w) C (fun r h => ct_X6_take _ d a u.1 (xs (v3 + 1).toNatClampNeg) r h) kv_X6_take kl_L_44 [0, 1, 2, 3, 4, 5, 6, 7, 8, 9, 10, 11, 12, 13, 14, 15, 16, 17, 18, 19, 20, 21, 22, 23, 24, 25, 26, 27, 28, 29, 30, 31, 32, 33, 34, 35, 36, 37, 38, 39, 40, 41, 42, 43, 44, 45, 46, 47, 48, 49, 50, 51, 52, 53, 54, 55, 56, 57, 58, 59, 60, 61, 62, 63, 64, 65, 66, 67, 68, 69, 70, 71, 72, 73, 74, 75, 76] (fun w => WMX d a b (w, u.2)) dL_law_345 (emb_MX_M_0 d a b _) rfl (fun _ => fst_M d _ _ _) (fun _ => put_MX_M_0 d a b _ _) rfl rfl rfl (Nat.le_of_ble_eq_true rfl) ⟨(Nat.le_of_ble_eq_true rfl), (Nat.le_of_ble_eq_true rfl)⟩ rfl rfl ⟨(Nat.le_of_ble_eq_true rfl), (Nat.le_of_ble_eq_true rfl)⟩ rfl (fun r345 hr345 => ?_)
        refine V_aload_n C 2 dL_law_348 rfl rfl ?_
        refine V_aload_n C 0 dL_law_349 rfl rfl ?_
        refine V_iload_n C 3 dL_law_350 rfl rfl ?_
        refine V_iconst (v := 1) C dL_law_351 (by decide) ?_
        refine V_iadd C dL_law_352 ?_
        refine V_test (fun t353 => ?_)
        refine V_sld C hLX (inb_in t353) dL_law_353 ?_
        refine V_callWi (As := [.int (xs (v3 + 1).toNatClampNeg)]) (rest := [.int r345.1]) (wc := WX d b u.2) (Wd := fun w => WX d b w) C (fun r h => ct_X7_take _ d b u.2 (xs (v3 + 1).toNatClampNeg) r h) kv_X7_take kl_L_47 [77, 78, 79, 80, 81, 82] (fun w => WMX d a b (r345.2, w)) dL_law_354 (emb_MX_X_1 d a b _) rfl (fun _ => fst_X d _ _ _) (fun _ => put_MX_X_1 d a b _ _) rfl rfl rfl (Nat.le_of_ble_eq_true rfl) ⟨(Nat.le_of_ble_eq_true rfl), (Nat.le_of_ble_eq_true rfl)⟩ rfl rfl ⟨(Nat.le_of_ble_eq_true rfl), (Nat.le_of_ble_eq_true rfl)⟩ rfl (fun r354 hr354 => ?_)
        refine V_icmp_eq (tgt := 793) C dL_law_357 (by decide) ?_ ?_
        · exact v_L_law_b793 C hr hlk hσ hLX hA0 hargs (f_L_law_b18 L xs  n) ih (r345.2, r354.2) v3
        · exact V_none
      refine V_case (fun c8 => ?_) (fun c8 => ?_)
      · refine V_tsIn (tgt := 362) C c8 dL_law_32 (by decide) (by decide) rfl (by decide) ?_
        refine V_aload_n C 1 dL_law_362 rfl rfl ?_
        refine V_aload_n C 0 dL_law_363 rfl rfl ?_
        refine V_iload_n C 3 dL_law_364 rfl rfl ?_
        refine V_iconst (v := 1) C dL_law_365 (by decide) ?_
        refine V_iadd C dL_law_366 ?_
        refine V_test (fun t367 => ?_)
        refine V_sld C hLX (inb_in t367) dL_law_367 ?_
        refine V_aload_n C 0 dL_law_368 rfl rfl ?_
        refine V_iload_n C 3 dL_law_369 rfl rfl ?_
        refine V_iconst (v := 2) C dL_law_370 (by decide) ?_
        refine V_iadd C dL_law_371 ?_
        refine V_test (fun t372 => ?_)
        refine V_sld C hLX (inb_in t372) dL_law_372 ?_
        refine V_callWi (As := [.int (xs (v3 + 1).toNatClampNeg), .int (xs (v3 + 2).toNatClampNeg)]) (rest := []) (wc := WM d a u.1) (Wd := fun w => WM d a w) C (fun r h => ct_X6_hold _ d a u.1 (xs (v3 + 1).toNatClampNeg) (xs (v3 + 2).toNatClampNeg) r h) kv_X6_hold kl_L_48 [0, 1, 2, 3, 4, 5, 6, 7, 8, 9, 10, 11, 12, 13, 14, 15, 16, 17, 18, 19, 20, 21, 22, 23, 24, 25, 26, 27, 28, 29, 30, 31, 32, 33, 34, 35, 36, 37, 38, 39, 40, 41, 42, 43, 44, 45, 46, 47, 48, 49, 50, 51, 52, 53, 54, 55, 56, 57, 58, 59, 60, 61, 62, 63, 64, 65, 66, 67, 68, 69, 70, 71, 72, 73, 74, 75, 76] (fun w => WMX d a b (w, u.2)) dL_law_373 (emb_MX_M_0 d a b _) rfl (fun _ => fst_M d _ _ _) (fun _ => put_MX_M_0 d a b _ _) rfl rfl rfl (Nat.le_of_ble_eq_true rfl) ⟨(Nat.le_of_ble_eq_true rfl), (Nat.le_of_ble_eq_true rfl)⟩ rfl rfl ⟨(Nat.le_of_ble_eq_true rfl), (Nat.le_of_ble_eq_true rfl)⟩ rfl (fun r373 hr373 => ?_)
        refine V_aload_n C 2 dL_law_376 rfl rfl ?_
        refine V_aload_n C 0 dL_law_377 rfl rfl ?_
        refine V_iload_n C 3 dL_law_378 rfl rfl ?_
        refine V_iconst (v := 1) C dL_law_379 (by decide) ?_
        refine V_iadd C dL_law_380 ?_
        refine V_test (fun t381 => ?_)
        refine V_sld C hLX (inb_in t381) dL_law_381 ?_
        refine V_aload_n C 0 dL_law_382 rfl rfl ?_
        refine V_iload_n C 3 dL_law_383 rfl rfl ?_
        refine V_iconst (v := 2) C dL_law_384 (by decide) ?_
        refine V_iadd C dL_law_385 ?_
        refine V_test (fun t386 => ?_)
        refine V_sld C hLX (inb_in t386) dL_law_386 ?_
        refine V_callWi (As := [.int (xs (v3 + 1).toNatClampNeg), .int (xs (v3 + 2).toNatClampNeg)]) (rest := [.int r373.1]) (wc := WX d b u.2) (Wd := fun w => WX d b w) C (fun r h => ct_X7_hold _ d b u.2 (xs (v3 + 1).toNatClampNeg) (xs (v3 + 2).toNatClampNeg) r h) kv_X7_hold kl_L_52 [77, 78, 79, 80, 81, 82] (fun w => WMX d a b (r373.2, w)) dL_law_387 (emb_MX_X_1 d a b _) rfl (fun _ => fst_X d _ _ _) (fun _ => put_MX_X_1 d a b _ _) rfl rfl rfl (Nat.le_of_ble_eq_true rfl) ⟨(Nat.le_of_ble_eq_true rfl), (Nat.le_of_ble_eq_true rfl)⟩ rfl rfl ⟨(Nat.le_of_ble_eq_true rfl), (Nat.le_of_ble_eq_true rfl)⟩ rfl (fun r387 hr387 => ?_)
        refine V_icmp_eq (tgt := 793) C dL_law_390 (by decide) ?_ ?_
        · exact v_L_law_b793 C hr hlk hσ hLX hA0 hargs (f_L_law_b18 L xs  n) ih (r373.2, r387.2) v3
        · exact V_none
      refine V_case (fun c9 => ?_) (fun c9 => ?_)
      · refine V_tsIn (tgt := 395) C c9 dL_law_32 (by decide) (by decide) rfl (by decide) ?_
        refine V_aload_n C 1 dL_law_395 rfl rfl ?_
        refine V_aload_n C 0 dL_law_396 rfl rfl ?_
        refine V_iload_n C 3 dL_law_397 rfl rfl ?_
        refine V_iconst (v := 1) C dL_law_398 (by decide) ?_
        refine V_iadd C dL_law_399 ?_
        refine V_test (fun t400 => ?_)
        refine V_sld C hLX (inb_in t400) dL_law_400 ?_
        refine V_aload_n C 0 dL_law_401 rfl rfl ?_
        refine V_iload_n C 3 dL_law_402 rfl rfl ?_
        refine V_iconst (v := 2) C dL_law_403 (by decide) ?_
        refine V_iadd C dL_law_404 ?_
        refine V_test (fun t405 => ?_)
        refine V_sld C hLX (inb_in t405) dL_law_405 ?_
        refine V_callWi (As := [.int (xs (v3 + 1).toNatClampNeg), .int (xs (v3 + 2).toNatClampNeg)]) (rest := []) (wc := WM d a u.1) (Wd := fun w => WM d a w) C (fun r h => ct_X6_request _ d a u.1 (xs (v3 + 1).toNatClampNeg) (xs (v3 + 2).toNatClampNeg) r h) kv_X6_request kl_L_53 [0, 1, 2, 3, 4, 5, 6, 7, 8, 9, 10, 11, 12, 13, 14, 15, 16, 17, 18, 19, 20, 21, 22, 23, 24, 25, 26, 27, 28, 29, 30, 31, 32, 33, 34, 35, 36, 37, 38, 39, 40, 41, 42, 43, 44, 45, 46, 47, 48, 49, 50, 51, 52, 53, 54, 55, 56, 57, 58, 59, 60, 61, 62, 63, 64, 65, 66, 67, 68, 69, 70, 71, 72, 73, 74, 75, 76] (fun w => WMX d a b (w, u.2)) dL_law_406 (emb_MX_M_0 d a b _) rfl (fun _ => fst_M d _ _ _) (fun _ => put_MX_M_0 d a b _ _) rfl rfl rfl (Nat.le_of_ble_eq_true rfl) ⟨(Nat.le_of_ble_eq_true rfl), (Nat.le_of_ble_eq_true rfl)⟩ rfl rfl ⟨(Nat.le_of_ble_eq_true rfl), (Nat.le_of_ble_eq_true rfl)⟩ rfl (fun r406 hr406 => ?_)
        refine V_aload_n C 2 dL_law_409 rfl rfl ?_
        refine V_aload_n C 0 dL_law_410 rfl rfl ?_
        refine V_iload_n C 3 dL_law_411 rfl rfl ?_
        refine V_iconst (v := 1) C dL_law_412 (by decide) ?_
        refine V_iadd C dL_law_413 ?_
        refine V_test (fun t414 => ?_)
        refine V_sld C hLX (inb_in t414) dL_law_414 ?_
        refine V_aload_n C 0 dL_law_415 rfl rfl ?_
        refine V_iload_n C 3 dL_law_416 rfl rfl ?_
        refine V_iconst (v := 2) C dL_law_417 (by decide) ?_
        refine V_iadd C dL_law_418 ?_
        refine V_test (fun t419 => ?_)
        refine V_sld C hLX (inb_in t419) dL_law_419 ?_
        refine V_callWi (As := [.int (xs (v3 + 1).toNatClampNeg), .int (xs (v3 + 2).toNatClampNeg)]) (rest := [.int r406.1]) (wc := WX d b u.2) (Wd := fun w => WX d b w) C (fun r h => ct_X7_request _ d b u.2 (xs (v3 + 1).toNatClampNeg) (xs (v3 + 2).toNatClampNeg) r h) kv_X7_request kl_L_56 [77, 78, 79, 80, 81, 82] (fun w => WMX d a b (r406.2, w)) dL_law_420 (emb_MX_X_1 d a b _) rfl (fun _ => fst_X d _ _ _) (fun _ => put_MX_X_1 d a b _ _) rfl rfl rfl (Nat.le_of_ble_eq_true rfl) ⟨(Nat.le_of_ble_eq_true rfl), (Nat.le_of_ble_eq_true rfl)⟩ rfl rfl ⟨(Nat.le_of_ble_eq_true rfl), (Nat.le_of_ble_eq_true rfl)⟩ rfl (fun r420 hr420 => ?_)
        refine V_icmp_eq (tgt := 793) C dL_law_423 (by decide) ?_ ?_
        · exact v_L_law_b793 C hr hlk hσ hLX hA0 hargs (f_L_law_b18 L xs  n) ih (r406.2, r420.2) v3
        · exact V_none
      refine V_case (fun c10 => ?_) (fun c10 => ?_)
      · refine V_tsIn (tgt := 428) C c10 dL_law_32 (by decide) (by decide) rfl (by decide) ?_
        refine V_aload_n C 1 dL_law_428 rfl rfl ?_
        refine V_aload_n C 0 dL_law_429 rfl rfl ?_
        refine V_iload_n C 3 dL_law_430 rfl rfl ?_
        refine V_iconst (v := 1) C dL_law_431 (by decide) ?_
        refine V_iadd C dL_law_432 ?_
        refine V_test (fun t433 => ?_)
        refine V_sld C hLX (inb_in t433) dL_law_433 ?_
        refine V_callWi (As := [.int (xs (v3 + 1).toNatClampNeg)]) (rest := []) (wc := WM d a u.1) (Wd := fun w => WM d a w) C (fun r h => ct_X6_serve _ d a u.1 (xs (v3 + 1).toNatClampNeg) r h) kv_X6_serve kl_L_57 [0, 1, 2, 3, 4, 5, 6, 7, 8, 9, 10, 11, 12, 13, 14, 15, 16, 17, 18, 19, 20, 21, 22, 23, 24, 25, 26, 27, 28, 29, 30, 31, 32, 33, 34, 35, 36, 37, 38, 39, 40, 41, 42, 43, 44, 45, 46, 47, 48, 49, 50, 51, 52, 53, 54, 55, 56, 57, 58, 59, 60, 61, 62, 63, 64, 65, 66, 67, 68, 69, 70, 71, 72, 73, 74, 75, 76] (fun w => WMX d a b (w, u.2)) dL_law_434 (emb_MX_M_0 d a b _) rfl (fun _ => fst_M d _ _ _) (fun _ => put_MX_M_0 d a b _ _) rfl rfl rfl (Nat.le_of_ble_eq_true rfl) ⟨(Nat.le_of_ble_eq_true rfl), (Nat.le_of_ble_eq_true rfl)⟩ rfl rfl ⟨(Nat.le_of_ble_eq_true rfl), (Nat.le_of_ble_eq_true rfl)⟩ rfl (fun r434 hr434 => ?_)
        refine V_aload_n C 2 dL_law_437 rfl rfl ?_
        refine V_aload_n C 0 dL_law_438 rfl rfl ?_
        refine V_iload_n C 3 dL_law_439 rfl rfl ?_
        refine V_iconst (v := 1) C dL_law_440 (by decide) ?_
        refine V_iadd C dL_law_441 ?_
        refine V_test (fun t442 => ?_)
        refine V_sld C hLX (inb_in t442) dL_law_442 ?_
        refine V_callWi (As := [.int (xs (v3 + 1).toNatClampNeg)]) (rest := [.int r434.1]) (wc := WX d b u.2) (Wd := fun w => WX d b w) C (fun r h => ct_X7_serve _ d b u.2 (xs (v3 + 1).toNatClampNeg) r h) kv_X7_serve kl_L_60 [77, 78, 79, 80, 81, 82] (fun w => WMX d a b (r434.2, w)) dL_law_443 (emb_MX_X_1 d a b _) rfl (fun _ => fst_X d _ _ _) (fun _ => put_MX_X_1 d a b _ _) rfl rfl rfl (Nat.le_of_ble_eq_true rfl) ⟨(Nat.le_of_ble_eq_true rfl), (Nat.le_of_ble_eq_true rfl)⟩ rfl rfl ⟨(Nat.le_of_ble_eq_true rfl), (Nat.le_of_ble_eq_true rfl)⟩ rfl (fun r443 hr443 => ?_)
        refine V_icmp_eq (tgt := 793) C dL_law_446 (by decide) ?_ ?_
        · exact v_L_law_b793 C hr hlk hσ hLX hA0 hargs (f_L_law_b18 L xs  n) ih (r434.2, r443.2) v3
        · exact V_none
      refine V_case (fun c11 => ?_) (fun c11 => ?_)
      · refine V_tsIn (tgt := 451) C c11 dL_law_32 (by decide) (by decide) rfl (by decide) ?_
        refine V_aload_n C 1 dL_law_451 rfl rfl ?_
        refine V_aload_n C 0 dL_law_452 rfl rfl ?_
        refine V_iload_n C 3 dL_law_453 rfl rfl ?_
        refine V_iconst (v := 1) C dL_law_454 (by decide) ?_
        refine V_iadd C dL_law_455 ?_
        refine V_test (fun t456 => ?_)
        refine V_sld C hLX (inb_in t456) dL_law_456 ?_
        refine V_aload_n C 0 dL_law_457 rfl rfl ?_
        refine V_iload_n C 3 dL_law_458 rfl rfl ?_
        refine V_iconst (v := 2) C dL_law_459 (by decide) ?_
        refine V_iadd C dL_law_460 ?_
        refine V_test (fun t461 => ?_)
        refine V_sld C hLX (inb_in t461) dL_law_461 ?_
        refine V_callRi (As := [.int (xs (v3 + 1).toNatClampNeg), .int (xs (v3 + 2).toNatClampNeg)]) (rest := []) (wc := WM d a u.1) C (fun r h => ct_X6_cartridgeOf _ d a u.1 (xs (v3 + 1).toNatClampNeg) (xs (v3 + 2).toNatClampNeg) r h) kv_X6_cartridgeOf kl_L_61 [0, 1, 2, 3, 4, 5, 6, 7, 8, 9, 10, 11, 12, 13, 14, 15, 16, 17, 18, 19, 20, 21, 22, 23, 24, 25, 26, 27, 28, 29, 30, 31, 32, 33, 34, 35, 36, 37, 38, 39, 40, 41, 42, 43, 44, 45, 46, 47, 48, 49, 50, 51, 52, 53, 54, 55, 56, 57, 58, 59, 60, 61, 62, 63, 64, 65, 66, 67, 68, 69, 70, 71, 72, 73, 74, 75, 76] dL_law_462 (emb_MX_M_0 d a b _) rfl rfl rfl (Nat.le_of_ble_eq_true rfl) ⟨(Nat.le_of_ble_eq_true rfl), (Nat.le_of_ble_eq_true rfl)⟩ rfl rfl ⟨(Nat.le_of_ble_eq_true rfl), (Nat.le_of_ble_eq_true rfl)⟩ rfl (fun r462 hr462 => ?_)
        refine V_aload_n C 2 dL_law_465 rfl rfl ?_
        refine V_aload_n C 0 dL_law_466 rfl rfl ?_
        refine V_iload_n C 3 dL_law_467 rfl rfl ?_
        refine V_iconst (v := 1) C dL_law_468 (by decide) ?_
        refine V_iadd C dL_law_469 ?_
        refine V_test (fun t470 => ?_)
        refine V_sld C hLX (inb_in t470) dL_law_470 ?_
        refine V_aload_n C 0 dL_law_471 rfl rfl ?_
        refine V_iload_n C 3 dL_law_472 rfl rfl ?_
        refine V_iconst (v := 2) C dL_law_473 (by decide) ?_
        refine V_iadd C dL_law_474 ?_
        refine V_test (fun t475 => ?_)
        refine V_sld C hLX (inb_in t475) dL_law_475 ?_
        refine V_callRi (As := [.int (xs (v3 + 1).toNatClampNeg), .int (xs (v3 + 2).toNatClampNeg)]) (rest := [.int r462]) (wc := WX d b u.2) C (fun r h => ct_X7_cartridgeOf _ d b u.2 (xs (v3 + 1).toNatClampNeg) (xs (v3 + 2).toNatClampNeg) r h) kv_X7_cartridgeOf kl_L_64 [77, 78, 79, 80, 81, 82] dL_law_476 (emb_MX_X_1 d a b _) rfl rfl rfl (Nat.le_of_ble_eq_true rfl) ⟨(Nat.le_of_ble_eq_true rfl), (Nat.le_of_ble_eq_true rfl)⟩ rfl rfl ⟨(Nat.le_of_ble_eq_true rfl), (Nat.le_of_ble_eq_true rfl)⟩ rfl (fun r476 hr476 => ?_)
        refine V_icmp_eq (tgt := 793) C dL_law_479 (by decide) ?_ ?_
        · exact v_L_law_b793 C hr hlk hσ hLX hA0 hargs (f_L_law_b18 L xs  n) ih u v3
        · exact V_none
      refine V_case (fun c12 => ?_) (fun c12 => ?_)
      · refine V_tsIn (tgt := 484) C c12 dL_law_32 (by decide) (by decide) rfl (by decide) ?_
        refine V_aload_n C 1 dL_law_484 rfl rfl ?_
        refine V_aload_n C 0 dL_law_485 rfl rfl ?_
        refine V_iload_n C 3 dL_law_486 rfl rfl ?_
        refine V_iconst (v := 1) C dL_law_487 (by decide) ?_
        refine V_iadd C dL_law_488 ?_
        refine V_test (fun t489 => ?_)
        refine V_sld C hLX (inb_in t489) dL_law_489 ?_
        refine V_aload_n C 0 dL_law_490 rfl rfl ?_
        refine V_iload_n C 3 dL_law_491 rfl rfl ?_
        refine V_iconst (v := 2) C dL_law_492 (by decide) ?_
        refine V_iadd C dL_law_493 ?_
        refine V_test (fun t494 => ?_)
        refine V_sld C hLX (inb_in t494) dL_law_494 ?_
        refine V_callRi (As := [.int (xs (v3 + 1).toNatClampNeg), .int (xs (v3 + 2).toNatClampNeg)]) (rest := []) (wc := WM d a u.1) C (fun r h => ct_X6_shelfOf _ d a u.1 (xs (v3 + 1).toNatClampNeg) (xs (v3 + 2).toNatClampNeg) r h) kv_X6_shelfOf kl_L_65 [0, 1, 2, 3, 4, 5, 6, 7, 8, 9, 10, 11, 12, 13, 14, 15, 16, 17, 18, 19, 20, 21, 22, 23, 24, 25, 26, 27, 28, 29, 30, 31, 32, 33, 34, 35, 36, 37, 38, 39, 40, 41, 42, 43, 44, 45, 46, 47, 48, 49, 50, 51, 52, 53, 54, 55, 56, 57, 58, 59, 60, 61, 62, 63, 64, 65, 66, 67, 68, 69, 70, 71, 72, 73, 74, 75, 76] dL_law_495 (emb_MX_M_0 d a b _) rfl rfl rfl (Nat.le_of_ble_eq_true rfl) ⟨(Nat.le_of_ble_eq_true rfl), (Nat.le_of_ble_eq_true rfl)⟩ rfl rfl ⟨(Nat.le_of_ble_eq_true rfl), (Nat.le_of_ble_eq_true rfl)⟩ rfl (fun r495 hr495 => ?_)
        refine V_aload_n C 2 dL_law_498 rfl rfl ?_
        refine V_aload_n C 0 dL_law_499 rfl rfl ?_
        refine V_iload_n C 3 dL_law_500 rfl rfl ?_
        refine V_iconst (v := 1) C dL_law_501 (by decide) ?_
        refine V_iadd C dL_law_502 ?_
        refine V_test (fun t503 => ?_)
        refine V_sld C hLX (inb_in t503) dL_law_503 ?_
        refine V_aload_n C 0 dL_law_504 rfl rfl ?_
        refine V_iload_n C 3 dL_law_505 rfl rfl ?_
        refine V_iconst (v := 2) C dL_law_506 (by decide) ?_
        refine V_iadd C dL_law_507 ?_
        refine V_test (fun t508 => ?_)
        refine V_sld C hLX (inb_in t508) dL_law_508 ?_
        refine V_callRi (As := [.int (xs (v3 + 1).toNatClampNeg), .int (xs (v3 + 2).toNatClampNeg)]) (rest := [.int r495]) (wc := WX d b u.2) C (fun r h => ct_X7_shelfOf _ d b u.2 (xs (v3 + 1).toNatClampNeg) (xs (v3 + 2).toNatClampNeg) r h) kv_X7_shelfOf kl_L_68 [77, 78, 79, 80, 81, 82] dL_law_509 (emb_MX_X_1 d a b _) rfl rfl rfl (Nat.le_of_ble_eq_true rfl) ⟨(Nat.le_of_ble_eq_true rfl), (Nat.le_of_ble_eq_true rfl)⟩ rfl rfl ⟨(Nat.le_of_ble_eq_true rfl), (Nat.le_of_ble_eq_true rfl)⟩ rfl (fun r509 hr509 => ?_)
        refine V_icmp_eq (tgt := 793) C dL_law_512 (by decide) ?_ ?_
        · exact v_L_law_b793 C hr hlk hσ hLX hA0 hargs (f_L_law_b18 L xs  n) ih u v3
        · exact V_none
      refine V_case (fun c13 => ?_) (fun c13 => ?_)
      · refine V_tsIn (tgt := 517) C c13 dL_law_32 (by decide) (by decide) rfl (by decide) ?_
        refine V_aload_n C 1 dL_law_517 rfl rfl ?_
        refine V_aload_n C 0 dL_law_518 rfl rfl ?_
        refine V_iload_n C 3 dL_law_519 rfl rfl ?_
        refine V_iconst (v := 1) C dL_law_520 (by decide) ?_
        refine V_iadd C dL_law_521 ?_
        refine V_test (fun t522 => ?_)
        refine V_sld C hLX (inb_in t522) dL_law_522 ?_
        refine V_callRi (As := [.int (xs (v3 + 1).toNatClampNeg)]) (rest := []) (wc := WM d a u.1) C (fun r h => ct_X6_holder _ d a u.1 (xs (v3 + 1).toNatClampNeg) r h) kv_X6_holder kl_L_69 [0, 1, 2, 3, 4, 5, 6, 7, 8, 9, 10, 11, 12, 13, 14, 15, 16, 17, 18, 19, 20, 21, 22, 23, 24, 25, 26, 27, 28, 29, 30, 31, 32, 33, 34, 35, 36, 37, 38, 39, 40, 41, 42, 43, 44, 45, 46, 47, 48, 49, 50, 51, 52, 53, 54, 55, 56, 57, 58, 59, 60, 61, 62, 63, 64, 65, 66, 67, 68, 69, 70, 71, 72, 73, 74, 75, 76] dL_law_523 (emb_MX_M_0 d a b _) rfl rfl rfl (Nat.le_of_ble_eq_true rfl) ⟨(Nat.le_of_ble_eq_true rfl), (Nat.le_of_ble_eq_true rfl)⟩ rfl rfl ⟨(Nat.le_of_ble_eq_true rfl), (Nat.le_of_ble_eq_true rfl)⟩ rfl (fun r523 hr523 => ?_)
        refine V_aload_n C 2 dL_law_526 rfl rfl ?_
        refine V_aload_n C 0 dL_law_527 rfl rfl ?_
        refine V_iload_n C 3 dL_law_528 rfl rfl ?_
        refine V_iconst (v := 1) C dL_law_529 (by decide) ?_
        refine V_iadd C dL_law_530 ?_
        refine V_test (fun t531 => ?_)
        refine V_sld C hLX (inb_in t531) dL_law_531 ?_
        refine V_callRi (As := [.int (xs (v3 + 1).toNatClampNeg)]) (rest := [.int r523]) (wc := WX d b u.2) C (fun r h => ct_X7_holder _ d b u.2 (xs (v3 + 1).toNatClampNeg) r h) kv_X7_holder kl_L_72 [77, 78, 79, 80, 81, 82] dL_law_532 (emb_MX_X_1 d a b _) rfl rfl rfl (Nat.le_of_ble_eq_true rfl) ⟨(Nat.le_of_ble_eq_true rfl), (Nat.le_of_ble_eq_true rfl)⟩ rfl rfl ⟨(Nat.le_of_ble_eq_true rfl), (Nat.le_of_ble_eq_true rfl)⟩ rfl (fun r532 hr532 => ?_)
        refine V_icmp_eq (tgt := 793) C dL_law_535 (by decide) ?_ ?_
        · exact v_L_law_b793 C hr hlk hσ hLX hA0 hargs (f_L_law_b18 L xs  n) ih u v3
        · exact V_none
      refine V_case (fun c14 => ?_) (fun c14 => ?_)
      · refine V_tsIn (tgt := 540) C c14 dL_law_32 (by decide) (by decide) rfl (by decide) ?_
        refine V_aload_n C 1 dL_law_540 rfl rfl ?_
        refine V_aload_n C 0 dL_law_541 rfl rfl ?_
        refine V_iload_n C 3 dL_law_542 rfl rfl ?_
        refine V_iconst (v := 1) C dL_law_543 (by decide) ?_
        refine V_iadd C dL_law_544 ?_
        refine V_test (fun t545 => ?_)
        refine V_sld C hLX (inb_in t545) dL_law_545 ?_
        refine V_aload_n C 0 dL_law_546 rfl rfl ?_
        refine V_iload_n C 3 dL_law_547 rfl rfl ?_
        refine V_iconst (v := 2) C dL_law_548 (by decide) ?_
        refine V_iadd C dL_law_549 ?_
        refine V_test (fun t550 => ?_)
        refine V_sld C hLX (inb_in t550) dL_law_550 ?_
        refine V_callRi (As := [.int (xs (v3 + 1).toNatClampNeg), .int (xs (v3 + 2).toNatClampNeg)]) (rest := []) (wc := WM d a u.1) C (fun r h => ct_X6_requestOf _ d a u.1 (xs (v3 + 1).toNatClampNeg) (xs (v3 + 2).toNatClampNeg) r h) kv_X6_requestOf kl_L_73 [0, 1, 2, 3, 4, 5, 6, 7, 8, 9, 10, 11, 12, 13, 14, 15, 16, 17, 18, 19, 20, 21, 22, 23, 24, 25, 26, 27, 28, 29, 30, 31, 32, 33, 34, 35, 36, 37, 38, 39, 40, 41, 42, 43, 44, 45, 46, 47, 48, 49, 50, 51, 52, 53, 54, 55, 56, 57, 58, 59, 60, 61, 62, 63, 64, 65, 66, 67, 68, 69, 70, 71, 72, 73, 74, 75, 76] dL_law_551 (emb_MX_M_0 d a b _) rfl rfl rfl (Nat.le_of_ble_eq_true rfl) ⟨(Nat.le_of_ble_eq_true rfl), (Nat.le_of_ble_eq_true rfl)⟩ rfl rfl ⟨(Nat.le_of_ble_eq_true rfl), (Nat.le_of_ble_eq_true rfl)⟩ rfl (fun r551 hr551 => ?_)
        refine V_aload_n C 2 dL_law_554 rfl rfl ?_
        refine V_aload_n C 0 dL_law_555 rfl rfl ?_
        refine V_iload_n C 3 dL_law_556 rfl rfl ?_
        refine V_iconst (v := 1) C dL_law_557 (by decide) ?_
        refine V_iadd C dL_law_558 ?_
        refine V_test (fun t559 => ?_)
        refine V_sld C hLX (inb_in t559) dL_law_559 ?_
        refine V_aload_n C 0 dL_law_560 rfl rfl ?_
        refine V_iload_n C 3 dL_law_561 rfl rfl ?_
        refine V_iconst (v := 2) C dL_law_562 (by decide) ?_
        refine V_iadd C dL_law_563 ?_
        refine V_test (fun t564 => ?_)
        refine V_sld C hLX (inb_in t564) dL_law_564 ?_
        refine V_callRi (As := [.int (xs (v3 + 1).toNatClampNeg), .int (xs (v3 + 2).toNatClampNeg)]) (rest := [.int r551]) (wc := WX d b u.2) C (fun r h => ct_X7_requestOf _ d b u.2 (xs (v3 + 1).toNatClampNeg) (xs (v3 + 2).toNatClampNeg) r h) kv_X7_requestOf kl_L_76 [77, 78, 79, 80, 81, 82] dL_law_565 (emb_MX_X_1 d a b _) rfl rfl rfl (Nat.le_of_ble_eq_true rfl) ⟨(Nat.le_of_ble_eq_true rfl), (Nat.le_of_ble_eq_true rfl)⟩ rfl rfl ⟨(Nat.le_of_ble_eq_true rfl), (Nat.le_of_ble_eq_true rfl)⟩ rfl (fun r565 hr565 => ?_)
        refine V_icmp_eq (tgt := 793) C dL_law_568 (by decide) ?_ ?_
        · exact v_L_law_b793 C hr hlk hσ hLX hA0 hargs (f_L_law_b18 L xs  n) ih u v3
        · exact V_none
      refine V_case (fun c15 => ?_) (fun c15 => ?_)
      · refine V_tsIn (tgt := 573) C c15 dL_law_32 (by decide) (by decide) rfl (by decide) ?_
        refine V_aload_n C 1 dL_law_573 rfl rfl ?_
        refine V_aload_n C 0 dL_law_574 rfl rfl ?_
        refine V_iload_n C 3 dL_law_575 rfl rfl ?_
        refine V_iconst (v := 1) C dL_law_576 (by decide) ?_
        refine V_iadd C dL_law_577 ?_
        refine V_test (fun t578 => ?_)
        refine V_sld C hLX (inb_in t578) dL_law_578 ?_
        refine V_callRi (As := [.int (xs (v3 + 1).toNatClampNeg)]) (rest := []) (wc := WM d a u.1) C (fun r h => ct_X6_nextBy _ d a u.1 (xs (v3 + 1).toNatClampNeg) r h) kv_X6_nextBy kl_L_77 [0, 1, 2, 3, 4, 5, 6, 7, 8, 9, 10, 11, 12, 13, 14, 15, 16, 17, 18, 19, 20, 21, 22, 23, 24, 25, 26, 27, 28, 29, 30, 31, 32, 33, 34, 35, 36, 37, 38, 39, 40, 41, 42, 43, 44, 45, 46, 47, 48, 49, 50, 51, 52, 53, 54, 55, 56, 57, 58, 59, 60, 61, 62, 63, 64, 65, 66, 67, 68, 69, 70, 71, 72, 73, 74, 75, 76] dL_law_579 (emb_MX_M_0 d a b _) rfl rfl rfl (Nat.le_of_ble_eq_true rfl) ⟨(Nat.le_of_ble_eq_true rfl), (Nat.le_of_ble_eq_true rfl)⟩ rfl rfl ⟨(Nat.le_of_ble_eq_true rfl), (Nat.le_of_ble_eq_true rfl)⟩ rfl (fun r579 hr579 => ?_)
        refine V_aload_n C 2 dL_law_582 rfl rfl ?_
        refine V_aload_n C 0 dL_law_583 rfl rfl ?_
        refine V_iload_n C 3 dL_law_584 rfl rfl ?_
        refine V_iconst (v := 1) C dL_law_585 (by decide) ?_
        refine V_iadd C dL_law_586 ?_
        refine V_test (fun t587 => ?_)
        refine V_sld C hLX (inb_in t587) dL_law_587 ?_
        refine V_callRi (As := [.int (xs (v3 + 1).toNatClampNeg)]) (rest := [.int r579]) (wc := WX d b u.2) C (fun r h => ct_X7_nextBy _ d b u.2 (xs (v3 + 1).toNatClampNeg) r h) kv_X7_nextBy kl_L_80 [77, 78, 79, 80, 81, 82] dL_law_588 (emb_MX_X_1 d a b _) rfl rfl rfl (Nat.le_of_ble_eq_true rfl) ⟨(Nat.le_of_ble_eq_true rfl), (Nat.le_of_ble_eq_true rfl)⟩ rfl rfl ⟨(Nat.le_of_ble_eq_true rfl), (Nat.le_of_ble_eq_true rfl)⟩ rfl (fun r588 hr588 => ?_)
        refine V_icmp_eq (tgt := 793) C dL_law_591 (by decide) ?_ ?_
        · exact v_L_law_b793 C hr hlk hσ hLX hA0 hargs (f_L_law_b18 L xs  n) ih u v3
        · exact V_none
      refine V_case (fun c16 => ?_) (fun c16 => ?_)
      · refine V_tsIn (tgt := 596) C c16 dL_law_32 (by decide) (by decide) rfl (by decide) ?_
        refine V_aload_n C 1 dL_law_596 rfl rfl ?_
        refine V_aload_n C 0 dL_law_597 rfl rfl ?_
        refine V_iload_n C 3 dL_law_598 rfl rfl ?_
        refine V_iconst (v := 1) C dL_law_599 (by decide) ?_
        refine V_iadd C dL_law_600 ?_
        refine V_test (fun t601 => ?_)
        refine V_sld C hLX (inb_in t601) dL_law_601 ?_
        refine V_aload_n C 0 dL_law_602 rfl rfl ?_
        refine V_iload_n C 3 dL_law_603 rfl rfl ?_
        refine V_iconst (v := 2) C dL_law_604 (by decide) ?_
        refine V_iadd C dL_law_605 ?_
        refine V_test (fun t606 => ?_)
        refine V_sld C hLX (inb_in t606) dL_law_606 ?_
        refine V_callWi (As := [.int (xs (v3 + 1).toNatClampNeg), .int (xs (v3 + 2).toNatClampNeg)]) (rest := []) (wc := WM d a u.1) (Wd := fun w => WM d a w) C (fun r h => ct_X6_would _ d a u.1 (xs (v3 + 1).toNatClampNeg) (xs (v3 + 2).toNatClampNeg) r h) kv_X6_would kl_L_81 [0, 1, 2, 3, 4, 5, 6, 7, 8, 9, 10, 11, 12, 13, 14, 15, 16, 17, 18, 19, 20, 21, 22, 23, 24, 25, 26, 27, 28, 29, 30, 31, 32, 33, 34, 35, 36, 37, 38, 39, 40, 41, 42, 43, 44, 45, 46, 47, 48, 49, 50, 51, 52, 53, 54, 55, 56, 57, 58, 59, 60, 61, 62, 63, 64, 65, 66, 67, 68, 69, 70, 71, 72, 73, 74, 75, 76] (fun w => WMX d a b (w, u.2)) dL_law_607 (emb_MX_M_0 d a b _) rfl (fun _ => fst_M d _ _ _) (fun _ => put_MX_M_0 d a b _ _) rfl rfl rfl (Nat.le_of_ble_eq_true rfl) ⟨(Nat.le_of_ble_eq_true rfl), (Nat.le_of_ble_eq_true rfl)⟩ rfl rfl ⟨(Nat.le_of_ble_eq_true rfl), (Nat.le_of_ble_eq_true rfl)⟩ rfl (fun r607 hr607 => ?_)
        refine V_aload_n C 2 dL_law_610 rfl rfl ?_
        refine V_aload_n C 0 dL_law_611 rfl rfl ?_
        refine V_iload_n C 3 dL_law_612 rfl rfl ?_
        refine V_iconst (v := 1) C dL_law_613 (by decide) ?_
        refine V_iadd C dL_law_614 ?_
        refine V_test (fun t615 => ?_)
        refine V_sld C hLX (inb_in t615) dL_law_615 ?_
        refine V_aload_n C 0 dL_law_616 rfl rfl ?_
        refine V_iload_n C 3 dL_law_617 rfl rfl ?_
        refine V_iconst (v := 2) C dL_law_618 (by decide) ?_
        refine V_iadd C dL_law_619 ?_
        refine V_test (fun t620 => ?_)
        refine V_sld C hLX (inb_in t620) dL_law_620 ?_
        refine V_callWi (As := [.int (xs (v3 + 1).toNatClampNeg), .int (xs (v3 + 2).toNatClampNeg)]) (rest := [.int r607.1]) (wc := WX d b u.2) (Wd := fun w => WX d b w) C (fun r h => ct_X7_would _ d b u.2 (xs (v3 + 1).toNatClampNeg) (xs (v3 + 2).toNatClampNeg) r h) kv_X7_would kl_L_84 [77, 78, 79, 80, 81, 82] (fun w => WMX d a b (r607.2, w)) dL_law_621 (emb_MX_X_1 d a b _) rfl (fun _ => fst_X d _ _ _) (fun _ => put_MX_X_1 d a b _ _) rfl rfl rfl (Nat.le_of_ble_eq_true rfl) ⟨(Nat.le_of_ble_eq_true rfl), (Nat.le_of_ble_eq_true rfl)⟩ rfl rfl ⟨(Nat.le_of_ble_eq_true rfl), (Nat.le_of_ble_eq_true rfl)⟩ rfl (fun r621 hr621 => ?_)
        refine V_icmp_eq (tgt := 793) C dL_law_624 (by decide) ?_ ?_
        · exact v_L_law_b793 C hr hlk hσ hLX hA0 hargs (f_L_law_b18 L xs  n) ih (r607.2, r621.2) v3
        · exact V_none
      refine V_case (fun c17 => ?_) (fun c17 => ?_)
      · refine V_tsIn (tgt := 629) C c17 dL_law_32 (by decide) (by decide) rfl (by decide) ?_
        refine V_aload_n C 1 dL_law_629 rfl rfl ?_
        refine V_aload_n C 0 dL_law_630 rfl rfl ?_
        refine V_iload_n C 3 dL_law_631 rfl rfl ?_
        refine V_iconst (v := 1) C dL_law_632 (by decide) ?_
        refine V_iadd C dL_law_633 ?_
        refine V_test (fun t634 => ?_)
        refine V_sld C hLX (inb_in t634) dL_law_634 ?_
        refine V_callWi (As := [.int (xs (v3 + 1).toNatClampNeg)]) (rest := []) (wc := WM d a u.1) (Wd := fun w => WM d a w) C (fun r h => ct_X6_wayTo _ d a u.1 (xs (v3 + 1).toNatClampNeg) r h) kv_X6_wayTo kl_L_85 [0, 1, 2, 3, 4, 5, 6, 7, 8, 9, 10, 11, 12, 13, 14, 15, 16, 17, 18, 19, 20, 21, 22, 23, 24, 25, 26, 27, 28, 29, 30, 31, 32, 33, 34, 35, 36, 37, 38, 39, 40, 41, 42, 43, 44, 45, 46, 47, 48, 49, 50, 51, 52, 53, 54, 55, 56, 57, 58, 59, 60, 61, 62, 63, 64, 65, 66, 67, 68, 69, 70, 71, 72, 73, 74, 75, 76] (fun w => WMX d a b (w, u.2)) dL_law_635 (emb_MX_M_0 d a b _) rfl (fun _ => fst_M d _ _ _) (fun _ => put_MX_M_0 d a b _ _) rfl rfl rfl (Nat.le_of_ble_eq_true rfl) ⟨(Nat.le_of_ble_eq_true rfl), (Nat.le_of_ble_eq_true rfl)⟩ rfl rfl ⟨(Nat.le_of_ble_eq_true rfl), (Nat.le_of_ble_eq_true rfl)⟩ rfl (fun r635 hr635 => ?_)
        refine V_aload_n C 2 dL_law_638 rfl rfl ?_
        refine V_aload_n C 0 dL_law_639 rfl rfl ?_
        refine V_iload_n C 3 dL_law_640 rfl rfl ?_
        refine V_iconst (v := 1) C dL_law_641 (by decide) ?_
        refine V_iadd C dL_law_642 ?_
        refine V_test (fun t643 => ?_)
        refine V_sld C hLX (inb_in t643) dL_law_643 ?_
        refine V_callWi (As := [.int (xs (v3 + 1).toNatClampNeg)]) (rest := [.int r635.1]) (wc := WX d b u.2) (Wd := fun w => WX d b w) C (fun r h => ct_X7_wayTo _ d b u.2 (xs (v3 + 1).toNatClampNeg) r h) kv_X7_wayTo kl_L_88 [77, 78, 79, 80, 81, 82] (fun w => WMX d a b (r635.2, w)) dL_law_644 (emb_MX_X_1 d a b _) rfl (fun _ => fst_X d _ _ _) (fun _ => put_MX_X_1 d a b _ _) rfl rfl rfl (Nat.le_of_ble_eq_true rfl) ⟨(Nat.le_of_ble_eq_true rfl), (Nat.le_of_ble_eq_true rfl)⟩ rfl rfl ⟨(Nat.le_of_ble_eq_true rfl), (Nat.le_of_ble_eq_true rfl)⟩ rfl (fun r644 hr644 => ?_)
        refine V_icmp_eq (tgt := 793) C dL_law_647 (by decide) ?_ ?_
        · exact v_L_law_b793 C hr hlk hσ hLX hA0 hargs (f_L_law_b18 L xs  n) ih (r635.2, r644.2) v3
        · exact V_none
      refine V_case (fun c18 => ?_) (fun c18 => ?_)
      · refine V_tsIn (tgt := 652) C c18 dL_law_32 (by decide) (by decide) rfl (by decide) ?_
        refine V_aload_n C 1 dL_law_652 rfl rfl ?_
        refine V_aload_n C 0 dL_law_653 rfl rfl ?_
        refine V_iload_n C 3 dL_law_654 rfl rfl ?_
        refine V_iconst (v := 1) C dL_law_655 (by decide) ?_
        refine V_iadd C dL_law_656 ?_
        refine V_test (fun t657 => ?_)
        refine V_sld C hLX (inb_in t657) dL_law_657 ?_
        refine V_aload_n C 0 dL_law_658 rfl rfl ?_
        refine V_iload_n C 3 dL_law_659 rfl rfl ?_
        refine V_iconst (v := 2) C dL_law_660 (by decide) ?_
        refine V_iadd C dL_law_661 ?_
        refine V_test (fun t662 => ?_)
        refine V_sld C hLX (inb_in t662) dL_law_662 ?_
        refine V_callWi (As := [.int (xs (v3 + 1).toNatClampNeg), .int (xs (v3 + 2).toNatClampNeg)]) (rest := []) (wc := WM d a u.1) (Wd := fun w => WM d a w) C (fun r h => ct_X6_wholeBatch _ d a u.1 (xs (v3 + 1).toNatClampNeg) (xs (v3 + 2).toNatClampNeg) r h) kv_X6_wholeBatch kl_L_89 [0, 1, 2, 3, 4, 5, 6, 7, 8, 9, 10, 11, 12, 13, 14, 15, 16, 17, 18, 19, 20, 21, 22, 23, 24, 25, 26, 27, 28, 29, 30, 31, 32, 33, 34, 35, 36, 37, 38, 39, 40, 41, 42, 43, 44, 45, 46, 47, 48, 49, 50, 51, 52, 53, 54, 55, 56, 57, 58, 59, 60, 61, 62, 63, 64, 65, 66, 67, 68, 69, 70, 71, 72, 73, 74, 75, 76] (fun w => WMX d a b (w, u.2)) dL_law_663 (emb_MX_M_0 d a b _) rfl (fun _ => fst_M d _ _ _) (fun _ => put_MX_M_0 d a b _ _) rfl rfl rfl (Nat.le_of_ble_eq_true rfl) ⟨(Nat.le_of_ble_eq_true rfl), (Nat.le_of_ble_eq_true rfl)⟩ rfl rfl ⟨(Nat.le_of_ble_eq_true rfl), (Nat.le_of_ble_eq_true rfl)⟩ rfl (fun r663 hr663 => ?_)
        refine V_aload_n C 2 dL_law_666 rfl rfl ?_
        refine V_aload_n C 0 dL_law_667 rfl rfl ?_
        refine V_iload_n C 3 dL_law_668 rfl rfl ?_
        refine V_iconst (v := 1) C dL_law_669 (by decide) ?_
        refine V_iadd C dL_law_670 ?_
        refine V_test (fun t671 => ?_)
        refine V_sld C hLX (inb_in t671) dL_law_671 ?_
        refine V_aload_n C 0 dL_law_672 rfl rfl ?_
        refine V_iload_n C 3 dL_law_673 rfl rfl ?_
        refine V_iconst (v := 2) C dL_law_674 (by decide) ?_
        refine V_iadd C dL_law_675 ?_
        refine V_test (fun t676 => ?_)
        refine V_sld C hLX (inb_in t676) dL_law_676 ?_
        refine V_callWi (As := [.int (xs (v3 + 1).toNatClampNeg), .int (xs (v3 + 2).toNatClampNeg)]) (rest := [.int r663.1]) (wc := WX d b u.2) (Wd := fun w => WX d b w) C (fun r h => ct_X7_wholeBatch _ d b u.2 (xs (v3 + 1).toNatClampNeg) (xs (v3 + 2).toNatClampNeg) r h) kv_X7_wholeBatch kl_L_92 [77, 78, 79, 80, 81, 82] (fun w => WMX d a b (r663.2, w)) dL_law_677 (emb_MX_X_1 d a b _) rfl (fun _ => fst_X d _ _ _) (fun _ => put_MX_X_1 d a b _ _) rfl rfl rfl (Nat.le_of_ble_eq_true rfl) ⟨(Nat.le_of_ble_eq_true rfl), (Nat.le_of_ble_eq_true rfl)⟩ rfl rfl ⟨(Nat.le_of_ble_eq_true rfl), (Nat.le_of_ble_eq_true rfl)⟩ rfl (fun r677 hr677 => ?_)
        refine V_icmp_eq (tgt := 793) C dL_law_680 (by decide) ?_ ?_
        · exact v_L_law_b793 C hr hlk hσ hLX hA0 hargs (f_L_law_b18 L xs  n) ih (r663.2, r677.2) v3
        · exact V_none
      refine V_case (fun c19 => ?_) (fun c19 => ?_)
      · refine V_tsIn (tgt := 685) C c19 dL_law_32 (by decide) (by decide) rfl (by decide) ?_
        refine V_aload_n C 1 dL_law_685 rfl rfl ?_
        refine V_aload_n C 0 dL_law_686 rfl rfl ?_
        refine V_iload_n C 3 dL_law_687 rfl rfl ?_
        refine V_iconst (v := 1) C dL_law_688 (by decide) ?_
        refine V_iadd C dL_law_689 ?_
        refine V_test (fun t690 => ?_)
        refine V_sld C hLX (inb_in t690) dL_law_690 ?_
        refine V_callRi (As := [.int (xs (v3 + 1).toNatClampNeg)]) (rest := []) (wc := WM d a u.1) C (fun r h => ct_X6_count _ d a u.1 (xs (v3 + 1).toNatClampNeg) r h) kv_X6_count kl_L_93 [0, 1, 2, 3, 4, 5, 6, 7, 8, 9, 10, 11, 12, 13, 14, 15, 16, 17, 18, 19, 20, 21, 22, 23, 24, 25, 26, 27, 28, 29, 30, 31, 32, 33, 34, 35, 36, 37, 38, 39, 40, 41, 42, 43, 44, 45, 46, 47, 48, 49, 50, 51, 52, 53, 54, 55, 56, 57, 58, 59, 60, 61, 62, 63, 64, 65, 66, 67, 68, 69, 70, 71, 72, 73, 74, 75, 76] dL_law_691 (emb_MX_M_0 d a b _) rfl rfl rfl (Nat.le_of_ble_eq_true rfl) ⟨(Nat.le_of_ble_eq_true rfl), (Nat.le_of_ble_eq_true rfl)⟩ rfl rfl ⟨(Nat.le_of_ble_eq_true rfl), (Nat.le_of_ble_eq_true rfl)⟩ rfl (fun r691 hr691 => ?_)
        refine V_aload_n C 2 dL_law_694 rfl rfl ?_
        refine V_aload_n C 0 dL_law_695 rfl rfl ?_
        refine V_iload_n C 3 dL_law_696 rfl rfl ?_
        refine V_iconst (v := 1) C dL_law_697 (by decide) ?_
        refine V_iadd C dL_law_698 ?_
        refine V_test (fun t699 => ?_)
        refine V_sld C hLX (inb_in t699) dL_law_699 ?_
        refine V_callRi (As := [.int (xs (v3 + 1).toNatClampNeg)]) (rest := [.int r691]) (wc := WX d b u.2) C (fun r h => ct_X7_count _ d b u.2 (xs (v3 + 1).toNatClampNeg) r h) kv_X7_count kl_L_96 [77, 78, 79, 80, 81, 82] dL_law_700 (emb_MX_X_1 d a b _) rfl rfl rfl (Nat.le_of_ble_eq_true rfl) ⟨(Nat.le_of_ble_eq_true rfl), (Nat.le_of_ble_eq_true rfl)⟩ rfl rfl ⟨(Nat.le_of_ble_eq_true rfl), (Nat.le_of_ble_eq_true rfl)⟩ rfl (fun r700 hr700 => ?_)
        refine V_icmp_eq (tgt := 793) C dL_law_703 (by decide) ?_ ?_
        · exact v_L_law_b793 C hr hlk hσ hLX hA0 hargs (f_L_law_b18 L xs  n) ih u v3
        · exact V_none
      refine V_case (fun c20 => ?_) (fun c20 => ?_)
      · refine V_tsIn (tgt := 708) C c20 dL_law_32 (by decide) (by decide) rfl (by decide) ?_
        refine V_aload_n C 1 dL_law_708 rfl rfl ?_
        refine V_callWi (As := []) (rest := []) (wc := WM d a u.1) (Wd := fun w => WM d a w) C (fun r h => ct_X6_undo _ d a u.1 r h) kv_X6_undo kl_L_97 [0, 1, 2, 3, 4, 5, 6, 7, 8, 9, 10, 11, 12, 13, 14, 15, 16, 17, 18, 19, 20, 21, 22, 23, 24, 25, 26, 27, 28, 29, 30, 31, 32, 33, 34, 35, 36, 37, 38, 39, 40, 41, 42, 43, 44, 45, 46, 47, 48, 49, 50, 51, 52, 53, 54, 55, 56, 57, 58, 59, 60, 61, 62, 63, 64, 65, 66, 67, 68, 69, 70, 71, 72, 73, 74, 75, 76] (fun w => WMX d a b (w, u.2)) dL_law_709 (emb_MX_M_0 d a b _) rfl (fun _ => fst_M d _ _ _) (fun _ => put_MX_M_0 d a b _ _) rfl rfl rfl (Nat.le_of_ble_eq_true rfl) ⟨(Nat.le_of_ble_eq_true rfl), (Nat.le_of_ble_eq_true rfl)⟩ rfl rfl ⟨(Nat.le_of_ble_eq_true rfl), (Nat.le_of_ble_eq_true rfl)⟩ rfl (fun r709 hr709 => ?_)
        refine V_aload_n C 2 dL_law_712 rfl rfl ?_
        refine V_callWi (As := []) (rest := [.int r709.1]) (wc := WX d b u.2) (Wd := fun w => WX d b w) C (fun r h => ct_X7_undo _ d b u.2 r h) kv_X7_undo kl_L_100 [77, 78, 79, 80, 81, 82] (fun w => WMX d a b (r709.2, w)) dL_law_713 (emb_MX_X_1 d a b _) rfl (fun _ => fst_X d _ _ _) (fun _ => put_MX_X_1 d a b _ _) rfl rfl rfl (Nat.le_of_ble_eq_true rfl) ⟨(Nat.le_of_ble_eq_true rfl), (Nat.le_of_ble_eq_true rfl)⟩ rfl rfl ⟨(Nat.le_of_ble_eq_true rfl), (Nat.le_of_ble_eq_true rfl)⟩ rfl (fun r713 hr713 => ?_)
        refine V_icmp_eq (tgt := 793) C dL_law_716 (by decide) ?_ ?_
        · exact v_L_law_b793 C hr hlk hσ hLX hA0 hargs (f_L_law_b18 L xs  n) ih (r709.2, r713.2) v3
        · exact V_none
      refine V_case (fun c21 => ?_) (fun c21 => ?_)
      · refine V_tsIn (tgt := 721) C c21 dL_law_32 (by decide) (by decide) rfl (by decide) ?_
        refine V_aload_n C 1 dL_law_721 rfl rfl ?_
        refine V_aload_n C 0 dL_law_722 rfl rfl ?_
        refine V_iload_n C 3 dL_law_723 rfl rfl ?_
        refine V_iconst (v := 1) C dL_law_724 (by decide) ?_
        refine V_iadd C dL_law_725 ?_
        refine V_test (fun t726 => ?_)
        refine V_sld C hLX (inb_in t726) dL_law_726 ?_
        refine V_callWi (As := [.int (xs (v3 + 1).toNatClampNeg)]) (rest := []) (wc := WM d a u.1) (Wd := fun w => WM d a w) C (fun r h => ct_X6_type _ d a u.1 (xs (v3 + 1).toNatClampNeg) r h) kv_X6_type kl_L_101 [0, 1, 2, 3, 4, 5, 6, 7, 8, 9, 10, 11, 12, 13, 14, 15, 16, 17, 18, 19, 20, 21, 22, 23, 24, 25, 26, 27, 28, 29, 30, 31, 32, 33, 34, 35, 36, 37, 38, 39, 40, 41, 42, 43, 44, 45, 46, 47, 48, 49, 50, 51, 52, 53, 54, 55, 56, 57, 58, 59, 60, 61, 62, 63, 64, 65, 66, 67, 68, 69, 70, 71, 72, 73, 74, 75, 76] (fun w => WMX d a b (w, u.2)) dL_law_727 (emb_MX_M_0 d a b _) rfl (fun _ => fst_M d _ _ _) (fun _ => put_MX_M_0 d a b _ _) rfl rfl rfl (Nat.le_of_ble_eq_true rfl) ⟨(Nat.le_of_ble_eq_true rfl), (Nat.le_of_ble_eq_true rfl)⟩ rfl rfl ⟨(Nat.le_of_ble_eq_true rfl), (Nat.le_of_ble_eq_true rfl)⟩ rfl (fun r727 hr727 => ?_)
        refine V_aload_n C 2 dL_law_730 rfl rfl ?_
        refine V_aload_n C 0 dL_law_731 rfl rfl ?_
        refine V_iload_n C 3 dL_law_732 rfl rfl ?_
        refine V_iconst (v := 1) C dL_law_733 (by decide) ?_
        refine V_iadd C dL_law_734 ?_
        refine V_test (fun t735 => ?_)
        refine V_sld C hLX (inb_in t735) dL_law_735 ?_
        refine V_callWi (As := [.int (xs (v3 + 1).toNatClampNeg)]) (rest := [.int r727.1]) (wc := WX d b u.2) (Wd := fun w => WX d b w) C (fun r h => ct_X7_type _ d b u.2 (xs (v3 + 1).toNatClampNeg) r h) kv_X7_type kl_L_104 [77, 78, 79, 80, 81, 82] (fun w => WMX d a b (r727.2, w)) dL_law_736 (emb_MX_X_1 d a b _) rfl (fun _ => fst_X d _ _ _) (fun _ => put_MX_X_1 d a b _ _) rfl rfl rfl (Nat.le_of_ble_eq_true rfl) ⟨(Nat.le_of_ble_eq_true rfl), (Nat.le_of_ble_eq_true rfl)⟩ rfl rfl ⟨(Nat.le_of_ble_eq_true rfl), (Nat.le_of_ble_eq_true rfl)⟩ rfl (fun r736 hr736 => ?_)
        refine V_icmp_eq (tgt := 793) C dL_law_739 (by decide) ?_ ?_
        · exact v_L_law_b793 C hr hlk hσ hLX hA0 hargs (f_L_law_b18 L xs  n) ih (r727.2, r736.2) v3
        · exact V_none
      refine V_case (fun c22 => ?_) (fun c22 => ?_)
      · refine V_tsIn (tgt := 744) C c22 dL_law_32 (by decide) (by decide) rfl (by decide) ?_
        refine V_aload_n C 1 dL_law_744 rfl rfl ?_
        refine V_callWi (As := []) (rest := []) (wc := WM d a u.1) (Wd := fun w => WM d a w) C (fun r h => ct_X6_clearText _ d a u.1 r h) kv_X6_clearText kl_L_105 [0, 1, 2, 3, 4, 5, 6, 7, 8, 9, 10, 11, 12, 13, 14, 15, 16, 17, 18, 19, 20, 21, 22, 23, 24, 25, 26, 27, 28, 29, 30, 31, 32, 33, 34, 35, 36, 37, 38, 39, 40, 41, 42, 43, 44, 45, 46, 47, 48, 49, 50, 51, 52, 53, 54, 55, 56, 57, 58, 59, 60, 61, 62, 63, 64, 65, 66, 67, 68, 69, 70, 71, 72, 73, 74, 75, 76] (fun w => WMX d a b (w, u.2)) dL_law_745 (emb_MX_M_0 d a b _) rfl (fun _ => fst_M d _ _ _) (fun _ => put_MX_M_0 d a b _ _) rfl rfl rfl (Nat.le_of_ble_eq_true rfl) ⟨(Nat.le_of_ble_eq_true rfl), (Nat.le_of_ble_eq_true rfl)⟩ rfl rfl ⟨(Nat.le_of_ble_eq_true rfl), (Nat.le_of_ble_eq_true rfl)⟩ rfl (fun r745 hr745 => ?_)
        refine V_aload_n C 2 dL_law_748 rfl rfl ?_
        refine V_callWi (As := []) (rest := [.int r745.1]) (wc := WX d b u.2) (Wd := fun w => WX d b w) C (fun r h => ct_X7_clearText _ d b u.2 r h) kv_X7_clearText kl_L_108 [77, 78, 79, 80, 81, 82] (fun w => WMX d a b (r745.2, w)) dL_law_749 (emb_MX_X_1 d a b _) rfl (fun _ => fst_X d _ _ _) (fun _ => put_MX_X_1 d a b _ _) rfl rfl rfl (Nat.le_of_ble_eq_true rfl) ⟨(Nat.le_of_ble_eq_true rfl), (Nat.le_of_ble_eq_true rfl)⟩ rfl rfl ⟨(Nat.le_of_ble_eq_true rfl), (Nat.le_of_ble_eq_true rfl)⟩ rfl (fun r749 hr749 => ?_)
        refine V_icmp_eq (tgt := 793) C dL_law_752 (by decide) ?_ ?_
        · exact v_L_law_b793 C hr hlk hσ hLX hA0 hargs (f_L_law_b18 L xs  n) ih (r745.2, r749.2) v3
        · exact V_none
      refine V_case (fun c23 => ?_) (fun c23 => ?_)
      · refine V_tsIn (tgt := 757) C c23 dL_law_32 (by decide) (by decide) rfl (by decide) ?_
        refine V_aload_n C 1 dL_law_757 rfl rfl ?_
        refine V_aload_n C 0 dL_law_758 rfl rfl ?_
        refine V_iload_n C 3 dL_law_759 rfl rfl ?_
        refine V_iconst (v := 1) C dL_law_760 (by decide) ?_
        refine V_iadd C dL_law_761 ?_
        refine V_test (fun t762 => ?_)
        refine V_sld C hLX (inb_in t762) dL_law_762 ?_
        refine V_callUi (As := [.int (xs (v3 + 1).toNatClampNeg)]) (rest := []) (wc := WM d a u.1) (Wd := fun w => WM d a w) C hσ (fun r h => ct_X6_fault _ d σ a u.1 (xs (v3 + 1).toNatClampNeg) r h) kv_X6_fault kl_L_109 [0, 1, 2, 3, 4, 5, 6, 7, 8, 9, 10, 11, 12, 13, 14, 15, 16, 17, 18, 19, 20, 21, 22, 23, 24, 25, 26, 27, 28, 29, 30, 31, 32, 33, 34, 35, 36, 37, 38, 39, 40, 41, 42, 43, 44, 45, 46, 47, 48, 49, 50, 51, 52, 53, 54, 55, 56, 57, 58, 59, 60, 61, 62, 63, 64, 65, 66, 67, 68, 69, 70, 71, 72, 73, 74, 75, 76] (fun w => WMX d a b (w, u.2)) dL_law_763 (emb_MX_M_0 d a b _) rfl (fun _ => fst_M d _ _ _) (fun _ => put_MX_M_0 d a b _ _) rfl rfl rfl (Nat.le_of_ble_eq_true rfl) ⟨(Nat.le_of_ble_eq_true rfl), (Nat.le_of_ble_eq_true rfl)⟩ rfl rfl ⟨(Nat.le_of_ble_eq_true rfl), (Nat.le_of_ble_eq_true rfl)⟩ rfl (fun r763 hr763 => ?_)
        refine V_aload_n C 2 dL_law_766 rfl rfl ?_
        refine V_aload_n C 0 dL_law_767 rfl rfl ?_
        refine V_iload_n C 3 dL_law_768 rfl rfl ?_
        refine V_iconst (v := 1) C dL_law_769 (by decide) ?_
        refine V_iadd C dL_law_770 ?_
        refine V_test (fun t771 => ?_)
        refine V_sld C hLX (inb_in t771) dL_law_771 ?_
        refine V_callWi (As := [.int (xs (v3 + 1).toNatClampNeg)]) (rest := [.int r763.1]) (wc := WX d b u.2) (Wd := fun w => WX d b w) C (fun r h => ct_X7_fault _ d b u.2 (xs (v3 + 1).toNatClampNeg) r h) kv_X7_fault kl_L_112 [77, 78, 79, 80, 81, 82] (fun w => WMX d a b (r763.2, w)) dL_law_772 (emb_MX_X_1 d a b _) rfl (fun _ => fst_X d _ _ _) (fun _ => put_MX_X_1 d a b _ _) rfl rfl rfl (Nat.le_of_ble_eq_true rfl) ⟨(Nat.le_of_ble_eq_true rfl), (Nat.le_of_ble_eq_true rfl)⟩ rfl rfl ⟨(Nat.le_of_ble_eq_true rfl), (Nat.le_of_ble_eq_true rfl)⟩ rfl (fun r772 hr772 => ?_)
        refine V_icmp_eq (tgt := 793) C dL_law_775 (by decide) ?_ ?_
        · exact v_L_law_b793 C hr hlk hσ hLX hA0 hargs (f_L_law_b18 L xs  n) ih (r763.2, r772.2) v3
        · exact V_none
      refine V_case (fun c24 => ?_) (fun c24 => ?_)
      · refine V_tsIn (tgt := 780) C c24 dL_law_32 (by decide) (by decide) rfl (by decide) ?_
        refine V_aload_n C 1 dL_law_780 rfl rfl ?_
        refine V_callUi (As := []) (rest := []) (wc := WM d a u.1) (Wd := fun w => WM d a w) C hσ (fun r h => ct_X6_play _ d σ a u.1 r h) kv_X6_play kl_L_113 [0, 1, 2, 3, 4, 5, 6, 7, 8, 9, 10, 11, 12, 13, 14, 15, 16, 17, 18, 19, 20, 21, 22, 23, 24, 25, 26, 27, 28, 29, 30, 31, 32, 33, 34, 35, 36, 37, 38, 39, 40, 41, 42, 43, 44, 45, 46, 47, 48, 49, 50, 51, 52, 53, 54, 55, 56, 57, 58, 59, 60, 61, 62, 63, 64, 65, 66, 67, 68, 69, 70, 71, 72, 73, 74, 75, 76] (fun w => WMX d a b (w, u.2)) dL_law_781 (emb_MX_M_0 d a b _) rfl (fun _ => fst_M d _ _ _) (fun _ => put_MX_M_0 d a b _ _) rfl rfl rfl (Nat.le_of_ble_eq_true rfl) ⟨(Nat.le_of_ble_eq_true rfl), (Nat.le_of_ble_eq_true rfl)⟩ rfl rfl ⟨(Nat.le_of_ble_eq_true rfl), (Nat.le_of_ble_eq_true rfl)⟩ rfl (fun r781 hr781 => ?_)
        refine V_aload_n C 2 dL_law_784 rfl rfl ?_
        refine V_callWi (As := []) (rest := [.int r781.1]) (wc := WX d b u.2) (Wd := fun w => WX d b w) C (fun r h => ct_X7_play _ d b u.2 r h) kv_X7_play kl_L_116 [77, 78, 79, 80, 81, 82] (fun w => WMX d a b (r781.2, w)) dL_law_785 (emb_MX_X_1 d a b _) rfl (fun _ => fst_X d _ _ _) (fun _ => put_MX_X_1 d a b _ _) rfl rfl rfl (Nat.le_of_ble_eq_true rfl) ⟨(Nat.le_of_ble_eq_true rfl), (Nat.le_of_ble_eq_true rfl)⟩ rfl rfl ⟨(Nat.le_of_ble_eq_true rfl), (Nat.le_of_ble_eq_true rfl)⟩ rfl (fun r785 hr785 => ?_)
        refine V_icmp_eq (tgt := 793) C dL_law_788 (by decide) ?_ ?_
        · exact v_L_law_b793 C hr hlk hσ hLX hA0 hargs (f_L_law_b18 L xs  n) ih (r781.2, r785.2) v3
        · exact V_none
      have i0 := neInt c0 (k := 0) (by decide)
      have i1 := neInt c1 (k := 1) (by decide)
      have i2 := neInt c2 (k := 2) (by decide)
      have i3 := neInt c3 (k := 3) (by decide)
      have i4 := neInt c4 (k := 4) (by decide)
      have i5 := neInt c5 (k := 5) (by decide)
      have i6 := neInt c6 (k := 6) (by decide)
      have i7 := neInt c7 (k := 7) (by decide)
      have i8 := neInt c8 (k := 8) (by decide)
      have i9 := neInt c9 (k := 9) (by decide)
      have i10 := neInt c10 (k := 10) (by decide)
      have i11 := neInt c11 (k := 11) (by decide)
      have i12 := neInt c12 (k := 12) (by decide)
      have i13 := neInt c13 (k := 13) (by decide)
      have i14 := neInt c14 (k := 14) (by decide)
      have i15 := neInt c15 (k := 15) (by decide)
      have i16 := neInt c16 (k := 16) (by decide)
      have i17 := neInt c17 (k := 17) (by decide)
      have i18 := neInt c18 (k := 18) (by decide)
      have i19 := neInt c19 (k := 19) (by decide)
      have i20 := neInt c20 (k := 20) (by decide)
      have i21 := neInt c21 (k := 21) (by decide)
      have i22 := neInt c22 (k := 22) (by decide)
      have i23 := neInt c23 (k := 23) (by decide)
      have i24 := neInt c24 (k := 24) (by decide)
      refine V_tsOut (tgt := 793) C dL_law_32 (by omega) (by decide) ?_
      exact v_L_law_b793 C hr hlk hσ hLX hA0 hargs (f_L_law_b18 L xs  n) ih u v3
