/-! MastRobots.isIn -/
def f_X6_isIn (p1 : Int32) (p2 : Int32) (p3 : Int32) : Option (Int32) :=
  (if p1 < p2 then some 0 else (if p3 < p1 then some 0 else some 1))
set_option maxRecDepth 20000 in
theorem v_X6_isIn {x : Am} {d : Dt} (C : Cx x cX6_isIn 3 yX6_isIn.cls d (Iro d x.s.heap)) (hr : x.meth.sig.returnType = (some .boolean)) (hlk : x.meth.locks = false) (z : Int32) (p1 : Int32) (p2 : Int32) (p3 : Int32) : V x (rmF 0 0) 0 0 (MQ x.below (QR (some (.int z))) x.args x.s 0 0 (fun _ => False)) 3 (Iro d x.s.heap) (f_X6_isIn p1 p2 p3 = some z) 0 ([]) [some (.int p1), some (.int p2), some (.int p3)] [] := by
  unfold f_X6_isIn
  refine V_iload_n C 0 dX6_isIn_0 rfl rfl ?_
  refine V_iload_n C 1 dX6_isIn_1 rfl rfl ?_
  refine V_icmp_lt (tgt := 14) C dX6_isIn_2 (by decide) ?_ ?_
  · refine V_iconst (v := 0) C dX6_isIn_14 (by decide) ?_
    exact V_zretRc C hr hlk (by decide) dX6_isIn_15
  · refine V_iload_n C 0 dX6_isIn_5 rfl rfl ?_
    refine V_iload_n C 2 dX6_isIn_6 rfl rfl ?_
    refine V_icmp_gt (tgt := 14) C dX6_isIn_7 (by decide) ?_ ?_
    · refine V_iconst (v := 0) C dX6_isIn_14 (by decide) ?_
      exact V_zretRc C hr hlk (by decide) dX6_isIn_15
    · refine V_iconst (v := 1) C dX6_isIn_10 (by decide) ?_
      refine V_goto (tgt := 15) C dX6_isIn_11 (by decide) ?_
      exact V_zretRc C hr hlk (by decide) dX6_isIn_15
set_option maxRecDepth 20000 in
theorem ct_X6_isIn (l : Launch) (d : Dt) (p1 : Int32) (p2 : Int32) (p3 : Int32) (z : Int32) (h : f_X6_isIn p1 p2 p3 = some z) : CtR l d yX6_isIn cX6_isIn 3 (some .boolean) (rmF 0 0) [.int p1, .int p2, .int p3] ([]) (some (.int z)) :=
  CtR.start (by decide) (Nat.le_of_ble_eq_true rfl) (by simp [Value.category]) [some (.int p1), some (.int p2), some (.int p3)] rfl (fun x C hr hlk => V_eqv (fun _ => h) (v_X6_isIn C hr hlk z p1 p2 p3))

/-! MastRobots.isRule -/
def f_X6_isRule (p1 : Int32) : Option (Int32) :=
  ((f_X6_isIn p1 0 3).bind fun r3 => (if jbool r3 = true then some r3 else none))
set_option maxRecDepth 20000 in
theorem v_X6_isRule {x : Am} {d : Dt} (C : Cx x cX6_isRule 1 yX6_isRule.cls d (Iro d x.s.heap)) (hr : x.meth.sig.returnType = (some .boolean)) (hlk : x.meth.locks = false) (z : Int32) (p1 : Int32) : V x (rmF 1 22) 0 0 (MQ x.below (QR (some (.int z))) x.args x.s 0 0 (fun _ => False)) 1 (Iro d x.s.heap) (f_X6_isRule p1 = some z) 0 ([]) [some (.int p1)] [] := by
  unfold f_X6_isRule
  refine V_iload_n C 0 dX6_isRule_0 rfl rfl ?_
  refine V_iconst (v := 0) C dX6_isRule_1 (by decide) ?_
  refine V_iconst (v := 3) C dX6_isRule_2 (by decide) ?_
  refine V_callSi (As := [.int p1, .int 0, .int 3]) (rest := []) (wc := []) C (fun r h => ct_X6_isIn _ d p1 0 3 r h) ks_X6_isIn kl_X6_122 [] dX6_isRule_3 rfl rfl (Nat.le_of_ble_eq_true rfl) ⟨(Nat.le_of_ble_eq_true rfl), (Nat.le_of_ble_eq_true rfl)⟩ rfl rfl ⟨Nat.le_refl _, Nat.le_refl _⟩ rfl (fun r3 hr3 => ?_)
  exact V_zretR C hr hlk dX6_isRule_6
set_option maxRecDepth 20000 in
theorem ct_X6_isRule (l : Launch) (d : Dt) (p1 : Int32) (z : Int32) (h : f_X6_isRule p1 = some z) : CtR l d yX6_isRule cX6_isRule 1 (some .boolean) (rmF 1 22) [.int p1] ([]) (some (.int z)) :=
  CtR.start (by decide) (Nat.le_of_ble_eq_true rfl) (by simp [Value.category]) [some (.int p1)] rfl (fun x C hr hlk => V_eqv (fun _ => h) (v_X6_isRule C hr hlk z p1))

/-! MastRobots.shelfSlot -/
def f_X6_shelfSlot (p1 : Int32) (p2 : Int32) : Option (Int32) :=
  some ((4 * p1) + p2)
set_option maxRecDepth 20000 in
theorem v_X6_shelfSlot {x : Am} {d : Dt} (C : Cx x cX6_shelfSlot 2 yX6_shelfSlot.cls d (Iro d x.s.heap)) (hr : x.meth.sig.returnType = (some .int)) (hlk : x.meth.locks = false) (z : Int32) (p1 : Int32) (p2 : Int32) : V x (rmF 0 0) 0 0 (MQ x.below (QR (some (.int z))) x.args x.s 0 0 (fun _ => False)) 2 (Iro d x.s.heap) (f_X6_shelfSlot p1 p2 = some z) 0 ([]) [some (.int p1), some (.int p2)] [] := by
  unfold f_X6_shelfSlot
  refine V_iconst (v := 4) C dX6_shelfSlot_0 (by decide) ?_
  refine V_iload_n C 0 dX6_shelfSlot_1 rfl rfl ?_
  refine V_imul C dX6_shelfSlot_2 ?_
  refine V_iload_n C 1 dX6_shelfSlot_3 rfl rfl ?_
  refine V_iadd C dX6_shelfSlot_4 ?_
  exact V_iretR C hr hlk dX6_shelfSlot_5
set_option maxRecDepth 20000 in
theorem ct_X6_shelfSlot (l : Launch) (d : Dt) (p1 : Int32) (p2 : Int32) (z : Int32) (h : f_X6_shelfSlot p1 p2 = some z) : CtR l d yX6_shelfSlot cX6_shelfSlot 2 (some .int) (rmF 0 0) [.int p1, .int p2] ([]) (some (.int z)) :=
  CtR.start (by decide) (Nat.le_of_ble_eq_true rfl) (by simp [Value.category]) [some (.int p1), some (.int p2)] rfl (fun x C hr hlk => V_eqv (fun _ => h) (v_X6_shelfSlot C hr hlk z p1 p2))

/-! MastRobots.isShelf -/
def f_X6_isShelf (p1 : Int32) (p2 : Int32) : Option (Int32) :=
  ((f_X6_isIn p1 0 7).bind fun r4 => (if r4 = 0 then some 0 else ((f_X6_isIn p2 0 3).bind fun r13 => (if r13 = 0 then some 0 else some 1))))
set_option maxRecDepth 20000 in
theorem v_X6_isShelf {x : Am} {d : Dt} (C : Cx x cX6_isShelf 2 yX6_isShelf.cls d (Iro d x.s.heap)) (hr : x.meth.sig.returnType = (some .boolean)) (hlk : x.meth.locks = false) (z : Int32) (p1 : Int32) (p2 : Int32) : V x (rmF 1 22) 0 0 (MQ x.below (QR (some (.int z))) x.args x.s 0 0 (fun _ => False)) 2 (Iro d x.s.heap) (f_X6_isShelf p1 p2 = some z) 0 ([]) [some (.int p1), some (.int p2)] [] := by
  unfold f_X6_isShelf
  refine V_iload_n C 0 dX6_isShelf_0 rfl rfl ?_
  refine V_iconst (v := 0) C dX6_isShelf_1 (by decide) ?_
  refine V_bipush (v := 7) C dX6_isShelf_2 (by decide) ?_
  refine V_callSi (As := [.int p1, .int 0, .int 7]) (rest := []) (wc := []) C (fun r h => ct_X6_isIn _ d p1 0 7 r h) ks_X6_isIn kl_X6_122 [] dX6_isShelf_4 rfl rfl (Nat.le_of_ble_eq_true rfl) ⟨(Nat.le_of_ble_eq_true rfl), (Nat.le_of_ble_eq_true rfl)⟩ rfl rfl ⟨Nat.le_refl _, Nat.le_refl _⟩ rfl (fun r4 hr4 => ?_)
  refine V_if_eq (tgt := 23) C dX6_isShelf_7 (by decide) ?_ ?_
  · refine V_iconst (v := 0) C dX6_isShelf_23 (by decide) ?_
    exact V_zretRc C hr hlk (by decide) dX6_isShelf_24
  · refine V_iload_n C 1 dX6_isShelf_10 rfl rfl ?_
    refine V_iconst (v := 0) C dX6_isShelf_11 (by decide) ?_
    refine V_iconst (v := 3) C dX6_isShelf_12 (by decide) ?_
    refine V_callSi (As := [.int p2, .int 0, .int 3]) (rest := []) (wc := []) C (fun r h => ct_X6_isIn _ d p2 0 3 r h) ks_X6_isIn kl_X6_122 [] dX6_isShelf_13 rfl rfl (Nat.le_of_ble_eq_true rfl) ⟨(Nat.le_of_ble_eq_true rfl), (Nat.le_of_ble_eq_true rfl)⟩ rfl rfl ⟨Nat.le_refl _, Nat.le_refl _⟩ rfl (fun r13 hr13 => ?_)
    refine V_if_eq (tgt := 23) C dX6_isShelf_16 (by decide) ?_ ?_
    · refine V_iconst (v := 0) C dX6_isShelf_23 (by decide) ?_
      exact V_zretRc C hr hlk (by decide) dX6_isShelf_24
    · refine V_iconst (v := 1) C dX6_isShelf_19 (by decide) ?_
      refine V_goto (tgt := 24) C dX6_isShelf_20 (by decide) ?_
      exact V_zretRc C hr hlk (by decide) dX6_isShelf_24
set_option maxRecDepth 20000 in
theorem ct_X6_isShelf (l : Launch) (d : Dt) (p1 : Int32) (p2 : Int32) (z : Int32) (h : f_X6_isShelf p1 p2 = some z) : CtR l d yX6_isShelf cX6_isShelf 2 (some .boolean) (rmF 1 22) [.int p1, .int p2] ([]) (some (.int z)) :=
  CtR.start (by decide) (Nat.le_of_ble_eq_true rfl) (by simp [Value.category]) [some (.int p1), some (.int p2)] rfl (fun x C hr hlk => V_eqv (fun _ => h) (v_X6_isShelf C hr hlk z p1 p2))

/-! MastRobots.found -/
def f_X6_found (p1 : Int32) : Option (Int32) :=
  (if p1 = (-1) then some (-1000004) else some p1)
set_option maxRecDepth 20000 in
theorem v_X6_found {x : Am} {d : Dt} (C : Cx x cX6_found 1 yX6_found.cls d (Iro d x.s.heap)) (hr : x.meth.sig.returnType = (some .int)) (hlk : x.meth.locks = false) (z : Int32) (p1 : Int32) : V x (rmF 0 0) 0 0 (MQ x.below (QR (some (.int z))) x.args x.s 0 0 (fun _ => False)) 1 (Iro d x.s.heap) (f_X6_found p1 = some z) 0 ([]) [some (.int p1)] [] := by
  unfold f_X6_found
  refine V_iload_n C 0 dX6_found_0 rfl rfl ?_
  refine V_iconst (v := (-1)) C dX6_found_1 (by decide) ?_
  refine V_icmp_ne (tgt := 10) C dX6_found_2 (by decide) ?_ ?_
  · refine V_iload_n C 0 dX6_found_10 rfl rfl ?_
    exact V_iretR C hr hlk dX6_found_11
  · refine V_ldc C kc_X6_139 dX6_found_5 ?_
    refine V_goto (tgt := 11) C dX6_found_7 (by decide) ?_
    exact V_iretR C hr hlk dX6_found_11
set_option maxRecDepth 20000 in
theorem ct_X6_found (l : Launch) (d : Dt) (p1 : Int32) (z : Int32) (h : f_X6_found p1 = some z) : CtR l d yX6_found cX6_found 1 (some .int) (rmF 0 0) [.int p1] ([]) (some (.int z)) :=
  CtR.start (by decide) (Nat.le_of_ble_eq_true rfl) (by simp [Value.category]) [some (.int p1)] rfl (fun x C hr hlk => V_eqv (fun _ => h) (v_X6_found C hr hlk z p1))

/-! MastRobots.wallOfDrive -/
def f_X6_wallOfDrive (p1 : Int32) : Option (Int32) :=
  (if p1 = 0 then some 2 else some 6)
set_option maxRecDepth 20000 in
theorem v_X6_wallOfDrive {x : Am} {d : Dt} (C : Cx x cX6_wallOfDrive 1 yX6_wallOfDrive.cls d (Iro d x.s.heap)) (hr : x.meth.sig.returnType = (some .int)) (hlk : x.meth.locks = false) (z : Int32) (p1 : Int32) : V x (rmF 0 0) 0 0 (MQ x.below (QR (some (.int z))) x.args x.s 0 0 (fun _ => False)) 1 (Iro d x.s.heap) (f_X6_wallOfDrive p1 = some z) 0 ([]) [some (.int p1)] [] := by
  unfold f_X6_wallOfDrive
  refine V_iload_n C 0 dX6_wallOfDrive_0 rfl rfl ?_
  refine V_if_ne (tgt := 8) C dX6_wallOfDrive_1 (by decide) ?_ ?_
  · refine V_bipush (v := 6) C dX6_wallOfDrive_8 (by decide) ?_
    exact V_iretR C hr hlk dX6_wallOfDrive_10
  · refine V_iconst (v := 2) C dX6_wallOfDrive_4 (by decide) ?_
    refine V_goto (tgt := 10) C dX6_wallOfDrive_5 (by decide) ?_
    exact V_iretR C hr hlk dX6_wallOfDrive_10
set_option maxRecDepth 20000 in
theorem ct_X6_wallOfDrive (l : Launch) (d : Dt) (p1 : Int32) (z : Int32) (h : f_X6_wallOfDrive p1 = some z) : CtR l d yX6_wallOfDrive cX6_wallOfDrive 1 (some .int) (rmF 0 0) [.int p1] ([]) (some (.int z)) :=
  CtR.start (by decide) (Nat.le_of_ble_eq_true rfl) (by simp [Value.category]) [some (.int p1)] rfl (fun x C hr hlk => V_eqv (fun _ => h) (v_X6_wallOfDrive C hr hlk z p1))

/-! MastRobots.wallsToTheRight -/
def f_X6_wallsToTheRight (p1 : Int32) (p2 : Int32) : Option (Int32) :=
  some (jrem ((p2 - p1) + 8) 8)
set_option maxRecDepth 20000 in
theorem v_X6_wallsToTheRight {x : Am} {d : Dt} (C : Cx x cX6_wallsToTheRight 2 yX6_wallsToTheRight.cls d (Iro d x.s.heap)) (hr : x.meth.sig.returnType = (some .int)) (hlk : x.meth.locks = false) (z : Int32) (p1 : Int32) (p2 : Int32) : V x (rmF 0 0) 0 0 (MQ x.below (QR (some (.int z))) x.args x.s 0 0 (fun _ => False)) 2 (Iro d x.s.heap) (f_X6_wallsToTheRight p1 p2 = some z) 0 ([]) [some (.int p1), some (.int p2)] [] := by
  unfold f_X6_wallsToTheRight
  refine V_iload_n C 1 dX6_wallsToTheRight_0 rfl rfl ?_
  refine V_iload_n C 0 dX6_wallsToTheRight_1 rfl rfl ?_
  refine V_isub C dX6_wallsToTheRight_2 ?_
  refine V_bipush (v := 8) C dX6_wallsToTheRight_3 (by decide) ?_
  refine V_iadd C dX6_wallsToTheRight_5 ?_
  refine V_bipush (v := 8) C dX6_wallsToTheRight_6 (by decide) ?_
  refine V_irem C dX6_wallsToTheRight_8 (by decide) ?_
  exact V_iretR C hr hlk dX6_wallsToTheRight_9
set_option maxRecDepth 20000 in
theorem ct_X6_wallsToTheRight (l : Launch) (d : Dt) (p1 : Int32) (p2 : Int32) (z : Int32) (h : f_X6_wallsToTheRight p1 p2 = some z) : CtR l d yX6_wallsToTheRight cX6_wallsToTheRight 2 (some .int) (rmF 0 0) [.int p1, .int p2] ([]) (some (.int z)) :=
  CtR.start (by decide) (Nat.le_of_ble_eq_true rfl) (by simp [Value.category]) [some (.int p1), some (.int p2)] rfl (fun x C hr hlk => V_eqv (fun _ => h) (v_X6_wallsToTheRight C hr hlk z p1 p2))

/-! MastRobots.distance -/
def f_X6_distance (p1 : Int32) (p2 : Int32) : Option (Int32) :=
  ((f_X6_wallsToTheRight p1 p2).bind fun r2 => (if 4 < r2 then some (8 - r2) else some r2))
set_option maxRecDepth 20000 in
theorem v_X6_distance {x : Am} {d : Dt} (C : Cx x cX6_distance 3 yX6_distance.cls d (Iro d x.s.heap)) (hr : x.meth.sig.returnType = (some .int)) (hlk : x.meth.locks = false) (z : Int32) (p1 : Int32) (p2 : Int32) : V x (rmF 1 21) 0 0 (MQ x.below (QR (some (.int z))) x.args x.s 0 0 (fun _ => False)) 3 (Iro d x.s.heap) (f_X6_distance p1 p2 = some z) 0 ([]) [some (.int p1), some (.int p2), none] [] := by
  unfold f_X6_distance
  refine V_iload_n C 0 dX6_distance_0 rfl rfl ?_
  refine V_iload_n C 1 dX6_distance_1 rfl rfl ?_
  refine V_callSi (As := [.int p1, .int p2]) (rest := []) (wc := []) C (fun r h => ct_X6_wallsToTheRight _ d p1 p2 r h) ks_X6_wallsToTheRight kl_X6_231 [] dX6_distance_2 rfl rfl (Nat.le_of_ble_eq_true rfl) ⟨(Nat.le_of_ble_eq_true rfl), (Nat.le_of_ble_eq_true rfl)⟩ rfl rfl ⟨Nat.le_refl _, Nat.le_refl _⟩ rfl (fun r2 hr2 => ?_)
  refine V_istore_n (lv' := [some (.int p1), some (.int p2), some (.int r2)]) C 2 dX6_distance_5 rfl (by decide) rfl ?_
  refine V_iload_n C 2 dX6_distance_6 rfl rfl ?_
  refine V_iconst (v := 4) C dX6_distance_7 (by decide) ?_
  refine V_icmp_gt (tgt := 15) C dX6_distance_8 (by decide) ?_ ?_
  · refine V_bipush (v := 8) C dX6_distance_15 (by decide) ?_
    refine V_iload_n C 2 dX6_distance_17 rfl rfl ?_
    refine V_isub C dX6_distance_18 ?_
    exact V_iretR C hr hlk dX6_distance_19
  · refine V_iload_n C 2 dX6_distance_11 rfl rfl ?_
    refine V_goto (tgt := 19) C dX6_distance_12 (by decide) ?_
    exact V_iretR C hr hlk dX6_distance_19
set_option maxRecDepth 20000 in
theorem ct_X6_distance (l : Launch) (d : Dt) (p1 : Int32) (p2 : Int32) (z : Int32) (h : f_X6_distance p1 p2 = some z) : CtR l d yX6_distance cX6_distance 3 (some .int) (rmF 1 21) [.int p1, .int p2] ([]) (some (.int z)) :=
  CtR.start (by decide) (Nat.le_of_ble_eq_true rfl) (by simp [Value.category]) [some (.int p1), some (.int p2), none] rfl (fun x C hr hlk => V_eqv (fun _ => h) (v_X6_distance C hr hlk z p1 p2))

/-! MastRobots.mostWallsWith -/
def f_X6_mostWallsWith (p1 : Int32) : Option (Int32) :=
  (if 10 < p1 then (if 20 < p1 then some 1 else some 2) else some 4)
set_option maxRecDepth 20000 in
theorem v_X6_mostWallsWith {x : Am} {d : Dt} (C : Cx x cX6_mostWallsWith 1 yX6_mostWallsWith.cls d (Iro d x.s.heap)) (hr : x.meth.sig.returnType = (some .int)) (hlk : x.meth.locks = false) (z : Int32) (p1 : Int32) : V x (rmF 0 0) 0 0 (MQ x.below (QR (some (.int z))) x.args x.s 0 0 (fun _ => False)) 1 (Iro d x.s.heap) (f_X6_mostWallsWith p1 = some z) 0 ([]) [some (.int p1)] [] := by
  unfold f_X6_mostWallsWith
  refine V_iload_n C 0 dX6_mostWallsWith_0 rfl rfl ?_
  refine V_bipush (v := 10) C dX6_mostWallsWith_1 (by decide) ?_
  refine V_icmp_gt (tgt := 8) C dX6_mostWallsWith_3 (by decide) ?_ ?_
  · refine V_iload_n C 0 dX6_mostWallsWith_8 rfl rfl ?_
    refine V_bipush (v := 20) C dX6_mostWallsWith_9 (by decide) ?_
    refine V_icmp_gt (tgt := 18) C dX6_mostWallsWith_11 (by decide) ?_ ?_
    · refine V_iconst (v := 1) C dX6_mostWallsWith_18 (by decide) ?_
      exact V_iretR C hr hlk dX6_mostWallsWith_19
    · refine V_iconst (v := 2) C dX6_mostWallsWith_14 (by decide) ?_
      refine V_goto (tgt := 19) C dX6_mostWallsWith_15 (by decide) ?_
      exact V_iretR C hr hlk dX6_mostWallsWith_19
  · refine V_iconst (v := 4) C dX6_mostWallsWith_6 (by decide) ?_
    exact V_iretR C hr hlk dX6_mostWallsWith_7
set_option maxRecDepth 20000 in
theorem ct_X6_mostWallsWith (l : Launch) (d : Dt) (p1 : Int32) (z : Int32) (h : f_X6_mostWallsWith p1 = some z) : CtR l d yX6_mostWallsWith cX6_mostWallsWith 1 (some .int) (rmF 0 0) [.int p1] ([]) (some (.int z)) :=
  CtR.start (by decide) (Nat.le_of_ble_eq_true rfl) (by simp [Value.category]) [some (.int p1)] rfl (fun x C hr hlk => V_eqv (fun _ => h) (v_X6_mostWallsWith C hr hlk z p1))

/-! MastRobots$Rows.howOften -/
def f_X5_howOften_b33 (k11 : (Nat → Int32) → Int32 → Int32 → Int32 → Int32 → Option (Int32)) (u : (Nat → Int32)) (v1 : Int32) (v2 : Int32) (v4 : Int32) (v5 : Int32) : Option (Int32) :=
  k11 u v1 v2 v4 (v5 + 1)
def f_X5_howOften_b11 : Nat → (Nat → Int32) → Int32 → Int32 → Int32 → Int32 → Option (Int32)
  | 0, _, _, _, _, _ => none
  | n + 1, u, v1, v2, v4, v5 => (if v4 ≤ v5 then some v2 else (if inb v5 60 = true then (if (u v5.toNatClampNeg) = v1 then f_X5_howOften_b33 (f_X5_howOften_b11 n) u v1 (v2 + 1) v4 v5 else f_X5_howOften_b33 (f_X5_howOften_b11 n) u v1 v2 v4 v5) else none))
def f_X5_howOften (u : (Nat → Int32)) (p1 : Int32) : Option (Int32) :=
  f_X5_howOften_b11 FUEL u p1 0 60 0
set_option maxRecDepth 20000 in
theorem v_X5_howOften_b33 {x : Am} {d : Dt} {a : Nat → Nat} (C : Cx x cX5_howOften 7 yX5_howOften.cls d (Iro d x.s.heap)) (hr : x.meth.sig.returnType = (some .int)) (hlk : x.meth.locks = false) (z : Int32) (k11 : (Nat → Int32) → Int32 → Int32 → Int32 → Int32 → Option (Int32)) (hk11 : ∀ (u : (Nat → Int32))(v1 : Int32)(v2 : Int32)(v4 : Int32)(v5 : Int32), V x (rmF 0 0) 0 0 (MQ x.below (QR (some (.int z))) x.args x.s 0 0 (fun _ => False)) 7 (Iro d x.s.heap) (k11 u v1 v2 v4 v5 = some z) 11 (WA d a u) [none, some (.int v1), some (.int v2), some (.ref (a 0)), some (.int v4), some (.int v5), none] []) (u : (Nat → Int32)) (v1 : Int32) (v2 : Int32) (v4 : Int32) (v5 : Int32) : V x (rmF 0 0) 0 0 (MQ x.below (QR (some (.int z))) x.args x.s 0 0 (fun _ => False)) 7 (Iro d x.s.heap) (f_X5_howOften_b33 k11 u v1 v2 v4 v5 = some z) 33 (WA d a u) [none, some (.int v1), some (.int v2), some (.ref (a 0)), some (.int v4), some (.int v5), none] [] := by
  unfold f_X5_howOften_b33
  refine V_iinc (v := (v5 + 1)) (lv' := [none, some (.int v1), some (.int v2), some (.ref (a 0)), some (.int v4), some (.int (v5 + 1)), none]) C dX5_howOften_33 rfl rfl (by decide) rfl ?_
  refine V_goto (tgt := 11) C dX5_howOften_36 (by decide) ?_
  exact hk11 u v1 v2 v4 (v5 + 1)
set_option maxRecDepth 20000 in
theorem v_X5_howOften_b11 {x : Am} {d : Dt} {a : Nat → Nat} (C : Cx x cX5_howOften 7 yX5_howOften.cls d (Iro d x.s.heap)) (hr : x.meth.sig.returnType = (some .int)) (hlk : x.meth.locks = false) (z : Int32) (n : Nat) (u : (Nat → Int32)) (v1 : Int32) (v2 : Int32) (v4 : Int32) (v5 : Int32) : V x (rmF 0 0) 0 0 (MQ x.below (QR (some (.int z))) x.args x.s 0 0 (fun _ => False)) 7 (Iro d x.s.heap) (f_X5_howOften_b11 n u v1 v2 v4 v5 = some z) 11 (WA d a u) [none, some (.int v1), some (.int v2), some (.ref (a 0)), some (.int v4), some (.int v5), none] [] := by
  induction n generalizing u v1 v2 v4 v5 with
  | zero => exact V_none
  | succ n ih =>
    rw [f_X5_howOften_b11]
    refine V_iload C dX5_howOften_11 rfl ?_
    refine V_iload C dX5_howOften_13 rfl ?_
    refine V_icmp_ge (tgt := 39) C dX5_howOften_15 (by decide) ?_ ?_
    · refine V_iload_n C 2 dX5_howOften_39 rfl rfl ?_
      exact V_iretR C hr hlk dX5_howOften_40
    · refine V_aload_n C 3 dX5_howOften_18 rfl rfl ?_
      refine V_iload C dX5_howOften_19 rfl ?_
      refine V_iald C 0 rfl dX5_howOften_21 ?_
      refine V_istore (lv' := [none, some (.int v1), some (.int v2), some (.ref (a 0)), some (.int v4), some (.int v5), some (.int (u v5.toNatClampNeg))]) C dX5_howOften_22 (by decide) rfl ?_
      refine V_iload C dX5_howOften_24 rfl ?_
      refine V_iload_n C 1 dX5_howOften_26 rfl rfl ?_
      refine V_icmp_ne (tgt := 33) C dX5_howOften_27 (by decide) ?_ ?_
      · refine V_mask (lv' := [none, some (.int v1), some (.int v2), some (.ref (a 0)), some (.int v4), some (.int v5), none]) [true, true, true, true, true, true, false] rfl ?_
        exact v_X5_howOften_b33 C hr hlk z (f_X5_howOften_b11  n) ih u v1 v2 v4 v5
      · refine V_iinc (v := (v2 + 1)) (lv' := [none, some (.int v1), some (.int (v2 + 1)), some (.ref (a 0)), some (.int v4), some (.int v5), some (.int (u v5.toNatClampNeg))]) C dX5_howOften_30 rfl rfl (by decide) rfl ?_
        refine V_mask (lv' := [none, some (.int v1), some (.int (v2 + 1)), some (.ref (a 0)), some (.int v4), some (.int v5), none]) [true, true, true, true, true, true, false] rfl ?_
        exact v_X5_howOften_b33 C hr hlk z (f_X5_howOften_b11  n) ih u v1 (v2 + 1) v4 v5
set_option maxRecDepth 20000 in
theorem v_X5_howOften {x : Am} {d : Dt} {a : Nat → Nat} (C : Cx x cX5_howOften 7 yX5_howOften.cls d (Iro d x.s.heap)) (hr : x.meth.sig.returnType = (some .int)) (hlk : x.meth.locks = false) (z : Int32) (u : (Nat → Int32)) (p1 : Int32) : V x (rmF 0 0) 0 0 (MQ x.below (QR (some (.int z))) x.args x.s 0 0 (fun _ => False)) 7 (Iro d x.s.heap) (f_X5_howOften u p1 = some z) 0 (WA d a u) [some (.ref (a 0)), some (.int p1), none, none, none, none, none] [] := by
  unfold f_X5_howOften
  refine V_iconst (v := 0) C dX5_howOften_0 (by decide) ?_
  refine V_istore_n (lv' := [some (.ref (a 0)), some (.int p1), some (.int 0), none, none, none, none]) C 2 dX5_howOften_1 rfl (by decide) rfl ?_
  refine V_aload_n C 0 dX5_howOften_2 rfl rfl ?_
  refine V_astore_n (lv' := [some (.ref (a 0)), some (.int p1), some (.int 0), some (.ref (a 0)), none, none, none]) C 3 dX5_howOften_3 rfl (by decide) rfl ?_
  refine V_aload_n C 3 dX5_howOften_4 rfl rfl ?_
  refine V_alenI (v := 60) C 0 rfl (by decide) dX5_howOften_5 ?_
  refine V_istore (lv' := [some (.ref (a 0)), some (.int p1), some (.int 0), some (.ref (a 0)), some (.int 60), none, none]) C dX5_howOften_6 (by decide) rfl ?_
  refine V_iconst (v := 0) C dX5_howOften_8 (by decide) ?_
  refine V_istore (lv' := [some (.ref (a 0)), some (.int p1), some (.int 0), some (.ref (a 0)), some (.int 60), some (.int 0), none]) C dX5_howOften_9 (by decide) rfl ?_
  refine V_mask (lv' := [none, some (.int p1), some (.int 0), some (.ref (a 0)), some (.int 60), some (.int 0), none]) [false, true, true, true, true, true, true] rfl ?_
  exact v_X5_howOften_b11 C hr hlk z FUEL u p1 0 60 0
set_option maxRecDepth 20000 in
theorem ct_X5_howOften (l : Launch) (d : Dt) (a : Nat → Nat) (u : (Nat → Int32)) (p1 : Int32) (z : Int32) (h : f_X5_howOften u p1 = some z) : CtR l d yX5_howOften cX5_howOften 7 (some .int) (rmF 0 0) [.ref (a 0), .int p1] (WA d a u) (some (.int z)) :=
  CtR.start (by decide) (Nat.le_of_ble_eq_true rfl) (by simp [Value.category]) [some (.ref (a 0)), some (.int p1), none, none, none, none, none] rfl (fun x C hr hlk => V_eqv (fun _ => h) (v_X5_howOften C hr hlk z u p1))
