theorem WX_get1 (d : Dt) (a : Nat → Nat) (u : UX) : (WX d a u)[1]? = some (a 1, .inl (d.2.1, 264, .inl u.1)) := rfl
theorem WX_set1 (d : Dt) (a : Nat → Nat) (u : UX) (f : UA) : (WX d a u).set 1 (a 1, .inl (d.2.1, 264, .inl f)) = WX d a (f, u.2) := rfl
theorem WX_get2 (d : Dt) (a : Nat → Nat) (u : UX) : (WX d a u)[2]? = some (a 2, .inl (d.2.1, 1056, .inl u.2.1)) := rfl
theorem WX_set2 (d : Dt) (a : Nat → Nat) (u : UX) (f : UA) : (WX d a u).set 2 (a 2, .inl (d.2.1, 1056, .inl f)) = WX d a (u.1, f, u.2.2) := rfl
theorem WX_get3 (d : Dt) (a : Nat → Nat) (u : UX) : (WX d a u)[3]? = some (a 3, .inl (d.2.1, 264, .inl u.2.2.1)) := rfl
theorem WX_set3 (d : Dt) (a : Nat → Nat) (u : UX) (f : UA) : (WX d a u).set 3 (a 3, .inl (d.2.1, 264, .inl f)) = WX d a (u.1, u.2.1, f, u.2.2.2) := rfl
theorem WX_get4 (d : Dt) (a : Nat → Nat) (u : UX) : (WX d a u)[4]? = some (a 4, .inl (d.2.1, 264, .inl u.2.2.2.1)) := rfl
theorem WX_set4 (d : Dt) (a : Nat → Nat) (u : UX) (f : UA) : (WX d a u).set 4 (a 4, .inl (d.2.1, 264, .inl f)) = WX d a (u.1, u.2.1, u.2.2.1, f, u.2.2.2.2) := rfl
theorem WX_get5 (d : Dt) (a : Nat → Nat) (u : UX) : (WX d a u)[5]? = some (a 5, .inl (d.2.2.1, 60, .inl u.2.2.2.2.2.1)) := rfl
theorem WX_set5 (d : Dt) (a : Nat → Nat) (u : UX) (f : UA) : (WX d a u).set 5 (a 5, .inl (d.2.2.1, 60, .inl f)) = WX d a (u.1, u.2.1, u.2.2.1, u.2.2.2.1, u.2.2.2.2.1, f, u.2.2.2.2.2.2) := rfl
/-! MastRobotsModel.in -/
def f_X7_in (p1 : Int32) (p2 : Int32) (p3 : Int32) : Option (Int32) :=
  (if p1 < p2 then some 0 else (if p3 < p1 then some 0 else some 1))
set_option maxRecDepth 20000 in
theorem v_X7_in {x : Am} {d : Dt} (C : Cx x cX7_in 3 yX7_in.cls d (Iro d x.s.heap)) (hr : x.meth.sig.returnType = (some .boolean)) (hlk : x.meth.locks = false) (z : Int32) (p1 : Int32) (p2 : Int32) (p3 : Int32) : V x (rmF 0 0) 0 0 (MQ x.below (QR (some (.int z))) x.args x.s 0 0 (fun _ => False)) 3 (Iro d x.s.heap) (f_X7_in p1 p2 p3 = some z) 0 ([]) [some (.int p1), some (.int p2), some (.int p3)] [] := by
  unfold f_X7_in
  refine V_iload_n C 0 dX7_in_0 rfl rfl ?_
  refine V_iload_n C 1 dX7_in_1 rfl rfl ?_
  refine V_icmp_lt (tgt := 14) C dX7_in_2 (by decide) ?_ ?_
  · refine V_iconst (v := 0) C dX7_in_14 (by decide) ?_
    exact V_zretRc C hr hlk (by decide) dX7_in_15
  · refine V_iload_n C 0 dX7_in_5 rfl rfl ?_
    refine V_iload_n C 2 dX7_in_6 rfl rfl ?_
    refine V_icmp_gt (tgt := 14) C dX7_in_7 (by decide) ?_ ?_
    · refine V_iconst (v := 0) C dX7_in_14 (by decide) ?_
      exact V_zretRc C hr hlk (by decide) dX7_in_15
    · refine V_iconst (v := 1) C dX7_in_10 (by decide) ?_
      refine V_goto (tgt := 15) C dX7_in_11 (by decide) ?_
      exact V_zretRc C hr hlk (by decide) dX7_in_15
set_option maxRecDepth 20000 in
theorem ct_X7_in (l : Launch) (d : Dt) (p1 : Int32) (p2 : Int32) (p3 : Int32) (z : Int32) (h : f_X7_in p1 p2 p3 = some z) : CtR l d yX7_in cX7_in 3 (some .boolean) (rmF 0 0) [.int p1, .int p2, .int p3] ([]) (some (.int z)) :=
  CtR.start (by decide) (Nat.le_of_ble_eq_true rfl) (by simp [Value.category]) [some (.int p1), some (.int p2), some (.int p3)] rfl (fun x C hr hlk => V_eqv (fun _ => h) (v_X7_in C hr hlk z p1 p2 p3))

/-! MastRobotsModel.ca -/
def f_X7_ca (u : UX) (p1 : Int32) (p2 : Int32) : Option (Int32) :=
  (if inb ((48 + (4 * p1)) + p2) 264 = true then some (u.1 ((48 + (4 * p1)) + p2).toNatClampNeg) else none)
set_option maxRecDepth 20000 in
theorem v_X7_ca {x : Am} {d : Dt} {a : Nat → Nat} (C : Cx x cX7_ca 3 yX7_ca.cls d (Iro d x.s.heap)) (hr : x.meth.sig.returnType = (some .int)) (hlk : x.meth.locks = false) (z : Int32) (u : UX) (p1 : Int32) (p2 : Int32) : V x (rmF 0 0) 0 0 (MQ x.below (QR (some (.int z))) x.args x.s 0 0 (fun _ => False)) 3 (Iro d x.s.heap) (f_X7_ca u p1 p2 = some z) 0 (WX d a u) [some (.ref (a 0)), some (.int p1), some (.int p2)] [] := by
  unfold f_X7_ca
  refine V_aload_n C 0 dX7_ca_0 rfl rfl ?_
  refine V_get (v := .ref (a 1)) C fx7 0 0 kf_X7_7 (by decide) rfl rfl dX7_ca_1 ?_
  refine V_bipush (v := 48) C dX7_ca_4 (by decide) ?_
  refine V_iconst (v := 4) C dX7_ca_6 (by decide) ?_
  refine V_iload_n C 1 dX7_ca_7 rfl rfl ?_
  refine V_imul C dX7_ca_8 ?_
  refine V_iadd C dX7_ca_9 ?_
  refine V_iload_n C 2 dX7_ca_10 rfl rfl ?_
  refine V_iadd C dX7_ca_11 ?_
  refine V_iald C 1 rfl dX7_ca_12 ?_
  exact V_iretR C hr hlk dX7_ca_13
set_option maxRecDepth 20000 in
theorem ct_X7_ca (l : Launch) (d : Dt) (a : Nat → Nat) (u : UX) (p1 : Int32) (p2 : Int32) (z : Int32) (h : f_X7_ca u p1 p2 = some z) : CtR l d yX7_ca cX7_ca 3 (some .int) (rmF 0 0) [.ref (a 0), .int p1, .int p2] (WX d a u) (some (.int z)) :=
  CtR.start (by decide) (Nat.le_of_ble_eq_true rfl) (by simp [Value.category]) [some (.ref (a 0)), some (.int p1), some (.int p2)] rfl (fun x C hr hlk => V_eqv (fun _ => h) (v_X7_ca C hr hlk z u p1 p2))

/-! MastRobotsModel.isCartridge -/
def f_X7_isCartridge (u : UX) (p1 : Int32) : Option (Int32) :=
  ((f_X7_in p1 0 ((u.1 7) - 1)).bind fun r11 => (if jbool r11 = true then some r11 else none))
set_option maxRecDepth 20000 in
theorem v_X7_isCartridge {x : Am} {d : Dt} {a : Nat → Nat} (C : Cx x cX7_isCartridge 2 yX7_isCartridge.cls d (Iro d x.s.heap)) (hr : x.meth.sig.returnType = (some .boolean)) (hlk : x.meth.locks = false) (z : Int32) (u : UX) (p1 : Int32) : V x (rmF 1 22) 0 0 (MQ x.below (QR (some (.int z))) x.args x.s 0 0 (fun _ => False)) 2 (Iro d x.s.heap) (f_X7_isCartridge u p1 = some z) 0 (WX d a u) [some (.ref (a 0)), some (.int p1)] [] := by
  unfold f_X7_isCartridge
  refine V_iload_n C 1 dX7_isCartridge_0 rfl rfl ?_
  refine V_iconst (v := 0) C dX7_isCartridge_1 (by decide) ?_
  refine V_aload_n C 0 dX7_isCartridge_2 rfl rfl ?_
  refine V_get (v := .ref (a 1)) C fx7 0 0 kf_X7_7 (by decide) rfl rfl dX7_isCartridge_3 ?_
  refine V_bipush (v := 7) C dX7_isCartridge_6 (by decide) ?_
  refine V_ialdc C 1 7 rfl (by decide) (by decide) dX7_isCartridge_8 ?_
  refine V_iconst (v := 1) C dX7_isCartridge_9 (by decide) ?_
  refine V_isub C dX7_isCartridge_10 ?_
  refine V_callSi (As := [.int p1, .int 0, .int ((u.1 7) - 1)]) (rest := []) (wc := []) C (fun r h => ct_X7_in _ d p1 0 ((u.1 7) - 1) r h) ks_X7_in kl_X7_26 [] dX7_isCartridge_11 rfl rfl (Nat.le_of_ble_eq_true rfl) ⟨(Nat.le_of_ble_eq_true rfl), (Nat.le_of_ble_eq_true rfl)⟩ rfl rfl ⟨Nat.le_refl _, Nat.le_refl _⟩ rfl (fun r11 hr11 => ?_)
  exact V_zretR C hr hlk dX7_isCartridge_14
set_option maxRecDepth 20000 in
theorem ct_X7_isCartridge (l : Launch) (d : Dt) (a : Nat → Nat) (u : UX) (p1 : Int32) (z : Int32) (h : f_X7_isCartridge u p1 = some z) : CtR l d yX7_isCartridge cX7_isCartridge 2 (some .boolean) (rmF 1 22) [.ref (a 0), .int p1] (WX d a u) (some (.int z)) :=
  CtR.start (by decide) (Nat.le_of_ble_eq_true rfl) (by simp [Value.category]) [some (.ref (a 0)), some (.int p1)] rfl (fun x C hr hlk => V_eqv (fun _ => h) (v_X7_isCartridge C hr hlk z u p1))

/-! MastRobotsModel.isAt -/
def f_X7_isAt (u : UX) (p1 : Int32) (p2 : Int32) : Option (UX) :=
  (if inb ((48 + (4 * p1)) + 2) 264 = true then some ((upd u.1 ((48 + (4 * p1)) + 2).toNatClampNeg p2), u.2.1, u.2.2.1, u.2.2.2.1, u.2.2.2.2.1, u.2.2.2.2.2.1, u.2.2.2.2.2.2.1, u.2.2.2.2.2.2.2.1, u.2.2.2.2.2.2.2.2.1, u.2.2.2.2.2.2.2.2.2.1, u.2.2.2.2.2.2.2.2.2.2.1, u.2.2.2.2.2.2.2.2.2.2.2.1, u.2.2.2.2.2.2.2.2.2.2.2.2.1, u.2.2.2.2.2.2.2.2.2.2.2.2.2) else none)
set_option maxRecDepth 20000 in
theorem v_X7_isAt {x : Am} {d : Dt} {A : Nat → Prop} {a : Nat → Nat} (C : Cx x cX7_isAt 3 yX7_isAt.cls d (Imu d A x.s.heap)) (hr : x.meth.sig.returnType = none) (hlk : x.meth.locks = false) (z : UX) (u : UX) (p1 : Int32) (p2 : Int32) : V x (rmF 0 0) 0 0 (MQ x.below (QW d A (WX d a z) none) x.args x.s 0 0 A) 3 (Imu d A x.s.heap) (f_X7_isAt u p1 p2 = some z) 0 (WX d a u) [some (.ref (a 0)), some (.int p1), some (.int p2)] [] := by
  unfold f_X7_isAt
  refine V_aload_n C 0 dX7_isAt_0 rfl rfl ?_
  refine V_get (v := .ref (a 1)) C fx7 0 0 kf_X7_7 (by decide) rfl rfl dX7_isAt_1 ?_
  refine V_bipush (v := 48) C dX7_isAt_4 (by decide) ?_
  refine V_iconst (v := 4) C dX7_isAt_6 (by decide) ?_
  refine V_iload_n C 1 dX7_isAt_7 rfl rfl ?_
  refine V_imul C dX7_isAt_8 ?_
  refine V_iadd C dX7_isAt_9 ?_
  refine V_iconst (v := 2) C dX7_isAt_10 (by decide) ?_
  refine V_iadd C dX7_isAt_11 ?_
  refine V_iload_n C 2 dX7_isAt_12 rfl rfl ?_
  refine V_iast (ws' := WX d a ((upd u.1 ((48 + (4 * p1)) + 2).toNatClampNeg p2), u.2.1, u.2.2.1, u.2.2.2.1, u.2.2.2.2.1, u.2.2.2.2.2.1, u.2.2.2.2.2.2.1, u.2.2.2.2.2.2.2.1, u.2.2.2.2.2.2.2.2.1, u.2.2.2.2.2.2.2.2.2.1, u.2.2.2.2.2.2.2.2.2.2.1, u.2.2.2.2.2.2.2.2.2.2.2.1, u.2.2.2.2.2.2.2.2.2.2.2.2.1, u.2.2.2.2.2.2.2.2.2.2.2.2.2)) C 1 (WX_get1 _ _ _) (WX_set1 _ _ _ _) dX7_isAt_13 ?_
  exact V_vretW (Wd := fun w => WX d a w) C hr hlk dX7_isAt_14 rfl
set_option maxRecDepth 20000 in
theorem ct_X7_isAt (l : Launch) (d : Dt) (a : Nat → Nat) (u : UX) (p1 : Int32) (p2 : Int32) (z : UX) (h : f_X7_isAt u p1 p2 = some z) : CtW l d yX7_isAt cX7_isAt 3 none (rmF 0 0) [.ref (a 0), .int p1, .int p2] (WX d a u) (WX d a z) none :=
  CtW.start (by decide) (Nat.le_of_ble_eq_true rfl) (by simp [Value.category]) [some (.ref (a 0)), some (.int p1), some (.int p2)] rfl (fun x A C hr hlk => V_eqv (fun _ => h) (v_X7_isAt C hr hlk z u p1 p2))

/-! MastRobotsModel.keeps -/
def f_X7_keeps_b2 : Nat → UX → Int32 → Option (UX)
  | 0, _, _ => none
  | n + 1, u, v1 => (if 264 ≤ v1 then some u else (if inb v1 264 = true then (if inb v1 264 = true then f_X7_keeps_b2 n (u.1, u.2.1, (upd u.2.2.1 v1.toNatClampNeg (u.1 v1.toNatClampNeg)), u.2.2.2.1, u.2.2.2.2.1, u.2.2.2.2.2.1, u.2.2.2.2.2.2.1, u.2.2.2.2.2.2.2.1, u.2.2.2.2.2.2.2.2.1, u.2.2.2.2.2.2.2.2.2.1, u.2.2.2.2.2.2.2.2.2.2.1, u.2.2.2.2.2.2.2.2.2.2.2.1, u.2.2.2.2.2.2.2.2.2.2.2.2.1, u.2.2.2.2.2.2.2.2.2.2.2.2.2) (v1 + 1) else none) else none))
def f_X7_keeps (u : UX) : Option (UX) :=
  f_X7_keeps_b2 FUEL u 0
set_option maxRecDepth 20000 in
theorem v_X7_keeps_b2 {x : Am} {d : Dt} {A : Nat → Prop} {a : Nat → Nat} (C : Cx x cX7_keeps 2 yX7_keeps.cls d (Imu d A x.s.heap)) (hr : x.meth.sig.returnType = none) (hlk : x.meth.locks = false) (z : UX) (n : Nat) (u : UX) (v1 : Int32) : V x (rmF 0 0) 0 0 (MQ x.below (QW d A (WX d a z) none) x.args x.s 0 0 A) 2 (Imu d A x.s.heap) (f_X7_keeps_b2 n u v1 = some z) 2 (WX d a u) [some (.ref (a 0)), some (.int v1)] [] := by
  induction n generalizing u v1 with
  | zero => exact V_none
  | succ n ih =>
    rw [f_X7_keeps_b2]
    refine V_iload_n C 1 dX7_keeps_2 rfl rfl ?_
    refine V_sipush (v := 264) C dX7_keeps_3 (by decide) ?_
    refine V_icmp_ge (tgt := 27) C dX7_keeps_6 (by decide) ?_ ?_
    · exact V_vretW (Wd := fun w => WX d a w) C hr hlk dX7_keeps_27 rfl
    · refine V_aload_n C 0 dX7_keeps_9 rfl rfl ?_
      refine V_get (v := .ref (a 3)) C fx7 0 2 kf_X7_16 (by decide) rfl rfl dX7_keeps_10 ?_
      refine V_iload_n C 1 dX7_keeps_13 rfl rfl ?_
      refine V_aload_n C 0 dX7_keeps_14 rfl rfl ?_
      refine V_get (v := .ref (a 1)) C fx7 0 0 kf_X7_7 (by decide) rfl rfl dX7_keeps_15 ?_
      refine V_iload_n C 1 dX7_keeps_18 rfl rfl ?_
      refine V_iald C 1 rfl dX7_keeps_19 ?_
      refine V_iast (ws' := WX d a (u.1, u.2.1, (upd u.2.2.1 v1.toNatClampNeg (u.1 v1.toNatClampNeg)), u.2.2.2.1, u.2.2.2.2.1, u.2.2.2.2.2.1, u.2.2.2.2.2.2.1, u.2.2.2.2.2.2.2.1, u.2.2.2.2.2.2.2.2.1, u.2.2.2.2.2.2.2.2.2.1, u.2.2.2.2.2.2.2.2.2.2.1, u.2.2.2.2.2.2.2.2.2.2.2.1, u.2.2.2.2.2.2.2.2.2.2.2.2.1, u.2.2.2.2.2.2.2.2.2.2.2.2.2)) C 3 (WX_get3 _ _ _) (WX_set3 _ _ _ _) dX7_keeps_20 ?_
      refine V_iinc (v := (v1 + 1)) (lv' := [some (.ref (a 0)), some (.int (v1 + 1))]) C dX7_keeps_21 rfl rfl (by decide) rfl ?_
      refine V_goto (tgt := 2) C dX7_keeps_24 (by decide) ?_
      exact ih (u.1, u.2.1, (upd u.2.2.1 v1.toNatClampNeg (u.1 v1.toNatClampNeg)), u.2.2.2.1, u.2.2.2.2.1, u.2.2.2.2.2.1, u.2.2.2.2.2.2.1, u.2.2.2.2.2.2.2.1, u.2.2.2.2.2.2.2.2.1, u.2.2.2.2.2.2.2.2.2.1, u.2.2.2.2.2.2.2.2.2.2.1, u.2.2.2.2.2.2.2.2.2.2.2.1, u.2.2.2.2.2.2.2.2.2.2.2.2.1, u.2.2.2.2.2.2.2.2.2.2.2.2.2) (v1 + 1)
set_option maxRecDepth 20000 in
theorem v_X7_keeps {x : Am} {d : Dt} {A : Nat → Prop} {a : Nat → Nat} (C : Cx x cX7_keeps 2 yX7_keeps.cls d (Imu d A x.s.heap)) (hr : x.meth.sig.returnType = none) (hlk : x.meth.locks = false) (z : UX) (u : UX) : V x (rmF 0 0) 0 0 (MQ x.below (QW d A (WX d a z) none) x.args x.s 0 0 A) 2 (Imu d A x.s.heap) (f_X7_keeps u = some z) 0 (WX d a u) [some (.ref (a 0)), none] [] := by
  unfold f_X7_keeps
  refine V_iconst (v := 0) C dX7_keeps_0 (by decide) ?_
  refine V_istore_n (lv' := [some (.ref (a 0)), some (.int 0)]) C 1 dX7_keeps_1 rfl (by decide) rfl ?_
  exact v_X7_keeps_b2 C hr hlk z FUEL u 0
set_option maxRecDepth 20000 in
theorem ct_X7_keeps (l : Launch) (d : Dt) (a : Nat → Nat) (u : UX) (z : UX) (h : f_X7_keeps u = some z) : CtW l d yX7_keeps cX7_keeps 2 none (rmF 0 0) [.ref (a 0)] (WX d a u) (WX d a z) none :=
  CtW.start (by decide) (Nat.le_of_ble_eq_true rfl) (by simp [Value.category]) [some (.ref (a 0)), none] rfl (fun x A C hr hlk => V_eqv (fun _ => h) (v_X7_keeps C hr hlk z u))

/-! MastRobotsModel.acted -/
def f_X7_acted_b57 : Nat → UX → Int32 → Int32 → Option (Int32 × UX)
  | 0, _, _, _ => none
  | n + 1, u, v1, v2 => (if 264 ≤ v2 then some (v1, (u.1, u.2.1, u.2.2.1, u.2.2.2.1, (u.2.2.2.2.1 + 1), u.2.2.2.2.2.1, u.2.2.2.2.2.2.1, u.2.2.2.2.2.2.2.1, u.2.2.2.2.2.2.2.2.1, u.2.2.2.2.2.2.2.2.2.1, u.2.2.2.2.2.2.2.2.2.2.1, u.2.2.2.2.2.2.2.2.2.2.2.1, u.2.2.2.2.2.2.2.2.2.2.2.2.1, u.2.2.2.2.2.2.2.2.2.2.2.2.2)) else (if inb v2 264 = true then (if inb ((264 * u.2.2.2.2.1) + v2) 1056 = true then f_X7_acted_b57 n (u.1, (upd u.2.1 ((264 * u.2.2.2.2.1) + v2).toNatClampNeg (u.2.2.1 v2.toNatClampNeg)), u.2.2.1, u.2.2.2.1, u.2.2.2.2.1, u.2.2.2.2.2.1, u.2.2.2.2.2.2.1, u.2.2.2.2.2.2.2.1, u.2.2.2.2.2.2.2.2.1, u.2.2.2.2.2.2.2.2.2.1, u.2.2.2.2.2.2.2.2.2.2.1, u.2.2.2.2.2.2.2.2.2.2.2.1, u.2.2.2.2.2.2.2.2.2.2.2.2.1, u.2.2.2.2.2.2.2.2.2.2.2.2.2) v1 (v2 + 1) else none) else none))
def f_X7_acted_b55 (u : UX) (v1 : Int32) : Option (Int32 × UX) :=
  f_X7_acted_b57 FUEL u v1 0
def f_X7_acted_b16 : Nat → UX → Int32 → Int32 → Option (Int32 × UX)
  | 0, _, _, _ => none
  | n + 1, u, v1, v2 => (if 792 ≤ v2 then f_X7_acted_b55 (u.1, u.2.1, u.2.2.1, u.2.2.2.1, (u.2.2.2.2.1 - 1), u.2.2.2.2.2.1, u.2.2.2.2.2.2.1, u.2.2.2.2.2.2.2.1, u.2.2.2.2.2.2.2.2.1, u.2.2.2.2.2.2.2.2.2.1, u.2.2.2.2.2.2.2.2.2.2.1, u.2.2.2.2.2.2.2.2.2.2.2.1, u.2.2.2.2.2.2.2.2.2.2.2.2.1, u.2.2.2.2.2.2.2.2.2.2.2.2.2) v1 else (if inb (v2 + 264) 1056 = true then (if inb v2 1056 = true then f_X7_acted_b16 n (u.1, (upd u.2.1 v2.toNatClampNeg (u.2.1 (v2 + 264).toNatClampNeg)), u.2.2.1, u.2.2.2.1, u.2.2.2.2.1, u.2.2.2.2.2.1, u.2.2.2.2.2.2.1, u.2.2.2.2.2.2.2.1, u.2.2.2.2.2.2.2.2.1, u.2.2.2.2.2.2.2.2.2.1, u.2.2.2.2.2.2.2.2.2.2.1, u.2.2.2.2.2.2.2.2.2.2.2.1, u.2.2.2.2.2.2.2.2.2.2.2.2.1, u.2.2.2.2.2.2.2.2.2.2.2.2.2) v1 (v2 + 1) else none) else none))
def f_X7_acted (u : UX) (p1 : Int32) : Option (Int32 × UX) :=
  (if p1 ≤ (-1000001) then some (p1, u) else (if u.2.2.2.2.1 = 4 then f_X7_acted_b16 FUEL u p1 0 else f_X7_acted_b55 u p1))
set_option maxRecDepth 20000 in
theorem v_X7_acted_b57 {x : Am} {d : Dt} {A : Nat → Prop} {a : Nat → Nat} (C : Cx x cX7_acted 3 yX7_acted.cls d (Imu d A x.s.heap)) (hr : x.meth.sig.returnType = (some .int)) (hlk : x.meth.locks = false) (z : Int32 × UX) (n : Nat) (u : UX) (v1 : Int32) (v2 : Int32) : V x (rmF 0 0) 0 0 (MQ x.below (QW d A (WX d a z.2) (some (.int z.1))) x.args x.s 0 0 A) 3 (Imu d A x.s.heap) (f_X7_acted_b57 n u v1 v2 = some z) 57 (WX d a u) [some (.ref (a 0)), some (.int v1), some (.int v2)] [] := by
  induction n generalizing u v1 v2 with
  | zero => exact V_none
  | succ n ih =>
    rw [f_X7_acted_b57]
    refine V_iload_n C 2 dX7_acted_57 rfl rfl ?_
    refine V_sipush (v := 264) C dX7_acted_58 (by decide) ?_
    refine V_icmp_ge (tgt := 91) C dX7_acted_61 (by decide) ?_ ?_
    · refine V_aload_n C 0 dX7_acted_91 rfl rfl ?_
      refine V_dup C dX7_acted_92 rfl ?_
      refine V_get (v := .int u.2.2.2.2.1) C fx7 0 4 kf_X7_31 (by decide) rfl rfl dX7_acted_93 ?_
      refine V_iconst (v := 1) C dX7_acted_96 (by decide) ?_
      refine V_iadd C dX7_acted_97 ?_
      refine V_putI (ws' := WX d a (u.1, u.2.1, u.2.2.1, u.2.2.2.1, (u.2.2.2.2.1 + 1), u.2.2.2.2.2.1, u.2.2.2.2.2.2.1, u.2.2.2.2.2.2.2.1, u.2.2.2.2.2.2.2.2.1, u.2.2.2.2.2.2.2.2.2.1, u.2.2.2.2.2.2.2.2.2.2.1, u.2.2.2.2.2.2.2.2.2.2.2.1, u.2.2.2.2.2.2.2.2.2.2.2.2.1, u.2.2.2.2.2.2.2.2.2.2.2.2.2)) C fx7 0 4 kf_X7_31 (by decide) rfl rfl rfl (Nat.le_of_ble_eq_true rfl) rfl dX7_acted_98 ?_
      refine V_iload_n C 1 dX7_acted_101 rfl rfl ?_
      exact V_iretW (Wd := fun w => WX d a w) C hr hlk dX7_acted_102 rfl
    · refine V_aload_n C 0 dX7_acted_64 rfl rfl ?_
      refine V_get (v := .ref (a 2)) C fx7 0 1 kf_X7_13 (by decide) rfl rfl dX7_acted_65 ?_
      refine V_sipush (v := 264) C dX7_acted_68 (by decide) ?_
      refine V_aload_n C 0 dX7_acted_71 rfl rfl ?_
      refine V_get (v := .int u.2.2.2.2.1) C fx7 0 4 kf_X7_31 (by decide) rfl rfl dX7_acted_72 ?_
      refine V_imul C dX7_acted_75 ?_
      refine V_iload_n C 2 dX7_acted_76 rfl rfl ?_
      refine V_iadd C dX7_acted_77 ?_
      refine V_aload_n C 0 dX7_acted_78 rfl rfl ?_
      refine V_get (v := .ref (a 3)) C fx7 0 2 kf_X7_16 (by decide) rfl rfl dX7_acted_79 ?_
      refine V_iload_n C 2 dX7_acted_82 rfl rfl ?_
      refine V_iald C 3 rfl dX7_acted_83 ?_
      refine V_iast (ws' := WX d a (u.1, (upd u.2.1 ((264 * u.2.2.2.2.1) + v2).toNatClampNeg (u.2.2.1 v2.toNatClampNeg)), u.2.2.1, u.2.2.2.1, u.2.2.2.2.1, u.2.2.2.2.2.1, u.2.2.2.2.2.2.1, u.2.2.2.2.2.2.2.1, u.2.2.2.2.2.2.2.2.1, u.2.2.2.2.2.2.2.2.2.1, u.2.2.2.2.2.2.2.2.2.2.1, u.2.2.2.2.2.2.2.2.2.2.2.1, u.2.2.2.2.2.2.2.2.2.2.2.2.1, u.2.2.2.2.2.2.2.2.2.2.2.2.2)) C 2 (WX_get2 _ _ _) (WX_set2 _ _ _ _) dX7_acted_84 ?_
      refine V_iinc (v := (v2 + 1)) (lv' := [some (.ref (a 0)), some (.int v1), some (.int (v2 + 1))]) C dX7_acted_85 rfl rfl (by decide) rfl ?_
      refine V_goto (tgt := 57) C dX7_acted_88 (by decide) ?_
      exact ih (u.1, (upd u.2.1 ((264 * u.2.2.2.2.1) + v2).toNatClampNeg (u.2.2.1 v2.toNatClampNeg)), u.2.2.1, u.2.2.2.1, u.2.2.2.2.1, u.2.2.2.2.2.1, u.2.2.2.2.2.2.1, u.2.2.2.2.2.2.2.1, u.2.2.2.2.2.2.2.2.1, u.2.2.2.2.2.2.2.2.2.1, u.2.2.2.2.2.2.2.2.2.2.1, u.2.2.2.2.2.2.2.2.2.2.2.1, u.2.2.2.2.2.2.2.2.2.2.2.2.1, u.2.2.2.2.2.2.2.2.2.2.2.2.2) v1 (v2 + 1)
set_option maxRecDepth 20000 in
theorem v_X7_acted_b55 {x : Am} {d : Dt} {A : Nat → Prop} {a : Nat → Nat} (C : Cx x cX7_acted 3 yX7_acted.cls d (Imu d A x.s.heap)) (hr : x.meth.sig.returnType = (some .int)) (hlk : x.meth.locks = false) (z : Int32 × UX) (u : UX) (v1 : Int32) : V x (rmF 0 0) 0 0 (MQ x.below (QW d A (WX d a z.2) (some (.int z.1))) x.args x.s 0 0 A) 3 (Imu d A x.s.heap) (f_X7_acted_b55 u v1 = some z) 55 (WX d a u) [some (.ref (a 0)), some (.int v1), none] [] := by
  unfold f_X7_acted_b55
  refine V_iconst (v := 0) C dX7_acted_55 (by decide) ?_
  refine V_istore_n (lv' := [some (.ref (a 0)), some (.int v1), some (.int 0)]) C 2 dX7_acted_56 rfl (by decide) rfl ?_
  exact v_X7_acted_b57 C hr hlk z FUEL u v1 0
set_option maxRecDepth 20000 in
theorem v_X7_acted_b16 {x : Am} {d : Dt} {A : Nat → Prop} {a : Nat → Nat} (C : Cx x cX7_acted 3 yX7_acted.cls d (Imu d A x.s.heap)) (hr : x.meth.sig.returnType = (some .int)) (hlk : x.meth.locks = false) (z : Int32 × UX) (n : Nat) (u : UX) (v1 : Int32) (v2 : Int32) : V x (rmF 0 0) 0 0 (MQ x.below (QW d A (WX d a z.2) (some (.int z.1))) x.args x.s 0 0 A) 3 (Imu d A x.s.heap) (f_X7_acted_b16 n u v1 v2 = some z) 16 (WX d a u) [some (.ref (a 0)), some (.int v1), some (.int v2)] [] := by
  induction n generalizing u v1 v2 with
  | zero => exact V_none
  | succ n ih =>
    rw [f_X7_acted_b16]
    refine V_iload_n C 2 dX7_acted_16 rfl rfl ?_
    refine V_sipush (v := 792) C dX7_acted_17 (by decide) ?_
    refine V_icmp_ge (tgt := 45) C dX7_acted_20 (by decide) ?_ ?_
    · refine V_aload_n C 0 dX7_acted_45 rfl rfl ?_
      refine V_dup C dX7_acted_46 rfl ?_
      refine V_get (v := .int u.2.2.2.2.1) C fx7 0 4 kf_X7_31 (by decide) rfl rfl dX7_acted_47 ?_
      refine V_iconst (v := 1) C dX7_acted_50 (by decide) ?_
      refine V_isub C dX7_acted_51 ?_
      refine V_putI (ws' := WX d a (u.1, u.2.1, u.2.2.1, u.2.2.2.1, (u.2.2.2.2.1 - 1), u.2.2.2.2.2.1, u.2.2.2.2.2.2.1, u.2.2.2.2.2.2.2.1, u.2.2.2.2.2.2.2.2.1, u.2.2.2.2.2.2.2.2.2.1, u.2.2.2.2.2.2.2.2.2.2.1, u.2.2.2.2.2.2.2.2.2.2.2.1, u.2.2.2.2.2.2.2.2.2.2.2.2.1, u.2.2.2.2.2.2.2.2.2.2.2.2.2)) C fx7 0 4 kf_X7_31 (by decide) rfl rfl rfl (Nat.le_of_ble_eq_true rfl) rfl dX7_acted_52 ?_
      refine V_mask (lv' := [some (.ref (a 0)), some (.int v1), none]) [true, true, false] rfl ?_
      exact v_X7_acted_b55 C hr hlk z (u.1, u.2.1, u.2.2.1, u.2.2.2.1, (u.2.2.2.2.1 - 1), u.2.2.2.2.2.1, u.2.2.2.2.2.2.1, u.2.2.2.2.2.2.2.1, u.2.2.2.2.2.2.2.2.1, u.2.2.2.2.2.2.2.2.2.1, u.2.2.2.2.2.2.2.2.2.2.1, u.2.2.2.2.2.2.2.2.2.2.2.1, u.2.2.2.2.2.2.2.2.2.2.2.2.1, u.2.2.2.2.2.2.2.2.2.2.2.2.2) v1
    · refine V_aload_n C 0 dX7_acted_23 rfl rfl ?_
      refine V_get (v := .ref (a 2)) C fx7 0 1 kf_X7_13 (by decide) rfl rfl dX7_acted_24 ?_
      refine V_iload_n C 2 dX7_acted_27 rfl rfl ?_
      refine V_aload_n C 0 dX7_acted_28 rfl rfl ?_
      refine V_get (v := .ref (a 2)) C fx7 0 1 kf_X7_13 (by decide) rfl rfl dX7_acted_29 ?_
      refine V_iload_n C 2 dX7_acted_32 rfl rfl ?_
      refine V_sipush (v := 264) C dX7_acted_33 (by decide) ?_
      refine V_iadd C dX7_acted_36 ?_
      refine V_iald C 2 rfl dX7_acted_37 ?_
      refine V_iast (ws' := WX d a (u.1, (upd u.2.1 v2.toNatClampNeg (u.2.1 (v2 + 264).toNatClampNeg)), u.2.2.1, u.2.2.2.1, u.2.2.2.2.1, u.2.2.2.2.2.1, u.2.2.2.2.2.2.1, u.2.2.2.2.2.2.2.1, u.2.2.2.2.2.2.2.2.1, u.2.2.2.2.2.2.2.2.2.1, u.2.2.2.2.2.2.2.2.2.2.1, u.2.2.2.2.2.2.2.2.2.2.2.1, u.2.2.2.2.2.2.2.2.2.2.2.2.1, u.2.2.2.2.2.2.2.2.2.2.2.2.2)) C 2 (WX_get2 _ _ _) (WX_set2 _ _ _ _) dX7_acted_38 ?_
      refine V_iinc (v := (v2 + 1)) (lv' := [some (.ref (a 0)), some (.int v1), some (.int (v2 + 1))]) C dX7_acted_39 rfl rfl (by decide) rfl ?_
      refine V_goto (tgt := 16) C dX7_acted_42 (by decide) ?_
      exact ih (u.1, (upd u.2.1 v2.toNatClampNeg (u.2.1 (v2 + 264).toNatClampNeg)), u.2.2.1, u.2.2.2.1, u.2.2.2.2.1, u.2.2.2.2.2.1, u.2.2.2.2.2.2.1, u.2.2.2.2.2.2.2.1, u.2.2.2.2.2.2.2.2.1, u.2.2.2.2.2.2.2.2.2.1, u.2.2.2.2.2.2.2.2.2.2.1, u.2.2.2.2.2.2.2.2.2.2.2.1, u.2.2.2.2.2.2.2.2.2.2.2.2.1, u.2.2.2.2.2.2.2.2.2.2.2.2.2) v1 (v2 + 1)
set_option maxRecDepth 20000 in
theorem v_X7_acted {x : Am} {d : Dt} {A : Nat → Prop} {a : Nat → Nat} (C : Cx x cX7_acted 3 yX7_acted.cls d (Imu d A x.s.heap)) (hr : x.meth.sig.returnType = (some .int)) (hlk : x.meth.locks = false) (z : Int32 × UX) (u : UX) (p1 : Int32) : V x (rmF 0 0) 0 0 (MQ x.below (QW d A (WX d a z.2) (some (.int z.1))) x.args x.s 0 0 A) 3 (Imu d A x.s.heap) (f_X7_acted u p1 = some z) 0 (WX d a u) [some (.ref (a 0)), some (.int p1), none] [] := by
  unfold f_X7_acted
  refine V_iload_n C 1 dX7_acted_0 rfl rfl ?_
  refine V_ldc C kc_X7_30 dX7_acted_1 ?_
  refine V_icmp_le (tgt := 101) C dX7_acted_3 (by decide) ?_ ?_
  · refine V_iload_n C 1 dX7_acted_101 rfl rfl ?_
    exact V_iretW (Wd := fun w => WX d a w) C hr hlk dX7_acted_102 rfl
  · refine V_aload_n C 0 dX7_acted_6 rfl rfl ?_
    refine V_get (v := .int u.2.2.2.2.1) C fx7 0 4 kf_X7_31 (by decide) rfl rfl dX7_acted_7 ?_
    refine V_iconst (v := 4) C dX7_acted_10 (by decide) ?_
    refine V_icmp_ne (tgt := 55) C dX7_acted_11 (by decide) ?_ ?_
    · exact v_X7_acted_b55 C hr hlk z u p1
    · refine V_iconst (v := 0) C dX7_acted_14 (by decide) ?_
      refine V_istore_n (lv' := [some (.ref (a 0)), some (.int p1), some (.int 0)]) C 2 dX7_acted_15 rfl (by decide) rfl ?_
      exact v_X7_acted_b16 C hr hlk z FUEL u p1 0
set_option maxRecDepth 20000 in
theorem ct_X7_acted (l : Launch) (d : Dt) (a : Nat → Nat) (u : UX) (p1 : Int32) (z : Int32 × UX) (h : f_X7_acted u p1 = some z) : CtW l d yX7_acted cX7_acted 3 (some .int) (rmF 0 0) [.ref (a 0), .int p1] (WX d a u) (WX d a z.2) (some (.int z.1)) :=
  CtW.start (by decide) (Nat.le_of_ble_eq_true rfl) (by simp [Value.category]) [some (.ref (a 0)), some (.int p1), none] rfl (fun x A C hr hlk => V_eqv (fun _ => h) (v_X7_acted C hr hlk z u p1))

/-! MastRobotsModel.puts -/
def f_X7_puts_b2 : Nat → UX → Int32 → Option (UX)
  | 0, _, _ => none
  | n + 1, u, v1 => (if 264 ≤ v1 then some u else (if inb v1 264 = true then (if inb v1 264 = true then f_X7_puts_b2 n (u.1, u.2.1, u.2.2.1, (upd u.2.2.2.1 v1.toNatClampNeg (u.1 v1.toNatClampNeg)), u.2.2.2.2.1, u.2.2.2.2.2.1, u.2.2.2.2.2.2.1, u.2.2.2.2.2.2.2.1, u.2.2.2.2.2.2.2.2.1, u.2.2.2.2.2.2.2.2.2.1, u.2.2.2.2.2.2.2.2.2.2.1, u.2.2.2.2.2.2.2.2.2.2.2.1, u.2.2.2.2.2.2.2.2.2.2.2.2.1, u.2.2.2.2.2.2.2.2.2.2.2.2.2) (v1 + 1) else none) else none))
def f_X7_puts (u : UX) : Option (UX) :=
  f_X7_puts_b2 FUEL u 0
set_option maxRecDepth 20000 in
theorem v_X7_puts_b2 {x : Am} {d : Dt} {A : Nat → Prop} {a : Nat → Nat} (C : Cx x cX7_puts 2 yX7_puts.cls d (Imu d A x.s.heap)) (hr : x.meth.sig.returnType = none) (hlk : x.meth.locks = false) (z : UX) (n : Nat) (u : UX) (v1 : Int32) : V x (rmF 0 0) 0 0 (MQ x.below (QW d A (WX d a z) none) x.args x.s 0 0 A) 2 (Imu d A x.s.heap) (f_X7_puts_b2 n u v1 = some z) 2 (WX d a u) [some (.ref (a 0)), some (.int v1)] [] := by
  induction n generalizing u v1 with
  | zero => exact V_none
  | succ n ih =>
    rw [f_X7_puts_b2]
    refine V_iload_n C 1 dX7_puts_2 rfl rfl ?_
    refine V_sipush (v := 264) C dX7_puts_3 (by decide) ?_
    refine V_icmp_ge (tgt := 27) C dX7_puts_6 (by decide) ?_ ?_
    · exact V_vretW (Wd := fun w => WX d a w) C hr hlk dX7_puts_27 rfl
    · refine V_aload_n C 0 dX7_puts_9 rfl rfl ?_
      refine V_get (v := .ref (a 4)) C fx7 0 3 kf_X7_19 (by decide) rfl rfl dX7_puts_10 ?_
      refine V_iload_n C 1 dX7_puts_13 rfl rfl ?_
      refine V_aload_n C 0 dX7_puts_14 rfl rfl ?_
      refine V_get (v := .ref (a 1)) C fx7 0 0 kf_X7_7 (by decide) rfl rfl dX7_puts_15 ?_
      refine V_iload_n C 1 dX7_puts_18 rfl rfl ?_
      refine V_iald C 1 rfl dX7_puts_19 ?_
      refine V_iast (ws' := WX d a (u.1, u.2.1, u.2.2.1, (upd u.2.2.2.1 v1.toNatClampNeg (u.1 v1.toNatClampNeg)), u.2.2.2.2.1, u.2.2.2.2.2.1, u.2.2.2.2.2.2.1, u.2.2.2.2.2.2.2.1, u.2.2.2.2.2.2.2.2.1, u.2.2.2.2.2.2.2.2.2.1, u.2.2.2.2.2.2.2.2.2.2.1, u.2.2.2.2.2.2.2.2.2.2.2.1, u.2.2.2.2.2.2.2.2.2.2.2.2.1, u.2.2.2.2.2.2.2.2.2.2.2.2.2)) C 4 (WX_get4 _ _ _) (WX_set4 _ _ _ _) dX7_puts_20 ?_
      refine V_iinc (v := (v1 + 1)) (lv' := [some (.ref (a 0)), some (.int (v1 + 1))]) C dX7_puts_21 rfl rfl (by decide) rfl ?_
      refine V_goto (tgt := 2) C dX7_puts_24 (by decide) ?_
      exact ih (u.1, u.2.1, u.2.2.1, (upd u.2.2.2.1 v1.toNatClampNeg (u.1 v1.toNatClampNeg)), u.2.2.2.2.1, u.2.2.2.2.2.1, u.2.2.2.2.2.2.1, u.2.2.2.2.2.2.2.1, u.2.2.2.2.2.2.2.2.1, u.2.2.2.2.2.2.2.2.2.1, u.2.2.2.2.2.2.2.2.2.2.1, u.2.2.2.2.2.2.2.2.2.2.2.1, u.2.2.2.2.2.2.2.2.2.2.2.2.1, u.2.2.2.2.2.2.2.2.2.2.2.2.2) (v1 + 1)
set_option maxRecDepth 20000 in
theorem v_X7_puts {x : Am} {d : Dt} {A : Nat → Prop} {a : Nat → Nat} (C : Cx x cX7_puts 2 yX7_puts.cls d (Imu d A x.s.heap)) (hr : x.meth.sig.returnType = none) (hlk : x.meth.locks = false) (z : UX) (u : UX) : V x (rmF 0 0) 0 0 (MQ x.below (QW d A (WX d a z) none) x.args x.s 0 0 A) 2 (Imu d A x.s.heap) (f_X7_puts u = some z) 0 (WX d a u) [some (.ref (a 0)), none] [] := by
  unfold f_X7_puts
  refine V_iconst (v := 0) C dX7_puts_0 (by decide) ?_
  refine V_istore_n (lv' := [some (.ref (a 0)), some (.int 0)]) C 1 dX7_puts_1 rfl (by decide) rfl ?_
  exact v_X7_puts_b2 C hr hlk z FUEL u 0
set_option maxRecDepth 20000 in
theorem ct_X7_puts (l : Launch) (d : Dt) (a : Nat → Nat) (u : UX) (z : UX) (h : f_X7_puts u = some z) : CtW l d yX7_puts cX7_puts 2 none (rmF 0 0) [.ref (a 0)] (WX d a u) (WX d a z) none :=
  CtW.start (by decide) (Nat.le_of_ble_eq_true rfl) (by simp [Value.category]) [some (.ref (a 0)), none] rfl (fun x A C hr hlk => V_eqv (fun _ => h) (v_X7_puts C hr hlk z u))

/-! MastRobotsModel.restores -/
def f_X7_restores_b2 : Nat → UX → Int32 → Option (UX)
  | 0, _, _ => none
  | n + 1, u, v1 => (if 264 ≤ v1 then some u else (if inb v1 264 = true then (if inb v1 264 = true then f_X7_restores_b2 n ((upd u.1 v1.toNatClampNeg (u.2.2.2.1 v1.toNatClampNeg)), u.2.1, u.2.2.1, u.2.2.2.1, u.2.2.2.2.1, u.2.2.2.2.2.1, u.2.2.2.2.2.2.1, u.2.2.2.2.2.2.2.1, u.2.2.2.2.2.2.2.2.1, u.2.2.2.2.2.2.2.2.2.1, u.2.2.2.2.2.2.2.2.2.2.1, u.2.2.2.2.2.2.2.2.2.2.2.1, u.2.2.2.2.2.2.2.2.2.2.2.2.1, u.2.2.2.2.2.2.2.2.2.2.2.2.2) (v1 + 1) else none) else none))
def f_X7_restores (u : UX) : Option (UX) :=
  f_X7_restores_b2 FUEL u 0
set_option maxRecDepth 20000 in
theorem v_X7_restores_b2 {x : Am} {d : Dt} {A : Nat → Prop} {a : Nat → Nat} (C : Cx x cX7_restores 2 yX7_restores.cls d (Imu d A x.s.heap)) (hr : x.meth.sig.returnType = none) (hlk : x.meth.locks = false) (z : UX) (n : Nat) (u : UX) (v1 : Int32) : V x (rmF 0 0) 0 0 (MQ x.below (QW d A (WX d a z) none) x.args x.s 0 0 A) 2 (Imu d A x.s.heap) (f_X7_restores_b2 n u v1 = some z) 2 (WX d a u) [some (.ref (a 0)), some (.int v1)] [] := by
  induction n generalizing u v1 with
  | zero => exact V_none
  | succ n ih =>
    rw [f_X7_restores_b2]
    refine V_iload_n C 1 dX7_restores_2 rfl rfl ?_
    refine V_sipush (v := 264) C dX7_restores_3 (by decide) ?_
    refine V_icmp_ge (tgt := 27) C dX7_restores_6 (by decide) ?_ ?_
    · exact V_vretW (Wd := fun w => WX d a w) C hr hlk dX7_restores_27 rfl
    · refine V_aload_n C 0 dX7_restores_9 rfl rfl ?_
      refine V_get (v := .ref (a 1)) C fx7 0 0 kf_X7_7 (by decide) rfl rfl dX7_restores_10 ?_
      refine V_iload_n C 1 dX7_restores_13 rfl rfl ?_
      refine V_aload_n C 0 dX7_restores_14 rfl rfl ?_
      refine V_get (v := .ref (a 4)) C fx7 0 3 kf_X7_19 (by decide) rfl rfl dX7_restores_15 ?_
      refine V_iload_n C 1 dX7_restores_18 rfl rfl ?_
      refine V_iald C 4 rfl dX7_restores_19 ?_
      refine V_iast (ws' := WX d a ((upd u.1 v1.toNatClampNeg (u.2.2.2.1 v1.toNatClampNeg)), u.2.1, u.2.2.1, u.2.2.2.1, u.2.2.2.2.1, u.2.2.2.2.2.1, u.2.2.2.2.2.2.1, u.2.2.2.2.2.2.2.1, u.2.2.2.2.2.2.2.2.1, u.2.2.2.2.2.2.2.2.2.1, u.2.2.2.2.2.2.2.2.2.2.1, u.2.2.2.2.2.2.2.2.2.2.2.1, u.2.2.2.2.2.2.2.2.2.2.2.2.1, u.2.2.2.2.2.2.2.2.2.2.2.2.2)) C 1 (WX_get1 _ _ _) (WX_set1 _ _ _ _) dX7_restores_20 ?_
      refine V_iinc (v := (v1 + 1)) (lv' := [some (.ref (a 0)), some (.int (v1 + 1))]) C dX7_restores_21 rfl rfl (by decide) rfl ?_
      refine V_goto (tgt := 2) C dX7_restores_24 (by decide) ?_
      exact ih ((upd u.1 v1.toNatClampNeg (u.2.2.2.1 v1.toNatClampNeg)), u.2.1, u.2.2.1, u.2.2.2.1, u.2.2.2.2.1, u.2.2.2.2.2.1, u.2.2.2.2.2.2.1, u.2.2.2.2.2.2.2.1, u.2.2.2.2.2.2.2.2.1, u.2.2.2.2.2.2.2.2.2.1, u.2.2.2.2.2.2.2.2.2.2.1, u.2.2.2.2.2.2.2.2.2.2.2.1, u.2.2.2.2.2.2.2.2.2.2.2.2.1, u.2.2.2.2.2.2.2.2.2.2.2.2.2) (v1 + 1)
set_option maxRecDepth 20000 in
theorem v_X7_restores {x : Am} {d : Dt} {A : Nat → Prop} {a : Nat → Nat} (C : Cx x cX7_restores 2 yX7_restores.cls d (Imu d A x.s.heap)) (hr : x.meth.sig.returnType = none) (hlk : x.meth.locks = false) (z : UX) (u : UX) : V x (rmF 0 0) 0 0 (MQ x.below (QW d A (WX d a z) none) x.args x.s 0 0 A) 2 (Imu d A x.s.heap) (f_X7_restores u = some z) 0 (WX d a u) [some (.ref (a 0)), none] [] := by
  unfold f_X7_restores
  refine V_iconst (v := 0) C dX7_restores_0 (by decide) ?_
  refine V_istore_n (lv' := [some (.ref (a 0)), some (.int 0)]) C 1 dX7_restores_1 rfl (by decide) rfl ?_
  exact v_X7_restores_b2 C hr hlk z FUEL u 0
set_option maxRecDepth 20000 in
theorem ct_X7_restores (l : Launch) (d : Dt) (a : Nat → Nat) (u : UX) (z : UX) (h : f_X7_restores u = some z) : CtW l d yX7_restores cX7_restores 2 none (rmF 0 0) [.ref (a 0)] (WX d a u) (WX d a z) none :=
  CtW.start (by decide) (Nat.le_of_ble_eq_true rfl) (by simp [Value.category]) [some (.ref (a 0)), none] rfl (fun x A C hr hlk => V_eqv (fun _ => h) (v_X7_restores C hr hlk z u))

/-! MastRobotsModel.bring -/
def f_X7_bring_b82 : Nat → UX → Int32 → Int32 → Int32 → Int32 → Int32 → Option (Int32 × UX)
  | 0, _, _, _, _, _, _ => none
  | n + 1, u, v1, v2, v3, v4, v5 => (if 4 ≤ v5 then (if inb (48 + (4 * v4)) 264 = true then (if inb ((16 + (4 * v2)) + v3) 264 = true then ((f_X7_acted ((upd (upd (upd u.1 (48 + (4 * v4)).toNatClampNeg v1) ((16 + (4 * v2)) + v3).toNatClampNeg v4) 7 (((upd (upd u.1 (48 + (4 * v4)).toNatClampNeg v1) ((16 + (4 * v2)) + v3).toNatClampNeg v4) 7) + 1)), u.2.1, u.2.2.1, u.2.2.2.1, u.2.2.2.2.1, u.2.2.2.2.2.1, u.2.2.2.2.2.2.1, u.2.2.2.2.2.2.2.1, u.2.2.2.2.2.2.2.2.1, u.2.2.2.2.2.2.2.2.2.1, u.2.2.2.2.2.2.2.2.2.2.1, u.2.2.2.2.2.2.2.2.2.2.2.1, u.2.2.2.2.2.2.2.2.2.2.2.2.1, u.2.2.2.2.2.2.2.2.2.2.2.2.2) v4).bind fun r152 => some (r152.1, r152.2)) else none) else none) else (if inb ((48 + (4 * v4)) + v5) 264 = true then f_X7_bring_b82 n ((upd u.1 ((48 + (4 * v4)) + v5).toNatClampNeg 0), u.2.1, u.2.2.1, u.2.2.2.1, u.2.2.2.2.1, u.2.2.2.2.2.1, u.2.2.2.2.2.2.1, u.2.2.2.2.2.2.2.1, u.2.2.2.2.2.2.2.2.1, u.2.2.2.2.2.2.2.2.2.1, u.2.2.2.2.2.2.2.2.2.2.1, u.2.2.2.2.2.2.2.2.2.2.2.1, u.2.2.2.2.2.2.2.2.2.2.2.2.1, u.2.2.2.2.2.2.2.2.2.2.2.2.2) v1 v2 v3 v4 (v5 + 1) else none))
def f_X7_bring (u : UX) (p1 : Int32) (p2 : Int32) (p3 : Int32) : Option (Int32 × UX) :=
  ((f_X7_in p1 1 20).bind fun r4 => (if r4 = 0 then some ((-1000001), u) else ((f_X7_in p2 0 7).bind fun r14 => (if r14 = 0 then some ((-1000001), u) else ((f_X7_in p3 0 3).bind fun r23 => (if r23 = 0 then some ((-1000001), u) else (if inb ((16 + (4 * p2)) + p3) 264 = true then (if (u.1 ((16 + (4 * p2)) + p3).toNatClampNeg) < 0 then (if (u.1 7) = 30 then some ((-1000003), u) else ((f_X7_keeps u).bind fun r67 => f_X7_bring_b82 FUEL r67 p1 p2 p3 (r67.1 7) 0)) else some ((-1000002), u)) else none)))))))
set_option maxRecDepth 20000 in
theorem v_X7_bring_b82 {x : Am} {d : Dt} {A : Nat → Prop} {a : Nat → Nat} (C : Cx x cX7_bring 6 yX7_bring.cls d (Imu d A x.s.heap)) (hr : x.meth.sig.returnType = (some .int)) (hlk : x.meth.locks = false) (z : Int32 × UX) (n : Nat) (u : UX) (v1 : Int32) (v2 : Int32) (v3 : Int32) (v4 : Int32) (v5 : Int32) : V x (rmF 1 22) 0 0 (MQ x.below (QW d A (WX d a z.2) (some (.int z.1))) x.args x.s 0 0 A) 6 (Imu d A x.s.heap) (f_X7_bring_b82 n u v1 v2 v3 v4 v5 = some z) 82 (WX d a u) [some (.ref (a 0)), some (.int v1), some (.int v2), some (.int v3), some (.int v4), some (.int v5)] [] := by
  induction n generalizing u v1 v2 v3 v4 v5 with
  | zero => exact V_none
  | succ n ih =>
    rw [f_X7_bring_b82]
    refine V_iload C dX7_bring_82 rfl ?_
    refine V_iconst (v := 4) C dX7_bring_84 (by decide) ?_
    refine V_icmp_ge (tgt := 110) C dX7_bring_85 (by decide) ?_ ?_
    · refine V_aload_n C 0 dX7_bring_110 rfl rfl ?_
      refine V_get (v := .ref (a 1)) C fx7 0 0 kf_X7_7 (by decide) rfl rfl dX7_bring_111 ?_
      refine V_bipush (v := 48) C dX7_bring_114 (by decide) ?_
      refine V_iconst (v := 4) C dX7_bring_116 (by decide) ?_
      refine V_iload C dX7_bring_117 rfl ?_
      refine V_imul C dX7_bring_119 ?_
      refine V_iadd C dX7_bring_120 ?_
      refine V_iload_n C 1 dX7_bring_121 rfl rfl ?_
      refine V_iast (ws' := WX d a ((upd u.1 (48 + (4 * v4)).toNatClampNeg v1), u.2.1, u.2.2.1, u.2.2.2.1, u.2.2.2.2.1, u.2.2.2.2.2.1, u.2.2.2.2.2.2.1, u.2.2.2.2.2.2.2.1, u.2.2.2.2.2.2.2.2.1, u.2.2.2.2.2.2.2.2.2.1, u.2.2.2.2.2.2.2.2.2.2.1, u.2.2.2.2.2.2.2.2.2.2.2.1, u.2.2.2.2.2.2.2.2.2.2.2.2.1, u.2.2.2.2.2.2.2.2.2.2.2.2.2)) C 1 (WX_get1 _ _ _) (WX_set1 _ _ _ _) dX7_bring_122 ?_
      refine V_aload_n C 0 dX7_bring_123 rfl rfl ?_
      refine V_get (v := .ref (a 1)) C fx7 0 0 kf_X7_7 (by decide) rfl rfl dX7_bring_124 ?_
      refine V_bipush (v := 16) C dX7_bring_127 (by decide) ?_
      refine V_iconst (v := 4) C dX7_bring_129 (by decide) ?_
      refine V_iload_n C 2 dX7_bring_130 rfl rfl ?_
      refine V_imul C dX7_bring_131 ?_
      refine V_iadd C dX7_bring_132 ?_
      refine V_iload_n C 3 dX7_bring_133 rfl rfl ?_
      refine V_iadd C dX7_bring_134 ?_
      refine V_iload C dX7_bring_135 rfl ?_
      refine V_iast (ws' := WX d a ((upd (upd u.1 (48 + (4 * v4)).toNatClampNeg v1) ((16 + (4 * v2)) + v3).toNatClampNeg v4), u.2.1, u.2.2.1, u.2.2.2.1, u.2.2.2.2.1, u.2.2.2.2.2.1, u.2.2.2.2.2.2.1, u.2.2.2.2.2.2.2.1, u.2.2.2.2.2.2.2.2.1, u.2.2.2.2.2.2.2.2.2.1, u.2.2.2.2.2.2.2.2.2.2.1, u.2.2.2.2.2.2.2.2.2.2.2.1, u.2.2.2.2.2.2.2.2.2.2.2.2.1, u.2.2.2.2.2.2.2.2.2.2.2.2.2)) C 1 (WX_get1 _ _ _) (WX_set1 _ _ _ _) dX7_bring_137 ?_
      refine V_aload_n C 0 dX7_bring_138 rfl rfl ?_
      refine V_get (v := .ref (a 1)) C fx7 0 0 kf_X7_7 (by decide) rfl rfl dX7_bring_139 ?_
      refine V_bipush (v := 7) C dX7_bring_142 (by decide) ?_
      refine V_dup2 C dX7_bring_144 rfl rfl ?_
      refine V_ialdc C 1 7 rfl (by decide) (by decide) dX7_bring_145 ?_
      refine V_iconst (v := 1) C dX7_bring_146 (by decide) ?_
      refine V_iadd C dX7_bring_147 ?_
      refine V_iastc (ws' := WX d a ((upd (upd (upd u.1 (48 + (4 * v4)).toNatClampNeg v1) ((16 + (4 * v2)) + v3).toNatClampNeg v4) 7 (((upd (upd u.1 (48 + (4 * v4)).toNatClampNeg v1) ((16 + (4 * v2)) + v3).toNatClampNeg v4) 7) + 1)), u.2.1, u.2.2.1, u.2.2.2.1, u.2.2.2.2.1, u.2.2.2.2.2.1, u.2.2.2.2.2.2.1, u.2.2.2.2.2.2.2.1, u.2.2.2.2.2.2.2.2.1, u.2.2.2.2.2.2.2.2.2.1, u.2.2.2.2.2.2.2.2.2.2.1, u.2.2.2.2.2.2.2.2.2.2.2.1, u.2.2.2.2.2.2.2.2.2.2.2.2.1, u.2.2.2.2.2.2.2.2.2.2.2.2.2)) C 1 7 (WX_get1 _ _ _) (by decide) (by decide) (WX_set1 _ _ _ _) dX7_bring_148 ?_
      refine V_aload_n C 0 dX7_bring_149 rfl rfl ?_
      refine V_iload C dX7_bring_150 rfl ?_
      refine V_callWi (As := [.int v4]) (rest := []) (wc := WX d a ((upd (upd (upd u.1 (48 + (4 * v4)).toNatClampNeg v1) ((16 + (4 * v2)) + v3).toNatClampNeg v4) 7 (((upd (upd u.1 (48 + (4 * v4)).toNatClampNeg v1) ((16 + (4 * v2)) + v3).toNatClampNeg v4) 7) + 1)), u.2.1, u.2.2.1, u.2.2.2.1, u.2.2.2.2.1, u.2.2.2.2.2.1, u.2.2.2.2.2.2.1, u.2.2.2.2.2.2.2.1, u.2.2.2.2.2.2.2.2.1, u.2.2.2.2.2.2.2.2.2.1, u.2.2.2.2.2.2.2.2.2.2.1, u.2.2.2.2.2.2.2.2.2.2.2.1, u.2.2.2.2.2.2.2.2.2.2.2.2.1, u.2.2.2.2.2.2.2.2.2.2.2.2.2)) (Wd := fun w => WX d a w) C (fun r h => ct_X7_acted _ d a ((upd (upd (upd u.1 (48 + (4 * v4)).toNatClampNeg v1) ((16 + (4 * v2)) + v3).toNatClampNeg v4) 7 (((upd (upd u.1 (48 + (4 * v4)).toNatClampNeg v1) ((16 + (4 * v2)) + v3).toNatClampNeg v4) 7) + 1)), u.2.1, u.2.2.1, u.2.2.2.1, u.2.2.2.2.1, u.2.2.2.2.2.1, u.2.2.2.2.2.2.1, u.2.2.2.2.2.2.2.1, u.2.2.2.2.2.2.2.2.1, u.2.2.2.2.2.2.2.2.2.1, u.2.2.2.2.2.2.2.2.2.2.1, u.2.2.2.2.2.2.2.2.2.2.2.1, u.2.2.2.2.2.2.2.2.2.2.2.2.1, u.2.2.2.2.2.2.2.2.2.2.2.2.2) v4 r h) kv_X7_acted kl_X7_40 [0, 1, 2, 3, 4, 5] (fun w => WX d a w) dX7_bring_152 rfl rfl (fun _ => rfl) (fun _ => rfl) rfl rfl rfl (Nat.le_of_ble_eq_true rfl) ⟨(Nat.le_of_ble_eq_true rfl), (Nat.le_of_ble_eq_true rfl)⟩ rfl rfl ⟨Nat.le_refl _, Nat.le_refl _⟩ rfl (fun r152 hr152 => ?_)
      exact V_iretW (Wd := fun w => WX d a w) C hr hlk dX7_bring_155 rfl
    · refine V_aload_n C 0 dX7_bring_88 rfl rfl ?_
      refine V_get (v := .ref (a 1)) C fx7 0 0 kf_X7_7 (by decide) rfl rfl dX7_bring_89 ?_
      refine V_bipush (v := 48) C dX7_bring_92 (by decide) ?_
      refine V_iconst (v := 4) C dX7_bring_94 (by decide) ?_
      refine V_iload C dX7_bring_95 rfl ?_
      refine V_imul C dX7_bring_97 ?_
      refine V_iadd C dX7_bring_98 ?_
      refine V_iload C dX7_bring_99 rfl ?_
      refine V_iadd C dX7_bring_101 ?_
      refine V_iconst (v := 0) C dX7_bring_102 (by decide) ?_
      refine V_iast (ws' := WX d a ((upd u.1 ((48 + (4 * v4)) + v5).toNatClampNeg 0), u.2.1, u.2.2.1, u.2.2.2.1, u.2.2.2.2.1, u.2.2.2.2.2.1, u.2.2.2.2.2.2.1, u.2.2.2.2.2.2.2.1, u.2.2.2.2.2.2.2.2.1, u.2.2.2.2.2.2.2.2.2.1, u.2.2.2.2.2.2.2.2.2.2.1, u.2.2.2.2.2.2.2.2.2.2.2.1, u.2.2.2.2.2.2.2.2.2.2.2.2.1, u.2.2.2.2.2.2.2.2.2.2.2.2.2)) C 1 (WX_get1 _ _ _) (WX_set1 _ _ _ _) dX7_bring_103 ?_
      refine V_iinc (v := (v5 + 1)) (lv' := [some (.ref (a 0)), some (.int v1), some (.int v2), some (.int v3), some (.int v4), some (.int (v5 + 1))]) C dX7_bring_104 rfl rfl (by decide) rfl ?_
      refine V_goto (tgt := 82) C dX7_bring_107 (by decide) ?_
      exact ih ((upd u.1 ((48 + (4 * v4)) + v5).toNatClampNeg 0), u.2.1, u.2.2.1, u.2.2.2.1, u.2.2.2.2.1, u.2.2.2.2.2.1, u.2.2.2.2.2.2.1, u.2.2.2.2.2.2.2.1, u.2.2.2.2.2.2.2.2.1, u.2.2.2.2.2.2.2.2.2.1, u.2.2.2.2.2.2.2.2.2.2.1, u.2.2.2.2.2.2.2.2.2.2.2.1, u.2.2.2.2.2.2.2.2.2.2.2.2.1, u.2.2.2.2.2.2.2.2.2.2.2.2.2) v1 v2 v3 v4 (v5 + 1)
set_option maxRecDepth 20000 in
theorem v_X7_bring {x : Am} {d : Dt} {A : Nat → Prop} {a : Nat → Nat} (C : Cx x cX7_bring 6 yX7_bring.cls d (Imu d A x.s.heap)) (hr : x.meth.sig.returnType = (some .int)) (hlk : x.meth.locks = false) (z : Int32 × UX) (u : UX) (p1 : Int32) (p2 : Int32) (p3 : Int32) : V x (rmF 1 22) 0 0 (MQ x.below (QW d A (WX d a z.2) (some (.int z.1))) x.args x.s 0 0 A) 6 (Imu d A x.s.heap) (f_X7_bring u p1 p2 p3 = some z) 0 (WX d a u) [some (.ref (a 0)), some (.int p1), some (.int p2), some (.int p3), none, none] [] := by
  unfold f_X7_bring
  refine V_iload_n C 1 dX7_bring_0 rfl rfl ?_
  refine V_iconst (v := 1) C dX7_bring_1 (by decide) ?_
  refine V_bipush (v := 20) C dX7_bring_2 (by decide) ?_
  refine V_callSi (As := [.int p1, .int 1, .int 20]) (rest := []) (wc := []) C (fun r h => ct_X7_in _ d p1 1 20 r h) ks_X7_in kl_X7_26 [] dX7_bring_4 rfl rfl (Nat.le_of_ble_eq_true rfl) ⟨(Nat.le_of_ble_eq_true rfl), (Nat.le_of_ble_eq_true rfl)⟩ rfl rfl ⟨Nat.le_refl _, Nat.le_refl _⟩ rfl (fun r4 hr4 => ?_)
  refine V_if_eq (tgt := 29) C dX7_bring_7 (by decide) ?_ ?_
  · refine V_ldc C kc_X7_30 dX7_bring_29 ?_
    exact V_iretW (Wd := fun w => WX d a w) C hr hlk dX7_bring_31 rfl
  · refine V_iload_n C 2 dX7_bring_10 rfl rfl ?_
    refine V_iconst (v := 0) C dX7_bring_11 (by decide) ?_
    refine V_bipush (v := 7) C dX7_bring_12 (by decide) ?_
    refine V_callSi (As := [.int p2, .int 0, .int 7]) (rest := []) (wc := []) C (fun r h => ct_X7_in _ d p2 0 7 r h) ks_X7_in kl_X7_26 [] dX7_bring_14 rfl rfl (Nat.le_of_ble_eq_true rfl) ⟨(Nat.le_of_ble_eq_true rfl), (Nat.le_of_ble_eq_true rfl)⟩ rfl rfl ⟨Nat.le_refl _, Nat.le_refl _⟩ rfl (fun r14 hr14 => ?_)
    refine V_if_eq (tgt := 29) C dX7_bring_17 (by decide) ?_ ?_
    · refine V_ldc C kc_X7_30 dX7_bring_29 ?_
      exact V_iretW (Wd := fun w => WX d a w) C hr hlk dX7_bring_31 rfl
    · refine V_iload_n C 3 dX7_bring_20 rfl rfl ?_
      refine V_iconst (v := 0) C dX7_bring_21 (by decide) ?_
      refine V_iconst (v := 3) C dX7_bring_22 (by decide) ?_
      refine V_callSi (As := [.int p3, .int 0, .int 3]) (rest := []) (wc := []) C (fun r h => ct_X7_in _ d p3 0 3 r h) ks_X7_in kl_X7_26 [] dX7_bring_23 rfl rfl (Nat.le_of_ble_eq_true rfl) ⟨(Nat.le_of_ble_eq_true rfl), (Nat.le_of_ble_eq_true rfl)⟩ rfl rfl ⟨Nat.le_refl _, Nat.le_refl _⟩ rfl (fun r23 hr23 => ?_)
      refine V_if_ne (tgt := 32) C dX7_bring_26 (by decide) ?_ ?_
      · refine V_aload_n C 0 dX7_bring_32 rfl rfl ?_
        refine V_get (v := .ref (a 1)) C fx7 0 0 kf_X7_7 (by decide) rfl rfl dX7_bring_33 ?_
        refine V_bipush (v := 16) C dX7_bring_36 (by decide) ?_
        refine V_iconst (v := 4) C dX7_bring_38 (by decide) ?_
        refine V_iload_n C 2 dX7_bring_39 rfl rfl ?_
        refine V_imul C dX7_bring_40 ?_
        refine V_iadd C dX7_bring_41 ?_
        refine V_iload_n C 3 dX7_bring_42 rfl rfl ?_
        refine V_iadd C dX7_bring_43 ?_
        refine V_iald C 1 rfl dX7_bring_44 ?_
        refine V_if_lt (tgt := 51) C dX7_bring_45 (by decide) ?_ ?_
        · refine V_aload_n C 0 dX7_bring_51 rfl rfl ?_
          refine V_get (v := .ref (a 1)) C fx7 0 0 kf_X7_7 (by decide) rfl rfl dX7_bring_52 ?_
          refine V_bipush (v := 7) C dX7_bring_55 (by decide) ?_
          refine V_ialdc C 1 7 rfl (by decide) (by decide) dX7_bring_57 ?_
          refine V_bipush (v := 30) C dX7_bring_58 (by decide) ?_
          refine V_icmp_ne (tgt := 66) C dX7_bring_60 (by decide) ?_ ?_
          · refine V_aload_n C 0 dX7_bring_66 rfl rfl ?_
            refine V_callWv (As := []) (rest := []) (wc := WX d a u) (Wd := fun w => WX d a w) C (fun r h => ct_X7_keeps _ d a u r h) kv_X7_keeps kl_X7_37 [0, 1, 2, 3, 4, 5] (fun w => WX d a w) dX7_bring_67 rfl rfl (fun _ => rfl) (fun _ => rfl) rfl rfl rfl (Nat.le_of_ble_eq_true rfl) ⟨(Nat.le_of_ble_eq_true rfl), (Nat.le_of_ble_eq_true rfl)⟩ rfl rfl ⟨Nat.le_refl _, Nat.le_refl _⟩ rfl (fun r67 hr67 => ?_)
            refine V_aload_n C 0 dX7_bring_70 rfl rfl ?_
            refine V_get (v := .ref (a 1)) C fx7 0 0 kf_X7_7 (by decide) rfl rfl dX7_bring_71 ?_
            refine V_bipush (v := 7) C dX7_bring_74 (by decide) ?_
            refine V_ialdc C 1 7 rfl (by decide) (by decide) dX7_bring_76 ?_
            refine V_istore (lv' := [some (.ref (a 0)), some (.int p1), some (.int p2), some (.int p3), some (.int (r67.1 7)), none]) C dX7_bring_77 (by decide) rfl ?_
            refine V_iconst (v := 0) C dX7_bring_79 (by decide) ?_
            refine V_istore (lv' := [some (.ref (a 0)), some (.int p1), some (.int p2), some (.int p3), some (.int (r67.1 7)), some (.int 0)]) C dX7_bring_80 (by decide) rfl ?_
            exact v_X7_bring_b82 C hr hlk z FUEL r67 p1 p2 p3 (r67.1 7) 0
          · refine V_ldc C kc_X7_36 dX7_bring_63 ?_
            exact V_iretW (Wd := fun w => WX d a w) C hr hlk dX7_bring_65 rfl
        · refine V_ldc C kc_X7_35 dX7_bring_48 ?_
          exact V_iretW (Wd := fun w => WX d a w) C hr hlk dX7_bring_50 rfl
      · refine V_ldc C kc_X7_30 dX7_bring_29 ?_
        exact V_iretW (Wd := fun w => WX d a w) C hr hlk dX7_bring_31 rfl
set_option maxRecDepth 20000 in
theorem ct_X7_bring (l : Launch) (d : Dt) (a : Nat → Nat) (u : UX) (p1 : Int32) (p2 : Int32) (p3 : Int32) (z : Int32 × UX) (h : f_X7_bring u p1 p2 p3 = some z) : CtW l d yX7_bring cX7_bring 6 (some .int) (rmF 1 22) [.ref (a 0), .int p1, .int p2, .int p3] (WX d a u) (WX d a z.2) (some (.int z.1)) :=
  CtW.start (by decide) (Nat.le_of_ble_eq_true rfl) (by simp [Value.category]) [some (.ref (a 0)), some (.int p1), some (.int p2), some (.int p3), none, none] rfl (fun x A C hr hlk => V_eqv (fun _ => h) (v_X7_bring C hr hlk z u p1 p2 p3))

/-! MastRobotsModel.withNeighbors -/
def f_X7_withNeighbors_b31 (k4 : UX → Int32 → Int32 → Option (Int32)) (u : UX) (v2 : Int32) (s0 : Int32) (s1 : Int32) : Option (Int32) :=
  k4 u (s0 + s1) (v2 + 1)
def f_X7_withNeighbors_b4 : Nat → UX → Int32 → Int32 → Option (Int32)
  | 0, _, _, _ => none
  | n + 1, u, v1, v2 => (if (u.1 7) ≤ v2 then some v1 else ((f_X7_ca u v2 2).bind fun r19 => (if r19 = 3 then f_X7_withNeighbors_b31 (f_X7_withNeighbors_b4 n) u v2 v1 1 else f_X7_withNeighbors_b31 (f_X7_withNeighbors_b4 n) u v2 v1 0)))
def f_X7_withNeighbors (u : UX) : Option (Int32) :=
  f_X7_withNeighbors_b4 FUEL u 0 0
set_option maxRecDepth 20000 in
theorem v_X7_withNeighbors_b31 {x : Am} {d : Dt} {a : Nat → Nat} (C : Cx x cX7_withNeighbors 3 yX7_withNeighbors.cls d (Iro d x.s.heap)) (hr : x.meth.sig.returnType = (some .int)) (hlk : x.meth.locks = false) (z : Int32) (k4 : UX → Int32 → Int32 → Option (Int32)) (hk4 : ∀ (u : UX)(v1 : Int32)(v2 : Int32), V x (rmF 1 22) 0 0 (MQ x.below (QR (some (.int z))) x.args x.s 0 0 (fun _ => False)) 3 (Iro d x.s.heap) (k4 u v1 v2 = some z) 4 (WX d a u) [some (.ref (a 0)), some (.int v1), some (.int v2)] []) (u : UX) (v2 : Int32) (s0 : Int32) (s1 : Int32) : V x (rmF 1 22) 0 0 (MQ x.below (QR (some (.int z))) x.args x.s 0 0 (fun _ => False)) 3 (Iro d x.s.heap) (f_X7_withNeighbors_b31 k4 u v2 s0 s1 = some z) 31 (WX d a u) [some (.ref (a 0)), none, some (.int v2)] [.int s1, .int s0] := by
  unfold f_X7_withNeighbors_b31
  refine V_iadd C dX7_withNeighbors_31 ?_
  refine V_istore_n (lv' := [some (.ref (a 0)), some (.int (s0 + s1)), some (.int v2)]) C 1 dX7_withNeighbors_32 rfl (by decide) rfl ?_
  refine V_iinc (v := (v2 + 1)) (lv' := [some (.ref (a 0)), some (.int (s0 + s1)), some (.int (v2 + 1))]) C dX7_withNeighbors_33 rfl rfl (by decide) rfl ?_
  refine V_goto (tgt := 4) C dX7_withNeighbors_36 (by decide) ?_
  exact hk4 u (s0 + s1) (v2 + 1)
set_option maxRecDepth 20000 in
theorem v_X7_withNeighbors_b4 {x : Am} {d : Dt} {a : Nat → Nat} (C : Cx x cX7_withNeighbors 3 yX7_withNeighbors.cls d (Iro d x.s.heap)) (hr : x.meth.sig.returnType = (some .int)) (hlk : x.meth.locks = false) (z : Int32) (n : Nat) (u : UX) (v1 : Int32) (v2 : Int32) : V x (rmF 1 22) 0 0 (MQ x.below (QR (some (.int z))) x.args x.s 0 0 (fun _ => False)) 3 (Iro d x.s.heap) (f_X7_withNeighbors_b4 n u v1 v2 = some z) 4 (WX d a u) [some (.ref (a 0)), some (.int v1), some (.int v2)] [] := by
  induction n generalizing u v1 v2 with
  | zero => exact V_none
  | succ n ih =>
    rw [f_X7_withNeighbors_b4]
    refine V_iload_n C 2 dX7_withNeighbors_4 rfl rfl ?_
    refine V_aload_n C 0 dX7_withNeighbors_5 rfl rfl ?_
    refine V_get (v := .ref (a 1)) C fx7 0 0 kf_X7_7 (by decide) rfl rfl dX7_withNeighbors_6 ?_
    refine V_bipush (v := 7) C dX7_withNeighbors_9 (by decide) ?_
    refine V_ialdc C 1 7 rfl (by decide) (by decide) dX7_withNeighbors_11 ?_
    refine V_icmp_ge (tgt := 39) C dX7_withNeighbors_12 (by decide) ?_ ?_
    · refine V_iload_n C 1 dX7_withNeighbors_39 rfl rfl ?_
      exact V_iretR C hr hlk dX7_withNeighbors_40
    · refine V_iload_n C 1 dX7_withNeighbors_15 rfl rfl ?_
      refine V_aload_n C 0 dX7_withNeighbors_16 rfl rfl ?_
      refine V_iload_n C 2 dX7_withNeighbors_17 rfl rfl ?_
      refine V_iconst (v := 2) C dX7_withNeighbors_18 (by decide) ?_
      refine V_callRi (As := [.int v2, .int 2]) (rest := [.int v1]) (wc := WX d a u) C (fun r h => ct_X7_ca _ d a u v2 2 r h) kv_X7_ca kl_X7_44 [0, 1, 2, 3, 4, 5] dX7_withNeighbors_19 rfl rfl rfl rfl (Nat.le_of_ble_eq_true rfl) ⟨(Nat.le_of_ble_eq_true rfl), (Nat.le_of_ble_eq_true rfl)⟩ rfl rfl ⟨Nat.le_refl _, Nat.le_refl _⟩ rfl (fun r19 hr19 => ?_)
      refine V_iconst (v := 3) C dX7_withNeighbors_22 (by decide) ?_
      refine V_icmp_ne (tgt := 30) C dX7_withNeighbors_23 (by decide) ?_ ?_
      · refine V_iconst (v := 0) C dX7_withNeighbors_30 (by decide) ?_
        refine V_mask (lv' := [some (.ref (a 0)), none, some (.int v2)]) [true, false, true] rfl ?_
        exact v_X7_withNeighbors_b31 C hr hlk z (f_X7_withNeighbors_b4  n) ih u v2 v1 0
      · refine V_iconst (v := 1) C dX7_withNeighbors_26 (by decide) ?_
        refine V_goto (tgt := 31) C dX7_withNeighbors_27 (by decide) ?_
        refine V_mask (lv' := [some (.ref (a 0)), none, some (.int v2)]) [true, false, true] rfl ?_
        exact v_X7_withNeighbors_b31 C hr hlk z (f_X7_withNeighbors_b4  n) ih u v2 v1 1
set_option maxRecDepth 20000 in
theorem v_X7_withNeighbors {x : Am} {d : Dt} {a : Nat → Nat} (C : Cx x cX7_withNeighbors 3 yX7_withNeighbors.cls d (Iro d x.s.heap)) (hr : x.meth.sig.returnType = (some .int)) (hlk : x.meth.locks = false) (z : Int32) (u : UX) : V x (rmF 1 22) 0 0 (MQ x.below (QR (some (.int z))) x.args x.s 0 0 (fun _ => False)) 3 (Iro d x.s.heap) (f_X7_withNeighbors u = some z) 0 (WX d a u) [some (.ref (a 0)), none, none] [] := by
  unfold f_X7_withNeighbors
  refine V_iconst (v := 0) C dX7_withNeighbors_0 (by decide) ?_
  refine V_istore_n (lv' := [some (.ref (a 0)), some (.int 0), none]) C 1 dX7_withNeighbors_1 rfl (by decide) rfl ?_
  refine V_iconst (v := 0) C dX7_withNeighbors_2 (by decide) ?_
  refine V_istore_n (lv' := [some (.ref (a 0)), some (.int 0), some (.int 0)]) C 2 dX7_withNeighbors_3 rfl (by decide) rfl ?_
  exact v_X7_withNeighbors_b4 C hr hlk z FUEL u 0 0
set_option maxRecDepth 20000 in
theorem ct_X7_withNeighbors (l : Launch) (d : Dt) (a : Nat → Nat) (u : UX) (z : Int32) (h : f_X7_withNeighbors u = some z) : CtR l d yX7_withNeighbors cX7_withNeighbors 3 (some .int) (rmF 1 22) [.ref (a 0)] (WX d a u) (some (.int z)) :=
  CtR.start (by decide) (Nat.le_of_ble_eq_true rfl) (by simp [Value.category]) [some (.ref (a 0)), none, none] rfl (fun x C hr hlk => V_eqv (fun _ => h) (v_X7_withNeighbors C hr hlk z u))

/-! MastRobotsModel.standsAt -/
def f_X7_standsAt_b2 : Nat → UX → Int32 → Int32 → Option (Int32)
  | 0, _, _, _ => none
  | n + 1, u, v1, v2 => (if inb (16 + v2) 264 = true then (if (u.1 (16 + v2).toNatClampNeg) = v1 then some v2 else f_X7_standsAt_b2 n u v1 (v2 + 1)) else none)
def f_X7_standsAt (u : UX) (p1 : Int32) : Option (Int32) :=
  f_X7_standsAt_b2 FUEL u p1 0
set_option maxRecDepth 20000 in
theorem v_X7_standsAt_b2 {x : Am} {d : Dt} {a : Nat → Nat} (C : Cx x cX7_standsAt 3 yX7_standsAt.cls d (Iro d x.s.heap)) (hr : x.meth.sig.returnType = (some .int)) (hlk : x.meth.locks = false) (z : Int32) (n : Nat) (u : UX) (v1 : Int32) (v2 : Int32) : V x (rmF 0 0) 0 0 (MQ x.below (QR (some (.int z))) x.args x.s 0 0 (fun _ => False)) 3 (Iro d x.s.heap) (f_X7_standsAt_b2 n u v1 v2 = some z) 2 (WX d a u) [some (.ref (a 0)), some (.int v1), some (.int v2)] [] := by
  induction n generalizing u v1 v2 with
  | zero => exact V_none
  | succ n ih =>
    rw [f_X7_standsAt_b2]
    refine V_aload_n C 0 dX7_standsAt_2 rfl rfl ?_
    refine V_get (v := .ref (a 1)) C fx7 0 0 kf_X7_7 (by decide) rfl rfl dX7_standsAt_3 ?_
    refine V_bipush (v := 16) C dX7_standsAt_6 (by decide) ?_
    refine V_iload_n C 2 dX7_standsAt_8 rfl rfl ?_
    refine V_iadd C dX7_standsAt_9 ?_
    refine V_iald C 1 rfl dX7_standsAt_10 ?_
    refine V_iload_n C 1 dX7_standsAt_11 rfl rfl ?_
    refine V_icmp_eq (tgt := 21) C dX7_standsAt_12 (by decide) ?_ ?_
    · refine V_iload_n C 2 dX7_standsAt_21 rfl rfl ?_
      exact V_iretR C hr hlk dX7_standsAt_22
    · refine V_iinc (v := (v2 + 1)) (lv' := [some (.ref (a 0)), some (.int v1), some (.int (v2 + 1))]) C dX7_standsAt_15 rfl rfl (by decide) rfl ?_
      refine V_goto (tgt := 2) C dX7_standsAt_18 (by decide) ?_
      exact ih u v1 (v2 + 1)
set_option maxRecDepth 20000 in
theorem v_X7_standsAt {x : Am} {d : Dt} {a : Nat → Nat} (C : Cx x cX7_standsAt 3 yX7_standsAt.cls d (Iro d x.s.heap)) (hr : x.meth.sig.returnType = (some .int)) (hlk : x.meth.locks = false) (z : Int32) (u : UX) (p1 : Int32) : V x (rmF 0 0) 0 0 (MQ x.below (QR (some (.int z))) x.args x.s 0 0 (fun _ => False)) 3 (Iro d x.s.heap) (f_X7_standsAt u p1 = some z) 0 (WX d a u) [some (.ref (a 0)), some (.int p1), none] [] := by
  unfold f_X7_standsAt
  refine V_iconst (v := 0) C dX7_standsAt_0 (by decide) ?_
  refine V_istore_n (lv' := [some (.ref (a 0)), some (.int p1), some (.int 0)]) C 2 dX7_standsAt_1 rfl (by decide) rfl ?_
  exact v_X7_standsAt_b2 C hr hlk z FUEL u p1 0
set_option maxRecDepth 20000 in
theorem ct_X7_standsAt (l : Launch) (d : Dt) (a : Nat → Nat) (u : UX) (p1 : Int32) (z : Int32) (h : f_X7_standsAt u p1 = some z) : CtR l d yX7_standsAt cX7_standsAt 3 (some .int) (rmF 0 0) [.ref (a 0), .int p1] (WX d a u) (some (.int z)) :=
  CtR.start (by decide) (Nat.le_of_ble_eq_true rfl) (by simp [Value.category]) [some (.ref (a 0)), some (.int p1), none] rfl (fun x C hr hlk => V_eqv (fun _ => h) (v_X7_standsAt C hr hlk z u p1))

/-! MastRobotsModel.send -/
def f_X7_send_b147 (u : UX) (s1 : Int32) (s2 : Int32) : Option (Int32 × UX) :=
  ((f_X7_isAt u s1 s2).bind fun r147 => ((f_X7_withNeighbors r147).bind fun r152 => ((f_X7_acted r147 r152).bind fun r155 => some (r155.1, r155.2))))
def f_X7_send_b134 (u : UX) (v1 : Int32) (v4 : Int32) (s1 : Int32) (s2 : Int32) : Option (Int32 × UX) :=
  (if inb s1 264 = true then (if v4 = 0 then f_X7_send_b147 ((upd u.1 s1.toNatClampNeg s2), u.2.1, u.2.2.1, u.2.2.2.1, u.2.2.2.2.1, u.2.2.2.2.2.1, u.2.2.2.2.2.2.1, u.2.2.2.2.2.2.2.1, u.2.2.2.2.2.2.2.2.1, u.2.2.2.2.2.2.2.2.2.1, u.2.2.2.2.2.2.2.2.2.2.1, u.2.2.2.2.2.2.2.2.2.2.2.1, u.2.2.2.2.2.2.2.2.2.2.2.2.1, u.2.2.2.2.2.2.2.2.2.2.2.2.2) v1 0 else f_X7_send_b147 ((upd u.1 s1.toNatClampNeg s2), u.2.1, u.2.2.1, u.2.2.2.1, u.2.2.2.2.1, u.2.2.2.2.2.1, u.2.2.2.2.2.2.1, u.2.2.2.2.2.2.2.1, u.2.2.2.2.2.2.2.2.1, u.2.2.2.2.2.2.2.2.2.1, u.2.2.2.2.2.2.2.2.2.2.1, u.2.2.2.2.2.2.2.2.2.2.2.1, u.2.2.2.2.2.2.2.2.2.2.2.2.1, u.2.2.2.2.2.2.2.2.2.2.2.2.2) v1 3) else none)
def f_X7_send_b123 (u : UX) (v1 : Int32) (v4 : Int32) (s1 : Int32) (s2 : Int32) : Option (Int32 × UX) :=
  (if v4 = 0 then f_X7_send_b134 u v1 v4 (s1 + s2) v1 else f_X7_send_b134 u v1 v4 (s1 + s2) (-1))
def f_X7_send_b95 (u : UX) (v1 : Int32) (v2 : Int32) (v3 : Int32) (v4 : Int32) : Option (Int32 × UX) :=
  ((f_X7_keeps u).bind fun r96 => (if v4 = 0 then f_X7_send_b123 r96 v1 v4 16 ((4 * v2) + v3) else ((f_X7_standsAt r96 v1).bind fun r112 => f_X7_send_b123 r96 v1 v4 16 r112)))
def f_X7_send_b68 (u : UX) (v1 : Int32) (v2 : Int32) (v3 : Int32) (v4 : Int32) (s0 : Int32) (s1 : Int32) : Option (Int32 × UX) :=
  (if s0 = s1 then (if v4 = 0 then (if inb ((16 + (4 * v2)) + v3) 264 = true then (if (u.1 ((16 + (4 * v2)) + v3).toNatClampNeg) < 0 then f_X7_send_b95 u v1 v2 v3 v4 else some ((-1000002), u)) else none) else f_X7_send_b95 u v1 v2 v3 v4) else some ((-1000002), u))
def f_X7_send_b52 (u : UX) (v1 : Int32) (v2 : Int32) (v3 : Int32) (v4 : Int32) : Option (Int32 × UX) :=
  ((f_X7_ca u v1 2).bind fun r55 => (if v4 = 0 then f_X7_send_b68 u v1 v2 v3 v4 r55 3 else f_X7_send_b68 u v1 v2 v3 v4 r55 0))
def f_X7_send_b15 (u : UX) (v1 : Int32) (v2 : Int32) (v3 : Int32) (s0 : Int32) : Option (Int32 × UX) :=
  ((f_X7_isCartridge u v1).bind fun r19 => (if r19 = 0 then some ((-1000001), u) else (if s0 = 0 then ((f_X7_in v2 0 7).bind fun r34 => (if r34 = 0 then some ((-1000001), u) else ((f_X7_in v3 0 3).bind fun r43 => (if r43 = 0 then some ((-1000001), u) else f_X7_send_b52 u v1 v2 v3 s0)))) else f_X7_send_b52 u v1 v2 v3 s0)))
def f_X7_send_b14 (u : UX) (v1 : Int32) (v2 : Int32) (v3 : Int32) : Option (Int32 × UX) :=
  f_X7_send_b15 u v1 v2 v3 0
def f_X7_send (u : UX) (p1 : Int32) (p2 : Int32) (p3 : Int32) : Option (Int32 × UX) :=
  (if p2 = (-1) then (if p3 = (-1) then f_X7_send_b15 u p1 p2 p3 1 else f_X7_send_b14 u p1 p2 p3) else f_X7_send_b14 u p1 p2 p3)
set_option maxRecDepth 20000 in
theorem v_X7_send_b147 {x : Am} {d : Dt} {A : Nat → Prop} {a : Nat → Nat} (C : Cx x cX7_send 5 yX7_send.cls d (Imu d A x.s.heap)) (hr : x.meth.sig.returnType = (some .int)) (hlk : x.meth.locks = false) (z : Int32 × UX) (u : UX) (s1 : Int32) (s2 : Int32) : V x (rmF 2 44) 0 0 (MQ x.below (QW d A (WX d a z.2) (some (.int z.1))) x.args x.s 0 0 A) 5 (Imu d A x.s.heap) (f_X7_send_b147 u s1 s2 = some z) 147 (WX d a u) [some (.ref (a 0)), none, none, none, none] [.int s2, .int s1, .ref (a 0)] := by
  unfold f_X7_send_b147
  refine V_callWv (As := [.int s1, .int s2]) (rest := []) (wc := WX d a u) (Wd := fun w => WX d a w) C (fun r h => ct_X7_isAt _ d a u s1 s2 r h) kv_X7_isAt kl_X7_55 [0, 1, 2, 3, 4, 5] (fun w => WX d a w) dX7_send_147 rfl rfl (fun _ => rfl) (fun _ => rfl) rfl rfl rfl (Nat.le_of_ble_eq_true rfl) ⟨(Nat.le_of_ble_eq_true rfl), (Nat.le_of_ble_eq_true rfl)⟩ rfl rfl ⟨Nat.le_refl _, Nat.le_refl _⟩ rfl (fun r147 hr147 => ?_)
  refine V_aload_n C 0 dX7_send_150 rfl rfl ?_
  refine V_aload_n C 0 dX7_send_151 rfl rfl ?_
  refine V_callRi (As := []) (rest := [.ref (a 0)]) (wc := WX d a r147) C (fun r h => ct_X7_withNeighbors _ d a r147 r h) kv_X7_withNeighbors kl_X7_59 [0, 1, 2, 3, 4, 5] dX7_send_152 rfl rfl rfl rfl (Nat.le_of_ble_eq_true rfl) ⟨(Nat.le_of_ble_eq_true rfl), (Nat.le_of_ble_eq_true rfl)⟩ rfl rfl ⟨Nat.le_refl _, Nat.le_refl _⟩ rfl (fun r152 hr152 => ?_)
  refine V_callWi (As := [.int r152]) (rest := []) (wc := WX d a r147) (Wd := fun w => WX d a w) C (fun r h => ct_X7_acted _ d a r147 r152 r h) kv_X7_acted kl_X7_40 [0, 1, 2, 3, 4, 5] (fun w => WX d a w) dX7_send_155 rfl rfl (fun _ => rfl) (fun _ => rfl) rfl rfl rfl (Nat.le_of_ble_eq_true rfl) ⟨(Nat.le_of_ble_eq_true rfl), (Nat.le_of_ble_eq_true rfl)⟩ rfl rfl ⟨Nat.le_refl _, Nat.le_refl _⟩ rfl (fun r155 hr155 => ?_)
  exact V_iretW (Wd := fun w => WX d a w) C hr hlk dX7_send_158 rfl
set_option maxRecDepth 20000 in
theorem v_X7_send_b134 {x : Am} {d : Dt} {A : Nat → Prop} {a : Nat → Nat} (C : Cx x cX7_send 5 yX7_send.cls d (Imu d A x.s.heap)) (hr : x.meth.sig.returnType = (some .int)) (hlk : x.meth.locks = false) (z : Int32 × UX) (u : UX) (v1 : Int32) (v4 : Int32) (s1 : Int32) (s2 : Int32) : V x (rmF 2 44) 0 0 (MQ x.below (QW d A (WX d a z.2) (some (.int z.1))) x.args x.s 0 0 A) 5 (Imu d A x.s.heap) (f_X7_send_b134 u v1 v4 s1 s2 = some z) 134 (WX d a u) [some (.ref (a 0)), some (.int v1), none, none, some (.int v4)] [.int s2, .int s1, .ref (a 1)] := by
  unfold f_X7_send_b134
  refine V_iast (ws' := WX d a ((upd u.1 s1.toNatClampNeg s2), u.2.1, u.2.2.1, u.2.2.2.1, u.2.2.2.2.1, u.2.2.2.2.2.1, u.2.2.2.2.2.2.1, u.2.2.2.2.2.2.2.1, u.2.2.2.2.2.2.2.2.1, u.2.2.2.2.2.2.2.2.2.1, u.2.2.2.2.2.2.2.2.2.2.1, u.2.2.2.2.2.2.2.2.2.2.2.1, u.2.2.2.2.2.2.2.2.2.2.2.2.1, u.2.2.2.2.2.2.2.2.2.2.2.2.2)) C 1 (WX_get1 _ _ _) (WX_set1 _ _ _ _) dX7_send_134 ?_
  refine V_aload_n C 0 dX7_send_135 rfl rfl ?_
  refine V_iload_n C 1 dX7_send_136 rfl rfl ?_
  refine V_iload C dX7_send_137 rfl ?_
  refine V_if_eq (tgt := 146) C dX7_send_139 (by decide) ?_ ?_
  · refine V_iconst (v := 0) C dX7_send_146 (by decide) ?_
    refine V_mask (lv' := [some (.ref (a 0)), none, none, none, none]) [true, false, true, true, false] rfl ?_
    exact v_X7_send_b147 C hr hlk z ((upd u.1 s1.toNatClampNeg s2), u.2.1, u.2.2.1, u.2.2.2.1, u.2.2.2.2.1, u.2.2.2.2.2.1, u.2.2.2.2.2.2.1, u.2.2.2.2.2.2.2.1, u.2.2.2.2.2.2.2.2.1, u.2.2.2.2.2.2.2.2.2.1, u.2.2.2.2.2.2.2.2.2.2.1, u.2.2.2.2.2.2.2.2.2.2.2.1, u.2.2.2.2.2.2.2.2.2.2.2.2.1, u.2.2.2.2.2.2.2.2.2.2.2.2.2) v1 0
  · refine V_iconst (v := 3) C dX7_send_142 (by decide) ?_
    refine V_goto (tgt := 147) C dX7_send_143 (by decide) ?_
    refine V_mask (lv' := [some (.ref (a 0)), none, none, none, none]) [true, false, true, true, false] rfl ?_
    exact v_X7_send_b147 C hr hlk z ((upd u.1 s1.toNatClampNeg s2), u.2.1, u.2.2.1, u.2.2.2.1, u.2.2.2.2.1, u.2.2.2.2.2.1, u.2.2.2.2.2.2.1, u.2.2.2.2.2.2.2.1, u.2.2.2.2.2.2.2.2.1, u.2.2.2.2.2.2.2.2.2.1, u.2.2.2.2.2.2.2.2.2.2.1, u.2.2.2.2.2.2.2.2.2.2.2.1, u.2.2.2.2.2.2.2.2.2.2.2.2.1, u.2.2.2.2.2.2.2.2.2.2.2.2.2) v1 3
set_option maxRecDepth 20000 in
theorem v_X7_send_b123 {x : Am} {d : Dt} {A : Nat → Prop} {a : Nat → Nat} (C : Cx x cX7_send 5 yX7_send.cls d (Imu d A x.s.heap)) (hr : x.meth.sig.returnType = (some .int)) (hlk : x.meth.locks = false) (z : Int32 × UX) (u : UX) (v1 : Int32) (v4 : Int32) (s1 : Int32) (s2 : Int32) : V x (rmF 2 44) 0 0 (MQ x.below (QW d A (WX d a z.2) (some (.int z.1))) x.args x.s 0 0 A) 5 (Imu d A x.s.heap) (f_X7_send_b123 u v1 v4 s1 s2 = some z) 123 (WX d a u) [some (.ref (a 0)), some (.int v1), none, none, some (.int v4)] [.int s2, .int s1, .ref (a 1)] := by
  unfold f_X7_send_b123
  refine V_iadd C dX7_send_123 ?_
  refine V_iload C dX7_send_124 rfl ?_
  refine V_if_eq (tgt := 133) C dX7_send_126 (by decide) ?_ ?_
  · refine V_iload_n C 1 dX7_send_133 rfl rfl ?_
    exact v_X7_send_b134 C hr hlk z u v1 v4 (s1 + s2) v1
  · refine V_iconst (v := (-1)) C dX7_send_129 (by decide) ?_
    refine V_goto (tgt := 134) C dX7_send_130 (by decide) ?_
    exact v_X7_send_b134 C hr hlk z u v1 v4 (s1 + s2) (-1)
set_option maxRecDepth 20000 in
theorem v_X7_send_b95 {x : Am} {d : Dt} {A : Nat → Prop} {a : Nat → Nat} (C : Cx x cX7_send 5 yX7_send.cls d (Imu d A x.s.heap)) (hr : x.meth.sig.returnType = (some .int)) (hlk : x.meth.locks = false) (z : Int32 × UX) (u : UX) (v1 : Int32) (v2 : Int32) (v3 : Int32) (v4 : Int32) : V x (rmF 2 44) 0 0 (MQ x.below (QW d A (WX d a z.2) (some (.int z.1))) x.args x.s 0 0 A) 5 (Imu d A x.s.heap) (f_X7_send_b95 u v1 v2 v3 v4 = some z) 95 (WX d a u) [some (.ref (a 0)), some (.int v1), some (.int v2), some (.int v3), some (.int v4)] [] := by
  unfold f_X7_send_b95
  refine V_aload_n C 0 dX7_send_95 rfl rfl ?_
  refine V_callWv (As := []) (rest := []) (wc := WX d a u) (Wd := fun w => WX d a w) C (fun r h => ct_X7_keeps _ d a u r h) kv_X7_keeps kl_X7_37 [0, 1, 2, 3, 4, 5] (fun w => WX d a w) dX7_send_96 rfl rfl (fun _ => rfl) (fun _ => rfl) rfl rfl rfl (Nat.le_of_ble_eq_true rfl) ⟨(Nat.le_of_ble_eq_true rfl), (Nat.le_of_ble_eq_true rfl)⟩ rfl rfl ⟨Nat.le_refl _, Nat.le_refl _⟩ rfl (fun r96 hr96 => ?_)
  refine V_aload_n C 0 dX7_send_99 rfl rfl ?_
  refine V_get (v := .ref (a 1)) C fx7 0 0 kf_X7_7 (by decide) rfl rfl dX7_send_100 ?_
  refine V_bipush (v := 16) C dX7_send_103 (by decide) ?_
  refine V_iload C dX7_send_105 rfl ?_
  refine V_if_eq (tgt := 118) C dX7_send_107 (by decide) ?_ ?_
  · refine V_iconst (v := 4) C dX7_send_118 (by decide) ?_
    refine V_iload_n C 2 dX7_send_119 rfl rfl ?_
    refine V_imul C dX7_send_120 ?_
    refine V_iload_n C 3 dX7_send_121 rfl rfl ?_
    refine V_iadd C dX7_send_122 ?_
    refine V_mask (lv' := [some (.ref (a 0)), some (.int v1), none, none, some (.int v4)]) [true, true, false, false, true] rfl ?_
    exact v_X7_send_b123 C hr hlk z r96 v1 v4 16 ((4 * v2) + v3)
  · refine V_aload_n C 0 dX7_send_110 rfl rfl ?_
    refine V_iload_n C 1 dX7_send_111 rfl rfl ?_
    refine V_callRi (As := [.int v1]) (rest := [.int 16, .ref (a 1)]) (wc := WX d a r96) C (fun r h => ct_X7_standsAt _ d a r96 v1 r h) kv_X7_standsAt kl_X7_52 [0, 1, 2, 3, 4, 5] dX7_send_112 rfl rfl rfl rfl (Nat.le_of_ble_eq_true rfl) ⟨(Nat.le_of_ble_eq_true rfl), (Nat.le_of_ble_eq_true rfl)⟩ rfl rfl ⟨Nat.le_refl _, Nat.le_refl _⟩ rfl (fun r112 hr112 => ?_)
    refine V_goto (tgt := 123) C dX7_send_115 (by decide) ?_
    refine V_mask (lv' := [some (.ref (a 0)), some (.int v1), none, none, some (.int v4)]) [true, true, false, false, true] rfl ?_
    exact v_X7_send_b123 C hr hlk z r96 v1 v4 16 r112
set_option maxRecDepth 20000 in
theorem v_X7_send_b68 {x : Am} {d : Dt} {A : Nat → Prop} {a : Nat → Nat} (C : Cx x cX7_send 5 yX7_send.cls d (Imu d A x.s.heap)) (hr : x.meth.sig.returnType = (some .int)) (hlk : x.meth.locks = false) (z : Int32 × UX) (u : UX) (v1 : Int32) (v2 : Int32) (v3 : Int32) (v4 : Int32) (s0 : Int32) (s1 : Int32) : V x (rmF 2 44) 0 0 (MQ x.below (QW d A (WX d a z.2) (some (.int z.1))) x.args x.s 0 0 A) 5 (Imu d A x.s.heap) (f_X7_send_b68 u v1 v2 v3 v4 s0 s1 = some z) 68 (WX d a u) [some (.ref (a 0)), some (.int v1), some (.int v2), some (.int v3), some (.int v4)] [.int s1, .int s0] := by
  unfold f_X7_send_b68
  refine V_icmp_ne (tgt := 92) C dX7_send_68 (by decide) ?_ ?_
  · refine V_ldc C kc_X7_35 dX7_send_92 ?_
    exact V_iretW (Wd := fun w => WX d a w) C hr hlk dX7_send_94 rfl
  · refine V_iload C dX7_send_71 rfl ?_
    refine V_if_ne (tgt := 95) C dX7_send_73 (by decide) ?_ ?_
    · exact v_X7_send_b95 C hr hlk z u v1 v2 v3 v4
    · refine V_aload_n C 0 dX7_send_76 rfl rfl ?_
      refine V_get (v := .ref (a 1)) C fx7 0 0 kf_X7_7 (by decide) rfl rfl dX7_send_77 ?_
      refine V_bipush (v := 16) C dX7_send_80 (by decide) ?_
      refine V_iconst (v := 4) C dX7_send_82 (by decide) ?_
      refine V_iload_n C 2 dX7_send_83 rfl rfl ?_
      refine V_imul C dX7_send_84 ?_
      refine V_iadd C dX7_send_85 ?_
      refine V_iload_n C 3 dX7_send_86 rfl rfl ?_
      refine V_iadd C dX7_send_87 ?_
      refine V_iald C 1 rfl dX7_send_88 ?_
      refine V_if_lt (tgt := 95) C dX7_send_89 (by decide) ?_ ?_
      · exact v_X7_send_b95 C hr hlk z u v1 v2 v3 v4
      · refine V_ldc C kc_X7_35 dX7_send_92 ?_
        exact V_iretW (Wd := fun w => WX d a w) C hr hlk dX7_send_94 rfl
set_option maxRecDepth 20000 in
theorem v_X7_send_b52 {x : Am} {d : Dt} {A : Nat → Prop} {a : Nat → Nat} (C : Cx x cX7_send 5 yX7_send.cls d (Imu d A x.s.heap)) (hr : x.meth.sig.returnType = (some .int)) (hlk : x.meth.locks = false) (z : Int32 × UX) (u : UX) (v1 : Int32) (v2 : Int32) (v3 : Int32) (v4 : Int32) : V x (rmF 2 44) 0 0 (MQ x.below (QW d A (WX d a z.2) (some (.int z.1))) x.args x.s 0 0 A) 5 (Imu d A x.s.heap) (f_X7_send_b52 u v1 v2 v3 v4 = some z) 52 (WX d a u) [some (.ref (a 0)), some (.int v1), some (.int v2), some (.int v3), some (.int v4)] [] := by
  unfold f_X7_send_b52
  refine V_aload_n C 0 dX7_send_52 rfl rfl ?_
  refine V_iload_n C 1 dX7_send_53 rfl rfl ?_
  refine V_iconst (v := 2) C dX7_send_54 (by decide) ?_
  refine V_callRi (As := [.int v1, .int 2]) (rest := []) (wc := WX d a u) C (fun r h => ct_X7_ca _ d a u v1 2 r h) kv_X7_ca kl_X7_44 [0, 1, 2, 3, 4, 5] dX7_send_55 rfl rfl rfl rfl (Nat.le_of_ble_eq_true rfl) ⟨(Nat.le_of_ble_eq_true rfl), (Nat.le_of_ble_eq_true rfl)⟩ rfl rfl ⟨Nat.le_refl _, Nat.le_refl _⟩ rfl (fun r55 hr55 => ?_)
  refine V_iload C dX7_send_58 rfl ?_
  refine V_if_eq (tgt := 67) C dX7_send_60 (by decide) ?_ ?_
  · refine V_iconst (v := 3) C dX7_send_67 (by decide) ?_
    exact v_X7_send_b68 C hr hlk z u v1 v2 v3 v4 r55 3
  · refine V_iconst (v := 0) C dX7_send_63 (by decide) ?_
    refine V_goto (tgt := 68) C dX7_send_64 (by decide) ?_
    exact v_X7_send_b68 C hr hlk z u v1 v2 v3 v4 r55 0
set_option maxRecDepth 20000 in
theorem v_X7_send_b15 {x : Am} {d : Dt} {A : Nat → Prop} {a : Nat → Nat} (C : Cx x cX7_send 5 yX7_send.cls d (Imu d A x.s.heap)) (hr : x.meth.sig.returnType = (some .int)) (hlk : x.meth.locks = false) (z : Int32 × UX) (u : UX) (v1 : Int32) (v2 : Int32) (v3 : Int32) (s0 : Int32) : V x (rmF 2 44) 0 0 (MQ x.below (QW d A (WX d a z.2) (some (.int z.1))) x.args x.s 0 0 A) 5 (Imu d A x.s.heap) (f_X7_send_b15 u v1 v2 v3 s0 = some z) 15 (WX d a u) [some (.ref (a 0)), some (.int v1), some (.int v2), some (.int v3), none] [.int s0] := by
  unfold f_X7_send_b15
  refine V_istore (lv' := [some (.ref (a 0)), some (.int v1), some (.int v2), some (.int v3), some (.int s0)]) C dX7_send_15 (by decide) rfl ?_
  refine V_aload_n C 0 dX7_send_17 rfl rfl ?_
  refine V_iload_n C 1 dX7_send_18 rfl rfl ?_
  refine V_callRi (As := [.int v1]) (rest := []) (wc := WX d a u) C (fun r h => ct_X7_isCartridge _ d a u v1 r h) kv_X7_isCartridge kl_X7_48 [0, 1, 2, 3, 4, 5] dX7_send_19 rfl rfl rfl rfl (Nat.le_of_ble_eq_true rfl) ⟨(Nat.le_of_ble_eq_true rfl), (Nat.le_of_ble_eq_true rfl)⟩ rfl rfl ⟨Nat.le_refl _, Nat.le_refl _⟩ rfl (fun r19 hr19 => ?_)
  refine V_if_eq (tgt := 49) C dX7_send_22 (by decide) ?_ ?_
  · refine V_ldc C kc_X7_30 dX7_send_49 ?_
    exact V_iretW (Wd := fun w => WX d a w) C hr hlk dX7_send_51 rfl
  · refine V_iload C dX7_send_25 rfl ?_
    refine V_if_ne (tgt := 52) C dX7_send_27 (by decide) ?_ ?_
    · exact v_X7_send_b52 C hr hlk z u v1 v2 v3 s0
    · refine V_iload_n C 2 dX7_send_30 rfl rfl ?_
      refine V_iconst (v := 0) C dX7_send_31 (by decide) ?_
      refine V_bipush (v := 7) C dX7_send_32 (by decide) ?_
      refine V_callSi (As := [.int v2, .int 0, .int 7]) (rest := []) (wc := []) C (fun r h => ct_X7_in _ d v2 0 7 r h) ks_X7_in kl_X7_26 [] dX7_send_34 rfl rfl (Nat.le_of_ble_eq_true rfl) ⟨(Nat.le_of_ble_eq_true rfl), (Nat.le_of_ble_eq_true rfl)⟩ rfl rfl ⟨Nat.le_refl _, Nat.le_refl _⟩ rfl (fun r34 hr34 => ?_)
      refine V_if_eq (tgt := 49) C dX7_send_37 (by decide) ?_ ?_
      · refine V_ldc C kc_X7_30 dX7_send_49 ?_
        exact V_iretW (Wd := fun w => WX d a w) C hr hlk dX7_send_51 rfl
      · refine V_iload_n C 3 dX7_send_40 rfl rfl ?_
        refine V_iconst (v := 0) C dX7_send_41 (by decide) ?_
        refine V_iconst (v := 3) C dX7_send_42 (by decide) ?_
        refine V_callSi (As := [.int v3, .int 0, .int 3]) (rest := []) (wc := []) C (fun r h => ct_X7_in _ d v3 0 3 r h) ks_X7_in kl_X7_26 [] dX7_send_43 rfl rfl (Nat.le_of_ble_eq_true rfl) ⟨(Nat.le_of_ble_eq_true rfl), (Nat.le_of_ble_eq_true rfl)⟩ rfl rfl ⟨Nat.le_refl _, Nat.le_refl _⟩ rfl (fun r43 hr43 => ?_)
        refine V_if_ne (tgt := 52) C dX7_send_46 (by decide) ?_ ?_
        · exact v_X7_send_b52 C hr hlk z u v1 v2 v3 s0
        · refine V_ldc C kc_X7_30 dX7_send_49 ?_
          exact V_iretW (Wd := fun w => WX d a w) C hr hlk dX7_send_51 rfl
set_option maxRecDepth 20000 in
theorem v_X7_send_b14 {x : Am} {d : Dt} {A : Nat → Prop} {a : Nat → Nat} (C : Cx x cX7_send 5 yX7_send.cls d (Imu d A x.s.heap)) (hr : x.meth.sig.returnType = (some .int)) (hlk : x.meth.locks = false) (z : Int32 × UX) (u : UX) (v1 : Int32) (v2 : Int32) (v3 : Int32) : V x (rmF 2 44) 0 0 (MQ x.below (QW d A (WX d a z.2) (some (.int z.1))) x.args x.s 0 0 A) 5 (Imu d A x.s.heap) (f_X7_send_b14 u v1 v2 v3 = some z) 14 (WX d a u) [some (.ref (a 0)), some (.int v1), some (.int v2), some (.int v3), none] [] := by
  unfold f_X7_send_b14
  refine V_iconst (v := 0) C dX7_send_14 (by decide) ?_
  exact v_X7_send_b15 C hr hlk z u v1 v2 v3 0
set_option maxRecDepth 20000 in
theorem v_X7_send {x : Am} {d : Dt} {A : Nat → Prop} {a : Nat → Nat} (C : Cx x cX7_send 5 yX7_send.cls d (Imu d A x.s.heap)) (hr : x.meth.sig.returnType = (some .int)) (hlk : x.meth.locks = false) (z : Int32 × UX) (u : UX) (p1 : Int32) (p2 : Int32) (p3 : Int32) : V x (rmF 2 44) 0 0 (MQ x.below (QW d A (WX d a z.2) (some (.int z.1))) x.args x.s 0 0 A) 5 (Imu d A x.s.heap) (f_X7_send u p1 p2 p3 = some z) 0 (WX d a u) [some (.ref (a 0)), some (.int p1), some (.int p2), some (.int p3), none] [] := by
  unfold f_X7_send
  refine V_iload_n C 2 dX7_send_0 rfl rfl ?_
  refine V_iconst (v := (-1)) C dX7_send_1 (by decide) ?_
  refine V_icmp_ne (tgt := 14) C dX7_send_2 (by decide) ?_ ?_
  · exact v_X7_send_b14 C hr hlk z u p1 p2 p3
  · refine V_iload_n C 3 dX7_send_5 rfl rfl ?_
    refine V_iconst (v := (-1)) C dX7_send_6 (by decide) ?_
    refine V_icmp_ne (tgt := 14) C dX7_send_7 (by decide) ?_ ?_
    · exact v_X7_send_b14 C hr hlk z u p1 p2 p3
    · refine V_iconst (v := 1) C dX7_send_10 (by decide) ?_
      refine V_goto (tgt := 15) C dX7_send_11 (by decide) ?_
      exact v_X7_send_b15 C hr hlk z u p1 p2 p3 1
set_option maxRecDepth 20000 in
theorem ct_X7_send (l : Launch) (d : Dt) (a : Nat → Nat) (u : UX) (p1 : Int32) (p2 : Int32) (p3 : Int32) (z : Int32 × UX) (h : f_X7_send u p1 p2 p3 = some z) : CtW l d yX7_send cX7_send 5 (some .int) (rmF 2 44) [.ref (a 0), .int p1, .int p2, .int p3] (WX d a u) (WX d a z.2) (some (.int z.1)) :=
  CtW.start (by decide) (Nat.le_of_ble_eq_true rfl) (by simp [Value.category]) [some (.ref (a 0)), some (.int p1), some (.int p2), some (.int p3), none] rfl (fun x A C hr hlk => V_eqv (fun _ => h) (v_X7_send C hr hlk z u p1 p2 p3))

/-! MastRobotsModel.weight -/
def f_X7_weight_b4 : Nat → UX → Int32 → Int32 → Option (Int32)
  | 0, _, _, _ => none
  | n + 1, u, v1, v2 => (if (u.1 2) ≤ v2 then some v1 else (if inb (3 + v2) 264 = true then ((f_X7_ca u (u.1 (3 + v2).toNatClampNeg) 0).bind fun r25 => f_X7_weight_b4 n u (v1 + r25) (v2 + 1)) else none))
def f_X7_weight (u : UX) : Option (Int32) :=
  f_X7_weight_b4 FUEL u 0 0
set_option maxRecDepth 20000 in
theorem v_X7_weight_b4 {x : Am} {d : Dt} {a : Nat → Nat} (C : Cx x cX7_weight 3 yX7_weight.cls d (Iro d x.s.heap)) (hr : x.meth.sig.returnType = (some .int)) (hlk : x.meth.locks = false) (z : Int32) (n : Nat) (u : UX) (v1 : Int32) (v2 : Int32) : V x (rmF 1 22) 0 0 (MQ x.below (QR (some (.int z))) x.args x.s 0 0 (fun _ => False)) 3 (Iro d x.s.heap) (f_X7_weight_b4 n u v1 v2 = some z) 4 (WX d a u) [some (.ref (a 0)), some (.int v1), some (.int v2)] [] := by
  induction n generalizing u v1 v2 with
  | zero => exact V_none
  | succ n ih =>
    rw [f_X7_weight_b4]
    refine V_iload_n C 2 dX7_weight_4 rfl rfl ?_
    refine V_aload_n C 0 dX7_weight_5 rfl rfl ?_
    refine V_get (v := .ref (a 1)) C fx7 0 0 kf_X7_7 (by decide) rfl rfl dX7_weight_6 ?_
    refine V_iconst (v := 2) C dX7_weight_9 (by decide) ?_
    refine V_ialdc C 1 2 rfl (by decide) (by decide) dX7_weight_10 ?_
    refine V_icmp_ge (tgt := 36) C dX7_weight_11 (by decide) ?_ ?_
    · refine V_iload_n C 1 dX7_weight_36 rfl rfl ?_
      exact V_iretR C hr hlk dX7_weight_37
    · refine V_iload_n C 1 dX7_weight_14 rfl rfl ?_
      refine V_aload_n C 0 dX7_weight_15 rfl rfl ?_
      refine V_aload_n C 0 dX7_weight_16 rfl rfl ?_
      refine V_get (v := .ref (a 1)) C fx7 0 0 kf_X7_7 (by decide) rfl rfl dX7_weight_17 ?_
      refine V_iconst (v := 3) C dX7_weight_20 (by decide) ?_
      refine V_iload_n C 2 dX7_weight_21 rfl rfl ?_
      refine V_iadd C dX7_weight_22 ?_
      refine V_iald C 1 rfl dX7_weight_23 ?_
      refine V_iconst (v := 0) C dX7_weight_24 (by decide) ?_
      refine V_callRi (As := [.int (u.1 (3 + v2).toNatClampNeg), .int 0]) (rest := [.int v1]) (wc := WX d a u) C (fun r h => ct_X7_ca _ d a u (u.1 (3 + v2).toNatClampNeg) 0 r h) kv_X7_ca kl_X7_44 [0, 1, 2, 3, 4, 5] dX7_weight_25 rfl rfl rfl rfl (Nat.le_of_ble_eq_true rfl) ⟨(Nat.le_of_ble_eq_true rfl), (Nat.le_of_ble_eq_true rfl)⟩ rfl rfl ⟨Nat.le_refl _, Nat.le_refl _⟩ rfl (fun r25 hr25 => ?_)
      refine V_iadd C dX7_weight_28 ?_
      refine V_istore_n (lv' := [some (.ref (a 0)), some (.int (v1 + r25)), some (.int v2)]) C 1 dX7_weight_29 rfl (by decide) rfl ?_
      refine V_iinc (v := (v2 + 1)) (lv' := [some (.ref (a 0)), some (.int (v1 + r25)), some (.int (v2 + 1))]) C dX7_weight_30 rfl rfl (by decide) rfl ?_
      refine V_goto (tgt := 4) C dX7_weight_33 (by decide) ?_
      exact ih u (v1 + r25) (v2 + 1)
set_option maxRecDepth 20000 in
theorem v_X7_weight {x : Am} {d : Dt} {a : Nat → Nat} (C : Cx x cX7_weight 3 yX7_weight.cls d (Iro d x.s.heap)) (hr : x.meth.sig.returnType = (some .int)) (hlk : x.meth.locks = false) (z : Int32) (u : UX) : V x (rmF 1 22) 0 0 (MQ x.below (QR (some (.int z))) x.args x.s 0 0 (fun _ => False)) 3 (Iro d x.s.heap) (f_X7_weight u = some z) 0 (WX d a u) [some (.ref (a 0)), none, none] [] := by
  unfold f_X7_weight
  refine V_iconst (v := 0) C dX7_weight_0 (by decide) ?_
  refine V_istore_n (lv' := [some (.ref (a 0)), some (.int 0), none]) C 1 dX7_weight_1 rfl (by decide) rfl ?_
  refine V_iconst (v := 0) C dX7_weight_2 (by decide) ?_
  refine V_istore_n (lv' := [some (.ref (a 0)), some (.int 0), some (.int 0)]) C 2 dX7_weight_3 rfl (by decide) rfl ?_
  exact v_X7_weight_b4 C hr hlk z FUEL u 0 0
set_option maxRecDepth 20000 in
theorem ct_X7_weight (l : Launch) (d : Dt) (a : Nat → Nat) (u : UX) (z : Int32) (h : f_X7_weight u = some z) : CtR l d yX7_weight cX7_weight 3 (some .int) (rmF 1 22) [.ref (a 0)] (WX d a u) (some (.int z)) :=
  CtR.start (by decide) (Nat.le_of_ble_eq_true rfl) (by simp [Value.category]) [some (.ref (a 0)), none, none] rfl (fun x C hr hlk => V_eqv (fun _ => h) (v_X7_weight C hr hlk z u))

/-! MastRobotsModel.most -/
def f_X7_most (u : UX) : Option (Int32) :=
  ((f_X7_weight u).bind fun r1 => (if 10 < r1 then ((f_X7_weight u).bind fun r14 => (if 20 < r14 then some 1 else some 2)) else some 4))
set_option maxRecDepth 20000 in
theorem v_X7_most {x : Am} {d : Dt} {a : Nat → Nat} (C : Cx x cX7_most 1 yX7_most.cls d (Iro d x.s.heap)) (hr : x.meth.sig.returnType = (some .int)) (hlk : x.meth.locks = false) (z : Int32) (u : UX) : V x (rmF 2 44) 0 0 (MQ x.below (QR (some (.int z))) x.args x.s 0 0 (fun _ => False)) 1 (Iro d x.s.heap) (f_X7_most u = some z) 0 (WX d a u) [some (.ref (a 0))] [] := by
  unfold f_X7_most
  refine V_aload_n C 0 dX7_most_0 rfl rfl ?_
  refine V_callRi (As := []) (rest := []) (wc := WX d a u) C (fun r h => ct_X7_weight _ d a u r h) kv_X7_weight kl_X7_63 [0, 1, 2, 3, 4, 5] dX7_most_1 rfl rfl rfl rfl (Nat.le_of_ble_eq_true rfl) ⟨(Nat.le_of_ble_eq_true rfl), (Nat.le_of_ble_eq_true rfl)⟩ rfl rfl ⟨Nat.le_refl _, Nat.le_refl _⟩ rfl (fun r1 hr1 => ?_)
  refine V_bipush (v := 10) C dX7_most_4 (by decide) ?_
  refine V_icmp_gt (tgt := 13) C dX7_most_6 (by decide) ?_ ?_
  · refine V_aload_n C 0 dX7_most_13 rfl rfl ?_
    refine V_callRi (As := []) (rest := []) (wc := WX d a u) C (fun r h => ct_X7_weight _ d a u r h) kv_X7_weight kl_X7_63 [0, 1, 2, 3, 4, 5] dX7_most_14 rfl rfl rfl rfl (Nat.le_of_ble_eq_true rfl) ⟨(Nat.le_of_ble_eq_true rfl), (Nat.le_of_ble_eq_true rfl)⟩ rfl rfl ⟨Nat.le_refl _, Nat.le_refl _⟩ rfl (fun r14 hr14 => ?_)
    refine V_bipush (v := 20) C dX7_most_17 (by decide) ?_
    refine V_icmp_gt (tgt := 26) C dX7_most_19 (by decide) ?_ ?_
    · refine V_iconst (v := 1) C dX7_most_26 (by decide) ?_
      exact V_iretR C hr hlk dX7_most_27
    · refine V_iconst (v := 2) C dX7_most_22 (by decide) ?_
      refine V_goto (tgt := 27) C dX7_most_23 (by decide) ?_
      exact V_iretR C hr hlk dX7_most_27
  · refine V_iconst (v := 4) C dX7_most_9 (by decide) ?_
    refine V_goto (tgt := 27) C dX7_most_10 (by decide) ?_
    exact V_iretR C hr hlk dX7_most_27
set_option maxRecDepth 20000 in
theorem ct_X7_most (l : Launch) (d : Dt) (a : Nat → Nat) (u : UX) (z : Int32) (h : f_X7_most u = some z) : CtR l d yX7_most cX7_most 1 (some .int) (rmF 2 44) [.ref (a 0)] (WX d a u) (some (.int z)) :=
  CtR.start (by decide) (Nat.le_of_ble_eq_true rfl) (by simp [Value.category]) [some (.ref (a 0))] rfl (fun x C hr hlk => V_eqv (fun _ => h) (v_X7_most C hr hlk z u))

/-! MastRobotsModel.comes -/
def f_X7_comes (u : UX) (p1 : Int32) : Option (UX) :=
  (if inb (3 + (u.1 2)) 264 = true then ((f_X7_isAt ((upd (upd (upd u.1 (3 + (u.1 2)).toNatClampNeg p1) 2 (((upd u.1 (3 + (u.1 2)).toNatClampNeg p1) 2) + 1)) 6 0), u.2.1, u.2.2.1, u.2.2.2.1, u.2.2.2.2.1, u.2.2.2.2.2.1, u.2.2.2.2.2.2.1, u.2.2.2.2.2.2.2.1, u.2.2.2.2.2.2.2.2.1, u.2.2.2.2.2.2.2.2.2.1, u.2.2.2.2.2.2.2.2.2.2.1, u.2.2.2.2.2.2.2.2.2.2.2.1, u.2.2.2.2.2.2.2.2.2.2.2.2.1, u.2.2.2.2.2.2.2.2.2.2.2.2.2) p1 1).bind fun r35 => some r35) else none)
set_option maxRecDepth 20000 in
theorem v_X7_comes {x : Am} {d : Dt} {A : Nat → Prop} {a : Nat → Nat} (C : Cx x cX7_comes 2 yX7_comes.cls d (Imu d A x.s.heap)) (hr : x.meth.sig.returnType = none) (hlk : x.meth.locks = false) (z : UX) (u : UX) (p1 : Int32) : V x (rmF 1 22) 0 0 (MQ x.below (QW d A (WX d a z) none) x.args x.s 0 0 A) 2 (Imu d A x.s.heap) (f_X7_comes u p1 = some z) 0 (WX d a u) [some (.ref (a 0)), some (.int p1)] [] := by
  unfold f_X7_comes
  refine V_aload_n C 0 dX7_comes_0 rfl rfl ?_
  refine V_get (v := .ref (a 1)) C fx7 0 0 kf_X7_7 (by decide) rfl rfl dX7_comes_1 ?_
  refine V_iconst (v := 3) C dX7_comes_4 (by decide) ?_
  refine V_aload_n C 0 dX7_comes_5 rfl rfl ?_
  refine V_get (v := .ref (a 1)) C fx7 0 0 kf_X7_7 (by decide) rfl rfl dX7_comes_6 ?_
  refine V_iconst (v := 2) C dX7_comes_9 (by decide) ?_
  refine V_ialdc C 1 2 rfl (by decide) (by decide) dX7_comes_10 ?_
  refine V_iadd C dX7_comes_11 ?_
  refine V_iload_n C 1 dX7_comes_12 rfl rfl ?_
  refine V_iast (ws' := WX d a ((upd u.1 (3 + (u.1 2)).toNatClampNeg p1), u.2.1, u.2.2.1, u.2.2.2.1, u.2.2.2.2.1, u.2.2.2.2.2.1, u.2.2.2.2.2.2.1, u.2.2.2.2.2.2.2.1, u.2.2.2.2.2.2.2.2.1, u.2.2.2.2.2.2.2.2.2.1, u.2.2.2.2.2.2.2.2.2.2.1, u.2.2.2.2.2.2.2.2.2.2.2.1, u.2.2.2.2.2.2.2.2.2.2.2.2.1, u.2.2.2.2.2.2.2.2.2.2.2.2.2)) C 1 (WX_get1 _ _ _) (WX_set1 _ _ _ _) dX7_comes_13 ?_
  refine V_aload_n C 0 dX7_comes_14 rfl rfl ?_
  refine V_get (v := .ref (a 1)) C fx7 0 0 kf_X7_7 (by decide) rfl rfl dX7_comes_15 ?_
  refine V_iconst (v := 2) C dX7_comes_18 (by decide) ?_
  refine V_dup2 C dX7_comes_19 rfl rfl ?_
  refine V_ialdc C 1 2 rfl (by decide) (by decide) dX7_comes_20 ?_
  refine V_iconst (v := 1) C dX7_comes_21 (by decide) ?_
  refine V_iadd C dX7_comes_22 ?_
  refine V_iastc (ws' := WX d a ((upd (upd u.1 (3 + (u.1 2)).toNatClampNeg p1) 2 (((upd u.1 (3 + (u.1 2)).toNatClampNeg p1) 2) + 1)), u.2.1, u.2.2.1, u.2.2.2.1, u.2.2.2.2.1, u.2.2.2.2.2.1, u.2.2.2.2.2.2.1, u.2.2.2.2.2.2.2.1, u.2.2.2.2.2.2.2.2.1, u.2.2.2.2.2.2.2.2.2.1, u.2.2.2.2.2.2.2.2.2.2.1, u.2.2.2.2.2.2.2.2.2.2.2.1, u.2.2.2.2.2.2.2.2.2.2.2.2.1, u.2.2.2.2.2.2.2.2.2.2.2.2.2)) C 1 2 (WX_get1 _ _ _) (by decide) (by decide) (WX_set1 _ _ _ _) dX7_comes_23 ?_
  refine V_aload_n C 0 dX7_comes_24 rfl rfl ?_
  refine V_get (v := .ref (a 1)) C fx7 0 0 kf_X7_7 (by decide) rfl rfl dX7_comes_25 ?_
  refine V_bipush (v := 6) C dX7_comes_28 (by decide) ?_
  refine V_iconst (v := 0) C dX7_comes_30 (by decide) ?_
  refine V_iastc (ws' := WX d a ((upd (upd (upd u.1 (3 + (u.1 2)).toNatClampNeg p1) 2 (((upd u.1 (3 + (u.1 2)).toNatClampNeg p1) 2) + 1)) 6 0), u.2.1, u.2.2.1, u.2.2.2.1, u.2.2.2.2.1, u.2.2.2.2.2.1, u.2.2.2.2.2.2.1, u.2.2.2.2.2.2.2.1, u.2.2.2.2.2.2.2.2.1, u.2.2.2.2.2.2.2.2.2.1, u.2.2.2.2.2.2.2.2.2.2.1, u.2.2.2.2.2.2.2.2.2.2.2.1, u.2.2.2.2.2.2.2.2.2.2.2.2.1, u.2.2.2.2.2.2.2.2.2.2.2.2.2)) C 1 6 (WX_get1 _ _ _) (by decide) (by decide) (WX_set1 _ _ _ _) dX7_comes_31 ?_
  refine V_aload_n C 0 dX7_comes_32 rfl rfl ?_
  refine V_iload_n C 1 dX7_comes_33 rfl rfl ?_
  refine V_iconst (v := 1) C dX7_comes_34 (by decide) ?_
  refine V_callWv (As := [.int p1, .int 1]) (rest := []) (wc := WX d a ((upd (upd (upd u.1 (3 + (u.1 2)).toNatClampNeg p1) 2 (((upd u.1 (3 + (u.1 2)).toNatClampNeg p1) 2) + 1)) 6 0), u.2.1, u.2.2.1, u.2.2.2.1, u.2.2.2.2.1, u.2.2.2.2.2.1, u.2.2.2.2.2.2.1, u.2.2.2.2.2.2.2.1, u.2.2.2.2.2.2.2.2.1, u.2.2.2.2.2.2.2.2.2.1, u.2.2.2.2.2.2.2.2.2.2.1, u.2.2.2.2.2.2.2.2.2.2.2.1, u.2.2.2.2.2.2.2.2.2.2.2.2.1, u.2.2.2.2.2.2.2.2.2.2.2.2.2)) (Wd := fun w => WX d a w) C (fun r h => ct_X7_isAt _ d a ((upd (upd (upd u.1 (3 + (u.1 2)).toNatClampNeg p1) 2 (((upd u.1 (3 + (u.1 2)).toNatClampNeg p1) 2) + 1)) 6 0), u.2.1, u.2.2.1, u.2.2.2.1, u.2.2.2.2.1, u.2.2.2.2.2.1, u.2.2.2.2.2.2.1, u.2.2.2.2.2.2.2.1, u.2.2.2.2.2.2.2.2.1, u.2.2.2.2.2.2.2.2.2.1, u.2.2.2.2.2.2.2.2.2.2.1, u.2.2.2.2.2.2.2.2.2.2.2.1, u.2.2.2.2.2.2.2.2.2.2.2.2.1, u.2.2.2.2.2.2.2.2.2.2.2.2.2) p1 1 r h) kv_X7_isAt kl_X7_55 [0, 1, 2, 3, 4, 5] (fun w => WX d a w) dX7_comes_35 rfl rfl (fun _ => rfl) (fun _ => rfl) rfl rfl rfl (Nat.le_of_ble_eq_true rfl) ⟨(Nat.le_of_ble_eq_true rfl), (Nat.le_of_ble_eq_true rfl)⟩ rfl rfl ⟨Nat.le_refl _, Nat.le_refl _⟩ rfl (fun r35 hr35 => ?_)
  exact V_vretW (Wd := fun w => WX d a w) C hr hlk dX7_comes_38 rfl
set_option maxRecDepth 20000 in
theorem ct_X7_comes (l : Launch) (d : Dt) (a : Nat → Nat) (u : UX) (p1 : Int32) (z : UX) (h : f_X7_comes u p1 = some z) : CtW l d yX7_comes cX7_comes 2 none (rmF 1 22) [.ref (a 0), .int p1] (WX d a u) (WX d a z) none :=
  CtW.start (by decide) (Nat.le_of_ble_eq_true rfl) (by simp [Value.category]) [some (.ref (a 0)), some (.int p1)] rfl (fun x A C hr hlk => V_eqv (fun _ => h) (v_X7_comes C hr hlk z u p1))

/-! MastRobotsModel.leaves -/
def f_X7_leaves (u : UX) : Option (Int32 × UX) :=
  (if inb (3 + ((upd (upd u.1 2 ((u.1 2) - 1)) 6 0) 2)) 264 = true then some (((upd (upd u.1 2 ((u.1 2) - 1)) 6 0) (3 + ((upd (upd u.1 2 ((u.1 2) - 1)) 6 0) 2)).toNatClampNeg), ((upd (upd u.1 2 ((u.1 2) - 1)) 6 0), u.2.1, u.2.2.1, u.2.2.2.1, u.2.2.2.2.1, u.2.2.2.2.2.1, u.2.2.2.2.2.2.1, u.2.2.2.2.2.2.2.1, u.2.2.2.2.2.2.2.2.1, u.2.2.2.2.2.2.2.2.2.1, u.2.2.2.2.2.2.2.2.2.2.1, u.2.2.2.2.2.2.2.2.2.2.2.1, u.2.2.2.2.2.2.2.2.2.2.2.2.1, u.2.2.2.2.2.2.2.2.2.2.2.2.2)) else none)
set_option maxRecDepth 20000 in
theorem v_X7_leaves {x : Am} {d : Dt} {A : Nat → Prop} {a : Nat → Nat} (C : Cx x cX7_leaves 1 yX7_leaves.cls d (Imu d A x.s.heap)) (hr : x.meth.sig.returnType = (some .int)) (hlk : x.meth.locks = false) (z : Int32 × UX) (u : UX) : V x (rmF 0 0) 0 0 (MQ x.below (QW d A (WX d a z.2) (some (.int z.1))) x.args x.s 0 0 A) 1 (Imu d A x.s.heap) (f_X7_leaves u = some z) 0 (WX d a u) [some (.ref (a 0))] [] := by
  unfold f_X7_leaves
  refine V_aload_n C 0 dX7_leaves_0 rfl rfl ?_
  refine V_get (v := .ref (a 1)) C fx7 0 0 kf_X7_7 (by decide) rfl rfl dX7_leaves_1 ?_
  refine V_iconst (v := 2) C dX7_leaves_4 (by decide) ?_
  refine V_dup2 C dX7_leaves_5 rfl rfl ?_
  refine V_ialdc C 1 2 rfl (by decide) (by decide) dX7_leaves_6 ?_
  refine V_iconst (v := 1) C dX7_leaves_7 (by decide) ?_
  refine V_isub C dX7_leaves_8 ?_
  refine V_iastc (ws' := WX d a ((upd u.1 2 ((u.1 2) - 1)), u.2.1, u.2.2.1, u.2.2.2.1, u.2.2.2.2.1, u.2.2.2.2.2.1, u.2.2.2.2.2.2.1, u.2.2.2.2.2.2.2.1, u.2.2.2.2.2.2.2.2.1, u.2.2.2.2.2.2.2.2.2.1, u.2.2.2.2.2.2.2.2.2.2.1, u.2.2.2.2.2.2.2.2.2.2.2.1, u.2.2.2.2.2.2.2.2.2.2.2.2.1, u.2.2.2.2.2.2.2.2.2.2.2.2.2)) C 1 2 (WX_get1 _ _ _) (by decide) (by decide) (WX_set1 _ _ _ _) dX7_leaves_9 ?_
  refine V_aload_n C 0 dX7_leaves_10 rfl rfl ?_
  refine V_get (v := .ref (a 1)) C fx7 0 0 kf_X7_7 (by decide) rfl rfl dX7_leaves_11 ?_
  refine V_bipush (v := 6) C dX7_leaves_14 (by decide) ?_
  refine V_iconst (v := 0) C dX7_leaves_16 (by decide) ?_
  refine V_iastc (ws' := WX d a ((upd (upd u.1 2 ((u.1 2) - 1)) 6 0), u.2.1, u.2.2.1, u.2.2.2.1, u.2.2.2.2.1, u.2.2.2.2.2.1, u.2.2.2.2.2.2.1, u.2.2.2.2.2.2.2.1, u.2.2.2.2.2.2.2.2.1, u.2.2.2.2.2.2.2.2.2.1, u.2.2.2.2.2.2.2.2.2.2.1, u.2.2.2.2.2.2.2.2.2.2.2.1, u.2.2.2.2.2.2.2.2.2.2.2.2.1, u.2.2.2.2.2.2.2.2.2.2.2.2.2)) C 1 6 (WX_get1 _ _ _) (by decide) (by decide) (WX_set1 _ _ _ _) dX7_leaves_17 ?_
  refine V_aload_n C 0 dX7_leaves_18 rfl rfl ?_
  refine V_get (v := .ref (a 1)) C fx7 0 0 kf_X7_7 (by decide) rfl rfl dX7_leaves_19 ?_
  refine V_iconst (v := 3) C dX7_leaves_22 (by decide) ?_
  refine V_aload_n C 0 dX7_leaves_23 rfl rfl ?_
  refine V_get (v := .ref (a 1)) C fx7 0 0 kf_X7_7 (by decide) rfl rfl dX7_leaves_24 ?_
  refine V_iconst (v := 2) C dX7_leaves_27 (by decide) ?_
  refine V_ialdc C 1 2 rfl (by decide) (by decide) dX7_leaves_28 ?_
  refine V_iadd C dX7_leaves_29 ?_
  refine V_iald C 1 rfl dX7_leaves_30 ?_
  exact V_iretW (Wd := fun w => WX d a w) C hr hlk dX7_leaves_31 rfl
set_option maxRecDepth 20000 in
theorem ct_X7_leaves (l : Launch) (d : Dt) (a : Nat → Nat) (u : UX) (z : Int32 × UX) (h : f_X7_leaves u = some z) : CtW l d yX7_leaves cX7_leaves 1 (some .int) (rmF 0 0) [.ref (a 0)] (WX d a u) (WX d a z.2) (some (.int z.1)) :=
  CtW.start (by decide) (Nat.le_of_ble_eq_true rfl) (by simp [Value.category]) [some (.ref (a 0))] rfl (fun x A C hr hlk => V_eqv (fun _ => h) (v_X7_leaves C hr hlk z u))

/-! MastRobotsModel.lifts -/
def f_X7_lifts (u : UX) (p1 : Int32) : Option (Int32 × UX) :=
  ((f_X7_in p1 0 3).bind fun r3 => (if r3 = 0 then some ((-1000001), u) else (if inb ((16 + (4 * (u.1 1))) + p1) 264 = true then (if 0 ≤ (u.1 ((16 + (4 * (u.1 1))) + p1).toNatClampNeg) then (if (u.1 2) = 3 then some ((-1000003), u) else (if inb ((16 + (4 * (u.1 1))) + p1) 264 = true then ((f_X7_comes ((upd u.1 ((16 + (4 * (u.1 1))) + p1).toNatClampNeg (-1)), u.2.1, u.2.2.1, u.2.2.2.1, u.2.2.2.2.1, u.2.2.2.2.2.1, u.2.2.2.2.2.2.1, u.2.2.2.2.2.2.2.1, u.2.2.2.2.2.2.2.2.1, u.2.2.2.2.2.2.2.2.2.1, u.2.2.2.2.2.2.2.2.2.2.1, u.2.2.2.2.2.2.2.2.2.2.2.1, u.2.2.2.2.2.2.2.2.2.2.2.2.1, u.2.2.2.2.2.2.2.2.2.2.2.2.2) (u.1 ((16 + (4 * (u.1 1))) + p1).toNatClampNeg)).bind fun r62 => some ((u.1 ((16 + (4 * (u.1 1))) + p1).toNatClampNeg), ((upd r62.1 0 ((r62.1 0) + 1)), r62.2.1, r62.2.2.1, r62.2.2.2.1, r62.2.2.2.2.1, r62.2.2.2.2.2.1, r62.2.2.2.2.2.2.1, r62.2.2.2.2.2.2.2.1, r62.2.2.2.2.2.2.2.2.1, r62.2.2.2.2.2.2.2.2.2.1, r62.2.2.2.2.2.2.2.2.2.2.1, r62.2.2.2.2.2.2.2.2.2.2.2.1, r62.2.2.2.2.2.2.2.2.2.2.2.2.1, r62.2.2.2.2.2.2.2.2.2.2.2.2.2))) else none)) else some ((-1000002), u)) else none)))
set_option maxRecDepth 20000 in
theorem v_X7_lifts {x : Am} {d : Dt} {A : Nat → Prop} {a : Nat → Nat} (C : Cx x cX7_lifts 4 yX7_lifts.cls d (Imu d A x.s.heap)) (hr : x.meth.sig.returnType = (some .int)) (hlk : x.meth.locks = false) (z : Int32 × UX) (u : UX) (p1 : Int32) : V x (rmF 2 43) 0 0 (MQ x.below (QW d A (WX d a z.2) (some (.int z.1))) x.args x.s 0 0 A) 4 (Imu d A x.s.heap) (f_X7_lifts u p1 = some z) 0 (WX d a u) [some (.ref (a 0)), some (.int p1), none, none] [] := by
  unfold f_X7_lifts
  refine V_iload_n C 1 dX7_lifts_0 rfl rfl ?_
  refine V_iconst (v := 0) C dX7_lifts_1 (by decide) ?_
  refine V_iconst (v := 3) C dX7_lifts_2 (by decide) ?_
  refine V_callSi (As := [.int p1, .int 0, .int 3]) (rest := []) (wc := []) C (fun r h => ct_X7_in _ d p1 0 3 r h) ks_X7_in kl_X7_26 [] dX7_lifts_3 rfl rfl (Nat.le_of_ble_eq_true rfl) ⟨(Nat.le_of_ble_eq_true rfl), (Nat.le_of_ble_eq_true rfl)⟩ rfl rfl ⟨Nat.le_refl _, Nat.le_refl _⟩ rfl (fun r3 hr3 => ?_)
  refine V_if_ne (tgt := 12) C dX7_lifts_6 (by decide) ?_ ?_
  · refine V_bipush (v := 16) C dX7_lifts_12 (by decide) ?_
    refine V_iconst (v := 4) C dX7_lifts_14 (by decide) ?_
    refine V_aload_n C 0 dX7_lifts_15 rfl rfl ?_
    refine V_get (v := .ref (a 1)) C fx7 0 0 kf_X7_7 (by decide) rfl rfl dX7_lifts_16 ?_
    refine V_iconst (v := 1) C dX7_lifts_19 (by decide) ?_
    refine V_ialdc C 1 1 rfl (by decide) (by decide) dX7_lifts_20 ?_
    refine V_imul C dX7_lifts_21 ?_
    refine V_iadd C dX7_lifts_22 ?_
    refine V_iload_n C 1 dX7_lifts_23 rfl rfl ?_
    refine V_iadd C dX7_lifts_24 ?_
    refine V_istore_n (lv' := [some (.ref (a 0)), some (.int p1), some (.int ((16 + (4 * (u.1 1))) + p1)), none]) C 2 dX7_lifts_25 rfl (by decide) rfl ?_
    refine V_aload_n C 0 dX7_lifts_26 rfl rfl ?_
    refine V_get (v := .ref (a 1)) C fx7 0 0 kf_X7_7 (by decide) rfl rfl dX7_lifts_27 ?_
    refine V_iload_n C 2 dX7_lifts_30 rfl rfl ?_
    refine V_iald C 1 rfl dX7_lifts_31 ?_
    refine V_istore_n (lv' := [some (.ref (a 0)), some (.int p1), some (.int ((16 + (4 * (u.1 1))) + p1)), some (.int (u.1 ((16 + (4 * (u.1 1))) + p1).toNatClampNeg))]) C 3 dX7_lifts_32 rfl (by decide) rfl ?_
    refine V_iload_n C 3 dX7_lifts_33 rfl rfl ?_
    refine V_if_ge (tgt := 40) C dX7_lifts_34 (by decide) ?_ ?_
    · refine V_aload_n C 0 dX7_lifts_40 rfl rfl ?_
      refine V_get (v := .ref (a 1)) C fx7 0 0 kf_X7_7 (by decide) rfl rfl dX7_lifts_41 ?_
      refine V_iconst (v := 2) C dX7_lifts_44 (by decide) ?_
      refine V_ialdc C 1 2 rfl (by decide) (by decide) dX7_lifts_45 ?_
      refine V_iconst (v := 3) C dX7_lifts_46 (by decide) ?_
      refine V_icmp_ne (tgt := 53) C dX7_lifts_47 (by decide) ?_ ?_
      · refine V_aload_n C 0 dX7_lifts_53 rfl rfl ?_
        refine V_get (v := .ref (a 1)) C fx7 0 0 kf_X7_7 (by decide) rfl rfl dX7_lifts_54 ?_
        refine V_iload_n C 2 dX7_lifts_57 rfl rfl ?_
        refine V_iconst (v := (-1)) C dX7_lifts_58 (by decide) ?_
        refine V_iast (ws' := WX d a ((upd u.1 ((16 + (4 * (u.1 1))) + p1).toNatClampNeg (-1)), u.2.1, u.2.2.1, u.2.2.2.1, u.2.2.2.2.1, u.2.2.2.2.2.1, u.2.2.2.2.2.2.1, u.2.2.2.2.2.2.2.1, u.2.2.2.2.2.2.2.2.1, u.2.2.2.2.2.2.2.2.2.1, u.2.2.2.2.2.2.2.2.2.2.1, u.2.2.2.2.2.2.2.2.2.2.2.1, u.2.2.2.2.2.2.2.2.2.2.2.2.1, u.2.2.2.2.2.2.2.2.2.2.2.2.2)) C 1 (WX_get1 _ _ _) (WX_set1 _ _ _ _) dX7_lifts_59 ?_
        refine V_aload_n C 0 dX7_lifts_60 rfl rfl ?_
        refine V_iload_n C 3 dX7_lifts_61 rfl rfl ?_
        refine V_callWv (As := [.int (u.1 ((16 + (4 * (u.1 1))) + p1).toNatClampNeg)]) (rest := []) (wc := WX d a ((upd u.1 ((16 + (4 * (u.1 1))) + p1).toNatClampNeg (-1)), u.2.1, u.2.2.1, u.2.2.2.1, u.2.2.2.2.1, u.2.2.2.2.2.1, u.2.2.2.2.2.2.1, u.2.2.2.2.2.2.2.1, u.2.2.2.2.2.2.2.2.1, u.2.2.2.2.2.2.2.2.2.1, u.2.2.2.2.2.2.2.2.2.2.1, u.2.2.2.2.2.2.2.2.2.2.2.1, u.2.2.2.2.2.2.2.2.2.2.2.2.1, u.2.2.2.2.2.2.2.2.2.2.2.2.2)) (Wd := fun w => WX d a w) C (fun r h => ct_X7_comes _ d a ((upd u.1 ((16 + (4 * (u.1 1))) + p1).toNatClampNeg (-1)), u.2.1, u.2.2.1, u.2.2.2.1, u.2.2.2.2.1, u.2.2.2.2.2.1, u.2.2.2.2.2.2.1, u.2.2.2.2.2.2.2.1, u.2.2.2.2.2.2.2.2.1, u.2.2.2.2.2.2.2.2.2.1, u.2.2.2.2.2.2.2.2.2.2.1, u.2.2.2.2.2.2.2.2.2.2.2.1, u.2.2.2.2.2.2.2.2.2.2.2.2.1, u.2.2.2.2.2.2.2.2.2.2.2.2.2) (u.1 ((16 + (4 * (u.1 1))) + p1).toNatClampNeg) r h) kv_X7_comes kl_X7_66 [0, 1, 2, 3, 4, 5] (fun w => WX d a w) dX7_lifts_62 rfl rfl (fun _ => rfl) (fun _ => rfl) rfl rfl rfl (Nat.le_of_ble_eq_true rfl) ⟨(Nat.le_of_ble_eq_true rfl), (Nat.le_of_ble_eq_true rfl)⟩ rfl rfl ⟨Nat.le_refl _, Nat.le_refl _⟩ rfl (fun r62 hr62 => ?_)
        refine V_aload_n C 0 dX7_lifts_65 rfl rfl ?_
        refine V_get (v := .ref (a 1)) C fx7 0 0 kf_X7_7 (by decide) rfl rfl dX7_lifts_66 ?_
        refine V_iconst (v := 0) C dX7_lifts_69 (by decide) ?_
        refine V_dup2 C dX7_lifts_70 rfl rfl ?_
        refine V_ialdc C 1 0 rfl (by decide) (by decide) dX7_lifts_71 ?_
        refine V_iconst (v := 1) C dX7_lifts_72 (by decide) ?_
        refine V_iadd C dX7_lifts_73 ?_
        refine V_iastc (ws' := WX d a ((upd r62.1 0 ((r62.1 0) + 1)), r62.2.1, r62.2.2.1, r62.2.2.2.1, r62.2.2.2.2.1, r62.2.2.2.2.2.1, r62.2.2.2.2.2.2.1, r62.2.2.2.2.2.2.2.1, r62.2.2.2.2.2.2.2.2.1, r62.2.2.2.2.2.2.2.2.2.1, r62.2.2.2.2.2.2.2.2.2.2.1, r62.2.2.2.2.2.2.2.2.2.2.2.1, r62.2.2.2.2.2.2.2.2.2.2.2.2.1, r62.2.2.2.2.2.2.2.2.2.2.2.2.2)) C 1 0 (WX_get1 _ _ _) (by decide) (by decide) (WX_set1 _ _ _ _) dX7_lifts_74 ?_
        refine V_iload_n C 3 dX7_lifts_75 rfl rfl ?_
        exact V_iretW (Wd := fun w => WX d a w) C hr hlk dX7_lifts_76 rfl
      · refine V_ldc C kc_X7_36 dX7_lifts_50 ?_
        exact V_iretW (Wd := fun w => WX d a w) C hr hlk dX7_lifts_52 rfl
    · refine V_ldc C kc_X7_35 dX7_lifts_37 ?_
      exact V_iretW (Wd := fun w => WX d a w) C hr hlk dX7_lifts_39 rfl
  · refine V_ldc C kc_X7_30 dX7_lifts_9 ?_
    exact V_iretW (Wd := fun w => WX d a w) C hr hlk dX7_lifts_11 rfl
set_option maxRecDepth 20000 in
theorem ct_X7_lifts (l : Launch) (d : Dt) (a : Nat → Nat) (u : UX) (p1 : Int32) (z : Int32 × UX) (h : f_X7_lifts u p1 = some z) : CtW l d yX7_lifts cX7_lifts 4 (some .int) (rmF 2 43) [.ref (a 0), .int p1] (WX d a u) (WX d a z.2) (some (.int z.1)) :=
  CtW.start (by decide) (Nat.le_of_ble_eq_true rfl) (by simp [Value.category]) [some (.ref (a 0)), some (.int p1), none, none] rfl (fun x A C hr hlk => V_eqv (fun _ => h) (v_X7_lifts C hr hlk z u p1))

/-! MastRobotsModel.lift -/
def f_X7_lift (u : UX) (p1 : Int32) : Option (Int32 × UX) :=
  ((f_X7_keeps u).bind fun r1 => ((f_X7_lifts r1 p1).bind fun r7 => ((f_X7_acted r7.2 r7.1).bind fun r10 => some (r10.1, r10.2))))
set_option maxRecDepth 20000 in
theorem v_X7_lift {x : Am} {d : Dt} {A : Nat → Prop} {a : Nat → Nat} (C : Cx x cX7_lift 2 yX7_lift.cls d (Imu d A x.s.heap)) (hr : x.meth.sig.returnType = (some .int)) (hlk : x.meth.locks = false) (z : Int32 × UX) (u : UX) (p1 : Int32) : V x (rmF 3 66) 0 0 (MQ x.below (QW d A (WX d a z.2) (some (.int z.1))) x.args x.s 0 0 A) 2 (Imu d A x.s.heap) (f_X7_lift u p1 = some z) 0 (WX d a u) [some (.ref (a 0)), some (.int p1)] [] := by
  unfold f_X7_lift
  refine V_aload_n C 0 dX7_lift_0 rfl rfl ?_
  refine V_callWv (As := []) (rest := []) (wc := WX d a u) (Wd := fun w => WX d a w) C (fun r h => ct_X7_keeps _ d a u r h) kv_X7_keeps kl_X7_37 [0, 1, 2, 3, 4, 5] (fun w => WX d a w) dX7_lift_1 rfl rfl (fun _ => rfl) (fun _ => rfl) rfl rfl rfl (Nat.le_of_ble_eq_true rfl) ⟨(Nat.le_of_ble_eq_true rfl), (Nat.le_of_ble_eq_true rfl)⟩ rfl rfl ⟨Nat.le_refl _, Nat.le_refl _⟩ rfl (fun r1 hr1 => ?_)
  refine V_aload_n C 0 dX7_lift_4 rfl rfl ?_
  refine V_aload_n C 0 dX7_lift_5 rfl rfl ?_
  refine V_iload_n C 1 dX7_lift_6 rfl rfl ?_
  refine V_callWi (As := [.int p1]) (rest := [.ref (a 0)]) (wc := WX d a r1) (Wd := fun w => WX d a w) C (fun r h => ct_X7_lifts _ d a r1 p1 r h) kv_X7_lifts kl_X7_70 [0, 1, 2, 3, 4, 5] (fun w => WX d a w) dX7_lift_7 rfl rfl (fun _ => rfl) (fun _ => rfl) rfl rfl rfl (Nat.le_of_ble_eq_true rfl) ⟨(Nat.le_of_ble_eq_true rfl), (Nat.le_of_ble_eq_true rfl)⟩ rfl rfl ⟨Nat.le_refl _, Nat.le_refl _⟩ rfl (fun r7 hr7 => ?_)
  refine V_callWi (As := [.int r7.1]) (rest := []) (wc := WX d a r7.2) (Wd := fun w => WX d a w) C (fun r h => ct_X7_acted _ d a r7.2 r7.1 r h) kv_X7_acted kl_X7_40 [0, 1, 2, 3, 4, 5] (fun w => WX d a w) dX7_lift_10 rfl rfl (fun _ => rfl) (fun _ => rfl) rfl rfl rfl (Nat.le_of_ble_eq_true rfl) ⟨(Nat.le_of_ble_eq_true rfl), (Nat.le_of_ble_eq_true rfl)⟩ rfl rfl ⟨Nat.le_refl _, Nat.le_refl _⟩ rfl (fun r10 hr10 => ?_)
  exact V_iretW (Wd := fun w => WX d a w) C hr hlk dX7_lift_13 rfl
set_option maxRecDepth 20000 in
theorem ct_X7_lift (l : Launch) (d : Dt) (a : Nat → Nat) (u : UX) (p1 : Int32) (z : Int32 × UX) (h : f_X7_lift u p1 = some z) : CtW l d yX7_lift cX7_lift 2 (some .int) (rmF 3 66) [.ref (a 0), .int p1] (WX d a u) (WX d a z.2) (some (.int z.1)) :=
  CtW.start (by decide) (Nat.le_of_ble_eq_true rfl) (by simp [Value.category]) [some (.ref (a 0)), some (.int p1)] rfl (fun x A C hr hlk => V_eqv (fun _ => h) (v_X7_lift C hr hlk z u p1))

/-! MastRobotsModel.lays -/
def f_X7_lays (u : UX) (p1 : Int32) : Option (Int32 × UX) :=
  ((f_X7_in p1 0 3).bind fun r3 => (if r3 = 0 then some ((-1000001), u) else (if (u.1 2) = 0 then some ((-1000002), u) else (if inb ((16 + (4 * (u.1 1))) + p1) 264 = true then (if (u.1 ((16 + (4 * (u.1 1))) + p1).toNatClampNeg) < 0 then ((f_X7_leaves u).bind fun r48 => (if inb ((16 + (4 * (u.1 1))) + p1) 264 = true then ((f_X7_isAt ((upd r48.2.1 ((16 + (4 * (u.1 1))) + p1).toNatClampNeg r48.1), r48.2.2.1, r48.2.2.2.1, r48.2.2.2.2.1, r48.2.2.2.2.2.1, r48.2.2.2.2.2.2.1, r48.2.2.2.2.2.2.2.1, r48.2.2.2.2.2.2.2.2.1, r48.2.2.2.2.2.2.2.2.2.1, r48.2.2.2.2.2.2.2.2.2.2.1, r48.2.2.2.2.2.2.2.2.2.2.2.1, r48.2.2.2.2.2.2.2.2.2.2.2.2.1, r48.2.2.2.2.2.2.2.2.2.2.2.2.2.1, r48.2.2.2.2.2.2.2.2.2.2.2.2.2.2) r48.1 0).bind fun r62 => some (r48.1, ((upd r62.1 0 ((r62.1 0) + 1)), r62.2.1, r62.2.2.1, r62.2.2.2.1, r62.2.2.2.2.1, r62.2.2.2.2.2.1, r62.2.2.2.2.2.2.1, r62.2.2.2.2.2.2.2.1, r62.2.2.2.2.2.2.2.2.1, r62.2.2.2.2.2.2.2.2.2.1, r62.2.2.2.2.2.2.2.2.2.2.1, r62.2.2.2.2.2.2.2.2.2.2.2.1, r62.2.2.2.2.2.2.2.2.2.2.2.2.1, r62.2.2.2.2.2.2.2.2.2.2.2.2.2))) else none)) else some ((-1000002), u)) else none))))
set_option maxRecDepth 20000 in
theorem v_X7_lays {x : Am} {d : Dt} {A : Nat → Prop} {a : Nat → Nat} (C : Cx x cX7_lays 4 yX7_lays.cls d (Imu d A x.s.heap)) (hr : x.meth.sig.returnType = (some .int)) (hlk : x.meth.locks = false) (z : Int32 × UX) (u : UX) (p1 : Int32) : V x (rmF 1 22) 0 0 (MQ x.below (QW d A (WX d a z.2) (some (.int z.1))) x.args x.s 0 0 A) 4 (Imu d A x.s.heap) (f_X7_lays u p1 = some z) 0 (WX d a u) [some (.ref (a 0)), some (.int p1), none, none] [] := by
  unfold f_X7_lays
  refine V_iload_n C 1 dX7_lays_0 rfl rfl ?_
  refine V_iconst (v := 0) C dX7_lays_1 (by decide) ?_
  refine V_iconst (v := 3) C dX7_lays_2 (by decide) ?_
  refine V_callSi (As := [.int p1, .int 0, .int 3]) (rest := []) (wc := []) C (fun r h => ct_X7_in _ d p1 0 3 r h) ks_X7_in kl_X7_26 [] dX7_lays_3 rfl rfl (Nat.le_of_ble_eq_true rfl) ⟨(Nat.le_of_ble_eq_true rfl), (Nat.le_of_ble_eq_true rfl)⟩ rfl rfl ⟨Nat.le_refl _, Nat.le_refl _⟩ rfl (fun r3 hr3 => ?_)
  refine V_if_ne (tgt := 12) C dX7_lays_6 (by decide) ?_ ?_
  · refine V_bipush (v := 16) C dX7_lays_12 (by decide) ?_
    refine V_iconst (v := 4) C dX7_lays_14 (by decide) ?_
    refine V_aload_n C 0 dX7_lays_15 rfl rfl ?_
    refine V_get (v := .ref (a 1)) C fx7 0 0 kf_X7_7 (by decide) rfl rfl dX7_lays_16 ?_
    refine V_iconst (v := 1) C dX7_lays_19 (by decide) ?_
    refine V_ialdc C 1 1 rfl (by decide) (by decide) dX7_lays_20 ?_
    refine V_imul C dX7_lays_21 ?_
    refine V_iadd C dX7_lays_22 ?_
    refine V_iload_n C 1 dX7_lays_23 rfl rfl ?_
    refine V_iadd C dX7_lays_24 ?_
    refine V_istore_n (lv' := [some (.ref (a 0)), some (.int p1), some (.int ((16 + (4 * (u.1 1))) + p1)), none]) C 2 dX7_lays_25 rfl (by decide) rfl ?_
    refine V_aload_n C 0 dX7_lays_26 rfl rfl ?_
    refine V_get (v := .ref (a 1)) C fx7 0 0 kf_X7_7 (by decide) rfl rfl dX7_lays_27 ?_
    refine V_iconst (v := 2) C dX7_lays_30 (by decide) ?_
    refine V_ialdc C 1 2 rfl (by decide) (by decide) dX7_lays_31 ?_
    refine V_if_eq (tgt := 44) C dX7_lays_32 (by decide) ?_ ?_
    · refine V_ldc C kc_X7_35 dX7_lays_44 ?_
      exact V_iretW (Wd := fun w => WX d a w) C hr hlk dX7_lays_46 rfl
    · refine V_aload_n C 0 dX7_lays_35 rfl rfl ?_
      refine V_get (v := .ref (a 1)) C fx7 0 0 kf_X7_7 (by decide) rfl rfl dX7_lays_36 ?_
      refine V_iload_n C 2 dX7_lays_39 rfl rfl ?_
      refine V_iald C 1 rfl dX7_lays_40 ?_
      refine V_if_lt (tgt := 47) C dX7_lays_41 (by decide) ?_ ?_
      · refine V_aload_n C 0 dX7_lays_47 rfl rfl ?_
        refine V_callWi (As := []) (rest := []) (wc := WX d a u) (Wd := fun w => WX d a w) C (fun r h => ct_X7_leaves _ d a u r h) kv_X7_leaves kl_X7_73 [0, 1, 2, 3, 4, 5] (fun w => WX d a w) dX7_lays_48 rfl rfl (fun _ => rfl) (fun _ => rfl) rfl rfl rfl (Nat.le_of_ble_eq_true rfl) ⟨(Nat.le_of_ble_eq_true rfl), (Nat.le_of_ble_eq_true rfl)⟩ rfl rfl ⟨Nat.le_refl _, Nat.le_refl _⟩ rfl (fun r48 hr48 => ?_)
        refine V_istore_n (lv' := [some (.ref (a 0)), some (.int p1), some (.int ((16 + (4 * (u.1 1))) + p1)), some (.int r48.1)]) C 3 dX7_lays_51 rfl (by decide) rfl ?_
        refine V_aload_n C 0 dX7_lays_52 rfl rfl ?_
        refine V_get (v := .ref (a 1)) C fx7 0 0 kf_X7_7 (by decide) rfl rfl dX7_lays_53 ?_
        refine V_iload_n C 2 dX7_lays_56 rfl rfl ?_
        refine V_iload_n C 3 dX7_lays_57 rfl rfl ?_
        refine V_iast (ws' := WX d a ((upd r48.2.1 ((16 + (4 * (u.1 1))) + p1).toNatClampNeg r48.1), r48.2.2.1, r48.2.2.2.1, r48.2.2.2.2.1, r48.2.2.2.2.2.1, r48.2.2.2.2.2.2.1, r48.2.2.2.2.2.2.2.1, r48.2.2.2.2.2.2.2.2.1, r48.2.2.2.2.2.2.2.2.2.1, r48.2.2.2.2.2.2.2.2.2.2.1, r48.2.2.2.2.2.2.2.2.2.2.2.1, r48.2.2.2.2.2.2.2.2.2.2.2.2.1, r48.2.2.2.2.2.2.2.2.2.2.2.2.2.1, r48.2.2.2.2.2.2.2.2.2.2.2.2.2.2)) C 1 (WX_get1 _ _ _) (WX_set1 _ _ _ _) dX7_lays_58 ?_
        refine V_aload_n C 0 dX7_lays_59 rfl rfl ?_
        refine V_iload_n C 3 dX7_lays_60 rfl rfl ?_
        refine V_iconst (v := 0) C dX7_lays_61 (by decide) ?_
        refine V_callWv (As := [.int r48.1, .int 0]) (rest := []) (wc := WX d a ((upd r48.2.1 ((16 + (4 * (u.1 1))) + p1).toNatClampNeg r48.1), r48.2.2.1, r48.2.2.2.1, r48.2.2.2.2.1, r48.2.2.2.2.2.1, r48.2.2.2.2.2.2.1, r48.2.2.2.2.2.2.2.1, r48.2.2.2.2.2.2.2.2.1, r48.2.2.2.2.2.2.2.2.2.1, r48.2.2.2.2.2.2.2.2.2.2.1, r48.2.2.2.2.2.2.2.2.2.2.2.1, r48.2.2.2.2.2.2.2.2.2.2.2.2.1, r48.2.2.2.2.2.2.2.2.2.2.2.2.2.1, r48.2.2.2.2.2.2.2.2.2.2.2.2.2.2)) (Wd := fun w => WX d a w) C (fun r h => ct_X7_isAt _ d a ((upd r48.2.1 ((16 + (4 * (u.1 1))) + p1).toNatClampNeg r48.1), r48.2.2.1, r48.2.2.2.1, r48.2.2.2.2.1, r48.2.2.2.2.2.1, r48.2.2.2.2.2.2.1, r48.2.2.2.2.2.2.2.1, r48.2.2.2.2.2.2.2.2.1, r48.2.2.2.2.2.2.2.2.2.1, r48.2.2.2.2.2.2.2.2.2.2.1, r48.2.2.2.2.2.2.2.2.2.2.2.1, r48.2.2.2.2.2.2.2.2.2.2.2.2.1, r48.2.2.2.2.2.2.2.2.2.2.2.2.2.1, r48.2.2.2.2.2.2.2.2.2.2.2.2.2.2) r48.1 0 r h) kv_X7_isAt kl_X7_55 [0, 1, 2, 3, 4, 5] (fun w => WX d a w) dX7_lays_62 rfl rfl (fun _ => rfl) (fun _ => rfl) rfl rfl rfl (Nat.le_of_ble_eq_true rfl) ⟨(Nat.le_of_ble_eq_true rfl), (Nat.le_of_ble_eq_true rfl)⟩ rfl rfl ⟨Nat.le_refl _, Nat.le_refl _⟩ rfl (fun r62 hr62 => ?_)
        refine V_aload_n C 0 dX7_lays_65 rfl rfl ?_
        refine V_get (v := .ref (a 1)) C fx7 0 0 kf_X7_7 (by decide) rfl rfl dX7_lays_66 ?_
        refine V_iconst (v := 0) C dX7_lays_69 (by decide) ?_
        refine V_dup2 C dX7_lays_70 rfl rfl ?_
        refine V_ialdc C 1 0 rfl (by decide) (by decide) dX7_lays_71 ?_
        refine V_iconst (v := 1) C dX7_lays_72 (by decide) ?_
        refine V_iadd C dX7_lays_73 ?_
        refine V_iastc (ws' := WX d a ((upd r62.1 0 ((r62.1 0) + 1)), r62.2.1, r62.2.2.1, r62.2.2.2.1, r62.2.2.2.2.1, r62.2.2.2.2.2.1, r62.2.2.2.2.2.2.1, r62.2.2.2.2.2.2.2.1, r62.2.2.2.2.2.2.2.2.1, r62.2.2.2.2.2.2.2.2.2.1, r62.2.2.2.2.2.2.2.2.2.2.1, r62.2.2.2.2.2.2.2.2.2.2.2.1, r62.2.2.2.2.2.2.2.2.2.2.2.2.1, r62.2.2.2.2.2.2.2.2.2.2.2.2.2)) C 1 0 (WX_get1 _ _ _) (by decide) (by decide) (WX_set1 _ _ _ _) dX7_lays_74 ?_
        refine V_iload_n C 3 dX7_lays_75 rfl rfl ?_
        exact V_iretW (Wd := fun w => WX d a w) C hr hlk dX7_lays_76 rfl
      · refine V_ldc C kc_X7_35 dX7_lays_44 ?_
        exact V_iretW (Wd := fun w => WX d a w) C hr hlk dX7_lays_46 rfl
  · refine V_ldc C kc_X7_30 dX7_lays_9 ?_
    exact V_iretW (Wd := fun w => WX d a w) C hr hlk dX7_lays_11 rfl
set_option maxRecDepth 20000 in
theorem ct_X7_lays (l : Launch) (d : Dt) (a : Nat → Nat) (u : UX) (p1 : Int32) (z : Int32 × UX) (h : f_X7_lays u p1 = some z) : CtW l d yX7_lays cX7_lays 4 (some .int) (rmF 1 22) [.ref (a 0), .int p1] (WX d a u) (WX d a z.2) (some (.int z.1)) :=
  CtW.start (by decide) (Nat.le_of_ble_eq_true rfl) (by simp [Value.category]) [some (.ref (a 0)), some (.int p1), none, none] rfl (fun x A C hr hlk => V_eqv (fun _ => h) (v_X7_lays C hr hlk z u p1))

/-! MastRobotsModel.lay -/
def f_X7_lay (u : UX) (p1 : Int32) : Option (Int32 × UX) :=
  ((f_X7_keeps u).bind fun r1 => ((f_X7_lays r1 p1).bind fun r7 => ((f_X7_acted r7.2 r7.1).bind fun r10 => some (r10.1, r10.2))))
set_option maxRecDepth 20000 in
theorem v_X7_lay {x : Am} {d : Dt} {A : Nat → Prop} {a : Nat → Nat} (C : Cx x cX7_lay 2 yX7_lay.cls d (Imu d A x.s.heap)) (hr : x.meth.sig.returnType = (some .int)) (hlk : x.meth.locks = false) (z : Int32 × UX) (u : UX) (p1 : Int32) : V x (rmF 2 45) 0 0 (MQ x.below (QW d A (WX d a z.2) (some (.int z.1))) x.args x.s 0 0 A) 2 (Imu d A x.s.heap) (f_X7_lay u p1 = some z) 0 (WX d a u) [some (.ref (a 0)), some (.int p1)] [] := by
  unfold f_X7_lay
  refine V_aload_n C 0 dX7_lay_0 rfl rfl ?_
  refine V_callWv (As := []) (rest := []) (wc := WX d a u) (Wd := fun w => WX d a w) C (fun r h => ct_X7_keeps _ d a u r h) kv_X7_keeps kl_X7_37 [0, 1, 2, 3, 4, 5] (fun w => WX d a w) dX7_lay_1 rfl rfl (fun _ => rfl) (fun _ => rfl) rfl rfl rfl (Nat.le_of_ble_eq_true rfl) ⟨(Nat.le_of_ble_eq_true rfl), (Nat.le_of_ble_eq_true rfl)⟩ rfl rfl ⟨Nat.le_refl _, Nat.le_refl _⟩ rfl (fun r1 hr1 => ?_)
  refine V_aload_n C 0 dX7_lay_4 rfl rfl ?_
  refine V_aload_n C 0 dX7_lay_5 rfl rfl ?_
  refine V_iload_n C 1 dX7_lay_6 rfl rfl ?_
  refine V_callWi (As := [.int p1]) (rest := [.ref (a 0)]) (wc := WX d a r1) (Wd := fun w => WX d a w) C (fun r h => ct_X7_lays _ d a r1 p1 r h) kv_X7_lays kl_X7_76 [0, 1, 2, 3, 4, 5] (fun w => WX d a w) dX7_lay_7 rfl rfl (fun _ => rfl) (fun _ => rfl) rfl rfl rfl (Nat.le_of_ble_eq_true rfl) ⟨(Nat.le_of_ble_eq_true rfl), (Nat.le_of_ble_eq_true rfl)⟩ rfl rfl ⟨Nat.le_refl _, Nat.le_refl _⟩ rfl (fun r7 hr7 => ?_)
  refine V_callWi (As := [.int r7.1]) (rest := []) (wc := WX d a r7.2) (Wd := fun w => WX d a w) C (fun r h => ct_X7_acted _ d a r7.2 r7.1 r h) kv_X7_acted kl_X7_40 [0, 1, 2, 3, 4, 5] (fun w => WX d a w) dX7_lay_10 rfl rfl (fun _ => rfl) (fun _ => rfl) rfl rfl rfl (Nat.le_of_ble_eq_true rfl) ⟨(Nat.le_of_ble_eq_true rfl), (Nat.le_of_ble_eq_true rfl)⟩ rfl rfl ⟨Nat.le_refl _, Nat.le_refl _⟩ rfl (fun r10 hr10 => ?_)
  exact V_iretW (Wd := fun w => WX d a w) C hr hlk dX7_lay_13 rfl
set_option maxRecDepth 20000 in
theorem ct_X7_lay (l : Launch) (d : Dt) (a : Nat → Nat) (u : UX) (p1 : Int32) (z : Int32 × UX) (h : f_X7_lay u p1 = some z) : CtW l d yX7_lay cX7_lay 2 (some .int) (rmF 2 45) [.ref (a 0), .int p1] (WX d a u) (WX d a z.2) (some (.int z.1)) :=
  CtW.start (by decide) (Nat.le_of_ble_eq_true rfl) (by simp [Value.category]) [some (.ref (a 0)), some (.int p1)] rfl (fun x A C hr hlk => V_eqv (fun _ => h) (v_X7_lay C hr hlk z u p1))

/-! MastRobotsModel.weighs -/
def f_X7_weighs (u : UX) : Option (Int32 × UX) :=
  ((f_X7_weight ((upd (upd u.1 6 1) 0 (((upd u.1 6 1) 0) + 1)), u.2.1, u.2.2.1, u.2.2.2.1, u.2.2.2.2.1, u.2.2.2.2.2.1, u.2.2.2.2.2.2.1, u.2.2.2.2.2.2.2.1, u.2.2.2.2.2.2.2.2.1, u.2.2.2.2.2.2.2.2.2.1, u.2.2.2.2.2.2.2.2.2.2.1, u.2.2.2.2.2.2.2.2.2.2.2.1, u.2.2.2.2.2.2.2.2.2.2.2.2.1, u.2.2.2.2.2.2.2.2.2.2.2.2.2)).bind fun r19 => some (r19, ((upd (upd u.1 6 1) 0 (((upd u.1 6 1) 0) + 1)), u.2.1, u.2.2.1, u.2.2.2.1, u.2.2.2.2.1, u.2.2.2.2.2.1, u.2.2.2.2.2.2.1, u.2.2.2.2.2.2.2.1, u.2.2.2.2.2.2.2.2.1, u.2.2.2.2.2.2.2.2.2.1, u.2.2.2.2.2.2.2.2.2.2.1, u.2.2.2.2.2.2.2.2.2.2.2.1, u.2.2.2.2.2.2.2.2.2.2.2.2.1, u.2.2.2.2.2.2.2.2.2.2.2.2.2)))
set_option maxRecDepth 20000 in
theorem v_X7_weighs {x : Am} {d : Dt} {A : Nat → Prop} {a : Nat → Nat} (C : Cx x cX7_weighs 1 yX7_weighs.cls d (Imu d A x.s.heap)) (hr : x.meth.sig.returnType = (some .int)) (hlk : x.meth.locks = false) (z : Int32 × UX) (u : UX) : V x (rmF 2 44) 0 0 (MQ x.below (QW d A (WX d a z.2) (some (.int z.1))) x.args x.s 0 0 A) 1 (Imu d A x.s.heap) (f_X7_weighs u = some z) 0 (WX d a u) [some (.ref (a 0))] [] := by
  unfold f_X7_weighs
  refine V_aload_n C 0 dX7_weighs_0 rfl rfl ?_
  refine V_get (v := .ref (a 1)) C fx7 0 0 kf_X7_7 (by decide) rfl rfl dX7_weighs_1 ?_
  refine V_bipush (v := 6) C dX7_weighs_4 (by decide) ?_
  refine V_iconst (v := 1) C dX7_weighs_6 (by decide) ?_
  refine V_iastc (ws' := WX d a ((upd u.1 6 1), u.2.1, u.2.2.1, u.2.2.2.1, u.2.2.2.2.1, u.2.2.2.2.2.1, u.2.2.2.2.2.2.1, u.2.2.2.2.2.2.2.1, u.2.2.2.2.2.2.2.2.1, u.2.2.2.2.2.2.2.2.2.1, u.2.2.2.2.2.2.2.2.2.2.1, u.2.2.2.2.2.2.2.2.2.2.2.1, u.2.2.2.2.2.2.2.2.2.2.2.2.1, u.2.2.2.2.2.2.2.2.2.2.2.2.2)) C 1 6 (WX_get1 _ _ _) (by decide) (by decide) (WX_set1 _ _ _ _) dX7_weighs_7 ?_
  refine V_aload_n C 0 dX7_weighs_8 rfl rfl ?_
  refine V_get (v := .ref (a 1)) C fx7 0 0 kf_X7_7 (by decide) rfl rfl dX7_weighs_9 ?_
  refine V_iconst (v := 0) C dX7_weighs_12 (by decide) ?_
  refine V_dup2 C dX7_weighs_13 rfl rfl ?_
  refine V_ialdc C 1 0 rfl (by decide) (by decide) dX7_weighs_14 ?_
  refine V_iconst (v := 1) C dX7_weighs_15 (by decide) ?_
  refine V_iadd C dX7_weighs_16 ?_
  refine V_iastc (ws' := WX d a ((upd (upd u.1 6 1) 0 (((upd u.1 6 1) 0) + 1)), u.2.1, u.2.2.1, u.2.2.2.1, u.2.2.2.2.1, u.2.2.2.2.2.1, u.2.2.2.2.2.2.1, u.2.2.2.2.2.2.2.1, u.2.2.2.2.2.2.2.2.1, u.2.2.2.2.2.2.2.2.2.1, u.2.2.2.2.2.2.2.2.2.2.1, u.2.2.2.2.2.2.2.2.2.2.2.1, u.2.2.2.2.2.2.2.2.2.2.2.2.1, u.2.2.2.2.2.2.2.2.2.2.2.2.2)) C 1 0 (WX_get1 _ _ _) (by decide) (by decide) (WX_set1 _ _ _ _) dX7_weighs_17 ?_
  refine V_aload_n C 0 dX7_weighs_18 rfl rfl ?_
  refine V_callRi (As := []) (rest := []) (wc := WX d a ((upd (upd u.1 6 1) 0 (((upd u.1 6 1) 0) + 1)), u.2.1, u.2.2.1, u.2.2.2.1, u.2.2.2.2.1, u.2.2.2.2.2.1, u.2.2.2.2.2.2.1, u.2.2.2.2.2.2.2.1, u.2.2.2.2.2.2.2.2.1, u.2.2.2.2.2.2.2.2.2.1, u.2.2.2.2.2.2.2.2.2.2.1, u.2.2.2.2.2.2.2.2.2.2.2.1, u.2.2.2.2.2.2.2.2.2.2.2.2.1, u.2.2.2.2.2.2.2.2.2.2.2.2.2)) C (fun r h => ct_X7_weight _ d a ((upd (upd u.1 6 1) 0 (((upd u.1 6 1) 0) + 1)), u.2.1, u.2.2.1, u.2.2.2.1, u.2.2.2.2.1, u.2.2.2.2.2.1, u.2.2.2.2.2.2.1, u.2.2.2.2.2.2.2.1, u.2.2.2.2.2.2.2.2.1, u.2.2.2.2.2.2.2.2.2.1, u.2.2.2.2.2.2.2.2.2.2.1, u.2.2.2.2.2.2.2.2.2.2.2.1, u.2.2.2.2.2.2.2.2.2.2.2.2.1, u.2.2.2.2.2.2.2.2.2.2.2.2.2) r h) kv_X7_weight kl_X7_63 [0, 1, 2, 3, 4, 5] dX7_weighs_19 rfl rfl rfl rfl (Nat.le_of_ble_eq_true rfl) ⟨(Nat.le_of_ble_eq_true rfl), (Nat.le_of_ble_eq_true rfl)⟩ rfl rfl ⟨Nat.le_refl _, Nat.le_refl _⟩ rfl (fun r19 hr19 => ?_)
  exact V_iretW (Wd := fun w => WX d a w) C hr hlk dX7_weighs_22 rfl
set_option maxRecDepth 20000 in
theorem ct_X7_weighs (l : Launch) (d : Dt) (a : Nat → Nat) (u : UX) (z : Int32 × UX) (h : f_X7_weighs u = some z) : CtW l d yX7_weighs cX7_weighs 1 (some .int) (rmF 2 44) [.ref (a 0)] (WX d a u) (WX d a z.2) (some (.int z.1)) :=
  CtW.start (by decide) (Nat.le_of_ble_eq_true rfl) (by simp [Value.category]) [some (.ref (a 0))] rfl (fun x A C hr hlk => V_eqv (fun _ => h) (v_X7_weighs C hr hlk z u))

/-! MastRobotsModel.weigh -/
def f_X7_weigh (u : UX) : Option (Int32 × UX) :=
  ((f_X7_keeps u).bind fun r1 => ((f_X7_weighs r1).bind fun r6 => ((f_X7_acted r6.2 r6.1).bind fun r9 => some (r9.1, r9.2))))
set_option maxRecDepth 20000 in
theorem v_X7_weigh {x : Am} {d : Dt} {A : Nat → Prop} {a : Nat → Nat} (C : Cx x cX7_weigh 1 yX7_weigh.cls d (Imu d A x.s.heap)) (hr : x.meth.sig.returnType = (some .int)) (hlk : x.meth.locks = false) (z : Int32 × UX) (u : UX) : V x (rmF 3 64) 0 0 (MQ x.below (QW d A (WX d a z.2) (some (.int z.1))) x.args x.s 0 0 A) 1 (Imu d A x.s.heap) (f_X7_weigh u = some z) 0 (WX d a u) [some (.ref (a 0))] [] := by
  unfold f_X7_weigh
  refine V_aload_n C 0 dX7_weigh_0 rfl rfl ?_
  refine V_callWv (As := []) (rest := []) (wc := WX d a u) (Wd := fun w => WX d a w) C (fun r h => ct_X7_keeps _ d a u r h) kv_X7_keeps kl_X7_37 [0, 1, 2, 3, 4, 5] (fun w => WX d a w) dX7_weigh_1 rfl rfl (fun _ => rfl) (fun _ => rfl) rfl rfl rfl (Nat.le_of_ble_eq_true rfl) ⟨(Nat.le_of_ble_eq_true rfl), (Nat.le_of_ble_eq_true rfl)⟩ rfl rfl ⟨Nat.le_refl _, Nat.le_refl _⟩ rfl (fun r1 hr1 => ?_)
  refine V_aload_n C 0 dX7_weigh_4 rfl rfl ?_
  refine V_aload_n C 0 dX7_weigh_5 rfl rfl ?_
  refine V_callWi (As := []) (rest := [.ref (a 0)]) (wc := WX d a r1) (Wd := fun w => WX d a w) C (fun r h => ct_X7_weighs _ d a r1 r h) kv_X7_weighs kl_X7_79 [0, 1, 2, 3, 4, 5] (fun w => WX d a w) dX7_weigh_6 rfl rfl (fun _ => rfl) (fun _ => rfl) rfl rfl rfl (Nat.le_of_ble_eq_true rfl) ⟨(Nat.le_of_ble_eq_true rfl), (Nat.le_of_ble_eq_true rfl)⟩ rfl rfl ⟨Nat.le_refl _, Nat.le_refl _⟩ rfl (fun r6 hr6 => ?_)
  refine V_callWi (As := [.int r6.1]) (rest := []) (wc := WX d a r6.2) (Wd := fun w => WX d a w) C (fun r h => ct_X7_acted _ d a r6.2 r6.1 r h) kv_X7_acted kl_X7_40 [0, 1, 2, 3, 4, 5] (fun w => WX d a w) dX7_weigh_9 rfl rfl (fun _ => rfl) (fun _ => rfl) rfl rfl rfl (Nat.le_of_ble_eq_true rfl) ⟨(Nat.le_of_ble_eq_true rfl), (Nat.le_of_ble_eq_true rfl)⟩ rfl rfl ⟨Nat.le_refl _, Nat.le_refl _⟩ rfl (fun r9 hr9 => ?_)
  exact V_iretW (Wd := fun w => WX d a w) C hr hlk dX7_weigh_12 rfl
set_option maxRecDepth 20000 in
theorem ct_X7_weigh (l : Launch) (d : Dt) (a : Nat → Nat) (u : UX) (z : Int32 × UX) (h : f_X7_weigh u = some z) : CtW l d yX7_weigh cX7_weigh 1 (some .int) (rmF 3 64) [.ref (a 0)] (WX d a u) (WX d a z.2) (some (.int z.1)) :=
  CtW.start (by decide) (Nat.le_of_ble_eq_true rfl) (by simp [Value.category]) [some (.ref (a 0))] rfl (fun x A C hr hlk => V_eqv (fun _ => h) (v_X7_weigh C hr hlk z u))

/-! MastRobotsModel.turns -/
def f_X7_turns_b10 (u : UX) (v1 : Int32) (s0 : Int32) : Option (Int32 × UX) :=
  ((f_X7_in v1 (-4) 4).bind fun r15 => (if r15 = 0 then some ((-1000001), u) else (if v1 = 0 then some ((-1000001), u) else (if (u.1 6) = 0 then some ((-1000002), u) else ((f_X7_most u).bind fun r40 => (if s0 ≤ r40 then ((f_X7_weight ((upd (upd u.1 1 (jrem (((u.1 1) + v1) + 8) 8)) 6 0), u.2.1, u.2.2.1, u.2.2.2.1, u.2.2.2.2.1, u.2.2.2.2.2.1, u.2.2.2.2.2.2.1, u.2.2.2.2.2.2.2.1, u.2.2.2.2.2.2.2.2.1, u.2.2.2.2.2.2.2.2.2.1, u.2.2.2.2.2.2.2.2.2.2.1, u.2.2.2.2.2.2.2.2.2.2.2.1, u.2.2.2.2.2.2.2.2.2.2.2.2.1, u.2.2.2.2.2.2.2.2.2.2.2.2.2)).bind fun r87 => some (((upd (upd (upd (upd u.1 1 (jrem (((u.1 1) + v1) + 8) 8)) 6 0) 0 (((upd (upd u.1 1 (jrem (((u.1 1) + v1) + 8) 8)) 6 0) 0) + (s0 * (1 + (r87 / 10))))) 10 (((upd (upd (upd u.1 1 (jrem (((u.1 1) + v1) + 8) 8)) 6 0) 0 (((upd (upd u.1 1 (jrem (((u.1 1) + v1) + 8) 8)) 6 0) 0) + (s0 * (1 + (r87 / 10))))) 10) + 1)) 1), ((upd (upd (upd (upd u.1 1 (jrem (((u.1 1) + v1) + 8) 8)) 6 0) 0 (((upd (upd u.1 1 (jrem (((u.1 1) + v1) + 8) 8)) 6 0) 0) + (s0 * (1 + (r87 / 10))))) 10 (((upd (upd (upd u.1 1 (jrem (((u.1 1) + v1) + 8) 8)) 6 0) 0 (((upd (upd u.1 1 (jrem (((u.1 1) + v1) + 8) 8)) 6 0) 0) + (s0 * (1 + (r87 / 10))))) 10) + 1)), u.2.1, u.2.2.1, u.2.2.2.1, u.2.2.2.2.1, u.2.2.2.2.2.1, u.2.2.2.2.2.2.1, u.2.2.2.2.2.2.2.1, u.2.2.2.2.2.2.2.2.1, u.2.2.2.2.2.2.2.2.2.1, u.2.2.2.2.2.2.2.2.2.2.1, u.2.2.2.2.2.2.2.2.2.2.2.1, u.2.2.2.2.2.2.2.2.2.2.2.2.1, u.2.2.2.2.2.2.2.2.2.2.2.2.2))) else some ((-1000002), u)))))))
def f_X7_turns (u : UX) (p1 : Int32) : Option (Int32 × UX) :=
  (if 0 ≤ p1 then f_X7_turns_b10 u p1 p1 else f_X7_turns_b10 u p1 (-p1))
set_option maxRecDepth 20000 in
theorem v_X7_turns_b10 {x : Am} {d : Dt} {A : Nat → Prop} {a : Nat → Nat} (C : Cx x cX7_turns 3 yX7_turns.cls d (Imu d A x.s.heap)) (hr : x.meth.sig.returnType = (some .int)) (hlk : x.meth.locks = false) (z : Int32 × UX) (u : UX) (v1 : Int32) (s0 : Int32) : V x (rmF 3 64) 0 0 (MQ x.below (QW d A (WX d a z.2) (some (.int z.1))) x.args x.s 0 0 A) 3 (Imu d A x.s.heap) (f_X7_turns_b10 u v1 s0 = some z) 10 (WX d a u) [some (.ref (a 0)), some (.int v1), none] [.int s0] := by
  unfold f_X7_turns_b10
  refine V_istore_n (lv' := [some (.ref (a 0)), some (.int v1), some (.int s0)]) C 2 dX7_turns_10 rfl (by decide) rfl ?_
  refine V_iload_n C 1 dX7_turns_11 rfl rfl ?_
  refine V_bipush (v := (-4)) C dX7_turns_12 (by decide) ?_
  refine V_iconst (v := 4) C dX7_turns_14 (by decide) ?_
  refine V_callSi (As := [.int v1, .int (-4), .int 4]) (rest := []) (wc := []) C (fun r h => ct_X7_in _ d v1 (-4) 4 r h) ks_X7_in kl_X7_26 [] dX7_turns_15 rfl rfl (Nat.le_of_ble_eq_true rfl) ⟨(Nat.le_of_ble_eq_true rfl), (Nat.le_of_ble_eq_true rfl)⟩ rfl rfl ⟨Nat.le_refl _, Nat.le_refl _⟩ rfl (fun r15 hr15 => ?_)
  refine V_if_eq (tgt := 25) C dX7_turns_18 (by decide) ?_ ?_
  · refine V_ldc C kc_X7_30 dX7_turns_25 ?_
    exact V_iretW (Wd := fun w => WX d a w) C hr hlk dX7_turns_27 rfl
  · refine V_iload_n C 1 dX7_turns_21 rfl rfl ?_
    refine V_if_ne (tgt := 28) C dX7_turns_22 (by decide) ?_ ?_
    · refine V_aload_n C 0 dX7_turns_28 rfl rfl ?_
      refine V_get (v := .ref (a 1)) C fx7 0 0 kf_X7_7 (by decide) rfl rfl dX7_turns_29 ?_
      refine V_bipush (v := 6) C dX7_turns_32 (by decide) ?_
      refine V_ialdc C 1 6 rfl (by decide) (by decide) dX7_turns_34 ?_
      refine V_if_eq (tgt := 46) C dX7_turns_35 (by decide) ?_ ?_
      · refine V_ldc C kc_X7_35 dX7_turns_46 ?_
        exact V_iretW (Wd := fun w => WX d a w) C hr hlk dX7_turns_48 rfl
      · refine V_iload_n C 2 dX7_turns_38 rfl rfl ?_
        refine V_aload_n C 0 dX7_turns_39 rfl rfl ?_
        refine V_callRi (As := []) (rest := [.int s0]) (wc := WX d a u) C (fun r h => ct_X7_most _ d a u r h) kv_X7_most kl_X7_82 [0, 1, 2, 3, 4, 5] dX7_turns_40 rfl rfl rfl rfl (Nat.le_of_ble_eq_true rfl) ⟨(Nat.le_of_ble_eq_true rfl), (Nat.le_of_ble_eq_true rfl)⟩ rfl rfl ⟨Nat.le_refl _, Nat.le_refl _⟩ rfl (fun r40 hr40 => ?_)
        refine V_icmp_le (tgt := 49) C dX7_turns_43 (by decide) ?_ ?_
        · refine V_aload_n C 0 dX7_turns_49 rfl rfl ?_
          refine V_get (v := .ref (a 1)) C fx7 0 0 kf_X7_7 (by decide) rfl rfl dX7_turns_50 ?_
          refine V_iconst (v := 1) C dX7_turns_53 (by decide) ?_
          refine V_aload_n C 0 dX7_turns_54 rfl rfl ?_
          refine V_get (v := .ref (a 1)) C fx7 0 0 kf_X7_7 (by decide) rfl rfl dX7_turns_55 ?_
          refine V_iconst (v := 1) C dX7_turns_58 (by decide) ?_
          refine V_ialdc C 1 1 rfl (by decide) (by decide) dX7_turns_59 ?_
          refine V_iload_n C 1 dX7_turns_60 rfl rfl ?_
          refine V_iadd C dX7_turns_61 ?_
          refine V_bipush (v := 8) C dX7_turns_62 (by decide) ?_
          refine V_iadd C dX7_turns_64 ?_
          refine V_bipush (v := 8) C dX7_turns_65 (by decide) ?_
          refine V_irem C dX7_turns_67 (by decide) ?_
          refine V_iastc (ws' := WX d a ((upd u.1 1 (jrem (((u.1 1) + v1) + 8) 8)), u.2.1, u.2.2.1, u.2.2.2.1, u.2.2.2.2.1, u.2.2.2.2.2.1, u.2.2.2.2.2.2.1, u.2.2.2.2.2.2.2.1, u.2.2.2.2.2.2.2.2.1, u.2.2.2.2.2.2.2.2.2.1, u.2.2.2.2.2.2.2.2.2.2.1, u.2.2.2.2.2.2.2.2.2.2.2.1, u.2.2.2.2.2.2.2.2.2.2.2.2.1, u.2.2.2.2.2.2.2.2.2.2.2.2.2)) C 1 1 (WX_get1 _ _ _) (by decide) (by decide) (WX_set1 _ _ _ _) dX7_turns_68 ?_
          refine V_aload_n C 0 dX7_turns_69 rfl rfl ?_
          refine V_get (v := .ref (a 1)) C fx7 0 0 kf_X7_7 (by decide) rfl rfl dX7_turns_70 ?_
          refine V_bipush (v := 6) C dX7_turns_73 (by decide) ?_
          refine V_iconst (v := 0) C dX7_turns_75 (by decide) ?_
          refine V_iastc (ws' := WX d a ((upd (upd u.1 1 (jrem (((u.1 1) + v1) + 8) 8)) 6 0), u.2.1, u.2.2.1, u.2.2.2.1, u.2.2.2.2.1, u.2.2.2.2.2.1, u.2.2.2.2.2.2.1, u.2.2.2.2.2.2.2.1, u.2.2.2.2.2.2.2.2.1, u.2.2.2.2.2.2.2.2.2.1, u.2.2.2.2.2.2.2.2.2.2.1, u.2.2.2.2.2.2.2.2.2.2.2.1, u.2.2.2.2.2.2.2.2.2.2.2.2.1, u.2.2.2.2.2.2.2.2.2.2.2.2.2)) C 1 6 (WX_get1 _ _ _) (by decide) (by decide) (WX_set1 _ _ _ _) dX7_turns_76 ?_
          refine V_aload_n C 0 dX7_turns_77 rfl rfl ?_
          refine V_get (v := .ref (a 1)) C fx7 0 0 kf_X7_7 (by decide) rfl rfl dX7_turns_78 ?_
          refine V_iconst (v := 0) C dX7_turns_81 (by decide) ?_
          refine V_dup2 C dX7_turns_82 rfl rfl ?_
          refine V_ialdc C 1 0 rfl (by decide) (by decide) dX7_turns_83 ?_
          refine V_iload_n C 2 dX7_turns_84 rfl rfl ?_
          refine V_iconst (v := 1) C dX7_turns_85 (by decide) ?_
          refine V_aload_n C 0 dX7_turns_86 rfl rfl ?_
          refine V_callRi (As := []) (rest := [.int 1, .int s0, .int ((upd (upd u.1 1 (jrem (((u.1 1) + v1) + 8) 8)) 6 0) 0), .int 0, .ref (a 1)]) (wc := WX d a ((upd (upd u.1 1 (jrem (((u.1 1) + v1) + 8) 8)) 6 0), u.2.1, u.2.2.1, u.2.2.2.1, u.2.2.2.2.1, u.2.2.2.2.2.1, u.2.2.2.2.2.2.1, u.2.2.2.2.2.2.2.1, u.2.2.2.2.2.2.2.2.1, u.2.2.2.2.2.2.2.2.2.1, u.2.2.2.2.2.2.2.2.2.2.1, u.2.2.2.2.2.2.2.2.2.2.2.1, u.2.2.2.2.2.2.2.2.2.2.2.2.1, u.2.2.2.2.2.2.2.2.2.2.2.2.2)) C (fun r h => ct_X7_weight _ d a ((upd (upd u.1 1 (jrem (((u.1 1) + v1) + 8) 8)) 6 0), u.2.1, u.2.2.1, u.2.2.2.1, u.2.2.2.2.1, u.2.2.2.2.2.1, u.2.2.2.2.2.2.1, u.2.2.2.2.2.2.2.1, u.2.2.2.2.2.2.2.2.1, u.2.2.2.2.2.2.2.2.2.1, u.2.2.2.2.2.2.2.2.2.2.1, u.2.2.2.2.2.2.2.2.2.2.2.1, u.2.2.2.2.2.2.2.2.2.2.2.2.1, u.2.2.2.2.2.2.2.2.2.2.2.2.2) r h) kv_X7_weight kl_X7_63 [0, 1, 2, 3, 4, 5] dX7_turns_87 rfl rfl rfl rfl (Nat.le_of_ble_eq_true rfl) ⟨(Nat.le_of_ble_eq_true rfl), (Nat.le_of_ble_eq_true rfl)⟩ rfl rfl ⟨Nat.le_refl _, Nat.le_refl _⟩ rfl (fun r87 hr87 => ?_)
          refine V_bipush (v := 10) C dX7_turns_90 (by decide) ?_
          refine V_idiv C dX7_turns_92 (by decide) ?_
          refine V_iadd C dX7_turns_93 ?_
          refine V_imul C dX7_turns_94 ?_
          refine V_iadd C dX7_turns_95 ?_
          refine V_iastc (ws' := WX d a ((upd (upd (upd u.1 1 (jrem (((u.1 1) + v1) + 8) 8)) 6 0) 0 (((upd (upd u.1 1 (jrem (((u.1 1) + v1) + 8) 8)) 6 0) 0) + (s0 * (1 + (r87 / 10))))), u.2.1, u.2.2.1, u.2.2.2.1, u.2.2.2.2.1, u.2.2.2.2.2.1, u.2.2.2.2.2.2.1, u.2.2.2.2.2.2.2.1, u.2.2.2.2.2.2.2.2.1, u.2.2.2.2.2.2.2.2.2.1, u.2.2.2.2.2.2.2.2.2.2.1, u.2.2.2.2.2.2.2.2.2.2.2.1, u.2.2.2.2.2.2.2.2.2.2.2.2.1, u.2.2.2.2.2.2.2.2.2.2.2.2.2)) C 1 0 (WX_get1 _ _ _) (by decide) (by decide) (WX_set1 _ _ _ _) dX7_turns_96 ?_
          refine V_aload_n C 0 dX7_turns_97 rfl rfl ?_
          refine V_get (v := .ref (a 1)) C fx7 0 0 kf_X7_7 (by decide) rfl rfl dX7_turns_98 ?_
          refine V_bipush (v := 10) C dX7_turns_101 (by decide) ?_
          refine V_dup2 C dX7_turns_103 rfl rfl ?_
          refine V_ialdc C 1 10 rfl (by decide) (by decide) dX7_turns_104 ?_
          refine V_iconst (v := 1) C dX7_turns_105 (by decide) ?_
          refine V_iadd C dX7_turns_106 ?_
          refine V_iastc (ws' := WX d a ((upd (upd (upd (upd u.1 1 (jrem (((u.1 1) + v1) + 8) 8)) 6 0) 0 (((upd (upd u.1 1 (jrem (((u.1 1) + v1) + 8) 8)) 6 0) 0) + (s0 * (1 + (r87 / 10))))) 10 (((upd (upd (upd u.1 1 (jrem (((u.1 1) + v1) + 8) 8)) 6 0) 0 (((upd (upd u.1 1 (jrem (((u.1 1) + v1) + 8) 8)) 6 0) 0) + (s0 * (1 + (r87 / 10))))) 10) + 1)), u.2.1, u.2.2.1, u.2.2.2.1, u.2.2.2.2.1, u.2.2.2.2.2.1, u.2.2.2.2.2.2.1, u.2.2.2.2.2.2.2.1, u.2.2.2.2.2.2.2.2.1, u.2.2.2.2.2.2.2.2.2.1, u.2.2.2.2.2.2.2.2.2.2.1, u.2.2.2.2.2.2.2.2.2.2.2.1, u.2.2.2.2.2.2.2.2.2.2.2.2.1, u.2.2.2.2.2.2.2.2.2.2.2.2.2)) C 1 10 (WX_get1 _ _ _) (by decide) (by decide) (WX_set1 _ _ _ _) dX7_turns_107 ?_
          refine V_aload_n C 0 dX7_turns_108 rfl rfl ?_
          refine V_get (v := .ref (a 1)) C fx7 0 0 kf_X7_7 (by decide) rfl rfl dX7_turns_109 ?_
          refine V_iconst (v := 1) C dX7_turns_112 (by decide) ?_
          refine V_ialdc C 1 1 rfl (by decide) (by decide) dX7_turns_113 ?_
          exact V_iretW (Wd := fun w => WX d a w) C hr hlk dX7_turns_114 rfl
        · refine V_ldc C kc_X7_35 dX7_turns_46 ?_
          exact V_iretW (Wd := fun w => WX d a w) C hr hlk dX7_turns_48 rfl
    · refine V_ldc C kc_X7_30 dX7_turns_25 ?_
      exact V_iretW (Wd := fun w => WX d a w) C hr hlk dX7_turns_27 rfl
set_option maxRecDepth 20000 in
theorem v_X7_turns {x : Am} {d : Dt} {A : Nat → Prop} {a : Nat → Nat} (C : Cx x cX7_turns 3 yX7_turns.cls d (Imu d A x.s.heap)) (hr : x.meth.sig.returnType = (some .int)) (hlk : x.meth.locks = false) (z : Int32 × UX) (u : UX) (p1 : Int32) : V x (rmF 3 64) 0 0 (MQ x.below (QW d A (WX d a z.2) (some (.int z.1))) x.args x.s 0 0 A) 3 (Imu d A x.s.heap) (f_X7_turns u p1 = some z) 0 (WX d a u) [some (.ref (a 0)), some (.int p1), none] [] := by
  unfold f_X7_turns
  refine V_iload_n C 1 dX7_turns_0 rfl rfl ?_
  refine V_if_ge (tgt := 9) C dX7_turns_1 (by decide) ?_ ?_
  · refine V_iload_n C 1 dX7_turns_9 rfl rfl ?_
    exact v_X7_turns_b10 C hr hlk z u p1 p1
  · refine V_iload_n C 1 dX7_turns_4 rfl rfl ?_
    refine V_ineg C dX7_turns_5 ?_
    refine V_goto (tgt := 10) C dX7_turns_6 (by decide) ?_
    exact v_X7_turns_b10 C hr hlk z u p1 (-p1)
set_option maxRecDepth 20000 in
theorem ct_X7_turns (l : Launch) (d : Dt) (a : Nat → Nat) (u : UX) (p1 : Int32) (z : Int32 × UX) (h : f_X7_turns u p1 = some z) : CtW l d yX7_turns cX7_turns 3 (some .int) (rmF 3 64) [.ref (a 0), .int p1] (WX d a u) (WX d a z.2) (some (.int z.1)) :=
  CtW.start (by decide) (Nat.le_of_ble_eq_true rfl) (by simp [Value.category]) [some (.ref (a 0)), some (.int p1), none] rfl (fun x A C hr hlk => V_eqv (fun _ => h) (v_X7_turns C hr hlk z u p1))

/-! MastRobotsModel.turn -/
def f_X7_turn (u : UX) (p1 : Int32) : Option (Int32 × UX) :=
  ((f_X7_keeps u).bind fun r1 => ((f_X7_turns r1 p1).bind fun r7 => ((f_X7_acted r7.2 r7.1).bind fun r10 => some (r10.1, r10.2))))
set_option maxRecDepth 20000 in
theorem v_X7_turn {x : Am} {d : Dt} {A : Nat → Prop} {a : Nat → Nat} (C : Cx x cX7_turn 2 yX7_turn.cls d (Imu d A x.s.heap)) (hr : x.meth.sig.returnType = (some .int)) (hlk : x.meth.locks = false) (z : Int32 × UX) (u : UX) (p1 : Int32) : V x (rmF 4 86) 0 0 (MQ x.below (QW d A (WX d a z.2) (some (.int z.1))) x.args x.s 0 0 A) 2 (Imu d A x.s.heap) (f_X7_turn u p1 = some z) 0 (WX d a u) [some (.ref (a 0)), some (.int p1)] [] := by
  unfold f_X7_turn
  refine V_aload_n C 0 dX7_turn_0 rfl rfl ?_
  refine V_callWv (As := []) (rest := []) (wc := WX d a u) (Wd := fun w => WX d a w) C (fun r h => ct_X7_keeps _ d a u r h) kv_X7_keeps kl_X7_37 [0, 1, 2, 3, 4, 5] (fun w => WX d a w) dX7_turn_1 rfl rfl (fun _ => rfl) (fun _ => rfl) rfl rfl rfl (Nat.le_of_ble_eq_true rfl) ⟨(Nat.le_of_ble_eq_true rfl), (Nat.le_of_ble_eq_true rfl)⟩ rfl rfl ⟨Nat.le_refl _, Nat.le_refl _⟩ rfl (fun r1 hr1 => ?_)
  refine V_aload_n C 0 dX7_turn_4 rfl rfl ?_
  refine V_aload_n C 0 dX7_turn_5 rfl rfl ?_
  refine V_iload_n C 1 dX7_turn_6 rfl rfl ?_
  refine V_callWi (As := [.int p1]) (rest := [.ref (a 0)]) (wc := WX d a r1) (Wd := fun w => WX d a w) C (fun r h => ct_X7_turns _ d a r1 p1 r h) kv_X7_turns kl_X7_85 [0, 1, 2, 3, 4, 5] (fun w => WX d a w) dX7_turn_7 rfl rfl (fun _ => rfl) (fun _ => rfl) rfl rfl rfl (Nat.le_of_ble_eq_true rfl) ⟨(Nat.le_of_ble_eq_true rfl), (Nat.le_of_ble_eq_true rfl)⟩ rfl rfl ⟨Nat.le_refl _, Nat.le_refl _⟩ rfl (fun r7 hr7 => ?_)
  refine V_callWi (As := [.int r7.1]) (rest := []) (wc := WX d a r7.2) (Wd := fun w => WX d a w) C (fun r h => ct_X7_acted _ d a r7.2 r7.1 r h) kv_X7_acted kl_X7_40 [0, 1, 2, 3, 4, 5] (fun w => WX d a w) dX7_turn_10 rfl rfl (fun _ => rfl) (fun _ => rfl) rfl rfl rfl (Nat.le_of_ble_eq_true rfl) ⟨(Nat.le_of_ble_eq_true rfl), (Nat.le_of_ble_eq_true rfl)⟩ rfl rfl ⟨Nat.le_refl _, Nat.le_refl _⟩ rfl (fun r10 hr10 => ?_)
  exact V_iretW (Wd := fun w => WX d a w) C hr hlk dX7_turn_13 rfl
set_option maxRecDepth 20000 in
theorem ct_X7_turn (l : Launch) (d : Dt) (a : Nat → Nat) (u : UX) (p1 : Int32) (z : Int32 × UX) (h : f_X7_turn u p1 = some z) : CtW l d yX7_turn cX7_turn 2 (some .int) (rmF 4 86) [.ref (a 0), .int p1] (WX d a u) (WX d a z.2) (some (.int z.1)) :=
  CtW.start (by decide) (Nat.le_of_ble_eq_true rfl) (by simp [Value.category]) [some (.ref (a 0)), some (.int p1)] rfl (fun x A C hr hlk => V_eqv (fun _ => h) (v_X7_turn C hr hlk z u p1))

/-! MastRobotsModel.wallOf -/
def f_X7_wallOf (p1 : Int32) : Option (Int32) :=
  some (2 + (4 * p1))
set_option maxRecDepth 20000 in
theorem v_X7_wallOf {x : Am} {d : Dt} (C : Cx x cX7_wallOf 1 yX7_wallOf.cls d (Iro d x.s.heap)) (hr : x.meth.sig.returnType = (some .int)) (hlk : x.meth.locks = false) (z : Int32) (p1 : Int32) : V x (rmF 0 0) 0 0 (MQ x.below (QR (some (.int z))) x.args x.s 0 0 (fun _ => False)) 1 (Iro d x.s.heap) (f_X7_wallOf p1 = some z) 0 ([]) [some (.int p1)] [] := by
  unfold f_X7_wallOf
  refine V_iconst (v := 2) C dX7_wallOf_0 (by decide) ?_
  refine V_iconst (v := 4) C dX7_wallOf_1 (by decide) ?_
  refine V_iload_n C 0 dX7_wallOf_2 rfl rfl ?_
  refine V_imul C dX7_wallOf_3 ?_
  refine V_iadd C dX7_wallOf_4 ?_
  exact V_iretR C hr hlk dX7_wallOf_5
set_option maxRecDepth 20000 in
theorem ct_X7_wallOf (l : Launch) (d : Dt) (p1 : Int32) (z : Int32) (h : f_X7_wallOf p1 = some z) : CtR l d yX7_wallOf cX7_wallOf 1 (some .int) (rmF 0 0) [.int p1] ([]) (some (.int z)) :=
  CtR.start (by decide) (Nat.le_of_ble_eq_true rfl) (by simp [Value.category]) [some (.int p1)] rfl (fun x C hr hlk => V_eqv (fun _ => h) (v_X7_wallOf C hr hlk z p1))

/-! MastRobotsModel.serves -/
def f_X7_serves_b122 (k7 : UX → Int32 → Int32 → Int32 → Int32 → Option (Int32 × UX)) (u : UX) (v1 : Int32) (v2 : Int32) (v4 : Int32) (s0 : Int32) (s1 : Int32) : Option (Int32 × UX) :=
  k7 u v1 v2 (s0 + s1) (v4 + 1)
def f_X7_serves_b109 (k7 : UX → Int32 → Int32 → Int32 → Int32 → Option (Int32 × UX)) (u : UX) (v1 : Int32) (v3 : Int32) (v4 : Int32) (v5 : Int32) (s0 : Int32) (s1 : Int32) : Option (Int32 × UX) :=
  (if v5 = 0 then f_X7_serves_b122 k7 u v1 (s0 + s1) v4 v3 1 else f_X7_serves_b122 k7 u v1 (s0 + s1) v4 v3 0)
def f_X7_serves_b55 (k7 : UX → Int32 → Int32 → Int32 → Int32 → Option (Int32 × UX)) : Nat → UX → Int32 → Int32 → Int32 → Int32 → Int32 → Int32 → Option (Int32 × UX)
  | 0, _, _, _, _, _, _, _ => none
  | n + 1, u, v1, v2, v3, v4, v5, v6 => (if 3 ≤ v6 then (if v5 = 0 then f_X7_serves_b109 k7 u v1 v3 v4 v5 v2 0 else f_X7_serves_b109 k7 u v1 v3 v4 v5 v2 1) else (if inb ((228 + (3 * v4)) + v6) 264 = true then (if inb ((228 + (3 * v3)) + v6) 264 = true then f_X7_serves_b55 k7 n ((upd u.1 ((228 + (3 * v3)) + v6).toNatClampNeg (u.1 ((228 + (3 * v4)) + v6).toNatClampNeg)), u.2.1, u.2.2.1, u.2.2.2.1, u.2.2.2.2.1, u.2.2.2.2.2.1, u.2.2.2.2.2.2.1, u.2.2.2.2.2.2.2.1, u.2.2.2.2.2.2.2.2.1, u.2.2.2.2.2.2.2.2.2.1, u.2.2.2.2.2.2.2.2.2.2.1, u.2.2.2.2.2.2.2.2.2.2.2.1, u.2.2.2.2.2.2.2.2.2.2.2.2.1, u.2.2.2.2.2.2.2.2.2.2.2.2.2) v1 v2 v3 v4 v5 (v6 + 1) else none) else none))
def f_X7_serves_b50 (k7 : UX → Int32 → Int32 → Int32 → Int32 → Option (Int32 × UX)) (u : UX) (v1 : Int32) (v2 : Int32) (v3 : Int32) (v4 : Int32) (s0 : Int32) : Option (Int32 × UX) :=
  f_X7_serves_b55 k7 FUEL u v1 v2 v3 v4 s0 0
def f_X7_serves_b7 : Nat → UX → Int32 → Int32 → Int32 → Int32 → Option (Int32 × UX)
  | 0, _, _, _, _, _ => none
  | n + 1, u, v1, v2, v3, v4 => (if (u.1 8) ≤ v4 then (if inb ((48 + (4 * v1)) + 3) 264 = true then (if inb ((48 + (4 * v1)) + 3) 264 = true then some (v2, ((upd (upd (upd u.1 8 v3) 9 (((upd u.1 8 v3) 9) + v2)) ((48 + (4 * v1)) + 3).toNatClampNeg (((upd (upd u.1 8 v3) 9 (((upd u.1 8 v3) 9) + v2)) ((48 + (4 * v1)) + 3).toNatClampNeg) + v2)), u.2.1, u.2.2.1, u.2.2.2.1, u.2.2.2.2.1, u.2.2.2.2.2.1, u.2.2.2.2.2.2.1, u.2.2.2.2.2.2.2.1, u.2.2.2.2.2.2.2.2.1, u.2.2.2.2.2.2.2.2.2.1, u.2.2.2.2.2.2.2.2.2.2.1, u.2.2.2.2.2.2.2.2.2.2.2.1, u.2.2.2.2.2.2.2.2.2.2.2.2.1, u.2.2.2.2.2.2.2.2.2.2.2.2.2)) else none) else none) else (if inb (228 + (3 * v4)) 264 = true then (if inb (168 + (u.1 (228 + (3 * v4)).toNatClampNeg)) 264 = true then (if (u.1 (168 + (u.1 (228 + (3 * v4)).toNatClampNeg)).toNatClampNeg) = v1 then f_X7_serves_b50 (f_X7_serves_b7 n) u v1 v2 v3 v4 1 else f_X7_serves_b50 (f_X7_serves_b7 n) u v1 v2 v3 v4 0) else none) else none))
def f_X7_serves (u : UX) (p1 : Int32) : Option (Int32 × UX) :=
  f_X7_serves_b7 FUEL u p1 0 0 0
set_option maxRecDepth 20000 in
theorem v_X7_serves_b122 {x : Am} {d : Dt} {A : Nat → Prop} {a : Nat → Nat} (C : Cx x cX7_serves 7 yX7_serves.cls d (Imu d A x.s.heap)) (hr : x.meth.sig.returnType = (some .int)) (hlk : x.meth.locks = false) (z : Int32 × UX) (k7 : UX → Int32 → Int32 → Int32 → Int32 → Option (Int32 × UX)) (hk7 : ∀ (u : UX)(v1 : Int32)(v2 : Int32)(v3 : Int32)(v4 : Int32), V x (rmF 0 0) 0 0 (MQ x.below (QW d A (WX d a z.2) (some (.int z.1))) x.args x.s 0 0 A) 7 (Imu d A x.s.heap) (k7 u v1 v2 v3 v4 = some z) 7 (WX d a u) [some (.ref (a 0)), some (.int v1), some (.int v2), some (.int v3), some (.int v4), none, none] []) (u : UX) (v1 : Int32) (v2 : Int32) (v4 : Int32) (s0 : Int32) (s1 : Int32) : V x (rmF 0 0) 0 0 (MQ x.below (QW d A (WX d a z.2) (some (.int z.1))) x.args x.s 0 0 A) 7 (Imu d A x.s.heap) (f_X7_serves_b122 k7 u v1 v2 v4 s0 s1 = some z) 122 (WX d a u) [some (.ref (a 0)), some (.int v1), some (.int v2), none, some (.int v4), none, none] [.int s1, .int s0] := by
  unfold f_X7_serves_b122
  refine V_iadd C dX7_serves_122 ?_
  refine V_istore_n (lv' := [some (.ref (a 0)), some (.int v1), some (.int v2), some (.int (s0 + s1)), some (.int v4), none, none]) C 3 dX7_serves_123 rfl (by decide) rfl ?_
  refine V_iinc (v := (v4 + 1)) (lv' := [some (.ref (a 0)), some (.int v1), some (.int v2), some (.int (s0 + s1)), some (.int (v4 + 1)), none, none]) C dX7_serves_124 rfl rfl (by decide) rfl ?_
  refine V_goto (tgt := 7) C dX7_serves_127 (by decide) ?_
  exact hk7 u v1 v2 (s0 + s1) (v4 + 1)
set_option maxRecDepth 20000 in
theorem v_X7_serves_b109 {x : Am} {d : Dt} {A : Nat → Prop} {a : Nat → Nat} (C : Cx x cX7_serves 7 yX7_serves.cls d (Imu d A x.s.heap)) (hr : x.meth.sig.returnType = (some .int)) (hlk : x.meth.locks = false) (z : Int32 × UX) (k7 : UX → Int32 → Int32 → Int32 → Int32 → Option (Int32 × UX)) (hk7 : ∀ (u : UX)(v1 : Int32)(v2 : Int32)(v3 : Int32)(v4 : Int32), V x (rmF 0 0) 0 0 (MQ x.below (QW d A (WX d a z.2) (some (.int z.1))) x.args x.s 0 0 A) 7 (Imu d A x.s.heap) (k7 u v1 v2 v3 v4 = some z) 7 (WX d a u) [some (.ref (a 0)), some (.int v1), some (.int v2), some (.int v3), some (.int v4), none, none] []) (u : UX) (v1 : Int32) (v3 : Int32) (v4 : Int32) (v5 : Int32) (s0 : Int32) (s1 : Int32) : V x (rmF 0 0) 0 0 (MQ x.below (QW d A (WX d a z.2) (some (.int z.1))) x.args x.s 0 0 A) 7 (Imu d A x.s.heap) (f_X7_serves_b109 k7 u v1 v3 v4 v5 s0 s1 = some z) 109 (WX d a u) [some (.ref (a 0)), some (.int v1), none, some (.int v3), some (.int v4), some (.int v5), none] [.int s1, .int s0] := by
  unfold f_X7_serves_b109
  refine V_iadd C dX7_serves_109 ?_
  refine V_istore_n (lv' := [some (.ref (a 0)), some (.int v1), some (.int (s0 + s1)), some (.int v3), some (.int v4), some (.int v5), none]) C 2 dX7_serves_110 rfl (by decide) rfl ?_
  refine V_iload_n C 3 dX7_serves_111 rfl rfl ?_
  refine V_iload C dX7_serves_112 rfl ?_
  refine V_if_eq (tgt := 121) C dX7_serves_114 (by decide) ?_ ?_
  · refine V_iconst (v := 1) C dX7_serves_121 (by decide) ?_
    refine V_mask (lv' := [some (.ref (a 0)), some (.int v1), some (.int (s0 + s1)), none, some (.int v4), none, none]) [true, true, true, false, true, false, true] rfl ?_
    exact v_X7_serves_b122 C hr hlk z k7 hk7 u v1 (s0 + s1) v4 v3 1
  · refine V_iconst (v := 0) C dX7_serves_117 (by decide) ?_
    refine V_goto (tgt := 122) C dX7_serves_118 (by decide) ?_
    refine V_mask (lv' := [some (.ref (a 0)), some (.int v1), some (.int (s0 + s1)), none, some (.int v4), none, none]) [true, true, true, false, true, false, true] rfl ?_
    exact v_X7_serves_b122 C hr hlk z k7 hk7 u v1 (s0 + s1) v4 v3 0
set_option maxRecDepth 20000 in
theorem v_X7_serves_b55 {x : Am} {d : Dt} {A : Nat → Prop} {a : Nat → Nat} (C : Cx x cX7_serves 7 yX7_serves.cls d (Imu d A x.s.heap)) (hr : x.meth.sig.returnType = (some .int)) (hlk : x.meth.locks = false) (z : Int32 × UX) (k7 : UX → Int32 → Int32 → Int32 → Int32 → Option (Int32 × UX)) (hk7 : ∀ (u : UX)(v1 : Int32)(v2 : Int32)(v3 : Int32)(v4 : Int32), V x (rmF 0 0) 0 0 (MQ x.below (QW d A (WX d a z.2) (some (.int z.1))) x.args x.s 0 0 A) 7 (Imu d A x.s.heap) (k7 u v1 v2 v3 v4 = some z) 7 (WX d a u) [some (.ref (a 0)), some (.int v1), some (.int v2), some (.int v3), some (.int v4), none, none] []) (n : Nat) (u : UX) (v1 : Int32) (v2 : Int32) (v3 : Int32) (v4 : Int32) (v5 : Int32) (v6 : Int32) : V x (rmF 0 0) 0 0 (MQ x.below (QW d A (WX d a z.2) (some (.int z.1))) x.args x.s 0 0 A) 7 (Imu d A x.s.heap) (f_X7_serves_b55 k7 n u v1 v2 v3 v4 v5 v6 = some z) 55 (WX d a u) [some (.ref (a 0)), some (.int v1), some (.int v2), some (.int v3), some (.int v4), some (.int v5), some (.int v6)] [] := by
  induction n generalizing u v1 v2 v3 v4 v5 v6 with
  | zero => exact V_none
  | succ n ih =>
    rw [f_X7_serves_b55]
    refine V_iload C dX7_serves_55 rfl ?_
    refine V_iconst (v := 3) C dX7_serves_57 (by decide) ?_
    refine V_icmp_ge (tgt := 98) C dX7_serves_58 (by decide) ?_ ?_
    · refine V_iload_n C 2 dX7_serves_98 rfl rfl ?_
      refine V_iload C dX7_serves_99 rfl ?_
      refine V_if_eq (tgt := 108) C dX7_serves_101 (by decide) ?_ ?_
      · refine V_iconst (v := 0) C dX7_serves_108 (by decide) ?_
        refine V_mask (lv' := [some (.ref (a 0)), some (.int v1), none, some (.int v3), some (.int v4), some (.int v5), none]) [true, true, false, true, true, true, false] rfl ?_
        exact v_X7_serves_b109 C hr hlk z k7 hk7 u v1 v3 v4 v5 v2 0
      · refine V_iconst (v := 1) C dX7_serves_104 (by decide) ?_
        refine V_goto (tgt := 109) C dX7_serves_105 (by decide) ?_
        refine V_mask (lv' := [some (.ref (a 0)), some (.int v1), none, some (.int v3), some (.int v4), some (.int v5), none]) [true, true, false, true, true, true, false] rfl ?_
        exact v_X7_serves_b109 C hr hlk z k7 hk7 u v1 v3 v4 v5 v2 1
    · refine V_aload_n C 0 dX7_serves_61 rfl rfl ?_
      refine V_get (v := .ref (a 1)) C fx7 0 0 kf_X7_7 (by decide) rfl rfl dX7_serves_62 ?_
      refine V_sipush (v := 228) C dX7_serves_65 (by decide) ?_
      refine V_iconst (v := 3) C dX7_serves_68 (by decide) ?_
      refine V_iload_n C 3 dX7_serves_69 rfl rfl ?_
      refine V_imul C dX7_serves_70 ?_
      refine V_iadd C dX7_serves_71 ?_
      refine V_iload C dX7_serves_72 rfl ?_
      refine V_iadd C dX7_serves_74 ?_
      refine V_aload_n C 0 dX7_serves_75 rfl rfl ?_
      refine V_get (v := .ref (a 1)) C fx7 0 0 kf_X7_7 (by decide) rfl rfl dX7_serves_76 ?_
      refine V_sipush (v := 228) C dX7_serves_79 (by decide) ?_
      refine V_iconst (v := 3) C dX7_serves_82 (by decide) ?_
      refine V_iload C dX7_serves_83 rfl ?_
      refine V_imul C dX7_serves_85 ?_
      refine V_iadd C dX7_serves_86 ?_
      refine V_iload C dX7_serves_87 rfl ?_
      refine V_iadd C dX7_serves_89 ?_
      refine V_iald C 1 rfl dX7_serves_90 ?_
      refine V_iast (ws' := WX d a ((upd u.1 ((228 + (3 * v3)) + v6).toNatClampNeg (u.1 ((228 + (3 * v4)) + v6).toNatClampNeg)), u.2.1, u.2.2.1, u.2.2.2.1, u.2.2.2.2.1, u.2.2.2.2.2.1, u.2.2.2.2.2.2.1, u.2.2.2.2.2.2.2.1, u.2.2.2.2.2.2.2.2.1, u.2.2.2.2.2.2.2.2.2.1, u.2.2.2.2.2.2.2.2.2.2.1, u.2.2.2.2.2.2.2.2.2.2.2.1, u.2.2.2.2.2.2.2.2.2.2.2.2.1, u.2.2.2.2.2.2.2.2.2.2.2.2.2)) C 1 (WX_get1 _ _ _) (WX_set1 _ _ _ _) dX7_serves_91 ?_
      refine V_iinc (v := (v6 + 1)) (lv' := [some (.ref (a 0)), some (.int v1), some (.int v2), some (.int v3), some (.int v4), some (.int v5), some (.int (v6 + 1))]) C dX7_serves_92 rfl rfl (by decide) rfl ?_
      refine V_goto (tgt := 55) C dX7_serves_95 (by decide) ?_
      exact ih ((upd u.1 ((228 + (3 * v3)) + v6).toNatClampNeg (u.1 ((228 + (3 * v4)) + v6).toNatClampNeg)), u.2.1, u.2.2.1, u.2.2.2.1, u.2.2.2.2.1, u.2.2.2.2.2.1, u.2.2.2.2.2.2.1, u.2.2.2.2.2.2.2.1, u.2.2.2.2.2.2.2.2.1, u.2.2.2.2.2.2.2.2.2.1, u.2.2.2.2.2.2.2.2.2.2.1, u.2.2.2.2.2.2.2.2.2.2.2.1, u.2.2.2.2.2.2.2.2.2.2.2.2.1, u.2.2.2.2.2.2.2.2.2.2.2.2.2) v1 v2 v3 v4 v5 (v6 + 1)
set_option maxRecDepth 20000 in
theorem v_X7_serves_b50 {x : Am} {d : Dt} {A : Nat → Prop} {a : Nat → Nat} (C : Cx x cX7_serves 7 yX7_serves.cls d (Imu d A x.s.heap)) (hr : x.meth.sig.returnType = (some .int)) (hlk : x.meth.locks = false) (z : Int32 × UX) (k7 : UX → Int32 → Int32 → Int32 → Int32 → Option (Int32 × UX)) (hk7 : ∀ (u : UX)(v1 : Int32)(v2 : Int32)(v3 : Int32)(v4 : Int32), V x (rmF 0 0) 0 0 (MQ x.below (QW d A (WX d a z.2) (some (.int z.1))) x.args x.s 0 0 A) 7 (Imu d A x.s.heap) (k7 u v1 v2 v3 v4 = some z) 7 (WX d a u) [some (.ref (a 0)), some (.int v1), some (.int v2), some (.int v3), some (.int v4), none, none] []) (u : UX) (v1 : Int32) (v2 : Int32) (v3 : Int32) (v4 : Int32) (s0 : Int32) : V x (rmF 0 0) 0 0 (MQ x.below (QW d A (WX d a z.2) (some (.int z.1))) x.args x.s 0 0 A) 7 (Imu d A x.s.heap) (f_X7_serves_b50 k7 u v1 v2 v3 v4 s0 = some z) 50 (WX d a u) [some (.ref (a 0)), some (.int v1), some (.int v2), some (.int v3), some (.int v4), none, none] [.int s0] := by
  unfold f_X7_serves_b50
  refine V_istore (lv' := [some (.ref (a 0)), some (.int v1), some (.int v2), some (.int v3), some (.int v4), some (.int s0), none]) C dX7_serves_50 (by decide) rfl ?_
  refine V_iconst (v := 0) C dX7_serves_52 (by decide) ?_
  refine V_istore (lv' := [some (.ref (a 0)), some (.int v1), some (.int v2), some (.int v3), some (.int v4), some (.int s0), some (.int 0)]) C dX7_serves_53 (by decide) rfl ?_
  exact v_X7_serves_b55 C hr hlk z k7 hk7 FUEL u v1 v2 v3 v4 s0 0
set_option maxRecDepth 20000 in
theorem v_X7_serves_b7 {x : Am} {d : Dt} {A : Nat → Prop} {a : Nat → Nat} (C : Cx x cX7_serves 7 yX7_serves.cls d (Imu d A x.s.heap)) (hr : x.meth.sig.returnType = (some .int)) (hlk : x.meth.locks = false) (z : Int32 × UX) (n : Nat) (u : UX) (v1 : Int32) (v2 : Int32) (v3 : Int32) (v4 : Int32) : V x (rmF 0 0) 0 0 (MQ x.below (QW d A (WX d a z.2) (some (.int z.1))) x.args x.s 0 0 A) 7 (Imu d A x.s.heap) (f_X7_serves_b7 n u v1 v2 v3 v4 = some z) 7 (WX d a u) [some (.ref (a 0)), some (.int v1), some (.int v2), some (.int v3), some (.int v4), none, none] [] := by
  induction n generalizing u v1 v2 v3 v4 with
  | zero => exact V_none
  | succ n ih =>
    rw [f_X7_serves_b7]
    refine V_iload C dX7_serves_7 rfl ?_
    refine V_aload_n C 0 dX7_serves_9 rfl rfl ?_
    refine V_get (v := .ref (a 1)) C fx7 0 0 kf_X7_7 (by decide) rfl rfl dX7_serves_10 ?_
    refine V_bipush (v := 8) C dX7_serves_13 (by decide) ?_
    refine V_ialdc C 1 8 rfl (by decide) (by decide) dX7_serves_15 ?_
    refine V_icmp_ge (tgt := 130) C dX7_serves_16 (by decide) ?_ ?_
    · refine V_aload_n C 0 dX7_serves_130 rfl rfl ?_
      refine V_get (v := .ref (a 1)) C fx7 0 0 kf_X7_7 (by decide) rfl rfl dX7_serves_131 ?_
      refine V_bipush (v := 8) C dX7_serves_134 (by decide) ?_
      refine V_iload_n C 3 dX7_serves_136 rfl rfl ?_
      refine V_iastc (ws' := WX d a ((upd u.1 8 v3), u.2.1, u.2.2.1, u.2.2.2.1, u.2.2.2.2.1, u.2.2.2.2.2.1, u.2.2.2.2.2.2.1, u.2.2.2.2.2.2.2.1, u.2.2.2.2.2.2.2.2.1, u.2.2.2.2.2.2.2.2.2.1, u.2.2.2.2.2.2.2.2.2.2.1, u.2.2.2.2.2.2.2.2.2.2.2.1, u.2.2.2.2.2.2.2.2.2.2.2.2.1, u.2.2.2.2.2.2.2.2.2.2.2.2.2)) C 1 8 (WX_get1 _ _ _) (by decide) (by decide) (WX_set1 _ _ _ _) dX7_serves_137 ?_
      refine V_aload_n C 0 dX7_serves_138 rfl rfl ?_
      refine V_get (v := .ref (a 1)) C fx7 0 0 kf_X7_7 (by decide) rfl rfl dX7_serves_139 ?_
      refine V_bipush (v := 9) C dX7_serves_142 (by decide) ?_
      refine V_dup2 C dX7_serves_144 rfl rfl ?_
      refine V_ialdc C 1 9 rfl (by decide) (by decide) dX7_serves_145 ?_
      refine V_iload_n C 2 dX7_serves_146 rfl rfl ?_
      refine V_iadd C dX7_serves_147 ?_
      refine V_iastc (ws' := WX d a ((upd (upd u.1 8 v3) 9 (((upd u.1 8 v3) 9) + v2)), u.2.1, u.2.2.1, u.2.2.2.1, u.2.2.2.2.1, u.2.2.2.2.2.1, u.2.2.2.2.2.2.1, u.2.2.2.2.2.2.2.1, u.2.2.2.2.2.2.2.2.1, u.2.2.2.2.2.2.2.2.2.1, u.2.2.2.2.2.2.2.2.2.2.1, u.2.2.2.2.2.2.2.2.2.2.2.1, u.2.2.2.2.2.2.2.2.2.2.2.2.1, u.2.2.2.2.2.2.2.2.2.2.2.2.2)) C 1 9 (WX_get1 _ _ _) (by decide) (by decide) (WX_set1 _ _ _ _) dX7_serves_148 ?_
      refine V_aload_n C 0 dX7_serves_149 rfl rfl ?_
      refine V_get (v := .ref (a 1)) C fx7 0 0 kf_X7_7 (by decide) rfl rfl dX7_serves_150 ?_
      refine V_bipush (v := 48) C dX7_serves_153 (by decide) ?_
      refine V_iconst (v := 4) C dX7_serves_155 (by decide) ?_
      refine V_iload_n C 1 dX7_serves_156 rfl rfl ?_
      refine V_imul C dX7_serves_157 ?_
      refine V_iadd C dX7_serves_158 ?_
      refine V_iconst (v := 3) C dX7_serves_159 (by decide) ?_
      refine V_iadd C dX7_serves_160 ?_
      refine V_dup2 C dX7_serves_161 rfl rfl ?_
      refine V_iald C 1 rfl dX7_serves_162 ?_
      refine V_iload_n C 2 dX7_serves_163 rfl rfl ?_
      refine V_iadd C dX7_serves_164 ?_
      refine V_iast (ws' := WX d a ((upd (upd (upd u.1 8 v3) 9 (((upd u.1 8 v3) 9) + v2)) ((48 + (4 * v1)) + 3).toNatClampNeg (((upd (upd u.1 8 v3) 9 (((upd u.1 8 v3) 9) + v2)) ((48 + (4 * v1)) + 3).toNatClampNeg) + v2)), u.2.1, u.2.2.1, u.2.2.2.1, u.2.2.2.2.1, u.2.2.2.2.2.1, u.2.2.2.2.2.2.1, u.2.2.2.2.2.2.2.1, u.2.2.2.2.2.2.2.2.1, u.2.2.2.2.2.2.2.2.2.1, u.2.2.2.2.2.2.2.2.2.2.1, u.2.2.2.2.2.2.2.2.2.2.2.1, u.2.2.2.2.2.2.2.2.2.2.2.2.1, u.2.2.2.2.2.2.2.2.2.2.2.2.2)) C 1 (WX_get1 _ _ _) (WX_set1 _ _ _ _) dX7_serves_165 ?_
      refine V_iload_n C 2 dX7_serves_166 rfl rfl ?_
      exact V_iretW (Wd := fun w => WX d a w) C hr hlk dX7_serves_167 rfl
    · refine V_aload_n C 0 dX7_serves_19 rfl rfl ?_
      refine V_get (v := .ref (a 1)) C fx7 0 0 kf_X7_7 (by decide) rfl rfl dX7_serves_20 ?_
      refine V_sipush (v := 168) C dX7_serves_23 (by decide) ?_
      refine V_aload_n C 0 dX7_serves_26 rfl rfl ?_
      refine V_get (v := .ref (a 1)) C fx7 0 0 kf_X7_7 (by decide) rfl rfl dX7_serves_27 ?_
      refine V_sipush (v := 228) C dX7_serves_30 (by decide) ?_
      refine V_iconst (v := 3) C dX7_serves_33 (by decide) ?_
      refine V_iload C dX7_serves_34 rfl ?_
      refine V_imul C dX7_serves_36 ?_
      refine V_iadd C dX7_serves_37 ?_
      refine V_iald C 1 rfl dX7_serves_38 ?_
      refine V_iadd C dX7_serves_39 ?_
      refine V_iald C 1 rfl dX7_serves_40 ?_
      refine V_iload_n C 1 dX7_serves_41 rfl rfl ?_
      refine V_icmp_ne (tgt := 49) C dX7_serves_42 (by decide) ?_ ?_
      · refine V_iconst (v := 0) C dX7_serves_49 (by decide) ?_
        exact v_X7_serves_b50 C hr hlk z (f_X7_serves_b7  n) ih u v1 v2 v3 v4 0
      · refine V_iconst (v := 1) C dX7_serves_45 (by decide) ?_
        refine V_goto (tgt := 50) C dX7_serves_46 (by decide) ?_
        exact v_X7_serves_b50 C hr hlk z (f_X7_serves_b7  n) ih u v1 v2 v3 v4 1
set_option maxRecDepth 20000 in
theorem v_X7_serves {x : Am} {d : Dt} {A : Nat → Prop} {a : Nat → Nat} (C : Cx x cX7_serves 7 yX7_serves.cls d (Imu d A x.s.heap)) (hr : x.meth.sig.returnType = (some .int)) (hlk : x.meth.locks = false) (z : Int32 × UX) (u : UX) (p1 : Int32) : V x (rmF 0 0) 0 0 (MQ x.below (QW d A (WX d a z.2) (some (.int z.1))) x.args x.s 0 0 A) 7 (Imu d A x.s.heap) (f_X7_serves u p1 = some z) 0 (WX d a u) [some (.ref (a 0)), some (.int p1), none, none, none, none, none] [] := by
  unfold f_X7_serves
  refine V_iconst (v := 0) C dX7_serves_0 (by decide) ?_
  refine V_istore_n (lv' := [some (.ref (a 0)), some (.int p1), some (.int 0), none, none, none, none]) C 2 dX7_serves_1 rfl (by decide) rfl ?_
  refine V_iconst (v := 0) C dX7_serves_2 (by decide) ?_
  refine V_istore_n (lv' := [some (.ref (a 0)), some (.int p1), some (.int 0), some (.int 0), none, none, none]) C 3 dX7_serves_3 rfl (by decide) rfl ?_
  refine V_iconst (v := 0) C dX7_serves_4 (by decide) ?_
  refine V_istore (lv' := [some (.ref (a 0)), some (.int p1), some (.int 0), some (.int 0), some (.int 0), none, none]) C dX7_serves_5 (by decide) rfl ?_
  exact v_X7_serves_b7 C hr hlk z FUEL u p1 0 0 0
set_option maxRecDepth 20000 in
theorem ct_X7_serves (l : Launch) (d : Dt) (a : Nat → Nat) (u : UX) (p1 : Int32) (z : Int32 × UX) (h : f_X7_serves u p1 = some z) : CtW l d yX7_serves cX7_serves 7 (some .int) (rmF 0 0) [.ref (a 0), .int p1] (WX d a u) (WX d a z.2) (some (.int z.1)) :=
  CtW.start (by decide) (Nat.le_of_ble_eq_true rfl) (by simp [Value.category]) [some (.ref (a 0)), some (.int p1), none, none, none, none, none] rfl (fun x A C hr hlk => V_eqv (fun _ => h) (v_X7_serves C hr hlk z u p1))

/-! MastRobotsModel.mounts -/
def f_X7_mounts (u : UX) (p1 : Int32) : Option (Int32 × UX) :=
  ((f_X7_in p1 0 1).bind fun r3 => (if r3 = 0 then some ((-1000001), u) else ((f_X7_wallOf p1).bind fun r19 => (if (u.1 1) = r19 then (if (u.1 2) = 0 then some ((-1000002), u) else (if inb (11 + p1) 264 = true then (if 0 ≤ (u.1 (11 + p1).toNatClampNeg) then some ((-1000002), u) else (if inb ((3 + (u.1 2)) - 1) 264 = true then ((f_X7_ca u (u.1 ((3 + (u.1 2)) - 1).toNatClampNeg) 1).bind fun r63 => (if r63 < 6 then ((f_X7_leaves u).bind fun r75 => (if inb (11 + p1) 264 = true then (if inb (13 + p1) 264 = true then (if inb ((48 + (4 * r75.1)) + 1) 264 = true then (if inb ((48 + (4 * r75.1)) + 1) 264 = true then ((f_X7_isAt ((upd (upd (upd (upd r75.2.1 (11 + p1).toNatClampNeg r75.1) (13 + p1).toNatClampNeg ((upd r75.2.1 (11 + p1).toNatClampNeg r75.1) 15)) 15 (((upd (upd r75.2.1 (11 + p1).toNatClampNeg r75.1) (13 + p1).toNatClampNeg ((upd r75.2.1 (11 + p1).toNatClampNeg r75.1) 15)) 15) + 1)) ((48 + (4 * r75.1)) + 1).toNatClampNeg (((upd (upd (upd r75.2.1 (11 + p1).toNatClampNeg r75.1) (13 + p1).toNatClampNeg ((upd r75.2.1 (11 + p1).toNatClampNeg r75.1) 15)) 15 (((upd (upd r75.2.1 (11 + p1).toNatClampNeg r75.1) (13 + p1).toNatClampNeg ((upd r75.2.1 (11 + p1).toNatClampNeg r75.1) 15)) 15) + 1)) ((48 + (4 * r75.1)) + 1).toNatClampNeg) + 1)), r75.2.2.1, r75.2.2.2.1, r75.2.2.2.2.1, r75.2.2.2.2.2.1, r75.2.2.2.2.2.2.1, r75.2.2.2.2.2.2.2.1, r75.2.2.2.2.2.2.2.2.1, r75.2.2.2.2.2.2.2.2.2.1, r75.2.2.2.2.2.2.2.2.2.2.1, r75.2.2.2.2.2.2.2.2.2.2.2.1, r75.2.2.2.2.2.2.2.2.2.2.2.2.1, r75.2.2.2.2.2.2.2.2.2.2.2.2.2.1, r75.2.2.2.2.2.2.2.2.2.2.2.2.2.2) r75.1 2).bind fun r136 => ((f_X7_serves ((upd r136.1 0 ((r136.1 0) + 3)), r136.2.1, r136.2.2.1, r136.2.2.2.1, r136.2.2.2.2.1, r136.2.2.2.2.2.1, r136.2.2.2.2.2.2.1, r136.2.2.2.2.2.2.2.1, r136.2.2.2.2.2.2.2.2.1, r136.2.2.2.2.2.2.2.2.2.1, r136.2.2.2.2.2.2.2.2.2.2.1, r136.2.2.2.2.2.2.2.2.2.2.2.1, r136.2.2.2.2.2.2.2.2.2.2.2.2.1, r136.2.2.2.2.2.2.2.2.2.2.2.2.2) r75.1).bind fun r151 => some (r151.1, r151.2))) else none) else none) else none) else none)) else some ((-1000002), u))) else none)) else none)) else some ((-1000002), u)))))
set_option maxRecDepth 20000 in
theorem v_X7_mounts {x : Am} {d : Dt} {A : Nat → Prop} {a : Nat → Nat} (C : Cx x cX7_mounts 3 yX7_mounts.cls d (Imu d A x.s.heap)) (hr : x.meth.sig.returnType = (some .int)) (hlk : x.meth.locks = false) (z : Int32 × UX) (u : UX) (p1 : Int32) : V x (rmF 1 26) 0 0 (MQ x.below (QW d A (WX d a z.2) (some (.int z.1))) x.args x.s 0 0 A) 3 (Imu d A x.s.heap) (f_X7_mounts u p1 = some z) 0 (WX d a u) [some (.ref (a 0)), some (.int p1), none] [] := by
  unfold f_X7_mounts
  refine V_iload_n C 1 dX7_mounts_0 rfl rfl ?_
  refine V_iconst (v := 0) C dX7_mounts_1 (by decide) ?_
  refine V_iconst (v := 1) C dX7_mounts_2 (by decide) ?_
  refine V_callSi (As := [.int p1, .int 0, .int 1]) (rest := []) (wc := []) C (fun r h => ct_X7_in _ d p1 0 1 r h) ks_X7_in kl_X7_26 [] dX7_mounts_3 rfl rfl (Nat.le_of_ble_eq_true rfl) ⟨(Nat.le_of_ble_eq_true rfl), (Nat.le_of_ble_eq_true rfl)⟩ rfl rfl ⟨Nat.le_refl _, Nat.le_refl _⟩ rfl (fun r3 hr3 => ?_)
  refine V_if_ne (tgt := 12) C dX7_mounts_6 (by decide) ?_ ?_
  · refine V_aload_n C 0 dX7_mounts_12 rfl rfl ?_
    refine V_get (v := .ref (a 1)) C fx7 0 0 kf_X7_7 (by decide) rfl rfl dX7_mounts_13 ?_
    refine V_iconst (v := 1) C dX7_mounts_16 (by decide) ?_
    refine V_ialdc C 1 1 rfl (by decide) (by decide) dX7_mounts_17 ?_
    refine V_iload_n C 1 dX7_mounts_18 rfl rfl ?_
    refine V_callSi (As := [.int p1]) (rest := [.int (u.1 1)]) (wc := []) C (fun r h => ct_X7_wallOf _ d p1 r h) ks_X7_wallOf kl_X7_88 [] dX7_mounts_19 rfl rfl (Nat.le_of_ble_eq_true rfl) ⟨(Nat.le_of_ble_eq_true rfl), (Nat.le_of_ble_eq_true rfl)⟩ rfl rfl ⟨Nat.le_refl _, Nat.le_refl _⟩ rfl (fun r19 hr19 => ?_)
    refine V_icmp_ne (tgt := 71) C dX7_mounts_22 (by decide) ?_ ?_
    · refine V_ldc C kc_X7_35 dX7_mounts_71 ?_
      exact V_iretW (Wd := fun w => WX d a w) C hr hlk dX7_mounts_73 rfl
    · refine V_aload_n C 0 dX7_mounts_25 rfl rfl ?_
      refine V_get (v := .ref (a 1)) C fx7 0 0 kf_X7_7 (by decide) rfl rfl dX7_mounts_26 ?_
      refine V_iconst (v := 2) C dX7_mounts_29 (by decide) ?_
      refine V_ialdc C 1 2 rfl (by decide) (by decide) dX7_mounts_30 ?_
      refine V_if_eq (tgt := 71) C dX7_mounts_31 (by decide) ?_ ?_
      · refine V_ldc C kc_X7_35 dX7_mounts_71 ?_
        exact V_iretW (Wd := fun w => WX d a w) C hr hlk dX7_mounts_73 rfl
      · refine V_aload_n C 0 dX7_mounts_34 rfl rfl ?_
        refine V_get (v := .ref (a 1)) C fx7 0 0 kf_X7_7 (by decide) rfl rfl dX7_mounts_35 ?_
        refine V_bipush (v := 11) C dX7_mounts_38 (by decide) ?_
        refine V_iload_n C 1 dX7_mounts_40 rfl rfl ?_
        refine V_iadd C dX7_mounts_41 ?_
        refine V_iald C 1 rfl dX7_mounts_42 ?_
        refine V_if_ge (tgt := 71) C dX7_mounts_43 (by decide) ?_ ?_
        · refine V_ldc C kc_X7_35 dX7_mounts_71 ?_
          exact V_iretW (Wd := fun w => WX d a w) C hr hlk dX7_mounts_73 rfl
        · refine V_aload_n C 0 dX7_mounts_46 rfl rfl ?_
          refine V_aload_n C 0 dX7_mounts_47 rfl rfl ?_
          refine V_get (v := .ref (a 1)) C fx7 0 0 kf_X7_7 (by decide) rfl rfl dX7_mounts_48 ?_
          refine V_iconst (v := 3) C dX7_mounts_51 (by decide) ?_
          refine V_aload_n C 0 dX7_mounts_52 rfl rfl ?_
          refine V_get (v := .ref (a 1)) C fx7 0 0 kf_X7_7 (by decide) rfl rfl dX7_mounts_53 ?_
          refine V_iconst (v := 2) C dX7_mounts_56 (by decide) ?_
          refine V_ialdc C 1 2 rfl (by decide) (by decide) dX7_mounts_57 ?_
          refine V_iadd C dX7_mounts_58 ?_
          refine V_iconst (v := 1) C dX7_mounts_59 (by decide) ?_
          refine V_isub C dX7_mounts_60 ?_
          refine V_iald C 1 rfl dX7_mounts_61 ?_
          refine V_iconst (v := 1) C dX7_mounts_62 (by decide) ?_
          refine V_callRi (As := [.int (u.1 ((3 + (u.1 2)) - 1).toNatClampNeg), .int 1]) (rest := []) (wc := WX d a u) C (fun r h => ct_X7_ca _ d a u (u.1 ((3 + (u.1 2)) - 1).toNatClampNeg) 1 r h) kv_X7_ca kl_X7_44 [0, 1, 2, 3, 4, 5] dX7_mounts_63 rfl rfl rfl rfl (Nat.le_of_ble_eq_true rfl) ⟨(Nat.le_of_ble_eq_true rfl), (Nat.le_of_ble_eq_true rfl)⟩ rfl rfl ⟨Nat.le_refl _, Nat.le_refl _⟩ rfl (fun r63 hr63 => ?_)
          refine V_bipush (v := 6) C dX7_mounts_66 (by decide) ?_
          refine V_icmp_lt (tgt := 74) C dX7_mounts_68 (by decide) ?_ ?_
          · refine V_aload_n C 0 dX7_mounts_74 rfl rfl ?_
            refine V_callWi (As := []) (rest := []) (wc := WX d a u) (Wd := fun w => WX d a w) C (fun r h => ct_X7_leaves _ d a u r h) kv_X7_leaves kl_X7_73 [0, 1, 2, 3, 4, 5] (fun w => WX d a w) dX7_mounts_75 rfl rfl (fun _ => rfl) (fun _ => rfl) rfl rfl rfl (Nat.le_of_ble_eq_true rfl) ⟨(Nat.le_of_ble_eq_true rfl), (Nat.le_of_ble_eq_true rfl)⟩ rfl rfl ⟨Nat.le_refl _, Nat.le_refl _⟩ rfl (fun r75 hr75 => ?_)
            refine V_istore_n (lv' := [some (.ref (a 0)), some (.int p1), some (.int r75.1)]) C 2 dX7_mounts_78 rfl (by decide) rfl ?_
            refine V_aload_n C 0 dX7_mounts_79 rfl rfl ?_
            refine V_get (v := .ref (a 1)) C fx7 0 0 kf_X7_7 (by decide) rfl rfl dX7_mounts_80 ?_
            refine V_bipush (v := 11) C dX7_mounts_83 (by decide) ?_
            refine V_iload_n C 1 dX7_mounts_85 rfl rfl ?_
            refine V_iadd C dX7_mounts_86 ?_
            refine V_iload_n C 2 dX7_mounts_87 rfl rfl ?_
            refine V_iast (ws' := WX d a ((upd r75.2.1 (11 + p1).toNatClampNeg r75.1), r75.2.2.1, r75.2.2.2.1, r75.2.2.2.2.1, r75.2.2.2.2.2.1, r75.2.2.2.2.2.2.1, r75.2.2.2.2.2.2.2.1, r75.2.2.2.2.2.2.2.2.1, r75.2.2.2.2.2.2.2.2.2.1, r75.2.2.2.2.2.2.2.2.2.2.1, r75.2.2.2.2.2.2.2.2.2.2.2.1, r75.2.2.2.2.2.2.2.2.2.2.2.2.1, r75.2.2.2.2.2.2.2.2.2.2.2.2.2.1, r75.2.2.2.2.2.2.2.2.2.2.2.2.2.2)) C 1 (WX_get1 _ _ _) (WX_set1 _ _ _ _) dX7_mounts_88 ?_
            refine V_aload_n C 0 dX7_mounts_89 rfl rfl ?_
            refine V_get (v := .ref (a 1)) C fx7 0 0 kf_X7_7 (by decide) rfl rfl dX7_mounts_90 ?_
            refine V_bipush (v := 13) C dX7_mounts_93 (by decide) ?_
            refine V_iload_n C 1 dX7_mounts_95 rfl rfl ?_
            refine V_iadd C dX7_mounts_96 ?_
            refine V_aload_n C 0 dX7_mounts_97 rfl rfl ?_
            refine V_get (v := .ref (a 1)) C fx7 0 0 kf_X7_7 (by decide) rfl rfl dX7_mounts_98 ?_
            refine V_bipush (v := 15) C dX7_mounts_101 (by decide) ?_
            refine V_ialdc C 1 15 rfl (by decide) (by decide) dX7_mounts_103 ?_
            refine V_iast (ws' := WX d a ((upd (upd r75.2.1 (11 + p1).toNatClampNeg r75.1) (13 + p1).toNatClampNeg ((upd r75.2.1 (11 + p1).toNatClampNeg r75.1) 15)), r75.2.2.1, r75.2.2.2.1, r75.2.2.2.2.1, r75.2.2.2.2.2.1, r75.2.2.2.2.2.2.1, r75.2.2.2.2.2.2.2.1, r75.2.2.2.2.2.2.2.2.1, r75.2.2.2.2.2.2.2.2.2.1, r75.2.2.2.2.2.2.2.2.2.2.1, r75.2.2.2.2.2.2.2.2.2.2.2.1, r75.2.2.2.2.2.2.2.2.2.2.2.2.1, r75.2.2.2.2.2.2.2.2.2.2.2.2.2.1, r75.2.2.2.2.2.2.2.2.2.2.2.2.2.2)) C 1 (WX_get1 _ _ _) (WX_set1 _ _ _ _) dX7_mounts_104 ?_
            refine V_aload_n C 0 dX7_mounts_105 rfl rfl ?_
            refine V_get (v := .ref (a 1)) C fx7 0 0 kf_X7_7 (by decide) rfl rfl dX7_mounts_106 ?_
            refine V_bipush (v := 15) C dX7_mounts_109 (by decide) ?_
            refine V_dup2 C dX7_mounts_111 rfl rfl ?_
            refine V_ialdc C 1 15 rfl (by decide) (by decide) dX7_mounts_112 ?_
            refine V_iconst (v := 1) C dX7_mounts_113 (by decide) ?_
            refine V_iadd C dX7_mounts_114 ?_
            refine V_iastc (ws' := WX d a ((upd (upd (upd r75.2.1 (11 + p1).toNatClampNeg r75.1) (13 + p1).toNatClampNeg ((upd r75.2.1 (11 + p1).toNatClampNeg r75.1) 15)) 15 (((upd (upd r75.2.1 (11 + p1).toNatClampNeg r75.1) (13 + p1).toNatClampNeg ((upd r75.2.1 (11 + p1).toNatClampNeg r75.1) 15)) 15) + 1)), r75.2.2.1, r75.2.2.2.1, r75.2.2.2.2.1, r75.2.2.2.2.2.1, r75.2.2.2.2.2.2.1, r75.2.2.2.2.2.2.2.1, r75.2.2.2.2.2.2.2.2.1, r75.2.2.2.2.2.2.2.2.2.1, r75.2.2.2.2.2.2.2.2.2.2.1, r75.2.2.2.2.2.2.2.2.2.2.2.1, r75.2.2.2.2.2.2.2.2.2.2.2.2.1, r75.2.2.2.2.2.2.2.2.2.2.2.2.2.1, r75.2.2.2.2.2.2.2.2.2.2.2.2.2.2)) C 1 15 (WX_get1 _ _ _) (by decide) (by decide) (WX_set1 _ _ _ _) dX7_mounts_115 ?_
            refine V_aload_n C 0 dX7_mounts_116 rfl rfl ?_
            refine V_get (v := .ref (a 1)) C fx7 0 0 kf_X7_7 (by decide) rfl rfl dX7_mounts_117 ?_
            refine V_bipush (v := 48) C dX7_mounts_120 (by decide) ?_
            refine V_iconst (v := 4) C dX7_mounts_122 (by decide) ?_
            refine V_iload_n C 2 dX7_mounts_123 rfl rfl ?_
            refine V_imul C dX7_mounts_124 ?_
            refine V_iadd C dX7_mounts_125 ?_
            refine V_iconst (v := 1) C dX7_mounts_126 (by decide) ?_
            refine V_iadd C dX7_mounts_127 ?_
            refine V_dup2 C dX7_mounts_128 rfl rfl ?_
            refine V_iald C 1 rfl dX7_mounts_129 ?_
            refine V_iconst (v := 1) C dX7_mounts_130 (by decide) ?_
            refine V_iadd C dX7_mounts_131 ?_
            refine V_iast (ws' := WX d a ((upd (upd (upd (upd r75.2.1 (11 + p1).toNatClampNeg r75.1) (13 + p1).toNatClampNeg ((upd r75.2.1 (11 + p1).toNatClampNeg r75.1) 15)) 15 (((upd (upd r75.2.1 (11 + p1).toNatClampNeg r75.1) (13 + p1).toNatClampNeg ((upd r75.2.1 (11 + p1).toNatClampNeg r75.1) 15)) 15) + 1)) ((48 + (4 * r75.1)) + 1).toNatClampNeg (((upd (upd (upd r75.2.1 (11 + p1).toNatClampNeg r75.1) (13 + p1).toNatClampNeg ((upd r75.2.1 (11 + p1).toNatClampNeg r75.1) 15)) 15 (((upd (upd r75.2.1 (11 + p1).toNatClampNeg r75.1) (13 + p1).toNatClampNeg ((upd r75.2.1 (11 + p1).toNatClampNeg r75.1) 15)) 15) + 1)) ((48 + (4 * r75.1)) + 1).toNatClampNeg) + 1)), r75.2.2.1, r75.2.2.2.1, r75.2.2.2.2.1, r75.2.2.2.2.2.1, r75.2.2.2.2.2.2.1, r75.2.2.2.2.2.2.2.1, r75.2.2.2.2.2.2.2.2.1, r75.2.2.2.2.2.2.2.2.2.1, r75.2.2.2.2.2.2.2.2.2.2.1, r75.2.2.2.2.2.2.2.2.2.2.2.1, r75.2.2.2.2.2.2.2.2.2.2.2.2.1, r75.2.2.2.2.2.2.2.2.2.2.2.2.2.1, r75.2.2.2.2.2.2.2.2.2.2.2.2.2.2)) C 1 (WX_get1 _ _ _) (WX_set1 _ _ _ _) dX7_mounts_132 ?_
            refine V_aload_n C 0 dX7_mounts_133 rfl rfl ?_
            refine V_iload_n C 2 dX7_mounts_134 rfl rfl ?_
            refine V_iconst (v := 2) C dX7_mounts_135 (by decide) ?_
            refine V_callWv (As := [.int r75.1, .int 2]) (rest := []) (wc := WX d a ((upd (upd (upd (upd r75.2.1 (11 + p1).toNatClampNeg r75.1) (13 + p1).toNatClampNeg ((upd r75.2.1 (11 + p1).toNatClampNeg r75.1) 15)) 15 (((upd (upd r75.2.1 (11 + p1).toNatClampNeg r75.1) (13 + p1).toNatClampNeg ((upd r75.2.1 (11 + p1).toNatClampNeg r75.1) 15)) 15) + 1)) ((48 + (4 * r75.1)) + 1).toNatClampNeg (((upd (upd (upd r75.2.1 (11 + p1).toNatClampNeg r75.1) (13 + p1).toNatClampNeg ((upd r75.2.1 (11 + p1).toNatClampNeg r75.1) 15)) 15 (((upd (upd r75.2.1 (11 + p1).toNatClampNeg r75.1) (13 + p1).toNatClampNeg ((upd r75.2.1 (11 + p1).toNatClampNeg r75.1) 15)) 15) + 1)) ((48 + (4 * r75.1)) + 1).toNatClampNeg) + 1)), r75.2.2.1, r75.2.2.2.1, r75.2.2.2.2.1, r75.2.2.2.2.2.1, r75.2.2.2.2.2.2.1, r75.2.2.2.2.2.2.2.1, r75.2.2.2.2.2.2.2.2.1, r75.2.2.2.2.2.2.2.2.2.1, r75.2.2.2.2.2.2.2.2.2.2.1, r75.2.2.2.2.2.2.2.2.2.2.2.1, r75.2.2.2.2.2.2.2.2.2.2.2.2.1, r75.2.2.2.2.2.2.2.2.2.2.2.2.2.1, r75.2.2.2.2.2.2.2.2.2.2.2.2.2.2)) (Wd := fun w => WX d a w) C (fun r h => ct_X7_isAt _ d a ((upd (upd (upd (upd r75.2.1 (11 + p1).toNatClampNeg r75.1) (13 + p1).toNatClampNeg ((upd r75.2.1 (11 + p1).toNatClampNeg r75.1) 15)) 15 (((upd (upd r75.2.1 (11 + p1).toNatClampNeg r75.1) (13 + p1).toNatClampNeg ((upd r75.2.1 (11 + p1).toNatClampNeg r75.1) 15)) 15) + 1)) ((48 + (4 * r75.1)) + 1).toNatClampNeg (((upd (upd (upd r75.2.1 (11 + p1).toNatClampNeg r75.1) (13 + p1).toNatClampNeg ((upd r75.2.1 (11 + p1).toNatClampNeg r75.1) 15)) 15 (((upd (upd r75.2.1 (11 + p1).toNatClampNeg r75.1) (13 + p1).toNatClampNeg ((upd r75.2.1 (11 + p1).toNatClampNeg r75.1) 15)) 15) + 1)) ((48 + (4 * r75.1)) + 1).toNatClampNeg) + 1)), r75.2.2.1, r75.2.2.2.1, r75.2.2.2.2.1, r75.2.2.2.2.2.1, r75.2.2.2.2.2.2.1, r75.2.2.2.2.2.2.2.1, r75.2.2.2.2.2.2.2.2.1, r75.2.2.2.2.2.2.2.2.2.1, r75.2.2.2.2.2.2.2.2.2.2.1, r75.2.2.2.2.2.2.2.2.2.2.2.1, r75.2.2.2.2.2.2.2.2.2.2.2.2.1, r75.2.2.2.2.2.2.2.2.2.2.2.2.2.1, r75.2.2.2.2.2.2.2.2.2.2.2.2.2.2) r75.1 2 r h) kv_X7_isAt kl_X7_55 [0, 1, 2, 3, 4, 5] (fun w => WX d a w) dX7_mounts_136 rfl rfl (fun _ => rfl) (fun _ => rfl) rfl rfl rfl (Nat.le_of_ble_eq_true rfl) ⟨(Nat.le_of_ble_eq_true rfl), (Nat.le_of_ble_eq_true rfl)⟩ rfl rfl ⟨Nat.le_refl _, Nat.le_refl _⟩ rfl (fun r136 hr136 => ?_)
            refine V_aload_n C 0 dX7_mounts_139 rfl rfl ?_
            refine V_get (v := .ref (a 1)) C fx7 0 0 kf_X7_7 (by decide) rfl rfl dX7_mounts_140 ?_
            refine V_iconst (v := 0) C dX7_mounts_143 (by decide) ?_
            refine V_dup2 C dX7_mounts_144 rfl rfl ?_
            refine V_ialdc C 1 0 rfl (by decide) (by decide) dX7_mounts_145 ?_
            refine V_iconst (v := 3) C dX7_mounts_146 (by decide) ?_
            refine V_iadd C dX7_mounts_147 ?_
            refine V_iastc (ws' := WX d a ((upd r136.1 0 ((r136.1 0) + 3)), r136.2.1, r136.2.2.1, r136.2.2.2.1, r136.2.2.2.2.1, r136.2.2.2.2.2.1, r136.2.2.2.2.2.2.1, r136.2.2.2.2.2.2.2.1, r136.2.2.2.2.2.2.2.2.1, r136.2.2.2.2.2.2.2.2.2.1, r136.2.2.2.2.2.2.2.2.2.2.1, r136.2.2.2.2.2.2.2.2.2.2.2.1, r136.2.2.2.2.2.2.2.2.2.2.2.2.1, r136.2.2.2.2.2.2.2.2.2.2.2.2.2)) C 1 0 (WX_get1 _ _ _) (by decide) (by decide) (WX_set1 _ _ _ _) dX7_mounts_148 ?_
            refine V_aload_n C 0 dX7_mounts_149 rfl rfl ?_
            refine V_iload_n C 2 dX7_mounts_150 rfl rfl ?_
            refine V_callWi (As := [.int r75.1]) (rest := []) (wc := WX d a ((upd r136.1 0 ((r136.1 0) + 3)), r136.2.1, r136.2.2.1, r136.2.2.2.1, r136.2.2.2.2.1, r136.2.2.2.2.2.1, r136.2.2.2.2.2.2.1, r136.2.2.2.2.2.2.2.1, r136.2.2.2.2.2.2.2.2.1, r136.2.2.2.2.2.2.2.2.2.1, r136.2.2.2.2.2.2.2.2.2.2.1, r136.2.2.2.2.2.2.2.2.2.2.2.1, r136.2.2.2.2.2.2.2.2.2.2.2.2.1, r136.2.2.2.2.2.2.2.2.2.2.2.2.2)) (Wd := fun w => WX d a w) C (fun r h => ct_X7_serves _ d a ((upd r136.1 0 ((r136.1 0) + 3)), r136.2.1, r136.2.2.1, r136.2.2.2.1, r136.2.2.2.2.1, r136.2.2.2.2.2.1, r136.2.2.2.2.2.2.1, r136.2.2.2.2.2.2.2.1, r136.2.2.2.2.2.2.2.2.1, r136.2.2.2.2.2.2.2.2.2.1, r136.2.2.2.2.2.2.2.2.2.2.1, r136.2.2.2.2.2.2.2.2.2.2.2.1, r136.2.2.2.2.2.2.2.2.2.2.2.2.1, r136.2.2.2.2.2.2.2.2.2.2.2.2.2) r75.1 r h) kv_X7_serves kl_X7_91 [0, 1, 2, 3, 4, 5] (fun w => WX d a w) dX7_mounts_151 rfl rfl (fun _ => rfl) (fun _ => rfl) rfl rfl rfl (Nat.le_of_ble_eq_true rfl) ⟨(Nat.le_of_ble_eq_true rfl), (Nat.le_of_ble_eq_true rfl)⟩ rfl rfl ⟨Nat.le_refl _, Nat.le_refl _⟩ rfl (fun r151 hr151 => ?_)
            exact V_iretW (Wd := fun w => WX d a w) C hr hlk dX7_mounts_154 rfl
          · refine V_ldc C kc_X7_35 dX7_mounts_71 ?_
            exact V_iretW (Wd := fun w => WX d a w) C hr hlk dX7_mounts_73 rfl
  · refine V_ldc C kc_X7_30 dX7_mounts_9 ?_
    exact V_iretW (Wd := fun w => WX d a w) C hr hlk dX7_mounts_11 rfl
set_option maxRecDepth 20000 in
theorem ct_X7_mounts (l : Launch) (d : Dt) (a : Nat → Nat) (u : UX) (p1 : Int32) (z : Int32 × UX) (h : f_X7_mounts u p1 = some z) : CtW l d yX7_mounts cX7_mounts 3 (some .int) (rmF 1 26) [.ref (a 0), .int p1] (WX d a u) (WX d a z.2) (some (.int z.1)) :=
  CtW.start (by decide) (Nat.le_of_ble_eq_true rfl) (by simp [Value.category]) [some (.ref (a 0)), some (.int p1), none] rfl (fun x A C hr hlk => V_eqv (fun _ => h) (v_X7_mounts C hr hlk z u p1))

/-! MastRobotsModel.mount -/
def f_X7_mount (u : UX) (p1 : Int32) : Option (Int32 × UX) :=
  ((f_X7_keeps u).bind fun r1 => ((f_X7_mounts r1 p1).bind fun r7 => ((f_X7_acted r7.2 r7.1).bind fun r10 => some (r10.1, r10.2))))
set_option maxRecDepth 20000 in
theorem v_X7_mount {x : Am} {d : Dt} {A : Nat → Prop} {a : Nat → Nat} (C : Cx x cX7_mount 2 yX7_mount.cls d (Imu d A x.s.heap)) (hr : x.meth.sig.returnType = (some .int)) (hlk : x.meth.locks = false) (z : Int32 × UX) (u : UX) (p1 : Int32) : V x (rmF 2 48) 0 0 (MQ x.below (QW d A (WX d a z.2) (some (.int z.1))) x.args x.s 0 0 A) 2 (Imu d A x.s.heap) (f_X7_mount u p1 = some z) 0 (WX d a u) [some (.ref (a 0)), some (.int p1)] [] := by
  unfold f_X7_mount
  refine V_aload_n C 0 dX7_mount_0 rfl rfl ?_
  refine V_callWv (As := []) (rest := []) (wc := WX d a u) (Wd := fun w => WX d a w) C (fun r h => ct_X7_keeps _ d a u r h) kv_X7_keeps kl_X7_37 [0, 1, 2, 3, 4, 5] (fun w => WX d a w) dX7_mount_1 rfl rfl (fun _ => rfl) (fun _ => rfl) rfl rfl rfl (Nat.le_of_ble_eq_true rfl) ⟨(Nat.le_of_ble_eq_true rfl), (Nat.le_of_ble_eq_true rfl)⟩ rfl rfl ⟨Nat.le_refl _, Nat.le_refl _⟩ rfl (fun r1 hr1 => ?_)
  refine V_aload_n C 0 dX7_mount_4 rfl rfl ?_
  refine V_aload_n C 0 dX7_mount_5 rfl rfl ?_
  refine V_iload_n C 1 dX7_mount_6 rfl rfl ?_
  refine V_callWi (As := [.int p1]) (rest := [.ref (a 0)]) (wc := WX d a r1) (Wd := fun w => WX d a w) C (fun r h => ct_X7_mounts _ d a r1 p1 r h) kv_X7_mounts kl_X7_94 [0, 1, 2, 3, 4, 5] (fun w => WX d a w) dX7_mount_7 rfl rfl (fun _ => rfl) (fun _ => rfl) rfl rfl rfl (Nat.le_of_ble_eq_true rfl) ⟨(Nat.le_of_ble_eq_true rfl), (Nat.le_of_ble_eq_true rfl)⟩ rfl rfl ⟨Nat.le_refl _, Nat.le_refl _⟩ rfl (fun r7 hr7 => ?_)
  refine V_callWi (As := [.int r7.1]) (rest := []) (wc := WX d a r7.2) (Wd := fun w => WX d a w) C (fun r h => ct_X7_acted _ d a r7.2 r7.1 r h) kv_X7_acted kl_X7_40 [0, 1, 2, 3, 4, 5] (fun w => WX d a w) dX7_mount_10 rfl rfl (fun _ => rfl) (fun _ => rfl) rfl rfl rfl (Nat.le_of_ble_eq_true rfl) ⟨(Nat.le_of_ble_eq_true rfl), (Nat.le_of_ble_eq_true rfl)⟩ rfl rfl ⟨Nat.le_refl _, Nat.le_refl _⟩ rfl (fun r10 hr10 => ?_)
  exact V_iretW (Wd := fun w => WX d a w) C hr hlk dX7_mount_13 rfl
set_option maxRecDepth 20000 in
theorem ct_X7_mount (l : Launch) (d : Dt) (a : Nat → Nat) (u : UX) (p1 : Int32) (z : Int32 × UX) (h : f_X7_mount u p1 = some z) : CtW l d yX7_mount cX7_mount 2 (some .int) (rmF 2 48) [.ref (a 0), .int p1] (WX d a u) (WX d a z.2) (some (.int z.1)) :=
  CtW.start (by decide) (Nat.le_of_ble_eq_true rfl) (by simp [Value.category]) [some (.ref (a 0)), some (.int p1)] rfl (fun x A C hr hlk => V_eqv (fun _ => h) (v_X7_mount C hr hlk z u p1))

/-! MastRobotsModel.takes -/
def f_X7_takes (u : UX) (p1 : Int32) : Option (Int32 × UX) :=
  ((f_X7_in p1 0 1).bind fun r3 => (if r3 = 0 then some ((-1000001), u) else (if inb (11 + p1) 264 = true then ((f_X7_wallOf p1).bind fun r29 => (if (u.1 1) = r29 then (if 0 ≤ (u.1 (11 + p1).toNatClampNeg) then (if (u.1 2) = 3 then some ((-1000003), u) else (if inb (11 + p1) 264 = true then ((f_X7_comes ((upd u.1 (11 + p1).toNatClampNeg (-1)), u.2.1, u.2.2.1, u.2.2.2.1, u.2.2.2.2.1, u.2.2.2.2.2.1, u.2.2.2.2.2.2.1, u.2.2.2.2.2.2.2.1, u.2.2.2.2.2.2.2.2.1, u.2.2.2.2.2.2.2.2.2.1, u.2.2.2.2.2.2.2.2.2.2.1, u.2.2.2.2.2.2.2.2.2.2.2.1, u.2.2.2.2.2.2.2.2.2.2.2.2.1, u.2.2.2.2.2.2.2.2.2.2.2.2.2) (u.1 (11 + p1).toNatClampNeg)).bind fun r67 => some ((u.1 (11 + p1).toNatClampNeg), ((upd r67.1 0 ((r67.1 0) + 2)), r67.2.1, r67.2.2.1, r67.2.2.2.1, r67.2.2.2.2.1, r67.2.2.2.2.2.1, r67.2.2.2.2.2.2.1, r67.2.2.2.2.2.2.2.1, r67.2.2.2.2.2.2.2.2.1, r67.2.2.2.2.2.2.2.2.2.1, r67.2.2.2.2.2.2.2.2.2.2.1, r67.2.2.2.2.2.2.2.2.2.2.2.1, r67.2.2.2.2.2.2.2.2.2.2.2.2.1, r67.2.2.2.2.2.2.2.2.2.2.2.2.2))) else none)) else some ((-1000002), u)) else some ((-1000002), u))) else none)))
set_option maxRecDepth 20000 in
theorem v_X7_takes {x : Am} {d : Dt} {A : Nat → Prop} {a : Nat → Nat} (C : Cx x cX7_takes 3 yX7_takes.cls d (Imu d A x.s.heap)) (hr : x.meth.sig.returnType = (some .int)) (hlk : x.meth.locks = false) (z : Int32 × UX) (u : UX) (p1 : Int32) : V x (rmF 2 43) 0 0 (MQ x.below (QW d A (WX d a z.2) (some (.int z.1))) x.args x.s 0 0 A) 3 (Imu d A x.s.heap) (f_X7_takes u p1 = some z) 0 (WX d a u) [some (.ref (a 0)), some (.int p1), none] [] := by
  unfold f_X7_takes
  refine V_iload_n C 1 dX7_takes_0 rfl rfl ?_
  refine V_iconst (v := 0) C dX7_takes_1 (by decide) ?_
  refine V_iconst (v := 1) C dX7_takes_2 (by decide) ?_
  refine V_callSi (As := [.int p1, .int 0, .int 1]) (rest := []) (wc := []) C (fun r h => ct_X7_in _ d p1 0 1 r h) ks_X7_in kl_X7_26 [] dX7_takes_3 rfl rfl (Nat.le_of_ble_eq_true rfl) ⟨(Nat.le_of_ble_eq_true rfl), (Nat.le_of_ble_eq_true rfl)⟩ rfl rfl ⟨Nat.le_refl _, Nat.le_refl _⟩ rfl (fun r3 hr3 => ?_)
  refine V_if_ne (tgt := 12) C dX7_takes_6 (by decide) ?_ ?_
  · refine V_aload_n C 0 dX7_takes_12 rfl rfl ?_
    refine V_get (v := .ref (a 1)) C fx7 0 0 kf_X7_7 (by decide) rfl rfl dX7_takes_13 ?_
    refine V_bipush (v := 11) C dX7_takes_16 (by decide) ?_
    refine V_iload_n C 1 dX7_takes_18 rfl rfl ?_
    refine V_iadd C dX7_takes_19 ?_
    refine V_iald C 1 rfl dX7_takes_20 ?_
    refine V_istore_n (lv' := [some (.ref (a 0)), some (.int p1), some (.int (u.1 (11 + p1).toNatClampNeg))]) C 2 dX7_takes_21 rfl (by decide) rfl ?_
    refine V_aload_n C 0 dX7_takes_22 rfl rfl ?_
    refine V_get (v := .ref (a 1)) C fx7 0 0 kf_X7_7 (by decide) rfl rfl dX7_takes_23 ?_
    refine V_iconst (v := 1) C dX7_takes_26 (by decide) ?_
    refine V_ialdc C 1 1 rfl (by decide) (by decide) dX7_takes_27 ?_
    refine V_iload_n C 1 dX7_takes_28 rfl rfl ?_
    refine V_callSi (As := [.int p1]) (rest := [.int (u.1 1)]) (wc := []) C (fun r h => ct_X7_wallOf _ d p1 r h) ks_X7_wallOf kl_X7_88 [] dX7_takes_29 rfl rfl (Nat.le_of_ble_eq_true rfl) ⟨(Nat.le_of_ble_eq_true rfl), (Nat.le_of_ble_eq_true rfl)⟩ rfl rfl ⟨Nat.le_refl _, Nat.le_refl _⟩ rfl (fun r29 hr29 => ?_)
    refine V_icmp_ne (tgt := 39) C dX7_takes_32 (by decide) ?_ ?_
    · refine V_ldc C kc_X7_35 dX7_takes_39 ?_
      exact V_iretW (Wd := fun w => WX d a w) C hr hlk dX7_takes_41 rfl
    · refine V_iload_n C 2 dX7_takes_35 rfl rfl ?_
      refine V_if_ge (tgt := 42) C dX7_takes_36 (by decide) ?_ ?_
      · refine V_aload_n C 0 dX7_takes_42 rfl rfl ?_
        refine V_get (v := .ref (a 1)) C fx7 0 0 kf_X7_7 (by decide) rfl rfl dX7_takes_43 ?_
        refine V_iconst (v := 2) C dX7_takes_46 (by decide) ?_
        refine V_ialdc C 1 2 rfl (by decide) (by decide) dX7_takes_47 ?_
        refine V_iconst (v := 3) C dX7_takes_48 (by decide) ?_
        refine V_icmp_ne (tgt := 55) C dX7_takes_49 (by decide) ?_ ?_
        · refine V_aload_n C 0 dX7_takes_55 rfl rfl ?_
          refine V_get (v := .ref (a 1)) C fx7 0 0 kf_X7_7 (by decide) rfl rfl dX7_takes_56 ?_
          refine V_bipush (v := 11) C dX7_takes_59 (by decide) ?_
          refine V_iload_n C 1 dX7_takes_61 rfl rfl ?_
          refine V_iadd C dX7_takes_62 ?_
          refine V_iconst (v := (-1)) C dX7_takes_63 (by decide) ?_
          refine V_iast (ws' := WX d a ((upd u.1 (11 + p1).toNatClampNeg (-1)), u.2.1, u.2.2.1, u.2.2.2.1, u.2.2.2.2.1, u.2.2.2.2.2.1, u.2.2.2.2.2.2.1, u.2.2.2.2.2.2.2.1, u.2.2.2.2.2.2.2.2.1, u.2.2.2.2.2.2.2.2.2.1, u.2.2.2.2.2.2.2.2.2.2.1, u.2.2.2.2.2.2.2.2.2.2.2.1, u.2.2.2.2.2.2.2.2.2.2.2.2.1, u.2.2.2.2.2.2.2.2.2.2.2.2.2)) C 1 (WX_get1 _ _ _) (WX_set1 _ _ _ _) dX7_takes_64 ?_
          refine V_aload_n C 0 dX7_takes_65 rfl rfl ?_
          refine V_iload_n C 2 dX7_takes_66 rfl rfl ?_
          refine V_callWv (As := [.int (u.1 (11 + p1).toNatClampNeg)]) (rest := []) (wc := WX d a ((upd u.1 (11 + p1).toNatClampNeg (-1)), u.2.1, u.2.2.1, u.2.2.2.1, u.2.2.2.2.1, u.2.2.2.2.2.1, u.2.2.2.2.2.2.1, u.2.2.2.2.2.2.2.1, u.2.2.2.2.2.2.2.2.1, u.2.2.2.2.2.2.2.2.2.1, u.2.2.2.2.2.2.2.2.2.2.1, u.2.2.2.2.2.2.2.2.2.2.2.1, u.2.2.2.2.2.2.2.2.2.2.2.2.1, u.2.2.2.2.2.2.2.2.2.2.2.2.2)) (Wd := fun w => WX d a w) C (fun r h => ct_X7_comes _ d a ((upd u.1 (11 + p1).toNatClampNeg (-1)), u.2.1, u.2.2.1, u.2.2.2.1, u.2.2.2.2.1, u.2.2.2.2.2.1, u.2.2.2.2.2.2.1, u.2.2.2.2.2.2.2.1, u.2.2.2.2.2.2.2.2.1, u.2.2.2.2.2.2.2.2.2.1, u.2.2.2.2.2.2.2.2.2.2.1, u.2.2.2.2.2.2.2.2.2.2.2.1, u.2.2.2.2.2.2.2.2.2.2.2.2.1, u.2.2.2.2.2.2.2.2.2.2.2.2.2) (u.1 (11 + p1).toNatClampNeg) r h) kv_X7_comes kl_X7_66 [0, 1, 2, 3, 4, 5] (fun w => WX d a w) dX7_takes_67 rfl rfl (fun _ => rfl) (fun _ => rfl) rfl rfl rfl (Nat.le_of_ble_eq_true rfl) ⟨(Nat.le_of_ble_eq_true rfl), (Nat.le_of_ble_eq_true rfl)⟩ rfl rfl ⟨Nat.le_refl _, Nat.le_refl _⟩ rfl (fun r67 hr67 => ?_)
          refine V_aload_n C 0 dX7_takes_70 rfl rfl ?_
          refine V_get (v := .ref (a 1)) C fx7 0 0 kf_X7_7 (by decide) rfl rfl dX7_takes_71 ?_
          refine V_iconst (v := 0) C dX7_takes_74 (by decide) ?_
          refine V_dup2 C dX7_takes_75 rfl rfl ?_
          refine V_ialdc C 1 0 rfl (by decide) (by decide) dX7_takes_76 ?_
          refine V_iconst (v := 2) C dX7_takes_77 (by decide) ?_
          refine V_iadd C dX7_takes_78 ?_
          refine V_iastc (ws' := WX d a ((upd r67.1 0 ((r67.1 0) + 2)), r67.2.1, r67.2.2.1, r67.2.2.2.1, r67.2.2.2.2.1, r67.2.2.2.2.2.1, r67.2.2.2.2.2.2.1, r67.2.2.2.2.2.2.2.1, r67.2.2.2.2.2.2.2.2.1, r67.2.2.2.2.2.2.2.2.2.1, r67.2.2.2.2.2.2.2.2.2.2.1, r67.2.2.2.2.2.2.2.2.2.2.2.1, r67.2.2.2.2.2.2.2.2.2.2.2.2.1, r67.2.2.2.2.2.2.2.2.2.2.2.2.2)) C 1 0 (WX_get1 _ _ _) (by decide) (by decide) (WX_set1 _ _ _ _) dX7_takes_79 ?_
          refine V_iload_n C 2 dX7_takes_80 rfl rfl ?_
          exact V_iretW (Wd := fun w => WX d a w) C hr hlk dX7_takes_81 rfl
        · refine V_ldc C kc_X7_36 dX7_takes_52 ?_
          exact V_iretW (Wd := fun w => WX d a w) C hr hlk dX7_takes_54 rfl
      · refine V_ldc C kc_X7_35 dX7_takes_39 ?_
        exact V_iretW (Wd := fun w => WX d a w) C hr hlk dX7_takes_41 rfl
  · refine V_ldc C kc_X7_30 dX7_takes_9 ?_
    exact V_iretW (Wd := fun w => WX d a w) C hr hlk dX7_takes_11 rfl
set_option maxRecDepth 20000 in
theorem ct_X7_takes (l : Launch) (d : Dt) (a : Nat → Nat) (u : UX) (p1 : Int32) (z : Int32 × UX) (h : f_X7_takes u p1 = some z) : CtW l d yX7_takes cX7_takes 3 (some .int) (rmF 2 43) [.ref (a 0), .int p1] (WX d a u) (WX d a z.2) (some (.int z.1)) :=
  CtW.start (by decide) (Nat.le_of_ble_eq_true rfl) (by simp [Value.category]) [some (.ref (a 0)), some (.int p1), none] rfl (fun x A C hr hlk => V_eqv (fun _ => h) (v_X7_takes C hr hlk z u p1))

/-! MastRobotsModel.take -/
def f_X7_take (u : UX) (p1 : Int32) : Option (Int32 × UX) :=
  ((f_X7_keeps u).bind fun r1 => ((f_X7_takes r1 p1).bind fun r7 => ((f_X7_acted r7.2 r7.1).bind fun r10 => some (r10.1, r10.2))))
set_option maxRecDepth 20000 in
theorem v_X7_take {x : Am} {d : Dt} {A : Nat → Prop} {a : Nat → Nat} (C : Cx x cX7_take 2 yX7_take.cls d (Imu d A x.s.heap)) (hr : x.meth.sig.returnType = (some .int)) (hlk : x.meth.locks = false) (z : Int32 × UX) (u : UX) (p1 : Int32) : V x (rmF 3 65) 0 0 (MQ x.below (QW d A (WX d a z.2) (some (.int z.1))) x.args x.s 0 0 A) 2 (Imu d A x.s.heap) (f_X7_take u p1 = some z) 0 (WX d a u) [some (.ref (a 0)), some (.int p1)] [] := by
  unfold f_X7_take
  refine V_aload_n C 0 dX7_take_0 rfl rfl ?_
  refine V_callWv (As := []) (rest := []) (wc := WX d a u) (Wd := fun w => WX d a w) C (fun r h => ct_X7_keeps _ d a u r h) kv_X7_keeps kl_X7_37 [0, 1, 2, 3, 4, 5] (fun w => WX d a w) dX7_take_1 rfl rfl (fun _ => rfl) (fun _ => rfl) rfl rfl rfl (Nat.le_of_ble_eq_true rfl) ⟨(Nat.le_of_ble_eq_true rfl), (Nat.le_of_ble_eq_true rfl)⟩ rfl rfl ⟨Nat.le_refl _, Nat.le_refl _⟩ rfl (fun r1 hr1 => ?_)
  refine V_aload_n C 0 dX7_take_4 rfl rfl ?_
  refine V_aload_n C 0 dX7_take_5 rfl rfl ?_
  refine V_iload_n C 1 dX7_take_6 rfl rfl ?_
  refine V_callWi (As := [.int p1]) (rest := [.ref (a 0)]) (wc := WX d a r1) (Wd := fun w => WX d a w) C (fun r h => ct_X7_takes _ d a r1 p1 r h) kv_X7_takes kl_X7_97 [0, 1, 2, 3, 4, 5] (fun w => WX d a w) dX7_take_7 rfl rfl (fun _ => rfl) (fun _ => rfl) rfl rfl rfl (Nat.le_of_ble_eq_true rfl) ⟨(Nat.le_of_ble_eq_true rfl), (Nat.le_of_ble_eq_true rfl)⟩ rfl rfl ⟨Nat.le_refl _, Nat.le_refl _⟩ rfl (fun r7 hr7 => ?_)
  refine V_callWi (As := [.int r7.1]) (rest := []) (wc := WX d a r7.2) (Wd := fun w => WX d a w) C (fun r h => ct_X7_acted _ d a r7.2 r7.1 r h) kv_X7_acted kl_X7_40 [0, 1, 2, 3, 4, 5] (fun w => WX d a w) dX7_take_10 rfl rfl (fun _ => rfl) (fun _ => rfl) rfl rfl rfl (Nat.le_of_ble_eq_true rfl) ⟨(Nat.le_of_ble_eq_true rfl), (Nat.le_of_ble_eq_true rfl)⟩ rfl rfl ⟨Nat.le_refl _, Nat.le_refl _⟩ rfl (fun r10 hr10 => ?_)
  exact V_iretW (Wd := fun w => WX d a w) C hr hlk dX7_take_13 rfl
set_option maxRecDepth 20000 in
theorem ct_X7_take (l : Launch) (d : Dt) (a : Nat → Nat) (u : UX) (p1 : Int32) (z : Int32 × UX) (h : f_X7_take u p1 = some z) : CtW l d yX7_take cX7_take 2 (some .int) (rmF 3 65) [.ref (a 0), .int p1] (WX d a u) (WX d a z.2) (some (.int z.1)) :=
  CtW.start (by decide) (Nat.le_of_ble_eq_true rfl) (by simp [Value.category]) [some (.ref (a 0)), some (.int p1)] rfl (fun x A C hr hlk => V_eqv (fun _ => h) (v_X7_take C hr hlk z u p1))

/-! MastRobotsModel.files -/
def f_X7_files_b30 (k4 : UX → Int32 → Int32 → Int32 → Option (Int32)) (u : UX) (v1 : Int32) (v3 : Int32) (s0 : Int32) (s1 : Int32) : Option (Int32) :=
  k4 u v1 (s0 + s1) (v3 + 1)
def f_X7_files_b4 : Nat → UX → Int32 → Int32 → Int32 → Option (Int32)
  | 0, _, _, _, _ => none
  | n + 1, u, v1, v2, v3 => (if 60 ≤ v3 then some v2 else (if inb (168 + v3) 264 = true then (if (u.1 (168 + v3).toNatClampNeg) = v1 then f_X7_files_b30 (f_X7_files_b4 n) u v1 v3 v2 1 else f_X7_files_b30 (f_X7_files_b4 n) u v1 v3 v2 0) else none))
def f_X7_files (u : UX) (p1 : Int32) : Option (Int32) :=
  f_X7_files_b4 FUEL u p1 0 0
set_option maxRecDepth 20000 in
theorem v_X7_files_b30 {x : Am} {d : Dt} {a : Nat → Nat} (C : Cx x cX7_files 4 yX7_files.cls d (Iro d x.s.heap)) (hr : x.meth.sig.returnType = (some .int)) (hlk : x.meth.locks = false) (z : Int32) (k4 : UX → Int32 → Int32 → Int32 → Option (Int32)) (hk4 : ∀ (u : UX)(v1 : Int32)(v2 : Int32)(v3 : Int32), V x (rmF 0 0) 0 0 (MQ x.below (QR (some (.int z))) x.args x.s 0 0 (fun _ => False)) 4 (Iro d x.s.heap) (k4 u v1 v2 v3 = some z) 4 (WX d a u) [some (.ref (a 0)), some (.int v1), some (.int v2), some (.int v3)] []) (u : UX) (v1 : Int32) (v3 : Int32) (s0 : Int32) (s1 : Int32) : V x (rmF 0 0) 0 0 (MQ x.below (QR (some (.int z))) x.args x.s 0 0 (fun _ => False)) 4 (Iro d x.s.heap) (f_X7_files_b30 k4 u v1 v3 s0 s1 = some z) 30 (WX d a u) [some (.ref (a 0)), some (.int v1), none, some (.int v3)] [.int s1, .int s0] := by
  unfold f_X7_files_b30
  refine V_iadd C dX7_files_30 ?_
  refine V_istore_n (lv' := [some (.ref (a 0)), some (.int v1), some (.int (s0 + s1)), some (.int v3)]) C 2 dX7_files_31 rfl (by decide) rfl ?_
  refine V_iinc (v := (v3 + 1)) (lv' := [some (.ref (a 0)), some (.int v1), some (.int (s0 + s1)), some (.int (v3 + 1))]) C dX7_files_32 rfl rfl (by decide) rfl ?_
  refine V_goto (tgt := 4) C dX7_files_35 (by decide) ?_
  exact hk4 u v1 (s0 + s1) (v3 + 1)
set_option maxRecDepth 20000 in
theorem v_X7_files_b4 {x : Am} {d : Dt} {a : Nat → Nat} (C : Cx x cX7_files 4 yX7_files.cls d (Iro d x.s.heap)) (hr : x.meth.sig.returnType = (some .int)) (hlk : x.meth.locks = false) (z : Int32) (n : Nat) (u : UX) (v1 : Int32) (v2 : Int32) (v3 : Int32) : V x (rmF 0 0) 0 0 (MQ x.below (QR (some (.int z))) x.args x.s 0 0 (fun _ => False)) 4 (Iro d x.s.heap) (f_X7_files_b4 n u v1 v2 v3 = some z) 4 (WX d a u) [some (.ref (a 0)), some (.int v1), some (.int v2), some (.int v3)] [] := by
  induction n generalizing u v1 v2 v3 with
  | zero => exact V_none
  | succ n ih =>
    rw [f_X7_files_b4]
    refine V_iload_n C 3 dX7_files_4 rfl rfl ?_
    refine V_bipush (v := 60) C dX7_files_5 (by decide) ?_
    refine V_icmp_ge (tgt := 38) C dX7_files_7 (by decide) ?_ ?_
    · refine V_iload_n C 2 dX7_files_38 rfl rfl ?_
      exact V_iretR C hr hlk dX7_files_39
    · refine V_iload_n C 2 dX7_files_10 rfl rfl ?_
      refine V_aload_n C 0 dX7_files_11 rfl rfl ?_
      refine V_get (v := .ref (a 1)) C fx7 0 0 kf_X7_7 (by decide) rfl rfl dX7_files_12 ?_
      refine V_sipush (v := 168) C dX7_files_15 (by decide) ?_
      refine V_iload_n C 3 dX7_files_18 rfl rfl ?_
      refine V_iadd C dX7_files_19 ?_
      refine V_iald C 1 rfl dX7_files_20 ?_
      refine V_iload_n C 1 dX7_files_21 rfl rfl ?_
      refine V_icmp_ne (tgt := 29) C dX7_files_22 (by decide) ?_ ?_
      · refine V_iconst (v := 0) C dX7_files_29 (by decide) ?_
        refine V_mask (lv' := [some (.ref (a 0)), some (.int v1), none, some (.int v3)]) [true, true, false, true] rfl ?_
        exact v_X7_files_b30 C hr hlk z (f_X7_files_b4  n) ih u v1 v3 v2 0
      · refine V_iconst (v := 1) C dX7_files_25 (by decide) ?_
        refine V_goto (tgt := 30) C dX7_files_26 (by decide) ?_
        refine V_mask (lv' := [some (.ref (a 0)), some (.int v1), none, some (.int v3)]) [true, true, false, true] rfl ?_
        exact v_X7_files_b30 C hr hlk z (f_X7_files_b4  n) ih u v1 v3 v2 1
set_option maxRecDepth 20000 in
theorem v_X7_files {x : Am} {d : Dt} {a : Nat → Nat} (C : Cx x cX7_files 4 yX7_files.cls d (Iro d x.s.heap)) (hr : x.meth.sig.returnType = (some .int)) (hlk : x.meth.locks = false) (z : Int32) (u : UX) (p1 : Int32) : V x (rmF 0 0) 0 0 (MQ x.below (QR (some (.int z))) x.args x.s 0 0 (fun _ => False)) 4 (Iro d x.s.heap) (f_X7_files u p1 = some z) 0 (WX d a u) [some (.ref (a 0)), some (.int p1), none, none] [] := by
  unfold f_X7_files
  refine V_iconst (v := 0) C dX7_files_0 (by decide) ?_
  refine V_istore_n (lv' := [some (.ref (a 0)), some (.int p1), some (.int 0), none]) C 2 dX7_files_1 rfl (by decide) rfl ?_
  refine V_iconst (v := 0) C dX7_files_2 (by decide) ?_
  refine V_istore_n (lv' := [some (.ref (a 0)), some (.int p1), some (.int 0), some (.int 0)]) C 3 dX7_files_3 rfl (by decide) rfl ?_
  exact v_X7_files_b4 C hr hlk z FUEL u p1 0 0
set_option maxRecDepth 20000 in
theorem ct_X7_files (l : Launch) (d : Dt) (a : Nat → Nat) (u : UX) (p1 : Int32) (z : Int32) (h : f_X7_files u p1 = some z) : CtR l d yX7_files cX7_files 4 (some .int) (rmF 0 0) [.ref (a 0), .int p1] (WX d a u) (some (.int z)) :=
  CtR.start (by decide) (Nat.le_of_ble_eq_true rfl) (by simp [Value.category]) [some (.ref (a 0)), some (.int p1), none, none] rfl (fun x C hr hlk => V_eqv (fun _ => h) (v_X7_files C hr hlk z u p1))

/-! MastRobotsModel.hold -/
def f_X7_hold_b62 (u : UX) (v1 : Int32) (v2 : Int32) (v3 : Int32) : Option (Int32 × UX) :=
  ((f_X7_keeps u).bind fun r63 => (if inb (168 + v2) 264 = true then ((f_X7_acted ((upd r63.1 (168 + v2).toNatClampNeg v1), r63.2.1, r63.2.2.1, r63.2.2.2.1, r63.2.2.2.2.1, r63.2.2.2.2.2.1, r63.2.2.2.2.2.2.1, r63.2.2.2.2.2.2.2.1, r63.2.2.2.2.2.2.2.2.1, r63.2.2.2.2.2.2.2.2.2.1, r63.2.2.2.2.2.2.2.2.2.2.1, r63.2.2.2.2.2.2.2.2.2.2.2.1, r63.2.2.2.2.2.2.2.2.2.2.2.2.1, r63.2.2.2.2.2.2.2.2.2.2.2.2.2) v3).bind fun r79 => some (r79.1, r79.2)) else none))
def f_X7_hold (u : UX) (p1 : Int32) (p2 : Int32) : Option (Int32 × UX) :=
  ((f_X7_isCartridge u p1).bind fun r2 => (if r2 = 0 then some ((-1000001), u) else ((f_X7_in p2 0 59).bind fun r12 => (if r12 = 0 then some ((-1000001), u) else ((f_X7_ca u p1 2).bind fun r24 => (if r24 = 3 then some ((-1000002), u) else (if inb (168 + p2) 264 = true then (if (u.1 (168 + p2).toNatClampNeg) = p1 then f_X7_hold_b62 u p1 p2 (u.1 (168 + p2).toNatClampNeg) else ((f_X7_files u p1).bind fun r52 => (if r52 = 4 then some ((-1000003), u) else f_X7_hold_b62 u p1 p2 (u.1 (168 + p2).toNatClampNeg)))) else none)))))))
set_option maxRecDepth 20000 in
theorem v_X7_hold_b62 {x : Am} {d : Dt} {A : Nat → Prop} {a : Nat → Nat} (C : Cx x cX7_hold 4 yX7_hold.cls d (Imu d A x.s.heap)) (hr : x.meth.sig.returnType = (some .int)) (hlk : x.meth.locks = false) (z : Int32 × UX) (u : UX) (v1 : Int32) (v2 : Int32) (v3 : Int32) : V x (rmF 2 43) 0 0 (MQ x.below (QW d A (WX d a z.2) (some (.int z.1))) x.args x.s 0 0 A) 4 (Imu d A x.s.heap) (f_X7_hold_b62 u v1 v2 v3 = some z) 62 (WX d a u) [some (.ref (a 0)), some (.int v1), some (.int v2), some (.int v3)] [] := by
  unfold f_X7_hold_b62
  refine V_aload_n C 0 dX7_hold_62 rfl rfl ?_
  refine V_callWv (As := []) (rest := []) (wc := WX d a u) (Wd := fun w => WX d a w) C (fun r h => ct_X7_keeps _ d a u r h) kv_X7_keeps kl_X7_37 [0, 1, 2, 3, 4, 5] (fun w => WX d a w) dX7_hold_63 rfl rfl (fun _ => rfl) (fun _ => rfl) rfl rfl rfl (Nat.le_of_ble_eq_true rfl) ⟨(Nat.le_of_ble_eq_true rfl), (Nat.le_of_ble_eq_true rfl)⟩ rfl rfl ⟨Nat.le_refl _, Nat.le_refl _⟩ rfl (fun r63 hr63 => ?_)
  refine V_aload_n C 0 dX7_hold_66 rfl rfl ?_
  refine V_get (v := .ref (a 1)) C fx7 0 0 kf_X7_7 (by decide) rfl rfl dX7_hold_67 ?_
  refine V_sipush (v := 168) C dX7_hold_70 (by decide) ?_
  refine V_iload_n C 2 dX7_hold_73 rfl rfl ?_
  refine V_iadd C dX7_hold_74 ?_
  refine V_iload_n C 1 dX7_hold_75 rfl rfl ?_
  refine V_iast (ws' := WX d a ((upd r63.1 (168 + v2).toNatClampNeg v1), r63.2.1, r63.2.2.1, r63.2.2.2.1, r63.2.2.2.2.1, r63.2.2.2.2.2.1, r63.2.2.2.2.2.2.1, r63.2.2.2.2.2.2.2.1, r63.2.2.2.2.2.2.2.2.1, r63.2.2.2.2.2.2.2.2.2.1, r63.2.2.2.2.2.2.2.2.2.2.1, r63.2.2.2.2.2.2.2.2.2.2.2.1, r63.2.2.2.2.2.2.2.2.2.2.2.2.1, r63.2.2.2.2.2.2.2.2.2.2.2.2.2)) C 1 (WX_get1 _ _ _) (WX_set1 _ _ _ _) dX7_hold_76 ?_
  refine V_aload_n C 0 dX7_hold_77 rfl rfl ?_
  refine V_iload_n C 3 dX7_hold_78 rfl rfl ?_
  refine V_callWi (As := [.int v3]) (rest := []) (wc := WX d a ((upd r63.1 (168 + v2).toNatClampNeg v1), r63.2.1, r63.2.2.1, r63.2.2.2.1, r63.2.2.2.2.1, r63.2.2.2.2.2.1, r63.2.2.2.2.2.2.1, r63.2.2.2.2.2.2.2.1, r63.2.2.2.2.2.2.2.2.1, r63.2.2.2.2.2.2.2.2.2.1, r63.2.2.2.2.2.2.2.2.2.2.1, r63.2.2.2.2.2.2.2.2.2.2.2.1, r63.2.2.2.2.2.2.2.2.2.2.2.2.1, r63.2.2.2.2.2.2.2.2.2.2.2.2.2)) (Wd := fun w => WX d a w) C (fun r h => ct_X7_acted _ d a ((upd r63.1 (168 + v2).toNatClampNeg v1), r63.2.1, r63.2.2.1, r63.2.2.2.1, r63.2.2.2.2.1, r63.2.2.2.2.2.1, r63.2.2.2.2.2.2.1, r63.2.2.2.2.2.2.2.1, r63.2.2.2.2.2.2.2.2.1, r63.2.2.2.2.2.2.2.2.2.1, r63.2.2.2.2.2.2.2.2.2.2.1, r63.2.2.2.2.2.2.2.2.2.2.2.1, r63.2.2.2.2.2.2.2.2.2.2.2.2.1, r63.2.2.2.2.2.2.2.2.2.2.2.2.2) v3 r h) kv_X7_acted kl_X7_40 [0, 1, 2, 3, 4, 5] (fun w => WX d a w) dX7_hold_79 rfl rfl (fun _ => rfl) (fun _ => rfl) rfl rfl rfl (Nat.le_of_ble_eq_true rfl) ⟨(Nat.le_of_ble_eq_true rfl), (Nat.le_of_ble_eq_true rfl)⟩ rfl rfl ⟨Nat.le_refl _, Nat.le_refl _⟩ rfl (fun r79 hr79 => ?_)
  exact V_iretW (Wd := fun w => WX d a w) C hr hlk dX7_hold_82 rfl
set_option maxRecDepth 20000 in
theorem v_X7_hold {x : Am} {d : Dt} {A : Nat → Prop} {a : Nat → Nat} (C : Cx x cX7_hold 4 yX7_hold.cls d (Imu d A x.s.heap)) (hr : x.meth.sig.returnType = (some .int)) (hlk : x.meth.locks = false) (z : Int32 × UX) (u : UX) (p1 : Int32) (p2 : Int32) : V x (rmF 2 43) 0 0 (MQ x.below (QW d A (WX d a z.2) (some (.int z.1))) x.args x.s 0 0 A) 4 (Imu d A x.s.heap) (f_X7_hold u p1 p2 = some z) 0 (WX d a u) [some (.ref (a 0)), some (.int p1), some (.int p2), none] [] := by
  unfold f_X7_hold
  refine V_aload_n C 0 dX7_hold_0 rfl rfl ?_
  refine V_iload_n C 1 dX7_hold_1 rfl rfl ?_
  refine V_callRi (As := [.int p1]) (rest := []) (wc := WX d a u) C (fun r h => ct_X7_isCartridge _ d a u p1 r h) kv_X7_isCartridge kl_X7_48 [0, 1, 2, 3, 4, 5] dX7_hold_2 rfl rfl rfl rfl (Nat.le_of_ble_eq_true rfl) ⟨(Nat.le_of_ble_eq_true rfl), (Nat.le_of_ble_eq_true rfl)⟩ rfl rfl ⟨Nat.le_refl _, Nat.le_refl _⟩ rfl (fun r2 hr2 => ?_)
  refine V_if_eq (tgt := 18) C dX7_hold_5 (by decide) ?_ ?_
  · refine V_ldc C kc_X7_30 dX7_hold_18 ?_
    exact V_iretW (Wd := fun w => WX d a w) C hr hlk dX7_hold_20 rfl
  · refine V_iload_n C 2 dX7_hold_8 rfl rfl ?_
    refine V_iconst (v := 0) C dX7_hold_9 (by decide) ?_
    refine V_bipush (v := 59) C dX7_hold_10 (by decide) ?_
    refine V_callSi (As := [.int p2, .int 0, .int 59]) (rest := []) (wc := []) C (fun r h => ct_X7_in _ d p2 0 59 r h) ks_X7_in kl_X7_26 [] dX7_hold_12 rfl rfl (Nat.le_of_ble_eq_true rfl) ⟨(Nat.le_of_ble_eq_true rfl), (Nat.le_of_ble_eq_true rfl)⟩ rfl rfl ⟨Nat.le_refl _, Nat.le_refl _⟩ rfl (fun r12 hr12 => ?_)
    refine V_if_ne (tgt := 21) C dX7_hold_15 (by decide) ?_ ?_
    · refine V_aload_n C 0 dX7_hold_21 rfl rfl ?_
      refine V_iload_n C 1 dX7_hold_22 rfl rfl ?_
      refine V_iconst (v := 2) C dX7_hold_23 (by decide) ?_
      refine V_callRi (As := [.int p1, .int 2]) (rest := []) (wc := WX d a u) C (fun r h => ct_X7_ca _ d a u p1 2 r h) kv_X7_ca kl_X7_44 [0, 1, 2, 3, 4, 5] dX7_hold_24 rfl rfl rfl rfl (Nat.le_of_ble_eq_true rfl) ⟨(Nat.le_of_ble_eq_true rfl), (Nat.le_of_ble_eq_true rfl)⟩ rfl rfl ⟨Nat.le_refl _, Nat.le_refl _⟩ rfl (fun r24 hr24 => ?_)
      refine V_iconst (v := 3) C dX7_hold_27 (by decide) ?_
      refine V_icmp_ne (tgt := 34) C dX7_hold_28 (by decide) ?_ ?_
      · refine V_aload_n C 0 dX7_hold_34 rfl rfl ?_
        refine V_get (v := .ref (a 1)) C fx7 0 0 kf_X7_7 (by decide) rfl rfl dX7_hold_35 ?_
        refine V_sipush (v := 168) C dX7_hold_38 (by decide) ?_
        refine V_iload_n C 2 dX7_hold_41 rfl rfl ?_
        refine V_iadd C dX7_hold_42 ?_
        refine V_iald C 1 rfl dX7_hold_43 ?_
        refine V_istore_n (lv' := [some (.ref (a 0)), some (.int p1), some (.int p2), some (.int (u.1 (168 + p2).toNatClampNeg))]) C 3 dX7_hold_44 rfl (by decide) rfl ?_
        refine V_iload_n C 3 dX7_hold_45 rfl rfl ?_
        refine V_iload_n C 1 dX7_hold_46 rfl rfl ?_
        refine V_icmp_eq (tgt := 62) C dX7_hold_47 (by decide) ?_ ?_
        · exact v_X7_hold_b62 C hr hlk z u p1 p2 (u.1 (168 + p2).toNatClampNeg)
        · refine V_aload_n C 0 dX7_hold_50 rfl rfl ?_
          refine V_iload_n C 1 dX7_hold_51 rfl rfl ?_
          refine V_callRi (As := [.int p1]) (rest := []) (wc := WX d a u) C (fun r h => ct_X7_files _ d a u p1 r h) kv_X7_files kl_X7_100 [0, 1, 2, 3, 4, 5] dX7_hold_52 rfl rfl rfl rfl (Nat.le_of_ble_eq_true rfl) ⟨(Nat.le_of_ble_eq_true rfl), (Nat.le_of_ble_eq_true rfl)⟩ rfl rfl ⟨Nat.le_refl _, Nat.le_refl _⟩ rfl (fun r52 hr52 => ?_)
          refine V_iconst (v := 4) C dX7_hold_55 (by decide) ?_
          refine V_icmp_ne (tgt := 62) C dX7_hold_56 (by decide) ?_ ?_
          · exact v_X7_hold_b62 C hr hlk z u p1 p2 (u.1 (168 + p2).toNatClampNeg)
          · refine V_ldc C kc_X7_36 dX7_hold_59 ?_
            exact V_iretW (Wd := fun w => WX d a w) C hr hlk dX7_hold_61 rfl
      · refine V_ldc C kc_X7_35 dX7_hold_31 ?_
        exact V_iretW (Wd := fun w => WX d a w) C hr hlk dX7_hold_33 rfl
    · refine V_ldc C kc_X7_30 dX7_hold_18 ?_
      exact V_iretW (Wd := fun w => WX d a w) C hr hlk dX7_hold_20 rfl
set_option maxRecDepth 20000 in
theorem ct_X7_hold (l : Launch) (d : Dt) (a : Nat → Nat) (u : UX) (p1 : Int32) (p2 : Int32) (z : Int32 × UX) (h : f_X7_hold u p1 p2 = some z) : CtW l d yX7_hold cX7_hold 4 (some .int) (rmF 2 43) [.ref (a 0), .int p1, .int p2] (WX d a u) (WX d a z.2) (some (.int z.1)) :=
  CtW.start (by decide) (Nat.le_of_ble_eq_true rfl) (by simp [Value.category]) [some (.ref (a 0)), some (.int p1), some (.int p2), none] rfl (fun x A C hr hlk => V_eqv (fun _ => h) (v_X7_hold C hr hlk z u p1 p2))

/-! MastRobotsModel.request -/
def f_X7_request (u : UX) (p1 : Int32) (p2 : Int32) : Option (Int32 × UX) :=
  ((f_X7_in p1 0 59).bind fun r4 => (if r4 = 0 then some ((-1000001), u) else ((f_X7_in p2 0 9).bind fun r14 => (if r14 = 0 then some ((-1000001), u) else (if (u.1 8) = 12 then some ((-1000003), u) else ((f_X7_keeps u).bind fun r39 => (if inb (228 + (3 * (r39.1 8))) 264 = true then (if inb ((228 + (3 * (r39.1 8))) + 1) 264 = true then (if inb ((228 + (3 * (r39.1 8))) + 2) 264 = true then ((f_X7_acted ((upd (upd (upd (upd r39.1 (228 + (3 * (r39.1 8))).toNatClampNeg p1) ((228 + (3 * (r39.1 8))) + 1).toNatClampNeg p2) ((228 + (3 * (r39.1 8))) + 2).toNatClampNeg ((upd (upd r39.1 (228 + (3 * (r39.1 8))).toNatClampNeg p1) ((228 + (3 * (r39.1 8))) + 1).toNatClampNeg p2) 0)) 8 (((upd (upd (upd r39.1 (228 + (3 * (r39.1 8))).toNatClampNeg p1) ((228 + (3 * (r39.1 8))) + 1).toNatClampNeg p2) ((228 + (3 * (r39.1 8))) + 2).toNatClampNeg ((upd (upd r39.1 (228 + (3 * (r39.1 8))).toNatClampNeg p1) ((228 + (3 * (r39.1 8))) + 1).toNatClampNeg p2) 0)) 8) + 1)), r39.2.1, r39.2.2.1, r39.2.2.2.1, r39.2.2.2.2.1, r39.2.2.2.2.2.1, r39.2.2.2.2.2.2.1, r39.2.2.2.2.2.2.2.1, r39.2.2.2.2.2.2.2.2.1, r39.2.2.2.2.2.2.2.2.2.1, r39.2.2.2.2.2.2.2.2.2.2.1, r39.2.2.2.2.2.2.2.2.2.2.2.1, r39.2.2.2.2.2.2.2.2.2.2.2.2.1, r39.2.2.2.2.2.2.2.2.2.2.2.2.2) ((upd (upd (upd (upd r39.1 (228 + (3 * (r39.1 8))).toNatClampNeg p1) ((228 + (3 * (r39.1 8))) + 1).toNatClampNeg p2) ((228 + (3 * (r39.1 8))) + 2).toNatClampNeg ((upd (upd r39.1 (228 + (3 * (r39.1 8))).toNatClampNeg p1) ((228 + (3 * (r39.1 8))) + 1).toNatClampNeg p2) 0)) 8 (((upd (upd (upd r39.1 (228 + (3 * (r39.1 8))).toNatClampNeg p1) ((228 + (3 * (r39.1 8))) + 1).toNatClampNeg p2) ((228 + (3 * (r39.1 8))) + 2).toNatClampNeg ((upd (upd r39.1 (228 + (3 * (r39.1 8))).toNatClampNeg p1) ((228 + (3 * (r39.1 8))) + 1).toNatClampNeg p2) 0)) 8) + 1)) 8)).bind fun r105 => some (r105.1, r105.2)) else none) else none) else none)))))))
set_option maxRecDepth 20000 in
theorem v_X7_request {x : Am} {d : Dt} {A : Nat → Prop} {a : Nat → Nat} (C : Cx x cX7_request 4 yX7_request.cls d (Imu d A x.s.heap)) (hr : x.meth.sig.returnType = (some .int)) (hlk : x.meth.locks = false) (z : Int32 × UX) (u : UX) (p1 : Int32) (p2 : Int32) : V x (rmF 1 22) 0 0 (MQ x.below (QW d A (WX d a z.2) (some (.int z.1))) x.args x.s 0 0 A) 4 (Imu d A x.s.heap) (f_X7_request u p1 p2 = some z) 0 (WX d a u) [some (.ref (a 0)), some (.int p1), some (.int p2), none] [] := by
  unfold f_X7_request
  refine V_iload_n C 1 dX7_request_0 rfl rfl ?_
  refine V_iconst (v := 0) C dX7_request_1 (by decide) ?_
  refine V_bipush (v := 59) C dX7_request_2 (by decide) ?_
  refine V_callSi (As := [.int p1, .int 0, .int 59]) (rest := []) (wc := []) C (fun r h => ct_X7_in _ d p1 0 59 r h) ks_X7_in kl_X7_26 [] dX7_request_4 rfl rfl (Nat.le_of_ble_eq_true rfl) ⟨(Nat.le_of_ble_eq_true rfl), (Nat.le_of_ble_eq_true rfl)⟩ rfl rfl ⟨Nat.le_refl _, Nat.le_refl _⟩ rfl (fun r4 hr4 => ?_)
  refine V_if_eq (tgt := 20) C dX7_request_7 (by decide) ?_ ?_
  · refine V_ldc C kc_X7_30 dX7_request_20 ?_
    exact V_iretW (Wd := fun w => WX d a w) C hr hlk dX7_request_22 rfl
  · refine V_iload_n C 2 dX7_request_10 rfl rfl ?_
    refine V_iconst (v := 0) C dX7_request_11 (by decide) ?_
    refine V_bipush (v := 9) C dX7_request_12 (by decide) ?_
    refine V_callSi (As := [.int p2, .int 0, .int 9]) (rest := []) (wc := []) C (fun r h => ct_X7_in _ d p2 0 9 r h) ks_X7_in kl_X7_26 [] dX7_request_14 rfl rfl (Nat.le_of_ble_eq_true rfl) ⟨(Nat.le_of_ble_eq_true rfl), (Nat.le_of_ble_eq_true rfl)⟩ rfl rfl ⟨Nat.le_refl _, Nat.le_refl _⟩ rfl (fun r14 hr14 => ?_)
    refine V_if_ne (tgt := 23) C dX7_request_17 (by decide) ?_ ?_
    · refine V_aload_n C 0 dX7_request_23 rfl rfl ?_
      refine V_get (v := .ref (a 1)) C fx7 0 0 kf_X7_7 (by decide) rfl rfl dX7_request_24 ?_
      refine V_bipush (v := 8) C dX7_request_27 (by decide) ?_
      refine V_ialdc C 1 8 rfl (by decide) (by decide) dX7_request_29 ?_
      refine V_bipush (v := 12) C dX7_request_30 (by decide) ?_
      refine V_icmp_ne (tgt := 38) C dX7_request_32 (by decide) ?_ ?_
      · refine V_aload_n C 0 dX7_request_38 rfl rfl ?_
        refine V_callWv (As := []) (rest := []) (wc := WX d a u) (Wd := fun w => WX d a w) C (fun r h => ct_X7_keeps _ d a u r h) kv_X7_keeps kl_X7_37 [0, 1, 2, 3, 4, 5] (fun w => WX d a w) dX7_request_39 rfl rfl (fun _ => rfl) (fun _ => rfl) rfl rfl rfl (Nat.le_of_ble_eq_true rfl) ⟨(Nat.le_of_ble_eq_true rfl), (Nat.le_of_ble_eq_true rfl)⟩ rfl rfl ⟨Nat.le_refl _, Nat.le_refl _⟩ rfl (fun r39 hr39 => ?_)
        refine V_sipush (v := 228) C dX7_request_42 (by decide) ?_
        refine V_iconst (v := 3) C dX7_request_45 (by decide) ?_
        refine V_aload_n C 0 dX7_request_46 rfl rfl ?_
        refine V_get (v := .ref (a 1)) C fx7 0 0 kf_X7_7 (by decide) rfl rfl dX7_request_47 ?_
        refine V_bipush (v := 8) C dX7_request_50 (by decide) ?_
        refine V_ialdc C 1 8 rfl (by decide) (by decide) dX7_request_52 ?_
        refine V_imul C dX7_request_53 ?_
        refine V_iadd C dX7_request_54 ?_
        refine V_istore_n (lv' := [some (.ref (a 0)), some (.int p1), some (.int p2), some (.int (228 + (3 * (r39.1 8))))]) C 3 dX7_request_55 rfl (by decide) rfl ?_
        refine V_aload_n C 0 dX7_request_56 rfl rfl ?_
        refine V_get (v := .ref (a 1)) C fx7 0 0 kf_X7_7 (by decide) rfl rfl dX7_request_57 ?_
        refine V_iload_n C 3 dX7_request_60 rfl rfl ?_
        refine V_iload_n C 1 dX7_request_61 rfl rfl ?_
        refine V_iast (ws' := WX d a ((upd r39.1 (228 + (3 * (r39.1 8))).toNatClampNeg p1), r39.2.1, r39.2.2.1, r39.2.2.2.1, r39.2.2.2.2.1, r39.2.2.2.2.2.1, r39.2.2.2.2.2.2.1, r39.2.2.2.2.2.2.2.1, r39.2.2.2.2.2.2.2.2.1, r39.2.2.2.2.2.2.2.2.2.1, r39.2.2.2.2.2.2.2.2.2.2.1, r39.2.2.2.2.2.2.2.2.2.2.2.1, r39.2.2.2.2.2.2.2.2.2.2.2.2.1, r39.2.2.2.2.2.2.2.2.2.2.2.2.2)) C 1 (WX_get1 _ _ _) (WX_set1 _ _ _ _) dX7_request_62 ?_
        refine V_aload_n C 0 dX7_request_63 rfl rfl ?_
        refine V_get (v := .ref (a 1)) C fx7 0 0 kf_X7_7 (by decide) rfl rfl dX7_request_64 ?_
        refine V_iload_n C 3 dX7_request_67 rfl rfl ?_
        refine V_iconst (v := 1) C dX7_request_68 (by decide) ?_
        refine V_iadd C dX7_request_69 ?_
        refine V_iload_n C 2 dX7_request_70 rfl rfl ?_
        refine V_iast (ws' := WX d a ((upd (upd r39.1 (228 + (3 * (r39.1 8))).toNatClampNeg p1) ((228 + (3 * (r39.1 8))) + 1).toNatClampNeg p2), r39.2.1, r39.2.2.1, r39.2.2.2.1, r39.2.2.2.2.1, r39.2.2.2.2.2.1, r39.2.2.2.2.2.2.1, r39.2.2.2.2.2.2.2.1, r39.2.2.2.2.2.2.2.2.1, r39.2.2.2.2.2.2.2.2.2.1, r39.2.2.2.2.2.2.2.2.2.2.1, r39.2.2.2.2.2.2.2.2.2.2.2.1, r39.2.2.2.2.2.2.2.2.2.2.2.2.1, r39.2.2.2.2.2.2.2.2.2.2.2.2.2)) C 1 (WX_get1 _ _ _) (WX_set1 _ _ _ _) dX7_request_71 ?_
        refine V_aload_n C 0 dX7_request_72 rfl rfl ?_
        refine V_get (v := .ref (a 1)) C fx7 0 0 kf_X7_7 (by decide) rfl rfl dX7_request_73 ?_
        refine V_iload_n C 3 dX7_request_76 rfl rfl ?_
        refine V_iconst (v := 2) C dX7_request_77 (by decide) ?_
        refine V_iadd C dX7_request_78 ?_
        refine V_aload_n C 0 dX7_request_79 rfl rfl ?_
        refine V_get (v := .ref (a 1)) C fx7 0 0 kf_X7_7 (by decide) rfl rfl dX7_request_80 ?_
        refine V_iconst (v := 0) C dX7_request_83 (by decide) ?_
        refine V_ialdc C 1 0 rfl (by decide) (by decide) dX7_request_84 ?_
        refine V_iast (ws' := WX d a ((upd (upd (upd r39.1 (228 + (3 * (r39.1 8))).toNatClampNeg p1) ((228 + (3 * (r39.1 8))) + 1).toNatClampNeg p2) ((228 + (3 * (r39.1 8))) + 2).toNatClampNeg ((upd (upd r39.1 (228 + (3 * (r39.1 8))).toNatClampNeg p1) ((228 + (3 * (r39.1 8))) + 1).toNatClampNeg p2) 0)), r39.2.1, r39.2.2.1, r39.2.2.2.1, r39.2.2.2.2.1, r39.2.2.2.2.2.1, r39.2.2.2.2.2.2.1, r39.2.2.2.2.2.2.2.1, r39.2.2.2.2.2.2.2.2.1, r39.2.2.2.2.2.2.2.2.2.1, r39.2.2.2.2.2.2.2.2.2.2.1, r39.2.2.2.2.2.2.2.2.2.2.2.1, r39.2.2.2.2.2.2.2.2.2.2.2.2.1, r39.2.2.2.2.2.2.2.2.2.2.2.2.2)) C 1 (WX_get1 _ _ _) (WX_set1 _ _ _ _) dX7_request_85 ?_
        refine V_aload_n C 0 dX7_request_86 rfl rfl ?_
        refine V_get (v := .ref (a 1)) C fx7 0 0 kf_X7_7 (by decide) rfl rfl dX7_request_87 ?_
        refine V_bipush (v := 8) C dX7_request_90 (by decide) ?_
        refine V_dup2 C dX7_request_92 rfl rfl ?_
        refine V_ialdc C 1 8 rfl (by decide) (by decide) dX7_request_93 ?_
        refine V_iconst (v := 1) C dX7_request_94 (by decide) ?_
        refine V_iadd C dX7_request_95 ?_
        refine V_iastc (ws' := WX d a ((upd (upd (upd (upd r39.1 (228 + (3 * (r39.1 8))).toNatClampNeg p1) ((228 + (3 * (r39.1 8))) + 1).toNatClampNeg p2) ((228 + (3 * (r39.1 8))) + 2).toNatClampNeg ((upd (upd r39.1 (228 + (3 * (r39.1 8))).toNatClampNeg p1) ((228 + (3 * (r39.1 8))) + 1).toNatClampNeg p2) 0)) 8 (((upd (upd (upd r39.1 (228 + (3 * (r39.1 8))).toNatClampNeg p1) ((228 + (3 * (r39.1 8))) + 1).toNatClampNeg p2) ((228 + (3 * (r39.1 8))) + 2).toNatClampNeg ((upd (upd r39.1 (228 + (3 * (r39.1 8))).toNatClampNeg p1) ((228 + (3 * (r39.1 8))) + 1).toNatClampNeg p2) 0)) 8) + 1)), r39.2.1, r39.2.2.1, r39.2.2.2.1, r39.2.2.2.2.1, r39.2.2.2.2.2.1, r39.2.2.2.2.2.2.1, r39.2.2.2.2.2.2.2.1, r39.2.2.2.2.2.2.2.2.1, r39.2.2.2.2.2.2.2.2.2.1, r39.2.2.2.2.2.2.2.2.2.2.1, r39.2.2.2.2.2.2.2.2.2.2.2.1, r39.2.2.2.2.2.2.2.2.2.2.2.2.1, r39.2.2.2.2.2.2.2.2.2.2.2.2.2)) C 1 8 (WX_get1 _ _ _) (by decide) (by decide) (WX_set1 _ _ _ _) dX7_request_96 ?_
        refine V_aload_n C 0 dX7_request_97 rfl rfl ?_
        refine V_aload_n C 0 dX7_request_98 rfl rfl ?_
        refine V_get (v := .ref (a 1)) C fx7 0 0 kf_X7_7 (by decide) rfl rfl dX7_request_99 ?_
        refine V_bipush (v := 8) C dX7_request_102 (by decide) ?_
        refine V_ialdc C 1 8 rfl (by decide) (by decide) dX7_request_104 ?_
        refine V_callWi (As := [.int ((upd (upd (upd (upd r39.1 (228 + (3 * (r39.1 8))).toNatClampNeg p1) ((228 + (3 * (r39.1 8))) + 1).toNatClampNeg p2) ((228 + (3 * (r39.1 8))) + 2).toNatClampNeg ((upd (upd r39.1 (228 + (3 * (r39.1 8))).toNatClampNeg p1) ((228 + (3 * (r39.1 8))) + 1).toNatClampNeg p2) 0)) 8 (((upd (upd (upd r39.1 (228 + (3 * (r39.1 8))).toNatClampNeg p1) ((228 + (3 * (r39.1 8))) + 1).toNatClampNeg p2) ((228 + (3 * (r39.1 8))) + 2).toNatClampNeg ((upd (upd r39.1 (228 + (3 * (r39.1 8))).toNatClampNeg p1) ((228 + (3 * (r39.1 8))) + 1).toNatClampNeg p2) 0)) 8) + 1)) 8)]) (rest := []) (wc := WX d a ((upd (upd (upd (upd r39.1 (228 + (3 * (r39.1 8))).toNatClampNeg p1) ((228 + (3 * (r39.1 8))) + 1).toNatClampNeg p2) ((228 + (3 * (r39.1 8))) + 2).toNatClampNeg ((upd (upd r39.1 (228 + (3 * (r39.1 8))).toNatClampNeg p1) ((228 + (3 * (r39.1 8))) + 1).toNatClampNeg p2) 0)) 8 (((upd (upd (upd r39.1 (228 + (3 * (r39.1 8))).toNatClampNeg p1) ((228 + (3 * (r39.1 8))) + 1).toNatClampNeg p2) ((228 + (3 * (r39.1 8))) + 2).toNatClampNeg ((upd (upd r39.1 (228 + (3 * (r39.1 8))).toNatClampNeg p1) ((228 + (3 * (r39.1 8))) + 1).toNatClampNeg p2) 0)) 8) + 1)), r39.2.1, r39.2.2.1, r39.2.2.2.1, r39.2.2.2.2.1, r39.2.2.2.2.2.1, r39.2.2.2.2.2.2.1, r39.2.2.2.2.2.2.2.1, r39.2.2.2.2.2.2.2.2.1, r39.2.2.2.2.2.2.2.2.2.1, r39.2.2.2.2.2.2.2.2.2.2.1, r39.2.2.2.2.2.2.2.2.2.2.2.1, r39.2.2.2.2.2.2.2.2.2.2.2.2.1, r39.2.2.2.2.2.2.2.2.2.2.2.2.2)) (Wd := fun w => WX d a w) C (fun r h => ct_X7_acted _ d a ((upd (upd (upd (upd r39.1 (228 + (3 * (r39.1 8))).toNatClampNeg p1) ((228 + (3 * (r39.1 8))) + 1).toNatClampNeg p2) ((228 + (3 * (r39.1 8))) + 2).toNatClampNeg ((upd (upd r39.1 (228 + (3 * (r39.1 8))).toNatClampNeg p1) ((228 + (3 * (r39.1 8))) + 1).toNatClampNeg p2) 0)) 8 (((upd (upd (upd r39.1 (228 + (3 * (r39.1 8))).toNatClampNeg p1) ((228 + (3 * (r39.1 8))) + 1).toNatClampNeg p2) ((228 + (3 * (r39.1 8))) + 2).toNatClampNeg ((upd (upd r39.1 (228 + (3 * (r39.1 8))).toNatClampNeg p1) ((228 + (3 * (r39.1 8))) + 1).toNatClampNeg p2) 0)) 8) + 1)), r39.2.1, r39.2.2.1, r39.2.2.2.1, r39.2.2.2.2.1, r39.2.2.2.2.2.1, r39.2.2.2.2.2.2.1, r39.2.2.2.2.2.2.2.1, r39.2.2.2.2.2.2.2.2.1, r39.2.2.2.2.2.2.2.2.2.1, r39.2.2.2.2.2.2.2.2.2.2.1, r39.2.2.2.2.2.2.2.2.2.2.2.1, r39.2.2.2.2.2.2.2.2.2.2.2.2.1, r39.2.2.2.2.2.2.2.2.2.2.2.2.2) ((upd (upd (upd (upd r39.1 (228 + (3 * (r39.1 8))).toNatClampNeg p1) ((228 + (3 * (r39.1 8))) + 1).toNatClampNeg p2) ((228 + (3 * (r39.1 8))) + 2).toNatClampNeg ((upd (upd r39.1 (228 + (3 * (r39.1 8))).toNatClampNeg p1) ((228 + (3 * (r39.1 8))) + 1).toNatClampNeg p2) 0)) 8 (((upd (upd (upd r39.1 (228 + (3 * (r39.1 8))).toNatClampNeg p1) ((228 + (3 * (r39.1 8))) + 1).toNatClampNeg p2) ((228 + (3 * (r39.1 8))) + 2).toNatClampNeg ((upd (upd r39.1 (228 + (3 * (r39.1 8))).toNatClampNeg p1) ((228 + (3 * (r39.1 8))) + 1).toNatClampNeg p2) 0)) 8) + 1)) 8) r h) kv_X7_acted kl_X7_40 [0, 1, 2, 3, 4, 5] (fun w => WX d a w) dX7_request_105 rfl rfl (fun _ => rfl) (fun _ => rfl) rfl rfl rfl (Nat.le_of_ble_eq_true rfl) ⟨(Nat.le_of_ble_eq_true rfl), (Nat.le_of_ble_eq_true rfl)⟩ rfl rfl ⟨Nat.le_refl _, Nat.le_refl _⟩ rfl (fun r105 hr105 => ?_)
        exact V_iretW (Wd := fun w => WX d a w) C hr hlk dX7_request_108 rfl
      · refine V_ldc C kc_X7_36 dX7_request_35 ?_
        exact V_iretW (Wd := fun w => WX d a w) C hr hlk dX7_request_37 rfl
    · refine V_ldc C kc_X7_30 dX7_request_20 ?_
      exact V_iretW (Wd := fun w => WX d a w) C hr hlk dX7_request_22 rfl
set_option maxRecDepth 20000 in
theorem ct_X7_request (l : Launch) (d : Dt) (a : Nat → Nat) (u : UX) (p1 : Int32) (p2 : Int32) (z : Int32 × UX) (h : f_X7_request u p1 p2 = some z) : CtW l d yX7_request cX7_request 4 (some .int) (rmF 1 22) [.ref (a 0), .int p1, .int p2] (WX d a u) (WX d a z.2) (some (.int z.1)) :=
  CtW.start (by decide) (Nat.le_of_ble_eq_true rfl) (by simp [Value.category]) [some (.ref (a 0)), some (.int p1), some (.int p2), none] rfl (fun x A C hr hlk => V_eqv (fun _ => h) (v_X7_request C hr hlk z u p1 p2))

/-! MastRobotsModel.wanted -/
def f_X7_wanted_b46 (k4 : UX → Int32 → Int32 → Int32 → Option (Int32)) (u : UX) (v1 : Int32) (v3 : Int32) (s0 : Int32) (s1 : Int32) : Option (Int32) :=
  k4 u v1 (s0 + s1) (v3 + 1)
def f_X7_wanted_b4 : Nat → UX → Int32 → Int32 → Int32 → Option (Int32)
  | 0, _, _, _, _ => none
  | n + 1, u, v1, v2, v3 => (if (u.1 8) ≤ v3 then some v2 else (if inb (228 + (3 * v3)) 264 = true then (if inb (168 + (u.1 (228 + (3 * v3)).toNatClampNeg)) 264 = true then (if (u.1 (168 + (u.1 (228 + (3 * v3)).toNatClampNeg)).toNatClampNeg) = v1 then f_X7_wanted_b46 (f_X7_wanted_b4 n) u v1 v3 v2 1 else f_X7_wanted_b46 (f_X7_wanted_b4 n) u v1 v3 v2 0) else none) else none))
def f_X7_wanted (u : UX) (p1 : Int32) : Option (Int32) :=
  f_X7_wanted_b4 FUEL u p1 0 0
set_option maxRecDepth 20000 in
theorem v_X7_wanted_b46 {x : Am} {d : Dt} {a : Nat → Nat} (C : Cx x cX7_wanted 4 yX7_wanted.cls d (Iro d x.s.heap)) (hr : x.meth.sig.returnType = (some .int)) (hlk : x.meth.locks = false) (z : Int32) (k4 : UX → Int32 → Int32 → Int32 → Option (Int32)) (hk4 : ∀ (u : UX)(v1 : Int32)(v2 : Int32)(v3 : Int32), V x (rmF 0 0) 0 0 (MQ x.below (QR (some (.int z))) x.args x.s 0 0 (fun _ => False)) 4 (Iro d x.s.heap) (k4 u v1 v2 v3 = some z) 4 (WX d a u) [some (.ref (a 0)), some (.int v1), some (.int v2), some (.int v3)] []) (u : UX) (v1 : Int32) (v3 : Int32) (s0 : Int32) (s1 : Int32) : V x (rmF 0 0) 0 0 (MQ x.below (QR (some (.int z))) x.args x.s 0 0 (fun _ => False)) 4 (Iro d x.s.heap) (f_X7_wanted_b46 k4 u v1 v3 s0 s1 = some z) 46 (WX d a u) [some (.ref (a 0)), some (.int v1), none, some (.int v3)] [.int s1, .int s0] := by
  unfold f_X7_wanted_b46
  refine V_iadd C dX7_wanted_46 ?_
  refine V_istore_n (lv' := [some (.ref (a 0)), some (.int v1), some (.int (s0 + s1)), some (.int v3)]) C 2 dX7_wanted_47 rfl (by decide) rfl ?_
  refine V_iinc (v := (v3 + 1)) (lv' := [some (.ref (a 0)), some (.int v1), some (.int (s0 + s1)), some (.int (v3 + 1))]) C dX7_wanted_48 rfl rfl (by decide) rfl ?_
  refine V_goto (tgt := 4) C dX7_wanted_51 (by decide) ?_
  exact hk4 u v1 (s0 + s1) (v3 + 1)
set_option maxRecDepth 20000 in
theorem v_X7_wanted_b4 {x : Am} {d : Dt} {a : Nat → Nat} (C : Cx x cX7_wanted 4 yX7_wanted.cls d (Iro d x.s.heap)) (hr : x.meth.sig.returnType = (some .int)) (hlk : x.meth.locks = false) (z : Int32) (n : Nat) (u : UX) (v1 : Int32) (v2 : Int32) (v3 : Int32) : V x (rmF 0 0) 0 0 (MQ x.below (QR (some (.int z))) x.args x.s 0 0 (fun _ => False)) 4 (Iro d x.s.heap) (f_X7_wanted_b4 n u v1 v2 v3 = some z) 4 (WX d a u) [some (.ref (a 0)), some (.int v1), some (.int v2), some (.int v3)] [] := by
  induction n generalizing u v1 v2 v3 with
  | zero => exact V_none
  | succ n ih =>
    rw [f_X7_wanted_b4]
    refine V_iload_n C 3 dX7_wanted_4 rfl rfl ?_
    refine V_aload_n C 0 dX7_wanted_5 rfl rfl ?_
    refine V_get (v := .ref (a 1)) C fx7 0 0 kf_X7_7 (by decide) rfl rfl dX7_wanted_6 ?_
    refine V_bipush (v := 8) C dX7_wanted_9 (by decide) ?_
    refine V_ialdc C 1 8 rfl (by decide) (by decide) dX7_wanted_11 ?_
    refine V_icmp_ge (tgt := 54) C dX7_wanted_12 (by decide) ?_ ?_
    · refine V_iload_n C 2 dX7_wanted_54 rfl rfl ?_
      exact V_iretR C hr hlk dX7_wanted_55
    · refine V_iload_n C 2 dX7_wanted_15 rfl rfl ?_
      refine V_aload_n C 0 dX7_wanted_16 rfl rfl ?_
      refine V_get (v := .ref (a 1)) C fx7 0 0 kf_X7_7 (by decide) rfl rfl dX7_wanted_17 ?_
      refine V_sipush (v := 168) C dX7_wanted_20 (by decide) ?_
      refine V_aload_n C 0 dX7_wanted_23 rfl rfl ?_
      refine V_get (v := .ref (a 1)) C fx7 0 0 kf_X7_7 (by decide) rfl rfl dX7_wanted_24 ?_
      refine V_sipush (v := 228) C dX7_wanted_27 (by decide) ?_
      refine V_iconst (v := 3) C dX7_wanted_30 (by decide) ?_
      refine V_iload_n C 3 dX7_wanted_31 rfl rfl ?_
      refine V_imul C dX7_wanted_32 ?_
      refine V_iadd C dX7_wanted_33 ?_
      refine V_iald C 1 rfl dX7_wanted_34 ?_
      refine V_iadd C dX7_wanted_35 ?_
      refine V_iald C 1 rfl dX7_wanted_36 ?_
      refine V_iload_n C 1 dX7_wanted_37 rfl rfl ?_
      refine V_icmp_ne (tgt := 45) C dX7_wanted_38 (by decide) ?_ ?_
      · refine V_iconst (v := 0) C dX7_wanted_45 (by decide) ?_
        refine V_mask (lv' := [some (.ref (a 0)), some (.int v1), none, some (.int v3)]) [true, true, false, true] rfl ?_
        exact v_X7_wanted_b46 C hr hlk z (f_X7_wanted_b4  n) ih u v1 v3 v2 0
      · refine V_iconst (v := 1) C dX7_wanted_41 (by decide) ?_
        refine V_goto (tgt := 46) C dX7_wanted_42 (by decide) ?_
        refine V_mask (lv' := [some (.ref (a 0)), some (.int v1), none, some (.int v3)]) [true, true, false, true] rfl ?_
        exact v_X7_wanted_b46 C hr hlk z (f_X7_wanted_b4  n) ih u v1 v3 v2 1
set_option maxRecDepth 20000 in
theorem v_X7_wanted {x : Am} {d : Dt} {a : Nat → Nat} (C : Cx x cX7_wanted 4 yX7_wanted.cls d (Iro d x.s.heap)) (hr : x.meth.sig.returnType = (some .int)) (hlk : x.meth.locks = false) (z : Int32) (u : UX) (p1 : Int32) : V x (rmF 0 0) 0 0 (MQ x.below (QR (some (.int z))) x.args x.s 0 0 (fun _ => False)) 4 (Iro d x.s.heap) (f_X7_wanted u p1 = some z) 0 (WX d a u) [some (.ref (a 0)), some (.int p1), none, none] [] := by
  unfold f_X7_wanted
  refine V_iconst (v := 0) C dX7_wanted_0 (by decide) ?_
  refine V_istore_n (lv' := [some (.ref (a 0)), some (.int p1), some (.int 0), none]) C 2 dX7_wanted_1 rfl (by decide) rfl ?_
  refine V_iconst (v := 0) C dX7_wanted_2 (by decide) ?_
  refine V_istore_n (lv' := [some (.ref (a 0)), some (.int p1), some (.int 0), some (.int 0)]) C 3 dX7_wanted_3 rfl (by decide) rfl ?_
  exact v_X7_wanted_b4 C hr hlk z FUEL u p1 0 0
set_option maxRecDepth 20000 in
theorem ct_X7_wanted (l : Launch) (d : Dt) (a : Nat → Nat) (u : UX) (p1 : Int32) (z : Int32) (h : f_X7_wanted u p1 = some z) : CtR l d yX7_wanted cX7_wanted 4 (some .int) (rmF 0 0) [.ref (a 0), .int p1] (WX d a u) (some (.int z)) :=
  CtR.start (by decide) (Nat.le_of_ble_eq_true rfl) (by simp [Value.category]) [some (.ref (a 0)), some (.int p1), none, none] rfl (fun x C hr hlk => V_eqv (fun _ => h) (v_X7_wanted C hr hlk z u p1))

/-! MastRobotsModel.apart -/
def f_X7_apart (p1 : Int32) (p2 : Int32) : Option (Int32) :=
  (if 4 < (jrem ((p2 - p1) + 8) 8) then some (8 - (jrem ((p2 - p1) + 8) 8)) else some (jrem ((p2 - p1) + 8) 8))
set_option maxRecDepth 20000 in
theorem v_X7_apart {x : Am} {d : Dt} (C : Cx x cX7_apart 3 yX7_apart.cls d (Iro d x.s.heap)) (hr : x.meth.sig.returnType = (some .int)) (hlk : x.meth.locks = false) (z : Int32) (p1 : Int32) (p2 : Int32) : V x (rmF 0 0) 0 0 (MQ x.below (QR (some (.int z))) x.args x.s 0 0 (fun _ => False)) 3 (Iro d x.s.heap) (f_X7_apart p1 p2 = some z) 0 ([]) [some (.int p1), some (.int p2), none] [] := by
  unfold f_X7_apart
  refine V_iload_n C 1 dX7_apart_0 rfl rfl ?_
  refine V_iload_n C 0 dX7_apart_1 rfl rfl ?_
  refine V_isub C dX7_apart_2 ?_
  refine V_bipush (v := 8) C dX7_apart_3 (by decide) ?_
  refine V_iadd C dX7_apart_5 ?_
  refine V_bipush (v := 8) C dX7_apart_6 (by decide) ?_
  refine V_irem C dX7_apart_8 (by decide) ?_
  refine V_istore_n (lv' := [some (.int p1), some (.int p2), some (.int (jrem ((p2 - p1) + 8) 8))]) C 2 dX7_apart_9 rfl (by decide) rfl ?_
  refine V_iload_n C 2 dX7_apart_10 rfl rfl ?_
  refine V_iconst (v := 4) C dX7_apart_11 (by decide) ?_
  refine V_icmp_gt (tgt := 19) C dX7_apart_12 (by decide) ?_ ?_
  · refine V_bipush (v := 8) C dX7_apart_19 (by decide) ?_
    refine V_iload_n C 2 dX7_apart_21 rfl rfl ?_
    refine V_isub C dX7_apart_22 ?_
    exact V_iretR C hr hlk dX7_apart_23
  · refine V_iload_n C 2 dX7_apart_15 rfl rfl ?_
    refine V_goto (tgt := 23) C dX7_apart_16 (by decide) ?_
    exact V_iretR C hr hlk dX7_apart_23
set_option maxRecDepth 20000 in
theorem ct_X7_apart (l : Launch) (d : Dt) (p1 : Int32) (p2 : Int32) (z : Int32) (h : f_X7_apart p1 p2 = some z) : CtR l d yX7_apart cX7_apart 3 (some .int) (rmF 0 0) [.int p1, .int p2] ([]) (some (.int z)) :=
  CtR.start (by decide) (Nat.le_of_ble_eq_true rfl) (by simp [Value.category]) [some (.int p1), some (.int p2), none] rfl (fun x C hr hlk => V_eqv (fun _ => h) (v_X7_apart C hr hlk z p1 p2))

/-! MastRobotsModel.worth -/
def f_X7_worth (u : UX) (p1 : Int32) (p2 : Int32) : Option (Int32) :=
  (if inb (228 + (3 * p1)) 264 = true then (if inb (168 + (u.1 (228 + (3 * p1)).toNatClampNeg)) 264 = true then (if p2 = 0 then some 0 else (if p2 = 1 then (if inb ((228 + (3 * p1)) + 1) 264 = true then some (u.1 ((228 + (3 * p1)) + 1).toNatClampNeg) else none) else (if p2 = 2 then ((f_X7_standsAt u (u.1 (168 + (u.1 (228 + (3 * p1)).toNatClampNeg)).toNatClampNeg)).bind fun r73 => ((f_X7_apart (u.1 1) (r73 / 4)).bind fun r78 => some (-r78))) else ((f_X7_wanted u (u.1 (168 + (u.1 (228 + (3 * p1)).toNatClampNeg)).toNatClampNeg)).bind fun r85 => some r85)))) else none) else none)
set_option maxRecDepth 20000 in
theorem v_X7_worth {x : Am} {d : Dt} {a : Nat → Nat} (C : Cx x cX7_worth 4 yX7_worth.cls d (Iro d x.s.heap)) (hr : x.meth.sig.returnType = (some .int)) (hlk : x.meth.locks = false) (z : Int32) (u : UX) (p1 : Int32) (p2 : Int32) : V x (rmF 1 23) 0 0 (MQ x.below (QR (some (.int z))) x.args x.s 0 0 (fun _ => False)) 4 (Iro d x.s.heap) (f_X7_worth u p1 p2 = some z) 0 (WX d a u) [some (.ref (a 0)), some (.int p1), some (.int p2), none] [] := by
  unfold f_X7_worth
  refine V_aload_n C 0 dX7_worth_0 rfl rfl ?_
  refine V_get (v := .ref (a 1)) C fx7 0 0 kf_X7_7 (by decide) rfl rfl dX7_worth_1 ?_
  refine V_sipush (v := 168) C dX7_worth_4 (by decide) ?_
  refine V_aload_n C 0 dX7_worth_7 rfl rfl ?_
  refine V_get (v := .ref (a 1)) C fx7 0 0 kf_X7_7 (by decide) rfl rfl dX7_worth_8 ?_
  refine V_sipush (v := 228) C dX7_worth_11 (by decide) ?_
  refine V_iconst (v := 3) C dX7_worth_14 (by decide) ?_
  refine V_iload_n C 1 dX7_worth_15 rfl rfl ?_
  refine V_imul C dX7_worth_16 ?_
  refine V_iadd C dX7_worth_17 ?_
  refine V_iald C 1 rfl dX7_worth_18 ?_
  refine V_iadd C dX7_worth_19 ?_
  refine V_iald C 1 rfl dX7_worth_20 ?_
  refine V_istore_n (lv' := [some (.ref (a 0)), some (.int p1), some (.int p2), some (.int (u.1 (168 + (u.1 (228 + (3 * p1)).toNatClampNeg)).toNatClampNeg))]) C 3 dX7_worth_21 rfl (by decide) rfl ?_
  refine V_iload_n C 2 dX7_worth_22 rfl rfl ?_
  refine V_case (fun c0 => ?_) (fun c0 => ?_)
  · refine V_tsIn (tgt := 48) C c0 dX7_worth_23 (by decide) (by decide) rfl (by decide) ?_
    refine V_iconst (v := 0) C dX7_worth_48 (by decide) ?_
    exact V_iretR C hr hlk dX7_worth_49
  refine V_case (fun c1 => ?_) (fun c1 => ?_)
  · refine V_tsIn (tgt := 50) C c1 dX7_worth_23 (by decide) (by decide) rfl (by decide) ?_
    refine V_aload_n C 0 dX7_worth_50 rfl rfl ?_
    refine V_get (v := .ref (a 1)) C fx7 0 0 kf_X7_7 (by decide) rfl rfl dX7_worth_51 ?_
    refine V_sipush (v := 228) C dX7_worth_54 (by decide) ?_
    refine V_iconst (v := 3) C dX7_worth_57 (by decide) ?_
    refine V_iload_n C 1 dX7_worth_58 rfl rfl ?_
    refine V_imul C dX7_worth_59 ?_
    refine V_iadd C dX7_worth_60 ?_
    refine V_iconst (v := 1) C dX7_worth_61 (by decide) ?_
    refine V_iadd C dX7_worth_62 ?_
    refine V_iald C 1 rfl dX7_worth_63 ?_
    exact V_iretR C hr hlk dX7_worth_64
  refine V_case (fun c2 => ?_) (fun c2 => ?_)
  · refine V_tsIn (tgt := 65) C c2 dX7_worth_23 (by decide) (by decide) rfl (by decide) ?_
    refine V_aload_n C 0 dX7_worth_65 rfl rfl ?_
    refine V_get (v := .ref (a 1)) C fx7 0 0 kf_X7_7 (by decide) rfl rfl dX7_worth_66 ?_
    refine V_iconst (v := 1) C dX7_worth_69 (by decide) ?_
    refine V_ialdc C 1 1 rfl (by decide) (by decide) dX7_worth_70 ?_
    refine V_aload_n C 0 dX7_worth_71 rfl rfl ?_
    refine V_iload_n C 3 dX7_worth_72 rfl rfl ?_
    refine V_callRi (As := [.int (u.1 (168 + (u.1 (228 + (3 * p1)).toNatClampNeg)).toNatClampNeg)]) (rest := [.int (u.1 1)]) (wc := WX d a u) C (fun r h => ct_X7_standsAt _ d a u (u.1 (168 + (u.1 (228 + (3 * p1)).toNatClampNeg)).toNatClampNeg) r h) kv_X7_standsAt kl_X7_52 [0, 1, 2, 3, 4, 5] dX7_worth_73 rfl rfl rfl rfl (Nat.le_of_ble_eq_true rfl) ⟨(Nat.le_of_ble_eq_true rfl), (Nat.le_of_ble_eq_true rfl)⟩ rfl rfl ⟨Nat.le_refl _, Nat.le_refl _⟩ rfl (fun r73 hr73 => ?_)
    refine V_iconst (v := 4) C dX7_worth_76 (by decide) ?_
    refine V_idiv C dX7_worth_77 (by decide) ?_
    refine V_callSi (As := [.int (u.1 1), .int (r73 / 4)]) (rest := []) (wc := []) C (fun r h => ct_X7_apart _ d (u.1 1) (r73 / 4) r h) ks_X7_apart kl_X7_103 [] dX7_worth_78 rfl rfl (Nat.le_of_ble_eq_true rfl) ⟨(Nat.le_of_ble_eq_true rfl), (Nat.le_of_ble_eq_true rfl)⟩ rfl rfl ⟨Nat.le_refl _, Nat.le_refl _⟩ rfl (fun r78 hr78 => ?_)
    refine V_ineg C dX7_worth_81 ?_
    exact V_iretR C hr hlk dX7_worth_82
  have i0 := neInt c0 (k := 0) (by decide)
  have i1 := neInt c1 (k := 1) (by decide)
  have i2 := neInt c2 (k := 2) (by decide)
  refine V_tsOut (tgt := 83) C dX7_worth_23 (by omega) (by decide) ?_
  refine V_aload_n C 0 dX7_worth_83 rfl rfl ?_
  refine V_iload_n C 3 dX7_worth_84 rfl rfl ?_
  refine V_callRi (As := [.int (u.1 (168 + (u.1 (228 + (3 * p1)).toNatClampNeg)).toNatClampNeg)]) (rest := []) (wc := WX d a u) C (fun r h => ct_X7_wanted _ d a u (u.1 (168 + (u.1 (228 + (3 * p1)).toNatClampNeg)).toNatClampNeg) r h) kv_X7_wanted kl_X7_106 [0, 1, 2, 3, 4, 5] dX7_worth_85 rfl rfl rfl rfl (Nat.le_of_ble_eq_true rfl) ⟨(Nat.le_of_ble_eq_true rfl), (Nat.le_of_ble_eq_true rfl)⟩ rfl rfl ⟨Nat.le_refl _, Nat.le_refl _⟩ rfl (fun r85 hr85 => ?_)
  exact V_iretR C hr hlk dX7_worth_88
set_option maxRecDepth 20000 in
theorem ct_X7_worth (l : Launch) (d : Dt) (a : Nat → Nat) (u : UX) (p1 : Int32) (p2 : Int32) (z : Int32) (h : f_X7_worth u p1 p2 = some z) : CtR l d yX7_worth cX7_worth 4 (some .int) (rmF 1 23) [.ref (a 0), .int p1, .int p2] (WX d a u) (some (.int z)) :=
  CtR.start (by decide) (Nat.le_of_ble_eq_true rfl) (by simp [Value.category]) [some (.ref (a 0)), some (.int p1), some (.int p2), none] rfl (fun x C hr hlk => V_eqv (fun _ => h) (v_X7_worth C hr hlk z u p1 p2))

/-! MastRobotsModel.next -/
def f_X7_next_b101 (k4 : UX → Int32 → Int32 → Int32 → Option (Int32)) (u : UX) (v1 : Int32) (v3 : Int32) (s0 : Int32) : Option (Int32) :=
  k4 u v1 s0 (v3 + 1)
def f_X7_next_b96 (k4 : UX → Int32 → Int32 → Int32 → Option (Int32)) (u : UX) (v1 : Int32) (v3 : Int32) : Option (Int32) :=
  f_X7_next_b101 k4 u v1 v3 v3
def f_X7_next_b100 (k4 : UX → Int32 → Int32 → Int32 → Option (Int32)) (u : UX) (v1 : Int32) (v2 : Int32) (v3 : Int32) : Option (Int32) :=
  f_X7_next_b101 k4 u v1 v3 v2
def f_X7_next_b70 (k4 : UX → Int32 → Int32 → Int32 → Option (Int32)) (u : UX) (v1 : Int32) (v2 : Int32) (v3 : Int32) (s0 : Int32) : Option (Int32) :=
  (if s0 = 0 then f_X7_next_b100 k4 u v1 v2 v3 else (if v2 < 0 then f_X7_next_b96 k4 u v1 v3 else ((f_X7_worth u v3 v1).bind fun r84 => ((f_X7_worth u v2 v1).bind fun r90 => (if r84 ≤ r90 then f_X7_next_b100 k4 u v1 v2 v3 else f_X7_next_b96 k4 u v1 v3)))))
def f_X7_next_b69 (k4 : UX → Int32 → Int32 → Int32 → Option (Int32)) (u : UX) (v1 : Int32) (v2 : Int32) (v3 : Int32) : Option (Int32) :=
  f_X7_next_b70 k4 u v1 v2 v3 0
def f_X7_next_b4 : Nat → UX → Int32 → Int32 → Int32 → Option (Int32)
  | 0, _, _, _, _ => none
  | n + 1, u, v1, v2, v3 => (if (u.1 8) ≤ v3 then some v2 else (if inb (228 + (3 * v3)) 264 = true then (if inb (168 + (u.1 (228 + (3 * v3)).toNatClampNeg)) 264 = true then (if (u.1 (168 + (u.1 (228 + (3 * v3)).toNatClampNeg)).toNatClampNeg) < 0 then f_X7_next_b69 (f_X7_next_b4 n) u v1 v2 v3 else ((f_X7_ca u (u.1 (168 + (u.1 (228 + (3 * v3)).toNatClampNeg)).toNatClampNeg) 2).bind fun r47 => (if r47 = 0 then ((f_X7_ca u (u.1 (168 + (u.1 (228 + (3 * v3)).toNatClampNeg)).toNatClampNeg) 1).bind fun r57 => (if 6 ≤ r57 then f_X7_next_b69 (f_X7_next_b4 n) u v1 v2 v3 else f_X7_next_b70 (f_X7_next_b4 n) u v1 v2 v3 1)) else f_X7_next_b69 (f_X7_next_b4 n) u v1 v2 v3))) else none) else none))
def f_X7_next (u : UX) (p1 : Int32) : Option (Int32) :=
  f_X7_next_b4 FUEL u p1 (-1) 0
set_option maxRecDepth 20000 in
theorem v_X7_next_b101 {x : Am} {d : Dt} {a : Nat → Nat} (C : Cx x cX7_next 6 yX7_next.cls d (Iro d x.s.heap)) (hr : x.meth.sig.returnType = (some .int)) (hlk : x.meth.locks = false) (z : Int32) (k4 : UX → Int32 → Int32 → Int32 → Option (Int32)) (hk4 : ∀ (u : UX)(v1 : Int32)(v2 : Int32)(v3 : Int32), V x (rmF 2 46) 0 0 (MQ x.below (QR (some (.int z))) x.args x.s 0 0 (fun _ => False)) 6 (Iro d x.s.heap) (k4 u v1 v2 v3 = some z) 4 (WX d a u) [some (.ref (a 0)), some (.int v1), some (.int v2), some (.int v3), none, none] []) (u : UX) (v1 : Int32) (v3 : Int32) (s0 : Int32) : V x (rmF 2 46) 0 0 (MQ x.below (QR (some (.int z))) x.args x.s 0 0 (fun _ => False)) 6 (Iro d x.s.heap) (f_X7_next_b101 k4 u v1 v3 s0 = some z) 101 (WX d a u) [some (.ref (a 0)), some (.int v1), none, some (.int v3), none, none] [.int s0] := by
  unfold f_X7_next_b101
  refine V_istore_n (lv' := [some (.ref (a 0)), some (.int v1), some (.int s0), some (.int v3), none, none]) C 2 dX7_next_101 rfl (by decide) rfl ?_
  refine V_iinc (v := (v3 + 1)) (lv' := [some (.ref (a 0)), some (.int v1), some (.int s0), some (.int (v3 + 1)), none, none]) C dX7_next_102 rfl rfl (by decide) rfl ?_
  refine V_goto (tgt := 4) C dX7_next_105 (by decide) ?_
  exact hk4 u v1 s0 (v3 + 1)
set_option maxRecDepth 20000 in
theorem v_X7_next_b96 {x : Am} {d : Dt} {a : Nat → Nat} (C : Cx x cX7_next 6 yX7_next.cls d (Iro d x.s.heap)) (hr : x.meth.sig.returnType = (some .int)) (hlk : x.meth.locks = false) (z : Int32) (k4 : UX → Int32 → Int32 → Int32 → Option (Int32)) (hk4 : ∀ (u : UX)(v1 : Int32)(v2 : Int32)(v3 : Int32), V x (rmF 2 46) 0 0 (MQ x.below (QR (some (.int z))) x.args x.s 0 0 (fun _ => False)) 6 (Iro d x.s.heap) (k4 u v1 v2 v3 = some z) 4 (WX d a u) [some (.ref (a 0)), some (.int v1), some (.int v2), some (.int v3), none, none] []) (u : UX) (v1 : Int32) (v3 : Int32) : V x (rmF 2 46) 0 0 (MQ x.below (QR (some (.int z))) x.args x.s 0 0 (fun _ => False)) 6 (Iro d x.s.heap) (f_X7_next_b96 k4 u v1 v3 = some z) 96 (WX d a u) [some (.ref (a 0)), some (.int v1), none, some (.int v3), none, none] [] := by
  unfold f_X7_next_b96
  refine V_iload_n C 3 dX7_next_96 rfl rfl ?_
  refine V_goto (tgt := 101) C dX7_next_97 (by decide) ?_
  exact v_X7_next_b101 C hr hlk z k4 hk4 u v1 v3 v3
set_option maxRecDepth 20000 in
theorem v_X7_next_b100 {x : Am} {d : Dt} {a : Nat → Nat} (C : Cx x cX7_next 6 yX7_next.cls d (Iro d x.s.heap)) (hr : x.meth.sig.returnType = (some .int)) (hlk : x.meth.locks = false) (z : Int32) (k4 : UX → Int32 → Int32 → Int32 → Option (Int32)) (hk4 : ∀ (u : UX)(v1 : Int32)(v2 : Int32)(v3 : Int32), V x (rmF 2 46) 0 0 (MQ x.below (QR (some (.int z))) x.args x.s 0 0 (fun _ => False)) 6 (Iro d x.s.heap) (k4 u v1 v2 v3 = some z) 4 (WX d a u) [some (.ref (a 0)), some (.int v1), some (.int v2), some (.int v3), none, none] []) (u : UX) (v1 : Int32) (v2 : Int32) (v3 : Int32) : V x (rmF 2 46) 0 0 (MQ x.below (QR (some (.int z))) x.args x.s 0 0 (fun _ => False)) 6 (Iro d x.s.heap) (f_X7_next_b100 k4 u v1 v2 v3 = some z) 100 (WX d a u) [some (.ref (a 0)), some (.int v1), some (.int v2), some (.int v3), none, none] [] := by
  unfold f_X7_next_b100
  refine V_iload_n C 2 dX7_next_100 rfl rfl ?_
  refine V_mask (lv' := [some (.ref (a 0)), some (.int v1), none, some (.int v3), none, none]) [true, true, false, true, true, true] rfl ?_
  exact v_X7_next_b101 C hr hlk z k4 hk4 u v1 v3 v2
set_option maxRecDepth 20000 in
theorem v_X7_next_b70 {x : Am} {d : Dt} {a : Nat → Nat} (C : Cx x cX7_next 6 yX7_next.cls d (Iro d x.s.heap)) (hr : x.meth.sig.returnType = (some .int)) (hlk : x.meth.locks = false) (z : Int32) (k4 : UX → Int32 → Int32 → Int32 → Option (Int32)) (hk4 : ∀ (u : UX)(v1 : Int32)(v2 : Int32)(v3 : Int32), V x (rmF 2 46) 0 0 (MQ x.below (QR (some (.int z))) x.args x.s 0 0 (fun _ => False)) 6 (Iro d x.s.heap) (k4 u v1 v2 v3 = some z) 4 (WX d a u) [some (.ref (a 0)), some (.int v1), some (.int v2), some (.int v3), none, none] []) (u : UX) (v1 : Int32) (v2 : Int32) (v3 : Int32) (s0 : Int32) : V x (rmF 2 46) 0 0 (MQ x.below (QR (some (.int z))) x.args x.s 0 0 (fun _ => False)) 6 (Iro d x.s.heap) (f_X7_next_b70 k4 u v1 v2 v3 s0 = some z) 70 (WX d a u) [some (.ref (a 0)), some (.int v1), some (.int v2), some (.int v3), none, none] [.int s0] := by
  unfold f_X7_next_b70
  refine V_istore (lv' := [some (.ref (a 0)), some (.int v1), some (.int v2), some (.int v3), none, some (.int s0)]) C dX7_next_70 (by decide) rfl ?_
  refine V_iload C dX7_next_72 rfl ?_
  refine V_if_eq (tgt := 100) C dX7_next_74 (by decide) ?_ ?_
  · refine V_mask (lv' := [some (.ref (a 0)), some (.int v1), some (.int v2), some (.int v3), none, none]) [true, true, true, true, true, false] rfl ?_
    exact v_X7_next_b100 C hr hlk z k4 hk4 u v1 v2 v3
  · refine V_iload_n C 2 dX7_next_77 rfl rfl ?_
    refine V_if_lt (tgt := 96) C dX7_next_78 (by decide) ?_ ?_
    · refine V_mask (lv' := [some (.ref (a 0)), some (.int v1), none, some (.int v3), none, none]) [true, true, false, true, true, false] rfl ?_
      exact v_X7_next_b96 C hr hlk z k4 hk4 u v1 v3
    · refine V_aload_n C 0 dX7_next_81 rfl rfl ?_
      refine V_iload_n C 3 dX7_next_82 rfl rfl ?_
      refine V_iload_n C 1 dX7_next_83 rfl rfl ?_
      refine V_callRi (As := [.int v3, .int v1]) (rest := []) (wc := WX d a u) C (fun r h => ct_X7_worth _ d a u v3 v1 r h) kv_X7_worth kl_X7_109 [0, 1, 2, 3, 4, 5] dX7_next_84 rfl rfl rfl rfl (Nat.le_of_ble_eq_true rfl) ⟨(Nat.le_of_ble_eq_true rfl), (Nat.le_of_ble_eq_true rfl)⟩ rfl rfl ⟨Nat.le_refl _, Nat.le_refl _⟩ rfl (fun r84 hr84 => ?_)
      refine V_aload_n C 0 dX7_next_87 rfl rfl ?_
      refine V_iload_n C 2 dX7_next_88 rfl rfl ?_
      refine V_iload_n C 1 dX7_next_89 rfl rfl ?_
      refine V_callRi (As := [.int v2, .int v1]) (rest := [.int r84]) (wc := WX d a u) C (fun r h => ct_X7_worth _ d a u v2 v1 r h) kv_X7_worth kl_X7_109 [0, 1, 2, 3, 4, 5] dX7_next_90 rfl rfl rfl rfl (Nat.le_of_ble_eq_true rfl) ⟨(Nat.le_of_ble_eq_true rfl), (Nat.le_of_ble_eq_true rfl)⟩ rfl rfl ⟨Nat.le_refl _, Nat.le_refl _⟩ rfl (fun r90 hr90 => ?_)
      refine V_icmp_le (tgt := 100) C dX7_next_93 (by decide) ?_ ?_
      · refine V_mask (lv' := [some (.ref (a 0)), some (.int v1), some (.int v2), some (.int v3), none, none]) [true, true, true, true, true, false] rfl ?_
        exact v_X7_next_b100 C hr hlk z k4 hk4 u v1 v2 v3
      · refine V_mask (lv' := [some (.ref (a 0)), some (.int v1), none, some (.int v3), none, none]) [true, true, false, true, true, false] rfl ?_
        exact v_X7_next_b96 C hr hlk z k4 hk4 u v1 v3
set_option maxRecDepth 20000 in
theorem v_X7_next_b69 {x : Am} {d : Dt} {a : Nat → Nat} (C : Cx x cX7_next 6 yX7_next.cls d (Iro d x.s.heap)) (hr : x.meth.sig.returnType = (some .int)) (hlk : x.meth.locks = false) (z : Int32) (k4 : UX → Int32 → Int32 → Int32 → Option (Int32)) (hk4 : ∀ (u : UX)(v1 : Int32)(v2 : Int32)(v3 : Int32), V x (rmF 2 46) 0 0 (MQ x.below (QR (some (.int z))) x.args x.s 0 0 (fun _ => False)) 6 (Iro d x.s.heap) (k4 u v1 v2 v3 = some z) 4 (WX d a u) [some (.ref (a 0)), some (.int v1), some (.int v2), some (.int v3), none, none] []) (u : UX) (v1 : Int32) (v2 : Int32) (v3 : Int32) : V x (rmF 2 46) 0 0 (MQ x.below (QR (some (.int z))) x.args x.s 0 0 (fun _ => False)) 6 (Iro d x.s.heap) (f_X7_next_b69 k4 u v1 v2 v3 = some z) 69 (WX d a u) [some (.ref (a 0)), some (.int v1), some (.int v2), some (.int v3), none, none] [] := by
  unfold f_X7_next_b69
  refine V_iconst (v := 0) C dX7_next_69 (by decide) ?_
  exact v_X7_next_b70 C hr hlk z k4 hk4 u v1 v2 v3 0
set_option maxRecDepth 20000 in
theorem v_X7_next_b4 {x : Am} {d : Dt} {a : Nat → Nat} (C : Cx x cX7_next 6 yX7_next.cls d (Iro d x.s.heap)) (hr : x.meth.sig.returnType = (some .int)) (hlk : x.meth.locks = false) (z : Int32) (n : Nat) (u : UX) (v1 : Int32) (v2 : Int32) (v3 : Int32) : V x (rmF 2 46) 0 0 (MQ x.below (QR (some (.int z))) x.args x.s 0 0 (fun _ => False)) 6 (Iro d x.s.heap) (f_X7_next_b4 n u v1 v2 v3 = some z) 4 (WX d a u) [some (.ref (a 0)), some (.int v1), some (.int v2), some (.int v3), none, none] [] := by
  induction n generalizing u v1 v2 v3 with
  | zero => exact V_none
  | succ n ih =>
    rw [f_X7_next_b4]
    refine V_iload_n C 3 dX7_next_4 rfl rfl ?_
    refine V_aload_n C 0 dX7_next_5 rfl rfl ?_
    refine V_get (v := .ref (a 1)) C fx7 0 0 kf_X7_7 (by decide) rfl rfl dX7_next_6 ?_
    refine V_bipush (v := 8) C dX7_next_9 (by decide) ?_
    refine V_ialdc C 1 8 rfl (by decide) (by decide) dX7_next_11 ?_
    refine V_icmp_ge (tgt := 108) C dX7_next_12 (by decide) ?_ ?_
    · refine V_iload_n C 2 dX7_next_108 rfl rfl ?_
      exact V_iretR C hr hlk dX7_next_109
    · refine V_aload_n C 0 dX7_next_15 rfl rfl ?_
      refine V_get (v := .ref (a 1)) C fx7 0 0 kf_X7_7 (by decide) rfl rfl dX7_next_16 ?_
      refine V_sipush (v := 168) C dX7_next_19 (by decide) ?_
      refine V_aload_n C 0 dX7_next_22 rfl rfl ?_
      refine V_get (v := .ref (a 1)) C fx7 0 0 kf_X7_7 (by decide) rfl rfl dX7_next_23 ?_
      refine V_sipush (v := 228) C dX7_next_26 (by decide) ?_
      refine V_iconst (v := 3) C dX7_next_29 (by decide) ?_
      refine V_iload_n C 3 dX7_next_30 rfl rfl ?_
      refine V_imul C dX7_next_31 ?_
      refine V_iadd C dX7_next_32 ?_
      refine V_iald C 1 rfl dX7_next_33 ?_
      refine V_iadd C dX7_next_34 ?_
      refine V_iald C 1 rfl dX7_next_35 ?_
      refine V_istore (lv' := [some (.ref (a 0)), some (.int v1), some (.int v2), some (.int v3), some (.int (u.1 (168 + (u.1 (228 + (3 * v3)).toNatClampNeg)).toNatClampNeg)), none]) C dX7_next_36 (by decide) rfl ?_
      refine V_iload C dX7_next_38 rfl ?_
      refine V_if_lt (tgt := 69) C dX7_next_40 (by decide) ?_ ?_
      · refine V_mask (lv' := [some (.ref (a 0)), some (.int v1), some (.int v2), some (.int v3), none, none]) [true, true, true, true, false, true] rfl ?_
        exact v_X7_next_b69 C hr hlk z (f_X7_next_b4  n) ih u v1 v2 v3
      · refine V_aload_n C 0 dX7_next_43 rfl rfl ?_
        refine V_iload C dX7_next_44 rfl ?_
        refine V_iconst (v := 2) C dX7_next_46 (by decide) ?_
        refine V_callRi (As := [.int (u.1 (168 + (u.1 (228 + (3 * v3)).toNatClampNeg)).toNatClampNeg), .int 2]) (rest := []) (wc := WX d a u) C (fun r h => ct_X7_ca _ d a u (u.1 (168 + (u.1 (228 + (3 * v3)).toNatClampNeg)).toNatClampNeg) 2 r h) kv_X7_ca kl_X7_44 [0, 1, 2, 3, 4, 5] dX7_next_47 rfl rfl rfl rfl (Nat.le_of_ble_eq_true rfl) ⟨(Nat.le_of_ble_eq_true rfl), (Nat.le_of_ble_eq_true rfl)⟩ rfl rfl ⟨Nat.le_refl _, Nat.le_refl _⟩ rfl (fun r47 hr47 => ?_)
        refine V_if_ne (tgt := 69) C dX7_next_50 (by decide) ?_ ?_
        · refine V_mask (lv' := [some (.ref (a 0)), some (.int v1), some (.int v2), some (.int v3), none, none]) [true, true, true, true, false, true] rfl ?_
          exact v_X7_next_b69 C hr hlk z (f_X7_next_b4  n) ih u v1 v2 v3
        · refine V_aload_n C 0 dX7_next_53 rfl rfl ?_
          refine V_iload C dX7_next_54 rfl ?_
          refine V_iconst (v := 1) C dX7_next_56 (by decide) ?_
          refine V_callRi (As := [.int (u.1 (168 + (u.1 (228 + (3 * v3)).toNatClampNeg)).toNatClampNeg), .int 1]) (rest := []) (wc := WX d a u) C (fun r h => ct_X7_ca _ d a u (u.1 (168 + (u.1 (228 + (3 * v3)).toNatClampNeg)).toNatClampNeg) 1 r h) kv_X7_ca kl_X7_44 [0, 1, 2, 3, 4, 5] dX7_next_57 rfl rfl rfl rfl (Nat.le_of_ble_eq_true rfl) ⟨(Nat.le_of_ble_eq_true rfl), (Nat.le_of_ble_eq_true rfl)⟩ rfl rfl ⟨Nat.le_refl _, Nat.le_refl _⟩ rfl (fun r57 hr57 => ?_)
          refine V_bipush (v := 6) C dX7_next_60 (by decide) ?_
          refine V_icmp_ge (tgt := 69) C dX7_next_62 (by decide) ?_ ?_
          · refine V_mask (lv' := [some (.ref (a 0)), some (.int v1), some (.int v2), some (.int v3), none, none]) [true, true, true, true, false, true] rfl ?_
            exact v_X7_next_b69 C hr hlk z (f_X7_next_b4  n) ih u v1 v2 v3
          · refine V_iconst (v := 1) C dX7_next_65 (by decide) ?_
            refine V_goto (tgt := 70) C dX7_next_66 (by decide) ?_
            refine V_mask (lv' := [some (.ref (a 0)), some (.int v1), some (.int v2), some (.int v3), none, none]) [true, true, true, true, false, true] rfl ?_
            exact v_X7_next_b70 C hr hlk z (f_X7_next_b4  n) ih u v1 v2 v3 1
set_option maxRecDepth 20000 in
theorem v_X7_next {x : Am} {d : Dt} {a : Nat → Nat} (C : Cx x cX7_next 6 yX7_next.cls d (Iro d x.s.heap)) (hr : x.meth.sig.returnType = (some .int)) (hlk : x.meth.locks = false) (z : Int32) (u : UX) (p1 : Int32) : V x (rmF 2 46) 0 0 (MQ x.below (QR (some (.int z))) x.args x.s 0 0 (fun _ => False)) 6 (Iro d x.s.heap) (f_X7_next u p1 = some z) 0 (WX d a u) [some (.ref (a 0)), some (.int p1), none, none, none, none] [] := by
  unfold f_X7_next
  refine V_iconst (v := (-1)) C dX7_next_0 (by decide) ?_
  refine V_istore_n (lv' := [some (.ref (a 0)), some (.int p1), some (.int (-1)), none, none, none]) C 2 dX7_next_1 rfl (by decide) rfl ?_
  refine V_iconst (v := 0) C dX7_next_2 (by decide) ?_
  refine V_istore_n (lv' := [some (.ref (a 0)), some (.int p1), some (.int (-1)), some (.int 0), none, none]) C 3 dX7_next_3 rfl (by decide) rfl ?_
  exact v_X7_next_b4 C hr hlk z FUEL u p1 (-1) 0
set_option maxRecDepth 20000 in
theorem ct_X7_next (l : Launch) (d : Dt) (a : Nat → Nat) (u : UX) (p1 : Int32) (z : Int32) (h : f_X7_next u p1 = some z) : CtR l d yX7_next cX7_next 6 (some .int) (rmF 2 46) [.ref (a 0), .int p1] (WX d a u) (some (.int z)) :=
  CtR.start (by decide) (Nat.le_of_ble_eq_true rfl) (by simp [Value.category]) [some (.ref (a 0)), some (.int p1), none, none, none, none] rfl (fun x C hr hlk => V_eqv (fun _ => h) (v_X7_next C hr hlk z u p1))

/-! MastRobotsModel.goes -/
def f_X7_goes_b76 (k0 : UX → Int32 → Option (UX)) (u : UX) (v1 : Int32) (s1 : Int32) : Option (UX) :=
  ((f_X7_turns u s1).bind fun r76 => k0 r76.2 v1)
def f_X7_goes_b60 (k0 : UX → Int32 → Option (UX)) (u : UX) (v1 : Int32) (v2 : Int32) (s0 : Int32) : Option (UX) :=
  (if 4 < v2 then f_X7_goes_b76 k0 u v1 (-s0) else f_X7_goes_b76 k0 u v1 s0)
def f_X7_goes_b43 (k0 : UX → Int32 → Option (UX)) (u : UX) (v1 : Int32) (v2 : Int32) (s0 : Int32) : Option (UX) :=
  ((f_X7_most u).bind fun r46 => (if s0 ≤ r46 then f_X7_goes_b60 k0 u v1 v2 s0 else ((f_X7_most u).bind fun r53 => f_X7_goes_b60 k0 u v1 v2 r53)))
def f_X7_goes_b0 : Nat → UX → Int32 → Option (UX)
  | 0, _, _ => none
  | n + 1, u, v1 => (if (u.1 1) = v1 then some u else ((f_X7_weighs u).bind fun r11 => (if 4 < (jrem ((v1 - (r11.2.1 1)) + 8) 8) then f_X7_goes_b43 (f_X7_goes_b0 n) r11.2 v1 (jrem ((v1 - (r11.2.1 1)) + 8) 8) (8 - (jrem ((v1 - (r11.2.1 1)) + 8) 8)) else f_X7_goes_b43 (f_X7_goes_b0 n) r11.2 v1 (jrem ((v1 - (r11.2.1 1)) + 8) 8) (jrem ((v1 - (r11.2.1 1)) + 8) 8))))
def f_X7_goes (u : UX) (p1 : Int32) : Option (UX) :=
  f_X7_goes_b0 FUEL u p1
set_option maxRecDepth 20000 in
theorem v_X7_goes_b76 {x : Am} {d : Dt} {A : Nat → Prop} {a : Nat → Nat} (C : Cx x cX7_goes 5 yX7_goes.cls d (Imu d A x.s.heap)) (hr : x.meth.sig.returnType = none) (hlk : x.meth.locks = false) (z : UX) (k0 : UX → Int32 → Option (UX)) (hk0 : ∀ (u : UX)(v1 : Int32), V x (rmF 4 86) 0 0 (MQ x.below (QW d A (WX d a z) none) x.args x.s 0 0 A) 5 (Imu d A x.s.heap) (k0 u v1 = some z) 0 (WX d a u) [some (.ref (a 0)), some (.int v1), none, none, none] []) (u : UX) (v1 : Int32) (s1 : Int32) : V x (rmF 4 86) 0 0 (MQ x.below (QW d A (WX d a z) none) x.args x.s 0 0 A) 5 (Imu d A x.s.heap) (f_X7_goes_b76 k0 u v1 s1 = some z) 76 (WX d a u) [some (.ref (a 0)), some (.int v1), none, none, none] [.int s1, .ref (a 0)] := by
  unfold f_X7_goes_b76
  refine V_callWi (As := [.int s1]) (rest := []) (wc := WX d a u) (Wd := fun w => WX d a w) C (fun r h => ct_X7_turns _ d a u s1 r h) kv_X7_turns kl_X7_85 [0, 1, 2, 3, 4, 5] (fun w => WX d a w) dX7_goes_76 rfl rfl (fun _ => rfl) (fun _ => rfl) rfl rfl rfl (Nat.le_of_ble_eq_true rfl) ⟨(Nat.le_of_ble_eq_true rfl), (Nat.le_of_ble_eq_true rfl)⟩ rfl rfl ⟨Nat.le_refl _, Nat.le_refl _⟩ rfl (fun r76 hr76 => ?_)
  refine V_pop C dX7_goes_79 rfl ?_
  refine V_goto (tgt := 0) C dX7_goes_80 (by decide) ?_
  exact hk0 r76.2 v1
set_option maxRecDepth 20000 in
theorem v_X7_goes_b60 {x : Am} {d : Dt} {A : Nat → Prop} {a : Nat → Nat} (C : Cx x cX7_goes 5 yX7_goes.cls d (Imu d A x.s.heap)) (hr : x.meth.sig.returnType = none) (hlk : x.meth.locks = false) (z : UX) (k0 : UX → Int32 → Option (UX)) (hk0 : ∀ (u : UX)(v1 : Int32), V x (rmF 4 86) 0 0 (MQ x.below (QW d A (WX d a z) none) x.args x.s 0 0 A) 5 (Imu d A x.s.heap) (k0 u v1 = some z) 0 (WX d a u) [some (.ref (a 0)), some (.int v1), none, none, none] []) (u : UX) (v1 : Int32) (v2 : Int32) (s0 : Int32) : V x (rmF 4 86) 0 0 (MQ x.below (QW d A (WX d a z) none) x.args x.s 0 0 A) 5 (Imu d A x.s.heap) (f_X7_goes_b60 k0 u v1 v2 s0 = some z) 60 (WX d a u) [some (.ref (a 0)), some (.int v1), some (.int v2), none, none] [.int s0] := by
  unfold f_X7_goes_b60
  refine V_istore (lv' := [some (.ref (a 0)), some (.int v1), some (.int v2), none, some (.int s0)]) C dX7_goes_60 (by decide) rfl ?_
  refine V_aload_n C 0 dX7_goes_62 rfl rfl ?_
  refine V_iload_n C 2 dX7_goes_63 rfl rfl ?_
  refine V_iconst (v := 4) C dX7_goes_64 (by decide) ?_
  refine V_icmp_gt (tgt := 73) C dX7_goes_65 (by decide) ?_ ?_
  · refine V_iload C dX7_goes_73 rfl ?_
    refine V_ineg C dX7_goes_75 ?_
    refine V_mask (lv' := [some (.ref (a 0)), some (.int v1), none, none, none]) [true, true, false, true, false] rfl ?_
    exact v_X7_goes_b76 C hr hlk z k0 hk0 u v1 (-s0)
  · refine V_iload C dX7_goes_68 rfl ?_
    refine V_goto (tgt := 76) C dX7_goes_70 (by decide) ?_
    refine V_mask (lv' := [some (.ref (a 0)), some (.int v1), none, none, none]) [true, true, false, true, false] rfl ?_
    exact v_X7_goes_b76 C hr hlk z k0 hk0 u v1 s0
set_option maxRecDepth 20000 in
theorem v_X7_goes_b43 {x : Am} {d : Dt} {A : Nat → Prop} {a : Nat → Nat} (C : Cx x cX7_goes 5 yX7_goes.cls d (Imu d A x.s.heap)) (hr : x.meth.sig.returnType = none) (hlk : x.meth.locks = false) (z : UX) (k0 : UX → Int32 → Option (UX)) (hk0 : ∀ (u : UX)(v1 : Int32), V x (rmF 4 86) 0 0 (MQ x.below (QW d A (WX d a z) none) x.args x.s 0 0 A) 5 (Imu d A x.s.heap) (k0 u v1 = some z) 0 (WX d a u) [some (.ref (a 0)), some (.int v1), none, none, none] []) (u : UX) (v1 : Int32) (v2 : Int32) (s0 : Int32) : V x (rmF 4 86) 0 0 (MQ x.below (QW d A (WX d a z) none) x.args x.s 0 0 A) 5 (Imu d A x.s.heap) (f_X7_goes_b43 k0 u v1 v2 s0 = some z) 43 (WX d a u) [some (.ref (a 0)), some (.int v1), some (.int v2), none, none] [.int s0] := by
  unfold f_X7_goes_b43
  refine V_istore_n (lv' := [some (.ref (a 0)), some (.int v1), some (.int v2), some (.int s0), none]) C 3 dX7_goes_43 rfl (by decide) rfl ?_
  refine V_iload_n C 3 dX7_goes_44 rfl rfl ?_
  refine V_aload_n C 0 dX7_goes_45 rfl rfl ?_
  refine V_callRi (As := []) (rest := [.int s0]) (wc := WX d a u) C (fun r h => ct_X7_most _ d a u r h) kv_X7_most kl_X7_82 [0, 1, 2, 3, 4, 5] dX7_goes_46 rfl rfl rfl rfl (Nat.le_of_ble_eq_true rfl) ⟨(Nat.le_of_ble_eq_true rfl), (Nat.le_of_ble_eq_true rfl)⟩ rfl rfl ⟨Nat.le_refl _, Nat.le_refl _⟩ rfl (fun r46 hr46 => ?_)
  refine V_icmp_le (tgt := 59) C dX7_goes_49 (by decide) ?_ ?_
  · refine V_iload_n C 3 dX7_goes_59 rfl rfl ?_
    refine V_mask (lv' := [some (.ref (a 0)), some (.int v1), some (.int v2), none, none]) [true, true, true, false, true] rfl ?_
    exact v_X7_goes_b60 C hr hlk z k0 hk0 u v1 v2 s0
  · refine V_aload_n C 0 dX7_goes_52 rfl rfl ?_
    refine V_callRi (As := []) (rest := []) (wc := WX d a u) C (fun r h => ct_X7_most _ d a u r h) kv_X7_most kl_X7_82 [0, 1, 2, 3, 4, 5] dX7_goes_53 rfl rfl rfl rfl (Nat.le_of_ble_eq_true rfl) ⟨(Nat.le_of_ble_eq_true rfl), (Nat.le_of_ble_eq_true rfl)⟩ rfl rfl ⟨Nat.le_refl _, Nat.le_refl _⟩ rfl (fun r53 hr53 => ?_)
    refine V_goto (tgt := 60) C dX7_goes_56 (by decide) ?_
    refine V_mask (lv' := [some (.ref (a 0)), some (.int v1), some (.int v2), none, none]) [true, true, true, false, true] rfl ?_
    exact v_X7_goes_b60 C hr hlk z k0 hk0 u v1 v2 r53
set_option maxRecDepth 20000 in
theorem v_X7_goes_b0 {x : Am} {d : Dt} {A : Nat → Prop} {a : Nat → Nat} (C : Cx x cX7_goes 5 yX7_goes.cls d (Imu d A x.s.heap)) (hr : x.meth.sig.returnType = none) (hlk : x.meth.locks = false) (z : UX) (n : Nat) (u : UX) (v1 : Int32) : V x (rmF 4 86) 0 0 (MQ x.below (QW d A (WX d a z) none) x.args x.s 0 0 A) 5 (Imu d A x.s.heap) (f_X7_goes_b0 n u v1 = some z) 0 (WX d a u) [some (.ref (a 0)), some (.int v1), none, none, none] [] := by
  induction n generalizing u v1 with
  | zero => exact V_none
  | succ n ih =>
    rw [f_X7_goes_b0]
    refine V_aload_n C 0 dX7_goes_0 rfl rfl ?_
    refine V_get (v := .ref (a 1)) C fx7 0 0 kf_X7_7 (by decide) rfl rfl dX7_goes_1 ?_
    refine V_iconst (v := 1) C dX7_goes_4 (by decide) ?_
    refine V_ialdc C 1 1 rfl (by decide) (by decide) dX7_goes_5 ?_
    refine V_iload_n C 1 dX7_goes_6 rfl rfl ?_
    refine V_icmp_eq (tgt := 83) C dX7_goes_7 (by decide) ?_ ?_
    · exact V_vretW (Wd := fun w => WX d a w) C hr hlk dX7_goes_83 rfl
    · refine V_aload_n C 0 dX7_goes_10 rfl rfl ?_
      refine V_callWi (As := []) (rest := []) (wc := WX d a u) (Wd := fun w => WX d a w) C (fun r h => ct_X7_weighs _ d a u r h) kv_X7_weighs kl_X7_79 [0, 1, 2, 3, 4, 5] (fun w => WX d a w) dX7_goes_11 rfl rfl (fun _ => rfl) (fun _ => rfl) rfl rfl rfl (Nat.le_of_ble_eq_true rfl) ⟨(Nat.le_of_ble_eq_true rfl), (Nat.le_of_ble_eq_true rfl)⟩ rfl rfl ⟨Nat.le_refl _, Nat.le_refl _⟩ rfl (fun r11 hr11 => ?_)
      refine V_pop C dX7_goes_14 rfl ?_
      refine V_iload_n C 1 dX7_goes_15 rfl rfl ?_
      refine V_aload_n C 0 dX7_goes_16 rfl rfl ?_
      refine V_get (v := .ref (a 1)) C fx7 0 0 kf_X7_7 (by decide) rfl rfl dX7_goes_17 ?_
      refine V_iconst (v := 1) C dX7_goes_20 (by decide) ?_
      refine V_ialdc C 1 1 rfl (by decide) (by decide) dX7_goes_21 ?_
      refine V_isub C dX7_goes_22 ?_
      refine V_bipush (v := 8) C dX7_goes_23 (by decide) ?_
      refine V_iadd C dX7_goes_25 ?_
      refine V_bipush (v := 8) C dX7_goes_26 (by decide) ?_
      refine V_irem C dX7_goes_28 (by decide) ?_
      refine V_istore_n (lv' := [some (.ref (a 0)), some (.int v1), some (.int (jrem ((v1 - (r11.2.1 1)) + 8) 8)), none, none]) C 2 dX7_goes_29 rfl (by decide) rfl ?_
      refine V_iload_n C 2 dX7_goes_30 rfl rfl ?_
      refine V_iconst (v := 4) C dX7_goes_31 (by decide) ?_
      refine V_icmp_gt (tgt := 39) C dX7_goes_32 (by decide) ?_ ?_
      · refine V_bipush (v := 8) C dX7_goes_39 (by decide) ?_
        refine V_iload_n C 2 dX7_goes_41 rfl rfl ?_
        refine V_isub C dX7_goes_42 ?_
        exact v_X7_goes_b43 C hr hlk z (f_X7_goes_b0  n) ih r11.2 v1 (jrem ((v1 - (r11.2.1 1)) + 8) 8) (8 - (jrem ((v1 - (r11.2.1 1)) + 8) 8))
      · refine V_iload_n C 2 dX7_goes_35 rfl rfl ?_
        refine V_goto (tgt := 43) C dX7_goes_36 (by decide) ?_
        exact v_X7_goes_b43 C hr hlk z (f_X7_goes_b0  n) ih r11.2 v1 (jrem ((v1 - (r11.2.1 1)) + 8) 8) (jrem ((v1 - (r11.2.1 1)) + 8) 8)
set_option maxRecDepth 20000 in
theorem v_X7_goes {x : Am} {d : Dt} {A : Nat → Prop} {a : Nat → Nat} (C : Cx x cX7_goes 5 yX7_goes.cls d (Imu d A x.s.heap)) (hr : x.meth.sig.returnType = none) (hlk : x.meth.locks = false) (z : UX) (u : UX) (p1 : Int32) : V x (rmF 4 86) 0 0 (MQ x.below (QW d A (WX d a z) none) x.args x.s 0 0 A) 5 (Imu d A x.s.heap) (f_X7_goes u p1 = some z) 0 (WX d a u) [some (.ref (a 0)), some (.int p1), none, none, none] [] := by
  unfold f_X7_goes
  exact v_X7_goes_b0 C hr hlk z FUEL u p1
set_option maxRecDepth 20000 in
theorem ct_X7_goes (l : Launch) (d : Dt) (a : Nat → Nat) (u : UX) (p1 : Int32) (z : UX) (h : f_X7_goes u p1 = some z) : CtW l d yX7_goes cX7_goes 5 none (rmF 4 86) [.ref (a 0), .int p1] (WX d a u) (WX d a z) none :=
  CtW.start (by decide) (Nat.le_of_ble_eq_true rfl) (by simp [Value.category]) [some (.ref (a 0)), some (.int p1), none, none, none] rfl (fun x A C hr hlk => V_eqv (fun _ => h) (v_X7_goes C hr hlk z u p1))

/-! MastRobotsModel.empty -/
def f_X7_empty_b29 (k4 : UX → Int32 → Int32 → Int32 → Option (Int32)) (u : UX) (v1 : Int32) (v3 : Int32) (s0 : Int32) : Option (Int32) :=
  k4 u v1 s0 (v3 + (-1))
def f_X7_empty_b4 : Nat → UX → Int32 → Int32 → Int32 → Option (Int32)
  | 0, _, _, _, _ => none
  | n + 1, u, v1, v2, v3 => (if v3 < 0 then some v2 else (if inb ((16 + (4 * v1)) + v3) 264 = true then (if 0 ≤ (u.1 ((16 + (4 * v1)) + v3).toNatClampNeg) then f_X7_empty_b29 (f_X7_empty_b4 n) u v1 v3 v2 else f_X7_empty_b29 (f_X7_empty_b4 n) u v1 v3 v3) else none))
def f_X7_empty (u : UX) (p1 : Int32) : Option (Int32) :=
  f_X7_empty_b4 FUEL u p1 (-1) 3
set_option maxRecDepth 20000 in
theorem v_X7_empty_b29 {x : Am} {d : Dt} {a : Nat → Nat} (C : Cx x cX7_empty 4 yX7_empty.cls d (Iro d x.s.heap)) (hr : x.meth.sig.returnType = (some .int)) (hlk : x.meth.locks = false) (z : Int32) (k4 : UX → Int32 → Int32 → Int32 → Option (Int32)) (hk4 : ∀ (u : UX)(v1 : Int32)(v2 : Int32)(v3 : Int32), V x (rmF 0 0) 0 0 (MQ x.below (QR (some (.int z))) x.args x.s 0 0 (fun _ => False)) 4 (Iro d x.s.heap) (k4 u v1 v2 v3 = some z) 4 (WX d a u) [some (.ref (a 0)), some (.int v1), some (.int v2), some (.int v3)] []) (u : UX) (v1 : Int32) (v3 : Int32) (s0 : Int32) : V x (rmF 0 0) 0 0 (MQ x.below (QR (some (.int z))) x.args x.s 0 0 (fun _ => False)) 4 (Iro d x.s.heap) (f_X7_empty_b29 k4 u v1 v3 s0 = some z) 29 (WX d a u) [some (.ref (a 0)), some (.int v1), none, some (.int v3)] [.int s0] := by
  unfold f_X7_empty_b29
  refine V_istore_n (lv' := [some (.ref (a 0)), some (.int v1), some (.int s0), some (.int v3)]) C 2 dX7_empty_29 rfl (by decide) rfl ?_
  refine V_iinc (v := (v3 + (-1))) (lv' := [some (.ref (a 0)), some (.int v1), some (.int s0), some (.int (v3 + (-1)))]) C dX7_empty_30 rfl rfl (by decide) rfl ?_
  refine V_goto (tgt := 4) C dX7_empty_33 (by decide) ?_
  exact hk4 u v1 s0 (v3 + (-1))
set_option maxRecDepth 20000 in
theorem v_X7_empty_b4 {x : Am} {d : Dt} {a : Nat → Nat} (C : Cx x cX7_empty 4 yX7_empty.cls d (Iro d x.s.heap)) (hr : x.meth.sig.returnType = (some .int)) (hlk : x.meth.locks = false) (z : Int32) (n : Nat) (u : UX) (v1 : Int32) (v2 : Int32) (v3 : Int32) : V x (rmF 0 0) 0 0 (MQ x.below (QR (some (.int z))) x.args x.s 0 0 (fun _ => False)) 4 (Iro d x.s.heap) (f_X7_empty_b4 n u v1 v2 v3 = some z) 4 (WX d a u) [some (.ref (a 0)), some (.int v1), some (.int v2), some (.int v3)] [] := by
  induction n generalizing u v1 v2 v3 with
  | zero => exact V_none
  | succ n ih =>
    rw [f_X7_empty_b4]
    refine V_iload_n C 3 dX7_empty_4 rfl rfl ?_
    refine V_if_lt (tgt := 36) C dX7_empty_5 (by decide) ?_ ?_
    · refine V_iload_n C 2 dX7_empty_36 rfl rfl ?_
      exact V_iretR C hr hlk dX7_empty_37
    · refine V_aload_n C 0 dX7_empty_8 rfl rfl ?_
      refine V_get (v := .ref (a 1)) C fx7 0 0 kf_X7_7 (by decide) rfl rfl dX7_empty_9 ?_
      refine V_bipush (v := 16) C dX7_empty_12 (by decide) ?_
      refine V_iconst (v := 4) C dX7_empty_14 (by decide) ?_
      refine V_iload_n C 1 dX7_empty_15 rfl rfl ?_
      refine V_imul C dX7_empty_16 ?_
      refine V_iadd C dX7_empty_17 ?_
      refine V_iload_n C 3 dX7_empty_18 rfl rfl ?_
      refine V_iadd C dX7_empty_19 ?_
      refine V_iald C 1 rfl dX7_empty_20 ?_
      refine V_if_ge (tgt := 28) C dX7_empty_21 (by decide) ?_ ?_
      · refine V_iload_n C 2 dX7_empty_28 rfl rfl ?_
        refine V_mask (lv' := [some (.ref (a 0)), some (.int v1), none, some (.int v3)]) [true, true, false, true] rfl ?_
        exact v_X7_empty_b29 C hr hlk z (f_X7_empty_b4  n) ih u v1 v3 v2
      · refine V_iload_n C 3 dX7_empty_24 rfl rfl ?_
        refine V_goto (tgt := 29) C dX7_empty_25 (by decide) ?_
        refine V_mask (lv' := [some (.ref (a 0)), some (.int v1), none, some (.int v3)]) [true, true, false, true] rfl ?_
        exact v_X7_empty_b29 C hr hlk z (f_X7_empty_b4  n) ih u v1 v3 v3
set_option maxRecDepth 20000 in
theorem v_X7_empty {x : Am} {d : Dt} {a : Nat → Nat} (C : Cx x cX7_empty 4 yX7_empty.cls d (Iro d x.s.heap)) (hr : x.meth.sig.returnType = (some .int)) (hlk : x.meth.locks = false) (z : Int32) (u : UX) (p1 : Int32) : V x (rmF 0 0) 0 0 (MQ x.below (QR (some (.int z))) x.args x.s 0 0 (fun _ => False)) 4 (Iro d x.s.heap) (f_X7_empty u p1 = some z) 0 (WX d a u) [some (.ref (a 0)), some (.int p1), none, none] [] := by
  unfold f_X7_empty
  refine V_iconst (v := (-1)) C dX7_empty_0 (by decide) ?_
  refine V_istore_n (lv' := [some (.ref (a 0)), some (.int p1), some (.int (-1)), none]) C 2 dX7_empty_1 rfl (by decide) rfl ?_
  refine V_iconst (v := 3) C dX7_empty_2 (by decide) ?_
  refine V_istore_n (lv' := [some (.ref (a 0)), some (.int p1), some (.int (-1)), some (.int 3)]) C 3 dX7_empty_3 rfl (by decide) rfl ?_
  exact v_X7_empty_b4 C hr hlk z FUEL u p1 (-1) 3
set_option maxRecDepth 20000 in
theorem ct_X7_empty (l : Launch) (d : Dt) (a : Nat → Nat) (u : UX) (p1 : Int32) (z : Int32) (h : f_X7_empty u p1 = some z) : CtR l d yX7_empty cX7_empty 4 (some .int) (rmF 0 0) [.ref (a 0), .int p1] (WX d a u) (some (.int z)) :=
  CtR.start (by decide) (Nat.le_of_ble_eq_true rfl) (by simp [Value.category]) [some (.ref (a 0)), some (.int p1), none, none] rfl (fun x C hr hlk => V_eqv (fun _ => h) (v_X7_empty C hr hlk z u p1))

/-! MastRobotsModel.nearest -/
def f_X7_nearest_b2 : Nat → UX → Int32 → Int32 → Option (Int32)
  | 0, _, _, _ => none
  | n + 1, u, v1, v2 => (if 4 < v2 then some (-1) else ((f_X7_empty u (jrem (v1 + v2) 8)).bind fun r27 => (if r27 < 0 then ((f_X7_empty u (jrem ((v1 - v2) + 8) 8)).bind fun r38 => (if r38 < 0 then f_X7_nearest_b2 n u v1 (v2 + 1) else some (jrem ((v1 - v2) + 8) 8))) else some (jrem (v1 + v2) 8))))
def f_X7_nearest (u : UX) (p1 : Int32) : Option (Int32) :=
  f_X7_nearest_b2 FUEL u p1 0
set_option maxRecDepth 20000 in
theorem v_X7_nearest_b2 {x : Am} {d : Dt} {a : Nat → Nat} (C : Cx x cX7_nearest 5 yX7_nearest.cls d (Iro d x.s.heap)) (hr : x.meth.sig.returnType = (some .int)) (hlk : x.meth.locks = false) (z : Int32) (n : Nat) (u : UX) (v1 : Int32) (v2 : Int32) : V x (rmF 1 23) 0 0 (MQ x.below (QR (some (.int z))) x.args x.s 0 0 (fun _ => False)) 5 (Iro d x.s.heap) (f_X7_nearest_b2 n u v1 v2 = some z) 2 (WX d a u) [some (.ref (a 0)), some (.int v1), some (.int v2), none, none] [] := by
  induction n generalizing u v1 v2 with
  | zero => exact V_none
  | succ n ih =>
    rw [f_X7_nearest_b2]
    refine V_iload_n C 2 dX7_nearest_2 rfl rfl ?_
    refine V_iconst (v := 4) C dX7_nearest_3 (by decide) ?_
    refine V_icmp_gt (tgt := 53) C dX7_nearest_4 (by decide) ?_ ?_
    · refine V_iconst (v := (-1)) C dX7_nearest_53 (by decide) ?_
      exact V_iretR C hr hlk dX7_nearest_54
    · refine V_iload_n C 1 dX7_nearest_7 rfl rfl ?_
      refine V_iload_n C 2 dX7_nearest_8 rfl rfl ?_
      refine V_iadd C dX7_nearest_9 ?_
      refine V_bipush (v := 8) C dX7_nearest_10 (by decide) ?_
      refine V_irem C dX7_nearest_12 (by decide) ?_
      refine V_istore_n (lv' := [some (.ref (a 0)), some (.int v1), some (.int v2), some (.int (jrem (v1 + v2) 8)), none]) C 3 dX7_nearest_13 rfl (by decide) rfl ?_
      refine V_iload_n C 1 dX7_nearest_14 rfl rfl ?_
      refine V_iload_n C 2 dX7_nearest_15 rfl rfl ?_
      refine V_isub C dX7_nearest_16 ?_
      refine V_bipush (v := 8) C dX7_nearest_17 (by decide) ?_
      refine V_iadd C dX7_nearest_19 ?_
      refine V_bipush (v := 8) C dX7_nearest_20 (by decide) ?_
      refine V_irem C dX7_nearest_22 (by decide) ?_
      refine V_istore (lv' := [some (.ref (a 0)), some (.int v1), some (.int v2), some (.int (jrem (v1 + v2) 8)), some (.int (jrem ((v1 - v2) + 8) 8))]) C dX7_nearest_23 (by decide) rfl ?_
      refine V_aload_n C 0 dX7_nearest_25 rfl rfl ?_
      refine V_iload_n C 3 dX7_nearest_26 rfl rfl ?_
      refine V_callRi (As := [.int (jrem (v1 + v2) 8)]) (rest := []) (wc := WX d a u) C (fun r h => ct_X7_empty _ d a u (jrem (v1 + v2) 8) r h) kv_X7_empty kl_X7_112 [0, 1, 2, 3, 4, 5] dX7_nearest_27 rfl rfl rfl rfl (Nat.le_of_ble_eq_true rfl) ⟨(Nat.le_of_ble_eq_true rfl), (Nat.le_of_ble_eq_true rfl)⟩ rfl rfl ⟨Nat.le_refl _, Nat.le_refl _⟩ rfl (fun r27 hr27 => ?_)
      refine V_if_lt (tgt := 35) C dX7_nearest_30 (by decide) ?_ ?_
      · refine V_aload_n C 0 dX7_nearest_35 rfl rfl ?_
        refine V_iload C dX7_nearest_36 rfl ?_
        refine V_callRi (As := [.int (jrem ((v1 - v2) + 8) 8)]) (rest := []) (wc := WX d a u) C (fun r h => ct_X7_empty _ d a u (jrem ((v1 - v2) + 8) 8) r h) kv_X7_empty kl_X7_112 [0, 1, 2, 3, 4, 5] dX7_nearest_38 rfl rfl rfl rfl (Nat.le_of_ble_eq_true rfl) ⟨(Nat.le_of_ble_eq_true rfl), (Nat.le_of_ble_eq_true rfl)⟩ rfl rfl ⟨Nat.le_refl _, Nat.le_refl _⟩ rfl (fun r38 hr38 => ?_)
        refine V_if_lt (tgt := 47) C dX7_nearest_41 (by decide) ?_ ?_
        · refine V_iinc (v := (v2 + 1)) (lv' := [some (.ref (a 0)), some (.int v1), some (.int (v2 + 1)), some (.int (jrem (v1 + v2) 8)), some (.int (jrem ((v1 - v2) + 8) 8))]) C dX7_nearest_47 rfl rfl (by decide) rfl ?_
          refine V_goto (tgt := 2) C dX7_nearest_50 (by decide) ?_
          refine V_mask (lv' := [some (.ref (a 0)), some (.int v1), some (.int (v2 + 1)), none, none]) [true, true, true, false, false] rfl ?_
          exact ih u v1 (v2 + 1)
        · refine V_iload C dX7_nearest_44 rfl ?_
          exact V_iretR C hr hlk dX7_nearest_46
      · refine V_iload_n C 3 dX7_nearest_33 rfl rfl ?_
        exact V_iretR C hr hlk dX7_nearest_34
set_option maxRecDepth 20000 in
theorem v_X7_nearest {x : Am} {d : Dt} {a : Nat → Nat} (C : Cx x cX7_nearest 5 yX7_nearest.cls d (Iro d x.s.heap)) (hr : x.meth.sig.returnType = (some .int)) (hlk : x.meth.locks = false) (z : Int32) (u : UX) (p1 : Int32) : V x (rmF 1 23) 0 0 (MQ x.below (QR (some (.int z))) x.args x.s 0 0 (fun _ => False)) 5 (Iro d x.s.heap) (f_X7_nearest u p1 = some z) 0 (WX d a u) [some (.ref (a 0)), some (.int p1), none, none, none] [] := by
  unfold f_X7_nearest
  refine V_iconst (v := 0) C dX7_nearest_0 (by decide) ?_
  refine V_istore_n (lv' := [some (.ref (a 0)), some (.int p1), some (.int 0), none, none]) C 2 dX7_nearest_1 rfl (by decide) rfl ?_
  exact v_X7_nearest_b2 C hr hlk z FUEL u p1 0
set_option maxRecDepth 20000 in
theorem ct_X7_nearest (l : Launch) (d : Dt) (a : Nat → Nat) (u : UX) (p1 : Int32) (z : Int32) (h : f_X7_nearest u p1 = some z) : CtR l d yX7_nearest cX7_nearest 5 (some .int) (rmF 1 23) [.ref (a 0), .int p1] (WX d a u) (some (.int z)) :=
  CtR.start (by decide) (Nat.le_of_ble_eq_true rfl) (by simp [Value.category]) [some (.ref (a 0)), some (.int p1), none, none, none] rfl (fun x C hr hlk => V_eqv (fun _ => h) (v_X7_nearest C hr hlk z u p1))

/-! MastRobotsModel.chooses -/
def f_X7_chooses_b65 (u : UX) (v2 : Int32) (v3 : Int32) : Option (Int32) :=
  (if v2 = 0 then (if v3 = 0 then (if (u.1 14) ≤ (u.1 13) then some 1 else some 0) else some 1) else some 0)
def f_X7_chooses_b31 (u : UX) (v1 : Int32) (v2 : Int32) (s0 : Int32) : Option (Int32) :=
  (if v2 = 0 then f_X7_chooses_b65 u v2 s0 else (if s0 = 0 then f_X7_chooses_b65 u v2 s0 else ((f_X7_wallOf 1).bind fun r41 => ((f_X7_apart r41 v1).bind fun r45 => ((f_X7_wallOf 0).bind fun r49 => ((f_X7_apart r49 v1).bind fun r53 => (if r53 ≤ r45 then some 0 else some 1)))))))
def f_X7_chooses_b15 (u : UX) (v1 : Int32) (s0 : Int32) : Option (Int32) :=
  (if 0 ≤ (u.1 12) then f_X7_chooses_b31 u v1 s0 0 else f_X7_chooses_b31 u v1 s0 1)
def f_X7_chooses (u : UX) (p1 : Int32) : Option (Int32) :=
  (if 0 ≤ (u.1 11) then f_X7_chooses_b15 u p1 0 else f_X7_chooses_b15 u p1 1)
set_option maxRecDepth 20000 in
theorem v_X7_chooses_b65 {x : Am} {d : Dt} {a : Nat → Nat} (C : Cx x cX7_chooses 4 yX7_chooses.cls d (Iro d x.s.heap)) (hr : x.meth.sig.returnType = (some .int)) (hlk : x.meth.locks = false) (z : Int32) (u : UX) (v2 : Int32) (v3 : Int32) : V x (rmF 1 22) 0 0 (MQ x.below (QR (some (.int z))) x.args x.s 0 0 (fun _ => False)) 4 (Iro d x.s.heap) (f_X7_chooses_b65 u v2 v3 = some z) 65 (WX d a u) [some (.ref (a 0)), none, some (.int v2), some (.int v3)] [] := by
  unfold f_X7_chooses_b65
  refine V_iload_n C 2 dX7_chooses_65 rfl rfl ?_
  refine V_if_eq (tgt := 73) C dX7_chooses_66 (by decide) ?_ ?_
  · refine V_iload_n C 3 dX7_chooses_73 rfl rfl ?_
    refine V_if_eq (tgt := 81) C dX7_chooses_74 (by decide) ?_ ?_
    · refine V_aload_n C 0 dX7_chooses_81 rfl rfl ?_
      refine V_get (v := .ref (a 1)) C fx7 0 0 kf_X7_7 (by decide) rfl rfl dX7_chooses_82 ?_
      refine V_bipush (v := 13) C dX7_chooses_85 (by decide) ?_
      refine V_ialdc C 1 13 rfl (by decide) (by decide) dX7_chooses_87 ?_
      refine V_aload_n C 0 dX7_chooses_88 rfl rfl ?_
      refine V_get (v := .ref (a 1)) C fx7 0 0 kf_X7_7 (by decide) rfl rfl dX7_chooses_89 ?_
      refine V_bipush (v := 14) C dX7_chooses_92 (by decide) ?_
      refine V_ialdc C 1 14 rfl (by decide) (by decide) dX7_chooses_94 ?_
      refine V_icmp_ge (tgt := 102) C dX7_chooses_95 (by decide) ?_ ?_
      · refine V_iconst (v := 1) C dX7_chooses_102 (by decide) ?_
        exact V_iretR C hr hlk dX7_chooses_103
      · refine V_iconst (v := 0) C dX7_chooses_98 (by decide) ?_
        refine V_goto (tgt := 103) C dX7_chooses_99 (by decide) ?_
        exact V_iretR C hr hlk dX7_chooses_103
    · refine V_iconst (v := 1) C dX7_chooses_77 (by decide) ?_
      refine V_goto (tgt := 103) C dX7_chooses_78 (by decide) ?_
      exact V_iretR C hr hlk dX7_chooses_103
  · refine V_iconst (v := 0) C dX7_chooses_69 (by decide) ?_
    refine V_goto (tgt := 103) C dX7_chooses_70 (by decide) ?_
    exact V_iretR C hr hlk dX7_chooses_103
set_option maxRecDepth 20000 in
theorem v_X7_chooses_b31 {x : Am} {d : Dt} {a : Nat → Nat} (C : Cx x cX7_chooses 4 yX7_chooses.cls d (Iro d x.s.heap)) (hr : x.meth.sig.returnType = (some .int)) (hlk : x.meth.locks = false) (z : Int32) (u : UX) (v1 : Int32) (v2 : Int32) (s0 : Int32) : V x (rmF 1 22) 0 0 (MQ x.below (QR (some (.int z))) x.args x.s 0 0 (fun _ => False)) 4 (Iro d x.s.heap) (f_X7_chooses_b31 u v1 v2 s0 = some z) 31 (WX d a u) [some (.ref (a 0)), some (.int v1), some (.int v2), none] [.int s0] := by
  unfold f_X7_chooses_b31
  refine V_istore_n (lv' := [some (.ref (a 0)), some (.int v1), some (.int v2), some (.int s0)]) C 3 dX7_chooses_31 rfl (by decide) rfl ?_
  refine V_iload_n C 2 dX7_chooses_32 rfl rfl ?_
  refine V_if_eq (tgt := 65) C dX7_chooses_33 (by decide) ?_ ?_
  · refine V_mask (lv' := [some (.ref (a 0)), none, some (.int v2), some (.int s0)]) [true, false, true, true] rfl ?_
    exact v_X7_chooses_b65 C hr hlk z u v2 s0
  · refine V_iload_n C 3 dX7_chooses_36 rfl rfl ?_
    refine V_if_eq (tgt := 65) C dX7_chooses_37 (by decide) ?_ ?_
    · refine V_mask (lv' := [some (.ref (a 0)), none, some (.int v2), some (.int s0)]) [true, false, true, true] rfl ?_
      exact v_X7_chooses_b65 C hr hlk z u v2 s0
    · refine V_iconst (v := 1) C dX7_chooses_40 (by decide) ?_
      refine V_callSi (As := [.int 1]) (rest := []) (wc := []) C (fun r h => ct_X7_wallOf _ d 1 r h) ks_X7_wallOf kl_X7_88 [] dX7_chooses_41 rfl rfl (Nat.le_of_ble_eq_true rfl) ⟨(Nat.le_of_ble_eq_true rfl), (Nat.le_of_ble_eq_true rfl)⟩ rfl rfl ⟨Nat.le_refl _, Nat.le_refl _⟩ rfl (fun r41 hr41 => ?_)
      refine V_iload_n C 1 dX7_chooses_44 rfl rfl ?_
      refine V_callSi (As := [.int r41, .int v1]) (rest := []) (wc := []) C (fun r h => ct_X7_apart _ d r41 v1 r h) ks_X7_apart kl_X7_103 [] dX7_chooses_45 rfl rfl (Nat.le_of_ble_eq_true rfl) ⟨(Nat.le_of_ble_eq_true rfl), (Nat.le_of_ble_eq_true rfl)⟩ rfl rfl ⟨Nat.le_refl _, Nat.le_refl _⟩ rfl (fun r45 hr45 => ?_)
      refine V_iconst (v := 0) C dX7_chooses_48 (by decide) ?_
      refine V_callSi (As := [.int 0]) (rest := [.int r45]) (wc := []) C (fun r h => ct_X7_wallOf _ d 0 r h) ks_X7_wallOf kl_X7_88 [] dX7_chooses_49 rfl rfl (Nat.le_of_ble_eq_true rfl) ⟨(Nat.le_of_ble_eq_true rfl), (Nat.le_of_ble_eq_true rfl)⟩ rfl rfl ⟨Nat.le_refl _, Nat.le_refl _⟩ rfl (fun r49 hr49 => ?_)
      refine V_iload_n C 1 dX7_chooses_52 rfl rfl ?_
      refine V_callSi (As := [.int r49, .int v1]) (rest := [.int r45]) (wc := []) C (fun r h => ct_X7_apart _ d r49 v1 r h) ks_X7_apart kl_X7_103 [] dX7_chooses_53 rfl rfl (Nat.le_of_ble_eq_true rfl) ⟨(Nat.le_of_ble_eq_true rfl), (Nat.le_of_ble_eq_true rfl)⟩ rfl rfl ⟨Nat.le_refl _, Nat.le_refl _⟩ rfl (fun r53 hr53 => ?_)
      refine V_icmp_ge (tgt := 63) C dX7_chooses_56 (by decide) ?_ ?_
      · refine V_iconst (v := 0) C dX7_chooses_63 (by decide) ?_
        exact V_iretR C hr hlk dX7_chooses_64
      · refine V_iconst (v := 1) C dX7_chooses_59 (by decide) ?_
        refine V_goto (tgt := 64) C dX7_chooses_60 (by decide) ?_
        exact V_iretR C hr hlk dX7_chooses_64
set_option maxRecDepth 20000 in
theorem v_X7_chooses_b15 {x : Am} {d : Dt} {a : Nat → Nat} (C : Cx x cX7_chooses 4 yX7_chooses.cls d (Iro d x.s.heap)) (hr : x.meth.sig.returnType = (some .int)) (hlk : x.meth.locks = false) (z : Int32) (u : UX) (v1 : Int32) (s0 : Int32) : V x (rmF 1 22) 0 0 (MQ x.below (QR (some (.int z))) x.args x.s 0 0 (fun _ => False)) 4 (Iro d x.s.heap) (f_X7_chooses_b15 u v1 s0 = some z) 15 (WX d a u) [some (.ref (a 0)), some (.int v1), none, none] [.int s0] := by
  unfold f_X7_chooses_b15
  refine V_istore_n (lv' := [some (.ref (a 0)), some (.int v1), some (.int s0), none]) C 2 dX7_chooses_15 rfl (by decide) rfl ?_
  refine V_aload_n C 0 dX7_chooses_16 rfl rfl ?_
  refine V_get (v := .ref (a 1)) C fx7 0 0 kf_X7_7 (by decide) rfl rfl dX7_chooses_17 ?_
  refine V_bipush (v := 12) C dX7_chooses_20 (by decide) ?_
  refine V_ialdc C 1 12 rfl (by decide) (by decide) dX7_chooses_22 ?_
  refine V_if_ge (tgt := 30) C dX7_chooses_23 (by decide) ?_ ?_
  · refine V_iconst (v := 0) C dX7_chooses_30 (by decide) ?_
    exact v_X7_chooses_b31 C hr hlk z u v1 s0 0
  · refine V_iconst (v := 1) C dX7_chooses_26 (by decide) ?_
    refine V_goto (tgt := 31) C dX7_chooses_27 (by decide) ?_
    exact v_X7_chooses_b31 C hr hlk z u v1 s0 1
set_option maxRecDepth 20000 in
theorem v_X7_chooses {x : Am} {d : Dt} {a : Nat → Nat} (C : Cx x cX7_chooses 4 yX7_chooses.cls d (Iro d x.s.heap)) (hr : x.meth.sig.returnType = (some .int)) (hlk : x.meth.locks = false) (z : Int32) (u : UX) (p1 : Int32) : V x (rmF 1 22) 0 0 (MQ x.below (QR (some (.int z))) x.args x.s 0 0 (fun _ => False)) 4 (Iro d x.s.heap) (f_X7_chooses u p1 = some z) 0 (WX d a u) [some (.ref (a 0)), some (.int p1), none, none] [] := by
  unfold f_X7_chooses
  refine V_aload_n C 0 dX7_chooses_0 rfl rfl ?_
  refine V_get (v := .ref (a 1)) C fx7 0 0 kf_X7_7 (by decide) rfl rfl dX7_chooses_1 ?_
  refine V_bipush (v := 11) C dX7_chooses_4 (by decide) ?_
  refine V_ialdc C 1 11 rfl (by decide) (by decide) dX7_chooses_6 ?_
  refine V_if_ge (tgt := 14) C dX7_chooses_7 (by decide) ?_ ?_
  · refine V_iconst (v := 0) C dX7_chooses_14 (by decide) ?_
    exact v_X7_chooses_b15 C hr hlk z u p1 0
  · refine V_iconst (v := 1) C dX7_chooses_10 (by decide) ?_
    refine V_goto (tgt := 15) C dX7_chooses_11 (by decide) ?_
    exact v_X7_chooses_b15 C hr hlk z u p1 1
set_option maxRecDepth 20000 in
theorem ct_X7_chooses (l : Launch) (d : Dt) (a : Nat → Nat) (u : UX) (p1 : Int32) (z : Int32) (h : f_X7_chooses u p1 = some z) : CtR l d yX7_chooses cX7_chooses 4 (some .int) (rmF 1 22) [.ref (a 0), .int p1] (WX d a u) (some (.int z)) :=
  CtR.start (by decide) (Nat.le_of_ble_eq_true rfl) (by simp [Value.category]) [some (.ref (a 0)), some (.int p1), none, none] rfl (fun x C hr hlk => V_eqv (fun _ => h) (v_X7_chooses C hr hlk z u p1))

/-! MastRobotsModel.servesBy -/
def f_X7_servesBy_b162 (u : UX) (v4 : Int32) (v5 : Int32) : Option (Int32 × UX) :=
  ((f_X7_goes u (v4 / 4)).bind fun r167 => ((f_X7_lifts r167 (jrem v4 4)).bind fun r175 => ((f_X7_wallOf v5).bind fun r182 => ((f_X7_goes r175.2 r182).bind fun r185 => ((f_X7_mounts r185 v5).bind fun r191 => some (r191.1, r191.2))))))
def f_X7_servesBy_b105 (u : UX) (v3 : Int32) (v4 : Int32) (v5 : Int32) (v6 : Int32) : Option (Int32 × UX) :=
  (if inb (11 + v5) 264 = true then (if (u.1 (11 + v5).toNatClampNeg) < 0 then f_X7_servesBy_b162 (u.1, u.2.1, u.2.2.1, u.2.2.2.1, u.2.2.2.2.1, u.2.2.2.2.2.1, u.2.2.2.2.2.2.1, u.2.2.2.2.2.2.2.1, u.2.2.2.2.2.2.2.2.1, u.2.2.2.2.2.2.2.2.2.1, u.2.2.2.2.2.2.2.2.2.2.1, u.2.2.2.2.2.2.2.2.2.2.2.1, v5, v3) v4 v5 else ((f_X7_wallOf v5).bind fun r132 => ((f_X7_goes (u.1, u.2.1, u.2.2.1, u.2.2.2.1, u.2.2.2.2.1, u.2.2.2.2.2.1, u.2.2.2.2.2.2.1, u.2.2.2.2.2.2.2.1, u.2.2.2.2.2.2.2.2.1, u.2.2.2.2.2.2.2.2.2.1, u.2.2.2.2.2.2.2.2.2.2.1, u.2.2.2.2.2.2.2.2.2.2.2.1, v5, v3) r132).bind fun r135 => ((f_X7_takes r135 v5).bind fun r141 => ((f_X7_goes r141.2 v6).bind fun r148 => ((f_X7_empty r148 v6).bind fun r155 => ((f_X7_lays r148 r155).bind fun r158 => f_X7_servesBy_b162 r158.2 v4 v5))))))) else none)
def f_X7_servesBy (u : UX) (p1 : Int32) : Option (Int32 × UX) :=
  ((f_X7_in p1 0 3).bind fun r3 => (if r3 = 0 then some ((-1000001), u) else ((f_X7_next u p1).bind fun r14 => (if 0 < (u.1 2) then some ((-1000002), u) else (if 0 ≤ r14 then (if inb (228 + (3 * r14)) 264 = true then (if inb (168 + (u.1 (228 + (3 * r14)).toNatClampNeg)) 264 = true then ((f_X7_standsAt u (u.1 (168 + (u.1 (228 + (3 * r14)).toNatClampNeg)).toNatClampNeg)).bind fun r58 => ((f_X7_chooses u (r58 / 4)).bind fun r68 => ((f_X7_wallOf r68).bind fun r76 => ((f_X7_nearest u r76).bind fun r79 => (if inb (11 + r68) 264 = true then (if (u.1 (11 + r68).toNatClampNeg) < 0 then f_X7_servesBy_b105 u (u.1 (168 + (u.1 (228 + (3 * r14)).toNatClampNeg)).toNatClampNeg) r58 r68 r79 else (if 0 ≤ r79 then f_X7_servesBy_b105 u (u.1 (168 + (u.1 (228 + (3 * r14)).toNatClampNeg)).toNatClampNeg) r58 r68 r79 else some ((-1000002), u))) else none))))) else none) else none) else some ((-1000002), u))))))
set_option maxRecDepth 20000 in
theorem v_X7_servesBy_b162 {x : Am} {d : Dt} {A : Nat → Prop} {a : Nat → Nat} (C : Cx x cX7_servesBy 7 yX7_servesBy.cls d (Imu d A x.s.heap)) (hr : x.meth.sig.returnType = (some .int)) (hlk : x.meth.locks = false) (z : Int32 × UX) (u : UX) (v4 : Int32) (v5 : Int32) : V x (rmF 5 110) 0 0 (MQ x.below (QW d A (WX d a z.2) (some (.int z.1))) x.args x.s 0 0 A) 7 (Imu d A x.s.heap) (f_X7_servesBy_b162 u v4 v5 = some z) 162 (WX d a u) [some (.ref (a 0)), none, none, none, some (.int v4), some (.int v5), none] [] := by
  unfold f_X7_servesBy_b162
  refine V_aload_n C 0 dX7_servesBy_162 rfl rfl ?_
  refine V_iload C dX7_servesBy_163 rfl ?_
  refine V_iconst (v := 4) C dX7_servesBy_165 (by decide) ?_
  refine V_idiv C dX7_servesBy_166 (by decide) ?_
  refine V_callWv (As := [.int (v4 / 4)]) (rest := []) (wc := WX d a u) (Wd := fun w => WX d a w) C (fun r h => ct_X7_goes _ d a u (v4 / 4) r h) kv_X7_goes kl_X7_130 [0, 1, 2, 3, 4, 5] (fun w => WX d a w) dX7_servesBy_167 rfl rfl (fun _ => rfl) (fun _ => rfl) rfl rfl rfl (Nat.le_of_ble_eq_true rfl) ⟨(Nat.le_of_ble_eq_true rfl), (Nat.le_of_ble_eq_true rfl)⟩ rfl rfl ⟨Nat.le_refl _, Nat.le_refl _⟩ rfl (fun r167 hr167 => ?_)
  refine V_aload_n C 0 dX7_servesBy_170 rfl rfl ?_
  refine V_iload C dX7_servesBy_171 rfl ?_
  refine V_iconst (v := 4) C dX7_servesBy_173 (by decide) ?_
  refine V_irem C dX7_servesBy_174 (by decide) ?_
  refine V_callWi (As := [.int (jrem v4 4)]) (rest := []) (wc := WX d a r167) (Wd := fun w => WX d a w) C (fun r h => ct_X7_lifts _ d a r167 (jrem v4 4) r h) kv_X7_lifts kl_X7_70 [0, 1, 2, 3, 4, 5] (fun w => WX d a w) dX7_servesBy_175 rfl rfl (fun _ => rfl) (fun _ => rfl) rfl rfl rfl (Nat.le_of_ble_eq_true rfl) ⟨(Nat.le_of_ble_eq_true rfl), (Nat.le_of_ble_eq_true rfl)⟩ rfl rfl ⟨Nat.le_refl _, Nat.le_refl _⟩ rfl (fun r175 hr175 => ?_)
  refine V_pop C dX7_servesBy_178 rfl ?_
  refine V_aload_n C 0 dX7_servesBy_179 rfl rfl ?_
  refine V_iload C dX7_servesBy_180 rfl ?_
  refine V_callSi (As := [.int v5]) (rest := [.ref (a 0)]) (wc := []) C (fun r h => ct_X7_wallOf _ d v5 r h) ks_X7_wallOf kl_X7_88 [] dX7_servesBy_182 rfl rfl (Nat.le_of_ble_eq_true rfl) ⟨(Nat.le_of_ble_eq_true rfl), (Nat.le_of_ble_eq_true rfl)⟩ rfl rfl ⟨Nat.le_refl _, Nat.le_refl _⟩ rfl (fun r182 hr182 => ?_)
  refine V_callWv (As := [.int r182]) (rest := []) (wc := WX d a r175.2) (Wd := fun w => WX d a w) C (fun r h => ct_X7_goes _ d a r175.2 r182 r h) kv_X7_goes kl_X7_130 [0, 1, 2, 3, 4, 5] (fun w => WX d a w) dX7_servesBy_185 rfl rfl (fun _ => rfl) (fun _ => rfl) rfl rfl rfl (Nat.le_of_ble_eq_true rfl) ⟨(Nat.le_of_ble_eq_true rfl), (Nat.le_of_ble_eq_true rfl)⟩ rfl rfl ⟨Nat.le_refl _, Nat.le_refl _⟩ rfl (fun r185 hr185 => ?_)
  refine V_aload_n C 0 dX7_servesBy_188 rfl rfl ?_
  refine V_iload C dX7_servesBy_189 rfl ?_
  refine V_callWi (As := [.int v5]) (rest := []) (wc := WX d a r185) (Wd := fun w => WX d a w) C (fun r h => ct_X7_mounts _ d a r185 v5 r h) kv_X7_mounts kl_X7_94 [0, 1, 2, 3, 4, 5] (fun w => WX d a w) dX7_servesBy_191 rfl rfl (fun _ => rfl) (fun _ => rfl) rfl rfl rfl (Nat.le_of_ble_eq_true rfl) ⟨(Nat.le_of_ble_eq_true rfl), (Nat.le_of_ble_eq_true rfl)⟩ rfl rfl ⟨Nat.le_refl _, Nat.le_refl _⟩ rfl (fun r191 hr191 => ?_)
  exact V_iretW (Wd := fun w => WX d a w) C hr hlk dX7_servesBy_194 rfl
set_option maxRecDepth 20000 in
theorem v_X7_servesBy_b105 {x : Am} {d : Dt} {A : Nat → Prop} {a : Nat → Nat} (C : Cx x cX7_servesBy 7 yX7_servesBy.cls d (Imu d A x.s.heap)) (hr : x.meth.sig.returnType = (some .int)) (hlk : x.meth.locks = false) (z : Int32 × UX) (u : UX) (v3 : Int32) (v4 : Int32) (v5 : Int32) (v6 : Int32) : V x (rmF 5 110) 0 0 (MQ x.below (QW d A (WX d a z.2) (some (.int z.1))) x.args x.s 0 0 A) 7 (Imu d A x.s.heap) (f_X7_servesBy_b105 u v3 v4 v5 v6 = some z) 105 (WX d a u) [some (.ref (a 0)), none, none, some (.int v3), some (.int v4), some (.int v5), some (.int v6)] [] := by
  unfold f_X7_servesBy_b105
  refine V_aload_n C 0 dX7_servesBy_105 rfl rfl ?_
  refine V_iload C dX7_servesBy_106 rfl ?_
  refine V_putI (ws' := WX d a (u.1, u.2.1, u.2.2.1, u.2.2.2.1, u.2.2.2.2.1, u.2.2.2.2.2.1, u.2.2.2.2.2.2.1, u.2.2.2.2.2.2.2.1, u.2.2.2.2.2.2.2.2.1, u.2.2.2.2.2.2.2.2.2.1, u.2.2.2.2.2.2.2.2.2.2.1, u.2.2.2.2.2.2.2.2.2.2.2.1, v5, u.2.2.2.2.2.2.2.2.2.2.2.2.2)) C fx7 0 12 kf_X7_124 (by decide) rfl rfl rfl (Nat.le_of_ble_eq_true rfl) rfl dX7_servesBy_108 ?_
  refine V_aload_n C 0 dX7_servesBy_111 rfl rfl ?_
  refine V_iload_n C 3 dX7_servesBy_112 rfl rfl ?_
  refine V_putI (ws' := WX d a (u.1, u.2.1, u.2.2.1, u.2.2.2.1, u.2.2.2.2.1, u.2.2.2.2.2.1, u.2.2.2.2.2.2.1, u.2.2.2.2.2.2.2.1, u.2.2.2.2.2.2.2.2.1, u.2.2.2.2.2.2.2.2.2.1, u.2.2.2.2.2.2.2.2.2.2.1, u.2.2.2.2.2.2.2.2.2.2.2.1, v5, v3)) C fx7 0 13 kf_X7_127 (by decide) rfl rfl rfl (Nat.le_of_ble_eq_true rfl) rfl dX7_servesBy_113 ?_
  refine V_aload_n C 0 dX7_servesBy_116 rfl rfl ?_
  refine V_get (v := .ref (a 1)) C fx7 0 0 kf_X7_7 (by decide) rfl rfl dX7_servesBy_117 ?_
  refine V_bipush (v := 11) C dX7_servesBy_120 (by decide) ?_
  refine V_iload C dX7_servesBy_122 rfl ?_
  refine V_iadd C dX7_servesBy_124 ?_
  refine V_iald C 1 rfl dX7_servesBy_125 ?_
  refine V_if_lt (tgt := 162) C dX7_servesBy_126 (by decide) ?_ ?_
  · refine V_mask (lv' := [some (.ref (a 0)), none, none, none, some (.int v4), some (.int v5), none]) [true, true, true, false, true, true, false] rfl ?_
    exact v_X7_servesBy_b162 C hr hlk z (u.1, u.2.1, u.2.2.1, u.2.2.2.1, u.2.2.2.2.1, u.2.2.2.2.2.1, u.2.2.2.2.2.2.1, u.2.2.2.2.2.2.2.1, u.2.2.2.2.2.2.2.2.1, u.2.2.2.2.2.2.2.2.2.1, u.2.2.2.2.2.2.2.2.2.2.1, u.2.2.2.2.2.2.2.2.2.2.2.1, v5, v3) v4 v5
  · refine V_aload_n C 0 dX7_servesBy_129 rfl rfl ?_
    refine V_iload C dX7_servesBy_130 rfl ?_
    refine V_callSi (As := [.int v5]) (rest := [.ref (a 0)]) (wc := []) C (fun r h => ct_X7_wallOf _ d v5 r h) ks_X7_wallOf kl_X7_88 [] dX7_servesBy_132 rfl rfl (Nat.le_of_ble_eq_true rfl) ⟨(Nat.le_of_ble_eq_true rfl), (Nat.le_of_ble_eq_true rfl)⟩ rfl rfl ⟨Nat.le_refl _, Nat.le_refl _⟩ rfl (fun r132 hr132 => ?_)
    refine V_callWv (As := [.int r132]) (rest := []) (wc := WX d a (u.1, u.2.1, u.2.2.1, u.2.2.2.1, u.2.2.2.2.1, u.2.2.2.2.2.1, u.2.2.2.2.2.2.1, u.2.2.2.2.2.2.2.1, u.2.2.2.2.2.2.2.2.1, u.2.2.2.2.2.2.2.2.2.1, u.2.2.2.2.2.2.2.2.2.2.1, u.2.2.2.2.2.2.2.2.2.2.2.1, v5, v3)) (Wd := fun w => WX d a w) C (fun r h => ct_X7_goes _ d a (u.1, u.2.1, u.2.2.1, u.2.2.2.1, u.2.2.2.2.1, u.2.2.2.2.2.1, u.2.2.2.2.2.2.1, u.2.2.2.2.2.2.2.1, u.2.2.2.2.2.2.2.2.1, u.2.2.2.2.2.2.2.2.2.1, u.2.2.2.2.2.2.2.2.2.2.1, u.2.2.2.2.2.2.2.2.2.2.2.1, v5, v3) r132 r h) kv_X7_goes kl_X7_130 [0, 1, 2, 3, 4, 5] (fun w => WX d a w) dX7_servesBy_135 rfl rfl (fun _ => rfl) (fun _ => rfl) rfl rfl rfl (Nat.le_of_ble_eq_true rfl) ⟨(Nat.le_of_ble_eq_true rfl), (Nat.le_of_ble_eq_true rfl)⟩ rfl rfl ⟨Nat.le_refl _, Nat.le_refl _⟩ rfl (fun r135 hr135 => ?_)
    refine V_aload_n C 0 dX7_servesBy_138 rfl rfl ?_
    refine V_iload C dX7_servesBy_139 rfl ?_
    refine V_callWi (As := [.int v5]) (rest := []) (wc := WX d a r135) (Wd := fun w => WX d a w) C (fun r h => ct_X7_takes _ d a r135 v5 r h) kv_X7_takes kl_X7_97 [0, 1, 2, 3, 4, 5] (fun w => WX d a w) dX7_servesBy_141 rfl rfl (fun _ => rfl) (fun _ => rfl) rfl rfl rfl (Nat.le_of_ble_eq_true rfl) ⟨(Nat.le_of_ble_eq_true rfl), (Nat.le_of_ble_eq_true rfl)⟩ rfl rfl ⟨Nat.le_refl _, Nat.le_refl _⟩ rfl (fun r141 hr141 => ?_)
    refine V_pop C dX7_servesBy_144 rfl ?_
    refine V_aload_n C 0 dX7_servesBy_145 rfl rfl ?_
    refine V_iload C dX7_servesBy_146 rfl ?_
    refine V_callWv (As := [.int v6]) (rest := []) (wc := WX d a r141.2) (Wd := fun w => WX d a w) C (fun r h => ct_X7_goes _ d a r141.2 v6 r h) kv_X7_goes kl_X7_130 [0, 1, 2, 3, 4, 5] (fun w => WX d a w) dX7_servesBy_148 rfl rfl (fun _ => rfl) (fun _ => rfl) rfl rfl rfl (Nat.le_of_ble_eq_true rfl) ⟨(Nat.le_of_ble_eq_true rfl), (Nat.le_of_ble_eq_true rfl)⟩ rfl rfl ⟨Nat.le_refl _, Nat.le_refl _⟩ rfl (fun r148 hr148 => ?_)
    refine V_aload_n C 0 dX7_servesBy_151 rfl rfl ?_
    refine V_aload_n C 0 dX7_servesBy_152 rfl rfl ?_
    refine V_iload C dX7_servesBy_153 rfl ?_
    refine V_callRi (As := [.int v6]) (rest := [.ref (a 0)]) (wc := WX d a r148) C (fun r h => ct_X7_empty _ d a r148 v6 r h) kv_X7_empty kl_X7_112 [0, 1, 2, 3, 4, 5] dX7_servesBy_155 rfl rfl rfl rfl (Nat.le_of_ble_eq_true rfl) ⟨(Nat.le_of_ble_eq_true rfl), (Nat.le_of_ble_eq_true rfl)⟩ rfl rfl ⟨Nat.le_refl _, Nat.le_refl _⟩ rfl (fun r155 hr155 => ?_)
    refine V_callWi (As := [.int r155]) (rest := []) (wc := WX d a r148) (Wd := fun w => WX d a w) C (fun r h => ct_X7_lays _ d a r148 r155 r h) kv_X7_lays kl_X7_76 [0, 1, 2, 3, 4, 5] (fun w => WX d a w) dX7_servesBy_158 rfl rfl (fun _ => rfl) (fun _ => rfl) rfl rfl rfl (Nat.le_of_ble_eq_true rfl) ⟨(Nat.le_of_ble_eq_true rfl), (Nat.le_of_ble_eq_true rfl)⟩ rfl rfl ⟨Nat.le_refl _, Nat.le_refl _⟩ rfl (fun r158 hr158 => ?_)
    refine V_pop C dX7_servesBy_161 rfl ?_
    refine V_mask (lv' := [some (.ref (a 0)), none, none, none, some (.int v4), some (.int v5), none]) [true, true, true, false, true, true, false] rfl ?_
    exact v_X7_servesBy_b162 C hr hlk z r158.2 v4 v5
set_option maxRecDepth 20000 in
theorem v_X7_servesBy {x : Am} {d : Dt} {A : Nat → Prop} {a : Nat → Nat} (C : Cx x cX7_servesBy 7 yX7_servesBy.cls d (Imu d A x.s.heap)) (hr : x.meth.sig.returnType = (some .int)) (hlk : x.meth.locks = false) (z : Int32 × UX) (u : UX) (p1 : Int32) : V x (rmF 5 110) 0 0 (MQ x.below (QW d A (WX d a z.2) (some (.int z.1))) x.args x.s 0 0 A) 7 (Imu d A x.s.heap) (f_X7_servesBy u p1 = some z) 0 (WX d a u) [some (.ref (a 0)), some (.int p1), none, none, none, none, none] [] := by
  unfold f_X7_servesBy
  refine V_iload_n C 1 dX7_servesBy_0 rfl rfl ?_
  refine V_iconst (v := 0) C dX7_servesBy_1 (by decide) ?_
  refine V_iconst (v := 3) C dX7_servesBy_2 (by decide) ?_
  refine V_callSi (As := [.int p1, .int 0, .int 3]) (rest := []) (wc := []) C (fun r h => ct_X7_in _ d p1 0 3 r h) ks_X7_in kl_X7_26 [] dX7_servesBy_3 rfl rfl (Nat.le_of_ble_eq_true rfl) ⟨(Nat.le_of_ble_eq_true rfl), (Nat.le_of_ble_eq_true rfl)⟩ rfl rfl ⟨Nat.le_refl _, Nat.le_refl _⟩ rfl (fun r3 hr3 => ?_)
  refine V_if_ne (tgt := 12) C dX7_servesBy_6 (by decide) ?_ ?_
  · refine V_aload_n C 0 dX7_servesBy_12 rfl rfl ?_
    refine V_iload_n C 1 dX7_servesBy_13 rfl rfl ?_
    refine V_callRi (As := [.int p1]) (rest := []) (wc := WX d a u) C (fun r h => ct_X7_next _ d a u p1 r h) kv_X7_next kl_X7_115 [0, 1, 2, 3, 4, 5] dX7_servesBy_14 rfl rfl rfl rfl (Nat.le_of_ble_eq_true rfl) ⟨(Nat.le_of_ble_eq_true rfl), (Nat.le_of_ble_eq_true rfl)⟩ rfl rfl ⟨Nat.le_refl _, Nat.le_refl _⟩ rfl (fun r14 hr14 => ?_)
    refine V_istore_n (lv' := [some (.ref (a 0)), some (.int p1), some (.int r14), none, none, none, none]) C 2 dX7_servesBy_17 rfl (by decide) rfl ?_
    refine V_aload_n C 0 dX7_servesBy_18 rfl rfl ?_
    refine V_get (v := .ref (a 1)) C fx7 0 0 kf_X7_7 (by decide) rfl rfl dX7_servesBy_19 ?_
    refine V_iconst (v := 2) C dX7_servesBy_22 (by decide) ?_
    refine V_ialdc C 1 2 rfl (by decide) (by decide) dX7_servesBy_23 ?_
    refine V_if_gt (tgt := 31) C dX7_servesBy_24 (by decide) ?_ ?_
    · refine V_ldc C kc_X7_35 dX7_servesBy_31 ?_
      exact V_iretW (Wd := fun w => WX d a w) C hr hlk dX7_servesBy_33 rfl
    · refine V_iload_n C 2 dX7_servesBy_27 rfl rfl ?_
      refine V_if_ge (tgt := 34) C dX7_servesBy_28 (by decide) ?_ ?_
      · refine V_aload_n C 0 dX7_servesBy_34 rfl rfl ?_
        refine V_get (v := .ref (a 1)) C fx7 0 0 kf_X7_7 (by decide) rfl rfl dX7_servesBy_35 ?_
        refine V_sipush (v := 168) C dX7_servesBy_38 (by decide) ?_
        refine V_aload_n C 0 dX7_servesBy_41 rfl rfl ?_
        refine V_get (v := .ref (a 1)) C fx7 0 0 kf_X7_7 (by decide) rfl rfl dX7_servesBy_42 ?_
        refine V_sipush (v := 228) C dX7_servesBy_45 (by decide) ?_
        refine V_iconst (v := 3) C dX7_servesBy_48 (by decide) ?_
        refine V_iload_n C 2 dX7_servesBy_49 rfl rfl ?_
        refine V_imul C dX7_servesBy_50 ?_
        refine V_iadd C dX7_servesBy_51 ?_
        refine V_iald C 1 rfl dX7_servesBy_52 ?_
        refine V_iadd C dX7_servesBy_53 ?_
        refine V_iald C 1 rfl dX7_servesBy_54 ?_
        refine V_istore_n (lv' := [some (.ref (a 0)), some (.int p1), some (.int r14), some (.int (u.1 (168 + (u.1 (228 + (3 * r14)).toNatClampNeg)).toNatClampNeg)), none, none, none]) C 3 dX7_servesBy_55 rfl (by decide) rfl ?_
        refine V_aload_n C 0 dX7_servesBy_56 rfl rfl ?_
        refine V_iload_n C 3 dX7_servesBy_57 rfl rfl ?_
        refine V_callRi (As := [.int (u.1 (168 + (u.1 (228 + (3 * r14)).toNatClampNeg)).toNatClampNeg)]) (rest := []) (wc := WX d a u) C (fun r h => ct_X7_standsAt _ d a u (u.1 (168 + (u.1 (228 + (3 * r14)).toNatClampNeg)).toNatClampNeg) r h) kv_X7_standsAt kl_X7_52 [0, 1, 2, 3, 4, 5] dX7_servesBy_58 rfl rfl rfl rfl (Nat.le_of_ble_eq_true rfl) ⟨(Nat.le_of_ble_eq_true rfl), (Nat.le_of_ble_eq_true rfl)⟩ rfl rfl ⟨Nat.le_refl _, Nat.le_refl _⟩ rfl (fun r58 hr58 => ?_)
        refine V_istore (lv' := [some (.ref (a 0)), some (.int p1), some (.int r14), some (.int (u.1 (168 + (u.1 (228 + (3 * r14)).toNatClampNeg)).toNatClampNeg)), some (.int r58), none, none]) C dX7_servesBy_61 (by decide) rfl ?_
        refine V_aload_n C 0 dX7_servesBy_63 rfl rfl ?_
        refine V_iload C dX7_servesBy_64 rfl ?_
        refine V_iconst (v := 4) C dX7_servesBy_66 (by decide) ?_
        refine V_idiv C dX7_servesBy_67 (by decide) ?_
        refine V_callRi (As := [.int (r58 / 4)]) (rest := []) (wc := WX d a u) C (fun r h => ct_X7_chooses _ d a u (r58 / 4) r h) kv_X7_chooses kl_X7_118 [0, 1, 2, 3, 4, 5] dX7_servesBy_68 rfl rfl rfl rfl (Nat.le_of_ble_eq_true rfl) ⟨(Nat.le_of_ble_eq_true rfl), (Nat.le_of_ble_eq_true rfl)⟩ rfl rfl ⟨Nat.le_refl _, Nat.le_refl _⟩ rfl (fun r68 hr68 => ?_)
        refine V_istore (lv' := [some (.ref (a 0)), some (.int p1), some (.int r14), some (.int (u.1 (168 + (u.1 (228 + (3 * r14)).toNatClampNeg)).toNatClampNeg)), some (.int r58), some (.int r68), none]) C dX7_servesBy_71 (by decide) rfl ?_
        refine V_aload_n C 0 dX7_servesBy_73 rfl rfl ?_
        refine V_iload C dX7_servesBy_74 rfl ?_
        refine V_callSi (As := [.int r68]) (rest := [.ref (a 0)]) (wc := []) C (fun r h => ct_X7_wallOf _ d r68 r h) ks_X7_wallOf kl_X7_88 [] dX7_servesBy_76 rfl rfl (Nat.le_of_ble_eq_true rfl) ⟨(Nat.le_of_ble_eq_true rfl), (Nat.le_of_ble_eq_true rfl)⟩ rfl rfl ⟨Nat.le_refl _, Nat.le_refl _⟩ rfl (fun r76 hr76 => ?_)
        refine V_callRi (As := [.int r76]) (rest := []) (wc := WX d a u) C (fun r h => ct_X7_nearest _ d a u r76 r h) kv_X7_nearest kl_X7_121 [0, 1, 2, 3, 4, 5] dX7_servesBy_79 rfl rfl rfl rfl (Nat.le_of_ble_eq_true rfl) ⟨(Nat.le_of_ble_eq_true rfl), (Nat.le_of_ble_eq_true rfl)⟩ rfl rfl ⟨Nat.le_refl _, Nat.le_refl _⟩ rfl (fun r79 hr79 => ?_)
        refine V_istore (lv' := [some (.ref (a 0)), some (.int p1), some (.int r14), some (.int (u.1 (168 + (u.1 (228 + (3 * r14)).toNatClampNeg)).toNatClampNeg)), some (.int r58), some (.int r68), some (.int r79)]) C dX7_servesBy_82 (by decide) rfl ?_
        refine V_aload_n C 0 dX7_servesBy_84 rfl rfl ?_
        refine V_get (v := .ref (a 1)) C fx7 0 0 kf_X7_7 (by decide) rfl rfl dX7_servesBy_85 ?_
        refine V_bipush (v := 11) C dX7_servesBy_88 (by decide) ?_
        refine V_iload C dX7_servesBy_90 rfl ?_
        refine V_iadd C dX7_servesBy_92 ?_
        refine V_iald C 1 rfl dX7_servesBy_93 ?_
        refine V_if_lt (tgt := 105) C dX7_servesBy_94 (by decide) ?_ ?_
        · refine V_mask (lv' := [some (.ref (a 0)), none, none, some (.int (u.1 (168 + (u.1 (228 + (3 * r14)).toNatClampNeg)).toNatClampNeg)), some (.int r58), some (.int r68), some (.int r79)]) [true, false, false, true, true, true, true] rfl ?_
          exact v_X7_servesBy_b105 C hr hlk z u (u.1 (168 + (u.1 (228 + (3 * r14)).toNatClampNeg)).toNatClampNeg) r58 r68 r79
        · refine V_iload C dX7_servesBy_97 rfl ?_
          refine V_if_ge (tgt := 105) C dX7_servesBy_99 (by decide) ?_ ?_
          · refine V_mask (lv' := [some (.ref (a 0)), none, none, some (.int (u.1 (168 + (u.1 (228 + (3 * r14)).toNatClampNeg)).toNatClampNeg)), some (.int r58), some (.int r68), some (.int r79)]) [true, false, false, true, true, true, true] rfl ?_
            exact v_X7_servesBy_b105 C hr hlk z u (u.1 (168 + (u.1 (228 + (3 * r14)).toNatClampNeg)).toNatClampNeg) r58 r68 r79
          · refine V_ldc C kc_X7_35 dX7_servesBy_102 ?_
            exact V_iretW (Wd := fun w => WX d a w) C hr hlk dX7_servesBy_104 rfl
      · refine V_ldc C kc_X7_35 dX7_servesBy_31 ?_
        exact V_iretW (Wd := fun w => WX d a w) C hr hlk dX7_servesBy_33 rfl
  · refine V_ldc C kc_X7_30 dX7_servesBy_9 ?_
    exact V_iretW (Wd := fun w => WX d a w) C hr hlk dX7_servesBy_11 rfl
set_option maxRecDepth 20000 in
theorem ct_X7_servesBy (l : Launch) (d : Dt) (a : Nat → Nat) (u : UX) (p1 : Int32) (z : Int32 × UX) (h : f_X7_servesBy u p1 = some z) : CtW l d yX7_servesBy cX7_servesBy 7 (some .int) (rmF 5 110) [.ref (a 0), .int p1] (WX d a u) (WX d a z.2) (some (.int z.1)) :=
  CtW.start (by decide) (Nat.le_of_ble_eq_true rfl) (by simp [Value.category]) [some (.ref (a 0)), some (.int p1), none, none, none, none, none] rfl (fun x A C hr hlk => V_eqv (fun _ => h) (v_X7_servesBy C hr hlk z u p1))

/-! MastRobotsModel.serve -/
def f_X7_serve (u : UX) (p1 : Int32) : Option (Int32 × UX) :=
  ((f_X7_keeps u).bind fun r1 => ((f_X7_servesBy r1 p1).bind fun r7 => ((f_X7_acted r7.2 r7.1).bind fun r10 => some (r10.1, r10.2))))
set_option maxRecDepth 20000 in
theorem v_X7_serve {x : Am} {d : Dt} {A : Nat → Prop} {a : Nat → Nat} (C : Cx x cX7_serve 2 yX7_serve.cls d (Imu d A x.s.heap)) (hr : x.meth.sig.returnType = (some .int)) (hlk : x.meth.locks = false) (z : Int32 × UX) (u : UX) (p1 : Int32) : V x (rmF 6 136) 0 0 (MQ x.below (QW d A (WX d a z.2) (some (.int z.1))) x.args x.s 0 0 A) 2 (Imu d A x.s.heap) (f_X7_serve u p1 = some z) 0 (WX d a u) [some (.ref (a 0)), some (.int p1)] [] := by
  unfold f_X7_serve
  refine V_aload_n C 0 dX7_serve_0 rfl rfl ?_
  refine V_callWv (As := []) (rest := []) (wc := WX d a u) (Wd := fun w => WX d a w) C (fun r h => ct_X7_keeps _ d a u r h) kv_X7_keeps kl_X7_37 [0, 1, 2, 3, 4, 5] (fun w => WX d a w) dX7_serve_1 rfl rfl (fun _ => rfl) (fun _ => rfl) rfl rfl rfl (Nat.le_of_ble_eq_true rfl) ⟨(Nat.le_of_ble_eq_true rfl), (Nat.le_of_ble_eq_true rfl)⟩ rfl rfl ⟨Nat.le_refl _, Nat.le_refl _⟩ rfl (fun r1 hr1 => ?_)
  refine V_aload_n C 0 dX7_serve_4 rfl rfl ?_
  refine V_aload_n C 0 dX7_serve_5 rfl rfl ?_
  refine V_iload_n C 1 dX7_serve_6 rfl rfl ?_
  refine V_callWi (As := [.int p1]) (rest := [.ref (a 0)]) (wc := WX d a r1) (Wd := fun w => WX d a w) C (fun r h => ct_X7_servesBy _ d a r1 p1 r h) kv_X7_servesBy kl_X7_133 [0, 1, 2, 3, 4, 5] (fun w => WX d a w) dX7_serve_7 rfl rfl (fun _ => rfl) (fun _ => rfl) rfl rfl rfl (Nat.le_of_ble_eq_true rfl) ⟨(Nat.le_of_ble_eq_true rfl), (Nat.le_of_ble_eq_true rfl)⟩ rfl rfl ⟨Nat.le_refl _, Nat.le_refl _⟩ rfl (fun r7 hr7 => ?_)
  refine V_callWi (As := [.int r7.1]) (rest := []) (wc := WX d a r7.2) (Wd := fun w => WX d a w) C (fun r h => ct_X7_acted _ d a r7.2 r7.1 r h) kv_X7_acted kl_X7_40 [0, 1, 2, 3, 4, 5] (fun w => WX d a w) dX7_serve_10 rfl rfl (fun _ => rfl) (fun _ => rfl) rfl rfl rfl (Nat.le_of_ble_eq_true rfl) ⟨(Nat.le_of_ble_eq_true rfl), (Nat.le_of_ble_eq_true rfl)⟩ rfl rfl ⟨Nat.le_refl _, Nat.le_refl _⟩ rfl (fun r10 hr10 => ?_)
  exact V_iretW (Wd := fun w => WX d a w) C hr hlk dX7_serve_13 rfl
set_option maxRecDepth 20000 in
theorem ct_X7_serve (l : Launch) (d : Dt) (a : Nat → Nat) (u : UX) (p1 : Int32) (z : Int32 × UX) (h : f_X7_serve u p1 = some z) : CtW l d yX7_serve cX7_serve 2 (some .int) (rmF 6 136) [.ref (a 0), .int p1] (WX d a u) (WX d a z.2) (some (.int z.1)) :=
  CtW.start (by decide) (Nat.le_of_ble_eq_true rfl) (by simp [Value.category]) [some (.ref (a 0)), some (.int p1)] rfl (fun x A C hr hlk => V_eqv (fun _ => h) (v_X7_serve C hr hlk z u p1))

/-! MastRobotsModel.whereOf -/
def f_X7_whereOf_b88 (k58 : UX → Int32 → Int32 → Int32 → Option (Int32)) (u : UX) (v1 : Int32) (v4 : Int32) (s0 : Int32) : Option (Int32) :=
  k58 u v1 s0 (v4 + 1)
def f_X7_whereOf_b58 : Nat → UX → Int32 → Int32 → Int32 → Option (Int32)
  | 0, _, _, _, _ => none
  | n + 1, u, v1, v3, v4 => (if (u.1 2) ≤ v4 then some v3 else (if inb (3 + v4) 264 = true then (if (u.1 (3 + v4).toNatClampNeg) = v1 then f_X7_whereOf_b88 (f_X7_whereOf_b58 n) u v1 v4 v4 else f_X7_whereOf_b88 (f_X7_whereOf_b58 n) u v1 v4 v3) else none))
def f_X7_whereOf (u : UX) (p1 : Int32) : Option (Int32) :=
  ((f_X7_ca u p1 2).bind fun r3 => (if r3 = 0 then ((f_X7_standsAt u p1).bind fun r13 => ((f_X7_standsAt u p1).bind fun r23 => some (((r13 / 4) * 10) + (jrem r23 4)))) else (if r3 = 2 then (if (u.1 11) = p1 then some 0 else some 1) else f_X7_whereOf_b58 FUEL u p1 (-1000004) 0)))
set_option maxRecDepth 20000 in
theorem v_X7_whereOf_b88 {x : Am} {d : Dt} {a : Nat → Nat} (C : Cx x cX7_whereOf 5 yX7_whereOf.cls d (Iro d x.s.heap)) (hr : x.meth.sig.returnType = (some .int)) (hlk : x.meth.locks = false) (z : Int32) (k58 : UX → Int32 → Int32 → Int32 → Option (Int32)) (hk58 : ∀ (u : UX)(v1 : Int32)(v3 : Int32)(v4 : Int32), V x (rmF 1 22) 0 0 (MQ x.below (QR (some (.int z))) x.args x.s 0 0 (fun _ => False)) 5 (Iro d x.s.heap) (k58 u v1 v3 v4 = some z) 58 (WX d a u) [some (.ref (a 0)), some (.int v1), none, some (.int v3), some (.int v4)] []) (u : UX) (v1 : Int32) (v4 : Int32) (s0 : Int32) : V x (rmF 1 22) 0 0 (MQ x.below (QR (some (.int z))) x.args x.s 0 0 (fun _ => False)) 5 (Iro d x.s.heap) (f_X7_whereOf_b88 k58 u v1 v4 s0 = some z) 88 (WX d a u) [some (.ref (a 0)), some (.int v1), none, none, some (.int v4)] [.int s0] := by
  unfold f_X7_whereOf_b88
  refine V_istore_n (lv' := [some (.ref (a 0)), some (.int v1), none, some (.int s0), some (.int v4)]) C 3 dX7_whereOf_88 rfl (by decide) rfl ?_
  refine V_iinc (v := (v4 + 1)) (lv' := [some (.ref (a 0)), some (.int v1), none, some (.int s0), some (.int (v4 + 1))]) C dX7_whereOf_89 rfl rfl (by decide) rfl ?_
  refine V_goto (tgt := 58) C dX7_whereOf_92 (by decide) ?_
  exact hk58 u v1 s0 (v4 + 1)
set_option maxRecDepth 20000 in
theorem v_X7_whereOf_b58 {x : Am} {d : Dt} {a : Nat → Nat} (C : Cx x cX7_whereOf 5 yX7_whereOf.cls d (Iro d x.s.heap)) (hr : x.meth.sig.returnType = (some .int)) (hlk : x.meth.locks = false) (z : Int32) (n : Nat) (u : UX) (v1 : Int32) (v3 : Int32) (v4 : Int32) : V x (rmF 1 22) 0 0 (MQ x.below (QR (some (.int z))) x.args x.s 0 0 (fun _ => False)) 5 (Iro d x.s.heap) (f_X7_whereOf_b58 n u v1 v3 v4 = some z) 58 (WX d a u) [some (.ref (a 0)), some (.int v1), none, some (.int v3), some (.int v4)] [] := by
  induction n generalizing u v1 v3 v4 with
  | zero => exact V_none
  | succ n ih =>
    rw [f_X7_whereOf_b58]
    refine V_iload C dX7_whereOf_58 rfl ?_
    refine V_aload_n C 0 dX7_whereOf_60 rfl rfl ?_
    refine V_get (v := .ref (a 1)) C fx7 0 0 kf_X7_7 (by decide) rfl rfl dX7_whereOf_61 ?_
    refine V_iconst (v := 2) C dX7_whereOf_64 (by decide) ?_
    refine V_ialdc C 1 2 rfl (by decide) (by decide) dX7_whereOf_65 ?_
    refine V_icmp_ge (tgt := 95) C dX7_whereOf_66 (by decide) ?_ ?_
    · refine V_iload_n C 3 dX7_whereOf_95 rfl rfl ?_
      exact V_iretR C hr hlk dX7_whereOf_96
    · refine V_aload_n C 0 dX7_whereOf_69 rfl rfl ?_
      refine V_get (v := .ref (a 1)) C fx7 0 0 kf_X7_7 (by decide) rfl rfl dX7_whereOf_70 ?_
      refine V_iconst (v := 3) C dX7_whereOf_73 (by decide) ?_
      refine V_iload C dX7_whereOf_74 rfl ?_
      refine V_iadd C dX7_whereOf_76 ?_
      refine V_iald C 1 rfl dX7_whereOf_77 ?_
      refine V_iload_n C 1 dX7_whereOf_78 rfl rfl ?_
      refine V_icmp_ne (tgt := 87) C dX7_whereOf_79 (by decide) ?_ ?_
      · refine V_iload_n C 3 dX7_whereOf_87 rfl rfl ?_
        refine V_mask (lv' := [some (.ref (a 0)), some (.int v1), none, none, some (.int v4)]) [true, true, true, false, true] rfl ?_
        exact v_X7_whereOf_b88 C hr hlk z (f_X7_whereOf_b58  n) ih u v1 v4 v3
      · refine V_iload C dX7_whereOf_82 rfl ?_
        refine V_goto (tgt := 88) C dX7_whereOf_84 (by decide) ?_
        refine V_mask (lv' := [some (.ref (a 0)), some (.int v1), none, none, some (.int v4)]) [true, true, true, false, true] rfl ?_
        exact v_X7_whereOf_b88 C hr hlk z (f_X7_whereOf_b58  n) ih u v1 v4 v4
set_option maxRecDepth 20000 in
theorem v_X7_whereOf {x : Am} {d : Dt} {a : Nat → Nat} (C : Cx x cX7_whereOf 5 yX7_whereOf.cls d (Iro d x.s.heap)) (hr : x.meth.sig.returnType = (some .int)) (hlk : x.meth.locks = false) (z : Int32) (u : UX) (p1 : Int32) : V x (rmF 1 22) 0 0 (MQ x.below (QR (some (.int z))) x.args x.s 0 0 (fun _ => False)) 5 (Iro d x.s.heap) (f_X7_whereOf u p1 = some z) 0 (WX d a u) [some (.ref (a 0)), some (.int p1), none, none, none] [] := by
  unfold f_X7_whereOf
  refine V_aload_n C 0 dX7_whereOf_0 rfl rfl ?_
  refine V_iload_n C 1 dX7_whereOf_1 rfl rfl ?_
  refine V_iconst (v := 2) C dX7_whereOf_2 (by decide) ?_
  refine V_callRi (As := [.int p1, .int 2]) (rest := []) (wc := WX d a u) C (fun r h => ct_X7_ca _ d a u p1 2 r h) kv_X7_ca kl_X7_44 [0, 1, 2, 3, 4, 5] dX7_whereOf_3 rfl rfl rfl rfl (Nat.le_of_ble_eq_true rfl) ⟨(Nat.le_of_ble_eq_true rfl), (Nat.le_of_ble_eq_true rfl)⟩ rfl rfl ⟨Nat.le_refl _, Nat.le_refl _⟩ rfl (fun r3 hr3 => ?_)
  refine V_istore_n (lv' := [some (.ref (a 0)), some (.int p1), some (.int r3), none, none]) C 2 dX7_whereOf_6 rfl (by decide) rfl ?_
  refine V_iload_n C 2 dX7_whereOf_7 rfl rfl ?_
  refine V_if_ne (tgt := 30) C dX7_whereOf_8 (by decide) ?_ ?_
  · refine V_iload_n C 2 dX7_whereOf_30 rfl rfl ?_
    refine V_iconst (v := 2) C dX7_whereOf_31 (by decide) ?_
    refine V_icmp_ne (tgt := 52) C dX7_whereOf_32 (by decide) ?_ ?_
    · refine V_ldc C kc_X7_136 dX7_whereOf_52 ?_
      refine V_istore_n (lv' := [some (.ref (a 0)), some (.int p1), some (.int r3), some (.int (-1000004)), none]) C 3 dX7_whereOf_54 rfl (by decide) rfl ?_
      refine V_iconst (v := 0) C dX7_whereOf_55 (by decide) ?_
      refine V_istore (lv' := [some (.ref (a 0)), some (.int p1), some (.int r3), some (.int (-1000004)), some (.int 0)]) C dX7_whereOf_56 (by decide) rfl ?_
      refine V_mask (lv' := [some (.ref (a 0)), some (.int p1), none, some (.int (-1000004)), some (.int 0)]) [true, true, false, true, true] rfl ?_
      exact v_X7_whereOf_b58 C hr hlk z FUEL u p1 (-1000004) 0
    · refine V_aload_n C 0 dX7_whereOf_35 rfl rfl ?_
      refine V_get (v := .ref (a 1)) C fx7 0 0 kf_X7_7 (by decide) rfl rfl dX7_whereOf_36 ?_
      refine V_bipush (v := 11) C dX7_whereOf_39 (by decide) ?_
      refine V_ialdc C 1 11 rfl (by decide) (by decide) dX7_whereOf_41 ?_
      refine V_iload_n C 1 dX7_whereOf_42 rfl rfl ?_
      refine V_icmp_ne (tgt := 50) C dX7_whereOf_43 (by decide) ?_ ?_
      · refine V_iconst (v := 1) C dX7_whereOf_50 (by decide) ?_
        exact V_iretR C hr hlk dX7_whereOf_51
      · refine V_iconst (v := 0) C dX7_whereOf_46 (by decide) ?_
        refine V_goto (tgt := 51) C dX7_whereOf_47 (by decide) ?_
        exact V_iretR C hr hlk dX7_whereOf_51
  · refine V_aload_n C 0 dX7_whereOf_11 rfl rfl ?_
    refine V_iload_n C 1 dX7_whereOf_12 rfl rfl ?_
    refine V_callRi (As := [.int p1]) (rest := []) (wc := WX d a u) C (fun r h => ct_X7_standsAt _ d a u p1 r h) kv_X7_standsAt kl_X7_52 [0, 1, 2, 3, 4, 5] dX7_whereOf_13 rfl rfl rfl rfl (Nat.le_of_ble_eq_true rfl) ⟨(Nat.le_of_ble_eq_true rfl), (Nat.le_of_ble_eq_true rfl)⟩ rfl rfl ⟨Nat.le_refl _, Nat.le_refl _⟩ rfl (fun r13 hr13 => ?_)
    refine V_iconst (v := 4) C dX7_whereOf_16 (by decide) ?_
    refine V_idiv C dX7_whereOf_17 (by decide) ?_
    refine V_bipush (v := 10) C dX7_whereOf_18 (by decide) ?_
    refine V_imul C dX7_whereOf_20 ?_
    refine V_aload_n C 0 dX7_whereOf_21 rfl rfl ?_
    refine V_iload_n C 1 dX7_whereOf_22 rfl rfl ?_
    refine V_callRi (As := [.int p1]) (rest := [.int ((r13 / 4) * 10)]) (wc := WX d a u) C (fun r h => ct_X7_standsAt _ d a u p1 r h) kv_X7_standsAt kl_X7_52 [0, 1, 2, 3, 4, 5] dX7_whereOf_23 rfl rfl rfl rfl (Nat.le_of_ble_eq_true rfl) ⟨(Nat.le_of_ble_eq_true rfl), (Nat.le_of_ble_eq_true rfl)⟩ rfl rfl ⟨Nat.le_refl _, Nat.le_refl _⟩ rfl (fun r23 hr23 => ?_)
    refine V_iconst (v := 4) C dX7_whereOf_26 (by decide) ?_
    refine V_irem C dX7_whereOf_27 (by decide) ?_
    refine V_iadd C dX7_whereOf_28 ?_
    exact V_iretR C hr hlk dX7_whereOf_29
set_option maxRecDepth 20000 in
theorem ct_X7_whereOf (l : Launch) (d : Dt) (a : Nat → Nat) (u : UX) (p1 : Int32) (z : Int32) (h : f_X7_whereOf u p1 = some z) : CtR l d yX7_whereOf cX7_whereOf 5 (some .int) (rmF 1 22) [.ref (a 0), .int p1] (WX d a u) (some (.int z)) :=
  CtR.start (by decide) (Nat.le_of_ble_eq_true rfl) (by simp [Value.category]) [some (.ref (a 0)), some (.int p1), none, none, none] rfl (fun x C hr hlk => V_eqv (fun _ => h) (v_X7_whereOf C hr hlk z u p1))

/-! MastRobotsModel.cartridgeOf -/
def f_X7_cartridgeOf (u : UX) (p1 : Int32) (p2 : Int32) : Option (Int32) :=
  ((f_X7_isCartridge u p1).bind fun r2 => (if r2 = 0 then some (-1000001) else ((f_X7_in p2 0 6).bind fun r12 => (if r12 = 0 then some (-1000001) else (if p2 = 3 then ((f_X7_whereOf u p1).bind fun r54 => some r54) else (if p2 = 4 then ((f_X7_files u p1).bind fun r60 => some r60) else (if p2 = 5 then ((f_X7_wanted u p1).bind fun r66 => some r66) else (if p2 = 6 then ((f_X7_ca u p1 3).bind fun r73 => some r73) else ((f_X7_ca u p1 p2).bind fun r80 => some r80)))))))))
set_option maxRecDepth 20000 in
theorem v_X7_cartridgeOf {x : Am} {d : Dt} {a : Nat → Nat} (C : Cx x cX7_cartridgeOf 3 yX7_cartridgeOf.cls d (Iro d x.s.heap)) (hr : x.meth.sig.returnType = (some .int)) (hlk : x.meth.locks = false) (z : Int32) (u : UX) (p1 : Int32) (p2 : Int32) : V x (rmF 2 46) 0 0 (MQ x.below (QR (some (.int z))) x.args x.s 0 0 (fun _ => False)) 3 (Iro d x.s.heap) (f_X7_cartridgeOf u p1 p2 = some z) 0 (WX d a u) [some (.ref (a 0)), some (.int p1), some (.int p2)] [] := by
  unfold f_X7_cartridgeOf
  refine V_aload_n C 0 dX7_cartridgeOf_0 rfl rfl ?_
  refine V_iload_n C 1 dX7_cartridgeOf_1 rfl rfl ?_
  refine V_callRi (As := [.int p1]) (rest := []) (wc := WX d a u) C (fun r h => ct_X7_isCartridge _ d a u p1 r h) kv_X7_isCartridge kl_X7_48 [0, 1, 2, 3, 4, 5] dX7_cartridgeOf_2 rfl rfl rfl rfl (Nat.le_of_ble_eq_true rfl) ⟨(Nat.le_of_ble_eq_true rfl), (Nat.le_of_ble_eq_true rfl)⟩ rfl rfl ⟨Nat.le_refl _, Nat.le_refl _⟩ rfl (fun r2 hr2 => ?_)
  refine V_if_eq (tgt := 18) C dX7_cartridgeOf_5 (by decide) ?_ ?_
  · refine V_ldc C kc_X7_30 dX7_cartridgeOf_18 ?_
    exact V_iretR C hr hlk dX7_cartridgeOf_20
  · refine V_iload_n C 2 dX7_cartridgeOf_8 rfl rfl ?_
    refine V_iconst (v := 0) C dX7_cartridgeOf_9 (by decide) ?_
    refine V_bipush (v := 6) C dX7_cartridgeOf_10 (by decide) ?_
    refine V_callSi (As := [.int p2, .int 0, .int 6]) (rest := []) (wc := []) C (fun r h => ct_X7_in _ d p2 0 6 r h) ks_X7_in kl_X7_26 [] dX7_cartridgeOf_12 rfl rfl (Nat.le_of_ble_eq_true rfl) ⟨(Nat.le_of_ble_eq_true rfl), (Nat.le_of_ble_eq_true rfl)⟩ rfl rfl ⟨Nat.le_refl _, Nat.le_refl _⟩ rfl (fun r12 hr12 => ?_)
    refine V_if_ne (tgt := 21) C dX7_cartridgeOf_15 (by decide) ?_ ?_
    · refine V_iload_n C 2 dX7_cartridgeOf_21 rfl rfl ?_
      refine V_case (fun c0 => ?_) (fun c0 => ?_)
      · refine V_tsIn (tgt := 52) C c0 dX7_cartridgeOf_22 (by decide) (by decide) rfl (by decide) ?_
        refine V_aload_n C 0 dX7_cartridgeOf_52 rfl rfl ?_
        refine V_iload_n C 1 dX7_cartridgeOf_53 rfl rfl ?_
        refine V_callRi (As := [.int p1]) (rest := []) (wc := WX d a u) C (fun r h => ct_X7_whereOf _ d a u p1 r h) kv_X7_whereOf kl_X7_137 [0, 1, 2, 3, 4, 5] dX7_cartridgeOf_54 rfl rfl rfl rfl (Nat.le_of_ble_eq_true rfl) ⟨(Nat.le_of_ble_eq_true rfl), (Nat.le_of_ble_eq_true rfl)⟩ rfl rfl ⟨Nat.le_refl _, Nat.le_refl _⟩ rfl (fun r54 hr54 => ?_)
        exact V_iretR C hr hlk dX7_cartridgeOf_57
      refine V_case (fun c1 => ?_) (fun c1 => ?_)
      · refine V_tsIn (tgt := 58) C c1 dX7_cartridgeOf_22 (by decide) (by decide) rfl (by decide) ?_
        refine V_aload_n C 0 dX7_cartridgeOf_58 rfl rfl ?_
        refine V_iload_n C 1 dX7_cartridgeOf_59 rfl rfl ?_
        refine V_callRi (As := [.int p1]) (rest := []) (wc := WX d a u) C (fun r h => ct_X7_files _ d a u p1 r h) kv_X7_files kl_X7_100 [0, 1, 2, 3, 4, 5] dX7_cartridgeOf_60 rfl rfl rfl rfl (Nat.le_of_ble_eq_true rfl) ⟨(Nat.le_of_ble_eq_true rfl), (Nat.le_of_ble_eq_true rfl)⟩ rfl rfl ⟨Nat.le_refl _, Nat.le_refl _⟩ rfl (fun r60 hr60 => ?_)
        exact V_iretR C hr hlk dX7_cartridgeOf_63
      refine V_case (fun c2 => ?_) (fun c2 => ?_)
      · refine V_tsIn (tgt := 64) C c2 dX7_cartridgeOf_22 (by decide) (by decide) rfl (by decide) ?_
        refine V_aload_n C 0 dX7_cartridgeOf_64 rfl rfl ?_
        refine V_iload_n C 1 dX7_cartridgeOf_65 rfl rfl ?_
        refine V_callRi (As := [.int p1]) (rest := []) (wc := WX d a u) C (fun r h => ct_X7_wanted _ d a u p1 r h) kv_X7_wanted kl_X7_106 [0, 1, 2, 3, 4, 5] dX7_cartridgeOf_66 rfl rfl rfl rfl (Nat.le_of_ble_eq_true rfl) ⟨(Nat.le_of_ble_eq_true rfl), (Nat.le_of_ble_eq_true rfl)⟩ rfl rfl ⟨Nat.le_refl _, Nat.le_refl _⟩ rfl (fun r66 hr66 => ?_)
        exact V_iretR C hr hlk dX7_cartridgeOf_69
      refine V_case (fun c3 => ?_) (fun c3 => ?_)
      · refine V_tsIn (tgt := 70) C c3 dX7_cartridgeOf_22 (by decide) (by decide) rfl (by decide) ?_
        refine V_aload_n C 0 dX7_cartridgeOf_70 rfl rfl ?_
        refine V_iload_n C 1 dX7_cartridgeOf_71 rfl rfl ?_
        refine V_iconst (v := 3) C dX7_cartridgeOf_72 (by decide) ?_
        refine V_callRi (As := [.int p1, .int 3]) (rest := []) (wc := WX d a u) C (fun r h => ct_X7_ca _ d a u p1 3 r h) kv_X7_ca kl_X7_44 [0, 1, 2, 3, 4, 5] dX7_cartridgeOf_73 rfl rfl rfl rfl (Nat.le_of_ble_eq_true rfl) ⟨(Nat.le_of_ble_eq_true rfl), (Nat.le_of_ble_eq_true rfl)⟩ rfl rfl ⟨Nat.le_refl _, Nat.le_refl _⟩ rfl (fun r73 hr73 => ?_)
        exact V_iretR C hr hlk dX7_cartridgeOf_76
      have i0 := neInt c0 (k := 3) (by decide)
      have i1 := neInt c1 (k := 4) (by decide)
      have i2 := neInt c2 (k := 5) (by decide)
      have i3 := neInt c3 (k := 6) (by decide)
      refine V_tsOut (tgt := 77) C dX7_cartridgeOf_22 (by omega) (by decide) ?_
      refine V_aload_n C 0 dX7_cartridgeOf_77 rfl rfl ?_
      refine V_iload_n C 1 dX7_cartridgeOf_78 rfl rfl ?_
      refine V_iload_n C 2 dX7_cartridgeOf_79 rfl rfl ?_
      refine V_callRi (As := [.int p1, .int p2]) (rest := []) (wc := WX d a u) C (fun r h => ct_X7_ca _ d a u p1 p2 r h) kv_X7_ca kl_X7_44 [0, 1, 2, 3, 4, 5] dX7_cartridgeOf_80 rfl rfl rfl rfl (Nat.le_of_ble_eq_true rfl) ⟨(Nat.le_of_ble_eq_true rfl), (Nat.le_of_ble_eq_true rfl)⟩ rfl rfl ⟨Nat.le_refl _, Nat.le_refl _⟩ rfl (fun r80 hr80 => ?_)
      exact V_iretR C hr hlk dX7_cartridgeOf_83
    · refine V_ldc C kc_X7_30 dX7_cartridgeOf_18 ?_
      exact V_iretR C hr hlk dX7_cartridgeOf_20
set_option maxRecDepth 20000 in
theorem ct_X7_cartridgeOf (l : Launch) (d : Dt) (a : Nat → Nat) (u : UX) (p1 : Int32) (p2 : Int32) (z : Int32) (h : f_X7_cartridgeOf u p1 p2 = some z) : CtR l d yX7_cartridgeOf cX7_cartridgeOf 3 (some .int) (rmF 2 46) [.ref (a 0), .int p1, .int p2] (WX d a u) (some (.int z)) :=
  CtR.start (by decide) (Nat.le_of_ble_eq_true rfl) (by simp [Value.category]) [some (.ref (a 0)), some (.int p1), some (.int p2)] rfl (fun x C hr hlk => V_eqv (fun _ => h) (v_X7_cartridgeOf C hr hlk z u p1 p2))

/-! MastRobotsModel.shelfOf -/
def f_X7_shelfOf (u : UX) (p1 : Int32) (p2 : Int32) : Option (Int32) :=
  ((f_X7_in p1 0 7).bind fun r4 => (if r4 = 0 then some (-1000001) else ((f_X7_in p2 0 3).bind fun r13 => (if r13 = 0 then some (-1000001) else (if inb ((16 + (4 * p1)) + p2) 264 = true then (if 0 ≤ (u.1 ((16 + (4 * p1)) + p2).toNatClampNeg) then some (u.1 ((16 + (4 * p1)) + p2).toNatClampNeg) else some (-1000004)) else none)))))
set_option maxRecDepth 20000 in
theorem v_X7_shelfOf {x : Am} {d : Dt} {a : Nat → Nat} (C : Cx x cX7_shelfOf 4 yX7_shelfOf.cls d (Iro d x.s.heap)) (hr : x.meth.sig.returnType = (some .int)) (hlk : x.meth.locks = false) (z : Int32) (u : UX) (p1 : Int32) (p2 : Int32) : V x (rmF 1 22) 0 0 (MQ x.below (QR (some (.int z))) x.args x.s 0 0 (fun _ => False)) 4 (Iro d x.s.heap) (f_X7_shelfOf u p1 p2 = some z) 0 (WX d a u) [some (.ref (a 0)), some (.int p1), some (.int p2), none] [] := by
  unfold f_X7_shelfOf
  refine V_iload_n C 1 dX7_shelfOf_0 rfl rfl ?_
  refine V_iconst (v := 0) C dX7_shelfOf_1 (by decide) ?_
  refine V_bipush (v := 7) C dX7_shelfOf_2 (by decide) ?_
  refine V_callSi (As := [.int p1, .int 0, .int 7]) (rest := []) (wc := []) C (fun r h => ct_X7_in _ d p1 0 7 r h) ks_X7_in kl_X7_26 [] dX7_shelfOf_4 rfl rfl (Nat.le_of_ble_eq_true rfl) ⟨(Nat.le_of_ble_eq_true rfl), (Nat.le_of_ble_eq_true rfl)⟩ rfl rfl ⟨Nat.le_refl _, Nat.le_refl _⟩ rfl (fun r4 hr4 => ?_)
  refine V_if_eq (tgt := 19) C dX7_shelfOf_7 (by decide) ?_ ?_
  · refine V_ldc C kc_X7_30 dX7_shelfOf_19 ?_
    exact V_iretR C hr hlk dX7_shelfOf_21
  · refine V_iload_n C 2 dX7_shelfOf_10 rfl rfl ?_
    refine V_iconst (v := 0) C dX7_shelfOf_11 (by decide) ?_
    refine V_iconst (v := 3) C dX7_shelfOf_12 (by decide) ?_
    refine V_callSi (As := [.int p2, .int 0, .int 3]) (rest := []) (wc := []) C (fun r h => ct_X7_in _ d p2 0 3 r h) ks_X7_in kl_X7_26 [] dX7_shelfOf_13 rfl rfl (Nat.le_of_ble_eq_true rfl) ⟨(Nat.le_of_ble_eq_true rfl), (Nat.le_of_ble_eq_true rfl)⟩ rfl rfl ⟨Nat.le_refl _, Nat.le_refl _⟩ rfl (fun r13 hr13 => ?_)
    refine V_if_ne (tgt := 22) C dX7_shelfOf_16 (by decide) ?_ ?_
    · refine V_aload_n C 0 dX7_shelfOf_22 rfl rfl ?_
      refine V_get (v := .ref (a 1)) C fx7 0 0 kf_X7_7 (by decide) rfl rfl dX7_shelfOf_23 ?_
      refine V_bipush (v := 16) C dX7_shelfOf_26 (by decide) ?_
      refine V_iconst (v := 4) C dX7_shelfOf_28 (by decide) ?_
      refine V_iload_n C 1 dX7_shelfOf_29 rfl rfl ?_
      refine V_imul C dX7_shelfOf_30 ?_
      refine V_iadd C dX7_shelfOf_31 ?_
      refine V_iload_n C 2 dX7_shelfOf_32 rfl rfl ?_
      refine V_iadd C dX7_shelfOf_33 ?_
      refine V_iald C 1 rfl dX7_shelfOf_34 ?_
      refine V_istore_n (lv' := [some (.ref (a 0)), some (.int p1), some (.int p2), some (.int (u.1 ((16 + (4 * p1)) + p2).toNatClampNeg))]) C 3 dX7_shelfOf_35 rfl (by decide) rfl ?_
      refine V_iload_n C 3 dX7_shelfOf_36 rfl rfl ?_
      refine V_if_ge (tgt := 45) C dX7_shelfOf_37 (by decide) ?_ ?_
      · refine V_iload_n C 3 dX7_shelfOf_45 rfl rfl ?_
        exact V_iretR C hr hlk dX7_shelfOf_46
      · refine V_ldc C kc_X7_136 dX7_shelfOf_40 ?_
        refine V_goto (tgt := 46) C dX7_shelfOf_42 (by decide) ?_
        exact V_iretR C hr hlk dX7_shelfOf_46
    · refine V_ldc C kc_X7_30 dX7_shelfOf_19 ?_
      exact V_iretR C hr hlk dX7_shelfOf_21
set_option maxRecDepth 20000 in
theorem ct_X7_shelfOf (l : Launch) (d : Dt) (a : Nat → Nat) (u : UX) (p1 : Int32) (p2 : Int32) (z : Int32) (h : f_X7_shelfOf u p1 p2 = some z) : CtR l d yX7_shelfOf cX7_shelfOf 4 (some .int) (rmF 1 22) [.ref (a 0), .int p1, .int p2] (WX d a u) (some (.int z)) :=
  CtR.start (by decide) (Nat.le_of_ble_eq_true rfl) (by simp [Value.category]) [some (.ref (a 0)), some (.int p1), some (.int p2), none] rfl (fun x C hr hlk => V_eqv (fun _ => h) (v_X7_shelfOf C hr hlk z u p1 p2))

/-! MastRobotsModel.holder -/
def f_X7_holder (u : UX) (p1 : Int32) : Option (Int32) :=
  ((f_X7_in p1 0 59).bind fun r4 => (if r4 = 0 then some (-1000001) else (if inb (168 + p1) 264 = true then (if 0 ≤ (u.1 (168 + p1).toNatClampNeg) then (if inb (168 + p1) 264 = true then some (u.1 (168 + p1).toNatClampNeg) else none) else some (-1000004)) else none)))
set_option maxRecDepth 20000 in
theorem v_X7_holder {x : Am} {d : Dt} {a : Nat → Nat} (C : Cx x cX7_holder 2 yX7_holder.cls d (Iro d x.s.heap)) (hr : x.meth.sig.returnType = (some .int)) (hlk : x.meth.locks = false) (z : Int32) (u : UX) (p1 : Int32) : V x (rmF 1 22) 0 0 (MQ x.below (QR (some (.int z))) x.args x.s 0 0 (fun _ => False)) 2 (Iro d x.s.heap) (f_X7_holder u p1 = some z) 0 (WX d a u) [some (.ref (a 0)), some (.int p1)] [] := by
  unfold f_X7_holder
  refine V_iload_n C 1 dX7_holder_0 rfl rfl ?_
  refine V_iconst (v := 0) C dX7_holder_1 (by decide) ?_
  refine V_bipush (v := 59) C dX7_holder_2 (by decide) ?_
  refine V_callSi (As := [.int p1, .int 0, .int 59]) (rest := []) (wc := []) C (fun r h => ct_X7_in _ d p1 0 59 r h) ks_X7_in kl_X7_26 [] dX7_holder_4 rfl rfl (Nat.le_of_ble_eq_true rfl) ⟨(Nat.le_of_ble_eq_true rfl), (Nat.le_of_ble_eq_true rfl)⟩ rfl rfl ⟨Nat.le_refl _, Nat.le_refl _⟩ rfl (fun r4 hr4 => ?_)
  refine V_if_ne (tgt := 13) C dX7_holder_7 (by decide) ?_ ?_
  · refine V_aload_n C 0 dX7_holder_13 rfl rfl ?_
    refine V_get (v := .ref (a 1)) C fx7 0 0 kf_X7_7 (by decide) rfl rfl dX7_holder_14 ?_
    refine V_sipush (v := 168) C dX7_holder_17 (by decide) ?_
    refine V_iload_n C 1 dX7_holder_20 rfl rfl ?_
    refine V_iadd C dX7_holder_21 ?_
    refine V_iald C 1 rfl dX7_holder_22 ?_
    refine V_if_ge (tgt := 31) C dX7_holder_23 (by decide) ?_ ?_
    · refine V_aload_n C 0 dX7_holder_31 rfl rfl ?_
      refine V_get (v := .ref (a 1)) C fx7 0 0 kf_X7_7 (by decide) rfl rfl dX7_holder_32 ?_
      refine V_sipush (v := 168) C dX7_holder_35 (by decide) ?_
      refine V_iload_n C 1 dX7_holder_38 rfl rfl ?_
      refine V_iadd C dX7_holder_39 ?_
      refine V_iald C 1 rfl dX7_holder_40 ?_
      exact V_iretR C hr hlk dX7_holder_41
    · refine V_ldc C kc_X7_136 dX7_holder_26 ?_
      refine V_goto (tgt := 41) C dX7_holder_28 (by decide) ?_
      exact V_iretR C hr hlk dX7_holder_41
  · refine V_ldc C kc_X7_30 dX7_holder_10 ?_
    exact V_iretR C hr hlk dX7_holder_12
set_option maxRecDepth 20000 in
theorem ct_X7_holder (l : Launch) (d : Dt) (a : Nat → Nat) (u : UX) (p1 : Int32) (z : Int32) (h : f_X7_holder u p1 = some z) : CtR l d yX7_holder cX7_holder 2 (some .int) (rmF 1 22) [.ref (a 0), .int p1] (WX d a u) (some (.int z)) :=
  CtR.start (by decide) (Nat.le_of_ble_eq_true rfl) (by simp [Value.category]) [some (.ref (a 0)), some (.int p1)] rfl (fun x C hr hlk => V_eqv (fun _ => h) (v_X7_holder C hr hlk z u p1))

/-! MastRobotsModel.requestOf -/
def f_X7_requestOf (u : UX) (p1 : Int32) (p2 : Int32) : Option (Int32) :=
  (if p1 < 0 then some (-1000001) else ((f_X7_in p2 0 2).bind fun r7 => (if r7 = 0 then some (-1000001) else (if (u.1 8) ≤ p1 then some (-1000004) else (if inb ((228 + (3 * p1)) + p2) 264 = true then some (u.1 ((228 + (3 * p1)) + p2).toNatClampNeg) else none)))))
set_option maxRecDepth 20000 in
theorem v_X7_requestOf {x : Am} {d : Dt} {a : Nat → Nat} (C : Cx x cX7_requestOf 3 yX7_requestOf.cls d (Iro d x.s.heap)) (hr : x.meth.sig.returnType = (some .int)) (hlk : x.meth.locks = false) (z : Int32) (u : UX) (p1 : Int32) (p2 : Int32) : V x (rmF 1 22) 0 0 (MQ x.below (QR (some (.int z))) x.args x.s 0 0 (fun _ => False)) 3 (Iro d x.s.heap) (f_X7_requestOf u p1 p2 = some z) 0 (WX d a u) [some (.ref (a 0)), some (.int p1), some (.int p2)] [] := by
  unfold f_X7_requestOf
  refine V_iload_n C 1 dX7_requestOf_0 rfl rfl ?_
  refine V_if_lt (tgt := 13) C dX7_requestOf_1 (by decide) ?_ ?_
  · refine V_ldc C kc_X7_30 dX7_requestOf_13 ?_
    exact V_iretR C hr hlk dX7_requestOf_15
  · refine V_iload_n C 2 dX7_requestOf_4 rfl rfl ?_
    refine V_iconst (v := 0) C dX7_requestOf_5 (by decide) ?_
    refine V_iconst (v := 2) C dX7_requestOf_6 (by decide) ?_
    refine V_callSi (As := [.int p2, .int 0, .int 2]) (rest := []) (wc := []) C (fun r h => ct_X7_in _ d p2 0 2 r h) ks_X7_in kl_X7_26 [] dX7_requestOf_7 rfl rfl (Nat.le_of_ble_eq_true rfl) ⟨(Nat.le_of_ble_eq_true rfl), (Nat.le_of_ble_eq_true rfl)⟩ rfl rfl ⟨Nat.le_refl _, Nat.le_refl _⟩ rfl (fun r7 hr7 => ?_)
    refine V_if_ne (tgt := 16) C dX7_requestOf_10 (by decide) ?_ ?_
    · refine V_iload_n C 1 dX7_requestOf_16 rfl rfl ?_
      refine V_aload_n C 0 dX7_requestOf_17 rfl rfl ?_
      refine V_get (v := .ref (a 1)) C fx7 0 0 kf_X7_7 (by decide) rfl rfl dX7_requestOf_18 ?_
      refine V_bipush (v := 8) C dX7_requestOf_21 (by decide) ?_
      refine V_ialdc C 1 8 rfl (by decide) (by decide) dX7_requestOf_23 ?_
      refine V_icmp_ge (tgt := 44) C dX7_requestOf_24 (by decide) ?_ ?_
      · refine V_ldc C kc_X7_136 dX7_requestOf_44 ?_
        exact V_iretR C hr hlk dX7_requestOf_46
      · refine V_aload_n C 0 dX7_requestOf_27 rfl rfl ?_
        refine V_get (v := .ref (a 1)) C fx7 0 0 kf_X7_7 (by decide) rfl rfl dX7_requestOf_28 ?_
        refine V_sipush (v := 228) C dX7_requestOf_31 (by decide) ?_
        refine V_iconst (v := 3) C dX7_requestOf_34 (by decide) ?_
        refine V_iload_n C 1 dX7_requestOf_35 rfl rfl ?_
        refine V_imul C dX7_requestOf_36 ?_
        refine V_iadd C dX7_requestOf_37 ?_
        refine V_iload_n C 2 dX7_requestOf_38 rfl rfl ?_
        refine V_iadd C dX7_requestOf_39 ?_
        refine V_iald C 1 rfl dX7_requestOf_40 ?_
        refine V_goto (tgt := 46) C dX7_requestOf_41 (by decide) ?_
        exact V_iretR C hr hlk dX7_requestOf_46
    · refine V_ldc C kc_X7_30 dX7_requestOf_13 ?_
      exact V_iretR C hr hlk dX7_requestOf_15
set_option maxRecDepth 20000 in
theorem ct_X7_requestOf (l : Launch) (d : Dt) (a : Nat → Nat) (u : UX) (p1 : Int32) (p2 : Int32) (z : Int32) (h : f_X7_requestOf u p1 p2 = some z) : CtR l d yX7_requestOf cX7_requestOf 3 (some .int) (rmF 1 22) [.ref (a 0), .int p1, .int p2] (WX d a u) (some (.int z)) :=
  CtR.start (by decide) (Nat.le_of_ble_eq_true rfl) (by simp [Value.category]) [some (.ref (a 0)), some (.int p1), some (.int p2)] rfl (fun x C hr hlk => V_eqv (fun _ => h) (v_X7_requestOf C hr hlk z u p1 p2))

/-! MastRobotsModel.nextBy -/
def f_X7_nextBy (u : UX) (p1 : Int32) : Option (Int32) :=
  ((f_X7_in p1 0 3).bind fun r3 => (if r3 = 0 then some (-1000001) else ((f_X7_next u p1).bind fun r14 => (if 0 ≤ r14 then some r14 else some (-1000004)))))
set_option maxRecDepth 20000 in
theorem v_X7_nextBy {x : Am} {d : Dt} {a : Nat → Nat} (C : Cx x cX7_nextBy 3 yX7_nextBy.cls d (Iro d x.s.heap)) (hr : x.meth.sig.returnType = (some .int)) (hlk : x.meth.locks = false) (z : Int32) (u : UX) (p1 : Int32) : V x (rmF 3 71) 0 0 (MQ x.below (QR (some (.int z))) x.args x.s 0 0 (fun _ => False)) 3 (Iro d x.s.heap) (f_X7_nextBy u p1 = some z) 0 (WX d a u) [some (.ref (a 0)), some (.int p1), none] [] := by
  unfold f_X7_nextBy
  refine V_iload_n C 1 dX7_nextBy_0 rfl rfl ?_
  refine V_iconst (v := 0) C dX7_nextBy_1 (by decide) ?_
  refine V_iconst (v := 3) C dX7_nextBy_2 (by decide) ?_
  refine V_callSi (As := [.int p1, .int 0, .int 3]) (rest := []) (wc := []) C (fun r h => ct_X7_in _ d p1 0 3 r h) ks_X7_in kl_X7_26 [] dX7_nextBy_3 rfl rfl (Nat.le_of_ble_eq_true rfl) ⟨(Nat.le_of_ble_eq_true rfl), (Nat.le_of_ble_eq_true rfl)⟩ rfl rfl ⟨Nat.le_refl _, Nat.le_refl _⟩ rfl (fun r3 hr3 => ?_)
  refine V_if_ne (tgt := 12) C dX7_nextBy_6 (by decide) ?_ ?_
  · refine V_aload_n C 0 dX7_nextBy_12 rfl rfl ?_
    refine V_iload_n C 1 dX7_nextBy_13 rfl rfl ?_
    refine V_callRi (As := [.int p1]) (rest := []) (wc := WX d a u) C (fun r h => ct_X7_next _ d a u p1 r h) kv_X7_next kl_X7_115 [0, 1, 2, 3, 4, 5] dX7_nextBy_14 rfl rfl rfl rfl (Nat.le_of_ble_eq_true rfl) ⟨(Nat.le_of_ble_eq_true rfl), (Nat.le_of_ble_eq_true rfl)⟩ rfl rfl ⟨Nat.le_refl _, Nat.le_refl _⟩ rfl (fun r14 hr14 => ?_)
    refine V_istore_n (lv' := [some (.ref (a 0)), some (.int p1), some (.int r14)]) C 2 dX7_nextBy_17 rfl (by decide) rfl ?_
    refine V_iload_n C 2 dX7_nextBy_18 rfl rfl ?_
    refine V_if_ge (tgt := 27) C dX7_nextBy_19 (by decide) ?_ ?_
    · refine V_iload_n C 2 dX7_nextBy_27 rfl rfl ?_
      exact V_iretR C hr hlk dX7_nextBy_28
    · refine V_ldc C kc_X7_136 dX7_nextBy_22 ?_
      refine V_goto (tgt := 28) C dX7_nextBy_24 (by decide) ?_
      exact V_iretR C hr hlk dX7_nextBy_28
  · refine V_ldc C kc_X7_30 dX7_nextBy_9 ?_
    exact V_iretR C hr hlk dX7_nextBy_11
set_option maxRecDepth 20000 in
theorem ct_X7_nextBy (l : Launch) (d : Dt) (a : Nat → Nat) (u : UX) (p1 : Int32) (z : Int32) (h : f_X7_nextBy u p1 = some z) : CtR l d yX7_nextBy cX7_nextBy 3 (some .int) (rmF 3 71) [.ref (a 0), .int p1] (WX d a u) (some (.int z)) :=
  CtR.start (by decide) (Nat.le_of_ble_eq_true rfl) (by simp [Value.category]) [some (.ref (a 0)), some (.int p1), none] rfl (fun x C hr hlk => V_eqv (fun _ => h) (v_X7_nextBy C hr hlk z u p1))

/-! MastRobotsModel.would -/
def f_X7_would (u : UX) (p1 : Int32) (p2 : Int32) : Option (Int32 × UX) :=
  ((f_X7_in p1 0 3).bind fun r3 => (if r3 = 0 then some ((-1000001), u) else ((f_X7_in p2 0 4).bind fun r12 => (if r12 = 0 then some ((-1000001), u) else ((f_X7_puts u).bind fun r22 => ((f_X7_servesBy r22 p1).bind fun r27 => ((f_X7_restores r27.2).bind fun r49 => (if r27.1 = (-1000002) then some ((-1000002), r49) else (if p2 = 0 then some (((r27.2.1 0) - (r49.1 0)), r49) else (if p2 = 1 then some (((r27.2.1 10) - (r49.1 10)), r49) else (if p2 = 2 then some (r27.1, r49) else (if p2 = 3 then some (r49.2.2.2.2.2.2.2.2.2.2.2.2.1, r49) else some (r49.2.2.2.2.2.2.2.2.2.2.2.2.2, r49)))))))))))))
set_option maxRecDepth 20000 in
theorem v_X7_would {x : Am} {d : Dt} {A : Nat → Prop} {a : Nat → Nat} (C : Cx x cX7_would 6 yX7_would.cls d (Imu d A x.s.heap)) (hr : x.meth.sig.returnType = (some .int)) (hlk : x.meth.locks = false) (z : Int32 × UX) (u : UX) (p1 : Int32) (p2 : Int32) : V x (rmF 6 136) 0 0 (MQ x.below (QW d A (WX d a z.2) (some (.int z.1))) x.args x.s 0 0 A) 6 (Imu d A x.s.heap) (f_X7_would u p1 p2 = some z) 0 (WX d a u) [some (.ref (a 0)), some (.int p1), some (.int p2), none, none, none] [] := by
  unfold f_X7_would
  refine V_iload_n C 1 dX7_would_0 rfl rfl ?_
  refine V_iconst (v := 0) C dX7_would_1 (by decide) ?_
  refine V_iconst (v := 3) C dX7_would_2 (by decide) ?_
  refine V_callSi (As := [.int p1, .int 0, .int 3]) (rest := []) (wc := []) C (fun r h => ct_X7_in _ d p1 0 3 r h) ks_X7_in kl_X7_26 [] dX7_would_3 rfl rfl (Nat.le_of_ble_eq_true rfl) ⟨(Nat.le_of_ble_eq_true rfl), (Nat.le_of_ble_eq_true rfl)⟩ rfl rfl ⟨Nat.le_refl _, Nat.le_refl _⟩ rfl (fun r3 hr3 => ?_)
  refine V_if_eq (tgt := 18) C dX7_would_6 (by decide) ?_ ?_
  · refine V_ldc C kc_X7_30 dX7_would_18 ?_
    exact V_iretW (Wd := fun w => WX d a w) C hr hlk dX7_would_20 rfl
  · refine V_iload_n C 2 dX7_would_9 rfl rfl ?_
    refine V_iconst (v := 0) C dX7_would_10 (by decide) ?_
    refine V_iconst (v := 4) C dX7_would_11 (by decide) ?_
    refine V_callSi (As := [.int p2, .int 0, .int 4]) (rest := []) (wc := []) C (fun r h => ct_X7_in _ d p2 0 4 r h) ks_X7_in kl_X7_26 [] dX7_would_12 rfl rfl (Nat.le_of_ble_eq_true rfl) ⟨(Nat.le_of_ble_eq_true rfl), (Nat.le_of_ble_eq_true rfl)⟩ rfl rfl ⟨Nat.le_refl _, Nat.le_refl _⟩ rfl (fun r12 hr12 => ?_)
    refine V_if_ne (tgt := 21) C dX7_would_15 (by decide) ?_ ?_
    · refine V_aload_n C 0 dX7_would_21 rfl rfl ?_
      refine V_callWv (As := []) (rest := []) (wc := WX d a u) (Wd := fun w => WX d a w) C (fun r h => ct_X7_puts _ d a u r h) kv_X7_puts kl_X7_140 [0, 1, 2, 3, 4, 5] (fun w => WX d a w) dX7_would_22 rfl rfl (fun _ => rfl) (fun _ => rfl) rfl rfl rfl (Nat.le_of_ble_eq_true rfl) ⟨(Nat.le_of_ble_eq_true rfl), (Nat.le_of_ble_eq_true rfl)⟩ rfl rfl ⟨Nat.le_refl _, Nat.le_refl _⟩ rfl (fun r22 hr22 => ?_)
      refine V_aload_n C 0 dX7_would_25 rfl rfl ?_
      refine V_iload_n C 1 dX7_would_26 rfl rfl ?_
      refine V_callWi (As := [.int p1]) (rest := []) (wc := WX d a r22) (Wd := fun w => WX d a w) C (fun r h => ct_X7_servesBy _ d a r22 p1 r h) kv_X7_servesBy kl_X7_133 [0, 1, 2, 3, 4, 5] (fun w => WX d a w) dX7_would_27 rfl rfl (fun _ => rfl) (fun _ => rfl) rfl rfl rfl (Nat.le_of_ble_eq_true rfl) ⟨(Nat.le_of_ble_eq_true rfl), (Nat.le_of_ble_eq_true rfl)⟩ rfl rfl ⟨Nat.le_refl _, Nat.le_refl _⟩ rfl (fun r27 hr27 => ?_)
      refine V_istore_n (lv' := [some (.ref (a 0)), some (.int p1), some (.int p2), some (.int r27.1), none, none]) C 3 dX7_would_30 rfl (by decide) rfl ?_
      refine V_aload_n C 0 dX7_would_31 rfl rfl ?_
      refine V_get (v := .ref (a 1)) C fx7 0 0 kf_X7_7 (by decide) rfl rfl dX7_would_32 ?_
      refine V_iconst (v := 0) C dX7_would_35 (by decide) ?_
      refine V_ialdc C 1 0 rfl (by decide) (by decide) dX7_would_36 ?_
      refine V_istore (lv' := [some (.ref (a 0)), some (.int p1), some (.int p2), some (.int r27.1), some (.int (r27.2.1 0)), none]) C dX7_would_37 (by decide) rfl ?_
      refine V_aload_n C 0 dX7_would_39 rfl rfl ?_
      refine V_get (v := .ref (a 1)) C fx7 0 0 kf_X7_7 (by decide) rfl rfl dX7_would_40 ?_
      refine V_bipush (v := 10) C dX7_would_43 (by decide) ?_
      refine V_ialdc C 1 10 rfl (by decide) (by decide) dX7_would_45 ?_
      refine V_istore (lv' := [some (.ref (a 0)), some (.int p1), some (.int p2), some (.int r27.1), some (.int (r27.2.1 0)), some (.int (r27.2.1 10))]) C dX7_would_46 (by decide) rfl ?_
      refine V_aload_n C 0 dX7_would_48 rfl rfl ?_
      refine V_callWv (As := []) (rest := []) (wc := WX d a r27.2) (Wd := fun w => WX d a w) C (fun r h => ct_X7_restores _ d a r27.2 r h) kv_X7_restores kl_X7_143 [0, 1, 2, 3, 4, 5] (fun w => WX d a w) dX7_would_49 rfl rfl (fun _ => rfl) (fun _ => rfl) rfl rfl rfl (Nat.le_of_ble_eq_true rfl) ⟨(Nat.le_of_ble_eq_true rfl), (Nat.le_of_ble_eq_true rfl)⟩ rfl rfl ⟨Nat.le_refl _, Nat.le_refl _⟩ rfl (fun r49 hr49 => ?_)
      refine V_iload_n C 3 dX7_would_52 rfl rfl ?_
      refine V_ldc C kc_X7_35 dX7_would_53 ?_
      refine V_icmp_ne (tgt := 61) C dX7_would_55 (by decide) ?_ ?_
      · refine V_iload_n C 2 dX7_would_61 rfl rfl ?_
        refine V_case (fun c0 => ?_) (fun c0 => ?_)
        · refine V_tsIn (tgt := 92) C c0 dX7_would_62 (by decide) (by decide) rfl (by decide) ?_
          refine V_iload C dX7_would_92 rfl ?_
          refine V_aload_n C 0 dX7_would_94 rfl rfl ?_
          refine V_get (v := .ref (a 1)) C fx7 0 0 kf_X7_7 (by decide) rfl rfl dX7_would_95 ?_
          refine V_iconst (v := 0) C dX7_would_98 (by decide) ?_
          refine V_ialdc C 1 0 rfl (by decide) (by decide) dX7_would_99 ?_
          refine V_isub C dX7_would_100 ?_
          exact V_iretW (Wd := fun w => WX d a w) C hr hlk dX7_would_101 rfl
        refine V_case (fun c1 => ?_) (fun c1 => ?_)
        · refine V_tsIn (tgt := 102) C c1 dX7_would_62 (by decide) (by decide) rfl (by decide) ?_
          refine V_iload C dX7_would_102 rfl ?_
          refine V_aload_n C 0 dX7_would_104 rfl rfl ?_
          refine V_get (v := .ref (a 1)) C fx7 0 0 kf_X7_7 (by decide) rfl rfl dX7_would_105 ?_
          refine V_bipush (v := 10) C dX7_would_108 (by decide) ?_
          refine V_ialdc C 1 10 rfl (by decide) (by decide) dX7_would_110 ?_
          refine V_isub C dX7_would_111 ?_
          exact V_iretW (Wd := fun w => WX d a w) C hr hlk dX7_would_112 rfl
        refine V_case (fun c2 => ?_) (fun c2 => ?_)
        · refine V_tsIn (tgt := 113) C c2 dX7_would_62 (by decide) (by decide) rfl (by decide) ?_
          refine V_iload_n C 3 dX7_would_113 rfl rfl ?_
          exact V_iretW (Wd := fun w => WX d a w) C hr hlk dX7_would_114 rfl
        refine V_case (fun c3 => ?_) (fun c3 => ?_)
        · refine V_tsIn (tgt := 115) C c3 dX7_would_62 (by decide) (by decide) rfl (by decide) ?_
          refine V_aload_n C 0 dX7_would_115 rfl rfl ?_
          refine V_get (v := .int r49.2.2.2.2.2.2.2.2.2.2.2.2.1) C fx7 0 12 kf_X7_124 (by decide) rfl rfl dX7_would_116 ?_
          exact V_iretW (Wd := fun w => WX d a w) C hr hlk dX7_would_119 rfl
        have i0 := neInt c0 (k := 0) (by decide)
        have i1 := neInt c1 (k := 1) (by decide)
        have i2 := neInt c2 (k := 2) (by decide)
        have i3 := neInt c3 (k := 3) (by decide)
        refine V_tsOut (tgt := 120) C dX7_would_62 (by omega) (by decide) ?_
        refine V_aload_n C 0 dX7_would_120 rfl rfl ?_
        refine V_get (v := .int r49.2.2.2.2.2.2.2.2.2.2.2.2.2) C fx7 0 13 kf_X7_127 (by decide) rfl rfl dX7_would_121 ?_
        exact V_iretW (Wd := fun w => WX d a w) C hr hlk dX7_would_124 rfl
      · refine V_ldc C kc_X7_35 dX7_would_58 ?_
        exact V_iretW (Wd := fun w => WX d a w) C hr hlk dX7_would_60 rfl
    · refine V_ldc C kc_X7_30 dX7_would_18 ?_
      exact V_iretW (Wd := fun w => WX d a w) C hr hlk dX7_would_20 rfl
set_option maxRecDepth 20000 in
theorem ct_X7_would (l : Launch) (d : Dt) (a : Nat → Nat) (u : UX) (p1 : Int32) (p2 : Int32) (z : Int32 × UX) (h : f_X7_would u p1 p2 = some z) : CtW l d yX7_would cX7_would 6 (some .int) (rmF 6 136) [.ref (a 0), .int p1, .int p2] (WX d a u) (WX d a z.2) (some (.int z.1)) :=
  CtW.start (by decide) (Nat.le_of_ble_eq_true rfl) (by simp [Value.category]) [some (.ref (a 0)), some (.int p1), some (.int p2), none, none, none] rfl (fun x A C hr hlk => V_eqv (fun _ => h) (v_X7_would C hr hlk z u p1 p2))

/-! MastRobotsModel.wayTo -/
def f_X7_wayTo (u : UX) (p1 : Int32) : Option (Int32 × UX) :=
  ((f_X7_in p1 0 7).bind fun r4 => (if r4 = 0 then some ((-1000001), u) else ((f_X7_puts u).bind fun r14 => ((f_X7_goes r14 p1).bind fun r19 => ((f_X7_restores r19).bind fun r30 => some (((r19.1 0) - (r30.1 0)), r30))))))
set_option maxRecDepth 20000 in
theorem v_X7_wayTo {x : Am} {d : Dt} {A : Nat → Prop} {a : Nat → Nat} (C : Cx x cX7_wayTo 3 yX7_wayTo.cls d (Imu d A x.s.heap)) (hr : x.meth.sig.returnType = (some .int)) (hlk : x.meth.locks = false) (z : Int32 × UX) (u : UX) (p1 : Int32) : V x (rmF 5 110) 0 0 (MQ x.below (QW d A (WX d a z.2) (some (.int z.1))) x.args x.s 0 0 A) 3 (Imu d A x.s.heap) (f_X7_wayTo u p1 = some z) 0 (WX d a u) [some (.ref (a 0)), some (.int p1), none] [] := by
  unfold f_X7_wayTo
  refine V_iload_n C 1 dX7_wayTo_0 rfl rfl ?_
  refine V_iconst (v := 0) C dX7_wayTo_1 (by decide) ?_
  refine V_bipush (v := 7) C dX7_wayTo_2 (by decide) ?_
  refine V_callSi (As := [.int p1, .int 0, .int 7]) (rest := []) (wc := []) C (fun r h => ct_X7_in _ d p1 0 7 r h) ks_X7_in kl_X7_26 [] dX7_wayTo_4 rfl rfl (Nat.le_of_ble_eq_true rfl) ⟨(Nat.le_of_ble_eq_true rfl), (Nat.le_of_ble_eq_true rfl)⟩ rfl rfl ⟨Nat.le_refl _, Nat.le_refl _⟩ rfl (fun r4 hr4 => ?_)
  refine V_if_ne (tgt := 13) C dX7_wayTo_7 (by decide) ?_ ?_
  · refine V_aload_n C 0 dX7_wayTo_13 rfl rfl ?_
    refine V_callWv (As := []) (rest := []) (wc := WX d a u) (Wd := fun w => WX d a w) C (fun r h => ct_X7_puts _ d a u r h) kv_X7_puts kl_X7_140 [0, 1, 2, 3, 4, 5] (fun w => WX d a w) dX7_wayTo_14 rfl rfl (fun _ => rfl) (fun _ => rfl) rfl rfl rfl (Nat.le_of_ble_eq_true rfl) ⟨(Nat.le_of_ble_eq_true rfl), (Nat.le_of_ble_eq_true rfl)⟩ rfl rfl ⟨Nat.le_refl _, Nat.le_refl _⟩ rfl (fun r14 hr14 => ?_)
    refine V_aload_n C 0 dX7_wayTo_17 rfl rfl ?_
    refine V_iload_n C 1 dX7_wayTo_18 rfl rfl ?_
    refine V_callWv (As := [.int p1]) (rest := []) (wc := WX d a r14) (Wd := fun w => WX d a w) C (fun r h => ct_X7_goes _ d a r14 p1 r h) kv_X7_goes kl_X7_130 [0, 1, 2, 3, 4, 5] (fun w => WX d a w) dX7_wayTo_19 rfl rfl (fun _ => rfl) (fun _ => rfl) rfl rfl rfl (Nat.le_of_ble_eq_true rfl) ⟨(Nat.le_of_ble_eq_true rfl), (Nat.le_of_ble_eq_true rfl)⟩ rfl rfl ⟨Nat.le_refl _, Nat.le_refl _⟩ rfl (fun r19 hr19 => ?_)
    refine V_aload_n C 0 dX7_wayTo_22 rfl rfl ?_
    refine V_get (v := .ref (a 1)) C fx7 0 0 kf_X7_7 (by decide) rfl rfl dX7_wayTo_23 ?_
    refine V_iconst (v := 0) C dX7_wayTo_26 (by decide) ?_
    refine V_ialdc C 1 0 rfl (by decide) (by decide) dX7_wayTo_27 ?_
    refine V_istore_n (lv' := [some (.ref (a 0)), some (.int p1), some (.int (r19.1 0))]) C 2 dX7_wayTo_28 rfl (by decide) rfl ?_
    refine V_aload_n C 0 dX7_wayTo_29 rfl rfl ?_
    refine V_callWv (As := []) (rest := []) (wc := WX d a r19) (Wd := fun w => WX d a w) C (fun r h => ct_X7_restores _ d a r19 r h) kv_X7_restores kl_X7_143 [0, 1, 2, 3, 4, 5] (fun w => WX d a w) dX7_wayTo_30 rfl rfl (fun _ => rfl) (fun _ => rfl) rfl rfl rfl (Nat.le_of_ble_eq_true rfl) ⟨(Nat.le_of_ble_eq_true rfl), (Nat.le_of_ble_eq_true rfl)⟩ rfl rfl ⟨Nat.le_refl _, Nat.le_refl _⟩ rfl (fun r30 hr30 => ?_)
    refine V_iload_n C 2 dX7_wayTo_33 rfl rfl ?_
    refine V_aload_n C 0 dX7_wayTo_34 rfl rfl ?_
    refine V_get (v := .ref (a 1)) C fx7 0 0 kf_X7_7 (by decide) rfl rfl dX7_wayTo_35 ?_
    refine V_iconst (v := 0) C dX7_wayTo_38 (by decide) ?_
    refine V_ialdc C 1 0 rfl (by decide) (by decide) dX7_wayTo_39 ?_
    refine V_isub C dX7_wayTo_40 ?_
    exact V_iretW (Wd := fun w => WX d a w) C hr hlk dX7_wayTo_41 rfl
  · refine V_ldc C kc_X7_30 dX7_wayTo_10 ?_
    exact V_iretW (Wd := fun w => WX d a w) C hr hlk dX7_wayTo_12 rfl
set_option maxRecDepth 20000 in
theorem ct_X7_wayTo (l : Launch) (d : Dt) (a : Nat → Nat) (u : UX) (p1 : Int32) (z : Int32 × UX) (h : f_X7_wayTo u p1 = some z) : CtW l d yX7_wayTo cX7_wayTo 3 (some .int) (rmF 5 110) [.ref (a 0), .int p1] (WX d a u) (WX d a z.2) (some (.int z.1)) :=
  CtW.start (by decide) (Nat.le_of_ble_eq_true rfl) (by simp [Value.category]) [some (.ref (a 0)), some (.int p1), none] rfl (fun x A C hr hlk => V_eqv (fun _ => h) (v_X7_wayTo C hr hlk z u p1))

/-! MastRobotsModel.wholeBatch -/
def f_X7_wholeBatch_b51 (u : UX) (v2 : Int32) (v3 : Int32) : Option (Int32 × UX) :=
  ((f_X7_restores u).bind fun r69 => (if v2 = 0 then some (((u.1 0) - (r69.1 0)), r69) else (if v2 = 1 then some (v3, r69) else some ((u.1 8), r69))))
def f_X7_wholeBatch_b27 : Nat → UX → Int32 → Int32 → Int32 → Option (Int32 × UX)
  | 0, _, _, _, _ => none
  | n + 1, u, v1, v2, v3 => (if (u.1 8) ≤ 0 then f_X7_wholeBatch_b51 u v2 v3 else ((f_X7_servesBy u v1).bind fun r39 => (if r39.1 < 0 then f_X7_wholeBatch_b51 r39.2 v2 v3 else f_X7_wholeBatch_b27 n r39.2 v1 v2 (v3 + 1))))
def f_X7_wholeBatch (u : UX) (p1 : Int32) (p2 : Int32) : Option (Int32 × UX) :=
  ((f_X7_in p1 0 3).bind fun r3 => (if r3 = 0 then some ((-1000001), u) else ((f_X7_in p2 0 2).bind fun r12 => (if r12 = 0 then some ((-1000001), u) else ((f_X7_puts u).bind fun r22 => f_X7_wholeBatch_b27 FUEL r22 p1 p2 0)))))
set_option maxRecDepth 20000 in
theorem v_X7_wholeBatch_b51 {x : Am} {d : Dt} {A : Nat → Prop} {a : Nat → Nat} (C : Cx x cX7_wholeBatch 6 yX7_wholeBatch.cls d (Imu d A x.s.heap)) (hr : x.meth.sig.returnType = (some .int)) (hlk : x.meth.locks = false) (z : Int32 × UX) (u : UX) (v2 : Int32) (v3 : Int32) : V x (rmF 6 136) 0 0 (MQ x.below (QW d A (WX d a z.2) (some (.int z.1))) x.args x.s 0 0 A) 6 (Imu d A x.s.heap) (f_X7_wholeBatch_b51 u v2 v3 = some z) 51 (WX d a u) [some (.ref (a 0)), none, some (.int v2), some (.int v3), none, none] [] := by
  unfold f_X7_wholeBatch_b51
  refine V_aload_n C 0 dX7_wholeBatch_51 rfl rfl ?_
  refine V_get (v := .ref (a 1)) C fx7 0 0 kf_X7_7 (by decide) rfl rfl dX7_wholeBatch_52 ?_
  refine V_iconst (v := 0) C dX7_wholeBatch_55 (by decide) ?_
  refine V_ialdc C 1 0 rfl (by decide) (by decide) dX7_wholeBatch_56 ?_
  refine V_istore (lv' := [some (.ref (a 0)), none, some (.int v2), some (.int v3), some (.int (u.1 0)), none]) C dX7_wholeBatch_57 (by decide) rfl ?_
  refine V_aload_n C 0 dX7_wholeBatch_59 rfl rfl ?_
  refine V_get (v := .ref (a 1)) C fx7 0 0 kf_X7_7 (by decide) rfl rfl dX7_wholeBatch_60 ?_
  refine V_bipush (v := 8) C dX7_wholeBatch_63 (by decide) ?_
  refine V_ialdc C 1 8 rfl (by decide) (by decide) dX7_wholeBatch_65 ?_
  refine V_istore (lv' := [some (.ref (a 0)), none, some (.int v2), some (.int v3), some (.int (u.1 0)), some (.int (u.1 8))]) C dX7_wholeBatch_66 (by decide) rfl ?_
  refine V_aload_n C 0 dX7_wholeBatch_68 rfl rfl ?_
  refine V_callWv (As := []) (rest := []) (wc := WX d a u) (Wd := fun w => WX d a w) C (fun r h => ct_X7_restores _ d a u r h) kv_X7_restores kl_X7_143 [0, 1, 2, 3, 4, 5] (fun w => WX d a w) dX7_wholeBatch_69 rfl rfl (fun _ => rfl) (fun _ => rfl) rfl rfl rfl (Nat.le_of_ble_eq_true rfl) ⟨(Nat.le_of_ble_eq_true rfl), (Nat.le_of_ble_eq_true rfl)⟩ rfl rfl ⟨Nat.le_refl _, Nat.le_refl _⟩ rfl (fun r69 hr69 => ?_)
  refine V_iload_n C 2 dX7_wholeBatch_72 rfl rfl ?_
  refine V_if_ne (tgt := 88) C dX7_wholeBatch_73 (by decide) ?_ ?_
  · refine V_iload_n C 2 dX7_wholeBatch_88 rfl rfl ?_
    refine V_iconst (v := 1) C dX7_wholeBatch_89 (by decide) ?_
    refine V_icmp_ne (tgt := 97) C dX7_wholeBatch_90 (by decide) ?_ ?_
    · refine V_iload C dX7_wholeBatch_97 rfl ?_
      exact V_iretW (Wd := fun w => WX d a w) C hr hlk dX7_wholeBatch_99 rfl
    · refine V_iload_n C 3 dX7_wholeBatch_93 rfl rfl ?_
      refine V_goto (tgt := 99) C dX7_wholeBatch_94 (by decide) ?_
      exact V_iretW (Wd := fun w => WX d a w) C hr hlk dX7_wholeBatch_99 rfl
  · refine V_iload C dX7_wholeBatch_76 rfl ?_
    refine V_aload_n C 0 dX7_wholeBatch_78 rfl rfl ?_
    refine V_get (v := .ref (a 1)) C fx7 0 0 kf_X7_7 (by decide) rfl rfl dX7_wholeBatch_79 ?_
    refine V_iconst (v := 0) C dX7_wholeBatch_82 (by decide) ?_
    refine V_ialdc C 1 0 rfl (by decide) (by decide) dX7_wholeBatch_83 ?_
    refine V_isub C dX7_wholeBatch_84 ?_
    refine V_goto (tgt := 99) C dX7_wholeBatch_85 (by decide) ?_
    exact V_iretW (Wd := fun w => WX d a w) C hr hlk dX7_wholeBatch_99 rfl
set_option maxRecDepth 20000 in
theorem v_X7_wholeBatch_b27 {x : Am} {d : Dt} {A : Nat → Prop} {a : Nat → Nat} (C : Cx x cX7_wholeBatch 6 yX7_wholeBatch.cls d (Imu d A x.s.heap)) (hr : x.meth.sig.returnType = (some .int)) (hlk : x.meth.locks = false) (z : Int32 × UX) (n : Nat) (u : UX) (v1 : Int32) (v2 : Int32) (v3 : Int32) : V x (rmF 6 136) 0 0 (MQ x.below (QW d A (WX d a z.2) (some (.int z.1))) x.args x.s 0 0 A) 6 (Imu d A x.s.heap) (f_X7_wholeBatch_b27 n u v1 v2 v3 = some z) 27 (WX d a u) [some (.ref (a 0)), some (.int v1), some (.int v2), some (.int v3), none, none] [] := by
  induction n generalizing u v1 v2 v3 with
  | zero => exact V_none
  | succ n ih =>
    rw [f_X7_wholeBatch_b27]
    refine V_aload_n C 0 dX7_wholeBatch_27 rfl rfl ?_
    refine V_get (v := .ref (a 1)) C fx7 0 0 kf_X7_7 (by decide) rfl rfl dX7_wholeBatch_28 ?_
    refine V_bipush (v := 8) C dX7_wholeBatch_31 (by decide) ?_
    refine V_ialdc C 1 8 rfl (by decide) (by decide) dX7_wholeBatch_33 ?_
    refine V_if_le (tgt := 51) C dX7_wholeBatch_34 (by decide) ?_ ?_
    · refine V_mask (lv' := [some (.ref (a 0)), none, some (.int v2), some (.int v3), none, none]) [true, false, true, true, true, true] rfl ?_
      exact v_X7_wholeBatch_b51 C hr hlk z u v2 v3
    · refine V_aload_n C 0 dX7_wholeBatch_37 rfl rfl ?_
      refine V_iload_n C 1 dX7_wholeBatch_38 rfl rfl ?_
      refine V_callWi (As := [.int v1]) (rest := []) (wc := WX d a u) (Wd := fun w => WX d a w) C (fun r h => ct_X7_servesBy _ d a u v1 r h) kv_X7_servesBy kl_X7_133 [0, 1, 2, 3, 4, 5] (fun w => WX d a w) dX7_wholeBatch_39 rfl rfl (fun _ => rfl) (fun _ => rfl) rfl rfl rfl (Nat.le_of_ble_eq_true rfl) ⟨(Nat.le_of_ble_eq_true rfl), (Nat.le_of_ble_eq_true rfl)⟩ rfl rfl ⟨Nat.le_refl _, Nat.le_refl _⟩ rfl (fun r39 hr39 => ?_)
      refine V_if_lt (tgt := 51) C dX7_wholeBatch_42 (by decide) ?_ ?_
      · refine V_mask (lv' := [some (.ref (a 0)), none, some (.int v2), some (.int v3), none, none]) [true, false, true, true, true, true] rfl ?_
        exact v_X7_wholeBatch_b51 C hr hlk z r39.2 v2 v3
      · refine V_iinc (v := (v3 + 1)) (lv' := [some (.ref (a 0)), some (.int v1), some (.int v2), some (.int (v3 + 1)), none, none]) C dX7_wholeBatch_45 rfl rfl (by decide) rfl ?_
        refine V_goto (tgt := 27) C dX7_wholeBatch_48 (by decide) ?_
        exact ih r39.2 v1 v2 (v3 + 1)
set_option maxRecDepth 20000 in
theorem v_X7_wholeBatch {x : Am} {d : Dt} {A : Nat → Prop} {a : Nat → Nat} (C : Cx x cX7_wholeBatch 6 yX7_wholeBatch.cls d (Imu d A x.s.heap)) (hr : x.meth.sig.returnType = (some .int)) (hlk : x.meth.locks = false) (z : Int32 × UX) (u : UX) (p1 : Int32) (p2 : Int32) : V x (rmF 6 136) 0 0 (MQ x.below (QW d A (WX d a z.2) (some (.int z.1))) x.args x.s 0 0 A) 6 (Imu d A x.s.heap) (f_X7_wholeBatch u p1 p2 = some z) 0 (WX d a u) [some (.ref (a 0)), some (.int p1), some (.int p2), none, none, none] [] := by
  unfold f_X7_wholeBatch
  refine V_iload_n C 1 dX7_wholeBatch_0 rfl rfl ?_
  refine V_iconst (v := 0) C dX7_wholeBatch_1 (by decide) ?_
  refine V_iconst (v := 3) C dX7_wholeBatch_2 (by decide) ?_
  refine V_callSi (As := [.int p1, .int 0, .int 3]) (rest := []) (wc := []) C (fun r h => ct_X7_in _ d p1 0 3 r h) ks_X7_in kl_X7_26 [] dX7_wholeBatch_3 rfl rfl (Nat.le_of_ble_eq_true rfl) ⟨(Nat.le_of_ble_eq_true rfl), (Nat.le_of_ble_eq_true rfl)⟩ rfl rfl ⟨Nat.le_refl _, Nat.le_refl _⟩ rfl (fun r3 hr3 => ?_)
  refine V_if_eq (tgt := 18) C dX7_wholeBatch_6 (by decide) ?_ ?_
  · refine V_ldc C kc_X7_30 dX7_wholeBatch_18 ?_
    exact V_iretW (Wd := fun w => WX d a w) C hr hlk dX7_wholeBatch_20 rfl
  · refine V_iload_n C 2 dX7_wholeBatch_9 rfl rfl ?_
    refine V_iconst (v := 0) C dX7_wholeBatch_10 (by decide) ?_
    refine V_iconst (v := 2) C dX7_wholeBatch_11 (by decide) ?_
    refine V_callSi (As := [.int p2, .int 0, .int 2]) (rest := []) (wc := []) C (fun r h => ct_X7_in _ d p2 0 2 r h) ks_X7_in kl_X7_26 [] dX7_wholeBatch_12 rfl rfl (Nat.le_of_ble_eq_true rfl) ⟨(Nat.le_of_ble_eq_true rfl), (Nat.le_of_ble_eq_true rfl)⟩ rfl rfl ⟨Nat.le_refl _, Nat.le_refl _⟩ rfl (fun r12 hr12 => ?_)
    refine V_if_ne (tgt := 21) C dX7_wholeBatch_15 (by decide) ?_ ?_
    · refine V_aload_n C 0 dX7_wholeBatch_21 rfl rfl ?_
      refine V_callWv (As := []) (rest := []) (wc := WX d a u) (Wd := fun w => WX d a w) C (fun r h => ct_X7_puts _ d a u r h) kv_X7_puts kl_X7_140 [0, 1, 2, 3, 4, 5] (fun w => WX d a w) dX7_wholeBatch_22 rfl rfl (fun _ => rfl) (fun _ => rfl) rfl rfl rfl (Nat.le_of_ble_eq_true rfl) ⟨(Nat.le_of_ble_eq_true rfl), (Nat.le_of_ble_eq_true rfl)⟩ rfl rfl ⟨Nat.le_refl _, Nat.le_refl _⟩ rfl (fun r22 hr22 => ?_)
      refine V_iconst (v := 0) C dX7_wholeBatch_25 (by decide) ?_
      refine V_istore_n (lv' := [some (.ref (a 0)), some (.int p1), some (.int p2), some (.int 0), none, none]) C 3 dX7_wholeBatch_26 rfl (by decide) rfl ?_
      exact v_X7_wholeBatch_b27 C hr hlk z FUEL r22 p1 p2 0
    · refine V_ldc C kc_X7_30 dX7_wholeBatch_18 ?_
      exact V_iretW (Wd := fun w => WX d a w) C hr hlk dX7_wholeBatch_20 rfl
set_option maxRecDepth 20000 in
theorem ct_X7_wholeBatch (l : Launch) (d : Dt) (a : Nat → Nat) (u : UX) (p1 : Int32) (p2 : Int32) (z : Int32 × UX) (h : f_X7_wholeBatch u p1 p2 = some z) : CtW l d yX7_wholeBatch cX7_wholeBatch 6 (some .int) (rmF 6 136) [.ref (a 0), .int p1, .int p2] (WX d a u) (WX d a z.2) (some (.int z.1)) :=
  CtW.start (by decide) (Nat.le_of_ble_eq_true rfl) (by simp [Value.category]) [some (.ref (a 0)), some (.int p1), some (.int p2), none, none, none] rfl (fun x A C hr hlk => V_eqv (fun _ => h) (v_X7_wholeBatch C hr hlk z u p1 p2))

/-! MastRobotsModel.worn -/
def f_X7_worn_b32 (k4 : UX → Int32 → Int32 → Option (Int32)) (u : UX) (v2 : Int32) (s0 : Int32) (s1 : Int32) : Option (Int32) :=
  k4 u (s0 + s1) (v2 + 1)
def f_X7_worn_b4 : Nat → UX → Int32 → Int32 → Option (Int32)
  | 0, _, _, _ => none
  | n + 1, u, v1, v2 => (if (u.1 7) ≤ v2 then some v1 else ((f_X7_ca u v2 1).bind fun r19 => (if r19 < 6 then f_X7_worn_b32 (f_X7_worn_b4 n) u v2 v1 0 else f_X7_worn_b32 (f_X7_worn_b4 n) u v2 v1 1)))
def f_X7_worn (u : UX) : Option (Int32) :=
  f_X7_worn_b4 FUEL u 0 0
set_option maxRecDepth 20000 in
theorem v_X7_worn_b32 {x : Am} {d : Dt} {a : Nat → Nat} (C : Cx x cX7_worn 3 yX7_worn.cls d (Iro d x.s.heap)) (hr : x.meth.sig.returnType = (some .int)) (hlk : x.meth.locks = false) (z : Int32) (k4 : UX → Int32 → Int32 → Option (Int32)) (hk4 : ∀ (u : UX)(v1 : Int32)(v2 : Int32), V x (rmF 1 22) 0 0 (MQ x.below (QR (some (.int z))) x.args x.s 0 0 (fun _ => False)) 3 (Iro d x.s.heap) (k4 u v1 v2 = some z) 4 (WX d a u) [some (.ref (a 0)), some (.int v1), some (.int v2)] []) (u : UX) (v2 : Int32) (s0 : Int32) (s1 : Int32) : V x (rmF 1 22) 0 0 (MQ x.below (QR (some (.int z))) x.args x.s 0 0 (fun _ => False)) 3 (Iro d x.s.heap) (f_X7_worn_b32 k4 u v2 s0 s1 = some z) 32 (WX d a u) [some (.ref (a 0)), none, some (.int v2)] [.int s1, .int s0] := by
  unfold f_X7_worn_b32
  refine V_iadd C dX7_worn_32 ?_
  refine V_istore_n (lv' := [some (.ref (a 0)), some (.int (s0 + s1)), some (.int v2)]) C 1 dX7_worn_33 rfl (by decide) rfl ?_
  refine V_iinc (v := (v2 + 1)) (lv' := [some (.ref (a 0)), some (.int (s0 + s1)), some (.int (v2 + 1))]) C dX7_worn_34 rfl rfl (by decide) rfl ?_
  refine V_goto (tgt := 4) C dX7_worn_37 (by decide) ?_
  exact hk4 u (s0 + s1) (v2 + 1)
set_option maxRecDepth 20000 in
theorem v_X7_worn_b4 {x : Am} {d : Dt} {a : Nat → Nat} (C : Cx x cX7_worn 3 yX7_worn.cls d (Iro d x.s.heap)) (hr : x.meth.sig.returnType = (some .int)) (hlk : x.meth.locks = false) (z : Int32) (n : Nat) (u : UX) (v1 : Int32) (v2 : Int32) : V x (rmF 1 22) 0 0 (MQ x.below (QR (some (.int z))) x.args x.s 0 0 (fun _ => False)) 3 (Iro d x.s.heap) (f_X7_worn_b4 n u v1 v2 = some z) 4 (WX d a u) [some (.ref (a 0)), some (.int v1), some (.int v2)] [] := by
  induction n generalizing u v1 v2 with
  | zero => exact V_none
  | succ n ih =>
    rw [f_X7_worn_b4]
    refine V_iload_n C 2 dX7_worn_4 rfl rfl ?_
    refine V_aload_n C 0 dX7_worn_5 rfl rfl ?_
    refine V_get (v := .ref (a 1)) C fx7 0 0 kf_X7_7 (by decide) rfl rfl dX7_worn_6 ?_
    refine V_bipush (v := 7) C dX7_worn_9 (by decide) ?_
    refine V_ialdc C 1 7 rfl (by decide) (by decide) dX7_worn_11 ?_
    refine V_icmp_ge (tgt := 40) C dX7_worn_12 (by decide) ?_ ?_
    · refine V_iload_n C 1 dX7_worn_40 rfl rfl ?_
      exact V_iretR C hr hlk dX7_worn_41
    · refine V_iload_n C 1 dX7_worn_15 rfl rfl ?_
      refine V_aload_n C 0 dX7_worn_16 rfl rfl ?_
      refine V_iload_n C 2 dX7_worn_17 rfl rfl ?_
      refine V_iconst (v := 1) C dX7_worn_18 (by decide) ?_
      refine V_callRi (As := [.int v2, .int 1]) (rest := [.int v1]) (wc := WX d a u) C (fun r h => ct_X7_ca _ d a u v2 1 r h) kv_X7_ca kl_X7_44 [0, 1, 2, 3, 4, 5] dX7_worn_19 rfl rfl rfl rfl (Nat.le_of_ble_eq_true rfl) ⟨(Nat.le_of_ble_eq_true rfl), (Nat.le_of_ble_eq_true rfl)⟩ rfl rfl ⟨Nat.le_refl _, Nat.le_refl _⟩ rfl (fun r19 hr19 => ?_)
      refine V_bipush (v := 6) C dX7_worn_22 (by decide) ?_
      refine V_icmp_lt (tgt := 31) C dX7_worn_24 (by decide) ?_ ?_
      · refine V_iconst (v := 0) C dX7_worn_31 (by decide) ?_
        refine V_mask (lv' := [some (.ref (a 0)), none, some (.int v2)]) [true, false, true] rfl ?_
        exact v_X7_worn_b32 C hr hlk z (f_X7_worn_b4  n) ih u v2 v1 0
      · refine V_iconst (v := 1) C dX7_worn_27 (by decide) ?_
        refine V_goto (tgt := 32) C dX7_worn_28 (by decide) ?_
        refine V_mask (lv' := [some (.ref (a 0)), none, some (.int v2)]) [true, false, true] rfl ?_
        exact v_X7_worn_b32 C hr hlk z (f_X7_worn_b4  n) ih u v2 v1 1
set_option maxRecDepth 20000 in
theorem v_X7_worn {x : Am} {d : Dt} {a : Nat → Nat} (C : Cx x cX7_worn 3 yX7_worn.cls d (Iro d x.s.heap)) (hr : x.meth.sig.returnType = (some .int)) (hlk : x.meth.locks = false) (z : Int32) (u : UX) : V x (rmF 1 22) 0 0 (MQ x.below (QR (some (.int z))) x.args x.s 0 0 (fun _ => False)) 3 (Iro d x.s.heap) (f_X7_worn u = some z) 0 (WX d a u) [some (.ref (a 0)), none, none] [] := by
  unfold f_X7_worn
  refine V_iconst (v := 0) C dX7_worn_0 (by decide) ?_
  refine V_istore_n (lv' := [some (.ref (a 0)), some (.int 0), none]) C 1 dX7_worn_1 rfl (by decide) rfl ?_
  refine V_iconst (v := 0) C dX7_worn_2 (by decide) ?_
  refine V_istore_n (lv' := [some (.ref (a 0)), some (.int 0), some (.int 0)]) C 2 dX7_worn_3 rfl (by decide) rfl ?_
  exact v_X7_worn_b4 C hr hlk z FUEL u 0 0
set_option maxRecDepth 20000 in
theorem ct_X7_worn (l : Launch) (d : Dt) (a : Nat → Nat) (u : UX) (z : Int32) (h : f_X7_worn u = some z) : CtR l d yX7_worn cX7_worn 3 (some .int) (rmF 1 22) [.ref (a 0)] (WX d a u) (some (.int z)) :=
  CtR.start (by decide) (Nat.le_of_ble_eq_true rfl) (by simp [Value.category]) [some (.ref (a 0)), none, none] rfl (fun x C hr hlk => V_eqv (fun _ => h) (v_X7_worn C hr hlk z u))

/-! MastRobotsModel.count -/
def f_X7_count (u : UX) (p1 : Int32) : Option (Int32) :=
  (if p1 = 0 then (if inb p1 264 = true then some (u.1 p1.toNatClampNeg) else none) else (if p1 = 1 then (if inb p1 264 = true then some (u.1 p1.toNatClampNeg) else none) else (if p1 = 2 then (if inb p1 264 = true then some (u.1 p1.toNatClampNeg) else none) else (if p1 = 3 then ((f_X7_weight u).bind fun r88 => some r88) else (if p1 = 4 then some (u.1 6) else (if p1 = 5 then some (u.1 7) else (if p1 = 6 then ((f_X7_withNeighbors u).bind fun r109 => some r109) else (if p1 = 7 then ((f_X7_worn u).bind fun r114 => some r114) else (if p1 = 8 then (if inb p1 264 = true then some (u.1 p1.toNatClampNeg) else none) else (if p1 = 9 then (if inb p1 264 = true then some (u.1 p1.toNatClampNeg) else none) else (if p1 = 10 then (if inb p1 264 = true then some (u.1 p1.toNatClampNeg) else none) else (if p1 = 11 then (if inb p1 264 = true then (if 0 ≤ (u.1 p1.toNatClampNeg) then (if inb p1 264 = true then some (u.1 p1.toNatClampNeg) else none) else some (-1000004)) else none) else (if p1 = 12 then (if inb p1 264 = true then (if 0 ≤ (u.1 p1.toNatClampNeg) then (if inb p1 264 = true then some (u.1 p1.toNatClampNeg) else none) else some (-1000004)) else none) else (if p1 = 13 then ((f_X7_files u (-1)).bind fun r150 => some (60 - r150)) else (if p1 = 14 then some u.2.2.2.2.1 else (if p1 = 15 then some u.2.2.2.2.2.2.1 else some (-1000001)))))))))))))))))
set_option maxRecDepth 20000 in
theorem v_X7_count {x : Am} {d : Dt} {a : Nat → Nat} (C : Cx x cX7_count 2 yX7_count.cls d (Iro d x.s.heap)) (hr : x.meth.sig.returnType = (some .int)) (hlk : x.meth.locks = false) (z : Int32) (u : UX) (p1 : Int32) : V x (rmF 2 44) 0 0 (MQ x.below (QR (some (.int z))) x.args x.s 0 0 (fun _ => False)) 2 (Iro d x.s.heap) (f_X7_count u p1 = some z) 0 (WX d a u) [some (.ref (a 0)), some (.int p1)] [] := by
  unfold f_X7_count
  refine V_iload_n C 1 dX7_count_0 rfl rfl ?_
  refine V_case (fun c0 => ?_) (fun c0 => ?_)
  · refine V_tsIn (tgt := 80) C c0 dX7_count_1 (by decide) (by decide) rfl (by decide) ?_
    refine V_aload_n C 0 dX7_count_80 rfl rfl ?_
    refine V_get (v := .ref (a 1)) C fx7 0 0 kf_X7_7 (by decide) rfl rfl dX7_count_81 ?_
    refine V_iload_n C 1 dX7_count_84 rfl rfl ?_
    refine V_iald C 1 rfl dX7_count_85 ?_
    exact V_iretR C hr hlk dX7_count_86
  refine V_case (fun c1 => ?_) (fun c1 => ?_)
  · refine V_tsIn (tgt := 80) C c1 dX7_count_1 (by decide) (by decide) rfl (by decide) ?_
    refine V_aload_n C 0 dX7_count_80 rfl rfl ?_
    refine V_get (v := .ref (a 1)) C fx7 0 0 kf_X7_7 (by decide) rfl rfl dX7_count_81 ?_
    refine V_iload_n C 1 dX7_count_84 rfl rfl ?_
    refine V_iald C 1 rfl dX7_count_85 ?_
    exact V_iretR C hr hlk dX7_count_86
  refine V_case (fun c2 => ?_) (fun c2 => ?_)
  · refine V_tsIn (tgt := 80) C c2 dX7_count_1 (by decide) (by decide) rfl (by decide) ?_
    refine V_aload_n C 0 dX7_count_80 rfl rfl ?_
    refine V_get (v := .ref (a 1)) C fx7 0 0 kf_X7_7 (by decide) rfl rfl dX7_count_81 ?_
    refine V_iload_n C 1 dX7_count_84 rfl rfl ?_
    refine V_iald C 1 rfl dX7_count_85 ?_
    exact V_iretR C hr hlk dX7_count_86
  refine V_case (fun c3 => ?_) (fun c3 => ?_)
  · refine V_tsIn (tgt := 87) C c3 dX7_count_1 (by decide) (by decide) rfl (by decide) ?_
    refine V_aload_n C 0 dX7_count_87 rfl rfl ?_
    refine V_callRi (As := []) (rest := []) (wc := WX d a u) C (fun r h => ct_X7_weight _ d a u r h) kv_X7_weight kl_X7_63 [0, 1, 2, 3, 4, 5] dX7_count_88 rfl rfl rfl rfl (Nat.le_of_ble_eq_true rfl) ⟨(Nat.le_of_ble_eq_true rfl), (Nat.le_of_ble_eq_true rfl)⟩ rfl rfl ⟨Nat.le_refl _, Nat.le_refl _⟩ rfl (fun r88 hr88 => ?_)
    exact V_iretR C hr hlk dX7_count_91
  refine V_case (fun c4 => ?_) (fun c4 => ?_)
  · refine V_tsIn (tgt := 92) C c4 dX7_count_1 (by decide) (by decide) rfl (by decide) ?_
    refine V_aload_n C 0 dX7_count_92 rfl rfl ?_
    refine V_get (v := .ref (a 1)) C fx7 0 0 kf_X7_7 (by decide) rfl rfl dX7_count_93 ?_
    refine V_bipush (v := 6) C dX7_count_96 (by decide) ?_
    refine V_ialdc C 1 6 rfl (by decide) (by decide) dX7_count_98 ?_
    exact V_iretR C hr hlk dX7_count_99
  refine V_case (fun c5 => ?_) (fun c5 => ?_)
  · refine V_tsIn (tgt := 100) C c5 dX7_count_1 (by decide) (by decide) rfl (by decide) ?_
    refine V_aload_n C 0 dX7_count_100 rfl rfl ?_
    refine V_get (v := .ref (a 1)) C fx7 0 0 kf_X7_7 (by decide) rfl rfl dX7_count_101 ?_
    refine V_bipush (v := 7) C dX7_count_104 (by decide) ?_
    refine V_ialdc C 1 7 rfl (by decide) (by decide) dX7_count_106 ?_
    exact V_iretR C hr hlk dX7_count_107
  refine V_case (fun c6 => ?_) (fun c6 => ?_)
  · refine V_tsIn (tgt := 108) C c6 dX7_count_1 (by decide) (by decide) rfl (by decide) ?_
    refine V_aload_n C 0 dX7_count_108 rfl rfl ?_
    refine V_callRi (As := []) (rest := []) (wc := WX d a u) C (fun r h => ct_X7_withNeighbors _ d a u r h) kv_X7_withNeighbors kl_X7_59 [0, 1, 2, 3, 4, 5] dX7_count_109 rfl rfl rfl rfl (Nat.le_of_ble_eq_true rfl) ⟨(Nat.le_of_ble_eq_true rfl), (Nat.le_of_ble_eq_true rfl)⟩ rfl rfl ⟨Nat.le_refl _, Nat.le_refl _⟩ rfl (fun r109 hr109 => ?_)
    exact V_iretR C hr hlk dX7_count_112
  refine V_case (fun c7 => ?_) (fun c7 => ?_)
  · refine V_tsIn (tgt := 113) C c7 dX7_count_1 (by decide) (by decide) rfl (by decide) ?_
    refine V_aload_n C 0 dX7_count_113 rfl rfl ?_
    refine V_callRi (As := []) (rest := []) (wc := WX d a u) C (fun r h => ct_X7_worn _ d a u r h) kv_X7_worn kl_X7_146 [0, 1, 2, 3, 4, 5] dX7_count_114 rfl rfl rfl rfl (Nat.le_of_ble_eq_true rfl) ⟨(Nat.le_of_ble_eq_true rfl), (Nat.le_of_ble_eq_true rfl)⟩ rfl rfl ⟨Nat.le_refl _, Nat.le_refl _⟩ rfl (fun r114 hr114 => ?_)
    exact V_iretR C hr hlk dX7_count_117
  refine V_case (fun c8 => ?_) (fun c8 => ?_)
  · refine V_tsIn (tgt := 118) C c8 dX7_count_1 (by decide) (by decide) rfl (by decide) ?_
    refine V_aload_n C 0 dX7_count_118 rfl rfl ?_
    refine V_get (v := .ref (a 1)) C fx7 0 0 kf_X7_7 (by decide) rfl rfl dX7_count_119 ?_
    refine V_iload_n C 1 dX7_count_122 rfl rfl ?_
    refine V_iald C 1 rfl dX7_count_123 ?_
    exact V_iretR C hr hlk dX7_count_124
  refine V_case (fun c9 => ?_) (fun c9 => ?_)
  · refine V_tsIn (tgt := 118) C c9 dX7_count_1 (by decide) (by decide) rfl (by decide) ?_
    refine V_aload_n C 0 dX7_count_118 rfl rfl ?_
    refine V_get (v := .ref (a 1)) C fx7 0 0 kf_X7_7 (by decide) rfl rfl dX7_count_119 ?_
    refine V_iload_n C 1 dX7_count_122 rfl rfl ?_
    refine V_iald C 1 rfl dX7_count_123 ?_
    exact V_iretR C hr hlk dX7_count_124
  refine V_case (fun c10 => ?_) (fun c10 => ?_)
  · refine V_tsIn (tgt := 118) C c10 dX7_count_1 (by decide) (by decide) rfl (by decide) ?_
    refine V_aload_n C 0 dX7_count_118 rfl rfl ?_
    refine V_get (v := .ref (a 1)) C fx7 0 0 kf_X7_7 (by decide) rfl rfl dX7_count_119 ?_
    refine V_iload_n C 1 dX7_count_122 rfl rfl ?_
    refine V_iald C 1 rfl dX7_count_123 ?_
    exact V_iretR C hr hlk dX7_count_124
  refine V_case (fun c11 => ?_) (fun c11 => ?_)
  · refine V_tsIn (tgt := 125) C c11 dX7_count_1 (by decide) (by decide) rfl (by decide) ?_
    refine V_aload_n C 0 dX7_count_125 rfl rfl ?_
    refine V_get (v := .ref (a 1)) C fx7 0 0 kf_X7_7 (by decide) rfl rfl dX7_count_126 ?_
    refine V_iload_n C 1 dX7_count_129 rfl rfl ?_
    refine V_iald C 1 rfl dX7_count_130 ?_
    refine V_if_ge (tgt := 139) C dX7_count_131 (by decide) ?_ ?_
    · refine V_aload_n C 0 dX7_count_139 rfl rfl ?_
      refine V_get (v := .ref (a 1)) C fx7 0 0 kf_X7_7 (by decide) rfl rfl dX7_count_140 ?_
      refine V_iload_n C 1 dX7_count_143 rfl rfl ?_
      refine V_iald C 1 rfl dX7_count_144 ?_
      exact V_iretR C hr hlk dX7_count_145
    · refine V_ldc C kc_X7_136 dX7_count_134 ?_
      refine V_goto (tgt := 145) C dX7_count_136 (by decide) ?_
      exact V_iretR C hr hlk dX7_count_145
  refine V_case (fun c12 => ?_) (fun c12 => ?_)
  · refine V_tsIn (tgt := 125) C c12 dX7_count_1 (by decide) (by decide) rfl (by decide) ?_
    refine V_aload_n C 0 dX7_count_125 rfl rfl ?_
    refine V_get (v := .ref (a 1)) C fx7 0 0 kf_X7_7 (by decide) rfl rfl dX7_count_126 ?_
    refine V_iload_n C 1 dX7_count_129 rfl rfl ?_
    refine V_iald C 1 rfl dX7_count_130 ?_
    refine V_if_ge (tgt := 139) C dX7_count_131 (by decide) ?_ ?_
    · refine V_aload_n C 0 dX7_count_139 rfl rfl ?_
      refine V_get (v := .ref (a 1)) C fx7 0 0 kf_X7_7 (by decide) rfl rfl dX7_count_140 ?_
      refine V_iload_n C 1 dX7_count_143 rfl rfl ?_
      refine V_iald C 1 rfl dX7_count_144 ?_
      exact V_iretR C hr hlk dX7_count_145
    · refine V_ldc C kc_X7_136 dX7_count_134 ?_
      refine V_goto (tgt := 145) C dX7_count_136 (by decide) ?_
      exact V_iretR C hr hlk dX7_count_145
  refine V_case (fun c13 => ?_) (fun c13 => ?_)
  · refine V_tsIn (tgt := 146) C c13 dX7_count_1 (by decide) (by decide) rfl (by decide) ?_
    refine V_bipush (v := 60) C dX7_count_146 (by decide) ?_
    refine V_aload_n C 0 dX7_count_148 rfl rfl ?_
    refine V_iconst (v := (-1)) C dX7_count_149 (by decide) ?_
    refine V_callRi (As := [.int (-1)]) (rest := [.int 60]) (wc := WX d a u) C (fun r h => ct_X7_files _ d a u (-1) r h) kv_X7_files kl_X7_100 [0, 1, 2, 3, 4, 5] dX7_count_150 rfl rfl rfl rfl (Nat.le_of_ble_eq_true rfl) ⟨(Nat.le_of_ble_eq_true rfl), (Nat.le_of_ble_eq_true rfl)⟩ rfl rfl ⟨Nat.le_refl _, Nat.le_refl _⟩ rfl (fun r150 hr150 => ?_)
    refine V_isub C dX7_count_153 ?_
    exact V_iretR C hr hlk dX7_count_154
  refine V_case (fun c14 => ?_) (fun c14 => ?_)
  · refine V_tsIn (tgt := 155) C c14 dX7_count_1 (by decide) (by decide) rfl (by decide) ?_
    refine V_aload_n C 0 dX7_count_155 rfl rfl ?_
    refine V_get (v := .int u.2.2.2.2.1) C fx7 0 4 kf_X7_31 (by decide) rfl rfl dX7_count_156 ?_
    exact V_iretR C hr hlk dX7_count_159
  refine V_case (fun c15 => ?_) (fun c15 => ?_)
  · refine V_tsIn (tgt := 160) C c15 dX7_count_1 (by decide) (by decide) rfl (by decide) ?_
    refine V_aload_n C 0 dX7_count_160 rfl rfl ?_
    refine V_get (v := .int u.2.2.2.2.2.2.1) C fx7 0 6 kf_X7_149 (by decide) rfl rfl dX7_count_161 ?_
    exact V_iretR C hr hlk dX7_count_164
  have i0 := neInt c0 (k := 0) (by decide)
  have i1 := neInt c1 (k := 1) (by decide)
  have i2 := neInt c2 (k := 2) (by decide)
  have i3 := neInt c3 (k := 3) (by decide)
  have i4 := neInt c4 (k := 4) (by decide)
  have i5 := neInt c5 (k := 5) (by decide)
  have i6 := neInt c6 (k := 6) (by decide)
  have i7 := neInt c7 (k := 7) (by decide)
  have i8 := neInt c8 (k := 8) (by decide)
  have i9 := neInt c9 (k := 9) (by decide)
  have i10 := neInt c10 (k := 10) (by decide)
  have i11 := neInt c11 (k := 11) (by decide)
  have i12 := neInt c12 (k := 12) (by decide)
  have i13 := neInt c13 (k := 13) (by decide)
  have i14 := neInt c14 (k := 14) (by decide)
  have i15 := neInt c15 (k := 15) (by decide)
  refine V_tsOut (tgt := 165) C dX7_count_1 (by omega) (by decide) ?_
  refine V_ldc C kc_X7_30 dX7_count_165 ?_
  exact V_iretR C hr hlk dX7_count_167
set_option maxRecDepth 20000 in
theorem ct_X7_count (l : Launch) (d : Dt) (a : Nat → Nat) (u : UX) (p1 : Int32) (z : Int32) (h : f_X7_count u p1 = some z) : CtR l d yX7_count cX7_count 2 (some .int) (rmF 2 44) [.ref (a 0), .int p1] (WX d a u) (some (.int z)) :=
  CtR.start (by decide) (Nat.le_of_ble_eq_true rfl) (by simp [Value.category]) [some (.ref (a 0)), some (.int p1)] rfl (fun x C hr hlk => V_eqv (fun _ => h) (v_X7_count C hr hlk z u p1))

/-! MastRobotsModel.undo -/
def f_X7_undo_b22 : Nat → UX → Int32 → Option (Int32 × UX)
  | 0, _, _ => none
  | n + 1, u, v1 => (if 264 ≤ v1 then some (u.2.2.2.2.1, u) else (if inb ((264 * u.2.2.2.2.1) + v1) 1056 = true then (if inb v1 264 = true then f_X7_undo_b22 n ((upd u.1 v1.toNatClampNeg (u.2.1 ((264 * u.2.2.2.2.1) + v1).toNatClampNeg)), u.2.1, u.2.2.1, u.2.2.2.1, u.2.2.2.2.1, u.2.2.2.2.2.1, u.2.2.2.2.2.2.1, u.2.2.2.2.2.2.2.1, u.2.2.2.2.2.2.2.2.1, u.2.2.2.2.2.2.2.2.2.1, u.2.2.2.2.2.2.2.2.2.2.1, u.2.2.2.2.2.2.2.2.2.2.2.1, u.2.2.2.2.2.2.2.2.2.2.2.2.1, u.2.2.2.2.2.2.2.2.2.2.2.2.2) (v1 + 1) else none) else none))
def f_X7_undo (u : UX) : Option (Int32 × UX) :=
  (if u.2.2.2.2.1 = 0 then some ((-1000002), u) else f_X7_undo_b22 FUEL (u.1, u.2.1, u.2.2.1, u.2.2.2.1, (u.2.2.2.2.1 - 1), u.2.2.2.2.2.1, u.2.2.2.2.2.2.1, u.2.2.2.2.2.2.2.1, u.2.2.2.2.2.2.2.2.1, u.2.2.2.2.2.2.2.2.2.1, u.2.2.2.2.2.2.2.2.2.2.1, u.2.2.2.2.2.2.2.2.2.2.2.1, u.2.2.2.2.2.2.2.2.2.2.2.2.1, u.2.2.2.2.2.2.2.2.2.2.2.2.2) 0)
set_option maxRecDepth 20000 in
theorem v_X7_undo_b22 {x : Am} {d : Dt} {A : Nat → Prop} {a : Nat → Nat} (C : Cx x cX7_undo 2 yX7_undo.cls d (Imu d A x.s.heap)) (hr : x.meth.sig.returnType = (some .int)) (hlk : x.meth.locks = false) (z : Int32 × UX) (n : Nat) (u : UX) (v1 : Int32) : V x (rmF 0 0) 0 0 (MQ x.below (QW d A (WX d a z.2) (some (.int z.1))) x.args x.s 0 0 A) 2 (Imu d A x.s.heap) (f_X7_undo_b22 n u v1 = some z) 22 (WX d a u) [some (.ref (a 0)), some (.int v1)] [] := by
  induction n generalizing u v1 with
  | zero => exact V_none
  | succ n ih =>
    rw [f_X7_undo_b22]
    refine V_iload_n C 1 dX7_undo_22 rfl rfl ?_
    refine V_sipush (v := 264) C dX7_undo_23 (by decide) ?_
    refine V_icmp_ge (tgt := 56) C dX7_undo_26 (by decide) ?_ ?_
    · refine V_aload_n C 0 dX7_undo_56 rfl rfl ?_
      refine V_get (v := .int u.2.2.2.2.1) C fx7 0 4 kf_X7_31 (by decide) rfl rfl dX7_undo_57 ?_
      exact V_iretW (Wd := fun w => WX d a w) C hr hlk dX7_undo_60 rfl
    · refine V_aload_n C 0 dX7_undo_29 rfl rfl ?_
      refine V_get (v := .ref (a 1)) C fx7 0 0 kf_X7_7 (by decide) rfl rfl dX7_undo_30 ?_
      refine V_iload_n C 1 dX7_undo_33 rfl rfl ?_
      refine V_aload_n C 0 dX7_undo_34 rfl rfl ?_
      refine V_get (v := .ref (a 2)) C fx7 0 1 kf_X7_13 (by decide) rfl rfl dX7_undo_35 ?_
      refine V_sipush (v := 264) C dX7_undo_38 (by decide) ?_
      refine V_aload_n C 0 dX7_undo_41 rfl rfl ?_
      refine V_get (v := .int u.2.2.2.2.1) C fx7 0 4 kf_X7_31 (by decide) rfl rfl dX7_undo_42 ?_
      refine V_imul C dX7_undo_45 ?_
      refine V_iload_n C 1 dX7_undo_46 rfl rfl ?_
      refine V_iadd C dX7_undo_47 ?_
      refine V_iald C 2 rfl dX7_undo_48 ?_
      refine V_iast (ws' := WX d a ((upd u.1 v1.toNatClampNeg (u.2.1 ((264 * u.2.2.2.2.1) + v1).toNatClampNeg)), u.2.1, u.2.2.1, u.2.2.2.1, u.2.2.2.2.1, u.2.2.2.2.2.1, u.2.2.2.2.2.2.1, u.2.2.2.2.2.2.2.1, u.2.2.2.2.2.2.2.2.1, u.2.2.2.2.2.2.2.2.2.1, u.2.2.2.2.2.2.2.2.2.2.1, u.2.2.2.2.2.2.2.2.2.2.2.1, u.2.2.2.2.2.2.2.2.2.2.2.2.1, u.2.2.2.2.2.2.2.2.2.2.2.2.2)) C 1 (WX_get1 _ _ _) (WX_set1 _ _ _ _) dX7_undo_49 ?_
      refine V_iinc (v := (v1 + 1)) (lv' := [some (.ref (a 0)), some (.int (v1 + 1))]) C dX7_undo_50 rfl rfl (by decide) rfl ?_
      refine V_goto (tgt := 22) C dX7_undo_53 (by decide) ?_
      exact ih ((upd u.1 v1.toNatClampNeg (u.2.1 ((264 * u.2.2.2.2.1) + v1).toNatClampNeg)), u.2.1, u.2.2.1, u.2.2.2.1, u.2.2.2.2.1, u.2.2.2.2.2.1, u.2.2.2.2.2.2.1, u.2.2.2.2.2.2.2.1, u.2.2.2.2.2.2.2.2.1, u.2.2.2.2.2.2.2.2.2.1, u.2.2.2.2.2.2.2.2.2.2.1, u.2.2.2.2.2.2.2.2.2.2.2.1, u.2.2.2.2.2.2.2.2.2.2.2.2.1, u.2.2.2.2.2.2.2.2.2.2.2.2.2) (v1 + 1)
set_option maxRecDepth 20000 in
theorem v_X7_undo {x : Am} {d : Dt} {A : Nat → Prop} {a : Nat → Nat} (C : Cx x cX7_undo 2 yX7_undo.cls d (Imu d A x.s.heap)) (hr : x.meth.sig.returnType = (some .int)) (hlk : x.meth.locks = false) (z : Int32 × UX) (u : UX) : V x (rmF 0 0) 0 0 (MQ x.below (QW d A (WX d a z.2) (some (.int z.1))) x.args x.s 0 0 A) 2 (Imu d A x.s.heap) (f_X7_undo u = some z) 0 (WX d a u) [some (.ref (a 0)), none] [] := by
  unfold f_X7_undo
  refine V_aload_n C 0 dX7_undo_0 rfl rfl ?_
  refine V_get (v := .int u.2.2.2.2.1) C fx7 0 4 kf_X7_31 (by decide) rfl rfl dX7_undo_1 ?_
  refine V_if_ne (tgt := 10) C dX7_undo_4 (by decide) ?_ ?_
  · refine V_aload_n C 0 dX7_undo_10 rfl rfl ?_
    refine V_dup C dX7_undo_11 rfl ?_
    refine V_get (v := .int u.2.2.2.2.1) C fx7 0 4 kf_X7_31 (by decide) rfl rfl dX7_undo_12 ?_
    refine V_iconst (v := 1) C dX7_undo_15 (by decide) ?_
    refine V_isub C dX7_undo_16 ?_
    refine V_putI (ws' := WX d a (u.1, u.2.1, u.2.2.1, u.2.2.2.1, (u.2.2.2.2.1 - 1), u.2.2.2.2.2.1, u.2.2.2.2.2.2.1, u.2.2.2.2.2.2.2.1, u.2.2.2.2.2.2.2.2.1, u.2.2.2.2.2.2.2.2.2.1, u.2.2.2.2.2.2.2.2.2.2.1, u.2.2.2.2.2.2.2.2.2.2.2.1, u.2.2.2.2.2.2.2.2.2.2.2.2.1, u.2.2.2.2.2.2.2.2.2.2.2.2.2)) C fx7 0 4 kf_X7_31 (by decide) rfl rfl rfl (Nat.le_of_ble_eq_true rfl) rfl dX7_undo_17 ?_
    refine V_iconst (v := 0) C dX7_undo_20 (by decide) ?_
    refine V_istore_n (lv' := [some (.ref (a 0)), some (.int 0)]) C 1 dX7_undo_21 rfl (by decide) rfl ?_
    exact v_X7_undo_b22 C hr hlk z FUEL (u.1, u.2.1, u.2.2.1, u.2.2.2.1, (u.2.2.2.2.1 - 1), u.2.2.2.2.2.1, u.2.2.2.2.2.2.1, u.2.2.2.2.2.2.2.1, u.2.2.2.2.2.2.2.2.1, u.2.2.2.2.2.2.2.2.2.1, u.2.2.2.2.2.2.2.2.2.2.1, u.2.2.2.2.2.2.2.2.2.2.2.1, u.2.2.2.2.2.2.2.2.2.2.2.2.1, u.2.2.2.2.2.2.2.2.2.2.2.2.2) 0
  · refine V_ldc C kc_X7_35 dX7_undo_7 ?_
    exact V_iretW (Wd := fun w => WX d a w) C hr hlk dX7_undo_9 rfl
set_option maxRecDepth 20000 in
theorem ct_X7_undo (l : Launch) (d : Dt) (a : Nat → Nat) (u : UX) (z : Int32 × UX) (h : f_X7_undo u = some z) : CtW l d yX7_undo cX7_undo 2 (some .int) (rmF 0 0) [.ref (a 0)] (WX d a u) (WX d a z.2) (some (.int z.1)) :=
  CtW.start (by decide) (Nat.le_of_ble_eq_true rfl) (by simp [Value.category]) [some (.ref (a 0)), none] rfl (fun x A C hr hlk => V_eqv (fun _ => h) (v_X7_undo C hr hlk z u))

/-! MastRobotsModel.type -/
def f_X7_type (u : UX) (p1 : Int32) : Option (Int32 × UX) :=
  ((f_X7_in p1 32 126).bind fun r5 => (if r5 = 0 then some ((-1000001), u) else (if u.2.2.2.2.2.2.1 = 60 then some ((-1000003), u) else (if inb u.2.2.2.2.2.2.1 60 = true then some ((u.2.2.2.2.2.2.1 + 1), (u.1, u.2.1, u.2.2.1, u.2.2.2.1, u.2.2.2.2.1, (upd u.2.2.2.2.2.1 u.2.2.2.2.2.2.1.toNatClampNeg (vp_nar .char (jchar p1))), (u.2.2.2.2.2.2.1 + 1), u.2.2.2.2.2.2.2.1, u.2.2.2.2.2.2.2.2.1, u.2.2.2.2.2.2.2.2.2.1, u.2.2.2.2.2.2.2.2.2.2.1, u.2.2.2.2.2.2.2.2.2.2.2.1, u.2.2.2.2.2.2.2.2.2.2.2.2.1, u.2.2.2.2.2.2.2.2.2.2.2.2.2)) else none))))
set_option maxRecDepth 20000 in
theorem v_X7_type {x : Am} {d : Dt} {A : Nat → Prop} {a : Nat → Nat} (C : Cx x cX7_type 2 yX7_type.cls d (Imu d A x.s.heap)) (hr : x.meth.sig.returnType = (some .int)) (hlk : x.meth.locks = false) (z : Int32 × UX) (u : UX) (p1 : Int32) : V x (rmF 1 22) 0 0 (MQ x.below (QW d A (WX d a z.2) (some (.int z.1))) x.args x.s 0 0 A) 2 (Imu d A x.s.heap) (f_X7_type u p1 = some z) 0 (WX d a u) [some (.ref (a 0)), some (.int p1)] [] := by
  unfold f_X7_type
  refine V_iload_n C 1 dX7_type_0 rfl rfl ?_
  refine V_bipush (v := 32) C dX7_type_1 (by decide) ?_
  refine V_bipush (v := 126) C dX7_type_3 (by decide) ?_
  refine V_callSi (As := [.int p1, .int 32, .int 126]) (rest := []) (wc := []) C (fun r h => ct_X7_in _ d p1 32 126 r h) ks_X7_in kl_X7_26 [] dX7_type_5 rfl rfl (Nat.le_of_ble_eq_true rfl) ⟨(Nat.le_of_ble_eq_true rfl), (Nat.le_of_ble_eq_true rfl)⟩ rfl rfl ⟨Nat.le_refl _, Nat.le_refl _⟩ rfl (fun r5 hr5 => ?_)
  refine V_if_ne (tgt := 14) C dX7_type_8 (by decide) ?_ ?_
  · refine V_aload_n C 0 dX7_type_14 rfl rfl ?_
    refine V_get (v := .int u.2.2.2.2.2.2.1) C fx7 0 6 kf_X7_149 (by decide) rfl rfl dX7_type_15 ?_
    refine V_bipush (v := 60) C dX7_type_18 (by decide) ?_
    refine V_icmp_ne (tgt := 26) C dX7_type_20 (by decide) ?_ ?_
    · refine V_aload_n C 0 dX7_type_26 rfl rfl ?_
      refine V_get (v := .ref (a 5)) C fx7 0 5 kf_X7_22 (by decide) rfl rfl dX7_type_27 ?_
      refine V_aload_n C 0 dX7_type_30 rfl rfl ?_
      refine V_get (v := .int u.2.2.2.2.2.2.1) C fx7 0 6 kf_X7_149 (by decide) rfl rfl dX7_type_31 ?_
      refine V_iload_n C 1 dX7_type_34 rfl rfl ?_
      refine V_i2c C dX7_type_35 ?_
      refine V_cast (ws' := WX d a (u.1, u.2.1, u.2.2.1, u.2.2.2.1, u.2.2.2.2.1, (upd u.2.2.2.2.2.1 u.2.2.2.2.2.2.1.toNatClampNeg (vp_nar .char (jchar p1))), u.2.2.2.2.2.2.1, u.2.2.2.2.2.2.2.1, u.2.2.2.2.2.2.2.2.1, u.2.2.2.2.2.2.2.2.2.1, u.2.2.2.2.2.2.2.2.2.2.1, u.2.2.2.2.2.2.2.2.2.2.2.1, u.2.2.2.2.2.2.2.2.2.2.2.2.1, u.2.2.2.2.2.2.2.2.2.2.2.2.2)) C 5 (WX_get5 _ _ _) (WX_set5 _ _ _ _) dX7_type_36 ?_
      refine V_aload_n C 0 dX7_type_37 rfl rfl ?_
      refine V_dup C dX7_type_38 rfl ?_
      refine V_get (v := .int u.2.2.2.2.2.2.1) C fx7 0 6 kf_X7_149 (by decide) rfl rfl dX7_type_39 ?_
      refine V_iconst (v := 1) C dX7_type_42 (by decide) ?_
      refine V_iadd C dX7_type_43 ?_
      refine V_putI (ws' := WX d a (u.1, u.2.1, u.2.2.1, u.2.2.2.1, u.2.2.2.2.1, (upd u.2.2.2.2.2.1 u.2.2.2.2.2.2.1.toNatClampNeg (vp_nar .char (jchar p1))), (u.2.2.2.2.2.2.1 + 1), u.2.2.2.2.2.2.2.1, u.2.2.2.2.2.2.2.2.1, u.2.2.2.2.2.2.2.2.2.1, u.2.2.2.2.2.2.2.2.2.2.1, u.2.2.2.2.2.2.2.2.2.2.2.1, u.2.2.2.2.2.2.2.2.2.2.2.2.1, u.2.2.2.2.2.2.2.2.2.2.2.2.2)) C fx7 0 6 kf_X7_149 (by decide) rfl rfl rfl (Nat.le_of_ble_eq_true rfl) rfl dX7_type_44 ?_
      refine V_aload_n C 0 dX7_type_47 rfl rfl ?_
      refine V_get (v := .int (u.2.2.2.2.2.2.1 + 1)) C fx7 0 6 kf_X7_149 (by decide) rfl rfl dX7_type_48 ?_
      exact V_iretW (Wd := fun w => WX d a w) C hr hlk dX7_type_51 rfl
    · refine V_ldc C kc_X7_36 dX7_type_23 ?_
      exact V_iretW (Wd := fun w => WX d a w) C hr hlk dX7_type_25 rfl
  · refine V_ldc C kc_X7_30 dX7_type_11 ?_
    exact V_iretW (Wd := fun w => WX d a w) C hr hlk dX7_type_13 rfl
set_option maxRecDepth 20000 in
theorem ct_X7_type (l : Launch) (d : Dt) (a : Nat → Nat) (u : UX) (p1 : Int32) (z : Int32 × UX) (h : f_X7_type u p1 = some z) : CtW l d yX7_type cX7_type 2 (some .int) (rmF 1 22) [.ref (a 0), .int p1] (WX d a u) (WX d a z.2) (some (.int z.1)) :=
  CtW.start (by decide) (Nat.le_of_ble_eq_true rfl) (by simp [Value.category]) [some (.ref (a 0)), some (.int p1)] rfl (fun x A C hr hlk => V_eqv (fun _ => h) (v_X7_type C hr hlk z u p1))

/-! MastRobotsModel.clearText -/
def f_X7_clearText (u : UX) : Option (Int32 × UX) :=
  some (u.2.2.2.2.2.2.1, (u.1, u.2.1, u.2.2.1, u.2.2.2.1, u.2.2.2.2.1, u.2.2.2.2.2.1, 0, u.2.2.2.2.2.2.2.1, u.2.2.2.2.2.2.2.2.1, u.2.2.2.2.2.2.2.2.2.1, u.2.2.2.2.2.2.2.2.2.2.1, u.2.2.2.2.2.2.2.2.2.2.2.1, u.2.2.2.2.2.2.2.2.2.2.2.2.1, u.2.2.2.2.2.2.2.2.2.2.2.2.2))
set_option maxRecDepth 20000 in
theorem v_X7_clearText {x : Am} {d : Dt} {A : Nat → Prop} {a : Nat → Nat} (C : Cx x cX7_clearText 2 yX7_clearText.cls d (Imu d A x.s.heap)) (hr : x.meth.sig.returnType = (some .int)) (hlk : x.meth.locks = false) (z : Int32 × UX) (u : UX) : V x (rmF 0 0) 0 0 (MQ x.below (QW d A (WX d a z.2) (some (.int z.1))) x.args x.s 0 0 A) 2 (Imu d A x.s.heap) (f_X7_clearText u = some z) 0 (WX d a u) [some (.ref (a 0)), none] [] := by
  unfold f_X7_clearText
  refine V_aload_n C 0 dX7_clearText_0 rfl rfl ?_
  refine V_get (v := .int u.2.2.2.2.2.2.1) C fx7 0 6 kf_X7_149 (by decide) rfl rfl dX7_clearText_1 ?_
  refine V_istore_n (lv' := [some (.ref (a 0)), some (.int u.2.2.2.2.2.2.1)]) C 1 dX7_clearText_4 rfl (by decide) rfl ?_
  refine V_aload_n C 0 dX7_clearText_5 rfl rfl ?_
  refine V_iconst (v := 0) C dX7_clearText_6 (by decide) ?_
  refine V_putI (ws' := WX d a (u.1, u.2.1, u.2.2.1, u.2.2.2.1, u.2.2.2.2.1, u.2.2.2.2.2.1, 0, u.2.2.2.2.2.2.2.1, u.2.2.2.2.2.2.2.2.1, u.2.2.2.2.2.2.2.2.2.1, u.2.2.2.2.2.2.2.2.2.2.1, u.2.2.2.2.2.2.2.2.2.2.2.1, u.2.2.2.2.2.2.2.2.2.2.2.2.1, u.2.2.2.2.2.2.2.2.2.2.2.2.2)) C fx7 0 6 kf_X7_149 (by decide) rfl rfl rfl (Nat.le_of_ble_eq_true rfl) rfl dX7_clearText_7 ?_
  refine V_iload_n C 1 dX7_clearText_10 rfl rfl ?_
  exact V_iretW (Wd := fun w => WX d a w) C hr hlk dX7_clearText_11 rfl
set_option maxRecDepth 20000 in
theorem ct_X7_clearText (l : Launch) (d : Dt) (a : Nat → Nat) (u : UX) (z : Int32 × UX) (h : f_X7_clearText u = some z) : CtW l d yX7_clearText cX7_clearText 2 (some .int) (rmF 0 0) [.ref (a 0)] (WX d a u) (WX d a z.2) (some (.int z.1)) :=
  CtW.start (by decide) (Nat.le_of_ble_eq_true rfl) (by simp [Value.category]) [some (.ref (a 0)), none] rfl (fun x A C hr hlk => V_eqv (fun _ => h) (v_X7_clearText C hr hlk z u))

/-! MastRobotsModel.sign -/
def f_X7_sign (u : UX) : Option (Int32) :=
  (if u.2.2.2.2.2.2.1 ≤ u.2.2.2.2.2.2.2.1 then some (-1) else (if inb u.2.2.2.2.2.2.2.1 60 = true then some (u.2.2.2.2.2.1 u.2.2.2.2.2.2.2.1.toNatClampNeg) else none))
set_option maxRecDepth 20000 in
theorem v_X7_sign {x : Am} {d : Dt} {a : Nat → Nat} (C : Cx x cX7_sign 1 yX7_sign.cls d (Iro d x.s.heap)) (hr : x.meth.sig.returnType = (some .int)) (hlk : x.meth.locks = false) (z : Int32) (u : UX) : V x (rmF 0 0) 0 0 (MQ x.below (QR (some (.int z))) x.args x.s 0 0 (fun _ => False)) 1 (Iro d x.s.heap) (f_X7_sign u = some z) 0 (WX d a u) [some (.ref (a 0))] [] := by
  unfold f_X7_sign
  refine V_aload_n C 0 dX7_sign_0 rfl rfl ?_
  refine V_get (v := .int u.2.2.2.2.2.2.2.1) C fx7 0 7 kf_X7_152 (by decide) rfl rfl dX7_sign_1 ?_
  refine V_aload_n C 0 dX7_sign_4 rfl rfl ?_
  refine V_get (v := .int u.2.2.2.2.2.2.1) C fx7 0 6 kf_X7_149 (by decide) rfl rfl dX7_sign_5 ?_
  refine V_icmp_ge (tgt := 23) C dX7_sign_8 (by decide) ?_ ?_
  · refine V_iconst (v := (-1)) C dX7_sign_23 (by decide) ?_
    exact V_iretR C hr hlk dX7_sign_24
  · refine V_aload_n C 0 dX7_sign_11 rfl rfl ?_
    refine V_get (v := .ref (a 5)) C fx7 0 5 kf_X7_22 (by decide) rfl rfl dX7_sign_12 ?_
    refine V_aload_n C 0 dX7_sign_15 rfl rfl ?_
    refine V_get (v := .int u.2.2.2.2.2.2.2.1) C fx7 0 7 kf_X7_152 (by decide) rfl rfl dX7_sign_16 ?_
    refine V_cald C 5 rfl dX7_sign_19 ?_
    refine V_goto (tgt := 24) C dX7_sign_20 (by decide) ?_
    exact V_iretR C hr hlk dX7_sign_24
set_option maxRecDepth 20000 in
theorem ct_X7_sign (l : Launch) (d : Dt) (a : Nat → Nat) (u : UX) (z : Int32) (h : f_X7_sign u = some z) : CtR l d yX7_sign cX7_sign 1 (some .int) (rmF 0 0) [.ref (a 0)] (WX d a u) (some (.int z)) :=
  CtR.start (by decide) (Nat.le_of_ble_eq_true rfl) (by simp [Value.category]) [some (.ref (a 0))] rfl (fun x C hr hlk => V_eqv (fun _ => h) (v_X7_sign C hr hlk z u))

/-! MastRobotsModel.isWord -/
def f_X7_isWord_b133 (u : UX) (v1 : Int32) (v6 : Int32) : Option (Int32) :=
  (if v6 = 32 then some 1 else (if inb (v1 + 4) 60 = true then (if (u.2.2.2.2.2.1 (v1 + 4).toNatClampNeg) = v6 then some 1 else some 0) else none))
def f_X7_isWord_b106 (u : UX) (v1 : Int32) (v5 : Int32) (v6 : Int32) (s0 : Int32) : Option (Int32) :=
  (if s0 = 0 then some 0 else (if v5 = 32 then f_X7_isWord_b133 u v1 v6 else (if inb (v1 + 3) 60 = true then (if (u.2.2.2.2.2.1 (v1 + 3).toNatClampNeg) = v5 then f_X7_isWord_b133 u v1 v6 else some 0) else none)))
def f_X7_isWord_b101 (u : UX) (v1 : Int32) (v5 : Int32) (v6 : Int32) : Option (Int32) :=
  f_X7_isWord_b106 u v1 v5 v6 1
def f_X7_isWord_b105 (u : UX) (v1 : Int32) (v5 : Int32) (v6 : Int32) : Option (Int32) :=
  f_X7_isWord_b106 u v1 v5 v6 0
def f_X7_isWord_b52 (u : UX) (v1 : Int32) (v2 : Int32) (v3 : Int32) (v4 : Int32) (v5 : Int32) (v6 : Int32) (s0 : Int32) : Option (Int32) :=
  (if s0 = 0 then f_X7_isWord_b105 u v1 v5 v6 else (if inb v1 60 = true then (if (u.2.2.2.2.2.1 v1.toNatClampNeg) = v2 then (if inb (v1 + 1) 60 = true then (if (u.2.2.2.2.2.1 (v1 + 1).toNatClampNeg) = v3 then (if v4 = 32 then f_X7_isWord_b101 u v1 v5 v6 else (if inb (v1 + 2) 60 = true then (if (u.2.2.2.2.2.1 (v1 + 2).toNatClampNeg) = v4 then f_X7_isWord_b101 u v1 v5 v6 else f_X7_isWord_b105 u v1 v5 v6) else none)) else f_X7_isWord_b105 u v1 v5 v6) else none) else f_X7_isWord_b105 u v1 v5 v6) else none))
def f_X7_isWord_b34 (u : UX) (v1 : Int32) (v2 : Int32) (v3 : Int32) (v4 : Int32) (v5 : Int32) (v6 : Int32) (s0 : Int32) : Option (Int32) :=
  (if (u.2.2.2.2.2.2.2.1 - v1) = s0 then f_X7_isWord_b52 u v1 v2 v3 v4 v5 v6 1 else f_X7_isWord_b52 u v1 v2 v3 v4 v5 v6 0)
def f_X7_isWord (u : UX) (p1 : Int32) (p2 : Int32) (p3 : Int32) (p4 : Int32) (p5 : Int32) (p6 : Int32) : Option (Int32) :=
  (if p4 = 32 then f_X7_isWord_b34 u p1 p2 p3 p4 p5 p6 2 else (if p5 = 32 then f_X7_isWord_b34 u p1 p2 p3 p4 p5 p6 3 else (if p6 = 32 then f_X7_isWord_b34 u p1 p2 p3 p4 p5 p6 4 else f_X7_isWord_b34 u p1 p2 p3 p4 p5 p6 5)))
set_option maxRecDepth 20000 in
theorem v_X7_isWord_b133 {x : Am} {d : Dt} {a : Nat → Nat} (C : Cx x cX7_isWord 9 yX7_isWord.cls d (Iro d x.s.heap)) (hr : x.meth.sig.returnType = (some .boolean)) (hlk : x.meth.locks = false) (z : Int32) (u : UX) (v1 : Int32) (v6 : Int32) : V x (rmF 0 0) 0 0 (MQ x.below (QR (some (.int z))) x.args x.s 0 0 (fun _ => False)) 9 (Iro d x.s.heap) (f_X7_isWord_b133 u v1 v6 = some z) 133 (WX d a u) [some (.ref (a 0)), some (.int v1), none, none, none, none, some (.int v6), none, none] [] := by
  unfold f_X7_isWord_b133
  refine V_iload C dX7_isWord_133 rfl ?_
  refine V_bipush (v := 32) C dX7_isWord_135 (by decide) ?_
  refine V_icmp_eq (tgt := 153) C dX7_isWord_137 (by decide) ?_ ?_
  · refine V_iconst (v := 1) C dX7_isWord_153 (by decide) ?_
    refine V_goto (tgt := 158) C dX7_isWord_154 (by decide) ?_
    exact V_zretRc C hr hlk (by decide) dX7_isWord_158
  · refine V_aload_n C 0 dX7_isWord_140 rfl rfl ?_
    refine V_get (v := .ref (a 5)) C fx7 0 5 kf_X7_22 (by decide) rfl rfl dX7_isWord_141 ?_
    refine V_iload_n C 1 dX7_isWord_144 rfl rfl ?_
    refine V_iconst (v := 4) C dX7_isWord_145 (by decide) ?_
    refine V_iadd C dX7_isWord_146 ?_
    refine V_cald C 5 rfl dX7_isWord_147 ?_
    refine V_iload C dX7_isWord_148 rfl ?_
    refine V_icmp_ne (tgt := 157) C dX7_isWord_150 (by decide) ?_ ?_
    · refine V_iconst (v := 0) C dX7_isWord_157 (by decide) ?_
      exact V_zretRc C hr hlk (by decide) dX7_isWord_158
    · refine V_iconst (v := 1) C dX7_isWord_153 (by decide) ?_
      refine V_goto (tgt := 158) C dX7_isWord_154 (by decide) ?_
      exact V_zretRc C hr hlk (by decide) dX7_isWord_158
set_option maxRecDepth 20000 in
theorem v_X7_isWord_b106 {x : Am} {d : Dt} {a : Nat → Nat} (C : Cx x cX7_isWord 9 yX7_isWord.cls d (Iro d x.s.heap)) (hr : x.meth.sig.returnType = (some .boolean)) (hlk : x.meth.locks = false) (z : Int32) (u : UX) (v1 : Int32) (v5 : Int32) (v6 : Int32) (s0 : Int32) : V x (rmF 0 0) 0 0 (MQ x.below (QR (some (.int z))) x.args x.s 0 0 (fun _ => False)) 9 (Iro d x.s.heap) (f_X7_isWord_b106 u v1 v5 v6 s0 = some z) 106 (WX d a u) [some (.ref (a 0)), some (.int v1), none, none, none, some (.int v5), some (.int v6), none, none] [.int s0] := by
  unfold f_X7_isWord_b106
  refine V_istore (lv' := [some (.ref (a 0)), some (.int v1), none, none, none, some (.int v5), some (.int v6), none, some (.int s0)]) C dX7_isWord_106 (by decide) rfl ?_
  refine V_iload C dX7_isWord_108 rfl ?_
  refine V_if_eq (tgt := 157) C dX7_isWord_110 (by decide) ?_ ?_
  · refine V_iconst (v := 0) C dX7_isWord_157 (by decide) ?_
    exact V_zretRc C hr hlk (by decide) dX7_isWord_158
  · refine V_iload C dX7_isWord_113 rfl ?_
    refine V_bipush (v := 32) C dX7_isWord_115 (by decide) ?_
    refine V_icmp_eq (tgt := 133) C dX7_isWord_117 (by decide) ?_ ?_
    · refine V_mask (lv' := [some (.ref (a 0)), some (.int v1), none, none, none, none, some (.int v6), none, none]) [true, true, true, true, true, false, true, true, false] rfl ?_
      exact v_X7_isWord_b133 C hr hlk z u v1 v6
    · refine V_aload_n C 0 dX7_isWord_120 rfl rfl ?_
      refine V_get (v := .ref (a 5)) C fx7 0 5 kf_X7_22 (by decide) rfl rfl dX7_isWord_121 ?_
      refine V_iload_n C 1 dX7_isWord_124 rfl rfl ?_
      refine V_iconst (v := 3) C dX7_isWord_125 (by decide) ?_
      refine V_iadd C dX7_isWord_126 ?_
      refine V_cald C 5 rfl dX7_isWord_127 ?_
      refine V_iload C dX7_isWord_128 rfl ?_
      refine V_icmp_ne (tgt := 157) C dX7_isWord_130 (by decide) ?_ ?_
      · refine V_iconst (v := 0) C dX7_isWord_157 (by decide) ?_
        exact V_zretRc C hr hlk (by decide) dX7_isWord_158
      · refine V_mask (lv' := [some (.ref (a 0)), some (.int v1), none, none, none, none, some (.int v6), none, none]) [true, true, true, true, true, false, true, true, false] rfl ?_
        exact v_X7_isWord_b133 C hr hlk z u v1 v6
set_option maxRecDepth 20000 in
theorem v_X7_isWord_b101 {x : Am} {d : Dt} {a : Nat → Nat} (C : Cx x cX7_isWord 9 yX7_isWord.cls d (Iro d x.s.heap)) (hr : x.meth.sig.returnType = (some .boolean)) (hlk : x.meth.locks = false) (z : Int32) (u : UX) (v1 : Int32) (v5 : Int32) (v6 : Int32) : V x (rmF 0 0) 0 0 (MQ x.below (QR (some (.int z))) x.args x.s 0 0 (fun _ => False)) 9 (Iro d x.s.heap) (f_X7_isWord_b101 u v1 v5 v6 = some z) 101 (WX d a u) [some (.ref (a 0)), some (.int v1), none, none, none, some (.int v5), some (.int v6), none, none] [] := by
  unfold f_X7_isWord_b101
  refine V_iconst (v := 1) C dX7_isWord_101 (by decide) ?_
  refine V_goto (tgt := 106) C dX7_isWord_102 (by decide) ?_
  exact v_X7_isWord_b106 C hr hlk z u v1 v5 v6 1
set_option maxRecDepth 20000 in
theorem v_X7_isWord_b105 {x : Am} {d : Dt} {a : Nat → Nat} (C : Cx x cX7_isWord 9 yX7_isWord.cls d (Iro d x.s.heap)) (hr : x.meth.sig.returnType = (some .boolean)) (hlk : x.meth.locks = false) (z : Int32) (u : UX) (v1 : Int32) (v5 : Int32) (v6 : Int32) : V x (rmF 0 0) 0 0 (MQ x.below (QR (some (.int z))) x.args x.s 0 0 (fun _ => False)) 9 (Iro d x.s.heap) (f_X7_isWord_b105 u v1 v5 v6 = some z) 105 (WX d a u) [some (.ref (a 0)), some (.int v1), none, none, none, some (.int v5), some (.int v6), none, none] [] := by
  unfold f_X7_isWord_b105
  refine V_iconst (v := 0) C dX7_isWord_105 (by decide) ?_
  exact v_X7_isWord_b106 C hr hlk z u v1 v5 v6 0
set_option maxRecDepth 20000 in
theorem v_X7_isWord_b52 {x : Am} {d : Dt} {a : Nat → Nat} (C : Cx x cX7_isWord 9 yX7_isWord.cls d (Iro d x.s.heap)) (hr : x.meth.sig.returnType = (some .boolean)) (hlk : x.meth.locks = false) (z : Int32) (u : UX) (v1 : Int32) (v2 : Int32) (v3 : Int32) (v4 : Int32) (v5 : Int32) (v6 : Int32) (s0 : Int32) : V x (rmF 0 0) 0 0 (MQ x.below (QR (some (.int z))) x.args x.s 0 0 (fun _ => False)) 9 (Iro d x.s.heap) (f_X7_isWord_b52 u v1 v2 v3 v4 v5 v6 s0 = some z) 52 (WX d a u) [some (.ref (a 0)), some (.int v1), some (.int v2), some (.int v3), some (.int v4), some (.int v5), some (.int v6), none, none] [.int s0] := by
  unfold f_X7_isWord_b52
  refine V_istore (lv' := [some (.ref (a 0)), some (.int v1), some (.int v2), some (.int v3), some (.int v4), some (.int v5), some (.int v6), none, some (.int s0)]) C dX7_isWord_52 (by decide) rfl ?_
  refine V_iload C dX7_isWord_54 rfl ?_
  refine V_if_eq (tgt := 105) C dX7_isWord_56 (by decide) ?_ ?_
  · refine V_mask (lv' := [some (.ref (a 0)), some (.int v1), none, none, none, some (.int v5), some (.int v6), none, none]) [true, true, false, false, false, true, true, true, false] rfl ?_
    exact v_X7_isWord_b105 C hr hlk z u v1 v5 v6
  · refine V_aload_n C 0 dX7_isWord_59 rfl rfl ?_
    refine V_get (v := .ref (a 5)) C fx7 0 5 kf_X7_22 (by decide) rfl rfl dX7_isWord_60 ?_
    refine V_iload_n C 1 dX7_isWord_63 rfl rfl ?_
    refine V_cald C 5 rfl dX7_isWord_64 ?_
    refine V_iload_n C 2 dX7_isWord_65 rfl rfl ?_
    refine V_icmp_ne (tgt := 105) C dX7_isWord_66 (by decide) ?_ ?_
    · refine V_mask (lv' := [some (.ref (a 0)), some (.int v1), none, none, none, some (.int v5), some (.int v6), none, none]) [true, true, false, false, false, true, true, true, false] rfl ?_
      exact v_X7_isWord_b105 C hr hlk z u v1 v5 v6
    · refine V_aload_n C 0 dX7_isWord_69 rfl rfl ?_
      refine V_get (v := .ref (a 5)) C fx7 0 5 kf_X7_22 (by decide) rfl rfl dX7_isWord_70 ?_
      refine V_iload_n C 1 dX7_isWord_73 rfl rfl ?_
      refine V_iconst (v := 1) C dX7_isWord_74 (by decide) ?_
      refine V_iadd C dX7_isWord_75 ?_
      refine V_cald C 5 rfl dX7_isWord_76 ?_
      refine V_iload_n C 3 dX7_isWord_77 rfl rfl ?_
      refine V_icmp_ne (tgt := 105) C dX7_isWord_78 (by decide) ?_ ?_
      · refine V_mask (lv' := [some (.ref (a 0)), some (.int v1), none, none, none, some (.int v5), some (.int v6), none, none]) [true, true, false, false, false, true, true, true, false] rfl ?_
        exact v_X7_isWord_b105 C hr hlk z u v1 v5 v6
      · refine V_iload C dX7_isWord_81 rfl ?_
        refine V_bipush (v := 32) C dX7_isWord_83 (by decide) ?_
        refine V_icmp_eq (tgt := 101) C dX7_isWord_85 (by decide) ?_ ?_
        · refine V_mask (lv' := [some (.ref (a 0)), some (.int v1), none, none, none, some (.int v5), some (.int v6), none, none]) [true, true, false, false, false, true, true, true, false] rfl ?_
          exact v_X7_isWord_b101 C hr hlk z u v1 v5 v6
        · refine V_aload_n C 0 dX7_isWord_88 rfl rfl ?_
          refine V_get (v := .ref (a 5)) C fx7 0 5 kf_X7_22 (by decide) rfl rfl dX7_isWord_89 ?_
          refine V_iload_n C 1 dX7_isWord_92 rfl rfl ?_
          refine V_iconst (v := 2) C dX7_isWord_93 (by decide) ?_
          refine V_iadd C dX7_isWord_94 ?_
          refine V_cald C 5 rfl dX7_isWord_95 ?_
          refine V_iload C dX7_isWord_96 rfl ?_
          refine V_icmp_ne (tgt := 105) C dX7_isWord_98 (by decide) ?_ ?_
          · refine V_mask (lv' := [some (.ref (a 0)), some (.int v1), none, none, none, some (.int v5), some (.int v6), none, none]) [true, true, false, false, false, true, true, true, false] rfl ?_
            exact v_X7_isWord_b105 C hr hlk z u v1 v5 v6
          · refine V_mask (lv' := [some (.ref (a 0)), some (.int v1), none, none, none, some (.int v5), some (.int v6), none, none]) [true, true, false, false, false, true, true, true, false] rfl ?_
            exact v_X7_isWord_b101 C hr hlk z u v1 v5 v6
set_option maxRecDepth 20000 in
theorem v_X7_isWord_b34 {x : Am} {d : Dt} {a : Nat → Nat} (C : Cx x cX7_isWord 9 yX7_isWord.cls d (Iro d x.s.heap)) (hr : x.meth.sig.returnType = (some .boolean)) (hlk : x.meth.locks = false) (z : Int32) (u : UX) (v1 : Int32) (v2 : Int32) (v3 : Int32) (v4 : Int32) (v5 : Int32) (v6 : Int32) (s0 : Int32) : V x (rmF 0 0) 0 0 (MQ x.below (QR (some (.int z))) x.args x.s 0 0 (fun _ => False)) 9 (Iro d x.s.heap) (f_X7_isWord_b34 u v1 v2 v3 v4 v5 v6 s0 = some z) 34 (WX d a u) [some (.ref (a 0)), some (.int v1), some (.int v2), some (.int v3), some (.int v4), some (.int v5), some (.int v6), none, none] [.int s0] := by
  unfold f_X7_isWord_b34
  refine V_istore (lv' := [some (.ref (a 0)), some (.int v1), some (.int v2), some (.int v3), some (.int v4), some (.int v5), some (.int v6), some (.int s0), none]) C dX7_isWord_34 (by decide) rfl ?_
  refine V_aload_n C 0 dX7_isWord_36 rfl rfl ?_
  refine V_get (v := .int u.2.2.2.2.2.2.2.1) C fx7 0 7 kf_X7_152 (by decide) rfl rfl dX7_isWord_37 ?_
  refine V_iload_n C 1 dX7_isWord_40 rfl rfl ?_
  refine V_isub C dX7_isWord_41 ?_
  refine V_iload C dX7_isWord_42 rfl ?_
  refine V_icmp_ne (tgt := 51) C dX7_isWord_44 (by decide) ?_ ?_
  · refine V_iconst (v := 0) C dX7_isWord_51 (by decide) ?_
    refine V_mask (lv' := [some (.ref (a 0)), some (.int v1), some (.int v2), some (.int v3), some (.int v4), some (.int v5), some (.int v6), none, none]) [true, true, true, true, true, true, true, false, true] rfl ?_
    exact v_X7_isWord_b52 C hr hlk z u v1 v2 v3 v4 v5 v6 0
  · refine V_iconst (v := 1) C dX7_isWord_47 (by decide) ?_
    refine V_goto (tgt := 52) C dX7_isWord_48 (by decide) ?_
    refine V_mask (lv' := [some (.ref (a 0)), some (.int v1), some (.int v2), some (.int v3), some (.int v4), some (.int v5), some (.int v6), none, none]) [true, true, true, true, true, true, true, false, true] rfl ?_
    exact v_X7_isWord_b52 C hr hlk z u v1 v2 v3 v4 v5 v6 1
set_option maxRecDepth 20000 in
theorem v_X7_isWord {x : Am} {d : Dt} {a : Nat → Nat} (C : Cx x cX7_isWord 9 yX7_isWord.cls d (Iro d x.s.heap)) (hr : x.meth.sig.returnType = (some .boolean)) (hlk : x.meth.locks = false) (z : Int32) (u : UX) (p1 : Int32) (p2 : Int32) (p3 : Int32) (p4 : Int32) (p5 : Int32) (p6 : Int32) : V x (rmF 0 0) 0 0 (MQ x.below (QR (some (.int z))) x.args x.s 0 0 (fun _ => False)) 9 (Iro d x.s.heap) (f_X7_isWord u p1 p2 p3 p4 p5 p6 = some z) 0 (WX d a u) [some (.ref (a 0)), some (.int p1), some (.int p2), some (.int p3), some (.int p4), some (.int p5), some (.int p6), none, none] [] := by
  unfold f_X7_isWord
  refine V_iload C dX7_isWord_0 rfl ?_
  refine V_bipush (v := 32) C dX7_isWord_2 (by decide) ?_
  refine V_icmp_ne (tgt := 11) C dX7_isWord_4 (by decide) ?_ ?_
  · refine V_iload C dX7_isWord_11 rfl ?_
    refine V_bipush (v := 32) C dX7_isWord_13 (by decide) ?_
    refine V_icmp_ne (tgt := 22) C dX7_isWord_15 (by decide) ?_ ?_
    · refine V_iload C dX7_isWord_22 rfl ?_
      refine V_bipush (v := 32) C dX7_isWord_24 (by decide) ?_
      refine V_icmp_ne (tgt := 33) C dX7_isWord_26 (by decide) ?_ ?_
      · refine V_iconst (v := 5) C dX7_isWord_33 (by decide) ?_
        exact v_X7_isWord_b34 C hr hlk z u p1 p2 p3 p4 p5 p6 5
      · refine V_iconst (v := 4) C dX7_isWord_29 (by decide) ?_
        refine V_goto (tgt := 34) C dX7_isWord_30 (by decide) ?_
        exact v_X7_isWord_b34 C hr hlk z u p1 p2 p3 p4 p5 p6 4
    · refine V_iconst (v := 3) C dX7_isWord_18 (by decide) ?_
      refine V_goto (tgt := 34) C dX7_isWord_19 (by decide) ?_
      exact v_X7_isWord_b34 C hr hlk z u p1 p2 p3 p4 p5 p6 3
  · refine V_iconst (v := 2) C dX7_isWord_7 (by decide) ?_
    refine V_goto (tgt := 34) C dX7_isWord_8 (by decide) ?_
    exact v_X7_isWord_b34 C hr hlk z u p1 p2 p3 p4 p5 p6 2
set_option maxRecDepth 20000 in
theorem ct_X7_isWord (l : Launch) (d : Dt) (a : Nat → Nat) (u : UX) (p1 : Int32) (p2 : Int32) (p3 : Int32) (p4 : Int32) (p5 : Int32) (p6 : Int32) (z : Int32) (h : f_X7_isWord u p1 p2 p3 p4 p5 p6 = some z) : CtR l d yX7_isWord cX7_isWord 9 (some .boolean) (rmF 0 0) [.ref (a 0), .int p1, .int p2, .int p3, .int p4, .int p5, .int p6] (WX d a u) (some (.int z)) :=
  CtR.start (by decide) (Nat.le_of_ble_eq_true rfl) (by simp [Value.category]) [some (.ref (a 0)), some (.int p1), some (.int p2), some (.int p3), some (.int p4), some (.int p5), some (.int p6), none, none] rfl (fun x C hr hlk => V_eqv (fun _ => h) (v_X7_isWord C hr hlk z u p1 p2 p3 p4 p5 p6))

/-! MastRobotsModel.wordFrom -/
def f_X7_wordFrom (u : UX) (p1 : Int32) : Option (Int32) :=
  ((f_X7_isWord u p1 108 105 102 116 32).bind fun r12 => (if r12 = 0 then ((f_X7_isWord u p1 108 97 121 32 32).bind fun r32 => (if r32 = 0 then ((f_X7_isWord u p1 119 101 105 103 104).bind fun r52 => (if r52 = 0 then ((f_X7_isWord u p1 114 105 103 104 116).bind fun r72 => (if r72 = 0 then ((f_X7_isWord u p1 108 101 102 116 32).bind fun r92 => (if r92 = 0 then ((f_X7_isWord u p1 109 111 117 110 116).bind fun r112 => (if r112 = 0 then ((f_X7_isWord u p1 116 97 107 101 32).bind fun r132 => (if r132 = 0 then ((f_X7_isWord u p1 115 101 114 118 101).bind fun r153 => (if r153 = 0 then some (-1) else some 7)) else some 6)) else some 5)) else some 4)) else some 3)) else some 2)) else some 1)) else some 0))
set_option maxRecDepth 20000 in
theorem v_X7_wordFrom {x : Am} {d : Dt} {a : Nat → Nat} (C : Cx x cX7_wordFrom 2 yX7_wordFrom.cls d (Iro d x.s.heap)) (hr : x.meth.sig.returnType = (some .int)) (hlk : x.meth.locks = false) (z : Int32) (u : UX) (p1 : Int32) : V x (rmF 1 28) 0 0 (MQ x.below (QR (some (.int z))) x.args x.s 0 0 (fun _ => False)) 2 (Iro d x.s.heap) (f_X7_wordFrom u p1 = some z) 0 (WX d a u) [some (.ref (a 0)), some (.int p1)] [] := by
  unfold f_X7_wordFrom
  refine V_aload_n C 0 dX7_wordFrom_0 rfl rfl ?_
  refine V_iload_n C 1 dX7_wordFrom_1 rfl rfl ?_
  refine V_bipush (v := 108) C dX7_wordFrom_2 (by decide) ?_
  refine V_bipush (v := 105) C dX7_wordFrom_4 (by decide) ?_
  refine V_bipush (v := 102) C dX7_wordFrom_6 (by decide) ?_
  refine V_bipush (v := 116) C dX7_wordFrom_8 (by decide) ?_
  refine V_bipush (v := 32) C dX7_wordFrom_10 (by decide) ?_
  refine V_callRi (As := [.int p1, .int 108, .int 105, .int 102, .int 116, .int 32]) (rest := []) (wc := WX d a u) C (fun r h => ct_X7_isWord _ d a u p1 108 105 102 116 32 r h) kv_X7_isWord kl_X7_155 [0, 1, 2, 3, 4, 5] dX7_wordFrom_12 rfl rfl rfl rfl (Nat.le_of_ble_eq_true rfl) ⟨(Nat.le_of_ble_eq_true rfl), (Nat.le_of_ble_eq_true rfl)⟩ rfl rfl ⟨Nat.le_refl _, Nat.le_refl _⟩ rfl (fun r12 hr12 => ?_)
  refine V_if_eq (tgt := 20) C dX7_wordFrom_15 (by decide) ?_ ?_
  · refine V_aload_n C 0 dX7_wordFrom_20 rfl rfl ?_
    refine V_iload_n C 1 dX7_wordFrom_21 rfl rfl ?_
    refine V_bipush (v := 108) C dX7_wordFrom_22 (by decide) ?_
    refine V_bipush (v := 97) C dX7_wordFrom_24 (by decide) ?_
    refine V_bipush (v := 121) C dX7_wordFrom_26 (by decide) ?_
    refine V_bipush (v := 32) C dX7_wordFrom_28 (by decide) ?_
    refine V_bipush (v := 32) C dX7_wordFrom_30 (by decide) ?_
    refine V_callRi (As := [.int p1, .int 108, .int 97, .int 121, .int 32, .int 32]) (rest := []) (wc := WX d a u) C (fun r h => ct_X7_isWord _ d a u p1 108 97 121 32 32 r h) kv_X7_isWord kl_X7_155 [0, 1, 2, 3, 4, 5] dX7_wordFrom_32 rfl rfl rfl rfl (Nat.le_of_ble_eq_true rfl) ⟨(Nat.le_of_ble_eq_true rfl), (Nat.le_of_ble_eq_true rfl)⟩ rfl rfl ⟨Nat.le_refl _, Nat.le_refl _⟩ rfl (fun r32 hr32 => ?_)
    refine V_if_eq (tgt := 40) C dX7_wordFrom_35 (by decide) ?_ ?_
    · refine V_aload_n C 0 dX7_wordFrom_40 rfl rfl ?_
      refine V_iload_n C 1 dX7_wordFrom_41 rfl rfl ?_
      refine V_bipush (v := 119) C dX7_wordFrom_42 (by decide) ?_
      refine V_bipush (v := 101) C dX7_wordFrom_44 (by decide) ?_
      refine V_bipush (v := 105) C dX7_wordFrom_46 (by decide) ?_
      refine V_bipush (v := 103) C dX7_wordFrom_48 (by decide) ?_
      refine V_bipush (v := 104) C dX7_wordFrom_50 (by decide) ?_
      refine V_callRi (As := [.int p1, .int 119, .int 101, .int 105, .int 103, .int 104]) (rest := []) (wc := WX d a u) C (fun r h => ct_X7_isWord _ d a u p1 119 101 105 103 104 r h) kv_X7_isWord kl_X7_155 [0, 1, 2, 3, 4, 5] dX7_wordFrom_52 rfl rfl rfl rfl (Nat.le_of_ble_eq_true rfl) ⟨(Nat.le_of_ble_eq_true rfl), (Nat.le_of_ble_eq_true rfl)⟩ rfl rfl ⟨Nat.le_refl _, Nat.le_refl _⟩ rfl (fun r52 hr52 => ?_)
      refine V_if_eq (tgt := 60) C dX7_wordFrom_55 (by decide) ?_ ?_
      · refine V_aload_n C 0 dX7_wordFrom_60 rfl rfl ?_
        refine V_iload_n C 1 dX7_wordFrom_61 rfl rfl ?_
        refine V_bipush (v := 114) C dX7_wordFrom_62 (by decide) ?_
        refine V_bipush (v := 105) C dX7_wordFrom_64 (by decide) ?_
        refine V_bipush (v := 103) C dX7_wordFrom_66 (by decide) ?_
        refine V_bipush (v := 104) C dX7_wordFrom_68 (by decide) ?_
        refine V_bipush (v := 116) C dX7_wordFrom_70 (by decide) ?_
        refine V_callRi (As := [.int p1, .int 114, .int 105, .int 103, .int 104, .int 116]) (rest := []) (wc := WX d a u) C (fun r h => ct_X7_isWord _ d a u p1 114 105 103 104 116 r h) kv_X7_isWord kl_X7_155 [0, 1, 2, 3, 4, 5] dX7_wordFrom_72 rfl rfl rfl rfl (Nat.le_of_ble_eq_true rfl) ⟨(Nat.le_of_ble_eq_true rfl), (Nat.le_of_ble_eq_true rfl)⟩ rfl rfl ⟨Nat.le_refl _, Nat.le_refl _⟩ rfl (fun r72 hr72 => ?_)
        refine V_if_eq (tgt := 80) C dX7_wordFrom_75 (by decide) ?_ ?_
        · refine V_aload_n C 0 dX7_wordFrom_80 rfl rfl ?_
          refine V_iload_n C 1 dX7_wordFrom_81 rfl rfl ?_
          refine V_bipush (v := 108) C dX7_wordFrom_82 (by decide) ?_
          refine V_bipush (v := 101) C dX7_wordFrom_84 (by decide) ?_
          refine V_bipush (v := 102) C dX7_wordFrom_86 (by decide) ?_
          refine V_bipush (v := 116) C dX7_wordFrom_88 (by decide) ?_
          refine V_bipush (v := 32) C dX7_wordFrom_90 (by decide) ?_
          refine V_callRi (As := [.int p1, .int 108, .int 101, .int 102, .int 116, .int 32]) (rest := []) (wc := WX d a u) C (fun r h => ct_X7_isWord _ d a u p1 108 101 102 116 32 r h) kv_X7_isWord kl_X7_155 [0, 1, 2, 3, 4, 5] dX7_wordFrom_92 rfl rfl rfl rfl (Nat.le_of_ble_eq_true rfl) ⟨(Nat.le_of_ble_eq_true rfl), (Nat.le_of_ble_eq_true rfl)⟩ rfl rfl ⟨Nat.le_refl _, Nat.le_refl _⟩ rfl (fun r92 hr92 => ?_)
          refine V_if_eq (tgt := 100) C dX7_wordFrom_95 (by decide) ?_ ?_
          · refine V_aload_n C 0 dX7_wordFrom_100 rfl rfl ?_
            refine V_iload_n C 1 dX7_wordFrom_101 rfl rfl ?_
            refine V_bipush (v := 109) C dX7_wordFrom_102 (by decide) ?_
            refine V_bipush (v := 111) C dX7_wordFrom_104 (by decide) ?_
            refine V_bipush (v := 117) C dX7_wordFrom_106 (by decide) ?_
            refine V_bipush (v := 110) C dX7_wordFrom_108 (by decide) ?_
            refine V_bipush (v := 116) C dX7_wordFrom_110 (by decide) ?_
            refine V_callRi (As := [.int p1, .int 109, .int 111, .int 117, .int 110, .int 116]) (rest := []) (wc := WX d a u) C (fun r h => ct_X7_isWord _ d a u p1 109 111 117 110 116 r h) kv_X7_isWord kl_X7_155 [0, 1, 2, 3, 4, 5] dX7_wordFrom_112 rfl rfl rfl rfl (Nat.le_of_ble_eq_true rfl) ⟨(Nat.le_of_ble_eq_true rfl), (Nat.le_of_ble_eq_true rfl)⟩ rfl rfl ⟨Nat.le_refl _, Nat.le_refl _⟩ rfl (fun r112 hr112 => ?_)
            refine V_if_eq (tgt := 120) C dX7_wordFrom_115 (by decide) ?_ ?_
            · refine V_aload_n C 0 dX7_wordFrom_120 rfl rfl ?_
              refine V_iload_n C 1 dX7_wordFrom_121 rfl rfl ?_
              refine V_bipush (v := 116) C dX7_wordFrom_122 (by decide) ?_
              refine V_bipush (v := 97) C dX7_wordFrom_124 (by decide) ?_
              refine V_bipush (v := 107) C dX7_wordFrom_126 (by decide) ?_
              refine V_bipush (v := 101) C dX7_wordFrom_128 (by decide) ?_
              refine V_bipush (v := 32) C dX7_wordFrom_130 (by decide) ?_
              refine V_callRi (As := [.int p1, .int 116, .int 97, .int 107, .int 101, .int 32]) (rest := []) (wc := WX d a u) C (fun r h => ct_X7_isWord _ d a u p1 116 97 107 101 32 r h) kv_X7_isWord kl_X7_155 [0, 1, 2, 3, 4, 5] dX7_wordFrom_132 rfl rfl rfl rfl (Nat.le_of_ble_eq_true rfl) ⟨(Nat.le_of_ble_eq_true rfl), (Nat.le_of_ble_eq_true rfl)⟩ rfl rfl ⟨Nat.le_refl _, Nat.le_refl _⟩ rfl (fun r132 hr132 => ?_)
              refine V_if_eq (tgt := 141) C dX7_wordFrom_135 (by decide) ?_ ?_
              · refine V_aload_n C 0 dX7_wordFrom_141 rfl rfl ?_
                refine V_iload_n C 1 dX7_wordFrom_142 rfl rfl ?_
                refine V_bipush (v := 115) C dX7_wordFrom_143 (by decide) ?_
                refine V_bipush (v := 101) C dX7_wordFrom_145 (by decide) ?_
                refine V_bipush (v := 114) C dX7_wordFrom_147 (by decide) ?_
                refine V_bipush (v := 118) C dX7_wordFrom_149 (by decide) ?_
                refine V_bipush (v := 101) C dX7_wordFrom_151 (by decide) ?_
                refine V_callRi (As := [.int p1, .int 115, .int 101, .int 114, .int 118, .int 101]) (rest := []) (wc := WX d a u) C (fun r h => ct_X7_isWord _ d a u p1 115 101 114 118 101 r h) kv_X7_isWord kl_X7_155 [0, 1, 2, 3, 4, 5] dX7_wordFrom_153 rfl rfl rfl rfl (Nat.le_of_ble_eq_true rfl) ⟨(Nat.le_of_ble_eq_true rfl), (Nat.le_of_ble_eq_true rfl)⟩ rfl rfl ⟨Nat.le_refl _, Nat.le_refl _⟩ rfl (fun r153 hr153 => ?_)
                refine V_if_eq (tgt := 164) C dX7_wordFrom_156 (by decide) ?_ ?_
                · refine V_iconst (v := (-1)) C dX7_wordFrom_164 (by decide) ?_
                  exact V_iretR C hr hlk dX7_wordFrom_165
                · refine V_bipush (v := 7) C dX7_wordFrom_159 (by decide) ?_
                  refine V_goto (tgt := 165) C dX7_wordFrom_161 (by decide) ?_
                  exact V_iretR C hr hlk dX7_wordFrom_165
              · refine V_bipush (v := 6) C dX7_wordFrom_138 (by decide) ?_
                exact V_iretR C hr hlk dX7_wordFrom_140
            · refine V_iconst (v := 5) C dX7_wordFrom_118 (by decide) ?_
              exact V_iretR C hr hlk dX7_wordFrom_119
          · refine V_iconst (v := 4) C dX7_wordFrom_98 (by decide) ?_
            exact V_iretR C hr hlk dX7_wordFrom_99
        · refine V_iconst (v := 3) C dX7_wordFrom_78 (by decide) ?_
          exact V_iretR C hr hlk dX7_wordFrom_79
      · refine V_iconst (v := 2) C dX7_wordFrom_58 (by decide) ?_
        exact V_iretR C hr hlk dX7_wordFrom_59
    · refine V_iconst (v := 1) C dX7_wordFrom_38 (by decide) ?_
      exact V_iretR C hr hlk dX7_wordFrom_39
  · refine V_iconst (v := 0) C dX7_wordFrom_18 (by decide) ?_
    exact V_iretR C hr hlk dX7_wordFrom_19
set_option maxRecDepth 20000 in
theorem ct_X7_wordFrom (l : Launch) (d : Dt) (a : Nat → Nat) (u : UX) (p1 : Int32) (z : Int32) (h : f_X7_wordFrom u p1 = some z) : CtR l d yX7_wordFrom cX7_wordFrom 2 (some .int) (rmF 1 28) [.ref (a 0), .int p1] (WX d a u) (some (.int z)) :=
  CtR.start (by decide) (Nat.le_of_ble_eq_true rfl) (by simp [Value.category]) [some (.ref (a 0)), some (.int p1)] rfl (fun x C hr hlk => V_eqv (fun _ => h) (v_X7_wordFrom C hr hlk z u p1))

/-! MastRobotsModel.reads -/
def f_X7_reads_b126 (u : UX) (v1 : Int32) : Option (Int32 × UX) :=
  ((f_X7_sign u).bind fun r127 => (if r127 = 59 then some ((-1), (u.1, u.2.1, u.2.2.1, u.2.2.2.1, u.2.2.2.2.1, u.2.2.2.2.2.1, u.2.2.2.2.2.2.1, (u.2.2.2.2.2.2.2.1 + 1), u.2.2.2.2.2.2.2.2.1, u.2.2.2.2.2.2.2.2.2.1, u.2.2.2.2.2.2.2.2.2.2.1, u.2.2.2.2.2.2.2.2.2.2.2.1, u.2.2.2.2.2.2.2.2.2.2.2.2.1, u.2.2.2.2.2.2.2.2.2.2.2.2.2)) else some ((u.2.2.2.2.2.2.2.1 - v1), u)))
def f_X7_reads_b5 : Nat → UX → Int32 → Option (Int32 × UX)
  | 0, _, _ => none
  | n + 1, u, v1 => ((f_X7_sign u).bind fun r6 => ((f_X7_in r6 97 122).bind fun r13 => (if r13 = 0 then ((f_X7_wordFrom u v1).bind fun r35 => (if 0 ≤ r35 then (if r35 = 2 then f_X7_reads_b126 (u.1, u.2.1, u.2.2.1, u.2.2.2.1, u.2.2.2.2.1, u.2.2.2.2.2.1, u.2.2.2.2.2.2.1, u.2.2.2.2.2.2.2.1, u.2.2.2.2.2.2.2.2.1, u.2.2.2.2.2.2.2.2.2.1, u.2.2.2.2.2.2.2.2.2.2.1, r35, u.2.2.2.2.2.2.2.2.2.2.2.2.1, u.2.2.2.2.2.2.2.2.2.2.2.2.2) v1 else ((f_X7_sign (u.1, u.2.1, u.2.2.1, u.2.2.2.1, u.2.2.2.2.1, u.2.2.2.2.2.1, u.2.2.2.2.2.2.1, u.2.2.2.2.2.2.2.1, u.2.2.2.2.2.2.2.2.1, u.2.2.2.2.2.2.2.2.2.1, u.2.2.2.2.2.2.2.2.2.2.1, r35, u.2.2.2.2.2.2.2.2.2.2.2.2.1, u.2.2.2.2.2.2.2.2.2.2.2.2.2)).bind fun r59 => (if r59 = 32 then ((f_X7_sign (u.1, u.2.1, u.2.2.1, u.2.2.2.1, u.2.2.2.2.1, u.2.2.2.2.2.1, u.2.2.2.2.2.2.1, (u.2.2.2.2.2.2.2.1 + 1), u.2.2.2.2.2.2.2.2.1, u.2.2.2.2.2.2.2.2.2.1, u.2.2.2.2.2.2.2.2.2.2.1, r35, u.2.2.2.2.2.2.2.2.2.2.2.2.1, u.2.2.2.2.2.2.2.2.2.2.2.2.2)).bind fun r85 => ((f_X7_in r85 48 57).bind fun r92 => (if r92 = 0 then some (((u.2.2.2.2.2.2.2.1 + 1) - v1), (u.1, u.2.1, u.2.2.1, u.2.2.2.1, u.2.2.2.2.1, u.2.2.2.2.2.1, u.2.2.2.2.2.2.1, (u.2.2.2.2.2.2.2.1 + 1), u.2.2.2.2.2.2.2.2.1, u.2.2.2.2.2.2.2.2.2.1, u.2.2.2.2.2.2.2.2.2.2.1, r35, u.2.2.2.2.2.2.2.2.2.2.2.2.1, u.2.2.2.2.2.2.2.2.2.2.2.2.2)) else ((f_X7_sign (u.1, u.2.1, u.2.2.1, u.2.2.2.1, u.2.2.2.2.1, u.2.2.2.2.2.1, u.2.2.2.2.2.2.1, (u.2.2.2.2.2.2.2.1 + 1), u.2.2.2.2.2.2.2.2.1, u.2.2.2.2.2.2.2.2.2.1, u.2.2.2.2.2.2.2.2.2.2.1, r35, u.2.2.2.2.2.2.2.2.2.2.2.2.1, u.2.2.2.2.2.2.2.2.2.2.2.2.2)).bind fun r107 => f_X7_reads_b126 (u.1, u.2.1, u.2.2.1, u.2.2.2.1, u.2.2.2.2.1, u.2.2.2.2.2.1, u.2.2.2.2.2.2.1, ((u.2.2.2.2.2.2.2.1 + 1) + 1), u.2.2.2.2.2.2.2.2.1, u.2.2.2.2.2.2.2.2.2.1, (r107 - 48), r35, u.2.2.2.2.2.2.2.2.2.2.2.2.1, u.2.2.2.2.2.2.2.2.2.2.2.2.2) v1)))) else some ((u.2.2.2.2.2.2.2.1 - v1), (u.1, u.2.1, u.2.2.1, u.2.2.2.1, u.2.2.2.2.1, u.2.2.2.2.2.1, u.2.2.2.2.2.2.1, u.2.2.2.2.2.2.2.1, u.2.2.2.2.2.2.2.2.1, u.2.2.2.2.2.2.2.2.2.1, u.2.2.2.2.2.2.2.2.2.2.1, r35, u.2.2.2.2.2.2.2.2.2.2.2.2.1, u.2.2.2.2.2.2.2.2.2.2.2.2.2))))) else some (0, (u.1, u.2.1, u.2.2.1, u.2.2.2.1, u.2.2.2.2.1, u.2.2.2.2.2.1, u.2.2.2.2.2.2.1, u.2.2.2.2.2.2.2.1, u.2.2.2.2.2.2.2.2.1, u.2.2.2.2.2.2.2.2.2.1, u.2.2.2.2.2.2.2.2.2.2.1, r35, u.2.2.2.2.2.2.2.2.2.2.2.2.1, u.2.2.2.2.2.2.2.2.2.2.2.2.2)))) else f_X7_reads_b5 n (u.1, u.2.1, u.2.2.1, u.2.2.2.1, u.2.2.2.2.1, u.2.2.2.2.2.1, u.2.2.2.2.2.2.1, (u.2.2.2.2.2.2.2.1 + 1), u.2.2.2.2.2.2.2.2.1, u.2.2.2.2.2.2.2.2.2.1, u.2.2.2.2.2.2.2.2.2.2.1, u.2.2.2.2.2.2.2.2.2.2.2.1, u.2.2.2.2.2.2.2.2.2.2.2.2.1, u.2.2.2.2.2.2.2.2.2.2.2.2.2) v1)))
def f_X7_reads (u : UX) : Option (Int32 × UX) :=
  f_X7_reads_b5 FUEL u u.2.2.2.2.2.2.2.1
set_option maxRecDepth 20000 in
theorem v_X7_reads_b126 {x : Am} {d : Dt} {A : Nat → Prop} {a : Nat → Nat} (C : Cx x cX7_reads 2 yX7_reads.cls d (Imu d A x.s.heap)) (hr : x.meth.sig.returnType = (some .int)) (hlk : x.meth.locks = false) (z : Int32 × UX) (u : UX) (v1 : Int32) : V x (rmF 2 49) 0 0 (MQ x.below (QW d A (WX d a z.2) (some (.int z.1))) x.args x.s 0 0 A) 2 (Imu d A x.s.heap) (f_X7_reads_b126 u v1 = some z) 126 (WX d a u) [some (.ref (a 0)), some (.int v1)] [] := by
  unfold f_X7_reads_b126
  refine V_aload_n C 0 dX7_reads_126 rfl rfl ?_
  refine V_callRi (As := []) (rest := []) (wc := WX d a u) C (fun r h => ct_X7_sign _ d a u r h) kv_X7_sign kl_X7_159 [0, 1, 2, 3, 4, 5] dX7_reads_127 rfl rfl rfl rfl (Nat.le_of_ble_eq_true rfl) ⟨(Nat.le_of_ble_eq_true rfl), (Nat.le_of_ble_eq_true rfl)⟩ rfl rfl ⟨Nat.le_refl _, Nat.le_refl _⟩ rfl (fun r127 hr127 => ?_)
  refine V_bipush (v := 59) C dX7_reads_130 (by decide) ?_
  refine V_icmp_eq (tgt := 142) C dX7_reads_132 (by decide) ?_ ?_
  · refine V_aload_n C 0 dX7_reads_142 rfl rfl ?_
    refine V_dup C dX7_reads_143 rfl ?_
    refine V_get (v := .int u.2.2.2.2.2.2.2.1) C fx7 0 7 kf_X7_152 (by decide) rfl rfl dX7_reads_144 ?_
    refine V_iconst (v := 1) C dX7_reads_147 (by decide) ?_
    refine V_iadd C dX7_reads_148 ?_
    refine V_putI (ws' := WX d a (u.1, u.2.1, u.2.2.1, u.2.2.2.1, u.2.2.2.2.1, u.2.2.2.2.2.1, u.2.2.2.2.2.2.1, (u.2.2.2.2.2.2.2.1 + 1), u.2.2.2.2.2.2.2.2.1, u.2.2.2.2.2.2.2.2.2.1, u.2.2.2.2.2.2.2.2.2.2.1, u.2.2.2.2.2.2.2.2.2.2.2.1, u.2.2.2.2.2.2.2.2.2.2.2.2.1, u.2.2.2.2.2.2.2.2.2.2.2.2.2)) C fx7 0 7 kf_X7_152 (by decide) rfl rfl rfl (Nat.le_of_ble_eq_true rfl) rfl dX7_reads_149 ?_
    refine V_iconst (v := (-1)) C dX7_reads_152 (by decide) ?_
    exact V_iretW (Wd := fun w => WX d a w) C hr hlk dX7_reads_153 rfl
  · refine V_aload_n C 0 dX7_reads_135 rfl rfl ?_
    refine V_get (v := .int u.2.2.2.2.2.2.2.1) C fx7 0 7 kf_X7_152 (by decide) rfl rfl dX7_reads_136 ?_
    refine V_iload_n C 1 dX7_reads_139 rfl rfl ?_
    refine V_isub C dX7_reads_140 ?_
    exact V_iretW (Wd := fun w => WX d a w) C hr hlk dX7_reads_141 rfl
set_option maxRecDepth 20000 in
theorem v_X7_reads_b5 {x : Am} {d : Dt} {A : Nat → Prop} {a : Nat → Nat} (C : Cx x cX7_reads 2 yX7_reads.cls d (Imu d A x.s.heap)) (hr : x.meth.sig.returnType = (some .int)) (hlk : x.meth.locks = false) (z : Int32 × UX) (n : Nat) (u : UX) (v1 : Int32) : V x (rmF 2 49) 0 0 (MQ x.below (QW d A (WX d a z.2) (some (.int z.1))) x.args x.s 0 0 A) 2 (Imu d A x.s.heap) (f_X7_reads_b5 n u v1 = some z) 5 (WX d a u) [some (.ref (a 0)), some (.int v1)] [] := by
  induction n generalizing u v1 with
  | zero => exact V_none
  | succ n ih =>
    rw [f_X7_reads_b5]
    refine V_aload_n C 0 dX7_reads_5 rfl rfl ?_
    refine V_callRi (As := []) (rest := []) (wc := WX d a u) C (fun r h => ct_X7_sign _ d a u r h) kv_X7_sign kl_X7_159 [0, 1, 2, 3, 4, 5] dX7_reads_6 rfl rfl rfl rfl (Nat.le_of_ble_eq_true rfl) ⟨(Nat.le_of_ble_eq_true rfl), (Nat.le_of_ble_eq_true rfl)⟩ rfl rfl ⟨Nat.le_refl _, Nat.le_refl _⟩ rfl (fun r6 hr6 => ?_)
    refine V_bipush (v := 97) C dX7_reads_9 (by decide) ?_
    refine V_bipush (v := 122) C dX7_reads_11 (by decide) ?_
    refine V_callSi (As := [.int r6, .int 97, .int 122]) (rest := []) (wc := []) C (fun r h => ct_X7_in _ d r6 97 122 r h) ks_X7_in kl_X7_26 [] dX7_reads_13 rfl rfl (Nat.le_of_ble_eq_true rfl) ⟨(Nat.le_of_ble_eq_true rfl), (Nat.le_of_ble_eq_true rfl)⟩ rfl rfl ⟨Nat.le_refl _, Nat.le_refl _⟩ rfl (fun r13 hr13 => ?_)
    refine V_if_eq (tgt := 32) C dX7_reads_16 (by decide) ?_ ?_
    · refine V_aload_n C 0 dX7_reads_32 rfl rfl ?_
      refine V_aload_n C 0 dX7_reads_33 rfl rfl ?_
      refine V_iload_n C 1 dX7_reads_34 rfl rfl ?_
      refine V_callRi (As := [.int v1]) (rest := [.ref (a 0)]) (wc := WX d a u) C (fun r h => ct_X7_wordFrom _ d a u v1 r h) kv_X7_wordFrom kl_X7_162 [0, 1, 2, 3, 4, 5] dX7_reads_35 rfl rfl rfl rfl (Nat.le_of_ble_eq_true rfl) ⟨(Nat.le_of_ble_eq_true rfl), (Nat.le_of_ble_eq_true rfl)⟩ rfl rfl ⟨Nat.le_refl _, Nat.le_refl _⟩ rfl (fun r35 hr35 => ?_)
      refine V_putI (ws' := WX d a (u.1, u.2.1, u.2.2.1, u.2.2.2.1, u.2.2.2.2.1, u.2.2.2.2.2.1, u.2.2.2.2.2.2.1, u.2.2.2.2.2.2.2.1, u.2.2.2.2.2.2.2.2.1, u.2.2.2.2.2.2.2.2.2.1, u.2.2.2.2.2.2.2.2.2.2.1, r35, u.2.2.2.2.2.2.2.2.2.2.2.2.1, u.2.2.2.2.2.2.2.2.2.2.2.2.2)) C fx7 0 11 kf_X7_165 (by decide) rfl rfl rfl (Nat.le_of_ble_eq_true rfl) rfl dX7_reads_38 ?_
      refine V_aload_n C 0 dX7_reads_41 rfl rfl ?_
      refine V_get (v := .int r35) C fx7 0 11 kf_X7_165 (by decide) rfl rfl dX7_reads_42 ?_
      refine V_if_ge (tgt := 50) C dX7_reads_45 (by decide) ?_ ?_
      · refine V_aload_n C 0 dX7_reads_50 rfl rfl ?_
        refine V_get (v := .int r35) C fx7 0 11 kf_X7_165 (by decide) rfl rfl dX7_reads_51 ?_
        refine V_iconst (v := 2) C dX7_reads_54 (by decide) ?_
        refine V_icmp_eq (tgt := 126) C dX7_reads_55 (by decide) ?_ ?_
        · exact v_X7_reads_b126 C hr hlk z (u.1, u.2.1, u.2.2.1, u.2.2.2.1, u.2.2.2.2.1, u.2.2.2.2.2.1, u.2.2.2.2.2.2.1, u.2.2.2.2.2.2.2.1, u.2.2.2.2.2.2.2.2.1, u.2.2.2.2.2.2.2.2.2.1, u.2.2.2.2.2.2.2.2.2.2.1, r35, u.2.2.2.2.2.2.2.2.2.2.2.2.1, u.2.2.2.2.2.2.2.2.2.2.2.2.2) v1
        · refine V_aload_n C 0 dX7_reads_58 rfl rfl ?_
          refine V_callRi (As := []) (rest := []) (wc := WX d a (u.1, u.2.1, u.2.2.1, u.2.2.2.1, u.2.2.2.2.1, u.2.2.2.2.2.1, u.2.2.2.2.2.2.1, u.2.2.2.2.2.2.2.1, u.2.2.2.2.2.2.2.2.1, u.2.2.2.2.2.2.2.2.2.1, u.2.2.2.2.2.2.2.2.2.2.1, r35, u.2.2.2.2.2.2.2.2.2.2.2.2.1, u.2.2.2.2.2.2.2.2.2.2.2.2.2)) C (fun r h => ct_X7_sign _ d a (u.1, u.2.1, u.2.2.1, u.2.2.2.1, u.2.2.2.2.1, u.2.2.2.2.2.1, u.2.2.2.2.2.2.1, u.2.2.2.2.2.2.2.1, u.2.2.2.2.2.2.2.2.1, u.2.2.2.2.2.2.2.2.2.1, u.2.2.2.2.2.2.2.2.2.2.1, r35, u.2.2.2.2.2.2.2.2.2.2.2.2.1, u.2.2.2.2.2.2.2.2.2.2.2.2.2) r h) kv_X7_sign kl_X7_159 [0, 1, 2, 3, 4, 5] dX7_reads_59 rfl rfl rfl rfl (Nat.le_of_ble_eq_true rfl) ⟨(Nat.le_of_ble_eq_true rfl), (Nat.le_of_ble_eq_true rfl)⟩ rfl rfl ⟨Nat.le_refl _, Nat.le_refl _⟩ rfl (fun r59 hr59 => ?_)
          refine V_bipush (v := 32) C dX7_reads_62 (by decide) ?_
          refine V_icmp_eq (tgt := 74) C dX7_reads_64 (by decide) ?_ ?_
          · refine V_aload_n C 0 dX7_reads_74 rfl rfl ?_
            refine V_dup C dX7_reads_75 rfl ?_
            refine V_get (v := .int u.2.2.2.2.2.2.2.1) C fx7 0 7 kf_X7_152 (by decide) rfl rfl dX7_reads_76 ?_
            refine V_iconst (v := 1) C dX7_reads_79 (by decide) ?_
            refine V_iadd C dX7_reads_80 ?_
            refine V_putI (ws' := WX d a (u.1, u.2.1, u.2.2.1, u.2.2.2.1, u.2.2.2.2.1, u.2.2.2.2.2.1, u.2.2.2.2.2.2.1, (u.2.2.2.2.2.2.2.1 + 1), u.2.2.2.2.2.2.2.2.1, u.2.2.2.2.2.2.2.2.2.1, u.2.2.2.2.2.2.2.2.2.2.1, r35, u.2.2.2.2.2.2.2.2.2.2.2.2.1, u.2.2.2.2.2.2.2.2.2.2.2.2.2)) C fx7 0 7 kf_X7_152 (by decide) rfl rfl rfl (Nat.le_of_ble_eq_true rfl) rfl dX7_reads_81 ?_
            refine V_aload_n C 0 dX7_reads_84 rfl rfl ?_
            refine V_callRi (As := []) (rest := []) (wc := WX d a (u.1, u.2.1, u.2.2.1, u.2.2.2.1, u.2.2.2.2.1, u.2.2.2.2.2.1, u.2.2.2.2.2.2.1, (u.2.2.2.2.2.2.2.1 + 1), u.2.2.2.2.2.2.2.2.1, u.2.2.2.2.2.2.2.2.2.1, u.2.2.2.2.2.2.2.2.2.2.1, r35, u.2.2.2.2.2.2.2.2.2.2.2.2.1, u.2.2.2.2.2.2.2.2.2.2.2.2.2)) C (fun r h => ct_X7_sign _ d a (u.1, u.2.1, u.2.2.1, u.2.2.2.1, u.2.2.2.2.1, u.2.2.2.2.2.1, u.2.2.2.2.2.2.1, (u.2.2.2.2.2.2.2.1 + 1), u.2.2.2.2.2.2.2.2.1, u.2.2.2.2.2.2.2.2.2.1, u.2.2.2.2.2.2.2.2.2.2.1, r35, u.2.2.2.2.2.2.2.2.2.2.2.2.1, u.2.2.2.2.2.2.2.2.2.2.2.2.2) r h) kv_X7_sign kl_X7_159 [0, 1, 2, 3, 4, 5] dX7_reads_85 rfl rfl rfl rfl (Nat.le_of_ble_eq_true rfl) ⟨(Nat.le_of_ble_eq_true rfl), (Nat.le_of_ble_eq_true rfl)⟩ rfl rfl ⟨Nat.le_refl _, Nat.le_refl _⟩ rfl (fun r85 hr85 => ?_)
            refine V_bipush (v := 48) C dX7_reads_88 (by decide) ?_
            refine V_bipush (v := 57) C dX7_reads_90 (by decide) ?_
            refine V_callSi (As := [.int r85, .int 48, .int 57]) (rest := []) (wc := []) C (fun r h => ct_X7_in _ d r85 48 57 r h) ks_X7_in kl_X7_26 [] dX7_reads_92 rfl rfl (Nat.le_of_ble_eq_true rfl) ⟨(Nat.le_of_ble_eq_true rfl), (Nat.le_of_ble_eq_true rfl)⟩ rfl rfl ⟨Nat.le_refl _, Nat.le_refl _⟩ rfl (fun r92 hr92 => ?_)
            refine V_if_ne (tgt := 105) C dX7_reads_95 (by decide) ?_ ?_
            · refine V_aload_n C 0 dX7_reads_105 rfl rfl ?_
              refine V_aload_n C 0 dX7_reads_106 rfl rfl ?_
              refine V_callRi (As := []) (rest := [.ref (a 0)]) (wc := WX d a (u.1, u.2.1, u.2.2.1, u.2.2.2.1, u.2.2.2.2.1, u.2.2.2.2.2.1, u.2.2.2.2.2.2.1, (u.2.2.2.2.2.2.2.1 + 1), u.2.2.2.2.2.2.2.2.1, u.2.2.2.2.2.2.2.2.2.1, u.2.2.2.2.2.2.2.2.2.2.1, r35, u.2.2.2.2.2.2.2.2.2.2.2.2.1, u.2.2.2.2.2.2.2.2.2.2.2.2.2)) C (fun r h => ct_X7_sign _ d a (u.1, u.2.1, u.2.2.1, u.2.2.2.1, u.2.2.2.2.1, u.2.2.2.2.2.1, u.2.2.2.2.2.2.1, (u.2.2.2.2.2.2.2.1 + 1), u.2.2.2.2.2.2.2.2.1, u.2.2.2.2.2.2.2.2.2.1, u.2.2.2.2.2.2.2.2.2.2.1, r35, u.2.2.2.2.2.2.2.2.2.2.2.2.1, u.2.2.2.2.2.2.2.2.2.2.2.2.2) r h) kv_X7_sign kl_X7_159 [0, 1, 2, 3, 4, 5] dX7_reads_107 rfl rfl rfl rfl (Nat.le_of_ble_eq_true rfl) ⟨(Nat.le_of_ble_eq_true rfl), (Nat.le_of_ble_eq_true rfl)⟩ rfl rfl ⟨Nat.le_refl _, Nat.le_refl _⟩ rfl (fun r107 hr107 => ?_)
              refine V_bipush (v := 48) C dX7_reads_110 (by decide) ?_
              refine V_isub C dX7_reads_112 ?_
              refine V_putI (ws' := WX d a (u.1, u.2.1, u.2.2.1, u.2.2.2.1, u.2.2.2.2.1, u.2.2.2.2.2.1, u.2.2.2.2.2.2.1, (u.2.2.2.2.2.2.2.1 + 1), u.2.2.2.2.2.2.2.2.1, u.2.2.2.2.2.2.2.2.2.1, (r107 - 48), r35, u.2.2.2.2.2.2.2.2.2.2.2.2.1, u.2.2.2.2.2.2.2.2.2.2.2.2.2)) C fx7 0 10 kf_X7_168 (by decide) rfl rfl rfl (Nat.le_of_ble_eq_true rfl) rfl dX7_reads_113 ?_
              refine V_aload_n C 0 dX7_reads_116 rfl rfl ?_
              refine V_dup C dX7_reads_117 rfl ?_
              refine V_get (v := .int (u.2.2.2.2.2.2.2.1 + 1)) C fx7 0 7 kf_X7_152 (by decide) rfl rfl dX7_reads_118 ?_
              refine V_iconst (v := 1) C dX7_reads_121 (by decide) ?_
              refine V_iadd C dX7_reads_122 ?_
              refine V_putI (ws' := WX d a (u.1, u.2.1, u.2.2.1, u.2.2.2.1, u.2.2.2.2.1, u.2.2.2.2.2.1, u.2.2.2.2.2.2.1, ((u.2.2.2.2.2.2.2.1 + 1) + 1), u.2.2.2.2.2.2.2.2.1, u.2.2.2.2.2.2.2.2.2.1, (r107 - 48), r35, u.2.2.2.2.2.2.2.2.2.2.2.2.1, u.2.2.2.2.2.2.2.2.2.2.2.2.2)) C fx7 0 7 kf_X7_152 (by decide) rfl rfl rfl (Nat.le_of_ble_eq_true rfl) rfl dX7_reads_123 ?_
              exact v_X7_reads_b126 C hr hlk z (u.1, u.2.1, u.2.2.1, u.2.2.2.1, u.2.2.2.2.1, u.2.2.2.2.2.1, u.2.2.2.2.2.2.1, ((u.2.2.2.2.2.2.2.1 + 1) + 1), u.2.2.2.2.2.2.2.2.1, u.2.2.2.2.2.2.2.2.2.1, (r107 - 48), r35, u.2.2.2.2.2.2.2.2.2.2.2.2.1, u.2.2.2.2.2.2.2.2.2.2.2.2.2) v1
            · refine V_aload_n C 0 dX7_reads_98 rfl rfl ?_
              refine V_get (v := .int (u.2.2.2.2.2.2.2.1 + 1)) C fx7 0 7 kf_X7_152 (by decide) rfl rfl dX7_reads_99 ?_
              refine V_iload_n C 1 dX7_reads_102 rfl rfl ?_
              refine V_isub C dX7_reads_103 ?_
              exact V_iretW (Wd := fun w => WX d a w) C hr hlk dX7_reads_104 rfl
          · refine V_aload_n C 0 dX7_reads_67 rfl rfl ?_
            refine V_get (v := .int u.2.2.2.2.2.2.2.1) C fx7 0 7 kf_X7_152 (by decide) rfl rfl dX7_reads_68 ?_
            refine V_iload_n C 1 dX7_reads_71 rfl rfl ?_
            refine V_isub C dX7_reads_72 ?_
            exact V_iretW (Wd := fun w => WX d a w) C hr hlk dX7_reads_73 rfl
      · refine V_iconst (v := 0) C dX7_reads_48 (by decide) ?_
        exact V_iretW (Wd := fun w => WX d a w) C hr hlk dX7_reads_49 rfl
    · refine V_aload_n C 0 dX7_reads_19 rfl rfl ?_
      refine V_dup C dX7_reads_20 rfl ?_
      refine V_get (v := .int u.2.2.2.2.2.2.2.1) C fx7 0 7 kf_X7_152 (by decide) rfl rfl dX7_reads_21 ?_
      refine V_iconst (v := 1) C dX7_reads_24 (by decide) ?_
      refine V_iadd C dX7_reads_25 ?_
      refine V_putI (ws' := WX d a (u.1, u.2.1, u.2.2.1, u.2.2.2.1, u.2.2.2.2.1, u.2.2.2.2.2.1, u.2.2.2.2.2.2.1, (u.2.2.2.2.2.2.2.1 + 1), u.2.2.2.2.2.2.2.2.1, u.2.2.2.2.2.2.2.2.2.1, u.2.2.2.2.2.2.2.2.2.2.1, u.2.2.2.2.2.2.2.2.2.2.2.1, u.2.2.2.2.2.2.2.2.2.2.2.2.1, u.2.2.2.2.2.2.2.2.2.2.2.2.2)) C fx7 0 7 kf_X7_152 (by decide) rfl rfl rfl (Nat.le_of_ble_eq_true rfl) rfl dX7_reads_26 ?_
      refine V_goto (tgt := 5) C dX7_reads_29 (by decide) ?_
      exact ih (u.1, u.2.1, u.2.2.1, u.2.2.2.1, u.2.2.2.2.1, u.2.2.2.2.2.1, u.2.2.2.2.2.2.1, (u.2.2.2.2.2.2.2.1 + 1), u.2.2.2.2.2.2.2.2.1, u.2.2.2.2.2.2.2.2.2.1, u.2.2.2.2.2.2.2.2.2.2.1, u.2.2.2.2.2.2.2.2.2.2.2.1, u.2.2.2.2.2.2.2.2.2.2.2.2.1, u.2.2.2.2.2.2.2.2.2.2.2.2.2) v1
set_option maxRecDepth 20000 in
theorem v_X7_reads {x : Am} {d : Dt} {A : Nat → Prop} {a : Nat → Nat} (C : Cx x cX7_reads 2 yX7_reads.cls d (Imu d A x.s.heap)) (hr : x.meth.sig.returnType = (some .int)) (hlk : x.meth.locks = false) (z : Int32 × UX) (u : UX) : V x (rmF 2 49) 0 0 (MQ x.below (QW d A (WX d a z.2) (some (.int z.1))) x.args x.s 0 0 A) 2 (Imu d A x.s.heap) (f_X7_reads u = some z) 0 (WX d a u) [some (.ref (a 0)), none] [] := by
  unfold f_X7_reads
  refine V_aload_n C 0 dX7_reads_0 rfl rfl ?_
  refine V_get (v := .int u.2.2.2.2.2.2.2.1) C fx7 0 7 kf_X7_152 (by decide) rfl rfl dX7_reads_1 ?_
  refine V_istore_n (lv' := [some (.ref (a 0)), some (.int u.2.2.2.2.2.2.2.1)]) C 1 dX7_reads_4 rfl (by decide) rfl ?_
  exact v_X7_reads_b5 C hr hlk z FUEL u u.2.2.2.2.2.2.2.1
set_option maxRecDepth 20000 in
theorem ct_X7_reads (l : Launch) (d : Dt) (a : Nat → Nat) (u : UX) (z : Int32 × UX) (h : f_X7_reads u = some z) : CtW l d yX7_reads cX7_reads 2 (some .int) (rmF 2 49) [.ref (a 0)] (WX d a u) (WX d a z.2) (some (.int z.1)) :=
  CtW.start (by decide) (Nat.le_of_ble_eq_true rfl) (by simp [Value.category]) [some (.ref (a 0)), none] rfl (fun x A C hr hlk => V_eqv (fun _ => h) (v_X7_reads C hr hlk z u))

/-! MastRobotsModel.does -/
def f_X7_does (u : UX) : Option (Int32 × UX) :=
  (if u.2.2.2.2.2.2.2.2.2.2.2.1 = 0 then ((f_X7_lifts u u.2.2.2.2.2.2.2.2.2.2.1).bind fun r53 => some (r53.1, r53.2)) else (if u.2.2.2.2.2.2.2.2.2.2.2.1 = 1 then ((f_X7_lays u u.2.2.2.2.2.2.2.2.2.2.1).bind fun r62 => some (r62.1, r62.2)) else (if u.2.2.2.2.2.2.2.2.2.2.2.1 = 2 then ((f_X7_weighs u).bind fun r67 => some (r67.1, r67.2)) else (if u.2.2.2.2.2.2.2.2.2.2.2.1 = 3 then ((f_X7_turns u u.2.2.2.2.2.2.2.2.2.2.1).bind fun r76 => some (r76.1, r76.2)) else (if u.2.2.2.2.2.2.2.2.2.2.2.1 = 4 then ((f_X7_turns u (-u.2.2.2.2.2.2.2.2.2.2.1)).bind fun r86 => some (r86.1, r86.2)) else (if u.2.2.2.2.2.2.2.2.2.2.2.1 = 5 then ((f_X7_mounts u u.2.2.2.2.2.2.2.2.2.2.1).bind fun r95 => some (r95.1, r95.2)) else (if u.2.2.2.2.2.2.2.2.2.2.2.1 = 6 then ((f_X7_takes u u.2.2.2.2.2.2.2.2.2.2.1).bind fun r104 => some (r104.1, r104.2)) else ((f_X7_servesBy u u.2.2.2.2.2.2.2.2.2.2.1).bind fun r113 => some (r113.1, r113.2)))))))))
set_option maxRecDepth 20000 in
theorem v_X7_does {x : Am} {d : Dt} {A : Nat → Prop} {a : Nat → Nat} (C : Cx x cX7_does 1 yX7_does.cls d (Imu d A x.s.heap)) (hr : x.meth.sig.returnType = (some .int)) (hlk : x.meth.locks = false) (z : Int32 × UX) (u : UX) : V x (rmF 6 136) 0 0 (MQ x.below (QW d A (WX d a z.2) (some (.int z.1))) x.args x.s 0 0 A) 1 (Imu d A x.s.heap) (f_X7_does u = some z) 0 (WX d a u) [some (.ref (a 0))] [] := by
  unfold f_X7_does
  refine V_aload_n C 0 dX7_does_0 rfl rfl ?_
  refine V_get (v := .int u.2.2.2.2.2.2.2.2.2.2.2.1) C fx7 0 11 kf_X7_165 (by decide) rfl rfl dX7_does_1 ?_
  refine V_case (fun c0 => ?_) (fun c0 => ?_)
  · refine V_tsIn (tgt := 48) C c0 dX7_does_4 (by decide) (by decide) rfl (by decide) ?_
    refine V_aload_n C 0 dX7_does_48 rfl rfl ?_
    refine V_aload_n C 0 dX7_does_49 rfl rfl ?_
    refine V_get (v := .int u.2.2.2.2.2.2.2.2.2.2.1) C fx7 0 10 kf_X7_168 (by decide) rfl rfl dX7_does_50 ?_
    refine V_callWi (As := [.int u.2.2.2.2.2.2.2.2.2.2.1]) (rest := []) (wc := WX d a u) (Wd := fun w => WX d a w) C (fun r h => ct_X7_lifts _ d a u u.2.2.2.2.2.2.2.2.2.2.1 r h) kv_X7_lifts kl_X7_70 [0, 1, 2, 3, 4, 5] (fun w => WX d a w) dX7_does_53 rfl rfl (fun _ => rfl) (fun _ => rfl) rfl rfl rfl (Nat.le_of_ble_eq_true rfl) ⟨(Nat.le_of_ble_eq_true rfl), (Nat.le_of_ble_eq_true rfl)⟩ rfl rfl ⟨Nat.le_refl _, Nat.le_refl _⟩ rfl (fun r53 hr53 => ?_)
    exact V_iretW (Wd := fun w => WX d a w) C hr hlk dX7_does_56 rfl
  refine V_case (fun c1 => ?_) (fun c1 => ?_)
  · refine V_tsIn (tgt := 57) C c1 dX7_does_4 (by decide) (by decide) rfl (by decide) ?_
    refine V_aload_n C 0 dX7_does_57 rfl rfl ?_
    refine V_aload_n C 0 dX7_does_58 rfl rfl ?_
    refine V_get (v := .int u.2.2.2.2.2.2.2.2.2.2.1) C fx7 0 10 kf_X7_168 (by decide) rfl rfl dX7_does_59 ?_
    refine V_callWi (As := [.int u.2.2.2.2.2.2.2.2.2.2.1]) (rest := []) (wc := WX d a u) (Wd := fun w => WX d a w) C (fun r h => ct_X7_lays _ d a u u.2.2.2.2.2.2.2.2.2.2.1 r h) kv_X7_lays kl_X7_76 [0, 1, 2, 3, 4, 5] (fun w => WX d a w) dX7_does_62 rfl rfl (fun _ => rfl) (fun _ => rfl) rfl rfl rfl (Nat.le_of_ble_eq_true rfl) ⟨(Nat.le_of_ble_eq_true rfl), (Nat.le_of_ble_eq_true rfl)⟩ rfl rfl ⟨Nat.le_refl _, Nat.le_refl _⟩ rfl (fun r62 hr62 => ?_)
    exact V_iretW (Wd := fun w => WX d a w) C hr hlk dX7_does_65 rfl
  refine V_case (fun c2 => ?_) (fun c2 => ?_)
  · refine V_tsIn (tgt := 66) C c2 dX7_does_4 (by decide) (by decide) rfl (by decide) ?_
    refine V_aload_n C 0 dX7_does_66 rfl rfl ?_
    refine V_callWi (As := []) (rest := []) (wc := WX d a u) (Wd := fun w => WX d a w) C (fun r h => ct_X7_weighs _ d a u r h) kv_X7_weighs kl_X7_79 [0, 1, 2, 3, 4, 5] (fun w => WX d a w) dX7_does_67 rfl rfl (fun _ => rfl) (fun _ => rfl) rfl rfl rfl (Nat.le_of_ble_eq_true rfl) ⟨(Nat.le_of_ble_eq_true rfl), (Nat.le_of_ble_eq_true rfl)⟩ rfl rfl ⟨Nat.le_refl _, Nat.le_refl _⟩ rfl (fun r67 hr67 => ?_)
    exact V_iretW (Wd := fun w => WX d a w) C hr hlk dX7_does_70 rfl
  refine V_case (fun c3 => ?_) (fun c3 => ?_)
  · refine V_tsIn (tgt := 71) C c3 dX7_does_4 (by decide) (by decide) rfl (by decide) ?_
    refine V_aload_n C 0 dX7_does_71 rfl rfl ?_
    refine V_aload_n C 0 dX7_does_72 rfl rfl ?_
    refine V_get (v := .int u.2.2.2.2.2.2.2.2.2.2.1) C fx7 0 10 kf_X7_168 (by decide) rfl rfl dX7_does_73 ?_
    refine V_callWi (As := [.int u.2.2.2.2.2.2.2.2.2.2.1]) (rest := []) (wc := WX d a u) (Wd := fun w => WX d a w) C (fun r h => ct_X7_turns _ d a u u.2.2.2.2.2.2.2.2.2.2.1 r h) kv_X7_turns kl_X7_85 [0, 1, 2, 3, 4, 5] (fun w => WX d a w) dX7_does_76 rfl rfl (fun _ => rfl) (fun _ => rfl) rfl rfl rfl (Nat.le_of_ble_eq_true rfl) ⟨(Nat.le_of_ble_eq_true rfl), (Nat.le_of_ble_eq_true rfl)⟩ rfl rfl ⟨Nat.le_refl _, Nat.le_refl _⟩ rfl (fun r76 hr76 => ?_)
    exact V_iretW (Wd := fun w => WX d a w) C hr hlk dX7_does_79 rfl
  refine V_case (fun c4 => ?_) (fun c4 => ?_)
  · refine V_tsIn (tgt := 80) C c4 dX7_does_4 (by decide) (by decide) rfl (by decide) ?_
    refine V_aload_n C 0 dX7_does_80 rfl rfl ?_
    refine V_aload_n C 0 dX7_does_81 rfl rfl ?_
    refine V_get (v := .int u.2.2.2.2.2.2.2.2.2.2.1) C fx7 0 10 kf_X7_168 (by decide) rfl rfl dX7_does_82 ?_
    refine V_ineg C dX7_does_85 ?_
    refine V_callWi (As := [.int (-u.2.2.2.2.2.2.2.2.2.2.1)]) (rest := []) (wc := WX d a u) (Wd := fun w => WX d a w) C (fun r h => ct_X7_turns _ d a u (-u.2.2.2.2.2.2.2.2.2.2.1) r h) kv_X7_turns kl_X7_85 [0, 1, 2, 3, 4, 5] (fun w => WX d a w) dX7_does_86 rfl rfl (fun _ => rfl) (fun _ => rfl) rfl rfl rfl (Nat.le_of_ble_eq_true rfl) ⟨(Nat.le_of_ble_eq_true rfl), (Nat.le_of_ble_eq_true rfl)⟩ rfl rfl ⟨Nat.le_refl _, Nat.le_refl _⟩ rfl (fun r86 hr86 => ?_)
    exact V_iretW (Wd := fun w => WX d a w) C hr hlk dX7_does_89 rfl
  refine V_case (fun c5 => ?_) (fun c5 => ?_)
  · refine V_tsIn (tgt := 90) C c5 dX7_does_4 (by decide) (by decide) rfl (by decide) ?_
    refine V_aload_n C 0 dX7_does_90 rfl rfl ?_
    refine V_aload_n C 0 dX7_does_91 rfl rfl ?_
    refine V_get (v := .int u.2.2.2.2.2.2.2.2.2.2.1) C fx7 0 10 kf_X7_168 (by decide) rfl rfl dX7_does_92 ?_
    refine V_callWi (As := [.int u.2.2.2.2.2.2.2.2.2.2.1]) (rest := []) (wc := WX d a u) (Wd := fun w => WX d a w) C (fun r h => ct_X7_mounts _ d a u u.2.2.2.2.2.2.2.2.2.2.1 r h) kv_X7_mounts kl_X7_94 [0, 1, 2, 3, 4, 5] (fun w => WX d a w) dX7_does_95 rfl rfl (fun _ => rfl) (fun _ => rfl) rfl rfl rfl (Nat.le_of_ble_eq_true rfl) ⟨(Nat.le_of_ble_eq_true rfl), (Nat.le_of_ble_eq_true rfl)⟩ rfl rfl ⟨Nat.le_refl _, Nat.le_refl _⟩ rfl (fun r95 hr95 => ?_)
    exact V_iretW (Wd := fun w => WX d a w) C hr hlk dX7_does_98 rfl
  refine V_case (fun c6 => ?_) (fun c6 => ?_)
  · refine V_tsIn (tgt := 99) C c6 dX7_does_4 (by decide) (by decide) rfl (by decide) ?_
    refine V_aload_n C 0 dX7_does_99 rfl rfl ?_
    refine V_aload_n C 0 dX7_does_100 rfl rfl ?_
    refine V_get (v := .int u.2.2.2.2.2.2.2.2.2.2.1) C fx7 0 10 kf_X7_168 (by decide) rfl rfl dX7_does_101 ?_
    refine V_callWi (As := [.int u.2.2.2.2.2.2.2.2.2.2.1]) (rest := []) (wc := WX d a u) (Wd := fun w => WX d a w) C (fun r h => ct_X7_takes _ d a u u.2.2.2.2.2.2.2.2.2.2.1 r h) kv_X7_takes kl_X7_97 [0, 1, 2, 3, 4, 5] (fun w => WX d a w) dX7_does_104 rfl rfl (fun _ => rfl) (fun _ => rfl) rfl rfl rfl (Nat.le_of_ble_eq_true rfl) ⟨(Nat.le_of_ble_eq_true rfl), (Nat.le_of_ble_eq_true rfl)⟩ rfl rfl ⟨Nat.le_refl _, Nat.le_refl _⟩ rfl (fun r104 hr104 => ?_)
    exact V_iretW (Wd := fun w => WX d a w) C hr hlk dX7_does_107 rfl
  have i0 := neInt c0 (k := 0) (by decide)
  have i1 := neInt c1 (k := 1) (by decide)
  have i2 := neInt c2 (k := 2) (by decide)
  have i3 := neInt c3 (k := 3) (by decide)
  have i4 := neInt c4 (k := 4) (by decide)
  have i5 := neInt c5 (k := 5) (by decide)
  have i6 := neInt c6 (k := 6) (by decide)
  refine V_tsOut (tgt := 108) C dX7_does_4 (by omega) (by decide) ?_
  refine V_aload_n C 0 dX7_does_108 rfl rfl ?_
  refine V_aload_n C 0 dX7_does_109 rfl rfl ?_
  refine V_get (v := .int u.2.2.2.2.2.2.2.2.2.2.1) C fx7 0 10 kf_X7_168 (by decide) rfl rfl dX7_does_110 ?_
  refine V_callWi (As := [.int u.2.2.2.2.2.2.2.2.2.2.1]) (rest := []) (wc := WX d a u) (Wd := fun w => WX d a w) C (fun r h => ct_X7_servesBy _ d a u u.2.2.2.2.2.2.2.2.2.2.1 r h) kv_X7_servesBy kl_X7_133 [0, 1, 2, 3, 4, 5] (fun w => WX d a w) dX7_does_113 rfl rfl (fun _ => rfl) (fun _ => rfl) rfl rfl rfl (Nat.le_of_ble_eq_true rfl) ⟨(Nat.le_of_ble_eq_true rfl), (Nat.le_of_ble_eq_true rfl)⟩ rfl rfl ⟨Nat.le_refl _, Nat.le_refl _⟩ rfl (fun r113 hr113 => ?_)
  exact V_iretW (Wd := fun w => WX d a w) C hr hlk dX7_does_116 rfl
set_option maxRecDepth 20000 in
theorem ct_X7_does (l : Launch) (d : Dt) (a : Nat → Nat) (u : UX) (z : Int32 × UX) (h : f_X7_does u = some z) : CtW l d yX7_does cX7_does 1 (some .int) (rmF 6 136) [.ref (a 0)] (WX d a u) (WX d a z.2) (some (.int z.1)) :=
  CtW.start (by decide) (Nat.le_of_ble_eq_true rfl) (by simp [Value.category]) [some (.ref (a 0))] rfl (fun x A C hr hlk => V_eqv (fun _ => h) (v_X7_does C hr hlk z u))

/-! MastRobotsModel.doesNext -/
def f_X7_doesNext (u : UX) : Option (Int32 × UX) :=
  ((f_X7_reads u).bind fun r2 => (if r2.1 < 0 then ((f_X7_does (r2.2.1, r2.2.2.1, r2.2.2.2.1, r2.2.2.2.2.1, r2.2.2.2.2.2.1, r2.2.2.2.2.2.2.1, r2.2.2.2.2.2.2.2.1, r2.2.2.2.2.2.2.2.2.1, r2.2.2.2.2.2.2.2.2.2.1, (-1000004), r2.2.2.2.2.2.2.2.2.2.2.2.1, r2.2.2.2.2.2.2.2.2.2.2.2.2.1, r2.2.2.2.2.2.2.2.2.2.2.2.2.2.1, r2.2.2.2.2.2.2.2.2.2.2.2.2.2.2)).bind fun r24 => (if r24.1 ≤ (-1000001) then (if r24.1 = (-1000001) then some (2, r24.2) else some (3, r24.2)) else some (0, r24.2))) else some (1, (r2.2.1, r2.2.2.1, r2.2.2.2.1, r2.2.2.2.2.1, r2.2.2.2.2.2.1, r2.2.2.2.2.2.2.1, r2.2.2.2.2.2.2.2.1, r2.2.2.2.2.2.2.2.2.1, r2.2.2.2.2.2.2.2.2.2.1, r2.1, r2.2.2.2.2.2.2.2.2.2.2.2.1, r2.2.2.2.2.2.2.2.2.2.2.2.2.1, r2.2.2.2.2.2.2.2.2.2.2.2.2.2.1, r2.2.2.2.2.2.2.2.2.2.2.2.2.2.2))))
set_option maxRecDepth 20000 in
theorem v_X7_doesNext {x : Am} {d : Dt} {A : Nat → Prop} {a : Nat → Nat} (C : Cx x cX7_doesNext 2 yX7_doesNext.cls d (Imu d A x.s.heap)) (hr : x.meth.sig.returnType = (some .int)) (hlk : x.meth.locks = false) (z : Int32 × UX) (u : UX) : V x (rmF 7 156) 0 0 (MQ x.below (QW d A (WX d a z.2) (some (.int z.1))) x.args x.s 0 0 A) 2 (Imu d A x.s.heap) (f_X7_doesNext u = some z) 0 (WX d a u) [some (.ref (a 0)), none] [] := by
  unfold f_X7_doesNext
  refine V_aload_n C 0 dX7_doesNext_0 rfl rfl ?_
  refine V_aload_n C 0 dX7_doesNext_1 rfl rfl ?_
  refine V_callWi (As := []) (rest := [.ref (a 0)]) (wc := WX d a u) (Wd := fun w => WX d a w) C (fun r h => ct_X7_reads _ d a u r h) kv_X7_reads kl_X7_171 [0, 1, 2, 3, 4, 5] (fun w => WX d a w) dX7_doesNext_2 rfl rfl (fun _ => rfl) (fun _ => rfl) rfl rfl rfl (Nat.le_of_ble_eq_true rfl) ⟨(Nat.le_of_ble_eq_true rfl), (Nat.le_of_ble_eq_true rfl)⟩ rfl rfl ⟨Nat.le_refl _, Nat.le_refl _⟩ rfl (fun r2 hr2 => ?_)
  refine V_putI (ws' := WX d a (r2.2.1, r2.2.2.1, r2.2.2.2.1, r2.2.2.2.2.1, r2.2.2.2.2.2.1, r2.2.2.2.2.2.2.1, r2.2.2.2.2.2.2.2.1, r2.2.2.2.2.2.2.2.2.1, r2.2.2.2.2.2.2.2.2.2.1, r2.1, r2.2.2.2.2.2.2.2.2.2.2.2.1, r2.2.2.2.2.2.2.2.2.2.2.2.2.1, r2.2.2.2.2.2.2.2.2.2.2.2.2.2.1, r2.2.2.2.2.2.2.2.2.2.2.2.2.2.2)) C fx7 0 9 kf_X7_174 (by decide) rfl rfl rfl (Nat.le_of_ble_eq_true rfl) rfl dX7_doesNext_5 ?_
  refine V_aload_n C 0 dX7_doesNext_8 rfl rfl ?_
  refine V_get (v := .int r2.1) C fx7 0 9 kf_X7_174 (by decide) rfl rfl dX7_doesNext_9 ?_
  refine V_if_lt (tgt := 17) C dX7_doesNext_12 (by decide) ?_ ?_
  · refine V_aload_n C 0 dX7_doesNext_17 rfl rfl ?_
    refine V_ldc C kc_X7_136 dX7_doesNext_18 ?_
    refine V_putI (ws' := WX d a (r2.2.1, r2.2.2.1, r2.2.2.2.1, r2.2.2.2.2.1, r2.2.2.2.2.2.1, r2.2.2.2.2.2.2.1, r2.2.2.2.2.2.2.2.1, r2.2.2.2.2.2.2.2.2.1, r2.2.2.2.2.2.2.2.2.2.1, (-1000004), r2.2.2.2.2.2.2.2.2.2.2.2.1, r2.2.2.2.2.2.2.2.2.2.2.2.2.1, r2.2.2.2.2.2.2.2.2.2.2.2.2.2.1, r2.2.2.2.2.2.2.2.2.2.2.2.2.2.2)) C fx7 0 9 kf_X7_174 (by decide) rfl rfl rfl (Nat.le_of_ble_eq_true rfl) rfl dX7_doesNext_20 ?_
    refine V_aload_n C 0 dX7_doesNext_23 rfl rfl ?_
    refine V_callWi (As := []) (rest := []) (wc := WX d a (r2.2.1, r2.2.2.1, r2.2.2.2.1, r2.2.2.2.2.1, r2.2.2.2.2.2.1, r2.2.2.2.2.2.2.1, r2.2.2.2.2.2.2.2.1, r2.2.2.2.2.2.2.2.2.1, r2.2.2.2.2.2.2.2.2.2.1, (-1000004), r2.2.2.2.2.2.2.2.2.2.2.2.1, r2.2.2.2.2.2.2.2.2.2.2.2.2.1, r2.2.2.2.2.2.2.2.2.2.2.2.2.2.1, r2.2.2.2.2.2.2.2.2.2.2.2.2.2.2)) (Wd := fun w => WX d a w) C (fun r h => ct_X7_does _ d a (r2.2.1, r2.2.2.1, r2.2.2.2.1, r2.2.2.2.2.1, r2.2.2.2.2.2.1, r2.2.2.2.2.2.2.1, r2.2.2.2.2.2.2.2.1, r2.2.2.2.2.2.2.2.2.1, r2.2.2.2.2.2.2.2.2.2.1, (-1000004), r2.2.2.2.2.2.2.2.2.2.2.2.1, r2.2.2.2.2.2.2.2.2.2.2.2.2.1, r2.2.2.2.2.2.2.2.2.2.2.2.2.2.1, r2.2.2.2.2.2.2.2.2.2.2.2.2.2.2) r h) kv_X7_does kl_X7_177 [0, 1, 2, 3, 4, 5] (fun w => WX d a w) dX7_doesNext_24 rfl rfl (fun _ => rfl) (fun _ => rfl) rfl rfl rfl (Nat.le_of_ble_eq_true rfl) ⟨(Nat.le_of_ble_eq_true rfl), (Nat.le_of_ble_eq_true rfl)⟩ rfl rfl ⟨Nat.le_refl _, Nat.le_refl _⟩ rfl (fun r24 hr24 => ?_)
    refine V_istore_n (lv' := [some (.ref (a 0)), some (.int r24.1)]) C 1 dX7_doesNext_27 rfl (by decide) rfl ?_
    refine V_iload_n C 1 dX7_doesNext_28 rfl rfl ?_
    refine V_ldc C kc_X7_30 dX7_doesNext_29 ?_
    refine V_icmp_le (tgt := 38) C dX7_doesNext_31 (by decide) ?_ ?_
    · refine V_iload_n C 1 dX7_doesNext_38 rfl rfl ?_
      refine V_ldc C kc_X7_30 dX7_doesNext_39 ?_
      refine V_icmp_ne (tgt := 48) C dX7_doesNext_41 (by decide) ?_ ?_
      · refine V_iconst (v := 3) C dX7_doesNext_48 (by decide) ?_
        exact V_iretW (Wd := fun w => WX d a w) C hr hlk dX7_doesNext_49 rfl
      · refine V_iconst (v := 2) C dX7_doesNext_44 (by decide) ?_
        refine V_goto (tgt := 49) C dX7_doesNext_45 (by decide) ?_
        exact V_iretW (Wd := fun w => WX d a w) C hr hlk dX7_doesNext_49 rfl
    · refine V_iconst (v := 0) C dX7_doesNext_34 (by decide) ?_
      refine V_goto (tgt := 49) C dX7_doesNext_35 (by decide) ?_
      exact V_iretW (Wd := fun w => WX d a w) C hr hlk dX7_doesNext_49 rfl
  · refine V_iconst (v := 1) C dX7_doesNext_15 (by decide) ?_
    exact V_iretW (Wd := fun w => WX d a w) C hr hlk dX7_doesNext_16 rfl
set_option maxRecDepth 20000 in
theorem ct_X7_doesNext (l : Launch) (d : Dt) (a : Nat → Nat) (u : UX) (z : Int32 × UX) (h : f_X7_doesNext u = some z) : CtW l d yX7_doesNext cX7_doesNext 2 (some .int) (rmF 7 156) [.ref (a 0)] (WX d a u) (WX d a z.2) (some (.int z.1)) :=
  CtW.start (by decide) (Nat.le_of_ble_eq_true rfl) (by simp [Value.category]) [some (.ref (a 0)), none] rfl (fun x A C hr hlk => V_eqv (fun _ => h) (v_X7_doesNext C hr hlk z u))

/-! MastRobotsModel.faulty -/
def f_X7_faulty_b54 (k12 : UX → Int32 → Option (Int32 × UX)) (u : UX) (s0 : Int32) : Option (Int32 × UX) :=
  k12 u s0
def f_X7_faulty_b58 (u : UX) (v1 : Int32) : Option (Int32 × UX) :=
  ((f_X7_restores u).bind fun r59 => some (v1, r59))
def f_X7_faulty_b12 : Nat → UX → Int32 → Option (Int32 × UX)
  | 0, _, _ => none
  | n + 1, u, v1 => (if u.2.2.2.2.2.2.1 ≤ u.2.2.2.2.2.2.2.1 then f_X7_faulty_b58 u v1 else (if v1 = (-1000004) then ((f_X7_doesNext u).bind fun r36 => (if r36.1 ≤ 0 then f_X7_faulty_b54 (f_X7_faulty_b12 n) (r36.2.1, r36.2.2.1, r36.2.2.2.1, r36.2.2.2.2.1, r36.2.2.2.2.2.1, r36.2.2.2.2.2.2.1, r36.2.2.2.2.2.2.2.1, r36.2.2.2.2.2.2.2.2.1, r36.1, r36.2.2.2.2.2.2.2.2.2.2.1, r36.2.2.2.2.2.2.2.2.2.2.2.1, r36.2.2.2.2.2.2.2.2.2.2.2.2.1, r36.2.2.2.2.2.2.2.2.2.2.2.2.2.1, r36.2.2.2.2.2.2.2.2.2.2.2.2.2.2) v1 else f_X7_faulty_b54 (f_X7_faulty_b12 n) (r36.2.1, r36.2.2.1, r36.2.2.2.1, r36.2.2.2.2.1, r36.2.2.2.2.2.1, r36.2.2.2.2.2.2.1, r36.2.2.2.2.2.2.2.1, r36.2.2.2.2.2.2.2.2.1, r36.1, r36.2.2.2.2.2.2.2.2.2.2.1, r36.2.2.2.2.2.2.2.2.2.2.2.1, r36.2.2.2.2.2.2.2.2.2.2.2.2.1, r36.2.2.2.2.2.2.2.2.2.2.2.2.2.1, r36.2.2.2.2.2.2.2.2.2.2.2.2.2.2) u.2.2.2.2.2.2.2.1)) else f_X7_faulty_b58 u v1))
def f_X7_faulty (u : UX) : Option (Int32 × UX) :=
  ((f_X7_puts u).bind fun r1 => f_X7_faulty_b12 FUEL (r1.1, r1.2.1, r1.2.2.1, r1.2.2.2.1, r1.2.2.2.2.1, r1.2.2.2.2.2.1, r1.2.2.2.2.2.2.1, 0, r1.2.2.2.2.2.2.2.2.1, r1.2.2.2.2.2.2.2.2.2.1, r1.2.2.2.2.2.2.2.2.2.2.1, r1.2.2.2.2.2.2.2.2.2.2.2.1, r1.2.2.2.2.2.2.2.2.2.2.2.2.1, r1.2.2.2.2.2.2.2.2.2.2.2.2.2) (-1000004))
set_option maxRecDepth 20000 in
theorem v_X7_faulty_b54 {x : Am} {d : Dt} {A : Nat → Prop} {a : Nat → Nat} (C : Cx x cX7_faulty 3 yX7_faulty.cls d (Imu d A x.s.heap)) (hr : x.meth.sig.returnType = (some .int)) (hlk : x.meth.locks = false) (z : Int32 × UX) (k12 : UX → Int32 → Option (Int32 × UX)) (hk12 : ∀ (u : UX)(v1 : Int32), V x (rmF 8 177) 0 0 (MQ x.below (QW d A (WX d a z.2) (some (.int z.1))) x.args x.s 0 0 A) 3 (Imu d A x.s.heap) (k12 u v1 = some z) 12 (WX d a u) [some (.ref (a 0)), some (.int v1), none] []) (u : UX) (s0 : Int32) : V x (rmF 8 177) 0 0 (MQ x.below (QW d A (WX d a z.2) (some (.int z.1))) x.args x.s 0 0 A) 3 (Imu d A x.s.heap) (f_X7_faulty_b54 k12 u s0 = some z) 54 (WX d a u) [some (.ref (a 0)), none, none] [.int s0] := by
  unfold f_X7_faulty_b54
  refine V_istore_n (lv' := [some (.ref (a 0)), some (.int s0), none]) C 1 dX7_faulty_54 rfl (by decide) rfl ?_
  refine V_goto (tgt := 12) C dX7_faulty_55 (by decide) ?_
  exact hk12 u s0
set_option maxRecDepth 20000 in
theorem v_X7_faulty_b58 {x : Am} {d : Dt} {A : Nat → Prop} {a : Nat → Nat} (C : Cx x cX7_faulty 3 yX7_faulty.cls d (Imu d A x.s.heap)) (hr : x.meth.sig.returnType = (some .int)) (hlk : x.meth.locks = false) (z : Int32 × UX) (u : UX) (v1 : Int32) : V x (rmF 8 177) 0 0 (MQ x.below (QW d A (WX d a z.2) (some (.int z.1))) x.args x.s 0 0 A) 3 (Imu d A x.s.heap) (f_X7_faulty_b58 u v1 = some z) 58 (WX d a u) [some (.ref (a 0)), some (.int v1), none] [] := by
  unfold f_X7_faulty_b58
  refine V_aload_n C 0 dX7_faulty_58 rfl rfl ?_
  refine V_callWv (As := []) (rest := []) (wc := WX d a u) (Wd := fun w => WX d a w) C (fun r h => ct_X7_restores _ d a u r h) kv_X7_restores kl_X7_143 [0, 1, 2, 3, 4, 5] (fun w => WX d a w) dX7_faulty_59 rfl rfl (fun _ => rfl) (fun _ => rfl) rfl rfl rfl (Nat.le_of_ble_eq_true rfl) ⟨(Nat.le_of_ble_eq_true rfl), (Nat.le_of_ble_eq_true rfl)⟩ rfl rfl ⟨Nat.le_refl _, Nat.le_refl _⟩ rfl (fun r59 hr59 => ?_)
  refine V_iload_n C 1 dX7_faulty_62 rfl rfl ?_
  exact V_iretW (Wd := fun w => WX d a w) C hr hlk dX7_faulty_63 rfl
set_option maxRecDepth 20000 in
theorem v_X7_faulty_b12 {x : Am} {d : Dt} {A : Nat → Prop} {a : Nat → Nat} (C : Cx x cX7_faulty 3 yX7_faulty.cls d (Imu d A x.s.heap)) (hr : x.meth.sig.returnType = (some .int)) (hlk : x.meth.locks = false) (z : Int32 × UX) (n : Nat) (u : UX) (v1 : Int32) : V x (rmF 8 177) 0 0 (MQ x.below (QW d A (WX d a z.2) (some (.int z.1))) x.args x.s 0 0 A) 3 (Imu d A x.s.heap) (f_X7_faulty_b12 n u v1 = some z) 12 (WX d a u) [some (.ref (a 0)), some (.int v1), none] [] := by
  induction n generalizing u v1 with
  | zero => exact V_none
  | succ n ih =>
    rw [f_X7_faulty_b12]
    refine V_aload_n C 0 dX7_faulty_12 rfl rfl ?_
    refine V_get (v := .int u.2.2.2.2.2.2.2.1) C fx7 0 7 kf_X7_152 (by decide) rfl rfl dX7_faulty_13 ?_
    refine V_aload_n C 0 dX7_faulty_16 rfl rfl ?_
    refine V_get (v := .int u.2.2.2.2.2.2.1) C fx7 0 6 kf_X7_149 (by decide) rfl rfl dX7_faulty_17 ?_
    refine V_icmp_ge (tgt := 58) C dX7_faulty_20 (by decide) ?_ ?_
    · exact v_X7_faulty_b58 C hr hlk z u v1
    · refine V_iload_n C 1 dX7_faulty_23 rfl rfl ?_
      refine V_ldc C kc_X7_136 dX7_faulty_24 ?_
      refine V_icmp_ne (tgt := 58) C dX7_faulty_26 (by decide) ?_ ?_
      · exact v_X7_faulty_b58 C hr hlk z u v1
      · refine V_aload_n C 0 dX7_faulty_29 rfl rfl ?_
        refine V_get (v := .int u.2.2.2.2.2.2.2.1) C fx7 0 7 kf_X7_152 (by decide) rfl rfl dX7_faulty_30 ?_
        refine V_istore_n (lv' := [some (.ref (a 0)), some (.int v1), some (.int u.2.2.2.2.2.2.2.1)]) C 2 dX7_faulty_33 rfl (by decide) rfl ?_
        refine V_aload_n C 0 dX7_faulty_34 rfl rfl ?_
        refine V_aload_n C 0 dX7_faulty_35 rfl rfl ?_
        refine V_callWi (As := []) (rest := [.ref (a 0)]) (wc := WX d a u) (Wd := fun w => WX d a w) C (fun r h => ct_X7_doesNext _ d a u r h) kv_X7_doesNext kl_X7_180 [0, 1, 2, 3, 4, 5] (fun w => WX d a w) dX7_faulty_36 rfl rfl (fun _ => rfl) (fun _ => rfl) rfl rfl rfl (Nat.le_of_ble_eq_true rfl) ⟨(Nat.le_of_ble_eq_true rfl), (Nat.le_of_ble_eq_true rfl)⟩ rfl rfl ⟨Nat.le_refl _, Nat.le_refl _⟩ rfl (fun r36 hr36 => ?_)
        refine V_putI (ws' := WX d a (r36.2.1, r36.2.2.1, r36.2.2.2.1, r36.2.2.2.2.1, r36.2.2.2.2.2.1, r36.2.2.2.2.2.2.1, r36.2.2.2.2.2.2.2.1, r36.2.2.2.2.2.2.2.2.1, r36.1, r36.2.2.2.2.2.2.2.2.2.2.1, r36.2.2.2.2.2.2.2.2.2.2.2.1, r36.2.2.2.2.2.2.2.2.2.2.2.2.1, r36.2.2.2.2.2.2.2.2.2.2.2.2.2.1, r36.2.2.2.2.2.2.2.2.2.2.2.2.2.2)) C fx7 0 8 kf_X7_183 (by decide) rfl rfl rfl (Nat.le_of_ble_eq_true rfl) rfl dX7_faulty_39 ?_
        refine V_aload_n C 0 dX7_faulty_42 rfl rfl ?_
        refine V_get (v := .int r36.1) C fx7 0 8 kf_X7_183 (by decide) rfl rfl dX7_faulty_43 ?_
        refine V_if_le (tgt := 53) C dX7_faulty_46 (by decide) ?_ ?_
        · refine V_iload_n C 1 dX7_faulty_53 rfl rfl ?_
          refine V_mask (lv' := [some (.ref (a 0)), none, none]) [true, false, false] rfl ?_
          exact v_X7_faulty_b54 C hr hlk z (f_X7_faulty_b12  n) ih (r36.2.1, r36.2.2.1, r36.2.2.2.1, r36.2.2.2.2.1, r36.2.2.2.2.2.1, r36.2.2.2.2.2.2.1, r36.2.2.2.2.2.2.2.1, r36.2.2.2.2.2.2.2.2.1, r36.1, r36.2.2.2.2.2.2.2.2.2.2.1, r36.2.2.2.2.2.2.2.2.2.2.2.1, r36.2.2.2.2.2.2.2.2.2.2.2.2.1, r36.2.2.2.2.2.2.2.2.2.2.2.2.2.1, r36.2.2.2.2.2.2.2.2.2.2.2.2.2.2) v1
        · refine V_iload_n C 2 dX7_faulty_49 rfl rfl ?_
          refine V_goto (tgt := 54) C dX7_faulty_50 (by decide) ?_
          refine V_mask (lv' := [some (.ref (a 0)), none, none]) [true, false, false] rfl ?_
          exact v_X7_faulty_b54 C hr hlk z (f_X7_faulty_b12  n) ih (r36.2.1, r36.2.2.1, r36.2.2.2.1, r36.2.2.2.2.1, r36.2.2.2.2.2.1, r36.2.2.2.2.2.2.1, r36.2.2.2.2.2.2.2.1, r36.2.2.2.2.2.2.2.2.1, r36.1, r36.2.2.2.2.2.2.2.2.2.2.1, r36.2.2.2.2.2.2.2.2.2.2.2.1, r36.2.2.2.2.2.2.2.2.2.2.2.2.1, r36.2.2.2.2.2.2.2.2.2.2.2.2.2.1, r36.2.2.2.2.2.2.2.2.2.2.2.2.2.2) u.2.2.2.2.2.2.2.1
set_option maxRecDepth 20000 in
theorem v_X7_faulty {x : Am} {d : Dt} {A : Nat → Prop} {a : Nat → Nat} (C : Cx x cX7_faulty 3 yX7_faulty.cls d (Imu d A x.s.heap)) (hr : x.meth.sig.returnType = (some .int)) (hlk : x.meth.locks = false) (z : Int32 × UX) (u : UX) : V x (rmF 8 177) 0 0 (MQ x.below (QW d A (WX d a z.2) (some (.int z.1))) x.args x.s 0 0 A) 3 (Imu d A x.s.heap) (f_X7_faulty u = some z) 0 (WX d a u) [some (.ref (a 0)), none, none] [] := by
  unfold f_X7_faulty
  refine V_aload_n C 0 dX7_faulty_0 rfl rfl ?_
  refine V_callWv (As := []) (rest := []) (wc := WX d a u) (Wd := fun w => WX d a w) C (fun r h => ct_X7_puts _ d a u r h) kv_X7_puts kl_X7_140 [0, 1, 2, 3, 4, 5] (fun w => WX d a w) dX7_faulty_1 rfl rfl (fun _ => rfl) (fun _ => rfl) rfl rfl rfl (Nat.le_of_ble_eq_true rfl) ⟨(Nat.le_of_ble_eq_true rfl), (Nat.le_of_ble_eq_true rfl)⟩ rfl rfl ⟨Nat.le_refl _, Nat.le_refl _⟩ rfl (fun r1 hr1 => ?_)
  refine V_ldc C kc_X7_136 dX7_faulty_4 ?_
  refine V_istore_n (lv' := [some (.ref (a 0)), some (.int (-1000004)), none]) C 1 dX7_faulty_6 rfl (by decide) rfl ?_
  refine V_aload_n C 0 dX7_faulty_7 rfl rfl ?_
  refine V_iconst (v := 0) C dX7_faulty_8 (by decide) ?_
  refine V_putI (ws' := WX d a (r1.1, r1.2.1, r1.2.2.1, r1.2.2.2.1, r1.2.2.2.2.1, r1.2.2.2.2.2.1, r1.2.2.2.2.2.2.1, 0, r1.2.2.2.2.2.2.2.2.1, r1.2.2.2.2.2.2.2.2.2.1, r1.2.2.2.2.2.2.2.2.2.2.1, r1.2.2.2.2.2.2.2.2.2.2.2.1, r1.2.2.2.2.2.2.2.2.2.2.2.2.1, r1.2.2.2.2.2.2.2.2.2.2.2.2.2)) C fx7 0 7 kf_X7_152 (by decide) rfl rfl rfl (Nat.le_of_ble_eq_true rfl) rfl dX7_faulty_9 ?_
  exact v_X7_faulty_b12 C hr hlk z FUEL (r1.1, r1.2.1, r1.2.2.1, r1.2.2.2.1, r1.2.2.2.2.1, r1.2.2.2.2.2.1, r1.2.2.2.2.2.2.1, 0, r1.2.2.2.2.2.2.2.2.1, r1.2.2.2.2.2.2.2.2.2.1, r1.2.2.2.2.2.2.2.2.2.2.1, r1.2.2.2.2.2.2.2.2.2.2.2.1, r1.2.2.2.2.2.2.2.2.2.2.2.2.1, r1.2.2.2.2.2.2.2.2.2.2.2.2.2) (-1000004)
set_option maxRecDepth 20000 in
theorem ct_X7_faulty (l : Launch) (d : Dt) (a : Nat → Nat) (u : UX) (z : Int32 × UX) (h : f_X7_faulty u = some z) : CtW l d yX7_faulty cX7_faulty 3 (some .int) (rmF 8 177) [.ref (a 0)] (WX d a u) (WX d a z.2) (some (.int z.1)) :=
  CtW.start (by decide) (Nat.le_of_ble_eq_true rfl) (by simp [Value.category]) [some (.ref (a 0)), none, none] rfl (fun x A C hr hlk => V_eqv (fun _ => h) (v_X7_faulty C hr hlk z u))

/-! MastRobotsModel.fault -/
def f_X7_fault (u : UX) (p1 : Int32) : Option (Int32 × UX) :=
  ((f_X7_in p1 0 2).bind fun r3 => (if r3 = 0 then some ((-1000001), u) else ((f_X7_faulty u).bind fun r13 => (if r13.1 = (-1000004) then some (r13.1, r13.2) else (if p1 = 0 then some (r13.1, r13.2) else (if p1 = 1 then some (r13.2.2.2.2.2.2.2.2.2.1, r13.2) else some (r13.2.2.2.2.2.2.2.2.2.2.1, r13.2)))))))
set_option maxRecDepth 20000 in
theorem v_X7_fault {x : Am} {d : Dt} {A : Nat → Prop} {a : Nat → Nat} (C : Cx x cX7_fault 3 yX7_fault.cls d (Imu d A x.s.heap)) (hr : x.meth.sig.returnType = (some .int)) (hlk : x.meth.locks = false) (z : Int32 × UX) (u : UX) (p1 : Int32) : V x (rmF 9 199) 0 0 (MQ x.below (QW d A (WX d a z.2) (some (.int z.1))) x.args x.s 0 0 A) 3 (Imu d A x.s.heap) (f_X7_fault u p1 = some z) 0 (WX d a u) [some (.ref (a 0)), some (.int p1), none] [] := by
  unfold f_X7_fault
  refine V_iload_n C 1 dX7_fault_0 rfl rfl ?_
  refine V_iconst (v := 0) C dX7_fault_1 (by decide) ?_
  refine V_iconst (v := 2) C dX7_fault_2 (by decide) ?_
  refine V_callSi (As := [.int p1, .int 0, .int 2]) (rest := []) (wc := []) C (fun r h => ct_X7_in _ d p1 0 2 r h) ks_X7_in kl_X7_26 [] dX7_fault_3 rfl rfl (Nat.le_of_ble_eq_true rfl) ⟨(Nat.le_of_ble_eq_true rfl), (Nat.le_of_ble_eq_true rfl)⟩ rfl rfl ⟨Nat.le_refl _, Nat.le_refl _⟩ rfl (fun r3 hr3 => ?_)
  refine V_if_ne (tgt := 12) C dX7_fault_6 (by decide) ?_ ?_
  · refine V_aload_n C 0 dX7_fault_12 rfl rfl ?_
    refine V_callWi (As := []) (rest := []) (wc := WX d a u) (Wd := fun w => WX d a w) C (fun r h => ct_X7_faulty _ d a u r h) kv_X7_faulty kl_X7_186 [0, 1, 2, 3, 4, 5] (fun w => WX d a w) dX7_fault_13 rfl rfl (fun _ => rfl) (fun _ => rfl) rfl rfl rfl (Nat.le_of_ble_eq_true rfl) ⟨(Nat.le_of_ble_eq_true rfl), (Nat.le_of_ble_eq_true rfl)⟩ rfl rfl ⟨Nat.le_refl _, Nat.le_refl _⟩ rfl (fun r13 hr13 => ?_)
    refine V_istore_n (lv' := [some (.ref (a 0)), some (.int p1), some (.int r13.1)]) C 2 dX7_fault_16 rfl (by decide) rfl ?_
    refine V_iload_n C 2 dX7_fault_17 rfl rfl ?_
    refine V_ldc C kc_X7_136 dX7_fault_18 ?_
    refine V_icmp_eq (tgt := 27) C dX7_fault_20 (by decide) ?_ ?_
    · refine V_iload_n C 2 dX7_fault_27 rfl rfl ?_
      refine V_goto (tgt := 47) C dX7_fault_28 (by decide) ?_
      exact V_iretW (Wd := fun w => WX d a w) C hr hlk dX7_fault_47 rfl
    · refine V_iload_n C 1 dX7_fault_23 rfl rfl ?_
      refine V_if_ne (tgt := 31) C dX7_fault_24 (by decide) ?_ ?_
      · refine V_iload_n C 1 dX7_fault_31 rfl rfl ?_
        refine V_iconst (v := 1) C dX7_fault_32 (by decide) ?_
        refine V_icmp_ne (tgt := 43) C dX7_fault_33 (by decide) ?_ ?_
        · refine V_aload_n C 0 dX7_fault_43 rfl rfl ?_
          refine V_get (v := .int r13.2.2.2.2.2.2.2.2.2.2.1) C fx7 0 9 kf_X7_174 (by decide) rfl rfl dX7_fault_44 ?_
          exact V_iretW (Wd := fun w => WX d a w) C hr hlk dX7_fault_47 rfl
        · refine V_aload_n C 0 dX7_fault_36 rfl rfl ?_
          refine V_get (v := .int r13.2.2.2.2.2.2.2.2.2.1) C fx7 0 8 kf_X7_183 (by decide) rfl rfl dX7_fault_37 ?_
          refine V_goto (tgt := 47) C dX7_fault_40 (by decide) ?_
          exact V_iretW (Wd := fun w => WX d a w) C hr hlk dX7_fault_47 rfl
      · refine V_iload_n C 2 dX7_fault_27 rfl rfl ?_
        refine V_goto (tgt := 47) C dX7_fault_28 (by decide) ?_
        exact V_iretW (Wd := fun w => WX d a w) C hr hlk dX7_fault_47 rfl
  · refine V_ldc C kc_X7_30 dX7_fault_9 ?_
    exact V_iretW (Wd := fun w => WX d a w) C hr hlk dX7_fault_11 rfl
set_option maxRecDepth 20000 in
theorem ct_X7_fault (l : Launch) (d : Dt) (a : Nat → Nat) (u : UX) (p1 : Int32) (z : Int32 × UX) (h : f_X7_fault u p1 = some z) : CtW l d yX7_fault cX7_fault 3 (some .int) (rmF 9 199) [.ref (a 0), .int p1] (WX d a u) (WX d a z.2) (some (.int z.1)) :=
  CtW.start (by decide) (Nat.le_of_ble_eq_true rfl) (by simp [Value.category]) [some (.ref (a 0)), some (.int p1), none] rfl (fun x A C hr hlk => V_eqv (fun _ => h) (v_X7_fault C hr hlk z u p1))

/-! MastRobotsModel.play -/
def f_X7_play_b47 (k23 : UX → Int32 → Option (Int32 × UX)) (u : UX) (s0 : Int32) (s1 : Int32) : Option (Int32 × UX) :=
  k23 u (s0 + s1)
def f_X7_play_b23 : Nat → UX → Int32 → Option (Int32 × UX)
  | 0, _, _ => none
  | n + 1, u, v1 => (if u.2.2.2.2.2.2.1 ≤ u.2.2.2.2.2.2.2.1 then ((f_X7_acted u v1).bind fun r54 => some (r54.1, r54.2)) else ((f_X7_doesNext u).bind fun r36 => (if r36.1 = 0 then f_X7_play_b47 (f_X7_play_b23 n) r36.2 v1 1 else f_X7_play_b47 (f_X7_play_b23 n) r36.2 v1 0)))
def f_X7_play (u : UX) : Option (Int32 × UX) :=
  ((f_X7_faulty u).bind fun r1 => (if r1.1 = (-1000004) then ((f_X7_keeps r1.2).bind fun r13 => f_X7_play_b23 FUEL (r13.1, r13.2.1, r13.2.2.1, r13.2.2.2.1, r13.2.2.2.2.1, r13.2.2.2.2.2.1, r13.2.2.2.2.2.2.1, 0, r13.2.2.2.2.2.2.2.2.1, r13.2.2.2.2.2.2.2.2.2.1, r13.2.2.2.2.2.2.2.2.2.2.1, r13.2.2.2.2.2.2.2.2.2.2.2.1, r13.2.2.2.2.2.2.2.2.2.2.2.2.1, r13.2.2.2.2.2.2.2.2.2.2.2.2.2) 0) else some ((-1000002), r1.2)))
set_option maxRecDepth 20000 in
theorem v_X7_play_b47 {x : Am} {d : Dt} {A : Nat → Prop} {a : Nat → Nat} (C : Cx x cX7_play 2 yX7_play.cls d (Imu d A x.s.heap)) (hr : x.meth.sig.returnType = (some .int)) (hlk : x.meth.locks = false) (z : Int32 × UX) (k23 : UX → Int32 → Option (Int32 × UX)) (hk23 : ∀ (u : UX)(v1 : Int32), V x (rmF 9 199) 0 0 (MQ x.below (QW d A (WX d a z.2) (some (.int z.1))) x.args x.s 0 0 A) 2 (Imu d A x.s.heap) (k23 u v1 = some z) 23 (WX d a u) [some (.ref (a 0)), some (.int v1)] []) (u : UX) (s0 : Int32) (s1 : Int32) : V x (rmF 9 199) 0 0 (MQ x.below (QW d A (WX d a z.2) (some (.int z.1))) x.args x.s 0 0 A) 2 (Imu d A x.s.heap) (f_X7_play_b47 k23 u s0 s1 = some z) 47 (WX d a u) [some (.ref (a 0)), none] [.int s1, .int s0] := by
  unfold f_X7_play_b47
  refine V_iadd C dX7_play_47 ?_
  refine V_istore_n (lv' := [some (.ref (a 0)), some (.int (s0 + s1))]) C 1 dX7_play_48 rfl (by decide) rfl ?_
  refine V_goto (tgt := 23) C dX7_play_49 (by decide) ?_
  exact hk23 u (s0 + s1)
set_option maxRecDepth 20000 in
theorem v_X7_play_b23 {x : Am} {d : Dt} {A : Nat → Prop} {a : Nat → Nat} (C : Cx x cX7_play 2 yX7_play.cls d (Imu d A x.s.heap)) (hr : x.meth.sig.returnType = (some .int)) (hlk : x.meth.locks = false) (z : Int32 × UX) (n : Nat) (u : UX) (v1 : Int32) : V x (rmF 9 199) 0 0 (MQ x.below (QW d A (WX d a z.2) (some (.int z.1))) x.args x.s 0 0 A) 2 (Imu d A x.s.heap) (f_X7_play_b23 n u v1 = some z) 23 (WX d a u) [some (.ref (a 0)), some (.int v1)] [] := by
  induction n generalizing u v1 with
  | zero => exact V_none
  | succ n ih =>
    rw [f_X7_play_b23]
    refine V_aload_n C 0 dX7_play_23 rfl rfl ?_
    refine V_get (v := .int u.2.2.2.2.2.2.2.1) C fx7 0 7 kf_X7_152 (by decide) rfl rfl dX7_play_24 ?_
    refine V_aload_n C 0 dX7_play_27 rfl rfl ?_
    refine V_get (v := .int u.2.2.2.2.2.2.1) C fx7 0 6 kf_X7_149 (by decide) rfl rfl dX7_play_28 ?_
    refine V_icmp_ge (tgt := 52) C dX7_play_31 (by decide) ?_ ?_
    · refine V_aload_n C 0 dX7_play_52 rfl rfl ?_
      refine V_iload_n C 1 dX7_play_53 rfl rfl ?_
      refine V_callWi (As := [.int v1]) (rest := []) (wc := WX d a u) (Wd := fun w => WX d a w) C (fun r h => ct_X7_acted _ d a u v1 r h) kv_X7_acted kl_X7_40 [0, 1, 2, 3, 4, 5] (fun w => WX d a w) dX7_play_54 rfl rfl (fun _ => rfl) (fun _ => rfl) rfl rfl rfl (Nat.le_of_ble_eq_true rfl) ⟨(Nat.le_of_ble_eq_true rfl), (Nat.le_of_ble_eq_true rfl)⟩ rfl rfl ⟨Nat.le_refl _, Nat.le_refl _⟩ rfl (fun r54 hr54 => ?_)
      exact V_iretW (Wd := fun w => WX d a w) C hr hlk dX7_play_57 rfl
    · refine V_iload_n C 1 dX7_play_34 rfl rfl ?_
      refine V_aload_n C 0 dX7_play_35 rfl rfl ?_
      refine V_callWi (As := []) (rest := [.int v1]) (wc := WX d a u) (Wd := fun w => WX d a w) C (fun r h => ct_X7_doesNext _ d a u r h) kv_X7_doesNext kl_X7_180 [0, 1, 2, 3, 4, 5] (fun w => WX d a w) dX7_play_36 rfl rfl (fun _ => rfl) (fun _ => rfl) rfl rfl rfl (Nat.le_of_ble_eq_true rfl) ⟨(Nat.le_of_ble_eq_true rfl), (Nat.le_of_ble_eq_true rfl)⟩ rfl rfl ⟨Nat.le_refl _, Nat.le_refl _⟩ rfl (fun r36 hr36 => ?_)
      refine V_if_ne (tgt := 46) C dX7_play_39 (by decide) ?_ ?_
      · refine V_iconst (v := 0) C dX7_play_46 (by decide) ?_
        refine V_mask (lv' := [some (.ref (a 0)), none]) [true, false] rfl ?_
        exact v_X7_play_b47 C hr hlk z (f_X7_play_b23  n) ih r36.2 v1 0
      · refine V_iconst (v := 1) C dX7_play_42 (by decide) ?_
        refine V_goto (tgt := 47) C dX7_play_43 (by decide) ?_
        refine V_mask (lv' := [some (.ref (a 0)), none]) [true, false] rfl ?_
        exact v_X7_play_b47 C hr hlk z (f_X7_play_b23  n) ih r36.2 v1 1
set_option maxRecDepth 20000 in
theorem v_X7_play {x : Am} {d : Dt} {A : Nat → Prop} {a : Nat → Nat} (C : Cx x cX7_play 2 yX7_play.cls d (Imu d A x.s.heap)) (hr : x.meth.sig.returnType = (some .int)) (hlk : x.meth.locks = false) (z : Int32 × UX) (u : UX) : V x (rmF 9 199) 0 0 (MQ x.below (QW d A (WX d a z.2) (some (.int z.1))) x.args x.s 0 0 A) 2 (Imu d A x.s.heap) (f_X7_play u = some z) 0 (WX d a u) [some (.ref (a 0)), none] [] := by
  unfold f_X7_play
  refine V_aload_n C 0 dX7_play_0 rfl rfl ?_
  refine V_callWi (As := []) (rest := []) (wc := WX d a u) (Wd := fun w => WX d a w) C (fun r h => ct_X7_faulty _ d a u r h) kv_X7_faulty kl_X7_186 [0, 1, 2, 3, 4, 5] (fun w => WX d a w) dX7_play_1 rfl rfl (fun _ => rfl) (fun _ => rfl) rfl rfl rfl (Nat.le_of_ble_eq_true rfl) ⟨(Nat.le_of_ble_eq_true rfl), (Nat.le_of_ble_eq_true rfl)⟩ rfl rfl ⟨Nat.le_refl _, Nat.le_refl _⟩ rfl (fun r1 hr1 => ?_)
  refine V_ldc C kc_X7_136 dX7_play_4 ?_
  refine V_icmp_eq (tgt := 12) C dX7_play_6 (by decide) ?_ ?_
  · refine V_aload_n C 0 dX7_play_12 rfl rfl ?_
    refine V_callWv (As := []) (rest := []) (wc := WX d a r1.2) (Wd := fun w => WX d a w) C (fun r h => ct_X7_keeps _ d a r1.2 r h) kv_X7_keeps kl_X7_37 [0, 1, 2, 3, 4, 5] (fun w => WX d a w) dX7_play_13 rfl rfl (fun _ => rfl) (fun _ => rfl) rfl rfl rfl (Nat.le_of_ble_eq_true rfl) ⟨(Nat.le_of_ble_eq_true rfl), (Nat.le_of_ble_eq_true rfl)⟩ rfl rfl ⟨Nat.le_refl _, Nat.le_refl _⟩ rfl (fun r13 hr13 => ?_)
    refine V_iconst (v := 0) C dX7_play_16 (by decide) ?_
    refine V_istore_n (lv' := [some (.ref (a 0)), some (.int 0)]) C 1 dX7_play_17 rfl (by decide) rfl ?_
    refine V_aload_n C 0 dX7_play_18 rfl rfl ?_
    refine V_iconst (v := 0) C dX7_play_19 (by decide) ?_
    refine V_putI (ws' := WX d a (r13.1, r13.2.1, r13.2.2.1, r13.2.2.2.1, r13.2.2.2.2.1, r13.2.2.2.2.2.1, r13.2.2.2.2.2.2.1, 0, r13.2.2.2.2.2.2.2.2.1, r13.2.2.2.2.2.2.2.2.2.1, r13.2.2.2.2.2.2.2.2.2.2.1, r13.2.2.2.2.2.2.2.2.2.2.2.1, r13.2.2.2.2.2.2.2.2.2.2.2.2.1, r13.2.2.2.2.2.2.2.2.2.2.2.2.2)) C fx7 0 7 kf_X7_152 (by decide) rfl rfl rfl (Nat.le_of_ble_eq_true rfl) rfl dX7_play_20 ?_
    exact v_X7_play_b23 C hr hlk z FUEL (r13.1, r13.2.1, r13.2.2.1, r13.2.2.2.1, r13.2.2.2.2.1, r13.2.2.2.2.2.1, r13.2.2.2.2.2.2.1, 0, r13.2.2.2.2.2.2.2.2.1, r13.2.2.2.2.2.2.2.2.2.1, r13.2.2.2.2.2.2.2.2.2.2.1, r13.2.2.2.2.2.2.2.2.2.2.2.1, r13.2.2.2.2.2.2.2.2.2.2.2.2.1, r13.2.2.2.2.2.2.2.2.2.2.2.2.2) 0
  · refine V_ldc C kc_X7_35 dX7_play_9 ?_
    exact V_iretW (Wd := fun w => WX d a w) C hr hlk dX7_play_11 rfl
set_option maxRecDepth 20000 in
theorem ct_X7_play (l : Launch) (d : Dt) (a : Nat → Nat) (u : UX) (z : Int32 × UX) (h : f_X7_play u = some z) : CtW l d yX7_play cX7_play 2 (some .int) (rmF 9 199) [.ref (a 0)] (WX d a u) (WX d a z.2) (some (.int z.1)) :=
  CtW.start (by decide) (Nat.le_of_ble_eq_true rfl) (by simp [Value.category]) [some (.ref (a 0)), none] rfl (fun x A C hr hlk => V_eqv (fun _ => h) (v_X7_play C hr hlk z u))
