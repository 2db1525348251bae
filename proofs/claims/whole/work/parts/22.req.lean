/-! MastRobots$Requests.copyFrom -/
def f_X4_copyFrom (u : (UR × UR)) : Option ((UR × UR)) :=
  some ((u.2.1, u.2.2.1, u.2.2.2.1, u.2.2.2.2), u.2)
set_option maxRecDepth 20000 in
theorem v_X4_copyFrom {x : Am} {d : Dt} {A : Nat → Prop} {a : Nat → Nat} {b : Nat → Nat} (C : Cx x cX4_copyFrom 2 yX4_copyFrom.cls d (Imu d A x.s.heap)) (hr : x.meth.sig.returnType = none) (hlk : x.meth.locks = false) (z : (UR × UR)) (u : (UR × UR)) : V x (rmF 2 93) 0 0 (MQ x.below (QW d A (WRR d a b z) none) x.args x.s 0 0 A) 2 (Imu d A x.s.heap) (f_X4_copyFrom u = some z) 0 (WRR d a b u) [some (.ref (a 0)), some (.ref (b 0))] [] := by
  unfold f_X4_copyFrom
  refine V_aload_n C 1 dX4_copyFrom_0 rfl rfl ?_
  refine V_get (v := .ref (b 1)) C fx4 4 0 kf_X4_9 (by decide) rfl rfl dX4_copyFrom_1 ?_
  refine V_aload_n C 0 dX4_copyFrom_4 rfl rfl ?_
  refine V_get (v := .ref (a 1)) C fx4 0 0 kf_X4_9 (by decide) rfl rfl dX4_copyFrom_5 ?_
  refine V_callSc (As := [.ref (b 1), .ref (a 1)]) (rest := []) (wc := [((b 1), .inl (d.2.1, 12, .inl u.2.1)), ((a 1), .inl (d.2.1, 12, .inl u.1.1))]) (w1 := [((b 1), .inl (d.2.1, 12, .inl u.2.1)), ((a 1), .inl (d.2.1, 12, .inl u.2.1))]) (ws2 := WRR d a b ((u.2.1, u.1.2.1, u.1.2.2.1, u.1.2.2.2), u.2)) C (ct_X5_copy _ d _ _ 12 (by decide) _ _) ks_X5_copy kl_X4_21 [5, 1] dX4_copyFrom_8 rfl rfl rfl rfl rfl (Nat.le_of_ble_eq_true rfl) ⟨(Nat.le_of_ble_eq_true rfl), (Nat.le_of_ble_eq_true rfl)⟩ rfl rfl ⟨Nat.le_refl _, Nat.le_refl _⟩ rfl ?_
  refine V_aload_n C 1 dX4_copyFrom_11 rfl rfl ?_
  refine V_get (v := .ref (b 2)) C fx4 4 1 kf_X4_15 (by decide) rfl rfl dX4_copyFrom_12 ?_
  refine V_aload_n C 0 dX4_copyFrom_15 rfl rfl ?_
  refine V_get (v := .ref (a 2)) C fx4 0 1 kf_X4_15 (by decide) rfl rfl dX4_copyFrom_16 ?_
  refine V_callSc (As := [.ref (b 2), .ref (a 2)]) (rest := []) (wc := [((b 2), .inl (d.2.1, 12, .inl u.2.2.1)), ((a 2), .inl (d.2.1, 12, .inl u.1.2.1))]) (w1 := [((b 2), .inl (d.2.1, 12, .inl u.2.2.1)), ((a 2), .inl (d.2.1, 12, .inl u.2.2.1))]) (ws2 := WRR d a b ((u.2.1, u.2.2.1, u.1.2.2.1, u.1.2.2.2), u.2)) C (ct_X5_copy _ d _ _ 12 (by decide) _ _) ks_X5_copy kl_X4_21 [6, 2] dX4_copyFrom_19 rfl rfl rfl rfl rfl (Nat.le_of_ble_eq_true rfl) ⟨(Nat.le_of_ble_eq_true rfl), (Nat.le_of_ble_eq_true rfl)⟩ rfl rfl ⟨Nat.le_refl _, Nat.le_refl _⟩ rfl ?_
  refine V_aload_n C 1 dX4_copyFrom_22 rfl rfl ?_
  refine V_get (v := .ref (b 3)) C fx4 4 2 kf_X4_18 (by decide) rfl rfl dX4_copyFrom_23 ?_
  refine V_aload_n C 0 dX4_copyFrom_26 rfl rfl ?_
  refine V_get (v := .ref (a 3)) C fx4 0 2 kf_X4_18 (by decide) rfl rfl dX4_copyFrom_27 ?_
  refine V_callSc (As := [.ref (b 3), .ref (a 3)]) (rest := []) (wc := [((b 3), .inl (d.2.1, 12, .inl u.2.2.2.1)), ((a 3), .inl (d.2.1, 12, .inl u.1.2.2.1))]) (w1 := [((b 3), .inl (d.2.1, 12, .inl u.2.2.2.1)), ((a 3), .inl (d.2.1, 12, .inl u.2.2.2.1))]) (ws2 := WRR d a b ((u.2.1, u.2.2.1, u.2.2.2.1, u.1.2.2.2), u.2)) C (ct_X5_copy _ d _ _ 12 (by decide) _ _) ks_X5_copy kl_X4_21 [7, 3] dX4_copyFrom_30 rfl rfl rfl rfl rfl (Nat.le_of_ble_eq_true rfl) ⟨(Nat.le_of_ble_eq_true rfl), (Nat.le_of_ble_eq_true rfl)⟩ rfl rfl ⟨Nat.le_refl _, Nat.le_refl _⟩ rfl ?_
  refine V_aload_n C 0 dX4_copyFrom_33 rfl rfl ?_
  refine V_aload_n C 1 dX4_copyFrom_34 rfl rfl ?_
  refine V_get (v := .int u.2.2.2.2) C fx4 4 3 kf_X4_27 (by decide) rfl rfl dX4_copyFrom_35 ?_
  refine V_putI (ws' := WRR d a b ((u.2.1, u.2.2.1, u.2.2.2.1, u.2.2.2.2), u.2)) C fx4 0 3 kf_X4_27 (by decide) rfl rfl rfl (Nat.le_of_ble_eq_true rfl) rfl dX4_copyFrom_38 ?_
  exact V_vretW (Wd := fun w => WRR d a b w) C hr hlk dX4_copyFrom_41 rfl
set_option maxRecDepth 20000 in
theorem ct_X4_copyFrom (l : Launch) (d : Dt) (a : Nat → Nat) (b : Nat → Nat) (u : (UR × UR)) (z : (UR × UR)) (h : f_X4_copyFrom u = some z) : CtW l d yX4_copyFrom cX4_copyFrom 2 none (rmF 2 93) [.ref (a 0), .ref (b 0)] (WRR d a b u) (WRR d a b z) none :=
  CtW.start (by decide) (Nat.le_of_ble_eq_true rfl) (by simp [Value.category]) [some (.ref (a 0)), some (.ref (b 0))] rfl (fun x A C hr hlk => V_eqv (fun _ => h) (v_X4_copyFrom C hr hlk z u))

/-! MastRobots$Requests.add -/
def f_X4_add (u : UR) (p1 : Int32) (p2 : Int32) (p3 : Int32) : Option (Int32 × UR) :=
  (if u.2.2.2 < 0 then some ((-1000003), u) else (if u.2.2.2 < 12 then (if inb u.2.2.2 12 = true then (if inb u.2.2.2 12 = true then (if inb u.2.2.2 12 = true then some ((u.2.2.2 + 1), ((upd u.1 u.2.2.2.toNatClampNeg p1), (upd u.2.1 u.2.2.2.toNatClampNeg p2), (upd u.2.2.1 u.2.2.2.toNatClampNeg p3), (u.2.2.2 + 1))) else none) else none) else none) else some ((-1000003), u)))
set_option maxRecDepth 20000 in
theorem v_X4_add {x : Am} {d : Dt} {A : Nat → Prop} {a : Nat → Nat} (C : Cx x cX4_add 4 yX4_add.cls d (Imu d A x.s.heap)) (hr : x.meth.sig.returnType = (some .int)) (hlk : x.meth.locks = false) (z : Int32 × UR) (u : UR) (p1 : Int32) (p2 : Int32) (p3 : Int32) : V x (rmF 0 0) 0 0 (MQ x.below (QW d A (WR d a z.2) (some (.int z.1))) x.args x.s 0 0 A) 4 (Imu d A x.s.heap) (f_X4_add u p1 p2 p3 = some z) 0 (WR d a u) [some (.ref (a 0)), some (.int p1), some (.int p2), some (.int p3)] [] := by
  unfold f_X4_add
  refine V_aload_n C 0 dX4_add_0 rfl rfl ?_
  refine V_get (v := .int u.2.2.2) C fx4 0 3 kf_X4_27 (by decide) rfl rfl dX4_add_1 ?_
  refine V_if_lt (tgt := 16) C dX4_add_4 (by decide) ?_ ?_
  · refine V_ldc C kc_X4_31 dX4_add_16 ?_
    exact V_iretW (Wd := fun w => WR d a w) C hr hlk dX4_add_18 rfl
  · refine V_aload_n C 0 dX4_add_7 rfl rfl ?_
    refine V_get (v := .int u.2.2.2) C fx4 0 3 kf_X4_27 (by decide) rfl rfl dX4_add_8 ?_
    refine V_bipush (v := 12) C dX4_add_11 (by decide) ?_
    refine V_icmp_lt (tgt := 19) C dX4_add_13 (by decide) ?_ ?_
    · refine V_aload_n C 0 dX4_add_19 rfl rfl ?_
      refine V_get (v := .ref (a 1)) C fx4 0 0 kf_X4_9 (by decide) rfl rfl dX4_add_20 ?_
      refine V_aload_n C 0 dX4_add_23 rfl rfl ?_
      refine V_get (v := .int u.2.2.2) C fx4 0 3 kf_X4_27 (by decide) rfl rfl dX4_add_24 ?_
      refine V_iload_n C 1 dX4_add_27 rfl rfl ?_
      refine V_iast (ws' := WR d a ((upd u.1 u.2.2.2.toNatClampNeg p1), u.2.1, u.2.2.1, u.2.2.2)) C 1 rfl rfl dX4_add_28 ?_
      refine V_aload_n C 0 dX4_add_29 rfl rfl ?_
      refine V_get (v := .ref (a 2)) C fx4 0 1 kf_X4_15 (by decide) rfl rfl dX4_add_30 ?_
      refine V_aload_n C 0 dX4_add_33 rfl rfl ?_
      refine V_get (v := .int u.2.2.2) C fx4 0 3 kf_X4_27 (by decide) rfl rfl dX4_add_34 ?_
      refine V_iload_n C 2 dX4_add_37 rfl rfl ?_
      refine V_iast (ws' := WR d a ((upd u.1 u.2.2.2.toNatClampNeg p1), (upd u.2.1 u.2.2.2.toNatClampNeg p2), u.2.2.1, u.2.2.2)) C 2 rfl rfl dX4_add_38 ?_
      refine V_aload_n C 0 dX4_add_39 rfl rfl ?_
      refine V_get (v := .ref (a 3)) C fx4 0 2 kf_X4_18 (by decide) rfl rfl dX4_add_40 ?_
      refine V_aload_n C 0 dX4_add_43 rfl rfl ?_
      refine V_get (v := .int u.2.2.2) C fx4 0 3 kf_X4_27 (by decide) rfl rfl dX4_add_44 ?_
      refine V_iload_n C 3 dX4_add_47 rfl rfl ?_
      refine V_iast (ws' := WR d a ((upd u.1 u.2.2.2.toNatClampNeg p1), (upd u.2.1 u.2.2.2.toNatClampNeg p2), (upd u.2.2.1 u.2.2.2.toNatClampNeg p3), u.2.2.2)) C 3 rfl rfl dX4_add_48 ?_
      refine V_aload_n C 0 dX4_add_49 rfl rfl ?_
      refine V_dup C dX4_add_50 rfl ?_
      refine V_get (v := .int u.2.2.2) C fx4 0 3 kf_X4_27 (by decide) rfl rfl dX4_add_51 ?_
      refine V_iconst (v := 1) C dX4_add_54 (by decide) ?_
      refine V_iadd C dX4_add_55 ?_
      refine V_putI (ws' := WR d a ((upd u.1 u.2.2.2.toNatClampNeg p1), (upd u.2.1 u.2.2.2.toNatClampNeg p2), (upd u.2.2.1 u.2.2.2.toNatClampNeg p3), (u.2.2.2 + 1))) C fx4 0 3 kf_X4_27 (by decide) rfl rfl rfl (Nat.le_of_ble_eq_true rfl) rfl dX4_add_56 ?_
      refine V_aload_n C 0 dX4_add_59 rfl rfl ?_
      refine V_get (v := .int (u.2.2.2 + 1)) C fx4 0 3 kf_X4_27 (by decide) rfl rfl dX4_add_60 ?_
      exact V_iretW (Wd := fun w => WR d a w) C hr hlk dX4_add_63 rfl
    · refine V_ldc C kc_X4_31 dX4_add_16 ?_
      exact V_iretW (Wd := fun w => WR d a w) C hr hlk dX4_add_18 rfl
set_option maxRecDepth 20000 in
theorem ct_X4_add (l : Launch) (d : Dt) (a : Nat → Nat) (u : UR) (p1 : Int32) (p2 : Int32) (p3 : Int32) (z : Int32 × UR) (h : f_X4_add u p1 p2 p3 = some z) : CtW l d yX4_add cX4_add 4 (some .int) (rmF 0 0) [.ref (a 0), .int p1, .int p2, .int p3] (WR d a u) (WR d a z.2) (some (.int z.1)) :=
  CtW.start (by decide) (Nat.le_of_ble_eq_true rfl) (by simp [Value.category]) [some (.ref (a 0)), some (.int p1), some (.int p2), some (.int p3)] rfl (fun x A C hr hlk => V_eqv (fun _ => h) (v_X4_add C hr hlk z u p1 p2 p3))

/-! MastRobots$Requests.fileOf -/
def f_X4_fileOf (u : UR) (p1 : Int32) : Option (Int32) :=
  (if p1 < 0 then some (-1) else (if 12 ≤ p1 then some (-1) else (if inb p1 12 = true then some (u.1 p1.toNatClampNeg) else none)))
set_option maxRecDepth 20000 in
theorem v_X4_fileOf {x : Am} {d : Dt} {a : Nat → Nat} (C : Cx x cX4_fileOf 2 yX4_fileOf.cls d (Iro d x.s.heap)) (hr : x.meth.sig.returnType = (some .int)) (hlk : x.meth.locks = false) (z : Int32) (u : UR) (p1 : Int32) : V x (rmF 0 0) 0 0 (MQ x.below (QR (some (.int z))) x.args x.s 0 0 (fun _ => False)) 2 (Iro d x.s.heap) (f_X4_fileOf u p1 = some z) 0 (WR d a u) [some (.ref (a 0)), some (.int p1)] [] := by
  unfold f_X4_fileOf
  refine V_iload_n C 1 dX4_fileOf_0 rfl rfl ?_
  refine V_if_lt (tgt := 22) C dX4_fileOf_1 (by decide) ?_ ?_
  · refine V_iconst (v := (-1)) C dX4_fileOf_22 (by decide) ?_
    exact V_iretR C hr hlk dX4_fileOf_23
  · refine V_iload_n C 1 dX4_fileOf_4 rfl rfl ?_
    refine V_aload_n C 0 dX4_fileOf_5 rfl rfl ?_
    refine V_get (v := .ref (a 1)) C fx4 0 0 kf_X4_9 (by decide) rfl rfl dX4_fileOf_6 ?_
    refine V_alenI (v := 12) C 1 rfl (by decide) dX4_fileOf_9 ?_
    refine V_icmp_ge (tgt := 22) C dX4_fileOf_10 (by decide) ?_ ?_
    · refine V_iconst (v := (-1)) C dX4_fileOf_22 (by decide) ?_
      exact V_iretR C hr hlk dX4_fileOf_23
    · refine V_aload_n C 0 dX4_fileOf_13 rfl rfl ?_
      refine V_get (v := .ref (a 1)) C fx4 0 0 kf_X4_9 (by decide) rfl rfl dX4_fileOf_14 ?_
      refine V_iload_n C 1 dX4_fileOf_17 rfl rfl ?_
      refine V_iald C 1 rfl dX4_fileOf_18 ?_
      refine V_goto (tgt := 23) C dX4_fileOf_19 (by decide) ?_
      exact V_iretR C hr hlk dX4_fileOf_23
set_option maxRecDepth 20000 in
theorem ct_X4_fileOf (l : Launch) (d : Dt) (a : Nat → Nat) (u : UR) (p1 : Int32) (z : Int32) (h : f_X4_fileOf u p1 = some z) : CtR l d yX4_fileOf cX4_fileOf 2 (some .int) (rmF 0 0) [.ref (a 0), .int p1] (WR d a u) (some (.int z)) :=
  CtR.start (by decide) (Nat.le_of_ble_eq_true rfl) (by simp [Value.category]) [some (.ref (a 0)), some (.int p1)] rfl (fun x C hr hlk => V_eqv (fun _ => h) (v_X4_fileOf C hr hlk z u p1))

/-! MastRobots$Requests.rankOf -/
def f_X4_rankOf (u : UR) (p1 : Int32) : Option (Int32) :=
  (if p1 < 0 then some (-1) else (if 12 ≤ p1 then some (-1) else (if inb p1 12 = true then some (u.2.1 p1.toNatClampNeg) else none)))
set_option maxRecDepth 20000 in
theorem v_X4_rankOf {x : Am} {d : Dt} {a : Nat → Nat} (C : Cx x cX4_rankOf 2 yX4_rankOf.cls d (Iro d x.s.heap)) (hr : x.meth.sig.returnType = (some .int)) (hlk : x.meth.locks = false) (z : Int32) (u : UR) (p1 : Int32) : V x (rmF 0 0) 0 0 (MQ x.below (QR (some (.int z))) x.args x.s 0 0 (fun _ => False)) 2 (Iro d x.s.heap) (f_X4_rankOf u p1 = some z) 0 (WR d a u) [some (.ref (a 0)), some (.int p1)] [] := by
  unfold f_X4_rankOf
  refine V_iload_n C 1 dX4_rankOf_0 rfl rfl ?_
  refine V_if_lt (tgt := 22) C dX4_rankOf_1 (by decide) ?_ ?_
  · refine V_iconst (v := (-1)) C dX4_rankOf_22 (by decide) ?_
    exact V_iretR C hr hlk dX4_rankOf_23
  · refine V_iload_n C 1 dX4_rankOf_4 rfl rfl ?_
    refine V_aload_n C 0 dX4_rankOf_5 rfl rfl ?_
    refine V_get (v := .ref (a 2)) C fx4 0 1 kf_X4_15 (by decide) rfl rfl dX4_rankOf_6 ?_
    refine V_alenI (v := 12) C 2 rfl (by decide) dX4_rankOf_9 ?_
    refine V_icmp_ge (tgt := 22) C dX4_rankOf_10 (by decide) ?_ ?_
    · refine V_iconst (v := (-1)) C dX4_rankOf_22 (by decide) ?_
      exact V_iretR C hr hlk dX4_rankOf_23
    · refine V_aload_n C 0 dX4_rankOf_13 rfl rfl ?_
      refine V_get (v := .ref (a 2)) C fx4 0 1 kf_X4_15 (by decide) rfl rfl dX4_rankOf_14 ?_
      refine V_iload_n C 1 dX4_rankOf_17 rfl rfl ?_
      refine V_iald C 2 rfl dX4_rankOf_18 ?_
      refine V_goto (tgt := 23) C dX4_rankOf_19 (by decide) ?_
      exact V_iretR C hr hlk dX4_rankOf_23
set_option maxRecDepth 20000 in
theorem ct_X4_rankOf (l : Launch) (d : Dt) (a : Nat → Nat) (u : UR) (p1 : Int32) (z : Int32) (h : f_X4_rankOf u p1 = some z) : CtR l d yX4_rankOf cX4_rankOf 2 (some .int) (rmF 0 0) [.ref (a 0), .int p1] (WR d a u) (some (.int z)) :=
  CtR.start (by decide) (Nat.le_of_ble_eq_true rfl) (by simp [Value.category]) [some (.ref (a 0)), some (.int p1)] rfl (fun x C hr hlk => V_eqv (fun _ => h) (v_X4_rankOf C hr hlk z u p1))

/-! MastRobots$Requests.tickOf -/
def f_X4_tickOf (u : UR) (p1 : Int32) : Option (Int32) :=
  (if p1 < 0 then some (-1) else (if 12 ≤ p1 then some (-1) else (if inb p1 12 = true then some (u.2.2.1 p1.toNatClampNeg) else none)))
set_option maxRecDepth 20000 in
theorem v_X4_tickOf {x : Am} {d : Dt} {a : Nat → Nat} (C : Cx x cX4_tickOf 2 yX4_tickOf.cls d (Iro d x.s.heap)) (hr : x.meth.sig.returnType = (some .int)) (hlk : x.meth.locks = false) (z : Int32) (u : UR) (p1 : Int32) : V x (rmF 0 0) 0 0 (MQ x.below (QR (some (.int z))) x.args x.s 0 0 (fun _ => False)) 2 (Iro d x.s.heap) (f_X4_tickOf u p1 = some z) 0 (WR d a u) [some (.ref (a 0)), some (.int p1)] [] := by
  unfold f_X4_tickOf
  refine V_iload_n C 1 dX4_tickOf_0 rfl rfl ?_
  refine V_if_lt (tgt := 22) C dX4_tickOf_1 (by decide) ?_ ?_
  · refine V_iconst (v := (-1)) C dX4_tickOf_22 (by decide) ?_
    exact V_iretR C hr hlk dX4_tickOf_23
  · refine V_iload_n C 1 dX4_tickOf_4 rfl rfl ?_
    refine V_aload_n C 0 dX4_tickOf_5 rfl rfl ?_
    refine V_get (v := .ref (a 3)) C fx4 0 2 kf_X4_18 (by decide) rfl rfl dX4_tickOf_6 ?_
    refine V_alenI (v := 12) C 3 rfl (by decide) dX4_tickOf_9 ?_
    refine V_icmp_ge (tgt := 22) C dX4_tickOf_10 (by decide) ?_ ?_
    · refine V_iconst (v := (-1)) C dX4_tickOf_22 (by decide) ?_
      exact V_iretR C hr hlk dX4_tickOf_23
    · refine V_aload_n C 0 dX4_tickOf_13 rfl rfl ?_
      refine V_get (v := .ref (a 3)) C fx4 0 2 kf_X4_18 (by decide) rfl rfl dX4_tickOf_14 ?_
      refine V_iload_n C 1 dX4_tickOf_17 rfl rfl ?_
      refine V_iald C 3 rfl dX4_tickOf_18 ?_
      refine V_goto (tgt := 23) C dX4_tickOf_19 (by decide) ?_
      exact V_iretR C hr hlk dX4_tickOf_23
set_option maxRecDepth 20000 in
theorem ct_X4_tickOf (l : Launch) (d : Dt) (a : Nat → Nat) (u : UR) (p1 : Int32) (z : Int32) (h : f_X4_tickOf u p1 = some z) : CtR l d yX4_tickOf cX4_tickOf 2 (some .int) (rmF 0 0) [.ref (a 0), .int p1] (WR d a u) (some (.int z)) :=
  CtR.start (by decide) (Nat.le_of_ble_eq_true rfl) (by simp [Value.category]) [some (.ref (a 0)), some (.int p1)] rfl (fun x C hr hlk => V_eqv (fun _ => h) (v_X4_tickOf C hr hlk z u p1))

/-! MastRobots$Requests.removeHeldBy -/
def f_X4_removeHeldBy_b56 (k13 : (UR × UC) → Int32 → Int32 → Int32 → Option (Int32 × (UR × UC))) (u : (UR × UC)) (v1 : Int32) (v3 : Int32) (v4 : Int32) : Option (Int32 × (UR × UC)) :=
  k13 u v1 v3 (v4 + 1)
def f_X4_removeHeldBy_b13 : Nat → (UR × UC) → Int32 → Int32 → Int32 → Option (Int32 × (UR × UC))
  | 0, _, _, _, _ => none
  | n + 1, u, v1, v3, v4 => (if v3 ≤ v4 then some ((v3 - u.1.2.2.2), u) else ((f_X4_fileOf u.1 v4).bind fun r23 => ((f_X0_holderOf u.2 r23).bind fun r26 => (if r26 = v1 then f_X4_removeHeldBy_b56 (f_X4_removeHeldBy_b13 n) u v1 v3 v4 else ((f_X4_fileOf u.1 v4).bind fun r37 => ((f_X4_rankOf u.1 v4).bind fun r43 => ((f_X4_tickOf u.1 v4).bind fun r49 => ((f_X4_add u.1 r37 r43 r49).bind fun r52 => f_X4_removeHeldBy_b56 (f_X4_removeHeldBy_b13 n) (r52.2, u.2) v1 v3 v4))))))))
def f_X4_removeHeldBy (u : (UR × UC)) (p1 : Int32) : Option (Int32 × (UR × UC)) :=
  f_X4_removeHeldBy_b13 FUEL ((u.1.1, u.1.2.1, u.1.2.2.1, 0), u.2) p1 u.1.2.2.2 0
set_option maxRecDepth 20000 in
theorem v_X4_removeHeldBy_b56 {x : Am} {d : Dt} {A : Nat → Prop} {a : Nat → Nat} {b : Nat → Nat} (C : Cx x cX4_removeHeldBy 5 yX4_removeHeldBy.cls d (Imu d A x.s.heap)) (hr : x.meth.sig.returnType = (some .int)) (hlk : x.meth.locks = false) (z : Int32 × (UR × UC)) (k13 : (UR × UC) → Int32 → Int32 → Int32 → Option (Int32 × (UR × UC))) (hk13 : ∀ (u : (UR × UC))(v1 : Int32)(v3 : Int32)(v4 : Int32), V x (rmF 1 23) 0 0 (MQ x.below (QW d A (WRC d a b z.2) (some (.int z.1))) x.args x.s 0 0 A) 5 (Imu d A x.s.heap) (k13 u v1 v3 v4 = some z) 13 (WRC d a b u) [some (.ref (a 0)), some (.int v1), some (.ref (b 0)), some (.int v3), some (.int v4)] []) (u : (UR × UC)) (v1 : Int32) (v3 : Int32) (v4 : Int32) : V x (rmF 1 23) 0 0 (MQ x.below (QW d A (WRC d a b z.2) (some (.int z.1))) x.args x.s 0 0 A) 5 (Imu d A x.s.heap) (f_X4_removeHeldBy_b56 k13 u v1 v3 v4 = some z) 56 (WRC d a b u) [some (.ref (a 0)), some (.int v1), some (.ref (b 0)), some (.int v3), some (.int v4)] [] := by
  unfold f_X4_removeHeldBy_b56
  refine V_iinc (v := (v4 + 1)) (lv' := [some (.ref (a 0)), some (.int v1), some (.ref (b 0)), some (.int v3), some (.int (v4 + 1))]) C dX4_removeHeldBy_56 rfl rfl (by decide) rfl ?_
  refine V_goto (tgt := 13) C dX4_removeHeldBy_59 (by decide) ?_
  exact hk13 u v1 v3 (v4 + 1)
set_option maxRecDepth 20000 in
theorem v_X4_removeHeldBy_b13 {x : Am} {d : Dt} {A : Nat → Prop} {a : Nat → Nat} {b : Nat → Nat} (C : Cx x cX4_removeHeldBy 5 yX4_removeHeldBy.cls d (Imu d A x.s.heap)) (hr : x.meth.sig.returnType = (some .int)) (hlk : x.meth.locks = false) (z : Int32 × (UR × UC)) (n : Nat) (u : (UR × UC)) (v1 : Int32) (v3 : Int32) (v4 : Int32) : V x (rmF 1 23) 0 0 (MQ x.below (QW d A (WRC d a b z.2) (some (.int z.1))) x.args x.s 0 0 A) 5 (Imu d A x.s.heap) (f_X4_removeHeldBy_b13 n u v1 v3 v4 = some z) 13 (WRC d a b u) [some (.ref (a 0)), some (.int v1), some (.ref (b 0)), some (.int v3), some (.int v4)] [] := by
  induction n generalizing u v1 v3 v4 with
  | zero => exact V_none
  | succ n ih =>
    rw [f_X4_removeHeldBy_b13]
    refine V_iload C dX4_removeHeldBy_13 rfl ?_
    refine V_iload_n C 3 dX4_removeHeldBy_15 rfl rfl ?_
    refine V_icmp_ge (tgt := 62) C dX4_removeHeldBy_16 (by decide) ?_ ?_
    · refine V_iload_n C 3 dX4_removeHeldBy_62 rfl rfl ?_
      refine V_aload_n C 0 dX4_removeHeldBy_63 rfl rfl ?_
      refine V_get (v := .int u.1.2.2.2) C fx4 0 3 kf_X4_27 (by decide) rfl rfl dX4_removeHeldBy_64 ?_
      refine V_isub C dX4_removeHeldBy_67 ?_
      exact V_iretW (Wd := fun w => WRC d a b w) C hr hlk dX4_removeHeldBy_68 rfl
    · refine V_aload_n C 2 dX4_removeHeldBy_19 rfl rfl ?_
      refine V_aload_n C 0 dX4_removeHeldBy_20 rfl rfl ?_
      refine V_iload C dX4_removeHeldBy_21 rfl ?_
      refine V_callRi (As := [.int v4]) (rest := [.ref (b 0)]) (wc := WR d a u.1) C (fun r h => ct_X4_fileOf _ d a u.1 v4 r h) kv_X4_fileOf kl_X4_32 [0, 1, 2, 3] dX4_removeHeldBy_23 rfl rfl rfl rfl (Nat.le_of_ble_eq_true rfl) ⟨(Nat.le_of_ble_eq_true rfl), (Nat.le_of_ble_eq_true rfl)⟩ rfl rfl ⟨Nat.le_refl _, Nat.le_refl _⟩ rfl (fun r23 hr23 => ?_)
      refine V_callRi (As := [.int r23]) (rest := []) (wc := WC d b u.2) C (fun r h => ct_X0_holderOf _ d b u.2 r23 r h) kv_X0_holderOf kl_X4_36 [4, 5, 6, 7, 8, 9, 10] dX4_removeHeldBy_26 rfl rfl rfl rfl (Nat.le_of_ble_eq_true rfl) ⟨(Nat.le_of_ble_eq_true rfl), (Nat.le_of_ble_eq_true rfl)⟩ rfl rfl ⟨Nat.le_refl _, Nat.le_refl _⟩ rfl (fun r26 hr26 => ?_)
      refine V_iload_n C 1 dX4_removeHeldBy_29 rfl rfl ?_
      refine V_icmp_eq (tgt := 56) C dX4_removeHeldBy_30 (by decide) ?_ ?_
      · exact v_X4_removeHeldBy_b56 C hr hlk z (f_X4_removeHeldBy_b13  n) ih u v1 v3 v4
      · refine V_aload_n C 0 dX4_removeHeldBy_33 rfl rfl ?_
        refine V_aload_n C 0 dX4_removeHeldBy_34 rfl rfl ?_
        refine V_iload C dX4_removeHeldBy_35 rfl ?_
        refine V_callRi (As := [.int v4]) (rest := [.ref (a 0)]) (wc := WR d a u.1) C (fun r h => ct_X4_fileOf _ d a u.1 v4 r h) kv_X4_fileOf kl_X4_32 [0, 1, 2, 3] dX4_removeHeldBy_37 rfl rfl rfl rfl (Nat.le_of_ble_eq_true rfl) ⟨(Nat.le_of_ble_eq_true rfl), (Nat.le_of_ble_eq_true rfl)⟩ rfl rfl ⟨Nat.le_refl _, Nat.le_refl _⟩ rfl (fun r37 hr37 => ?_)
        refine V_aload_n C 0 dX4_removeHeldBy_40 rfl rfl ?_
        refine V_iload C dX4_removeHeldBy_41 rfl ?_
        refine V_callRi (As := [.int v4]) (rest := [.int r37, .ref (a 0)]) (wc := WR d a u.1) C (fun r h => ct_X4_rankOf _ d a u.1 v4 r h) kv_X4_rankOf kl_X4_41 [0, 1, 2, 3] dX4_removeHeldBy_43 rfl rfl rfl rfl (Nat.le_of_ble_eq_true rfl) ⟨(Nat.le_of_ble_eq_true rfl), (Nat.le_of_ble_eq_true rfl)⟩ rfl rfl ⟨Nat.le_refl _, Nat.le_refl _⟩ rfl (fun r43 hr43 => ?_)
        refine V_aload_n C 0 dX4_removeHeldBy_46 rfl rfl ?_
        refine V_iload C dX4_removeHeldBy_47 rfl ?_
        refine V_callRi (As := [.int v4]) (rest := [.int r43, .int r37, .ref (a 0)]) (wc := WR d a u.1) C (fun r h => ct_X4_tickOf _ d a u.1 v4 r h) kv_X4_tickOf kl_X4_44 [0, 1, 2, 3] dX4_removeHeldBy_49 rfl rfl rfl rfl (Nat.le_of_ble_eq_true rfl) ⟨(Nat.le_of_ble_eq_true rfl), (Nat.le_of_ble_eq_true rfl)⟩ rfl rfl ⟨Nat.le_refl _, Nat.le_refl _⟩ rfl (fun r49 hr49 => ?_)
        refine V_callWi (As := [.int r37, .int r43, .int r49]) (rest := []) (wc := WR d a u.1) (Wd := fun w => WR d a w) C (fun r h => ct_X4_add _ d a u.1 r37 r43 r49 r h) kv_X4_add kl_X4_47 [0, 1, 2, 3] (fun w => WRC d a b (w, u.2)) dX4_removeHeldBy_52 rfl rfl (fun _ => rfl) (fun _ => rfl) rfl rfl rfl (Nat.le_of_ble_eq_true rfl) ⟨(Nat.le_of_ble_eq_true rfl), (Nat.le_of_ble_eq_true rfl)⟩ rfl rfl ⟨Nat.le_refl _, Nat.le_refl _⟩ rfl (fun r52 hr52 => ?_)
        refine V_pop C dX4_removeHeldBy_55 rfl ?_
        exact v_X4_removeHeldBy_b56 C hr hlk z (f_X4_removeHeldBy_b13  n) ih (r52.2, u.2) v1 v3 v4
set_option maxRecDepth 20000 in
theorem v_X4_removeHeldBy {x : Am} {d : Dt} {A : Nat → Prop} {a : Nat → Nat} {b : Nat → Nat} (C : Cx x cX4_removeHeldBy 5 yX4_removeHeldBy.cls d (Imu d A x.s.heap)) (hr : x.meth.sig.returnType = (some .int)) (hlk : x.meth.locks = false) (z : Int32 × (UR × UC)) (u : (UR × UC)) (p1 : Int32) : V x (rmF 1 23) 0 0 (MQ x.below (QW d A (WRC d a b z.2) (some (.int z.1))) x.args x.s 0 0 A) 5 (Imu d A x.s.heap) (f_X4_removeHeldBy u p1 = some z) 0 (WRC d a b u) [some (.ref (a 0)), some (.int p1), some (.ref (b 0)), none, none] [] := by
  unfold f_X4_removeHeldBy
  refine V_aload_n C 0 dX4_removeHeldBy_0 rfl rfl ?_
  refine V_get (v := .int u.1.2.2.2) C fx4 0 3 kf_X4_27 (by decide) rfl rfl dX4_removeHeldBy_1 ?_
  refine V_istore_n (lv' := [some (.ref (a 0)), some (.int p1), some (.ref (b 0)), some (.int u.1.2.2.2), none]) C 3 dX4_removeHeldBy_4 rfl (by decide) rfl ?_
  refine V_aload_n C 0 dX4_removeHeldBy_5 rfl rfl ?_
  refine V_iconst (v := 0) C dX4_removeHeldBy_6 (by decide) ?_
  refine V_putI (ws' := WRC d a b ((u.1.1, u.1.2.1, u.1.2.2.1, 0), u.2)) C fx4 0 3 kf_X4_27 (by decide) rfl rfl rfl (Nat.le_of_ble_eq_true rfl) rfl dX4_removeHeldBy_7 ?_
  refine V_iconst (v := 0) C dX4_removeHeldBy_10 (by decide) ?_
  refine V_istore (lv' := [some (.ref (a 0)), some (.int p1), some (.ref (b 0)), some (.int u.1.2.2.2), some (.int 0)]) C dX4_removeHeldBy_11 (by decide) rfl ?_
  exact v_X4_removeHeldBy_b13 C hr hlk z FUEL ((u.1.1, u.1.2.1, u.1.2.2.1, 0), u.2) p1 u.1.2.2.2 0
set_option maxRecDepth 20000 in
theorem ct_X4_removeHeldBy (l : Launch) (d : Dt) (a : Nat → Nat) (b : Nat → Nat) (u : (UR × UC)) (p1 : Int32) (z : Int32 × (UR × UC)) (h : f_X4_removeHeldBy u p1 = some z) : CtW l d yX4_removeHeldBy cX4_removeHeldBy 5 (some .int) (rmF 1 23) [.ref (a 0), .int p1, .ref (b 0)] (WRC d a b u) (WRC d a b z.2) (some (.int z.1)) :=
  CtW.start (by decide) (Nat.le_of_ble_eq_true rfl) (by simp [Value.category]) [some (.ref (a 0)), some (.int p1), some (.ref (b 0)), none, none] rfl (fun x A C hr hlk => V_eqv (fun _ => h) (v_X4_removeHeldBy C hr hlk z u p1))
