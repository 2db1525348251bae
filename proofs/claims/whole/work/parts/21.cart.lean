/-! MastRobots$Cartridges.copyFrom -/
def f_X0_copyFrom (u : (UC × UC)) : Option ((UC × UC)) :=
  some ((u.2.1, u.2.2.1, u.2.2.2.1, u.2.2.2.2.1, u.2.2.2.2.2.1, u.2.2.2.2.2.2.1, u.2.2.2.2.2.2.2), u.2)
set_option maxRecDepth 20000 in
theorem v_X0_copyFrom {x : Am} {d : Dt} {A : Nat → Prop} {a : Nat → Nat} {b : Nat → Nat} (C : Cx x cX0_copyFrom 2 yX0_copyFrom.cls d (Imu d A x.s.heap)) (hr : x.meth.sig.returnType = none) (hlk : x.meth.locks = false) (z : (UC × UC)) (u : (UC × UC)) : V x (rmF 2 93) 0 0 (MQ x.below (QW d A (WCC d a b z) none) x.args x.s 0 0 A) 2 (Imu d A x.s.heap) (f_X0_copyFrom u = some z) 0 (WCC d a b u) [some (.ref (a 0)), some (.ref (b 0))] [] := by
  unfold f_X0_copyFrom
  refine V_aload_n C 1 dX0_copyFrom_0 rfl rfl ?_
  refine V_get (v := .ref (b 1)) C fx0 7 0 kf_X0_9 (by decide) rfl rfl dX0_copyFrom_1 ?_
  refine V_aload_n C 0 dX0_copyFrom_4 rfl rfl ?_
  refine V_get (v := .ref (a 1)) C fx0 0 0 kf_X0_9 (by decide) rfl rfl dX0_copyFrom_5 ?_
  refine V_callSc (As := [.ref (b 1), .ref (a 1)]) (rest := []) (wc := [((b 1), .inl (d.2.1, 30, .inl u.2.1)), ((a 1), .inl (d.2.1, 30, .inl u.1.1))]) (w1 := [((b 1), .inl (d.2.1, 30, .inl u.2.1)), ((a 1), .inl (d.2.1, 30, .inl u.2.1))]) (ws2 := WCC d a b ((u.2.1, u.1.2.1, u.1.2.2.1, u.1.2.2.2.1, u.1.2.2.2.2.1, u.1.2.2.2.2.2.1, u.1.2.2.2.2.2.2), u.2)) C (ct_X5_copy _ d _ _ 30 (by decide) _ _) ks_X5_copy kl_X0_36 [8, 1] dX0_copyFrom_8 rfl rfl rfl rfl rfl (Nat.le_of_ble_eq_true rfl) ⟨(Nat.le_of_ble_eq_true rfl), (Nat.le_of_ble_eq_true rfl)⟩ rfl rfl ⟨Nat.le_refl _, Nat.le_refl _⟩ rfl ?_
  refine V_aload_n C 1 dX0_copyFrom_11 rfl rfl ?_
  refine V_get (v := .ref (b 2)) C fx0 7 1 kf_X0_15 (by decide) rfl rfl dX0_copyFrom_12 ?_
  refine V_aload_n C 0 dX0_copyFrom_15 rfl rfl ?_
  refine V_get (v := .ref (a 2)) C fx0 0 1 kf_X0_15 (by decide) rfl rfl dX0_copyFrom_16 ?_
  refine V_callSc (As := [.ref (b 2), .ref (a 2)]) (rest := []) (wc := [((b 2), .inl (d.2.1, 30, .inl u.2.2.1)), ((a 2), .inl (d.2.1, 30, .inl u.1.2.1))]) (w1 := [((b 2), .inl (d.2.1, 30, .inl u.2.2.1)), ((a 2), .inl (d.2.1, 30, .inl u.2.2.1))]) (ws2 := WCC d a b ((u.2.1, u.2.2.1, u.1.2.2.1, u.1.2.2.2.1, u.1.2.2.2.2.1, u.1.2.2.2.2.2.1, u.1.2.2.2.2.2.2), u.2)) C (ct_X5_copy _ d _ _ 30 (by decide) _ _) ks_X5_copy kl_X0_36 [9, 2] dX0_copyFrom_19 rfl rfl rfl rfl rfl (Nat.le_of_ble_eq_true rfl) ⟨(Nat.le_of_ble_eq_true rfl), (Nat.le_of_ble_eq_true rfl)⟩ rfl rfl ⟨Nat.le_refl _, Nat.le_refl _⟩ rfl ?_
  refine V_aload_n C 1 dX0_copyFrom_22 rfl rfl ?_
  refine V_get (v := .ref (b 3)) C fx0 7 2 kf_X0_18 (by decide) rfl rfl dX0_copyFrom_23 ?_
  refine V_aload_n C 0 dX0_copyFrom_26 rfl rfl ?_
  refine V_get (v := .ref (a 3)) C fx0 0 2 kf_X0_18 (by decide) rfl rfl dX0_copyFrom_27 ?_
  refine V_callSc (As := [.ref (b 3), .ref (a 3)]) (rest := []) (wc := [((b 3), .inl (d.2.1, 30, .inl u.2.2.2.1)), ((a 3), .inl (d.2.1, 30, .inl u.1.2.2.1))]) (w1 := [((b 3), .inl (d.2.1, 30, .inl u.2.2.2.1)), ((a 3), .inl (d.2.1, 30, .inl u.2.2.2.1))]) (ws2 := WCC d a b ((u.2.1, u.2.2.1, u.2.2.2.1, u.1.2.2.2.1, u.1.2.2.2.2.1, u.1.2.2.2.2.2.1, u.1.2.2.2.2.2.2), u.2)) C (ct_X5_copy _ d _ _ 30 (by decide) _ _) ks_X5_copy kl_X0_36 [10, 3] dX0_copyFrom_30 rfl rfl rfl rfl rfl (Nat.le_of_ble_eq_true rfl) ⟨(Nat.le_of_ble_eq_true rfl), (Nat.le_of_ble_eq_true rfl)⟩ rfl rfl ⟨Nat.le_refl _, Nat.le_refl _⟩ rfl ?_
  refine V_aload_n C 1 dX0_copyFrom_33 rfl rfl ?_
  refine V_get (v := .ref (b 4)) C fx0 7 3 kf_X0_21 (by decide) rfl rfl dX0_copyFrom_34 ?_
  refine V_aload_n C 0 dX0_copyFrom_37 rfl rfl ?_
  refine V_get (v := .ref (a 4)) C fx0 0 3 kf_X0_21 (by decide) rfl rfl dX0_copyFrom_38 ?_
  refine V_callSc (As := [.ref (b 4), .ref (a 4)]) (rest := []) (wc := [((b 4), .inl (d.2.1, 30, .inl u.2.2.2.2.1)), ((a 4), .inl (d.2.1, 30, .inl u.1.2.2.2.1))]) (w1 := [((b 4), .inl (d.2.1, 30, .inl u.2.2.2.2.1)), ((a 4), .inl (d.2.1, 30, .inl u.2.2.2.2.1))]) (ws2 := WCC d a b ((u.2.1, u.2.2.1, u.2.2.2.1, u.2.2.2.2.1, u.1.2.2.2.2.1, u.1.2.2.2.2.2.1, u.1.2.2.2.2.2.2), u.2)) C (ct_X5_copy _ d _ _ 30 (by decide) _ _) ks_X5_copy kl_X0_36 [11, 4] dX0_copyFrom_41 rfl rfl rfl rfl rfl (Nat.le_of_ble_eq_true rfl) ⟨(Nat.le_of_ble_eq_true rfl), (Nat.le_of_ble_eq_true rfl)⟩ rfl rfl ⟨Nat.le_refl _, Nat.le_refl _⟩ rfl ?_
  refine V_aload_n C 1 dX0_copyFrom_44 rfl rfl ?_
  refine V_get (v := .ref (b 5)) C fx0 7 4 kf_X0_24 (by decide) rfl rfl dX0_copyFrom_45 ?_
  refine V_aload_n C 0 dX0_copyFrom_48 rfl rfl ?_
  refine V_get (v := .ref (a 5)) C fx0 0 4 kf_X0_24 (by decide) rfl rfl dX0_copyFrom_49 ?_
  refine V_callSc (As := [.ref (b 5), .ref (a 5)]) (rest := []) (wc := [((b 5), .inl (d.2.1, 37, .inl u.2.2.2.2.2.1)), ((a 5), .inl (d.2.1, 37, .inl u.1.2.2.2.2.1))]) (w1 := [((b 5), .inl (d.2.1, 37, .inl u.2.2.2.2.2.1)), ((a 5), .inl (d.2.1, 37, .inl u.2.2.2.2.2.1))]) (ws2 := WCC d a b ((u.2.1, u.2.2.1, u.2.2.2.1, u.2.2.2.2.1, u.2.2.2.2.2.1, u.1.2.2.2.2.2.1, u.1.2.2.2.2.2.2), u.2)) C (ct_X5_copy _ d _ _ 37 (by decide) _ _) ks_X5_copy kl_X0_36 [12, 5] dX0_copyFrom_52 rfl rfl rfl rfl rfl (Nat.le_of_ble_eq_true rfl) ⟨(Nat.le_of_ble_eq_true rfl), (Nat.le_of_ble_eq_true rfl)⟩ rfl rfl ⟨Nat.le_refl _, Nat.le_refl _⟩ rfl ?_
  refine V_aload_n C 1 dX0_copyFrom_55 rfl rfl ?_
  refine V_get (v := .ref (b 6)) C fx0 7 5 kf_X0_27 (by decide) rfl rfl dX0_copyFrom_56 ?_
  refine V_aload_n C 0 dX0_copyFrom_59 rfl rfl ?_
  refine V_get (v := .ref (a 6)) C fx0 0 5 kf_X0_27 (by decide) rfl rfl dX0_copyFrom_60 ?_
  refine V_callSc (As := [.ref (b 6), .ref (a 6)]) (rest := []) (wc := [((b 6), .inl (d.2.1, 60, .inl u.2.2.2.2.2.2.1)), ((a 6), .inl (d.2.1, 60, .inl u.1.2.2.2.2.2.1))]) (w1 := [((b 6), .inl (d.2.1, 60, .inl u.2.2.2.2.2.2.1)), ((a 6), .inl (d.2.1, 60, .inl u.2.2.2.2.2.2.1))]) (ws2 := WCC d a b ((u.2.1, u.2.2.1, u.2.2.2.1, u.2.2.2.2.1, u.2.2.2.2.2.1, u.2.2.2.2.2.2.1, u.1.2.2.2.2.2.2), u.2)) C (ct_X5_copy _ d _ _ 60 (by decide) _ _) ks_X5_copy kl_X0_36 [13, 6] dX0_copyFrom_63 rfl rfl rfl rfl rfl (Nat.le_of_ble_eq_true rfl) ⟨(Nat.le_of_ble_eq_true rfl), (Nat.le_of_ble_eq_true rfl)⟩ rfl rfl ⟨Nat.le_refl _, Nat.le_refl _⟩ rfl ?_
  refine V_aload_n C 0 dX0_copyFrom_66 rfl rfl ?_
  refine V_aload_n C 1 dX0_copyFrom_67 rfl rfl ?_
  refine V_get (v := .int u.2.2.2.2.2.2.2) C fx0 7 6 kf_X0_42 (by decide) rfl rfl dX0_copyFrom_68 ?_
  refine V_putI (ws' := WCC d a b ((u.2.1, u.2.2.1, u.2.2.2.1, u.2.2.2.2.1, u.2.2.2.2.2.1, u.2.2.2.2.2.2.1, u.2.2.2.2.2.2.2), u.2)) C fx0 0 6 kf_X0_42 (by decide) rfl rfl rfl (Nat.le_of_ble_eq_true rfl) rfl dX0_copyFrom_71 ?_
  exact V_vretW (Wd := fun w => WCC d a b w) C hr hlk dX0_copyFrom_74 rfl
set_option maxRecDepth 20000 in
theorem ct_X0_copyFrom (l : Launch) (d : Dt) (a : Nat → Nat) (b : Nat → Nat) (u : (UC × UC)) (z : (UC × UC)) (h : f_X0_copyFrom u = some z) : CtW l d yX0_copyFrom cX0_copyFrom 2 none (rmF 2 93) [.ref (a 0), .ref (b 0)] (WCC d a b u) (WCC d a b z) none :=
  CtW.start (by decide) (Nat.le_of_ble_eq_true rfl) (by simp [Value.category]) [some (.ref (a 0)), some (.ref (b 0))] rfl (fun x A C hr hlk => V_eqv (fun _ => h) (v_X0_copyFrom C hr hlk z u))

/-! MastRobots$Cartridges.has -/
def f_X0_has (u : UC) (p1 : Int32) : Option (Int32) :=
  ((f_X6_isIn p1 0 (u.2.2.2.2.2.2 - 1)).bind fun r8 => (if jbool r8 = true then some r8 else none))
set_option maxRecDepth 20000 in
theorem v_X0_has {x : Am} {d : Dt} {a : Nat → Nat} (C : Cx x cX0_has 2 yX0_has.cls d (Iro d x.s.heap)) (hr : x.meth.sig.returnType = (some .boolean)) (hlk : x.meth.locks = false) (z : Int32) (u : UC) (p1 : Int32) : V x (rmF 1 22) 0 0 (MQ x.below (QR (some (.int z))) x.args x.s 0 0 (fun _ => False)) 2 (Iro d x.s.heap) (f_X0_has u p1 = some z) 0 (WC d a u) [some (.ref (a 0)), some (.int p1)] [] := by
  unfold f_X0_has
  refine V_iload_n C 1 dX0_has_0 rfl rfl ?_
  refine V_iconst (v := 0) C dX0_has_1 (by decide) ?_
  refine V_aload_n C 0 dX0_has_2 rfl rfl ?_
  refine V_get (v := .int u.2.2.2.2.2.2) C fx0 0 6 kf_X0_42 (by decide) rfl rfl dX0_has_3 ?_
  refine V_iconst (v := 1) C dX0_has_6 (by decide) ?_
  refine V_isub C dX0_has_7 ?_
  refine V_callNi (As := [.int p1, .int 0, .int (u.2.2.2.2.2.2 - 1)]) (rest := []) (wc := []) C (fun r h => ct_X6_isIn _ d p1 0 (u.2.2.2.2.2.2 - 1) r h) ks_X6_isIn kn_X0_46 [] dX0_has_8 rfl rfl (Nat.le_of_ble_eq_true rfl) ⟨(Nat.le_of_ble_eq_true rfl), (Nat.le_of_ble_eq_true rfl)⟩ rfl rfl ⟨Nat.le_refl _, Nat.le_refl _⟩ rfl (fun r8 hr8 => ?_)
  exact V_zretR C hr hlk dX0_has_11
set_option maxRecDepth 20000 in
theorem ct_X0_has (l : Launch) (d : Dt) (a : Nat → Nat) (u : UC) (p1 : Int32) (z : Int32) (h : f_X0_has u p1 = some z) : CtR l d yX0_has cX0_has 2 (some .boolean) (rmF 1 22) [.ref (a 0), .int p1] (WC d a u) (some (.int z)) :=
  CtR.start (by decide) (Nat.le_of_ble_eq_true rfl) (by simp [Value.category]) [some (.ref (a 0)), some (.int p1)] rfl (fun x C hr hlk => V_eqv (fun _ => h) (v_X0_has C hr hlk z u p1))

/-! MastRobots$Cartridges.moveTo -/
def f_X0_moveTo_b41 (u : UC) (v1 : Int32) (v2 : Int32) : Option (UC) :=
  (if inb v1 30 = true then (if v2 < 0 then some (u.1, u.2.1, u.2.2.1, (upd u.2.2.2.1 v1.toNatClampNeg v2), u.2.2.2.2.1, u.2.2.2.2.2.1, u.2.2.2.2.2.2) else (if 37 ≤ v2 then some (u.1, u.2.1, u.2.2.1, (upd u.2.2.2.1 v1.toNatClampNeg v2), u.2.2.2.2.1, u.2.2.2.2.2.1, u.2.2.2.2.2.2) else (if inb v2 37 = true then some (u.1, u.2.1, u.2.2.1, (upd u.2.2.2.1 v1.toNatClampNeg v2), (upd u.2.2.2.2.1 v2.toNatClampNeg v1), u.2.2.2.2.2.1, u.2.2.2.2.2.2) else none))) else none)
def f_X0_moveTo (u : UC) (p1 : Int32) (p2 : Int32) : Option (UC) :=
  (if p1 < 0 then some u else (if p1 < 30 then (if inb p1 30 = true then (if (u.2.2.2.1 p1.toNatClampNeg) < 0 then f_X0_moveTo_b41 u p1 p2 else (if 37 ≤ (u.2.2.2.1 p1.toNatClampNeg) then f_X0_moveTo_b41 u p1 p2 else (if inb (u.2.2.2.1 p1.toNatClampNeg) 37 = true then f_X0_moveTo_b41 (u.1, u.2.1, u.2.2.1, u.2.2.2.1, (upd u.2.2.2.2.1 (u.2.2.2.1 p1.toNatClampNeg).toNatClampNeg (-1)), u.2.2.2.2.2.1, u.2.2.2.2.2.2) p1 p2 else none))) else none) else some u))
set_option maxRecDepth 20000 in
theorem v_X0_moveTo_b41 {x : Am} {d : Dt} {A : Nat → Prop} {a : Nat → Nat} (C : Cx x cX0_moveTo 4 yX0_moveTo.cls d (Imu d A x.s.heap)) (hr : x.meth.sig.returnType = none) (hlk : x.meth.locks = false) (z : UC) (u : UC) (v1 : Int32) (v2 : Int32) : V x (rmF 0 0) 0 0 (MQ x.below (QW d A (WC d a z) none) x.args x.s 0 0 A) 4 (Imu d A x.s.heap) (f_X0_moveTo_b41 u v1 v2 = some z) 41 (WC d a u) [some (.ref (a 0)), some (.int v1), some (.int v2), none] [] := by
  unfold f_X0_moveTo_b41
  refine V_aload_n C 0 dX0_moveTo_41 rfl rfl ?_
  refine V_get (v := .ref (a 4)) C fx0 0 3 kf_X0_21 (by decide) rfl rfl dX0_moveTo_42 ?_
  refine V_iload_n C 1 dX0_moveTo_45 rfl rfl ?_
  refine V_iload_n C 2 dX0_moveTo_46 rfl rfl ?_
  refine V_iast (ws' := WC d a (u.1, u.2.1, u.2.2.1, (upd u.2.2.2.1 v1.toNatClampNeg v2), u.2.2.2.2.1, u.2.2.2.2.2.1, u.2.2.2.2.2.2)) C 4 rfl rfl dX0_moveTo_47 ?_
  refine V_iload_n C 2 dX0_moveTo_48 rfl rfl ?_
  refine V_if_lt (tgt := 68) C dX0_moveTo_49 (by decide) ?_ ?_
  · exact V_vretW (Wd := fun w => WC d a w) C hr hlk dX0_moveTo_68 rfl
  · refine V_iload_n C 2 dX0_moveTo_52 rfl rfl ?_
    refine V_aload_n C 0 dX0_moveTo_53 rfl rfl ?_
    refine V_get (v := .ref (a 5)) C fx0 0 4 kf_X0_24 (by decide) rfl rfl dX0_moveTo_54 ?_
    refine V_alenI (v := 37) C 5 rfl (by decide) dX0_moveTo_57 ?_
    refine V_icmp_ge (tgt := 68) C dX0_moveTo_58 (by decide) ?_ ?_
    · exact V_vretW (Wd := fun w => WC d a w) C hr hlk dX0_moveTo_68 rfl
    · refine V_aload_n C 0 dX0_moveTo_61 rfl rfl ?_
      refine V_get (v := .ref (a 5)) C fx0 0 4 kf_X0_24 (by decide) rfl rfl dX0_moveTo_62 ?_
      refine V_iload_n C 2 dX0_moveTo_65 rfl rfl ?_
      refine V_iload_n C 1 dX0_moveTo_66 rfl rfl ?_
      refine V_iast (ws' := WC d a (u.1, u.2.1, u.2.2.1, (upd u.2.2.2.1 v1.toNatClampNeg v2), (upd u.2.2.2.2.1 v2.toNatClampNeg v1), u.2.2.2.2.2.1, u.2.2.2.2.2.2)) C 5 rfl rfl dX0_moveTo_67 ?_
      exact V_vretW (Wd := fun w => WC d a w) C hr hlk dX0_moveTo_68 rfl
set_option maxRecDepth 20000 in
theorem v_X0_moveTo {x : Am} {d : Dt} {A : Nat → Prop} {a : Nat → Nat} (C : Cx x cX0_moveTo 4 yX0_moveTo.cls d (Imu d A x.s.heap)) (hr : x.meth.sig.returnType = none) (hlk : x.meth.locks = false) (z : UC) (u : UC) (p1 : Int32) (p2 : Int32) : V x (rmF 0 0) 0 0 (MQ x.below (QW d A (WC d a z) none) x.args x.s 0 0 A) 4 (Imu d A x.s.heap) (f_X0_moveTo u p1 p2 = some z) 0 (WC d a u) [some (.ref (a 0)), some (.int p1), some (.int p2), none] [] := by
  unfold f_X0_moveTo
  refine V_iload_n C 1 dX0_moveTo_0 rfl rfl ?_
  refine V_if_lt (tgt := 13) C dX0_moveTo_1 (by decide) ?_ ?_
  · exact V_vretW (Wd := fun w => WC d a w) C hr hlk dX0_moveTo_13 rfl
  · refine V_iload_n C 1 dX0_moveTo_4 rfl rfl ?_
    refine V_aload_n C 0 dX0_moveTo_5 rfl rfl ?_
    refine V_get (v := .ref (a 4)) C fx0 0 3 kf_X0_21 (by decide) rfl rfl dX0_moveTo_6 ?_
    refine V_alenI (v := 30) C 4 rfl (by decide) dX0_moveTo_9 ?_
    refine V_icmp_lt (tgt := 14) C dX0_moveTo_10 (by decide) ?_ ?_
    · refine V_aload_n C 0 dX0_moveTo_14 rfl rfl ?_
      refine V_get (v := .ref (a 4)) C fx0 0 3 kf_X0_21 (by decide) rfl rfl dX0_moveTo_15 ?_
      refine V_iload_n C 1 dX0_moveTo_18 rfl rfl ?_
      refine V_iald C 4 rfl dX0_moveTo_19 ?_
      refine V_istore_n (lv' := [some (.ref (a 0)), some (.int p1), some (.int p2), some (.int (u.2.2.2.1 p1.toNatClampNeg))]) C 3 dX0_moveTo_20 rfl (by decide) rfl ?_
      refine V_iload_n C 3 dX0_moveTo_21 rfl rfl ?_
      refine V_if_lt (tgt := 41) C dX0_moveTo_22 (by decide) ?_ ?_
      · refine V_mask (lv' := [some (.ref (a 0)), some (.int p1), some (.int p2), none]) [true, true, true, false] rfl ?_
        exact v_X0_moveTo_b41 C hr hlk z u p1 p2
      · refine V_iload_n C 3 dX0_moveTo_25 rfl rfl ?_
        refine V_aload_n C 0 dX0_moveTo_26 rfl rfl ?_
        refine V_get (v := .ref (a 5)) C fx0 0 4 kf_X0_24 (by decide) rfl rfl dX0_moveTo_27 ?_
        refine V_alenI (v := 37) C 5 rfl (by decide) dX0_moveTo_30 ?_
        refine V_icmp_ge (tgt := 41) C dX0_moveTo_31 (by decide) ?_ ?_
        · refine V_mask (lv' := [some (.ref (a 0)), some (.int p1), some (.int p2), none]) [true, true, true, false] rfl ?_
          exact v_X0_moveTo_b41 C hr hlk z u p1 p2
        · refine V_aload_n C 0 dX0_moveTo_34 rfl rfl ?_
          refine V_get (v := .ref (a 5)) C fx0 0 4 kf_X0_24 (by decide) rfl rfl dX0_moveTo_35 ?_
          refine V_iload_n C 3 dX0_moveTo_38 rfl rfl ?_
          refine V_iconst (v := (-1)) C dX0_moveTo_39 (by decide) ?_
          refine V_iast (ws' := WC d a (u.1, u.2.1, u.2.2.1, u.2.2.2.1, (upd u.2.2.2.2.1 (u.2.2.2.1 p1.toNatClampNeg).toNatClampNeg (-1)), u.2.2.2.2.2.1, u.2.2.2.2.2.2)) C 5 rfl rfl dX0_moveTo_40 ?_
          refine V_mask (lv' := [some (.ref (a 0)), some (.int p1), some (.int p2), none]) [true, true, true, false] rfl ?_
          exact v_X0_moveTo_b41 C hr hlk z (u.1, u.2.1, u.2.2.1, u.2.2.2.1, (upd u.2.2.2.2.1 (u.2.2.2.1 p1.toNatClampNeg).toNatClampNeg (-1)), u.2.2.2.2.2.1, u.2.2.2.2.2.2) p1 p2
    · exact V_vretW (Wd := fun w => WC d a w) C hr hlk dX0_moveTo_13 rfl
set_option maxRecDepth 20000 in
theorem ct_X0_moveTo (l : Launch) (d : Dt) (a : Nat → Nat) (u : UC) (p1 : Int32) (p2 : Int32) (z : UC) (h : f_X0_moveTo u p1 p2 = some z) : CtW l d yX0_moveTo cX0_moveTo 4 none (rmF 0 0) [.ref (a 0), .int p1, .int p2] (WC d a u) (WC d a z) none :=
  CtW.start (by decide) (Nat.le_of_ble_eq_true rfl) (by simp [Value.category]) [some (.ref (a 0)), some (.int p1), some (.int p2), none] rfl (fun x A C hr hlk => V_eqv (fun _ => h) (v_X0_moveTo C hr hlk z u p1 p2))

/-! MastRobots$Cartridges.add -/
def f_X0_add (u : UC) (p1 : Int32) (p2 : Int32) : Option (Int32 × UC) :=
  (if u.2.2.2.2.2.2 < 0 then some ((-1000003), u) else (if u.2.2.2.2.2.2 < 30 then (if inb u.2.2.2.2.2.2 30 = true then (if inb u.2.2.2.2.2.2 30 = true then (if inb u.2.2.2.2.2.2 30 = true then (if inb u.2.2.2.2.2.2 30 = true then ((f_X0_moveTo ((upd u.1 u.2.2.2.2.2.2.toNatClampNeg p1), (upd u.2.1 u.2.2.2.2.2.2.toNatClampNeg 0), (upd u.2.2.1 u.2.2.2.2.2.2.toNatClampNeg 0), (upd u.2.2.2.1 u.2.2.2.2.2.2.toNatClampNeg (-1)), u.2.2.2.2.1, u.2.2.2.2.2.1, (u.2.2.2.2.2.2 + 1)) u.2.2.2.2.2.2 p2).bind fun r59 => some (u.2.2.2.2.2.2, r59)) else none) else none) else none) else none) else some ((-1000003), u)))
set_option maxRecDepth 20000 in
theorem v_X0_add {x : Am} {d : Dt} {A : Nat → Prop} {a : Nat → Nat} (C : Cx x cX0_add 4 yX0_add.cls d (Imu d A x.s.heap)) (hr : x.meth.sig.returnType = (some .int)) (hlk : x.meth.locks = false) (z : Int32 × UC) (u : UC) (p1 : Int32) (p2 : Int32) : V x (rmF 1 23) 0 0 (MQ x.below (QW d A (WC d a z.2) (some (.int z.1))) x.args x.s 0 0 A) 4 (Imu d A x.s.heap) (f_X0_add u p1 p2 = some z) 0 (WC d a u) [some (.ref (a 0)), some (.int p1), some (.int p2), none] [] := by
  unfold f_X0_add
  refine V_aload_n C 0 dX0_add_0 rfl rfl ?_
  refine V_get (v := .int u.2.2.2.2.2.2) C fx0 0 6 kf_X0_42 (by decide) rfl rfl dX0_add_1 ?_
  refine V_istore_n (lv' := [some (.ref (a 0)), some (.int p1), some (.int p2), some (.int u.2.2.2.2.2.2)]) C 3 dX0_add_4 rfl (by decide) rfl ?_
  refine V_iload_n C 3 dX0_add_5 rfl rfl ?_
  refine V_if_lt (tgt := 15) C dX0_add_6 (by decide) ?_ ?_
  · refine V_ldc C kc_X0_50 dX0_add_15 ?_
    exact V_iretW (Wd := fun w => WC d a w) C hr hlk dX0_add_17 rfl
  · refine V_iload_n C 3 dX0_add_9 rfl rfl ?_
    refine V_bipush (v := 30) C dX0_add_10 (by decide) ?_
    refine V_icmp_lt (tgt := 18) C dX0_add_12 (by decide) ?_ ?_
    · refine V_aload_n C 0 dX0_add_18 rfl rfl ?_
      refine V_dup C dX0_add_19 rfl ?_
      refine V_get (v := .int u.2.2.2.2.2.2) C fx0 0 6 kf_X0_42 (by decide) rfl rfl dX0_add_20 ?_
      refine V_iconst (v := 1) C dX0_add_23 (by decide) ?_
      refine V_iadd C dX0_add_24 ?_
      refine V_putI (ws' := WC d a (u.1, u.2.1, u.2.2.1, u.2.2.2.1, u.2.2.2.2.1, u.2.2.2.2.2.1, (u.2.2.2.2.2.2 + 1))) C fx0 0 6 kf_X0_42 (by decide) rfl rfl rfl (Nat.le_of_ble_eq_true rfl) rfl dX0_add_25 ?_
      refine V_aload_n C 0 dX0_add_28 rfl rfl ?_
      refine V_get (v := .ref (a 1)) C fx0 0 0 kf_X0_9 (by decide) rfl rfl dX0_add_29 ?_
      refine V_iload_n C 3 dX0_add_32 rfl rfl ?_
      refine V_iload_n C 1 dX0_add_33 rfl rfl ?_
      refine V_iast (ws' := WC d a ((upd u.1 u.2.2.2.2.2.2.toNatClampNeg p1), u.2.1, u.2.2.1, u.2.2.2.1, u.2.2.2.2.1, u.2.2.2.2.2.1, (u.2.2.2.2.2.2 + 1))) C 1 rfl rfl dX0_add_34 ?_
      refine V_aload_n C 0 dX0_add_35 rfl rfl ?_
      refine V_get (v := .ref (a 2)) C fx0 0 1 kf_X0_15 (by decide) rfl rfl dX0_add_36 ?_
      refine V_iload_n C 3 dX0_add_39 rfl rfl ?_
      refine V_iconst (v := 0) C dX0_add_40 (by decide) ?_
      refine V_iast (ws' := WC d a ((upd u.1 u.2.2.2.2.2.2.toNatClampNeg p1), (upd u.2.1 u.2.2.2.2.2.2.toNatClampNeg 0), u.2.2.1, u.2.2.2.1, u.2.2.2.2.1, u.2.2.2.2.2.1, (u.2.2.2.2.2.2 + 1))) C 2 rfl rfl dX0_add_41 ?_
      refine V_aload_n C 0 dX0_add_42 rfl rfl ?_
      refine V_get (v := .ref (a 3)) C fx0 0 2 kf_X0_18 (by decide) rfl rfl dX0_add_43 ?_
      refine V_iload_n C 3 dX0_add_46 rfl rfl ?_
      refine V_iconst (v := 0) C dX0_add_47 (by decide) ?_
      refine V_iast (ws' := WC d a ((upd u.1 u.2.2.2.2.2.2.toNatClampNeg p1), (upd u.2.1 u.2.2.2.2.2.2.toNatClampNeg 0), (upd u.2.2.1 u.2.2.2.2.2.2.toNatClampNeg 0), u.2.2.2.1, u.2.2.2.2.1, u.2.2.2.2.2.1, (u.2.2.2.2.2.2 + 1))) C 3 rfl rfl dX0_add_48 ?_
      refine V_aload_n C 0 dX0_add_49 rfl rfl ?_
      refine V_get (v := .ref (a 4)) C fx0 0 3 kf_X0_21 (by decide) rfl rfl dX0_add_50 ?_
      refine V_iload_n C 3 dX0_add_53 rfl rfl ?_
      refine V_iconst (v := (-1)) C dX0_add_54 (by decide) ?_
      refine V_iast (ws' := WC d a ((upd u.1 u.2.2.2.2.2.2.toNatClampNeg p1), (upd u.2.1 u.2.2.2.2.2.2.toNatClampNeg 0), (upd u.2.2.1 u.2.2.2.2.2.2.toNatClampNeg 0), (upd u.2.2.2.1 u.2.2.2.2.2.2.toNatClampNeg (-1)), u.2.2.2.2.1, u.2.2.2.2.2.1, (u.2.2.2.2.2.2 + 1))) C 4 rfl rfl dX0_add_55 ?_
      refine V_aload_n C 0 dX0_add_56 rfl rfl ?_
      refine V_iload_n C 3 dX0_add_57 rfl rfl ?_
      refine V_iload_n C 2 dX0_add_58 rfl rfl ?_
      refine V_callWv (As := [.int u.2.2.2.2.2.2, .int p2]) (rest := []) (wc := WC d a ((upd u.1 u.2.2.2.2.2.2.toNatClampNeg p1), (upd u.2.1 u.2.2.2.2.2.2.toNatClampNeg 0), (upd u.2.2.1 u.2.2.2.2.2.2.toNatClampNeg 0), (upd u.2.2.2.1 u.2.2.2.2.2.2.toNatClampNeg (-1)), u.2.2.2.2.1, u.2.2.2.2.2.1, (u.2.2.2.2.2.2 + 1))) (Wd := fun w => WC d a w) C (fun r h => ct_X0_moveTo _ d a ((upd u.1 u.2.2.2.2.2.2.toNatClampNeg p1), (upd u.2.1 u.2.2.2.2.2.2.toNatClampNeg 0), (upd u.2.2.1 u.2.2.2.2.2.2.toNatClampNeg 0), (upd u.2.2.2.1 u.2.2.2.2.2.2.toNatClampNeg (-1)), u.2.2.2.2.1, u.2.2.2.2.2.1, (u.2.2.2.2.2.2 + 1)) u.2.2.2.2.2.2 p2 r h) kv_X0_moveTo kl_X0_51 [0, 1, 2, 3, 4, 5, 6] (fun w => WC d a w) dX0_add_59 rfl rfl (fun _ => rfl) (fun _ => rfl) rfl rfl rfl (Nat.le_of_ble_eq_true rfl) ⟨(Nat.le_of_ble_eq_true rfl), (Nat.le_of_ble_eq_true rfl)⟩ rfl rfl ⟨Nat.le_refl _, Nat.le_refl _⟩ rfl (fun r59 hr59 => ?_)
      refine V_iload_n C 3 dX0_add_62 rfl rfl ?_
      exact V_iretW (Wd := fun w => WC d a w) C hr hlk dX0_add_63 rfl
    · refine V_ldc C kc_X0_50 dX0_add_15 ?_
      exact V_iretW (Wd := fun w => WC d a w) C hr hlk dX0_add_17 rfl
set_option maxRecDepth 20000 in
theorem ct_X0_add (l : Launch) (d : Dt) (a : Nat → Nat) (u : UC) (p1 : Int32) (p2 : Int32) (z : Int32 × UC) (h : f_X0_add u p1 p2 = some z) : CtW l d yX0_add cX0_add 4 (some .int) (rmF 1 23) [.ref (a 0), .int p1, .int p2] (WC d a u) (WC d a z.2) (some (.int z.1)) :=
  CtW.start (by decide) (Nat.le_of_ble_eq_true rfl) (by simp [Value.category]) [some (.ref (a 0)), some (.int p1), some (.int p2), none] rfl (fun x A C hr hlk => V_eqv (fun _ => h) (v_X0_add C hr hlk z u p1 p2))

/-! MastRobots$Cartridges.countMounting -/
def f_X0_countMounting (u : UC) (p1 : Int32) (p2 : Int32) : Option (UC) :=
  (if p1 < 0 then some u else (if 30 ≤ p1 then some u else (if 30 ≤ p1 then some u else (if inb p1 30 = true then (if inb p1 30 = true then (if inb p1 30 = true then (if inb p1 30 = true then some (u.1, (upd u.2.1 p1.toNatClampNeg ((u.2.1 p1.toNatClampNeg) + 1)), (upd u.2.2.1 p1.toNatClampNeg ((u.2.2.1 p1.toNatClampNeg) + p2)), u.2.2.2.1, u.2.2.2.2.1, u.2.2.2.2.2.1, u.2.2.2.2.2.2) else none) else none) else none) else none))))
set_option maxRecDepth 20000 in
theorem v_X0_countMounting {x : Am} {d : Dt} {A : Nat → Prop} {a : Nat → Nat} (C : Cx x cX0_countMounting 3 yX0_countMounting.cls d (Imu d A x.s.heap)) (hr : x.meth.sig.returnType = none) (hlk : x.meth.locks = false) (z : UC) (u : UC) (p1 : Int32) (p2 : Int32) : V x (rmF 0 0) 0 0 (MQ x.below (QW d A (WC d a z) none) x.args x.s 0 0 A) 3 (Imu d A x.s.heap) (f_X0_countMounting u p1 p2 = some z) 0 (WC d a u) [some (.ref (a 0)), some (.int p1), some (.int p2)] [] := by
  unfold f_X0_countMounting
  refine V_iload_n C 1 dX0_countMounting_0 rfl rfl ?_
  refine V_if_lt (tgt := 42) C dX0_countMounting_1 (by decide) ?_ ?_
  · exact V_vretW (Wd := fun w => WC d a w) C hr hlk dX0_countMounting_42 rfl
  · refine V_iload_n C 1 dX0_countMounting_4 rfl rfl ?_
    refine V_aload_n C 0 dX0_countMounting_5 rfl rfl ?_
    refine V_get (v := .ref (a 2)) C fx0 0 1 kf_X0_15 (by decide) rfl rfl dX0_countMounting_6 ?_
    refine V_alenI (v := 30) C 2 rfl (by decide) dX0_countMounting_9 ?_
    refine V_icmp_ge (tgt := 42) C dX0_countMounting_10 (by decide) ?_ ?_
    · exact V_vretW (Wd := fun w => WC d a w) C hr hlk dX0_countMounting_42 rfl
    · refine V_iload_n C 1 dX0_countMounting_13 rfl rfl ?_
      refine V_aload_n C 0 dX0_countMounting_14 rfl rfl ?_
      refine V_get (v := .ref (a 3)) C fx0 0 2 kf_X0_18 (by decide) rfl rfl dX0_countMounting_15 ?_
      refine V_alenI (v := 30) C 3 rfl (by decide) dX0_countMounting_18 ?_
      refine V_icmp_ge (tgt := 42) C dX0_countMounting_19 (by decide) ?_ ?_
      · exact V_vretW (Wd := fun w => WC d a w) C hr hlk dX0_countMounting_42 rfl
      · refine V_aload_n C 0 dX0_countMounting_22 rfl rfl ?_
        refine V_get (v := .ref (a 2)) C fx0 0 1 kf_X0_15 (by decide) rfl rfl dX0_countMounting_23 ?_
        refine V_iload_n C 1 dX0_countMounting_26 rfl rfl ?_
        refine V_dup2 C dX0_countMounting_27 rfl rfl ?_
        refine V_iald C 2 rfl dX0_countMounting_28 ?_
        refine V_iconst (v := 1) C dX0_countMounting_29 (by decide) ?_
        refine V_iadd C dX0_countMounting_30 ?_
        refine V_iast (ws' := WC d a (u.1, (upd u.2.1 p1.toNatClampNeg ((u.2.1 p1.toNatClampNeg) + 1)), u.2.2.1, u.2.2.2.1, u.2.2.2.2.1, u.2.2.2.2.2.1, u.2.2.2.2.2.2)) C 2 rfl rfl dX0_countMounting_31 ?_
        refine V_aload_n C 0 dX0_countMounting_32 rfl rfl ?_
        refine V_get (v := .ref (a 3)) C fx0 0 2 kf_X0_18 (by decide) rfl rfl dX0_countMounting_33 ?_
        refine V_iload_n C 1 dX0_countMounting_36 rfl rfl ?_
        refine V_dup2 C dX0_countMounting_37 rfl rfl ?_
        refine V_iald C 3 rfl dX0_countMounting_38 ?_
        refine V_iload_n C 2 dX0_countMounting_39 rfl rfl ?_
        refine V_iadd C dX0_countMounting_40 ?_
        refine V_iast (ws' := WC d a (u.1, (upd u.2.1 p1.toNatClampNeg ((u.2.1 p1.toNatClampNeg) + 1)), (upd u.2.2.1 p1.toNatClampNeg ((u.2.2.1 p1.toNatClampNeg) + p2)), u.2.2.2.1, u.2.2.2.2.1, u.2.2.2.2.2.1, u.2.2.2.2.2.2)) C 3 rfl rfl dX0_countMounting_41 ?_
        exact V_vretW (Wd := fun w => WC d a w) C hr hlk dX0_countMounting_42 rfl
set_option maxRecDepth 20000 in
theorem ct_X0_countMounting (l : Launch) (d : Dt) (a : Nat → Nat) (u : UC) (p1 : Int32) (p2 : Int32) (z : UC) (h : f_X0_countMounting u p1 p2 = some z) : CtW l d yX0_countMounting cX0_countMounting 3 none (rmF 0 0) [.ref (a 0), .int p1, .int p2] (WC d a u) (WC d a z) none :=
  CtW.start (by decide) (Nat.le_of_ble_eq_true rfl) (by simp [Value.category]) [some (.ref (a 0)), some (.int p1), some (.int p2)] rfl (fun x A C hr hlk => V_eqv (fun _ => h) (v_X0_countMounting C hr hlk z u p1 p2))

/-! MastRobots$Cartridges.putFile -/
def f_X0_putFile (u : UC) (p1 : Int32) (p2 : Int32) : Option (UC) :=
  (if p2 < 0 then some u else (if 60 ≤ p2 then some u else (if inb p2 60 = true then some (u.1, u.2.1, u.2.2.1, u.2.2.2.1, u.2.2.2.2.1, (upd u.2.2.2.2.2.1 p2.toNatClampNeg p1), u.2.2.2.2.2.2) else none)))
set_option maxRecDepth 20000 in
theorem v_X0_putFile {x : Am} {d : Dt} {A : Nat → Prop} {a : Nat → Nat} (C : Cx x cX0_putFile 3 yX0_putFile.cls d (Imu d A x.s.heap)) (hr : x.meth.sig.returnType = none) (hlk : x.meth.locks = false) (z : UC) (u : UC) (p1 : Int32) (p2 : Int32) : V x (rmF 0 0) 0 0 (MQ x.below (QW d A (WC d a z) none) x.args x.s 0 0 A) 3 (Imu d A x.s.heap) (f_X0_putFile u p1 p2 = some z) 0 (WC d a u) [some (.ref (a 0)), some (.int p1), some (.int p2)] [] := by
  unfold f_X0_putFile
  refine V_iload_n C 2 dX0_putFile_0 rfl rfl ?_
  refine V_if_lt (tgt := 20) C dX0_putFile_1 (by decide) ?_ ?_
  · exact V_vretW (Wd := fun w => WC d a w) C hr hlk dX0_putFile_20 rfl
  · refine V_iload_n C 2 dX0_putFile_4 rfl rfl ?_
    refine V_aload_n C 0 dX0_putFile_5 rfl rfl ?_
    refine V_get (v := .ref (a 6)) C fx0 0 5 kf_X0_27 (by decide) rfl rfl dX0_putFile_6 ?_
    refine V_alenI (v := 60) C 6 rfl (by decide) dX0_putFile_9 ?_
    refine V_icmp_ge (tgt := 20) C dX0_putFile_10 (by decide) ?_ ?_
    · exact V_vretW (Wd := fun w => WC d a w) C hr hlk dX0_putFile_20 rfl
    · refine V_aload_n C 0 dX0_putFile_13 rfl rfl ?_
      refine V_get (v := .ref (a 6)) C fx0 0 5 kf_X0_27 (by decide) rfl rfl dX0_putFile_14 ?_
      refine V_iload_n C 2 dX0_putFile_17 rfl rfl ?_
      refine V_iload_n C 1 dX0_putFile_18 rfl rfl ?_
      refine V_iast (ws' := WC d a (u.1, u.2.1, u.2.2.1, u.2.2.2.1, u.2.2.2.2.1, (upd u.2.2.2.2.2.1 p2.toNatClampNeg p1), u.2.2.2.2.2.2)) C 6 rfl rfl dX0_putFile_19 ?_
      exact V_vretW (Wd := fun w => WC d a w) C hr hlk dX0_putFile_20 rfl
set_option maxRecDepth 20000 in
theorem ct_X0_putFile (l : Launch) (d : Dt) (a : Nat → Nat) (u : UC) (p1 : Int32) (p2 : Int32) (z : UC) (h : f_X0_putFile u p1 p2 = some z) : CtW l d yX0_putFile cX0_putFile 3 none (rmF 0 0) [.ref (a 0), .int p1, .int p2] (WC d a u) (WC d a z) none :=
  CtW.start (by decide) (Nat.le_of_ble_eq_true rfl) (by simp [Value.category]) [some (.ref (a 0)), some (.int p1), some (.int p2)] rfl (fun x A C hr hlk => V_eqv (fun _ => h) (v_X0_putFile C hr hlk z u p1 p2))

/-! MastRobots$Cartridges.weightOf -/
def f_X0_weightOf (u : UC) (p1 : Int32) : Option (Int32) :=
  (if p1 < 0 then some 0 else (if 30 ≤ p1 then some 0 else (if inb p1 30 = true then some (u.1 p1.toNatClampNeg) else none)))
set_option maxRecDepth 20000 in
theorem v_X0_weightOf {x : Am} {d : Dt} {a : Nat → Nat} (C : Cx x cX0_weightOf 2 yX0_weightOf.cls d (Iro d x.s.heap)) (hr : x.meth.sig.returnType = (some .int)) (hlk : x.meth.locks = false) (z : Int32) (u : UC) (p1 : Int32) : V x (rmF 0 0) 0 0 (MQ x.below (QR (some (.int z))) x.args x.s 0 0 (fun _ => False)) 2 (Iro d x.s.heap) (f_X0_weightOf u p1 = some z) 0 (WC d a u) [some (.ref (a 0)), some (.int p1)] [] := by
  unfold f_X0_weightOf
  refine V_iload_n C 1 dX0_weightOf_0 rfl rfl ?_
  refine V_if_lt (tgt := 22) C dX0_weightOf_1 (by decide) ?_ ?_
  · refine V_iconst (v := 0) C dX0_weightOf_22 (by decide) ?_
    exact V_iretR C hr hlk dX0_weightOf_23
  · refine V_iload_n C 1 dX0_weightOf_4 rfl rfl ?_
    refine V_aload_n C 0 dX0_weightOf_5 rfl rfl ?_
    refine V_get (v := .ref (a 1)) C fx0 0 0 kf_X0_9 (by decide) rfl rfl dX0_weightOf_6 ?_
    refine V_alenI (v := 30) C 1 rfl (by decide) dX0_weightOf_9 ?_
    refine V_icmp_ge (tgt := 22) C dX0_weightOf_10 (by decide) ?_ ?_
    · refine V_iconst (v := 0) C dX0_weightOf_22 (by decide) ?_
      exact V_iretR C hr hlk dX0_weightOf_23
    · refine V_aload_n C 0 dX0_weightOf_13 rfl rfl ?_
      refine V_get (v := .ref (a 1)) C fx0 0 0 kf_X0_9 (by decide) rfl rfl dX0_weightOf_14 ?_
      refine V_iload_n C 1 dX0_weightOf_17 rfl rfl ?_
      refine V_iald C 1 rfl dX0_weightOf_18 ?_
      refine V_goto (tgt := 23) C dX0_weightOf_19 (by decide) ?_
      exact V_iretR C hr hlk dX0_weightOf_23
set_option maxRecDepth 20000 in
theorem ct_X0_weightOf (l : Launch) (d : Dt) (a : Nat → Nat) (u : UC) (p1 : Int32) (z : Int32) (h : f_X0_weightOf u p1 = some z) : CtR l d yX0_weightOf cX0_weightOf 2 (some .int) (rmF 0 0) [.ref (a 0), .int p1] (WC d a u) (some (.int z)) :=
  CtR.start (by decide) (Nat.le_of_ble_eq_true rfl) (by simp [Value.category]) [some (.ref (a 0)), some (.int p1)] rfl (fun x C hr hlk => V_eqv (fun _ => h) (v_X0_weightOf C hr hlk z u p1))

/-! MastRobots$Cartridges.wearOf -/
def f_X0_wearOf (u : UC) (p1 : Int32) : Option (Int32) :=
  (if p1 < 0 then some 0 else (if 30 ≤ p1 then some 0 else (if inb p1 30 = true then some (u.2.1 p1.toNatClampNeg) else none)))
set_option maxRecDepth 20000 in
theorem v_X0_wearOf {x : Am} {d : Dt} {a : Nat → Nat} (C : Cx x cX0_wearOf 2 yX0_wearOf.cls d (Iro d x.s.heap)) (hr : x.meth.sig.returnType = (some .int)) (hlk : x.meth.locks = false) (z : Int32) (u : UC) (p1 : Int32) : V x (rmF 0 0) 0 0 (MQ x.below (QR (some (.int z))) x.args x.s 0 0 (fun _ => False)) 2 (Iro d x.s.heap) (f_X0_wearOf u p1 = some z) 0 (WC d a u) [some (.ref (a 0)), some (.int p1)] [] := by
  unfold f_X0_wearOf
  refine V_iload_n C 1 dX0_wearOf_0 rfl rfl ?_
  refine V_if_lt (tgt := 22) C dX0_wearOf_1 (by decide) ?_ ?_
  · refine V_iconst (v := 0) C dX0_wearOf_22 (by decide) ?_
    exact V_iretR C hr hlk dX0_wearOf_23
  · refine V_iload_n C 1 dX0_wearOf_4 rfl rfl ?_
    refine V_aload_n C 0 dX0_wearOf_5 rfl rfl ?_
    refine V_get (v := .ref (a 2)) C fx0 0 1 kf_X0_15 (by decide) rfl rfl dX0_wearOf_6 ?_
    refine V_alenI (v := 30) C 2 rfl (by decide) dX0_wearOf_9 ?_
    refine V_icmp_ge (tgt := 22) C dX0_wearOf_10 (by decide) ?_ ?_
    · refine V_iconst (v := 0) C dX0_wearOf_22 (by decide) ?_
      exact V_iretR C hr hlk dX0_wearOf_23
    · refine V_aload_n C 0 dX0_wearOf_13 rfl rfl ?_
      refine V_get (v := .ref (a 2)) C fx0 0 1 kf_X0_15 (by decide) rfl rfl dX0_wearOf_14 ?_
      refine V_iload_n C 1 dX0_wearOf_17 rfl rfl ?_
      refine V_iald C 2 rfl dX0_wearOf_18 ?_
      refine V_goto (tgt := 23) C dX0_wearOf_19 (by decide) ?_
      exact V_iretR C hr hlk dX0_wearOf_23
set_option maxRecDepth 20000 in
theorem ct_X0_wearOf (l : Launch) (d : Dt) (a : Nat → Nat) (u : UC) (p1 : Int32) (z : Int32) (h : f_X0_wearOf u p1 = some z) : CtR l d yX0_wearOf cX0_wearOf 2 (some .int) (rmF 0 0) [.ref (a 0), .int p1] (WC d a u) (some (.int z)) :=
  CtR.start (by decide) (Nat.le_of_ble_eq_true rfl) (by simp [Value.category]) [some (.ref (a 0)), some (.int p1)] rfl (fun x C hr hlk => V_eqv (fun _ => h) (v_X0_wearOf C hr hlk z u p1))

/-! MastRobots$Cartridges.servedBy -/
def f_X0_servedBy (u : UC) (p1 : Int32) : Option (Int32) :=
  (if p1 < 0 then some 0 else (if 30 ≤ p1 then some 0 else (if inb p1 30 = true then some (u.2.2.1 p1.toNatClampNeg) else none)))
set_option maxRecDepth 20000 in
theorem v_X0_servedBy {x : Am} {d : Dt} {a : Nat → Nat} (C : Cx x cX0_servedBy 2 yX0_servedBy.cls d (Iro d x.s.heap)) (hr : x.meth.sig.returnType = (some .int)) (hlk : x.meth.locks = false) (z : Int32) (u : UC) (p1 : Int32) : V x (rmF 0 0) 0 0 (MQ x.below (QR (some (.int z))) x.args x.s 0 0 (fun _ => False)) 2 (Iro d x.s.heap) (f_X0_servedBy u p1 = some z) 0 (WC d a u) [some (.ref (a 0)), some (.int p1)] [] := by
  unfold f_X0_servedBy
  refine V_iload_n C 1 dX0_servedBy_0 rfl rfl ?_
  refine V_if_lt (tgt := 22) C dX0_servedBy_1 (by decide) ?_ ?_
  · refine V_iconst (v := 0) C dX0_servedBy_22 (by decide) ?_
    exact V_iretR C hr hlk dX0_servedBy_23
  · refine V_iload_n C 1 dX0_servedBy_4 rfl rfl ?_
    refine V_aload_n C 0 dX0_servedBy_5 rfl rfl ?_
    refine V_get (v := .ref (a 3)) C fx0 0 2 kf_X0_18 (by decide) rfl rfl dX0_servedBy_6 ?_
    refine V_alenI (v := 30) C 3 rfl (by decide) dX0_servedBy_9 ?_
    refine V_icmp_ge (tgt := 22) C dX0_servedBy_10 (by decide) ?_ ?_
    · refine V_iconst (v := 0) C dX0_servedBy_22 (by decide) ?_
      exact V_iretR C hr hlk dX0_servedBy_23
    · refine V_aload_n C 0 dX0_servedBy_13 rfl rfl ?_
      refine V_get (v := .ref (a 3)) C fx0 0 2 kf_X0_18 (by decide) rfl rfl dX0_servedBy_14 ?_
      refine V_iload_n C 1 dX0_servedBy_17 rfl rfl ?_
      refine V_iald C 3 rfl dX0_servedBy_18 ?_
      refine V_goto (tgt := 23) C dX0_servedBy_19 (by decide) ?_
      exact V_iretR C hr hlk dX0_servedBy_23
set_option maxRecDepth 20000 in
theorem ct_X0_servedBy (l : Launch) (d : Dt) (a : Nat → Nat) (u : UC) (p1 : Int32) (z : Int32) (h : f_X0_servedBy u p1 = some z) : CtR l d yX0_servedBy cX0_servedBy 2 (some .int) (rmF 0 0) [.ref (a 0), .int p1] (WC d a u) (some (.int z)) :=
  CtR.start (by decide) (Nat.le_of_ble_eq_true rfl) (by simp [Value.category]) [some (.ref (a 0)), some (.int p1)] rfl (fun x C hr hlk => V_eqv (fun _ => h) (v_X0_servedBy C hr hlk z u p1))

/-! MastRobots$Cartridges.slotOf -/
def f_X0_slotOf (u : UC) (p1 : Int32) : Option (Int32) :=
  (if p1 < 0 then some (-1) else (if 30 ≤ p1 then some (-1) else (if inb p1 30 = true then some (u.2.2.2.1 p1.toNatClampNeg) else none)))
set_option maxRecDepth 20000 in
theorem v_X0_slotOf {x : Am} {d : Dt} {a : Nat → Nat} (C : Cx x cX0_slotOf 2 yX0_slotOf.cls d (Iro d x.s.heap)) (hr : x.meth.sig.returnType = (some .int)) (hlk : x.meth.locks = false) (z : Int32) (u : UC) (p1 : Int32) : V x (rmF 0 0) 0 0 (MQ x.below (QR (some (.int z))) x.args x.s 0 0 (fun _ => False)) 2 (Iro d x.s.heap) (f_X0_slotOf u p1 = some z) 0 (WC d a u) [some (.ref (a 0)), some (.int p1)] [] := by
  unfold f_X0_slotOf
  refine V_iload_n C 1 dX0_slotOf_0 rfl rfl ?_
  refine V_if_lt (tgt := 22) C dX0_slotOf_1 (by decide) ?_ ?_
  · refine V_iconst (v := (-1)) C dX0_slotOf_22 (by decide) ?_
    exact V_iretR C hr hlk dX0_slotOf_23
  · refine V_iload_n C 1 dX0_slotOf_4 rfl rfl ?_
    refine V_aload_n C 0 dX0_slotOf_5 rfl rfl ?_
    refine V_get (v := .ref (a 4)) C fx0 0 3 kf_X0_21 (by decide) rfl rfl dX0_slotOf_6 ?_
    refine V_alenI (v := 30) C 4 rfl (by decide) dX0_slotOf_9 ?_
    refine V_icmp_ge (tgt := 22) C dX0_slotOf_10 (by decide) ?_ ?_
    · refine V_iconst (v := (-1)) C dX0_slotOf_22 (by decide) ?_
      exact V_iretR C hr hlk dX0_slotOf_23
    · refine V_aload_n C 0 dX0_slotOf_13 rfl rfl ?_
      refine V_get (v := .ref (a 4)) C fx0 0 3 kf_X0_21 (by decide) rfl rfl dX0_slotOf_14 ?_
      refine V_iload_n C 1 dX0_slotOf_17 rfl rfl ?_
      refine V_iald C 4 rfl dX0_slotOf_18 ?_
      refine V_goto (tgt := 23) C dX0_slotOf_19 (by decide) ?_
      exact V_iretR C hr hlk dX0_slotOf_23
set_option maxRecDepth 20000 in
theorem ct_X0_slotOf (l : Launch) (d : Dt) (a : Nat → Nat) (u : UC) (p1 : Int32) (z : Int32) (h : f_X0_slotOf u p1 = some z) : CtR l d yX0_slotOf cX0_slotOf 2 (some .int) (rmF 0 0) [.ref (a 0), .int p1] (WC d a u) (some (.int z)) :=
  CtR.start (by decide) (Nat.le_of_ble_eq_true rfl) (by simp [Value.category]) [some (.ref (a 0)), some (.int p1)] rfl (fun x C hr hlk => V_eqv (fun _ => h) (v_X0_slotOf C hr hlk z u p1))

/-! MastRobots$Cartridges.inSlot -/
def f_X0_inSlot (u : UC) (p1 : Int32) : Option (Int32) :=
  (if p1 < 0 then some (-1) else (if 37 ≤ p1 then some (-1) else (if inb p1 37 = true then some (u.2.2.2.2.1 p1.toNatClampNeg) else none)))
set_option maxRecDepth 20000 in
theorem v_X0_inSlot {x : Am} {d : Dt} {a : Nat → Nat} (C : Cx x cX0_inSlot 2 yX0_inSlot.cls d (Iro d x.s.heap)) (hr : x.meth.sig.returnType = (some .int)) (hlk : x.meth.locks = false) (z : Int32) (u : UC) (p1 : Int32) : V x (rmF 0 0) 0 0 (MQ x.below (QR (some (.int z))) x.args x.s 0 0 (fun _ => False)) 2 (Iro d x.s.heap) (f_X0_inSlot u p1 = some z) 0 (WC d a u) [some (.ref (a 0)), some (.int p1)] [] := by
  unfold f_X0_inSlot
  refine V_iload_n C 1 dX0_inSlot_0 rfl rfl ?_
  refine V_if_lt (tgt := 22) C dX0_inSlot_1 (by decide) ?_ ?_
  · refine V_iconst (v := (-1)) C dX0_inSlot_22 (by decide) ?_
    exact V_iretR C hr hlk dX0_inSlot_23
  · refine V_iload_n C 1 dX0_inSlot_4 rfl rfl ?_
    refine V_aload_n C 0 dX0_inSlot_5 rfl rfl ?_
    refine V_get (v := .ref (a 5)) C fx0 0 4 kf_X0_24 (by decide) rfl rfl dX0_inSlot_6 ?_
    refine V_alenI (v := 37) C 5 rfl (by decide) dX0_inSlot_9 ?_
    refine V_icmp_ge (tgt := 22) C dX0_inSlot_10 (by decide) ?_ ?_
    · refine V_iconst (v := (-1)) C dX0_inSlot_22 (by decide) ?_
      exact V_iretR C hr hlk dX0_inSlot_23
    · refine V_aload_n C 0 dX0_inSlot_13 rfl rfl ?_
      refine V_get (v := .ref (a 5)) C fx0 0 4 kf_X0_24 (by decide) rfl rfl dX0_inSlot_14 ?_
      refine V_iload_n C 1 dX0_inSlot_17 rfl rfl ?_
      refine V_iald C 5 rfl dX0_inSlot_18 ?_
      refine V_goto (tgt := 23) C dX0_inSlot_19 (by decide) ?_
      exact V_iretR C hr hlk dX0_inSlot_23
set_option maxRecDepth 20000 in
theorem ct_X0_inSlot (l : Launch) (d : Dt) (a : Nat → Nat) (u : UC) (p1 : Int32) (z : Int32) (h : f_X0_inSlot u p1 = some z) : CtR l d yX0_inSlot cX0_inSlot 2 (some .int) (rmF 0 0) [.ref (a 0), .int p1] (WC d a u) (some (.int z)) :=
  CtR.start (by decide) (Nat.le_of_ble_eq_true rfl) (by simp [Value.category]) [some (.ref (a 0)), some (.int p1)] rfl (fun x C hr hlk => V_eqv (fun _ => h) (v_X0_inSlot C hr hlk z u p1))

/-! MastRobots$Cartridges.holderOf -/
def f_X0_holderOf (u : UC) (p1 : Int32) : Option (Int32) :=
  (if p1 < 0 then some (-1) else (if 60 ≤ p1 then some (-1) else (if inb p1 60 = true then some (u.2.2.2.2.2.1 p1.toNatClampNeg) else none)))
set_option maxRecDepth 20000 in
theorem v_X0_holderOf {x : Am} {d : Dt} {a : Nat → Nat} (C : Cx x cX0_holderOf 2 yX0_holderOf.cls d (Iro d x.s.heap)) (hr : x.meth.sig.returnType = (some .int)) (hlk : x.meth.locks = false) (z : Int32) (u : UC) (p1 : Int32) : V x (rmF 0 0) 0 0 (MQ x.below (QR (some (.int z))) x.args x.s 0 0 (fun _ => False)) 2 (Iro d x.s.heap) (f_X0_holderOf u p1 = some z) 0 (WC d a u) [some (.ref (a 0)), some (.int p1)] [] := by
  unfold f_X0_holderOf
  refine V_iload_n C 1 dX0_holderOf_0 rfl rfl ?_
  refine V_if_lt (tgt := 22) C dX0_holderOf_1 (by decide) ?_ ?_
  · refine V_iconst (v := (-1)) C dX0_holderOf_22 (by decide) ?_
    exact V_iretR C hr hlk dX0_holderOf_23
  · refine V_iload_n C 1 dX0_holderOf_4 rfl rfl ?_
    refine V_aload_n C 0 dX0_holderOf_5 rfl rfl ?_
    refine V_get (v := .ref (a 6)) C fx0 0 5 kf_X0_27 (by decide) rfl rfl dX0_holderOf_6 ?_
    refine V_alenI (v := 60) C 6 rfl (by decide) dX0_holderOf_9 ?_
    refine V_icmp_ge (tgt := 22) C dX0_holderOf_10 (by decide) ?_ ?_
    · refine V_iconst (v := (-1)) C dX0_holderOf_22 (by decide) ?_
      exact V_iretR C hr hlk dX0_holderOf_23
    · refine V_aload_n C 0 dX0_holderOf_13 rfl rfl ?_
      refine V_get (v := .ref (a 6)) C fx0 0 5 kf_X0_27 (by decide) rfl rfl dX0_holderOf_14 ?_
      refine V_iload_n C 1 dX0_holderOf_17 rfl rfl ?_
      refine V_iald C 6 rfl dX0_holderOf_18 ?_
      refine V_goto (tgt := 23) C dX0_holderOf_19 (by decide) ?_
      exact V_iretR C hr hlk dX0_holderOf_23
set_option maxRecDepth 20000 in
theorem ct_X0_holderOf (l : Launch) (d : Dt) (a : Nat → Nat) (u : UC) (p1 : Int32) (z : Int32) (h : f_X0_holderOf u p1 = some z) : CtR l d yX0_holderOf cX0_holderOf 2 (some .int) (rmF 0 0) [.ref (a 0), .int p1] (WC d a u) (some (.int z)) :=
  CtR.start (by decide) (Nat.le_of_ble_eq_true rfl) (by simp [Value.category]) [some (.ref (a 0)), some (.int p1)] rfl (fun x C hr hlk => V_eqv (fun _ => h) (v_X0_holderOf C hr hlk z u p1))

/-! MastRobots$Cartridges.isWorn -/
def f_X0_isWorn (u : UC) (p1 : Int32) : Option (Int32) :=
  ((f_X0_wearOf u p1).bind fun r2 => (if r2 < 6 then some 0 else some 1))
set_option maxRecDepth 20000 in
theorem v_X0_isWorn {x : Am} {d : Dt} {a : Nat → Nat} (C : Cx x cX0_isWorn 2 yX0_isWorn.cls d (Iro d x.s.heap)) (hr : x.meth.sig.returnType = (some .boolean)) (hlk : x.meth.locks = false) (z : Int32) (u : UC) (p1 : Int32) : V x (rmF 1 21) 0 0 (MQ x.below (QR (some (.int z))) x.args x.s 0 0 (fun _ => False)) 2 (Iro d x.s.heap) (f_X0_isWorn u p1 = some z) 0 (WC d a u) [some (.ref (a 0)), some (.int p1)] [] := by
  unfold f_X0_isWorn
  refine V_aload_n C 0 dX0_isWorn_0 rfl rfl ?_
  refine V_iload_n C 1 dX0_isWorn_1 rfl rfl ?_
  refine V_callRi (As := [.int p1]) (rest := []) (wc := WC d a u) C (fun r h => ct_X0_wearOf _ d a u p1 r h) kv_X0_wearOf kl_X0_55 [0, 1, 2, 3, 4, 5, 6] dX0_isWorn_2 rfl rfl rfl rfl (Nat.le_of_ble_eq_true rfl) ⟨(Nat.le_of_ble_eq_true rfl), (Nat.le_of_ble_eq_true rfl)⟩ rfl rfl ⟨Nat.le_refl _, Nat.le_refl _⟩ rfl (fun r2 hr2 => ?_)
  refine V_bipush (v := 6) C dX0_isWorn_5 (by decide) ?_
  refine V_icmp_lt (tgt := 14) C dX0_isWorn_7 (by decide) ?_ ?_
  · refine V_iconst (v := 0) C dX0_isWorn_14 (by decide) ?_
    exact V_zretRc C hr hlk (by decide) dX0_isWorn_15
  · refine V_iconst (v := 1) C dX0_isWorn_10 (by decide) ?_
    refine V_goto (tgt := 15) C dX0_isWorn_11 (by decide) ?_
    exact V_zretRc C hr hlk (by decide) dX0_isWorn_15
set_option maxRecDepth 20000 in
theorem ct_X0_isWorn (l : Launch) (d : Dt) (a : Nat → Nat) (u : UC) (p1 : Int32) (z : Int32) (h : f_X0_isWorn u p1 = some z) : CtR l d yX0_isWorn cX0_isWorn 2 (some .boolean) (rmF 1 21) [.ref (a 0), .int p1] (WC d a u) (some (.int z)) :=
  CtR.start (by decide) (Nat.le_of_ble_eq_true rfl) (by simp [Value.category]) [some (.ref (a 0)), some (.int p1)] rfl (fun x C hr hlk => V_eqv (fun _ => h) (v_X0_isWorn C hr hlk z u p1))

/-! MastRobots$Cartridges.isOnShelf -/
def f_X0_isOnShelf (u : UC) (p1 : Int32) : Option (Int32) :=
  ((f_X0_slotOf u p1).bind fun r2 => ((f_X6_isIn r2 0 31).bind fun r8 => (if jbool r8 = true then some r8 else none)))
set_option maxRecDepth 20000 in
theorem v_X0_isOnShelf {x : Am} {d : Dt} {a : Nat → Nat} (C : Cx x cX0_isOnShelf 2 yX0_isOnShelf.cls d (Iro d x.s.heap)) (hr : x.meth.sig.returnType = (some .boolean)) (hlk : x.meth.locks = false) (z : Int32) (u : UC) (p1 : Int32) : V x (rmF 1 22) 0 0 (MQ x.below (QR (some (.int z))) x.args x.s 0 0 (fun _ => False)) 2 (Iro d x.s.heap) (f_X0_isOnShelf u p1 = some z) 0 (WC d a u) [some (.ref (a 0)), some (.int p1)] [] := by
  unfold f_X0_isOnShelf
  refine V_aload_n C 0 dX0_isOnShelf_0 rfl rfl ?_
  refine V_iload_n C 1 dX0_isOnShelf_1 rfl rfl ?_
  refine V_callRi (As := [.int p1]) (rest := []) (wc := WC d a u) C (fun r h => ct_X0_slotOf _ d a u p1 r h) kv_X0_slotOf kl_X0_59 [0, 1, 2, 3, 4, 5, 6] dX0_isOnShelf_2 rfl rfl rfl rfl (Nat.le_of_ble_eq_true rfl) ⟨(Nat.le_of_ble_eq_true rfl), (Nat.le_of_ble_eq_true rfl)⟩ rfl rfl ⟨Nat.le_refl _, Nat.le_refl _⟩ rfl (fun r2 hr2 => ?_)
  refine V_iconst (v := 0) C dX0_isOnShelf_5 (by decide) ?_
  refine V_bipush (v := 31) C dX0_isOnShelf_6 (by decide) ?_
  refine V_callNi (As := [.int r2, .int 0, .int 31]) (rest := []) (wc := []) C (fun r h => ct_X6_isIn _ d r2 0 31 r h) ks_X6_isIn kn_X0_46 [] dX0_isOnShelf_8 rfl rfl (Nat.le_of_ble_eq_true rfl) ⟨(Nat.le_of_ble_eq_true rfl), (Nat.le_of_ble_eq_true rfl)⟩ rfl rfl ⟨Nat.le_refl _, Nat.le_refl _⟩ rfl (fun r8 hr8 => ?_)
  exact V_zretR C hr hlk dX0_isOnShelf_11
set_option maxRecDepth 20000 in
theorem ct_X0_isOnShelf (l : Launch) (d : Dt) (a : Nat → Nat) (u : UC) (p1 : Int32) (z : Int32) (h : f_X0_isOnShelf u p1 = some z) : CtR l d yX0_isOnShelf cX0_isOnShelf 2 (some .boolean) (rmF 1 22) [.ref (a 0), .int p1] (WC d a u) (some (.int z)) :=
  CtR.start (by decide) (Nat.le_of_ble_eq_true rfl) (by simp [Value.category]) [some (.ref (a 0)), some (.int p1)] rfl (fun x C hr hlk => V_eqv (fun _ => h) (v_X0_isOnShelf C hr hlk z u p1))

/-! MastRobots$Cartridges.wallOf -/
def f_X0_wallOf (u : UC) (p1 : Int32) : Option (Int32) :=
  ((f_X0_slotOf u p1).bind fun r2 => some (r2 / 4))
set_option maxRecDepth 20000 in
theorem v_X0_wallOf {x : Am} {d : Dt} {a : Nat → Nat} (C : Cx x cX0_wallOf 2 yX0_wallOf.cls d (Iro d x.s.heap)) (hr : x.meth.sig.returnType = (some .int)) (hlk : x.meth.locks = false) (z : Int32) (u : UC) (p1 : Int32) : V x (rmF 1 21) 0 0 (MQ x.below (QR (some (.int z))) x.args x.s 0 0 (fun _ => False)) 2 (Iro d x.s.heap) (f_X0_wallOf u p1 = some z) 0 (WC d a u) [some (.ref (a 0)), some (.int p1)] [] := by
  unfold f_X0_wallOf
  refine V_aload_n C 0 dX0_wallOf_0 rfl rfl ?_
  refine V_iload_n C 1 dX0_wallOf_1 rfl rfl ?_
  refine V_callRi (As := [.int p1]) (rest := []) (wc := WC d a u) C (fun r h => ct_X0_slotOf _ d a u p1 r h) kv_X0_slotOf kl_X0_59 [0, 1, 2, 3, 4, 5, 6] dX0_wallOf_2 rfl rfl rfl rfl (Nat.le_of_ble_eq_true rfl) ⟨(Nat.le_of_ble_eq_true rfl), (Nat.le_of_ble_eq_true rfl)⟩ rfl rfl ⟨Nat.le_refl _, Nat.le_refl _⟩ rfl (fun r2 hr2 => ?_)
  refine V_iconst (v := 4) C dX0_wallOf_5 (by decide) ?_
  refine V_idiv C dX0_wallOf_6 (by decide) ?_
  exact V_iretR C hr hlk dX0_wallOf_7
set_option maxRecDepth 20000 in
theorem ct_X0_wallOf (l : Launch) (d : Dt) (a : Nat → Nat) (u : UC) (p1 : Int32) (z : Int32) (h : f_X0_wallOf u p1 = some z) : CtR l d yX0_wallOf cX0_wallOf 2 (some .int) (rmF 1 21) [.ref (a 0), .int p1] (WC d a u) (some (.int z)) :=
  CtR.start (by decide) (Nat.le_of_ble_eq_true rfl) (by simp [Value.category]) [some (.ref (a 0)), some (.int p1)] rfl (fun x C hr hlk => V_eqv (fun _ => h) (v_X0_wallOf C hr hlk z u p1))

/-! MastRobots$Cartridges.shelfOfWall -/
def f_X0_shelfOfWall (u : UC) (p1 : Int32) : Option (Int32) :=
  ((f_X0_slotOf u p1).bind fun r2 => some (jrem r2 4))
set_option maxRecDepth 20000 in
theorem v_X0_shelfOfWall {x : Am} {d : Dt} {a : Nat → Nat} (C : Cx x cX0_shelfOfWall 2 yX0_shelfOfWall.cls d (Iro d x.s.heap)) (hr : x.meth.sig.returnType = (some .int)) (hlk : x.meth.locks = false) (z : Int32) (u : UC) (p1 : Int32) : V x (rmF 1 21) 0 0 (MQ x.below (QR (some (.int z))) x.args x.s 0 0 (fun _ => False)) 2 (Iro d x.s.heap) (f_X0_shelfOfWall u p1 = some z) 0 (WC d a u) [some (.ref (a 0)), some (.int p1)] [] := by
  unfold f_X0_shelfOfWall
  refine V_aload_n C 0 dX0_shelfOfWall_0 rfl rfl ?_
  refine V_iload_n C 1 dX0_shelfOfWall_1 rfl rfl ?_
  refine V_callRi (As := [.int p1]) (rest := []) (wc := WC d a u) C (fun r h => ct_X0_slotOf _ d a u p1 r h) kv_X0_slotOf kl_X0_59 [0, 1, 2, 3, 4, 5, 6] dX0_shelfOfWall_2 rfl rfl rfl rfl (Nat.le_of_ble_eq_true rfl) ⟨(Nat.le_of_ble_eq_true rfl), (Nat.le_of_ble_eq_true rfl)⟩ rfl rfl ⟨Nat.le_refl _, Nat.le_refl _⟩ rfl (fun r2 hr2 => ?_)
  refine V_iconst (v := 4) C dX0_shelfOfWall_5 (by decide) ?_
  refine V_irem C dX0_shelfOfWall_6 (by decide) ?_
  exact V_iretR C hr hlk dX0_shelfOfWall_7
set_option maxRecDepth 20000 in
theorem ct_X0_shelfOfWall (l : Launch) (d : Dt) (a : Nat → Nat) (u : UC) (p1 : Int32) (z : Int32) (h : f_X0_shelfOfWall u p1 = some z) : CtR l d yX0_shelfOfWall cX0_shelfOfWall 2 (some .int) (rmF 1 21) [.ref (a 0), .int p1] (WC d a u) (some (.int z)) :=
  CtR.start (by decide) (Nat.le_of_ble_eq_true rfl) (by simp [Value.category]) [some (.ref (a 0)), some (.int p1)] rfl (fun x C hr hlk => V_eqv (fun _ => h) (v_X0_shelfOfWall C hr hlk z u p1))

/-! MastRobots$Cartridges.kindOfPlaceOf -/
def f_X0_kindOfPlaceOf (u : UC) (p1 : Int32) : Option (Int32) :=
  ((f_X0_slotOf u p1).bind fun r2 => (if r2 = (-1) then some 3 else (if 32 ≤ r2 then (if 35 ≤ r2 then some 2 else some 1) else some 0)))
set_option maxRecDepth 20000 in
theorem v_X0_kindOfPlaceOf {x : Am} {d : Dt} {a : Nat → Nat} (C : Cx x cX0_kindOfPlaceOf 3 yX0_kindOfPlaceOf.cls d (Iro d x.s.heap)) (hr : x.meth.sig.returnType = (some .int)) (hlk : x.meth.locks = false) (z : Int32) (u : UC) (p1 : Int32) : V x (rmF 1 21) 0 0 (MQ x.below (QR (some (.int z))) x.args x.s 0 0 (fun _ => False)) 3 (Iro d x.s.heap) (f_X0_kindOfPlaceOf u p1 = some z) 0 (WC d a u) [some (.ref (a 0)), some (.int p1), none] [] := by
  unfold f_X0_kindOfPlaceOf
  refine V_aload_n C 0 dX0_kindOfPlaceOf_0 rfl rfl ?_
  refine V_iload_n C 1 dX0_kindOfPlaceOf_1 rfl rfl ?_
  refine V_callRi (As := [.int p1]) (rest := []) (wc := WC d a u) C (fun r h => ct_X0_slotOf _ d a u p1 r h) kv_X0_slotOf kl_X0_59 [0, 1, 2, 3, 4, 5, 6] dX0_kindOfPlaceOf_2 rfl rfl rfl rfl (Nat.le_of_ble_eq_true rfl) ⟨(Nat.le_of_ble_eq_true rfl), (Nat.le_of_ble_eq_true rfl)⟩ rfl rfl ⟨Nat.le_refl _, Nat.le_refl _⟩ rfl (fun r2 hr2 => ?_)
  refine V_istore_n (lv' := [some (.ref (a 0)), some (.int p1), some (.int r2)]) C 2 dX0_kindOfPlaceOf_5 rfl (by decide) rfl ?_
  refine V_iload_n C 2 dX0_kindOfPlaceOf_6 rfl rfl ?_
  refine V_iconst (v := (-1)) C dX0_kindOfPlaceOf_7 (by decide) ?_
  refine V_icmp_ne (tgt := 13) C dX0_kindOfPlaceOf_8 (by decide) ?_ ?_
  · refine V_iload_n C 2 dX0_kindOfPlaceOf_13 rfl rfl ?_
    refine V_bipush (v := 32) C dX0_kindOfPlaceOf_14 (by decide) ?_
    refine V_icmp_ge (tgt := 21) C dX0_kindOfPlaceOf_16 (by decide) ?_ ?_
    · refine V_iload_n C 2 dX0_kindOfPlaceOf_21 rfl rfl ?_
      refine V_bipush (v := 35) C dX0_kindOfPlaceOf_22 (by decide) ?_
      refine V_icmp_ge (tgt := 31) C dX0_kindOfPlaceOf_24 (by decide) ?_ ?_
      · refine V_iconst (v := 2) C dX0_kindOfPlaceOf_31 (by decide) ?_
        exact V_iretR C hr hlk dX0_kindOfPlaceOf_32
      · refine V_iconst (v := 1) C dX0_kindOfPlaceOf_27 (by decide) ?_
        refine V_goto (tgt := 32) C dX0_kindOfPlaceOf_28 (by decide) ?_
        exact V_iretR C hr hlk dX0_kindOfPlaceOf_32
    · refine V_iconst (v := 0) C dX0_kindOfPlaceOf_19 (by decide) ?_
      exact V_iretR C hr hlk dX0_kindOfPlaceOf_20
  · refine V_iconst (v := 3) C dX0_kindOfPlaceOf_11 (by decide) ?_
    exact V_iretR C hr hlk dX0_kindOfPlaceOf_12
set_option maxRecDepth 20000 in
theorem ct_X0_kindOfPlaceOf (l : Launch) (d : Dt) (a : Nat → Nat) (u : UC) (p1 : Int32) (z : Int32) (h : f_X0_kindOfPlaceOf u p1 = some z) : CtR l d yX0_kindOfPlaceOf cX0_kindOfPlaceOf 3 (some .int) (rmF 1 21) [.ref (a 0), .int p1] (WC d a u) (some (.int z)) :=
  CtR.start (by decide) (Nat.le_of_ble_eq_true rfl) (by simp [Value.category]) [some (.ref (a 0)), some (.int p1), none] rfl (fun x C hr hlk => V_eqv (fun _ => h) (v_X0_kindOfPlaceOf C hr hlk z u p1))

/-! MastRobots$Cartridges.placeOf -/
def f_X0_placeOf (u : UC) (p1 : Int32) : Option (Int32) :=
  ((f_X0_kindOfPlaceOf u p1).bind fun r2 => (if r2 = 0 then ((f_X0_wallOf u p1).bind fun r36 => ((f_X0_shelfOfWall u p1).bind fun r42 => some ((10 * r36) + r42))) else (if r2 = 1 then ((f_X0_slotOf u p1).bind fun r49 => some (r49 - 32)) else (if r2 = 2 then ((f_X0_slotOf u p1).bind fun r58 => some (r58 - 35)) else some (-1000004)))))
set_option maxRecDepth 20000 in
theorem v_X0_placeOf {x : Am} {d : Dt} {a : Nat → Nat} (C : Cx x cX0_placeOf 2 yX0_placeOf.cls d (Iro d x.s.heap)) (hr : x.meth.sig.returnType = (some .int)) (hlk : x.meth.locks = false) (z : Int32) (u : UC) (p1 : Int32) : V x (rmF 2 43) 0 0 (MQ x.below (QR (some (.int z))) x.args x.s 0 0 (fun _ => False)) 2 (Iro d x.s.heap) (f_X0_placeOf u p1 = some z) 0 (WC d a u) [some (.ref (a 0)), some (.int p1)] [] := by
  unfold f_X0_placeOf
  refine V_aload_n C 0 dX0_placeOf_0 rfl rfl ?_
  refine V_iload_n C 1 dX0_placeOf_1 rfl rfl ?_
  refine V_callRi (As := [.int p1]) (rest := []) (wc := WC d a u) C (fun r h => ct_X0_kindOfPlaceOf _ d a u p1 r h) kv_X0_kindOfPlaceOf kl_X0_62 [0, 1, 2, 3, 4, 5, 6] dX0_placeOf_2 rfl rfl rfl rfl (Nat.le_of_ble_eq_true rfl) ⟨(Nat.le_of_ble_eq_true rfl), (Nat.le_of_ble_eq_true rfl)⟩ rfl rfl ⟨Nat.le_refl _, Nat.le_refl _⟩ rfl (fun r2 hr2 => ?_)
  refine V_case (fun c0 => ?_) (fun c0 => ?_)
  · refine V_tsIn (tgt := 32) C c0 dX0_placeOf_5 (by decide) (by decide) rfl (by decide) ?_
    refine V_bipush (v := 10) C dX0_placeOf_32 (by decide) ?_
    refine V_aload_n C 0 dX0_placeOf_34 rfl rfl ?_
    refine V_iload_n C 1 dX0_placeOf_35 rfl rfl ?_
    refine V_callRi (As := [.int p1]) (rest := [.int 10]) (wc := WC d a u) C (fun r h => ct_X0_wallOf _ d a u p1 r h) kv_X0_wallOf kl_X0_65 [0, 1, 2, 3, 4, 5, 6] dX0_placeOf_36 rfl rfl rfl rfl (Nat.le_of_ble_eq_true rfl) ⟨(Nat.le_of_ble_eq_true rfl), (Nat.le_of_ble_eq_true rfl)⟩ rfl rfl ⟨Nat.le_refl _, Nat.le_refl _⟩ rfl (fun r36 hr36 => ?_)
    refine V_imul C dX0_placeOf_39 ?_
    refine V_aload_n C 0 dX0_placeOf_40 rfl rfl ?_
    refine V_iload_n C 1 dX0_placeOf_41 rfl rfl ?_
    refine V_callRi (As := [.int p1]) (rest := [.int (10 * r36)]) (wc := WC d a u) C (fun r h => ct_X0_shelfOfWall _ d a u p1 r h) kv_X0_shelfOfWall kl_X0_68 [0, 1, 2, 3, 4, 5, 6] dX0_placeOf_42 rfl rfl rfl rfl (Nat.le_of_ble_eq_true rfl) ⟨(Nat.le_of_ble_eq_true rfl), (Nat.le_of_ble_eq_true rfl)⟩ rfl rfl ⟨Nat.le_refl _, Nat.le_refl _⟩ rfl (fun r42 hr42 => ?_)
    refine V_iadd C dX0_placeOf_45 ?_
    exact V_iretR C hr hlk dX0_placeOf_46
  refine V_case (fun c1 => ?_) (fun c1 => ?_)
  · refine V_tsIn (tgt := 47) C c1 dX0_placeOf_5 (by decide) (by decide) rfl (by decide) ?_
    refine V_aload_n C 0 dX0_placeOf_47 rfl rfl ?_
    refine V_iload_n C 1 dX0_placeOf_48 rfl rfl ?_
    refine V_callRi (As := [.int p1]) (rest := []) (wc := WC d a u) C (fun r h => ct_X0_slotOf _ d a u p1 r h) kv_X0_slotOf kl_X0_59 [0, 1, 2, 3, 4, 5, 6] dX0_placeOf_49 rfl rfl rfl rfl (Nat.le_of_ble_eq_true rfl) ⟨(Nat.le_of_ble_eq_true rfl), (Nat.le_of_ble_eq_true rfl)⟩ rfl rfl ⟨Nat.le_refl _, Nat.le_refl _⟩ rfl (fun r49 hr49 => ?_)
    refine V_bipush (v := 32) C dX0_placeOf_52 (by decide) ?_
    refine V_isub C dX0_placeOf_54 ?_
    exact V_iretR C hr hlk dX0_placeOf_55
  refine V_case (fun c2 => ?_) (fun c2 => ?_)
  · refine V_tsIn (tgt := 56) C c2 dX0_placeOf_5 (by decide) (by decide) rfl (by decide) ?_
    refine V_aload_n C 0 dX0_placeOf_56 rfl rfl ?_
    refine V_iload_n C 1 dX0_placeOf_57 rfl rfl ?_
    refine V_callRi (As := [.int p1]) (rest := []) (wc := WC d a u) C (fun r h => ct_X0_slotOf _ d a u p1 r h) kv_X0_slotOf kl_X0_59 [0, 1, 2, 3, 4, 5, 6] dX0_placeOf_58 rfl rfl rfl rfl (Nat.le_of_ble_eq_true rfl) ⟨(Nat.le_of_ble_eq_true rfl), (Nat.le_of_ble_eq_true rfl)⟩ rfl rfl ⟨Nat.le_refl _, Nat.le_refl _⟩ rfl (fun r58 hr58 => ?_)
    refine V_bipush (v := 35) C dX0_placeOf_61 (by decide) ?_
    refine V_isub C dX0_placeOf_63 ?_
    exact V_iretR C hr hlk dX0_placeOf_64
  have i0 := neInt c0 (k := 0) (by decide)
  have i1 := neInt c1 (k := 1) (by decide)
  have i2 := neInt c2 (k := 2) (by decide)
  refine V_tsOut (tgt := 65) C dX0_placeOf_5 (by omega) (by decide) ?_
  refine V_ldc C kc_X0_71 dX0_placeOf_65 ?_
  exact V_iretR C hr hlk dX0_placeOf_67
set_option maxRecDepth 20000 in
theorem ct_X0_placeOf (l : Launch) (d : Dt) (a : Nat → Nat) (u : UC) (p1 : Int32) (z : Int32) (h : f_X0_placeOf u p1 = some z) : CtR l d yX0_placeOf cX0_placeOf 2 (some .int) (rmF 2 43) [.ref (a 0), .int p1] (WC d a u) (some (.int z)) :=
  CtR.start (by decide) (Nat.le_of_ble_eq_true rfl) (by simp [Value.category]) [some (.ref (a 0)), some (.int p1)] rfl (fun x C hr hlk => V_eqv (fun _ => h) (v_X0_placeOf C hr hlk z u p1))

/-! MastRobots$Cartridges.filesHeldBy -/
def f_X0_filesHeldBy (u : UC) (p1 : Int32) : Option (Int32) :=
  ((f_X5_howOften u.2.2.2.2.2.1 p1).bind fun r5 => some r5)
set_option maxRecDepth 20000 in
theorem v_X0_filesHeldBy {x : Am} {d : Dt} {a : Nat → Nat} (C : Cx x cX0_filesHeldBy 2 yX0_filesHeldBy.cls d (Iro d x.s.heap)) (hr : x.meth.sig.returnType = (some .int)) (hlk : x.meth.locks = false) (z : Int32) (u : UC) (p1 : Int32) : V x (rmF 1 26) 0 0 (MQ x.below (QR (some (.int z))) x.args x.s 0 0 (fun _ => False)) 2 (Iro d x.s.heap) (f_X0_filesHeldBy u p1 = some z) 0 (WC d a u) [some (.ref (a 0)), some (.int p1)] [] := by
  unfold f_X0_filesHeldBy
  refine V_aload_n C 0 dX0_filesHeldBy_0 rfl rfl ?_
  refine V_get (v := .ref (a 6)) C fx0 0 5 kf_X0_27 (by decide) rfl rfl dX0_filesHeldBy_1 ?_
  refine V_iload_n C 1 dX0_filesHeldBy_4 rfl rfl ?_
  refine V_callSi (As := [.ref (a 6), .int p1]) (rest := []) (wc := WA d (fun i => a (i + 6)) u.2.2.2.2.2.1) C (fun r h => ct_X5_howOften _ d (fun i => a (i + 6)) u.2.2.2.2.2.1 p1 r h) ks_X5_howOften kl_X0_72 [6] dX0_filesHeldBy_5 rfl rfl (Nat.le_of_ble_eq_true rfl) ⟨(Nat.le_of_ble_eq_true rfl), (Nat.le_of_ble_eq_true rfl)⟩ rfl rfl ⟨Nat.le_refl _, Nat.le_refl _⟩ rfl (fun r5 hr5 => ?_)
  exact V_iretR C hr hlk dX0_filesHeldBy_8
set_option maxRecDepth 20000 in
theorem ct_X0_filesHeldBy (l : Launch) (d : Dt) (a : Nat → Nat) (u : UC) (p1 : Int32) (z : Int32) (h : f_X0_filesHeldBy u p1 = some z) : CtR l d yX0_filesHeldBy cX0_filesHeldBy 2 (some .int) (rmF 1 26) [.ref (a 0), .int p1] (WC d a u) (some (.int z)) :=
  CtR.start (by decide) (Nat.le_of_ble_eq_true rfl) (by simp [Value.category]) [some (.ref (a 0)), some (.int p1)] rfl (fun x C hr hlk => V_eqv (fun _ => h) (v_X0_filesHeldBy C hr hlk z u p1))

/-! MastRobots$Cartridges.filesHeld -/
def f_X0_filesHeld (u : UC) : Option (Int32) :=
  ((f_X5_howOften u.2.2.2.2.2.1 (-1)).bind fun r7 => some (60 - r7))
set_option maxRecDepth 20000 in
theorem v_X0_filesHeld {x : Am} {d : Dt} {a : Nat → Nat} (C : Cx x cX0_filesHeld 1 yX0_filesHeld.cls d (Iro d x.s.heap)) (hr : x.meth.sig.returnType = (some .int)) (hlk : x.meth.locks = false) (z : Int32) (u : UC) : V x (rmF 1 26) 0 0 (MQ x.below (QR (some (.int z))) x.args x.s 0 0 (fun _ => False)) 1 (Iro d x.s.heap) (f_X0_filesHeld u = some z) 0 (WC d a u) [some (.ref (a 0))] [] := by
  unfold f_X0_filesHeld
  refine V_bipush (v := 60) C dX0_filesHeld_0 (by decide) ?_
  refine V_aload_n C 0 dX0_filesHeld_2 rfl rfl ?_
  refine V_get (v := .ref (a 6)) C fx0 0 5 kf_X0_27 (by decide) rfl rfl dX0_filesHeld_3 ?_
  refine V_iconst (v := (-1)) C dX0_filesHeld_6 (by decide) ?_
  refine V_callSi (As := [.ref (a 6), .int (-1)]) (rest := [.int 60]) (wc := WA d (fun i => a (i + 6)) u.2.2.2.2.2.1) C (fun r h => ct_X5_howOften _ d (fun i => a (i + 6)) u.2.2.2.2.2.1 (-1) r h) ks_X5_howOften kl_X0_72 [6] dX0_filesHeld_7 rfl rfl (Nat.le_of_ble_eq_true rfl) ⟨(Nat.le_of_ble_eq_true rfl), (Nat.le_of_ble_eq_true rfl)⟩ rfl rfl ⟨Nat.le_refl _, Nat.le_refl _⟩ rfl (fun r7 hr7 => ?_)
  refine V_isub C dX0_filesHeld_10 ?_
  exact V_iretR C hr hlk dX0_filesHeld_11
set_option maxRecDepth 20000 in
theorem ct_X0_filesHeld (l : Launch) (d : Dt) (a : Nat → Nat) (u : UC) (z : Int32) (h : f_X0_filesHeld u = some z) : CtR l d yX0_filesHeld cX0_filesHeld 1 (some .int) (rmF 1 26) [.ref (a 0)] (WC d a u) (some (.int z)) :=
  CtR.start (by decide) (Nat.le_of_ble_eq_true rfl) (by simp [Value.category]) [some (.ref (a 0))] rfl (fun x C hr hlk => V_eqv (fun _ => h) (v_X0_filesHeld C hr hlk z u))

/-! MastRobots$Cartridges.withNeighbors -/
def f_X0_withNeighbors_b24 (k4 : UC → Int32 → Int32 → Option (Int32)) (u : UC) (v1 : Int32) (v2 : Int32) : Option (Int32) :=
  k4 u v1 (v2 + 1)
def f_X0_withNeighbors_b4 : Nat → UC → Int32 → Int32 → Option (Int32)
  | 0, _, _, _ => none
  | n + 1, u, v1, v2 => (if u.2.2.2.2.2.2 ≤ v2 then some v1 else ((f_X0_slotOf u v2).bind fun r14 => (if r14 = (-1) then f_X0_withNeighbors_b24 (f_X0_withNeighbors_b4 n) u (v1 + 1) v2 else f_X0_withNeighbors_b24 (f_X0_withNeighbors_b4 n) u v1 v2)))
def f_X0_withNeighbors (u : UC) : Option (Int32) :=
  f_X0_withNeighbors_b4 FUEL u 0 0
set_option maxRecDepth 20000 in
theorem v_X0_withNeighbors_b24 {x : Am} {d : Dt} {a : Nat → Nat} (C : Cx x cX0_withNeighbors 3 yX0_withNeighbors.cls d (Iro d x.s.heap)) (hr : x.meth.sig.returnType = (some .int)) (hlk : x.meth.locks = false) (z : Int32) (k4 : UC → Int32 → Int32 → Option (Int32)) (hk4 : ∀ (u : UC)(v1 : Int32)(v2 : Int32), V x (rmF 1 21) 0 0 (MQ x.below (QR (some (.int z))) x.args x.s 0 0 (fun _ => False)) 3 (Iro d x.s.heap) (k4 u v1 v2 = some z) 4 (WC d a u) [some (.ref (a 0)), some (.int v1), some (.int v2)] []) (u : UC) (v1 : Int32) (v2 : Int32) : V x (rmF 1 21) 0 0 (MQ x.below (QR (some (.int z))) x.args x.s 0 0 (fun _ => False)) 3 (Iro d x.s.heap) (f_X0_withNeighbors_b24 k4 u v1 v2 = some z) 24 (WC d a u) [some (.ref (a 0)), some (.int v1), some (.int v2)] [] := by
  unfold f_X0_withNeighbors_b24
  refine V_iinc (v := (v2 + 1)) (lv' := [some (.ref (a 0)), some (.int v1), some (.int (v2 + 1))]) C dX0_withNeighbors_24 rfl rfl (by decide) rfl ?_
  refine V_goto (tgt := 4) C dX0_withNeighbors_27 (by decide) ?_
  exact hk4 u v1 (v2 + 1)
set_option maxRecDepth 20000 in
theorem v_X0_withNeighbors_b4 {x : Am} {d : Dt} {a : Nat → Nat} (C : Cx x cX0_withNeighbors 3 yX0_withNeighbors.cls d (Iro d x.s.heap)) (hr : x.meth.sig.returnType = (some .int)) (hlk : x.meth.locks = false) (z : Int32) (n : Nat) (u : UC) (v1 : Int32) (v2 : Int32) : V x (rmF 1 21) 0 0 (MQ x.below (QR (some (.int z))) x.args x.s 0 0 (fun _ => False)) 3 (Iro d x.s.heap) (f_X0_withNeighbors_b4 n u v1 v2 = some z) 4 (WC d a u) [some (.ref (a 0)), some (.int v1), some (.int v2)] [] := by
  induction n generalizing u v1 v2 with
  | zero => exact V_none
  | succ n ih =>
    rw [f_X0_withNeighbors_b4]
    refine V_iload_n C 2 dX0_withNeighbors_4 rfl rfl ?_
    refine V_aload_n C 0 dX0_withNeighbors_5 rfl rfl ?_
    refine V_get (v := .int u.2.2.2.2.2.2) C fx0 0 6 kf_X0_42 (by decide) rfl rfl dX0_withNeighbors_6 ?_
    refine V_icmp_ge (tgt := 30) C dX0_withNeighbors_9 (by decide) ?_ ?_
    · refine V_iload_n C 1 dX0_withNeighbors_30 rfl rfl ?_
      exact V_iretR C hr hlk dX0_withNeighbors_31
    · refine V_aload_n C 0 dX0_withNeighbors_12 rfl rfl ?_
      refine V_iload_n C 2 dX0_withNeighbors_13 rfl rfl ?_
      refine V_callRi (As := [.int v2]) (rest := []) (wc := WC d a u) C (fun r h => ct_X0_slotOf _ d a u v2 r h) kv_X0_slotOf kl_X0_59 [0, 1, 2, 3, 4, 5, 6] dX0_withNeighbors_14 rfl rfl rfl rfl (Nat.le_of_ble_eq_true rfl) ⟨(Nat.le_of_ble_eq_true rfl), (Nat.le_of_ble_eq_true rfl)⟩ rfl rfl ⟨Nat.le_refl _, Nat.le_refl _⟩ rfl (fun r14 hr14 => ?_)
      refine V_iconst (v := (-1)) C dX0_withNeighbors_17 (by decide) ?_
      refine V_icmp_ne (tgt := 24) C dX0_withNeighbors_18 (by decide) ?_ ?_
      · exact v_X0_withNeighbors_b24 C hr hlk z (f_X0_withNeighbors_b4  n) ih u v1 v2
      · refine V_iinc (v := (v1 + 1)) (lv' := [some (.ref (a 0)), some (.int (v1 + 1)), some (.int v2)]) C dX0_withNeighbors_21 rfl rfl (by decide) rfl ?_
        exact v_X0_withNeighbors_b24 C hr hlk z (f_X0_withNeighbors_b4  n) ih u (v1 + 1) v2
set_option maxRecDepth 20000 in
theorem v_X0_withNeighbors {x : Am} {d : Dt} {a : Nat → Nat} (C : Cx x cX0_withNeighbors 3 yX0_withNeighbors.cls d (Iro d x.s.heap)) (hr : x.meth.sig.returnType = (some .int)) (hlk : x.meth.locks = false) (z : Int32) (u : UC) : V x (rmF 1 21) 0 0 (MQ x.below (QR (some (.int z))) x.args x.s 0 0 (fun _ => False)) 3 (Iro d x.s.heap) (f_X0_withNeighbors u = some z) 0 (WC d a u) [some (.ref (a 0)), none, none] [] := by
  unfold f_X0_withNeighbors
  refine V_iconst (v := 0) C dX0_withNeighbors_0 (by decide) ?_
  refine V_istore_n (lv' := [some (.ref (a 0)), some (.int 0), none]) C 1 dX0_withNeighbors_1 rfl (by decide) rfl ?_
  refine V_iconst (v := 0) C dX0_withNeighbors_2 (by decide) ?_
  refine V_istore_n (lv' := [some (.ref (a 0)), some (.int 0), some (.int 0)]) C 2 dX0_withNeighbors_3 rfl (by decide) rfl ?_
  exact v_X0_withNeighbors_b4 C hr hlk z FUEL u 0 0
set_option maxRecDepth 20000 in
theorem ct_X0_withNeighbors (l : Launch) (d : Dt) (a : Nat → Nat) (u : UC) (z : Int32) (h : f_X0_withNeighbors u = some z) : CtR l d yX0_withNeighbors cX0_withNeighbors 3 (some .int) (rmF 1 21) [.ref (a 0)] (WC d a u) (some (.int z)) :=
  CtR.start (by decide) (Nat.le_of_ble_eq_true rfl) (by simp [Value.category]) [some (.ref (a 0)), none, none] rfl (fun x C hr hlk => V_eqv (fun _ => h) (v_X0_withNeighbors C hr hlk z u))

/-! MastRobots$Cartridges.worn -/
def f_X0_worn_b23 (k4 : UC → Int32 → Int32 → Option (Int32)) (u : UC) (v1 : Int32) (v2 : Int32) : Option (Int32) :=
  k4 u v1 (v2 + 1)
def f_X0_worn_b4 : Nat → UC → Int32 → Int32 → Option (Int32)
  | 0, _, _, _ => none
  | n + 1, u, v1, v2 => (if u.2.2.2.2.2.2 ≤ v2 then some v1 else ((f_X0_isWorn u v2).bind fun r14 => (if r14 = 0 then f_X0_worn_b23 (f_X0_worn_b4 n) u v1 v2 else f_X0_worn_b23 (f_X0_worn_b4 n) u (v1 + 1) v2)))
def f_X0_worn (u : UC) : Option (Int32) :=
  f_X0_worn_b4 FUEL u 0 0
set_option maxRecDepth 20000 in
theorem v_X0_worn_b23 {x : Am} {d : Dt} {a : Nat → Nat} (C : Cx x cX0_worn 3 yX0_worn.cls d (Iro d x.s.heap)) (hr : x.meth.sig.returnType = (some .int)) (hlk : x.meth.locks = false) (z : Int32) (k4 : UC → Int32 → Int32 → Option (Int32)) (hk4 : ∀ (u : UC)(v1 : Int32)(v2 : Int32), V x (rmF 2 42) 0 0 (MQ x.below (QR (some (.int z))) x.args x.s 0 0 (fun _ => False)) 3 (Iro d x.s.heap) (k4 u v1 v2 = some z) 4 (WC d a u) [some (.ref (a 0)), some (.int v1), some (.int v2)] []) (u : UC) (v1 : Int32) (v2 : Int32) : V x (rmF 2 42) 0 0 (MQ x.below (QR (some (.int z))) x.args x.s 0 0 (fun _ => False)) 3 (Iro d x.s.heap) (f_X0_worn_b23 k4 u v1 v2 = some z) 23 (WC d a u) [some (.ref (a 0)), some (.int v1), some (.int v2)] [] := by
  unfold f_X0_worn_b23
  refine V_iinc (v := (v2 + 1)) (lv' := [some (.ref (a 0)), some (.int v1), some (.int (v2 + 1))]) C dX0_worn_23 rfl rfl (by decide) rfl ?_
  refine V_goto (tgt := 4) C dX0_worn_26 (by decide) ?_
  exact hk4 u v1 (v2 + 1)
set_option maxRecDepth 20000 in
theorem v_X0_worn_b4 {x : Am} {d : Dt} {a : Nat → Nat} (C : Cx x cX0_worn 3 yX0_worn.cls d (Iro d x.s.heap)) (hr : x.meth.sig.returnType = (some .int)) (hlk : x.meth.locks = false) (z : Int32) (n : Nat) (u : UC) (v1 : Int32) (v2 : Int32) : V x (rmF 2 42) 0 0 (MQ x.below (QR (some (.int z))) x.args x.s 0 0 (fun _ => False)) 3 (Iro d x.s.heap) (f_X0_worn_b4 n u v1 v2 = some z) 4 (WC d a u) [some (.ref (a 0)), some (.int v1), some (.int v2)] [] := by
  induction n generalizing u v1 v2 with
  | zero => exact V_none
  | succ n ih =>
    rw [f_X0_worn_b4]
    refine V_iload_n C 2 dX0_worn_4 rfl rfl ?_
    refine V_aload_n C 0 dX0_worn_5 rfl rfl ?_
    refine V_get (v := .int u.2.2.2.2.2.2) C fx0 0 6 kf_X0_42 (by decide) rfl rfl dX0_worn_6 ?_
    refine V_icmp_ge (tgt := 29) C dX0_worn_9 (by decide) ?_ ?_
    · refine V_iload_n C 1 dX0_worn_29 rfl rfl ?_
      exact V_iretR C hr hlk dX0_worn_30
    · refine V_aload_n C 0 dX0_worn_12 rfl rfl ?_
      refine V_iload_n C 2 dX0_worn_13 rfl rfl ?_
      refine V_callRi (As := [.int v2]) (rest := []) (wc := WC d a u) C (fun r h => ct_X0_isWorn _ d a u v2 r h) kv_X0_isWorn kl_X0_76 [0, 1, 2, 3, 4, 5, 6] dX0_worn_14 rfl rfl rfl rfl (Nat.le_of_ble_eq_true rfl) ⟨(Nat.le_of_ble_eq_true rfl), (Nat.le_of_ble_eq_true rfl)⟩ rfl rfl ⟨Nat.le_refl _, Nat.le_refl _⟩ rfl (fun r14 hr14 => ?_)
      refine V_if_eq (tgt := 23) C dX0_worn_17 (by decide) ?_ ?_
      · exact v_X0_worn_b23 C hr hlk z (f_X0_worn_b4  n) ih u v1 v2
      · refine V_iinc (v := (v1 + 1)) (lv' := [some (.ref (a 0)), some (.int (v1 + 1)), some (.int v2)]) C dX0_worn_20 rfl rfl (by decide) rfl ?_
        exact v_X0_worn_b23 C hr hlk z (f_X0_worn_b4  n) ih u (v1 + 1) v2
set_option maxRecDepth 20000 in
theorem v_X0_worn {x : Am} {d : Dt} {a : Nat → Nat} (C : Cx x cX0_worn 3 yX0_worn.cls d (Iro d x.s.heap)) (hr : x.meth.sig.returnType = (some .int)) (hlk : x.meth.locks = false) (z : Int32) (u : UC) : V x (rmF 2 42) 0 0 (MQ x.below (QR (some (.int z))) x.args x.s 0 0 (fun _ => False)) 3 (Iro d x.s.heap) (f_X0_worn u = some z) 0 (WC d a u) [some (.ref (a 0)), none, none] [] := by
  unfold f_X0_worn
  refine V_iconst (v := 0) C dX0_worn_0 (by decide) ?_
  refine V_istore_n (lv' := [some (.ref (a 0)), some (.int 0), none]) C 1 dX0_worn_1 rfl (by decide) rfl ?_
  refine V_iconst (v := 0) C dX0_worn_2 (by decide) ?_
  refine V_istore_n (lv' := [some (.ref (a 0)), some (.int 0), some (.int 0)]) C 2 dX0_worn_3 rfl (by decide) rfl ?_
  exact v_X0_worn_b4 C hr hlk z FUEL u 0 0
set_option maxRecDepth 20000 in
theorem ct_X0_worn (l : Launch) (d : Dt) (a : Nat → Nat) (u : UC) (z : Int32) (h : f_X0_worn u = some z) : CtR l d yX0_worn cX0_worn 3 (some .int) (rmF 2 42) [.ref (a 0)] (WC d a u) (some (.int z)) :=
  CtR.start (by decide) (Nat.le_of_ble_eq_true rfl) (by simp [Value.category]) [some (.ref (a 0)), none, none] rfl (fun x C hr hlk => V_eqv (fun _ => h) (v_X0_worn C hr hlk z u))

/-! MastRobots$Cartridges.emptyShelfNear -/
def f_X0_emptyShelfNear_b46 (k2 : UC → Int32 → Int32 → Option (Int32)) : Nat → UC → Int32 → Int32 → Int32 → Int32 → Option (Int32)
  | 0, _, _, _, _, _ => none
  | n + 1, u, v1, v2, v4, v5 => (if (v4 + 4) ≤ v5 then k2 u v1 (v2 + 1) else ((f_X0_inSlot u v5).bind fun r58 => (if r58 = (-1) then some v5 else f_X0_emptyShelfNear_b46 k2 n u v1 v2 v4 (v5 + 1))))
def f_X0_emptyShelfNear_b29 (k2 : UC → Int32 → Int32 → Option (Int32)) (u : UC) (v1 : Int32) (v2 : Int32) (s0 : Int32) : Option (Int32) :=
  ((f_X6_shelfSlot (jrem (v1 + s0) 8) 0).bind fun r37 => f_X0_emptyShelfNear_b46 k2 FUEL u v1 v2 r37 r37)
def f_X0_emptyShelfNear_b2 : Nat → UC → Int32 → Int32 → Option (Int32)
  | 0, _, _, _ => none
  | n + 1, u, v1, v2 => (if 8 ≤ v2 then some (-1) else (if (jrem v2 2) = 1 then f_X0_emptyShelfNear_b29 (f_X0_emptyShelfNear_b2 n) u v1 v2 ((v2 + 1) / 2) else f_X0_emptyShelfNear_b29 (f_X0_emptyShelfNear_b2 n) u v1 v2 (8 - (v2 / 2))))
def f_X0_emptyShelfNear (u : UC) (p1 : Int32) : Option (Int32) :=
  f_X0_emptyShelfNear_b2 FUEL u p1 0
set_option maxRecDepth 20000 in
theorem v_X0_emptyShelfNear_b46 {x : Am} {d : Dt} {a : Nat → Nat} (C : Cx x cX0_emptyShelfNear 6 yX0_emptyShelfNear.cls d (Iro d x.s.heap)) (hr : x.meth.sig.returnType = (some .int)) (hlk : x.meth.locks = false) (z : Int32) (k2 : UC → Int32 → Int32 → Option (Int32)) (hk2 : ∀ (u : UC)(v1 : Int32)(v2 : Int32), V x (rmF 1 21) 0 0 (MQ x.below (QR (some (.int z))) x.args x.s 0 0 (fun _ => False)) 6 (Iro d x.s.heap) (k2 u v1 v2 = some z) 2 (WC d a u) [some (.ref (a 0)), some (.int v1), some (.int v2), none, none, none] []) (n : Nat) (u : UC) (v1 : Int32) (v2 : Int32) (v4 : Int32) (v5 : Int32) : V x (rmF 1 21) 0 0 (MQ x.below (QR (some (.int z))) x.args x.s 0 0 (fun _ => False)) 6 (Iro d x.s.heap) (f_X0_emptyShelfNear_b46 k2 n u v1 v2 v4 v5 = some z) 46 (WC d a u) [some (.ref (a 0)), some (.int v1), some (.int v2), none, some (.int v4), some (.int v5)] [] := by
  induction n generalizing u v1 v2 v4 v5 with
  | zero => exact V_none
  | succ n ih =>
    rw [f_X0_emptyShelfNear_b46]
    refine V_iload C dX0_emptyShelfNear_46 rfl ?_
    refine V_iload C dX0_emptyShelfNear_48 rfl ?_
    refine V_iconst (v := 4) C dX0_emptyShelfNear_50 (by decide) ?_
    refine V_iadd C dX0_emptyShelfNear_51 ?_
    refine V_icmp_ge (tgt := 74) C dX0_emptyShelfNear_52 (by decide) ?_ ?_
    · refine V_iinc (v := (v2 + 1)) (lv' := [some (.ref (a 0)), some (.int v1), some (.int (v2 + 1)), none, some (.int v4), some (.int v5)]) C dX0_emptyShelfNear_74 rfl rfl (by decide) rfl ?_
      refine V_goto (tgt := 2) C dX0_emptyShelfNear_77 (by decide) ?_
      refine V_mask (lv' := [some (.ref (a 0)), some (.int v1), some (.int (v2 + 1)), none, none, none]) [true, true, true, true, false, false] rfl ?_
      exact hk2 u v1 (v2 + 1)
    · refine V_aload_n C 0 dX0_emptyShelfNear_55 rfl rfl ?_
      refine V_iload C dX0_emptyShelfNear_56 rfl ?_
      refine V_callRi (As := [.int v5]) (rest := []) (wc := WC d a u) C (fun r h => ct_X0_inSlot _ d a u v5 r h) kv_X0_inSlot kl_X0_84 [0, 1, 2, 3, 4, 5, 6] dX0_emptyShelfNear_58 rfl rfl rfl rfl (Nat.le_of_ble_eq_true rfl) ⟨(Nat.le_of_ble_eq_true rfl), (Nat.le_of_ble_eq_true rfl)⟩ rfl rfl ⟨Nat.le_refl _, Nat.le_refl _⟩ rfl (fun r58 hr58 => ?_)
      refine V_iconst (v := (-1)) C dX0_emptyShelfNear_61 (by decide) ?_
      refine V_icmp_ne (tgt := 68) C dX0_emptyShelfNear_62 (by decide) ?_ ?_
      · refine V_iinc (v := (v5 + 1)) (lv' := [some (.ref (a 0)), some (.int v1), some (.int v2), none, some (.int v4), some (.int (v5 + 1))]) C dX0_emptyShelfNear_68 rfl rfl (by decide) rfl ?_
        refine V_goto (tgt := 46) C dX0_emptyShelfNear_71 (by decide) ?_
        exact ih u v1 v2 v4 (v5 + 1)
      · refine V_iload C dX0_emptyShelfNear_65 rfl ?_
        exact V_iretR C hr hlk dX0_emptyShelfNear_67
set_option maxRecDepth 20000 in
theorem v_X0_emptyShelfNear_b29 {x : Am} {d : Dt} {a : Nat → Nat} (C : Cx x cX0_emptyShelfNear 6 yX0_emptyShelfNear.cls d (Iro d x.s.heap)) (hr : x.meth.sig.returnType = (some .int)) (hlk : x.meth.locks = false) (z : Int32) (k2 : UC → Int32 → Int32 → Option (Int32)) (hk2 : ∀ (u : UC)(v1 : Int32)(v2 : Int32), V x (rmF 1 21) 0 0 (MQ x.below (QR (some (.int z))) x.args x.s 0 0 (fun _ => False)) 6 (Iro d x.s.heap) (k2 u v1 v2 = some z) 2 (WC d a u) [some (.ref (a 0)), some (.int v1), some (.int v2), none, none, none] []) (u : UC) (v1 : Int32) (v2 : Int32) (s0 : Int32) : V x (rmF 1 21) 0 0 (MQ x.below (QR (some (.int z))) x.args x.s 0 0 (fun _ => False)) 6 (Iro d x.s.heap) (f_X0_emptyShelfNear_b29 k2 u v1 v2 s0 = some z) 29 (WC d a u) [some (.ref (a 0)), some (.int v1), some (.int v2), none, none, none] [.int s0] := by
  unfold f_X0_emptyShelfNear_b29
  refine V_istore_n (lv' := [some (.ref (a 0)), some (.int v1), some (.int v2), some (.int s0), none, none]) C 3 dX0_emptyShelfNear_29 rfl (by decide) rfl ?_
  refine V_iload_n C 1 dX0_emptyShelfNear_30 rfl rfl ?_
  refine V_iload_n C 3 dX0_emptyShelfNear_31 rfl rfl ?_
  refine V_iadd C dX0_emptyShelfNear_32 ?_
  refine V_bipush (v := 8) C dX0_emptyShelfNear_33 (by decide) ?_
  refine V_irem C dX0_emptyShelfNear_35 (by decide) ?_
  refine V_iconst (v := 0) C dX0_emptyShelfNear_36 (by decide) ?_
  refine V_callNi (As := [.int (jrem (v1 + s0) 8), .int 0]) (rest := []) (wc := []) C (fun r h => ct_X6_shelfSlot _ d (jrem (v1 + s0) 8) 0 r h) ks_X6_shelfSlot kn_X0_80 [] dX0_emptyShelfNear_37 rfl rfl (Nat.le_of_ble_eq_true rfl) ⟨(Nat.le_of_ble_eq_true rfl), (Nat.le_of_ble_eq_true rfl)⟩ rfl rfl ⟨Nat.le_refl _, Nat.le_refl _⟩ rfl (fun r37 hr37 => ?_)
  refine V_istore (lv' := [some (.ref (a 0)), some (.int v1), some (.int v2), some (.int s0), some (.int r37), none]) C dX0_emptyShelfNear_40 (by decide) rfl ?_
  refine V_iload C dX0_emptyShelfNear_42 rfl ?_
  refine V_istore (lv' := [some (.ref (a 0)), some (.int v1), some (.int v2), some (.int s0), some (.int r37), some (.int r37)]) C dX0_emptyShelfNear_44 (by decide) rfl ?_
  refine V_mask (lv' := [some (.ref (a 0)), some (.int v1), some (.int v2), none, some (.int r37), some (.int r37)]) [true, true, true, false, true, true] rfl ?_
  exact v_X0_emptyShelfNear_b46 C hr hlk z k2 hk2 FUEL u v1 v2 r37 r37
set_option maxRecDepth 20000 in
theorem v_X0_emptyShelfNear_b2 {x : Am} {d : Dt} {a : Nat → Nat} (C : Cx x cX0_emptyShelfNear 6 yX0_emptyShelfNear.cls d (Iro d x.s.heap)) (hr : x.meth.sig.returnType = (some .int)) (hlk : x.meth.locks = false) (z : Int32) (n : Nat) (u : UC) (v1 : Int32) (v2 : Int32) : V x (rmF 1 21) 0 0 (MQ x.below (QR (some (.int z))) x.args x.s 0 0 (fun _ => False)) 6 (Iro d x.s.heap) (f_X0_emptyShelfNear_b2 n u v1 v2 = some z) 2 (WC d a u) [some (.ref (a 0)), some (.int v1), some (.int v2), none, none, none] [] := by
  induction n generalizing u v1 v2 with
  | zero => exact V_none
  | succ n ih =>
    rw [f_X0_emptyShelfNear_b2]
    refine V_iload_n C 2 dX0_emptyShelfNear_2 rfl rfl ?_
    refine V_bipush (v := 8) C dX0_emptyShelfNear_3 (by decide) ?_
    refine V_icmp_ge (tgt := 80) C dX0_emptyShelfNear_5 (by decide) ?_ ?_
    · refine V_iconst (v := (-1)) C dX0_emptyShelfNear_80 (by decide) ?_
      exact V_iretR C hr hlk dX0_emptyShelfNear_81
    · refine V_iload_n C 2 dX0_emptyShelfNear_8 rfl rfl ?_
      refine V_iconst (v := 2) C dX0_emptyShelfNear_9 (by decide) ?_
      refine V_irem C dX0_emptyShelfNear_10 (by decide) ?_
      refine V_iconst (v := 1) C dX0_emptyShelfNear_11 (by decide) ?_
      refine V_icmp_ne (tgt := 23) C dX0_emptyShelfNear_12 (by decide) ?_ ?_
      · refine V_bipush (v := 8) C dX0_emptyShelfNear_23 (by decide) ?_
        refine V_iload_n C 2 dX0_emptyShelfNear_25 rfl rfl ?_
        refine V_iconst (v := 2) C dX0_emptyShelfNear_26 (by decide) ?_
        refine V_idiv C dX0_emptyShelfNear_27 (by decide) ?_
        refine V_isub C dX0_emptyShelfNear_28 ?_
        exact v_X0_emptyShelfNear_b29 C hr hlk z (f_X0_emptyShelfNear_b2  n) ih u v1 v2 (8 - (v2 / 2))
      · refine V_iload_n C 2 dX0_emptyShelfNear_15 rfl rfl ?_
        refine V_iconst (v := 1) C dX0_emptyShelfNear_16 (by decide) ?_
        refine V_iadd C dX0_emptyShelfNear_17 ?_
        refine V_iconst (v := 2) C dX0_emptyShelfNear_18 (by decide) ?_
        refine V_idiv C dX0_emptyShelfNear_19 (by decide) ?_
        refine V_goto (tgt := 29) C dX0_emptyShelfNear_20 (by decide) ?_
        exact v_X0_emptyShelfNear_b29 C hr hlk z (f_X0_emptyShelfNear_b2  n) ih u v1 v2 ((v2 + 1) / 2)
set_option maxRecDepth 20000 in
theorem v_X0_emptyShelfNear {x : Am} {d : Dt} {a : Nat → Nat} (C : Cx x cX0_emptyShelfNear 6 yX0_emptyShelfNear.cls d (Iro d x.s.heap)) (hr : x.meth.sig.returnType = (some .int)) (hlk : x.meth.locks = false) (z : Int32) (u : UC) (p1 : Int32) : V x (rmF 1 21) 0 0 (MQ x.below (QR (some (.int z))) x.args x.s 0 0 (fun _ => False)) 6 (Iro d x.s.heap) (f_X0_emptyShelfNear u p1 = some z) 0 (WC d a u) [some (.ref (a 0)), some (.int p1), none, none, none, none] [] := by
  unfold f_X0_emptyShelfNear
  refine V_iconst (v := 0) C dX0_emptyShelfNear_0 (by decide) ?_
  refine V_istore_n (lv' := [some (.ref (a 0)), some (.int p1), some (.int 0), none, none, none]) C 2 dX0_emptyShelfNear_1 rfl (by decide) rfl ?_
  exact v_X0_emptyShelfNear_b2 C hr hlk z FUEL u p1 0
set_option maxRecDepth 20000 in
theorem ct_X0_emptyShelfNear (l : Launch) (d : Dt) (a : Nat → Nat) (u : UC) (p1 : Int32) (z : Int32) (h : f_X0_emptyShelfNear u p1 = some z) : CtR l d yX0_emptyShelfNear cX0_emptyShelfNear 6 (some .int) (rmF 1 21) [.ref (a 0), .int p1] (WC d a u) (some (.int z)) :=
  CtR.start (by decide) (Nat.le_of_ble_eq_true rfl) (by simp [Value.category]) [some (.ref (a 0)), some (.int p1), none, none, none, none] rfl (fun x C hr hlk => V_eqv (fun _ => h) (v_X0_emptyShelfNear C hr hlk z u p1))
