/-! MastRobots$Library.copyFrom -/
def f_X2_copyFrom (u : (UL × UL)) : Option ((UL × UL)) :=
  ((f_X0_copyFrom (u.1.1, u.2.1)).bind fun r8 => ((f_X4_copyFrom (u.1.2.1, u.2.2.1)).bind fun r19 => (if jbool u.2.2.2.2.1 = true then some ((r8.1, r19.1, u.2.2.2.1, u.2.2.2.2.1, u.2.2.2.2.2.1, u.2.2.2.2.2.2.1, u.2.2.2.2.2.2.2.1, u.2.2.2.2.2.2.2.2.1, u.2.2.2.2.2.2.2.2.2.1, u.2.2.2.2.2.2.2.2.2.2), (r8.2, r19.2, u.2.2.2.1, u.2.2.2.2.1, u.2.2.2.2.2.1, u.2.2.2.2.2.2.1, u.2.2.2.2.2.2.2.1, u.2.2.2.2.2.2.2.2.1, u.2.2.2.2.2.2.2.2.2.1, u.2.2.2.2.2.2.2.2.2.2)) else none)))
set_option maxRecDepth 20000 in
theorem v_X2_copyFrom {x : Am} {d : Dt} {A : Nat → Prop} {a : Nat → Nat} {b : Nat → Nat} (C : Cx x cX2_copyFrom 2 yX2_copyFrom.cls d (Imu d A x.s.heap)) (hr : x.meth.sig.returnType = none) (hlk : x.meth.locks = false) (z : (UL × UL)) (u : (UL × UL)) : V x (rmF 3 114) 0 0 (MQ x.below (QW d A (WLL d a b z) none) x.args x.s 0 0 A) 2 (Imu d A x.s.heap) (f_X2_copyFrom u = some z) 0 (WLL d a b u) [some (.ref (a 0)), some (.ref (b 0))] [] := by
  unfold f_X2_copyFrom
  refine V_aload_n C 0 dX2_copyFrom_0 rfl rfl ?_
  refine V_get (v := .ref (a 1)) C fx2 0 0 kf_X2_12 (by decide) rfl rfl dX2_copyFrom_1 ?_
  refine V_aload_n C 1 dX2_copyFrom_4 rfl rfl ?_
  refine V_get (v := .ref (b 1)) C fx2 12 0 kf_X2_12 (by decide) rfl rfl dX2_copyFrom_5 ?_
  refine V_callWv (As := [.ref (b 1)]) (rest := []) (wc := WCC d (fun i => a (i + 1)) (fun i => b (i + 1)) (u.1.1, u.2.1)) (Wd := fun w => WCC d (fun i => a (i + 1)) (fun i => b (i + 1)) w) C (fun r h => ct_X0_copyFrom _ d (fun i => a (i + 1)) (fun i => b (i + 1)) (u.1.1, u.2.1) r h) kv_X0_copyFrom kl_X2_25 [1, 2, 3, 4, 5, 6, 7, 13, 14, 15, 16, 17, 18, 19] (fun w => WLL d a b ((w.1, u.1.2.1, u.1.2.2.1, u.1.2.2.2.1, u.1.2.2.2.2.1, u.1.2.2.2.2.2.1, u.1.2.2.2.2.2.2.1, u.1.2.2.2.2.2.2.2.1, u.1.2.2.2.2.2.2.2.2.1, u.1.2.2.2.2.2.2.2.2.2), (w.2, u.2.2.1, u.2.2.2.1, u.2.2.2.2.1, u.2.2.2.2.2.1, u.2.2.2.2.2.2.1, u.2.2.2.2.2.2.2.1, u.2.2.2.2.2.2.2.2.1, u.2.2.2.2.2.2.2.2.2.1, u.2.2.2.2.2.2.2.2.2.2))) dX2_copyFrom_8 rfl rfl (fun _ => rfl) (fun _ => rfl) rfl rfl rfl (Nat.le_of_ble_eq_true rfl) ⟨(Nat.le_of_ble_eq_true rfl), (Nat.le_of_ble_eq_true rfl)⟩ rfl rfl ⟨Nat.le_refl _, Nat.le_refl _⟩ rfl (fun r8 hr8 => ?_)
  refine V_aload_n C 0 dX2_copyFrom_11 rfl rfl ?_
  refine V_get (v := .ref (a 8)) C fx2 0 1 kf_X2_21 (by decide) rfl rfl dX2_copyFrom_12 ?_
  refine V_aload_n C 1 dX2_copyFrom_15 rfl rfl ?_
  refine V_get (v := .ref (b 8)) C fx2 12 1 kf_X2_21 (by decide) rfl rfl dX2_copyFrom_16 ?_
  refine V_callWv (As := [.ref (b 8)]) (rest := []) (wc := WRR d (fun i => a (i + 8)) (fun i => b (i + 8)) (u.1.2.1, u.2.2.1)) (Wd := fun w => WRR d (fun i => a (i + 8)) (fun i => b (i + 8)) w) C (fun r h => ct_X4_copyFrom _ d (fun i => a (i + 8)) (fun i => b (i + 8)) (u.1.2.1, u.2.2.1) r h) kv_X4_copyFrom kl_X2_29 [8, 9, 10, 11, 20, 21, 22, 23] (fun w => WLL d a b ((r8.1, w.1, u.1.2.2.1, u.1.2.2.2.1, u.1.2.2.2.2.1, u.1.2.2.2.2.2.1, u.1.2.2.2.2.2.2.1, u.1.2.2.2.2.2.2.2.1, u.1.2.2.2.2.2.2.2.2.1, u.1.2.2.2.2.2.2.2.2.2), (r8.2, w.2, u.2.2.2.1, u.2.2.2.2.1, u.2.2.2.2.2.1, u.2.2.2.2.2.2.1, u.2.2.2.2.2.2.2.1, u.2.2.2.2.2.2.2.2.1, u.2.2.2.2.2.2.2.2.2.1, u.2.2.2.2.2.2.2.2.2.2))) dX2_copyFrom_19 rfl rfl (fun _ => rfl) (fun _ => rfl) rfl rfl rfl (Nat.le_of_ble_eq_true rfl) ⟨(Nat.le_of_ble_eq_true rfl), (Nat.le_of_ble_eq_true rfl)⟩ rfl rfl ⟨Nat.le_refl _, Nat.le_refl _⟩ rfl (fun r19 hr19 => ?_)
  refine V_aload_n C 0 dX2_copyFrom_22 rfl rfl ?_
  refine V_aload_n C 1 dX2_copyFrom_23 rfl rfl ?_
  refine V_get (v := .int u.2.2.2.1) C fx2 12 2 kf_X2_32 (by decide) rfl rfl dX2_copyFrom_24 ?_
  refine V_putI (ws' := WLL d a b ((r8.1, r19.1, u.2.2.2.1, u.1.2.2.2.1, u.1.2.2.2.2.1, u.1.2.2.2.2.2.1, u.1.2.2.2.2.2.2.1, u.1.2.2.2.2.2.2.2.1, u.1.2.2.2.2.2.2.2.2.1, u.1.2.2.2.2.2.2.2.2.2), (r8.2, r19.2, u.2.2.2.1, u.2.2.2.2.1, u.2.2.2.2.2.1, u.2.2.2.2.2.2.1, u.2.2.2.2.2.2.2.1, u.2.2.2.2.2.2.2.2.1, u.2.2.2.2.2.2.2.2.2.1, u.2.2.2.2.2.2.2.2.2.2))) C fx2 0 2 kf_X2_32 (by decide) rfl rfl rfl (Nat.le_of_ble_eq_true rfl) rfl dX2_copyFrom_27 ?_
  refine V_aload_n C 0 dX2_copyFrom_30 rfl rfl ?_
  refine V_aload_n C 1 dX2_copyFrom_31 rfl rfl ?_
  refine V_get (v := .int u.2.2.2.2.1) C fx2 12 3 kf_X2_36 (by decide) rfl rfl dX2_copyFrom_32 ?_
  refine V_putZ (ws' := WLL d a b ((r8.1, r19.1, u.2.2.2.1, u.2.2.2.2.1, u.1.2.2.2.2.1, u.1.2.2.2.2.2.1, u.1.2.2.2.2.2.2.1, u.1.2.2.2.2.2.2.2.1, u.1.2.2.2.2.2.2.2.2.1, u.1.2.2.2.2.2.2.2.2.2), (r8.2, r19.2, u.2.2.2.1, u.2.2.2.2.1, u.2.2.2.2.2.1, u.2.2.2.2.2.2.1, u.2.2.2.2.2.2.2.1, u.2.2.2.2.2.2.2.2.1, u.2.2.2.2.2.2.2.2.2.1, u.2.2.2.2.2.2.2.2.2.2))) C fx2 0 3 kf_X2_36 (by decide) rfl rfl rfl (Nat.le_of_ble_eq_true rfl) rfl dX2_copyFrom_35 ?_
  refine V_aload_n C 0 dX2_copyFrom_38 rfl rfl ?_
  refine V_aload_n C 1 dX2_copyFrom_39 rfl rfl ?_
  refine V_get (v := .int u.2.2.2.2.2.1) C fx2 12 4 kf_X2_40 (by decide) rfl rfl dX2_copyFrom_40 ?_
  refine V_putI (ws' := WLL d a b ((r8.1, r19.1, u.2.2.2.1, u.2.2.2.2.1, u.2.2.2.2.2.1, u.1.2.2.2.2.2.1, u.1.2.2.2.2.2.2.1, u.1.2.2.2.2.2.2.2.1, u.1.2.2.2.2.2.2.2.2.1, u.1.2.2.2.2.2.2.2.2.2), (r8.2, r19.2, u.2.2.2.1, u.2.2.2.2.1, u.2.2.2.2.2.1, u.2.2.2.2.2.2.1, u.2.2.2.2.2.2.2.1, u.2.2.2.2.2.2.2.2.1, u.2.2.2.2.2.2.2.2.2.1, u.2.2.2.2.2.2.2.2.2.2))) C fx2 0 4 kf_X2_40 (by decide) rfl rfl rfl (Nat.le_of_ble_eq_true rfl) rfl dX2_copyFrom_43 ?_
  refine V_aload_n C 0 dX2_copyFrom_46 rfl rfl ?_
  refine V_aload_n C 1 dX2_copyFrom_47 rfl rfl ?_
  refine V_get (v := .int u.2.2.2.2.2.2.1) C fx2 12 5 kf_X2_43 (by decide) rfl rfl dX2_copyFrom_48 ?_
  refine V_putI (ws' := WLL d a b ((r8.1, r19.1, u.2.2.2.1, u.2.2.2.2.1, u.2.2.2.2.2.1, u.2.2.2.2.2.2.1, u.1.2.2.2.2.2.2.1, u.1.2.2.2.2.2.2.2.1, u.1.2.2.2.2.2.2.2.2.1, u.1.2.2.2.2.2.2.2.2.2), (r8.2, r19.2, u.2.2.2.1, u.2.2.2.2.1, u.2.2.2.2.2.1, u.2.2.2.2.2.2.1, u.2.2.2.2.2.2.2.1, u.2.2.2.2.2.2.2.2.1, u.2.2.2.2.2.2.2.2.2.1, u.2.2.2.2.2.2.2.2.2.2))) C fx2 0 5 kf_X2_43 (by decide) rfl rfl rfl (Nat.le_of_ble_eq_true rfl) rfl dX2_copyFrom_51 ?_
  refine V_aload_n C 0 dX2_copyFrom_54 rfl rfl ?_
  refine V_aload_n C 1 dX2_copyFrom_55 rfl rfl ?_
  refine V_get (v := .int u.2.2.2.2.2.2.2.1) C fx2 12 6 kf_X2_46 (by decide) rfl rfl dX2_copyFrom_56 ?_
  refine V_putI (ws' := WLL d a b ((r8.1, r19.1, u.2.2.2.1, u.2.2.2.2.1, u.2.2.2.2.2.1, u.2.2.2.2.2.2.1, u.2.2.2.2.2.2.2.1, u.1.2.2.2.2.2.2.2.1, u.1.2.2.2.2.2.2.2.2.1, u.1.2.2.2.2.2.2.2.2.2), (r8.2, r19.2, u.2.2.2.1, u.2.2.2.2.1, u.2.2.2.2.2.1, u.2.2.2.2.2.2.1, u.2.2.2.2.2.2.2.1, u.2.2.2.2.2.2.2.2.1, u.2.2.2.2.2.2.2.2.2.1, u.2.2.2.2.2.2.2.2.2.2))) C fx2 0 6 kf_X2_46 (by decide) rfl rfl rfl (Nat.le_of_ble_eq_true rfl) rfl dX2_copyFrom_59 ?_
  refine V_aload_n C 0 dX2_copyFrom_62 rfl rfl ?_
  refine V_aload_n C 1 dX2_copyFrom_63 rfl rfl ?_
  refine V_get (v := .int u.2.2.2.2.2.2.2.2.1) C fx2 12 7 kf_X2_49 (by decide) rfl rfl dX2_copyFrom_64 ?_
  refine V_putI (ws' := WLL d a b ((r8.1, r19.1, u.2.2.2.1, u.2.2.2.2.1, u.2.2.2.2.2.1, u.2.2.2.2.2.2.1, u.2.2.2.2.2.2.2.1, u.2.2.2.2.2.2.2.2.1, u.1.2.2.2.2.2.2.2.2.1, u.1.2.2.2.2.2.2.2.2.2), (r8.2, r19.2, u.2.2.2.1, u.2.2.2.2.1, u.2.2.2.2.2.1, u.2.2.2.2.2.2.1, u.2.2.2.2.2.2.2.1, u.2.2.2.2.2.2.2.2.1, u.2.2.2.2.2.2.2.2.2.1, u.2.2.2.2.2.2.2.2.2.2))) C fx2 0 7 kf_X2_49 (by decide) rfl rfl rfl (Nat.le_of_ble_eq_true rfl) rfl dX2_copyFrom_67 ?_
  refine V_aload_n C 0 dX2_copyFrom_70 rfl rfl ?_
  refine V_aload_n C 1 dX2_copyFrom_71 rfl rfl ?_
  refine V_get (v := .int u.2.2.2.2.2.2.2.2.2.1) C fx2 12 8 kf_X2_52 (by decide) rfl rfl dX2_copyFrom_72 ?_
  refine V_putI (ws' := WLL d a b ((r8.1, r19.1, u.2.2.2.1, u.2.2.2.2.1, u.2.2.2.2.2.1, u.2.2.2.2.2.2.1, u.2.2.2.2.2.2.2.1, u.2.2.2.2.2.2.2.2.1, u.2.2.2.2.2.2.2.2.2.1, u.1.2.2.2.2.2.2.2.2.2), (r8.2, r19.2, u.2.2.2.1, u.2.2.2.2.1, u.2.2.2.2.2.1, u.2.2.2.2.2.2.1, u.2.2.2.2.2.2.2.1, u.2.2.2.2.2.2.2.2.1, u.2.2.2.2.2.2.2.2.2.1, u.2.2.2.2.2.2.2.2.2.2))) C fx2 0 8 kf_X2_52 (by decide) rfl rfl rfl (Nat.le_of_ble_eq_true rfl) rfl dX2_copyFrom_75 ?_
  refine V_aload_n C 0 dX2_copyFrom_78 rfl rfl ?_
  refine V_aload_n C 1 dX2_copyFrom_79 rfl rfl ?_
  refine V_get (v := .int u.2.2.2.2.2.2.2.2.2.2) C fx2 12 9 kf_X2_55 (by decide) rfl rfl dX2_copyFrom_80 ?_
  refine V_putI (ws' := WLL d a b ((r8.1, r19.1, u.2.2.2.1, u.2.2.2.2.1, u.2.2.2.2.2.1, u.2.2.2.2.2.2.1, u.2.2.2.2.2.2.2.1, u.2.2.2.2.2.2.2.2.1, u.2.2.2.2.2.2.2.2.2.1, u.2.2.2.2.2.2.2.2.2.2), (r8.2, r19.2, u.2.2.2.1, u.2.2.2.2.1, u.2.2.2.2.2.1, u.2.2.2.2.2.2.1, u.2.2.2.2.2.2.2.1, u.2.2.2.2.2.2.2.2.1, u.2.2.2.2.2.2.2.2.2.1, u.2.2.2.2.2.2.2.2.2.2))) C fx2 0 9 kf_X2_55 (by decide) rfl rfl rfl (Nat.le_of_ble_eq_true rfl) rfl dX2_copyFrom_83 ?_
  exact V_vretW (Wd := fun w => WLL d a b w) C hr hlk dX2_copyFrom_86 rfl
set_option maxRecDepth 20000 in
theorem ct_X2_copyFrom (l : Launch) (d : Dt) (a : Nat → Nat) (b : Nat → Nat) (u : (UL × UL)) (z : (UL × UL)) (h : f_X2_copyFrom u = some z) : CtW l d yX2_copyFrom cX2_copyFrom 2 none (rmF 3 114) [.ref (a 0), .ref (b 0)] (WLL d a b u) (WLL d a b z) none :=
  CtW.start (by decide) (Nat.le_of_ble_eq_true rfl) (by simp [Value.category]) [some (.ref (a 0)), some (.ref (b 0))] rfl (fun x A C hr hlk => V_eqv (fun _ => h) (v_X2_copyFrom C hr hlk z u))

/-! MastRobots$Library.addCartridge -/
def f_X2_addCartridge (u : UL) (p1 : Int32) (p2 : Int32) (p3 : Int32) : Option (Int32 × UL) :=
  ((f_X6_isIn p1 1 20).bind fun r4 => (if r4 = 0 then some ((-1000001), u) else ((f_X6_isShelf p2 p3).bind fun r12 => (if r12 = 0 then some ((-1000001), u) else ((f_X6_shelfSlot p2 p3).bind fun r23 => ((f_X0_inSlot u.1 r23).bind fun r34 => (if r34 = (-1) then ((f_X0_add u.1 p1 r23).bind fun r51 => some (r51.1, (r51.2, u.2.1, u.2.2.1, u.2.2.2.1, u.2.2.2.2.1, u.2.2.2.2.2.1, u.2.2.2.2.2.2.1, u.2.2.2.2.2.2.2.1, u.2.2.2.2.2.2.2.2.1, u.2.2.2.2.2.2.2.2.2))) else some ((-1000002), u))))))))
set_option maxRecDepth 20000 in
theorem v_X2_addCartridge {x : Am} {d : Dt} {A : Nat → Prop} {a : Nat → Nat} (C : Cx x cX2_addCartridge 5 yX2_addCartridge.cls d (Imu d A x.s.heap)) (hr : x.meth.sig.returnType = (some .int)) (hlk : x.meth.locks = false) (z : Int32 × UL) (u : UL) (p1 : Int32) (p2 : Int32) (p3 : Int32) : V x (rmF 2 46) 0 0 (MQ x.below (QW d A (WL d a z.2) (some (.int z.1))) x.args x.s 0 0 A) 5 (Imu d A x.s.heap) (f_X2_addCartridge u p1 p2 p3 = some z) 0 (WL d a u) [some (.ref (a 0)), some (.int p1), some (.int p2), some (.int p3), none] [] := by
  unfold f_X2_addCartridge
  refine V_iload_n C 1 dX2_addCartridge_0 rfl rfl ?_
  refine V_iconst (v := 1) C dX2_addCartridge_1 (by decide) ?_
  refine V_bipush (v := 20) C dX2_addCartridge_2 (by decide) ?_
  refine V_callNi (As := [.int p1, .int 1, .int 20]) (rest := []) (wc := []) C (fun r h => ct_X6_isIn _ d p1 1 20 r h) ks_X6_isIn kn_X2_58 [] dX2_addCartridge_4 rfl rfl (Nat.le_of_ble_eq_true rfl) ⟨(Nat.le_of_ble_eq_true rfl), (Nat.le_of_ble_eq_true rfl)⟩ rfl rfl ⟨Nat.le_refl _, Nat.le_refl _⟩ rfl (fun r4 hr4 => ?_)
  refine V_if_eq (tgt := 18) C dX2_addCartridge_7 (by decide) ?_ ?_
  · refine V_ldc C kc_X2_66 dX2_addCartridge_18 ?_
    exact V_iretW (Wd := fun w => WL d a w) C hr hlk dX2_addCartridge_20 rfl
  · refine V_iload_n C 2 dX2_addCartridge_10 rfl rfl ?_
    refine V_iload_n C 3 dX2_addCartridge_11 rfl rfl ?_
    refine V_callNi (As := [.int p2, .int p3]) (rest := []) (wc := []) C (fun r h => ct_X6_isShelf _ d p2 p3 r h) ks_X6_isShelf kn_X2_62 [] dX2_addCartridge_12 rfl rfl (Nat.le_of_ble_eq_true rfl) ⟨(Nat.le_of_ble_eq_true rfl), (Nat.le_of_ble_eq_true rfl)⟩ rfl rfl ⟨Nat.le_refl _, Nat.le_refl _⟩ rfl (fun r12 hr12 => ?_)
    refine V_if_ne (tgt := 21) C dX2_addCartridge_15 (by decide) ?_ ?_
    · refine V_iload_n C 2 dX2_addCartridge_21 rfl rfl ?_
      refine V_iload_n C 3 dX2_addCartridge_22 rfl rfl ?_
      refine V_callNi (As := [.int p2, .int p3]) (rest := []) (wc := []) C (fun r h => ct_X6_shelfSlot _ d p2 p3 r h) ks_X6_shelfSlot kn_X2_67 [] dX2_addCartridge_23 rfl rfl (Nat.le_of_ble_eq_true rfl) ⟨(Nat.le_of_ble_eq_true rfl), (Nat.le_of_ble_eq_true rfl)⟩ rfl rfl ⟨Nat.le_refl _, Nat.le_refl _⟩ rfl (fun r23 hr23 => ?_)
      refine V_istore (lv' := [some (.ref (a 0)), some (.int p1), some (.int p2), some (.int p3), some (.int r23)]) C dX2_addCartridge_26 (by decide) rfl ?_
      refine V_aload_n C 0 dX2_addCartridge_28 rfl rfl ?_
      refine V_get (v := .ref (a 1)) C fx2 0 0 kf_X2_12 (by decide) rfl rfl dX2_addCartridge_29 ?_
      refine V_iload C dX2_addCartridge_32 rfl ?_
      refine V_callRi (As := [.int r23]) (rest := []) (wc := WC d (fun i => a (i + 1)) u.1) C (fun r h => ct_X0_inSlot _ d (fun i => a (i + 1)) u.1 r23 r h) kv_X0_inSlot kl_X2_71 [1, 2, 3, 4, 5, 6, 7] dX2_addCartridge_34 rfl rfl rfl rfl (Nat.le_of_ble_eq_true rfl) ⟨(Nat.le_of_ble_eq_true rfl), (Nat.le_of_ble_eq_true rfl)⟩ rfl rfl ⟨Nat.le_refl _, Nat.le_refl _⟩ rfl (fun r34 hr34 => ?_)
      refine V_iconst (v := (-1)) C dX2_addCartridge_37 (by decide) ?_
      refine V_icmp_eq (tgt := 44) C dX2_addCartridge_38 (by decide) ?_ ?_
      · refine V_aload_n C 0 dX2_addCartridge_44 rfl rfl ?_
        refine V_get (v := .ref (a 1)) C fx2 0 0 kf_X2_12 (by decide) rfl rfl dX2_addCartridge_45 ?_
        refine V_iload_n C 1 dX2_addCartridge_48 rfl rfl ?_
        refine V_iload C dX2_addCartridge_49 rfl ?_
        refine V_callWi (As := [.int p1, .int r23]) (rest := []) (wc := WC d (fun i => a (i + 1)) u.1) (Wd := fun w => WC d (fun i => a (i + 1)) w) C (fun r h => ct_X0_add _ d (fun i => a (i + 1)) u.1 p1 r23 r h) kv_X0_add kl_X2_76 [1, 2, 3, 4, 5, 6, 7] (fun w => WL d a (w, u.2.1, u.2.2.1, u.2.2.2.1, u.2.2.2.2.1, u.2.2.2.2.2.1, u.2.2.2.2.2.2.1, u.2.2.2.2.2.2.2.1, u.2.2.2.2.2.2.2.2.1, u.2.2.2.2.2.2.2.2.2)) dX2_addCartridge_51 rfl rfl (fun _ => rfl) (fun _ => rfl) rfl rfl rfl (Nat.le_of_ble_eq_true rfl) ⟨(Nat.le_of_ble_eq_true rfl), (Nat.le_of_ble_eq_true rfl)⟩ rfl rfl ⟨Nat.le_refl _, Nat.le_refl _⟩ rfl (fun r51 hr51 => ?_)
        exact V_iretW (Wd := fun w => WL d a w) C hr hlk dX2_addCartridge_54 rfl
      · refine V_ldc C kc_X2_75 dX2_addCartridge_41 ?_
        exact V_iretW (Wd := fun w => WL d a w) C hr hlk dX2_addCartridge_43 rfl
    · refine V_ldc C kc_X2_66 dX2_addCartridge_18 ?_
      exact V_iretW (Wd := fun w => WL d a w) C hr hlk dX2_addCartridge_20 rfl
set_option maxRecDepth 20000 in
theorem ct_X2_addCartridge (l : Launch) (d : Dt) (a : Nat → Nat) (u : UL) (p1 : Int32) (p2 : Int32) (p3 : Int32) (z : Int32 × UL) (h : f_X2_addCartridge u p1 p2 p3 = some z) : CtW l d yX2_addCartridge cX2_addCartridge 5 (some .int) (rmF 2 46) [.ref (a 0), .int p1, .int p2, .int p3] (WL d a u) (WL d a z.2) (some (.int z.1)) :=
  CtW.start (by decide) (Nat.le_of_ble_eq_true rfl) (by simp [Value.category]) [some (.ref (a 0)), some (.int p1), some (.int p2), some (.int p3), none] rfl (fun x A C hr hlk => V_eqv (fun _ => h) (v_X2_addCartridge C hr hlk z u p1 p2 p3))

/-! MastRobots$Library.exchange -/
def f_X2_exchange_b106 (u : UL) (v1 : Int32) (v5 : Int32) (s0 : Int32) : Option (Int32 × UL) :=
  (if s0 = 0 then some ((-1000002), u) else ((f_X0_moveTo u.1 v1 v5).bind fun r123 => ((f_X0_withNeighbors r123).bind fun r130 => some (r130, (r123, u.2.1, u.2.2.1, u.2.2.2.1, u.2.2.2.2.1, u.2.2.2.2.2.1, u.2.2.2.2.2.2.1, u.2.2.2.2.2.2.2.1, u.2.2.2.2.2.2.2.2.1, u.2.2.2.2.2.2.2.2.2)))))
def f_X2_exchange_b105 (u : UL) (v1 : Int32) (v5 : Int32) : Option (Int32 × UL) :=
  f_X2_exchange_b106 u v1 v5 0
def f_X2_exchange_b58 (u : UL) (v1 : Int32) (v4 : Int32) (s0 : Int32) : Option (Int32 × UL) :=
  (if v4 = 0 then ((f_X0_slotOf u.1 v1).bind fun r81 => (if r81 = (-1) then ((f_X0_inSlot u.1 s0).bind fun r94 => (if r94 = (-1) then f_X2_exchange_b106 u v1 s0 1 else f_X2_exchange_b105 u v1 s0)) else f_X2_exchange_b105 u v1 s0)) else ((f_X0_isOnShelf u.1 v1).bind fun r70 => f_X2_exchange_b106 u v1 s0 r70))
def f_X2_exchange_b44 (u : UL) (v1 : Int32) (v2 : Int32) (v3 : Int32) (v4 : Int32) : Option (Int32 × UL) :=
  (if v4 = 0 then ((f_X6_shelfSlot v2 v3).bind fun r55 => f_X2_exchange_b58 u v1 v4 r55) else f_X2_exchange_b58 u v1 v4 (-1))
def f_X2_exchange_b15 (u : UL) (v1 : Int32) (v2 : Int32) (v3 : Int32) (s0 : Int32) : Option (Int32 × UL) :=
  ((f_X0_has u.1 v1).bind fun r22 => (if r22 = 0 then some ((-1000001), u) else (if s0 = 0 then ((f_X6_isShelf v2 v3).bind fun r35 => (if r35 = 0 then some ((-1000001), u) else f_X2_exchange_b44 u v1 v2 v3 s0)) else f_X2_exchange_b44 u v1 v2 v3 s0)))
def f_X2_exchange_b14 (u : UL) (v1 : Int32) (v2 : Int32) (v3 : Int32) : Option (Int32 × UL) :=
  f_X2_exchange_b15 u v1 v2 v3 0
def f_X2_exchange (u : UL) (p1 : Int32) (p2 : Int32) (p3 : Int32) : Option (Int32 × UL) :=
  (if p2 = (-1) then (if p3 = (-1) then f_X2_exchange_b15 u p1 p2 p3 1 else f_X2_exchange_b14 u p1 p2 p3) else f_X2_exchange_b14 u p1 p2 p3)
set_option maxRecDepth 20000 in
theorem v_X2_exchange_b106 {x : Am} {d : Dt} {A : Nat → Prop} {a : Nat → Nat} (C : Cx x cX2_exchange 7 yX2_exchange.cls d (Imu d A x.s.heap)) (hr : x.meth.sig.returnType = (some .int)) (hlk : x.meth.locks = false) (z : Int32 × UL) (u : UL) (v1 : Int32) (v5 : Int32) (s0 : Int32) : V x (rmF 2 43) 0 0 (MQ x.below (QW d A (WL d a z.2) (some (.int z.1))) x.args x.s 0 0 A) 7 (Imu d A x.s.heap) (f_X2_exchange_b106 u v1 v5 s0 = some z) 106 (WL d a u) [some (.ref (a 0)), some (.int v1), none, none, none, some (.int v5), none] [.int s0] := by
  unfold f_X2_exchange_b106
  refine V_istore (lv' := [some (.ref (a 0)), some (.int v1), none, none, none, some (.int v5), some (.int s0)]) C dX2_exchange_106 (by decide) rfl ?_
  refine V_iload C dX2_exchange_108 rfl ?_
  refine V_if_ne (tgt := 116) C dX2_exchange_110 (by decide) ?_ ?_
  · refine V_aload_n C 0 dX2_exchange_116 rfl rfl ?_
    refine V_get (v := .ref (a 1)) C fx2 0 0 kf_X2_12 (by decide) rfl rfl dX2_exchange_117 ?_
    refine V_iload_n C 1 dX2_exchange_120 rfl rfl ?_
    refine V_iload C dX2_exchange_121 rfl ?_
    refine V_callWv (As := [.int v1, .int v5]) (rest := []) (wc := WC d (fun i => a (i + 1)) u.1) (Wd := fun w => WC d (fun i => a (i + 1)) w) C (fun r h => ct_X0_moveTo _ d (fun i => a (i + 1)) u.1 v1 v5 r h) kv_X0_moveTo kl_X2_89 [1, 2, 3, 4, 5, 6, 7] (fun w => WL d a (w, u.2.1, u.2.2.1, u.2.2.2.1, u.2.2.2.2.1, u.2.2.2.2.2.1, u.2.2.2.2.2.2.1, u.2.2.2.2.2.2.2.1, u.2.2.2.2.2.2.2.2.1, u.2.2.2.2.2.2.2.2.2)) dX2_exchange_123 rfl rfl (fun _ => rfl) (fun _ => rfl) rfl rfl rfl (Nat.le_of_ble_eq_true rfl) ⟨(Nat.le_of_ble_eq_true rfl), (Nat.le_of_ble_eq_true rfl)⟩ rfl rfl ⟨Nat.le_refl _, Nat.le_refl _⟩ rfl (fun r123 hr123 => ?_)
    refine V_aload_n C 0 dX2_exchange_126 rfl rfl ?_
    refine V_get (v := .ref (a 1)) C fx2 0 0 kf_X2_12 (by decide) rfl rfl dX2_exchange_127 ?_
    refine V_callRi (As := []) (rest := []) (wc := WC d (fun i => a (i + 1)) r123) C (fun r h => ct_X0_withNeighbors _ d (fun i => a (i + 1)) r123 r h) kv_X0_withNeighbors kl_X2_93 [1, 2, 3, 4, 5, 6, 7] dX2_exchange_130 rfl rfl rfl rfl (Nat.le_of_ble_eq_true rfl) ⟨(Nat.le_of_ble_eq_true rfl), (Nat.le_of_ble_eq_true rfl)⟩ rfl rfl ⟨Nat.le_refl _, Nat.le_refl _⟩ rfl (fun r130 hr130 => ?_)
    exact V_iretW (Wd := fun w => WL d a w) C hr hlk dX2_exchange_133 rfl
  · refine V_ldc C kc_X2_75 dX2_exchange_113 ?_
    exact V_iretW (Wd := fun w => WL d a w) C hr hlk dX2_exchange_115 rfl
set_option maxRecDepth 20000 in
theorem v_X2_exchange_b105 {x : Am} {d : Dt} {A : Nat → Prop} {a : Nat → Nat} (C : Cx x cX2_exchange 7 yX2_exchange.cls d (Imu d A x.s.heap)) (hr : x.meth.sig.returnType = (some .int)) (hlk : x.meth.locks = false) (z : Int32 × UL) (u : UL) (v1 : Int32) (v5 : Int32) : V x (rmF 2 43) 0 0 (MQ x.below (QW d A (WL d a z.2) (some (.int z.1))) x.args x.s 0 0 A) 7 (Imu d A x.s.heap) (f_X2_exchange_b105 u v1 v5 = some z) 105 (WL d a u) [some (.ref (a 0)), some (.int v1), none, none, none, some (.int v5), none] [] := by
  unfold f_X2_exchange_b105
  refine V_iconst (v := 0) C dX2_exchange_105 (by decide) ?_
  exact v_X2_exchange_b106 C hr hlk z u v1 v5 0
set_option maxRecDepth 20000 in
theorem v_X2_exchange_b58 {x : Am} {d : Dt} {A : Nat → Prop} {a : Nat → Nat} (C : Cx x cX2_exchange 7 yX2_exchange.cls d (Imu d A x.s.heap)) (hr : x.meth.sig.returnType = (some .int)) (hlk : x.meth.locks = false) (z : Int32 × UL) (u : UL) (v1 : Int32) (v4 : Int32) (s0 : Int32) : V x (rmF 2 43) 0 0 (MQ x.below (QW d A (WL d a z.2) (some (.int z.1))) x.args x.s 0 0 A) 7 (Imu d A x.s.heap) (f_X2_exchange_b58 u v1 v4 s0 = some z) 58 (WL d a u) [some (.ref (a 0)), some (.int v1), none, none, some (.int v4), none, none] [.int s0] := by
  unfold f_X2_exchange_b58
  refine V_istore (lv' := [some (.ref (a 0)), some (.int v1), none, none, some (.int v4), some (.int s0), none]) C dX2_exchange_58 (by decide) rfl ?_
  refine V_iload C dX2_exchange_60 rfl ?_
  refine V_if_eq (tgt := 76) C dX2_exchange_62 (by decide) ?_ ?_
  · refine V_aload_n C 0 dX2_exchange_76 rfl rfl ?_
    refine V_get (v := .ref (a 1)) C fx2 0 0 kf_X2_12 (by decide) rfl rfl dX2_exchange_77 ?_
    refine V_iload_n C 1 dX2_exchange_80 rfl rfl ?_
    refine V_callRi (As := [.int v1]) (rest := []) (wc := WC d (fun i => a (i + 1)) u.1) C (fun r h => ct_X0_slotOf _ d (fun i => a (i + 1)) u.1 v1 r h) kv_X0_slotOf kl_X2_86 [1, 2, 3, 4, 5, 6, 7] dX2_exchange_81 rfl rfl rfl rfl (Nat.le_of_ble_eq_true rfl) ⟨(Nat.le_of_ble_eq_true rfl), (Nat.le_of_ble_eq_true rfl)⟩ rfl rfl ⟨Nat.le_refl _, Nat.le_refl _⟩ rfl (fun r81 hr81 => ?_)
    refine V_iconst (v := (-1)) C dX2_exchange_84 (by decide) ?_
    refine V_icmp_ne (tgt := 105) C dX2_exchange_85 (by decide) ?_ ?_
    · refine V_mask (lv' := [some (.ref (a 0)), some (.int v1), none, none, none, some (.int s0), none]) [true, true, true, true, false, true, true] rfl ?_
      exact v_X2_exchange_b105 C hr hlk z u v1 s0
    · refine V_aload_n C 0 dX2_exchange_88 rfl rfl ?_
      refine V_get (v := .ref (a 1)) C fx2 0 0 kf_X2_12 (by decide) rfl rfl dX2_exchange_89 ?_
      refine V_iload C dX2_exchange_92 rfl ?_
      refine V_callRi (As := [.int s0]) (rest := []) (wc := WC d (fun i => a (i + 1)) u.1) C (fun r h => ct_X0_inSlot _ d (fun i => a (i + 1)) u.1 s0 r h) kv_X0_inSlot kl_X2_71 [1, 2, 3, 4, 5, 6, 7] dX2_exchange_94 rfl rfl rfl rfl (Nat.le_of_ble_eq_true rfl) ⟨(Nat.le_of_ble_eq_true rfl), (Nat.le_of_ble_eq_true rfl)⟩ rfl rfl ⟨Nat.le_refl _, Nat.le_refl _⟩ rfl (fun r94 hr94 => ?_)
      refine V_iconst (v := (-1)) C dX2_exchange_97 (by decide) ?_
      refine V_icmp_ne (tgt := 105) C dX2_exchange_98 (by decide) ?_ ?_
      · refine V_mask (lv' := [some (.ref (a 0)), some (.int v1), none, none, none, some (.int s0), none]) [true, true, true, true, false, true, true] rfl ?_
        exact v_X2_exchange_b105 C hr hlk z u v1 s0
      · refine V_iconst (v := 1) C dX2_exchange_101 (by decide) ?_
        refine V_goto (tgt := 106) C dX2_exchange_102 (by decide) ?_
        refine V_mask (lv' := [some (.ref (a 0)), some (.int v1), none, none, none, some (.int s0), none]) [true, true, true, true, false, true, true] rfl ?_
        exact v_X2_exchange_b106 C hr hlk z u v1 s0 1
  · refine V_aload_n C 0 dX2_exchange_65 rfl rfl ?_
    refine V_get (v := .ref (a 1)) C fx2 0 0 kf_X2_12 (by decide) rfl rfl dX2_exchange_66 ?_
    refine V_iload_n C 1 dX2_exchange_69 rfl rfl ?_
    refine V_callRi (As := [.int v1]) (rest := []) (wc := WC d (fun i => a (i + 1)) u.1) C (fun r h => ct_X0_isOnShelf _ d (fun i => a (i + 1)) u.1 v1 r h) kv_X0_isOnShelf kl_X2_83 [1, 2, 3, 4, 5, 6, 7] dX2_exchange_70 rfl rfl rfl rfl (Nat.le_of_ble_eq_true rfl) ⟨(Nat.le_of_ble_eq_true rfl), (Nat.le_of_ble_eq_true rfl)⟩ rfl rfl ⟨Nat.le_refl _, Nat.le_refl _⟩ rfl (fun r70 hr70 => ?_)
    refine V_goto (tgt := 106) C dX2_exchange_73 (by decide) ?_
    refine V_mask (lv' := [some (.ref (a 0)), some (.int v1), none, none, none, some (.int s0), none]) [true, true, true, true, false, true, true] rfl ?_
    exact v_X2_exchange_b106 C hr hlk z u v1 s0 r70
set_option maxRecDepth 20000 in
theorem v_X2_exchange_b44 {x : Am} {d : Dt} {A : Nat → Prop} {a : Nat → Nat} (C : Cx x cX2_exchange 7 yX2_exchange.cls d (Imu d A x.s.heap)) (hr : x.meth.sig.returnType = (some .int)) (hlk : x.meth.locks = false) (z : Int32 × UL) (u : UL) (v1 : Int32) (v2 : Int32) (v3 : Int32) (v4 : Int32) : V x (rmF 2 43) 0 0 (MQ x.below (QW d A (WL d a z.2) (some (.int z.1))) x.args x.s 0 0 A) 7 (Imu d A x.s.heap) (f_X2_exchange_b44 u v1 v2 v3 v4 = some z) 44 (WL d a u) [some (.ref (a 0)), some (.int v1), some (.int v2), some (.int v3), some (.int v4), none, none] [] := by
  unfold f_X2_exchange_b44
  refine V_iload C dX2_exchange_44 rfl ?_
  refine V_if_eq (tgt := 53) C dX2_exchange_46 (by decide) ?_ ?_
  · refine V_iload_n C 2 dX2_exchange_53 rfl rfl ?_
    refine V_iload_n C 3 dX2_exchange_54 rfl rfl ?_
    refine V_callNi (As := [.int v2, .int v3]) (rest := []) (wc := []) C (fun r h => ct_X6_shelfSlot _ d v2 v3 r h) ks_X6_shelfSlot kn_X2_67 [] dX2_exchange_55 rfl rfl (Nat.le_of_ble_eq_true rfl) ⟨(Nat.le_of_ble_eq_true rfl), (Nat.le_of_ble_eq_true rfl)⟩ rfl rfl ⟨Nat.le_refl _, Nat.le_refl _⟩ rfl (fun r55 hr55 => ?_)
    refine V_mask (lv' := [some (.ref (a 0)), some (.int v1), none, none, some (.int v4), none, none]) [true, true, false, false, true, true, true] rfl ?_
    exact v_X2_exchange_b58 C hr hlk z u v1 v4 r55
  · refine V_iconst (v := (-1)) C dX2_exchange_49 (by decide) ?_
    refine V_goto (tgt := 58) C dX2_exchange_50 (by decide) ?_
    refine V_mask (lv' := [some (.ref (a 0)), some (.int v1), none, none, some (.int v4), none, none]) [true, true, false, false, true, true, true] rfl ?_
    exact v_X2_exchange_b58 C hr hlk z u v1 v4 (-1)
set_option maxRecDepth 20000 in
theorem v_X2_exchange_b15 {x : Am} {d : Dt} {A : Nat → Prop} {a : Nat → Nat} (C : Cx x cX2_exchange 7 yX2_exchange.cls d (Imu d A x.s.heap)) (hr : x.meth.sig.returnType = (some .int)) (hlk : x.meth.locks = false) (z : Int32 × UL) (u : UL) (v1 : Int32) (v2 : Int32) (v3 : Int32) (s0 : Int32) : V x (rmF 2 43) 0 0 (MQ x.below (QW d A (WL d a z.2) (some (.int z.1))) x.args x.s 0 0 A) 7 (Imu d A x.s.heap) (f_X2_exchange_b15 u v1 v2 v3 s0 = some z) 15 (WL d a u) [some (.ref (a 0)), some (.int v1), some (.int v2), some (.int v3), none, none, none] [.int s0] := by
  unfold f_X2_exchange_b15
  refine V_istore (lv' := [some (.ref (a 0)), some (.int v1), some (.int v2), some (.int v3), some (.int s0), none, none]) C dX2_exchange_15 (by decide) rfl ?_
  refine V_aload_n C 0 dX2_exchange_17 rfl rfl ?_
  refine V_get (v := .ref (a 1)) C fx2 0 0 kf_X2_12 (by decide) rfl rfl dX2_exchange_18 ?_
  refine V_iload_n C 1 dX2_exchange_21 rfl rfl ?_
  refine V_callRi (As := [.int v1]) (rest := []) (wc := WC d (fun i => a (i + 1)) u.1) C (fun r h => ct_X0_has _ d (fun i => a (i + 1)) u.1 v1 r h) kv_X0_has kl_X2_79 [1, 2, 3, 4, 5, 6, 7] dX2_exchange_22 rfl rfl rfl rfl (Nat.le_of_ble_eq_true rfl) ⟨(Nat.le_of_ble_eq_true rfl), (Nat.le_of_ble_eq_true rfl)⟩ rfl rfl ⟨Nat.le_refl _, Nat.le_refl _⟩ rfl (fun r22 hr22 => ?_)
  refine V_if_eq (tgt := 41) C dX2_exchange_25 (by decide) ?_ ?_
  · refine V_ldc C kc_X2_66 dX2_exchange_41 ?_
    exact V_iretW (Wd := fun w => WL d a w) C hr hlk dX2_exchange_43 rfl
  · refine V_iload C dX2_exchange_28 rfl ?_
    refine V_if_ne (tgt := 44) C dX2_exchange_30 (by decide) ?_ ?_
    · exact v_X2_exchange_b44 C hr hlk z u v1 v2 v3 s0
    · refine V_iload_n C 2 dX2_exchange_33 rfl rfl ?_
      refine V_iload_n C 3 dX2_exchange_34 rfl rfl ?_
      refine V_callNi (As := [.int v2, .int v3]) (rest := []) (wc := []) C (fun r h => ct_X6_isShelf _ d v2 v3 r h) ks_X6_isShelf kn_X2_62 [] dX2_exchange_35 rfl rfl (Nat.le_of_ble_eq_true rfl) ⟨(Nat.le_of_ble_eq_true rfl), (Nat.le_of_ble_eq_true rfl)⟩ rfl rfl ⟨Nat.le_refl _, Nat.le_refl _⟩ rfl (fun r35 hr35 => ?_)
      refine V_if_ne (tgt := 44) C dX2_exchange_38 (by decide) ?_ ?_
      · exact v_X2_exchange_b44 C hr hlk z u v1 v2 v3 s0
      · refine V_ldc C kc_X2_66 dX2_exchange_41 ?_
        exact V_iretW (Wd := fun w => WL d a w) C hr hlk dX2_exchange_43 rfl
set_option maxRecDepth 20000 in
theorem v_X2_exchange_b14 {x : Am} {d : Dt} {A : Nat → Prop} {a : Nat → Nat} (C : Cx x cX2_exchange 7 yX2_exchange.cls d (Imu d A x.s.heap)) (hr : x.meth.sig.returnType = (some .int)) (hlk : x.meth.locks = false) (z : Int32 × UL) (u : UL) (v1 : Int32) (v2 : Int32) (v3 : Int32) : V x (rmF 2 43) 0 0 (MQ x.below (QW d A (WL d a z.2) (some (.int z.1))) x.args x.s 0 0 A) 7 (Imu d A x.s.heap) (f_X2_exchange_b14 u v1 v2 v3 = some z) 14 (WL d a u) [some (.ref (a 0)), some (.int v1), some (.int v2), some (.int v3), none, none, none] [] := by
  unfold f_X2_exchange_b14
  refine V_iconst (v := 0) C dX2_exchange_14 (by decide) ?_
  exact v_X2_exchange_b15 C hr hlk z u v1 v2 v3 0
set_option maxRecDepth 20000 in
theorem v_X2_exchange {x : Am} {d : Dt} {A : Nat → Prop} {a : Nat → Nat} (C : Cx x cX2_exchange 7 yX2_exchange.cls d (Imu d A x.s.heap)) (hr : x.meth.sig.returnType = (some .int)) (hlk : x.meth.locks = false) (z : Int32 × UL) (u : UL) (p1 : Int32) (p2 : Int32) (p3 : Int32) : V x (rmF 2 43) 0 0 (MQ x.below (QW d A (WL d a z.2) (some (.int z.1))) x.args x.s 0 0 A) 7 (Imu d A x.s.heap) (f_X2_exchange u p1 p2 p3 = some z) 0 (WL d a u) [some (.ref (a 0)), some (.int p1), some (.int p2), some (.int p3), none, none, none] [] := by
  unfold f_X2_exchange
  refine V_iload_n C 2 dX2_exchange_0 rfl rfl ?_
  refine V_iconst (v := (-1)) C dX2_exchange_1 (by decide) ?_
  refine V_icmp_ne (tgt := 14) C dX2_exchange_2 (by decide) ?_ ?_
  · exact v_X2_exchange_b14 C hr hlk z u p1 p2 p3
  · refine V_iload_n C 3 dX2_exchange_5 rfl rfl ?_
    refine V_iconst (v := (-1)) C dX2_exchange_6 (by decide) ?_
    refine V_icmp_ne (tgt := 14) C dX2_exchange_7 (by decide) ?_ ?_
    · exact v_X2_exchange_b14 C hr hlk z u p1 p2 p3
    · refine V_iconst (v := 1) C dX2_exchange_10 (by decide) ?_
      refine V_goto (tgt := 15) C dX2_exchange_11 (by decide) ?_
      exact v_X2_exchange_b15 C hr hlk z u p1 p2 p3 1
set_option maxRecDepth 20000 in
theorem ct_X2_exchange (l : Launch) (d : Dt) (a : Nat → Nat) (u : UL) (p1 : Int32) (p2 : Int32) (p3 : Int32) (z : Int32 × UL) (h : f_X2_exchange u p1 p2 p3 = some z) : CtW l d yX2_exchange cX2_exchange 7 (some .int) (rmF 2 43) [.ref (a 0), .int p1, .int p2, .int p3] (WL d a u) (WL d a z.2) (some (.int z.1)) :=
  CtW.start (by decide) (Nat.le_of_ble_eq_true rfl) (by simp [Value.category]) [some (.ref (a 0)), some (.int p1), some (.int p2), some (.int p3), none, none, none] rfl (fun x A C hr hlk => V_eqv (fun _ => h) (v_X2_exchange C hr hlk z u p1 p2 p3))

/-! MastRobots$Library.ontoPile -/
def f_X2_ontoPile (u : UL) (p1 : Int32) (p2 : Int32) : Option (Int32 × UL) :=
  (if p1 = (-1) then some ((-1000002), u) else (if u.2.2.2.2.1 < 3 then ((f_X0_moveTo u.1 p1 (32 + u.2.2.2.2.1)).bind fun r31 => ((f_X0_weightOf r31 p1).bind fun r54 => some (p1, (r31, u.2.1, u.2.2.1, 0, (u.2.2.2.2.1 + 1), (u.2.2.2.2.2.1 + r54), u.2.2.2.2.2.2.1, (u.2.2.2.2.2.2.2.1 + p2), u.2.2.2.2.2.2.2.2.1, u.2.2.2.2.2.2.2.2.2)))) else some ((-1000003), u)))
set_option maxRecDepth 20000 in
theorem v_X2_ontoPile {x : Am} {d : Dt} {A : Nat → Prop} {a : Nat → Nat} (C : Cx x cX2_ontoPile 3 yX2_ontoPile.cls d (Imu d A x.s.heap)) (hr : x.meth.sig.returnType = (some .int)) (hlk : x.meth.locks = false) (z : Int32 × UL) (u : UL) (p1 : Int32) (p2 : Int32) : V x (rmF 1 23) 0 0 (MQ x.below (QW d A (WL d a z.2) (some (.int z.1))) x.args x.s 0 0 A) 3 (Imu d A x.s.heap) (f_X2_ontoPile u p1 p2 = some z) 0 (WL d a u) [some (.ref (a 0)), some (.int p1), some (.int p2)] [] := by
  unfold f_X2_ontoPile
  refine V_iload_n C 1 dX2_ontoPile_0 rfl rfl ?_
  refine V_iconst (v := (-1)) C dX2_ontoPile_1 (by decide) ?_
  refine V_icmp_ne (tgt := 8) C dX2_ontoPile_2 (by decide) ?_ ?_
  · refine V_aload_n C 0 dX2_ontoPile_8 rfl rfl ?_
    refine V_get (v := .int u.2.2.2.2.1) C fx2 0 4 kf_X2_40 (by decide) rfl rfl dX2_ontoPile_9 ?_
    refine V_iconst (v := 3) C dX2_ontoPile_12 (by decide) ?_
    refine V_icmp_lt (tgt := 19) C dX2_ontoPile_13 (by decide) ?_ ?_
    · refine V_aload_n C 0 dX2_ontoPile_19 rfl rfl ?_
      refine V_get (v := .ref (a 1)) C fx2 0 0 kf_X2_12 (by decide) rfl rfl dX2_ontoPile_20 ?_
      refine V_iload_n C 1 dX2_ontoPile_23 rfl rfl ?_
      refine V_bipush (v := 32) C dX2_ontoPile_24 (by decide) ?_
      refine V_aload_n C 0 dX2_ontoPile_26 rfl rfl ?_
      refine V_get (v := .int u.2.2.2.2.1) C fx2 0 4 kf_X2_40 (by decide) rfl rfl dX2_ontoPile_27 ?_
      refine V_iadd C dX2_ontoPile_30 ?_
      refine V_callWv (As := [.int p1, .int (32 + u.2.2.2.2.1)]) (rest := []) (wc := WC d (fun i => a (i + 1)) u.1) (Wd := fun w => WC d (fun i => a (i + 1)) w) C (fun r h => ct_X0_moveTo _ d (fun i => a (i + 1)) u.1 p1 (32 + u.2.2.2.2.1) r h) kv_X0_moveTo kl_X2_89 [1, 2, 3, 4, 5, 6, 7] (fun w => WL d a (w, u.2.1, u.2.2.1, u.2.2.2.1, u.2.2.2.2.1, u.2.2.2.2.2.1, u.2.2.2.2.2.2.1, u.2.2.2.2.2.2.2.1, u.2.2.2.2.2.2.2.2.1, u.2.2.2.2.2.2.2.2.2)) dX2_ontoPile_31 rfl rfl (fun _ => rfl) (fun _ => rfl) rfl rfl rfl (Nat.le_of_ble_eq_true rfl) ⟨(Nat.le_of_ble_eq_true rfl), (Nat.le_of_ble_eq_true rfl)⟩ rfl rfl ⟨Nat.le_refl _, Nat.le_refl _⟩ rfl (fun r31 hr31 => ?_)
      refine V_aload_n C 0 dX2_ontoPile_34 rfl rfl ?_
      refine V_dup C dX2_ontoPile_35 rfl ?_
      refine V_get (v := .int u.2.2.2.2.1) C fx2 0 4 kf_X2_40 (by decide) rfl rfl dX2_ontoPile_36 ?_
      refine V_iconst (v := 1) C dX2_ontoPile_39 (by decide) ?_
      refine V_iadd C dX2_ontoPile_40 ?_
      refine V_putI (ws' := WL d a (r31, u.2.1, u.2.2.1, u.2.2.2.1, (u.2.2.2.2.1 + 1), u.2.2.2.2.2.1, u.2.2.2.2.2.2.1, u.2.2.2.2.2.2.2.1, u.2.2.2.2.2.2.2.2.1, u.2.2.2.2.2.2.2.2.2)) C fx2 0 4 kf_X2_40 (by decide) rfl rfl rfl (Nat.le_of_ble_eq_true rfl) rfl dX2_ontoPile_41 ?_
      refine V_aload_n C 0 dX2_ontoPile_44 rfl rfl ?_
      refine V_dup C dX2_ontoPile_45 rfl ?_
      refine V_get (v := .int u.2.2.2.2.2.1) C fx2 0 5 kf_X2_43 (by decide) rfl rfl dX2_ontoPile_46 ?_
      refine V_aload_n C 0 dX2_ontoPile_49 rfl rfl ?_
      refine V_get (v := .ref (a 1)) C fx2 0 0 kf_X2_12 (by decide) rfl rfl dX2_ontoPile_50 ?_
      refine V_iload_n C 1 dX2_ontoPile_53 rfl rfl ?_
      refine V_callRi (As := [.int p1]) (rest := [.int u.2.2.2.2.2.1, .ref (a 0)]) (wc := WC d (fun i => a (i + 1)) r31) C (fun r h => ct_X0_weightOf _ d (fun i => a (i + 1)) r31 p1 r h) kv_X0_weightOf kl_X2_211 [1, 2, 3, 4, 5, 6, 7] dX2_ontoPile_54 rfl rfl rfl rfl (Nat.le_of_ble_eq_true rfl) ⟨(Nat.le_of_ble_eq_true rfl), (Nat.le_of_ble_eq_true rfl)⟩ rfl rfl ⟨Nat.le_refl _, Nat.le_refl _⟩ rfl (fun r54 hr54 => ?_)
      refine V_iadd C dX2_ontoPile_57 ?_
      refine V_putI (ws' := WL d a (r31, u.2.1, u.2.2.1, u.2.2.2.1, (u.2.2.2.2.1 + 1), (u.2.2.2.2.2.1 + r54), u.2.2.2.2.2.2.1, u.2.2.2.2.2.2.2.1, u.2.2.2.2.2.2.2.2.1, u.2.2.2.2.2.2.2.2.2)) C fx2 0 5 kf_X2_43 (by decide) rfl rfl rfl (Nat.le_of_ble_eq_true rfl) rfl dX2_ontoPile_58 ?_
      refine V_aload_n C 0 dX2_ontoPile_61 rfl rfl ?_
      refine V_iconst (v := 0) C dX2_ontoPile_62 (by decide) ?_
      refine V_putZc (ws' := WL d a (r31, u.2.1, u.2.2.1, 0, (u.2.2.2.2.1 + 1), (u.2.2.2.2.2.1 + r54), u.2.2.2.2.2.2.1, u.2.2.2.2.2.2.2.1, u.2.2.2.2.2.2.2.2.1, u.2.2.2.2.2.2.2.2.2)) C fx2 0 3 kf_X2_36 (by decide) rfl rfl rfl (Nat.le_of_ble_eq_true rfl) rfl (by decide) dX2_ontoPile_63 ?_
      refine V_aload_n C 0 dX2_ontoPile_66 rfl rfl ?_
      refine V_dup C dX2_ontoPile_67 rfl ?_
      refine V_get (v := .int u.2.2.2.2.2.2.2.1) C fx2 0 7 kf_X2_49 (by decide) rfl rfl dX2_ontoPile_68 ?_
      refine V_iload_n C 2 dX2_ontoPile_71 rfl rfl ?_
      refine V_iadd C dX2_ontoPile_72 ?_
      refine V_putI (ws' := WL d a (r31, u.2.1, u.2.2.1, 0, (u.2.2.2.2.1 + 1), (u.2.2.2.2.2.1 + r54), u.2.2.2.2.2.2.1, (u.2.2.2.2.2.2.2.1 + p2), u.2.2.2.2.2.2.2.2.1, u.2.2.2.2.2.2.2.2.2)) C fx2 0 7 kf_X2_49 (by decide) rfl rfl rfl (Nat.le_of_ble_eq_true rfl) rfl dX2_ontoPile_73 ?_
      refine V_iload_n C 1 dX2_ontoPile_76 rfl rfl ?_
      exact V_iretW (Wd := fun w => WL d a w) C hr hlk dX2_ontoPile_77 rfl
    · refine V_ldc C kc_X2_137 dX2_ontoPile_16 ?_
      exact V_iretW (Wd := fun w => WL d a w) C hr hlk dX2_ontoPile_18 rfl
  · refine V_ldc C kc_X2_75 dX2_ontoPile_5 ?_
    exact V_iretW (Wd := fun w => WL d a w) C hr hlk dX2_ontoPile_7 rfl
set_option maxRecDepth 20000 in
theorem ct_X2_ontoPile (l : Launch) (d : Dt) (a : Nat → Nat) (u : UL) (p1 : Int32) (p2 : Int32) (z : Int32 × UL) (h : f_X2_ontoPile u p1 p2 = some z) : CtW l d yX2_ontoPile cX2_ontoPile 3 (some .int) (rmF 1 23) [.ref (a 0), .int p1, .int p2] (WL d a u) (WL d a z.2) (some (.int z.1)) :=
  CtW.start (by decide) (Nat.le_of_ble_eq_true rfl) (by simp [Value.category]) [some (.ref (a 0)), some (.int p1), some (.int p2)] rfl (fun x A C hr hlk => V_eqv (fun _ => h) (v_X2_ontoPile C hr hlk z u p1 p2))

/-! MastRobots$Library.liftFrom -/
def f_X2_liftFrom (u : UL) (p1 : Int32) : Option (Int32 × UL) :=
  ((f_X6_isShelf u.2.2.1 p1).bind fun r5 => (if r5 = 0 then some ((-1000001), u) else ((f_X6_shelfSlot u.2.2.1 p1).bind fun r24 => ((f_X0_inSlot u.1 r24).bind fun r27 => ((f_X2_ontoPile u r27 1).bind fun r31 => some (r31.1, r31.2))))))
set_option maxRecDepth 20000 in
theorem v_X2_liftFrom {x : Am} {d : Dt} {A : Nat → Prop} {a : Nat → Nat} (C : Cx x cX2_liftFrom 2 yX2_liftFrom.cls d (Imu d A x.s.heap)) (hr : x.meth.sig.returnType = (some .int)) (hlk : x.meth.locks = false) (z : Int32 × UL) (u : UL) (p1 : Int32) : V x (rmF 2 45) 0 0 (MQ x.below (QW d A (WL d a z.2) (some (.int z.1))) x.args x.s 0 0 A) 2 (Imu d A x.s.heap) (f_X2_liftFrom u p1 = some z) 0 (WL d a u) [some (.ref (a 0)), some (.int p1)] [] := by
  unfold f_X2_liftFrom
  refine V_aload_n C 0 dX2_liftFrom_0 rfl rfl ?_
  refine V_get (v := .int u.2.2.1) C fx2 0 2 kf_X2_32 (by decide) rfl rfl dX2_liftFrom_1 ?_
  refine V_iload_n C 1 dX2_liftFrom_4 rfl rfl ?_
  refine V_callNi (As := [.int u.2.2.1, .int p1]) (rest := []) (wc := []) C (fun r h => ct_X6_isShelf _ d u.2.2.1 p1 r h) ks_X6_isShelf kn_X2_62 [] dX2_liftFrom_5 rfl rfl (Nat.le_of_ble_eq_true rfl) ⟨(Nat.le_of_ble_eq_true rfl), (Nat.le_of_ble_eq_true rfl)⟩ rfl rfl ⟨Nat.le_refl _, Nat.le_refl _⟩ rfl (fun r5 hr5 => ?_)
  refine V_if_ne (tgt := 14) C dX2_liftFrom_8 (by decide) ?_ ?_
  · refine V_aload_n C 0 dX2_liftFrom_14 rfl rfl ?_
    refine V_aload_n C 0 dX2_liftFrom_15 rfl rfl ?_
    refine V_get (v := .ref (a 1)) C fx2 0 0 kf_X2_12 (by decide) rfl rfl dX2_liftFrom_16 ?_
    refine V_aload_n C 0 dX2_liftFrom_19 rfl rfl ?_
    refine V_get (v := .int u.2.2.1) C fx2 0 2 kf_X2_32 (by decide) rfl rfl dX2_liftFrom_20 ?_
    refine V_iload_n C 1 dX2_liftFrom_23 rfl rfl ?_
    refine V_callNi (As := [.int u.2.2.1, .int p1]) (rest := [.ref (a 1), .ref (a 0)]) (wc := []) C (fun r h => ct_X6_shelfSlot _ d u.2.2.1 p1 r h) ks_X6_shelfSlot kn_X2_67 [] dX2_liftFrom_24 rfl rfl (Nat.le_of_ble_eq_true rfl) ⟨(Nat.le_of_ble_eq_true rfl), (Nat.le_of_ble_eq_true rfl)⟩ rfl rfl ⟨Nat.le_refl _, Nat.le_refl _⟩ rfl (fun r24 hr24 => ?_)
    refine V_callRi (As := [.int r24]) (rest := [.ref (a 0)]) (wc := WC d (fun i => a (i + 1)) u.1) C (fun r h => ct_X0_inSlot _ d (fun i => a (i + 1)) u.1 r24 r h) kv_X0_inSlot kl_X2_71 [1, 2, 3, 4, 5, 6, 7] dX2_liftFrom_27 rfl rfl rfl rfl (Nat.le_of_ble_eq_true rfl) ⟨(Nat.le_of_ble_eq_true rfl), (Nat.le_of_ble_eq_true rfl)⟩ rfl rfl ⟨Nat.le_refl _, Nat.le_refl _⟩ rfl (fun r27 hr27 => ?_)
    refine V_iconst (v := 1) C dX2_liftFrom_30 (by decide) ?_
    refine V_callWi (As := [.int r27, .int 1]) (rest := []) (wc := WL d a u) (Wd := fun w => WL d a w) C (fun r h => ct_X2_ontoPile _ d a u r27 1 r h) kv_X2_ontoPile kl_X2_97 [0, 1, 2, 3, 4, 5, 6, 7, 8, 9, 10, 11] (fun w => WL d a w) dX2_liftFrom_31 rfl rfl (fun _ => rfl) (fun _ => rfl) rfl rfl rfl (Nat.le_of_ble_eq_true rfl) ⟨(Nat.le_of_ble_eq_true rfl), (Nat.le_of_ble_eq_true rfl)⟩ rfl rfl ⟨Nat.le_refl _, Nat.le_refl _⟩ rfl (fun r31 hr31 => ?_)
    exact V_iretW (Wd := fun w => WL d a w) C hr hlk dX2_liftFrom_34 rfl
  · refine V_ldc C kc_X2_66 dX2_liftFrom_11 ?_
    exact V_iretW (Wd := fun w => WL d a w) C hr hlk dX2_liftFrom_13 rfl
set_option maxRecDepth 20000 in
theorem ct_X2_liftFrom (l : Launch) (d : Dt) (a : Nat → Nat) (u : UL) (p1 : Int32) (z : Int32 × UL) (h : f_X2_liftFrom u p1 = some z) : CtW l d yX2_liftFrom cX2_liftFrom 2 (some .int) (rmF 2 45) [.ref (a 0), .int p1] (WL d a u) (WL d a z.2) (some (.int z.1)) :=
  CtW.start (by decide) (Nat.le_of_ble_eq_true rfl) (by simp [Value.category]) [some (.ref (a 0)), some (.int p1)] rfl (fun x A C hr hlk => V_eqv (fun _ => h) (v_X2_liftFrom C hr hlk z u p1))

/-! MastRobots$Library.topOfPile -/
def f_X2_topOfPile (u : UL) : Option (Int32) :=
  (if u.2.2.2.2.1 ≤ 0 then some (-1) else ((f_X0_inSlot u.1 ((32 + u.2.2.2.2.1) - 1)).bind fun r20 => some r20))
set_option maxRecDepth 20000 in
theorem v_X2_topOfPile {x : Am} {d : Dt} {a : Nat → Nat} (C : Cx x cX2_topOfPile 1 yX2_topOfPile.cls d (Iro d x.s.heap)) (hr : x.meth.sig.returnType = (some .int)) (hlk : x.meth.locks = false) (z : Int32) (u : UL) : V x (rmF 1 21) 0 0 (MQ x.below (QR (some (.int z))) x.args x.s 0 0 (fun _ => False)) 1 (Iro d x.s.heap) (f_X2_topOfPile u = some z) 0 (WL d a u) [some (.ref (a 0))] [] := by
  unfold f_X2_topOfPile
  refine V_aload_n C 0 dX2_topOfPile_0 rfl rfl ?_
  refine V_get (v := .int u.2.2.2.2.1) C fx2 0 4 kf_X2_40 (by decide) rfl rfl dX2_topOfPile_1 ?_
  refine V_if_le (tgt := 26) C dX2_topOfPile_4 (by decide) ?_ ?_
  · refine V_iconst (v := (-1)) C dX2_topOfPile_26 (by decide) ?_
    exact V_iretR C hr hlk dX2_topOfPile_27
  · refine V_aload_n C 0 dX2_topOfPile_7 rfl rfl ?_
    refine V_get (v := .ref (a 1)) C fx2 0 0 kf_X2_12 (by decide) rfl rfl dX2_topOfPile_8 ?_
    refine V_bipush (v := 32) C dX2_topOfPile_11 (by decide) ?_
    refine V_aload_n C 0 dX2_topOfPile_13 rfl rfl ?_
    refine V_get (v := .int u.2.2.2.2.1) C fx2 0 4 kf_X2_40 (by decide) rfl rfl dX2_topOfPile_14 ?_
    refine V_iadd C dX2_topOfPile_17 ?_
    refine V_iconst (v := 1) C dX2_topOfPile_18 (by decide) ?_
    refine V_isub C dX2_topOfPile_19 ?_
    refine V_callRi (As := [.int ((32 + u.2.2.2.2.1) - 1)]) (rest := []) (wc := WC d (fun i => a (i + 1)) u.1) C (fun r h => ct_X0_inSlot _ d (fun i => a (i + 1)) u.1 ((32 + u.2.2.2.2.1) - 1) r h) kv_X0_inSlot kl_X2_71 [1, 2, 3, 4, 5, 6, 7] dX2_topOfPile_20 rfl rfl rfl rfl (Nat.le_of_ble_eq_true rfl) ⟨(Nat.le_of_ble_eq_true rfl), (Nat.le_of_ble_eq_true rfl)⟩ rfl rfl ⟨Nat.le_refl _, Nat.le_refl _⟩ rfl (fun r20 hr20 => ?_)
    refine V_goto (tgt := 27) C dX2_topOfPile_23 (by decide) ?_
    exact V_iretR C hr hlk dX2_topOfPile_27
set_option maxRecDepth 20000 in
theorem ct_X2_topOfPile (l : Launch) (d : Dt) (a : Nat → Nat) (u : UL) (z : Int32) (h : f_X2_topOfPile u = some z) : CtR l d yX2_topOfPile cX2_topOfPile 1 (some .int) (rmF 1 21) [.ref (a 0)] (WL d a u) (some (.int z)) :=
  CtR.start (by decide) (Nat.le_of_ble_eq_true rfl) (by simp [Value.category]) [some (.ref (a 0))] rfl (fun x C hr hlk => V_eqv (fun _ => h) (v_X2_topOfPile C hr hlk z u))

/-! MastRobots$Library.offPile -/
def f_X2_offPile (u : UL) (p1 : Int32) (p2 : Int32) (p3 : Int32) : Option (UL) :=
  ((f_X0_moveTo u.1 p1 p2).bind fun r6 => ((f_X0_weightOf r6 p1).bind fun r29 => some (r6, u.2.1, u.2.2.1, 0, (u.2.2.2.2.1 - 1), (u.2.2.2.2.2.1 - r29), u.2.2.2.2.2.2.1, (u.2.2.2.2.2.2.2.1 + p3), u.2.2.2.2.2.2.2.2.1, u.2.2.2.2.2.2.2.2.2)))
set_option maxRecDepth 20000 in
theorem v_X2_offPile {x : Am} {d : Dt} {A : Nat → Prop} {a : Nat → Nat} (C : Cx x cX2_offPile 4 yX2_offPile.cls d (Imu d A x.s.heap)) (hr : x.meth.sig.returnType = none) (hlk : x.meth.locks = false) (z : UL) (u : UL) (p1 : Int32) (p2 : Int32) (p3 : Int32) : V x (rmF 1 23) 0 0 (MQ x.below (QW d A (WL d a z) none) x.args x.s 0 0 A) 4 (Imu d A x.s.heap) (f_X2_offPile u p1 p2 p3 = some z) 0 (WL d a u) [some (.ref (a 0)), some (.int p1), some (.int p2), some (.int p3)] [] := by
  unfold f_X2_offPile
  refine V_aload_n C 0 dX2_offPile_0 rfl rfl ?_
  refine V_get (v := .ref (a 1)) C fx2 0 0 kf_X2_12 (by decide) rfl rfl dX2_offPile_1 ?_
  refine V_iload_n C 1 dX2_offPile_4 rfl rfl ?_
  refine V_iload_n C 2 dX2_offPile_5 rfl rfl ?_
  refine V_callWv (As := [.int p1, .int p2]) (rest := []) (wc := WC d (fun i => a (i + 1)) u.1) (Wd := fun w => WC d (fun i => a (i + 1)) w) C (fun r h => ct_X0_moveTo _ d (fun i => a (i + 1)) u.1 p1 p2 r h) kv_X0_moveTo kl_X2_89 [1, 2, 3, 4, 5, 6, 7] (fun w => WL d a (w, u.2.1, u.2.2.1, u.2.2.2.1, u.2.2.2.2.1, u.2.2.2.2.2.1, u.2.2.2.2.2.2.1, u.2.2.2.2.2.2.2.1, u.2.2.2.2.2.2.2.2.1, u.2.2.2.2.2.2.2.2.2)) dX2_offPile_6 rfl rfl (fun _ => rfl) (fun _ => rfl) rfl rfl rfl (Nat.le_of_ble_eq_true rfl) ⟨(Nat.le_of_ble_eq_true rfl), (Nat.le_of_ble_eq_true rfl)⟩ rfl rfl ⟨Nat.le_refl _, Nat.le_refl _⟩ rfl (fun r6 hr6 => ?_)
  refine V_aload_n C 0 dX2_offPile_9 rfl rfl ?_
  refine V_dup C dX2_offPile_10 rfl ?_
  refine V_get (v := .int u.2.2.2.2.1) C fx2 0 4 kf_X2_40 (by decide) rfl rfl dX2_offPile_11 ?_
  refine V_iconst (v := 1) C dX2_offPile_14 (by decide) ?_
  refine V_isub C dX2_offPile_15 ?_
  refine V_putI (ws' := WL d a (r6, u.2.1, u.2.2.1, u.2.2.2.1, (u.2.2.2.2.1 - 1), u.2.2.2.2.2.1, u.2.2.2.2.2.2.1, u.2.2.2.2.2.2.2.1, u.2.2.2.2.2.2.2.2.1, u.2.2.2.2.2.2.2.2.2)) C fx2 0 4 kf_X2_40 (by decide) rfl rfl rfl (Nat.le_of_ble_eq_true rfl) rfl dX2_offPile_16 ?_
  refine V_aload_n C 0 dX2_offPile_19 rfl rfl ?_
  refine V_dup C dX2_offPile_20 rfl ?_
  refine V_get (v := .int u.2.2.2.2.2.1) C fx2 0 5 kf_X2_43 (by decide) rfl rfl dX2_offPile_21 ?_
  refine V_aload_n C 0 dX2_offPile_24 rfl rfl ?_
  refine V_get (v := .ref (a 1)) C fx2 0 0 kf_X2_12 (by decide) rfl rfl dX2_offPile_25 ?_
  refine V_iload_n C 1 dX2_offPile_28 rfl rfl ?_
  refine V_callRi (As := [.int p1]) (rest := [.int u.2.2.2.2.2.1, .ref (a 0)]) (wc := WC d (fun i => a (i + 1)) r6) C (fun r h => ct_X0_weightOf _ d (fun i => a (i + 1)) r6 p1 r h) kv_X0_weightOf kl_X2_211 [1, 2, 3, 4, 5, 6, 7] dX2_offPile_29 rfl rfl rfl rfl (Nat.le_of_ble_eq_true rfl) ⟨(Nat.le_of_ble_eq_true rfl), (Nat.le_of_ble_eq_true rfl)⟩ rfl rfl ⟨Nat.le_refl _, Nat.le_refl _⟩ rfl (fun r29 hr29 => ?_)
  refine V_isub C dX2_offPile_32 ?_
  refine V_putI (ws' := WL d a (r6, u.2.1, u.2.2.1, u.2.2.2.1, (u.2.2.2.2.1 - 1), (u.2.2.2.2.2.1 - r29), u.2.2.2.2.2.2.1, u.2.2.2.2.2.2.2.1, u.2.2.2.2.2.2.2.2.1, u.2.2.2.2.2.2.2.2.2)) C fx2 0 5 kf_X2_43 (by decide) rfl rfl rfl (Nat.le_of_ble_eq_true rfl) rfl dX2_offPile_33 ?_
  refine V_aload_n C 0 dX2_offPile_36 rfl rfl ?_
  refine V_iconst (v := 0) C dX2_offPile_37 (by decide) ?_
  refine V_putZc (ws' := WL d a (r6, u.2.1, u.2.2.1, 0, (u.2.2.2.2.1 - 1), (u.2.2.2.2.2.1 - r29), u.2.2.2.2.2.2.1, u.2.2.2.2.2.2.2.1, u.2.2.2.2.2.2.2.2.1, u.2.2.2.2.2.2.2.2.2)) C fx2 0 3 kf_X2_36 (by decide) rfl rfl rfl (Nat.le_of_ble_eq_true rfl) rfl (by decide) dX2_offPile_38 ?_
  refine V_aload_n C 0 dX2_offPile_41 rfl rfl ?_
  refine V_dup C dX2_offPile_42 rfl ?_
  refine V_get (v := .int u.2.2.2.2.2.2.2.1) C fx2 0 7 kf_X2_49 (by decide) rfl rfl dX2_offPile_43 ?_
  refine V_iload_n C 3 dX2_offPile_46 rfl rfl ?_
  refine V_iadd C dX2_offPile_47 ?_
  refine V_putI (ws' := WL d a (r6, u.2.1, u.2.2.1, 0, (u.2.2.2.2.1 - 1), (u.2.2.2.2.2.1 - r29), u.2.2.2.2.2.2.1, (u.2.2.2.2.2.2.2.1 + p3), u.2.2.2.2.2.2.2.2.1, u.2.2.2.2.2.2.2.2.2)) C fx2 0 7 kf_X2_49 (by decide) rfl rfl rfl (Nat.le_of_ble_eq_true rfl) rfl dX2_offPile_48 ?_
  exact V_vretW (Wd := fun w => WL d a w) C hr hlk dX2_offPile_51 rfl
set_option maxRecDepth 20000 in
theorem ct_X2_offPile (l : Launch) (d : Dt) (a : Nat → Nat) (u : UL) (p1 : Int32) (p2 : Int32) (p3 : Int32) (z : UL) (h : f_X2_offPile u p1 p2 p3 = some z) : CtW l d yX2_offPile cX2_offPile 4 none (rmF 1 23) [.ref (a 0), .int p1, .int p2, .int p3] (WL d a u) (WL d a z) none :=
  CtW.start (by decide) (Nat.le_of_ble_eq_true rfl) (by simp [Value.category]) [some (.ref (a 0)), some (.int p1), some (.int p2), some (.int p3)] rfl (fun x A C hr hlk => V_eqv (fun _ => h) (v_X2_offPile C hr hlk z u p1 p2 p3))

/-! MastRobots$Library.layOn -/
def f_X2_layOn (u : UL) (p1 : Int32) : Option (Int32 × UL) :=
  ((f_X6_isShelf u.2.2.1 p1).bind fun r5 => (if r5 = 0 then some ((-1000001), u) else ((f_X6_shelfSlot u.2.2.1 p1).bind fun r19 => ((f_X2_topOfPile u).bind fun r24 => (if r24 = (-1) then some ((-1000002), u) else ((f_X0_inSlot u.1 r19).bind fun r38 => (if r38 = (-1) then ((f_X2_offPile u r24 r19 1).bind fun r52 => some (r24, r52)) else some ((-1000002), u))))))))
set_option maxRecDepth 20000 in
theorem v_X2_layOn {x : Am} {d : Dt} {A : Nat → Prop} {a : Nat → Nat} (C : Cx x cX2_layOn 4 yX2_layOn.cls d (Imu d A x.s.heap)) (hr : x.meth.sig.returnType = (some .int)) (hlk : x.meth.locks = false) (z : Int32 × UL) (u : UL) (p1 : Int32) : V x (rmF 2 46) 0 0 (MQ x.below (QW d A (WL d a z.2) (some (.int z.1))) x.args x.s 0 0 A) 4 (Imu d A x.s.heap) (f_X2_layOn u p1 = some z) 0 (WL d a u) [some (.ref (a 0)), some (.int p1), none, none] [] := by
  unfold f_X2_layOn
  refine V_aload_n C 0 dX2_layOn_0 rfl rfl ?_
  refine V_get (v := .int u.2.2.1) C fx2 0 2 kf_X2_32 (by decide) rfl rfl dX2_layOn_1 ?_
  refine V_iload_n C 1 dX2_layOn_4 rfl rfl ?_
  refine V_callNi (As := [.int u.2.2.1, .int p1]) (rest := []) (wc := []) C (fun r h => ct_X6_isShelf _ d u.2.2.1 p1 r h) ks_X6_isShelf kn_X2_62 [] dX2_layOn_5 rfl rfl (Nat.le_of_ble_eq_true rfl) ⟨(Nat.le_of_ble_eq_true rfl), (Nat.le_of_ble_eq_true rfl)⟩ rfl rfl ⟨Nat.le_refl _, Nat.le_refl _⟩ rfl (fun r5 hr5 => ?_)
  refine V_if_ne (tgt := 14) C dX2_layOn_8 (by decide) ?_ ?_
  · refine V_aload_n C 0 dX2_layOn_14 rfl rfl ?_
    refine V_get (v := .int u.2.2.1) C fx2 0 2 kf_X2_32 (by decide) rfl rfl dX2_layOn_15 ?_
    refine V_iload_n C 1 dX2_layOn_18 rfl rfl ?_
    refine V_callNi (As := [.int u.2.2.1, .int p1]) (rest := []) (wc := []) C (fun r h => ct_X6_shelfSlot _ d u.2.2.1 p1 r h) ks_X6_shelfSlot kn_X2_67 [] dX2_layOn_19 rfl rfl (Nat.le_of_ble_eq_true rfl) ⟨(Nat.le_of_ble_eq_true rfl), (Nat.le_of_ble_eq_true rfl)⟩ rfl rfl ⟨Nat.le_refl _, Nat.le_refl _⟩ rfl (fun r19 hr19 => ?_)
    refine V_istore_n (lv' := [some (.ref (a 0)), some (.int p1), some (.int r19), none]) C 2 dX2_layOn_22 rfl (by decide) rfl ?_
    refine V_aload_n C 0 dX2_layOn_23 rfl rfl ?_
    refine V_callRi (As := []) (rest := []) (wc := WL d a u) C (fun r h => ct_X2_topOfPile _ d a u r h) kv_X2_topOfPile kl_X2_100 [0, 1, 2, 3, 4, 5, 6, 7, 8, 9, 10, 11] dX2_layOn_24 rfl rfl rfl rfl (Nat.le_of_ble_eq_true rfl) ⟨(Nat.le_of_ble_eq_true rfl), (Nat.le_of_ble_eq_true rfl)⟩ rfl rfl ⟨Nat.le_refl _, Nat.le_refl _⟩ rfl (fun r24 hr24 => ?_)
    refine V_istore_n (lv' := [some (.ref (a 0)), some (.int p1), some (.int r19), some (.int r24)]) C 3 dX2_layOn_27 rfl (by decide) rfl ?_
    refine V_iload_n C 3 dX2_layOn_28 rfl rfl ?_
    refine V_iconst (v := (-1)) C dX2_layOn_29 (by decide) ?_
    refine V_icmp_eq (tgt := 45) C dX2_layOn_30 (by decide) ?_ ?_
    · refine V_ldc C kc_X2_75 dX2_layOn_45 ?_
      exact V_iretW (Wd := fun w => WL d a w) C hr hlk dX2_layOn_47 rfl
    · refine V_aload_n C 0 dX2_layOn_33 rfl rfl ?_
      refine V_get (v := .ref (a 1)) C fx2 0 0 kf_X2_12 (by decide) rfl rfl dX2_layOn_34 ?_
      refine V_iload_n C 2 dX2_layOn_37 rfl rfl ?_
      refine V_callRi (As := [.int r19]) (rest := []) (wc := WC d (fun i => a (i + 1)) u.1) C (fun r h => ct_X0_inSlot _ d (fun i => a (i + 1)) u.1 r19 r h) kv_X0_inSlot kl_X2_71 [1, 2, 3, 4, 5, 6, 7] dX2_layOn_38 rfl rfl rfl rfl (Nat.le_of_ble_eq_true rfl) ⟨(Nat.le_of_ble_eq_true rfl), (Nat.le_of_ble_eq_true rfl)⟩ rfl rfl ⟨Nat.le_refl _, Nat.le_refl _⟩ rfl (fun r38 hr38 => ?_)
      refine V_iconst (v := (-1)) C dX2_layOn_41 (by decide) ?_
      refine V_icmp_eq (tgt := 48) C dX2_layOn_42 (by decide) ?_ ?_
      · refine V_aload_n C 0 dX2_layOn_48 rfl rfl ?_
        refine V_iload_n C 3 dX2_layOn_49 rfl rfl ?_
        refine V_iload_n C 2 dX2_layOn_50 rfl rfl ?_
        refine V_iconst (v := 1) C dX2_layOn_51 (by decide) ?_
        refine V_callWv (As := [.int r24, .int r19, .int 1]) (rest := []) (wc := WL d a u) (Wd := fun w => WL d a w) C (fun r h => ct_X2_offPile _ d a u r24 r19 1 r h) kv_X2_offPile kl_X2_103 [0, 1, 2, 3, 4, 5, 6, 7, 8, 9, 10, 11] (fun w => WL d a w) dX2_layOn_52 rfl rfl (fun _ => rfl) (fun _ => rfl) rfl rfl rfl (Nat.le_of_ble_eq_true rfl) ⟨(Nat.le_of_ble_eq_true rfl), (Nat.le_of_ble_eq_true rfl)⟩ rfl rfl ⟨Nat.le_refl _, Nat.le_refl _⟩ rfl (fun r52 hr52 => ?_)
        refine V_iload_n C 3 dX2_layOn_55 rfl rfl ?_
        exact V_iretW (Wd := fun w => WL d a w) C hr hlk dX2_layOn_56 rfl
      · refine V_ldc C kc_X2_75 dX2_layOn_45 ?_
        exact V_iretW (Wd := fun w => WL d a w) C hr hlk dX2_layOn_47 rfl
  · refine V_ldc C kc_X2_66 dX2_layOn_11 ?_
    exact V_iretW (Wd := fun w => WL d a w) C hr hlk dX2_layOn_13 rfl
set_option maxRecDepth 20000 in
theorem ct_X2_layOn (l : Launch) (d : Dt) (a : Nat → Nat) (u : UL) (p1 : Int32) (z : Int32 × UL) (h : f_X2_layOn u p1 = some z) : CtW l d yX2_layOn cX2_layOn 4 (some .int) (rmF 2 46) [.ref (a 0), .int p1] (WL d a u) (WL d a z.2) (some (.int z.1)) :=
  CtW.start (by decide) (Nat.le_of_ble_eq_true rfl) (by simp [Value.category]) [some (.ref (a 0)), some (.int p1), none, none] rfl (fun x A C hr hlk => V_eqv (fun _ => h) (v_X2_layOn C hr hlk z u p1))

/-! MastRobots$Library.weighPallet -/
def f_X2_weighPallet (u : UL) : Option (Int32 × UL) :=
  some (u.2.2.2.2.2.1, (u.1, u.2.1, u.2.2.1, 1, u.2.2.2.2.1, u.2.2.2.2.2.1, u.2.2.2.2.2.2.1, (u.2.2.2.2.2.2.2.1 + 1), u.2.2.2.2.2.2.2.2.1, u.2.2.2.2.2.2.2.2.2))
set_option maxRecDepth 20000 in
theorem v_X2_weighPallet {x : Am} {d : Dt} {A : Nat → Prop} {a : Nat → Nat} (C : Cx x cX2_weighPallet 1 yX2_weighPallet.cls d (Imu d A x.s.heap)) (hr : x.meth.sig.returnType = (some .int)) (hlk : x.meth.locks = false) (z : Int32 × UL) (u : UL) : V x (rmF 0 0) 0 0 (MQ x.below (QW d A (WL d a z.2) (some (.int z.1))) x.args x.s 0 0 A) 1 (Imu d A x.s.heap) (f_X2_weighPallet u = some z) 0 (WL d a u) [some (.ref (a 0))] [] := by
  unfold f_X2_weighPallet
  refine V_aload_n C 0 dX2_weighPallet_0 rfl rfl ?_
  refine V_iconst (v := 1) C dX2_weighPallet_1 (by decide) ?_
  refine V_putZc (ws' := WL d a (u.1, u.2.1, u.2.2.1, 1, u.2.2.2.2.1, u.2.2.2.2.2.1, u.2.2.2.2.2.2.1, u.2.2.2.2.2.2.2.1, u.2.2.2.2.2.2.2.2.1, u.2.2.2.2.2.2.2.2.2)) C fx2 0 3 kf_X2_36 (by decide) rfl rfl rfl (Nat.le_of_ble_eq_true rfl) rfl (by decide) dX2_weighPallet_2 ?_
  refine V_aload_n C 0 dX2_weighPallet_5 rfl rfl ?_
  refine V_dup C dX2_weighPallet_6 rfl ?_
  refine V_get (v := .int u.2.2.2.2.2.2.2.1) C fx2 0 7 kf_X2_49 (by decide) rfl rfl dX2_weighPallet_7 ?_
  refine V_iconst (v := 1) C dX2_weighPallet_10 (by decide) ?_
  refine V_iadd C dX2_weighPallet_11 ?_
  refine V_putI (ws' := WL d a (u.1, u.2.1, u.2.2.1, 1, u.2.2.2.2.1, u.2.2.2.2.2.1, u.2.2.2.2.2.2.1, (u.2.2.2.2.2.2.2.1 + 1), u.2.2.2.2.2.2.2.2.1, u.2.2.2.2.2.2.2.2.2)) C fx2 0 7 kf_X2_49 (by decide) rfl rfl rfl (Nat.le_of_ble_eq_true rfl) rfl dX2_weighPallet_12 ?_
  refine V_aload_n C 0 dX2_weighPallet_15 rfl rfl ?_
  refine V_get (v := .int u.2.2.2.2.2.1) C fx2 0 5 kf_X2_43 (by decide) rfl rfl dX2_weighPallet_16 ?_
  exact V_iretW (Wd := fun w => WL d a w) C hr hlk dX2_weighPallet_19 rfl
set_option maxRecDepth 20000 in
theorem ct_X2_weighPallet (l : Launch) (d : Dt) (a : Nat → Nat) (u : UL) (z : Int32 × UL) (h : f_X2_weighPallet u = some z) : CtW l d yX2_weighPallet cX2_weighPallet 1 (some .int) (rmF 0 0) [.ref (a 0)] (WL d a u) (WL d a z.2) (some (.int z.1)) :=
  CtW.start (by decide) (Nat.le_of_ble_eq_true rfl) (by simp [Value.category]) [some (.ref (a 0))] rfl (fun x A C hr hlk => V_eqv (fun _ => h) (v_X2_weighPallet C hr hlk z u))

/-! MastRobots$Library.turnBy -/
def f_X2_turnBy (u : UL) (p1 : Int32) : Option (Int32 × UL) :=
  (if p1 = 0 then some ((-1000001), u) else ((f_X6_isIn p1 (-4) 4).bind fun r8 => (if r8 = 0 then some ((-1000001), u) else (if u.2.2.2.1 = 0 then some ((-1000002), u) else ((f_X6_mostWallsWith u.2.2.2.2.2.1).bind fun r34 => (if (jabs p1) ≤ r34 then some ((jrem ((u.2.2.1 + p1) + 8) 8), (u.1, u.2.1, (jrem ((u.2.2.1 + p1) + 8) 8), 0, u.2.2.2.2.1, u.2.2.2.2.2.1, u.2.2.2.2.2.2.1, (u.2.2.2.2.2.2.2.1 + ((jabs p1) * (1 + (u.2.2.2.2.2.1 / 10)))), (u.2.2.2.2.2.2.2.2.1 + 1), u.2.2.2.2.2.2.2.2.2)) else some ((-1000002), u)))))))
set_option maxRecDepth 20000 in
theorem v_X2_turnBy {x : Am} {d : Dt} {A : Nat → Prop} {a : Nat → Nat} (C : Cx x cX2_turnBy 3 yX2_turnBy.cls d (Imu d A x.s.heap)) (hr : x.meth.sig.returnType = (some .int)) (hlk : x.meth.locks = false) (z : Int32 × UL) (u : UL) (p1 : Int32) : V x (rmF 1 40) 0 0 (MQ x.below (QW d A (WL d a z.2) (some (.int z.1))) x.args x.s 0 0 A) 3 (Imu d A x.s.heap) (f_X2_turnBy u p1 = some z) 0 (WL d a u) [some (.ref (a 0)), some (.int p1), none] [] := by
  unfold f_X2_turnBy
  refine V_iload_n C 1 dX2_turnBy_0 rfl rfl ?_
  refine V_if_eq (tgt := 14) C dX2_turnBy_1 (by decide) ?_ ?_
  · refine V_ldc C kc_X2_66 dX2_turnBy_14 ?_
    exact V_iretW (Wd := fun w => WL d a w) C hr hlk dX2_turnBy_16 rfl
  · refine V_iload_n C 1 dX2_turnBy_4 rfl rfl ?_
    refine V_bipush (v := (-4)) C dX2_turnBy_5 (by decide) ?_
    refine V_iconst (v := 4) C dX2_turnBy_7 (by decide) ?_
    refine V_callNi (As := [.int p1, .int (-4), .int 4]) (rest := []) (wc := []) C (fun r h => ct_X6_isIn _ d p1 (-4) 4 r h) ks_X6_isIn kn_X2_58 [] dX2_turnBy_8 rfl rfl (Nat.le_of_ble_eq_true rfl) ⟨(Nat.le_of_ble_eq_true rfl), (Nat.le_of_ble_eq_true rfl)⟩ rfl rfl ⟨Nat.le_refl _, Nat.le_refl _⟩ rfl (fun r8 hr8 => ?_)
    refine V_if_ne (tgt := 17) C dX2_turnBy_11 (by decide) ?_ ?_
    · refine V_iload_n C 1 dX2_turnBy_17 rfl rfl ?_
      refine V_mabs C kl_X2_107 km_abs_st km_ini km_abs_code dX2_turnBy_18 ⟨(Nat.le_of_ble_eq_true rfl), (Nat.le_of_ble_eq_true rfl), Nat.zero_le _, Nat.zero_le _⟩ ?_
      refine V_istore_n (lv' := [some (.ref (a 0)), some (.int p1), some (.int (jabs p1))]) C 2 dX2_turnBy_21 rfl (by decide) rfl ?_
      refine V_aload_n C 0 dX2_turnBy_22 rfl rfl ?_
      refine V_get (v := .int u.2.2.2.1) C fx2 0 3 kf_X2_36 (by decide) rfl rfl dX2_turnBy_23 ?_
      refine V_if_eq (tgt := 40) C dX2_turnBy_26 (by decide) ?_ ?_
      · refine V_ldc C kc_X2_75 dX2_turnBy_40 ?_
        exact V_iretW (Wd := fun w => WL d a w) C hr hlk dX2_turnBy_42 rfl
      · refine V_iload_n C 2 dX2_turnBy_29 rfl rfl ?_
        refine V_aload_n C 0 dX2_turnBy_30 rfl rfl ?_
        refine V_get (v := .int u.2.2.2.2.2.1) C fx2 0 5 kf_X2_43 (by decide) rfl rfl dX2_turnBy_31 ?_
        refine V_callNi (As := [.int u.2.2.2.2.2.1]) (rest := [.int (jabs p1)]) (wc := []) C (fun r h => ct_X6_mostWallsWith _ d u.2.2.2.2.2.1 r h) ks_X6_mostWallsWith kn_X2_112 [] dX2_turnBy_34 rfl rfl (Nat.le_of_ble_eq_true rfl) ⟨(Nat.le_of_ble_eq_true rfl), (Nat.le_of_ble_eq_true rfl)⟩ rfl rfl ⟨Nat.le_refl _, Nat.le_refl _⟩ rfl (fun r34 hr34 => ?_)
        refine V_icmp_le (tgt := 43) C dX2_turnBy_37 (by decide) ?_ ?_
        · refine V_aload_n C 0 dX2_turnBy_43 rfl rfl ?_
          refine V_aload_n C 0 dX2_turnBy_44 rfl rfl ?_
          refine V_get (v := .int u.2.2.1) C fx2 0 2 kf_X2_32 (by decide) rfl rfl dX2_turnBy_45 ?_
          refine V_iload_n C 1 dX2_turnBy_48 rfl rfl ?_
          refine V_iadd C dX2_turnBy_49 ?_
          refine V_bipush (v := 8) C dX2_turnBy_50 (by decide) ?_
          refine V_iadd C dX2_turnBy_52 ?_
          refine V_bipush (v := 8) C dX2_turnBy_53 (by decide) ?_
          refine V_irem C dX2_turnBy_55 (by decide) ?_
          refine V_putI (ws' := WL d a (u.1, u.2.1, (jrem ((u.2.2.1 + p1) + 8) 8), u.2.2.2.1, u.2.2.2.2.1, u.2.2.2.2.2.1, u.2.2.2.2.2.2.1, u.2.2.2.2.2.2.2.1, u.2.2.2.2.2.2.2.2.1, u.2.2.2.2.2.2.2.2.2)) C fx2 0 2 kf_X2_32 (by decide) rfl rfl rfl (Nat.le_of_ble_eq_true rfl) rfl dX2_turnBy_56 ?_
          refine V_aload_n C 0 dX2_turnBy_59 rfl rfl ?_
          refine V_iconst (v := 0) C dX2_turnBy_60 (by decide) ?_
          refine V_putZc (ws' := WL d a (u.1, u.2.1, (jrem ((u.2.2.1 + p1) + 8) 8), 0, u.2.2.2.2.1, u.2.2.2.2.2.1, u.2.2.2.2.2.2.1, u.2.2.2.2.2.2.2.1, u.2.2.2.2.2.2.2.2.1, u.2.2.2.2.2.2.2.2.2)) C fx2 0 3 kf_X2_36 (by decide) rfl rfl rfl (Nat.le_of_ble_eq_true rfl) rfl (by decide) dX2_turnBy_61 ?_
          refine V_aload_n C 0 dX2_turnBy_64 rfl rfl ?_
          refine V_dup C dX2_turnBy_65 rfl ?_
          refine V_get (v := .int u.2.2.2.2.2.2.2.1) C fx2 0 7 kf_X2_49 (by decide) rfl rfl dX2_turnBy_66 ?_
          refine V_iload_n C 2 dX2_turnBy_69 rfl rfl ?_
          refine V_iconst (v := 1) C dX2_turnBy_70 (by decide) ?_
          refine V_aload_n C 0 dX2_turnBy_71 rfl rfl ?_
          refine V_get (v := .int u.2.2.2.2.2.1) C fx2 0 5 kf_X2_43 (by decide) rfl rfl dX2_turnBy_72 ?_
          refine V_bipush (v := 10) C dX2_turnBy_75 (by decide) ?_
          refine V_idiv C dX2_turnBy_77 (by decide) ?_
          refine V_iadd C dX2_turnBy_78 ?_
          refine V_imul C dX2_turnBy_79 ?_
          refine V_iadd C dX2_turnBy_80 ?_
          refine V_putI (ws' := WL d a (u.1, u.2.1, (jrem ((u.2.2.1 + p1) + 8) 8), 0, u.2.2.2.2.1, u.2.2.2.2.2.1, u.2.2.2.2.2.2.1, (u.2.2.2.2.2.2.2.1 + ((jabs p1) * (1 + (u.2.2.2.2.2.1 / 10)))), u.2.2.2.2.2.2.2.2.1, u.2.2.2.2.2.2.2.2.2)) C fx2 0 7 kf_X2_49 (by decide) rfl rfl rfl (Nat.le_of_ble_eq_true rfl) rfl dX2_turnBy_81 ?_
          refine V_aload_n C 0 dX2_turnBy_84 rfl rfl ?_
          refine V_dup C dX2_turnBy_85 rfl ?_
          refine V_get (v := .int u.2.2.2.2.2.2.2.2.1) C fx2 0 8 kf_X2_52 (by decide) rfl rfl dX2_turnBy_86 ?_
          refine V_iconst (v := 1) C dX2_turnBy_89 (by decide) ?_
          refine V_iadd C dX2_turnBy_90 ?_
          refine V_putI (ws' := WL d a (u.1, u.2.1, (jrem ((u.2.2.1 + p1) + 8) 8), 0, u.2.2.2.2.1, u.2.2.2.2.2.1, u.2.2.2.2.2.2.1, (u.2.2.2.2.2.2.2.1 + ((jabs p1) * (1 + (u.2.2.2.2.2.1 / 10)))), (u.2.2.2.2.2.2.2.2.1 + 1), u.2.2.2.2.2.2.2.2.2)) C fx2 0 8 kf_X2_52 (by decide) rfl rfl rfl (Nat.le_of_ble_eq_true rfl) rfl dX2_turnBy_91 ?_
          refine V_aload_n C 0 dX2_turnBy_94 rfl rfl ?_
          refine V_get (v := .int (jrem ((u.2.2.1 + p1) + 8) 8)) C fx2 0 2 kf_X2_32 (by decide) rfl rfl dX2_turnBy_95 ?_
          exact V_iretW (Wd := fun w => WL d a w) C hr hlk dX2_turnBy_98 rfl
        · refine V_ldc C kc_X2_75 dX2_turnBy_40 ?_
          exact V_iretW (Wd := fun w => WL d a w) C hr hlk dX2_turnBy_42 rfl
    · refine V_ldc C kc_X2_66 dX2_turnBy_14 ?_
      exact V_iretW (Wd := fun w => WL d a w) C hr hlk dX2_turnBy_16 rfl
set_option maxRecDepth 20000 in
theorem ct_X2_turnBy (l : Launch) (d : Dt) (a : Nat → Nat) (u : UL) (p1 : Int32) (z : Int32 × UL) (h : f_X2_turnBy u p1 = some z) : CtW l d yX2_turnBy cX2_turnBy 3 (some .int) (rmF 1 40) [.ref (a 0), .int p1] (WL d a u) (WL d a z.2) (some (.int z.1)) :=
  CtW.start (by decide) (Nat.le_of_ble_eq_true rfl) (by simp [Value.category]) [some (.ref (a 0)), some (.int p1), none] rfl (fun x A C hr hlk => V_eqv (fun _ => h) (v_X2_turnBy C hr hlk z u p1))

/-! MastRobots$Library.inDrive -/
def f_X2_inDrive (u : UL) (p1 : Int32) : Option (Int32) :=
  ((f_X0_inSlot u.1 (35 + p1)).bind fun r8 => some r8)
set_option maxRecDepth 20000 in
theorem v_X2_inDrive {x : Am} {d : Dt} {a : Nat → Nat} (C : Cx x cX2_inDrive 2 yX2_inDrive.cls d (Iro d x.s.heap)) (hr : x.meth.sig.returnType = (some .int)) (hlk : x.meth.locks = false) (z : Int32) (u : UL) (p1 : Int32) : V x (rmF 1 21) 0 0 (MQ x.below (QR (some (.int z))) x.args x.s 0 0 (fun _ => False)) 2 (Iro d x.s.heap) (f_X2_inDrive u p1 = some z) 0 (WL d a u) [some (.ref (a 0)), some (.int p1)] [] := by
  unfold f_X2_inDrive
  refine V_aload_n C 0 dX2_inDrive_0 rfl rfl ?_
  refine V_get (v := .ref (a 1)) C fx2 0 0 kf_X2_12 (by decide) rfl rfl dX2_inDrive_1 ?_
  refine V_bipush (v := 35) C dX2_inDrive_4 (by decide) ?_
  refine V_iload_n C 1 dX2_inDrive_6 rfl rfl ?_
  refine V_iadd C dX2_inDrive_7 ?_
  refine V_callRi (As := [.int (35 + p1)]) (rest := []) (wc := WC d (fun i => a (i + 1)) u.1) C (fun r h => ct_X0_inSlot _ d (fun i => a (i + 1)) u.1 (35 + p1) r h) kv_X0_inSlot kl_X2_71 [1, 2, 3, 4, 5, 6, 7] dX2_inDrive_8 rfl rfl rfl rfl (Nat.le_of_ble_eq_true rfl) ⟨(Nat.le_of_ble_eq_true rfl), (Nat.le_of_ble_eq_true rfl)⟩ rfl rfl ⟨Nat.le_refl _, Nat.le_refl _⟩ rfl (fun r8 hr8 => ?_)
  exact V_iretR C hr hlk dX2_inDrive_11
set_option maxRecDepth 20000 in
theorem ct_X2_inDrive (l : Launch) (d : Dt) (a : Nat → Nat) (u : UL) (p1 : Int32) (z : Int32) (h : f_X2_inDrive u p1 = some z) : CtR l d yX2_inDrive cX2_inDrive 2 (some .int) (rmF 1 21) [.ref (a 0), .int p1] (WL d a u) (some (.int z)) :=
  CtR.start (by decide) (Nat.le_of_ble_eq_true rfl) (by simp [Value.category]) [some (.ref (a 0)), some (.int p1)] rfl (fun x C hr hlk => V_eqv (fun _ => h) (v_X2_inDrive C hr hlk z u p1))

/-! MastRobots$Library.mountIn -/
def f_X2_mountIn (u : UL) (p1 : Int32) : Option (Int32 × UL) :=
  ((f_X6_isIn p1 0 1).bind fun r3 => (if r3 = 0 then some ((-1000001), u) else ((f_X2_topOfPile u).bind fun r13 => ((f_X6_wallOfDrive p1).bind fun r22 => (if u.2.2.1 = r22 then (if r13 = (-1) then some ((-1000002), u) else ((f_X2_inDrive u p1).bind fun r35 => (if r35 = (-1) then ((f_X0_isWorn u.1 r13).bind fun r47 => (if r47 = 0 then ((f_X2_offPile u r13 (35 + p1) 3).bind fun r63 => ((f_X4_removeHeldBy (r63.2.1, r63.1) r13).bind fun r75 => ((f_X0_countMounting r75.2.2 r13 r75.1).bind fun r85 => some (r75.1, (r85, r75.2.1, r63.2.2.1, r63.2.2.2.1, r63.2.2.2.2.1, r63.2.2.2.2.2.1, p1, r63.2.2.2.2.2.2.2.1, r63.2.2.2.2.2.2.2.2.1, (r63.2.2.2.2.2.2.2.2.2 + r75.1)))))) else some ((-1000002), u))) else some ((-1000002), u)))) else some ((-1000002), u))))))
set_option maxRecDepth 20000 in
theorem v_X2_mountIn {x : Am} {d : Dt} {A : Nat → Prop} {a : Nat → Nat} (C : Cx x cX2_mountIn 4 yX2_mountIn.cls d (Imu d A x.s.heap)) (hr : x.meth.sig.returnType = (some .int)) (hlk : x.meth.locks = false) (z : Int32 × UL) (u : UL) (p1 : Int32) : V x (rmF 2 47) 0 0 (MQ x.below (QW d A (WL d a z.2) (some (.int z.1))) x.args x.s 0 0 A) 4 (Imu d A x.s.heap) (f_X2_mountIn u p1 = some z) 0 (WL d a u) [some (.ref (a 0)), some (.int p1), none, none] [] := by
  unfold f_X2_mountIn
  refine V_iload_n C 1 dX2_mountIn_0 rfl rfl ?_
  refine V_iconst (v := 0) C dX2_mountIn_1 (by decide) ?_
  refine V_iconst (v := 1) C dX2_mountIn_2 (by decide) ?_
  refine V_callNi (As := [.int p1, .int 0, .int 1]) (rest := []) (wc := []) C (fun r h => ct_X6_isIn _ d p1 0 1 r h) ks_X6_isIn kn_X2_58 [] dX2_mountIn_3 rfl rfl (Nat.le_of_ble_eq_true rfl) ⟨(Nat.le_of_ble_eq_true rfl), (Nat.le_of_ble_eq_true rfl)⟩ rfl rfl ⟨Nat.le_refl _, Nat.le_refl _⟩ rfl (fun r3 hr3 => ?_)
  refine V_if_ne (tgt := 12) C dX2_mountIn_6 (by decide) ?_ ?_
  · refine V_aload_n C 0 dX2_mountIn_12 rfl rfl ?_
    refine V_callRi (As := []) (rest := []) (wc := WL d a u) C (fun r h => ct_X2_topOfPile _ d a u r h) kv_X2_topOfPile kl_X2_100 [0, 1, 2, 3, 4, 5, 6, 7, 8, 9, 10, 11] dX2_mountIn_13 rfl rfl rfl rfl (Nat.le_of_ble_eq_true rfl) ⟨(Nat.le_of_ble_eq_true rfl), (Nat.le_of_ble_eq_true rfl)⟩ rfl rfl ⟨Nat.le_refl _, Nat.le_refl _⟩ rfl (fun r13 hr13 => ?_)
    refine V_istore_n (lv' := [some (.ref (a 0)), some (.int p1), some (.int r13), none]) C 2 dX2_mountIn_16 rfl (by decide) rfl ?_
    refine V_aload_n C 0 dX2_mountIn_17 rfl rfl ?_
    refine V_get (v := .int u.2.2.1) C fx2 0 2 kf_X2_32 (by decide) rfl rfl dX2_mountIn_18 ?_
    refine V_iload_n C 1 dX2_mountIn_21 rfl rfl ?_
    refine V_callNi (As := [.int p1]) (rest := [.int u.2.2.1]) (wc := []) C (fun r h => ct_X6_wallOfDrive _ d p1 r h) ks_X6_wallOfDrive kn_X2_115 [] dX2_mountIn_22 rfl rfl (Nat.le_of_ble_eq_true rfl) ⟨(Nat.le_of_ble_eq_true rfl), (Nat.le_of_ble_eq_true rfl)⟩ rfl rfl ⟨Nat.le_refl _, Nat.le_refl _⟩ rfl (fun r22 hr22 => ?_)
    refine V_icmp_ne (tgt := 53) C dX2_mountIn_25 (by decide) ?_ ?_
    · refine V_ldc C kc_X2_75 dX2_mountIn_53 ?_
      exact V_iretW (Wd := fun w => WL d a w) C hr hlk dX2_mountIn_55 rfl
    · refine V_iload_n C 2 dX2_mountIn_28 rfl rfl ?_
      refine V_iconst (v := (-1)) C dX2_mountIn_29 (by decide) ?_
      refine V_icmp_eq (tgt := 53) C dX2_mountIn_30 (by decide) ?_ ?_
      · refine V_ldc C kc_X2_75 dX2_mountIn_53 ?_
        exact V_iretW (Wd := fun w => WL d a w) C hr hlk dX2_mountIn_55 rfl
      · refine V_aload_n C 0 dX2_mountIn_33 rfl rfl ?_
        refine V_iload_n C 1 dX2_mountIn_34 rfl rfl ?_
        refine V_callRi (As := [.int p1]) (rest := []) (wc := WL d a u) C (fun r h => ct_X2_inDrive _ d a u p1 r h) kv_X2_inDrive kl_X2_118 [0, 1, 2, 3, 4, 5, 6, 7, 8, 9, 10, 11] dX2_mountIn_35 rfl rfl rfl rfl (Nat.le_of_ble_eq_true rfl) ⟨(Nat.le_of_ble_eq_true rfl), (Nat.le_of_ble_eq_true rfl)⟩ rfl rfl ⟨Nat.le_refl _, Nat.le_refl _⟩ rfl (fun r35 hr35 => ?_)
        refine V_iconst (v := (-1)) C dX2_mountIn_38 (by decide) ?_
        refine V_icmp_ne (tgt := 53) C dX2_mountIn_39 (by decide) ?_ ?_
        · refine V_ldc C kc_X2_75 dX2_mountIn_53 ?_
          exact V_iretW (Wd := fun w => WL d a w) C hr hlk dX2_mountIn_55 rfl
        · refine V_aload_n C 0 dX2_mountIn_42 rfl rfl ?_
          refine V_get (v := .ref (a 1)) C fx2 0 0 kf_X2_12 (by decide) rfl rfl dX2_mountIn_43 ?_
          refine V_iload_n C 2 dX2_mountIn_46 rfl rfl ?_
          refine V_callRi (As := [.int r13]) (rest := []) (wc := WC d (fun i => a (i + 1)) u.1) C (fun r h => ct_X0_isWorn _ d (fun i => a (i + 1)) u.1 r13 r h) kv_X0_isWorn kl_X2_121 [1, 2, 3, 4, 5, 6, 7] dX2_mountIn_47 rfl rfl rfl rfl (Nat.le_of_ble_eq_true rfl) ⟨(Nat.le_of_ble_eq_true rfl), (Nat.le_of_ble_eq_true rfl)⟩ rfl rfl ⟨Nat.le_refl _, Nat.le_refl _⟩ rfl (fun r47 hr47 => ?_)
          refine V_if_eq (tgt := 56) C dX2_mountIn_50 (by decide) ?_ ?_
          · refine V_aload_n C 0 dX2_mountIn_56 rfl rfl ?_
            refine V_iload_n C 2 dX2_mountIn_57 rfl rfl ?_
            refine V_bipush (v := 35) C dX2_mountIn_58 (by decide) ?_
            refine V_iload_n C 1 dX2_mountIn_60 rfl rfl ?_
            refine V_iadd C dX2_mountIn_61 ?_
            refine V_iconst (v := 3) C dX2_mountIn_62 (by decide) ?_
            refine V_callWv (As := [.int r13, .int (35 + p1), .int 3]) (rest := []) (wc := WL d a u) (Wd := fun w => WL d a w) C (fun r h => ct_X2_offPile _ d a u r13 (35 + p1) 3 r h) kv_X2_offPile kl_X2_103 [0, 1, 2, 3, 4, 5, 6, 7, 8, 9, 10, 11] (fun w => WL d a w) dX2_mountIn_63 rfl rfl (fun _ => rfl) (fun _ => rfl) rfl rfl rfl (Nat.le_of_ble_eq_true rfl) ⟨(Nat.le_of_ble_eq_true rfl), (Nat.le_of_ble_eq_true rfl)⟩ rfl rfl ⟨Nat.le_refl _, Nat.le_refl _⟩ rfl (fun r63 hr63 => ?_)
            refine V_aload_n C 0 dX2_mountIn_66 rfl rfl ?_
            refine V_get (v := .ref (a 8)) C fx2 0 1 kf_X2_21 (by decide) rfl rfl dX2_mountIn_67 ?_
            refine V_iload_n C 2 dX2_mountIn_70 rfl rfl ?_
            refine V_aload_n C 0 dX2_mountIn_71 rfl rfl ?_
            refine V_get (v := .ref (a 1)) C fx2 0 0 kf_X2_12 (by decide) rfl rfl dX2_mountIn_72 ?_
            refine V_callWi (As := [.int r13, .ref (a 1)]) (rest := []) (wc := WRC d (fun i => a (i + 8)) (fun i => a (i + 1)) (r63.2.1, r63.1)) (Wd := fun w => WRC d (fun i => a (i + 8)) (fun i => a (i + 1)) w) C (fun r h => ct_X4_removeHeldBy _ d (fun i => a (i + 8)) (fun i => a (i + 1)) (r63.2.1, r63.1) r13 r h) kv_X4_removeHeldBy kl_X2_124 [8, 9, 10, 11, 1, 2, 3, 4, 5, 6, 7] (fun w => WL d a (w.2, w.1, r63.2.2.1, r63.2.2.2.1, r63.2.2.2.2.1, r63.2.2.2.2.2.1, r63.2.2.2.2.2.2.1, r63.2.2.2.2.2.2.2.1, r63.2.2.2.2.2.2.2.2.1, r63.2.2.2.2.2.2.2.2.2)) dX2_mountIn_75 rfl rfl (fun _ => rfl) (fun _ => rfl) rfl rfl rfl (Nat.le_of_ble_eq_true rfl) ⟨(Nat.le_of_ble_eq_true rfl), (Nat.le_of_ble_eq_true rfl)⟩ rfl rfl ⟨Nat.le_refl _, Nat.le_refl _⟩ rfl (fun r75 hr75 => ?_)
            refine V_istore_n (lv' := [some (.ref (a 0)), some (.int p1), some (.int r13), some (.int r75.1)]) C 3 dX2_mountIn_78 rfl (by decide) rfl ?_
            refine V_aload_n C 0 dX2_mountIn_79 rfl rfl ?_
            refine V_get (v := .ref (a 1)) C fx2 0 0 kf_X2_12 (by decide) rfl rfl dX2_mountIn_80 ?_
            refine V_iload_n C 2 dX2_mountIn_83 rfl rfl ?_
            refine V_iload_n C 3 dX2_mountIn_84 rfl rfl ?_
            refine V_callWv (As := [.int r13, .int r75.1]) (rest := []) (wc := WC d (fun i => a (i + 1)) r75.2.2) (Wd := fun w => WC d (fun i => a (i + 1)) w) C (fun r h => ct_X0_countMounting _ d (fun i => a (i + 1)) r75.2.2 r13 r75.1 r h) kv_X0_countMounting kl_X2_128 [1, 2, 3, 4, 5, 6, 7] (fun w => WL d a (w, r75.2.1, r63.2.2.1, r63.2.2.2.1, r63.2.2.2.2.1, r63.2.2.2.2.2.1, r63.2.2.2.2.2.2.1, r63.2.2.2.2.2.2.2.1, r63.2.2.2.2.2.2.2.2.1, r63.2.2.2.2.2.2.2.2.2)) dX2_mountIn_85 rfl rfl (fun _ => rfl) (fun _ => rfl) rfl rfl rfl (Nat.le_of_ble_eq_true rfl) ⟨(Nat.le_of_ble_eq_true rfl), (Nat.le_of_ble_eq_true rfl)⟩ rfl rfl ⟨Nat.le_refl _, Nat.le_refl _⟩ rfl (fun r85 hr85 => ?_)
            refine V_aload_n C 0 dX2_mountIn_88 rfl rfl ?_
            refine V_dup C dX2_mountIn_89 rfl ?_
            refine V_get (v := .int r63.2.2.2.2.2.2.2.2.2) C fx2 0 9 kf_X2_55 (by decide) rfl rfl dX2_mountIn_90 ?_
            refine V_iload_n C 3 dX2_mountIn_93 rfl rfl ?_
            refine V_iadd C dX2_mountIn_94 ?_
            refine V_putI (ws' := WL d a (r85, r75.2.1, r63.2.2.1, r63.2.2.2.1, r63.2.2.2.2.1, r63.2.2.2.2.2.1, r63.2.2.2.2.2.2.1, r63.2.2.2.2.2.2.2.1, r63.2.2.2.2.2.2.2.2.1, (r63.2.2.2.2.2.2.2.2.2 + r75.1))) C fx2 0 9 kf_X2_55 (by decide) rfl rfl rfl (Nat.le_of_ble_eq_true rfl) rfl dX2_mountIn_95 ?_
            refine V_aload_n C 0 dX2_mountIn_98 rfl rfl ?_
            refine V_iload_n C 1 dX2_mountIn_99 rfl rfl ?_
            refine V_putI (ws' := WL d a (r85, r75.2.1, r63.2.2.1, r63.2.2.2.1, r63.2.2.2.2.1, r63.2.2.2.2.2.1, p1, r63.2.2.2.2.2.2.2.1, r63.2.2.2.2.2.2.2.2.1, (r63.2.2.2.2.2.2.2.2.2 + r75.1))) C fx2 0 6 kf_X2_46 (by decide) rfl rfl rfl (Nat.le_of_ble_eq_true rfl) rfl dX2_mountIn_100 ?_
            refine V_iload_n C 3 dX2_mountIn_103 rfl rfl ?_
            exact V_iretW (Wd := fun w => WL d a w) C hr hlk dX2_mountIn_104 rfl
          · refine V_ldc C kc_X2_75 dX2_mountIn_53 ?_
            exact V_iretW (Wd := fun w => WL d a w) C hr hlk dX2_mountIn_55 rfl
  · refine V_ldc C kc_X2_66 dX2_mountIn_9 ?_
    exact V_iretW (Wd := fun w => WL d a w) C hr hlk dX2_mountIn_11 rfl
set_option maxRecDepth 20000 in
theorem ct_X2_mountIn (l : Launch) (d : Dt) (a : Nat → Nat) (u : UL) (p1 : Int32) (z : Int32 × UL) (h : f_X2_mountIn u p1 = some z) : CtW l d yX2_mountIn cX2_mountIn 4 (some .int) (rmF 2 47) [.ref (a 0), .int p1] (WL d a u) (WL d a z.2) (some (.int z.1)) :=
  CtW.start (by decide) (Nat.le_of_ble_eq_true rfl) (by simp [Value.category]) [some (.ref (a 0)), some (.int p1), none, none] rfl (fun x A C hr hlk => V_eqv (fun _ => h) (v_X2_mountIn C hr hlk z u p1))

/-! MastRobots$Library.takeFrom -/
def f_X2_takeFrom (u : UL) (p1 : Int32) : Option (Int32 × UL) :=
  ((f_X6_isIn p1 0 1).bind fun r3 => (if r3 = 0 then some ((-1000001), u) else ((f_X6_wallOfDrive p1).bind fun r17 => (if u.2.2.1 = r17 then ((f_X2_inDrive u p1).bind fun r29 => ((f_X2_ontoPile u r29 2).bind fun r33 => some (r33.1, r33.2))) else some ((-1000002), u)))))
set_option maxRecDepth 20000 in
theorem v_X2_takeFrom {x : Am} {d : Dt} {A : Nat → Prop} {a : Nat → Nat} (C : Cx x cX2_takeFrom 2 yX2_takeFrom.cls d (Imu d A x.s.heap)) (hr : x.meth.sig.returnType = (some .int)) (hlk : x.meth.locks = false) (z : Int32 × UL) (u : UL) (p1 : Int32) : V x (rmF 2 45) 0 0 (MQ x.below (QW d A (WL d a z.2) (some (.int z.1))) x.args x.s 0 0 A) 2 (Imu d A x.s.heap) (f_X2_takeFrom u p1 = some z) 0 (WL d a u) [some (.ref (a 0)), some (.int p1)] [] := by
  unfold f_X2_takeFrom
  refine V_iload_n C 1 dX2_takeFrom_0 rfl rfl ?_
  refine V_iconst (v := 0) C dX2_takeFrom_1 (by decide) ?_
  refine V_iconst (v := 1) C dX2_takeFrom_2 (by decide) ?_
  refine V_callNi (As := [.int p1, .int 0, .int 1]) (rest := []) (wc := []) C (fun r h => ct_X6_isIn _ d p1 0 1 r h) ks_X6_isIn kn_X2_58 [] dX2_takeFrom_3 rfl rfl (Nat.le_of_ble_eq_true rfl) ⟨(Nat.le_of_ble_eq_true rfl), (Nat.le_of_ble_eq_true rfl)⟩ rfl rfl ⟨Nat.le_refl _, Nat.le_refl _⟩ rfl (fun r3 hr3 => ?_)
  refine V_if_ne (tgt := 12) C dX2_takeFrom_6 (by decide) ?_ ?_
  · refine V_aload_n C 0 dX2_takeFrom_12 rfl rfl ?_
    refine V_get (v := .int u.2.2.1) C fx2 0 2 kf_X2_32 (by decide) rfl rfl dX2_takeFrom_13 ?_
    refine V_iload_n C 1 dX2_takeFrom_16 rfl rfl ?_
    refine V_callNi (As := [.int p1]) (rest := [.int u.2.2.1]) (wc := []) C (fun r h => ct_X6_wallOfDrive _ d p1 r h) ks_X6_wallOfDrive kn_X2_115 [] dX2_takeFrom_17 rfl rfl (Nat.le_of_ble_eq_true rfl) ⟨(Nat.le_of_ble_eq_true rfl), (Nat.le_of_ble_eq_true rfl)⟩ rfl rfl ⟨Nat.le_refl _, Nat.le_refl _⟩ rfl (fun r17 hr17 => ?_)
    refine V_icmp_eq (tgt := 26) C dX2_takeFrom_20 (by decide) ?_ ?_
    · refine V_aload_n C 0 dX2_takeFrom_26 rfl rfl ?_
      refine V_aload_n C 0 dX2_takeFrom_27 rfl rfl ?_
      refine V_iload_n C 1 dX2_takeFrom_28 rfl rfl ?_
      refine V_callRi (As := [.int p1]) (rest := [.ref (a 0)]) (wc := WL d a u) C (fun r h => ct_X2_inDrive _ d a u p1 r h) kv_X2_inDrive kl_X2_118 [0, 1, 2, 3, 4, 5, 6, 7, 8, 9, 10, 11] dX2_takeFrom_29 rfl rfl rfl rfl (Nat.le_of_ble_eq_true rfl) ⟨(Nat.le_of_ble_eq_true rfl), (Nat.le_of_ble_eq_true rfl)⟩ rfl rfl ⟨Nat.le_refl _, Nat.le_refl _⟩ rfl (fun r29 hr29 => ?_)
      refine V_iconst (v := 2) C dX2_takeFrom_32 (by decide) ?_
      refine V_callWi (As := [.int r29, .int 2]) (rest := []) (wc := WL d a u) (Wd := fun w => WL d a w) C (fun r h => ct_X2_ontoPile _ d a u r29 2 r h) kv_X2_ontoPile kl_X2_97 [0, 1, 2, 3, 4, 5, 6, 7, 8, 9, 10, 11] (fun w => WL d a w) dX2_takeFrom_33 rfl rfl (fun _ => rfl) (fun _ => rfl) rfl rfl rfl (Nat.le_of_ble_eq_true rfl) ⟨(Nat.le_of_ble_eq_true rfl), (Nat.le_of_ble_eq_true rfl)⟩ rfl rfl ⟨Nat.le_refl _, Nat.le_refl _⟩ rfl (fun r33 hr33 => ?_)
      exact V_iretW (Wd := fun w => WL d a w) C hr hlk dX2_takeFrom_36 rfl
    · refine V_ldc C kc_X2_75 dX2_takeFrom_23 ?_
      exact V_iretW (Wd := fun w => WL d a w) C hr hlk dX2_takeFrom_25 rfl
  · refine V_ldc C kc_X2_66 dX2_takeFrom_9 ?_
    exact V_iretW (Wd := fun w => WL d a w) C hr hlk dX2_takeFrom_11 rfl
set_option maxRecDepth 20000 in
theorem ct_X2_takeFrom (l : Launch) (d : Dt) (a : Nat → Nat) (u : UL) (p1 : Int32) (z : Int32 × UL) (h : f_X2_takeFrom u p1 = some z) : CtW l d yX2_takeFrom cX2_takeFrom 2 (some .int) (rmF 2 45) [.ref (a 0), .int p1] (WL d a u) (WL d a z.2) (some (.int z.1)) :=
  CtW.start (by decide) (Nat.le_of_ble_eq_true rfl) (by simp [Value.category]) [some (.ref (a 0)), some (.int p1)] rfl (fun x A C hr hlk => V_eqv (fun _ => h) (v_X2_takeFrom C hr hlk z u p1))

/-! MastRobots$Library.holdFile -/
def f_X2_holdFile_b68 (u : UL) (v1 : Int32) (v2 : Int32) (v3 : Int32) : Option (Int32 × UL) :=
  ((f_X0_putFile u.1 v1 v2).bind fun r74 => some (v3, (r74, u.2.1, u.2.2.1, u.2.2.2.1, u.2.2.2.2.1, u.2.2.2.2.2.1, u.2.2.2.2.2.2.1, u.2.2.2.2.2.2.2.1, u.2.2.2.2.2.2.2.2.1, u.2.2.2.2.2.2.2.2.2)))
def f_X2_holdFile (u : UL) (p1 : Int32) (p2 : Int32) : Option (Int32 × UL) :=
  ((f_X0_has u.1 p1).bind fun r5 => (if r5 = 0 then some ((-1000001), u) else ((f_X6_isIn p2 0 59).bind fun r15 => (if r15 = 0 then some ((-1000001), u) else ((f_X0_slotOf u.1 p1).bind fun r29 => (if r29 = (-1) then some ((-1000002), u) else ((f_X0_holderOf u.1 p2).bind fun r44 => (if r44 = p1 then f_X2_holdFile_b68 u p1 p2 r44 else ((f_X0_filesHeldBy u.1 p1).bind fun r58 => (if r58 < 4 then f_X2_holdFile_b68 u p1 p2 r44 else some ((-1000003), u)))))))))))
set_option maxRecDepth 20000 in
theorem v_X2_holdFile_b68 {x : Am} {d : Dt} {A : Nat → Prop} {a : Nat → Nat} (C : Cx x cX2_holdFile 4 yX2_holdFile.cls d (Imu d A x.s.heap)) (hr : x.meth.sig.returnType = (some .int)) (hlk : x.meth.locks = false) (z : Int32 × UL) (u : UL) (v1 : Int32) (v2 : Int32) (v3 : Int32) : V x (rmF 2 47) 0 0 (MQ x.below (QW d A (WL d a z.2) (some (.int z.1))) x.args x.s 0 0 A) 4 (Imu d A x.s.heap) (f_X2_holdFile_b68 u v1 v2 v3 = some z) 68 (WL d a u) [some (.ref (a 0)), some (.int v1), some (.int v2), some (.int v3)] [] := by
  unfold f_X2_holdFile_b68
  refine V_aload_n C 0 dX2_holdFile_68 rfl rfl ?_
  refine V_get (v := .ref (a 1)) C fx2 0 0 kf_X2_12 (by decide) rfl rfl dX2_holdFile_69 ?_
  refine V_iload_n C 1 dX2_holdFile_72 rfl rfl ?_
  refine V_iload_n C 2 dX2_holdFile_73 rfl rfl ?_
  refine V_callWv (As := [.int v1, .int v2]) (rest := []) (wc := WC d (fun i => a (i + 1)) u.1) (Wd := fun w => WC d (fun i => a (i + 1)) w) C (fun r h => ct_X0_putFile _ d (fun i => a (i + 1)) u.1 v1 v2 r h) kv_X0_putFile kl_X2_138 [1, 2, 3, 4, 5, 6, 7] (fun w => WL d a (w, u.2.1, u.2.2.1, u.2.2.2.1, u.2.2.2.2.1, u.2.2.2.2.2.1, u.2.2.2.2.2.2.1, u.2.2.2.2.2.2.2.1, u.2.2.2.2.2.2.2.2.1, u.2.2.2.2.2.2.2.2.2)) dX2_holdFile_74 rfl rfl (fun _ => rfl) (fun _ => rfl) rfl rfl rfl (Nat.le_of_ble_eq_true rfl) ⟨(Nat.le_of_ble_eq_true rfl), (Nat.le_of_ble_eq_true rfl)⟩ rfl rfl ⟨Nat.le_refl _, Nat.le_refl _⟩ rfl (fun r74 hr74 => ?_)
  refine V_iload_n C 3 dX2_holdFile_77 rfl rfl ?_
  exact V_iretW (Wd := fun w => WL d a w) C hr hlk dX2_holdFile_78 rfl
set_option maxRecDepth 20000 in
theorem v_X2_holdFile {x : Am} {d : Dt} {A : Nat → Prop} {a : Nat → Nat} (C : Cx x cX2_holdFile 4 yX2_holdFile.cls d (Imu d A x.s.heap)) (hr : x.meth.sig.returnType = (some .int)) (hlk : x.meth.locks = false) (z : Int32 × UL) (u : UL) (p1 : Int32) (p2 : Int32) : V x (rmF 2 47) 0 0 (MQ x.below (QW d A (WL d a z.2) (some (.int z.1))) x.args x.s 0 0 A) 4 (Imu d A x.s.heap) (f_X2_holdFile u p1 p2 = some z) 0 (WL d a u) [some (.ref (a 0)), some (.int p1), some (.int p2), none] [] := by
  unfold f_X2_holdFile
  refine V_aload_n C 0 dX2_holdFile_0 rfl rfl ?_
  refine V_get (v := .ref (a 1)) C fx2 0 0 kf_X2_12 (by decide) rfl rfl dX2_holdFile_1 ?_
  refine V_iload_n C 1 dX2_holdFile_4 rfl rfl ?_
  refine V_callRi (As := [.int p1]) (rest := []) (wc := WC d (fun i => a (i + 1)) u.1) C (fun r h => ct_X0_has _ d (fun i => a (i + 1)) u.1 p1 r h) kv_X0_has kl_X2_79 [1, 2, 3, 4, 5, 6, 7] dX2_holdFile_5 rfl rfl rfl rfl (Nat.le_of_ble_eq_true rfl) ⟨(Nat.le_of_ble_eq_true rfl), (Nat.le_of_ble_eq_true rfl)⟩ rfl rfl ⟨Nat.le_refl _, Nat.le_refl _⟩ rfl (fun r5 hr5 => ?_)
  refine V_if_eq (tgt := 21) C dX2_holdFile_8 (by decide) ?_ ?_
  · refine V_ldc C kc_X2_66 dX2_holdFile_21 ?_
    exact V_iretW (Wd := fun w => WL d a w) C hr hlk dX2_holdFile_23 rfl
  · refine V_iload_n C 2 dX2_holdFile_11 rfl rfl ?_
    refine V_iconst (v := 0) C dX2_holdFile_12 (by decide) ?_
    refine V_bipush (v := 59) C dX2_holdFile_13 (by decide) ?_
    refine V_callNi (As := [.int p2, .int 0, .int 59]) (rest := []) (wc := []) C (fun r h => ct_X6_isIn _ d p2 0 59 r h) ks_X6_isIn kn_X2_58 [] dX2_holdFile_15 rfl rfl (Nat.le_of_ble_eq_true rfl) ⟨(Nat.le_of_ble_eq_true rfl), (Nat.le_of_ble_eq_true rfl)⟩ rfl rfl ⟨Nat.le_refl _, Nat.le_refl _⟩ rfl (fun r15 hr15 => ?_)
    refine V_if_ne (tgt := 24) C dX2_holdFile_18 (by decide) ?_ ?_
    · refine V_aload_n C 0 dX2_holdFile_24 rfl rfl ?_
      refine V_get (v := .ref (a 1)) C fx2 0 0 kf_X2_12 (by decide) rfl rfl dX2_holdFile_25 ?_
      refine V_iload_n C 1 dX2_holdFile_28 rfl rfl ?_
      refine V_callRi (As := [.int p1]) (rest := []) (wc := WC d (fun i => a (i + 1)) u.1) C (fun r h => ct_X0_slotOf _ d (fun i => a (i + 1)) u.1 p1 r h) kv_X0_slotOf kl_X2_86 [1, 2, 3, 4, 5, 6, 7] dX2_holdFile_29 rfl rfl rfl rfl (Nat.le_of_ble_eq_true rfl) ⟨(Nat.le_of_ble_eq_true rfl), (Nat.le_of_ble_eq_true rfl)⟩ rfl rfl ⟨Nat.le_refl _, Nat.le_refl _⟩ rfl (fun r29 hr29 => ?_)
      refine V_iconst (v := (-1)) C dX2_holdFile_32 (by decide) ?_
      refine V_icmp_ne (tgt := 39) C dX2_holdFile_33 (by decide) ?_ ?_
      · refine V_aload_n C 0 dX2_holdFile_39 rfl rfl ?_
        refine V_get (v := .ref (a 1)) C fx2 0 0 kf_X2_12 (by decide) rfl rfl dX2_holdFile_40 ?_
        refine V_iload_n C 2 dX2_holdFile_43 rfl rfl ?_
        refine V_callRi (As := [.int p2]) (rest := []) (wc := WC d (fun i => a (i + 1)) u.1) C (fun r h => ct_X0_holderOf _ d (fun i => a (i + 1)) u.1 p2 r h) kv_X0_holderOf kl_X2_131 [1, 2, 3, 4, 5, 6, 7] dX2_holdFile_44 rfl rfl rfl rfl (Nat.le_of_ble_eq_true rfl) ⟨(Nat.le_of_ble_eq_true rfl), (Nat.le_of_ble_eq_true rfl)⟩ rfl rfl ⟨Nat.le_refl _, Nat.le_refl _⟩ rfl (fun r44 hr44 => ?_)
        refine V_istore_n (lv' := [some (.ref (a 0)), some (.int p1), some (.int p2), some (.int r44)]) C 3 dX2_holdFile_47 rfl (by decide) rfl ?_
        refine V_iload_n C 3 dX2_holdFile_48 rfl rfl ?_
        refine V_iload_n C 1 dX2_holdFile_49 rfl rfl ?_
        refine V_icmp_eq (tgt := 68) C dX2_holdFile_50 (by decide) ?_ ?_
        · exact v_X2_holdFile_b68 C hr hlk z u p1 p2 r44
        · refine V_aload_n C 0 dX2_holdFile_53 rfl rfl ?_
          refine V_get (v := .ref (a 1)) C fx2 0 0 kf_X2_12 (by decide) rfl rfl dX2_holdFile_54 ?_
          refine V_iload_n C 1 dX2_holdFile_57 rfl rfl ?_
          refine V_callRi (As := [.int p1]) (rest := []) (wc := WC d (fun i => a (i + 1)) u.1) C (fun r h => ct_X0_filesHeldBy _ d (fun i => a (i + 1)) u.1 p1 r h) kv_X0_filesHeldBy kl_X2_134 [1, 2, 3, 4, 5, 6, 7] dX2_holdFile_58 rfl rfl rfl rfl (Nat.le_of_ble_eq_true rfl) ⟨(Nat.le_of_ble_eq_true rfl), (Nat.le_of_ble_eq_true rfl)⟩ rfl rfl ⟨Nat.le_refl _, Nat.le_refl _⟩ rfl (fun r58 hr58 => ?_)
          refine V_iconst (v := 4) C dX2_holdFile_61 (by decide) ?_
          refine V_icmp_lt (tgt := 68) C dX2_holdFile_62 (by decide) ?_ ?_
          · exact v_X2_holdFile_b68 C hr hlk z u p1 p2 r44
          · refine V_ldc C kc_X2_137 dX2_holdFile_65 ?_
            exact V_iretW (Wd := fun w => WL d a w) C hr hlk dX2_holdFile_67 rfl
      · refine V_ldc C kc_X2_75 dX2_holdFile_36 ?_
        exact V_iretW (Wd := fun w => WL d a w) C hr hlk dX2_holdFile_38 rfl
    · refine V_ldc C kc_X2_66 dX2_holdFile_21 ?_
      exact V_iretW (Wd := fun w => WL d a w) C hr hlk dX2_holdFile_23 rfl
set_option maxRecDepth 20000 in
theorem ct_X2_holdFile (l : Launch) (d : Dt) (a : Nat → Nat) (u : UL) (p1 : Int32) (p2 : Int32) (z : Int32 × UL) (h : f_X2_holdFile u p1 p2 = some z) : CtW l d yX2_holdFile cX2_holdFile 4 (some .int) (rmF 2 47) [.ref (a 0), .int p1, .int p2] (WL d a u) (WL d a z.2) (some (.int z.1)) :=
  CtW.start (by decide) (Nat.le_of_ble_eq_true rfl) (by simp [Value.category]) [some (.ref (a 0)), some (.int p1), some (.int p2), none] rfl (fun x A C hr hlk => V_eqv (fun _ => h) (v_X2_holdFile C hr hlk z u p1 p2))

/-! MastRobots$Library.addRequest -/
def f_X2_addRequest (u : UL) (p1 : Int32) (p2 : Int32) : Option (Int32 × UL) :=
  ((f_X6_isIn p1 0 59).bind fun r4 => (if r4 = 0 then some ((-1000001), u) else ((f_X6_isIn p2 0 9).bind fun r14 => (if r14 = 0 then some ((-1000001), u) else ((f_X4_add u.2.1 p1 p2 u.2.2.2.2.2.2.2.1).bind fun r33 => some (r33.1, (u.1, r33.2, u.2.2.1, u.2.2.2.1, u.2.2.2.2.1, u.2.2.2.2.2.1, u.2.2.2.2.2.2.1, u.2.2.2.2.2.2.2.1, u.2.2.2.2.2.2.2.2.1, u.2.2.2.2.2.2.2.2.2)))))))
set_option maxRecDepth 20000 in
theorem v_X2_addRequest {x : Am} {d : Dt} {A : Nat → Prop} {a : Nat → Nat} (C : Cx x cX2_addRequest 3 yX2_addRequest.cls d (Imu d A x.s.heap)) (hr : x.meth.sig.returnType = (some .int)) (hlk : x.meth.locks = false) (z : Int32 × UL) (u : UL) (p1 : Int32) (p2 : Int32) : V x (rmF 1 23) 0 0 (MQ x.below (QW d A (WL d a z.2) (some (.int z.1))) x.args x.s 0 0 A) 3 (Imu d A x.s.heap) (f_X2_addRequest u p1 p2 = some z) 0 (WL d a u) [some (.ref (a 0)), some (.int p1), some (.int p2)] [] := by
  unfold f_X2_addRequest
  refine V_iload_n C 1 dX2_addRequest_0 rfl rfl ?_
  refine V_iconst (v := 0) C dX2_addRequest_1 (by decide) ?_
  refine V_bipush (v := 59) C dX2_addRequest_2 (by decide) ?_
  refine V_callNi (As := [.int p1, .int 0, .int 59]) (rest := []) (wc := []) C (fun r h => ct_X6_isIn _ d p1 0 59 r h) ks_X6_isIn kn_X2_58 [] dX2_addRequest_4 rfl rfl (Nat.le_of_ble_eq_true rfl) ⟨(Nat.le_of_ble_eq_true rfl), (Nat.le_of_ble_eq_true rfl)⟩ rfl rfl ⟨Nat.le_refl _, Nat.le_refl _⟩ rfl (fun r4 hr4 => ?_)
  refine V_if_eq (tgt := 20) C dX2_addRequest_7 (by decide) ?_ ?_
  · refine V_ldc C kc_X2_66 dX2_addRequest_20 ?_
    exact V_iretW (Wd := fun w => WL d a w) C hr hlk dX2_addRequest_22 rfl
  · refine V_iload_n C 2 dX2_addRequest_10 rfl rfl ?_
    refine V_iconst (v := 0) C dX2_addRequest_11 (by decide) ?_
    refine V_bipush (v := 9) C dX2_addRequest_12 (by decide) ?_
    refine V_callNi (As := [.int p2, .int 0, .int 9]) (rest := []) (wc := []) C (fun r h => ct_X6_isIn _ d p2 0 9 r h) ks_X6_isIn kn_X2_58 [] dX2_addRequest_14 rfl rfl (Nat.le_of_ble_eq_true rfl) ⟨(Nat.le_of_ble_eq_true rfl), (Nat.le_of_ble_eq_true rfl)⟩ rfl rfl ⟨Nat.le_refl _, Nat.le_refl _⟩ rfl (fun r14 hr14 => ?_)
    refine V_if_ne (tgt := 23) C dX2_addRequest_17 (by decide) ?_ ?_
    · refine V_aload_n C 0 dX2_addRequest_23 rfl rfl ?_
      refine V_get (v := .ref (a 8)) C fx2 0 1 kf_X2_21 (by decide) rfl rfl dX2_addRequest_24 ?_
      refine V_iload_n C 1 dX2_addRequest_27 rfl rfl ?_
      refine V_iload_n C 2 dX2_addRequest_28 rfl rfl ?_
      refine V_aload_n C 0 dX2_addRequest_29 rfl rfl ?_
      refine V_get (v := .int u.2.2.2.2.2.2.2.1) C fx2 0 7 kf_X2_49 (by decide) rfl rfl dX2_addRequest_30 ?_
      refine V_callWi (As := [.int p1, .int p2, .int u.2.2.2.2.2.2.2.1]) (rest := []) (wc := WR d (fun i => a (i + 8)) u.2.1) (Wd := fun w => WR d (fun i => a (i + 8)) w) C (fun r h => ct_X4_add _ d (fun i => a (i + 8)) u.2.1 p1 p2 u.2.2.2.2.2.2.2.1 r h) kv_X4_add kl_X2_141 [8, 9, 10, 11] (fun w => WL d a (u.1, w, u.2.2.1, u.2.2.2.1, u.2.2.2.2.1, u.2.2.2.2.2.1, u.2.2.2.2.2.2.1, u.2.2.2.2.2.2.2.1, u.2.2.2.2.2.2.2.2.1, u.2.2.2.2.2.2.2.2.2)) dX2_addRequest_33 rfl rfl (fun _ => rfl) (fun _ => rfl) rfl rfl rfl (Nat.le_of_ble_eq_true rfl) ⟨(Nat.le_of_ble_eq_true rfl), (Nat.le_of_ble_eq_true rfl)⟩ rfl rfl ⟨Nat.le_refl _, Nat.le_refl _⟩ rfl (fun r33 hr33 => ?_)
      exact V_iretW (Wd := fun w => WL d a w) C hr hlk dX2_addRequest_36 rfl
    · refine V_ldc C kc_X2_66 dX2_addRequest_20 ?_
      exact V_iretW (Wd := fun w => WL d a w) C hr hlk dX2_addRequest_22 rfl
set_option maxRecDepth 20000 in
theorem ct_X2_addRequest (l : Launch) (d : Dt) (a : Nat → Nat) (u : UL) (p1 : Int32) (p2 : Int32) (z : Int32 × UL) (h : f_X2_addRequest u p1 p2 = some z) : CtW l d yX2_addRequest cX2_addRequest 3 (some .int) (rmF 1 23) [.ref (a 0), .int p1, .int p2] (WL d a u) (WL d a z.2) (some (.int z.1)) :=
  CtW.start (by decide) (Nat.le_of_ble_eq_true rfl) (by simp [Value.category]) [some (.ref (a 0)), some (.int p1), some (.int p2)] rfl (fun x A C hr hlk => V_eqv (fun _ => h) (v_X2_addRequest C hr hlk z u p1 p2))

/-! MastRobots$Library.holderFor -/
def f_X2_holderFor (u : UL) (p1 : Int32) : Option (Int32) :=
  ((f_X4_fileOf u.2.1 p1).bind fun r9 => ((f_X0_holderOf u.1 r9).bind fun r12 => some r12))
set_option maxRecDepth 20000 in
theorem v_X2_holderFor {x : Am} {d : Dt} {a : Nat → Nat} (C : Cx x cX2_holderFor 2 yX2_holderFor.cls d (Iro d x.s.heap)) (hr : x.meth.sig.returnType = (some .int)) (hlk : x.meth.locks = false) (z : Int32) (u : UL) (p1 : Int32) : V x (rmF 1 21) 0 0 (MQ x.below (QR (some (.int z))) x.args x.s 0 0 (fun _ => False)) 2 (Iro d x.s.heap) (f_X2_holderFor u p1 = some z) 0 (WL d a u) [some (.ref (a 0)), some (.int p1)] [] := by
  unfold f_X2_holderFor
  refine V_aload_n C 0 dX2_holderFor_0 rfl rfl ?_
  refine V_get (v := .ref (a 1)) C fx2 0 0 kf_X2_12 (by decide) rfl rfl dX2_holderFor_1 ?_
  refine V_aload_n C 0 dX2_holderFor_4 rfl rfl ?_
  refine V_get (v := .ref (a 8)) C fx2 0 1 kf_X2_21 (by decide) rfl rfl dX2_holderFor_5 ?_
  refine V_iload_n C 1 dX2_holderFor_8 rfl rfl ?_
  refine V_callRi (As := [.int p1]) (rest := [.ref (a 1)]) (wc := WR d (fun i => a (i + 8)) u.2.1) C (fun r h => ct_X4_fileOf _ d (fun i => a (i + 8)) u.2.1 p1 r h) kv_X4_fileOf kl_X2_196 [8, 9, 10, 11] dX2_holderFor_9 rfl rfl rfl rfl (Nat.le_of_ble_eq_true rfl) ⟨(Nat.le_of_ble_eq_true rfl), (Nat.le_of_ble_eq_true rfl)⟩ rfl rfl ⟨Nat.le_refl _, Nat.le_refl _⟩ rfl (fun r9 hr9 => ?_)
  refine V_callRi (As := [.int r9]) (rest := []) (wc := WC d (fun i => a (i + 1)) u.1) C (fun r h => ct_X0_holderOf _ d (fun i => a (i + 1)) u.1 r9 r h) kv_X0_holderOf kl_X2_131 [1, 2, 3, 4, 5, 6, 7] dX2_holderFor_12 rfl rfl rfl rfl (Nat.le_of_ble_eq_true rfl) ⟨(Nat.le_of_ble_eq_true rfl), (Nat.le_of_ble_eq_true rfl)⟩ rfl rfl ⟨Nat.le_refl _, Nat.le_refl _⟩ rfl (fun r12 hr12 => ?_)
  exact V_iretR C hr hlk dX2_holderFor_15
set_option maxRecDepth 20000 in
theorem ct_X2_holderFor (l : Launch) (d : Dt) (a : Nat → Nat) (u : UL) (p1 : Int32) (z : Int32) (h : f_X2_holderFor u p1 = some z) : CtR l d yX2_holderFor cX2_holderFor 2 (some .int) (rmF 1 21) [.ref (a 0), .int p1] (WL d a u) (some (.int z)) :=
  CtR.start (by decide) (Nat.le_of_ble_eq_true rfl) (by simp [Value.category]) [some (.ref (a 0)), some (.int p1)] rfl (fun x C hr hlk => V_eqv (fun _ => h) (v_X2_holderFor C hr hlk z u p1))

/-! MastRobots$Library.waitingFor -/
def f_X2_waitingFor_b37 (k4 : UL → Int32 → Int32 → Int32 → Option (Int32)) (u : UL) (v1 : Int32) (v2 : Int32) (v3 : Int32) : Option (Int32) :=
  k4 u v1 v2 (v3 + 1)
def f_X2_waitingFor_b4 : Nat → UL → Int32 → Int32 → Int32 → Option (Int32)
  | 0, _, _, _, _ => none
  | n + 1, u, v1, v2, v3 => (if u.2.1.2.2.2 ≤ v3 then some v2 else ((f_X4_fileOf u.2.1 v3).bind fun r24 => ((f_X0_holderOf u.1 r24).bind fun r27 => (if r27 = v1 then f_X2_waitingFor_b37 (f_X2_waitingFor_b4 n) u v1 (v2 + 1) v3 else f_X2_waitingFor_b37 (f_X2_waitingFor_b4 n) u v1 v2 v3))))
def f_X2_waitingFor (u : UL) (p1 : Int32) : Option (Int32) :=
  f_X2_waitingFor_b4 FUEL u p1 0 0
set_option maxRecDepth 20000 in
theorem v_X2_waitingFor_b37 {x : Am} {d : Dt} {a : Nat → Nat} (C : Cx x cX2_waitingFor 4 yX2_waitingFor.cls d (Iro d x.s.heap)) (hr : x.meth.sig.returnType = (some .int)) (hlk : x.meth.locks = false) (z : Int32) (k4 : UL → Int32 → Int32 → Int32 → Option (Int32)) (hk4 : ∀ (u : UL)(v1 : Int32)(v2 : Int32)(v3 : Int32), V x (rmF 1 21) 0 0 (MQ x.below (QR (some (.int z))) x.args x.s 0 0 (fun _ => False)) 4 (Iro d x.s.heap) (k4 u v1 v2 v3 = some z) 4 (WL d a u) [some (.ref (a 0)), some (.int v1), some (.int v2), some (.int v3)] []) (u : UL) (v1 : Int32) (v2 : Int32) (v3 : Int32) : V x (rmF 1 21) 0 0 (MQ x.below (QR (some (.int z))) x.args x.s 0 0 (fun _ => False)) 4 (Iro d x.s.heap) (f_X2_waitingFor_b37 k4 u v1 v2 v3 = some z) 37 (WL d a u) [some (.ref (a 0)), some (.int v1), some (.int v2), some (.int v3)] [] := by
  unfold f_X2_waitingFor_b37
  refine V_iinc (v := (v3 + 1)) (lv' := [some (.ref (a 0)), some (.int v1), some (.int v2), some (.int (v3 + 1))]) C dX2_waitingFor_37 rfl rfl (by decide) rfl ?_
  refine V_goto (tgt := 4) C dX2_waitingFor_40 (by decide) ?_
  exact hk4 u v1 v2 (v3 + 1)
set_option maxRecDepth 20000 in
theorem v_X2_waitingFor_b4 {x : Am} {d : Dt} {a : Nat → Nat} (C : Cx x cX2_waitingFor 4 yX2_waitingFor.cls d (Iro d x.s.heap)) (hr : x.meth.sig.returnType = (some .int)) (hlk : x.meth.locks = false) (z : Int32) (n : Nat) (u : UL) (v1 : Int32) (v2 : Int32) (v3 : Int32) : V x (rmF 1 21) 0 0 (MQ x.below (QR (some (.int z))) x.args x.s 0 0 (fun _ => False)) 4 (Iro d x.s.heap) (f_X2_waitingFor_b4 n u v1 v2 v3 = some z) 4 (WL d a u) [some (.ref (a 0)), some (.int v1), some (.int v2), some (.int v3)] [] := by
  induction n generalizing u v1 v2 v3 with
  | zero => exact V_none
  | succ n ih =>
    rw [f_X2_waitingFor_b4]
    refine V_iload_n C 3 dX2_waitingFor_4 rfl rfl ?_
    refine V_aload_n C 0 dX2_waitingFor_5 rfl rfl ?_
    refine V_get (v := .ref (a 8)) C fx2 0 1 kf_X2_21 (by decide) rfl rfl dX2_waitingFor_6 ?_
    refine V_get (v := .int u.2.1.2.2.2) C fx4 8 3 kf_X2_184 (by decide) rfl rfl dX2_waitingFor_9 ?_
    refine V_icmp_ge (tgt := 43) C dX2_waitingFor_12 (by decide) ?_ ?_
    · refine V_iload_n C 2 dX2_waitingFor_43 rfl rfl ?_
      exact V_iretR C hr hlk dX2_waitingFor_44
    · refine V_aload_n C 0 dX2_waitingFor_15 rfl rfl ?_
      refine V_get (v := .ref (a 1)) C fx2 0 0 kf_X2_12 (by decide) rfl rfl dX2_waitingFor_16 ?_
      refine V_aload_n C 0 dX2_waitingFor_19 rfl rfl ?_
      refine V_get (v := .ref (a 8)) C fx2 0 1 kf_X2_21 (by decide) rfl rfl dX2_waitingFor_20 ?_
      refine V_iload_n C 3 dX2_waitingFor_23 rfl rfl ?_
      refine V_callRi (As := [.int v3]) (rest := [.ref (a 1)]) (wc := WR d (fun i => a (i + 8)) u.2.1) C (fun r h => ct_X4_fileOf _ d (fun i => a (i + 8)) u.2.1 v3 r h) kv_X4_fileOf kl_X2_196 [8, 9, 10, 11] dX2_waitingFor_24 rfl rfl rfl rfl (Nat.le_of_ble_eq_true rfl) ⟨(Nat.le_of_ble_eq_true rfl), (Nat.le_of_ble_eq_true rfl)⟩ rfl rfl ⟨Nat.le_refl _, Nat.le_refl _⟩ rfl (fun r24 hr24 => ?_)
      refine V_callRi (As := [.int r24]) (rest := []) (wc := WC d (fun i => a (i + 1)) u.1) C (fun r h => ct_X0_holderOf _ d (fun i => a (i + 1)) u.1 r24 r h) kv_X0_holderOf kl_X2_131 [1, 2, 3, 4, 5, 6, 7] dX2_waitingFor_27 rfl rfl rfl rfl (Nat.le_of_ble_eq_true rfl) ⟨(Nat.le_of_ble_eq_true rfl), (Nat.le_of_ble_eq_true rfl)⟩ rfl rfl ⟨Nat.le_refl _, Nat.le_refl _⟩ rfl (fun r27 hr27 => ?_)
      refine V_iload_n C 1 dX2_waitingFor_30 rfl rfl ?_
      refine V_icmp_ne (tgt := 37) C dX2_waitingFor_31 (by decide) ?_ ?_
      · exact v_X2_waitingFor_b37 C hr hlk z (f_X2_waitingFor_b4  n) ih u v1 v2 v3
      · refine V_iinc (v := (v2 + 1)) (lv' := [some (.ref (a 0)), some (.int v1), some (.int (v2 + 1)), some (.int v3)]) C dX2_waitingFor_34 rfl rfl (by decide) rfl ?_
        exact v_X2_waitingFor_b37 C hr hlk z (f_X2_waitingFor_b4  n) ih u v1 (v2 + 1) v3
set_option maxRecDepth 20000 in
theorem v_X2_waitingFor {x : Am} {d : Dt} {a : Nat → Nat} (C : Cx x cX2_waitingFor 4 yX2_waitingFor.cls d (Iro d x.s.heap)) (hr : x.meth.sig.returnType = (some .int)) (hlk : x.meth.locks = false) (z : Int32) (u : UL) (p1 : Int32) : V x (rmF 1 21) 0 0 (MQ x.below (QR (some (.int z))) x.args x.s 0 0 (fun _ => False)) 4 (Iro d x.s.heap) (f_X2_waitingFor u p1 = some z) 0 (WL d a u) [some (.ref (a 0)), some (.int p1), none, none] [] := by
  unfold f_X2_waitingFor
  refine V_iconst (v := 0) C dX2_waitingFor_0 (by decide) ?_
  refine V_istore_n (lv' := [some (.ref (a 0)), some (.int p1), some (.int 0), none]) C 2 dX2_waitingFor_1 rfl (by decide) rfl ?_
  refine V_iconst (v := 0) C dX2_waitingFor_2 (by decide) ?_
  refine V_istore_n (lv' := [some (.ref (a 0)), some (.int p1), some (.int 0), some (.int 0)]) C 3 dX2_waitingFor_3 rfl (by decide) rfl ?_
  exact v_X2_waitingFor_b4 C hr hlk z FUEL u p1 0 0
set_option maxRecDepth 20000 in
theorem ct_X2_waitingFor (l : Launch) (d : Dt) (a : Nat → Nat) (u : UL) (p1 : Int32) (z : Int32) (h : f_X2_waitingFor u p1 = some z) : CtR l d yX2_waitingFor cX2_waitingFor 4 (some .int) (rmF 1 21) [.ref (a 0), .int p1] (WL d a u) (some (.int z)) :=
  CtR.start (by decide) (Nat.le_of_ble_eq_true rfl) (by simp [Value.category]) [some (.ref (a 0)), some (.int p1), none, none] rfl (fun x C hr hlk => V_eqv (fun _ => h) (v_X2_waitingFor C hr hlk z u p1))

/-! MastRobots$Library.nextRequest -/
def f_X2_nextRequest_b133 (k7 : UL → Int32 → Int32 → Int32 → Int32 → Option (Int32)) (u : UL) (v1 : Int32) (v2 : Int32) (v3 : Int32) (v4 : Int32) : Option (Int32) :=
  k7 u v1 v2 v3 (v4 + 1)
def f_X2_nextRequest_b127 (k7 : UL → Int32 → Int32 → Int32 → Int32 → Option (Int32)) (u : UL) (v1 : Int32) (v4 : Int32) (v6 : Int32) : Option (Int32) :=
  f_X2_nextRequest_b133 k7 u v1 v4 v6 v4
def f_X2_nextRequest_b116 (k7 : UL → Int32 → Int32 → Int32 → Int32 → Option (Int32)) (u : UL) (v1 : Int32) (v2 : Int32) (v3 : Int32) (v4 : Int32) (v6 : Int32) : Option (Int32) :=
  (if v2 = (-1) then f_X2_nextRequest_b127 k7 u v1 v4 v6 else (if v6 ≤ v3 then f_X2_nextRequest_b133 k7 u v1 v2 v3 v4 else f_X2_nextRequest_b127 k7 u v1 v4 v6))
def f_X2_nextRequest_b7 : Nat → UL → Int32 → Int32 → Int32 → Int32 → Option (Int32)
  | 0, _, _, _, _, _ => none
  | n + 1, u, v1, v2, v3, v4 => (if u.2.1.2.2.2 ≤ v4 then some v2 else ((f_X2_holderFor u v4).bind fun r22 => ((f_X0_isOnShelf u.1 r22).bind fun r33 => (if r33 = 0 then f_X2_nextRequest_b133 (f_X2_nextRequest_b7 n) u v1 v2 v3 v4 else ((f_X0_isWorn u.1 r22).bind fun r45 => (if r45 = 0 then (if v1 = 1 then ((f_X4_rankOf u.2.1 v4).bind fun r68 => f_X2_nextRequest_b116 (f_X2_nextRequest_b7 n) u v1 v2 v3 v4 r68) else (if v1 = 2 then ((f_X0_wallOf u.1 r22).bind fun r91 => ((f_X6_distance u.2.2.1 r91).bind fun r94 => f_X2_nextRequest_b116 (f_X2_nextRequest_b7 n) u v1 v2 v3 v4 (-r94))) else (if v1 = 3 then ((f_X2_waitingFor u r22).bind fun r111 => f_X2_nextRequest_b116 (f_X2_nextRequest_b7 n) u v1 v2 v3 v4 r111) else f_X2_nextRequest_b116 (f_X2_nextRequest_b7 n) u v1 v2 v3 v4 0))) else f_X2_nextRequest_b133 (f_X2_nextRequest_b7 n) u v1 v2 v3 v4))))))
def f_X2_nextRequest (u : UL) (p1 : Int32) : Option (Int32) :=
  f_X2_nextRequest_b7 FUEL u p1 (-1) 0 0
set_option maxRecDepth 20000 in
theorem v_X2_nextRequest_b133 {x : Am} {d : Dt} {a : Nat → Nat} (C : Cx x cX2_nextRequest 7 yX2_nextRequest.cls d (Iro d x.s.heap)) (hr : x.meth.sig.returnType = (some .int)) (hlk : x.meth.locks = false) (z : Int32) (k7 : UL → Int32 → Int32 → Int32 → Int32 → Option (Int32)) (hk7 : ∀ (u : UL)(v1 : Int32)(v2 : Int32)(v3 : Int32)(v4 : Int32), V x (rmF 2 44) 0 0 (MQ x.below (QR (some (.int z))) x.args x.s 0 0 (fun _ => False)) 7 (Iro d x.s.heap) (k7 u v1 v2 v3 v4 = some z) 7 (WL d a u) [some (.ref (a 0)), some (.int v1), some (.int v2), some (.int v3), some (.int v4), none, none] []) (u : UL) (v1 : Int32) (v2 : Int32) (v3 : Int32) (v4 : Int32) : V x (rmF 2 44) 0 0 (MQ x.below (QR (some (.int z))) x.args x.s 0 0 (fun _ => False)) 7 (Iro d x.s.heap) (f_X2_nextRequest_b133 k7 u v1 v2 v3 v4 = some z) 133 (WL d a u) [some (.ref (a 0)), some (.int v1), some (.int v2), some (.int v3), some (.int v4), none, none] [] := by
  unfold f_X2_nextRequest_b133
  refine V_iinc (v := (v4 + 1)) (lv' := [some (.ref (a 0)), some (.int v1), some (.int v2), some (.int v3), some (.int (v4 + 1)), none, none]) C dX2_nextRequest_133 rfl rfl (by decide) rfl ?_
  refine V_goto (tgt := 7) C dX2_nextRequest_136 (by decide) ?_
  exact hk7 u v1 v2 v3 (v4 + 1)
set_option maxRecDepth 20000 in
theorem v_X2_nextRequest_b127 {x : Am} {d : Dt} {a : Nat → Nat} (C : Cx x cX2_nextRequest 7 yX2_nextRequest.cls d (Iro d x.s.heap)) (hr : x.meth.sig.returnType = (some .int)) (hlk : x.meth.locks = false) (z : Int32) (k7 : UL → Int32 → Int32 → Int32 → Int32 → Option (Int32)) (hk7 : ∀ (u : UL)(v1 : Int32)(v2 : Int32)(v3 : Int32)(v4 : Int32), V x (rmF 2 44) 0 0 (MQ x.below (QR (some (.int z))) x.args x.s 0 0 (fun _ => False)) 7 (Iro d x.s.heap) (k7 u v1 v2 v3 v4 = some z) 7 (WL d a u) [some (.ref (a 0)), some (.int v1), some (.int v2), some (.int v3), some (.int v4), none, none] []) (u : UL) (v1 : Int32) (v4 : Int32) (v6 : Int32) : V x (rmF 2 44) 0 0 (MQ x.below (QR (some (.int z))) x.args x.s 0 0 (fun _ => False)) 7 (Iro d x.s.heap) (f_X2_nextRequest_b127 k7 u v1 v4 v6 = some z) 127 (WL d a u) [some (.ref (a 0)), some (.int v1), none, none, some (.int v4), none, some (.int v6)] [] := by
  unfold f_X2_nextRequest_b127
  refine V_iload C dX2_nextRequest_127 rfl ?_
  refine V_istore_n (lv' := [some (.ref (a 0)), some (.int v1), some (.int v4), none, some (.int v4), none, some (.int v6)]) C 2 dX2_nextRequest_129 rfl (by decide) rfl ?_
  refine V_iload C dX2_nextRequest_130 rfl ?_
  refine V_istore_n (lv' := [some (.ref (a 0)), some (.int v1), some (.int v4), some (.int v6), some (.int v4), none, some (.int v6)]) C 3 dX2_nextRequest_132 rfl (by decide) rfl ?_
  refine V_mask (lv' := [some (.ref (a 0)), some (.int v1), some (.int v4), some (.int v6), some (.int v4), none, none]) [true, true, true, true, true, true, false] rfl ?_
  exact v_X2_nextRequest_b133 C hr hlk z k7 hk7 u v1 v4 v6 v4
set_option maxRecDepth 20000 in
theorem v_X2_nextRequest_b116 {x : Am} {d : Dt} {a : Nat → Nat} (C : Cx x cX2_nextRequest 7 yX2_nextRequest.cls d (Iro d x.s.heap)) (hr : x.meth.sig.returnType = (some .int)) (hlk : x.meth.locks = false) (z : Int32) (k7 : UL → Int32 → Int32 → Int32 → Int32 → Option (Int32)) (hk7 : ∀ (u : UL)(v1 : Int32)(v2 : Int32)(v3 : Int32)(v4 : Int32), V x (rmF 2 44) 0 0 (MQ x.below (QR (some (.int z))) x.args x.s 0 0 (fun _ => False)) 7 (Iro d x.s.heap) (k7 u v1 v2 v3 v4 = some z) 7 (WL d a u) [some (.ref (a 0)), some (.int v1), some (.int v2), some (.int v3), some (.int v4), none, none] []) (u : UL) (v1 : Int32) (v2 : Int32) (v3 : Int32) (v4 : Int32) (v6 : Int32) : V x (rmF 2 44) 0 0 (MQ x.below (QR (some (.int z))) x.args x.s 0 0 (fun _ => False)) 7 (Iro d x.s.heap) (f_X2_nextRequest_b116 k7 u v1 v2 v3 v4 v6 = some z) 116 (WL d a u) [some (.ref (a 0)), some (.int v1), some (.int v2), some (.int v3), some (.int v4), none, some (.int v6)] [] := by
  unfold f_X2_nextRequest_b116
  refine V_iload_n C 2 dX2_nextRequest_116 rfl rfl ?_
  refine V_iconst (v := (-1)) C dX2_nextRequest_117 (by decide) ?_
  refine V_icmp_eq (tgt := 127) C dX2_nextRequest_118 (by decide) ?_ ?_
  · refine V_mask (lv' := [some (.ref (a 0)), some (.int v1), none, none, some (.int v4), none, some (.int v6)]) [true, true, false, false, true, true, true] rfl ?_
    exact v_X2_nextRequest_b127 C hr hlk z k7 hk7 u v1 v4 v6
  · refine V_iload C dX2_nextRequest_121 rfl ?_
    refine V_iload_n C 3 dX2_nextRequest_123 rfl rfl ?_
    refine V_icmp_le (tgt := 133) C dX2_nextRequest_124 (by decide) ?_ ?_
    · refine V_mask (lv' := [some (.ref (a 0)), some (.int v1), some (.int v2), some (.int v3), some (.int v4), none, none]) [true, true, true, true, true, true, false] rfl ?_
      exact v_X2_nextRequest_b133 C hr hlk z k7 hk7 u v1 v2 v3 v4
    · refine V_mask (lv' := [some (.ref (a 0)), some (.int v1), none, none, some (.int v4), none, some (.int v6)]) [true, true, false, false, true, true, true] rfl ?_
      exact v_X2_nextRequest_b127 C hr hlk z k7 hk7 u v1 v4 v6
set_option maxRecDepth 20000 in
theorem v_X2_nextRequest_b7 {x : Am} {d : Dt} {a : Nat → Nat} (C : Cx x cX2_nextRequest 7 yX2_nextRequest.cls d (Iro d x.s.heap)) (hr : x.meth.sig.returnType = (some .int)) (hlk : x.meth.locks = false) (z : Int32) (n : Nat) (u : UL) (v1 : Int32) (v2 : Int32) (v3 : Int32) (v4 : Int32) : V x (rmF 2 44) 0 0 (MQ x.below (QR (some (.int z))) x.args x.s 0 0 (fun _ => False)) 7 (Iro d x.s.heap) (f_X2_nextRequest_b7 n u v1 v2 v3 v4 = some z) 7 (WL d a u) [some (.ref (a 0)), some (.int v1), some (.int v2), some (.int v3), some (.int v4), none, none] [] := by
  induction n generalizing u v1 v2 v3 v4 with
  | zero => exact V_none
  | succ n ih =>
    rw [f_X2_nextRequest_b7]
    refine V_iload C dX2_nextRequest_7 rfl ?_
    refine V_aload_n C 0 dX2_nextRequest_9 rfl rfl ?_
    refine V_get (v := .ref (a 8)) C fx2 0 1 kf_X2_21 (by decide) rfl rfl dX2_nextRequest_10 ?_
    refine V_get (v := .int u.2.1.2.2.2) C fx4 8 3 kf_X2_184 (by decide) rfl rfl dX2_nextRequest_13 ?_
    refine V_icmp_ge (tgt := 139) C dX2_nextRequest_16 (by decide) ?_ ?_
    · refine V_iload_n C 2 dX2_nextRequest_139 rfl rfl ?_
      exact V_iretR C hr hlk dX2_nextRequest_140
    · refine V_aload_n C 0 dX2_nextRequest_19 rfl rfl ?_
      refine V_iload C dX2_nextRequest_20 rfl ?_
      refine V_callRi (As := [.int v4]) (rest := []) (wc := WL d a u) C (fun r h => ct_X2_holderFor _ d a u v4 r h) kv_X2_holderFor kl_X2_150 [0, 1, 2, 3, 4, 5, 6, 7, 8, 9, 10, 11] dX2_nextRequest_22 rfl rfl rfl rfl (Nat.le_of_ble_eq_true rfl) ⟨(Nat.le_of_ble_eq_true rfl), (Nat.le_of_ble_eq_true rfl)⟩ rfl rfl ⟨Nat.le_refl _, Nat.le_refl _⟩ rfl (fun r22 hr22 => ?_)
      refine V_istore (lv' := [some (.ref (a 0)), some (.int v1), some (.int v2), some (.int v3), some (.int v4), some (.int r22), none]) C dX2_nextRequest_25 (by decide) rfl ?_
      refine V_aload_n C 0 dX2_nextRequest_27 rfl rfl ?_
      refine V_get (v := .ref (a 1)) C fx2 0 0 kf_X2_12 (by decide) rfl rfl dX2_nextRequest_28 ?_
      refine V_iload C dX2_nextRequest_31 rfl ?_
      refine V_callRi (As := [.int r22]) (rest := []) (wc := WC d (fun i => a (i + 1)) u.1) C (fun r h => ct_X0_isOnShelf _ d (fun i => a (i + 1)) u.1 r22 r h) kv_X0_isOnShelf kl_X2_83 [1, 2, 3, 4, 5, 6, 7] dX2_nextRequest_33 rfl rfl rfl rfl (Nat.le_of_ble_eq_true rfl) ⟨(Nat.le_of_ble_eq_true rfl), (Nat.le_of_ble_eq_true rfl)⟩ rfl rfl ⟨Nat.le_refl _, Nat.le_refl _⟩ rfl (fun r33 hr33 => ?_)
      refine V_if_eq (tgt := 133) C dX2_nextRequest_36 (by decide) ?_ ?_
      · refine V_mask (lv' := [some (.ref (a 0)), some (.int v1), some (.int v2), some (.int v3), some (.int v4), none, none]) [true, true, true, true, true, false, true] rfl ?_
        exact v_X2_nextRequest_b133 C hr hlk z (f_X2_nextRequest_b7  n) ih u v1 v2 v3 v4
      · refine V_aload_n C 0 dX2_nextRequest_39 rfl rfl ?_
        refine V_get (v := .ref (a 1)) C fx2 0 0 kf_X2_12 (by decide) rfl rfl dX2_nextRequest_40 ?_
        refine V_iload C dX2_nextRequest_43 rfl ?_
        refine V_callRi (As := [.int r22]) (rest := []) (wc := WC d (fun i => a (i + 1)) u.1) C (fun r h => ct_X0_isWorn _ d (fun i => a (i + 1)) u.1 r22 r h) kv_X0_isWorn kl_X2_121 [1, 2, 3, 4, 5, 6, 7] dX2_nextRequest_45 rfl rfl rfl rfl (Nat.le_of_ble_eq_true rfl) ⟨(Nat.le_of_ble_eq_true rfl), (Nat.le_of_ble_eq_true rfl)⟩ rfl rfl ⟨Nat.le_refl _, Nat.le_refl _⟩ rfl (fun r45 hr45 => ?_)
        refine V_if_eq (tgt := 54) C dX2_nextRequest_48 (by decide) ?_ ?_
        · refine V_iconst (v := 0) C dX2_nextRequest_54 (by decide) ?_
          refine V_istore (lv' := [some (.ref (a 0)), some (.int v1), some (.int v2), some (.int v3), some (.int v4), some (.int r22), some (.int 0)]) C dX2_nextRequest_55 (by decide) rfl ?_
          refine V_iload_n C 1 dX2_nextRequest_57 rfl rfl ?_
          refine V_iconst (v := 1) C dX2_nextRequest_58 (by decide) ?_
          refine V_icmp_ne (tgt := 76) C dX2_nextRequest_59 (by decide) ?_ ?_
          · refine V_iload_n C 1 dX2_nextRequest_76 rfl rfl ?_
            refine V_iconst (v := 2) C dX2_nextRequest_77 (by decide) ?_
            refine V_icmp_ne (tgt := 103) C dX2_nextRequest_78 (by decide) ?_ ?_
            · refine V_iload_n C 1 dX2_nextRequest_103 rfl rfl ?_
              refine V_iconst (v := 3) C dX2_nextRequest_104 (by decide) ?_
              refine V_icmp_ne (tgt := 116) C dX2_nextRequest_105 (by decide) ?_ ?_
              · refine V_mask (lv' := [some (.ref (a 0)), some (.int v1), some (.int v2), some (.int v3), some (.int v4), none, some (.int 0)]) [true, true, true, true, true, false, true] rfl ?_
                exact v_X2_nextRequest_b116 C hr hlk z (f_X2_nextRequest_b7  n) ih u v1 v2 v3 v4 0
              · refine V_aload_n C 0 dX2_nextRequest_108 rfl rfl ?_
                refine V_iload C dX2_nextRequest_109 rfl ?_
                refine V_callRi (As := [.int r22]) (rest := []) (wc := WL d a u) C (fun r h => ct_X2_waitingFor _ d a u r22 r h) kv_X2_waitingFor kl_X2_193 [0, 1, 2, 3, 4, 5, 6, 7, 8, 9, 10, 11] dX2_nextRequest_111 rfl rfl rfl rfl (Nat.le_of_ble_eq_true rfl) ⟨(Nat.le_of_ble_eq_true rfl), (Nat.le_of_ble_eq_true rfl)⟩ rfl rfl ⟨Nat.le_refl _, Nat.le_refl _⟩ rfl (fun r111 hr111 => ?_)
                refine V_istore (lv' := [some (.ref (a 0)), some (.int v1), some (.int v2), some (.int v3), some (.int v4), some (.int r22), some (.int r111)]) C dX2_nextRequest_114 (by decide) rfl ?_
                refine V_mask (lv' := [some (.ref (a 0)), some (.int v1), some (.int v2), some (.int v3), some (.int v4), none, some (.int r111)]) [true, true, true, true, true, false, true] rfl ?_
                exact v_X2_nextRequest_b116 C hr hlk z (f_X2_nextRequest_b7  n) ih u v1 v2 v3 v4 r111
            · refine V_aload_n C 0 dX2_nextRequest_81 rfl rfl ?_
              refine V_get (v := .int u.2.2.1) C fx2 0 2 kf_X2_32 (by decide) rfl rfl dX2_nextRequest_82 ?_
              refine V_aload_n C 0 dX2_nextRequest_85 rfl rfl ?_
              refine V_get (v := .ref (a 1)) C fx2 0 0 kf_X2_12 (by decide) rfl rfl dX2_nextRequest_86 ?_
              refine V_iload C dX2_nextRequest_89 rfl ?_
              refine V_callRi (As := [.int r22]) (rest := [.int u.2.2.1]) (wc := WC d (fun i => a (i + 1)) u.1) C (fun r h => ct_X0_wallOf _ d (fun i => a (i + 1)) u.1 r22 r h) kv_X0_wallOf kl_X2_169 [1, 2, 3, 4, 5, 6, 7] dX2_nextRequest_91 rfl rfl rfl rfl (Nat.le_of_ble_eq_true rfl) ⟨(Nat.le_of_ble_eq_true rfl), (Nat.le_of_ble_eq_true rfl)⟩ rfl rfl ⟨Nat.le_refl _, Nat.le_refl _⟩ rfl (fun r91 hr91 => ?_)
              refine V_callNi (As := [.int u.2.2.1, .int r91]) (rest := []) (wc := []) C (fun r h => ct_X6_distance _ d u.2.2.1 r91 r h) ks_X6_distance kn_X2_190 [] dX2_nextRequest_94 rfl rfl (Nat.le_of_ble_eq_true rfl) ⟨(Nat.le_of_ble_eq_true rfl), (Nat.le_of_ble_eq_true rfl)⟩ rfl rfl ⟨Nat.le_refl _, Nat.le_refl _⟩ rfl (fun r94 hr94 => ?_)
              refine V_ineg C dX2_nextRequest_97 ?_
              refine V_istore (lv' := [some (.ref (a 0)), some (.int v1), some (.int v2), some (.int v3), some (.int v4), some (.int r22), some (.int (-r94))]) C dX2_nextRequest_98 (by decide) rfl ?_
              refine V_goto (tgt := 116) C dX2_nextRequest_100 (by decide) ?_
              refine V_mask (lv' := [some (.ref (a 0)), some (.int v1), some (.int v2), some (.int v3), some (.int v4), none, some (.int (-r94))]) [true, true, true, true, true, false, true] rfl ?_
              exact v_X2_nextRequest_b116 C hr hlk z (f_X2_nextRequest_b7  n) ih u v1 v2 v3 v4 (-r94)
          · refine V_aload_n C 0 dX2_nextRequest_62 rfl rfl ?_
            refine V_get (v := .ref (a 8)) C fx2 0 1 kf_X2_21 (by decide) rfl rfl dX2_nextRequest_63 ?_
            refine V_iload C dX2_nextRequest_66 rfl ?_
            refine V_callRi (As := [.int v4]) (rest := []) (wc := WR d (fun i => a (i + 8)) u.2.1) C (fun r h => ct_X4_rankOf _ d (fun i => a (i + 8)) u.2.1 v4 r h) kv_X4_rankOf kl_X2_187 [8, 9, 10, 11] dX2_nextRequest_68 rfl rfl rfl rfl (Nat.le_of_ble_eq_true rfl) ⟨(Nat.le_of_ble_eq_true rfl), (Nat.le_of_ble_eq_true rfl)⟩ rfl rfl ⟨Nat.le_refl _, Nat.le_refl _⟩ rfl (fun r68 hr68 => ?_)
            refine V_istore (lv' := [some (.ref (a 0)), some (.int v1), some (.int v2), some (.int v3), some (.int v4), some (.int r22), some (.int r68)]) C dX2_nextRequest_71 (by decide) rfl ?_
            refine V_goto (tgt := 116) C dX2_nextRequest_73 (by decide) ?_
            refine V_mask (lv' := [some (.ref (a 0)), some (.int v1), some (.int v2), some (.int v3), some (.int v4), none, some (.int r68)]) [true, true, true, true, true, false, true] rfl ?_
            exact v_X2_nextRequest_b116 C hr hlk z (f_X2_nextRequest_b7  n) ih u v1 v2 v3 v4 r68
        · refine V_goto (tgt := 133) C dX2_nextRequest_51 (by decide) ?_
          refine V_mask (lv' := [some (.ref (a 0)), some (.int v1), some (.int v2), some (.int v3), some (.int v4), none, none]) [true, true, true, true, true, false, true] rfl ?_
          exact v_X2_nextRequest_b133 C hr hlk z (f_X2_nextRequest_b7  n) ih u v1 v2 v3 v4
set_option maxRecDepth 20000 in
theorem v_X2_nextRequest {x : Am} {d : Dt} {a : Nat → Nat} (C : Cx x cX2_nextRequest 7 yX2_nextRequest.cls d (Iro d x.s.heap)) (hr : x.meth.sig.returnType = (some .int)) (hlk : x.meth.locks = false) (z : Int32) (u : UL) (p1 : Int32) : V x (rmF 2 44) 0 0 (MQ x.below (QR (some (.int z))) x.args x.s 0 0 (fun _ => False)) 7 (Iro d x.s.heap) (f_X2_nextRequest u p1 = some z) 0 (WL d a u) [some (.ref (a 0)), some (.int p1), none, none, none, none, none] [] := by
  unfold f_X2_nextRequest
  refine V_iconst (v := (-1)) C dX2_nextRequest_0 (by decide) ?_
  refine V_istore_n (lv' := [some (.ref (a 0)), some (.int p1), some (.int (-1)), none, none, none, none]) C 2 dX2_nextRequest_1 rfl (by decide) rfl ?_
  refine V_iconst (v := 0) C dX2_nextRequest_2 (by decide) ?_
  refine V_istore_n (lv' := [some (.ref (a 0)), some (.int p1), some (.int (-1)), some (.int 0), none, none, none]) C 3 dX2_nextRequest_3 rfl (by decide) rfl ?_
  refine V_iconst (v := 0) C dX2_nextRequest_4 (by decide) ?_
  refine V_istore (lv' := [some (.ref (a 0)), some (.int p1), some (.int (-1)), some (.int 0), some (.int 0), none, none]) C dX2_nextRequest_5 (by decide) rfl ?_
  exact v_X2_nextRequest_b7 C hr hlk z FUEL u p1 (-1) 0 0
set_option maxRecDepth 20000 in
theorem ct_X2_nextRequest (l : Launch) (d : Dt) (a : Nat → Nat) (u : UL) (p1 : Int32) (z : Int32) (h : f_X2_nextRequest u p1 = some z) : CtR l d yX2_nextRequest cX2_nextRequest 7 (some .int) (rmF 2 44) [.ref (a 0), .int p1] (WL d a u) (some (.int z)) :=
  CtR.start (by decide) (Nat.le_of_ble_eq_true rfl) (by simp [Value.category]) [some (.ref (a 0)), some (.int p1), none, none, none, none, none] rfl (fun x C hr hlk => V_eqv (fun _ => h) (v_X2_nextRequest C hr hlk z u p1))

/-! MastRobots$Library.driveFor -/
def f_X2_driveFor_b96 (u : UL) (v2 : Int32) : Option (Int32) :=
  (if v2 = 0 then some 1 else some 0)
def f_X2_driveFor_b75 (u : UL) (v2 : Int32) (v3 : Int32) : Option (Int32) :=
  (if v2 = 0 then (if v3 = 0 then (if u.2.2.2.2.2.2.1 = 0 then some 1 else some 0) else f_X2_driveFor_b96 u v2) else f_X2_driveFor_b96 u v2)
def f_X2_driveFor_b29 (u : UL) (v1 : Int32) (v2 : Int32) (s0 : Int32) : Option (Int32) :=
  (if v2 = 0 then f_X2_driveFor_b75 u v2 s0 else (if s0 = 0 then f_X2_driveFor_b75 u v2 s0 else ((f_X0_wallOf u.1 v1).bind fun r43 => ((f_X6_wallOfDrive 0).bind fun r51 => ((f_X6_distance r43 r51).bind fun r54 => ((f_X6_wallOfDrive 1).bind fun r60 => ((f_X6_distance r43 r60).bind fun r63 => (if r63 < r54 then some 1 else some 0))))))))
def f_X2_driveFor_b14 (u : UL) (v1 : Int32) (s0 : Int32) : Option (Int32) :=
  ((f_X2_inDrive u 1).bind fun r17 => (if r17 = (-1) then f_X2_driveFor_b29 u v1 s0 1 else f_X2_driveFor_b29 u v1 s0 0))
def f_X2_driveFor (u : UL) (p1 : Int32) : Option (Int32) :=
  ((f_X2_inDrive u 0).bind fun r2 => (if r2 = (-1) then f_X2_driveFor_b14 u p1 1 else f_X2_driveFor_b14 u p1 0))
set_option maxRecDepth 20000 in
theorem v_X2_driveFor_b96 {x : Am} {d : Dt} {a : Nat → Nat} (C : Cx x cX2_driveFor 5 yX2_driveFor.cls d (Iro d x.s.heap)) (hr : x.meth.sig.returnType = (some .int)) (hlk : x.meth.locks = false) (z : Int32) (u : UL) (v2 : Int32) : V x (rmF 2 43) 0 0 (MQ x.below (QR (some (.int z))) x.args x.s 0 0 (fun _ => False)) 5 (Iro d x.s.heap) (f_X2_driveFor_b96 u v2 = some z) 96 (WL d a u) [none, none, some (.int v2), none, none] [] := by
  unfold f_X2_driveFor_b96
  refine V_iload_n C 2 dX2_driveFor_96 rfl rfl ?_
  refine V_if_eq (tgt := 104) C dX2_driveFor_97 (by decide) ?_ ?_
  · refine V_iconst (v := 1) C dX2_driveFor_104 (by decide) ?_
    exact V_iretR C hr hlk dX2_driveFor_105
  · refine V_iconst (v := 0) C dX2_driveFor_100 (by decide) ?_
    refine V_goto (tgt := 105) C dX2_driveFor_101 (by decide) ?_
    exact V_iretR C hr hlk dX2_driveFor_105
set_option maxRecDepth 20000 in
theorem v_X2_driveFor_b75 {x : Am} {d : Dt} {a : Nat → Nat} (C : Cx x cX2_driveFor 5 yX2_driveFor.cls d (Iro d x.s.heap)) (hr : x.meth.sig.returnType = (some .int)) (hlk : x.meth.locks = false) (z : Int32) (u : UL) (v2 : Int32) (v3 : Int32) : V x (rmF 2 43) 0 0 (MQ x.below (QR (some (.int z))) x.args x.s 0 0 (fun _ => False)) 5 (Iro d x.s.heap) (f_X2_driveFor_b75 u v2 v3 = some z) 75 (WL d a u) [some (.ref (a 0)), none, some (.int v2), some (.int v3), none] [] := by
  unfold f_X2_driveFor_b75
  refine V_iload_n C 2 dX2_driveFor_75 rfl rfl ?_
  refine V_if_ne (tgt := 96) C dX2_driveFor_76 (by decide) ?_ ?_
  · refine V_mask (lv' := [none, none, some (.int v2), none, none]) [false, true, true, false, true] rfl ?_
    exact v_X2_driveFor_b96 C hr hlk z u v2
  · refine V_iload_n C 3 dX2_driveFor_79 rfl rfl ?_
    refine V_if_ne (tgt := 96) C dX2_driveFor_80 (by decide) ?_ ?_
    · refine V_mask (lv' := [none, none, some (.int v2), none, none]) [false, true, true, false, true] rfl ?_
      exact v_X2_driveFor_b96 C hr hlk z u v2
    · refine V_aload_n C 0 dX2_driveFor_83 rfl rfl ?_
      refine V_get (v := .int u.2.2.2.2.2.2.1) C fx2 0 6 kf_X2_46 (by decide) rfl rfl dX2_driveFor_84 ?_
      refine V_if_ne (tgt := 94) C dX2_driveFor_87 (by decide) ?_ ?_
      · refine V_iconst (v := 0) C dX2_driveFor_94 (by decide) ?_
        exact V_iretR C hr hlk dX2_driveFor_95
      · refine V_iconst (v := 1) C dX2_driveFor_90 (by decide) ?_
        refine V_goto (tgt := 95) C dX2_driveFor_91 (by decide) ?_
        exact V_iretR C hr hlk dX2_driveFor_95
set_option maxRecDepth 20000 in
theorem v_X2_driveFor_b29 {x : Am} {d : Dt} {a : Nat → Nat} (C : Cx x cX2_driveFor 5 yX2_driveFor.cls d (Iro d x.s.heap)) (hr : x.meth.sig.returnType = (some .int)) (hlk : x.meth.locks = false) (z : Int32) (u : UL) (v1 : Int32) (v2 : Int32) (s0 : Int32) : V x (rmF 2 43) 0 0 (MQ x.below (QR (some (.int z))) x.args x.s 0 0 (fun _ => False)) 5 (Iro d x.s.heap) (f_X2_driveFor_b29 u v1 v2 s0 = some z) 29 (WL d a u) [some (.ref (a 0)), some (.int v1), some (.int v2), none, none] [.int s0] := by
  unfold f_X2_driveFor_b29
  refine V_istore_n (lv' := [some (.ref (a 0)), some (.int v1), some (.int v2), some (.int s0), none]) C 3 dX2_driveFor_29 rfl (by decide) rfl ?_
  refine V_iload_n C 2 dX2_driveFor_30 rfl rfl ?_
  refine V_if_eq (tgt := 75) C dX2_driveFor_31 (by decide) ?_ ?_
  · refine V_mask (lv' := [some (.ref (a 0)), none, some (.int v2), some (.int s0), none]) [true, false, true, true, true] rfl ?_
    exact v_X2_driveFor_b75 C hr hlk z u v2 s0
  · refine V_iload_n C 3 dX2_driveFor_34 rfl rfl ?_
    refine V_if_eq (tgt := 75) C dX2_driveFor_35 (by decide) ?_ ?_
    · refine V_mask (lv' := [some (.ref (a 0)), none, some (.int v2), some (.int s0), none]) [true, false, true, true, true] rfl ?_
      exact v_X2_driveFor_b75 C hr hlk z u v2 s0
    · refine V_aload_n C 0 dX2_driveFor_38 rfl rfl ?_
      refine V_get (v := .ref (a 1)) C fx2 0 0 kf_X2_12 (by decide) rfl rfl dX2_driveFor_39 ?_
      refine V_iload_n C 1 dX2_driveFor_42 rfl rfl ?_
      refine V_callRi (As := [.int v1]) (rest := []) (wc := WC d (fun i => a (i + 1)) u.1) C (fun r h => ct_X0_wallOf _ d (fun i => a (i + 1)) u.1 v1 r h) kv_X0_wallOf kl_X2_169 [1, 2, 3, 4, 5, 6, 7] dX2_driveFor_43 rfl rfl rfl rfl (Nat.le_of_ble_eq_true rfl) ⟨(Nat.le_of_ble_eq_true rfl), (Nat.le_of_ble_eq_true rfl)⟩ rfl rfl ⟨Nat.le_refl _, Nat.le_refl _⟩ rfl (fun r43 hr43 => ?_)
      refine V_istore (lv' := [some (.ref (a 0)), some (.int v1), some (.int v2), some (.int s0), some (.int r43)]) C dX2_driveFor_46 (by decide) rfl ?_
      refine V_iload C dX2_driveFor_48 rfl ?_
      refine V_iconst (v := 0) C dX2_driveFor_50 (by decide) ?_
      refine V_callNi (As := [.int 0]) (rest := [.int r43]) (wc := []) C (fun r h => ct_X6_wallOfDrive _ d 0 r h) ks_X6_wallOfDrive kn_X2_115 [] dX2_driveFor_51 rfl rfl (Nat.le_of_ble_eq_true rfl) ⟨(Nat.le_of_ble_eq_true rfl), (Nat.le_of_ble_eq_true rfl)⟩ rfl rfl ⟨Nat.le_refl _, Nat.le_refl _⟩ rfl (fun r51 hr51 => ?_)
      refine V_callNi (As := [.int r43, .int r51]) (rest := []) (wc := []) C (fun r h => ct_X6_distance _ d r43 r51 r h) ks_X6_distance kn_X2_190 [] dX2_driveFor_54 rfl rfl (Nat.le_of_ble_eq_true rfl) ⟨(Nat.le_of_ble_eq_true rfl), (Nat.le_of_ble_eq_true rfl)⟩ rfl rfl ⟨Nat.le_refl _, Nat.le_refl _⟩ rfl (fun r54 hr54 => ?_)
      refine V_iload C dX2_driveFor_57 rfl ?_
      refine V_iconst (v := 1) C dX2_driveFor_59 (by decide) ?_
      refine V_callNi (As := [.int 1]) (rest := [.int r43, .int r54]) (wc := []) C (fun r h => ct_X6_wallOfDrive _ d 1 r h) ks_X6_wallOfDrive kn_X2_115 [] dX2_driveFor_60 rfl rfl (Nat.le_of_ble_eq_true rfl) ⟨(Nat.le_of_ble_eq_true rfl), (Nat.le_of_ble_eq_true rfl)⟩ rfl rfl ⟨Nat.le_refl _, Nat.le_refl _⟩ rfl (fun r60 hr60 => ?_)
      refine V_callNi (As := [.int r43, .int r60]) (rest := [.int r54]) (wc := []) C (fun r h => ct_X6_distance _ d r43 r60 r h) ks_X6_distance kn_X2_190 [] dX2_driveFor_63 rfl rfl (Nat.le_of_ble_eq_true rfl) ⟨(Nat.le_of_ble_eq_true rfl), (Nat.le_of_ble_eq_true rfl)⟩ rfl rfl ⟨Nat.le_refl _, Nat.le_refl _⟩ rfl (fun r63 hr63 => ?_)
      refine V_icmp_gt (tgt := 73) C dX2_driveFor_66 (by decide) ?_ ?_
      · refine V_iconst (v := 1) C dX2_driveFor_73 (by decide) ?_
        exact V_iretR C hr hlk dX2_driveFor_74
      · refine V_iconst (v := 0) C dX2_driveFor_69 (by decide) ?_
        refine V_goto (tgt := 74) C dX2_driveFor_70 (by decide) ?_
        exact V_iretR C hr hlk dX2_driveFor_74
set_option maxRecDepth 20000 in
theorem v_X2_driveFor_b14 {x : Am} {d : Dt} {a : Nat → Nat} (C : Cx x cX2_driveFor 5 yX2_driveFor.cls d (Iro d x.s.heap)) (hr : x.meth.sig.returnType = (some .int)) (hlk : x.meth.locks = false) (z : Int32) (u : UL) (v1 : Int32) (s0 : Int32) : V x (rmF 2 43) 0 0 (MQ x.below (QR (some (.int z))) x.args x.s 0 0 (fun _ => False)) 5 (Iro d x.s.heap) (f_X2_driveFor_b14 u v1 s0 = some z) 14 (WL d a u) [some (.ref (a 0)), some (.int v1), none, none, none] [.int s0] := by
  unfold f_X2_driveFor_b14
  refine V_istore_n (lv' := [some (.ref (a 0)), some (.int v1), some (.int s0), none, none]) C 2 dX2_driveFor_14 rfl (by decide) rfl ?_
  refine V_aload_n C 0 dX2_driveFor_15 rfl rfl ?_
  refine V_iconst (v := 1) C dX2_driveFor_16 (by decide) ?_
  refine V_callRi (As := [.int 1]) (rest := []) (wc := WL d a u) C (fun r h => ct_X2_inDrive _ d a u 1 r h) kv_X2_inDrive kl_X2_118 [0, 1, 2, 3, 4, 5, 6, 7, 8, 9, 10, 11] dX2_driveFor_17 rfl rfl rfl rfl (Nat.le_of_ble_eq_true rfl) ⟨(Nat.le_of_ble_eq_true rfl), (Nat.le_of_ble_eq_true rfl)⟩ rfl rfl ⟨Nat.le_refl _, Nat.le_refl _⟩ rfl (fun r17 hr17 => ?_)
  refine V_iconst (v := (-1)) C dX2_driveFor_20 (by decide) ?_
  refine V_icmp_ne (tgt := 28) C dX2_driveFor_21 (by decide) ?_ ?_
  · refine V_iconst (v := 0) C dX2_driveFor_28 (by decide) ?_
    exact v_X2_driveFor_b29 C hr hlk z u v1 s0 0
  · refine V_iconst (v := 1) C dX2_driveFor_24 (by decide) ?_
    refine V_goto (tgt := 29) C dX2_driveFor_25 (by decide) ?_
    exact v_X2_driveFor_b29 C hr hlk z u v1 s0 1
set_option maxRecDepth 20000 in
theorem v_X2_driveFor {x : Am} {d : Dt} {a : Nat → Nat} (C : Cx x cX2_driveFor 5 yX2_driveFor.cls d (Iro d x.s.heap)) (hr : x.meth.sig.returnType = (some .int)) (hlk : x.meth.locks = false) (z : Int32) (u : UL) (p1 : Int32) : V x (rmF 2 43) 0 0 (MQ x.below (QR (some (.int z))) x.args x.s 0 0 (fun _ => False)) 5 (Iro d x.s.heap) (f_X2_driveFor u p1 = some z) 0 (WL d a u) [some (.ref (a 0)), some (.int p1), none, none, none] [] := by
  unfold f_X2_driveFor
  refine V_aload_n C 0 dX2_driveFor_0 rfl rfl ?_
  refine V_iconst (v := 0) C dX2_driveFor_1 (by decide) ?_
  refine V_callRi (As := [.int 0]) (rest := []) (wc := WL d a u) C (fun r h => ct_X2_inDrive _ d a u 0 r h) kv_X2_inDrive kl_X2_118 [0, 1, 2, 3, 4, 5, 6, 7, 8, 9, 10, 11] dX2_driveFor_2 rfl rfl rfl rfl (Nat.le_of_ble_eq_true rfl) ⟨(Nat.le_of_ble_eq_true rfl), (Nat.le_of_ble_eq_true rfl)⟩ rfl rfl ⟨Nat.le_refl _, Nat.le_refl _⟩ rfl (fun r2 hr2 => ?_)
  refine V_iconst (v := (-1)) C dX2_driveFor_5 (by decide) ?_
  refine V_icmp_ne (tgt := 13) C dX2_driveFor_6 (by decide) ?_ ?_
  · refine V_iconst (v := 0) C dX2_driveFor_13 (by decide) ?_
    exact v_X2_driveFor_b14 C hr hlk z u p1 0
  · refine V_iconst (v := 1) C dX2_driveFor_9 (by decide) ?_
    refine V_goto (tgt := 14) C dX2_driveFor_10 (by decide) ?_
    exact v_X2_driveFor_b14 C hr hlk z u p1 1
set_option maxRecDepth 20000 in
theorem ct_X2_driveFor (l : Launch) (d : Dt) (a : Nat → Nat) (u : UL) (p1 : Int32) (z : Int32) (h : f_X2_driveFor u p1 = some z) : CtR l d yX2_driveFor cX2_driveFor 5 (some .int) (rmF 2 43) [.ref (a 0), .int p1] (WL d a u) (some (.int z)) :=
  CtR.start (by decide) (Nat.le_of_ble_eq_true rfl) (by simp [Value.category]) [some (.ref (a 0)), some (.int p1), none, none, none] rfl (fun x C hr hlk => V_eqv (fun _ => h) (v_X2_driveFor C hr hlk z u p1))

/-! MastRobots$Library.goTo -/
def f_X2_goTo_b65 (k2 : UL → Int32 → Int32 → Option (UL)) (u : UL) (v1 : Int32) (v2 : Int32) (s1 : Int32) : Option (UL) :=
  ((f_X2_turnBy u s1).bind fun r65 => k2 r65.2 v1 (v2 + 1))
def f_X2_goTo_b2 : Nat → UL → Int32 → Int32 → Option (UL)
  | 0, _, _, _ => none
  | n + 1, u, v1, v2 => (if 8 ≤ v2 then some u else (if u.2.2.1 = v1 then some u else ((f_X2_weighPallet u).bind fun r17 => ((f_X6_mostWallsWith r17.1).bind fun r20 => ((f_X6_wallsToTheRight r17.2.2.2.1 v1).bind fun r29 => (if (8 - r29) < r29 then f_X2_goTo_b65 (f_X2_goTo_b2 n) r17.2 v1 v2 (-(jmin (8 - r29) r20)) else f_X2_goTo_b65 (f_X2_goTo_b2 n) r17.2 v1 v2 (jmin r29 r20)))))))
def f_X2_goTo (u : UL) (p1 : Int32) : Option (UL) :=
  f_X2_goTo_b2 FUEL u p1 0
set_option maxRecDepth 20000 in
theorem v_X2_goTo_b65 {x : Am} {d : Dt} {A : Nat → Prop} {a : Nat → Nat} (C : Cx x cX2_goTo 6 yX2_goTo.cls d (Imu d A x.s.heap)) (hr : x.meth.sig.returnType = none) (hlk : x.meth.locks = false) (z : UL) (k2 : UL → Int32 → Int32 → Option (UL)) (hk2 : ∀ (u : UL)(v1 : Int32)(v2 : Int32), V x (rmF 2 62) 0 0 (MQ x.below (QW d A (WL d a z) none) x.args x.s 0 0 A) 6 (Imu d A x.s.heap) (k2 u v1 v2 = some z) 2 (WL d a u) [some (.ref (a 0)), some (.int v1), some (.int v2), none, none, none] []) (u : UL) (v1 : Int32) (v2 : Int32) (s1 : Int32) : V x (rmF 2 62) 0 0 (MQ x.below (QW d A (WL d a z) none) x.args x.s 0 0 A) 6 (Imu d A x.s.heap) (f_X2_goTo_b65 k2 u v1 v2 s1 = some z) 65 (WL d a u) [some (.ref (a 0)), some (.int v1), some (.int v2), none, none, none] [.int s1, .ref (a 0)] := by
  unfold f_X2_goTo_b65
  refine V_callWi (As := [.int s1]) (rest := []) (wc := WL d a u) (Wd := fun w => WL d a w) C (fun r h => ct_X2_turnBy _ d a u s1 r h) kv_X2_turnBy kl_X2_208 [0, 1, 2, 3, 4, 5, 6, 7, 8, 9, 10, 11] (fun w => WL d a w) dX2_goTo_65 rfl rfl (fun _ => rfl) (fun _ => rfl) rfl rfl rfl (Nat.le_of_ble_eq_true rfl) ⟨(Nat.le_of_ble_eq_true rfl), (Nat.le_of_ble_eq_true rfl)⟩ rfl rfl ⟨Nat.le_refl _, Nat.le_refl _⟩ rfl (fun r65 hr65 => ?_)
  refine V_pop C dX2_goTo_68 rfl ?_
  refine V_iinc (v := (v2 + 1)) (lv' := [some (.ref (a 0)), some (.int v1), some (.int (v2 + 1)), none, none, none]) C dX2_goTo_69 rfl rfl (by decide) rfl ?_
  refine V_goto (tgt := 2) C dX2_goTo_72 (by decide) ?_
  exact hk2 r65.2 v1 (v2 + 1)
set_option maxRecDepth 20000 in
theorem v_X2_goTo_b2 {x : Am} {d : Dt} {A : Nat → Prop} {a : Nat → Nat} (C : Cx x cX2_goTo 6 yX2_goTo.cls d (Imu d A x.s.heap)) (hr : x.meth.sig.returnType = none) (hlk : x.meth.locks = false) (z : UL) (n : Nat) (u : UL) (v1 : Int32) (v2 : Int32) : V x (rmF 2 62) 0 0 (MQ x.below (QW d A (WL d a z) none) x.args x.s 0 0 A) 6 (Imu d A x.s.heap) (f_X2_goTo_b2 n u v1 v2 = some z) 2 (WL d a u) [some (.ref (a 0)), some (.int v1), some (.int v2), none, none, none] [] := by
  induction n generalizing u v1 v2 with
  | zero => exact V_none
  | succ n ih =>
    rw [f_X2_goTo_b2]
    refine V_iload_n C 2 dX2_goTo_2 rfl rfl ?_
    refine V_bipush (v := 8) C dX2_goTo_3 (by decide) ?_
    refine V_icmp_ge (tgt := 75) C dX2_goTo_5 (by decide) ?_ ?_
    · exact V_vretW (Wd := fun w => WL d a w) C hr hlk dX2_goTo_75 rfl
    · refine V_aload_n C 0 dX2_goTo_8 rfl rfl ?_
      refine V_get (v := .int u.2.2.1) C fx2 0 2 kf_X2_32 (by decide) rfl rfl dX2_goTo_9 ?_
      refine V_iload_n C 1 dX2_goTo_12 rfl rfl ?_
      refine V_icmp_eq (tgt := 75) C dX2_goTo_13 (by decide) ?_ ?_
      · exact V_vretW (Wd := fun w => WL d a w) C hr hlk dX2_goTo_75 rfl
      · refine V_aload_n C 0 dX2_goTo_16 rfl rfl ?_
        refine V_callWi (As := []) (rest := []) (wc := WL d a u) (Wd := fun w => WL d a w) C (fun r h => ct_X2_weighPallet _ d a u r h) kv_X2_weighPallet kl_X2_199 [0, 1, 2, 3, 4, 5, 6, 7, 8, 9, 10, 11] (fun w => WL d a w) dX2_goTo_17 rfl rfl (fun _ => rfl) (fun _ => rfl) rfl rfl rfl (Nat.le_of_ble_eq_true rfl) ⟨(Nat.le_of_ble_eq_true rfl), (Nat.le_of_ble_eq_true rfl)⟩ rfl rfl ⟨Nat.le_refl _, Nat.le_refl _⟩ rfl (fun r17 hr17 => ?_)
        refine V_callNi (As := [.int r17.1]) (rest := []) (wc := []) C (fun r h => ct_X6_mostWallsWith _ d r17.1 r h) ks_X6_mostWallsWith kn_X2_112 [] dX2_goTo_20 rfl rfl (Nat.le_of_ble_eq_true rfl) ⟨(Nat.le_of_ble_eq_true rfl), (Nat.le_of_ble_eq_true rfl)⟩ rfl rfl ⟨Nat.le_refl _, Nat.le_refl _⟩ rfl (fun r20 hr20 => ?_)
        refine V_istore_n (lv' := [some (.ref (a 0)), some (.int v1), some (.int v2), some (.int r20), none, none]) C 3 dX2_goTo_23 rfl (by decide) rfl ?_
        refine V_aload_n C 0 dX2_goTo_24 rfl rfl ?_
        refine V_get (v := .int r17.2.2.2.1) C fx2 0 2 kf_X2_32 (by decide) rfl rfl dX2_goTo_25 ?_
        refine V_iload_n C 1 dX2_goTo_28 rfl rfl ?_
        refine V_callNi (As := [.int r17.2.2.2.1, .int v1]) (rest := []) (wc := []) C (fun r h => ct_X6_wallsToTheRight _ d r17.2.2.2.1 v1 r h) ks_X6_wallsToTheRight kn_X2_202 [] dX2_goTo_29 rfl rfl (Nat.le_of_ble_eq_true rfl) ⟨(Nat.le_of_ble_eq_true rfl), (Nat.le_of_ble_eq_true rfl)⟩ rfl rfl ⟨Nat.le_refl _, Nat.le_refl _⟩ rfl (fun r29 hr29 => ?_)
        refine V_istore (lv' := [some (.ref (a 0)), some (.int v1), some (.int v2), some (.int r20), some (.int r29), none]) C dX2_goTo_32 (by decide) rfl ?_
        refine V_bipush (v := 8) C dX2_goTo_34 (by decide) ?_
        refine V_iload C dX2_goTo_36 rfl ?_
        refine V_isub C dX2_goTo_38 ?_
        refine V_istore (lv' := [some (.ref (a 0)), some (.int v1), some (.int v2), some (.int r20), some (.int r29), some (.int (8 - r29))]) C dX2_goTo_39 (by decide) rfl ?_
        refine V_aload_n C 0 dX2_goTo_41 rfl rfl ?_
        refine V_iload C dX2_goTo_42 rfl ?_
        refine V_iload C dX2_goTo_44 rfl ?_
        refine V_icmp_gt (tgt := 58) C dX2_goTo_46 (by decide) ?_ ?_
        · refine V_iload C dX2_goTo_58 rfl ?_
          refine V_iload_n C 3 dX2_goTo_60 rfl rfl ?_
          refine V_mmin C kl_X2_205 km_min_st km_ini km_min_code dX2_goTo_61 ⟨(Nat.le_of_ble_eq_true rfl), (Nat.le_of_ble_eq_true rfl), Nat.zero_le _, Nat.zero_le _⟩ ?_
          refine V_ineg C dX2_goTo_64 ?_
          refine V_mask (lv' := [some (.ref (a 0)), some (.int v1), some (.int v2), none, none, none]) [true, true, true, false, false, false] rfl ?_
          exact v_X2_goTo_b65 C hr hlk z (f_X2_goTo_b2  n) ih r17.2 v1 v2 (-(jmin (8 - r29) r20))
        · refine V_iload C dX2_goTo_49 rfl ?_
          refine V_iload_n C 3 dX2_goTo_51 rfl rfl ?_
          refine V_mmin C kl_X2_205 km_min_st km_ini km_min_code dX2_goTo_52 ⟨(Nat.le_of_ble_eq_true rfl), (Nat.le_of_ble_eq_true rfl), Nat.zero_le _, Nat.zero_le _⟩ ?_
          refine V_goto (tgt := 65) C dX2_goTo_55 (by decide) ?_
          refine V_mask (lv' := [some (.ref (a 0)), some (.int v1), some (.int v2), none, none, none]) [true, true, true, false, false, false] rfl ?_
          exact v_X2_goTo_b65 C hr hlk z (f_X2_goTo_b2  n) ih r17.2 v1 v2 (jmin r29 r20)
set_option maxRecDepth 20000 in
theorem v_X2_goTo {x : Am} {d : Dt} {A : Nat → Prop} {a : Nat → Nat} (C : Cx x cX2_goTo 6 yX2_goTo.cls d (Imu d A x.s.heap)) (hr : x.meth.sig.returnType = none) (hlk : x.meth.locks = false) (z : UL) (u : UL) (p1 : Int32) : V x (rmF 2 62) 0 0 (MQ x.below (QW d A (WL d a z) none) x.args x.s 0 0 A) 6 (Imu d A x.s.heap) (f_X2_goTo u p1 = some z) 0 (WL d a u) [some (.ref (a 0)), some (.int p1), none, none, none, none] [] := by
  unfold f_X2_goTo
  refine V_iconst (v := 0) C dX2_goTo_0 (by decide) ?_
  refine V_istore_n (lv' := [some (.ref (a 0)), some (.int p1), some (.int 0), none, none, none]) C 2 dX2_goTo_1 rfl (by decide) rfl ?_
  exact v_X2_goTo_b2 C hr hlk z FUEL u p1 0
set_option maxRecDepth 20000 in
theorem ct_X2_goTo (l : Launch) (d : Dt) (a : Nat → Nat) (u : UL) (p1 : Int32) (z : UL) (h : f_X2_goTo u p1 = some z) : CtW l d yX2_goTo cX2_goTo 6 none (rmF 2 62) [.ref (a 0), .int p1] (WL d a u) (WL d a z) none :=
  CtW.start (by decide) (Nat.le_of_ble_eq_true rfl) (by simp [Value.category]) [some (.ref (a 0)), some (.int p1), none, none, none, none] rfl (fun x A C hr hlk => V_eqv (fun _ => h) (v_X2_goTo C hr hlk z u p1))

/-! MastRobots$Library.serveBy -/
def f_X2_serveBy_b105 (u : UL) (v2 : Int32) (v3 : Int32) (v4 : Int32) : Option (Int32 × UL) :=
  ((f_X0_wallOf u.1 v2).bind fun r111 => ((f_X2_goTo u r111).bind fun r114 => ((f_X0_shelfOfWall r114.1 v2).bind fun r123 => ((f_X2_liftFrom r114 r123).bind fun r126 => ((f_X2_goTo r126.2 v4).bind fun r133 => ((f_X2_mountIn r133 v3).bind fun r138 => some (r138.1, r138.2)))))))
def f_X2_serveBy (u : UL) (p1 : Int32) : Option (Int32 × UL) :=
  ((f_X6_isRule p1).bind fun r1 => (if r1 = 0 then some ((-1000001), u) else ((f_X2_nextRequest u p1).bind fun r13 => ((f_X2_holderFor u r13).bind fun r16 => (if 0 < u.2.2.2.2.1 then some ((-1000002), u) else (if r16 = (-1) then some ((-1000002), u) else ((f_X2_driveFor u r16).bind fun r37 => ((f_X6_wallOfDrive r37).bind fun r42 => ((f_X2_inDrive u r37).bind fun r49 => (if r49 = (-1) then f_X2_serveBy_b105 u r16 r37 r42 else ((f_X0_emptyShelfNear u.1 r42).bind fun r62 => (if r62 = (-1) then some ((-1000002), u) else ((f_X2_goTo u r42).bind fun r79 => ((f_X2_takeFrom r79 r37).bind fun r84 => ((f_X2_goTo r84.2 (r62 / 4)).bind fun r93 => ((f_X2_layOn r93 (jrem r62 4)).bind fun r101 => f_X2_serveBy_b105 r101.2 r16 r37 r42))))))))))))))))
set_option maxRecDepth 20000 in
theorem v_X2_serveBy_b105 {x : Am} {d : Dt} {A : Nat → Prop} {a : Nat → Nat} (C : Cx x cX2_serveBy 6 yX2_serveBy.cls d (Imu d A x.s.heap)) (hr : x.meth.sig.returnType = (some .int)) (hlk : x.meth.locks = false) (z : Int32 × UL) (u : UL) (v2 : Int32) (v3 : Int32) (v4 : Int32) : V x (rmF 3 87) 0 0 (MQ x.below (QW d A (WL d a z.2) (some (.int z.1))) x.args x.s 0 0 A) 6 (Imu d A x.s.heap) (f_X2_serveBy_b105 u v2 v3 v4 = some z) 105 (WL d a u) [some (.ref (a 0)), none, some (.int v2), some (.int v3), some (.int v4), none] [] := by
  unfold f_X2_serveBy_b105
  refine V_aload_n C 0 dX2_serveBy_105 rfl rfl ?_
  refine V_aload_n C 0 dX2_serveBy_106 rfl rfl ?_
  refine V_get (v := .ref (a 1)) C fx2 0 0 kf_X2_12 (by decide) rfl rfl dX2_serveBy_107 ?_
  refine V_iload_n C 2 dX2_serveBy_110 rfl rfl ?_
  refine V_callRi (As := [.int v2]) (rest := [.ref (a 0)]) (wc := WC d (fun i => a (i + 1)) u.1) C (fun r h => ct_X0_wallOf _ d (fun i => a (i + 1)) u.1 v2 r h) kv_X0_wallOf kl_X2_169 [1, 2, 3, 4, 5, 6, 7] dX2_serveBy_111 rfl rfl rfl rfl (Nat.le_of_ble_eq_true rfl) ⟨(Nat.le_of_ble_eq_true rfl), (Nat.le_of_ble_eq_true rfl)⟩ rfl rfl ⟨Nat.le_refl _, Nat.le_refl _⟩ rfl (fun r111 hr111 => ?_)
  refine V_callWv (As := [.int r111]) (rest := []) (wc := WL d a u) (Wd := fun w => WL d a w) C (fun r h => ct_X2_goTo _ d a u r111 r h) kv_X2_goTo kl_X2_159 [0, 1, 2, 3, 4, 5, 6, 7, 8, 9, 10, 11] (fun w => WL d a w) dX2_serveBy_114 rfl rfl (fun _ => rfl) (fun _ => rfl) rfl rfl rfl (Nat.le_of_ble_eq_true rfl) ⟨(Nat.le_of_ble_eq_true rfl), (Nat.le_of_ble_eq_true rfl)⟩ rfl rfl ⟨Nat.le_refl _, Nat.le_refl _⟩ rfl (fun r114 hr114 => ?_)
  refine V_aload_n C 0 dX2_serveBy_117 rfl rfl ?_
  refine V_aload_n C 0 dX2_serveBy_118 rfl rfl ?_
  refine V_get (v := .ref (a 1)) C fx2 0 0 kf_X2_12 (by decide) rfl rfl dX2_serveBy_119 ?_
  refine V_iload_n C 2 dX2_serveBy_122 rfl rfl ?_
  refine V_callRi (As := [.int v2]) (rest := [.ref (a 0)]) (wc := WC d (fun i => a (i + 1)) r114.1) C (fun r h => ct_X0_shelfOfWall _ d (fun i => a (i + 1)) r114.1 v2 r h) kv_X0_shelfOfWall kl_X2_172 [1, 2, 3, 4, 5, 6, 7] dX2_serveBy_123 rfl rfl rfl rfl (Nat.le_of_ble_eq_true rfl) ⟨(Nat.le_of_ble_eq_true rfl), (Nat.le_of_ble_eq_true rfl)⟩ rfl rfl ⟨Nat.le_refl _, Nat.le_refl _⟩ rfl (fun r123 hr123 => ?_)
  refine V_callWi (As := [.int r123]) (rest := []) (wc := WL d a r114) (Wd := fun w => WL d a w) C (fun r h => ct_X2_liftFrom _ d a r114 r123 r h) kv_X2_liftFrom kl_X2_175 [0, 1, 2, 3, 4, 5, 6, 7, 8, 9, 10, 11] (fun w => WL d a w) dX2_serveBy_126 rfl rfl (fun _ => rfl) (fun _ => rfl) rfl rfl rfl (Nat.le_of_ble_eq_true rfl) ⟨(Nat.le_of_ble_eq_true rfl), (Nat.le_of_ble_eq_true rfl)⟩ rfl rfl ⟨Nat.le_refl _, Nat.le_refl _⟩ rfl (fun r126 hr126 => ?_)
  refine V_pop C dX2_serveBy_129 rfl ?_
  refine V_aload_n C 0 dX2_serveBy_130 rfl rfl ?_
  refine V_iload C dX2_serveBy_131 rfl ?_
  refine V_callWv (As := [.int v4]) (rest := []) (wc := WL d a r126.2) (Wd := fun w => WL d a w) C (fun r h => ct_X2_goTo _ d a r126.2 v4 r h) kv_X2_goTo kl_X2_159 [0, 1, 2, 3, 4, 5, 6, 7, 8, 9, 10, 11] (fun w => WL d a w) dX2_serveBy_133 rfl rfl (fun _ => rfl) (fun _ => rfl) rfl rfl rfl (Nat.le_of_ble_eq_true rfl) ⟨(Nat.le_of_ble_eq_true rfl), (Nat.le_of_ble_eq_true rfl)⟩ rfl rfl ⟨Nat.le_refl _, Nat.le_refl _⟩ rfl (fun r133 hr133 => ?_)
  refine V_aload_n C 0 dX2_serveBy_136 rfl rfl ?_
  refine V_iload_n C 3 dX2_serveBy_137 rfl rfl ?_
  refine V_callWi (As := [.int v3]) (rest := []) (wc := WL d a r133) (Wd := fun w => WL d a w) C (fun r h => ct_X2_mountIn _ d a r133 v3 r h) kv_X2_mountIn kl_X2_178 [0, 1, 2, 3, 4, 5, 6, 7, 8, 9, 10, 11] (fun w => WL d a w) dX2_serveBy_138 rfl rfl (fun _ => rfl) (fun _ => rfl) rfl rfl rfl (Nat.le_of_ble_eq_true rfl) ⟨(Nat.le_of_ble_eq_true rfl), (Nat.le_of_ble_eq_true rfl)⟩ rfl rfl ⟨Nat.le_refl _, Nat.le_refl _⟩ rfl (fun r138 hr138 => ?_)
  exact V_iretW (Wd := fun w => WL d a w) C hr hlk dX2_serveBy_141 rfl
set_option maxRecDepth 20000 in
theorem v_X2_serveBy {x : Am} {d : Dt} {A : Nat → Prop} {a : Nat → Nat} (C : Cx x cX2_serveBy 6 yX2_serveBy.cls d (Imu d A x.s.heap)) (hr : x.meth.sig.returnType = (some .int)) (hlk : x.meth.locks = false) (z : Int32 × UL) (u : UL) (p1 : Int32) : V x (rmF 3 87) 0 0 (MQ x.below (QW d A (WL d a z.2) (some (.int z.1))) x.args x.s 0 0 A) 6 (Imu d A x.s.heap) (f_X2_serveBy u p1 = some z) 0 (WL d a u) [some (.ref (a 0)), some (.int p1), none, none, none, none] [] := by
  unfold f_X2_serveBy
  refine V_iload_n C 1 dX2_serveBy_0 rfl rfl ?_
  refine V_callNi (As := [.int p1]) (rest := []) (wc := []) C (fun r h => ct_X6_isRule _ d p1 r h) ks_X6_isRule kn_X2_144 [] dX2_serveBy_1 rfl rfl (Nat.le_of_ble_eq_true rfl) ⟨(Nat.le_of_ble_eq_true rfl), (Nat.le_of_ble_eq_true rfl)⟩ rfl rfl ⟨Nat.le_refl _, Nat.le_refl _⟩ rfl (fun r1 hr1 => ?_)
  refine V_if_ne (tgt := 10) C dX2_serveBy_4 (by decide) ?_ ?_
  · refine V_aload_n C 0 dX2_serveBy_10 rfl rfl ?_
    refine V_aload_n C 0 dX2_serveBy_11 rfl rfl ?_
    refine V_iload_n C 1 dX2_serveBy_12 rfl rfl ?_
    refine V_callRi (As := [.int p1]) (rest := [.ref (a 0)]) (wc := WL d a u) C (fun r h => ct_X2_nextRequest _ d a u p1 r h) kv_X2_nextRequest kl_X2_147 [0, 1, 2, 3, 4, 5, 6, 7, 8, 9, 10, 11] dX2_serveBy_13 rfl rfl rfl rfl (Nat.le_of_ble_eq_true rfl) ⟨(Nat.le_of_ble_eq_true rfl), (Nat.le_of_ble_eq_true rfl)⟩ rfl rfl ⟨Nat.le_refl _, Nat.le_refl _⟩ rfl (fun r13 hr13 => ?_)
    refine V_callRi (As := [.int r13]) (rest := []) (wc := WL d a u) C (fun r h => ct_X2_holderFor _ d a u r13 r h) kv_X2_holderFor kl_X2_150 [0, 1, 2, 3, 4, 5, 6, 7, 8, 9, 10, 11] dX2_serveBy_16 rfl rfl rfl rfl (Nat.le_of_ble_eq_true rfl) ⟨(Nat.le_of_ble_eq_true rfl), (Nat.le_of_ble_eq_true rfl)⟩ rfl rfl ⟨Nat.le_refl _, Nat.le_refl _⟩ rfl (fun r16 hr16 => ?_)
    refine V_istore_n (lv' := [some (.ref (a 0)), some (.int p1), some (.int r16), none, none, none]) C 2 dX2_serveBy_19 rfl (by decide) rfl ?_
    refine V_aload_n C 0 dX2_serveBy_20 rfl rfl ?_
    refine V_get (v := .int u.2.2.2.2.1) C fx2 0 4 kf_X2_40 (by decide) rfl rfl dX2_serveBy_21 ?_
    refine V_if_gt (tgt := 32) C dX2_serveBy_24 (by decide) ?_ ?_
    · refine V_ldc C kc_X2_75 dX2_serveBy_32 ?_
      exact V_iretW (Wd := fun w => WL d a w) C hr hlk dX2_serveBy_34 rfl
    · refine V_iload_n C 2 dX2_serveBy_27 rfl rfl ?_
      refine V_iconst (v := (-1)) C dX2_serveBy_28 (by decide) ?_
      refine V_icmp_ne (tgt := 35) C dX2_serveBy_29 (by decide) ?_ ?_
      · refine V_aload_n C 0 dX2_serveBy_35 rfl rfl ?_
        refine V_iload_n C 2 dX2_serveBy_36 rfl rfl ?_
        refine V_callRi (As := [.int r16]) (rest := []) (wc := WL d a u) C (fun r h => ct_X2_driveFor _ d a u r16 r h) kv_X2_driveFor kl_X2_153 [0, 1, 2, 3, 4, 5, 6, 7, 8, 9, 10, 11] dX2_serveBy_37 rfl rfl rfl rfl (Nat.le_of_ble_eq_true rfl) ⟨(Nat.le_of_ble_eq_true rfl), (Nat.le_of_ble_eq_true rfl)⟩ rfl rfl ⟨Nat.le_refl _, Nat.le_refl _⟩ rfl (fun r37 hr37 => ?_)
        refine V_istore_n (lv' := [some (.ref (a 0)), some (.int p1), some (.int r16), some (.int r37), none, none]) C 3 dX2_serveBy_40 rfl (by decide) rfl ?_
        refine V_iload_n C 3 dX2_serveBy_41 rfl rfl ?_
        refine V_callNi (As := [.int r37]) (rest := []) (wc := []) C (fun r h => ct_X6_wallOfDrive _ d r37 r h) ks_X6_wallOfDrive kn_X2_115 [] dX2_serveBy_42 rfl rfl (Nat.le_of_ble_eq_true rfl) ⟨(Nat.le_of_ble_eq_true rfl), (Nat.le_of_ble_eq_true rfl)⟩ rfl rfl ⟨Nat.le_refl _, Nat.le_refl _⟩ rfl (fun r42 hr42 => ?_)
        refine V_istore (lv' := [some (.ref (a 0)), some (.int p1), some (.int r16), some (.int r37), some (.int r42), none]) C dX2_serveBy_45 (by decide) rfl ?_
        refine V_aload_n C 0 dX2_serveBy_47 rfl rfl ?_
        refine V_iload_n C 3 dX2_serveBy_48 rfl rfl ?_
        refine V_callRi (As := [.int r37]) (rest := []) (wc := WL d a u) C (fun r h => ct_X2_inDrive _ d a u r37 r h) kv_X2_inDrive kl_X2_118 [0, 1, 2, 3, 4, 5, 6, 7, 8, 9, 10, 11] dX2_serveBy_49 rfl rfl rfl rfl (Nat.le_of_ble_eq_true rfl) ⟨(Nat.le_of_ble_eq_true rfl), (Nat.le_of_ble_eq_true rfl)⟩ rfl rfl ⟨Nat.le_refl _, Nat.le_refl _⟩ rfl (fun r49 hr49 => ?_)
        refine V_iconst (v := (-1)) C dX2_serveBy_52 (by decide) ?_
        refine V_icmp_eq (tgt := 105) C dX2_serveBy_53 (by decide) ?_ ?_
        · refine V_mask (lv' := [some (.ref (a 0)), none, some (.int r16), some (.int r37), some (.int r42), none]) [true, false, true, true, true, true] rfl ?_
          exact v_X2_serveBy_b105 C hr hlk z u r16 r37 r42
        · refine V_aload_n C 0 dX2_serveBy_56 rfl rfl ?_
          refine V_get (v := .ref (a 1)) C fx2 0 0 kf_X2_12 (by decide) rfl rfl dX2_serveBy_57 ?_
          refine V_iload C dX2_serveBy_60 rfl ?_
          refine V_callRi (As := [.int r42]) (rest := []) (wc := WC d (fun i => a (i + 1)) u.1) C (fun r h => ct_X0_emptyShelfNear _ d (fun i => a (i + 1)) u.1 r42 r h) kv_X0_emptyShelfNear kl_X2_156 [1, 2, 3, 4, 5, 6, 7] dX2_serveBy_62 rfl rfl rfl rfl (Nat.le_of_ble_eq_true rfl) ⟨(Nat.le_of_ble_eq_true rfl), (Nat.le_of_ble_eq_true rfl)⟩ rfl rfl ⟨Nat.le_refl _, Nat.le_refl _⟩ rfl (fun r62 hr62 => ?_)
          refine V_istore (lv' := [some (.ref (a 0)), some (.int p1), some (.int r16), some (.int r37), some (.int r42), some (.int r62)]) C dX2_serveBy_65 (by decide) rfl ?_
          refine V_iload C dX2_serveBy_67 rfl ?_
          refine V_iconst (v := (-1)) C dX2_serveBy_69 (by decide) ?_
          refine V_icmp_ne (tgt := 76) C dX2_serveBy_70 (by decide) ?_ ?_
          · refine V_aload_n C 0 dX2_serveBy_76 rfl rfl ?_
            refine V_iload C dX2_serveBy_77 rfl ?_
            refine V_callWv (As := [.int r42]) (rest := []) (wc := WL d a u) (Wd := fun w => WL d a w) C (fun r h => ct_X2_goTo _ d a u r42 r h) kv_X2_goTo kl_X2_159 [0, 1, 2, 3, 4, 5, 6, 7, 8, 9, 10, 11] (fun w => WL d a w) dX2_serveBy_79 rfl rfl (fun _ => rfl) (fun _ => rfl) rfl rfl rfl (Nat.le_of_ble_eq_true rfl) ⟨(Nat.le_of_ble_eq_true rfl), (Nat.le_of_ble_eq_true rfl)⟩ rfl rfl ⟨Nat.le_refl _, Nat.le_refl _⟩ rfl (fun r79 hr79 => ?_)
            refine V_aload_n C 0 dX2_serveBy_82 rfl rfl ?_
            refine V_iload_n C 3 dX2_serveBy_83 rfl rfl ?_
            refine V_callWi (As := [.int r37]) (rest := []) (wc := WL d a r79) (Wd := fun w => WL d a w) C (fun r h => ct_X2_takeFrom _ d a r79 r37 r h) kv_X2_takeFrom kl_X2_163 [0, 1, 2, 3, 4, 5, 6, 7, 8, 9, 10, 11] (fun w => WL d a w) dX2_serveBy_84 rfl rfl (fun _ => rfl) (fun _ => rfl) rfl rfl rfl (Nat.le_of_ble_eq_true rfl) ⟨(Nat.le_of_ble_eq_true rfl), (Nat.le_of_ble_eq_true rfl)⟩ rfl rfl ⟨Nat.le_refl _, Nat.le_refl _⟩ rfl (fun r84 hr84 => ?_)
            refine V_pop C dX2_serveBy_87 rfl ?_
            refine V_aload_n C 0 dX2_serveBy_88 rfl rfl ?_
            refine V_iload C dX2_serveBy_89 rfl ?_
            refine V_iconst (v := 4) C dX2_serveBy_91 (by decide) ?_
            refine V_idiv C dX2_serveBy_92 (by decide) ?_
            refine V_callWv (As := [.int (r62 / 4)]) (rest := []) (wc := WL d a r84.2) (Wd := fun w => WL d a w) C (fun r h => ct_X2_goTo _ d a r84.2 (r62 / 4) r h) kv_X2_goTo kl_X2_159 [0, 1, 2, 3, 4, 5, 6, 7, 8, 9, 10, 11] (fun w => WL d a w) dX2_serveBy_93 rfl rfl (fun _ => rfl) (fun _ => rfl) rfl rfl rfl (Nat.le_of_ble_eq_true rfl) ⟨(Nat.le_of_ble_eq_true rfl), (Nat.le_of_ble_eq_true rfl)⟩ rfl rfl ⟨Nat.le_refl _, Nat.le_refl _⟩ rfl (fun r93 hr93 => ?_)
            refine V_aload_n C 0 dX2_serveBy_96 rfl rfl ?_
            refine V_iload C dX2_serveBy_97 rfl ?_
            refine V_iconst (v := 4) C dX2_serveBy_99 (by decide) ?_
            refine V_irem C dX2_serveBy_100 (by decide) ?_
            refine V_callWi (As := [.int (jrem r62 4)]) (rest := []) (wc := WL d a r93) (Wd := fun w => WL d a w) C (fun r h => ct_X2_layOn _ d a r93 (jrem r62 4) r h) kv_X2_layOn kl_X2_166 [0, 1, 2, 3, 4, 5, 6, 7, 8, 9, 10, 11] (fun w => WL d a w) dX2_serveBy_101 rfl rfl (fun _ => rfl) (fun _ => rfl) rfl rfl rfl (Nat.le_of_ble_eq_true rfl) ⟨(Nat.le_of_ble_eq_true rfl), (Nat.le_of_ble_eq_true rfl)⟩ rfl rfl ⟨Nat.le_refl _, Nat.le_refl _⟩ rfl (fun r101 hr101 => ?_)
            refine V_pop C dX2_serveBy_104 rfl ?_
            refine V_mask (lv' := [some (.ref (a 0)), none, some (.int r16), some (.int r37), some (.int r42), none]) [true, false, true, true, true, false] rfl ?_
            exact v_X2_serveBy_b105 C hr hlk z r101.2 r16 r37 r42
          · refine V_ldc C kc_X2_75 dX2_serveBy_73 ?_
            exact V_iretW (Wd := fun w => WL d a w) C hr hlk dX2_serveBy_75 rfl
      · refine V_ldc C kc_X2_75 dX2_serveBy_32 ?_
        exact V_iretW (Wd := fun w => WL d a w) C hr hlk dX2_serveBy_34 rfl
  · refine V_ldc C kc_X2_66 dX2_serveBy_7 ?_
    exact V_iretW (Wd := fun w => WL d a w) C hr hlk dX2_serveBy_9 rfl
set_option maxRecDepth 20000 in
theorem ct_X2_serveBy (l : Launch) (d : Dt) (a : Nat → Nat) (u : UL) (p1 : Int32) (z : Int32 × UL) (h : f_X2_serveBy u p1 = some z) : CtW l d yX2_serveBy cX2_serveBy 6 (some .int) (rmF 3 87) [.ref (a 0), .int p1] (WL d a u) (WL d a z.2) (some (.int z.1)) :=
  CtW.start (by decide) (Nat.le_of_ble_eq_true rfl) (by simp [Value.category]) [some (.ref (a 0)), some (.int p1), none, none, none, none] rfl (fun x A C hr hlk => V_eqv (fun _ => h) (v_X2_serveBy C hr hlk z u p1))

/-! MastRobots$Library.serveAllBy -/
def f_X2_serveAllBy_b2 : Nat → UL → Int32 → Int32 → Option (Int32 × UL)
  | 0, _, _, _ => none
  | n + 1, u, v1, v2 => (if 12 ≤ v2 then some (v2, u) else ((f_X2_serveBy u v1).bind fun r10 => (if r10.1 < 0 then some (v2, r10.2) else f_X2_serveAllBy_b2 n r10.2 v1 (v2 + 1))))
def f_X2_serveAllBy (u : UL) (p1 : Int32) : Option (Int32 × UL) :=
  f_X2_serveAllBy_b2 FUEL u p1 0
set_option maxRecDepth 20000 in
theorem v_X2_serveAllBy_b2 {x : Am} {d : Dt} {A : Nat → Prop} {a : Nat → Nat} (C : Cx x cX2_serveAllBy 3 yX2_serveAllBy.cls d (Imu d A x.s.heap)) (hr : x.meth.sig.returnType = (some .int)) (hlk : x.meth.locks = false) (z : Int32 × UL) (n : Nat) (u : UL) (v1 : Int32) (v2 : Int32) : V x (rmF 4 112) 0 0 (MQ x.below (QW d A (WL d a z.2) (some (.int z.1))) x.args x.s 0 0 A) 3 (Imu d A x.s.heap) (f_X2_serveAllBy_b2 n u v1 v2 = some z) 2 (WL d a u) [some (.ref (a 0)), some (.int v1), some (.int v2)] [] := by
  induction n generalizing u v1 v2 with
  | zero => exact V_none
  | succ n ih =>
    rw [f_X2_serveAllBy_b2]
    refine V_iload_n C 2 dX2_serveAllBy_2 rfl rfl ?_
    refine V_bipush (v := 12) C dX2_serveAllBy_3 (by decide) ?_
    refine V_icmp_ge (tgt := 22) C dX2_serveAllBy_5 (by decide) ?_ ?_
    · refine V_iload_n C 2 dX2_serveAllBy_22 rfl rfl ?_
      exact V_iretW (Wd := fun w => WL d a w) C hr hlk dX2_serveAllBy_23 rfl
    · refine V_aload_n C 0 dX2_serveAllBy_8 rfl rfl ?_
      refine V_iload_n C 1 dX2_serveAllBy_9 rfl rfl ?_
      refine V_callWi (As := [.int v1]) (rest := []) (wc := WL d a u) (Wd := fun w => WL d a w) C (fun r h => ct_X2_serveBy _ d a u v1 r h) kv_X2_serveBy kl_X2_181 [0, 1, 2, 3, 4, 5, 6, 7, 8, 9, 10, 11] (fun w => WL d a w) dX2_serveAllBy_10 rfl rfl (fun _ => rfl) (fun _ => rfl) rfl rfl rfl (Nat.le_of_ble_eq_true rfl) ⟨(Nat.le_of_ble_eq_true rfl), (Nat.le_of_ble_eq_true rfl)⟩ rfl rfl ⟨Nat.le_refl _, Nat.le_refl _⟩ rfl (fun r10 hr10 => ?_)
      refine V_if_lt (tgt := 22) C dX2_serveAllBy_13 (by decide) ?_ ?_
      · refine V_iload_n C 2 dX2_serveAllBy_22 rfl rfl ?_
        exact V_iretW (Wd := fun w => WL d a w) C hr hlk dX2_serveAllBy_23 rfl
      · refine V_iinc (v := (v2 + 1)) (lv' := [some (.ref (a 0)), some (.int v1), some (.int (v2 + 1))]) C dX2_serveAllBy_16 rfl rfl (by decide) rfl ?_
        refine V_goto (tgt := 2) C dX2_serveAllBy_19 (by decide) ?_
        exact ih r10.2 v1 (v2 + 1)
set_option maxRecDepth 20000 in
theorem v_X2_serveAllBy {x : Am} {d : Dt} {A : Nat → Prop} {a : Nat → Nat} (C : Cx x cX2_serveAllBy 3 yX2_serveAllBy.cls d (Imu d A x.s.heap)) (hr : x.meth.sig.returnType = (some .int)) (hlk : x.meth.locks = false) (z : Int32 × UL) (u : UL) (p1 : Int32) : V x (rmF 4 112) 0 0 (MQ x.below (QW d A (WL d a z.2) (some (.int z.1))) x.args x.s 0 0 A) 3 (Imu d A x.s.heap) (f_X2_serveAllBy u p1 = some z) 0 (WL d a u) [some (.ref (a 0)), some (.int p1), none] [] := by
  unfold f_X2_serveAllBy
  refine V_iconst (v := 0) C dX2_serveAllBy_0 (by decide) ?_
  refine V_istore_n (lv' := [some (.ref (a 0)), some (.int p1), some (.int 0)]) C 2 dX2_serveAllBy_1 rfl (by decide) rfl ?_
  exact v_X2_serveAllBy_b2 C hr hlk z FUEL u p1 0
set_option maxRecDepth 20000 in
theorem ct_X2_serveAllBy (l : Launch) (d : Dt) (a : Nat → Nat) (u : UL) (p1 : Int32) (z : Int32 × UL) (h : f_X2_serveAllBy u p1 = some z) : CtW l d yX2_serveAllBy cX2_serveAllBy 3 (some .int) (rmF 4 112) [.ref (a 0), .int p1] (WL d a u) (WL d a z.2) (some (.int z.1)) :=
  CtW.start (by decide) (Nat.le_of_ble_eq_true rfl) (by simp [Value.category]) [some (.ref (a 0)), some (.int p1), none] rfl (fun x A C hr hlk => V_eqv (fun _ => h) (v_X2_serveAllBy C hr hlk z u p1))
