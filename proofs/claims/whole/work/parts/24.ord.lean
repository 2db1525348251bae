/-! MastRobots$Orders.append -/
def f_X3_append (u : UO) (p1 : Int32) : Option (Int32 × UO) :=
  ((f_X6_isIn p1 32 126).bind fun r5 => (if r5 = 0 then some ((-1000001), u) else (if u.2.1 < 0 then some ((-1000003), u) else (if u.2.1 < 60 then (if inb u.2.1 60 = true then some ((u.2.1 + 1), ((upd u.1 u.2.1.toNatClampNeg (vp_nar .char (jchar p1))), (u.2.1 + 1), u.2.2.1, u.2.2.2.1, u.2.2.2.2.1, u.2.2.2.2.2.1, u.2.2.2.2.2.2.1, u.2.2.2.2.2.2.2.1, u.2.2.2.2.2.2.2.2)) else none) else some ((-1000003), u)))))
set_option maxRecDepth 20000 in
theorem v_X3_append {x : Am} {d : Dt} {A : Nat → Prop} {a : Nat → Nat} (C : Cx x cX3_append 2 yX3_append.cls d (Imu d A x.s.heap)) (hr : x.meth.sig.returnType = (some .int)) (hlk : x.meth.locks = false) (z : Int32 × UO) (u : UO) (p1 : Int32) : V x (rmF 1 22) 0 0 (MQ x.below (QW d A (WO d a z.2) (some (.int z.1))) x.args x.s 0 0 A) 2 (Imu d A x.s.heap) (f_X3_append u p1 = some z) 0 (WO d a u) [some (.ref (a 0)), some (.int p1)] [] := by
  unfold f_X3_append
  refine V_iload_n C 1 dX3_append_0 rfl rfl ?_
  refine V_bipush (v := 32) C dX3_append_1 (by decide) ?_
  refine V_bipush (v := 126) C dX3_append_3 (by decide) ?_
  refine V_callNi (As := [.int p1, .int 32, .int 126]) (rest := []) (wc := []) C (fun r h => ct_X6_isIn _ d p1 32 126 r h) ks_X6_isIn kn_X3_15 [] dX3_append_5 rfl rfl (Nat.le_of_ble_eq_true rfl) ⟨(Nat.le_of_ble_eq_true rfl), (Nat.le_of_ble_eq_true rfl)⟩ rfl rfl ⟨Nat.le_refl _, Nat.le_refl _⟩ rfl (fun r5 hr5 => ?_)
  refine V_if_ne (tgt := 14) C dX3_append_8 (by decide) ?_ ?_
  · refine V_aload_n C 0 dX3_append_14 rfl rfl ?_
    refine V_get (v := .int u.2.1) C fx3 0 1 kf_X3_20 (by decide) rfl rfl dX3_append_15 ?_
    refine V_if_lt (tgt := 33) C dX3_append_18 (by decide) ?_ ?_
    · refine V_ldc C kc_X3_24 dX3_append_33 ?_
      exact V_iretW (Wd := fun w => WO d a w) C hr hlk dX3_append_35 rfl
    · refine V_aload_n C 0 dX3_append_21 rfl rfl ?_
      refine V_get (v := .int u.2.1) C fx3 0 1 kf_X3_20 (by decide) rfl rfl dX3_append_22 ?_
      refine V_aload_n C 0 dX3_append_25 rfl rfl ?_
      refine V_get (v := .ref (a 1)) C fx3 0 0 kf_X3_9 (by decide) rfl rfl dX3_append_26 ?_
      refine V_alenC (v := 60) C 1 rfl (by decide) dX3_append_29 ?_
      refine V_icmp_lt (tgt := 36) C dX3_append_30 (by decide) ?_ ?_
      · refine V_aload_n C 0 dX3_append_36 rfl rfl ?_
        refine V_get (v := .ref (a 1)) C fx3 0 0 kf_X3_9 (by decide) rfl rfl dX3_append_37 ?_
        refine V_aload_n C 0 dX3_append_40 rfl rfl ?_
        refine V_get (v := .int u.2.1) C fx3 0 1 kf_X3_20 (by decide) rfl rfl dX3_append_41 ?_
        refine V_iload_n C 1 dX3_append_44 rfl rfl ?_
        refine V_i2c C dX3_append_45 ?_
        refine V_cast (ws' := WO d a ((upd u.1 u.2.1.toNatClampNeg (vp_nar .char (jchar p1))), u.2.1, u.2.2.1, u.2.2.2.1, u.2.2.2.2.1, u.2.2.2.2.2.1, u.2.2.2.2.2.2.1, u.2.2.2.2.2.2.2.1, u.2.2.2.2.2.2.2.2)) C 1 rfl rfl dX3_append_46 ?_
        refine V_aload_n C 0 dX3_append_47 rfl rfl ?_
        refine V_dup C dX3_append_48 rfl ?_
        refine V_get (v := .int u.2.1) C fx3 0 1 kf_X3_20 (by decide) rfl rfl dX3_append_49 ?_
        refine V_iconst (v := 1) C dX3_append_52 (by decide) ?_
        refine V_iadd C dX3_append_53 ?_
        refine V_putI (ws' := WO d a ((upd u.1 u.2.1.toNatClampNeg (vp_nar .char (jchar p1))), (u.2.1 + 1), u.2.2.1, u.2.2.2.1, u.2.2.2.2.1, u.2.2.2.2.2.1, u.2.2.2.2.2.2.1, u.2.2.2.2.2.2.2.1, u.2.2.2.2.2.2.2.2)) C fx3 0 1 kf_X3_20 (by decide) rfl rfl rfl (Nat.le_of_ble_eq_true rfl) rfl dX3_append_54 ?_
        refine V_aload_n C 0 dX3_append_57 rfl rfl ?_
        refine V_get (v := .int (u.2.1 + 1)) C fx3 0 1 kf_X3_20 (by decide) rfl rfl dX3_append_58 ?_
        exact V_iretW (Wd := fun w => WO d a w) C hr hlk dX3_append_61 rfl
      · refine V_ldc C kc_X3_24 dX3_append_33 ?_
        exact V_iretW (Wd := fun w => WO d a w) C hr hlk dX3_append_35 rfl
  · refine V_ldc C kc_X3_19 dX3_append_11 ?_
    exact V_iretW (Wd := fun w => WO d a w) C hr hlk dX3_append_13 rfl
set_option maxRecDepth 20000 in
theorem ct_X3_append (l : Launch) (d : Dt) (a : Nat → Nat) (u : UO) (p1 : Int32) (z : Int32 × UO) (h : f_X3_append u p1 = some z) : CtW l d yX3_append cX3_append 2 (some .int) (rmF 1 22) [.ref (a 0), .int p1] (WO d a u) (WO d a z.2) (some (.int z.1)) :=
  CtW.start (by decide) (Nat.le_of_ble_eq_true rfl) (by simp [Value.category]) [some (.ref (a 0)), some (.int p1)] rfl (fun x A C hr hlk => V_eqv (fun _ => h) (v_X3_append C hr hlk z u p1))

/-! MastRobots$Orders.empty -/
def f_X3_empty (u : UO) : Option (Int32 × UO) :=
  some (u.2.1, (u.1, 0, u.2.2.1, u.2.2.2.1, u.2.2.2.2.1, u.2.2.2.2.2.1, u.2.2.2.2.2.2.1, u.2.2.2.2.2.2.2.1, u.2.2.2.2.2.2.2.2))
set_option maxRecDepth 20000 in
theorem v_X3_empty {x : Am} {d : Dt} {A : Nat → Prop} {a : Nat → Nat} (C : Cx x cX3_empty 2 yX3_empty.cls d (Imu d A x.s.heap)) (hr : x.meth.sig.returnType = (some .int)) (hlk : x.meth.locks = false) (z : Int32 × UO) (u : UO) : V x (rmF 0 0) 0 0 (MQ x.below (QW d A (WO d a z.2) (some (.int z.1))) x.args x.s 0 0 A) 2 (Imu d A x.s.heap) (f_X3_empty u = some z) 0 (WO d a u) [some (.ref (a 0)), none] [] := by
  unfold f_X3_empty
  refine V_aload_n C 0 dX3_empty_0 rfl rfl ?_
  refine V_get (v := .int u.2.1) C fx3 0 1 kf_X3_20 (by decide) rfl rfl dX3_empty_1 ?_
  refine V_istore_n (lv' := [some (.ref (a 0)), some (.int u.2.1)]) C 1 dX3_empty_4 rfl (by decide) rfl ?_
  refine V_aload_n C 0 dX3_empty_5 rfl rfl ?_
  refine V_iconst (v := 0) C dX3_empty_6 (by decide) ?_
  refine V_putI (ws' := WO d a (u.1, 0, u.2.2.1, u.2.2.2.1, u.2.2.2.2.1, u.2.2.2.2.2.1, u.2.2.2.2.2.2.1, u.2.2.2.2.2.2.2.1, u.2.2.2.2.2.2.2.2)) C fx3 0 1 kf_X3_20 (by decide) rfl rfl rfl (Nat.le_of_ble_eq_true rfl) rfl dX3_empty_7 ?_
  refine V_iload_n C 1 dX3_empty_10 rfl rfl ?_
  exact V_iretW (Wd := fun w => WO d a w) C hr hlk dX3_empty_11 rfl
set_option maxRecDepth 20000 in
theorem ct_X3_empty (l : Launch) (d : Dt) (a : Nat → Nat) (u : UO) (z : Int32 × UO) (h : f_X3_empty u = some z) : CtW l d yX3_empty cX3_empty 2 (some .int) (rmF 0 0) [.ref (a 0)] (WO d a u) (WO d a z.2) (some (.int z.1)) :=
  CtW.start (by decide) (Nat.le_of_ble_eq_true rfl) (by simp [Value.category]) [some (.ref (a 0)), none] rfl (fun x A C hr hlk => V_eqv (fun _ => h) (v_X3_empty C hr hlk z u))

/-! MastRobots$Orders.signAt -/
def f_X3_signAt (u : UO) (p1 : Int32) : Option (Int32) :=
  (if p1 < 0 then some (-1) else (if u.2.1 ≤ p1 then some (-1) else (if 60 ≤ p1 then some (-1) else (if inb p1 60 = true then some (u.1 p1.toNatClampNeg) else none))))
set_option maxRecDepth 20000 in
theorem v_X3_signAt {x : Am} {d : Dt} {a : Nat → Nat} (C : Cx x cX3_signAt 2 yX3_signAt.cls d (Iro d x.s.heap)) (hr : x.meth.sig.returnType = (some .int)) (hlk : x.meth.locks = false) (z : Int32) (u : UO) (p1 : Int32) : V x (rmF 0 0) 0 0 (MQ x.below (QR (some (.int z))) x.args x.s 0 0 (fun _ => False)) 2 (Iro d x.s.heap) (f_X3_signAt u p1 = some z) 0 (WO d a u) [some (.ref (a 0)), some (.int p1)] [] := by
  unfold f_X3_signAt
  refine V_iload_n C 1 dX3_signAt_0 rfl rfl ?_
  refine V_if_lt (tgt := 30) C dX3_signAt_1 (by decide) ?_ ?_
  · refine V_iconst (v := (-1)) C dX3_signAt_30 (by decide) ?_
    exact V_iretR C hr hlk dX3_signAt_31
  · refine V_iload_n C 1 dX3_signAt_4 rfl rfl ?_
    refine V_aload_n C 0 dX3_signAt_5 rfl rfl ?_
    refine V_get (v := .int u.2.1) C fx3 0 1 kf_X3_20 (by decide) rfl rfl dX3_signAt_6 ?_
    refine V_icmp_ge (tgt := 30) C dX3_signAt_9 (by decide) ?_ ?_
    · refine V_iconst (v := (-1)) C dX3_signAt_30 (by decide) ?_
      exact V_iretR C hr hlk dX3_signAt_31
    · refine V_iload_n C 1 dX3_signAt_12 rfl rfl ?_
      refine V_aload_n C 0 dX3_signAt_13 rfl rfl ?_
      refine V_get (v := .ref (a 1)) C fx3 0 0 kf_X3_9 (by decide) rfl rfl dX3_signAt_14 ?_
      refine V_alenC (v := 60) C 1 rfl (by decide) dX3_signAt_17 ?_
      refine V_icmp_ge (tgt := 30) C dX3_signAt_18 (by decide) ?_ ?_
      · refine V_iconst (v := (-1)) C dX3_signAt_30 (by decide) ?_
        exact V_iretR C hr hlk dX3_signAt_31
      · refine V_aload_n C 0 dX3_signAt_21 rfl rfl ?_
        refine V_get (v := .ref (a 1)) C fx3 0 0 kf_X3_9 (by decide) rfl rfl dX3_signAt_22 ?_
        refine V_iload_n C 1 dX3_signAt_25 rfl rfl ?_
        refine V_cald C 1 rfl dX3_signAt_26 ?_
        refine V_goto (tgt := 31) C dX3_signAt_27 (by decide) ?_
        exact V_iretR C hr hlk dX3_signAt_31
set_option maxRecDepth 20000 in
theorem ct_X3_signAt (l : Launch) (d : Dt) (a : Nat → Nat) (u : UO) (p1 : Int32) (z : Int32) (h : f_X3_signAt u p1 = some z) : CtR l d yX3_signAt cX3_signAt 2 (some .int) (rmF 0 0) [.ref (a 0), .int p1] (WO d a u) (some (.int z)) :=
  CtR.start (by decide) (Nat.le_of_ble_eq_true rfl) (by simp [Value.category]) [some (.ref (a 0)), some (.int p1)] rfl (fun x C hr hlk => V_eqv (fun _ => h) (v_X3_signAt C hr hlk z u p1))

/-! MastRobots$Orders.lettersFrom -/
def f_X3_lettersFrom_b2 : Nat → UO → Int32 → Int32 → Option (Int32)
  | 0, _, _, _ => none
  | n + 1, u, v1, v2 => (if 60 ≤ v2 then some v2 else ((f_X3_signAt u (v1 + v2)).bind fun r12 => ((f_X6_isIn r12 97 122).bind fun r19 => (if r19 = 0 then some v2 else f_X3_lettersFrom_b2 n u v1 (v2 + 1)))))
def f_X3_lettersFrom (u : UO) (p1 : Int32) : Option (Int32) :=
  f_X3_lettersFrom_b2 FUEL u p1 0
set_option maxRecDepth 20000 in
theorem v_X3_lettersFrom_b2 {x : Am} {d : Dt} {a : Nat → Nat} (C : Cx x cX3_lettersFrom 3 yX3_lettersFrom.cls d (Iro d x.s.heap)) (hr : x.meth.sig.returnType = (some .int)) (hlk : x.meth.locks = false) (z : Int32) (n : Nat) (u : UO) (v1 : Int32) (v2 : Int32) : V x (rmF 1 22) 0 0 (MQ x.below (QR (some (.int z))) x.args x.s 0 0 (fun _ => False)) 3 (Iro d x.s.heap) (f_X3_lettersFrom_b2 n u v1 v2 = some z) 2 (WO d a u) [some (.ref (a 0)), some (.int v1), some (.int v2)] [] := by
  induction n generalizing u v1 v2 with
  | zero => exact V_none
  | succ n ih =>
    rw [f_X3_lettersFrom_b2]
    refine V_iload_n C 2 dX3_lettersFrom_2 rfl rfl ?_
    refine V_bipush (v := 60) C dX3_lettersFrom_3 (by decide) ?_
    refine V_icmp_ge (tgt := 31) C dX3_lettersFrom_5 (by decide) ?_ ?_
    · refine V_iload_n C 2 dX3_lettersFrom_31 rfl rfl ?_
      exact V_iretR C hr hlk dX3_lettersFrom_32
    · refine V_aload_n C 0 dX3_lettersFrom_8 rfl rfl ?_
      refine V_iload_n C 1 dX3_lettersFrom_9 rfl rfl ?_
      refine V_iload_n C 2 dX3_lettersFrom_10 rfl rfl ?_
      refine V_iadd C dX3_lettersFrom_11 ?_
      refine V_callRi (As := [.int (v1 + v2)]) (rest := []) (wc := WO d a u) C (fun r h => ct_X3_signAt _ d a u (v1 + v2) r h) kv_X3_signAt kl_X3_105 [0, 1] dX3_lettersFrom_12 rfl rfl rfl rfl (Nat.le_of_ble_eq_true rfl) ⟨(Nat.le_of_ble_eq_true rfl), (Nat.le_of_ble_eq_true rfl)⟩ rfl rfl ⟨Nat.le_refl _, Nat.le_refl _⟩ rfl (fun r12 hr12 => ?_)
      refine V_bipush (v := 97) C dX3_lettersFrom_15 (by decide) ?_
      refine V_bipush (v := 122) C dX3_lettersFrom_17 (by decide) ?_
      refine V_callNi (As := [.int r12, .int 97, .int 122]) (rest := []) (wc := []) C (fun r h => ct_X6_isIn _ d r12 97 122 r h) ks_X6_isIn kn_X3_15 [] dX3_lettersFrom_19 rfl rfl (Nat.le_of_ble_eq_true rfl) ⟨(Nat.le_of_ble_eq_true rfl), (Nat.le_of_ble_eq_true rfl)⟩ rfl rfl ⟨Nat.le_refl _, Nat.le_refl _⟩ rfl (fun r19 hr19 => ?_)
      refine V_if_eq (tgt := 31) C dX3_lettersFrom_22 (by decide) ?_ ?_
      · refine V_iload_n C 2 dX3_lettersFrom_31 rfl rfl ?_
        exact V_iretR C hr hlk dX3_lettersFrom_32
      · refine V_iinc (v := (v2 + 1)) (lv' := [some (.ref (a 0)), some (.int v1), some (.int (v2 + 1))]) C dX3_lettersFrom_25 rfl rfl (by decide) rfl ?_
        refine V_goto (tgt := 2) C dX3_lettersFrom_28 (by decide) ?_
        exact ih u v1 (v2 + 1)
set_option maxRecDepth 20000 in
theorem v_X3_lettersFrom {x : Am} {d : Dt} {a : Nat → Nat} (C : Cx x cX3_lettersFrom 3 yX3_lettersFrom.cls d (Iro d x.s.heap)) (hr : x.meth.sig.returnType = (some .int)) (hlk : x.meth.locks = false) (z : Int32) (u : UO) (p1 : Int32) : V x (rmF 1 22) 0 0 (MQ x.below (QR (some (.int z))) x.args x.s 0 0 (fun _ => False)) 3 (Iro d x.s.heap) (f_X3_lettersFrom u p1 = some z) 0 (WO d a u) [some (.ref (a 0)), some (.int p1), none] [] := by
  unfold f_X3_lettersFrom
  refine V_iconst (v := 0) C dX3_lettersFrom_0 (by decide) ?_
  refine V_istore_n (lv' := [some (.ref (a 0)), some (.int p1), some (.int 0)]) C 2 dX3_lettersFrom_1 rfl (by decide) rfl ?_
  exact v_X3_lettersFrom_b2 C hr hlk z FUEL u p1 0
set_option maxRecDepth 20000 in
theorem ct_X3_lettersFrom (l : Launch) (d : Dt) (a : Nat → Nat) (u : UO) (p1 : Int32) (z : Int32) (h : f_X3_lettersFrom u p1 = some z) : CtR l d yX3_lettersFrom cX3_lettersFrom 3 (some .int) (rmF 1 22) [.ref (a 0), .int p1] (WO d a u) (some (.int z)) :=
  CtR.start (by decide) (Nat.le_of_ble_eq_true rfl) (by simp [Value.category]) [some (.ref (a 0)), some (.int p1), none] rfl (fun x C hr hlk => V_eqv (fun _ => h) (v_X3_lettersFrom C hr hlk z u p1))

/-! MastRobots$Orders.readSign -/
def f_X3_readSign (u : UO) (p1 : Int32) : Option (Int32 × UO) :=
  ((f_X3_signAt u u.2.2.2.2.1).bind fun r5 => (if r5 = p1 then some (1, (u.1, u.2.1, u.2.2.1, u.2.2.2.1, (u.2.2.2.2.1 + 1), u.2.2.2.2.2.1, u.2.2.2.2.2.2.1, u.2.2.2.2.2.2.2.1, u.2.2.2.2.2.2.2.2)) else some (0, u)))
set_option maxRecDepth 20000 in
theorem v_X3_readSign {x : Am} {d : Dt} {A : Nat → Prop} {a : Nat → Nat} (C : Cx x cX3_readSign 2 yX3_readSign.cls d (Imu d A x.s.heap)) (hr : x.meth.sig.returnType = (some .boolean)) (hlk : x.meth.locks = false) (z : Int32 × UO) (u : UO) (p1 : Int32) : V x (rmF 1 21) 0 0 (MQ x.below (QW d A (WO d a z.2) (some (.int z.1))) x.args x.s 0 0 A) 2 (Imu d A x.s.heap) (f_X3_readSign u p1 = some z) 0 (WO d a u) [some (.ref (a 0)), some (.int p1)] [] := by
  unfold f_X3_readSign
  refine V_aload_n C 0 dX3_readSign_0 rfl rfl ?_
  refine V_aload_n C 0 dX3_readSign_1 rfl rfl ?_
  refine V_get (v := .int u.2.2.2.2.1) C fx3 0 4 kf_X3_50 (by decide) rfl rfl dX3_readSign_2 ?_
  refine V_callRi (As := [.int u.2.2.2.2.1]) (rest := []) (wc := WO d a u) C (fun r h => ct_X3_signAt _ d a u u.2.2.2.2.1 r h) kv_X3_signAt kl_X3_105 [0, 1] dX3_readSign_5 rfl rfl rfl rfl (Nat.le_of_ble_eq_true rfl) ⟨(Nat.le_of_ble_eq_true rfl), (Nat.le_of_ble_eq_true rfl)⟩ rfl rfl ⟨Nat.le_refl _, Nat.le_refl _⟩ rfl (fun r5 hr5 => ?_)
  refine V_iload_n C 1 dX3_readSign_8 rfl rfl ?_
  refine V_icmp_eq (tgt := 14) C dX3_readSign_9 (by decide) ?_ ?_
  · refine V_aload_n C 0 dX3_readSign_14 rfl rfl ?_
    refine V_dup C dX3_readSign_15 rfl ?_
    refine V_get (v := .int u.2.2.2.2.1) C fx3 0 4 kf_X3_50 (by decide) rfl rfl dX3_readSign_16 ?_
    refine V_iconst (v := 1) C dX3_readSign_19 (by decide) ?_
    refine V_iadd C dX3_readSign_20 ?_
    refine V_putI (ws' := WO d a (u.1, u.2.1, u.2.2.1, u.2.2.2.1, (u.2.2.2.2.1 + 1), u.2.2.2.2.2.1, u.2.2.2.2.2.2.1, u.2.2.2.2.2.2.2.1, u.2.2.2.2.2.2.2.2)) C fx3 0 4 kf_X3_50 (by decide) rfl rfl rfl (Nat.le_of_ble_eq_true rfl) rfl dX3_readSign_21 ?_
    refine V_iconst (v := 1) C dX3_readSign_24 (by decide) ?_
    exact V_zretWc (Wd := fun w => WO d a w) C hr hlk (by decide) dX3_readSign_25 rfl
  · refine V_iconst (v := 0) C dX3_readSign_12 (by decide) ?_
    exact V_zretWc (Wd := fun w => WO d a w) C hr hlk (by decide) dX3_readSign_13 rfl
set_option maxRecDepth 20000 in
theorem ct_X3_readSign (l : Launch) (d : Dt) (a : Nat → Nat) (u : UO) (p1 : Int32) (z : Int32 × UO) (h : f_X3_readSign u p1 = some z) : CtW l d yX3_readSign cX3_readSign 2 (some .boolean) (rmF 1 21) [.ref (a 0), .int p1] (WO d a u) (WO d a z.2) (some (.int z.1)) :=
  CtW.start (by decide) (Nat.le_of_ble_eq_true rfl) (by simp [Value.category]) [some (.ref (a 0)), some (.int p1)] rfl (fun x A C hr hlk => V_eqv (fun _ => h) (v_X3_readSign C hr hlk z u p1))

/-! MastRobots$Orders.readDigit -/
def f_X3_readDigit (u : UO) : Option (Int32 × UO) :=
  ((f_X3_signAt u u.2.2.2.2.1).bind fun r5 => ((f_X6_isIn r5 48 57).bind fun r14 => (if r14 = 0 then some (0, u) else some (1, (u.1, u.2.1, u.2.2.1, (r5 - 48), (u.2.2.2.2.1 + 1), u.2.2.2.2.2.1, u.2.2.2.2.2.2.1, u.2.2.2.2.2.2.2.1, u.2.2.2.2.2.2.2.2)))))
set_option maxRecDepth 20000 in
theorem v_X3_readDigit {x : Am} {d : Dt} {A : Nat → Prop} {a : Nat → Nat} (C : Cx x cX3_readDigit 2 yX3_readDigit.cls d (Imu d A x.s.heap)) (hr : x.meth.sig.returnType = (some .boolean)) (hlk : x.meth.locks = false) (z : Int32 × UO) (u : UO) : V x (rmF 1 22) 0 0 (MQ x.below (QW d A (WO d a z.2) (some (.int z.1))) x.args x.s 0 0 A) 2 (Imu d A x.s.heap) (f_X3_readDigit u = some z) 0 (WO d a u) [some (.ref (a 0)), none] [] := by
  unfold f_X3_readDigit
  refine V_aload_n C 0 dX3_readDigit_0 rfl rfl ?_
  refine V_aload_n C 0 dX3_readDigit_1 rfl rfl ?_
  refine V_get (v := .int u.2.2.2.2.1) C fx3 0 4 kf_X3_50 (by decide) rfl rfl dX3_readDigit_2 ?_
  refine V_callRi (As := [.int u.2.2.2.2.1]) (rest := []) (wc := WO d a u) C (fun r h => ct_X3_signAt _ d a u u.2.2.2.2.1 r h) kv_X3_signAt kl_X3_105 [0, 1] dX3_readDigit_5 rfl rfl rfl rfl (Nat.le_of_ble_eq_true rfl) ⟨(Nat.le_of_ble_eq_true rfl), (Nat.le_of_ble_eq_true rfl)⟩ rfl rfl ⟨Nat.le_refl _, Nat.le_refl _⟩ rfl (fun r5 hr5 => ?_)
  refine V_istore_n (lv' := [some (.ref (a 0)), some (.int r5)]) C 1 dX3_readDigit_8 rfl (by decide) rfl ?_
  refine V_iload_n C 1 dX3_readDigit_9 rfl rfl ?_
  refine V_bipush (v := 48) C dX3_readDigit_10 (by decide) ?_
  refine V_bipush (v := 57) C dX3_readDigit_12 (by decide) ?_
  refine V_callNi (As := [.int r5, .int 48, .int 57]) (rest := []) (wc := []) C (fun r h => ct_X6_isIn _ d r5 48 57 r h) ks_X6_isIn kn_X3_15 [] dX3_readDigit_14 rfl rfl (Nat.le_of_ble_eq_true rfl) ⟨(Nat.le_of_ble_eq_true rfl), (Nat.le_of_ble_eq_true rfl)⟩ rfl rfl ⟨Nat.le_refl _, Nat.le_refl _⟩ rfl (fun r14 hr14 => ?_)
  refine V_if_ne (tgt := 22) C dX3_readDigit_17 (by decide) ?_ ?_
  · refine V_aload_n C 0 dX3_readDigit_22 rfl rfl ?_
    refine V_iload_n C 1 dX3_readDigit_23 rfl rfl ?_
    refine V_bipush (v := 48) C dX3_readDigit_24 (by decide) ?_
    refine V_isub C dX3_readDigit_26 ?_
    refine V_putI (ws' := WO d a (u.1, u.2.1, u.2.2.1, (r5 - 48), u.2.2.2.2.1, u.2.2.2.2.2.1, u.2.2.2.2.2.2.1, u.2.2.2.2.2.2.2.1, u.2.2.2.2.2.2.2.2)) C fx3 0 3 kf_X3_54 (by decide) rfl rfl rfl (Nat.le_of_ble_eq_true rfl) rfl dX3_readDigit_27 ?_
    refine V_aload_n C 0 dX3_readDigit_30 rfl rfl ?_
    refine V_dup C dX3_readDigit_31 rfl ?_
    refine V_get (v := .int u.2.2.2.2.1) C fx3 0 4 kf_X3_50 (by decide) rfl rfl dX3_readDigit_32 ?_
    refine V_iconst (v := 1) C dX3_readDigit_35 (by decide) ?_
    refine V_iadd C dX3_readDigit_36 ?_
    refine V_putI (ws' := WO d a (u.1, u.2.1, u.2.2.1, (r5 - 48), (u.2.2.2.2.1 + 1), u.2.2.2.2.2.1, u.2.2.2.2.2.2.1, u.2.2.2.2.2.2.2.1, u.2.2.2.2.2.2.2.2)) C fx3 0 4 kf_X3_50 (by decide) rfl rfl rfl (Nat.le_of_ble_eq_true rfl) rfl dX3_readDigit_37 ?_
    refine V_iconst (v := 1) C dX3_readDigit_40 (by decide) ?_
    exact V_zretWc (Wd := fun w => WO d a w) C hr hlk (by decide) dX3_readDigit_41 rfl
  · refine V_iconst (v := 0) C dX3_readDigit_20 (by decide) ?_
    exact V_zretWc (Wd := fun w => WO d a w) C hr hlk (by decide) dX3_readDigit_21 rfl
set_option maxRecDepth 20000 in
theorem ct_X3_readDigit (l : Launch) (d : Dt) (a : Nat → Nat) (u : UO) (z : Int32 × UO) (h : f_X3_readDigit u = some z) : CtW l d yX3_readDigit cX3_readDigit 2 (some .boolean) (rmF 1 22) [.ref (a 0)] (WO d a u) (WO d a z.2) (some (.int z.1)) :=
  CtW.start (by decide) (Nat.le_of_ble_eq_true rfl) (by simp [Value.category]) [some (.ref (a 0)), none] rfl (fun x A C hr hlk => V_eqv (fun _ => h) (v_X3_readDigit C hr hlk z u))

/-! MastRobots$Orders.lowestNumber -/
def f_X3_lowestNumber (u : UO) : Option (Int32) :=
  (if u.2.2.1 = 3 then some 1 else (if u.2.2.1 = 4 then some 1 else some 0))
set_option maxRecDepth 20000 in
theorem v_X3_lowestNumber {x : Am} {d : Dt} {a : Nat → Nat} (C : Cx x cX3_lowestNumber 1 yX3_lowestNumber.cls d (Iro d x.s.heap)) (hr : x.meth.sig.returnType = (some .int)) (hlk : x.meth.locks = false) (z : Int32) (u : UO) : V x (rmF 0 0) 0 0 (MQ x.below (QR (some (.int z))) x.args x.s 0 0 (fun _ => False)) 1 (Iro d x.s.heap) (f_X3_lowestNumber u = some z) 0 (WO d a u) [some (.ref (a 0))] [] := by
  unfold f_X3_lowestNumber
  refine V_aload_n C 0 dX3_lowestNumber_0 rfl rfl ?_
  refine V_get (v := .int u.2.2.1) C fx3 0 2 kf_X3_63 (by decide) rfl rfl dX3_lowestNumber_1 ?_
  refine V_iconst (v := 3) C dX3_lowestNumber_4 (by decide) ?_
  refine V_icmp_eq (tgt := 16) C dX3_lowestNumber_5 (by decide) ?_ ?_
  · refine V_iconst (v := 1) C dX3_lowestNumber_16 (by decide) ?_
    refine V_goto (tgt := 21) C dX3_lowestNumber_17 (by decide) ?_
    exact V_iretR C hr hlk dX3_lowestNumber_21
  · refine V_aload_n C 0 dX3_lowestNumber_8 rfl rfl ?_
    refine V_get (v := .int u.2.2.1) C fx3 0 2 kf_X3_63 (by decide) rfl rfl dX3_lowestNumber_9 ?_
    refine V_iconst (v := 4) C dX3_lowestNumber_12 (by decide) ?_
    refine V_icmp_ne (tgt := 20) C dX3_lowestNumber_13 (by decide) ?_ ?_
    · refine V_iconst (v := 0) C dX3_lowestNumber_20 (by decide) ?_
      exact V_iretR C hr hlk dX3_lowestNumber_21
    · refine V_iconst (v := 1) C dX3_lowestNumber_16 (by decide) ?_
      refine V_goto (tgt := 21) C dX3_lowestNumber_17 (by decide) ?_
      exact V_iretR C hr hlk dX3_lowestNumber_21
set_option maxRecDepth 20000 in
theorem ct_X3_lowestNumber (l : Launch) (d : Dt) (a : Nat → Nat) (u : UO) (z : Int32) (h : f_X3_lowestNumber u = some z) : CtR l d yX3_lowestNumber cX3_lowestNumber 1 (some .int) (rmF 0 0) [.ref (a 0)] (WO d a u) (some (.int z)) :=
  CtR.start (by decide) (Nat.le_of_ble_eq_true rfl) (by simp [Value.category]) [some (.ref (a 0))] rfl (fun x C hr hlk => V_eqv (fun _ => h) (v_X3_lowestNumber C hr hlk z u))

/-! MastRobots$Orders.greatestNumber -/
def f_X3_greatestNumber (u : UO) : Option (Int32) :=
  (if u.2.2.1 = 0 then some 3 else (if u.2.2.1 = 1 then some 3 else (if u.2.2.1 = 2 then some 3 else (if u.2.2.1 = 3 then some 4 else (if u.2.2.1 = 4 then some 4 else (if u.2.2.1 = 5 then some 1 else (if u.2.2.1 = 6 then some 1 else some 3)))))))
set_option maxRecDepth 20000 in
theorem v_X3_greatestNumber {x : Am} {d : Dt} {a : Nat → Nat} (C : Cx x cX3_greatestNumber 1 yX3_greatestNumber.cls d (Iro d x.s.heap)) (hr : x.meth.sig.returnType = (some .int)) (hlk : x.meth.locks = false) (z : Int32) (u : UO) : V x (rmF 0 0) 0 0 (MQ x.below (QR (some (.int z))) x.args x.s 0 0 (fun _ => False)) 1 (Iro d x.s.heap) (f_X3_greatestNumber u = some z) 0 (WO d a u) [some (.ref (a 0))] [] := by
  unfold f_X3_greatestNumber
  refine V_aload_n C 0 dX3_greatestNumber_0 rfl rfl ?_
  refine V_get (v := .int u.2.2.1) C fx3 0 2 kf_X3_63 (by decide) rfl rfl dX3_greatestNumber_1 ?_
  refine V_case (fun c0 => ?_) (fun c0 => ?_)
  · refine V_tsIn (tgt := 48) C c0 dX3_greatestNumber_4 (by decide) (by decide) rfl (by decide) ?_
    refine V_iconst (v := 3) C dX3_greatestNumber_48 (by decide) ?_
    exact V_iretR C hr hlk dX3_greatestNumber_49
  refine V_case (fun c1 => ?_) (fun c1 => ?_)
  · refine V_tsIn (tgt := 48) C c1 dX3_greatestNumber_4 (by decide) (by decide) rfl (by decide) ?_
    refine V_iconst (v := 3) C dX3_greatestNumber_48 (by decide) ?_
    exact V_iretR C hr hlk dX3_greatestNumber_49
  refine V_case (fun c2 => ?_) (fun c2 => ?_)
  · refine V_tsIn (tgt := 54) C c2 dX3_greatestNumber_4 (by decide) (by decide) rfl (by decide) ?_
    refine V_iconst (v := 3) C dX3_greatestNumber_54 (by decide) ?_
    exact V_iretR C hr hlk dX3_greatestNumber_55
  refine V_case (fun c3 => ?_) (fun c3 => ?_)
  · refine V_tsIn (tgt := 50) C c3 dX3_greatestNumber_4 (by decide) (by decide) rfl (by decide) ?_
    refine V_iconst (v := 4) C dX3_greatestNumber_50 (by decide) ?_
    exact V_iretR C hr hlk dX3_greatestNumber_51
  refine V_case (fun c4 => ?_) (fun c4 => ?_)
  · refine V_tsIn (tgt := 50) C c4 dX3_greatestNumber_4 (by decide) (by decide) rfl (by decide) ?_
    refine V_iconst (v := 4) C dX3_greatestNumber_50 (by decide) ?_
    exact V_iretR C hr hlk dX3_greatestNumber_51
  refine V_case (fun c5 => ?_) (fun c5 => ?_)
  · refine V_tsIn (tgt := 52) C c5 dX3_greatestNumber_4 (by decide) (by decide) rfl (by decide) ?_
    refine V_iconst (v := 1) C dX3_greatestNumber_52 (by decide) ?_
    exact V_iretR C hr hlk dX3_greatestNumber_53
  refine V_case (fun c6 => ?_) (fun c6 => ?_)
  · refine V_tsIn (tgt := 52) C c6 dX3_greatestNumber_4 (by decide) (by decide) rfl (by decide) ?_
    refine V_iconst (v := 1) C dX3_greatestNumber_52 (by decide) ?_
    exact V_iretR C hr hlk dX3_greatestNumber_53
  have i0 := neInt c0 (k := 0) (by decide)
  have i1 := neInt c1 (k := 1) (by decide)
  have i2 := neInt c2 (k := 2) (by decide)
  have i3 := neInt c3 (k := 3) (by decide)
  have i4 := neInt c4 (k := 4) (by decide)
  have i5 := neInt c5 (k := 5) (by decide)
  have i6 := neInt c6 (k := 6) (by decide)
  refine V_tsOut (tgt := 54) C dX3_greatestNumber_4 (by omega) (by decide) ?_
  refine V_iconst (v := 3) C dX3_greatestNumber_54 (by decide) ?_
  exact V_iretR C hr hlk dX3_greatestNumber_55
set_option maxRecDepth 20000 in
theorem ct_X3_greatestNumber (l : Launch) (d : Dt) (a : Nat → Nat) (u : UO) (z : Int32) (h : f_X3_greatestNumber u = some z) : CtR l d yX3_greatestNumber cX3_greatestNumber 1 (some .int) (rmF 0 0) [.ref (a 0)] (WO d a u) (some (.int z)) :=
  CtR.start (by decide) (Nat.le_of_ble_eq_true rfl) (by simp [Value.category]) [some (.ref (a 0))] rfl (fun x C hr hlk => V_eqv (fun _ => h) (v_X3_greatestNumber C hr hlk z u))

/-! MastRobots$Orders.reasonAgainstForm -/
def f_X3_reasonAgainstForm (u : UO) : Option (Int32) :=
  (if u.2.2.2.2.2.1 = (-1) then ((f_X3_lowestNumber u).bind fun r15 => ((f_X3_greatestNumber u).bind fun r19 => ((f_X6_isIn u.2.2.2.1 r15 r19).bind fun r22 => (if r22 = 0 then some 2 else some 0)))) else some 1)
set_option maxRecDepth 20000 in
theorem v_X3_reasonAgainstForm {x : Am} {d : Dt} {a : Nat → Nat} (C : Cx x cX3_reasonAgainstForm 1 yX3_reasonAgainstForm.cls d (Iro d x.s.heap)) (hr : x.meth.sig.returnType = (some .int)) (hlk : x.meth.locks = false) (z : Int32) (u : UO) : V x (rmF 1 22) 0 0 (MQ x.below (QR (some (.int z))) x.args x.s 0 0 (fun _ => False)) 1 (Iro d x.s.heap) (f_X3_reasonAgainstForm u = some z) 0 (WO d a u) [some (.ref (a 0))] [] := by
  unfold f_X3_reasonAgainstForm
  refine V_aload_n C 0 dX3_reasonAgainstForm_0 rfl rfl ?_
  refine V_get (v := .int u.2.2.2.2.2.1) C fx3 0 5 kf_X3_43 (by decide) rfl rfl dX3_reasonAgainstForm_1 ?_
  refine V_iconst (v := (-1)) C dX3_reasonAgainstForm_4 (by decide) ?_
  refine V_icmp_eq (tgt := 10) C dX3_reasonAgainstForm_5 (by decide) ?_ ?_
  · refine V_aload_n C 0 dX3_reasonAgainstForm_10 rfl rfl ?_
    refine V_get (v := .int u.2.2.2.1) C fx3 0 3 kf_X3_54 (by decide) rfl rfl dX3_reasonAgainstForm_11 ?_
    refine V_aload_n C 0 dX3_reasonAgainstForm_14 rfl rfl ?_
    refine V_callRi (As := []) (rest := [.int u.2.2.2.1]) (wc := WO d a u) C (fun r h => ct_X3_lowestNumber _ d a u r h) kv_X3_lowestNumber kl_X3_57 [0, 1] dX3_reasonAgainstForm_15 rfl rfl rfl rfl (Nat.le_of_ble_eq_true rfl) ⟨(Nat.le_of_ble_eq_true rfl), (Nat.le_of_ble_eq_true rfl)⟩ rfl rfl ⟨Nat.le_refl _, Nat.le_refl _⟩ rfl (fun r15 hr15 => ?_)
    refine V_aload_n C 0 dX3_reasonAgainstForm_18 rfl rfl ?_
    refine V_callRi (As := []) (rest := [.int r15, .int u.2.2.2.1]) (wc := WO d a u) C (fun r h => ct_X3_greatestNumber _ d a u r h) kv_X3_greatestNumber kl_X3_60 [0, 1] dX3_reasonAgainstForm_19 rfl rfl rfl rfl (Nat.le_of_ble_eq_true rfl) ⟨(Nat.le_of_ble_eq_true rfl), (Nat.le_of_ble_eq_true rfl)⟩ rfl rfl ⟨Nat.le_refl _, Nat.le_refl _⟩ rfl (fun r19 hr19 => ?_)
    refine V_callNi (As := [.int u.2.2.2.1, .int r15, .int r19]) (rest := []) (wc := []) C (fun r h => ct_X6_isIn _ d u.2.2.2.1 r15 r19 r h) ks_X6_isIn kn_X3_15 [] dX3_reasonAgainstForm_22 rfl rfl (Nat.le_of_ble_eq_true rfl) ⟨(Nat.le_of_ble_eq_true rfl), (Nat.le_of_ble_eq_true rfl)⟩ rfl rfl ⟨Nat.le_refl _, Nat.le_refl _⟩ rfl (fun r22 hr22 => ?_)
    refine V_if_eq (tgt := 32) C dX3_reasonAgainstForm_25 (by decide) ?_ ?_
    · refine V_iconst (v := 2) C dX3_reasonAgainstForm_32 (by decide) ?_
      exact V_iretR C hr hlk dX3_reasonAgainstForm_33
    · refine V_iconst (v := 0) C dX3_reasonAgainstForm_28 (by decide) ?_
      refine V_goto (tgt := 33) C dX3_reasonAgainstForm_29 (by decide) ?_
      exact V_iretR C hr hlk dX3_reasonAgainstForm_33
  · refine V_iconst (v := 1) C dX3_reasonAgainstForm_8 (by decide) ?_
    exact V_iretR C hr hlk dX3_reasonAgainstForm_9
set_option maxRecDepth 20000 in
theorem ct_X3_reasonAgainstForm (l : Launch) (d : Dt) (a : Nat → Nat) (u : UO) (z : Int32) (h : f_X3_reasonAgainstForm u = some z) : CtR l d yX3_reasonAgainstForm cX3_reasonAgainstForm 1 (some .int) (rmF 1 22) [.ref (a 0)] (WO d a u) (some (.int z)) :=
  CtR.start (by decide) (Nat.le_of_ble_eq_true rfl) (by simp [Value.category]) [some (.ref (a 0))] rfl (fun x C hr hlk => V_eqv (fun _ => h) (v_X3_reasonAgainstForm C hr hlk z u))

/-! MastRobots$Orders.carryOut -/
def f_X3_carryOut (u : (UO × UL)) : Option (Int32 × (UO × UL)) :=
  (if u.1.2.2.1 = 0 then ((f_X2_liftFrom u.2 u.1.2.2.2.1).bind fun r53 => some (r53.1, (u.1, r53.2))) else (if u.1.2.2.1 = 1 then ((f_X2_layOn u.2 u.1.2.2.2.1).bind fun r62 => some (r62.1, (u.1, r62.2))) else (if u.1.2.2.1 = 2 then ((f_X2_weighPallet u.2).bind fun r67 => some (r67.1, (u.1, r67.2))) else (if u.1.2.2.1 = 3 then ((f_X2_turnBy u.2 u.1.2.2.2.1).bind fun r76 => some (r76.1, (u.1, r76.2))) else (if u.1.2.2.1 = 4 then ((f_X2_turnBy u.2 (-u.1.2.2.2.1)).bind fun r86 => some (r86.1, (u.1, r86.2))) else (if u.1.2.2.1 = 5 then ((f_X2_mountIn u.2 u.1.2.2.2.1).bind fun r95 => some (r95.1, (u.1, r95.2))) else (if u.1.2.2.1 = 6 then ((f_X2_takeFrom u.2 u.1.2.2.2.1).bind fun r104 => some (r104.1, (u.1, r104.2))) else ((f_X2_serveBy u.2 u.1.2.2.2.1).bind fun r113 => some (r113.1, (u.1, r113.2))))))))))
set_option maxRecDepth 20000 in
theorem v_X3_carryOut {x : Am} {d : Dt} {A : Nat → Prop} {a : Nat → Nat} {b : Nat → Nat} (C : Cx x cX3_carryOut 2 yX3_carryOut.cls d (Imu d A x.s.heap)) (hr : x.meth.sig.returnType = (some .int)) (hlk : x.meth.locks = false) (z : Int32 × (UO × UL)) (u : (UO × UL)) : V x (rmF 4 112) 0 0 (MQ x.below (QW d A (WOL d a b z.2) (some (.int z.1))) x.args x.s 0 0 A) 2 (Imu d A x.s.heap) (f_X3_carryOut u = some z) 0 (WOL d a b u) [some (.ref (a 0)), some (.ref (b 0))] [] := by
  unfold f_X3_carryOut
  refine V_aload_n C 0 dX3_carryOut_0 rfl rfl ?_
  refine V_get (v := .int u.1.2.2.1) C fx3 0 2 kf_X3_63 (by decide) rfl rfl dX3_carryOut_1 ?_
  refine V_case (fun c0 => ?_) (fun c0 => ?_)
  · refine V_tsIn (tgt := 48) C c0 dX3_carryOut_4 (by decide) (by decide) rfl (by decide) ?_
    refine V_aload_n C 1 dX3_carryOut_48 rfl rfl ?_
    refine V_aload_n C 0 dX3_carryOut_49 rfl rfl ?_
    refine V_get (v := .int u.1.2.2.2.1) C fx3 0 3 kf_X3_54 (by decide) rfl rfl dX3_carryOut_50 ?_
    refine V_callWi (As := [.int u.1.2.2.2.1]) (rest := []) (wc := WL d b u.2) (Wd := fun w => WL d b w) C (fun r h => ct_X2_liftFrom _ d b u.2 u.1.2.2.2.1 r h) kv_X2_liftFrom kl_X3_66 [2, 3, 4, 5, 6, 7, 8, 9, 10, 11, 12, 13] (fun w => WOL d a b (u.1, w)) dX3_carryOut_53 rfl rfl (fun _ => rfl) (fun _ => rfl) rfl rfl rfl (Nat.le_of_ble_eq_true rfl) ⟨(Nat.le_of_ble_eq_true rfl), (Nat.le_of_ble_eq_true rfl)⟩ rfl rfl ⟨Nat.le_refl _, Nat.le_refl _⟩ rfl (fun r53 hr53 => ?_)
    exact V_iretW (Wd := fun w => WOL d a b w) C hr hlk dX3_carryOut_56 rfl
  refine V_case (fun c1 => ?_) (fun c1 => ?_)
  · refine V_tsIn (tgt := 57) C c1 dX3_carryOut_4 (by decide) (by decide) rfl (by decide) ?_
    refine V_aload_n C 1 dX3_carryOut_57 rfl rfl ?_
    refine V_aload_n C 0 dX3_carryOut_58 rfl rfl ?_
    refine V_get (v := .int u.1.2.2.2.1) C fx3 0 3 kf_X3_54 (by decide) rfl rfl dX3_carryOut_59 ?_
    refine V_callWi (As := [.int u.1.2.2.2.1]) (rest := []) (wc := WL d b u.2) (Wd := fun w => WL d b w) C (fun r h => ct_X2_layOn _ d b u.2 u.1.2.2.2.1 r h) kv_X2_layOn kl_X3_72 [2, 3, 4, 5, 6, 7, 8, 9, 10, 11, 12, 13] (fun w => WOL d a b (u.1, w)) dX3_carryOut_62 rfl rfl (fun _ => rfl) (fun _ => rfl) rfl rfl rfl (Nat.le_of_ble_eq_true rfl) ⟨(Nat.le_of_ble_eq_true rfl), (Nat.le_of_ble_eq_true rfl)⟩ rfl rfl ⟨Nat.le_refl _, Nat.le_refl _⟩ rfl (fun r62 hr62 => ?_)
    exact V_iretW (Wd := fun w => WOL d a b w) C hr hlk dX3_carryOut_65 rfl
  refine V_case (fun c2 => ?_) (fun c2 => ?_)
  · refine V_tsIn (tgt := 66) C c2 dX3_carryOut_4 (by decide) (by decide) rfl (by decide) ?_
    refine V_aload_n C 1 dX3_carryOut_66 rfl rfl ?_
    refine V_callWi (As := []) (rest := []) (wc := WL d b u.2) (Wd := fun w => WL d b w) C (fun r h => ct_X2_weighPallet _ d b u.2 r h) kv_X2_weighPallet kl_X3_75 [2, 3, 4, 5, 6, 7, 8, 9, 10, 11, 12, 13] (fun w => WOL d a b (u.1, w)) dX3_carryOut_67 rfl rfl (fun _ => rfl) (fun _ => rfl) rfl rfl rfl (Nat.le_of_ble_eq_true rfl) ⟨(Nat.le_of_ble_eq_true rfl), (Nat.le_of_ble_eq_true rfl)⟩ rfl rfl ⟨Nat.le_refl _, Nat.le_refl _⟩ rfl (fun r67 hr67 => ?_)
    exact V_iretW (Wd := fun w => WOL d a b w) C hr hlk dX3_carryOut_70 rfl
  refine V_case (fun c3 => ?_) (fun c3 => ?_)
  · refine V_tsIn (tgt := 71) C c3 dX3_carryOut_4 (by decide) (by decide) rfl (by decide) ?_
    refine V_aload_n C 1 dX3_carryOut_71 rfl rfl ?_
    refine V_aload_n C 0 dX3_carryOut_72 rfl rfl ?_
    refine V_get (v := .int u.1.2.2.2.1) C fx3 0 3 kf_X3_54 (by decide) rfl rfl dX3_carryOut_73 ?_
    refine V_callWi (As := [.int u.1.2.2.2.1]) (rest := []) (wc := WL d b u.2) (Wd := fun w => WL d b w) C (fun r h => ct_X2_turnBy _ d b u.2 u.1.2.2.2.1 r h) kv_X2_turnBy kl_X3_78 [2, 3, 4, 5, 6, 7, 8, 9, 10, 11, 12, 13] (fun w => WOL d a b (u.1, w)) dX3_carryOut_76 rfl rfl (fun _ => rfl) (fun _ => rfl) rfl rfl rfl (Nat.le_of_ble_eq_true rfl) ⟨(Nat.le_of_ble_eq_true rfl), (Nat.le_of_ble_eq_true rfl)⟩ rfl rfl ⟨Nat.le_refl _, Nat.le_refl _⟩ rfl (fun r76 hr76 => ?_)
    exact V_iretW (Wd := fun w => WOL d a b w) C hr hlk dX3_carryOut_79 rfl
  refine V_case (fun c4 => ?_) (fun c4 => ?_)
  · refine V_tsIn (tgt := 80) C c4 dX3_carryOut_4 (by decide) (by decide) rfl (by decide) ?_
    refine V_aload_n C 1 dX3_carryOut_80 rfl rfl ?_
    refine V_aload_n C 0 dX3_carryOut_81 rfl rfl ?_
    refine V_get (v := .int u.1.2.2.2.1) C fx3 0 3 kf_X3_54 (by decide) rfl rfl dX3_carryOut_82 ?_
    refine V_ineg C dX3_carryOut_85 ?_
    refine V_callWi (As := [.int (-u.1.2.2.2.1)]) (rest := []) (wc := WL d b u.2) (Wd := fun w => WL d b w) C (fun r h => ct_X2_turnBy _ d b u.2 (-u.1.2.2.2.1) r h) kv_X2_turnBy kl_X3_78 [2, 3, 4, 5, 6, 7, 8, 9, 10, 11, 12, 13] (fun w => WOL d a b (u.1, w)) dX3_carryOut_86 rfl rfl (fun _ => rfl) (fun _ => rfl) rfl rfl rfl (Nat.le_of_ble_eq_true rfl) ⟨(Nat.le_of_ble_eq_true rfl), (Nat.le_of_ble_eq_true rfl)⟩ rfl rfl ⟨Nat.le_refl _, Nat.le_refl _⟩ rfl (fun r86 hr86 => ?_)
    exact V_iretW (Wd := fun w => WOL d a b w) C hr hlk dX3_carryOut_89 rfl
  refine V_case (fun c5 => ?_) (fun c5 => ?_)
  · refine V_tsIn (tgt := 90) C c5 dX3_carryOut_4 (by decide) (by decide) rfl (by decide) ?_
    refine V_aload_n C 1 dX3_carryOut_90 rfl rfl ?_
    refine V_aload_n C 0 dX3_carryOut_91 rfl rfl ?_
    refine V_get (v := .int u.1.2.2.2.1) C fx3 0 3 kf_X3_54 (by decide) rfl rfl dX3_carryOut_92 ?_
    refine V_callWi (As := [.int u.1.2.2.2.1]) (rest := []) (wc := WL d b u.2) (Wd := fun w => WL d b w) C (fun r h => ct_X2_mountIn _ d b u.2 u.1.2.2.2.1 r h) kv_X2_mountIn kl_X3_81 [2, 3, 4, 5, 6, 7, 8, 9, 10, 11, 12, 13] (fun w => WOL d a b (u.1, w)) dX3_carryOut_95 rfl rfl (fun _ => rfl) (fun _ => rfl) rfl rfl rfl (Nat.le_of_ble_eq_true rfl) ⟨(Nat.le_of_ble_eq_true rfl), (Nat.le_of_ble_eq_true rfl)⟩ rfl rfl ⟨Nat.le_refl _, Nat.le_refl _⟩ rfl (fun r95 hr95 => ?_)
    exact V_iretW (Wd := fun w => WOL d a b w) C hr hlk dX3_carryOut_98 rfl
  refine V_case (fun c6 => ?_) (fun c6 => ?_)
  · refine V_tsIn (tgt := 99) C c6 dX3_carryOut_4 (by decide) (by decide) rfl (by decide) ?_
    refine V_aload_n C 1 dX3_carryOut_99 rfl rfl ?_
    refine V_aload_n C 0 dX3_carryOut_100 rfl rfl ?_
    refine V_get (v := .int u.1.2.2.2.1) C fx3 0 3 kf_X3_54 (by decide) rfl rfl dX3_carryOut_101 ?_
    refine V_callWi (As := [.int u.1.2.2.2.1]) (rest := []) (wc := WL d b u.2) (Wd := fun w => WL d b w) C (fun r h => ct_X2_takeFrom _ d b u.2 u.1.2.2.2.1 r h) kv_X2_takeFrom kl_X3_84 [2, 3, 4, 5, 6, 7, 8, 9, 10, 11, 12, 13] (fun w => WOL d a b (u.1, w)) dX3_carryOut_104 rfl rfl (fun _ => rfl) (fun _ => rfl) rfl rfl rfl (Nat.le_of_ble_eq_true rfl) ⟨(Nat.le_of_ble_eq_true rfl), (Nat.le_of_ble_eq_true rfl)⟩ rfl rfl ⟨Nat.le_refl _, Nat.le_refl _⟩ rfl (fun r104 hr104 => ?_)
    exact V_iretW (Wd := fun w => WOL d a b w) C hr hlk dX3_carryOut_107 rfl
  have i0 := neInt c0 (k := 0) (by decide)
  have i1 := neInt c1 (k := 1) (by decide)
  have i2 := neInt c2 (k := 2) (by decide)
  have i3 := neInt c3 (k := 3) (by decide)
  have i4 := neInt c4 (k := 4) (by decide)
  have i5 := neInt c5 (k := 5) (by decide)
  have i6 := neInt c6 (k := 6) (by decide)
  refine V_tsOut (tgt := 108) C dX3_carryOut_4 (by omega) (by decide) ?_
  refine V_aload_n C 1 dX3_carryOut_108 rfl rfl ?_
  refine V_aload_n C 0 dX3_carryOut_109 rfl rfl ?_
  refine V_get (v := .int u.1.2.2.2.1) C fx3 0 3 kf_X3_54 (by decide) rfl rfl dX3_carryOut_110 ?_
  refine V_callWi (As := [.int u.1.2.2.2.1]) (rest := []) (wc := WL d b u.2) (Wd := fun w => WL d b w) C (fun r h => ct_X2_serveBy _ d b u.2 u.1.2.2.2.1 r h) kv_X2_serveBy kl_X3_87 [2, 3, 4, 5, 6, 7, 8, 9, 10, 11, 12, 13] (fun w => WOL d a b (u.1, w)) dX3_carryOut_113 rfl rfl (fun _ => rfl) (fun _ => rfl) rfl rfl rfl (Nat.le_of_ble_eq_true rfl) ⟨(Nat.le_of_ble_eq_true rfl), (Nat.le_of_ble_eq_true rfl)⟩ rfl rfl ⟨Nat.le_refl _, Nat.le_refl _⟩ rfl (fun r113 hr113 => ?_)
  exact V_iretW (Wd := fun w => WOL d a b w) C hr hlk dX3_carryOut_116 rfl
set_option maxRecDepth 20000 in
theorem ct_X3_carryOut (l : Launch) (d : Dt) (a : Nat → Nat) (b : Nat → Nat) (u : (UO × UL)) (z : Int32 × (UO × UL)) (h : f_X3_carryOut u = some z) : CtW l d yX3_carryOut cX3_carryOut 2 (some .int) (rmF 4 112) [.ref (a 0), .ref (b 0)] (WOL d a b u) (WOL d a b z.2) (some (.int z.1)) :=
  CtW.start (by decide) (Nat.le_of_ble_eq_true rfl) (by simp [Value.category]) [some (.ref (a 0)), some (.ref (b 0))] rfl (fun x A C hr hlk => V_eqv (fun _ => h) (v_X3_carryOut C hr hlk z u))

/-! MastRobots$Orders.aboutFault -/
def f_X3_aboutFault (u : UO) (p1 : Int32) : Option (Int32) :=
  (if u.2.2.2.2.2.2.2.1 = 0 then some (-1000004) else (if p1 = 0 then some u.2.2.2.2.2.2.1 else (if p1 = 1 then some u.2.2.2.2.2.2.2.1 else (if u.2.2.2.2.2.2.2.1 = 1 then some u.2.2.2.2.2.2.2.2 else some (-1000004)))))
set_option maxRecDepth 20000 in
theorem v_X3_aboutFault {x : Am} {d : Dt} {a : Nat → Nat} (C : Cx x cX3_aboutFault 2 yX3_aboutFault.cls d (Iro d x.s.heap)) (hr : x.meth.sig.returnType = (some .int)) (hlk : x.meth.locks = false) (z : Int32) (u : UO) (p1 : Int32) : V x (rmF 0 0) 0 0 (MQ x.below (QR (some (.int z))) x.args x.s 0 0 (fun _ => False)) 2 (Iro d x.s.heap) (f_X3_aboutFault u p1 = some z) 0 (WO d a u) [some (.ref (a 0)), some (.int p1)] [] := by
  unfold f_X3_aboutFault
  refine V_aload_n C 0 dX3_aboutFault_0 rfl rfl ?_
  refine V_get (v := .int u.2.2.2.2.2.2.2.1) C fx3 0 7 kf_X3_25 (by decide) rfl rfl dX3_aboutFault_1 ?_
  refine V_if_ne (tgt := 10) C dX3_aboutFault_4 (by decide) ?_ ?_
  · refine V_iload_n C 1 dX3_aboutFault_10 rfl rfl ?_
    refine V_case (fun c0 => ?_) (fun c0 => ?_)
    · refine V_lkIn (tgt := 36) C c0 dX3_aboutFault_11 rfl rfl (by decide) ?_
      refine V_aload_n C 0 dX3_aboutFault_36 rfl rfl ?_
      refine V_get (v := .int u.2.2.2.2.2.2.1) C fx3 0 6 kf_X3_40 (by decide) rfl rfl dX3_aboutFault_37 ?_
      exact V_iretR C hr hlk dX3_aboutFault_40
    refine V_case (fun c1 => ?_) (fun c1 => ?_)
    · refine V_lkIn (tgt := 41) C c1 dX3_aboutFault_11 rfl rfl (by decide) ?_
      refine V_aload_n C 0 dX3_aboutFault_41 rfl rfl ?_
      refine V_get (v := .int u.2.2.2.2.2.2.2.1) C fx3 0 7 kf_X3_25 (by decide) rfl rfl dX3_aboutFault_42 ?_
      exact V_iretR C hr hlk dX3_aboutFault_45
    refine V_lkOut (tgt := 46) C dX3_aboutFault_11 rfl (lk2 (neInt c0 rfl) (neInt c1 rfl)) (by decide) ?_
    refine V_aload_n C 0 dX3_aboutFault_46 rfl rfl ?_
    refine V_get (v := .int u.2.2.2.2.2.2.2.1) C fx3 0 7 kf_X3_25 (by decide) rfl rfl dX3_aboutFault_47 ?_
    refine V_iconst (v := 1) C dX3_aboutFault_50 (by decide) ?_
    refine V_icmp_ne (tgt := 61) C dX3_aboutFault_51 (by decide) ?_ ?_
    · refine V_ldc C kc_X3_53 dX3_aboutFault_61 ?_
      exact V_iretR C hr hlk dX3_aboutFault_63
    · refine V_aload_n C 0 dX3_aboutFault_54 rfl rfl ?_
      refine V_get (v := .int u.2.2.2.2.2.2.2.2) C fx3 0 8 kf_X3_46 (by decide) rfl rfl dX3_aboutFault_55 ?_
      refine V_goto (tgt := 63) C dX3_aboutFault_58 (by decide) ?_
      exact V_iretR C hr hlk dX3_aboutFault_63
  · refine V_ldc C kc_X3_53 dX3_aboutFault_7 ?_
    exact V_iretR C hr hlk dX3_aboutFault_9
set_option maxRecDepth 20000 in
theorem ct_X3_aboutFault (l : Launch) (d : Dt) (a : Nat → Nat) (u : UO) (p1 : Int32) (z : Int32) (h : f_X3_aboutFault u p1 = some z) : CtR l d yX3_aboutFault cX3_aboutFault 2 (some .int) (rmF 0 0) [.ref (a 0), .int p1] (WO d a u) (some (.int z)) :=
  CtR.start (by decide) (Nat.le_of_ble_eq_true rfl) (by simp [Value.category]) [some (.ref (a 0)), some (.int p1)] rfl (fun x C hr hlk => V_eqv (fun _ => h) (v_X3_aboutFault C hr hlk z u p1))
