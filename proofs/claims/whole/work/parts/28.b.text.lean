/-! MastRobots$Orders.standsAt -/
def f_X3_standsAt_b13 (k : Nat) : Nat → UO → Int32 → Int32 → Option (Int32)
  | 0, _, _, _ => none
  | n + 1, u, v1, v4 => (if (nI (stL.getD k 0)) ≤ v4 then some 1 else ((f_X3_signAt u (v1 + v4)).bind fun r27 => (if inb v4 (stL.getD k 0) = true then (if r27 = (stCh k v4) then f_X3_standsAt_b13 k n u v1 (v4 + 1) else some 0) else none)))
def f_X3_standsAt (k : Nat) (u : UO) (p1 : Int32) (p2 : Int32) : Option (Int32) :=
  (if (nI (stL.getD k 0)) = p2 then f_X3_standsAt_b13 k FUEL u p1 0 else some 0)
set_option maxRecDepth 20000 in
theorem v_X3_standsAt_b13 {x : Am} {d : Dt} {σ : Sg} {a : Nat → Nat} (C : Cx x cX3_standsAt 5 yX3_standsAt.cls d (Iro d x.s.heap)) (hr : x.meth.sig.returnType = (some .boolean)) (hlk : x.meth.locks = false) (hσ : SF σ (fun _ => False) x.s x.s.heap) (z : Int32) (k : Nat) (hk : k < 8) (n : Nat) (u : UO) (v1 : Int32) (v4 : Int32) : V x (rmF 5 223) 0 0 (MQ x.below (QR (some (.int z))) x.args x.s 0 0 (fun _ => False)) 5 (Iro d x.s.heap) (f_X3_standsAt_b13 k n u v1 v4 = some z) 13 (WO d a u) [some (.ref (a 0)), some (.int v1), none, some (.ref (σ.1 k)), some (.int v4)] [] := by
  induction n generalizing u v1 v4 with
  | zero => exact V_none
  | succ n ih =>
    rw [f_X3_standsAt_b13]
    refine V_iload C dX3_standsAt_13 rfl ?_
    refine V_aload_n C 3 dX3_standsAt_15 rfl rfl ?_
    refine V_callTt (As := []) (rest := [.int v4]) C IvS_ro hσ hk (ct_slength _ d σ k hk) kv_J0_length_8abf5 ks_x116 dX3_standsAt_16 rfl (Nat.le_of_ble_eq_true rfl) ⟨(Nat.le_of_ble_eq_true rfl), (Nat.le_of_ble_eq_true rfl)⟩ rfl rfl ⟨Nat.le_refl _, Nat.le_refl _⟩ rfl ?_
    refine V_icmp_ge (tgt := 47) C dX3_standsAt_19 (by decide) ?_ ?_
    · refine V_iconst (v := 1) C dX3_standsAt_47 (by decide) ?_
      exact V_zretRc C hr hlk (by decide) dX3_standsAt_48
    · refine V_aload_n C 0 dX3_standsAt_22 rfl rfl ?_
      refine V_iload_n C 1 dX3_standsAt_23 rfl rfl ?_
      refine V_iload C dX3_standsAt_24 rfl ?_
      refine V_iadd C dX3_standsAt_26 ?_
      refine V_callRi (As := [.int (v1 + v4)]) (rest := []) (wc := WO d a u) C (fun r h => ct_X3_signAt _ d a u (v1 + v4) r h) kv_X3_signAt kl_X3_105 [0, 1] dX3_standsAt_27 rfl rfl rfl rfl (Nat.le_of_ble_eq_true rfl) ⟨(Nat.le_of_ble_eq_true rfl), (Nat.le_of_ble_eq_true rfl)⟩ rfl rfl ⟨Nat.le_refl _, Nat.le_refl _⟩ rfl (fun r27 hr27 => ?_)
      refine V_aload_n C 3 dX3_standsAt_30 rfl rfl ?_
      refine V_iload C dX3_standsAt_31 rfl ?_
      refine V_test (fun t33 => ?_)
      refine V_callTt (As := [.int v4]) (rest := [.int r27]) C IvS_ro hσ hk (ct_scharAt _ d σ k hk v4 (inb_in t33)) kv_J0_charAt_5068e ks_x120 dX3_standsAt_33 rfl (Nat.le_of_ble_eq_true rfl) ⟨(Nat.le_of_ble_eq_true rfl), (Nat.le_of_ble_eq_true rfl)⟩ rfl rfl ⟨Nat.le_refl _, Nat.le_refl _⟩ rfl ?_
      refine V_icmp_eq (tgt := 41) C dX3_standsAt_36 (by decide) ?_ ?_
      · refine V_iinc (v := (v4 + 1)) (lv' := [some (.ref (a 0)), some (.int v1), none, some (.ref (σ.1 k)), some (.int (v4 + 1))]) C dX3_standsAt_41 rfl rfl (by decide) rfl ?_
        refine V_goto (tgt := 13) C dX3_standsAt_44 (by decide) ?_
        exact ih u v1 (v4 + 1)
      · refine V_iconst (v := 0) C dX3_standsAt_39 (by decide) ?_
        exact V_zretRc C hr hlk (by decide) dX3_standsAt_40
set_option maxRecDepth 20000 in
theorem v_X3_standsAt {x : Am} {d : Dt} {σ : Sg} {a : Nat → Nat} (C : Cx x cX3_standsAt 5 yX3_standsAt.cls d (Iro d x.s.heap)) (hr : x.meth.sig.returnType = (some .boolean)) (hlk : x.meth.locks = false) (hσ : SF σ (fun _ => False) x.s x.s.heap) (z : Int32) (k : Nat) (hk : k < 8) (u : UO) (p1 : Int32) (p2 : Int32) : V x (rmF 5 223) 0 0 (MQ x.below (QR (some (.int z))) x.args x.s 0 0 (fun _ => False)) 5 (Iro d x.s.heap) (f_X3_standsAt k u p1 p2 = some z) 0 (WO d a u) [some (.ref (a 0)), some (.int p1), some (.int p2), some (.ref (σ.1 k)), none] [] := by
  unfold f_X3_standsAt
  refine V_aload_n C 3 dX3_standsAt_0 rfl rfl ?_
  refine V_callTt (As := []) (rest := []) C IvS_ro hσ hk (ct_slength _ d σ k hk) kv_J0_length_8abf5 ks_x116 dX3_standsAt_1 rfl (Nat.le_of_ble_eq_true rfl) ⟨(Nat.le_of_ble_eq_true rfl), (Nat.le_of_ble_eq_true rfl)⟩ rfl rfl ⟨Nat.le_refl _, Nat.le_refl _⟩ rfl ?_
  refine V_iload_n C 2 dX3_standsAt_4 rfl rfl ?_
  refine V_icmp_eq (tgt := 10) C dX3_standsAt_5 (by decide) ?_ ?_
  · refine V_iconst (v := 0) C dX3_standsAt_10 (by decide) ?_
    refine V_istore (lv' := [some (.ref (a 0)), some (.int p1), some (.int p2), some (.ref (σ.1 k)), some (.int 0)]) C dX3_standsAt_11 (by decide) rfl ?_
    refine V_mask (lv' := [some (.ref (a 0)), some (.int p1), none, some (.ref (σ.1 k)), some (.int 0)]) [true, true, false, true, true] rfl ?_
    exact v_X3_standsAt_b13 C hr hlk hσ z k hk FUEL u p1 0
  · refine V_iconst (v := 0) C dX3_standsAt_8 (by decide) ?_
    exact V_zretRc C hr hlk (by decide) dX3_standsAt_9
set_option maxRecDepth 20000 in
theorem ct_X3_standsAt (l : Launch) (d : Dt) (σ : Sg) (a : Nat → Nat) (k : Nat) (hk : k < 8) (u : UO) (p1 : Int32) (p2 : Int32) (z : Int32) (h : f_X3_standsAt k u p1 p2 = some z) : CtS l d σ yX3_standsAt cX3_standsAt 5 (some .boolean) (rmF 5 223) [.ref (a 0), .int p1, .int p2, .ref (σ.1 k)] (WO d a u) (some (.int z)) :=
  CtS.start (by decide) (Nat.le_of_ble_eq_true rfl) (by simp [Value.category]) [some (.ref (a 0)), some (.int p1), some (.int p2), some (.ref (σ.1 k)), none] rfl (fun x C hr hlk hσ => V_eqv (fun _ => h) (v_X3_standsAt C hr hlk hσ z k hk u p1 p2))

/-! MastRobots$Orders.wordOf -/
def f_X3_wordOf_b2 : Nat → UO → Int32 → Int32 → Int32 → Option (Int32)
  | 0, _, _, _, _ => none
  | n + 1, u, v1, v2, v3 => (if 8 ≤ v3 then some (-1) else ((f_X3_standsAt (tix v3) u v1 v2).bind fun r15 => (if r15 = 0 then f_X3_wordOf_b2 n u v1 v2 (v3 + 1) else some v3)))
def f_X3_wordOf (u : UO) (p1 : Int32) (p2 : Int32) : Option (Int32) :=
  f_X3_wordOf_b2 FUEL u p1 p2 0
set_option maxRecDepth 20000 in
theorem v_X3_wordOf_b2 {x : Am} {d : Dt} {σ : Sg} {a : Nat → Nat} (C : Cx x cX3_wordOf 4 yX3_wordOf.cls d (Iro d x.s.heap)) (hr : x.meth.sig.returnType = (some .int)) (hlk : x.meth.locks = false) (hσ : SF σ (fun _ => False) x.s x.s.heap) (z : Int32) (n : Nat) (u : UO) (v1 : Int32) (v2 : Int32) (v3 : Int32) : V x (rmF 6 247) 0 0 (MQ x.below (QR (some (.int z))) x.args x.s 0 0 (fun _ => False)) 4 (Iro d x.s.heap) (f_X3_wordOf_b2 n u v1 v2 v3 = some z) 2 (WO d a u) [some (.ref (a 0)), some (.int v1), some (.int v2), some (.int v3)] [] := by
  induction n generalizing u v1 v2 v3 with
  | zero => exact V_none
  | succ n ih =>
    rw [f_X3_wordOf_b2]
    refine V_iload_n C 3 dX3_wordOf_2 rfl rfl ?_
    refine V_bipush (v := 8) C dX3_wordOf_3 (by decide) ?_
    refine V_icmp_ge (tgt := 29) C dX3_wordOf_5 (by decide) ?_ ?_
    · refine V_iconst (v := (-1)) C dX3_wordOf_29 (by decide) ?_
      exact V_iretR C hr hlk dX3_wordOf_30
    · refine V_aload_n C 0 dX3_wordOf_8 rfl rfl ?_
      refine V_iload_n C 1 dX3_wordOf_9 rfl rfl ?_
      refine V_iload_n C 2 dX3_wordOf_10 rfl rfl ?_
      refine V_iload_n C 3 dX3_wordOf_11 rfl rfl ?_
      refine V_callTs (As := [.int v3]) (rest := [.int v2, .int v1, .ref (a 0)]) C IvS_ro hσ (ct_X3_textOf _ d σ v3) ks_X3_textOf kl_X3_108 dX3_wordOf_12 rfl (Nat.le_of_ble_eq_true rfl) ⟨(Nat.le_of_ble_eq_true rfl), (Nat.le_of_ble_eq_true rfl)⟩ rfl rfl ⟨Nat.le_refl _, Nat.le_refl _⟩ rfl ?_
      refine V_callTi (As := [.int v1, .int v2, .ref (σ.1 (tix v3))]) (rest := []) (wc := WO d a u) C IvS_ro hσ (fun r h => ct_X3_standsAt _ d σ a (tix v3) (tix_lt _) u v1 v2 r h) kv_X3_standsAt kl_X3_112 [0, 1] dX3_wordOf_15 rfl rfl rfl rfl (Nat.le_of_ble_eq_true rfl) ⟨(Nat.le_of_ble_eq_true rfl), (Nat.le_of_ble_eq_true rfl)⟩ rfl rfl ⟨Nat.le_refl _, Nat.le_refl _⟩ rfl (fun r15 hr15 => ?_)
      refine V_if_eq (tgt := 23) C dX3_wordOf_18 (by decide) ?_ ?_
      · refine V_iinc (v := (v3 + 1)) (lv' := [some (.ref (a 0)), some (.int v1), some (.int v2), some (.int (v3 + 1))]) C dX3_wordOf_23 rfl rfl (by decide) rfl ?_
        refine V_goto (tgt := 2) C dX3_wordOf_26 (by decide) ?_
        exact ih u v1 v2 (v3 + 1)
      · refine V_iload_n C 3 dX3_wordOf_21 rfl rfl ?_
        exact V_iretR C hr hlk dX3_wordOf_22
set_option maxRecDepth 20000 in
theorem v_X3_wordOf {x : Am} {d : Dt} {σ : Sg} {a : Nat → Nat} (C : Cx x cX3_wordOf 4 yX3_wordOf.cls d (Iro d x.s.heap)) (hr : x.meth.sig.returnType = (some .int)) (hlk : x.meth.locks = false) (hσ : SF σ (fun _ => False) x.s x.s.heap) (z : Int32) (u : UO) (p1 : Int32) (p2 : Int32) : V x (rmF 6 247) 0 0 (MQ x.below (QR (some (.int z))) x.args x.s 0 0 (fun _ => False)) 4 (Iro d x.s.heap) (f_X3_wordOf u p1 p2 = some z) 0 (WO d a u) [some (.ref (a 0)), some (.int p1), some (.int p2), none] [] := by
  unfold f_X3_wordOf
  refine V_iconst (v := 0) C dX3_wordOf_0 (by decide) ?_
  refine V_istore_n (lv' := [some (.ref (a 0)), some (.int p1), some (.int p2), some (.int 0)]) C 3 dX3_wordOf_1 rfl (by decide) rfl ?_
  exact v_X3_wordOf_b2 C hr hlk hσ z FUEL u p1 p2 0
set_option maxRecDepth 20000 in
theorem ct_X3_wordOf (l : Launch) (d : Dt) (σ : Sg) (a : Nat → Nat) (u : UO) (p1 : Int32) (p2 : Int32) (z : Int32) (h : f_X3_wordOf u p1 p2 = some z) : CtS l d σ yX3_wordOf cX3_wordOf 4 (some .int) (rmF 6 247) [.ref (a 0), .int p1, .int p2] (WO d a u) (some (.int z)) :=
  CtS.start (by decide) (Nat.le_of_ble_eq_true rfl) (by simp [Value.category]) [some (.ref (a 0)), some (.int p1), some (.int p2), none] rfl (fun x C hr hlk hσ => V_eqv (fun _ => h) (v_X3_wordOf C hr hlk hσ z u p1 p2))

/-! MastRobots$Orders.read -/
def f_X3_read_b96 (u : UO) (s1 : Int32) : Option (UO) :=
  some (u.1, u.2.1, u.2.2.1, u.2.2.2.1, u.2.2.2.2.1, s1, u.2.2.2.2.2.2.1, u.2.2.2.2.2.2.2.1, u.2.2.2.2.2.2.2.2)
def f_X3_read_b80 (u : UO) (v1 : Int32) (s0 : Int32) : Option (UO) :=
  (if s0 = 0 then f_X3_read_b96 u (u.2.2.2.2.1 - v1) else f_X3_read_b96 u (-1))
def f_X3_read_b79 (u : UO) (v1 : Int32) : Option (UO) :=
  f_X3_read_b80 u v1 0
def f_X3_read_b66 (u : UO) (v1 : Int32) : Option (UO) :=
  ((f_X3_readSign u 59).bind fun r69 => (if r69.1 = 0 then f_X3_read_b79 r69.2 v1 else f_X3_read_b80 r69.2 v1 1))
def f_X3_read (u : UO) (p1 : Int32) : Option (UO) :=
  ((f_X3_lettersFrom u p1).bind fun r2 => ((f_X3_wordOf u p1 r2).bind fun r10 => (if r10 = (-1) then some (u.1, u.2.1, r10, 0, (p1 + r2), 0, u.2.2.2.2.2.2.1, u.2.2.2.2.2.2.2.1, u.2.2.2.2.2.2.2.2) else (if r10 = 2 then f_X3_read_b66 (u.1, u.2.1, r10, 0, (p1 + r2), u.2.2.2.2.2.1, u.2.2.2.2.2.2.1, u.2.2.2.2.2.2.2.1, u.2.2.2.2.2.2.2.2) p1 else ((f_X3_readSign (u.1, u.2.1, r10, 0, (p1 + r2), u.2.2.2.2.2.1, u.2.2.2.2.2.2.1, u.2.2.2.2.2.2.2.1, u.2.2.2.2.2.2.2.2) 32).bind fun r53 => (if r53.1 = 0 then f_X3_read_b79 r53.2 p1 else ((f_X3_readDigit r53.2).bind fun r60 => (if r60.1 = 0 then f_X3_read_b79 r60.2 p1 else f_X3_read_b66 r60.2 p1))))))))
set_option maxRecDepth 20000 in
theorem v_X3_read_b96 {x : Am} {d : Dt} {A : Nat → Prop} {σ : Sg} {a : Nat → Nat} (C : Cx x cX3_read 4 yX3_read.cls d (Imu d A x.s.heap)) (hr : x.meth.sig.returnType = none) (hlk : x.meth.locks = false) (hσ : SF σ A x.s x.s.heap) (z : UO) (u : UO) (s1 : Int32) : V x (rmF 7 270) 0 0 (MQ x.below (QW d A (WO d a z) none) x.args x.s 0 0 A) 4 (Imu d A x.s.heap) (f_X3_read_b96 u s1 = some z) 96 (WO d a u) [none, none, none, none] [.int s1, .ref (a 0)] := by
  unfold f_X3_read_b96
  refine V_putI (ws' := WO d a (u.1, u.2.1, u.2.2.1, u.2.2.2.1, u.2.2.2.2.1, s1, u.2.2.2.2.2.2.1, u.2.2.2.2.2.2.2.1, u.2.2.2.2.2.2.2.2)) C fx3 0 5 kf_X3_43 (by decide) rfl rfl rfl (Nat.le_of_ble_eq_true rfl) rfl dX3_read_96 ?_
  exact V_vretW (Wd := fun w => WO d a w) C hr hlk dX3_read_99 rfl
set_option maxRecDepth 20000 in
theorem v_X3_read_b80 {x : Am} {d : Dt} {A : Nat → Prop} {σ : Sg} {a : Nat → Nat} (C : Cx x cX3_read 4 yX3_read.cls d (Imu d A x.s.heap)) (hr : x.meth.sig.returnType = none) (hlk : x.meth.locks = false) (hσ : SF σ A x.s x.s.heap) (z : UO) (u : UO) (v1 : Int32) (s0 : Int32) : V x (rmF 7 270) 0 0 (MQ x.below (QW d A (WO d a z) none) x.args x.s 0 0 A) 4 (Imu d A x.s.heap) (f_X3_read_b80 u v1 s0 = some z) 80 (WO d a u) [some (.ref (a 0)), some (.int v1), none, none] [.int s0] := by
  unfold f_X3_read_b80
  refine V_istore_n (lv' := [some (.ref (a 0)), some (.int v1), none, some (.int s0)]) C 3 dX3_read_80 rfl (by decide) rfl ?_
  refine V_aload_n C 0 dX3_read_81 rfl rfl ?_
  refine V_iload_n C 3 dX3_read_82 rfl rfl ?_
  refine V_if_eq (tgt := 90) C dX3_read_83 (by decide) ?_ ?_
  · refine V_aload_n C 0 dX3_read_90 rfl rfl ?_
    refine V_get (v := .int u.2.2.2.2.1) C fx3 0 4 kf_X3_50 (by decide) rfl rfl dX3_read_91 ?_
    refine V_iload_n C 1 dX3_read_94 rfl rfl ?_
    refine V_isub C dX3_read_95 ?_
    refine V_mask (lv' := [none, none, none, none]) [false, false, true, false] rfl ?_
    exact v_X3_read_b96 C hr hlk hσ z u (u.2.2.2.2.1 - v1)
  · refine V_iconst (v := (-1)) C dX3_read_86 (by decide) ?_
    refine V_goto (tgt := 96) C dX3_read_87 (by decide) ?_
    refine V_mask (lv' := [none, none, none, none]) [false, false, true, false] rfl ?_
    exact v_X3_read_b96 C hr hlk hσ z u (-1)
set_option maxRecDepth 20000 in
theorem v_X3_read_b79 {x : Am} {d : Dt} {A : Nat → Prop} {σ : Sg} {a : Nat → Nat} (C : Cx x cX3_read 4 yX3_read.cls d (Imu d A x.s.heap)) (hr : x.meth.sig.returnType = none) (hlk : x.meth.locks = false) (hσ : SF σ A x.s x.s.heap) (z : UO) (u : UO) (v1 : Int32) : V x (rmF 7 270) 0 0 (MQ x.below (QW d A (WO d a z) none) x.args x.s 0 0 A) 4 (Imu d A x.s.heap) (f_X3_read_b79 u v1 = some z) 79 (WO d a u) [some (.ref (a 0)), some (.int v1), none, none] [] := by
  unfold f_X3_read_b79
  refine V_iconst (v := 0) C dX3_read_79 (by decide) ?_
  exact v_X3_read_b80 C hr hlk hσ z u v1 0
set_option maxRecDepth 20000 in
theorem v_X3_read_b66 {x : Am} {d : Dt} {A : Nat → Prop} {σ : Sg} {a : Nat → Nat} (C : Cx x cX3_read 4 yX3_read.cls d (Imu d A x.s.heap)) (hr : x.meth.sig.returnType = none) (hlk : x.meth.locks = false) (hσ : SF σ A x.s x.s.heap) (z : UO) (u : UO) (v1 : Int32) : V x (rmF 7 270) 0 0 (MQ x.below (QW d A (WO d a z) none) x.args x.s 0 0 A) 4 (Imu d A x.s.heap) (f_X3_read_b66 u v1 = some z) 66 (WO d a u) [some (.ref (a 0)), some (.int v1), none, none] [] := by
  unfold f_X3_read_b66
  refine V_aload_n C 0 dX3_read_66 rfl rfl ?_
  refine V_bipush (v := 59) C dX3_read_67 (by decide) ?_
  refine V_callWi (As := [.int 59]) (rest := []) (wc := WO d a u) (Wd := fun w => WO d a w) C (fun r h => ct_X3_readSign _ d a u 59 r h) kv_X3_readSign kl_X3_97 [0, 1] (fun w => WO d a w) dX3_read_69 rfl rfl (fun _ => rfl) (fun _ => rfl) rfl rfl rfl (Nat.le_of_ble_eq_true rfl) ⟨(Nat.le_of_ble_eq_true rfl), (Nat.le_of_ble_eq_true rfl)⟩ rfl rfl ⟨Nat.le_refl _, Nat.le_refl _⟩ rfl (fun r69 hr69 => ?_)
  refine V_if_eq (tgt := 79) C dX3_read_72 (by decide) ?_ ?_
  · exact v_X3_read_b79 C hr hlk hσ z r69.2 v1
  · refine V_iconst (v := 1) C dX3_read_75 (by decide) ?_
    refine V_goto (tgt := 80) C dX3_read_76 (by decide) ?_
    exact v_X3_read_b80 C hr hlk hσ z r69.2 v1 1
set_option maxRecDepth 20000 in
theorem v_X3_read {x : Am} {d : Dt} {A : Nat → Prop} {σ : Sg} {a : Nat → Nat} (C : Cx x cX3_read 4 yX3_read.cls d (Imu d A x.s.heap)) (hr : x.meth.sig.returnType = none) (hlk : x.meth.locks = false) (hσ : SF σ A x.s x.s.heap) (z : UO) (u : UO) (p1 : Int32) : V x (rmF 7 270) 0 0 (MQ x.below (QW d A (WO d a z) none) x.args x.s 0 0 A) 4 (Imu d A x.s.heap) (f_X3_read u p1 = some z) 0 (WO d a u) [some (.ref (a 0)), some (.int p1), none, none] [] := by
  unfold f_X3_read
  refine V_aload_n C 0 dX3_read_0 rfl rfl ?_
  refine V_iload_n C 1 dX3_read_1 rfl rfl ?_
  refine V_callRi (As := [.int p1]) (rest := []) (wc := WO d a u) C (fun r h => ct_X3_lettersFrom _ d a u p1 r h) kv_X3_lettersFrom kl_X3_90 [0, 1] dX3_read_2 rfl rfl rfl rfl (Nat.le_of_ble_eq_true rfl) ⟨(Nat.le_of_ble_eq_true rfl), (Nat.le_of_ble_eq_true rfl)⟩ rfl rfl ⟨Nat.le_refl _, Nat.le_refl _⟩ rfl (fun r2 hr2 => ?_)
  refine V_istore_n (lv' := [some (.ref (a 0)), some (.int p1), some (.int r2), none]) C 2 dX3_read_5 rfl (by decide) rfl ?_
  refine V_aload_n C 0 dX3_read_6 rfl rfl ?_
  refine V_aload_n C 0 dX3_read_7 rfl rfl ?_
  refine V_iload_n C 1 dX3_read_8 rfl rfl ?_
  refine V_iload_n C 2 dX3_read_9 rfl rfl ?_
  refine V_callTi (As := [.int p1, .int r2]) (rest := [.ref (a 0)]) (wc := WO d a u) C IvS_mu hσ (fun r h => ct_X3_wordOf _ d σ a u p1 r2 r h) kv_X3_wordOf kl_X3_93 [0, 1] dX3_read_10 rfl rfl rfl rfl (Nat.le_of_ble_eq_true rfl) ⟨(Nat.le_of_ble_eq_true rfl), (Nat.le_of_ble_eq_true rfl)⟩ rfl rfl ⟨Nat.le_refl _, Nat.le_refl _⟩ rfl (fun r10 hr10 => ?_)
  refine V_putI (ws' := WO d a (u.1, u.2.1, r10, u.2.2.2.1, u.2.2.2.2.1, u.2.2.2.2.2.1, u.2.2.2.2.2.2.1, u.2.2.2.2.2.2.2.1, u.2.2.2.2.2.2.2.2)) C fx3 0 2 kf_X3_63 (by decide) rfl rfl rfl (Nat.le_of_ble_eq_true rfl) rfl dX3_read_13 ?_
  refine V_aload_n C 0 dX3_read_16 rfl rfl ?_
  refine V_iconst (v := 0) C dX3_read_17 (by decide) ?_
  refine V_putI (ws' := WO d a (u.1, u.2.1, r10, 0, u.2.2.2.2.1, u.2.2.2.2.2.1, u.2.2.2.2.2.2.1, u.2.2.2.2.2.2.2.1, u.2.2.2.2.2.2.2.2)) C fx3 0 3 kf_X3_54 (by decide) rfl rfl rfl (Nat.le_of_ble_eq_true rfl) rfl dX3_read_18 ?_
  refine V_aload_n C 0 dX3_read_21 rfl rfl ?_
  refine V_iload_n C 1 dX3_read_22 rfl rfl ?_
  refine V_iload_n C 2 dX3_read_23 rfl rfl ?_
  refine V_iadd C dX3_read_24 ?_
  refine V_putI (ws' := WO d a (u.1, u.2.1, r10, 0, (p1 + r2), u.2.2.2.2.2.1, u.2.2.2.2.2.2.1, u.2.2.2.2.2.2.2.1, u.2.2.2.2.2.2.2.2)) C fx3 0 4 kf_X3_50 (by decide) rfl rfl rfl (Nat.le_of_ble_eq_true rfl) rfl dX3_read_25 ?_
  refine V_aload_n C 0 dX3_read_28 rfl rfl ?_
  refine V_get (v := .int r10) C fx3 0 2 kf_X3_63 (by decide) rfl rfl dX3_read_29 ?_
  refine V_iconst (v := (-1)) C dX3_read_32 (by decide) ?_
  refine V_icmp_ne (tgt := 42) C dX3_read_33 (by decide) ?_ ?_
  · refine V_aload_n C 0 dX3_read_42 rfl rfl ?_
    refine V_get (v := .int r10) C fx3 0 2 kf_X3_63 (by decide) rfl rfl dX3_read_43 ?_
    refine V_iconst (v := 2) C dX3_read_46 (by decide) ?_
    refine V_icmp_eq (tgt := 66) C dX3_read_47 (by decide) ?_ ?_
    · refine V_mask (lv' := [some (.ref (a 0)), some (.int p1), none, none]) [true, true, false, true] rfl ?_
      exact v_X3_read_b66 C hr hlk hσ z (u.1, u.2.1, r10, 0, (p1 + r2), u.2.2.2.2.2.1, u.2.2.2.2.2.2.1, u.2.2.2.2.2.2.2.1, u.2.2.2.2.2.2.2.2) p1
    · refine V_aload_n C 0 dX3_read_50 rfl rfl ?_
      refine V_bipush (v := 32) C dX3_read_51 (by decide) ?_
      refine V_callWi (As := [.int 32]) (rest := []) (wc := WO d a (u.1, u.2.1, r10, 0, (p1 + r2), u.2.2.2.2.2.1, u.2.2.2.2.2.2.1, u.2.2.2.2.2.2.2.1, u.2.2.2.2.2.2.2.2)) (Wd := fun w => WO d a w) C (fun r h => ct_X3_readSign _ d a (u.1, u.2.1, r10, 0, (p1 + r2), u.2.2.2.2.2.1, u.2.2.2.2.2.2.1, u.2.2.2.2.2.2.2.1, u.2.2.2.2.2.2.2.2) 32 r h) kv_X3_readSign kl_X3_97 [0, 1] (fun w => WO d a w) dX3_read_53 rfl rfl (fun _ => rfl) (fun _ => rfl) rfl rfl rfl (Nat.le_of_ble_eq_true rfl) ⟨(Nat.le_of_ble_eq_true rfl), (Nat.le_of_ble_eq_true rfl)⟩ rfl rfl ⟨Nat.le_refl _, Nat.le_refl _⟩ rfl (fun r53 hr53 => ?_)
      refine V_if_eq (tgt := 79) C dX3_read_56 (by decide) ?_ ?_
      · refine V_mask (lv' := [some (.ref (a 0)), some (.int p1), none, none]) [true, true, false, true] rfl ?_
        exact v_X3_read_b79 C hr hlk hσ z r53.2 p1
      · refine V_aload_n C 0 dX3_read_59 rfl rfl ?_
        refine V_callWi (As := []) (rest := []) (wc := WO d a r53.2) (Wd := fun w => WO d a w) C (fun r h => ct_X3_readDigit _ d a r53.2 r h) kv_X3_readDigit kl_X3_101 [0, 1] (fun w => WO d a w) dX3_read_60 rfl rfl (fun _ => rfl) (fun _ => rfl) rfl rfl rfl (Nat.le_of_ble_eq_true rfl) ⟨(Nat.le_of_ble_eq_true rfl), (Nat.le_of_ble_eq_true rfl)⟩ rfl rfl ⟨Nat.le_refl _, Nat.le_refl _⟩ rfl (fun r60 hr60 => ?_)
        refine V_if_eq (tgt := 79) C dX3_read_63 (by decide) ?_ ?_
        · refine V_mask (lv' := [some (.ref (a 0)), some (.int p1), none, none]) [true, true, false, true] rfl ?_
          exact v_X3_read_b79 C hr hlk hσ z r60.2 p1
        · refine V_mask (lv' := [some (.ref (a 0)), some (.int p1), none, none]) [true, true, false, true] rfl ?_
          exact v_X3_read_b66 C hr hlk hσ z r60.2 p1
  · refine V_aload_n C 0 dX3_read_36 rfl rfl ?_
    refine V_iconst (v := 0) C dX3_read_37 (by decide) ?_
    refine V_putI (ws' := WO d a (u.1, u.2.1, r10, 0, (p1 + r2), 0, u.2.2.2.2.2.2.1, u.2.2.2.2.2.2.2.1, u.2.2.2.2.2.2.2.2)) C fx3 0 5 kf_X3_43 (by decide) rfl rfl rfl (Nat.le_of_ble_eq_true rfl) rfl dX3_read_38 ?_
    exact V_vretW (Wd := fun w => WO d a w) C hr hlk dX3_read_41 rfl
set_option maxRecDepth 20000 in
theorem ct_X3_read (l : Launch) (d : Dt) (σ : Sg) (a : Nat → Nat) (u : UO) (p1 : Int32) (z : UO) (h : f_X3_read u p1 = some z) : CtV l d σ yX3_read cX3_read 4 none (rmF 7 270) [.ref (a 0), .int p1] (WO d a u) (WO d a z) none :=
  CtV.start (by decide) (Nat.le_of_ble_eq_true rfl) (by simp [Value.category]) [some (.ref (a 0)), some (.int p1), none, none] rfl (fun x A C hr hlk hσ => V_eqv (fun _ => h) (v_X3_read C hr hlk hσ z u p1))

/-! MastRobots$Orders.doAll -/
def f_X3_doAll_b56 (k9 : (UO × UL) → Int32 → Int32 → Option (Int32 × (UO × UL))) (u : (UO × UL)) (v2 : Int32) (v3 : Int32) : Option (Int32 × (UO × UL)) :=
  (if u.1.2.2.2.2.2.2.2.1 = 0 then k9 u (v2 + 1) u.1.2.2.2.2.1 else some ((-1000002), ((u.1.1, u.1.2.1, u.1.2.2.1, u.1.2.2.2.1, u.1.2.2.2.2.1, u.1.2.2.2.2.2.1, v3, u.1.2.2.2.2.2.2.2.1, u.1.2.2.2.2.2.1), u.2)))
def f_X3_doAll_b9 : Nat → (UO × UL) → Int32 → Int32 → Option (Int32 × (UO × UL))
  | 0, _, _, _ => none
  | n + 1, u, v2, v3 => (if 60 ≤ v2 then some (v2, u) else (if u.1.2.1 ≤ v3 then some (v2, u) else ((f_X3_read u.1 v3).bind fun r25 => ((f_X3_reasonAgainstForm r25).bind fun r30 => (if r30 = 0 then ((f_X3_carryOut ((r25.1, r25.2.1, r25.2.2.1, r25.2.2.2.1, r25.2.2.2.2.1, r25.2.2.2.2.2.1, r25.2.2.2.2.2.2.1, r30, r25.2.2.2.2.2.2.2.2), u.2)).bind fun r45 => (if 0 ≤ r45.1 then f_X3_doAll_b56 (f_X3_doAll_b9 n) (r45.2.1, r45.2.2) v2 v3 else f_X3_doAll_b56 (f_X3_doAll_b9 n) ((r45.2.1.1, r45.2.1.2.1, r45.2.1.2.2.1, r45.2.1.2.2.2.1, r45.2.1.2.2.2.2.1, r45.2.1.2.2.2.2.2.1, r45.2.1.2.2.2.2.2.2.1, 3, r45.2.1.2.2.2.2.2.2.2.2), r45.2.2) v2 v3)) else f_X3_doAll_b56 (f_X3_doAll_b9 n) ((r25.1, r25.2.1, r25.2.2.1, r25.2.2.2.1, r25.2.2.2.2.1, r25.2.2.2.2.2.1, r25.2.2.2.2.2.2.1, r30, r25.2.2.2.2.2.2.2.2), u.2) v2 v3)))))
def f_X3_doAll (u : (UO × UL)) : Option (Int32 × (UO × UL)) :=
  f_X3_doAll_b9 FUEL ((u.1.1, u.1.2.1, u.1.2.2.1, u.1.2.2.2.1, u.1.2.2.2.2.1, u.1.2.2.2.2.2.1, u.1.2.2.2.2.2.2.1, 0, u.1.2.2.2.2.2.2.2.2), u.2) 0 0
set_option maxRecDepth 20000 in
theorem v_X3_doAll_b56 {x : Am} {d : Dt} {A : Nat → Prop} {σ : Sg} {a : Nat → Nat} {b : Nat → Nat} (C : Cx x cX3_doAll 4 yX3_doAll.cls d (Imu d A x.s.heap)) (hr : x.meth.sig.returnType = (some .int)) (hlk : x.meth.locks = false) (hσ : SF σ A x.s x.s.heap) (z : Int32 × (UO × UL)) (k9 : (UO × UL) → Int32 → Int32 → Option (Int32 × (UO × UL))) (hk9 : ∀ (u : (UO × UL))(v2 : Int32)(v3 : Int32), V x (rmF 8 293) 0 0 (MQ x.below (QW d A (WOL d a b z.2) (some (.int z.1))) x.args x.s 0 0 A) 4 (Imu d A x.s.heap) (k9 u v2 v3 = some z) 9 (WOL d a b u) [some (.ref (a 0)), some (.ref (b 0)), some (.int v2), some (.int v3)] []) (u : (UO × UL)) (v2 : Int32) (v3 : Int32) : V x (rmF 8 293) 0 0 (MQ x.below (QW d A (WOL d a b z.2) (some (.int z.1))) x.args x.s 0 0 A) 4 (Imu d A x.s.heap) (f_X3_doAll_b56 k9 u v2 v3 = some z) 56 (WOL d a b u) [some (.ref (a 0)), some (.ref (b 0)), some (.int v2), some (.int v3)] [] := by
  unfold f_X3_doAll_b56
  refine V_aload_n C 0 dX3_doAll_56 rfl rfl ?_
  refine V_get (v := .int u.1.2.2.2.2.2.2.2.1) C fx3 0 7 kf_X3_25 (by decide) rfl rfl dX3_doAll_57 ?_
  refine V_if_eq (tgt := 79) C dX3_doAll_60 (by decide) ?_ ?_
  · refine V_iinc (v := (v2 + 1)) (lv' := [some (.ref (a 0)), some (.ref (b 0)), some (.int (v2 + 1)), some (.int v3)]) C dX3_doAll_79 rfl rfl (by decide) rfl ?_
    refine V_aload_n C 0 dX3_doAll_82 rfl rfl ?_
    refine V_get (v := .int u.1.2.2.2.2.1) C fx3 0 4 kf_X3_50 (by decide) rfl rfl dX3_doAll_83 ?_
    refine V_istore_n (lv' := [some (.ref (a 0)), some (.ref (b 0)), some (.int (v2 + 1)), some (.int u.1.2.2.2.2.1)]) C 3 dX3_doAll_86 rfl (by decide) rfl ?_
    refine V_goto (tgt := 9) C dX3_doAll_87 (by decide) ?_
    exact hk9 u (v2 + 1) u.1.2.2.2.2.1
  · refine V_aload_n C 0 dX3_doAll_63 rfl rfl ?_
    refine V_iload_n C 3 dX3_doAll_64 rfl rfl ?_
    refine V_putI (ws' := WOL d a b ((u.1.1, u.1.2.1, u.1.2.2.1, u.1.2.2.2.1, u.1.2.2.2.2.1, u.1.2.2.2.2.2.1, v3, u.1.2.2.2.2.2.2.2.1, u.1.2.2.2.2.2.2.2.2), u.2)) C fx3 0 6 kf_X3_40 (by decide) rfl rfl rfl (Nat.le_of_ble_eq_true rfl) rfl dX3_doAll_65 ?_
    refine V_aload_n C 0 dX3_doAll_68 rfl rfl ?_
    refine V_aload_n C 0 dX3_doAll_69 rfl rfl ?_
    refine V_get (v := .int u.1.2.2.2.2.2.1) C fx3 0 5 kf_X3_43 (by decide) rfl rfl dX3_doAll_70 ?_
    refine V_putI (ws' := WOL d a b ((u.1.1, u.1.2.1, u.1.2.2.1, u.1.2.2.2.1, u.1.2.2.2.2.1, u.1.2.2.2.2.2.1, v3, u.1.2.2.2.2.2.2.2.1, u.1.2.2.2.2.2.1), u.2)) C fx3 0 8 kf_X3_46 (by decide) rfl rfl rfl (Nat.le_of_ble_eq_true rfl) rfl dX3_doAll_73 ?_
    refine V_ldc C kc_X3_49 dX3_doAll_76 ?_
    exact V_iretW (Wd := fun w => WOL d a b w) C hr hlk dX3_doAll_78 rfl
set_option maxRecDepth 20000 in
theorem v_X3_doAll_b9 {x : Am} {d : Dt} {A : Nat → Prop} {σ : Sg} {a : Nat → Nat} {b : Nat → Nat} (C : Cx x cX3_doAll 4 yX3_doAll.cls d (Imu d A x.s.heap)) (hr : x.meth.sig.returnType = (some .int)) (hlk : x.meth.locks = false) (hσ : SF σ A x.s x.s.heap) (z : Int32 × (UO × UL)) (n : Nat) (u : (UO × UL)) (v2 : Int32) (v3 : Int32) : V x (rmF 8 293) 0 0 (MQ x.below (QW d A (WOL d a b z.2) (some (.int z.1))) x.args x.s 0 0 A) 4 (Imu d A x.s.heap) (f_X3_doAll_b9 n u v2 v3 = some z) 9 (WOL d a b u) [some (.ref (a 0)), some (.ref (b 0)), some (.int v2), some (.int v3)] [] := by
  induction n generalizing u v2 v3 with
  | zero => exact V_none
  | succ n ih =>
    rw [f_X3_doAll_b9]
    refine V_iload_n C 2 dX3_doAll_9 rfl rfl ?_
    refine V_bipush (v := 60) C dX3_doAll_10 (by decide) ?_
    refine V_icmp_ge (tgt := 90) C dX3_doAll_12 (by decide) ?_ ?_
    · refine V_iload_n C 2 dX3_doAll_90 rfl rfl ?_
      exact V_iretW (Wd := fun w => WOL d a b w) C hr hlk dX3_doAll_91 rfl
    · refine V_iload_n C 3 dX3_doAll_15 rfl rfl ?_
      refine V_aload_n C 0 dX3_doAll_16 rfl rfl ?_
      refine V_get (v := .int u.1.2.1) C fx3 0 1 kf_X3_20 (by decide) rfl rfl dX3_doAll_17 ?_
      refine V_icmp_ge (tgt := 90) C dX3_doAll_20 (by decide) ?_ ?_
      · refine V_iload_n C 2 dX3_doAll_90 rfl rfl ?_
        exact V_iretW (Wd := fun w => WOL d a b w) C hr hlk dX3_doAll_91 rfl
      · refine V_aload_n C 0 dX3_doAll_23 rfl rfl ?_
        refine V_iload_n C 3 dX3_doAll_24 rfl rfl ?_
        refine V_callUv (As := [.int v3]) (rest := []) (wc := WO d a u.1) (Wd := fun w => WO d a w) C hσ (fun r h => ct_X3_read _ d σ a u.1 v3 r h) kv_X3_read kl_X3_28 [0, 1] (fun w => WOL d a b (w, u.2)) dX3_doAll_25 rfl rfl (fun _ => rfl) (fun _ => rfl) rfl rfl rfl (Nat.le_of_ble_eq_true rfl) ⟨(Nat.le_of_ble_eq_true rfl), (Nat.le_of_ble_eq_true rfl)⟩ rfl rfl ⟨Nat.le_refl _, Nat.le_refl _⟩ rfl (fun r25 hr25 => ?_)
        refine V_aload_n C 0 dX3_doAll_28 rfl rfl ?_
        refine V_aload_n C 0 dX3_doAll_29 rfl rfl ?_
        refine V_callRi (As := []) (rest := [.ref (a 0)]) (wc := WO d a r25) C (fun r h => ct_X3_reasonAgainstForm _ d a r25 r h) kv_X3_reasonAgainstForm kl_X3_32 [0, 1] dX3_doAll_30 rfl rfl rfl rfl (Nat.le_of_ble_eq_true rfl) ⟨(Nat.le_of_ble_eq_true rfl), (Nat.le_of_ble_eq_true rfl)⟩ rfl rfl ⟨Nat.le_refl _, Nat.le_refl _⟩ rfl (fun r30 hr30 => ?_)
        refine V_putI (ws' := WOL d a b ((r25.1, r25.2.1, r25.2.2.1, r25.2.2.2.1, r25.2.2.2.2.1, r25.2.2.2.2.2.1, r25.2.2.2.2.2.2.1, r30, r25.2.2.2.2.2.2.2.2), u.2)) C fx3 0 7 kf_X3_25 (by decide) rfl rfl rfl (Nat.le_of_ble_eq_true rfl) rfl dX3_doAll_33 ?_
        refine V_aload_n C 0 dX3_doAll_36 rfl rfl ?_
        refine V_get (v := .int r30) C fx3 0 7 kf_X3_25 (by decide) rfl rfl dX3_doAll_37 ?_
        refine V_if_ne (tgt := 56) C dX3_doAll_40 (by decide) ?_ ?_
        · exact v_X3_doAll_b56 C hr hlk hσ z (f_X3_doAll_b9  n) ih ((r25.1, r25.2.1, r25.2.2.1, r25.2.2.2.1, r25.2.2.2.2.1, r25.2.2.2.2.2.1, r25.2.2.2.2.2.2.1, r30, r25.2.2.2.2.2.2.2.2), u.2) v2 v3
        · refine V_aload_n C 0 dX3_doAll_43 rfl rfl ?_
          refine V_aload_n C 1 dX3_doAll_44 rfl rfl ?_
          refine V_callWi (As := [.ref (b 0)]) (rest := []) (wc := WOL d a b ((r25.1, r25.2.1, r25.2.2.1, r25.2.2.2.1, r25.2.2.2.2.1, r25.2.2.2.2.2.1, r25.2.2.2.2.2.2.1, r30, r25.2.2.2.2.2.2.2.2), u.2)) (Wd := fun w => WOL d a b w) C (fun r h => ct_X3_carryOut _ d a b ((r25.1, r25.2.1, r25.2.2.1, r25.2.2.2.1, r25.2.2.2.2.1, r25.2.2.2.2.2.1, r25.2.2.2.2.2.2.1, r30, r25.2.2.2.2.2.2.2.2), u.2) r h) kv_X3_carryOut kl_X3_36 [0, 1, 2, 3, 4, 5, 6, 7, 8, 9, 10, 11, 12, 13] (fun w => WOL d a b (w.1, w.2)) dX3_doAll_45 rfl rfl (fun _ => rfl) (fun _ => rfl) rfl rfl rfl (Nat.le_of_ble_eq_true rfl) ⟨(Nat.le_of_ble_eq_true rfl), (Nat.le_of_ble_eq_true rfl)⟩ rfl rfl ⟨Nat.le_refl _, Nat.le_refl _⟩ rfl (fun r45 hr45 => ?_)
          refine V_if_ge (tgt := 56) C dX3_doAll_48 (by decide) ?_ ?_
          · exact v_X3_doAll_b56 C hr hlk hσ z (f_X3_doAll_b9  n) ih (r45.2.1, r45.2.2) v2 v3
          · refine V_aload_n C 0 dX3_doAll_51 rfl rfl ?_
            refine V_iconst (v := 3) C dX3_doAll_52 (by decide) ?_
            refine V_putI (ws' := WOL d a b ((r45.2.1.1, r45.2.1.2.1, r45.2.1.2.2.1, r45.2.1.2.2.2.1, r45.2.1.2.2.2.2.1, r45.2.1.2.2.2.2.2.1, r45.2.1.2.2.2.2.2.2.1, 3, r45.2.1.2.2.2.2.2.2.2.2), r45.2.2)) C fx3 0 7 kf_X3_25 (by decide) rfl rfl rfl (Nat.le_of_ble_eq_true rfl) rfl dX3_doAll_53 ?_
            exact v_X3_doAll_b56 C hr hlk hσ z (f_X3_doAll_b9  n) ih ((r45.2.1.1, r45.2.1.2.1, r45.2.1.2.2.1, r45.2.1.2.2.2.1, r45.2.1.2.2.2.2.1, r45.2.1.2.2.2.2.2.1, r45.2.1.2.2.2.2.2.2.1, 3, r45.2.1.2.2.2.2.2.2.2.2), r45.2.2) v2 v3
set_option maxRecDepth 20000 in
theorem v_X3_doAll {x : Am} {d : Dt} {A : Nat → Prop} {σ : Sg} {a : Nat → Nat} {b : Nat → Nat} (C : Cx x cX3_doAll 4 yX3_doAll.cls d (Imu d A x.s.heap)) (hr : x.meth.sig.returnType = (some .int)) (hlk : x.meth.locks = false) (hσ : SF σ A x.s x.s.heap) (z : Int32 × (UO × UL)) (u : (UO × UL)) : V x (rmF 8 293) 0 0 (MQ x.below (QW d A (WOL d a b z.2) (some (.int z.1))) x.args x.s 0 0 A) 4 (Imu d A x.s.heap) (f_X3_doAll u = some z) 0 (WOL d a b u) [some (.ref (a 0)), some (.ref (b 0)), none, none] [] := by
  unfold f_X3_doAll
  refine V_iconst (v := 0) C dX3_doAll_0 (by decide) ?_
  refine V_istore_n (lv' := [some (.ref (a 0)), some (.ref (b 0)), some (.int 0), none]) C 2 dX3_doAll_1 rfl (by decide) rfl ?_
  refine V_iconst (v := 0) C dX3_doAll_2 (by decide) ?_
  refine V_istore_n (lv' := [some (.ref (a 0)), some (.ref (b 0)), some (.int 0), some (.int 0)]) C 3 dX3_doAll_3 rfl (by decide) rfl ?_
  refine V_aload_n C 0 dX3_doAll_4 rfl rfl ?_
  refine V_iconst (v := 0) C dX3_doAll_5 (by decide) ?_
  refine V_putI (ws' := WOL d a b ((u.1.1, u.1.2.1, u.1.2.2.1, u.1.2.2.2.1, u.1.2.2.2.2.1, u.1.2.2.2.2.2.1, u.1.2.2.2.2.2.2.1, 0, u.1.2.2.2.2.2.2.2.2), u.2)) C fx3 0 7 kf_X3_25 (by decide) rfl rfl rfl (Nat.le_of_ble_eq_true rfl) rfl dX3_doAll_6 ?_
  exact v_X3_doAll_b9 C hr hlk hσ z FUEL ((u.1.1, u.1.2.1, u.1.2.2.1, u.1.2.2.2.1, u.1.2.2.2.2.1, u.1.2.2.2.2.2.1, u.1.2.2.2.2.2.2.1, 0, u.1.2.2.2.2.2.2.2.2), u.2) 0 0
set_option maxRecDepth 20000 in
theorem ct_X3_doAll (l : Launch) (d : Dt) (σ : Sg) (a : Nat → Nat) (b : Nat → Nat) (u : (UO × UL)) (z : Int32 × (UO × UL)) (h : f_X3_doAll u = some z) : CtV l d σ yX3_doAll cX3_doAll 4 (some .int) (rmF 8 293) [.ref (a 0), .ref (b 0)] (WOL d a b u) (WOL d a b z.2) (some (.int z.1)) :=
  CtV.start (by decide) (Nat.le_of_ble_eq_true rfl) (by simp [Value.category]) [some (.ref (a 0)), some (.ref (b 0)), none, none] rfl (fun x A C hr hlk hσ => V_eqv (fun _ => h) (v_X3_doAll C hr hlk hσ z u))

/-! MastRobots.fault -/
def f_X6_fault (u : UM) (p1 : Int32) : Option (Int32 × UM) :=
  ((f_X6_isIn p1 0 2).bind fun r3 => (if r3 = 0 then some ((-1000001), u) else ((f_X6_freshTrial u).bind fun r17 => ((f_X3_doAll (r17.2.2.2, r17.2.1)).bind fun r20 => ((f_X3_aboutFault r20.2.1 p1).bind fun r29 => some (r29, (r17.1, r20.2.2, r17.2.2.1, r20.2.1)))))))
set_option maxRecDepth 20000 in
theorem v_X6_fault {x : Am} {d : Dt} {A : Nat → Prop} {σ : Sg} {a : Nat → Nat} (C : Cx x cX6_fault 2 yX6_fault.cls d (Imu d A x.s.heap)) (hr : x.meth.sig.returnType = (some .int)) (hlk : x.meth.locks = false) (hσ : SF σ A x.s x.s.heap) (z : Int32 × UM) (u : UM) (p1 : Int32) : V x (rmF 9 316) 0 0 (MQ x.below (QW d A (WM d a z.2) (some (.int z.1))) x.args x.s 0 0 A) 2 (Imu d A x.s.heap) (f_X6_fault u p1 = some z) 0 (WM d a u) [some (.ref (a 0)), some (.int p1)] [] := by
  unfold f_X6_fault
  refine V_iload_n C 1 dX6_fault_0 rfl rfl ?_
  refine V_iconst (v := 0) C dX6_fault_1 (by decide) ?_
  refine V_iconst (v := 2) C dX6_fault_2 (by decide) ?_
  refine V_callSi (As := [.int p1, .int 0, .int 2]) (rest := []) (wc := []) C (fun r h => ct_X6_isIn _ d p1 0 2 r h) ks_X6_isIn kl_X6_122 [] dX6_fault_3 rfl rfl (Nat.le_of_ble_eq_true rfl) ⟨(Nat.le_of_ble_eq_true rfl), (Nat.le_of_ble_eq_true rfl)⟩ rfl rfl ⟨Nat.le_refl _, Nat.le_refl _⟩ rfl (fun r3 hr3 => ?_)
  refine V_if_ne (tgt := 12) C dX6_fault_6 (by decide) ?_ ?_
  · refine V_aload_n C 0 dX6_fault_12 rfl rfl ?_
    refine V_get (v := .ref (a 75)) C fx6 0 3 kf_X6_29 (by decide) rfl rfl dX6_fault_13 ?_
    refine V_aload_n C 0 dX6_fault_16 rfl rfl ?_
    refine V_callWv (As := []) (rest := [.ref (a 75)]) (wc := WM d a u) (Wd := fun w => WM d a w) C (fun r h => ct_X6_freshTrial _ d a u r h) kv_X6_freshTrial kl_X6_33 [0, 1, 2, 3, 4, 5, 6, 7, 8, 9, 10, 11, 12, 13, 14, 15, 16, 17, 18, 19, 20, 21, 22, 23, 24, 25, 26, 27, 28, 29, 30, 31, 32, 33, 34, 35, 36, 37, 38, 39, 40, 41, 42, 43, 44, 45, 46, 47, 48, 49, 50, 51, 52, 53, 54, 55, 56, 57, 58, 59, 60, 61, 62, 63, 64, 65, 66, 67, 68, 69, 70, 71, 72, 73, 74, 75, 76] (fun w => WM d a w) dX6_fault_17 (emb_M_M_w d _ _) rfl (fun _ => fst_M d _ _ _) (fun _ => put_M_M_w d _ _ _) rfl rfl rfl (Nat.le_of_ble_eq_true rfl) ⟨(Nat.le_of_ble_eq_true rfl), (Nat.le_of_ble_eq_true rfl)⟩ rfl rfl ⟨Nat.le_refl _, Nat.le_refl _⟩ rfl (fun r17 hr17 => ?_)
    refine V_callUi (As := [.ref (a 13)]) (rest := []) (wc := WOL d (fun i => a (i + 75)) (fun i => a (i + 13)) (r17.2.2.2, r17.2.1)) (Wd := fun w => WOL d (fun i => a (i + 75)) (fun i => a (i + 13)) w) C hσ (fun r h => ct_X3_doAll _ d σ (fun i => a (i + 75)) (fun i => a (i + 13)) (r17.2.2.2, r17.2.1) r h) kv_X3_doAll kl_X6_218 [75, 76, 13, 14, 15, 16, 17, 18, 19, 20, 21, 22, 23, 24] (fun w => WM d a (r17.1, w.2, r17.2.2.1, w.1)) dX6_fault_20 (emb_M_OL_3_1 d _ _) rfl (fun _ => fst_OL d _ _ _ _) (fun _ => put_M_OL_3_1 d _ _ _) rfl rfl rfl (Nat.le_of_ble_eq_true rfl) ⟨(Nat.le_of_ble_eq_true rfl), (Nat.le_of_ble_eq_true rfl)⟩ rfl rfl ⟨Nat.le_refl _, Nat.le_refl _⟩ rfl (fun r20 hr20 => ?_)
    refine V_pop C dX6_fault_23 rfl ?_
    refine V_aload_n C 0 dX6_fault_24 rfl rfl ?_
    refine V_get (v := .ref (a 75)) C fx6 0 3 kf_X6_29 (by decide) rfl rfl dX6_fault_25 ?_
    refine V_iload_n C 1 dX6_fault_28 rfl rfl ?_
    refine V_callRi (As := [.int p1]) (rest := []) (wc := WO d (fun i => a (i + 75)) r20.2.1) C (fun r h => ct_X3_aboutFault _ d (fun i => a (i + 75)) r20.2.1 p1 r h) kv_X3_aboutFault kl_X6_221 [75, 76] dX6_fault_29 (emb_M_O_3 d _ _) rfl rfl rfl (Nat.le_of_ble_eq_true rfl) ⟨(Nat.le_of_ble_eq_true rfl), (Nat.le_of_ble_eq_true rfl)⟩ rfl rfl ⟨Nat.le_refl _, Nat.le_refl _⟩ rfl (fun r29 hr29 => ?_)
    exact V_iretW (Wd := fun w => WM d a w) C hr hlk dX6_fault_32 rfl
  · refine V_ldc C kc_X6_87 dX6_fault_9 ?_
    exact V_iretW (Wd := fun w => WM d a w) C hr hlk dX6_fault_11 rfl
set_option maxRecDepth 20000 in
theorem ct_X6_fault (l : Launch) (d : Dt) (σ : Sg) (a : Nat → Nat) (u : UM) (p1 : Int32) (z : Int32 × UM) (h : f_X6_fault u p1 = some z) : CtV l d σ yX6_fault cX6_fault 2 (some .int) (rmF 9 316) [.ref (a 0), .int p1] (WM d a u) (WM d a z.2) (some (.int z.1)) :=
  CtV.start (by decide) (Nat.le_of_ble_eq_true rfl) (by simp [Value.category]) [some (.ref (a 0)), some (.int p1)] rfl (fun x A C hr hlk hσ => V_eqv (fun _ => h) (v_X6_fault C hr hlk hσ z u p1))

/-! MastRobots.play -/
def f_X6_play (u : UM) : Option (Int32 × UM) :=
  ((f_X6_freshTrial u).bind fun r6 => ((f_X3_doAll (r6.2.2.2, r6.2.1)).bind fun r9 => ((f_X6_keep (r6.1, r9.2.2, r6.2.2.1, r9.2.1) r9.1).bind fun r12 => some (r12.1, r12.2))))
set_option maxRecDepth 20000 in
theorem v_X6_play {x : Am} {d : Dt} {A : Nat → Prop} {σ : Sg} {a : Nat → Nat} (C : Cx x cX6_play 1 yX6_play.cls d (Imu d A x.s.heap)) (hr : x.meth.sig.returnType = (some .int)) (hlk : x.meth.locks = false) (hσ : SF σ A x.s x.s.heap) (z : Int32 × UM) (u : UM) : V x (rmF 9 316) 0 0 (MQ x.below (QW d A (WM d a z.2) (some (.int z.1))) x.args x.s 0 0 A) 1 (Imu d A x.s.heap) (f_X6_play u = some z) 0 (WM d a u) [some (.ref (a 0))] [] := by
  unfold f_X6_play
  refine V_aload_n C 0 dX6_play_0 rfl rfl ?_
  refine V_aload_n C 0 dX6_play_1 rfl rfl ?_
  refine V_get (v := .ref (a 75)) C fx6 0 3 kf_X6_29 (by decide) rfl rfl dX6_play_2 ?_
  refine V_aload_n C 0 dX6_play_5 rfl rfl ?_
  refine V_callWv (As := []) (rest := [.ref (a 75), .ref (a 0)]) (wc := WM d a u) (Wd := fun w => WM d a w) C (fun r h => ct_X6_freshTrial _ d a u r h) kv_X6_freshTrial kl_X6_33 [0, 1, 2, 3, 4, 5, 6, 7, 8, 9, 10, 11, 12, 13, 14, 15, 16, 17, 18, 19, 20, 21, 22, 23, 24, 25, 26, 27, 28, 29, 30, 31, 32, 33, 34, 35, 36, 37, 38, 39, 40, 41, 42, 43, 44, 45, 46, 47, 48, 49, 50, 51, 52, 53, 54, 55, 56, 57, 58, 59, 60, 61, 62, 63, 64, 65, 66, 67, 68, 69, 70, 71, 72, 73, 74, 75, 76] (fun w => WM d a w) dX6_play_6 (emb_M_M_w d _ _) rfl (fun _ => fst_M d _ _ _) (fun _ => put_M_M_w d _ _ _) rfl rfl rfl (Nat.le_of_ble_eq_true rfl) ⟨(Nat.le_of_ble_eq_true rfl), (Nat.le_of_ble_eq_true rfl)⟩ rfl rfl ⟨Nat.le_refl _, Nat.le_refl _⟩ rfl (fun r6 hr6 => ?_)
  refine V_callUi (As := [.ref (a 13)]) (rest := [.ref (a 0)]) (wc := WOL d (fun i => a (i + 75)) (fun i => a (i + 13)) (r6.2.2.2, r6.2.1)) (Wd := fun w => WOL d (fun i => a (i + 75)) (fun i => a (i + 13)) w) C hσ (fun r h => ct_X3_doAll _ d σ (fun i => a (i + 75)) (fun i => a (i + 13)) (r6.2.2.2, r6.2.1) r h) kv_X3_doAll kl_X6_218 [75, 76, 13, 14, 15, 16, 17, 18, 19, 20, 21, 22, 23, 24] (fun w => WM d a (r6.1, w.2, r6.2.2.1, w.1)) dX6_play_9 (emb_M_OL_3_1 d _ _) rfl (fun _ => fst_OL d _ _ _ _) (fun _ => put_M_OL_3_1 d _ _ _) rfl rfl rfl (Nat.le_of_ble_eq_true rfl) ⟨(Nat.le_of_ble_eq_true rfl), (Nat.le_of_ble_eq_true rfl)⟩ rfl rfl ⟨Nat.le_refl _, Nat.le_refl _⟩ rfl (fun r9 hr9 => ?_)
  refine V_callWi (As := [.int r9.1]) (rest := []) (wc := WM d a (r6.1, r9.2.2, r6.2.2.1, r9.2.1)) (Wd := fun w => WM d a w) C (fun r h => ct_X6_keep _ d a (r6.1, r9.2.2, r6.2.2.1, r9.2.1) r9.1 r h) kv_X6_keep kl_X6_41 [0, 1, 2, 3, 4, 5, 6, 7, 8, 9, 10, 11, 12, 13, 14, 15, 16, 17, 18, 19, 20, 21, 22, 23, 24, 25, 26, 27, 28, 29, 30, 31, 32, 33, 34, 35, 36, 37, 38, 39, 40, 41, 42, 43, 44, 45, 46, 47, 48, 49, 50, 51, 52, 53, 54, 55, 56, 57, 58, 59, 60, 61, 62, 63, 64, 65, 66, 67, 68, 69, 70, 71, 72, 73, 74, 75, 76] (fun w => WM d a w) dX6_play_12 (emb_M_M_w d _ _) rfl (fun _ => fst_M d _ _ _) (fun _ => put_M_M_w d _ _ _) rfl rfl rfl (Nat.le_of_ble_eq_true rfl) ⟨(Nat.le_of_ble_eq_true rfl), (Nat.le_of_ble_eq_true rfl)⟩ rfl rfl ⟨Nat.le_refl _, Nat.le_refl _⟩ rfl (fun r12 hr12 => ?_)
  exact V_iretW (Wd := fun w => WM d a w) C hr hlk dX6_play_15 rfl
set_option maxRecDepth 20000 in
theorem ct_X6_play (l : Launch) (d : Dt) (σ : Sg) (a : Nat → Nat) (u : UM) (z : Int32 × UM) (h : f_X6_play u = some z) : CtV l d σ yX6_play cX6_play 1 (some .int) (rmF 9 316) [.ref (a 0)] (WM d a u) (WM d a z.2) (some (.int z.1)) :=
  CtV.start (by decide) (Nat.le_of_ble_eq_true rfl) (by simp [Value.category]) [some (.ref (a 0))] rfl (fun x A C hr hlk hσ => V_eqv (fun _ => h) (v_X6_play C hr hlk hσ z u))
