/-! MastRobots.freshTrial -/
def f_X6_freshTrial (u : UM) : Option (UM) :=
  ((f_X2_copyFrom (u.2.1, u.1)).bind fun r8 => some (r8.2, r8.1, u.2.2.1, u.2.2.2))
set_option maxRecDepth 20000 in
theorem v_X6_freshTrial {x : Am} {d : Dt} {A : Nat → Prop} {a : Nat → Nat} (C : Cx x cX6_freshTrial 1 yX6_freshTrial.cls d (Imu d A x.s.heap)) (hr : x.meth.sig.returnType = (some (.object "MastRobots$Library"))) (hlk : x.meth.locks = false) (z : UM) (u : UM) : V x (rmF 4 135) 0 0 (MQ x.below (QW d A (WM d a z) (some (.ref (a 13)))) x.args x.s 0 0 A) 1 (Imu d A x.s.heap) (f_X6_freshTrial u = some z) 0 (WM d a u) [some (.ref (a 0))] [] := by
  unfold f_X6_freshTrial
  refine V_aload_n C 0 dX6_freshTrial_0 rfl rfl ?_
  refine V_get (v := .ref (a 13)) C fx6 0 1 kf_X6_16 (by decide) rfl rfl dX6_freshTrial_1 ?_
  refine V_aload_n C 0 dX6_freshTrial_4 rfl rfl ?_
  refine V_get (v := .ref (a 1)) C fx6 0 0 kf_X6_12 (by decide) rfl rfl dX6_freshTrial_5 ?_
  refine V_callWv (As := [.ref (a 1)]) (rest := []) (wc := WLL d (fun i => a (i + 13)) (fun i => a (i + 1)) (u.2.1, u.1)) (Wd := fun w => WLL d (fun i => a (i + 13)) (fun i => a (i + 1)) w) C (fun r h => ct_X2_copyFrom _ d (fun i => a (i + 13)) (fun i => a (i + 1)) (u.2.1, u.1) r h) kv_X2_copyFrom kl_X6_224 [13, 14, 15, 16, 17, 18, 19, 20, 21, 22, 23, 24, 1, 2, 3, 4, 5, 6, 7, 8, 9, 10, 11, 12] (fun w => WM d a (w.2, w.1, u.2.2.1, u.2.2.2)) dX6_freshTrial_8 (emb_M_LL_1_0 d _ _) rfl (fun _ => fst_LL d _ _ _ _) (fun _ => put_M_LL_1_0 d _ _ _) rfl rfl rfl (Nat.le_of_ble_eq_true rfl) ⟨(Nat.le_of_ble_eq_true rfl), (Nat.le_of_ble_eq_true rfl)⟩ rfl rfl ⟨Nat.le_refl _, Nat.le_refl _⟩ rfl (fun r8 hr8 => ?_)
  refine V_aload_n C 0 dX6_freshTrial_11 rfl rfl ?_
  refine V_get (v := .ref (a 13)) C fx6 0 1 kf_X6_16 (by decide) rfl rfl dX6_freshTrial_12 ?_
  exact V_aretW (Wd := fun w => WM d a w) C hr (Or.inl ⟨_, rfl⟩) hlk dX6_freshTrial_15 rfl
set_option maxRecDepth 20000 in
theorem ct_X6_freshTrial (l : Launch) (d : Dt) (a : Nat → Nat) (u : UM) (z : UM) (h : f_X6_freshTrial u = some z) : CtW l d yX6_freshTrial cX6_freshTrial 1 (some (.object "MastRobots$Library")) (rmF 4 135) [.ref (a 0)] (WM d a u) (WM d a z) (some (.ref (a 13))) :=
  CtW.start (by decide) (Nat.le_of_ble_eq_true rfl) (by simp [Value.category]) [some (.ref (a 0))] rfl (fun x A C hr hlk => V_eqv (fun _ => h) (v_X6_freshTrial C hr hlk z u))

/-! MastRobots.keep -/
def f_X6_keep (u : UM) (p1 : Int32) : Option (Int32 × UM) :=
  (if p1 < (-1) then some (p1, u) else ((f_X1_record (u.2.2.1, u.1)).bind fun r13 => ((f_X2_copyFrom (r13.2, u.2.1)).bind fun r24 => some (p1, (r24.1, r24.2, r13.1, u.2.2.2)))))
set_option maxRecDepth 20000 in
theorem v_X6_keep {x : Am} {d : Dt} {A : Nat → Prop} {a : Nat → Nat} (C : Cx x cX6_keep 2 yX6_keep.cls d (Imu d A x.s.heap)) (hr : x.meth.sig.returnType = (some .int)) (hlk : x.meth.locks = false) (z : Int32 × UM) (u : UM) (p1 : Int32) : V x (rmF 5 157) 0 0 (MQ x.below (QW d A (WM d a z.2) (some (.int z.1))) x.args x.s 0 0 A) 2 (Imu d A x.s.heap) (f_X6_keep u p1 = some z) 0 (WM d a u) [some (.ref (a 0)), some (.int p1)] [] := by
  unfold f_X6_keep
  refine V_iload_n C 1 dX6_keep_0 rfl rfl ?_
  refine V_iconst (v := (-1)) C dX6_keep_1 (by decide) ?_
  refine V_icmp_lt (tgt := 27) C dX6_keep_2 (by decide) ?_ ?_
  · refine V_iload_n C 1 dX6_keep_27 rfl rfl ?_
    exact V_iretW (Wd := fun w => WM d a w) C hr hlk dX6_keep_28 rfl
  · refine V_aload_n C 0 dX6_keep_5 rfl rfl ?_
    refine V_get (v := .ref (a 25)) C fx6 0 2 kf_X6_22 (by decide) rfl rfl dX6_keep_6 ?_
    refine V_aload_n C 0 dX6_keep_9 rfl rfl ?_
    refine V_get (v := .ref (a 1)) C fx6 0 0 kf_X6_12 (by decide) rfl rfl dX6_keep_10 ?_
    refine V_callWv (As := [.ref (a 1)]) (rest := []) (wc := WHL d (fun i => a (i + 25)) (fun i => a (i + 1)) (u.2.2.1, u.1)) (Wd := fun w => WHL d (fun i => a (i + 25)) (fun i => a (i + 1)) w) C (fun r h => ct_X1_record _ d (fun i => a (i + 25)) (fun i => a (i + 1)) (u.2.2.1, u.1) r h) kv_X1_record kl_X6_228 [25, 26, 27, 28, 29, 30, 31, 32, 33, 34, 35, 36, 37, 38, 39, 40, 41, 42, 43, 44, 45, 46, 47, 48, 49, 50, 51, 52, 53, 54, 55, 56, 57, 58, 59, 60, 61, 62, 63, 64, 65, 66, 67, 68, 69, 70, 71, 72, 73, 74, 1, 2, 3, 4, 5, 6, 7, 8, 9, 10, 11, 12] (fun w => WM d a (w.2, u.2.1, w.1, u.2.2.2)) dX6_keep_13 (emb_M_HL_2_0 d _ _) rfl (fun _ => fst_HL d _ _ _ _) (fun _ => put_M_HL_2_0 d _ _ _) rfl rfl rfl (Nat.le_of_ble_eq_true rfl) ⟨(Nat.le_of_ble_eq_true rfl), (Nat.le_of_ble_eq_true rfl)⟩ rfl rfl ⟨Nat.le_refl _, Nat.le_refl _⟩ rfl (fun r13 hr13 => ?_)
    refine V_aload_n C 0 dX6_keep_16 rfl rfl ?_
    refine V_get (v := .ref (a 1)) C fx6 0 0 kf_X6_12 (by decide) rfl rfl dX6_keep_17 ?_
    refine V_aload_n C 0 dX6_keep_20 rfl rfl ?_
    refine V_get (v := .ref (a 13)) C fx6 0 1 kf_X6_16 (by decide) rfl rfl dX6_keep_21 ?_
    refine V_callWv (As := [.ref (a 13)]) (rest := []) (wc := WLL d (fun i => a (i + 1)) (fun i => a (i + 13)) (r13.2, u.2.1)) (Wd := fun w => WLL d (fun i => a (i + 1)) (fun i => a (i + 13)) w) C (fun r h => ct_X2_copyFrom _ d (fun i => a (i + 1)) (fun i => a (i + 13)) (r13.2, u.2.1) r h) kv_X2_copyFrom kl_X6_224 [1, 2, 3, 4, 5, 6, 7, 8, 9, 10, 11, 12, 13, 14, 15, 16, 17, 18, 19, 20, 21, 22, 23, 24] (fun w => WM d a (w.1, w.2, r13.1, u.2.2.2)) dX6_keep_24 (emb_M_LL_0_1 d _ _) rfl (fun _ => fst_LL d _ _ _ _) (fun _ => put_M_LL_0_1 d _ _ _) rfl rfl rfl (Nat.le_of_ble_eq_true rfl) ⟨(Nat.le_of_ble_eq_true rfl), (Nat.le_of_ble_eq_true rfl)⟩ rfl rfl ⟨Nat.le_refl _, Nat.le_refl _⟩ rfl (fun r24 hr24 => ?_)
    refine V_iload_n C 1 dX6_keep_27 rfl rfl ?_
    exact V_iretW (Wd := fun w => WM d a w) C hr hlk dX6_keep_28 rfl
set_option maxRecDepth 20000 in
theorem ct_X6_keep (l : Launch) (d : Dt) (a : Nat → Nat) (u : UM) (p1 : Int32) (z : Int32 × UM) (h : f_X6_keep u p1 = some z) : CtW l d yX6_keep cX6_keep 2 (some .int) (rmF 5 157) [.ref (a 0), .int p1] (WM d a u) (WM d a z.2) (some (.int z.1)) :=
  CtW.start (by decide) (Nat.le_of_ble_eq_true rfl) (by simp [Value.category]) [some (.ref (a 0)), some (.int p1)] rfl (fun x A C hr hlk => V_eqv (fun _ => h) (v_X6_keep C hr hlk z u p1))

/-! MastRobots.bring -/
def f_X6_bring (u : UM) (p1 : Int32) (p2 : Int32) (p3 : Int32) : Option (Int32 × UM) :=
  ((f_X6_freshTrial u).bind fun r2 => ((f_X2_addCartridge r2.2.1 p1 p2 p3).bind fun r8 => ((f_X6_keep (r2.1, r8.2, r2.2.2.1, r2.2.2.2) r8.1).bind fun r11 => some (r11.1, r11.2))))
set_option maxRecDepth 20000 in
theorem v_X6_bring {x : Am} {d : Dt} {A : Nat → Prop} {a : Nat → Nat} (C : Cx x cX6_bring 4 yX6_bring.cls d (Imu d A x.s.heap)) (hr : x.meth.sig.returnType = (some .int)) (hlk : x.meth.locks = false) (z : Int32 × UM) (u : UM) (p1 : Int32) (p2 : Int32) (p3 : Int32) : V x (rmF 6 178) 0 0 (MQ x.below (QW d A (WM d a z.2) (some (.int z.1))) x.args x.s 0 0 A) 4 (Imu d A x.s.heap) (f_X6_bring u p1 p2 p3 = some z) 0 (WM d a u) [some (.ref (a 0)), some (.int p1), some (.int p2), some (.int p3)] [] := by
  unfold f_X6_bring
  refine V_aload_n C 0 dX6_bring_0 rfl rfl ?_
  refine V_aload_n C 0 dX6_bring_1 rfl rfl ?_
  refine V_callWv (As := []) (rest := [.ref (a 0)]) (wc := WM d a u) (Wd := fun w => WM d a w) C (fun r h => ct_X6_freshTrial _ d a u r h) kv_X6_freshTrial kl_X6_33 [0, 1, 2, 3, 4, 5, 6, 7, 8, 9, 10, 11, 12, 13, 14, 15, 16, 17, 18, 19, 20, 21, 22, 23, 24, 25, 26, 27, 28, 29, 30, 31, 32, 33, 34, 35, 36, 37, 38, 39, 40, 41, 42, 43, 44, 45, 46, 47, 48, 49, 50, 51, 52, 53, 54, 55, 56, 57, 58, 59, 60, 61, 62, 63, 64, 65, 66, 67, 68, 69, 70, 71, 72, 73, 74, 75, 76] (fun w => WM d a w) dX6_bring_2 (emb_M_M_w d _ _) rfl (fun _ => fst_M d _ _ _) (fun _ => put_M_M_w d _ _ _) rfl rfl rfl (Nat.le_of_ble_eq_true rfl) ⟨(Nat.le_of_ble_eq_true rfl), (Nat.le_of_ble_eq_true rfl)⟩ rfl rfl ⟨Nat.le_refl _, Nat.le_refl _⟩ rfl (fun r2 hr2 => ?_)
  refine V_iload_n C 1 dX6_bring_5 rfl rfl ?_
  refine V_iload_n C 2 dX6_bring_6 rfl rfl ?_
  refine V_iload_n C 3 dX6_bring_7 rfl rfl ?_
  refine V_callWi (As := [.int p1, .int p2, .int p3]) (rest := [.ref (a 0)]) (wc := WL d (fun i => a (i + 13)) r2.2.1) (Wd := fun w => WL d (fun i => a (i + 13)) w) C (fun r h => ct_X2_addCartridge _ d (fun i => a (i + 13)) r2.2.1 p1 p2 p3 r h) kv_X2_addCartridge kl_X6_37 [13, 14, 15, 16, 17, 18, 19, 20, 21, 22, 23, 24] (fun w => WM d a (r2.1, w, r2.2.2.1, r2.2.2.2)) dX6_bring_8 (emb_M_L_1 d _ _) rfl (fun _ => fst_L d _ _ _) (fun _ => put_M_L_1 d _ _ _) rfl rfl rfl (Nat.le_of_ble_eq_true rfl) ⟨(Nat.le_of_ble_eq_true rfl), (Nat.le_of_ble_eq_true rfl)⟩ rfl rfl ⟨Nat.le_refl _, Nat.le_refl _⟩ rfl (fun r8 hr8 => ?_)
  refine V_callWi (As := [.int r8.1]) (rest := []) (wc := WM d a (r2.1, r8.2, r2.2.2.1, r2.2.2.2)) (Wd := fun w => WM d a w) C (fun r h => ct_X6_keep _ d a (r2.1, r8.2, r2.2.2.1, r2.2.2.2) r8.1 r h) kv_X6_keep kl_X6_41 [0, 1, 2, 3, 4, 5, 6, 7, 8, 9, 10, 11, 12, 13, 14, 15, 16, 17, 18, 19, 20, 21, 22, 23, 24, 25, 26, 27, 28, 29, 30, 31, 32, 33, 34, 35, 36, 37, 38, 39, 40, 41, 42, 43, 44, 45, 46, 47, 48, 49, 50, 51, 52, 53, 54, 55, 56, 57, 58, 59, 60, 61, 62, 63, 64, 65, 66, 67, 68, 69, 70, 71, 72, 73, 74, 75, 76] (fun w => WM d a w) dX6_bring_11 (emb_M_M_w d _ _) rfl (fun _ => fst_M d _ _ _) (fun _ => put_M_M_w d _ _ _) rfl rfl rfl (Nat.le_of_ble_eq_true rfl) ⟨(Nat.le_of_ble_eq_true rfl), (Nat.le_of_ble_eq_true rfl)⟩ rfl rfl ⟨Nat.le_refl _, Nat.le_refl _⟩ rfl (fun r11 hr11 => ?_)
  exact V_iretW (Wd := fun w => WM d a w) C hr hlk dX6_bring_14 rfl
set_option maxRecDepth 20000 in
theorem ct_X6_bring (l : Launch) (d : Dt) (a : Nat → Nat) (u : UM) (p1 : Int32) (p2 : Int32) (p3 : Int32) (z : Int32 × UM) (h : f_X6_bring u p1 p2 p3 = some z) : CtW l d yX6_bring cX6_bring 4 (some .int) (rmF 6 178) [.ref (a 0), .int p1, .int p2, .int p3] (WM d a u) (WM d a z.2) (some (.int z.1)) :=
  CtW.start (by decide) (Nat.le_of_ble_eq_true rfl) (by simp [Value.category]) [some (.ref (a 0)), some (.int p1), some (.int p2), some (.int p3)] rfl (fun x A C hr hlk => V_eqv (fun _ => h) (v_X6_bring C hr hlk z u p1 p2 p3))

/-! MastRobots.send -/
def f_X6_send (u : UM) (p1 : Int32) (p2 : Int32) (p3 : Int32) : Option (Int32 × UM) :=
  ((f_X6_freshTrial u).bind fun r2 => ((f_X2_exchange r2.2.1 p1 p2 p3).bind fun r8 => ((f_X6_keep (r2.1, r8.2, r2.2.2.1, r2.2.2.2) r8.1).bind fun r11 => some (r11.1, r11.2))))
set_option maxRecDepth 20000 in
theorem v_X6_send {x : Am} {d : Dt} {A : Nat → Prop} {a : Nat → Nat} (C : Cx x cX6_send 4 yX6_send.cls d (Imu d A x.s.heap)) (hr : x.meth.sig.returnType = (some .int)) (hlk : x.meth.locks = false) (z : Int32 × UM) (u : UM) (p1 : Int32) (p2 : Int32) (p3 : Int32) : V x (rmF 6 178) 0 0 (MQ x.below (QW d A (WM d a z.2) (some (.int z.1))) x.args x.s 0 0 A) 4 (Imu d A x.s.heap) (f_X6_send u p1 p2 p3 = some z) 0 (WM d a u) [some (.ref (a 0)), some (.int p1), some (.int p2), some (.int p3)] [] := by
  unfold f_X6_send
  refine V_aload_n C 0 dX6_send_0 rfl rfl ?_
  refine V_aload_n C 0 dX6_send_1 rfl rfl ?_
  refine V_callWv (As := []) (rest := [.ref (a 0)]) (wc := WM d a u) (Wd := fun w => WM d a w) C (fun r h => ct_X6_freshTrial _ d a u r h) kv_X6_freshTrial kl_X6_33 [0, 1, 2, 3, 4, 5, 6, 7, 8, 9, 10, 11, 12, 13, 14, 15, 16, 17, 18, 19, 20, 21, 22, 23, 24, 25, 26, 27, 28, 29, 30, 31, 32, 33, 34, 35, 36, 37, 38, 39, 40, 41, 42, 43, 44, 45, 46, 47, 48, 49, 50, 51, 52, 53, 54, 55, 56, 57, 58, 59, 60, 61, 62, 63, 64, 65, 66, 67, 68, 69, 70, 71, 72, 73, 74, 75, 76] (fun w => WM d a w) dX6_send_2 (emb_M_M_w d _ _) rfl (fun _ => fst_M d _ _ _) (fun _ => put_M_M_w d _ _ _) rfl rfl rfl (Nat.le_of_ble_eq_true rfl) ⟨(Nat.le_of_ble_eq_true rfl), (Nat.le_of_ble_eq_true rfl)⟩ rfl rfl ⟨Nat.le_refl _, Nat.le_refl _⟩ rfl (fun r2 hr2 => ?_)
  refine V_iload_n C 1 dX6_send_5 rfl rfl ?_
  refine V_iload_n C 2 dX6_send_6 rfl rfl ?_
  refine V_iload_n C 3 dX6_send_7 rfl rfl ?_
  refine V_callWi (As := [.int p1, .int p2, .int p3]) (rest := [.ref (a 0)]) (wc := WL d (fun i => a (i + 13)) r2.2.1) (Wd := fun w => WL d (fun i => a (i + 13)) w) C (fun r h => ct_X2_exchange _ d (fun i => a (i + 13)) r2.2.1 p1 p2 p3 r h) kv_X2_exchange kl_X6_45 [13, 14, 15, 16, 17, 18, 19, 20, 21, 22, 23, 24] (fun w => WM d a (r2.1, w, r2.2.2.1, r2.2.2.2)) dX6_send_8 (emb_M_L_1 d _ _) rfl (fun _ => fst_L d _ _ _) (fun _ => put_M_L_1 d _ _ _) rfl rfl rfl (Nat.le_of_ble_eq_true rfl) ⟨(Nat.le_of_ble_eq_true rfl), (Nat.le_of_ble_eq_true rfl)⟩ rfl rfl ⟨Nat.le_refl _, Nat.le_refl _⟩ rfl (fun r8 hr8 => ?_)
  refine V_callWi (As := [.int r8.1]) (rest := []) (wc := WM d a (r2.1, r8.2, r2.2.2.1, r2.2.2.2)) (Wd := fun w => WM d a w) C (fun r h => ct_X6_keep _ d a (r2.1, r8.2, r2.2.2.1, r2.2.2.2) r8.1 r h) kv_X6_keep kl_X6_41 [0, 1, 2, 3, 4, 5, 6, 7, 8, 9, 10, 11, 12, 13, 14, 15, 16, 17, 18, 19, 20, 21, 22, 23, 24, 25, 26, 27, 28, 29, 30, 31, 32, 33, 34, 35, 36, 37, 38, 39, 40, 41, 42, 43, 44, 45, 46, 47, 48, 49, 50, 51, 52, 53, 54, 55, 56, 57, 58, 59, 60, 61, 62, 63, 64, 65, 66, 67, 68, 69, 70, 71, 72, 73, 74, 75, 76] (fun w => WM d a w) dX6_send_11 (emb_M_M_w d _ _) rfl (fun _ => fst_M d _ _ _) (fun _ => put_M_M_w d _ _ _) rfl rfl rfl (Nat.le_of_ble_eq_true rfl) ⟨(Nat.le_of_ble_eq_true rfl), (Nat.le_of_ble_eq_true rfl)⟩ rfl rfl ⟨Nat.le_refl _, Nat.le_refl _⟩ rfl (fun r11 hr11 => ?_)
  exact V_iretW (Wd := fun w => WM d a w) C hr hlk dX6_send_14 rfl
set_option maxRecDepth 20000 in
theorem ct_X6_send (l : Launch) (d : Dt) (a : Nat → Nat) (u : UM) (p1 : Int32) (p2 : Int32) (p3 : Int32) (z : Int32 × UM) (h : f_X6_send u p1 p2 p3 = some z) : CtW l d yX6_send cX6_send 4 (some .int) (rmF 6 178) [.ref (a 0), .int p1, .int p2, .int p3] (WM d a u) (WM d a z.2) (some (.int z.1)) :=
  CtW.start (by decide) (Nat.le_of_ble_eq_true rfl) (by simp [Value.category]) [some (.ref (a 0)), some (.int p1), some (.int p2), some (.int p3)] rfl (fun x A C hr hlk => V_eqv (fun _ => h) (v_X6_send C hr hlk z u p1 p2 p3))

/-! MastRobots.lift -/
def f_X6_lift (u : UM) (p1 : Int32) : Option (Int32 × UM) :=
  ((f_X6_freshTrial u).bind fun r2 => ((f_X2_liftFrom r2.2.1 p1).bind fun r6 => ((f_X6_keep (r2.1, r6.2, r2.2.2.1, r2.2.2.2) r6.1).bind fun r9 => some (r9.1, r9.2))))
set_option maxRecDepth 20000 in
theorem v_X6_lift {x : Am} {d : Dt} {A : Nat → Prop} {a : Nat → Nat} (C : Cx x cX6_lift 2 yX6_lift.cls d (Imu d A x.s.heap)) (hr : x.meth.sig.returnType = (some .int)) (hlk : x.meth.locks = false) (z : Int32 × UM) (u : UM) (p1 : Int32) : V x (rmF 6 178) 0 0 (MQ x.below (QW d A (WM d a z.2) (some (.int z.1))) x.args x.s 0 0 A) 2 (Imu d A x.s.heap) (f_X6_lift u p1 = some z) 0 (WM d a u) [some (.ref (a 0)), some (.int p1)] [] := by
  unfold f_X6_lift
  refine V_aload_n C 0 dX6_lift_0 rfl rfl ?_
  refine V_aload_n C 0 dX6_lift_1 rfl rfl ?_
  refine V_callWv (As := []) (rest := [.ref (a 0)]) (wc := WM d a u) (Wd := fun w => WM d a w) C (fun r h => ct_X6_freshTrial _ d a u r h) kv_X6_freshTrial kl_X6_33 [0, 1, 2, 3, 4, 5, 6, 7, 8, 9, 10, 11, 12, 13, 14, 15, 16, 17, 18, 19, 20, 21, 22, 23, 24, 25, 26, 27, 28, 29, 30, 31, 32, 33, 34, 35, 36, 37, 38, 39, 40, 41, 42, 43, 44, 45, 46, 47, 48, 49, 50, 51, 52, 53, 54, 55, 56, 57, 58, 59, 60, 61, 62, 63, 64, 65, 66, 67, 68, 69, 70, 71, 72, 73, 74, 75, 76] (fun w => WM d a w) dX6_lift_2 (emb_M_M_w d _ _) rfl (fun _ => fst_M d _ _ _) (fun _ => put_M_M_w d _ _ _) rfl rfl rfl (Nat.le_of_ble_eq_true rfl) ⟨(Nat.le_of_ble_eq_true rfl), (Nat.le_of_ble_eq_true rfl)⟩ rfl rfl ⟨Nat.le_refl _, Nat.le_refl _⟩ rfl (fun r2 hr2 => ?_)
  refine V_iload_n C 1 dX6_lift_5 rfl rfl ?_
  refine V_callWi (As := [.int p1]) (rest := [.ref (a 0)]) (wc := WL d (fun i => a (i + 13)) r2.2.1) (Wd := fun w => WL d (fun i => a (i + 13)) w) C (fun r h => ct_X2_liftFrom _ d (fun i => a (i + 13)) r2.2.1 p1 r h) kv_X2_liftFrom kl_X6_48 [13, 14, 15, 16, 17, 18, 19, 20, 21, 22, 23, 24] (fun w => WM d a (r2.1, w, r2.2.2.1, r2.2.2.2)) dX6_lift_6 (emb_M_L_1 d _ _) rfl (fun _ => fst_L d _ _ _) (fun _ => put_M_L_1 d _ _ _) rfl rfl rfl (Nat.le_of_ble_eq_true rfl) ⟨(Nat.le_of_ble_eq_true rfl), (Nat.le_of_ble_eq_true rfl)⟩ rfl rfl ⟨Nat.le_refl _, Nat.le_refl _⟩ rfl (fun r6 hr6 => ?_)
  refine V_callWi (As := [.int r6.1]) (rest := []) (wc := WM d a (r2.1, r6.2, r2.2.2.1, r2.2.2.2)) (Wd := fun w => WM d a w) C (fun r h => ct_X6_keep _ d a (r2.1, r6.2, r2.2.2.1, r2.2.2.2) r6.1 r h) kv_X6_keep kl_X6_41 [0, 1, 2, 3, 4, 5, 6, 7, 8, 9, 10, 11, 12, 13, 14, 15, 16, 17, 18, 19, 20, 21, 22, 23, 24, 25, 26, 27, 28, 29, 30, 31, 32, 33, 34, 35, 36, 37, 38, 39, 40, 41, 42, 43, 44, 45, 46, 47, 48, 49, 50, 51, 52, 53, 54, 55, 56, 57, 58, 59, 60, 61, 62, 63, 64, 65, 66, 67, 68, 69, 70, 71, 72, 73, 74, 75, 76] (fun w => WM d a w) dX6_lift_9 (emb_M_M_w d _ _) rfl (fun _ => fst_M d _ _ _) (fun _ => put_M_M_w d _ _ _) rfl rfl rfl (Nat.le_of_ble_eq_true rfl) ⟨(Nat.le_of_ble_eq_true rfl), (Nat.le_of_ble_eq_true rfl)⟩ rfl rfl ⟨Nat.le_refl _, Nat.le_refl _⟩ rfl (fun r9 hr9 => ?_)
  exact V_iretW (Wd := fun w => WM d a w) C hr hlk dX6_lift_12 rfl
set_option maxRecDepth 20000 in
theorem ct_X6_lift (l : Launch) (d : Dt) (a : Nat → Nat) (u : UM) (p1 : Int32) (z : Int32 × UM) (h : f_X6_lift u p1 = some z) : CtW l d yX6_lift cX6_lift 2 (some .int) (rmF 6 178) [.ref (a 0), .int p1] (WM d a u) (WM d a z.2) (some (.int z.1)) :=
  CtW.start (by decide) (Nat.le_of_ble_eq_true rfl) (by simp [Value.category]) [some (.ref (a 0)), some (.int p1)] rfl (fun x A C hr hlk => V_eqv (fun _ => h) (v_X6_lift C hr hlk z u p1))

/-! MastRobots.lay -/
def f_X6_lay (u : UM) (p1 : Int32) : Option (Int32 × UM) :=
  ((f_X6_freshTrial u).bind fun r2 => ((f_X2_layOn r2.2.1 p1).bind fun r6 => ((f_X6_keep (r2.1, r6.2, r2.2.2.1, r2.2.2.2) r6.1).bind fun r9 => some (r9.1, r9.2))))
set_option maxRecDepth 20000 in
theorem v_X6_lay {x : Am} {d : Dt} {A : Nat → Prop} {a : Nat → Nat} (C : Cx x cX6_lay 2 yX6_lay.cls d (Imu d A x.s.heap)) (hr : x.meth.sig.returnType = (some .int)) (hlk : x.meth.locks = false) (z : Int32 × UM) (u : UM) (p1 : Int32) : V x (rmF 6 178) 0 0 (MQ x.below (QW d A (WM d a z.2) (some (.int z.1))) x.args x.s 0 0 A) 2 (Imu d A x.s.heap) (f_X6_lay u p1 = some z) 0 (WM d a u) [some (.ref (a 0)), some (.int p1)] [] := by
  unfold f_X6_lay
  refine V_aload_n C 0 dX6_lay_0 rfl rfl ?_
  refine V_aload_n C 0 dX6_lay_1 rfl rfl ?_
  refine V_callWv (As := []) (rest := [.ref (a 0)]) (wc := WM d a u) (Wd := fun w => WM d a w) C (fun r h => ct_X6_freshTrial _ d a u r h) kv_X6_freshTrial kl_X6_33 [0, 1, 2, 3, 4, 5, 6, 7, 8, 9, 10, 11, 12, 13, 14, 15, 16, 17, 18, 19, 20, 21, 22, 23, 24, 25, 26, 27, 28, 29, 30, 31, 32, 33, 34, 35, 36, 37, 38, 39, 40, 41, 42, 43, 44, 45, 46, 47, 48, 49, 50, 51, 52, 53, 54, 55, 56, 57, 58, 59, 60, 61, 62, 63, 64, 65, 66, 67, 68, 69, 70, 71, 72, 73, 74, 75, 76] (fun w => WM d a w) dX6_lay_2 (emb_M_M_w d _ _) rfl (fun _ => fst_M d _ _ _) (fun _ => put_M_M_w d _ _ _) rfl rfl rfl (Nat.le_of_ble_eq_true rfl) ⟨(Nat.le_of_ble_eq_true rfl), (Nat.le_of_ble_eq_true rfl)⟩ rfl rfl ⟨Nat.le_refl _, Nat.le_refl _⟩ rfl (fun r2 hr2 => ?_)
  refine V_iload_n C 1 dX6_lay_5 rfl rfl ?_
  refine V_callWi (As := [.int p1]) (rest := [.ref (a 0)]) (wc := WL d (fun i => a (i + 13)) r2.2.1) (Wd := fun w => WL d (fun i => a (i + 13)) w) C (fun r h => ct_X2_layOn _ d (fun i => a (i + 13)) r2.2.1 p1 r h) kv_X2_layOn kl_X6_51 [13, 14, 15, 16, 17, 18, 19, 20, 21, 22, 23, 24] (fun w => WM d a (r2.1, w, r2.2.2.1, r2.2.2.2)) dX6_lay_6 (emb_M_L_1 d _ _) rfl (fun _ => fst_L d _ _ _) (fun _ => put_M_L_1 d _ _ _) rfl rfl rfl (Nat.le_of_ble_eq_true rfl) ⟨(Nat.le_of_ble_eq_true rfl), (Nat.le_of_ble_eq_true rfl)⟩ rfl rfl ⟨Nat.le_refl _, Nat.le_refl _⟩ rfl (fun r6 hr6 => ?_)
  refine V_callWi (As := [.int r6.1]) (rest := []) (wc := WM d a (r2.1, r6.2, r2.2.2.1, r2.2.2.2)) (Wd := fun w => WM d a w) C (fun r h => ct_X6_keep _ d a (r2.1, r6.2, r2.2.2.1, r2.2.2.2) r6.1 r h) kv_X6_keep kl_X6_41 [0, 1, 2, 3, 4, 5, 6, 7, 8, 9, 10, 11, 12, 13, 14, 15, 16, 17, 18, 19, 20, 21, 22, 23, 24, 25, 26, 27, 28, 29, 30, 31, 32, 33, 34, 35, 36, 37, 38, 39, 40, 41, 42, 43, 44, 45, 46, 47, 48, 49, 50, 51, 52, 53, 54, 55, 56, 57, 58, 59, 60, 61, 62, 63, 64, 65, 66, 67, 68, 69, 70, 71, 72, 73, 74, 75, 76] (fun w => WM d a w) dX6_lay_9 (emb_M_M_w d _ _) rfl (fun _ => fst_M d _ _ _) (fun _ => put_M_M_w d _ _ _) rfl rfl rfl (Nat.le_of_ble_eq_true rfl) ⟨(Nat.le_of_ble_eq_true rfl), (Nat.le_of_ble_eq_true rfl)⟩ rfl rfl ⟨Nat.le_refl _, Nat.le_refl _⟩ rfl (fun r9 hr9 => ?_)
  exact V_iretW (Wd := fun w => WM d a w) C hr hlk dX6_lay_12 rfl
set_option maxRecDepth 20000 in
theorem ct_X6_lay (l : Launch) (d : Dt) (a : Nat → Nat) (u : UM) (p1 : Int32) (z : Int32 × UM) (h : f_X6_lay u p1 = some z) : CtW l d yX6_lay cX6_lay 2 (some .int) (rmF 6 178) [.ref (a 0), .int p1] (WM d a u) (WM d a z.2) (some (.int z.1)) :=
  CtW.start (by decide) (Nat.le_of_ble_eq_true rfl) (by simp [Value.category]) [some (.ref (a 0)), some (.int p1)] rfl (fun x A C hr hlk => V_eqv (fun _ => h) (v_X6_lay C hr hlk z u p1))

/-! MastRobots.weigh -/
def f_X6_weigh (u : UM) : Option (Int32 × UM) :=
  ((f_X6_freshTrial u).bind fun r2 => ((f_X2_weighPallet r2.2.1).bind fun r5 => ((f_X6_keep (r2.1, r5.2, r2.2.2.1, r2.2.2.2) r5.1).bind fun r8 => some (r8.1, r8.2))))
set_option maxRecDepth 20000 in
theorem v_X6_weigh {x : Am} {d : Dt} {A : Nat → Prop} {a : Nat → Nat} (C : Cx x cX6_weigh 1 yX6_weigh.cls d (Imu d A x.s.heap)) (hr : x.meth.sig.returnType = (some .int)) (hlk : x.meth.locks = false) (z : Int32 × UM) (u : UM) : V x (rmF 6 178) 0 0 (MQ x.below (QW d A (WM d a z.2) (some (.int z.1))) x.args x.s 0 0 A) 1 (Imu d A x.s.heap) (f_X6_weigh u = some z) 0 (WM d a u) [some (.ref (a 0))] [] := by
  unfold f_X6_weigh
  refine V_aload_n C 0 dX6_weigh_0 rfl rfl ?_
  refine V_aload_n C 0 dX6_weigh_1 rfl rfl ?_
  refine V_callWv (As := []) (rest := [.ref (a 0)]) (wc := WM d a u) (Wd := fun w => WM d a w) C (fun r h => ct_X6_freshTrial _ d a u r h) kv_X6_freshTrial kl_X6_33 [0, 1, 2, 3, 4, 5, 6, 7, 8, 9, 10, 11, 12, 13, 14, 15, 16, 17, 18, 19, 20, 21, 22, 23, 24, 25, 26, 27, 28, 29, 30, 31, 32, 33, 34, 35, 36, 37, 38, 39, 40, 41, 42, 43, 44, 45, 46, 47, 48, 49, 50, 51, 52, 53, 54, 55, 56, 57, 58, 59, 60, 61, 62, 63, 64, 65, 66, 67, 68, 69, 70, 71, 72, 73, 74, 75, 76] (fun w => WM d a w) dX6_weigh_2 (emb_M_M_w d _ _) rfl (fun _ => fst_M d _ _ _) (fun _ => put_M_M_w d _ _ _) rfl rfl rfl (Nat.le_of_ble_eq_true rfl) ⟨(Nat.le_of_ble_eq_true rfl), (Nat.le_of_ble_eq_true rfl)⟩ rfl rfl ⟨Nat.le_refl _, Nat.le_refl _⟩ rfl (fun r2 hr2 => ?_)
  refine V_callWi (As := []) (rest := [.ref (a 0)]) (wc := WL d (fun i => a (i + 13)) r2.2.1) (Wd := fun w => WL d (fun i => a (i + 13)) w) C (fun r h => ct_X2_weighPallet _ d (fun i => a (i + 13)) r2.2.1 r h) kv_X2_weighPallet kl_X6_54 [13, 14, 15, 16, 17, 18, 19, 20, 21, 22, 23, 24] (fun w => WM d a (r2.1, w, r2.2.2.1, r2.2.2.2)) dX6_weigh_5 (emb_M_L_1 d _ _) rfl (fun _ => fst_L d _ _ _) (fun _ => put_M_L_1 d _ _ _) rfl rfl rfl (Nat.le_of_ble_eq_true rfl) ⟨(Nat.le_of_ble_eq_true rfl), (Nat.le_of_ble_eq_true rfl)⟩ rfl rfl ⟨Nat.le_refl _, Nat.le_refl _⟩ rfl (fun r5 hr5 => ?_)
  refine V_callWi (As := [.int r5.1]) (rest := []) (wc := WM d a (r2.1, r5.2, r2.2.2.1, r2.2.2.2)) (Wd := fun w => WM d a w) C (fun r h => ct_X6_keep _ d a (r2.1, r5.2, r2.2.2.1, r2.2.2.2) r5.1 r h) kv_X6_keep kl_X6_41 [0, 1, 2, 3, 4, 5, 6, 7, 8, 9, 10, 11, 12, 13, 14, 15, 16, 17, 18, 19, 20, 21, 22, 23, 24, 25, 26, 27, 28, 29, 30, 31, 32, 33, 34, 35, 36, 37, 38, 39, 40, 41, 42, 43, 44, 45, 46, 47, 48, 49, 50, 51, 52, 53, 54, 55, 56, 57, 58, 59, 60, 61, 62, 63, 64, 65, 66, 67, 68, 69, 70, 71, 72, 73, 74, 75, 76] (fun w => WM d a w) dX6_weigh_8 (emb_M_M_w d _ _) rfl (fun _ => fst_M d _ _ _) (fun _ => put_M_M_w d _ _ _) rfl rfl rfl (Nat.le_of_ble_eq_true rfl) ⟨(Nat.le_of_ble_eq_true rfl), (Nat.le_of_ble_eq_true rfl)⟩ rfl rfl ⟨Nat.le_refl _, Nat.le_refl _⟩ rfl (fun r8 hr8 => ?_)
  exact V_iretW (Wd := fun w => WM d a w) C hr hlk dX6_weigh_11 rfl
set_option maxRecDepth 20000 in
theorem ct_X6_weigh (l : Launch) (d : Dt) (a : Nat → Nat) (u : UM) (z : Int32 × UM) (h : f_X6_weigh u = some z) : CtW l d yX6_weigh cX6_weigh 1 (some .int) (rmF 6 178) [.ref (a 0)] (WM d a u) (WM d a z.2) (some (.int z.1)) :=
  CtW.start (by decide) (Nat.le_of_ble_eq_true rfl) (by simp [Value.category]) [some (.ref (a 0))] rfl (fun x A C hr hlk => V_eqv (fun _ => h) (v_X6_weigh C hr hlk z u))

/-! MastRobots.turn -/
def f_X6_turn (u : UM) (p1 : Int32) : Option (Int32 × UM) :=
  ((f_X6_freshTrial u).bind fun r2 => ((f_X2_turnBy r2.2.1 p1).bind fun r6 => ((f_X6_keep (r2.1, r6.2, r2.2.2.1, r2.2.2.2) r6.1).bind fun r9 => some (r9.1, r9.2))))
set_option maxRecDepth 20000 in
theorem v_X6_turn {x : Am} {d : Dt} {A : Nat → Prop} {a : Nat → Nat} (C : Cx x cX6_turn 2 yX6_turn.cls d (Imu d A x.s.heap)) (hr : x.meth.sig.returnType = (some .int)) (hlk : x.meth.locks = false) (z : Int32 × UM) (u : UM) (p1 : Int32) : V x (rmF 6 178) 0 0 (MQ x.below (QW d A (WM d a z.2) (some (.int z.1))) x.args x.s 0 0 A) 2 (Imu d A x.s.heap) (f_X6_turn u p1 = some z) 0 (WM d a u) [some (.ref (a 0)), some (.int p1)] [] := by
  unfold f_X6_turn
  refine V_aload_n C 0 dX6_turn_0 rfl rfl ?_
  refine V_aload_n C 0 dX6_turn_1 rfl rfl ?_
  refine V_callWv (As := []) (rest := [.ref (a 0)]) (wc := WM d a u) (Wd := fun w => WM d a w) C (fun r h => ct_X6_freshTrial _ d a u r h) kv_X6_freshTrial kl_X6_33 [0, 1, 2, 3, 4, 5, 6, 7, 8, 9, 10, 11, 12, 13, 14, 15, 16, 17, 18, 19, 20, 21, 22, 23, 24, 25, 26, 27, 28, 29, 30, 31, 32, 33, 34, 35, 36, 37, 38, 39, 40, 41, 42, 43, 44, 45, 46, 47, 48, 49, 50, 51, 52, 53, 54, 55, 56, 57, 58, 59, 60, 61, 62, 63, 64, 65, 66, 67, 68, 69, 70, 71, 72, 73, 74, 75, 76] (fun w => WM d a w) dX6_turn_2 (emb_M_M_w d _ _) rfl (fun _ => fst_M d _ _ _) (fun _ => put_M_M_w d _ _ _) rfl rfl rfl (Nat.le_of_ble_eq_true rfl) ⟨(Nat.le_of_ble_eq_true rfl), (Nat.le_of_ble_eq_true rfl)⟩ rfl rfl ⟨Nat.le_refl _, Nat.le_refl _⟩ rfl (fun r2 hr2 => ?_)
  refine V_iload_n C 1 dX6_turn_5 rfl rfl ?_
  refine V_callWi (As := [.int p1]) (rest := [.ref (a 0)]) (wc := WL d (fun i => a (i + 13)) r2.2.1) (Wd := fun w => WL d (fun i => a (i + 13)) w) C (fun r h => ct_X2_turnBy _ d (fun i => a (i + 13)) r2.2.1 p1 r h) kv_X2_turnBy kl_X6_58 [13, 14, 15, 16, 17, 18, 19, 20, 21, 22, 23, 24] (fun w => WM d a (r2.1, w, r2.2.2.1, r2.2.2.2)) dX6_turn_6 (emb_M_L_1 d _ _) rfl (fun _ => fst_L d _ _ _) (fun _ => put_M_L_1 d _ _ _) rfl rfl rfl (Nat.le_of_ble_eq_true rfl) ⟨(Nat.le_of_ble_eq_true rfl), (Nat.le_of_ble_eq_true rfl)⟩ rfl rfl ⟨Nat.le_refl _, Nat.le_refl _⟩ rfl (fun r6 hr6 => ?_)
  refine V_callWi (As := [.int r6.1]) (rest := []) (wc := WM d a (r2.1, r6.2, r2.2.2.1, r2.2.2.2)) (Wd := fun w => WM d a w) C (fun r h => ct_X6_keep _ d a (r2.1, r6.2, r2.2.2.1, r2.2.2.2) r6.1 r h) kv_X6_keep kl_X6_41 [0, 1, 2, 3, 4, 5, 6, 7, 8, 9, 10, 11, 12, 13, 14, 15, 16, 17, 18, 19, 20, 21, 22, 23, 24, 25, 26, 27, 28, 29, 30, 31, 32, 33, 34, 35, 36, 37, 38, 39, 40, 41, 42, 43, 44, 45, 46, 47, 48, 49, 50, 51, 52, 53, 54, 55, 56, 57, 58, 59, 60, 61, 62, 63, 64, 65, 66, 67, 68, 69, 70, 71, 72, 73, 74, 75, 76] (fun w => WM d a w) dX6_turn_9 (emb_M_M_w d _ _) rfl (fun _ => fst_M d _ _ _) (fun _ => put_M_M_w d _ _ _) rfl rfl rfl (Nat.le_of_ble_eq_true rfl) ⟨(Nat.le_of_ble_eq_true rfl), (Nat.le_of_ble_eq_true rfl)⟩ rfl rfl ⟨Nat.le_refl _, Nat.le_refl _⟩ rfl (fun r9 hr9 => ?_)
  exact V_iretW (Wd := fun w => WM d a w) C hr hlk dX6_turn_12 rfl
set_option maxRecDepth 20000 in
theorem ct_X6_turn (l : Launch) (d : Dt) (a : Nat → Nat) (u : UM) (p1 : Int32) (z : Int32 × UM) (h : f_X6_turn u p1 = some z) : CtW l d yX6_turn cX6_turn 2 (some .int) (rmF 6 178) [.ref (a 0), .int p1] (WM d a u) (WM d a z.2) (some (.int z.1)) :=
  CtW.start (by decide) (Nat.le_of_ble_eq_true rfl) (by simp [Value.category]) [some (.ref (a 0)), some (.int p1)] rfl (fun x A C hr hlk => V_eqv (fun _ => h) (v_X6_turn C hr hlk z u p1))

/-! MastRobots.mount -/
def f_X6_mount (u : UM) (p1 : Int32) : Option (Int32 × UM) :=
  ((f_X6_freshTrial u).bind fun r2 => ((f_X2_mountIn r2.2.1 p1).bind fun r6 => ((f_X6_keep (r2.1, r6.2, r2.2.2.1, r2.2.2.2) r6.1).bind fun r9 => some (r9.1, r9.2))))
set_option maxRecDepth 20000 in
theorem v_X6_mount {x : Am} {d : Dt} {A : Nat → Prop} {a : Nat → Nat} (C : Cx x cX6_mount 2 yX6_mount.cls d (Imu d A x.s.heap)) (hr : x.meth.sig.returnType = (some .int)) (hlk : x.meth.locks = false) (z : Int32 × UM) (u : UM) (p1 : Int32) : V x (rmF 6 178) 0 0 (MQ x.below (QW d A (WM d a z.2) (some (.int z.1))) x.args x.s 0 0 A) 2 (Imu d A x.s.heap) (f_X6_mount u p1 = some z) 0 (WM d a u) [some (.ref (a 0)), some (.int p1)] [] := by
  unfold f_X6_mount
  refine V_aload_n C 0 dX6_mount_0 rfl rfl ?_
  refine V_aload_n C 0 dX6_mount_1 rfl rfl ?_
  refine V_callWv (As := []) (rest := [.ref (a 0)]) (wc := WM d a u) (Wd := fun w => WM d a w) C (fun r h => ct_X6_freshTrial _ d a u r h) kv_X6_freshTrial kl_X6_33 [0, 1, 2, 3, 4, 5, 6, 7, 8, 9, 10, 11, 12, 13, 14, 15, 16, 17, 18, 19, 20, 21, 22, 23, 24, 25, 26, 27, 28, 29, 30, 31, 32, 33, 34, 35, 36, 37, 38, 39, 40, 41, 42, 43, 44, 45, 46, 47, 48, 49, 50, 51, 52, 53, 54, 55, 56, 57, 58, 59, 60, 61, 62, 63, 64, 65, 66, 67, 68, 69, 70, 71, 72, 73, 74, 75, 76] (fun w => WM d a w) dX6_mount_2 (emb_M_M_w d _ _) rfl (fun _ => fst_M d _ _ _) (fun _ => put_M_M_w d _ _ _) rfl rfl rfl (Nat.le_of_ble_eq_true rfl) ⟨(Nat.le_of_ble_eq_true rfl), (Nat.le_of_ble_eq_true rfl)⟩ rfl rfl ⟨Nat.le_refl _, Nat.le_refl _⟩ rfl (fun r2 hr2 => ?_)
  refine V_iload_n C 1 dX6_mount_5 rfl rfl ?_
  refine V_callWi (As := [.int p1]) (rest := [.ref (a 0)]) (wc := WL d (fun i => a (i + 13)) r2.2.1) (Wd := fun w => WL d (fun i => a (i + 13)) w) C (fun r h => ct_X2_mountIn _ d (fun i => a (i + 13)) r2.2.1 p1 r h) kv_X2_mountIn kl_X6_61 [13, 14, 15, 16, 17, 18, 19, 20, 21, 22, 23, 24] (fun w => WM d a (r2.1, w, r2.2.2.1, r2.2.2.2)) dX6_mount_6 (emb_M_L_1 d _ _) rfl (fun _ => fst_L d _ _ _) (fun _ => put_M_L_1 d _ _ _) rfl rfl rfl (Nat.le_of_ble_eq_true rfl) ⟨(Nat.le_of_ble_eq_true rfl), (Nat.le_of_ble_eq_true rfl)⟩ rfl rfl ⟨Nat.le_refl _, Nat.le_refl _⟩ rfl (fun r6 hr6 => ?_)
  refine V_callWi (As := [.int r6.1]) (rest := []) (wc := WM d a (r2.1, r6.2, r2.2.2.1, r2.2.2.2)) (Wd := fun w => WM d a w) C (fun r h => ct_X6_keep _ d a (r2.1, r6.2, r2.2.2.1, r2.2.2.2) r6.1 r h) kv_X6_keep kl_X6_41 [0, 1, 2, 3, 4, 5, 6, 7, 8, 9, 10, 11, 12, 13, 14, 15, 16, 17, 18, 19, 20, 21, 22, 23, 24, 25, 26, 27, 28, 29, 30, 31, 32, 33, 34, 35, 36, 37, 38, 39, 40, 41, 42, 43, 44, 45, 46, 47, 48, 49, 50, 51, 52, 53, 54, 55, 56, 57, 58, 59, 60, 61, 62, 63, 64, 65, 66, 67, 68, 69, 70, 71, 72, 73, 74, 75, 76] (fun w => WM d a w) dX6_mount_9 (emb_M_M_w d _ _) rfl (fun _ => fst_M d _ _ _) (fun _ => put_M_M_w d _ _ _) rfl rfl rfl (Nat.le_of_ble_eq_true rfl) ⟨(Nat.le_of_ble_eq_true rfl), (Nat.le_of_ble_eq_true rfl)⟩ rfl rfl ⟨Nat.le_refl _, Nat.le_refl _⟩ rfl (fun r9 hr9 => ?_)
  exact V_iretW (Wd := fun w => WM d a w) C hr hlk dX6_mount_12 rfl
set_option maxRecDepth 20000 in
theorem ct_X6_mount (l : Launch) (d : Dt) (a : Nat → Nat) (u : UM) (p1 : Int32) (z : Int32 × UM) (h : f_X6_mount u p1 = some z) : CtW l d yX6_mount cX6_mount 2 (some .int) (rmF 6 178) [.ref (a 0), .int p1] (WM d a u) (WM d a z.2) (some (.int z.1)) :=
  CtW.start (by decide) (Nat.le_of_ble_eq_true rfl) (by simp [Value.category]) [some (.ref (a 0)), some (.int p1)] rfl (fun x A C hr hlk => V_eqv (fun _ => h) (v_X6_mount C hr hlk z u p1))

/-! MastRobots.take -/
def f_X6_take (u : UM) (p1 : Int32) : Option (Int32 × UM) :=
  ((f_X6_freshTrial u).bind fun r2 => ((f_X2_takeFrom r2.2.1 p1).bind fun r6 => ((f_X6_keep (r2.1, r6.2, r2.2.2.1, r2.2.2.2) r6.1).bind fun r9 => some (r9.1, r9.2))))
set_option maxRecDepth 20000 in
theorem v_X6_take {x : Am} {d : Dt} {A : Nat → Prop} {a : Nat → Nat} (C : Cx x cX6_take 2 yX6_take.cls d (Imu d A x.s.heap)) (hr : x.meth.sig.returnType = (some .int)) (hlk : x.meth.locks = false) (z : Int32 × UM) (u : UM) (p1 : Int32) : V x (rmF 6 178) 0 0 (MQ x.below (QW d A (WM d a z.2) (some (.int z.1))) x.args x.s 0 0 A) 2 (Imu d A x.s.heap) (f_X6_take u p1 = some z) 0 (WM d a u) [some (.ref (a 0)), some (.int p1)] [] := by
  unfold f_X6_take
  refine V_aload_n C 0 dX6_take_0 rfl rfl ?_
  refine V_aload_n C 0 dX6_take_1 rfl rfl ?_
  refine V_callWv (As := []) (rest := [.ref (a 0)]) (wc := WM d a u) (Wd := fun w => WM d a w) C (fun r h => ct_X6_freshTrial _ d a u r h) kv_X6_freshTrial kl_X6_33 [0, 1, 2, 3, 4, 5, 6, 7, 8, 9, 10, 11, 12, 13, 14, 15, 16, 17, 18, 19, 20, 21, 22, 23, 24, 25, 26, 27, 28, 29, 30, 31, 32, 33, 34, 35, 36, 37, 38, 39, 40, 41, 42, 43, 44, 45, 46, 47, 48, 49, 50, 51, 52, 53, 54, 55, 56, 57, 58, 59, 60, 61, 62, 63, 64, 65, 66, 67, 68, 69, 70, 71, 72, 73, 74, 75, 76] (fun w => WM d a w) dX6_take_2 (emb_M_M_w d _ _) rfl (fun _ => fst_M d _ _ _) (fun _ => put_M_M_w d _ _ _) rfl rfl rfl (Nat.le_of_ble_eq_true rfl) ⟨(Nat.le_of_ble_eq_true rfl), (Nat.le_of_ble_eq_true rfl)⟩ rfl rfl ⟨Nat.le_refl _, Nat.le_refl _⟩ rfl (fun r2 hr2 => ?_)
  refine V_iload_n C 1 dX6_take_5 rfl rfl ?_
  refine V_callWi (As := [.int p1]) (rest := [.ref (a 0)]) (wc := WL d (fun i => a (i + 13)) r2.2.1) (Wd := fun w => WL d (fun i => a (i + 13)) w) C (fun r h => ct_X2_takeFrom _ d (fun i => a (i + 13)) r2.2.1 p1 r h) kv_X2_takeFrom kl_X6_64 [13, 14, 15, 16, 17, 18, 19, 20, 21, 22, 23, 24] (fun w => WM d a (r2.1, w, r2.2.2.1, r2.2.2.2)) dX6_take_6 (emb_M_L_1 d _ _) rfl (fun _ => fst_L d _ _ _) (fun _ => put_M_L_1 d _ _ _) rfl rfl rfl (Nat.le_of_ble_eq_true rfl) ⟨(Nat.le_of_ble_eq_true rfl), (Nat.le_of_ble_eq_true rfl)⟩ rfl rfl ⟨Nat.le_refl _, Nat.le_refl _⟩ rfl (fun r6 hr6 => ?_)
  refine V_callWi (As := [.int r6.1]) (rest := []) (wc := WM d a (r2.1, r6.2, r2.2.2.1, r2.2.2.2)) (Wd := fun w => WM d a w) C (fun r h => ct_X6_keep _ d a (r2.1, r6.2, r2.2.2.1, r2.2.2.2) r6.1 r h) kv_X6_keep kl_X6_41 [0, 1, 2, 3, 4, 5, 6, 7, 8, 9, 10, 11, 12, 13, 14, 15, 16, 17, 18, 19, 20, 21, 22, 23, 24, 25, 26, 27, 28, 29, 30, 31, 32, 33, 34, 35, 36, 37, 38, 39, 40, 41, 42, 43, 44, 45, 46, 47, 48, 49, 50, 51, 52, 53, 54, 55, 56, 57, 58, 59, 60, 61, 62, 63, 64, 65, 66, 67, 68, 69, 70, 71, 72, 73, 74, 75, 76] (fun w => WM d a w) dX6_take_9 (emb_M_M_w d _ _) rfl (fun _ => fst_M d _ _ _) (fun _ => put_M_M_w d _ _ _) rfl rfl rfl (Nat.le_of_ble_eq_true rfl) ⟨(Nat.le_of_ble_eq_true rfl), (Nat.le_of_ble_eq_true rfl)⟩ rfl rfl ⟨Nat.le_refl _, Nat.le_refl _⟩ rfl (fun r9 hr9 => ?_)
  exact V_iretW (Wd := fun w => WM d a w) C hr hlk dX6_take_12 rfl
set_option maxRecDepth 20000 in
theorem ct_X6_take (l : Launch) (d : Dt) (a : Nat → Nat) (u : UM) (p1 : Int32) (z : Int32 × UM) (h : f_X6_take u p1 = some z) : CtW l d yX6_take cX6_take 2 (some .int) (rmF 6 178) [.ref (a 0), .int p1] (WM d a u) (WM d a z.2) (some (.int z.1)) :=
  CtW.start (by decide) (Nat.le_of_ble_eq_true rfl) (by simp [Value.category]) [some (.ref (a 0)), some (.int p1)] rfl (fun x A C hr hlk => V_eqv (fun _ => h) (v_X6_take C hr hlk z u p1))

/-! MastRobots.hold -/
def f_X6_hold (u : UM) (p1 : Int32) (p2 : Int32) : Option (Int32 × UM) :=
  ((f_X6_freshTrial u).bind fun r2 => ((f_X2_holdFile r2.2.1 p1 p2).bind fun r7 => ((f_X6_keep (r2.1, r7.2, r2.2.2.1, r2.2.2.2) r7.1).bind fun r10 => some (r10.1, r10.2))))
set_option maxRecDepth 20000 in
theorem v_X6_hold {x : Am} {d : Dt} {A : Nat → Prop} {a : Nat → Nat} (C : Cx x cX6_hold 3 yX6_hold.cls d (Imu d A x.s.heap)) (hr : x.meth.sig.returnType = (some .int)) (hlk : x.meth.locks = false) (z : Int32 × UM) (u : UM) (p1 : Int32) (p2 : Int32) : V x (rmF 6 178) 0 0 (MQ x.below (QW d A (WM d a z.2) (some (.int z.1))) x.args x.s 0 0 A) 3 (Imu d A x.s.heap) (f_X6_hold u p1 p2 = some z) 0 (WM d a u) [some (.ref (a 0)), some (.int p1), some (.int p2)] [] := by
  unfold f_X6_hold
  refine V_aload_n C 0 dX6_hold_0 rfl rfl ?_
  refine V_aload_n C 0 dX6_hold_1 rfl rfl ?_
  refine V_callWv (As := []) (rest := [.ref (a 0)]) (wc := WM d a u) (Wd := fun w => WM d a w) C (fun r h => ct_X6_freshTrial _ d a u r h) kv_X6_freshTrial kl_X6_33 [0, 1, 2, 3, 4, 5, 6, 7, 8, 9, 10, 11, 12, 13, 14, 15, 16, 17, 18, 19, 20, 21, 22, 23, 24, 25, 26, 27, 28, 29, 30, 31, 32, 33, 34, 35, 36, 37, 38, 39, 40, 41, 42, 43, 44, 45, 46, 47, 48, 49, 50, 51, 52, 53, 54, 55, 56, 57, 58, 59, 60, 61, 62, 63, 64, 65, 66, 67, 68, 69, 70, 71, 72, 73, 74, 75, 76] (fun w => WM d a w) dX6_hold_2 (emb_M_M_w d _ _) rfl (fun _ => fst_M d _ _ _) (fun _ => put_M_M_w d _ _ _) rfl rfl rfl (Nat.le_of_ble_eq_true rfl) ⟨(Nat.le_of_ble_eq_true rfl), (Nat.le_of_ble_eq_true rfl)⟩ rfl rfl ⟨Nat.le_refl _, Nat.le_refl _⟩ rfl (fun r2 hr2 => ?_)
  refine V_iload_n C 1 dX6_hold_5 rfl rfl ?_
  refine V_iload_n C 2 dX6_hold_6 rfl rfl ?_
  refine V_callWi (As := [.int p1, .int p2]) (rest := [.ref (a 0)]) (wc := WL d (fun i => a (i + 13)) r2.2.1) (Wd := fun w => WL d (fun i => a (i + 13)) w) C (fun r h => ct_X2_holdFile _ d (fun i => a (i + 13)) r2.2.1 p1 p2 r h) kv_X2_holdFile kl_X6_67 [13, 14, 15, 16, 17, 18, 19, 20, 21, 22, 23, 24] (fun w => WM d a (r2.1, w, r2.2.2.1, r2.2.2.2)) dX6_hold_7 (emb_M_L_1 d _ _) rfl (fun _ => fst_L d _ _ _) (fun _ => put_M_L_1 d _ _ _) rfl rfl rfl (Nat.le_of_ble_eq_true rfl) ⟨(Nat.le_of_ble_eq_true rfl), (Nat.le_of_ble_eq_true rfl)⟩ rfl rfl ⟨Nat.le_refl _, Nat.le_refl _⟩ rfl (fun r7 hr7 => ?_)
  refine V_callWi (As := [.int r7.1]) (rest := []) (wc := WM d a (r2.1, r7.2, r2.2.2.1, r2.2.2.2)) (Wd := fun w => WM d a w) C (fun r h => ct_X6_keep _ d a (r2.1, r7.2, r2.2.2.1, r2.2.2.2) r7.1 r h) kv_X6_keep kl_X6_41 [0, 1, 2, 3, 4, 5, 6, 7, 8, 9, 10, 11, 12, 13, 14, 15, 16, 17, 18, 19, 20, 21, 22, 23, 24, 25, 26, 27, 28, 29, 30, 31, 32, 33, 34, 35, 36, 37, 38, 39, 40, 41, 42, 43, 44, 45, 46, 47, 48, 49, 50, 51, 52, 53, 54, 55, 56, 57, 58, 59, 60, 61, 62, 63, 64, 65, 66, 67, 68, 69, 70, 71, 72, 73, 74, 75, 76] (fun w => WM d a w) dX6_hold_10 (emb_M_M_w d _ _) rfl (fun _ => fst_M d _ _ _) (fun _ => put_M_M_w d _ _ _) rfl rfl rfl (Nat.le_of_ble_eq_true rfl) ⟨(Nat.le_of_ble_eq_true rfl), (Nat.le_of_ble_eq_true rfl)⟩ rfl rfl ⟨Nat.le_refl _, Nat.le_refl _⟩ rfl (fun r10 hr10 => ?_)
  exact V_iretW (Wd := fun w => WM d a w) C hr hlk dX6_hold_13 rfl
set_option maxRecDepth 20000 in
theorem ct_X6_hold (l : Launch) (d : Dt) (a : Nat → Nat) (u : UM) (p1 : Int32) (p2 : Int32) (z : Int32 × UM) (h : f_X6_hold u p1 p2 = some z) : CtW l d yX6_hold cX6_hold 3 (some .int) (rmF 6 178) [.ref (a 0), .int p1, .int p2] (WM d a u) (WM d a z.2) (some (.int z.1)) :=
  CtW.start (by decide) (Nat.le_of_ble_eq_true rfl) (by simp [Value.category]) [some (.ref (a 0)), some (.int p1), some (.int p2)] rfl (fun x A C hr hlk => V_eqv (fun _ => h) (v_X6_hold C hr hlk z u p1 p2))

/-! MastRobots.request -/
def f_X6_request (u : UM) (p1 : Int32) (p2 : Int32) : Option (Int32 × UM) :=
  ((f_X6_freshTrial u).bind fun r2 => ((f_X2_addRequest r2.2.1 p1 p2).bind fun r7 => ((f_X6_keep (r2.1, r7.2, r2.2.2.1, r2.2.2.2) r7.1).bind fun r10 => some (r10.1, r10.2))))
set_option maxRecDepth 20000 in
theorem v_X6_request {x : Am} {d : Dt} {A : Nat → Prop} {a : Nat → Nat} (C : Cx x cX6_request 3 yX6_request.cls d (Imu d A x.s.heap)) (hr : x.meth.sig.returnType = (some .int)) (hlk : x.meth.locks = false) (z : Int32 × UM) (u : UM) (p1 : Int32) (p2 : Int32) : V x (rmF 6 178) 0 0 (MQ x.below (QW d A (WM d a z.2) (some (.int z.1))) x.args x.s 0 0 A) 3 (Imu d A x.s.heap) (f_X6_request u p1 p2 = some z) 0 (WM d a u) [some (.ref (a 0)), some (.int p1), some (.int p2)] [] := by
  unfold f_X6_request
  refine V_aload_n C 0 dX6_request_0 rfl rfl ?_
  refine V_aload_n C 0 dX6_request_1 rfl rfl ?_
  refine V_callWv (As := []) (rest := [.ref (a 0)]) (wc := WM d a u) (Wd := fun w => WM d a w) C (fun r h => ct_X6_freshTrial _ d a u r h) kv_X6_freshTrial kl_X6_33 [0, 1, 2, 3, 4, 5, 6, 7, 8, 9, 10, 11, 12, 13, 14, 15, 16, 17, 18, 19, 20, 21, 22, 23, 24, 25, 26, 27, 28, 29, 30, 31, 32, 33, 34, 35, 36, 37, 38, 39, 40, 41, 42, 43, 44, 45, 46, 47, 48, 49, 50, 51, 52, 53, 54, 55, 56, 57, 58, 59, 60, 61, 62, 63, 64, 65, 66, 67, 68, 69, 70, 71, 72, 73, 74, 75, 76] (fun w => WM d a w) dX6_request_2 (emb_M_M_w d _ _) rfl (fun _ => fst_M d _ _ _) (fun _ => put_M_M_w d _ _ _) rfl rfl rfl (Nat.le_of_ble_eq_true rfl) ⟨(Nat.le_of_ble_eq_true rfl), (Nat.le_of_ble_eq_true rfl)⟩ rfl rfl ⟨Nat.le_refl _, Nat.le_refl _⟩ rfl (fun r2 hr2 => ?_)
  refine V_iload_n C 1 dX6_request_5 rfl rfl ?_
  refine V_iload_n C 2 dX6_request_6 rfl rfl ?_
  refine V_callWi (As := [.int p1, .int p2]) (rest := [.ref (a 0)]) (wc := WL d (fun i => a (i + 13)) r2.2.1) (Wd := fun w => WL d (fun i => a (i + 13)) w) C (fun r h => ct_X2_addRequest _ d (fun i => a (i + 13)) r2.2.1 p1 p2 r h) kv_X2_addRequest kl_X6_71 [13, 14, 15, 16, 17, 18, 19, 20, 21, 22, 23, 24] (fun w => WM d a (r2.1, w, r2.2.2.1, r2.2.2.2)) dX6_request_7 (emb_M_L_1 d _ _) rfl (fun _ => fst_L d _ _ _) (fun _ => put_M_L_1 d _ _ _) rfl rfl rfl (Nat.le_of_ble_eq_true rfl) ⟨(Nat.le_of_ble_eq_true rfl), (Nat.le_of_ble_eq_true rfl)⟩ rfl rfl ⟨Nat.le_refl _, Nat.le_refl _⟩ rfl (fun r7 hr7 => ?_)
  refine V_callWi (As := [.int r7.1]) (rest := []) (wc := WM d a (r2.1, r7.2, r2.2.2.1, r2.2.2.2)) (Wd := fun w => WM d a w) C (fun r h => ct_X6_keep _ d a (r2.1, r7.2, r2.2.2.1, r2.2.2.2) r7.1 r h) kv_X6_keep kl_X6_41 [0, 1, 2, 3, 4, 5, 6, 7, 8, 9, 10, 11, 12, 13, 14, 15, 16, 17, 18, 19, 20, 21, 22, 23, 24, 25, 26, 27, 28, 29, 30, 31, 32, 33, 34, 35, 36, 37, 38, 39, 40, 41, 42, 43, 44, 45, 46, 47, 48, 49, 50, 51, 52, 53, 54, 55, 56, 57, 58, 59, 60, 61, 62, 63, 64, 65, 66, 67, 68, 69, 70, 71, 72, 73, 74, 75, 76] (fun w => WM d a w) dX6_request_10 (emb_M_M_w d _ _) rfl (fun _ => fst_M d _ _ _) (fun _ => put_M_M_w d _ _ _) rfl rfl rfl (Nat.le_of_ble_eq_true rfl) ⟨(Nat.le_of_ble_eq_true rfl), (Nat.le_of_ble_eq_true rfl)⟩ rfl rfl ⟨Nat.le_refl _, Nat.le_refl _⟩ rfl (fun r10 hr10 => ?_)
  exact V_iretW (Wd := fun w => WM d a w) C hr hlk dX6_request_13 rfl
set_option maxRecDepth 20000 in
theorem ct_X6_request (l : Launch) (d : Dt) (a : Nat → Nat) (u : UM) (p1 : Int32) (p2 : Int32) (z : Int32 × UM) (h : f_X6_request u p1 p2 = some z) : CtW l d yX6_request cX6_request 3 (some .int) (rmF 6 178) [.ref (a 0), .int p1, .int p2] (WM d a u) (WM d a z.2) (some (.int z.1)) :=
  CtW.start (by decide) (Nat.le_of_ble_eq_true rfl) (by simp [Value.category]) [some (.ref (a 0)), some (.int p1), some (.int p2)] rfl (fun x A C hr hlk => V_eqv (fun _ => h) (v_X6_request C hr hlk z u p1 p2))

/-! MastRobots.serve -/
def f_X6_serve (u : UM) (p1 : Int32) : Option (Int32 × UM) :=
  ((f_X6_freshTrial u).bind fun r2 => ((f_X2_serveBy r2.2.1 p1).bind fun r6 => ((f_X6_keep (r2.1, r6.2, r2.2.2.1, r2.2.2.2) r6.1).bind fun r9 => some (r9.1, r9.2))))
set_option maxRecDepth 20000 in
theorem v_X6_serve {x : Am} {d : Dt} {A : Nat → Prop} {a : Nat → Nat} (C : Cx x cX6_serve 2 yX6_serve.cls d (Imu d A x.s.heap)) (hr : x.meth.sig.returnType = (some .int)) (hlk : x.meth.locks = false) (z : Int32 × UM) (u : UM) (p1 : Int32) : V x (rmF 6 178) 0 0 (MQ x.below (QW d A (WM d a z.2) (some (.int z.1))) x.args x.s 0 0 A) 2 (Imu d A x.s.heap) (f_X6_serve u p1 = some z) 0 (WM d a u) [some (.ref (a 0)), some (.int p1)] [] := by
  unfold f_X6_serve
  refine V_aload_n C 0 dX6_serve_0 rfl rfl ?_
  refine V_aload_n C 0 dX6_serve_1 rfl rfl ?_
  refine V_callWv (As := []) (rest := [.ref (a 0)]) (wc := WM d a u) (Wd := fun w => WM d a w) C (fun r h => ct_X6_freshTrial _ d a u r h) kv_X6_freshTrial kl_X6_33 [0, 1, 2, 3, 4, 5, 6, 7, 8, 9, 10, 11, 12, 13, 14, 15, 16, 17, 18, 19, 20, 21, 22, 23, 24, 25, 26, 27, 28, 29, 30, 31, 32, 33, 34, 35, 36, 37, 38, 39, 40, 41, 42, 43, 44, 45, 46, 47, 48, 49, 50, 51, 52, 53, 54, 55, 56, 57, 58, 59, 60, 61, 62, 63, 64, 65, 66, 67, 68, 69, 70, 71, 72, 73, 74, 75, 76] (fun w => WM d a w) dX6_serve_2 (emb_M_M_w d _ _) rfl (fun _ => fst_M d _ _ _) (fun _ => put_M_M_w d _ _ _) rfl rfl rfl (Nat.le_of_ble_eq_true rfl) ⟨(Nat.le_of_ble_eq_true rfl), (Nat.le_of_ble_eq_true rfl)⟩ rfl rfl ⟨Nat.le_refl _, Nat.le_refl _⟩ rfl (fun r2 hr2 => ?_)
  refine V_iload_n C 1 dX6_serve_5 rfl rfl ?_
  refine V_callWi (As := [.int p1]) (rest := [.ref (a 0)]) (wc := WL d (fun i => a (i + 13)) r2.2.1) (Wd := fun w => WL d (fun i => a (i + 13)) w) C (fun r h => ct_X2_serveBy _ d (fun i => a (i + 13)) r2.2.1 p1 r h) kv_X2_serveBy kl_X6_74 [13, 14, 15, 16, 17, 18, 19, 20, 21, 22, 23, 24] (fun w => WM d a (r2.1, w, r2.2.2.1, r2.2.2.2)) dX6_serve_6 (emb_M_L_1 d _ _) rfl (fun _ => fst_L d _ _ _) (fun _ => put_M_L_1 d _ _ _) rfl rfl rfl (Nat.le_of_ble_eq_true rfl) ⟨(Nat.le_of_ble_eq_true rfl), (Nat.le_of_ble_eq_true rfl)⟩ rfl rfl ⟨Nat.le_refl _, Nat.le_refl _⟩ rfl (fun r6 hr6 => ?_)
  refine V_callWi (As := [.int r6.1]) (rest := []) (wc := WM d a (r2.1, r6.2, r2.2.2.1, r2.2.2.2)) (Wd := fun w => WM d a w) C (fun r h => ct_X6_keep _ d a (r2.1, r6.2, r2.2.2.1, r2.2.2.2) r6.1 r h) kv_X6_keep kl_X6_41 [0, 1, 2, 3, 4, 5, 6, 7, 8, 9, 10, 11, 12, 13, 14, 15, 16, 17, 18, 19, 20, 21, 22, 23, 24, 25, 26, 27, 28, 29, 30, 31, 32, 33, 34, 35, 36, 37, 38, 39, 40, 41, 42, 43, 44, 45, 46, 47, 48, 49, 50, 51, 52, 53, 54, 55, 56, 57, 58, 59, 60, 61, 62, 63, 64, 65, 66, 67, 68, 69, 70, 71, 72, 73, 74, 75, 76] (fun w => WM d a w) dX6_serve_9 (emb_M_M_w d _ _) rfl (fun _ => fst_M d _ _ _) (fun _ => put_M_M_w d _ _ _) rfl rfl rfl (Nat.le_of_ble_eq_true rfl) ⟨(Nat.le_of_ble_eq_true rfl), (Nat.le_of_ble_eq_true rfl)⟩ rfl rfl ⟨Nat.le_refl _, Nat.le_refl _⟩ rfl (fun r9 hr9 => ?_)
  exact V_iretW (Wd := fun w => WM d a w) C hr hlk dX6_serve_12 rfl
set_option maxRecDepth 20000 in
theorem ct_X6_serve (l : Launch) (d : Dt) (a : Nat → Nat) (u : UM) (p1 : Int32) (z : Int32 × UM) (h : f_X6_serve u p1 = some z) : CtW l d yX6_serve cX6_serve 2 (some .int) (rmF 6 178) [.ref (a 0), .int p1] (WM d a u) (WM d a z.2) (some (.int z.1)) :=
  CtW.start (by decide) (Nat.le_of_ble_eq_true rfl) (by simp [Value.category]) [some (.ref (a 0)), some (.int p1)] rfl (fun x A C hr hlk => V_eqv (fun _ => h) (v_X6_serve C hr hlk z u p1))

/-! MastRobots.cartridgeOf -/
def f_X6_cartridgeOf (u : UM) (p1 : Int32) (p2 : Int32) : Option (Int32) :=
  ((f_X0_has u.1.1 p1).bind fun r8 => (if r8 = 0 then some (-1000001) else (if p2 = 0 then ((f_X0_weightOf u.1.1 p1).bind fun r68 => some r68) else (if p2 = 1 then ((f_X0_wearOf u.1.1 p1).bind fun r80 => some r80) else (if p2 = 2 then ((f_X0_kindOfPlaceOf u.1.1 p1).bind fun r92 => some r92) else (if p2 = 3 then ((f_X0_placeOf u.1.1 p1).bind fun r104 => some r104) else (if p2 = 4 then ((f_X0_filesHeldBy u.1.1 p1).bind fun r116 => some r116) else (if p2 = 5 then ((f_X2_waitingFor u.1 p1).bind fun r125 => some r125) else (if p2 = 6 then ((f_X0_servedBy u.1.1 p1).bind fun r137 => some r137) else some (-1000001))))))))))
set_option maxRecDepth 20000 in
theorem v_X6_cartridgeOf {x : Am} {d : Dt} {a : Nat → Nat} (C : Cx x cX6_cartridgeOf 3 yX6_cartridgeOf.cls d (Iro d x.s.heap)) (hr : x.meth.sig.returnType = (some .int)) (hlk : x.meth.locks = false) (z : Int32) (u : UM) (p1 : Int32) (p2 : Int32) : V x (rmF 3 64) 0 0 (MQ x.below (QR (some (.int z))) x.args x.s 0 0 (fun _ => False)) 3 (Iro d x.s.heap) (f_X6_cartridgeOf u p1 p2 = some z) 0 (WM d a u) [some (.ref (a 0)), some (.int p1), some (.int p2)] [] := by
  unfold f_X6_cartridgeOf
  refine V_aload_n C 0 dX6_cartridgeOf_0 rfl rfl ?_
  refine V_get (v := .ref (a 1)) C fx6 0 0 kf_X6_12 (by decide) rfl rfl dX6_cartridgeOf_1 ?_
  refine V_get (v := .ref (a 2)) C fx2 1 0 kf_X6_77 (by decide) rfl rfl dX6_cartridgeOf_4 ?_
  refine V_iload_n C 1 dX6_cartridgeOf_7 rfl rfl ?_
  refine V_callRi (As := [.int p1]) (rest := []) (wc := WC d (fun i => a (i + 2)) u.1.1) C (fun r h => ct_X0_has _ d (fun i => a (i + 2)) u.1.1 p1 r h) kv_X0_has kl_X6_81 [2, 3, 4, 5, 6, 7, 8] dX6_cartridgeOf_8 (emb_M_C_00 d _ _) rfl rfl rfl (Nat.le_of_ble_eq_true rfl) ⟨(Nat.le_of_ble_eq_true rfl), (Nat.le_of_ble_eq_true rfl)⟩ rfl rfl ⟨Nat.le_refl _, Nat.le_refl _⟩ rfl (fun r8 hr8 => ?_)
  refine V_if_ne (tgt := 17) C dX6_cartridgeOf_11 (by decide) ?_ ?_
  · refine V_iload_n C 2 dX6_cartridgeOf_17 rfl rfl ?_
    refine V_case (fun c0 => ?_) (fun c0 => ?_)
    · refine V_tsIn (tgt := 60) C c0 dX6_cartridgeOf_18 (by decide) (by decide) rfl (by decide) ?_
      refine V_aload_n C 0 dX6_cartridgeOf_60 rfl rfl ?_
      refine V_get (v := .ref (a 1)) C fx6 0 0 kf_X6_12 (by decide) rfl rfl dX6_cartridgeOf_61 ?_
      refine V_get (v := .ref (a 2)) C fx2 1 0 kf_X6_77 (by decide) rfl rfl dX6_cartridgeOf_64 ?_
      refine V_iload_n C 1 dX6_cartridgeOf_67 rfl rfl ?_
      refine V_callRi (As := [.int p1]) (rest := []) (wc := WC d (fun i => a (i + 2)) u.1.1) C (fun r h => ct_X0_weightOf _ d (fun i => a (i + 2)) u.1.1 p1 r h) kv_X0_weightOf kl_X6_88 [2, 3, 4, 5, 6, 7, 8] dX6_cartridgeOf_68 (emb_M_C_00 d _ _) rfl rfl rfl (Nat.le_of_ble_eq_true rfl) ⟨(Nat.le_of_ble_eq_true rfl), (Nat.le_of_ble_eq_true rfl)⟩ rfl rfl ⟨Nat.le_refl _, Nat.le_refl _⟩ rfl (fun r68 hr68 => ?_)
      exact V_iretR C hr hlk dX6_cartridgeOf_71
    refine V_case (fun c1 => ?_) (fun c1 => ?_)
    · refine V_tsIn (tgt := 72) C c1 dX6_cartridgeOf_18 (by decide) (by decide) rfl (by decide) ?_
      refine V_aload_n C 0 dX6_cartridgeOf_72 rfl rfl ?_
      refine V_get (v := .ref (a 1)) C fx6 0 0 kf_X6_12 (by decide) rfl rfl dX6_cartridgeOf_73 ?_
      refine V_get (v := .ref (a 2)) C fx2 1 0 kf_X6_77 (by decide) rfl rfl dX6_cartridgeOf_76 ?_
      refine V_iload_n C 1 dX6_cartridgeOf_79 rfl rfl ?_
      refine V_callRi (As := [.int p1]) (rest := []) (wc := WC d (fun i => a (i + 2)) u.1.1) C (fun r h => ct_X0_wearOf _ d (fun i => a (i + 2)) u.1.1 p1 r h) kv_X0_wearOf kl_X6_91 [2, 3, 4, 5, 6, 7, 8] dX6_cartridgeOf_80 (emb_M_C_00 d _ _) rfl rfl rfl (Nat.le_of_ble_eq_true rfl) ⟨(Nat.le_of_ble_eq_true rfl), (Nat.le_of_ble_eq_true rfl)⟩ rfl rfl ⟨Nat.le_refl _, Nat.le_refl _⟩ rfl (fun r80 hr80 => ?_)
      exact V_iretR C hr hlk dX6_cartridgeOf_83
    refine V_case (fun c2 => ?_) (fun c2 => ?_)
    · refine V_tsIn (tgt := 84) C c2 dX6_cartridgeOf_18 (by decide) (by decide) rfl (by decide) ?_
      refine V_aload_n C 0 dX6_cartridgeOf_84 rfl rfl ?_
      refine V_get (v := .ref (a 1)) C fx6 0 0 kf_X6_12 (by decide) rfl rfl dX6_cartridgeOf_85 ?_
      refine V_get (v := .ref (a 2)) C fx2 1 0 kf_X6_77 (by decide) rfl rfl dX6_cartridgeOf_88 ?_
      refine V_iload_n C 1 dX6_cartridgeOf_91 rfl rfl ?_
      refine V_callRi (As := [.int p1]) (rest := []) (wc := WC d (fun i => a (i + 2)) u.1.1) C (fun r h => ct_X0_kindOfPlaceOf _ d (fun i => a (i + 2)) u.1.1 p1 r h) kv_X0_kindOfPlaceOf kl_X6_94 [2, 3, 4, 5, 6, 7, 8] dX6_cartridgeOf_92 (emb_M_C_00 d _ _) rfl rfl rfl (Nat.le_of_ble_eq_true rfl) ⟨(Nat.le_of_ble_eq_true rfl), (Nat.le_of_ble_eq_true rfl)⟩ rfl rfl ⟨Nat.le_refl _, Nat.le_refl _⟩ rfl (fun r92 hr92 => ?_)
      exact V_iretR C hr hlk dX6_cartridgeOf_95
    refine V_case (fun c3 => ?_) (fun c3 => ?_)
    · refine V_tsIn (tgt := 96) C c3 dX6_cartridgeOf_18 (by decide) (by decide) rfl (by decide) ?_
      refine V_aload_n C 0 dX6_cartridgeOf_96 rfl rfl ?_
      refine V_get (v := .ref (a 1)) C fx6 0 0 kf_X6_12 (by decide) rfl rfl dX6_cartridgeOf_97 ?_
      refine V_get (v := .ref (a 2)) C fx2 1 0 kf_X6_77 (by decide) rfl rfl dX6_cartridgeOf_100 ?_
      refine V_iload_n C 1 dX6_cartridgeOf_103 rfl rfl ?_
      refine V_callRi (As := [.int p1]) (rest := []) (wc := WC d (fun i => a (i + 2)) u.1.1) C (fun r h => ct_X0_placeOf _ d (fun i => a (i + 2)) u.1.1 p1 r h) kv_X0_placeOf kl_X6_97 [2, 3, 4, 5, 6, 7, 8] dX6_cartridgeOf_104 (emb_M_C_00 d _ _) rfl rfl rfl (Nat.le_of_ble_eq_true rfl) ⟨(Nat.le_of_ble_eq_true rfl), (Nat.le_of_ble_eq_true rfl)⟩ rfl rfl ⟨Nat.le_refl _, Nat.le_refl _⟩ rfl (fun r104 hr104 => ?_)
      exact V_iretR C hr hlk dX6_cartridgeOf_107
    refine V_case (fun c4 => ?_) (fun c4 => ?_)
    · refine V_tsIn (tgt := 108) C c4 dX6_cartridgeOf_18 (by decide) (by decide) rfl (by decide) ?_
      refine V_aload_n C 0 dX6_cartridgeOf_108 rfl rfl ?_
      refine V_get (v := .ref (a 1)) C fx6 0 0 kf_X6_12 (by decide) rfl rfl dX6_cartridgeOf_109 ?_
      refine V_get (v := .ref (a 2)) C fx2 1 0 kf_X6_77 (by decide) rfl rfl dX6_cartridgeOf_112 ?_
      refine V_iload_n C 1 dX6_cartridgeOf_115 rfl rfl ?_
      refine V_callRi (As := [.int p1]) (rest := []) (wc := WC d (fun i => a (i + 2)) u.1.1) C (fun r h => ct_X0_filesHeldBy _ d (fun i => a (i + 2)) u.1.1 p1 r h) kv_X0_filesHeldBy kl_X6_100 [2, 3, 4, 5, 6, 7, 8] dX6_cartridgeOf_116 (emb_M_C_00 d _ _) rfl rfl rfl (Nat.le_of_ble_eq_true rfl) ⟨(Nat.le_of_ble_eq_true rfl), (Nat.le_of_ble_eq_true rfl)⟩ rfl rfl ⟨Nat.le_refl _, Nat.le_refl _⟩ rfl (fun r116 hr116 => ?_)
      exact V_iretR C hr hlk dX6_cartridgeOf_119
    refine V_case (fun c5 => ?_) (fun c5 => ?_)
    · refine V_tsIn (tgt := 120) C c5 dX6_cartridgeOf_18 (by decide) (by decide) rfl (by decide) ?_
      refine V_aload_n C 0 dX6_cartridgeOf_120 rfl rfl ?_
      refine V_get (v := .ref (a 1)) C fx6 0 0 kf_X6_12 (by decide) rfl rfl dX6_cartridgeOf_121 ?_
      refine V_iload_n C 1 dX6_cartridgeOf_124 rfl rfl ?_
      refine V_callRi (As := [.int p1]) (rest := []) (wc := WL d (fun i => a (i + 1)) u.1) C (fun r h => ct_X2_waitingFor _ d (fun i => a (i + 1)) u.1 p1 r h) kv_X2_waitingFor kl_X6_103 [1, 2, 3, 4, 5, 6, 7, 8, 9, 10, 11, 12] dX6_cartridgeOf_125 (emb_M_L_0 d _ _) rfl rfl rfl (Nat.le_of_ble_eq_true rfl) ⟨(Nat.le_of_ble_eq_true rfl), (Nat.le_of_ble_eq_true rfl)⟩ rfl rfl ⟨Nat.le_refl _, Nat.le_refl _⟩ rfl (fun r125 hr125 => ?_)
      exact V_iretR C hr hlk dX6_cartridgeOf_128
    refine V_case (fun c6 => ?_) (fun c6 => ?_)
    · refine V_tsIn (tgt := 129) C c6 dX6_cartridgeOf_18 (by decide) (by decide) rfl (by decide) ?_
      refine V_aload_n C 0 dX6_cartridgeOf_129 rfl rfl ?_
      refine V_get (v := .ref (a 1)) C fx6 0 0 kf_X6_12 (by decide) rfl rfl dX6_cartridgeOf_130 ?_
      refine V_get (v := .ref (a 2)) C fx2 1 0 kf_X6_77 (by decide) rfl rfl dX6_cartridgeOf_133 ?_
      refine V_iload_n C 1 dX6_cartridgeOf_136 rfl rfl ?_
      refine V_callRi (As := [.int p1]) (rest := []) (wc := WC d (fun i => a (i + 2)) u.1.1) C (fun r h => ct_X0_servedBy _ d (fun i => a (i + 2)) u.1.1 p1 r h) kv_X0_servedBy kl_X6_106 [2, 3, 4, 5, 6, 7, 8] dX6_cartridgeOf_137 (emb_M_C_00 d _ _) rfl rfl rfl (Nat.le_of_ble_eq_true rfl) ⟨(Nat.le_of_ble_eq_true rfl), (Nat.le_of_ble_eq_true rfl)⟩ rfl rfl ⟨Nat.le_refl _, Nat.le_refl _⟩ rfl (fun r137 hr137 => ?_)
      exact V_iretR C hr hlk dX6_cartridgeOf_140
    have i0 := neInt c0 (k := 0) (by decide)
    have i1 := neInt c1 (k := 1) (by decide)
    have i2 := neInt c2 (k := 2) (by decide)
    have i3 := neInt c3 (k := 3) (by decide)
    have i4 := neInt c4 (k := 4) (by decide)
    have i5 := neInt c5 (k := 5) (by decide)
    have i6 := neInt c6 (k := 6) (by decide)
    refine V_tsOut (tgt := 141) C dX6_cartridgeOf_18 (by omega) (by decide) ?_
    refine V_ldc C kc_X6_87 dX6_cartridgeOf_141 ?_
    exact V_iretR C hr hlk dX6_cartridgeOf_143
  · refine V_ldc C kc_X6_87 dX6_cartridgeOf_14 ?_
    exact V_iretR C hr hlk dX6_cartridgeOf_16
set_option maxRecDepth 20000 in
theorem ct_X6_cartridgeOf (l : Launch) (d : Dt) (a : Nat → Nat) (u : UM) (p1 : Int32) (p2 : Int32) (z : Int32) (h : f_X6_cartridgeOf u p1 p2 = some z) : CtR l d yX6_cartridgeOf cX6_cartridgeOf 3 (some .int) (rmF 3 64) [.ref (a 0), .int p1, .int p2] (WM d a u) (some (.int z)) :=
  CtR.start (by decide) (Nat.le_of_ble_eq_true rfl) (by simp [Value.category]) [some (.ref (a 0)), some (.int p1), some (.int p2)] rfl (fun x C hr hlk => V_eqv (fun _ => h) (v_X6_cartridgeOf C hr hlk z u p1 p2))

/-! MastRobots.shelfOf -/
def f_X6_shelfOf (u : UM) (p1 : Int32) (p2 : Int32) : Option (Int32) :=
  ((f_X6_isShelf p1 p2).bind fun r2 => (if r2 = 0 then some (-1000001) else ((f_X6_shelfSlot p1 p2).bind fun r20 => ((f_X0_inSlot u.1.1 r20).bind fun r23 => ((f_X6_found r23).bind fun r26 => some r26)))))
set_option maxRecDepth 20000 in
theorem v_X6_shelfOf {x : Am} {d : Dt} {a : Nat → Nat} (C : Cx x cX6_shelfOf 3 yX6_shelfOf.cls d (Iro d x.s.heap)) (hr : x.meth.sig.returnType = (some .int)) (hlk : x.meth.locks = false) (z : Int32) (u : UM) (p1 : Int32) (p2 : Int32) : V x (rmF 2 43) 0 0 (MQ x.below (QR (some (.int z))) x.args x.s 0 0 (fun _ => False)) 3 (Iro d x.s.heap) (f_X6_shelfOf u p1 p2 = some z) 0 (WM d a u) [some (.ref (a 0)), some (.int p1), some (.int p2)] [] := by
  unfold f_X6_shelfOf
  refine V_iload_n C 1 dX6_shelfOf_0 rfl rfl ?_
  refine V_iload_n C 2 dX6_shelfOf_1 rfl rfl ?_
  refine V_callSi (As := [.int p1, .int p2]) (rest := []) (wc := []) C (fun r h => ct_X6_isShelf _ d p1 p2 r h) ks_X6_isShelf kl_X6_109 [] dX6_shelfOf_2 rfl rfl (Nat.le_of_ble_eq_true rfl) ⟨(Nat.le_of_ble_eq_true rfl), (Nat.le_of_ble_eq_true rfl)⟩ rfl rfl ⟨Nat.le_refl _, Nat.le_refl _⟩ rfl (fun r2 hr2 => ?_)
  refine V_if_ne (tgt := 11) C dX6_shelfOf_5 (by decide) ?_ ?_
  · refine V_aload_n C 0 dX6_shelfOf_11 rfl rfl ?_
    refine V_get (v := .ref (a 1)) C fx6 0 0 kf_X6_12 (by decide) rfl rfl dX6_shelfOf_12 ?_
    refine V_get (v := .ref (a 2)) C fx2 1 0 kf_X6_77 (by decide) rfl rfl dX6_shelfOf_15 ?_
    refine V_iload_n C 1 dX6_shelfOf_18 rfl rfl ?_
    refine V_iload_n C 2 dX6_shelfOf_19 rfl rfl ?_
    refine V_callSi (As := [.int p1, .int p2]) (rest := [.ref (a 2)]) (wc := []) C (fun r h => ct_X6_shelfSlot _ d p1 p2 r h) ks_X6_shelfSlot kl_X6_113 [] dX6_shelfOf_20 rfl rfl (Nat.le_of_ble_eq_true rfl) ⟨(Nat.le_of_ble_eq_true rfl), (Nat.le_of_ble_eq_true rfl)⟩ rfl rfl ⟨Nat.le_refl _, Nat.le_refl _⟩ rfl (fun r20 hr20 => ?_)
    refine V_callRi (As := [.int r20]) (rest := []) (wc := WC d (fun i => a (i + 2)) u.1.1) C (fun r h => ct_X0_inSlot _ d (fun i => a (i + 2)) u.1.1 r20 r h) kv_X0_inSlot kl_X6_116 [2, 3, 4, 5, 6, 7, 8] dX6_shelfOf_23 (emb_M_C_00 d _ _) rfl rfl rfl (Nat.le_of_ble_eq_true rfl) ⟨(Nat.le_of_ble_eq_true rfl), (Nat.le_of_ble_eq_true rfl)⟩ rfl rfl ⟨Nat.le_refl _, Nat.le_refl _⟩ rfl (fun r23 hr23 => ?_)
    refine V_callSi (As := [.int r23]) (rest := []) (wc := []) C (fun r h => ct_X6_found _ d r23 r h) ks_X6_found kl_X6_119 [] dX6_shelfOf_26 rfl rfl (Nat.le_of_ble_eq_true rfl) ⟨(Nat.le_of_ble_eq_true rfl), (Nat.le_of_ble_eq_true rfl)⟩ rfl rfl ⟨Nat.le_refl _, Nat.le_refl _⟩ rfl (fun r26 hr26 => ?_)
    exact V_iretR C hr hlk dX6_shelfOf_29
  · refine V_ldc C kc_X6_87 dX6_shelfOf_8 ?_
    exact V_iretR C hr hlk dX6_shelfOf_10
set_option maxRecDepth 20000 in
theorem ct_X6_shelfOf (l : Launch) (d : Dt) (a : Nat → Nat) (u : UM) (p1 : Int32) (p2 : Int32) (z : Int32) (h : f_X6_shelfOf u p1 p2 = some z) : CtR l d yX6_shelfOf cX6_shelfOf 3 (some .int) (rmF 2 43) [.ref (a 0), .int p1, .int p2] (WM d a u) (some (.int z)) :=
  CtR.start (by decide) (Nat.le_of_ble_eq_true rfl) (by simp [Value.category]) [some (.ref (a 0)), some (.int p1), some (.int p2)] rfl (fun x C hr hlk => V_eqv (fun _ => h) (v_X6_shelfOf C hr hlk z u p1 p2))

/-! MastRobots.holder -/
def f_X6_holder (u : UM) (p1 : Int32) : Option (Int32) :=
  ((f_X6_isIn p1 0 59).bind fun r4 => (if r4 = 0 then some (-1000001) else ((f_X0_holderOf u.1.1 p1).bind fun r21 => ((f_X6_found r21).bind fun r24 => some r24))))
set_option maxRecDepth 20000 in
theorem v_X6_holder {x : Am} {d : Dt} {a : Nat → Nat} (C : Cx x cX6_holder 2 yX6_holder.cls d (Iro d x.s.heap)) (hr : x.meth.sig.returnType = (some .int)) (hlk : x.meth.locks = false) (z : Int32) (u : UM) (p1 : Int32) : V x (rmF 1 22) 0 0 (MQ x.below (QR (some (.int z))) x.args x.s 0 0 (fun _ => False)) 2 (Iro d x.s.heap) (f_X6_holder u p1 = some z) 0 (WM d a u) [some (.ref (a 0)), some (.int p1)] [] := by
  unfold f_X6_holder
  refine V_iload_n C 1 dX6_holder_0 rfl rfl ?_
  refine V_iconst (v := 0) C dX6_holder_1 (by decide) ?_
  refine V_bipush (v := 59) C dX6_holder_2 (by decide) ?_
  refine V_callSi (As := [.int p1, .int 0, .int 59]) (rest := []) (wc := []) C (fun r h => ct_X6_isIn _ d p1 0 59 r h) ks_X6_isIn kl_X6_122 [] dX6_holder_4 rfl rfl (Nat.le_of_ble_eq_true rfl) ⟨(Nat.le_of_ble_eq_true rfl), (Nat.le_of_ble_eq_true rfl)⟩ rfl rfl ⟨Nat.le_refl _, Nat.le_refl _⟩ rfl (fun r4 hr4 => ?_)
  refine V_if_ne (tgt := 13) C dX6_holder_7 (by decide) ?_ ?_
  · refine V_aload_n C 0 dX6_holder_13 rfl rfl ?_
    refine V_get (v := .ref (a 1)) C fx6 0 0 kf_X6_12 (by decide) rfl rfl dX6_holder_14 ?_
    refine V_get (v := .ref (a 2)) C fx2 1 0 kf_X6_77 (by decide) rfl rfl dX6_holder_17 ?_
    refine V_iload_n C 1 dX6_holder_20 rfl rfl ?_
    refine V_callRi (As := [.int p1]) (rest := []) (wc := WC d (fun i => a (i + 2)) u.1.1) C (fun r h => ct_X0_holderOf _ d (fun i => a (i + 2)) u.1.1 p1 r h) kv_X0_holderOf kl_X6_126 [2, 3, 4, 5, 6, 7, 8] dX6_holder_21 (emb_M_C_00 d _ _) rfl rfl rfl (Nat.le_of_ble_eq_true rfl) ⟨(Nat.le_of_ble_eq_true rfl), (Nat.le_of_ble_eq_true rfl)⟩ rfl rfl ⟨Nat.le_refl _, Nat.le_refl _⟩ rfl (fun r21 hr21 => ?_)
    refine V_callSi (As := [.int r21]) (rest := []) (wc := []) C (fun r h => ct_X6_found _ d r21 r h) ks_X6_found kl_X6_119 [] dX6_holder_24 rfl rfl (Nat.le_of_ble_eq_true rfl) ⟨(Nat.le_of_ble_eq_true rfl), (Nat.le_of_ble_eq_true rfl)⟩ rfl rfl ⟨Nat.le_refl _, Nat.le_refl _⟩ rfl (fun r24 hr24 => ?_)
    exact V_iretR C hr hlk dX6_holder_27
  · refine V_ldc C kc_X6_87 dX6_holder_10 ?_
    exact V_iretR C hr hlk dX6_holder_12
set_option maxRecDepth 20000 in
theorem ct_X6_holder (l : Launch) (d : Dt) (a : Nat → Nat) (u : UM) (p1 : Int32) (z : Int32) (h : f_X6_holder u p1 = some z) : CtR l d yX6_holder cX6_holder 2 (some .int) (rmF 1 22) [.ref (a 0), .int p1] (WM d a u) (some (.int z)) :=
  CtR.start (by decide) (Nat.le_of_ble_eq_true rfl) (by simp [Value.category]) [some (.ref (a 0)), some (.int p1)] rfl (fun x C hr hlk => V_eqv (fun _ => h) (v_X6_holder C hr hlk z u p1))

/-! MastRobots.requestOf -/
def f_X6_requestOf (u : UM) (p1 : Int32) (p2 : Int32) : Option (Int32) :=
  (if p1 < 0 then some (-1000001) else ((f_X6_isIn p2 0 2).bind fun r7 => (if r7 = 0 then some (-1000001) else (if p1 < u.1.2.1.2.2.2 then (if p2 = 0 then ((f_X4_fileOf u.1.2.1 p1).bind fun r68 => some r68) else (if p2 = 1 then ((f_X4_rankOf u.1.2.1 p1).bind fun r80 => some r80) else ((f_X4_tickOf u.1.2.1 p1).bind fun r92 => some r92))) else some (-1000004)))))
set_option maxRecDepth 20000 in
theorem v_X6_requestOf {x : Am} {d : Dt} {a : Nat → Nat} (C : Cx x cX6_requestOf 3 yX6_requestOf.cls d (Iro d x.s.heap)) (hr : x.meth.sig.returnType = (some .int)) (hlk : x.meth.locks = false) (z : Int32) (u : UM) (p1 : Int32) (p2 : Int32) : V x (rmF 1 22) 0 0 (MQ x.below (QR (some (.int z))) x.args x.s 0 0 (fun _ => False)) 3 (Iro d x.s.heap) (f_X6_requestOf u p1 p2 = some z) 0 (WM d a u) [some (.ref (a 0)), some (.int p1), some (.int p2)] [] := by
  unfold f_X6_requestOf
  refine V_iload_n C 1 dX6_requestOf_0 rfl rfl ?_
  refine V_if_lt (tgt := 13) C dX6_requestOf_1 (by decide) ?_ ?_
  · refine V_ldc C kc_X6_87 dX6_requestOf_13 ?_
    exact V_iretR C hr hlk dX6_requestOf_15
  · refine V_iload_n C 2 dX6_requestOf_4 rfl rfl ?_
    refine V_iconst (v := 0) C dX6_requestOf_5 (by decide) ?_
    refine V_iconst (v := 2) C dX6_requestOf_6 (by decide) ?_
    refine V_callSi (As := [.int p2, .int 0, .int 2]) (rest := []) (wc := []) C (fun r h => ct_X6_isIn _ d p2 0 2 r h) ks_X6_isIn kl_X6_122 [] dX6_requestOf_7 rfl rfl (Nat.le_of_ble_eq_true rfl) ⟨(Nat.le_of_ble_eq_true rfl), (Nat.le_of_ble_eq_true rfl)⟩ rfl rfl ⟨Nat.le_refl _, Nat.le_refl _⟩ rfl (fun r7 hr7 => ?_)
    refine V_if_ne (tgt := 16) C dX6_requestOf_10 (by decide) ?_ ?_
    · refine V_iload_n C 1 dX6_requestOf_16 rfl rfl ?_
      refine V_aload_n C 0 dX6_requestOf_17 rfl rfl ?_
      refine V_get (v := .ref (a 1)) C fx6 0 0 kf_X6_12 (by decide) rfl rfl dX6_requestOf_18 ?_
      refine V_get (v := .ref (a 9)) C fx2 1 1 kf_X6_129 (by decide) rfl rfl dX6_requestOf_21 ?_
      refine V_get (v := .int u.1.2.1.2.2.2) C fx4 9 3 kf_X6_133 (by decide) rfl rfl dX6_requestOf_24 ?_
      refine V_icmp_lt (tgt := 33) C dX6_requestOf_27 (by decide) ?_ ?_
      · refine V_iload_n C 2 dX6_requestOf_33 rfl rfl ?_
        refine V_case (fun c0 => ?_) (fun c0 => ?_)
        · refine V_lkIn (tgt := 60) C c0 dX6_requestOf_34 rfl rfl (by decide) ?_
          refine V_aload_n C 0 dX6_requestOf_60 rfl rfl ?_
          refine V_get (v := .ref (a 1)) C fx6 0 0 kf_X6_12 (by decide) rfl rfl dX6_requestOf_61 ?_
          refine V_get (v := .ref (a 9)) C fx2 1 1 kf_X6_129 (by decide) rfl rfl dX6_requestOf_64 ?_
          refine V_iload_n C 1 dX6_requestOf_67 rfl rfl ?_
          refine V_callRi (As := [.int p1]) (rest := []) (wc := WR d (fun i => a (i + 9)) u.1.2.1) C (fun r h => ct_X4_fileOf _ d (fun i => a (i + 9)) u.1.2.1 p1 r h) kv_X4_fileOf kl_X6_140 [9, 10, 11, 12] dX6_requestOf_68 (emb_M_R_01 d _ _) rfl rfl rfl (Nat.le_of_ble_eq_true rfl) ⟨(Nat.le_of_ble_eq_true rfl), (Nat.le_of_ble_eq_true rfl)⟩ rfl rfl ⟨Nat.le_refl _, Nat.le_refl _⟩ rfl (fun r68 hr68 => ?_)
          exact V_iretR C hr hlk dX6_requestOf_71
        refine V_case (fun c1 => ?_) (fun c1 => ?_)
        · refine V_lkIn (tgt := 72) C c1 dX6_requestOf_34 rfl rfl (by decide) ?_
          refine V_aload_n C 0 dX6_requestOf_72 rfl rfl ?_
          refine V_get (v := .ref (a 1)) C fx6 0 0 kf_X6_12 (by decide) rfl rfl dX6_requestOf_73 ?_
          refine V_get (v := .ref (a 9)) C fx2 1 1 kf_X6_129 (by decide) rfl rfl dX6_requestOf_76 ?_
          refine V_iload_n C 1 dX6_requestOf_79 rfl rfl ?_
          refine V_callRi (As := [.int p1]) (rest := []) (wc := WR d (fun i => a (i + 9)) u.1.2.1) C (fun r h => ct_X4_rankOf _ d (fun i => a (i + 9)) u.1.2.1 p1 r h) kv_X4_rankOf kl_X6_143 [9, 10, 11, 12] dX6_requestOf_80 (emb_M_R_01 d _ _) rfl rfl rfl (Nat.le_of_ble_eq_true rfl) ⟨(Nat.le_of_ble_eq_true rfl), (Nat.le_of_ble_eq_true rfl)⟩ rfl rfl ⟨Nat.le_refl _, Nat.le_refl _⟩ rfl (fun r80 hr80 => ?_)
          exact V_iretR C hr hlk dX6_requestOf_83
        refine V_lkOut (tgt := 84) C dX6_requestOf_34 rfl (lk2 (neInt c0 rfl) (neInt c1 rfl)) (by decide) ?_
        refine V_aload_n C 0 dX6_requestOf_84 rfl rfl ?_
        refine V_get (v := .ref (a 1)) C fx6 0 0 kf_X6_12 (by decide) rfl rfl dX6_requestOf_85 ?_
        refine V_get (v := .ref (a 9)) C fx2 1 1 kf_X6_129 (by decide) rfl rfl dX6_requestOf_88 ?_
        refine V_iload_n C 1 dX6_requestOf_91 rfl rfl ?_
        refine V_callRi (As := [.int p1]) (rest := []) (wc := WR d (fun i => a (i + 9)) u.1.2.1) C (fun r h => ct_X4_tickOf _ d (fun i => a (i + 9)) u.1.2.1 p1 r h) kv_X4_tickOf kl_X6_146 [9, 10, 11, 12] dX6_requestOf_92 (emb_M_R_01 d _ _) rfl rfl rfl (Nat.le_of_ble_eq_true rfl) ⟨(Nat.le_of_ble_eq_true rfl), (Nat.le_of_ble_eq_true rfl)⟩ rfl rfl ⟨Nat.le_refl _, Nat.le_refl _⟩ rfl (fun r92 hr92 => ?_)
        exact V_iretR C hr hlk dX6_requestOf_95
      · refine V_ldc C kc_X6_139 dX6_requestOf_30 ?_
        exact V_iretR C hr hlk dX6_requestOf_32
    · refine V_ldc C kc_X6_87 dX6_requestOf_13 ?_
      exact V_iretR C hr hlk dX6_requestOf_15
set_option maxRecDepth 20000 in
theorem ct_X6_requestOf (l : Launch) (d : Dt) (a : Nat → Nat) (u : UM) (p1 : Int32) (p2 : Int32) (z : Int32) (h : f_X6_requestOf u p1 p2 = some z) : CtR l d yX6_requestOf cX6_requestOf 3 (some .int) (rmF 1 22) [.ref (a 0), .int p1, .int p2] (WM d a u) (some (.int z)) :=
  CtR.start (by decide) (Nat.le_of_ble_eq_true rfl) (by simp [Value.category]) [some (.ref (a 0)), some (.int p1), some (.int p2)] rfl (fun x C hr hlk => V_eqv (fun _ => h) (v_X6_requestOf C hr hlk z u p1 p2))

/-! MastRobots.nextBy -/
def f_X6_nextBy (u : UM) (p1 : Int32) : Option (Int32) :=
  ((f_X6_isRule p1).bind fun r1 => (if r1 = 0 then some (-1000001) else ((f_X2_nextRequest u.1 p1).bind fun r15 => ((f_X6_found r15).bind fun r18 => some r18))))
set_option maxRecDepth 20000 in
theorem v_X6_nextBy {x : Am} {d : Dt} {a : Nat → Nat} (C : Cx x cX6_nextBy 2 yX6_nextBy.cls d (Iro d x.s.heap)) (hr : x.meth.sig.returnType = (some .int)) (hlk : x.meth.locks = false) (z : Int32) (u : UM) (p1 : Int32) : V x (rmF 3 70) 0 0 (MQ x.below (QR (some (.int z))) x.args x.s 0 0 (fun _ => False)) 2 (Iro d x.s.heap) (f_X6_nextBy u p1 = some z) 0 (WM d a u) [some (.ref (a 0)), some (.int p1)] [] := by
  unfold f_X6_nextBy
  refine V_iload_n C 1 dX6_nextBy_0 rfl rfl ?_
  refine V_callSi (As := [.int p1]) (rest := []) (wc := []) C (fun r h => ct_X6_isRule _ d p1 r h) ks_X6_isRule kl_X6_149 [] dX6_nextBy_1 rfl rfl (Nat.le_of_ble_eq_true rfl) ⟨(Nat.le_of_ble_eq_true rfl), (Nat.le_of_ble_eq_true rfl)⟩ rfl rfl ⟨Nat.le_refl _, Nat.le_refl _⟩ rfl (fun r1 hr1 => ?_)
  refine V_if_ne (tgt := 10) C dX6_nextBy_4 (by decide) ?_ ?_
  · refine V_aload_n C 0 dX6_nextBy_10 rfl rfl ?_
    refine V_get (v := .ref (a 1)) C fx6 0 0 kf_X6_12 (by decide) rfl rfl dX6_nextBy_11 ?_
    refine V_iload_n C 1 dX6_nextBy_14 rfl rfl ?_
    refine V_callRi (As := [.int p1]) (rest := []) (wc := WL d (fun i => a (i + 1)) u.1) C (fun r h => ct_X2_nextRequest _ d (fun i => a (i + 1)) u.1 p1 r h) kv_X2_nextRequest kl_X6_152 [1, 2, 3, 4, 5, 6, 7, 8, 9, 10, 11, 12] dX6_nextBy_15 (emb_M_L_0 d _ _) rfl rfl rfl (Nat.le_of_ble_eq_true rfl) ⟨(Nat.le_of_ble_eq_true rfl), (Nat.le_of_ble_eq_true rfl)⟩ rfl rfl ⟨Nat.le_refl _, Nat.le_refl _⟩ rfl (fun r15 hr15 => ?_)
    refine V_callSi (As := [.int r15]) (rest := []) (wc := []) C (fun r h => ct_X6_found _ d r15 r h) ks_X6_found kl_X6_119 [] dX6_nextBy_18 rfl rfl (Nat.le_of_ble_eq_true rfl) ⟨(Nat.le_of_ble_eq_true rfl), (Nat.le_of_ble_eq_true rfl)⟩ rfl rfl ⟨Nat.le_refl _, Nat.le_refl _⟩ rfl (fun r18 hr18 => ?_)
    exact V_iretR C hr hlk dX6_nextBy_21
  · refine V_ldc C kc_X6_87 dX6_nextBy_7 ?_
    exact V_iretR C hr hlk dX6_nextBy_9
set_option maxRecDepth 20000 in
theorem ct_X6_nextBy (l : Launch) (d : Dt) (a : Nat → Nat) (u : UM) (p1 : Int32) (z : Int32) (h : f_X6_nextBy u p1 = some z) : CtR l d yX6_nextBy cX6_nextBy 2 (some .int) (rmF 3 70) [.ref (a 0), .int p1] (WM d a u) (some (.int z)) :=
  CtR.start (by decide) (Nat.le_of_ble_eq_true rfl) (by simp [Value.category]) [some (.ref (a 0)), some (.int p1)] rfl (fun x C hr hlk => V_eqv (fun _ => h) (v_X6_nextBy C hr hlk z u p1))

/-! MastRobots.would -/
def f_X6_would (u : UM) (p1 : Int32) (p2 : Int32) : Option (Int32 × UM) :=
  ((f_X6_isRule p1).bind fun r1 => (if r1 = 0 then some ((-1000001), u) else ((f_X6_isIn p2 0 4).bind fun r10 => (if r10 = 0 then some ((-1000001), u) else ((f_X6_freshTrial u).bind fun r20 => ((f_X2_serveBy r20.2.1 p1).bind fun r24 => (if 0 ≤ r24.1 then ((f_X2_nextRequest r20.1 p1).bind fun r44 => ((f_X2_holderFor r20.1 r44).bind fun r47 => (if p2 = 0 then some ((r24.2.2.2.2.2.2.2.2.1 - r20.1.2.2.2.2.2.2.2.1), (r20.1, r24.2, r20.2.2.1, r20.2.2.2)) else (if p2 = 1 then some ((r24.2.2.2.2.2.2.2.2.2.1 - r20.1.2.2.2.2.2.2.2.2.1), (r20.1, r24.2, r20.2.2.1, r20.2.2.2)) else (if p2 = 2 then some (r24.1, (r20.1, r24.2, r20.2.2.1, r20.2.2.2)) else (if p2 = 3 then ((f_X2_driveFor r20.1 r47).bind fun r124 => some (r124, (r20.1, r24.2, r20.2.2.1, r20.2.2.2))) else some (r47, (r20.1, r24.2, r20.2.2.1, r20.2.2.2)))))))) else some ((-1000002), (r20.1, r24.2, r20.2.2.1, r20.2.2.2)))))))))
set_option maxRecDepth 20000 in
theorem v_X6_would {x : Am} {d : Dt} {A : Nat → Prop} {a : Nat → Nat} (C : Cx x cX6_would 5 yX6_would.cls d (Imu d A x.s.heap)) (hr : x.meth.sig.returnType = (some .int)) (hlk : x.meth.locks = false) (z : Int32 × UM) (u : UM) (p1 : Int32) (p2 : Int32) : V x (rmF 5 155) 0 0 (MQ x.below (QW d A (WM d a z.2) (some (.int z.1))) x.args x.s 0 0 A) 5 (Imu d A x.s.heap) (f_X6_would u p1 p2 = some z) 0 (WM d a u) [some (.ref (a 0)), some (.int p1), some (.int p2), none, none] [] := by
  unfold f_X6_would
  refine V_iload_n C 1 dX6_would_0 rfl rfl ?_
  refine V_callSi (As := [.int p1]) (rest := []) (wc := []) C (fun r h => ct_X6_isRule _ d p1 r h) ks_X6_isRule kl_X6_149 [] dX6_would_1 rfl rfl (Nat.le_of_ble_eq_true rfl) ⟨(Nat.le_of_ble_eq_true rfl), (Nat.le_of_ble_eq_true rfl)⟩ rfl rfl ⟨Nat.le_refl _, Nat.le_refl _⟩ rfl (fun r1 hr1 => ?_)
  refine V_if_eq (tgt := 16) C dX6_would_4 (by decide) ?_ ?_
  · refine V_ldc C kc_X6_87 dX6_would_16 ?_
    exact V_iretW (Wd := fun w => WM d a w) C hr hlk dX6_would_18 rfl
  · refine V_iload_n C 2 dX6_would_7 rfl rfl ?_
    refine V_iconst (v := 0) C dX6_would_8 (by decide) ?_
    refine V_iconst (v := 4) C dX6_would_9 (by decide) ?_
    refine V_callSi (As := [.int p2, .int 0, .int 4]) (rest := []) (wc := []) C (fun r h => ct_X6_isIn _ d p2 0 4 r h) ks_X6_isIn kl_X6_122 [] dX6_would_10 rfl rfl (Nat.le_of_ble_eq_true rfl) ⟨(Nat.le_of_ble_eq_true rfl), (Nat.le_of_ble_eq_true rfl)⟩ rfl rfl ⟨Nat.le_refl _, Nat.le_refl _⟩ rfl (fun r10 hr10 => ?_)
    refine V_if_ne (tgt := 19) C dX6_would_13 (by decide) ?_ ?_
    · refine V_aload_n C 0 dX6_would_19 rfl rfl ?_
      refine V_callWv (As := []) (rest := []) (wc := WM d a u) (Wd := fun w => WM d a w) C (fun r h => ct_X6_freshTrial _ d a u r h) kv_X6_freshTrial kl_X6_33 [0, 1, 2, 3, 4, 5, 6, 7, 8, 9, 10, 11, 12, 13, 14, 15, 16, 17, 18, 19, 20, 21, 22, 23, 24, 25, 26, 27, 28, 29, 30, 31, 32, 33, 34, 35, 36, 37, 38, 39, 40, 41, 42, 43, 44, 45, 46, 47, 48, 49, 50, 51, 52, 53, 54, 55, 56, 57, 58, 59, 60, 61, 62, 63, 64, 65, 66, 67, 68, 69, 70, 71, 72, 73, 74, 75, 76] (fun w => WM d a w) dX6_would_20 (emb_M_M_w d _ _) rfl (fun _ => fst_M d _ _ _) (fun _ => put_M_M_w d _ _ _) rfl rfl rfl (Nat.le_of_ble_eq_true rfl) ⟨(Nat.le_of_ble_eq_true rfl), (Nat.le_of_ble_eq_true rfl)⟩ rfl rfl ⟨Nat.le_refl _, Nat.le_refl _⟩ rfl (fun r20 hr20 => ?_)
      refine V_iload_n C 1 dX6_would_23 rfl rfl ?_
      refine V_callWi (As := [.int p1]) (rest := []) (wc := WL d (fun i => a (i + 13)) r20.2.1) (Wd := fun w => WL d (fun i => a (i + 13)) w) C (fun r h => ct_X2_serveBy _ d (fun i => a (i + 13)) r20.2.1 p1 r h) kv_X2_serveBy kl_X6_74 [13, 14, 15, 16, 17, 18, 19, 20, 21, 22, 23, 24] (fun w => WM d a (r20.1, w, r20.2.2.1, r20.2.2.2)) dX6_would_24 (emb_M_L_1 d _ _) rfl (fun _ => fst_L d _ _ _) (fun _ => put_M_L_1 d _ _ _) rfl rfl rfl (Nat.le_of_ble_eq_true rfl) ⟨(Nat.le_of_ble_eq_true rfl), (Nat.le_of_ble_eq_true rfl)⟩ rfl rfl ⟨Nat.le_refl _, Nat.le_refl _⟩ rfl (fun r24 hr24 => ?_)
      refine V_istore_n (lv' := [some (.ref (a 0)), some (.int p1), some (.int p2), some (.int r24.1), none]) C 3 dX6_would_27 rfl (by decide) rfl ?_
      refine V_iload_n C 3 dX6_would_28 rfl rfl ?_
      refine V_if_ge (tgt := 35) C dX6_would_29 (by decide) ?_ ?_
      · refine V_aload_n C 0 dX6_would_35 rfl rfl ?_
        refine V_get (v := .ref (a 1)) C fx6 0 0 kf_X6_12 (by decide) rfl rfl dX6_would_36 ?_
        refine V_aload_n C 0 dX6_would_39 rfl rfl ?_
        refine V_get (v := .ref (a 1)) C fx6 0 0 kf_X6_12 (by decide) rfl rfl dX6_would_40 ?_
        refine V_iload_n C 1 dX6_would_43 rfl rfl ?_
        refine V_callRi (As := [.int p1]) (rest := [.ref (a 1)]) (wc := WL d (fun i => a (i + 1)) r20.1) C (fun r h => ct_X2_nextRequest _ d (fun i => a (i + 1)) r20.1 p1 r h) kv_X2_nextRequest kl_X6_152 [1, 2, 3, 4, 5, 6, 7, 8, 9, 10, 11, 12] dX6_would_44 (emb_M_L_0 d _ _) rfl rfl rfl (Nat.le_of_ble_eq_true rfl) ⟨(Nat.le_of_ble_eq_true rfl), (Nat.le_of_ble_eq_true rfl)⟩ rfl rfl ⟨Nat.le_refl _, Nat.le_refl _⟩ rfl (fun r44 hr44 => ?_)
        refine V_callRi (As := [.int r44]) (rest := []) (wc := WL d (fun i => a (i + 1)) r20.1) C (fun r h => ct_X2_holderFor _ d (fun i => a (i + 1)) r20.1 r44 r h) kv_X2_holderFor kl_X6_156 [1, 2, 3, 4, 5, 6, 7, 8, 9, 10, 11, 12] dX6_would_47 (emb_M_L_0 d _ _) rfl rfl rfl (Nat.le_of_ble_eq_true rfl) ⟨(Nat.le_of_ble_eq_true rfl), (Nat.le_of_ble_eq_true rfl)⟩ rfl rfl ⟨Nat.le_refl _, Nat.le_refl _⟩ rfl (fun r47 hr47 => ?_)
        refine V_istore (lv' := [some (.ref (a 0)), some (.int p1), some (.int p2), some (.int r24.1), some (.int r47)]) C dX6_would_50 (by decide) rfl ?_
        refine V_iload_n C 2 dX6_would_52 rfl rfl ?_
        refine V_case (fun c0 => ?_) (fun c0 => ?_)
        · refine V_tsIn (tgt := 84) C c0 dX6_would_53 (by decide) (by decide) rfl (by decide) ?_
          refine V_aload_n C 0 dX6_would_84 rfl rfl ?_
          refine V_get (v := .ref (a 13)) C fx6 0 1 kf_X6_16 (by decide) rfl rfl dX6_would_85 ?_
          refine V_get (v := .int r24.2.2.2.2.2.2.2.2.1) C fx2 13 7 kf_X6_159 (by decide) rfl rfl dX6_would_88 ?_
          refine V_aload_n C 0 dX6_would_91 rfl rfl ?_
          refine V_get (v := .ref (a 1)) C fx6 0 0 kf_X6_12 (by decide) rfl rfl dX6_would_92 ?_
          refine V_get (v := .int r20.1.2.2.2.2.2.2.2.1) C fx2 1 7 kf_X6_159 (by decide) rfl rfl dX6_would_95 ?_
          refine V_isub C dX6_would_98 ?_
          exact V_iretW (Wd := fun w => WM d a w) C hr hlk dX6_would_99 rfl
        refine V_case (fun c1 => ?_) (fun c1 => ?_)
        · refine V_tsIn (tgt := 100) C c1 dX6_would_53 (by decide) (by decide) rfl (by decide) ?_
          refine V_aload_n C 0 dX6_would_100 rfl rfl ?_
          refine V_get (v := .ref (a 13)) C fx6 0 1 kf_X6_16 (by decide) rfl rfl dX6_would_101 ?_
          refine V_get (v := .int r24.2.2.2.2.2.2.2.2.2.1) C fx2 13 8 kf_X6_162 (by decide) rfl rfl dX6_would_104 ?_
          refine V_aload_n C 0 dX6_would_107 rfl rfl ?_
          refine V_get (v := .ref (a 1)) C fx6 0 0 kf_X6_12 (by decide) rfl rfl dX6_would_108 ?_
          refine V_get (v := .int r20.1.2.2.2.2.2.2.2.2.1) C fx2 1 8 kf_X6_162 (by decide) rfl rfl dX6_would_111 ?_
          refine V_isub C dX6_would_114 ?_
          exact V_iretW (Wd := fun w => WM d a w) C hr hlk dX6_would_115 rfl
        refine V_case (fun c2 => ?_) (fun c2 => ?_)
        · refine V_tsIn (tgt := 116) C c2 dX6_would_53 (by decide) (by decide) rfl (by decide) ?_
          refine V_iload_n C 3 dX6_would_116 rfl rfl ?_
          exact V_iretW (Wd := fun w => WM d a w) C hr hlk dX6_would_117 rfl
        refine V_case (fun c3 => ?_) (fun c3 => ?_)
        · refine V_tsIn (tgt := 118) C c3 dX6_would_53 (by decide) (by decide) rfl (by decide) ?_
          refine V_aload_n C 0 dX6_would_118 rfl rfl ?_
          refine V_get (v := .ref (a 1)) C fx6 0 0 kf_X6_12 (by decide) rfl rfl dX6_would_119 ?_
          refine V_iload C dX6_would_122 rfl ?_
          refine V_callRi (As := [.int r47]) (rest := []) (wc := WL d (fun i => a (i + 1)) r20.1) C (fun r h => ct_X2_driveFor _ d (fun i => a (i + 1)) r20.1 r47 r h) kv_X2_driveFor kl_X6_165 [1, 2, 3, 4, 5, 6, 7, 8, 9, 10, 11, 12] dX6_would_124 (emb_M_L_0 d _ _) rfl rfl rfl (Nat.le_of_ble_eq_true rfl) ⟨(Nat.le_of_ble_eq_true rfl), (Nat.le_of_ble_eq_true rfl)⟩ rfl rfl ⟨Nat.le_refl _, Nat.le_refl _⟩ rfl (fun r124 hr124 => ?_)
          exact V_iretW (Wd := fun w => WM d a w) C hr hlk dX6_would_127 rfl
        have i0 := neInt c0 (k := 0) (by decide)
        have i1 := neInt c1 (k := 1) (by decide)
        have i2 := neInt c2 (k := 2) (by decide)
        have i3 := neInt c3 (k := 3) (by decide)
        refine V_tsOut (tgt := 128) C dX6_would_53 (by omega) (by decide) ?_
        refine V_iload C dX6_would_128 rfl ?_
        exact V_iretW (Wd := fun w => WM d a w) C hr hlk dX6_would_130 rfl
      · refine V_ldc C kc_X6_155 dX6_would_32 ?_
        exact V_iretW (Wd := fun w => WM d a w) C hr hlk dX6_would_34 rfl
    · refine V_ldc C kc_X6_87 dX6_would_16 ?_
      exact V_iretW (Wd := fun w => WM d a w) C hr hlk dX6_would_18 rfl
set_option maxRecDepth 20000 in
theorem ct_X6_would (l : Launch) (d : Dt) (a : Nat → Nat) (u : UM) (p1 : Int32) (p2 : Int32) (z : Int32 × UM) (h : f_X6_would u p1 p2 = some z) : CtW l d yX6_would cX6_would 5 (some .int) (rmF 5 155) [.ref (a 0), .int p1, .int p2] (WM d a u) (WM d a z.2) (some (.int z.1)) :=
  CtW.start (by decide) (Nat.le_of_ble_eq_true rfl) (by simp [Value.category]) [some (.ref (a 0)), some (.int p1), some (.int p2), none, none] rfl (fun x A C hr hlk => V_eqv (fun _ => h) (v_X6_would C hr hlk z u p1 p2))

/-! MastRobots.wayTo -/
def f_X6_wayTo (u : UM) (p1 : Int32) : Option (Int32 × UM) :=
  ((f_X6_isIn p1 0 7).bind fun r4 => (if r4 = 0 then some ((-1000001), u) else ((f_X6_freshTrial u).bind fun r14 => ((f_X2_goTo r14.2.1 p1).bind fun r18 => some ((r18.2.2.2.2.2.2.2.1 - r14.1.2.2.2.2.2.2.2.1), (r14.1, r18, r14.2.2.1, r14.2.2.2))))))
set_option maxRecDepth 20000 in
theorem v_X6_wayTo {x : Am} {d : Dt} {A : Nat → Prop} {a : Nat → Nat} (C : Cx x cX6_wayTo 2 yX6_wayTo.cls d (Imu d A x.s.heap)) (hr : x.meth.sig.returnType = (some .int)) (hlk : x.meth.locks = false) (z : Int32 × UM) (u : UM) (p1 : Int32) : V x (rmF 5 155) 0 0 (MQ x.below (QW d A (WM d a z.2) (some (.int z.1))) x.args x.s 0 0 A) 2 (Imu d A x.s.heap) (f_X6_wayTo u p1 = some z) 0 (WM d a u) [some (.ref (a 0)), some (.int p1)] [] := by
  unfold f_X6_wayTo
  refine V_iload_n C 1 dX6_wayTo_0 rfl rfl ?_
  refine V_iconst (v := 0) C dX6_wayTo_1 (by decide) ?_
  refine V_bipush (v := 7) C dX6_wayTo_2 (by decide) ?_
  refine V_callSi (As := [.int p1, .int 0, .int 7]) (rest := []) (wc := []) C (fun r h => ct_X6_isIn _ d p1 0 7 r h) ks_X6_isIn kl_X6_122 [] dX6_wayTo_4 rfl rfl (Nat.le_of_ble_eq_true rfl) ⟨(Nat.le_of_ble_eq_true rfl), (Nat.le_of_ble_eq_true rfl)⟩ rfl rfl ⟨Nat.le_refl _, Nat.le_refl _⟩ rfl (fun r4 hr4 => ?_)
  refine V_if_ne (tgt := 13) C dX6_wayTo_7 (by decide) ?_ ?_
  · refine V_aload_n C 0 dX6_wayTo_13 rfl rfl ?_
    refine V_callWv (As := []) (rest := []) (wc := WM d a u) (Wd := fun w => WM d a w) C (fun r h => ct_X6_freshTrial _ d a u r h) kv_X6_freshTrial kl_X6_33 [0, 1, 2, 3, 4, 5, 6, 7, 8, 9, 10, 11, 12, 13, 14, 15, 16, 17, 18, 19, 20, 21, 22, 23, 24, 25, 26, 27, 28, 29, 30, 31, 32, 33, 34, 35, 36, 37, 38, 39, 40, 41, 42, 43, 44, 45, 46, 47, 48, 49, 50, 51, 52, 53, 54, 55, 56, 57, 58, 59, 60, 61, 62, 63, 64, 65, 66, 67, 68, 69, 70, 71, 72, 73, 74, 75, 76] (fun w => WM d a w) dX6_wayTo_14 (emb_M_M_w d _ _) rfl (fun _ => fst_M d _ _ _) (fun _ => put_M_M_w d _ _ _) rfl rfl rfl (Nat.le_of_ble_eq_true rfl) ⟨(Nat.le_of_ble_eq_true rfl), (Nat.le_of_ble_eq_true rfl)⟩ rfl rfl ⟨Nat.le_refl _, Nat.le_refl _⟩ rfl (fun r14 hr14 => ?_)
    refine V_iload_n C 1 dX6_wayTo_17 rfl rfl ?_
    refine V_callWv (As := [.int p1]) (rest := []) (wc := WL d (fun i => a (i + 13)) r14.2.1) (Wd := fun w => WL d (fun i => a (i + 13)) w) C (fun r h => ct_X2_goTo _ d (fun i => a (i + 13)) r14.2.1 p1 r h) kv_X2_goTo kl_X6_168 [13, 14, 15, 16, 17, 18, 19, 20, 21, 22, 23, 24] (fun w => WM d a (r14.1, w, r14.2.2.1, r14.2.2.2)) dX6_wayTo_18 (emb_M_L_1 d _ _) rfl (fun _ => fst_L d _ _ _) (fun _ => put_M_L_1 d _ _ _) rfl rfl rfl (Nat.le_of_ble_eq_true rfl) ⟨(Nat.le_of_ble_eq_true rfl), (Nat.le_of_ble_eq_true rfl)⟩ rfl rfl ⟨Nat.le_refl _, Nat.le_refl _⟩ rfl (fun r18 hr18 => ?_)
    refine V_aload_n C 0 dX6_wayTo_21 rfl rfl ?_
    refine V_get (v := .ref (a 13)) C fx6 0 1 kf_X6_16 (by decide) rfl rfl dX6_wayTo_22 ?_
    refine V_get (v := .int r18.2.2.2.2.2.2.2.1) C fx2 13 7 kf_X6_159 (by decide) rfl rfl dX6_wayTo_25 ?_
    refine V_aload_n C 0 dX6_wayTo_28 rfl rfl ?_
    refine V_get (v := .ref (a 1)) C fx6 0 0 kf_X6_12 (by decide) rfl rfl dX6_wayTo_29 ?_
    refine V_get (v := .int r14.1.2.2.2.2.2.2.2.1) C fx2 1 7 kf_X6_159 (by decide) rfl rfl dX6_wayTo_32 ?_
    refine V_isub C dX6_wayTo_35 ?_
    exact V_iretW (Wd := fun w => WM d a w) C hr hlk dX6_wayTo_36 rfl
  · refine V_ldc C kc_X6_87 dX6_wayTo_10 ?_
    exact V_iretW (Wd := fun w => WM d a w) C hr hlk dX6_wayTo_12 rfl
set_option maxRecDepth 20000 in
theorem ct_X6_wayTo (l : Launch) (d : Dt) (a : Nat → Nat) (u : UM) (p1 : Int32) (z : Int32 × UM) (h : f_X6_wayTo u p1 = some z) : CtW l d yX6_wayTo cX6_wayTo 2 (some .int) (rmF 5 155) [.ref (a 0), .int p1] (WM d a u) (WM d a z.2) (some (.int z.1)) :=
  CtW.start (by decide) (Nat.le_of_ble_eq_true rfl) (by simp [Value.category]) [some (.ref (a 0)), some (.int p1)] rfl (fun x A C hr hlk => V_eqv (fun _ => h) (v_X6_wayTo C hr hlk z u p1))

/-! MastRobots.wholeBatch -/
def f_X6_wholeBatch (u : UM) (p1 : Int32) (p2 : Int32) : Option (Int32 × UM) :=
  ((f_X6_isRule p1).bind fun r1 => (if r1 = 0 then some ((-1000001), u) else ((f_X6_isIn p2 0 2).bind fun r10 => (if r10 = 0 then some ((-1000001), u) else ((f_X6_freshTrial u).bind fun r20 => ((f_X2_serveAllBy r20.2.1 p1).bind fun r24 => (if p2 = 0 then some ((r24.2.2.2.2.2.2.2.2.1 - r20.1.2.2.2.2.2.2.2.1), (r20.1, r24.2, r20.2.2.1, r20.2.2.2)) else (if p2 = 1 then some (r24.1, (r20.1, r24.2, r20.2.2.1, r20.2.2.2)) else some (r24.2.2.1.2.2.2, (r20.1, r24.2, r20.2.2.1, r20.2.2.2))))))))))
set_option maxRecDepth 20000 in
theorem v_X6_wholeBatch {x : Am} {d : Dt} {A : Nat → Prop} {a : Nat → Nat} (C : Cx x cX6_wholeBatch 4 yX6_wholeBatch.cls d (Imu d A x.s.heap)) (hr : x.meth.sig.returnType = (some .int)) (hlk : x.meth.locks = false) (z : Int32 × UM) (u : UM) (p1 : Int32) (p2 : Int32) : V x (rmF 5 155) 0 0 (MQ x.below (QW d A (WM d a z.2) (some (.int z.1))) x.args x.s 0 0 A) 4 (Imu d A x.s.heap) (f_X6_wholeBatch u p1 p2 = some z) 0 (WM d a u) [some (.ref (a 0)), some (.int p1), some (.int p2), none] [] := by
  unfold f_X6_wholeBatch
  refine V_iload_n C 1 dX6_wholeBatch_0 rfl rfl ?_
  refine V_callSi (As := [.int p1]) (rest := []) (wc := []) C (fun r h => ct_X6_isRule _ d p1 r h) ks_X6_isRule kl_X6_149 [] dX6_wholeBatch_1 rfl rfl (Nat.le_of_ble_eq_true rfl) ⟨(Nat.le_of_ble_eq_true rfl), (Nat.le_of_ble_eq_true rfl)⟩ rfl rfl ⟨Nat.le_refl _, Nat.le_refl _⟩ rfl (fun r1 hr1 => ?_)
  refine V_if_eq (tgt := 16) C dX6_wholeBatch_4 (by decide) ?_ ?_
  · refine V_ldc C kc_X6_87 dX6_wholeBatch_16 ?_
    exact V_iretW (Wd := fun w => WM d a w) C hr hlk dX6_wholeBatch_18 rfl
  · refine V_iload_n C 2 dX6_wholeBatch_7 rfl rfl ?_
    refine V_iconst (v := 0) C dX6_wholeBatch_8 (by decide) ?_
    refine V_iconst (v := 2) C dX6_wholeBatch_9 (by decide) ?_
    refine V_callSi (As := [.int p2, .int 0, .int 2]) (rest := []) (wc := []) C (fun r h => ct_X6_isIn _ d p2 0 2 r h) ks_X6_isIn kl_X6_122 [] dX6_wholeBatch_10 rfl rfl (Nat.le_of_ble_eq_true rfl) ⟨(Nat.le_of_ble_eq_true rfl), (Nat.le_of_ble_eq_true rfl)⟩ rfl rfl ⟨Nat.le_refl _, Nat.le_refl _⟩ rfl (fun r10 hr10 => ?_)
    refine V_if_ne (tgt := 19) C dX6_wholeBatch_13 (by decide) ?_ ?_
    · refine V_aload_n C 0 dX6_wholeBatch_19 rfl rfl ?_
      refine V_callWv (As := []) (rest := []) (wc := WM d a u) (Wd := fun w => WM d a w) C (fun r h => ct_X6_freshTrial _ d a u r h) kv_X6_freshTrial kl_X6_33 [0, 1, 2, 3, 4, 5, 6, 7, 8, 9, 10, 11, 12, 13, 14, 15, 16, 17, 18, 19, 20, 21, 22, 23, 24, 25, 26, 27, 28, 29, 30, 31, 32, 33, 34, 35, 36, 37, 38, 39, 40, 41, 42, 43, 44, 45, 46, 47, 48, 49, 50, 51, 52, 53, 54, 55, 56, 57, 58, 59, 60, 61, 62, 63, 64, 65, 66, 67, 68, 69, 70, 71, 72, 73, 74, 75, 76] (fun w => WM d a w) dX6_wholeBatch_20 (emb_M_M_w d _ _) rfl (fun _ => fst_M d _ _ _) (fun _ => put_M_M_w d _ _ _) rfl rfl rfl (Nat.le_of_ble_eq_true rfl) ⟨(Nat.le_of_ble_eq_true rfl), (Nat.le_of_ble_eq_true rfl)⟩ rfl rfl ⟨Nat.le_refl _, Nat.le_refl _⟩ rfl (fun r20 hr20 => ?_)
      refine V_iload_n C 1 dX6_wholeBatch_23 rfl rfl ?_
      refine V_callWi (As := [.int p1]) (rest := []) (wc := WL d (fun i => a (i + 13)) r20.2.1) (Wd := fun w => WL d (fun i => a (i + 13)) w) C (fun r h => ct_X2_serveAllBy _ d (fun i => a (i + 13)) r20.2.1 p1 r h) kv_X2_serveAllBy kl_X6_172 [13, 14, 15, 16, 17, 18, 19, 20, 21, 22, 23, 24] (fun w => WM d a (r20.1, w, r20.2.2.1, r20.2.2.2)) dX6_wholeBatch_24 (emb_M_L_1 d _ _) rfl (fun _ => fst_L d _ _ _) (fun _ => put_M_L_1 d _ _ _) rfl rfl rfl (Nat.le_of_ble_eq_true rfl) ⟨(Nat.le_of_ble_eq_true rfl), (Nat.le_of_ble_eq_true rfl)⟩ rfl rfl ⟨Nat.le_refl _, Nat.le_refl _⟩ rfl (fun r24 hr24 => ?_)
      refine V_istore_n (lv' := [some (.ref (a 0)), some (.int p1), some (.int p2), some (.int r24.1)]) C 3 dX6_wholeBatch_27 rfl (by decide) rfl ?_
      refine V_iload_n C 2 dX6_wholeBatch_28 rfl rfl ?_
      refine V_case (fun c0 => ?_) (fun c0 => ?_)
      · refine V_lkIn (tgt := 56) C c0 dX6_wholeBatch_29 rfl rfl (by decide) ?_
        refine V_aload_n C 0 dX6_wholeBatch_56 rfl rfl ?_
        refine V_get (v := .ref (a 13)) C fx6 0 1 kf_X6_16 (by decide) rfl rfl dX6_wholeBatch_57 ?_
        refine V_get (v := .int r24.2.2.2.2.2.2.2.2.1) C fx2 13 7 kf_X6_159 (by decide) rfl rfl dX6_wholeBatch_60 ?_
        refine V_aload_n C 0 dX6_wholeBatch_63 rfl rfl ?_
        refine V_get (v := .ref (a 1)) C fx6 0 0 kf_X6_12 (by decide) rfl rfl dX6_wholeBatch_64 ?_
        refine V_get (v := .int r20.1.2.2.2.2.2.2.2.1) C fx2 1 7 kf_X6_159 (by decide) rfl rfl dX6_wholeBatch_67 ?_
        refine V_isub C dX6_wholeBatch_70 ?_
        exact V_iretW (Wd := fun w => WM d a w) C hr hlk dX6_wholeBatch_71 rfl
      refine V_case (fun c1 => ?_) (fun c1 => ?_)
      · refine V_lkIn (tgt := 72) C c1 dX6_wholeBatch_29 rfl rfl (by decide) ?_
        refine V_iload_n C 3 dX6_wholeBatch_72 rfl rfl ?_
        exact V_iretW (Wd := fun w => WM d a w) C hr hlk dX6_wholeBatch_73 rfl
      refine V_lkOut (tgt := 74) C dX6_wholeBatch_29 rfl (lk2 (neInt c0 rfl) (neInt c1 rfl)) (by decide) ?_
      refine V_aload_n C 0 dX6_wholeBatch_74 rfl rfl ?_
      refine V_get (v := .ref (a 13)) C fx6 0 1 kf_X6_16 (by decide) rfl rfl dX6_wholeBatch_75 ?_
      refine V_get (v := .ref (a 21)) C fx2 13 1 kf_X6_129 (by decide) rfl rfl dX6_wholeBatch_78 ?_
      refine V_get (v := .int r24.2.2.1.2.2.2) C fx4 21 3 kf_X6_133 (by decide) rfl rfl dX6_wholeBatch_81 ?_
      exact V_iretW (Wd := fun w => WM d a w) C hr hlk dX6_wholeBatch_84 rfl
    · refine V_ldc C kc_X6_87 dX6_wholeBatch_16 ?_
      exact V_iretW (Wd := fun w => WM d a w) C hr hlk dX6_wholeBatch_18 rfl
set_option maxRecDepth 20000 in
theorem ct_X6_wholeBatch (l : Launch) (d : Dt) (a : Nat → Nat) (u : UM) (p1 : Int32) (p2 : Int32) (z : Int32 × UM) (h : f_X6_wholeBatch u p1 p2 = some z) : CtW l d yX6_wholeBatch cX6_wholeBatch 4 (some .int) (rmF 5 155) [.ref (a 0), .int p1, .int p2] (WM d a u) (WM d a z.2) (some (.int z.1)) :=
  CtW.start (by decide) (Nat.le_of_ble_eq_true rfl) (by simp [Value.category]) [some (.ref (a 0)), some (.int p1), some (.int p2), none] rfl (fun x A C hr hlk => V_eqv (fun _ => h) (v_X6_wholeBatch C hr hlk z u p1 p2))

/-! MastRobots.count -/
def f_X6_count (u : UM) (p1 : Int32) : Option (Int32) :=
  (if p1 = 0 then some u.1.2.2.2.2.2.2.2.1 else (if p1 = 1 then some u.1.2.2.1 else (if p1 = 2 then some u.1.2.2.2.2.1 else (if p1 = 3 then some u.1.2.2.2.2.2.1 else (if p1 = 4 then (if u.1.2.2.2.1 = 0 then some 0 else some 1) else (if p1 = 5 then some u.1.1.2.2.2.2.2.2 else (if p1 = 6 then ((f_X0_withNeighbors u.1.1).bind fun r146 => some r146) else (if p1 = 7 then ((f_X0_worn u.1.1).bind fun r157 => some r157) else (if p1 = 8 then some u.1.2.1.2.2.2 else (if p1 = 9 then some u.1.2.2.2.2.2.2.2.2.2 else (if p1 = 10 then some u.1.2.2.2.2.2.2.2.2.1 else (if p1 = 11 then ((f_X2_inDrive u.1 0).bind fun r193 => ((f_X6_found r193).bind fun r196 => some r196)) else (if p1 = 12 then ((f_X2_inDrive u.1 1).bind fun r205 => ((f_X6_found r205).bind fun r208 => some r208)) else (if p1 = 13 then ((f_X0_filesHeld u.1.1).bind fun r219 => some r219) else (if p1 = 14 then some u.2.2.1.2.2.2.2.2 else (if p1 = 15 then some u.2.2.2.2.1 else some (-1000001)))))))))))))))))
set_option maxRecDepth 20000 in
theorem v_X6_count {x : Am} {d : Dt} {a : Nat → Nat} (C : Cx x cX6_count 2 yX6_count.cls d (Iro d x.s.heap)) (hr : x.meth.sig.returnType = (some .int)) (hlk : x.meth.locks = false) (z : Int32) (u : UM) (p1 : Int32) : V x (rmF 3 64) 0 0 (MQ x.below (QR (some (.int z))) x.args x.s 0 0 (fun _ => False)) 2 (Iro d x.s.heap) (f_X6_count u p1 = some z) 0 (WM d a u) [some (.ref (a 0)), some (.int p1)] [] := by
  unfold f_X6_count
  refine V_iload_n C 1 dX6_count_0 rfl rfl ?_
  refine V_case (fun c0 => ?_) (fun c0 => ?_)
  · refine V_tsIn (tgt := 80) C c0 dX6_count_1 (by decide) (by decide) rfl (by decide) ?_
    refine V_aload_n C 0 dX6_count_80 rfl rfl ?_
    refine V_get (v := .ref (a 1)) C fx6 0 0 kf_X6_12 (by decide) rfl rfl dX6_count_81 ?_
    refine V_get (v := .int u.1.2.2.2.2.2.2.2.1) C fx2 1 7 kf_X6_159 (by decide) rfl rfl dX6_count_84 ?_
    exact V_iretR C hr hlk dX6_count_87
  refine V_case (fun c1 => ?_) (fun c1 => ?_)
  · refine V_tsIn (tgt := 88) C c1 dX6_count_1 (by decide) (by decide) rfl (by decide) ?_
    refine V_aload_n C 0 dX6_count_88 rfl rfl ?_
    refine V_get (v := .ref (a 1)) C fx6 0 0 kf_X6_12 (by decide) rfl rfl dX6_count_89 ?_
    refine V_get (v := .int u.1.2.2.1) C fx2 1 2 kf_X6_175 (by decide) rfl rfl dX6_count_92 ?_
    exact V_iretR C hr hlk dX6_count_95
  refine V_case (fun c2 => ?_) (fun c2 => ?_)
  · refine V_tsIn (tgt := 96) C c2 dX6_count_1 (by decide) (by decide) rfl (by decide) ?_
    refine V_aload_n C 0 dX6_count_96 rfl rfl ?_
    refine V_get (v := .ref (a 1)) C fx6 0 0 kf_X6_12 (by decide) rfl rfl dX6_count_97 ?_
    refine V_get (v := .int u.1.2.2.2.2.1) C fx2 1 4 kf_X6_178 (by decide) rfl rfl dX6_count_100 ?_
    exact V_iretR C hr hlk dX6_count_103
  refine V_case (fun c3 => ?_) (fun c3 => ?_)
  · refine V_tsIn (tgt := 104) C c3 dX6_count_1 (by decide) (by decide) rfl (by decide) ?_
    refine V_aload_n C 0 dX6_count_104 rfl rfl ?_
    refine V_get (v := .ref (a 1)) C fx6 0 0 kf_X6_12 (by decide) rfl rfl dX6_count_105 ?_
    refine V_get (v := .int u.1.2.2.2.2.2.1) C fx2 1 5 kf_X6_181 (by decide) rfl rfl dX6_count_108 ?_
    exact V_iretR C hr hlk dX6_count_111
  refine V_case (fun c4 => ?_) (fun c4 => ?_)
  · refine V_tsIn (tgt := 112) C c4 dX6_count_1 (by decide) (by decide) rfl (by decide) ?_
    refine V_aload_n C 0 dX6_count_112 rfl rfl ?_
    refine V_get (v := .ref (a 1)) C fx6 0 0 kf_X6_12 (by decide) rfl rfl dX6_count_113 ?_
    refine V_get (v := .int u.1.2.2.2.1) C fx2 1 3 kf_X6_184 (by decide) rfl rfl dX6_count_116 ?_
    refine V_if_eq (tgt := 126) C dX6_count_119 (by decide) ?_ ?_
    · refine V_iconst (v := 0) C dX6_count_126 (by decide) ?_
      exact V_iretR C hr hlk dX6_count_127
    · refine V_iconst (v := 1) C dX6_count_122 (by decide) ?_
      refine V_goto (tgt := 127) C dX6_count_123 (by decide) ?_
      exact V_iretR C hr hlk dX6_count_127
  refine V_case (fun c5 => ?_) (fun c5 => ?_)
  · refine V_tsIn (tgt := 128) C c5 dX6_count_1 (by decide) (by decide) rfl (by decide) ?_
    refine V_aload_n C 0 dX6_count_128 rfl rfl ?_
    refine V_get (v := .ref (a 1)) C fx6 0 0 kf_X6_12 (by decide) rfl rfl dX6_count_129 ?_
    refine V_get (v := .ref (a 2)) C fx2 1 0 kf_X6_77 (by decide) rfl rfl dX6_count_132 ?_
    refine V_get (v := .int u.1.1.2.2.2.2.2.2) C fx0 2 6 kf_X6_188 (by decide) rfl rfl dX6_count_135 ?_
    exact V_iretR C hr hlk dX6_count_138
  refine V_case (fun c6 => ?_) (fun c6 => ?_)
  · refine V_tsIn (tgt := 139) C c6 dX6_count_1 (by decide) (by decide) rfl (by decide) ?_
    refine V_aload_n C 0 dX6_count_139 rfl rfl ?_
    refine V_get (v := .ref (a 1)) C fx6 0 0 kf_X6_12 (by decide) rfl rfl dX6_count_140 ?_
    refine V_get (v := .ref (a 2)) C fx2 1 0 kf_X6_77 (by decide) rfl rfl dX6_count_143 ?_
    refine V_callRi (As := []) (rest := []) (wc := WC d (fun i => a (i + 2)) u.1.1) C (fun r h => ct_X0_withNeighbors _ d (fun i => a (i + 2)) u.1.1 r h) kv_X0_withNeighbors kl_X6_189 [2, 3, 4, 5, 6, 7, 8] dX6_count_146 (emb_M_C_00 d _ _) rfl rfl rfl (Nat.le_of_ble_eq_true rfl) ⟨(Nat.le_of_ble_eq_true rfl), (Nat.le_of_ble_eq_true rfl)⟩ rfl rfl ⟨Nat.le_refl _, Nat.le_refl _⟩ rfl (fun r146 hr146 => ?_)
    exact V_iretR C hr hlk dX6_count_149
  refine V_case (fun c7 => ?_) (fun c7 => ?_)
  · refine V_tsIn (tgt := 150) C c7 dX6_count_1 (by decide) (by decide) rfl (by decide) ?_
    refine V_aload_n C 0 dX6_count_150 rfl rfl ?_
    refine V_get (v := .ref (a 1)) C fx6 0 0 kf_X6_12 (by decide) rfl rfl dX6_count_151 ?_
    refine V_get (v := .ref (a 2)) C fx2 1 0 kf_X6_77 (by decide) rfl rfl dX6_count_154 ?_
    refine V_callRi (As := []) (rest := []) (wc := WC d (fun i => a (i + 2)) u.1.1) C (fun r h => ct_X0_worn _ d (fun i => a (i + 2)) u.1.1 r h) kv_X0_worn kl_X6_192 [2, 3, 4, 5, 6, 7, 8] dX6_count_157 (emb_M_C_00 d _ _) rfl rfl rfl (Nat.le_of_ble_eq_true rfl) ⟨(Nat.le_of_ble_eq_true rfl), (Nat.le_of_ble_eq_true rfl)⟩ rfl rfl ⟨Nat.le_refl _, Nat.le_refl _⟩ rfl (fun r157 hr157 => ?_)
    exact V_iretR C hr hlk dX6_count_160
  refine V_case (fun c8 => ?_) (fun c8 => ?_)
  · refine V_tsIn (tgt := 161) C c8 dX6_count_1 (by decide) (by decide) rfl (by decide) ?_
    refine V_aload_n C 0 dX6_count_161 rfl rfl ?_
    refine V_get (v := .ref (a 1)) C fx6 0 0 kf_X6_12 (by decide) rfl rfl dX6_count_162 ?_
    refine V_get (v := .ref (a 9)) C fx2 1 1 kf_X6_129 (by decide) rfl rfl dX6_count_165 ?_
    refine V_get (v := .int u.1.2.1.2.2.2) C fx4 9 3 kf_X6_133 (by decide) rfl rfl dX6_count_168 ?_
    exact V_iretR C hr hlk dX6_count_171
  refine V_case (fun c9 => ?_) (fun c9 => ?_)
  · refine V_tsIn (tgt := 172) C c9 dX6_count_1 (by decide) (by decide) rfl (by decide) ?_
    refine V_aload_n C 0 dX6_count_172 rfl rfl ?_
    refine V_get (v := .ref (a 1)) C fx6 0 0 kf_X6_12 (by decide) rfl rfl dX6_count_173 ?_
    refine V_get (v := .int u.1.2.2.2.2.2.2.2.2.2) C fx2 1 9 kf_X6_195 (by decide) rfl rfl dX6_count_176 ?_
    exact V_iretR C hr hlk dX6_count_179
  refine V_case (fun c10 => ?_) (fun c10 => ?_)
  · refine V_tsIn (tgt := 180) C c10 dX6_count_1 (by decide) (by decide) rfl (by decide) ?_
    refine V_aload_n C 0 dX6_count_180 rfl rfl ?_
    refine V_get (v := .ref (a 1)) C fx6 0 0 kf_X6_12 (by decide) rfl rfl dX6_count_181 ?_
    refine V_get (v := .int u.1.2.2.2.2.2.2.2.2.1) C fx2 1 8 kf_X6_162 (by decide) rfl rfl dX6_count_184 ?_
    exact V_iretR C hr hlk dX6_count_187
  refine V_case (fun c11 => ?_) (fun c11 => ?_)
  · refine V_tsIn (tgt := 188) C c11 dX6_count_1 (by decide) (by decide) rfl (by decide) ?_
    refine V_aload_n C 0 dX6_count_188 rfl rfl ?_
    refine V_get (v := .ref (a 1)) C fx6 0 0 kf_X6_12 (by decide) rfl rfl dX6_count_189 ?_
    refine V_iconst (v := 0) C dX6_count_192 (by decide) ?_
    refine V_callRi (As := [.int 0]) (rest := []) (wc := WL d (fun i => a (i + 1)) u.1) C (fun r h => ct_X2_inDrive _ d (fun i => a (i + 1)) u.1 0 r h) kv_X2_inDrive kl_X6_198 [1, 2, 3, 4, 5, 6, 7, 8, 9, 10, 11, 12] dX6_count_193 (emb_M_L_0 d _ _) rfl rfl rfl (Nat.le_of_ble_eq_true rfl) ⟨(Nat.le_of_ble_eq_true rfl), (Nat.le_of_ble_eq_true rfl)⟩ rfl rfl ⟨Nat.le_refl _, Nat.le_refl _⟩ rfl (fun r193 hr193 => ?_)
    refine V_callSi (As := [.int r193]) (rest := []) (wc := []) C (fun r h => ct_X6_found _ d r193 r h) ks_X6_found kl_X6_119 [] dX6_count_196 rfl rfl (Nat.le_of_ble_eq_true rfl) ⟨(Nat.le_of_ble_eq_true rfl), (Nat.le_of_ble_eq_true rfl)⟩ rfl rfl ⟨Nat.le_refl _, Nat.le_refl _⟩ rfl (fun r196 hr196 => ?_)
    exact V_iretR C hr hlk dX6_count_199
  refine V_case (fun c12 => ?_) (fun c12 => ?_)
  · refine V_tsIn (tgt := 200) C c12 dX6_count_1 (by decide) (by decide) rfl (by decide) ?_
    refine V_aload_n C 0 dX6_count_200 rfl rfl ?_
    refine V_get (v := .ref (a 1)) C fx6 0 0 kf_X6_12 (by decide) rfl rfl dX6_count_201 ?_
    refine V_iconst (v := 1) C dX6_count_204 (by decide) ?_
    refine V_callRi (As := [.int 1]) (rest := []) (wc := WL d (fun i => a (i + 1)) u.1) C (fun r h => ct_X2_inDrive _ d (fun i => a (i + 1)) u.1 1 r h) kv_X2_inDrive kl_X6_198 [1, 2, 3, 4, 5, 6, 7, 8, 9, 10, 11, 12] dX6_count_205 (emb_M_L_0 d _ _) rfl rfl rfl (Nat.le_of_ble_eq_true rfl) ⟨(Nat.le_of_ble_eq_true rfl), (Nat.le_of_ble_eq_true rfl)⟩ rfl rfl ⟨Nat.le_refl _, Nat.le_refl _⟩ rfl (fun r205 hr205 => ?_)
    refine V_callSi (As := [.int r205]) (rest := []) (wc := []) C (fun r h => ct_X6_found _ d r205 r h) ks_X6_found kl_X6_119 [] dX6_count_208 rfl rfl (Nat.le_of_ble_eq_true rfl) ⟨(Nat.le_of_ble_eq_true rfl), (Nat.le_of_ble_eq_true rfl)⟩ rfl rfl ⟨Nat.le_refl _, Nat.le_refl _⟩ rfl (fun r208 hr208 => ?_)
    exact V_iretR C hr hlk dX6_count_211
  refine V_case (fun c13 => ?_) (fun c13 => ?_)
  · refine V_tsIn (tgt := 212) C c13 dX6_count_1 (by decide) (by decide) rfl (by decide) ?_
    refine V_aload_n C 0 dX6_count_212 rfl rfl ?_
    refine V_get (v := .ref (a 1)) C fx6 0 0 kf_X6_12 (by decide) rfl rfl dX6_count_213 ?_
    refine V_get (v := .ref (a 2)) C fx2 1 0 kf_X6_77 (by decide) rfl rfl dX6_count_216 ?_
    refine V_callRi (As := []) (rest := []) (wc := WC d (fun i => a (i + 2)) u.1.1) C (fun r h => ct_X0_filesHeld _ d (fun i => a (i + 2)) u.1.1 r h) kv_X0_filesHeld kl_X6_201 [2, 3, 4, 5, 6, 7, 8] dX6_count_219 (emb_M_C_00 d _ _) rfl rfl rfl (Nat.le_of_ble_eq_true rfl) ⟨(Nat.le_of_ble_eq_true rfl), (Nat.le_of_ble_eq_true rfl)⟩ rfl rfl ⟨Nat.le_refl _, Nat.le_refl _⟩ rfl (fun r219 hr219 => ?_)
    exact V_iretR C hr hlk dX6_count_222
  refine V_case (fun c14 => ?_) (fun c14 => ?_)
  · refine V_tsIn (tgt := 223) C c14 dX6_count_1 (by decide) (by decide) rfl (by decide) ?_
    refine V_aload_n C 0 dX6_count_223 rfl rfl ?_
    refine V_get (v := .ref (a 25)) C fx6 0 2 kf_X6_22 (by decide) rfl rfl dX6_count_224 ?_
    refine V_get (v := .int u.2.2.1.2.2.2.2.2) C fx1 25 2 kf_X6_204 (by decide) rfl rfl dX6_count_227 ?_
    exact V_iretR C hr hlk dX6_count_230
  refine V_case (fun c15 => ?_) (fun c15 => ?_)
  · refine V_tsIn (tgt := 231) C c15 dX6_count_1 (by decide) (by decide) rfl (by decide) ?_
    refine V_aload_n C 0 dX6_count_231 rfl rfl ?_
    refine V_get (v := .ref (a 75)) C fx6 0 3 kf_X6_29 (by decide) rfl rfl dX6_count_232 ?_
    refine V_get (v := .int u.2.2.2.2.1) C fx3 75 1 kf_X6_205 (by decide) rfl rfl dX6_count_235 ?_
    exact V_iretR C hr hlk dX6_count_238
  have i0 := neInt c0 (k := 0) (by decide)
  have i1 := neInt c1 (k := 1) (by decide)
  have i2 := neInt c2 (k := 2) (by decide)
  have i3 := neInt c3 (k := 3) (by decide)
  have i4 := neInt c4 (k := 4) (by decide)
  have i5 := neInt c5 (k := 5) (by decide)
  have i6 := neInt c6 (k := 6) (by decide)
  have i7 := neInt c7 (k := 7) (by decide)
  have i8 := neInt c8 (k := 8) (by decide)
  have i9 := neInt c9 (k := 9) (by decide)
  have i10 := neInt c10 (k := 10) (by decide)
  have i11 := neInt c11 (k := 11) (by decide)
  have i12 := neInt c12 (k := 12) (by decide)
  have i13 := neInt c13 (k := 13) (by decide)
  have i14 := neInt c14 (k := 14) (by decide)
  have i15 := neInt c15 (k := 15) (by decide)
  refine V_tsOut (tgt := 239) C dX6_count_1 (by omega) (by decide) ?_
  refine V_ldc C kc_X6_87 dX6_count_239 ?_
  exact V_iretR C hr hlk dX6_count_241
set_option maxRecDepth 20000 in
theorem ct_X6_count (l : Launch) (d : Dt) (a : Nat → Nat) (u : UM) (p1 : Int32) (z : Int32) (h : f_X6_count u p1 = some z) : CtR l d yX6_count cX6_count 2 (some .int) (rmF 3 64) [.ref (a 0), .int p1] (WM d a u) (some (.int z)) :=
  CtR.start (by decide) (Nat.le_of_ble_eq_true rfl) (by simp [Value.category]) [some (.ref (a 0)), some (.int p1)] rfl (fun x C hr hlk => V_eqv (fun _ => h) (v_X6_count C hr hlk z u p1))

/-! MastRobots.undo -/
def f_X6_undo (u : UM) : Option (Int32 × UM) :=
  ((f_X1_restore (u.2.2.1, u.1)).bind fun r8 => some (r8.1, (r8.2.2, u.2.1, r8.2.1, u.2.2.2)))
set_option maxRecDepth 20000 in
theorem v_X6_undo {x : Am} {d : Dt} {A : Nat → Prop} {a : Nat → Nat} (C : Cx x cX6_undo 1 yX6_undo.cls d (Imu d A x.s.heap)) (hr : x.meth.sig.returnType = (some .int)) (hlk : x.meth.locks = false) (z : Int32 × UM) (u : UM) : V x (rmF 5 158) 0 0 (MQ x.below (QW d A (WM d a z.2) (some (.int z.1))) x.args x.s 0 0 A) 1 (Imu d A x.s.heap) (f_X6_undo u = some z) 0 (WM d a u) [some (.ref (a 0))] [] := by
  unfold f_X6_undo
  refine V_aload_n C 0 dX6_undo_0 rfl rfl ?_
  refine V_get (v := .ref (a 25)) C fx6 0 2 kf_X6_22 (by decide) rfl rfl dX6_undo_1 ?_
  refine V_aload_n C 0 dX6_undo_4 rfl rfl ?_
  refine V_get (v := .ref (a 1)) C fx6 0 0 kf_X6_12 (by decide) rfl rfl dX6_undo_5 ?_
  refine V_callWi (As := [.ref (a 1)]) (rest := []) (wc := WHL d (fun i => a (i + 25)) (fun i => a (i + 1)) (u.2.2.1, u.1)) (Wd := fun w => WHL d (fun i => a (i + 25)) (fun i => a (i + 1)) w) C (fun r h => ct_X1_restore _ d (fun i => a (i + 25)) (fun i => a (i + 1)) (u.2.2.1, u.1) r h) kv_X1_restore kl_X6_208 [25, 26, 27, 28, 29, 30, 31, 32, 33, 34, 35, 36, 37, 38, 39, 40, 41, 42, 43, 44, 45, 46, 47, 48, 49, 50, 51, 52, 53, 54, 55, 56, 57, 58, 59, 60, 61, 62, 63, 64, 65, 66, 67, 68, 69, 70, 71, 72, 73, 74, 1, 2, 3, 4, 5, 6, 7, 8, 9, 10, 11, 12] (fun w => WM d a (w.2, u.2.1, w.1, u.2.2.2)) dX6_undo_8 (emb_M_HL_2_0 d _ _) rfl (fun _ => fst_HL d _ _ _ _) (fun _ => put_M_HL_2_0 d _ _ _) rfl rfl rfl (Nat.le_of_ble_eq_true rfl) ⟨(Nat.le_of_ble_eq_true rfl), (Nat.le_of_ble_eq_true rfl)⟩ rfl rfl ⟨Nat.le_refl _, Nat.le_refl _⟩ rfl (fun r8 hr8 => ?_)
  exact V_iretW (Wd := fun w => WM d a w) C hr hlk dX6_undo_11 rfl
set_option maxRecDepth 20000 in
theorem ct_X6_undo (l : Launch) (d : Dt) (a : Nat → Nat) (u : UM) (z : Int32 × UM) (h : f_X6_undo u = some z) : CtW l d yX6_undo cX6_undo 1 (some .int) (rmF 5 158) [.ref (a 0)] (WM d a u) (WM d a z.2) (some (.int z.1)) :=
  CtW.start (by decide) (Nat.le_of_ble_eq_true rfl) (by simp [Value.category]) [some (.ref (a 0))] rfl (fun x A C hr hlk => V_eqv (fun _ => h) (v_X6_undo C hr hlk z u))

/-! MastRobots.type -/
def f_X6_type (u : UM) (p1 : Int32) : Option (Int32 × UM) :=
  ((f_X3_append u.2.2.2 p1).bind fun r5 => some (r5.1, (u.1, u.2.1, u.2.2.1, r5.2)))
set_option maxRecDepth 20000 in
theorem v_X6_type {x : Am} {d : Dt} {A : Nat → Prop} {a : Nat → Nat} (C : Cx x cX6_type 2 yX6_type.cls d (Imu d A x.s.heap)) (hr : x.meth.sig.returnType = (some .int)) (hlk : x.meth.locks = false) (z : Int32 × UM) (u : UM) (p1 : Int32) : V x (rmF 2 43) 0 0 (MQ x.below (QW d A (WM d a z.2) (some (.int z.1))) x.args x.s 0 0 A) 2 (Imu d A x.s.heap) (f_X6_type u p1 = some z) 0 (WM d a u) [some (.ref (a 0)), some (.int p1)] [] := by
  unfold f_X6_type
  refine V_aload_n C 0 dX6_type_0 rfl rfl ?_
  refine V_get (v := .ref (a 75)) C fx6 0 3 kf_X6_29 (by decide) rfl rfl dX6_type_1 ?_
  refine V_iload_n C 1 dX6_type_4 rfl rfl ?_
  refine V_callWi (As := [.int p1]) (rest := []) (wc := WO d (fun i => a (i + 75)) u.2.2.2) (Wd := fun w => WO d (fun i => a (i + 75)) w) C (fun r h => ct_X3_append _ d (fun i => a (i + 75)) u.2.2.2 p1 r h) kv_X3_append kl_X6_212 [75, 76] (fun w => WM d a (u.1, u.2.1, u.2.2.1, w)) dX6_type_5 (emb_M_O_3 d _ _) rfl (fun _ => fst_O d _ _ _) (fun _ => put_M_O_3 d _ _ _) rfl rfl rfl (Nat.le_of_ble_eq_true rfl) ⟨(Nat.le_of_ble_eq_true rfl), (Nat.le_of_ble_eq_true rfl)⟩ rfl rfl ⟨Nat.le_refl _, Nat.le_refl _⟩ rfl (fun r5 hr5 => ?_)
  exact V_iretW (Wd := fun w => WM d a w) C hr hlk dX6_type_8 rfl
set_option maxRecDepth 20000 in
theorem ct_X6_type (l : Launch) (d : Dt) (a : Nat → Nat) (u : UM) (p1 : Int32) (z : Int32 × UM) (h : f_X6_type u p1 = some z) : CtW l d yX6_type cX6_type 2 (some .int) (rmF 2 43) [.ref (a 0), .int p1] (WM d a u) (WM d a z.2) (some (.int z.1)) :=
  CtW.start (by decide) (Nat.le_of_ble_eq_true rfl) (by simp [Value.category]) [some (.ref (a 0)), some (.int p1)] rfl (fun x A C hr hlk => V_eqv (fun _ => h) (v_X6_type C hr hlk z u p1))

/-! MastRobots.clearText -/
def f_X6_clearText (u : UM) : Option (Int32 × UM) :=
  ((f_X3_empty u.2.2.2).bind fun r4 => some (r4.1, (u.1, u.2.1, u.2.2.1, r4.2)))
set_option maxRecDepth 20000 in
theorem v_X6_clearText {x : Am} {d : Dt} {A : Nat → Prop} {a : Nat → Nat} (C : Cx x cX6_clearText 1 yX6_clearText.cls d (Imu d A x.s.heap)) (hr : x.meth.sig.returnType = (some .int)) (hlk : x.meth.locks = false) (z : Int32 × UM) (u : UM) : V x (rmF 1 21) 0 0 (MQ x.below (QW d A (WM d a z.2) (some (.int z.1))) x.args x.s 0 0 A) 1 (Imu d A x.s.heap) (f_X6_clearText u = some z) 0 (WM d a u) [some (.ref (a 0))] [] := by
  unfold f_X6_clearText
  refine V_aload_n C 0 dX6_clearText_0 rfl rfl ?_
  refine V_get (v := .ref (a 75)) C fx6 0 3 kf_X6_29 (by decide) rfl rfl dX6_clearText_1 ?_
  refine V_callWi (As := []) (rest := []) (wc := WO d (fun i => a (i + 75)) u.2.2.2) (Wd := fun w => WO d (fun i => a (i + 75)) w) C (fun r h => ct_X3_empty _ d (fun i => a (i + 75)) u.2.2.2 r h) kv_X3_empty kl_X6_215 [75, 76] (fun w => WM d a (u.1, u.2.1, u.2.2.1, w)) dX6_clearText_4 (emb_M_O_3 d _ _) rfl (fun _ => fst_O d _ _ _) (fun _ => put_M_O_3 d _ _ _) rfl rfl rfl (Nat.le_of_ble_eq_true rfl) ⟨(Nat.le_of_ble_eq_true rfl), (Nat.le_of_ble_eq_true rfl)⟩ rfl rfl ⟨Nat.le_refl _, Nat.le_refl _⟩ rfl (fun r4 hr4 => ?_)
  exact V_iretW (Wd := fun w => WM d a w) C hr hlk dX6_clearText_7 rfl
set_option maxRecDepth 20000 in
theorem ct_X6_clearText (l : Launch) (d : Dt) (a : Nat → Nat) (u : UM) (z : Int32 × UM) (h : f_X6_clearText u = some z) : CtW l d yX6_clearText cX6_clearText 1 (some .int) (rmF 1 21) [.ref (a 0)] (WM d a u) (WM d a z.2) (some (.int z.1)) :=
  CtW.start (by decide) (Nat.le_of_ble_eq_true rfl) (by simp [Value.category]) [some (.ref (a 0))] rfl (fun x A C hr hlk => V_eqv (fun _ => h) (v_X6_clearText C hr hlk z u))
