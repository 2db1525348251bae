/-! MastRobots$History.record -/
def f_X1_record (u : (UH × UL)) : Option ((UH × UL)) :=
  (if u.1.2.2.2.2.1 = 0 then ((f_X2_copyFrom (u.1.1, u.2)).bind fun r15 => some ((r15.1, u.1.2.1, u.1.2.2.1, u.1.2.2.2.1, (jrem (u.1.2.2.2.2.1 + 1) 4), (jmin (u.1.2.2.2.2.2 + 1) 4)), r15.2)) else (if u.1.2.2.2.2.1 = 1 then ((f_X2_copyFrom (u.1.2.1, u.2)).bind fun r15 => some ((u.1.1, r15.1, u.1.2.2.1, u.1.2.2.2.1, (jrem (u.1.2.2.2.2.1 + 1) 4), (jmin (u.1.2.2.2.2.2 + 1) 4)), r15.2)) else (if u.1.2.2.2.2.1 = 2 then ((f_X2_copyFrom (u.1.2.2.1, u.2)).bind fun r15 => some ((u.1.1, u.1.2.1, r15.1, u.1.2.2.2.1, (jrem (u.1.2.2.2.2.1 + 1) 4), (jmin (u.1.2.2.2.2.2 + 1) 4)), r15.2)) else (if u.1.2.2.2.2.1 = 3 then ((f_X2_copyFrom (u.1.2.2.2.1, u.2)).bind fun r15 => some ((u.1.1, u.1.2.1, u.1.2.2.1, r15.1, (jrem (u.1.2.2.2.2.1 + 1) 4), (jmin (u.1.2.2.2.2.2 + 1) 4)), r15.2)) else none))))
set_option maxRecDepth 20000 in
theorem v_X1_record {x : Am} {d : Dt} {A : Nat → Prop} {a : Nat → Nat} {b : Nat → Nat} (C : Cx x cX1_record 3 yX1_record.cls d (Imu d A x.s.heap)) (hr : x.meth.sig.returnType = none) (hlk : x.meth.locks = false) (z : (UH × UL)) (u : (UH × UL)) : V x (rmF 4 135) 0 0 (MQ x.below (QW d A (WHL d a b z) none) x.args x.s 0 0 A) 3 (Imu d A x.s.heap) (f_X1_record u = some z) 0 (WHL d a b u) [some (.ref (a 0)), some (.ref (b 0)), none] [] := by
  unfold f_X1_record
  refine V_aload_n C 0 dX1_record_0 rfl rfl ?_
  refine V_aload_n C 0 dX1_record_1 rfl rfl ?_
  refine V_get (v := .int u.1.2.2.2.2.1) C fx1 0 1 kf_X1_18 (by decide) rfl rfl dX1_record_2 ?_
  refine V_case (fun c0 => ?_) (fun c0 => ?_)
  · refine V_callRx (As := [.int u.1.2.2.2.2.1]) (rest := []) (wc := WH d a u.1) C (ct_X1_stateAt_0 _ d a u.1 u.1.2.2.2.2.1 c0) kv_X1_stateAt kl_X1_22 [0, 1, 2, 3, 4, 5, 6, 7, 8, 9, 10, 11, 12, 13, 14, 15, 16, 17, 18, 19, 20, 21, 22, 23, 24, 25, 26, 27, 28, 29, 30, 31, 32, 33, 34, 35, 36, 37, 38, 39, 40, 41, 42, 43, 44, 45, 46, 47, 48, 49] dX1_record_5 rfl rfl rfl rfl (Nat.le_of_ble_eq_true rfl) ⟨(Nat.le_of_ble_eq_true rfl), (Nat.le_of_ble_eq_true rfl)⟩ rfl rfl ⟨Nat.le_refl _, Nat.le_refl _⟩ rfl ?_
    refine V_astore_n (lv' := [some (.ref (a 0)), some (.ref (b 0)), some (.ref (a 2))]) C 2 dX1_record_8 rfl (by decide) rfl ?_
    refine V_aload_n C 2 dX1_record_9 rfl rfl ?_
    refine V_ifnull C dX1_record_10 ?_
    refine V_aload_n C 2 dX1_record_13 rfl rfl ?_
    refine V_aload_n C 1 dX1_record_14 rfl rfl ?_
    refine V_callWv (As := [.ref (b 0)]) (rest := []) (wc := WLL d (fun i => a (i + 2)) b (u.1.1, u.2)) (Wd := fun w => WLL d (fun i => a (i + 2)) b w) C (fun r h => ct_X2_copyFrom _ d (fun i => a (i + 2)) b (u.1.1, u.2) r h) kv_X2_copyFrom kl_X1_26 [2, 3, 4, 5, 6, 7, 8, 9, 10, 11, 12, 13, 50, 51, 52, 53, 54, 55, 56, 57, 58, 59, 60, 61] (fun w => WHL d a b ((w.1, u.1.2.1, u.1.2.2.1, u.1.2.2.2.1, u.1.2.2.2.2.1, u.1.2.2.2.2.2), w.2)) dX1_record_15 (emb_HL_LL_00_1 d _ _ _) rfl (fun _ => fst_LL d _ _ _ _) (fun _ => put_HL_LL_00_1 d _ _ _ _) rfl rfl rfl (Nat.le_of_ble_eq_true rfl) ⟨(Nat.le_of_ble_eq_true rfl), (Nat.le_of_ble_eq_true rfl)⟩ rfl rfl ⟨Nat.le_refl _, Nat.le_refl _⟩ rfl (fun r15 hr15 => ?_)
    refine V_aload_n C 0 dX1_record_18 rfl rfl ?_
    refine V_aload_n C 0 dX1_record_19 rfl rfl ?_
    refine V_get (v := .int u.1.2.2.2.2.1) C fx1 0 1 kf_X1_18 (by decide) rfl rfl dX1_record_20 ?_
    refine V_iconst (v := 1) C dX1_record_23 (by decide) ?_
    refine V_iadd C dX1_record_24 ?_
    refine V_iconst (v := 4) C dX1_record_25 (by decide) ?_
    refine V_irem C dX1_record_26 (by decide) ?_
    refine V_putI (ws' := WHL d a b ((r15.1, u.1.2.1, u.1.2.2.1, u.1.2.2.2.1, (jrem (u.1.2.2.2.2.1 + 1) 4), u.1.2.2.2.2.2), r15.2)) C fx1 0 1 kf_X1_18 (by decide) rfl rfl rfl (Nat.le_of_ble_eq_true rfl) rfl dX1_record_27 ?_
    refine V_aload_n C 0 dX1_record_30 rfl rfl ?_
    refine V_aload_n C 0 dX1_record_31 rfl rfl ?_
    refine V_get (v := .int u.1.2.2.2.2.2) C fx1 0 2 kf_X1_30 (by decide) rfl rfl dX1_record_32 ?_
    refine V_iconst (v := 1) C dX1_record_35 (by decide) ?_
    refine V_iadd C dX1_record_36 ?_
    refine V_iconst (v := 4) C dX1_record_37 (by decide) ?_
    refine V_mmin C kl_X1_33 km_min_st km_ini km_min_code dX1_record_38 ⟨(Nat.le_of_ble_eq_true rfl), (Nat.le_of_ble_eq_true rfl), Nat.zero_le _, Nat.zero_le _⟩ ?_
    refine V_putI (ws' := WHL d a b ((r15.1, u.1.2.1, u.1.2.2.1, u.1.2.2.2.1, (jrem (u.1.2.2.2.2.1 + 1) 4), (jmin (u.1.2.2.2.2.2 + 1) 4)), r15.2)) C fx1 0 2 kf_X1_30 (by decide) rfl rfl rfl (Nat.le_of_ble_eq_true rfl) rfl dX1_record_41 ?_
    exact V_vretW (Wd := fun w => WHL d a b w) C hr hlk dX1_record_44 rfl
  refine V_case (fun c1 => ?_) (fun c1 => ?_)
  · refine V_callRx (As := [.int u.1.2.2.2.2.1]) (rest := []) (wc := WH d a u.1) C (ct_X1_stateAt_1 _ d a u.1 u.1.2.2.2.2.1 c1) kv_X1_stateAt kl_X1_22 [0, 1, 2, 3, 4, 5, 6, 7, 8, 9, 10, 11, 12, 13, 14, 15, 16, 17, 18, 19, 20, 21, 22, 23, 24, 25, 26, 27, 28, 29, 30, 31, 32, 33, 34, 35, 36, 37, 38, 39, 40, 41, 42, 43, 44, 45, 46, 47, 48, 49] dX1_record_5 rfl rfl rfl rfl (Nat.le_of_ble_eq_true rfl) ⟨(Nat.le_of_ble_eq_true rfl), (Nat.le_of_ble_eq_true rfl)⟩ rfl rfl ⟨Nat.le_refl _, Nat.le_refl _⟩ rfl ?_
    refine V_astore_n (lv' := [some (.ref (a 0)), some (.ref (b 0)), some (.ref (a 14))]) C 2 dX1_record_8 rfl (by decide) rfl ?_
    refine V_aload_n C 2 dX1_record_9 rfl rfl ?_
    refine V_ifnull C dX1_record_10 ?_
    refine V_aload_n C 2 dX1_record_13 rfl rfl ?_
    refine V_aload_n C 1 dX1_record_14 rfl rfl ?_
    refine V_callWv (As := [.ref (b 0)]) (rest := []) (wc := WLL d (fun i => a (i + 14)) b (u.1.2.1, u.2)) (Wd := fun w => WLL d (fun i => a (i + 14)) b w) C (fun r h => ct_X2_copyFrom _ d (fun i => a (i + 14)) b (u.1.2.1, u.2) r h) kv_X2_copyFrom kl_X1_26 [14, 15, 16, 17, 18, 19, 20, 21, 22, 23, 24, 25, 50, 51, 52, 53, 54, 55, 56, 57, 58, 59, 60, 61] (fun w => WHL d a b ((u.1.1, w.1, u.1.2.2.1, u.1.2.2.2.1, u.1.2.2.2.2.1, u.1.2.2.2.2.2), w.2)) dX1_record_15 (emb_HL_LL_01_1 d _ _ _) rfl (fun _ => fst_LL d _ _ _ _) (fun _ => put_HL_LL_01_1 d _ _ _ _) rfl rfl rfl (Nat.le_of_ble_eq_true rfl) ⟨(Nat.le_of_ble_eq_true rfl), (Nat.le_of_ble_eq_true rfl)⟩ rfl rfl ⟨Nat.le_refl _, Nat.le_refl _⟩ rfl (fun r15 hr15 => ?_)
    refine V_aload_n C 0 dX1_record_18 rfl rfl ?_
    refine V_aload_n C 0 dX1_record_19 rfl rfl ?_
    refine V_get (v := .int u.1.2.2.2.2.1) C fx1 0 1 kf_X1_18 (by decide) rfl rfl dX1_record_20 ?_
    refine V_iconst (v := 1) C dX1_record_23 (by decide) ?_
    refine V_iadd C dX1_record_24 ?_
    refine V_iconst (v := 4) C dX1_record_25 (by decide) ?_
    refine V_irem C dX1_record_26 (by decide) ?_
    refine V_putI (ws' := WHL d a b ((u.1.1, r15.1, u.1.2.2.1, u.1.2.2.2.1, (jrem (u.1.2.2.2.2.1 + 1) 4), u.1.2.2.2.2.2), r15.2)) C fx1 0 1 kf_X1_18 (by decide) rfl rfl rfl (Nat.le_of_ble_eq_true rfl) rfl dX1_record_27 ?_
    refine V_aload_n C 0 dX1_record_30 rfl rfl ?_
    refine V_aload_n C 0 dX1_record_31 rfl rfl ?_
    refine V_get (v := .int u.1.2.2.2.2.2) C fx1 0 2 kf_X1_30 (by decide) rfl rfl dX1_record_32 ?_
    refine V_iconst (v := 1) C dX1_record_35 (by decide) ?_
    refine V_iadd C dX1_record_36 ?_
    refine V_iconst (v := 4) C dX1_record_37 (by decide) ?_
    refine V_mmin C kl_X1_33 km_min_st km_ini km_min_code dX1_record_38 ⟨(Nat.le_of_ble_eq_true rfl), (Nat.le_of_ble_eq_true rfl), Nat.zero_le _, Nat.zero_le _⟩ ?_
    refine V_putI (ws' := WHL d a b ((u.1.1, r15.1, u.1.2.2.1, u.1.2.2.2.1, (jrem (u.1.2.2.2.2.1 + 1) 4), (jmin (u.1.2.2.2.2.2 + 1) 4)), r15.2)) C fx1 0 2 kf_X1_30 (by decide) rfl rfl rfl (Nat.le_of_ble_eq_true rfl) rfl dX1_record_41 ?_
    exact V_vretW (Wd := fun w => WHL d a b w) C hr hlk dX1_record_44 rfl
  refine V_case (fun c2 => ?_) (fun c2 => ?_)
  · refine V_callRx (As := [.int u.1.2.2.2.2.1]) (rest := []) (wc := WH d a u.1) C (ct_X1_stateAt_2 _ d a u.1 u.1.2.2.2.2.1 c2) kv_X1_stateAt kl_X1_22 [0, 1, 2, 3, 4, 5, 6, 7, 8, 9, 10, 11, 12, 13, 14, 15, 16, 17, 18, 19, 20, 21, 22, 23, 24, 25, 26, 27, 28, 29, 30, 31, 32, 33, 34, 35, 36, 37, 38, 39, 40, 41, 42, 43, 44, 45, 46, 47, 48, 49] dX1_record_5 rfl rfl rfl rfl (Nat.le_of_ble_eq_true rfl) ⟨(Nat.le_of_ble_eq_true rfl), (Nat.le_of_ble_eq_true rfl)⟩ rfl rfl ⟨Nat.le_refl _, Nat.le_refl _⟩ rfl ?_
    refine V_astore_n (lv' := [some (.ref (a 0)), some (.ref (b 0)), some (.ref (a 26))]) C 2 dX1_record_8 rfl (by decide) rfl ?_
    refine V_aload_n C 2 dX1_record_9 rfl rfl ?_
    refine V_ifnull C dX1_record_10 ?_
    refine V_aload_n C 2 dX1_record_13 rfl rfl ?_
    refine V_aload_n C 1 dX1_record_14 rfl rfl ?_
    refine V_callWv (As := [.ref (b 0)]) (rest := []) (wc := WLL d (fun i => a (i + 26)) b (u.1.2.2.1, u.2)) (Wd := fun w => WLL d (fun i => a (i + 26)) b w) C (fun r h => ct_X2_copyFrom _ d (fun i => a (i + 26)) b (u.1.2.2.1, u.2) r h) kv_X2_copyFrom kl_X1_26 [26, 27, 28, 29, 30, 31, 32, 33, 34, 35, 36, 37, 50, 51, 52, 53, 54, 55, 56, 57, 58, 59, 60, 61] (fun w => WHL d a b ((u.1.1, u.1.2.1, w.1, u.1.2.2.2.1, u.1.2.2.2.2.1, u.1.2.2.2.2.2), w.2)) dX1_record_15 (emb_HL_LL_02_1 d _ _ _) rfl (fun _ => fst_LL d _ _ _ _) (fun _ => put_HL_LL_02_1 d _ _ _ _) rfl rfl rfl (Nat.le_of_ble_eq_true rfl) ⟨(Nat.le_of_ble_eq_true rfl), (Nat.le_of_ble_eq_true rfl)⟩ rfl rfl ⟨Nat.le_refl _, Nat.le_refl _⟩ rfl (fun r15 hr15 => ?_)
    refine V_aload_n C 0 dX1_record_18 rfl rfl ?_
    refine V_aload_n C 0 dX1_record_19 rfl rfl ?_
    refine V_get (v := .int u.1.2.2.2.2.1) C fx1 0 1 kf_X1_18 (by decide) rfl rfl dX1_record_20 ?_
    refine V_iconst (v := 1) C dX1_record_23 (by decide) ?_
    refine V_iadd C dX1_record_24 ?_
    refine V_iconst (v := 4) C dX1_record_25 (by decide) ?_
    refine V_irem C dX1_record_26 (by decide) ?_
    refine V_putI (ws' := WHL d a b ((u.1.1, u.1.2.1, r15.1, u.1.2.2.2.1, (jrem (u.1.2.2.2.2.1 + 1) 4), u.1.2.2.2.2.2), r15.2)) C fx1 0 1 kf_X1_18 (by decide) rfl rfl rfl (Nat.le_of_ble_eq_true rfl) rfl dX1_record_27 ?_
    refine V_aload_n C 0 dX1_record_30 rfl rfl ?_
    refine V_aload_n C 0 dX1_record_31 rfl rfl ?_
    refine V_get (v := .int u.1.2.2.2.2.2) C fx1 0 2 kf_X1_30 (by decide) rfl rfl dX1_record_32 ?_
    refine V_iconst (v := 1) C dX1_record_35 (by decide) ?_
    refine V_iadd C dX1_record_36 ?_
    refine V_iconst (v := 4) C dX1_record_37 (by decide) ?_
    refine V_mmin C kl_X1_33 km_min_st km_ini km_min_code dX1_record_38 ⟨(Nat.le_of_ble_eq_true rfl), (Nat.le_of_ble_eq_true rfl), Nat.zero_le _, Nat.zero_le _⟩ ?_
    refine V_putI (ws' := WHL d a b ((u.1.1, u.1.2.1, r15.1, u.1.2.2.2.1, (jrem (u.1.2.2.2.2.1 + 1) 4), (jmin (u.1.2.2.2.2.2 + 1) 4)), r15.2)) C fx1 0 2 kf_X1_30 (by decide) rfl rfl rfl (Nat.le_of_ble_eq_true rfl) rfl dX1_record_41 ?_
    exact V_vretW (Wd := fun w => WHL d a b w) C hr hlk dX1_record_44 rfl
  refine V_case (fun c3 => ?_) (fun c3 => ?_)
  · refine V_callRx (As := [.int u.1.2.2.2.2.1]) (rest := []) (wc := WH d a u.1) C (ct_X1_stateAt_3 _ d a u.1 u.1.2.2.2.2.1 c3) kv_X1_stateAt kl_X1_22 [0, 1, 2, 3, 4, 5, 6, 7, 8, 9, 10, 11, 12, 13, 14, 15, 16, 17, 18, 19, 20, 21, 22, 23, 24, 25, 26, 27, 28, 29, 30, 31, 32, 33, 34, 35, 36, 37, 38, 39, 40, 41, 42, 43, 44, 45, 46, 47, 48, 49] dX1_record_5 rfl rfl rfl rfl (Nat.le_of_ble_eq_true rfl) ⟨(Nat.le_of_ble_eq_true rfl), (Nat.le_of_ble_eq_true rfl)⟩ rfl rfl ⟨Nat.le_refl _, Nat.le_refl _⟩ rfl ?_
    refine V_astore_n (lv' := [some (.ref (a 0)), some (.ref (b 0)), some (.ref (a 38))]) C 2 dX1_record_8 rfl (by decide) rfl ?_
    refine V_aload_n C 2 dX1_record_9 rfl rfl ?_
    refine V_ifnull C dX1_record_10 ?_
    refine V_aload_n C 2 dX1_record_13 rfl rfl ?_
    refine V_aload_n C 1 dX1_record_14 rfl rfl ?_
    refine V_callWv (As := [.ref (b 0)]) (rest := []) (wc := WLL d (fun i => a (i + 38)) b (u.1.2.2.2.1, u.2)) (Wd := fun w => WLL d (fun i => a (i + 38)) b w) C (fun r h => ct_X2_copyFrom _ d (fun i => a (i + 38)) b (u.1.2.2.2.1, u.2) r h) kv_X2_copyFrom kl_X1_26 [38, 39, 40, 41, 42, 43, 44, 45, 46, 47, 48, 49, 50, 51, 52, 53, 54, 55, 56, 57, 58, 59, 60, 61] (fun w => WHL d a b ((u.1.1, u.1.2.1, u.1.2.2.1, w.1, u.1.2.2.2.2.1, u.1.2.2.2.2.2), w.2)) dX1_record_15 (emb_HL_LL_03_1 d _ _ _) rfl (fun _ => fst_LL d _ _ _ _) (fun _ => put_HL_LL_03_1 d _ _ _ _) rfl rfl rfl (Nat.le_of_ble_eq_true rfl) ⟨(Nat.le_of_ble_eq_true rfl), (Nat.le_of_ble_eq_true rfl)⟩ rfl rfl ⟨Nat.le_refl _, Nat.le_refl _⟩ rfl (fun r15 hr15 => ?_)
    refine V_aload_n C 0 dX1_record_18 rfl rfl ?_
    refine V_aload_n C 0 dX1_record_19 rfl rfl ?_
    refine V_get (v := .int u.1.2.2.2.2.1) C fx1 0 1 kf_X1_18 (by decide) rfl rfl dX1_record_20 ?_
    refine V_iconst (v := 1) C dX1_record_23 (by decide) ?_
    refine V_iadd C dX1_record_24 ?_
    refine V_iconst (v := 4) C dX1_record_25 (by decide) ?_
    refine V_irem C dX1_record_26 (by decide) ?_
    refine V_putI (ws' := WHL d a b ((u.1.1, u.1.2.1, u.1.2.2.1, r15.1, (jrem (u.1.2.2.2.2.1 + 1) 4), u.1.2.2.2.2.2), r15.2)) C fx1 0 1 kf_X1_18 (by decide) rfl rfl rfl (Nat.le_of_ble_eq_true rfl) rfl dX1_record_27 ?_
    refine V_aload_n C 0 dX1_record_30 rfl rfl ?_
    refine V_aload_n C 0 dX1_record_31 rfl rfl ?_
    refine V_get (v := .int u.1.2.2.2.2.2) C fx1 0 2 kf_X1_30 (by decide) rfl rfl dX1_record_32 ?_
    refine V_iconst (v := 1) C dX1_record_35 (by decide) ?_
    refine V_iadd C dX1_record_36 ?_
    refine V_iconst (v := 4) C dX1_record_37 (by decide) ?_
    refine V_mmin C kl_X1_33 km_min_st km_ini km_min_code dX1_record_38 ⟨(Nat.le_of_ble_eq_true rfl), (Nat.le_of_ble_eq_true rfl), Nat.zero_le _, Nat.zero_le _⟩ ?_
    refine V_putI (ws' := WHL d a b ((u.1.1, u.1.2.1, u.1.2.2.1, r15.1, (jrem (u.1.2.2.2.2.1 + 1) 4), (jmin (u.1.2.2.2.2.2 + 1) 4)), r15.2)) C fx1 0 2 kf_X1_30 (by decide) rfl rfl rfl (Nat.le_of_ble_eq_true rfl) rfl dX1_record_41 ?_
    exact V_vretW (Wd := fun w => WHL d a b w) C hr hlk dX1_record_44 rfl
  exact V_none
set_option maxRecDepth 20000 in
theorem ct_X1_record (l : Launch) (d : Dt) (a : Nat → Nat) (b : Nat → Nat) (u : (UH × UL)) (z : (UH × UL)) (h : f_X1_record u = some z) : CtW l d yX1_record cX1_record 3 none (rmF 4 135) [.ref (a 0), .ref (b 0)] (WHL d a b u) (WHL d a b z) none :=
  CtW.start (by decide) (Nat.le_of_ble_eq_true rfl) (by simp [Value.category]) [some (.ref (a 0)), some (.ref (b 0)), none] rfl (fun x A C hr hlk => V_eqv (fun _ => h) (v_X1_record C hr hlk z u))

/-! MastRobots$History.restore -/
def f_X1_restore (u : (UH × UL)) : Option (Int32 × (UH × UL)) :=
  (if (jrem ((u.1.2.2.2.2.1 + 4) - 1) 4) = 0 then (if u.1.2.2.2.2.2 ≤ 0 then some ((-1000002), u) else ((f_X2_copyFrom (u.2, u.1.1)).bind fun r33 => some ((u.1.2.2.2.2.2 - 1), ((r33.2, u.1.2.1, u.1.2.2.1, u.1.2.2.2.1, (jrem ((u.1.2.2.2.2.1 + 4) - 1) 4), (u.1.2.2.2.2.2 - 1)), r33.1)))) else (if (jrem ((u.1.2.2.2.2.1 + 4) - 1) 4) = 1 then (if u.1.2.2.2.2.2 ≤ 0 then some ((-1000002), u) else ((f_X2_copyFrom (u.2, u.1.2.1)).bind fun r33 => some ((u.1.2.2.2.2.2 - 1), ((u.1.1, r33.2, u.1.2.2.1, u.1.2.2.2.1, (jrem ((u.1.2.2.2.2.1 + 4) - 1) 4), (u.1.2.2.2.2.2 - 1)), r33.1)))) else (if (jrem ((u.1.2.2.2.2.1 + 4) - 1) 4) = 2 then (if u.1.2.2.2.2.2 ≤ 0 then some ((-1000002), u) else ((f_X2_copyFrom (u.2, u.1.2.2.1)).bind fun r33 => some ((u.1.2.2.2.2.2 - 1), ((u.1.1, u.1.2.1, r33.2, u.1.2.2.2.1, (jrem ((u.1.2.2.2.2.1 + 4) - 1) 4), (u.1.2.2.2.2.2 - 1)), r33.1)))) else (if (jrem ((u.1.2.2.2.2.1 + 4) - 1) 4) = 3 then (if u.1.2.2.2.2.2 ≤ 0 then some ((-1000002), u) else ((f_X2_copyFrom (u.2, u.1.2.2.2.1)).bind fun r33 => some ((u.1.2.2.2.2.2 - 1), ((u.1.1, u.1.2.1, u.1.2.2.1, r33.2, (jrem ((u.1.2.2.2.2.1 + 4) - 1) 4), (u.1.2.2.2.2.2 - 1)), r33.1)))) else none))))
set_option maxRecDepth 20000 in
theorem v_X1_restore {x : Am} {d : Dt} {A : Nat → Prop} {a : Nat → Nat} {b : Nat → Nat} (C : Cx x cX1_restore 4 yX1_restore.cls d (Imu d A x.s.heap)) (hr : x.meth.sig.returnType = (some .int)) (hlk : x.meth.locks = false) (z : Int32 × (UH × UL)) (u : (UH × UL)) : V x (rmF 4 135) 0 0 (MQ x.below (QW d A (WHL d a b z.2) (some (.int z.1))) x.args x.s 0 0 A) 4 (Imu d A x.s.heap) (f_X1_restore u = some z) 0 (WHL d a b u) [some (.ref (a 0)), some (.ref (b 0)), none, none] [] := by
  unfold f_X1_restore
  refine V_aload_n C 0 dX1_restore_0 rfl rfl ?_
  refine V_get (v := .int u.1.2.2.2.2.1) C fx1 0 1 kf_X1_18 (by decide) rfl rfl dX1_restore_1 ?_
  refine V_iconst (v := 4) C dX1_restore_4 (by decide) ?_
  refine V_iadd C dX1_restore_5 ?_
  refine V_iconst (v := 1) C dX1_restore_6 (by decide) ?_
  refine V_isub C dX1_restore_7 ?_
  refine V_iconst (v := 4) C dX1_restore_8 (by decide) ?_
  refine V_irem C dX1_restore_9 (by decide) ?_
  refine V_istore_n (lv' := [some (.ref (a 0)), some (.ref (b 0)), some (.int (jrem ((u.1.2.2.2.2.1 + 4) - 1) 4)), none]) C 2 dX1_restore_10 rfl (by decide) rfl ?_
  refine V_aload_n C 0 dX1_restore_11 rfl rfl ?_
  refine V_iload_n C 2 dX1_restore_12 rfl rfl ?_
  refine V_case (fun c0 => ?_) (fun c0 => ?_)
  · refine V_callRx (As := [.int (jrem ((u.1.2.2.2.2.1 + 4) - 1) 4)]) (rest := []) (wc := WH d a u.1) C (ct_X1_stateAt_0 _ d a u.1 (jrem ((u.1.2.2.2.2.1 + 4) - 1) 4) c0) kv_X1_stateAt kl_X1_22 [0, 1, 2, 3, 4, 5, 6, 7, 8, 9, 10, 11, 12, 13, 14, 15, 16, 17, 18, 19, 20, 21, 22, 23, 24, 25, 26, 27, 28, 29, 30, 31, 32, 33, 34, 35, 36, 37, 38, 39, 40, 41, 42, 43, 44, 45, 46, 47, 48, 49] dX1_restore_13 rfl rfl rfl rfl (Nat.le_of_ble_eq_true rfl) ⟨(Nat.le_of_ble_eq_true rfl), (Nat.le_of_ble_eq_true rfl)⟩ rfl rfl ⟨Nat.le_refl _, Nat.le_refl _⟩ rfl ?_
    refine V_astore_n (lv' := [some (.ref (a 0)), some (.ref (b 0)), some (.int (jrem ((u.1.2.2.2.2.1 + 4) - 1) 4)), some (.ref (a 2))]) C 3 dX1_restore_16 rfl (by decide) rfl ?_
    refine V_aload_n C 0 dX1_restore_17 rfl rfl ?_
    refine V_get (v := .int u.1.2.2.2.2.2) C fx1 0 2 kf_X1_30 (by decide) rfl rfl dX1_restore_18 ?_
    refine V_if_le (tgt := 28) C dX1_restore_21 (by decide) ?_ ?_
    · refine V_ldc C kc_X1_39 dX1_restore_28 ?_
      exact V_iretW (Wd := fun w => WHL d a b w) C hr hlk dX1_restore_30 rfl
    · refine V_aload_n C 3 dX1_restore_24 rfl rfl ?_
      refine V_ifnonnull (tgt := 31) C dX1_restore_25 (by decide) ?_
      refine V_aload_n C 1 dX1_restore_31 rfl rfl ?_
      refine V_aload_n C 3 dX1_restore_32 rfl rfl ?_
      refine V_callWv (As := [.ref (a 2)]) (rest := []) (wc := WLL d b (fun i => a (i + 2)) (u.2, u.1.1)) (Wd := fun w => WLL d b (fun i => a (i + 2)) w) C (fun r h => ct_X2_copyFrom _ d b (fun i => a (i + 2)) (u.2, u.1.1) r h) kv_X2_copyFrom kl_X1_26 [50, 51, 52, 53, 54, 55, 56, 57, 58, 59, 60, 61, 2, 3, 4, 5, 6, 7, 8, 9, 10, 11, 12, 13] (fun w => WHL d a b ((w.2, u.1.2.1, u.1.2.2.1, u.1.2.2.2.1, u.1.2.2.2.2.1, u.1.2.2.2.2.2), w.1)) dX1_restore_33 (emb_HL_LL_1_00 d _ _ _) rfl (fun _ => fst_LL d _ _ _ _) (fun _ => put_HL_LL_1_00 d _ _ _ _) rfl rfl rfl (Nat.le_of_ble_eq_true rfl) ⟨(Nat.le_of_ble_eq_true rfl), (Nat.le_of_ble_eq_true rfl)⟩ rfl rfl ⟨Nat.le_refl _, Nat.le_refl _⟩ rfl (fun r33 hr33 => ?_)
      refine V_aload_n C 0 dX1_restore_36 rfl rfl ?_
      refine V_iload_n C 2 dX1_restore_37 rfl rfl ?_
      refine V_putI (ws' := WHL d a b ((r33.2, u.1.2.1, u.1.2.2.1, u.1.2.2.2.1, (jrem ((u.1.2.2.2.2.1 + 4) - 1) 4), u.1.2.2.2.2.2), r33.1)) C fx1 0 1 kf_X1_18 (by decide) rfl rfl rfl (Nat.le_of_ble_eq_true rfl) rfl dX1_restore_38 ?_
      refine V_aload_n C 0 dX1_restore_41 rfl rfl ?_
      refine V_dup C dX1_restore_42 rfl ?_
      refine V_get (v := .int u.1.2.2.2.2.2) C fx1 0 2 kf_X1_30 (by decide) rfl rfl dX1_restore_43 ?_
      refine V_iconst (v := 1) C dX1_restore_46 (by decide) ?_
      refine V_isub C dX1_restore_47 ?_
      refine V_putI (ws' := WHL d a b ((r33.2, u.1.2.1, u.1.2.2.1, u.1.2.2.2.1, (jrem ((u.1.2.2.2.2.1 + 4) - 1) 4), (u.1.2.2.2.2.2 - 1)), r33.1)) C fx1 0 2 kf_X1_30 (by decide) rfl rfl rfl (Nat.le_of_ble_eq_true rfl) rfl dX1_restore_48 ?_
      refine V_aload_n C 0 dX1_restore_51 rfl rfl ?_
      refine V_get (v := .int (u.1.2.2.2.2.2 - 1)) C fx1 0 2 kf_X1_30 (by decide) rfl rfl dX1_restore_52 ?_
      exact V_iretW (Wd := fun w => WHL d a b w) C hr hlk dX1_restore_55 rfl
  refine V_case (fun c1 => ?_) (fun c1 => ?_)
  · refine V_callRx (As := [.int (jrem ((u.1.2.2.2.2.1 + 4) - 1) 4)]) (rest := []) (wc := WH d a u.1) C (ct_X1_stateAt_1 _ d a u.1 (jrem ((u.1.2.2.2.2.1 + 4) - 1) 4) c1) kv_X1_stateAt kl_X1_22 [0, 1, 2, 3, 4, 5, 6, 7, 8, 9, 10, 11, 12, 13, 14, 15, 16, 17, 18, 19, 20, 21, 22, 23, 24, 25, 26, 27, 28, 29, 30, 31, 32, 33, 34, 35, 36, 37, 38, 39, 40, 41, 42, 43, 44, 45, 46, 47, 48, 49] dX1_restore_13 rfl rfl rfl rfl (Nat.le_of_ble_eq_true rfl) ⟨(Nat.le_of_ble_eq_true rfl), (Nat.le_of_ble_eq_true rfl)⟩ rfl rfl ⟨Nat.le_refl _, Nat.le_refl _⟩ rfl ?_
    refine V_astore_n (lv' := [some (.ref (a 0)), some (.ref (b 0)), some (.int (jrem ((u.1.2.2.2.2.1 + 4) - 1) 4)), some (.ref (a 14))]) C 3 dX1_restore_16 rfl (by decide) rfl ?_
    refine V_aload_n C 0 dX1_restore_17 rfl rfl ?_
    refine V_get (v := .int u.1.2.2.2.2.2) C fx1 0 2 kf_X1_30 (by decide) rfl rfl dX1_restore_18 ?_
    refine V_if_le (tgt := 28) C dX1_restore_21 (by decide) ?_ ?_
    · refine V_ldc C kc_X1_39 dX1_restore_28 ?_
      exact V_iretW (Wd := fun w => WHL d a b w) C hr hlk dX1_restore_30 rfl
    · refine V_aload_n C 3 dX1_restore_24 rfl rfl ?_
      refine V_ifnonnull (tgt := 31) C dX1_restore_25 (by decide) ?_
      refine V_aload_n C 1 dX1_restore_31 rfl rfl ?_
      refine V_aload_n C 3 dX1_restore_32 rfl rfl ?_
      refine V_callWv (As := [.ref (a 14)]) (rest := []) (wc := WLL d b (fun i => a (i + 14)) (u.2, u.1.2.1)) (Wd := fun w => WLL d b (fun i => a (i + 14)) w) C (fun r h => ct_X2_copyFrom _ d b (fun i => a (i + 14)) (u.2, u.1.2.1) r h) kv_X2_copyFrom kl_X1_26 [50, 51, 52, 53, 54, 55, 56, 57, 58, 59, 60, 61, 14, 15, 16, 17, 18, 19, 20, 21, 22, 23, 24, 25] (fun w => WHL d a b ((u.1.1, w.2, u.1.2.2.1, u.1.2.2.2.1, u.1.2.2.2.2.1, u.1.2.2.2.2.2), w.1)) dX1_restore_33 (emb_HL_LL_1_01 d _ _ _) rfl (fun _ => fst_LL d _ _ _ _) (fun _ => put_HL_LL_1_01 d _ _ _ _) rfl rfl rfl (Nat.le_of_ble_eq_true rfl) ⟨(Nat.le_of_ble_eq_true rfl), (Nat.le_of_ble_eq_true rfl)⟩ rfl rfl ⟨Nat.le_refl _, Nat.le_refl _⟩ rfl (fun r33 hr33 => ?_)
      refine V_aload_n C 0 dX1_restore_36 rfl rfl ?_
      refine V_iload_n C 2 dX1_restore_37 rfl rfl ?_
      refine V_putI (ws' := WHL d a b ((u.1.1, r33.2, u.1.2.2.1, u.1.2.2.2.1, (jrem ((u.1.2.2.2.2.1 + 4) - 1) 4), u.1.2.2.2.2.2), r33.1)) C fx1 0 1 kf_X1_18 (by decide) rfl rfl rfl (Nat.le_of_ble_eq_true rfl) rfl dX1_restore_38 ?_
      refine V_aload_n C 0 dX1_restore_41 rfl rfl ?_
      refine V_dup C dX1_restore_42 rfl ?_
      refine V_get (v := .int u.1.2.2.2.2.2) C fx1 0 2 kf_X1_30 (by decide) rfl rfl dX1_restore_43 ?_
      refine V_iconst (v := 1) C dX1_restore_46 (by decide) ?_
      refine V_isub C dX1_restore_47 ?_
      refine V_putI (ws' := WHL d a b ((u.1.1, r33.2, u.1.2.2.1, u.1.2.2.2.1, (jrem ((u.1.2.2.2.2.1 + 4) - 1) 4), (u.1.2.2.2.2.2 - 1)), r33.1)) C fx1 0 2 kf_X1_30 (by decide) rfl rfl rfl (Nat.le_of_ble_eq_true rfl) rfl dX1_restore_48 ?_
      refine V_aload_n C 0 dX1_restore_51 rfl rfl ?_
      refine V_get (v := .int (u.1.2.2.2.2.2 - 1)) C fx1 0 2 kf_X1_30 (by decide) rfl rfl dX1_restore_52 ?_
      exact V_iretW (Wd := fun w => WHL d a b w) C hr hlk dX1_restore_55 rfl
  refine V_case (fun c2 => ?_) (fun c2 => ?_)
  · refine V_callRx (As := [.int (jrem ((u.1.2.2.2.2.1 + 4) - 1) 4)]) (rest := []) (wc := WH d a u.1) C (ct_X1_stateAt_2 _ d a u.1 (jrem ((u.1.2.2.2.2.1 + 4) - 1) 4) c2) kv_X1_stateAt kl_X1_22 [0, 1, 2, 3, 4, 5, 6, 7, 8, 9, 10, 11, 12, 13, 14, 15, 16, 17, 18, 19, 20, 21, 22, 23, 24, 25, 26, 27, 28, 29, 30, 31, 32, 33, 34, 35, 36, 37, 38, 39, 40, 41, 42, 43, 44, 45, 46, 47, 48, 49] dX1_restore_13 rfl rfl rfl rfl (Nat.le_of_ble_eq_true rfl) ⟨(Nat.le_of_ble_eq_true rfl), (Nat.le_of_ble_eq_true rfl)⟩ rfl rfl ⟨Nat.le_refl _, Nat.le_refl _⟩ rfl ?_
    refine V_astore_n (lv' := [some (.ref (a 0)), some (.ref (b 0)), some (.int (jrem ((u.1.2.2.2.2.1 + 4) - 1) 4)), some (.ref (a 26))]) C 3 dX1_restore_16 rfl (by decide) rfl ?_
    refine V_aload_n C 0 dX1_restore_17 rfl rfl ?_
    refine V_get (v := .int u.1.2.2.2.2.2) C fx1 0 2 kf_X1_30 (by decide) rfl rfl dX1_restore_18 ?_
    refine V_if_le (tgt := 28) C dX1_restore_21 (by decide) ?_ ?_
    · refine V_ldc C kc_X1_39 dX1_restore_28 ?_
      exact V_iretW (Wd := fun w => WHL d a b w) C hr hlk dX1_restore_30 rfl
    · refine V_aload_n C 3 dX1_restore_24 rfl rfl ?_
      refine V_ifnonnull (tgt := 31) C dX1_restore_25 (by decide) ?_
      refine V_aload_n C 1 dX1_restore_31 rfl rfl ?_
      refine V_aload_n C 3 dX1_restore_32 rfl rfl ?_
      refine V_callWv (As := [.ref (a 26)]) (rest := []) (wc := WLL d b (fun i => a (i + 26)) (u.2, u.1.2.2.1)) (Wd := fun w => WLL d b (fun i => a (i + 26)) w) C (fun r h => ct_X2_copyFrom _ d b (fun i => a (i + 26)) (u.2, u.1.2.2.1) r h) kv_X2_copyFrom kl_X1_26 [50, 51, 52, 53, 54, 55, 56, 57, 58, 59, 60, 61, 26, 27, 28, 29, 30, 31, 32, 33, 34, 35, 36, 37] (fun w => WHL d a b ((u.1.1, u.1.2.1, w.2, u.1.2.2.2.1, u.1.2.2.2.2.1, u.1.2.2.2.2.2), w.1)) dX1_restore_33 (emb_HL_LL_1_02 d _ _ _) rfl (fun _ => fst_LL d _ _ _ _) (fun _ => put_HL_LL_1_02 d _ _ _ _) rfl rfl rfl (Nat.le_of_ble_eq_true rfl) ⟨(Nat.le_of_ble_eq_true rfl), (Nat.le_of_ble_eq_true rfl)⟩ rfl rfl ⟨Nat.le_refl _, Nat.le_refl _⟩ rfl (fun r33 hr33 => ?_)
      refine V_aload_n C 0 dX1_restore_36 rfl rfl ?_
      refine V_iload_n C 2 dX1_restore_37 rfl rfl ?_
      refine V_putI (ws' := WHL d a b ((u.1.1, u.1.2.1, r33.2, u.1.2.2.2.1, (jrem ((u.1.2.2.2.2.1 + 4) - 1) 4), u.1.2.2.2.2.2), r33.1)) C fx1 0 1 kf_X1_18 (by decide) rfl rfl rfl (Nat.le_of_ble_eq_true rfl) rfl dX1_restore_38 ?_
      refine V_aload_n C 0 dX1_restore_41 rfl rfl ?_
      refine V_dup C dX1_restore_42 rfl ?_
      refine V_get (v := .int u.1.2.2.2.2.2) C fx1 0 2 kf_X1_30 (by decide) rfl rfl dX1_restore_43 ?_
      refine V_iconst (v := 1) C dX1_restore_46 (by decide) ?_
      refine V_isub C dX1_restore_47 ?_
      refine V_putI (ws' := WHL d a b ((u.1.1, u.1.2.1, r33.2, u.1.2.2.2.1, (jrem ((u.1.2.2.2.2.1 + 4) - 1) 4), (u.1.2.2.2.2.2 - 1)), r33.1)) C fx1 0 2 kf_X1_30 (by decide) rfl rfl rfl (Nat.le_of_ble_eq_true rfl) rfl dX1_restore_48 ?_
      refine V_aload_n C 0 dX1_restore_51 rfl rfl ?_
      refine V_get (v := .int (u.1.2.2.2.2.2 - 1)) C fx1 0 2 kf_X1_30 (by decide) rfl rfl dX1_restore_52 ?_
      exact V_iretW (Wd := fun w => WHL d a b w) C hr hlk dX1_restore_55 rfl
  refine V_case (fun c3 => ?_) (fun c3 => ?_)
  · refine V_callRx (As := [.int (jrem ((u.1.2.2.2.2.1 + 4) - 1) 4)]) (rest := []) (wc := WH d a u.1) C (ct_X1_stateAt_3 _ d a u.1 (jrem ((u.1.2.2.2.2.1 + 4) - 1) 4) c3) kv_X1_stateAt kl_X1_22 [0, 1, 2, 3, 4, 5, 6, 7, 8, 9, 10, 11, 12, 13, 14, 15, 16, 17, 18, 19, 20, 21, 22, 23, 24, 25, 26, 27, 28, 29, 30, 31, 32, 33, 34, 35, 36, 37, 38, 39, 40, 41, 42, 43, 44, 45, 46, 47, 48, 49] dX1_restore_13 rfl rfl rfl rfl (Nat.le_of_ble_eq_true rfl) ⟨(Nat.le_of_ble_eq_true rfl), (Nat.le_of_ble_eq_true rfl)⟩ rfl rfl ⟨Nat.le_refl _, Nat.le_refl _⟩ rfl ?_
    refine V_astore_n (lv' := [some (.ref (a 0)), some (.ref (b 0)), some (.int (jrem ((u.1.2.2.2.2.1 + 4) - 1) 4)), some (.ref (a 38))]) C 3 dX1_restore_16 rfl (by decide) rfl ?_
    refine V_aload_n C 0 dX1_restore_17 rfl rfl ?_
    refine V_get (v := .int u.1.2.2.2.2.2) C fx1 0 2 kf_X1_30 (by decide) rfl rfl dX1_restore_18 ?_
    refine V_if_le (tgt := 28) C dX1_restore_21 (by decide) ?_ ?_
    · refine V_ldc C kc_X1_39 dX1_restore_28 ?_
      exact V_iretW (Wd := fun w => WHL d a b w) C hr hlk dX1_restore_30 rfl
    · refine V_aload_n C 3 dX1_restore_24 rfl rfl ?_
      refine V_ifnonnull (tgt := 31) C dX1_restore_25 (by decide) ?_
      refine V_aload_n C 1 dX1_restore_31 rfl rfl ?_
      refine V_aload_n C 3 dX1_restore_32 rfl rfl ?_
      refine V_callWv (As := [.ref (a 38)]) (rest := []) (wc := WLL d b (fun i => a (i + 38)) (u.2, u.1.2.2.2.1)) (Wd := fun w => WLL d b (fun i => a (i + 38)) w) C (fun r h => ct_X2_copyFrom _ d b (fun i => a (i + 38)) (u.2, u.1.2.2.2.1) r h) kv_X2_copyFrom kl_X1_26 [50, 51, 52, 53, 54, 55, 56, 57, 58, 59, 60, 61, 38, 39, 40, 41, 42, 43, 44, 45, 46, 47, 48, 49] (fun w => WHL d a b ((u.1.1, u.1.2.1, u.1.2.2.1, w.2, u.1.2.2.2.2.1, u.1.2.2.2.2.2), w.1)) dX1_restore_33 (emb_HL_LL_1_03 d _ _ _) rfl (fun _ => fst_LL d _ _ _ _) (fun _ => put_HL_LL_1_03 d _ _ _ _) rfl rfl rfl (Nat.le_of_ble_eq_true rfl) ⟨(Nat.le_of_ble_eq_true rfl), (Nat.le_of_ble_eq_true rfl)⟩ rfl rfl ⟨Nat.le_refl _, Nat.le_refl _⟩ rfl (fun r33 hr33 => ?_)
      refine V_aload_n C 0 dX1_restore_36 rfl rfl ?_
      refine V_iload_n C 2 dX1_restore_37 rfl rfl ?_
      refine V_putI (ws' := WHL d a b ((u.1.1, u.1.2.1, u.1.2.2.1, r33.2, (jrem ((u.1.2.2.2.2.1 + 4) - 1) 4), u.1.2.2.2.2.2), r33.1)) C fx1 0 1 kf_X1_18 (by decide) rfl rfl rfl (Nat.le_of_ble_eq_true rfl) rfl dX1_restore_38 ?_
      refine V_aload_n C 0 dX1_restore_41 rfl rfl ?_
      refine V_dup C dX1_restore_42 rfl ?_
      refine V_get (v := .int u.1.2.2.2.2.2) C fx1 0 2 kf_X1_30 (by decide) rfl rfl dX1_restore_43 ?_
      refine V_iconst (v := 1) C dX1_restore_46 (by decide) ?_
      refine V_isub C dX1_restore_47 ?_
      refine V_putI (ws' := WHL d a b ((u.1.1, u.1.2.1, u.1.2.2.1, r33.2, (jrem ((u.1.2.2.2.2.1 + 4) - 1) 4), (u.1.2.2.2.2.2 - 1)), r33.1)) C fx1 0 2 kf_X1_30 (by decide) rfl rfl rfl (Nat.le_of_ble_eq_true rfl) rfl dX1_restore_48 ?_
      refine V_aload_n C 0 dX1_restore_51 rfl rfl ?_
      refine V_get (v := .int (u.1.2.2.2.2.2 - 1)) C fx1 0 2 kf_X1_30 (by decide) rfl rfl dX1_restore_52 ?_
      exact V_iretW (Wd := fun w => WHL d a b w) C hr hlk dX1_restore_55 rfl
  exact V_none
set_option maxRecDepth 20000 in
theorem ct_X1_restore (l : Launch) (d : Dt) (a : Nat → Nat) (b : Nat → Nat) (u : (UH × UL)) (z : Int32 × (UH × UL)) (h : f_X1_restore u = some z) : CtW l d yX1_restore cX1_restore 4 (some .int) (rmF 4 135) [.ref (a 0), .ref (b 0)] (WHL d a b u) (WHL d a b z.2) (some (.int z.1)) :=
  CtW.start (by decide) (Nat.le_of_ble_eq_true rfl) (by simp [Value.category]) [some (.ref (a 0)), some (.ref (b 0)), none, none] rfl (fun x A C hr hlk => V_eqv (fun _ => h) (v_X1_restore C hr hlk z u))
