/-! ===== the constructors ===== -/
/-- Arrays.fill over an int row of ours -/
theorem fill_loop {x : Am} {d : Dt} {A : Nat → Prop} {p : Nat} {v : Int32} {N : Nat} (hN : N < 2 ^ 31) (C : Cx x cJ7_fill_53178 4 yJ7_fill_53178.cls d (Imu d A x.s.heap)) (hr : x.meth.sig.returnType = none) (hlk : x.meth.locks = false) : ∀ (n i : Nat) (f : Nat → Int32), i + n = N → (∀ j, j < i → f j = v) → V x (rmF 0 0) 0 0 (MQ x.below (QW d A [(p, .inl (d.2.1, N, .inl (fun _ => v)))] none) x.args x.s 0 0 A) 4 (Imu d A x.s.heap) True 5 [(p, .inl (d.2.1, N, .inl f))] [some (.ref p), some (.int v), some (.int (nI i)), some (.int (nI N))] [] := by
  intro n
  induction n with
  | zero =>
    intro i f hi hf
    have e : i = N := by omega
    subst e
    refine V_iload_n C 2 dJ7_fill_53178_5 rfl rfl ?_
    refine V_iload_n C 3 dJ7_fill_53178_6 rfl rfl ?_
    refine V_eqv (h2 := (if nI i ≤ nI i then some () else none) = some ()) (fun _ => if_pos (nI_le (Nat.le_refl _) hN)) (V_icmp_ge (tgt := 20) C dJ7_fill_53178_7 (by decide) ?_ V_none)
    refine V_ext (q0 := 0) (g := fun _ => v) (ws' := [(p, .inl (d.2.1, i, .inl (fun _ => v)))]) rfl rfl (fun j hj => hf j hj) ?_
    exact V_eqv (h2 := some () = some ()) (fun _ => rfl) (V_vretW (Wd := fun _ : Unit => [(p, .inl (d.2.1, i, .inl (fun _ => v)))]) C hr hlk dJ7_fill_53178_20 rfl)
  | succ n ih =>
    intro i f hi hf
    have hlt : i < N := by omega
    refine V_iload_n C 2 dJ7_fill_53178_5 rfl rfl ?_
    refine V_iload_n C 3 dJ7_fill_53178_6 rfl rfl ?_
    refine V_eqv (h2 := (if nI N ≤ nI i then none else some ()) = some ()) (fun _ => if_neg (nI_ge hlt hN)) (V_icmp_ge (tgt := 20) C dJ7_fill_53178_7 (by decide) V_none ?_)
    refine V_aload_n C 0 dJ7_fill_53178_10 rfl rfl ?_
    refine V_iload_n C 2 dJ7_fill_53178_11 rfl rfl ?_
    refine V_iload_n C 1 dJ7_fill_53178_12 rfl rfl ?_
    refine V_iastc (ws' := [(p, .inl (d.2.1, N, .inl (upd f i v)))]) C 0 i rfl (by simpa [inb, vp_in] using vp_in_nI hlt (by omega)) (nI_clamp (by omega)) rfl dJ7_fill_53178_13 ?_
    refine V_iinc (v := nI (i + 1)) (lv' := [some (.ref p), some (.int v), some (.int (nI (i + 1))), some (.int (nI N))]) C dJ7_fill_53178_14 rfl (nI_1 i) (by decide) rfl ?_
    refine V_goto (tgt := 5) C dJ7_fill_53178_17 (by decide) ?_
    refine V_eqv (h2 := True) (fun _ => trivial) (ih (i + 1) (upd f i v) (by omega) (fun j hj => ?_))
    by_cases e : j = i
    · simp [upd, e]
    · simp [upd, e, hf j (by omega)]
theorem ct_fill (l : Launch) (d : Dt) (p : Nat) (v : Int32) (N : Nat) (hN : N < 2 ^ 31) (f : Nat → Int32) : CtW l d yJ7_fill_53178 cJ7_fill_53178 4 none (rmF 0 0) [.ref p, .int v] [(p, .inl (d.2.1, N, .inl f))] [(p, .inl (d.2.1, N, .inl (fun _ => v)))] none := by
  refine CtW.start (by decide) (Nat.le_of_ble_eq_true rfl) (by simp [Value.category]) [some (.ref p), some (.int v), none, none] rfl (fun x A C hr hlk => ?_)
  refine V_iconst (v := 0) C dJ7_fill_53178_0 (by decide) ?_
  refine V_istore_n (lv' := [some (.ref p), some (.int v), some (.int 0), none]) C 2 dJ7_fill_53178_1 rfl (by decide) rfl ?_
  refine V_aload_n C 0 dJ7_fill_53178_2 rfl rfl ?_
  refine V_alenI (v := nI N) C 0 rfl rfl dJ7_fill_53178_3 ?_
  refine V_istore_n (lv' := [some (.ref p), some (.int v), some (.int 0), some (.int (nI N))]) C 3 dJ7_fill_53178_4 rfl (by decide) rfl ?_
  exact fill_loop hN C hr hlk N 0 f (by omega) (fun j hj => absurd hj (by omega))
def f0 : UA := fun _ => 0
def fm : UA := fun _ => -1
def iC : UC := (f0, f0, f0, f0, fm, fm, 0)
def iR : UR := (f0, f0, f0, 0)
def iL : UL := (iC, iR, 0, 0, 0, 0, 0, 0, 0, 0)
def iO : UO := (f0, 0, 0, 0, 0, 0, 0, 0, 0)
def iH : UH := (iL, iL, iL, iL, 0, 0)
def iM : UM := (iL, iL, iH, iO)
theorem WC_congr (d : Dt) {a b : Nat → Nat} (u : UC) (h : ∀ i, i < 7 → a i = b i) : WC d a u = WC d b u := by
  unfold WC
  rw [h 0 (by decide), h 1 (by decide), h 2 (by decide), h 3 (by decide), h 4 (by decide), h 5 (by decide), h 6 (by decide)]
theorem WR_congr (d : Dt) {a b : Nat → Nat} (u : UR) (h : ∀ i, i < 4 → a i = b i) : WR d a u = WR d b u := by
  unfold WR
  rw [h 0 (by decide), h 1 (by decide), h 2 (by decide), h 3 (by decide)]
theorem WO_congr (d : Dt) {a b : Nat → Nat} (u : UO) (h : ∀ i, i < 2 → a i = b i) : WO d a u = WO d b u := by
  unfold WO
  rw [h 0 (by decide), h 1 (by decide)]
theorem WL_congr (d : Dt) {a b : Nat → Nat} (u : UL) (h : ∀ i, i < 12 → a i = b i) : WL d a u = WL d b u := by
  unfold WL
  rw [h 0 (by decide), h 1 (by decide), h 8 (by decide), WC_congr d u.1 (a := fun i => a (i + 1)) (b := fun i => b (i + 1)) (fun i hi => h (i + 1) (by omega)), WR_congr d u.2.1 (a := fun i => a (i + 8)) (b := fun i => b (i + 8)) (fun i hi => h (i + 8) (by omega))]
theorem WH_congr (d : Dt) {a b : Nat → Nat} (u : UH) (h : ∀ i, i < 50 → a i = b i) : WH d a u = WH d b u := by
  have e : libRow a = libRow b := by
    funext k
    match k with
    | 0 => simp [libRow, h 2 (by decide)]
    | 1 => simp [libRow, h 14 (by decide)]
    | 2 => simp [libRow, h 26 (by decide)]
    | 3 => simp [libRow, h 38 (by decide)]
    | k + 4 => rfl
  unfold WH
  rw [e, h 0 (by decide), h 1 (by decide), WL_congr d u.1 (a := fun i => a (i + 2)) (b := fun i => b (i + 2)) (fun i hi => h (i + 2) (by omega)), WL_congr d u.2.1 (a := fun i => a (i + 14)) (b := fun i => b (i + 14)) (fun i hi => h (i + 14) (by omega)), WL_congr d u.2.2.1 (a := fun i => a (i + 26)) (b := fun i => b (i + 26)) (fun i hi => h (i + 26) (by omega)), WL_congr d u.2.2.2.1 (a := fun i => a (i + 38)) (b := fun i => b (i + 38)) (fun i hi => h (i + 38) (by omega))]
set_option maxRecDepth 20000 in
theorem ct_X0_init (l : Launch) (d : Dt) : CtN l d yX0_init cX0_init 1 { frames := 1, cells := 6, slots := 217, locals := 50 } 6 217 (.inr (0, [.null, .null, .null, .null, .null, .null, .int 0])) (fun a => WC d a iC) := by
  refine CtN.start (by decide) rfl (by decide) (fun a0 => [some (.ref a0)]) (fun _ => rfl) (fun x A a0 C hr hlk hin hAO => ?_)
  refine V_aload_n C 0 dX0_init_0 rfl rfl ?_
  refine V_objInit C kx_oi_X0 kx_oi_inst kx_oi_code ⟨(Nat.le_of_ble_eq_true rfl), (Nat.le_of_ble_eq_true rfl)⟩ dX0_init_1 ?_
  refine V_aload_n C 0 dX0_init_4 rfl rfl ?_
  refine V_bipush (v := 30) C dX0_init_5 (by decide) ?_
  refine V_newI C 30 kx_ac_int (by decide) (by decide) (by decide) ⟨(Nat.le_of_ble_eq_true rfl), (Nat.le_of_ble_eq_true rfl)⟩ dX0_init_7 (fun q1 => ?_)
  refine V_putF (ws' := [(a0, .inr (0, [.ref q1, .null, .null, .null, .null, .null, .int 0])), (q1, .inl (d.2.1, 30, .inl (fun _ => 0)))]) C hin fx0 0 0 kx_f_X0_9 (by decide) rfl rfl rfl rfl ⟨rfl, rfl⟩ (Nat.le_of_ble_eq_true rfl) rfl dX0_init_9 ?_
  refine V_aload_n C 0 dX0_init_12 rfl rfl ?_
  refine V_bipush (v := 30) C dX0_init_13 (by decide) ?_
  refine V_newI C 30 kx_ac_int (by decide) (by decide) (by decide) ⟨(Nat.le_of_ble_eq_true rfl), (Nat.le_of_ble_eq_true rfl)⟩ dX0_init_15 (fun q2 => ?_)
  refine V_putF (ws' := [(a0, .inr (0, [.ref q1, .ref q2, .null, .null, .null, .null, .int 0])), (q1, .inl (d.2.1, 30, .inl (fun _ => 0))), (q2, .inl (d.2.1, 30, .inl (fun _ => 0)))]) C hin fx0 0 1 kx_f_X0_15 (by decide) rfl rfl rfl rfl ⟨rfl, rfl⟩ (Nat.le_of_ble_eq_true rfl) rfl dX0_init_17 ?_
  refine V_aload_n C 0 dX0_init_20 rfl rfl ?_
  refine V_bipush (v := 30) C dX0_init_21 (by decide) ?_
  refine V_newI C 30 kx_ac_int (by decide) (by decide) (by decide) ⟨(Nat.le_of_ble_eq_true rfl), (Nat.le_of_ble_eq_true rfl)⟩ dX0_init_23 (fun q3 => ?_)
  refine V_putF (ws' := [(a0, .inr (0, [.ref q1, .ref q2, .ref q3, .null, .null, .null, .int 0])), (q1, .inl (d.2.1, 30, .inl (fun _ => 0))), (q2, .inl (d.2.1, 30, .inl (fun _ => 0))), (q3, .inl (d.2.1, 30, .inl (fun _ => 0)))]) C hin fx0 0 2 kx_f_X0_18 (by decide) rfl rfl rfl rfl ⟨rfl, rfl⟩ (Nat.le_of_ble_eq_true rfl) rfl dX0_init_25 ?_
  refine V_aload_n C 0 dX0_init_28 rfl rfl ?_
  refine V_bipush (v := 30) C dX0_init_29 (by decide) ?_
  refine V_newI C 30 kx_ac_int (by decide) (by decide) (by decide) ⟨(Nat.le_of_ble_eq_true rfl), (Nat.le_of_ble_eq_true rfl)⟩ dX0_init_31 (fun q4 => ?_)
  refine V_putF (ws' := [(a0, .inr (0, [.ref q1, .ref q2, .ref q3, .ref q4, .null, .null, .int 0])), (q1, .inl (d.2.1, 30, .inl (fun _ => 0))), (q2, .inl (d.2.1, 30, .inl (fun _ => 0))), (q3, .inl (d.2.1, 30, .inl (fun _ => 0))), (q4, .inl (d.2.1, 30, .inl (fun _ => 0)))]) C hin fx0 0 3 kx_f_X0_21 (by decide) rfl rfl rfl rfl ⟨rfl, rfl⟩ (Nat.le_of_ble_eq_true rfl) rfl dX0_init_33 ?_
  refine V_aload_n C 0 dX0_init_36 rfl rfl ?_
  refine V_bipush (v := 37) C dX0_init_37 (by decide) ?_
  refine V_newI C 37 kx_ac_int (by decide) (by decide) (by decide) ⟨(Nat.le_of_ble_eq_true rfl), (Nat.le_of_ble_eq_true rfl)⟩ dX0_init_39 (fun q5 => ?_)
  refine V_putF (ws' := [(a0, .inr (0, [.ref q1, .ref q2, .ref q3, .ref q4, .ref q5, .null, .int 0])), (q1, .inl (d.2.1, 30, .inl (fun _ => 0))), (q2, .inl (d.2.1, 30, .inl (fun _ => 0))), (q3, .inl (d.2.1, 30, .inl (fun _ => 0))), (q4, .inl (d.2.1, 30, .inl (fun _ => 0))), (q5, .inl (d.2.1, 37, .inl (fun _ => 0)))]) C hin fx0 0 4 kx_f_X0_24 (by decide) rfl rfl rfl rfl ⟨rfl, rfl⟩ (Nat.le_of_ble_eq_true rfl) rfl dX0_init_41 ?_
  refine V_aload_n C 0 dX0_init_44 rfl rfl ?_
  refine V_bipush (v := 60) C dX0_init_45 (by decide) ?_
  refine V_newI C 60 kx_ac_int (by decide) (by decide) (by decide) ⟨(Nat.le_of_ble_eq_true rfl), (Nat.le_of_ble_eq_true rfl)⟩ dX0_init_47 (fun q6 => ?_)
  refine V_putF (ws' := [(a0, .inr (0, [.ref q1, .ref q2, .ref q3, .ref q4, .ref q5, .ref q6, .int 0])), (q1, .inl (d.2.1, 30, .inl (fun _ => 0))), (q2, .inl (d.2.1, 30, .inl (fun _ => 0))), (q3, .inl (d.2.1, 30, .inl (fun _ => 0))), (q4, .inl (d.2.1, 30, .inl (fun _ => 0))), (q5, .inl (d.2.1, 37, .inl (fun _ => 0))), (q6, .inl (d.2.1, 60, .inl (fun _ => 0)))]) C hin fx0 0 5 kx_f_X0_27 (by decide) rfl rfl rfl rfl ⟨rfl, rfl⟩ (Nat.le_of_ble_eq_true rfl) rfl dX0_init_49 ?_
  refine V_aload_n C 0 dX0_init_52 rfl rfl ?_
  refine V_get (v := .ref q5) C fx0 0 4 kx_f_X0_24 (by decide) rfl rfl dX0_init_53 ?_
  refine V_iconst (v := (-1)) C dX0_init_56 (by decide) ?_
  refine V_callSc (As := [.ref q5, .int (-1)]) (rest := []) (wc := [(q5, .inl (d.2.1, 37, .inl (fun _ => 0)))]) (w1 := [(q5, .inl (d.2.1, 37, .inl (fun _ => (-1))))]) (ws2 := [(a0, .inr (0, [.ref q1, .ref q2, .ref q3, .ref q4, .ref q5, .ref q6, .int 0])), (q1, .inl (d.2.1, 30, .inl (fun _ => 0))), (q2, .inl (d.2.1, 30, .inl (fun _ => 0))), (q3, .inl (d.2.1, 30, .inl (fun _ => 0))), (q4, .inl (d.2.1, 30, .inl (fun _ => 0))), (q5, .inl (d.2.1, 37, .inl (fun _ => (-1)))), (q6, .inl (d.2.1, 60, .inl (fun _ => 0)))]) C (ct_fill _ d _ _ 37 (by decide) _) kx_fill kx_l_X0_30 [5] dX0_init_57 rfl rfl rfl rfl rfl (Nat.le_of_ble_eq_true rfl) ⟨(Nat.le_of_ble_eq_true rfl), (Nat.le_of_ble_eq_true rfl)⟩ rfl rfl ⟨(Nat.le_of_ble_eq_true rfl), (Nat.le_of_ble_eq_true rfl)⟩ rfl ?_
  refine V_aload_n C 0 dX0_init_60 rfl rfl ?_
  refine V_get (v := .ref q6) C fx0 0 5 kx_f_X0_27 (by decide) rfl rfl dX0_init_61 ?_
  refine V_iconst (v := (-1)) C dX0_init_64 (by decide) ?_
  refine V_callSc (As := [.ref q6, .int (-1)]) (rest := []) (wc := [(q6, .inl (d.2.1, 60, .inl (fun _ => 0)))]) (w1 := [(q6, .inl (d.2.1, 60, .inl (fun _ => (-1))))]) (ws2 := [(a0, .inr (0, [.ref q1, .ref q2, .ref q3, .ref q4, .ref q5, .ref q6, .int 0])), (q1, .inl (d.2.1, 30, .inl (fun _ => 0))), (q2, .inl (d.2.1, 30, .inl (fun _ => 0))), (q3, .inl (d.2.1, 30, .inl (fun _ => 0))), (q4, .inl (d.2.1, 30, .inl (fun _ => 0))), (q5, .inl (d.2.1, 37, .inl (fun _ => (-1)))), (q6, .inl (d.2.1, 60, .inl (fun _ => (-1))))]) C (ct_fill _ d _ _ 60 (by decide) _) kx_fill kx_l_X0_30 [6] dX0_init_65 rfl rfl rfl rfl rfl (Nat.le_of_ble_eq_true rfl) ⟨(Nat.le_of_ble_eq_true rfl), (Nat.le_of_ble_eq_true rfl)⟩ rfl rfl ⟨(Nat.le_of_ble_eq_true rfl), (Nat.le_of_ble_eq_true rfl)⟩ rfl ?_
  exact V_vretN (Wd := fun a => WC d a iC) C hr hlk (fun i => match i with | 0 => a0 | 1 => q1 | 2 => q2 | 3 => q3 | 4 => q4 | 5 => q5 | _ => q6) rfl rfl dX0_init_68
set_option maxRecDepth 20000 in
theorem ct_X4_init (l : Launch) (d : Dt) : CtN l d yX4_init cX4_init 1 { frames := 1, cells := 3, slots := 36, locals := 20 } 3 36 (.inr (4, [.null, .null, .null, .int 0])) (fun a => WR d a iR) := by
  refine CtN.start (by decide) rfl (by decide) (fun a0 => [some (.ref a0)]) (fun _ => rfl) (fun x A a0 C hr hlk hin hAO => ?_)
  refine V_aload_n C 0 dX4_init_0 rfl rfl ?_
  refine V_objInit C kx_oi_X4 kx_oi_inst kx_oi_code ⟨(Nat.le_of_ble_eq_true rfl), (Nat.le_of_ble_eq_true rfl)⟩ dX4_init_1 ?_
  refine V_aload_n C 0 dX4_init_4 rfl rfl ?_
  refine V_bipush (v := 12) C dX4_init_5 (by decide) ?_
  refine V_newI C 12 kx_ac_int (by decide) (by decide) (by decide) ⟨(Nat.le_of_ble_eq_true rfl), (Nat.le_of_ble_eq_true rfl)⟩ dX4_init_7 (fun q1 => ?_)
  refine V_putF (ws' := [(a0, .inr (4, [.ref q1, .null, .null, .int 0])), (q1, .inl (d.2.1, 12, .inl (fun _ => 0)))]) C hin fx4 0 0 kx_f_X4_9 (by decide) rfl rfl rfl rfl ⟨rfl, rfl⟩ (Nat.le_of_ble_eq_true rfl) rfl dX4_init_9 ?_
  refine V_aload_n C 0 dX4_init_12 rfl rfl ?_
  refine V_bipush (v := 12) C dX4_init_13 (by decide) ?_
  refine V_newI C 12 kx_ac_int (by decide) (by decide) (by decide) ⟨(Nat.le_of_ble_eq_true rfl), (Nat.le_of_ble_eq_true rfl)⟩ dX4_init_15 (fun q2 => ?_)
  refine V_putF (ws' := [(a0, .inr (4, [.ref q1, .ref q2, .null, .int 0])), (q1, .inl (d.2.1, 12, .inl (fun _ => 0))), (q2, .inl (d.2.1, 12, .inl (fun _ => 0)))]) C hin fx4 0 1 kx_f_X4_15 (by decide) rfl rfl rfl rfl ⟨rfl, rfl⟩ (Nat.le_of_ble_eq_true rfl) rfl dX4_init_17 ?_
  refine V_aload_n C 0 dX4_init_20 rfl rfl ?_
  refine V_bipush (v := 12) C dX4_init_21 (by decide) ?_
  refine V_newI C 12 kx_ac_int (by decide) (by decide) (by decide) ⟨(Nat.le_of_ble_eq_true rfl), (Nat.le_of_ble_eq_true rfl)⟩ dX4_init_23 (fun q3 => ?_)
  refine V_putF (ws' := [(a0, .inr (4, [.ref q1, .ref q2, .ref q3, .int 0])), (q1, .inl (d.2.1, 12, .inl (fun _ => 0))), (q2, .inl (d.2.1, 12, .inl (fun _ => 0))), (q3, .inl (d.2.1, 12, .inl (fun _ => 0)))]) C hin fx4 0 2 kx_f_X4_18 (by decide) rfl rfl rfl rfl ⟨rfl, rfl⟩ (Nat.le_of_ble_eq_true rfl) rfl dX4_init_25 ?_
  exact V_vretN (Wd := fun a => WR d a iR) C hr hlk (fun i => match i with | 0 => a0 | 1 => q1 | 2 => q2 | _ => q3) rfl rfl dX4_init_28
set_option maxRecDepth 20000 in
theorem ct_X3_init (l : Launch) (d : Dt) : CtN l d yX3_init cX3_init 1 { frames := 1, cells := 1, slots := 60, locals := 20 } 1 60 (.inr (3, [.null, .int 0, .int 0, .int 0, .int 0, .int 0, .int 0, .int 0, .int 0])) (fun a => WO d a iO) := by
  refine CtN.start (by decide) rfl (by decide) (fun a0 => [some (.ref a0)]) (fun _ => rfl) (fun x A a0 C hr hlk hin hAO => ?_)
  refine V_aload_n C 0 dX3_init_0 rfl rfl ?_
  refine V_objInit C kx_oi_X3 kx_oi_inst kx_oi_code ⟨(Nat.le_of_ble_eq_true rfl), (Nat.le_of_ble_eq_true rfl)⟩ dX3_init_1 ?_
  refine V_aload_n C 0 dX3_init_4 rfl rfl ?_
  refine V_bipush (v := 60) C dX3_init_5 (by decide) ?_
  refine V_newC C 60 kx_ac_char (by decide) (by decide) (by decide) ⟨(Nat.le_of_ble_eq_true rfl), (Nat.le_of_ble_eq_true rfl)⟩ dX3_init_7 (fun q1 => ?_)
  refine V_putF (ws' := [(a0, .inr (3, [.ref q1, .int 0, .int 0, .int 0, .int 0, .int 0, .int 0, .int 0, .int 0])), (q1, .inl (d.2.2.1, 60, .inl (fun _ => 0)))]) C hin fx3 0 0 kx_f_X3_9 (by decide) rfl rfl rfl rfl ⟨rfl, rfl⟩ (Nat.le_of_ble_eq_true rfl) rfl dX3_init_9 ?_
  exact V_vretN (Wd := fun a => WO d a iO) C hr hlk (fun i => match i with | 0 => a0 | _ => q1) rfl rfl dX3_init_12
set_option maxRecDepth 20000 in
theorem ct_X2_init (l : Launch) (d : Dt) : CtN l d yX2_init cX2_init 1 { frames := 2, cells := 11, slots := 264, locals := 70 } 11 264 (.inr (2, [.null, .null, .int 0, .int 0, .int 0, .int 0, .int 0, .int 0, .int 0, .int 0])) (fun a => WL d a iL) := by
  refine CtN.start (by decide) rfl (by decide) (fun a0 => [some (.ref a0)]) (fun _ => rfl) (fun x A a0 C hr hlk hin hAO => ?_)
  refine V_aload_n C 0 dX2_init_0 rfl rfl ?_
  refine V_objInit C kx_oi_X2 kx_oi_inst kx_oi_code ⟨(Nat.le_of_ble_eq_true rfl), (Nat.le_of_ble_eq_true rfl)⟩ dX2_init_1 ?_
  refine V_aload_n C 0 dX2_init_4 rfl rfl ?_
  refine V_new (fs := [.null, .null, .null, .null, .null, .null, .int 0]) C fx0 kx_cl_X2_9 kx_in_X0 kx_ini_X0 (fun j hj => by rcases (show j = 0 ∨ j = 1 ∨ j = 2 ∨ j = 3 ∨ j = 4 ∨ j = 5 ∨ j = 6 by omega) with rfl | rfl | rfl | rfl | rfl | rfl | rfl <;> rfl) ⟨(Nat.le_of_ble_eq_true rfl), (Nat.le_of_ble_eq_true rfl)⟩ dX2_init_5 (fun q1 => ?_)
  refine V_dup C dX2_init_8 rfl ?_
  refine V_callI C hAO (ct_X0_init _ d) kx_cn_X0_init kx_l_X2_11 dX2_init_9 (by exact Nat.le_of_ble_eq_true rfl) ⟨(by exact Nat.le_of_ble_eq_true rfl), (by exact Nat.le_of_ble_eq_true rfl)⟩ rfl rfl ⟨(by exact Nat.le_of_ble_eq_true rfl), (by exact Nat.le_of_ble_eq_true rfl)⟩ (fun b1 hb1 => ?_)
  subst hb1
  refine V_putF (ws' := ([(a0, .inr (2, [.ref (b1 0), .null, .int 0, .int 0, .int 0, .int 0, .int 0, .int 0, .int 0, .int 0]))] ++ WC d b1 iC)) C hin fx2 0 0 kx_f_X2_12 (by decide) rfl rfl rfl rfl ⟨rfl, rfl⟩ (Nat.le_of_ble_eq_true rfl) rfl dX2_init_12 ?_
  refine V_aload_n C 0 dX2_init_15 rfl rfl ?_
  refine V_new (fs := [.null, .null, .null, .int 0]) C fx4 kx_cl_X2_18 kx_in_X4 kx_ini_X4 (fun j hj => by rcases (show j = 0 ∨ j = 1 ∨ j = 2 ∨ j = 3 by omega) with rfl | rfl | rfl | rfl <;> rfl) ⟨(Nat.le_of_ble_eq_true rfl), (Nat.le_of_ble_eq_true rfl)⟩ dX2_init_16 (fun q2 => ?_)
  refine V_dup C dX2_init_19 rfl ?_
  refine V_callIN C hAO (ct_X4_init _ d) kx_cn_X4_init kx_n_X2_20 dX2_init_20 (by exact Nat.le_of_ble_eq_true rfl) ⟨(by exact Nat.le_of_ble_eq_true rfl), (by exact Nat.le_of_ble_eq_true rfl)⟩ rfl rfl ⟨(by exact Nat.le_of_ble_eq_true rfl), (by exact Nat.le_of_ble_eq_true rfl)⟩ (fun b2 hb2 => ?_)
  subst hb2
  refine V_putF (ws' := (([(a0, .inr (2, [.ref (b1 0), .ref (b2 0), .int 0, .int 0, .int 0, .int 0, .int 0, .int 0, .int 0, .int 0]))] ++ WC d b1 iC) ++ WR d b2 iR)) C hin fx2 0 1 kx_f_X2_21 (by decide) rfl rfl rfl rfl ⟨rfl, rfl⟩ (Nat.le_of_ble_eq_true rfl) rfl dX2_init_23 ?_
  exact V_vretN (Wd := fun a => WL d a iL) C hr hlk (fun i => if i = 0 then a0 else if i < 8 then b1 (i - 1) else b2 (i - 8)) rfl rfl dX2_init_26
section QROWS
variable {x : Am} {R : Room} {cells slots : Nat} {Q : State → Prop} {nL : Nat} {I : Iv} {hyp : Prop} {pc : Nat} {ws ws' : va_W} {lv lv' : List (Option Value)} {rest stk : List Value} {cc : ByteArray} {own : String} {d : Dt} {A : Nat → Prop}
theorem V_icmp_get (C : Cx x cc nL own d I) {a b : Int32} {off : Int} {tgt : Nat} (hdg : decode cc pc = .ok (.if_icmp .ge off, 3)) (ht : (pc : Int) + off = (tgt : Int)) (hc : b ≤ a) (kf : V x R cells slots Q nL I hyp tgt ws lv rest) : V x R cells slots Q nL I hyp pc ws lv (.int b :: .int a :: rest) :=
  fun h H locs ls hI hl => lv_icmp_ge C.1 C.2.1 hdg ht (fun _ => kf h H locs ls hI hl) (fun q => absurd hc q)
theorem V_astq (C : Cx x cc nL own d (Imu d A x.s.heap)) (q0 qk : Nat) {a n v : Nat} {vs : List Value} {f : Nat → Option Nat} {i : Int32} (k : Nat) (ha : ws[q0]? = some (a, .inl (d.2.2.2, n, .inr (.inr (.inr (.inr f)))))) (hv : ws[qk]? = some (v, .inr (2, vs))) (hi : inb i n = true) (hk : i.toNatClampNeg = k) (hws : ws.set q0 (a, .inl (d.2.2.2, n, .inr (.inr (.inr (.inr (va_up f k (some v))))))) = ws') (hdg : decode cc pc = .ok (.aastore, 1))
    (kk : V x R cells slots Q nL (Imu d A x.s.heap) hyp (pc + 1) ws' lv rest) : V x R cells slots Q nL (Imu d A x.s.heap) hyp pc ws lv (.ref v :: .int i :: .ref a :: rest) := by
  subst hk
  subst hws
  exact fun h H locs ls hI hl => va_astq (D := d.1) (r := (RX2, TX2, 10)) C.1 C.2.1 C.2.2.2.2.2.1.1 hI.1 hI.2.1 hI.2.2.1 q0 2 qk 2 ha rfl hv rfl (inb_in hi) hdg (fun H1 locs1 hP hD hS => kk h H1 locs1 ls ⟨hP, hD, hS, hI.2.2.2⟩ hl)
theorem inq_ext {D : va_G} {H : Heap} {q0 a : Nat} {cA : ClassId} {n : Nat} {f g : Nat → Option Nat} {ws1 : va_W} (h : va_P D vwCl ws H) (h1 : ws[q0]? = some (a, .inl (cA, n, .inr (.inr (.inr (.inr f)))))) (h2 : ws.set q0 (a, .inl (cA, n, .inr (.inr (.inr (.inr g))))) = ws1) (hfg : ∀ j, j < n → f j = g j) : va_P D vwCl ws1 H := by
  subst h2
  intro k q hk
  by_cases e : q0 = k
  · subst e
    rw [List.getElem?_set_self', h1] at hk
    have : (a, Sum.inl (cA, n, Sum.inr (Sum.inr (Sum.inr (Sum.inr g))))) = q := by simpa using hk
    subst this
    have h3 : H[a]? = some (vp_cell cA (n, .inr (.inr (.inr (.inr f))))) := h q0 _ h1
    show H[a]? = some (vp_cell cA (n, .inr (.inr (.inr (.inr g)))))
    rw [h3, vp_cell_q, vp_cell_q]
    have e1 : arrV cA n (fun j => va_rf (f j)) = arrV cA n (fun j => va_rf (g j)) := by
      unfold arrV
      congr 1
      apply Array.ext
      · simp
      · intro i h4 h5
        simp at h4
        simp [hfg i h4]
    rw [e1]
  · rw [List.getElem?_set_ne e] at hk
    exact h k q hk
theorem V_extq {q0 a n : Nat} {cA : ClassId} {f g : Nat → Option Nat} (h1 : ws[q0]? = some (a, .inl (cA, n, .inr (.inr (.inr (.inr f)))))) (h2 : ws.set q0 (a, .inl (cA, n, .inr (.inr (.inr (.inr g))))) = ws') (hfg : ∀ j, j < n → f j = g j) (k : V x R cells slots Q nL (Imu d A x.s.heap) hyp pc ws' lv stk) : V x R cells slots Q nL (Imu d A x.s.heap) hyp pc ws lv stk :=
  fun h H locs ls hI hl => k h H locs ls ⟨inq_ext hI.1 h1 h2 hfg, h2 ▸ hI.2.1.set h1, hI.2.2.1, hI.2.2.2⟩ hl
end QROWS
set_option maxRecDepth 20000 in
theorem ct_X1_init (l : Launch) (d : Dt) : CtN l d yX1_init cX1_init 2 { frames := 3, cells := 49, slots := 1100, locals := 90 } 49 1100 (.inr (1, [.null, .int 0, .int 0])) (fun a => WH d a iH) := by
  refine CtN.start (by decide) rfl (by decide) (fun a0 => [some (.ref a0), none]) (fun _ => rfl) (fun x A a0 C hr hlk hin hAO => ?_)
  refine V_aload_n C 0 dX1_init_0 rfl rfl ?_
  refine V_objInit C kx_oi_X1 kx_oi_inst kx_oi_code ⟨(Nat.le_of_ble_eq_true rfl), (Nat.le_of_ble_eq_true rfl)⟩ dX1_init_1 ?_
  refine V_aload_n C 0 dX1_init_4 rfl rfl ?_
  refine V_iconst (v := 4) C dX1_init_5 (by decide) ?_
  refine V_newL C hAO 4 kx_cl_X1_9 (by decide) (by decide) (by decide) ⟨(Nat.le_of_ble_eq_true rfl), (Nat.le_of_ble_eq_true rfl)⟩ dX1_init_6 (fun q1 => ?_)
  refine V_putF (ws' := (a0, .inr (1, [.ref q1, .int 0, .int 0])) :: (q1, .inl (d.2.2.2, 4, .inr (.inr (.inr (.inr (fun _ => none)))))) :: []) C hin fx1 0 0 kx_f_X1_11 (by decide) rfl rfl rfl rfl ⟨rfl, rfl⟩ (Nat.le_of_ble_eq_true rfl) rfl dX1_init_9 ?_
  refine V_iconst (v := 0) C dX1_init_12 (by decide) ?_
  refine V_istore_n (lv' := [some (.ref a0), some (.int 0)]) C 1 dX1_init_13 rfl (by decide) rfl ?_
  refine V_iload_n C 1 dX1_init_14 rfl rfl ?_
  refine V_aload_n C 0 dX1_init_15 rfl rfl ?_
  refine V_get (v := .ref q1) C fx1 0 0 kx_f_X1_11 (by decide) rfl rfl dX1_init_16 ?_
  refine V_alenL (v := 4) C 1 rfl (by decide) dX1_init_19 ?_
  refine V_icmp_gec (tgt := 42) C dX1_init_20 (by decide) (by decide) ?_
  refine V_aload_n C 0 dX1_init_23 rfl rfl ?_
  refine V_get (v := .ref q1) C fx1 0 0 kx_f_X1_11 (by decide) rfl rfl dX1_init_24 ?_
  refine V_iload_n C 1 dX1_init_27 rfl rfl ?_
  refine V_new (fs := [.null, .null, .int 0, .int 0, .int 0, .int 0, .int 0, .int 0, .int 0, .int 0]) C fx2 kx_cl_X1_9 kx_in_X2 kx_ini_X2 (fun j hj => by rcases (show j = 0 ∨ j = 1 ∨ j = 2 ∨ j = 3 ∨ j = 4 ∨ j = 5 ∨ j = 6 ∨ j = 7 ∨ j = 8 ∨ j = 9 by omega) with rfl | rfl | rfl | rfl | rfl | rfl | rfl | rfl | rfl | rfl <;> rfl) ⟨(Nat.le_of_ble_eq_true rfl), (Nat.le_of_ble_eq_true rfl)⟩ dX1_init_28 (fun p0 => ?_)
  refine V_dup C dX1_init_31 rfl ?_
  refine V_callIN C hAO (ct_X2_init _ d) kx_cn_X2_init kx_n_X1_17 dX1_init_32 (by exact Nat.le_of_ble_eq_true rfl) ⟨(by exact Nat.le_of_ble_eq_true rfl), (by exact Nat.le_of_ble_eq_true rfl)⟩ rfl rfl ⟨(by exact Nat.le_of_ble_eq_true rfl), (by exact Nat.le_of_ble_eq_true rfl)⟩ (fun b0 hb0 => ?_)
  subst hb0
  refine V_ws (ws' := (a0, .inr (1, [.ref q1, .int 0, .int 0])) :: (q1, .inl (d.2.2.2, 4, .inr (.inr (.inr (.inr (fun _ => none)))))) :: ([] ++ WL d b0 iL)) rfl ?_
  refine V_astq (ws' := (a0, .inr (1, [.ref q1, .int 0, .int 0])) :: (q1, .inl (d.2.2.2, 4, .inr (.inr (.inr (.inr (va_up (fun _ => none) 0 (some (b0 0)))))))) :: ([] ++ WL d b0 iL)) C 1 2 0 rfl rfl (by decide) (by decide) rfl dX1_init_35 ?_
  refine V_iinc (v := 1) (lv' := [some (.ref a0), some (.int 1)]) C dX1_init_36 rfl (by decide) (by decide) rfl ?_
  refine V_goto (tgt := 14) C dX1_init_39 (by decide) ?_
  refine V_iload_n C 1 dX1_init_14 rfl rfl ?_
  refine V_aload_n C 0 dX1_init_15 rfl rfl ?_
  refine V_get (v := .ref q1) C fx1 0 0 kx_f_X1_11 (by decide) rfl rfl dX1_init_16 ?_
  refine V_alenL (v := 4) C 1 rfl (by decide) dX1_init_19 ?_
  refine V_icmp_gec (tgt := 42) C dX1_init_20 (by decide) (by decide) ?_
  refine V_aload_n C 0 dX1_init_23 rfl rfl ?_
  refine V_get (v := .ref q1) C fx1 0 0 kx_f_X1_11 (by decide) rfl rfl dX1_init_24 ?_
  refine V_iload_n C 1 dX1_init_27 rfl rfl ?_
  refine V_new (fs := [.null, .null, .int 0, .int 0, .int 0, .int 0, .int 0, .int 0, .int 0, .int 0]) C fx2 kx_cl_X1_9 kx_in_X2 kx_ini_X2 (fun j hj => by rcases (show j = 0 ∨ j = 1 ∨ j = 2 ∨ j = 3 ∨ j = 4 ∨ j = 5 ∨ j = 6 ∨ j = 7 ∨ j = 8 ∨ j = 9 by omega) with rfl | rfl | rfl | rfl | rfl | rfl | rfl | rfl | rfl | rfl <;> rfl) ⟨(Nat.le_of_ble_eq_true rfl), (Nat.le_of_ble_eq_true rfl)⟩ dX1_init_28 (fun p1 => ?_)
  refine V_dup C dX1_init_31 rfl ?_
  refine V_callIN C hAO (ct_X2_init _ d) kx_cn_X2_init kx_n_X1_17 dX1_init_32 (by exact Nat.le_of_ble_eq_true rfl) ⟨(by exact Nat.le_of_ble_eq_true rfl), (by exact Nat.le_of_ble_eq_true rfl)⟩ rfl rfl ⟨(by exact Nat.le_of_ble_eq_true rfl), (by exact Nat.le_of_ble_eq_true rfl)⟩ (fun b1 hb1 => ?_)
  subst hb1
  refine V_ws (ws' := (a0, .inr (1, [.ref q1, .int 0, .int 0])) :: (q1, .inl (d.2.2.2, 4, .inr (.inr (.inr (.inr (va_up (fun _ => none) 0 (some (b0 0)))))))) :: (([] ++ WL d b0 iL) ++ WL d b1 iL)) rfl ?_
  refine V_astq (ws' := (a0, .inr (1, [.ref q1, .int 0, .int 0])) :: (q1, .inl (d.2.2.2, 4, .inr (.inr (.inr (.inr (va_up (va_up (fun _ => none) 0 (some (b0 0))) 1 (some (b1 0)))))))) :: (([] ++ WL d b0 iL) ++ WL d b1 iL)) C 1 14 1 rfl rfl (by decide) (by decide) rfl dX1_init_35 ?_
  refine V_iinc (v := 2) (lv' := [some (.ref a0), some (.int 2)]) C dX1_init_36 rfl (by decide) (by decide) rfl ?_
  refine V_goto (tgt := 14) C dX1_init_39 (by decide) ?_
  refine V_iload_n C 1 dX1_init_14 rfl rfl ?_
  refine V_aload_n C 0 dX1_init_15 rfl rfl ?_
  refine V_get (v := .ref q1) C fx1 0 0 kx_f_X1_11 (by decide) rfl rfl dX1_init_16 ?_
  refine V_alenL (v := 4) C 1 rfl (by decide) dX1_init_19 ?_
  refine V_icmp_gec (tgt := 42) C dX1_init_20 (by decide) (by decide) ?_
  refine V_aload_n C 0 dX1_init_23 rfl rfl ?_
  refine V_get (v := .ref q1) C fx1 0 0 kx_f_X1_11 (by decide) rfl rfl dX1_init_24 ?_
  refine V_iload_n C 1 dX1_init_27 rfl rfl ?_
  refine V_new (fs := [.null, .null, .int 0, .int 0, .int 0, .int 0, .int 0, .int 0, .int 0, .int 0]) C fx2 kx_cl_X1_9 kx_in_X2 kx_ini_X2 (fun j hj => by rcases (show j = 0 ∨ j = 1 ∨ j = 2 ∨ j = 3 ∨ j = 4 ∨ j = 5 ∨ j = 6 ∨ j = 7 ∨ j = 8 ∨ j = 9 by omega) with rfl | rfl | rfl | rfl | rfl | rfl | rfl | rfl | rfl | rfl <;> rfl) ⟨(Nat.le_of_ble_eq_true rfl), (Nat.le_of_ble_eq_true rfl)⟩ dX1_init_28 (fun p2 => ?_)
  refine V_dup C dX1_init_31 rfl ?_
  refine V_callIN C hAO (ct_X2_init _ d) kx_cn_X2_init kx_n_X1_17 dX1_init_32 (by exact Nat.le_of_ble_eq_true rfl) ⟨(by exact Nat.le_of_ble_eq_true rfl), (by exact Nat.le_of_ble_eq_true rfl)⟩ rfl rfl ⟨(by exact Nat.le_of_ble_eq_true rfl), (by exact Nat.le_of_ble_eq_true rfl)⟩ (fun b2 hb2 => ?_)
  subst hb2
  refine V_ws (ws' := (a0, .inr (1, [.ref q1, .int 0, .int 0])) :: (q1, .inl (d.2.2.2, 4, .inr (.inr (.inr (.inr (va_up (va_up (fun _ => none) 0 (some (b0 0))) 1 (some (b1 0)))))))) :: ((([] ++ WL d b0 iL) ++ WL d b1 iL) ++ WL d b2 iL)) rfl ?_
  refine V_astq (ws' := (a0, .inr (1, [.ref q1, .int 0, .int 0])) :: (q1, .inl (d.2.2.2, 4, .inr (.inr (.inr (.inr (va_up (va_up (va_up (fun _ => none) 0 (some (b0 0))) 1 (some (b1 0))) 2 (some (b2 0)))))))) :: ((([] ++ WL d b0 iL) ++ WL d b1 iL) ++ WL d b2 iL)) C 1 26 2 rfl rfl (by decide) (by decide) rfl dX1_init_35 ?_
  refine V_iinc (v := 3) (lv' := [some (.ref a0), some (.int 3)]) C dX1_init_36 rfl (by decide) (by decide) rfl ?_
  refine V_goto (tgt := 14) C dX1_init_39 (by decide) ?_
  refine V_iload_n C 1 dX1_init_14 rfl rfl ?_
  refine V_aload_n C 0 dX1_init_15 rfl rfl ?_
  refine V_get (v := .ref q1) C fx1 0 0 kx_f_X1_11 (by decide) rfl rfl dX1_init_16 ?_
  refine V_alenL (v := 4) C 1 rfl (by decide) dX1_init_19 ?_
  refine V_icmp_gec (tgt := 42) C dX1_init_20 (by decide) (by decide) ?_
  refine V_aload_n C 0 dX1_init_23 rfl rfl ?_
  refine V_get (v := .ref q1) C fx1 0 0 kx_f_X1_11 (by decide) rfl rfl dX1_init_24 ?_
  refine V_iload_n C 1 dX1_init_27 rfl rfl ?_
  refine V_new (fs := [.null, .null, .int 0, .int 0, .int 0, .int 0, .int 0, .int 0, .int 0, .int 0]) C fx2 kx_cl_X1_9 kx_in_X2 kx_ini_X2 (fun j hj => by rcases (show j = 0 ∨ j = 1 ∨ j = 2 ∨ j = 3 ∨ j = 4 ∨ j = 5 ∨ j = 6 ∨ j = 7 ∨ j = 8 ∨ j = 9 by omega) with rfl | rfl | rfl | rfl | rfl | rfl | rfl | rfl | rfl | rfl <;> rfl) ⟨(Nat.le_of_ble_eq_true rfl), (Nat.le_of_ble_eq_true rfl)⟩ dX1_init_28 (fun p3 => ?_)
  refine V_dup C dX1_init_31 rfl ?_
  refine V_callIN C hAO (ct_X2_init _ d) kx_cn_X2_init kx_n_X1_17 dX1_init_32 (by exact Nat.le_of_ble_eq_true rfl) ⟨(by exact Nat.le_of_ble_eq_true rfl), (by exact Nat.le_of_ble_eq_true rfl)⟩ rfl rfl ⟨(by exact Nat.le_of_ble_eq_true rfl), (by exact Nat.le_of_ble_eq_true rfl)⟩ (fun b3 hb3 => ?_)
  subst hb3
  refine V_ws (ws' := (a0, .inr (1, [.ref q1, .int 0, .int 0])) :: (q1, .inl (d.2.2.2, 4, .inr (.inr (.inr (.inr (va_up (va_up (va_up (fun _ => none) 0 (some (b0 0))) 1 (some (b1 0))) 2 (some (b2 0)))))))) :: (((([] ++ WL d b0 iL) ++ WL d b1 iL) ++ WL d b2 iL) ++ WL d b3 iL)) rfl ?_
  refine V_astq (ws' := (a0, .inr (1, [.ref q1, .int 0, .int 0])) :: (q1, .inl (d.2.2.2, 4, .inr (.inr (.inr (.inr (va_up (va_up (va_up (va_up (fun _ => none) 0 (some (b0 0))) 1 (some (b1 0))) 2 (some (b2 0))) 3 (some (b3 0)))))))) :: (((([] ++ WL d b0 iL) ++ WL d b1 iL) ++ WL d b2 iL) ++ WL d b3 iL)) C 1 38 3 rfl rfl (by decide) (by decide) rfl dX1_init_35 ?_
  refine V_iinc (v := 4) (lv' := [some (.ref a0), some (.int 4)]) C dX1_init_36 rfl (by decide) (by decide) rfl ?_
  refine V_goto (tgt := 14) C dX1_init_39 (by decide) ?_
  refine V_iload_n C 1 dX1_init_14 rfl rfl ?_
  refine V_aload_n C 0 dX1_init_15 rfl rfl ?_
  refine V_get (v := .ref q1) C fx1 0 0 kx_f_X1_11 (by decide) rfl rfl dX1_init_16 ?_
  refine V_alenL (v := 4) C 1 rfl (by decide) dX1_init_19 ?_
  refine V_icmp_get (tgt := 42) C dX1_init_20 (by decide) (by decide) ?_
  obtain ⟨a, ha⟩ : ∃ a : Nat → Nat, a = (fun i => if i = 0 then a0 else if i = 1 then q1 else if i < 14 then b0 (i - 2) else if i < 26 then b1 (i - 14) else if i < 38 then b2 (i - 26) else b3 (i - 38)) := ⟨_, rfl⟩
  have e0 : WL d (fun i => a (i + 2)) iL = WL d b0 iL := WL_congr d iL (fun i hi => by
    show a (i + 2) = b0 i
    rw [ha]
    show (if i + 2 = 0 then a0 else if i + 2 = 1 then q1 else if i + 2 < 14 then b0 (i + 2 - 2) else if i + 2 < 26 then b1 (i + 2 - 14) else if i + 2 < 38 then b2 (i + 2 - 26) else b3 (i + 2 - 38)) = b0 i
    rw [if_neg (by omega), if_neg (by omega), if_pos (by omega), show i + 2 - 2 = i by omega])
  have e1 : WL d (fun i => a (i + 14)) iL = WL d b1 iL := WL_congr d iL (fun i hi => by
    show a (i + 14) = b1 i
    rw [ha]
    show (if i + 14 = 0 then a0 else if i + 14 = 1 then q1 else if i + 14 < 14 then b0 (i + 14 - 2) else if i + 14 < 26 then b1 (i + 14 - 14) else if i + 14 < 38 then b2 (i + 14 - 26) else b3 (i + 14 - 38)) = b1 i
    rw [if_neg (by omega), if_neg (by omega), if_neg (by omega), if_pos (by omega), show i + 14 - 14 = i by omega])
  have e2 : WL d (fun i => a (i + 26)) iL = WL d b2 iL := WL_congr d iL (fun i hi => by
    show a (i + 26) = b2 i
    rw [ha]
    show (if i + 26 = 0 then a0 else if i + 26 = 1 then q1 else if i + 26 < 14 then b0 (i + 26 - 2) else if i + 26 < 26 then b1 (i + 26 - 14) else if i + 26 < 38 then b2 (i + 26 - 26) else b3 (i + 26 - 38)) = b2 i
    rw [if_neg (by omega), if_neg (by omega), if_neg (by omega), if_neg (by omega), if_pos (by omega), show i + 26 - 26 = i by omega])
  have e3 : WL d (fun i => a (i + 38)) iL = WL d b3 iL := WL_congr d iL (fun i hi => by
    show a (i + 38) = b3 i
    rw [ha]
    show (if i + 38 = 0 then a0 else if i + 38 = 1 then q1 else if i + 38 < 14 then b0 (i + 38 - 2) else if i + 38 < 26 then b1 (i + 38 - 14) else if i + 38 < 38 then b2 (i + 38 - 26) else b3 (i + 38 - 38)) = b3 i
    rw [if_neg (by omega), if_neg (by omega), if_neg (by omega), if_neg (by omega), if_neg (by omega), show i + 38 - 38 = i by omega])
  refine V_extq (ws' := (a0, .inr (1, [.ref q1, .int 0, .int 0])) :: (q1, .inl (d.2.2.2, 4, .inr (.inr (.inr (.inr (libRow a)))))) :: (((([] ++ WL d b0 iL) ++ WL d b1 iL) ++ WL d b2 iL) ++ WL d b3 iL)) (q0 := 1) (g := libRow a) rfl rfl (fun j hj => ?_) ?_
  · rw [ha]
    rcases (show j = 0 ∨ j = 1 ∨ j = 2 ∨ j = 3 by omega) with rfl | rfl | rfl | rfl <;> rfl
  exact V_vretN (Wd := fun a => WH d a iH) C hr hlk a (by rw [ha]; rfl) (by
    show (a 0, .inr (1, [.ref (a 1), .int 0, .int 0])) :: (a 1, .inl (d.2.2.2, 4, .inr (.inr (.inr (.inr (libRow a)))))) :: (WL d (fun i => a (i + 2)) iL ++ (WL d (fun i => a (i + 14)) iL ++ (WL d (fun i => a (i + 26)) iL ++ WL d (fun i => a (i + 38)) iL))) = _
    rw [e0, e1, e2, e3, show a 0 = a0 by rw [ha]; rfl, show a 1 = q1 by rw [ha]; rfl]
    simp only [List.nil_append, List.append_assoc]) dX1_init_42
set_option maxRecDepth 20000 in
theorem ct_X6_init (l : Launch) (d : Dt) : CtN l d yX6_init cX6_init 1 { frames := 4, cells := 76, slots := 1720, locals := 111 } 76 1720 (.inr (5, [.null, .null, .null, .null])) (fun a => WM d a iM) := by
  refine CtN.start (by decide) rfl (by decide) (fun a0 => [some (.ref a0)]) (fun _ => rfl) (fun x A a0 C hr hlk hin hAO => ?_)
  refine V_aload_n C 0 dX6_init_0 rfl rfl ?_
  refine V_objInit C kx_oi_X6 kx_oi_inst kx_oi_code ⟨(Nat.le_of_ble_eq_true rfl), (Nat.le_of_ble_eq_true rfl)⟩ dX6_init_1 ?_
  refine V_aload_n C 0 dX6_init_4 rfl rfl ?_
  refine V_new (fs := [.null, .null, .int 0, .int 0, .int 0, .int 0, .int 0, .int 0, .int 0, .int 0]) C fx2 kx_cl_X6_9 kx_in_X2 kx_ini_X2 (fun j hj => by rcases (show j = 0 ∨ j = 1 ∨ j = 2 ∨ j = 3 ∨ j = 4 ∨ j = 5 ∨ j = 6 ∨ j = 7 ∨ j = 8 ∨ j = 9 by omega) with rfl | rfl | rfl | rfl | rfl | rfl | rfl | rfl | rfl | rfl <;> rfl) ⟨(Nat.le_of_ble_eq_true rfl), (Nat.le_of_ble_eq_true rfl)⟩ dX6_init_5 (fun q1 => ?_)
  refine V_dup C dX6_init_8 rfl ?_
  refine V_callIN C hAO (ct_X2_init _ d) kx_cn_X2_init kx_n_X6_11 dX6_init_9 (by exact Nat.le_of_ble_eq_true rfl) ⟨(by exact Nat.le_of_ble_eq_true rfl), (by exact Nat.le_of_ble_eq_true rfl)⟩ rfl rfl ⟨(by exact Nat.le_of_ble_eq_true rfl), (by exact Nat.le_of_ble_eq_true rfl)⟩ (fun b1 hb1 => ?_)
  subst hb1
  refine V_putF (ws' := ([(a0, .inr (5, [.ref (b1 0), .null, .null, .null]))] ++ WL d b1 iL)) C hin fx6 0 0 kx_f_X6_12 (by decide) rfl rfl rfl rfl ⟨rfl, rfl⟩ (Nat.le_of_ble_eq_true rfl) rfl dX6_init_12 ?_
  refine V_aload_n C 0 dX6_init_15 rfl rfl ?_
  refine V_new (fs := [.null, .null, .int 0, .int 0, .int 0, .int 0, .int 0, .int 0, .int 0, .int 0]) C fx2 kx_cl_X6_9 kx_in_X2 kx_ini_X2 (fun j hj => by rcases (show j = 0 ∨ j = 1 ∨ j = 2 ∨ j = 3 ∨ j = 4 ∨ j = 5 ∨ j = 6 ∨ j = 7 ∨ j = 8 ∨ j = 9 by omega) with rfl | rfl | rfl | rfl | rfl | rfl | rfl | rfl | rfl | rfl <;> rfl) ⟨(Nat.le_of_ble_eq_true rfl), (Nat.le_of_ble_eq_true rfl)⟩ dX6_init_16 (fun q2 => ?_)
  refine V_dup C dX6_init_19 rfl ?_
  refine V_callIN C hAO (ct_X2_init _ d) kx_cn_X2_init kx_n_X6_11 dX6_init_20 (by exact Nat.le_of_ble_eq_true rfl) ⟨(by exact Nat.le_of_ble_eq_true rfl), (by exact Nat.le_of_ble_eq_true rfl)⟩ rfl rfl ⟨(by exact Nat.le_of_ble_eq_true rfl), (by exact Nat.le_of_ble_eq_true rfl)⟩ (fun b2 hb2 => ?_)
  subst hb2
  refine V_putF (ws' := (([(a0, .inr (5, [.ref (b1 0), .ref (b2 0), .null, .null]))] ++ WL d b1 iL) ++ WL d b2 iL)) C hin fx6 0 1 kx_f_X6_16 (by decide) rfl rfl rfl rfl ⟨rfl, rfl⟩ (Nat.le_of_ble_eq_true rfl) rfl dX6_init_23 ?_
  refine V_aload_n C 0 dX6_init_26 rfl rfl ?_
  refine V_new (fs := [.null, .int 0, .int 0]) C fx1 kx_cl_X6_19 kx_in_X1 kx_ini_X1 (fun j hj => by rcases (show j = 0 ∨ j = 1 ∨ j = 2 by omega) with rfl | rfl | rfl <;> rfl) ⟨(Nat.le_of_ble_eq_true rfl), (Nat.le_of_ble_eq_true rfl)⟩ dX6_init_27 (fun q3 => ?_)
  refine V_dup C dX6_init_30 rfl ?_
  refine V_callI C hAO (ct_X1_init _ d) kx_cn_X1_init kx_l_X6_21 dX6_init_31 (by exact Nat.le_of_ble_eq_true rfl) ⟨(by exact Nat.le_of_ble_eq_true rfl), (by exact Nat.le_of_ble_eq_true rfl)⟩ rfl rfl ⟨(by exact Nat.le_of_ble_eq_true rfl), (by exact Nat.le_of_ble_eq_true rfl)⟩ (fun b3 hb3 => ?_)
  subst hb3
  refine V_putF (ws' := ((([(a0, .inr (5, [.ref (b1 0), .ref (b2 0), .ref (b3 0), .null]))] ++ WL d b1 iL) ++ WL d b2 iL) ++ WH d b3 iH)) C hin fx6 0 2 kx_f_X6_22 (by decide) rfl rfl rfl rfl ⟨rfl, rfl⟩ (Nat.le_of_ble_eq_true rfl) rfl dX6_init_34 ?_
  refine V_aload_n C 0 dX6_init_37 rfl rfl ?_
  refine V_new (fs := [.null, .int 0, .int 0, .int 0, .int 0, .int 0, .int 0, .int 0, .int 0]) C fx3 kx_cl_X6_26 kx_in_X3 kx_ini_X3 (fun j hj => by rcases (show j = 0 ∨ j = 1 ∨ j = 2 ∨ j = 3 ∨ j = 4 ∨ j = 5 ∨ j = 6 ∨ j = 7 ∨ j = 8 by omega) with rfl | rfl | rfl | rfl | rfl | rfl | rfl | rfl | rfl <;> rfl) ⟨(Nat.le_of_ble_eq_true rfl), (Nat.le_of_ble_eq_true rfl)⟩ dX6_init_38 (fun q4 => ?_)
  refine V_dup C dX6_init_41 rfl ?_
  refine V_callIN C hAO (ct_X3_init _ d) kx_cn_X3_init kx_n_X6_28 dX6_init_42 (by exact Nat.le_of_ble_eq_true rfl) ⟨(by exact Nat.le_of_ble_eq_true rfl), (by exact Nat.le_of_ble_eq_true rfl)⟩ rfl rfl ⟨(by exact Nat.le_of_ble_eq_true rfl), (by exact Nat.le_of_ble_eq_true rfl)⟩ (fun b4 hb4 => ?_)
  subst hb4
  refine V_putF (ws' := (((([(a0, .inr (5, [.ref (b1 0), .ref (b2 0), .ref (b3 0), .ref (b4 0)]))] ++ WL d b1 iL) ++ WL d b2 iL) ++ WH d b3 iH) ++ WO d b4 iO)) C hin fx6 0 3 kx_f_X6_29 (by decide) rfl rfl rfl rfl ⟨rfl, rfl⟩ (Nat.le_of_ble_eq_true rfl) rfl dX6_init_45 ?_
  obtain ⟨a, ha⟩ : ∃ a : Nat → Nat, a = (fun i => if i = 0 then a0 else if i < 13 then b1 (i - 1) else if i < 25 then b2 (i - 13) else if i < 75 then b3 (i - 25) else b4 (i - 75)) := ⟨_, rfl⟩
  have e0 : WL d (fun i => a (i + 1)) iL = WL d b1 iL := WL_congr d iL (fun i hi => by
    show a (i + 1) = b1 i
    rw [ha]
    show (if i + 1 = 0 then a0 else if i + 1 < 13 then b1 (i + 1 - 1) else if i + 1 < 25 then b2 (i + 1 - 13) else if i + 1 < 75 then b3 (i + 1 - 25) else b4 (i + 1 - 75)) = b1 i
    rw [if_neg (by omega), if_pos (by omega), show i + 1 - 1 = i by omega])
  have e1 : WL d (fun i => a (i + 13)) iL = WL d b2 iL := WL_congr d iL (fun i hi => by
    show a (i + 13) = b2 i
    rw [ha]
    show (if i + 13 = 0 then a0 else if i + 13 < 13 then b1 (i + 13 - 1) else if i + 13 < 25 then b2 (i + 13 - 13) else if i + 13 < 75 then b3 (i + 13 - 25) else b4 (i + 13 - 75)) = b2 i
    rw [if_neg (by omega), if_neg (by omega), if_pos (by omega), show i + 13 - 13 = i by omega])
  have e2 : WH d (fun i => a (i + 25)) iH = WH d b3 iH := WH_congr d iH (fun i hi => by
    show a (i + 25) = b3 i
    rw [ha]
    show (if i + 25 = 0 then a0 else if i + 25 < 13 then b1 (i + 25 - 1) else if i + 25 < 25 then b2 (i + 25 - 13) else if i + 25 < 75 then b3 (i + 25 - 25) else b4 (i + 25 - 75)) = b3 i
    rw [if_neg (by omega), if_neg (by omega), if_neg (by omega), if_pos (by omega), show i + 25 - 25 = i by omega])
  have e3 : WO d (fun i => a (i + 75)) iO = WO d b4 iO := WO_congr d iO (fun i hi => by
    show a (i + 75) = b4 i
    rw [ha]
    show (if i + 75 = 0 then a0 else if i + 75 < 13 then b1 (i + 75 - 1) else if i + 75 < 25 then b2 (i + 75 - 13) else if i + 75 < 75 then b3 (i + 75 - 25) else b4 (i + 75 - 75)) = b4 i
    rw [if_neg (by omega), if_neg (by omega), if_neg (by omega), if_neg (by omega), show i + 75 - 75 = i by omega])
  exact V_vretN (Wd := fun a => WM d a iM) C hr hlk a (by rw [ha]; rfl) (by
    show (a 0, .inr (5, [.ref (a 1), .ref (a 13), .ref (a 25), .ref (a 75)])) :: (WL d (fun i => a (i + 1)) iL ++ (WL d (fun i => a (i + 13)) iL ++ (WH d (fun i => a (i + 25)) iH ++ WO d (fun i => a (i + 75)) iO))) = _
    rw [e0, e1, e2, e3, show a 0 = a0 by rw [ha]; rfl, show a 1 = b1 0 by rw [ha]; rfl, show a 13 = b2 0 by rw [ha]; rfl, show a 25 = b3 0 by rw [ha]; rfl, show a 75 = b4 0 by rw [ha]; rfl]
    simp only [List.cons_append, List.nil_append, List.append_assoc]) dX6_init_48
/-- the model's row at the start -/
def iXs : UA := fun j => if j = 11 ∨ j = 12 ∨ (16 ≤ j ∧ j < 48) ∨ (168 ≤ j ∧ j < 228) then -1 else 0
def xS (s : UA) : UX := (s, f0, f0, f0, 0, f0, 0, 0, 0, 0, 0, 0, 0, 0)
def iX : UX := xS iXs
theorem iX_loop2 {x : Am} {d : Dt} {A : Nat → Prop} {a : Nat → Nat} {Q : State → Prop} (C : Cx x cX7_init 2 yX7_init.cls d (Imu d A x.s.heap)) : ∀ (n k : Nat), k + n = 60 → ∀ s : UA, V x { frames := 1, cells := 5, slots := 1908, locals := 20 } 5 1908 Q 2 (Imu d A x.s.heap) True 113 (WX d a (xS (fun j => if 168 + k ≤ j ∧ j < 228 then -1 else s j))) [some (.ref (a 0)), some (.int 60)] [] → V x { frames := 1, cells := 5, slots := 1908, locals := 20 } 5 1908 Q 2 (Imu d A x.s.heap) True 90 (WX d a (xS s)) [some (.ref (a 0)), some (.int (nI k))] [] := by
  intro n
  induction n with
  | zero =>
    intro k hk s kont
    have e : k = 60 := by omega
    subst e
    refine V_iload_n C 1 dX7_init_90 rfl rfl ?_
    refine V_bipush (v := 60) C dX7_init_91 (by decide) ?_
    refine V_icmp_get (tgt := 113) C dX7_init_93 (by decide) (by decide) ?_
    refine V_ws ?_ kont
    congr 2
    funext j
    rw [if_neg (by omega)]
  | succ n ih =>
    intro k hk s kont
    refine V_iload_n C 1 dX7_init_90 rfl rfl ?_
    refine V_bipush (v := 60) C dX7_init_91 (by decide) ?_
    refine V_icmp_gec (tgt := 113) C dX7_init_93 (by decide) (nI_ge (b := 60) (by omega) (by omega)) ?_
    refine V_aload_n C 0 dX7_init_96 rfl rfl ?_
    refine V_get (v := .ref (a 1)) C fx7 0 0 kx_f_X7_7 (by decide) rfl rfl dX7_init_97 ?_
    refine V_sipush (v := 168) C dX7_init_100 (by decide) ?_
    refine V_iload_n C 1 dX7_init_103 rfl rfl ?_
    refine V_iadd C dX7_init_104 ?_
    rw [show (168 : Int32) + nI k = nI (168 + k) from nI_add 168 k]
    refine V_iconst (v := (-1)) C dX7_init_105 (by decide) ?_
    refine V_iastc (ws' := WX d a (xS (upd s (168 + k) (-1)))) C 1 (168 + k) (WX_get1 _ _ _) (by simpa [inb, vp_in] using vp_in_nI (n := 168 + k) (N := 264) (by omega) (by omega)) (nI_clamp (by omega)) (WX_set1 _ _ _ _) dX7_init_106 ?_
    refine V_iinc (v := nI (k + 1)) (lv' := [some (.ref (a 0)), some (.int (nI (k + 1)))]) C dX7_init_107 rfl (nI_1 k) (by decide) rfl ?_
    refine V_goto (tgt := 90) C dX7_init_110 (by decide) ?_
    refine ih (k + 1) (by omega) (upd s (168 + k) (-1)) (V_ws ?_ kont)
    congr 2
    funext j
    unfold upd
    by_cases h1 : 168 + (k + 1) ≤ j ∧ j < 228
    · rw [if_pos h1, if_pos (by omega)]
    · rw [if_neg h1]
      by_cases h2 : j = 168 + k
      · rw [if_pos h2, if_pos (by omega)]
      · rw [if_neg h2, if_neg (by omega)]
theorem iX_loop1 {x : Am} {d : Dt} {A : Nat → Prop} {a : Nat → Nat} {Q : State → Prop} (C : Cx x cX7_init 2 yX7_init.cls d (Imu d A x.s.heap)) : ∀ (n k : Nat), k + n = 32 → ∀ s : UA, V x { frames := 1, cells := 5, slots := 1908, locals := 20 } 5 1908 Q 2 (Imu d A x.s.heap) True 88 (WX d a (xS (fun j => if 16 + k ≤ j ∧ j < 48 then -1 else s j))) [some (.ref (a 0)), some (.int 32)] [] → V x { frames := 1, cells := 5, slots := 1908, locals := 20 } 5 1908 Q 2 (Imu d A x.s.heap) True 66 (WX d a (xS s)) [some (.ref (a 0)), some (.int (nI k))] [] := by
  intro n
  induction n with
  | zero =>
    intro k hk s kont
    have e : k = 32 := by omega
    subst e
    refine V_iload_n C 1 dX7_init_66 rfl rfl ?_
    refine V_bipush (v := 32) C dX7_init_67 (by decide) ?_
    refine V_icmp_get (tgt := 88) C dX7_init_69 (by decide) (by decide) ?_
    refine V_ws ?_ kont
    congr 2
    funext j
    rw [if_neg (by omega)]
  | succ n ih =>
    intro k hk s kont
    refine V_iload_n C 1 dX7_init_66 rfl rfl ?_
    refine V_bipush (v := 32) C dX7_init_67 (by decide) ?_
    refine V_icmp_gec (tgt := 88) C dX7_init_69 (by decide) (nI_ge (b := 32) (by omega) (by omega)) ?_
    refine V_aload_n C 0 dX7_init_72 rfl rfl ?_
    refine V_get (v := .ref (a 1)) C fx7 0 0 kx_f_X7_7 (by decide) rfl rfl dX7_init_73 ?_
    refine V_bipush (v := 16) C dX7_init_76 (by decide) ?_
    refine V_iload_n C 1 dX7_init_78 rfl rfl ?_
    refine V_iadd C dX7_init_79 ?_
    rw [show (16 : Int32) + nI k = nI (16 + k) from nI_add 16 k]
    refine V_iconst (v := (-1)) C dX7_init_80 (by decide) ?_
    refine V_iastc (ws' := WX d a (xS (upd s (16 + k) (-1)))) C 1 (16 + k) (WX_get1 _ _ _) (by simpa [inb, vp_in] using vp_in_nI (n := 16 + k) (N := 264) (by omega) (by omega)) (nI_clamp (by omega)) (WX_set1 _ _ _ _) dX7_init_81 ?_
    refine V_iinc (v := nI (k + 1)) (lv' := [some (.ref (a 0)), some (.int (nI (k + 1)))]) C dX7_init_82 rfl (nI_1 k) (by decide) rfl ?_
    refine V_goto (tgt := 66) C dX7_init_85 (by decide) ?_
    refine ih (k + 1) (by omega) (upd s (16 + k) (-1)) (V_ws ?_ kont)
    congr 2
    funext j
    unfold upd
    by_cases h1 : 16 + (k + 1) ≤ j ∧ j < 48
    · rw [if_pos h1, if_pos (by omega)]
    · rw [if_neg h1]
      by_cases h2 : j = 16 + k
      · rw [if_pos h2, if_pos (by omega)]
      · rw [if_neg h2, if_neg (by omega)]
set_option maxRecDepth 20000 in
theorem ct_X7_init (l : Launch) (d : Dt) : CtN l d yX7_init cX7_init 2 { frames := 1, cells := 5, slots := 1908, locals := 20 } 5 1908 (.inr (6, [.null, .null, .null, .null, .int 0, .null, .int 0, .int 0, .int 0, .int 0, .int 0, .int 0, .int 0, .int 0])) (fun a => WX d a iX) := by
  refine CtN.start (by decide) rfl (by decide) (fun a0 => [some (.ref a0), none]) (fun _ => rfl) (fun x A a0 C hr hlk hin hAO => ?_)
  refine V_aload_n C 0 dX7_init_0 rfl rfl ?_
  refine V_objInit C kx_oi_X7 kx_oi_inst kx_oi_code ⟨(Nat.le_of_ble_eq_true rfl), (Nat.le_of_ble_eq_true rfl)⟩ dX7_init_1 ?_
  refine V_aload_n C 0 dX7_init_4 rfl rfl ?_
  refine V_sipush (v := 264) C dX7_init_5 (by decide) ?_
  refine V_newI C 264 kx_ac_int (by decide) (by decide) (by decide) ⟨(Nat.le_of_ble_eq_true rfl), (Nat.le_of_ble_eq_true rfl)⟩ dX7_init_8 (fun q1 => ?_)
  refine V_putF (ws' := [(a0, .inr (6, [.ref q1, .null, .null, .null, .int 0, .null, .int 0, .int 0, .int 0, .int 0, .int 0, .int 0, .int 0, .int 0])), (q1, .inl (d.2.1, 264, .inl (fun _ => 0)))]) C hin fx7 0 0 kx_f_X7_7 (by decide) rfl rfl rfl rfl ⟨rfl, rfl⟩ (Nat.le_of_ble_eq_true rfl) rfl dX7_init_10 ?_
  refine V_aload_n C 0 dX7_init_13 rfl rfl ?_
  refine V_sipush (v := 1056) C dX7_init_14 (by decide) ?_
  refine V_newI C 1056 kx_ac_int (by decide) (by decide) (by decide) ⟨(Nat.le_of_ble_eq_true rfl), (Nat.le_of_ble_eq_true rfl)⟩ dX7_init_17 (fun q2 => ?_)
  refine V_putF (ws' := [(a0, .inr (6, [.ref q1, .ref q2, .null, .null, .int 0, .null, .int 0, .int 0, .int 0, .int 0, .int 0, .int 0, .int 0, .int 0])), (q1, .inl (d.2.1, 264, .inl (fun _ => 0))), (q2, .inl (d.2.1, 1056, .inl (fun _ => 0)))]) C hin fx7 0 1 kx_f_X7_13 (by decide) rfl rfl rfl rfl ⟨rfl, rfl⟩ (Nat.le_of_ble_eq_true rfl) rfl dX7_init_19 ?_
  refine V_aload_n C 0 dX7_init_22 rfl rfl ?_
  refine V_sipush (v := 264) C dX7_init_23 (by decide) ?_
  refine V_newI C 264 kx_ac_int (by decide) (by decide) (by decide) ⟨(Nat.le_of_ble_eq_true rfl), (Nat.le_of_ble_eq_true rfl)⟩ dX7_init_26 (fun q3 => ?_)
  refine V_putF (ws' := [(a0, .inr (6, [.ref q1, .ref q2, .ref q3, .null, .int 0, .null, .int 0, .int 0, .int 0, .int 0, .int 0, .int 0, .int 0, .int 0])), (q1, .inl (d.2.1, 264, .inl (fun _ => 0))), (q2, .inl (d.2.1, 1056, .inl (fun _ => 0))), (q3, .inl (d.2.1, 264, .inl (fun _ => 0)))]) C hin fx7 0 2 kx_f_X7_16 (by decide) rfl rfl rfl rfl ⟨rfl, rfl⟩ (Nat.le_of_ble_eq_true rfl) rfl dX7_init_28 ?_
  refine V_aload_n C 0 dX7_init_31 rfl rfl ?_
  refine V_sipush (v := 264) C dX7_init_32 (by decide) ?_
  refine V_newI C 264 kx_ac_int (by decide) (by decide) (by decide) ⟨(Nat.le_of_ble_eq_true rfl), (Nat.le_of_ble_eq_true rfl)⟩ dX7_init_35 (fun q4 => ?_)
  refine V_putF (ws' := [(a0, .inr (6, [.ref q1, .ref q2, .ref q3, .ref q4, .int 0, .null, .int 0, .int 0, .int 0, .int 0, .int 0, .int 0, .int 0, .int 0])), (q1, .inl (d.2.1, 264, .inl (fun _ => 0))), (q2, .inl (d.2.1, 1056, .inl (fun _ => 0))), (q3, .inl (d.2.1, 264, .inl (fun _ => 0))), (q4, .inl (d.2.1, 264, .inl (fun _ => 0)))]) C hin fx7 0 3 kx_f_X7_19 (by decide) rfl rfl rfl rfl ⟨rfl, rfl⟩ (Nat.le_of_ble_eq_true rfl) rfl dX7_init_37 ?_
  refine V_aload_n C 0 dX7_init_40 rfl rfl ?_
  refine V_bipush (v := 60) C dX7_init_41 (by decide) ?_
  refine V_newC C 60 kx_ac_char (by decide) (by decide) (by decide) ⟨(Nat.le_of_ble_eq_true rfl), (Nat.le_of_ble_eq_true rfl)⟩ dX7_init_43 (fun q5 => ?_)
  refine V_putF (ws' := [(a0, .inr (6, [.ref q1, .ref q2, .ref q3, .ref q4, .int 0, .ref q5, .int 0, .int 0, .int 0, .int 0, .int 0, .int 0, .int 0, .int 0])), (q1, .inl (d.2.1, 264, .inl (fun _ => 0))), (q2, .inl (d.2.1, 1056, .inl (fun _ => 0))), (q3, .inl (d.2.1, 264, .inl (fun _ => 0))), (q4, .inl (d.2.1, 264, .inl (fun _ => 0))), (q5, .inl (d.2.2.1, 60, .inl (fun _ => 0)))]) C hin fx7 0 5 kx_f_X7_22 (by decide) rfl rfl rfl rfl ⟨rfl, rfl⟩ (Nat.le_of_ble_eq_true rfl) rfl dX7_init_45 ?_
  obtain ⟨a, ha⟩ : ∃ a : Nat → Nat, a = (fun i => match i with | 0 => a0 | 1 => q1 | 2 => q2 | 3 => q3 | 4 => q4 | _ => q5) := ⟨_, rfl⟩
  obtain ⟨f1, f2⟩ : a 0 = a0 ∧ a 1 = q1 := by rw [ha]; exact ⟨rfl, rfl⟩
  refine V_ws (ws' := WX d a (xS f0)) (by rw [ha]; rfl) ?_
  rw [← f1]
  refine V_aload_n C 0 dX7_init_48 rfl rfl ?_
  refine V_get (v := .ref (a 1)) C fx7 0 0 kx_f_X7_7 (by decide) rfl rfl dX7_init_49 ?_
  refine V_bipush (v := 11) C dX7_init_52 (by decide) ?_
  refine V_iconst (v := (-1)) C dX7_init_54 (by decide) ?_
  refine V_iastc (ws' := WX d a (xS (upd f0 11 (-1)))) C 1 11 (WX_get1 _ _ _) (by decide) (by decide) (WX_set1 _ _ _ _) dX7_init_55 ?_
  refine V_aload_n C 0 dX7_init_56 rfl rfl ?_
  refine V_get (v := .ref (a 1)) C fx7 0 0 kx_f_X7_7 (by decide) rfl rfl dX7_init_57 ?_
  refine V_bipush (v := 12) C dX7_init_60 (by decide) ?_
  refine V_iconst (v := (-1)) C dX7_init_62 (by decide) ?_
  refine V_iastc (ws' := WX d a (xS (upd (upd f0 11 (-1)) 12 (-1)))) C 1 12 (WX_get1 _ _ _) (by decide) (by decide) (WX_set1 _ _ _ _) dX7_init_63 ?_
  refine V_iconst (v := 0) C dX7_init_64 (by decide) ?_
  refine V_istore_n (lv' := [some (.ref (a 0)), some (.int 0)]) C 1 dX7_init_65 rfl (by decide) rfl ?_
  refine iX_loop1 (a := a) C 32 0 (by omega) _ ?_
  refine V_mask (lv' := [some (.ref (a 0)), none]) [true, false] rfl ?_
  refine V_iconst (v := 0) C dX7_init_88 (by decide) ?_
  refine V_istore_n (lv' := [some (.ref (a 0)), some (.int 0)]) C 1 dX7_init_89 rfl (by decide) rfl ?_
  refine iX_loop2 (a := a) C 60 0 (by omega) _ ?_
  refine V_vretN (Wd := fun a => WX d a iX) C hr hlk a rfl ?_ dX7_init_113
  show WX d a (xS iXs) = WX d a (xS _)
  congr 2
  funext j
  unfold iXs upd f0
  by_cases h1 : 168 + 0 ≤ j ∧ j < 228
  · rw [if_pos h1, if_pos (by omega)]
  · rw [if_neg h1]
    by_cases h2 : 16 + 0 ≤ j ∧ j < 48
    · rw [if_pos h2, if_pos (by omega)]
    · rw [if_neg h2]
      by_cases h3 : j = 12
      · rw [if_pos h3, if_pos (by omega)]
      · rw [if_neg h3]
        by_cases h4 : j = 11
        · rw [if_pos h4, if_pos (by omega)]
        · rw [if_neg h4, if_neg (by omega)]
