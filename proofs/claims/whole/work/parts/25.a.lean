/-! ===== the history's row of states ===== -/
section HROWS
variable {x : Am} {R : Room} {cells slots : Nat} {Q : State → Prop} {nL : Nat} {I : Iv} {hyp : Prop} {pc : Nat} {ws ws' : va_W} {lv lv' : List (Option Value)} {rest stk : List Value} {cc : ByteArray} {own : String} {d : Dt} {A : Nat → Prop}
variable {y : MethodName} {cy : ByteArray} {nLy n idx b ci : Nat} {ret : Option FieldType} {rm : Room} {CC : String} {T : u_T} {N : Nat} {fs As : List Value} {wc : va_W}
/-- a call of an object method that only reads, with a fixed answer -/
theorem V_callRx (C : Cx x cc nL own d I) {rv : Option Value} (hM : CtR x.2.1 d y cy nLy ret rm (.ref b :: As) wc rv) (Y : CalV y cy nLy ret CC n) (hlink : Cond.methodLink own idx y ∈ tG)
    (isC : List Nat) (hdg : decode cc pc = .ok (.invokevirtual idx, 3)) (hC : isC.map (fun i => ws[i]?) = wc.map some) (hrv : wc[0]? = some (b, .inr (ci, fs))) (hcl : vwCl[ci]? = some (CC, T, N)) (hn : As.length = n) (hcat : (rest.map fun v => v.category).sum ≤ 8)
    (hR : rm.frames + 1 ≤ R.frames ∧ 8 + (nLy + 11) + rm.locals ≤ R.locals) (hrc : rm.cells = 0) (hrs : rm.slots = 0) (hcs : cells ≤ R.cells ∧ slots ≤ R.slots) (hstk : As.reverse ++ .ref b :: rest = stk)
    (kk : V x R cells slots Q nL I hyp (pc + 3) ws lv (rv.toList ++ rest)) : V x R cells slots Q nL I hyp pc ws lv stk := by
  intro h H locs ls hI hl
  have hPc := subP (C.2.2.2.2.2.2 ws H locs hI) hC
  exact W_ro (r := rv) (va_runV (As := As) (rest := rest) ⟨C.1, C.2.1, C.2.2.1, C.2.2.2.1, C.2.2.2.2.1⟩ hM (calW C.2.2.2.2.1 Y hlink hR hrc hrs) ⟨Pc_blindR, va_recv C.2.2.2.2.2.1.1 hPc hcl hrv, fun U hU hW => ⟨rfl, by rw [hU]; exact hPc, C.2.2.2.2.2.1.warm hW⟩⟩ rfl hn hl.1 hstk.symm (lv_room hcat) hdg hcs) (kk h H locs ls hI hl)
theorem V_ifnull (C : Cx x cc nL own d I) {y : Nat} {off : Int} (hdg : decode cc pc = .ok (.ifnull off, 3)) (k : V x R cells slots Q nL I hyp (pc + 3) ws lv rest) : V x R cells slots Q nL I hyp pc ws lv (.ref y :: rest) :=
  fun h H locs ls hI hl => lv_ifnull C.1 C.2.1 hdg (k h H locs ls hI hl)
theorem V_ifnonnull (C : Cx x cc nL own d I) {y : Nat} {off : Int} {tgt : Nat} (hdg : decode cc pc = .ok (.ifnonnull off, 3)) (ht : (pc : Int) + off = (tgt : Int)) (k : V x R cells slots Q nL I hyp tgt ws lv rest) : V x R cells slots Q nL I hyp pc ws lv (.ref y :: rest) :=
  fun h H locs ls hI hl => lv_ifnonnull C.1 C.2.1 hdg ht (k h H locs ls hI hl)
theorem V_aldq (C : Cx x cc nL own d I) (q0 : Nat) {a n q : Nat} {f : Nat → Option Nat} {i : Int32} (ha : ws[q0]? = some (a, .inl (d.2.2.2, n, .inr (.inr (.inr (.inr f)))))) (hi : inb i n = true) (hq : f i.toNatClampNeg = some q) (hdg : decode cc pc = .ok (.aaload, 1))
    (kk : V x R cells slots Q nL I hyp (pc + 1) ws lv (.ref q :: rest)) : V x R cells slots Q nL I hyp pc ws lv (.int i :: .ref a :: rest) := by
  intro h H locs ls hI hl
  refine va_aldq (D := d.1) (C := "MastRobots$Library") C.1 C.2.1 C.2.2.2.2.2.1.1 (C.2.2.2.2.2.2 ws H locs hI) q0 2 ha rfl (inb_in hi) hdg ?_
  rw [hq]
  exact kk h H locs ls hI hl
theorem V_aretR {q : Nat} {rt : FieldType} (C : Cx x cc nL own d (Iro d x.s.heap)) (hr : x.meth.sig.returnType = some rt) (hrt : (∃ n, rt = .object n) ∨ ∃ t, rt = .array t) (hlk : x.meth.locks = false) (hdg : decode cc pc = .ok (.areturn, 1)) : V x R 0 0 (MQ x.below (QR (some (.ref q))) x.args x.s 0 0 (fun _ => False)) nL (Iro d x.s.heap) hyp pc ws lv [.ref q] := by
  intro h H locs ls hI hl
  exact W.aret C.1 C.2.1 hr hrt (Or.inr ⟨q, rfl⟩) (fun t ht _ => ⟨rfl, by rw [ht, hI.1]⟩) (fun q hq => by rw [hI.2.1] at hq; cases hq) hdg hlk
/-- a branch that the numbers decide -/
theorem V_if_ltc (C : Cx x cc nL own d I) {a : Int32} {off : Int} {tgt : Nat} (hdg : decode cc pc = .ok (.ifCond .lt off, 3)) (ht : (pc : Int) + off = (tgt : Int)) (hc : ¬ a < 0) (kf : V x R cells slots Q nL I hyp (pc + 3) ws lv rest) : V x R cells slots Q nL I hyp pc ws lv (.int a :: rest) :=
  fun h H locs ls hI hl => lv_if_lt C.1 C.2.1 hdg ht (fun q => absurd q hc) (fun _ => kf h H locs ls hI hl)
theorem V_icmp_gec (C : Cx x cc nL own d I) {a b : Int32} {off : Int} {tgt : Nat} (hdg : decode cc pc = .ok (.if_icmp .ge off, 3)) (ht : (pc : Int) + off = (tgt : Int)) (hc : ¬ b ≤ a) (kf : V x R cells slots Q nL I hyp (pc + 3) ws lv rest) : V x R cells slots Q nL I hyp pc ws lv (.int b :: .int a :: rest) :=
  fun h H locs ls hI hl => lv_icmp_ge C.1 C.2.1 hdg ht (fun q => absurd q hc) (fun _ => kf h H locs ls hI hl)
end HROWS
set_option maxRecDepth 20000 in
theorem ct_X1_stateAt_0 (l : Launch) (d : Dt) (a : Nat → Nat) (u : UH) (p1 : Int32) (hp : p1 = 0) : CtR l d yX1_stateAt cX1_stateAt 2 (some (.object "MastRobots$Library")) (rmF 0 0) [.ref (a 0), .int p1] (WH d a u) (some (.ref (a 2))) := by
  subst hp
  refine CtR.start (by decide) (Nat.le_of_ble_eq_true rfl) (by simp [Value.category]) [some (.ref (a 0)), some (.int 0)] rfl (fun x C hr hlk => ?_)
  refine V_iload_n C 1 dX1_stateAt_0 rfl rfl ?_
  refine V_if_ltc (tgt := 22) C dX1_stateAt_1 (by decide) (by decide) ?_
  refine V_iload_n C 1 dX1_stateAt_4 rfl rfl ?_
  refine V_aload_n C 0 dX1_stateAt_5 rfl rfl ?_
  refine V_get (v := .ref (a 1)) C fx1 0 0 kf_X1_11 (by decide) rfl rfl dX1_stateAt_6 ?_
  refine V_alenL (v := 4) C 1 rfl (by decide) dX1_stateAt_9 ?_
  refine V_icmp_gec (tgt := 22) C dX1_stateAt_10 (by decide) (by decide) ?_
  refine V_aload_n C 0 dX1_stateAt_13 rfl rfl ?_
  refine V_get (v := .ref (a 1)) C fx1 0 0 kf_X1_11 (by decide) rfl rfl dX1_stateAt_14 ?_
  refine V_iload_n C 1 dX1_stateAt_17 rfl rfl ?_
  refine V_aldq (q := a 2) C 1 rfl (by decide) rfl dX1_stateAt_18 ?_
  refine V_goto (tgt := 23) C dX1_stateAt_19 (by decide) ?_
  exact V_aretR C hr (Or.inl ⟨_, rfl⟩) hlk dX1_stateAt_23
set_option maxRecDepth 20000 in
theorem ct_X1_stateAt_1 (l : Launch) (d : Dt) (a : Nat → Nat) (u : UH) (p1 : Int32) (hp : p1 = 1) : CtR l d yX1_stateAt cX1_stateAt 2 (some (.object "MastRobots$Library")) (rmF 0 0) [.ref (a 0), .int p1] (WH d a u) (some (.ref (a 14))) := by
  subst hp
  refine CtR.start (by decide) (Nat.le_of_ble_eq_true rfl) (by simp [Value.category]) [some (.ref (a 0)), some (.int 1)] rfl (fun x C hr hlk => ?_)
  refine V_iload_n C 1 dX1_stateAt_0 rfl rfl ?_
  refine V_if_ltc (tgt := 22) C dX1_stateAt_1 (by decide) (by decide) ?_
  refine V_iload_n C 1 dX1_stateAt_4 rfl rfl ?_
  refine V_aload_n C 0 dX1_stateAt_5 rfl rfl ?_
  refine V_get (v := .ref (a 1)) C fx1 0 0 kf_X1_11 (by decide) rfl rfl dX1_stateAt_6 ?_
  refine V_alenL (v := 4) C 1 rfl (by decide) dX1_stateAt_9 ?_
  refine V_icmp_gec (tgt := 22) C dX1_stateAt_10 (by decide) (by decide) ?_
  refine V_aload_n C 0 dX1_stateAt_13 rfl rfl ?_
  refine V_get (v := .ref (a 1)) C fx1 0 0 kf_X1_11 (by decide) rfl rfl dX1_stateAt_14 ?_
  refine V_iload_n C 1 dX1_stateAt_17 rfl rfl ?_
  refine V_aldq (q := a 14) C 1 rfl (by decide) rfl dX1_stateAt_18 ?_
  refine V_goto (tgt := 23) C dX1_stateAt_19 (by decide) ?_
  exact V_aretR C hr (Or.inl ⟨_, rfl⟩) hlk dX1_stateAt_23
set_option maxRecDepth 20000 in
theorem ct_X1_stateAt_2 (l : Launch) (d : Dt) (a : Nat → Nat) (u : UH) (p1 : Int32) (hp : p1 = 2) : CtR l d yX1_stateAt cX1_stateAt 2 (some (.object "MastRobots$Library")) (rmF 0 0) [.ref (a 0), .int p1] (WH d a u) (some (.ref (a 26))) := by
  subst hp
  refine CtR.start (by decide) (Nat.le_of_ble_eq_true rfl) (by simp [Value.category]) [some (.ref (a 0)), some (.int 2)] rfl (fun x C hr hlk => ?_)
  refine V_iload_n C 1 dX1_stateAt_0 rfl rfl ?_
  refine V_if_ltc (tgt := 22) C dX1_stateAt_1 (by decide) (by decide) ?_
  refine V_iload_n C 1 dX1_stateAt_4 rfl rfl ?_
  refine V_aload_n C 0 dX1_stateAt_5 rfl rfl ?_
  refine V_get (v := .ref (a 1)) C fx1 0 0 kf_X1_11 (by decide) rfl rfl dX1_stateAt_6 ?_
  refine V_alenL (v := 4) C 1 rfl (by decide) dX1_stateAt_9 ?_
  refine V_icmp_gec (tgt := 22) C dX1_stateAt_10 (by decide) (by decide) ?_
  refine V_aload_n C 0 dX1_stateAt_13 rfl rfl ?_
  refine V_get (v := .ref (a 1)) C fx1 0 0 kf_X1_11 (by decide) rfl rfl dX1_stateAt_14 ?_
  refine V_iload_n C 1 dX1_stateAt_17 rfl rfl ?_
  refine V_aldq (q := a 26) C 1 rfl (by decide) rfl dX1_stateAt_18 ?_
  refine V_goto (tgt := 23) C dX1_stateAt_19 (by decide) ?_
  exact V_aretR C hr (Or.inl ⟨_, rfl⟩) hlk dX1_stateAt_23
set_option maxRecDepth 20000 in
theorem ct_X1_stateAt_3 (l : Launch) (d : Dt) (a : Nat → Nat) (u : UH) (p1 : Int32) (hp : p1 = 3) : CtR l d yX1_stateAt cX1_stateAt 2 (some (.object "MastRobots$Library")) (rmF 0 0) [.ref (a 0), .int p1] (WH d a u) (some (.ref (a 38))) := by
  subst hp
  refine CtR.start (by decide) (Nat.le_of_ble_eq_true rfl) (by simp [Value.category]) [some (.ref (a 0)), some (.int 3)] rfl (fun x C hr hlk => ?_)
  refine V_iload_n C 1 dX1_stateAt_0 rfl rfl ?_
  refine V_if_ltc (tgt := 22) C dX1_stateAt_1 (by decide) (by decide) ?_
  refine V_iload_n C 1 dX1_stateAt_4 rfl rfl ?_
  refine V_aload_n C 0 dX1_stateAt_5 rfl rfl ?_
  refine V_get (v := .ref (a 1)) C fx1 0 0 kf_X1_11 (by decide) rfl rfl dX1_stateAt_6 ?_
  refine V_alenL (v := 4) C 1 rfl (by decide) dX1_stateAt_9 ?_
  refine V_icmp_gec (tgt := 22) C dX1_stateAt_10 (by decide) (by decide) ?_
  refine V_aload_n C 0 dX1_stateAt_13 rfl rfl ?_
  refine V_get (v := .ref (a 1)) C fx1 0 0 kf_X1_11 (by decide) rfl rfl dX1_stateAt_14 ?_
  refine V_iload_n C 1 dX1_stateAt_17 rfl rfl ?_
  refine V_aldq (q := a 38) C 1 rfl (by decide) rfl dX1_stateAt_18 ?_
  refine V_goto (tgt := 23) C dX1_stateAt_19 (by decide) ?_
  exact V_aretR C hr (Or.inl ⟨_, rfl⟩) hlk dX1_stateAt_23
