/-! ===== calls of methods that write, beside the texts ===== -/
section UCALLS
variable {x : Am} {R : Room} {cells slots : Nat} {Q : State → Prop} {nL : Nat} {I : Iv} {pc : Nat} {ws : va_W} {lv : List (Option Value)} {rest stk : List Value} {cc : ByteArray} {own : String} {d : Dt}
variable {Z : Type} {z : Z} {y : MethodName} {cy : ByteArray} {nLy n idx b ci : Nat} {ret : Option FieldType} {rm : Room} {CC : String} {T : u_T} {N : Nat} {fs As : List Value} {wc : va_W}
theorem V_callUi {A : Nat → Prop} (C : Cx x cc nL own d (Imu d A x.s.heap)) {σ : Sg} (hσ : SF σ A x.s x.s.heap) {U : Type} {g : Option (Int32 × U)} {k : Int32 × U → Option Z} {Wd : U → va_W} (hM : ∀ r, g = some r → CtV x.2.1 d σ y cy nLy ret rm (.ref b :: As) wc (Wd r.2) (some (.int r.1))) (Y : CalV y cy nLy ret CC n) (hlink : Cond.methodLink own idx y ∈ tG)
    (isC : List Nat) (ws2 : U → va_W) (hdg : decode cc pc = .ok (.invokevirtual idx, 3)) (hC : isC.map (fun i => ws[i]?) = wc.map some) (hnd : va_nd isC = true) (hf : ∀ u, (Wd u).map (·.1) = wc.map (·.1)) (hws : ∀ u, putAt ws isC (Wd u) = ws2 u) (hrv : wc[0]? = some (b, .inr (ci, fs))) (hcl : vwCl[ci]? = some (CC, T, N)) (hn : As.length = n) (hcat : (rest.map fun v => v.category).sum ≤ 8)
    (hR : rm.frames + 1 ≤ R.frames ∧ 8 + (nLy + 11) + rm.locals ≤ R.locals) (hrc : rm.cells = 0) (hrs : rm.slots = 0) (hcs : cells ≤ R.cells ∧ slots ≤ R.slots) (hstk : As.reverse ++ .ref b :: rest = stk)
    (kk : ∀ r, g = some r → V x R cells slots Q nL (Imu d A x.s.heap) (k r = some z) (pc + 3) (ws2 r.2) lv (.int r.1 :: rest)) : V x R cells slots Q nL (Imu d A x.s.heap) (g.bind k = some z) pc ws lv stk := by
  intro h H locs ls hI hl
  cases hg : g with
  | none => rw [hg] at h; cases h
  | some r =>
    rw [hg] at h
    have hPc := subP (C.2.2.2.2.2.2 ws H locs hI) hC
    have hDc := hI.2.1.sub isC hnd hC
    have hFc := va_free hI.2.1 hI.2.2.1 hI.2.2.2 isC hC
    refine W_mu (r := some (.int r.1)) (va_runV (As := As) (rest := rest) ⟨C.1, C.2.1, C.2.2.1, C.2.2.2.1, C.2.2.2.2.1⟩ (hM r hg H.size) (calW C.2.2.2.2.1 Y hlink hR hrc hrs) ⟨Pc_blindV, va_recv C.2.2.2.2.2.1.1 hPc hcl hrv, fun U hU hW => ⟨rfl, by rw [hU], by rw [hU]; exact hPc, C.2.2.2.2.2.1.warm hW, hDc.weaken (fun _ _ _ _ => trivial), hσ.sub hI.2.2.1 hU hW hFc⟩⟩ rfl hn hl.1 hstk.symm (lv_room hcat) hdg hcs) (fun H1 L hP1 hz hk hL => ?_)
    · have hj := putAt_P hI.1 hI.2.1 hC (hf r.2) hk hP1
      rw [hws] at hj
      refine kk r hg h H1 (locs ++ L) ls ⟨hj.1, hj.2, ⟨Nat.le_trans hI.2.2.1.1 hz, fun q h1 h2 => ?_, fun q hq => ?_⟩, hI.2.2.2⟩ hl
      · rw [hk q (Nat.lt_of_lt_of_le h1 hI.2.2.1.1) (fun h9 => h2 (hFc q h9))]
        exact hI.2.2.1.2.1 q h1 h2
      · rcases List.mem_append.mp hq with h9 | h9
        · exact hI.2.2.1.2.2 q h9
        · exact hFc _ (hL q h9)
theorem V_callUv {A : Nat → Prop} (C : Cx x cc nL own d (Imu d A x.s.heap)) {σ : Sg} (hσ : SF σ A x.s x.s.heap) {U : Type} {rv : Option Value} {g : Option U} {k : U → Option Z} {Wd : U → va_W} (hM : ∀ r, g = some r → CtV x.2.1 d σ y cy nLy ret rm (.ref b :: As) wc (Wd r) rv) (Y : CalV y cy nLy ret CC n) (hlink : Cond.methodLink own idx y ∈ tG)
    (isC : List Nat) (ws2 : U → va_W) (hdg : decode cc pc = .ok (.invokevirtual idx, 3)) (hC : isC.map (fun i => ws[i]?) = wc.map some) (hnd : va_nd isC = true) (hf : ∀ u, (Wd u).map (·.1) = wc.map (·.1)) (hws : ∀ u, putAt ws isC (Wd u) = ws2 u) (hrv : wc[0]? = some (b, .inr (ci, fs))) (hcl : vwCl[ci]? = some (CC, T, N)) (hn : As.length = n) (hcat : (rest.map fun v => v.category).sum ≤ 8)
    (hR : rm.frames + 1 ≤ R.frames ∧ 8 + (nLy + 11) + rm.locals ≤ R.locals) (hrc : rm.cells = 0) (hrs : rm.slots = 0) (hcs : cells ≤ R.cells ∧ slots ≤ R.slots) (hstk : As.reverse ++ .ref b :: rest = stk)
    (kk : ∀ r, g = some r → V x R cells slots Q nL (Imu d A x.s.heap) (k r = some z) (pc + 3) (ws2 r) lv (rv.toList ++ rest)) : V x R cells slots Q nL (Imu d A x.s.heap) (g.bind k = some z) pc ws lv stk := by
  intro h H locs ls hI hl
  cases hg : g with
  | none => rw [hg] at h; cases h
  | some r =>
    rw [hg] at h
    have hPc := subP (C.2.2.2.2.2.2 ws H locs hI) hC
    have hDc := hI.2.1.sub isC hnd hC
    have hFc := va_free hI.2.1 hI.2.2.1 hI.2.2.2 isC hC
    refine W_mu (r := rv) (va_runV (As := As) (rest := rest) ⟨C.1, C.2.1, C.2.2.1, C.2.2.2.1, C.2.2.2.2.1⟩ (hM r hg H.size) (calW C.2.2.2.2.1 Y hlink hR hrc hrs) ⟨Pc_blindV, va_recv C.2.2.2.2.2.1.1 hPc hcl hrv, fun U hU hW => ⟨rfl, by rw [hU], by rw [hU]; exact hPc, C.2.2.2.2.2.1.warm hW, hDc.weaken (fun _ _ _ _ => trivial), hσ.sub hI.2.2.1 hU hW hFc⟩⟩ rfl hn hl.1 hstk.symm (lv_room hcat) hdg hcs) (fun H1 L hP1 hz hk hL => ?_)
    · have hj := putAt_P hI.1 hI.2.1 hC (hf r) hk hP1
      rw [hws] at hj
      refine kk r hg h H1 (locs ++ L) ls ⟨hj.1, hj.2, ⟨Nat.le_trans hI.2.2.1.1 hz, fun q h1 h2 => ?_, fun q hq => ?_⟩, hI.2.2.2⟩ hl
      · rw [hk q (Nat.lt_of_lt_of_le h1 hI.2.2.1.1) (fun h9 => h2 (hFc q h9))]
        exact hI.2.2.1.2.1 q h1 h2
      · rcases List.mem_append.mp hq with h9 | h9
        · exact hI.2.2.1.2.2 q h9
        · exact hFc _ (hL q h9)
theorem V_test {c : Bool} {B : Option Z} (k : c = true → V x R cells slots Q nL I (B = some z) pc ws lv stk) : V x R cells slots Q nL I ((if c = true then B else none) = some z) pc ws lv stk := by
  intro h
  by_cases q : c = true
  · exact k q (ite_t q h)
  · rw [if_neg q] at h; cases h
end UCALLS
/-- the text of a word: the last one for all that are none of the seven -/
def tix (e : Int32) : Nat := if e = 0 then 0 else if e = 1 then 1 else if e = 2 then 2 else if e = 3 then 3 else if e = 4 then 4 else if e = 5 then 5 else if e = 6 then 6 else 7
theorem lt8_ite {c : Prop} [Decidable c] {a b : Nat} (ha : a < 8) (hb : b < 8) : (if c then a else b) < 8 := by split <;> assumption
theorem tix_lt (e : Int32) : tix e < 8 := lt8_ite (by decide) (lt8_ite (by decide) (lt8_ite (by decide) (lt8_ite (by decide) (lt8_ite (by decide) (lt8_ite (by decide) (lt8_ite (by decide) (by decide)))))))
set_option maxRecDepth 20000 in
theorem ct_X3_textOf (l : Launch) (d : Dt) (σ : Sg) (p1 : Int32) : CtS l d σ yX3_textOf cX3_textOf 1 (some (.object "java/lang/String")) (rmF 0 0) [.int p1] [] (some (.ref (σ.1 (tix p1)))) := by
  refine CtS.start (by decide) (Nat.le_of_ble_eq_true rfl) (by simp [Value.category]) [some (.int p1)] rfl (fun x C hr hlk hσ => ?_)
  refine V_iload_n C 0 dX3_textOf_0 rfl rfl ?_
  by_cases c0 : p1 = 0
  · have e : tix p1 = 0 := by simp [tix, c0]
    rw [e]
    refine V_tsIn (tgt := 44) C c0 dX3_textOf_1 (by decide) (by decide) rfl (by decide) ?_
    refine V_ldcS C (hσ.1 0 (by decide)) dX3_textOf_44 ?_
    exact V_aretR C hr (Or.inl ⟨_, rfl⟩) hlk dX3_textOf_46
  by_cases c1 : p1 = 1
  · have e : tix p1 = 1 := by simp [tix, c1]
    rw [e]
    refine V_tsIn (tgt := 47) C c1 dX3_textOf_1 (by decide) (by decide) rfl (by decide) ?_
    refine V_ldcS C (hσ.1 1 (by decide)) dX3_textOf_47 ?_
    exact V_aretR C hr (Or.inl ⟨_, rfl⟩) hlk dX3_textOf_49
  by_cases c2 : p1 = 2
  · have e : tix p1 = 2 := by simp [tix, c2]
    rw [e]
    refine V_tsIn (tgt := 50) C c2 dX3_textOf_1 (by decide) (by decide) rfl (by decide) ?_
    refine V_ldcS C (hσ.1 2 (by decide)) dX3_textOf_50 ?_
    exact V_aretR C hr (Or.inl ⟨_, rfl⟩) hlk dX3_textOf_52
  by_cases c3 : p1 = 3
  · have e : tix p1 = 3 := by simp [tix, c3]
    rw [e]
    refine V_tsIn (tgt := 53) C c3 dX3_textOf_1 (by decide) (by decide) rfl (by decide) ?_
    refine V_ldcS C (hσ.1 3 (by decide)) dX3_textOf_53 ?_
    exact V_aretR C hr (Or.inl ⟨_, rfl⟩) hlk dX3_textOf_55
  by_cases c4 : p1 = 4
  · have e : tix p1 = 4 := by simp [tix, c4]
    rw [e]
    refine V_tsIn (tgt := 56) C c4 dX3_textOf_1 (by decide) (by decide) rfl (by decide) ?_
    refine V_ldcS C (hσ.1 4 (by decide)) dX3_textOf_56 ?_
    exact V_aretR C hr (Or.inl ⟨_, rfl⟩) hlk dX3_textOf_58
  by_cases c5 : p1 = 5
  · have e : tix p1 = 5 := by simp [tix, c5]
    rw [e]
    refine V_tsIn (tgt := 59) C c5 dX3_textOf_1 (by decide) (by decide) rfl (by decide) ?_
    refine V_ldcS C (hσ.1 5 (by decide)) dX3_textOf_59 ?_
    exact V_aretR C hr (Or.inl ⟨_, rfl⟩) hlk dX3_textOf_61
  by_cases c6 : p1 = 6
  · have e : tix p1 = 6 := by simp [tix, c6]
    rw [e]
    refine V_tsIn (tgt := 62) C c6 dX3_textOf_1 (by decide) (by decide) rfl (by decide) ?_
    refine V_ldcS C (hσ.1 6 (by decide)) dX3_textOf_62 ?_
    exact V_aretR C hr (Or.inl ⟨_, rfl⟩) hlk dX3_textOf_64
  have e : tix p1 = 7 := by simp [tix, c0, c1, c2, c3, c4, c5, c6]
  rw [e]
  have i0 := neInt c0 (k := 0) (by decide)
  have i1 := neInt c1 (k := 1) (by decide)
  have i2 := neInt c2 (k := 2) (by decide)
  have i3 := neInt c3 (k := 3) (by decide)
  have i4 := neInt c4 (k := 4) (by decide)
  have i5 := neInt c5 (k := 5) (by decide)
  have i6 := neInt c6 (k := 6) (by decide)
  refine V_tsOut (tgt := 65) C dX3_textOf_1 (by omega) (by decide) ?_
  refine V_ldcS C (hσ.1 7 (by decide)) dX3_textOf_65 ?_
  exact V_aretR C hr (Or.inl ⟨_, rfl⟩) hlk dX3_textOf_67
