/-! ===== switches, Math, arraycopy ===== -/
def jmin (x y : Int32) : Int32 := if y < x then y else x
def jabs (x : Int32) : Int32 := if 0 ≤ x then x else 0 - x
theorem neInt {y v : Int32} {k : Int} (h : ¬ y = v) (hv : v.toInt = k) : y.toInt ≠ k := fun e => h (Int32.toInt_inj.mp (e.trans hv.symm))
section MORE
variable {x : Am} {R : Room} {cells slots : Nat} {Q : State → Prop} {nL : Nat} {I : Iv} {hyp : Prop} {pc : Nat} {ws ws' : va_W} {lv lv' : List (Option Value)} {rest stk : List Value} {cc : ByteArray} {own : String} {d : Dt} {A0 : Nat → Prop}
theorem V_case {Z : Type} {z : Z} {A B : Option Z} {y v : Int32} (ke : y = v → V x R cells slots Q nL I (A = some z) pc ws lv stk) (kn : ¬ y = v → V x R cells slots Q nL I (B = some z) pc ws lv stk) : V x R cells slots Q nL I ((if y = v then A else B) = some z) pc ws lv stk := by
  intro h H locs ls hI hl
  by_cases q : y = v
  · exact ke q (ite_t q h) H locs ls hI hl
  · exact kn q (ite_f q h) H locs ls hI hl
theorem V_tsIn (C : Cx x cc nL own d I) {dflt lo hi : Int} {offs : Array Int} {len : Nat} {y v : Int32} {off : Int} {tgt : Nat} (e : y = v) (hdg : decode cc pc = .ok (.tableswitch dflt lo hi offs, len)) (h1 : ¬ v.toInt < lo) (h2 : ¬ hi < v.toInt) (ho : offs[(v.toInt - lo).toNat]? = some off) (ht : (pc : Int) + off = (tgt : Int)) (k : V x R cells slots Q nL I hyp tgt ws lv rest) : V x R cells slots Q nL I hyp pc ws lv (.int y :: rest) := by
  subst e
  exact fun h H locs ls hI hl => lv_tableIn C.1 C.2.1 hdg h1 h2 ho ht (k h H locs ls hI hl)
theorem V_tsOut (C : Cx x cc nL own d I) {dflt lo hi : Int} {offs : Array Int} {len : Nat} {y : Int32} {tgt : Nat} (hdg : decode cc pc = .ok (.tableswitch dflt lo hi offs, len)) (ho : y.toInt < lo ∨ hi < y.toInt) (ht : (pc : Int) + dflt = (tgt : Int)) (k : V x R cells slots Q nL I hyp tgt ws lv rest) : V x R cells slots Q nL I hyp pc ws lv (.int y :: rest) :=
  fun h H locs ls hI hl => lv_tableOut C.1 C.2.1 hdg ho ht (k h H locs ls hI hl)
theorem V_lkIn (C : Cx x cc nL own d I) {dflt : Int} {ps : Array (Int × Int)} {len : Nat} {y v : Int32} {off : Int} {tgt : Nat} (e : y = v) (hdg : decode cc pc = .ok (.lookupswitch dflt ps, len)) (hp : (ps.toList.zip (ps.toList.drop 1)).all (fun (a, next) => a.1 < next.1) = true) (ho : Op.lookupswitch.offset ps.toList dflt v.toInt = off) (ht : (pc : Int) + off = (tgt : Int)) (k : V x R cells slots Q nL I hyp tgt ws lv rest) : V x R cells slots Q nL I hyp pc ws lv (.int y :: rest) := by
  subst e
  exact fun h H locs ls hI hl => lv_lookup C.1 C.2.1 hdg hp ho ht (k h H locs ls hI hl)
theorem lk2 {y : Int32} {dflt a b oa ob : Int} (h1 : y.toInt ≠ a) (h2 : y.toInt ≠ b) : Op.lookupswitch.offset [(a, oa), (b, ob)] dflt y.toInt = dflt := by
  simp [Op.lookupswitch.offset, h1.symm, h2.symm]
theorem V_lkOut (C : Cx x cc nL own d I) {dflt : Int} {ps : Array (Int × Int)} {len : Nat} {y : Int32} {tgt : Nat} (hdg : decode cc pc = .ok (.lookupswitch dflt ps, len)) (hp : (ps.toList.zip (ps.toList.drop 1)).all (fun (a, next) => a.1 < next.1) = true) (ho : Op.lookupswitch.offset ps.toList dflt y.toInt = dflt) (ht : (pc : Int) + dflt = (tgt : Int)) (k : V x R cells slots Q nL I hyp tgt ws lv rest) : V x R cells slots Q nL I hyp pc ws lv (.int y :: rest) :=
  fun h H locs ls hI hl => lv_lookup C.1 C.2.1 hdg hp ho ht (k h H locs ls hI hl)
theorem V_mmin (C : Cx x cc nL own d I) {idx : Nat} {a b : Int32} (hlink : Cond.methodLink own idx Lib.Math.min.name ∈ tG) (hst : Cond.static Lib.Math.min.name ∈ tG) (hini : Cond.initialized "java/lang/Math" ∈ tG) (hcode : Cond.code Lib.Math.min.name Lib.Math.min.code 2 (some .int) ∈ tG) (hdg : decode cc pc = .ok (.invokestatic idx, 3)) (hR : 1 ≤ R.frames ∧ (rest.map fun v => v.category).sum + 13 ≤ R.locals ∧ cells ≤ R.cells ∧ slots ≤ R.slots)
    (kk : V x R cells slots Q nL I hyp (pc + 3) ws lv (.int (jmin a b) :: rest)) : V x R cells slots Q nL I hyp pc ws lv (.int b :: .int a :: rest) :=
  fun h H locs ls hI hl => va_mmin C.1 C.2.1 (C.2.2.1.trans hl.1.symm) C.2.2.2.1 (C.2.2.2.2.1 _ hlink) (C.2.2.2.2.1 _ hst) (C.2.2.2.2.1 _ hini) (C.2.2.2.2.1 _ hcode) hR.1 hR.2.1 hR.2.2.1 hR.2.2.2 hdg (kk h H locs ls hI hl)
theorem V_mabs (C : Cx x cc nL own d I) {idx : Nat} {a : Int32} (hlink : Cond.methodLink own idx Lib.Math.abs.name ∈ tG) (hst : Cond.static Lib.Math.abs.name ∈ tG) (hini : Cond.initialized "java/lang/Math" ∈ tG) (hcode : Cond.code Lib.Math.abs.name Lib.Math.abs.code 1 (some .int) ∈ tG) (hdg : decode cc pc = .ok (.invokestatic idx, 3)) (hR : 1 ≤ R.frames ∧ (rest.map fun v => v.category).sum + 13 ≤ R.locals ∧ cells ≤ R.cells ∧ slots ≤ R.slots)
    (kk : V x R cells slots Q nL I hyp (pc + 3) ws lv (.int (jabs a) :: rest)) : V x R cells slots Q nL I hyp pc ws lv (.int a :: rest) :=
  fun h H locs ls hI hl => va_mabs C.1 C.2.1 (C.2.2.1.trans hl.1.symm) C.2.2.2.1 (C.2.2.2.2.1 _ hlink) (C.2.2.2.2.1 _ hst) (C.2.2.2.2.1 _ hini) (C.2.2.2.2.1 _ hcode) hR.1 hR.2.1 hR.2.2.1 hR.2.2.2 hdg (kk h H locs ls hI hl)
end MORE
theorem inl_ext {D : va_G} {ws : va_W} {H : Heap} {q0 a : Nat} {cA : ClassId} {n : Nat} {f g : Nat → Int32} {ws1 : va_W} (h : va_P D vwCl ws H) (h1 : ws[q0]? = some (a, .inl (cA, n, .inl f))) (h2 : ws.set q0 (a, .inl (cA, n, .inl g)) = ws1) (hfg : ∀ j, j < n → f j = g j) : va_P D vwCl ws1 H := by
  subst h2
  intro k q hk
  by_cases e : q0 = k
  · subst e
    rw [List.getElem?_set_self'] at hk
    rw [h1] at hk
    have : (a, Sum.inl (cA, n, Sum.inl g)) = q := by simpa using hk
    subst this
    have h3 : H[a]? = some (vp_cell cA (n, .inl f)) := h q0 _ h1
    show H[a]? = some (vp_cell cA (n, .inl g))
    rw [h3, vp_cell_i, vp_cell_i]
    have e1 : arrV cA n (fun j => .int (f j)) = arrV cA n (fun j => .int (g j)) := by
      unfold arrV
      congr 1
      apply Array.ext
      · simp
      · intro i h4 h5
        simp at h4
        simp [hfg i h4]
    rw [e1]
  · rw [List.getElem?_set_ne e] at hk
    exact h k q hk
theorem V_callSc {x : Am} {R : Room} {cells slots : Nat} {Q : State → Prop} {nL : Nat} {hyp : Prop} {pc : Nat} {ws ws2 : va_W} {lv : List (Option Value)} {rest stk : List Value} {cc : ByteArray} {own : String} {d : Dt} {y : MethodName} {cy : ByteArray} {nLy n idx : Nat} {ret : Option FieldType} {rm : Room} {As : List Value} {wc w1 : va_W} {A : Nat → Prop} (C : Cx x cc nL own d (Imu d A x.s.heap)) (hM : CtW x.2.1 d y cy nLy ret rm As wc w1 none) (Y : CalS y cy nLy ret n) (hlink : Cond.methodLink own idx y ∈ tG)
    (isC : List Nat) (hdg : decode cc pc = .ok (.invokestatic idx, 3)) (hC : isC.map (fun i => ws[i]?) = wc.map some) (hnd : va_nd isC = true) (hf : w1.map (·.1) = wc.map (·.1)) (hws : putAt ws isC w1 = ws2) (hn : As.length = n) (hcat : (rest.map fun v => v.category).sum ≤ 8)
    (hR : rm.frames + 1 ≤ R.frames ∧ 8 + (nLy + 11) + rm.locals ≤ R.locals) (hrc : rm.cells = 0) (hrs : rm.slots = 0) (hcs : cells ≤ R.cells ∧ slots ≤ R.slots) (hstk : As.reverse ++ rest = stk)
    (kk : V x R cells slots Q nL (Imu d A x.s.heap) hyp (pc + 3) ws2 lv rest) : V x R cells slots Q nL (Imu d A x.s.heap) hyp pc ws lv stk := by
  intro h
  have K := V_callSv (Z := Unit) (z := ()) (Q := Q) (cells := cells) (slots := slots) (lv := lv) (rest := rest) (stk := stk) (g := some ()) (k := fun _ => some ()) (Wd := fun _ => w1) (wc := wc) (ws := ws) C (fun _ _ => hM) Y hlink isC (fun _ => ws2) hdg hC hnd (fun _ => hf) (fun _ => hws) hn hcat hR hrc hrs hcs hstk (fun _ _ _ => kk h)
  exact K rfl
/-- System.arraycopy of a whole int row onto one of the same length -/
theorem V_acopy {x : Am} {R : Room} {cells slots : Nat} {Q : State → Prop} {nL : Nat} {hyp : Prop} {pc : Nat} {ws ws2 : va_W} {lv : List (Option Value)} {rest : List Value} {cc : ByteArray} {own : String} {d : Dt} {A : Nat → Prop} {idx a0 a1 n : Nat} {f g : Nat → Int32} (C : Cx x cc nL own d (Imu d A x.s.heap)) (hlink : Cond.methodLink own idx arraycopyName ∈ tG) (hnat : Cond.native arraycopyName ∈ tG) (hst : Cond.static arraycopyName ∈ tG) (hini : Cond.initialized "java/lang/System" ∈ tG)
    (hdg : decode cc pc = .ok (.invokestatic idx, 3)) (q0 q1 : Nat) (h0 : ws[q0]? = some (a0, .inl (d.2.1, n, .inl f))) (h1 : ws[q1]? = some (a1, .inl (d.2.1, n, .inl g))) (h2 : ws.set q1 (a1, .inl (d.2.1, n, .inl f)) = ws2) (hn : n < 2 ^ 31) (hR : 1 ≤ R.frames ∧ (rest.map fun v => v.category).sum + (nativeFrameWords "java/lang/System" "arraycopy" 5 + 11) ≤ R.locals)
    (kk : V x R cells slots Q nL (Imu d A x.s.heap) hyp (pc + 3) ws2 lv rest) : V x R cells slots Q nL (Imu d A x.s.heap) hyp pc ws lv (.int (nI n) :: .int 0 :: .ref a1 :: .int 0 :: .ref a0 :: rest) := by
  intro h H locs ls hI hl
  have hc : (nI n).toNatClampNeg = n := nI_clamp hn
  have h00 : (0 : Int32).toNatClampNeg = 0 := by decide
  refine va_copyi (D := d.1) C.1 C.2.1 (C.2.2.1.trans hl.1.symm) C.2.2.2.1 (C.2.2.2.2.1 _ hlink) (C.2.2.2.2.1 _ hnat) (C.2.2.2.2.1 _ hst) (C.2.2.2.2.1 _ hini) C.2.2.2.2.2.1.1 hI.1 hI.2.1 hI.2.2.1 q0 q1 0 0 h0 h1 rfl rfl rfl (by decide) (by decide) (nI_pos hn) (by rw [h00, hc]; omega) (by rw [h00, hc]; omega) (fun _ _ => rfl) hR.1 hR.2 hdg (fun H1 locs1 hP hD hS => ?_)
  rw [h00, hc] at hP hD
  have hq : (ws.set q1 (a1, .inl (d.2.1, n, .inl (va_cpy f g 0 0 n))))[q1]? = some (a1, .inl (d.2.1, n, .inl (va_cpy f g 0 0 n))) := by
    have : q1 < ws.length := (List.getElem?_eq_some_iff.mp h1).1
    simp [this]
  have e2 : (ws.set q1 (a1, .inl (d.2.1, n, .inl (va_cpy f g 0 0 n)))).set q1 (a1, .inl (d.2.1, n, .inl f)) = ws2 := by rw [List.set_set]; exact h2
  have hP2 := inl_ext hP hq e2 (fun j hj => by simp [va_cpy, hj])
  have hD2 := hD.set (e := .inl (d.2.1, n, .inl f)) hq
  rw [e2] at hD2
  exact kk h H1 locs1 ls ⟨hP2, hD2, hS, hI.2.2.2⟩ hl
section LITS
variable {x : Am} {R : Room} {cells slots : Nat} {Q : State → Prop} {nL : Nat} {I : Iv} {hyp : Prop} {pc : Nat} {ws ws' : va_W} {lv lv' : List (Option Value)} {rest stk : List Value} {cc : ByteArray} {own : String} {d : Dt} {A : Nat → Prop}
theorem V_ialdc (C : Cx x cc nL own d I) (q0 k : Nat) {a n : Nat} {f : Nat → Int32} {i : Int32} (ha : ws[q0]? = some (a, .inl (d.2.1, n, .inl f))) (hi : inb i n = true) (hk : i.toNatClampNeg = k) (hdg : decode cc pc = .ok (.iaload, 1))
    (kk : V x R cells slots Q nL I hyp (pc + 1) ws lv (.int (f k) :: rest)) : V x R cells slots Q nL I hyp pc ws lv (.int i :: .ref a :: rest) := by
  subst hk
  exact fun h H locs ls hI hl => va_iald (D := d.1) C.1 C.2.1 C.2.2.2.2.2.1.1 (C.2.2.2.2.2.2 ws H locs hI) q0 0 ha rfl (inb_in hi) hdg (kk h H locs ls hI hl)
theorem V_caldc (C : Cx x cc nL own d I) (q0 k : Nat) {a n : Nat} {f : Nat → Int32} {i : Int32} (ha : ws[q0]? = some (a, .inl (d.2.2.1, n, .inl f))) (hi : inb i n = true) (hk : i.toNatClampNeg = k) (hdg : decode cc pc = .ok (.caload, 1))
    (kk : V x R cells slots Q nL I hyp (pc + 1) ws lv (.int (f k) :: rest)) : V x R cells slots Q nL I hyp pc ws lv (.int i :: .ref a :: rest) := by
  subst hk
  exact fun h H locs ls hI hl => va_cald (D := d.1) C.1 C.2.1 C.2.2.2.2.2.1.1 (C.2.2.2.2.2.2 ws H locs hI) q0 1 ha rfl (inb_in hi) hdg (kk h H locs ls hI hl)
theorem V_iastc (C : Cx x cc nL own d (Imu d A x.s.heap)) (q0 k : Nat) {a n : Nat} {f : Nat → Int32} {i v : Int32} (ha : ws[q0]? = some (a, .inl (d.2.1, n, .inl f))) (hi : inb i n = true) (hk : i.toNatClampNeg = k) (hws : ws.set q0 (a, .inl (d.2.1, n, .inl (upd f k v))) = ws') (hdg : decode cc pc = .ok (.iastore, 1))
    (kk : V x R cells slots Q nL (Imu d A x.s.heap) hyp (pc + 1) ws' lv rest) : V x R cells slots Q nL (Imu d A x.s.heap) hyp pc ws lv (.int v :: .int i :: .ref a :: rest) := by
  subst hk
  subst hws
  exact fun h H locs ls hI hl => va_iast (D := d.1) C.1 C.2.1 C.2.2.2.2.2.1.1 hI.1 hI.2.1 hI.2.2.1 q0 0 ha rfl (inb_in hi) hdg (fun H1 locs1 hP hD hS => kk h H1 locs1 ls ⟨hP, hD, hS, hI.2.2.2⟩ hl)
theorem V_zretRc {z r : Int32} (C : Cx x cc nL own d (Iro d x.s.heap)) (hr : x.meth.sig.returnType = some .boolean) (hlk : x.meth.locks = false) (hj : jbool r = true) (hdg : decode cc pc = .ok (.ireturn, 1)) : V x R 0 0 (MQ x.below (QR (some (.int z))) x.args x.s 0 0 (fun _ => False)) nL (Iro d x.s.heap) (some r = some z) pc ws lv [.int r] :=
  V_eqv (fun h => by rw [if_pos hj]; exact h) (V_zretR C hr hlk hdg)
theorem V_zretWc {U : Type} {Wd : U → va_W} {r : Int32} {u : U} {z : Int32 × U} (C : Cx x cc nL own d (Imu d A x.s.heap)) (hr : x.meth.sig.returnType = some .boolean) (hlk : x.meth.locks = false) (hj : jbool r = true) (hdg : decode cc pc = .ok (.ireturn, 1)) (hw : Wd u = ws) : V x R 0 0 (MQ x.below (QW d A (Wd z.2) (some (.int z.1))) x.args x.s 0 0 A) nL (Imu d A x.s.heap) (some (r, u) = some z) pc ws lv [.int r] :=
  V_eqv (h2 := (if jbool r = true then some (r, u) else none) = some z) (fun h => by rw [if_pos hj]; exact h) (V_zretW C hr hlk hdg hw)
theorem V_putZc (C : Cx x cc nL own d (Imu d A x.s.heap)) {ci : Nat} {CC : String} {T : u_T} {N : Nat} {ty : Nat → FieldType} (F : Fld ci CC T N ty) (q0 k : Nat) {idx a : Nat} {fs : List Value} {v : Int32} (hlink : Cond.fieldLink own idx (T k).1 (T k).2.1 (T k).2.2.1 ∈ tG) (hk : k < N) (he : ws[q0]? = some (a, .inr (ci, fs))) (hfin : (T k).2.2.2 = false) (hty : ty k = .boolean) (hl : k < fs.length) (hws : ws.set q0 (a, .inr (ci, fs.set k (.int v))) = ws') (hj : jbool v = true) (hdg : decode cc pc = .ok (.putfield idx, 3))
    (kk : V x R cells slots Q nL (Imu d A x.s.heap) hyp (pc + 3) ws' lv rest) : V x R cells slots Q nL (Imu d A x.s.heap) hyp pc ws lv (.int v :: .ref a :: rest) := fun h =>
  V_putZ (Z := Unit) (z := ()) (B := some ()) C F q0 k hlink hk he hfin hty hl hws hdg (fun _ => kk h) (if_pos hj)
end LITS
