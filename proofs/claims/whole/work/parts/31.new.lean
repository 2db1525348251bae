/-! ===== constructors ===== -/
def KN (d : Dt) (U : State) : Prop := KX d U ∧ va_AO "MastRobots$Library" U
theorem KN.warm {d : Dt} {s U : State} (hW : s.WarmedH U.vm) (h : KN d s) : KN d U := ⟨h.1.warm hW, va_AO.moved hW.alike h.2⟩
theorem KN.calling {d : Dt} {U : State} (g : JFrame) (mk : MethodId) (a : Array Value) (h : KN d U) : KN d (U.calling g mk a) := ⟨h.1.calling g mk a, va_AO.moved (u := U) (U := U.calling g mk a) (Vm.Alike.refl U.vm) h.2⟩
/-- what a constructor gives: the world Wd at some addresses, the first of which is the object's -/
def QN (d : Dt) (A : Nat → Prop) (a0 : Nat) (Wd : (Nat → Nat) → va_W) : Array Value → State → Outcome → State → Prop := fun _ st o t => o = .returned none ∧ (∃ a : Nat → Nat, a 0 = a0 ∧ va_P d.1 vwCl (Wd a) t.heap ∧ va_D A (Wd a)) ∧ va_F A st t
def CtN (l : Launch) (d : Dt) (y : MethodName) (cc : ByteArray) (nL : Nat) (rm : Room) (mc ms : Nat) (e0 : va_E) (Wd : (Nat → Nat) → va_W) : Prop :=
  ∀ (sz a0 : Nat), Met l y (Cond.code y cc nL none :: tG) rm (va_Pc [.ref a0] (fun U => U.heap.size = sz ∧ va_P d.1 vwCl [(a0, e0)] U.heap ∧ KN d U ∧ va_D (fun _ => True) [(a0, e0)])) (QN d (va_A [(a0, e0)] sz) a0 Wd) mc ms (va_A [(a0, e0)] sz)
theorem Pc_blindN {d : Dt} {av : List Value} {ws : va_W} {sz : Nat} : FrameBlind (va_Pc av (fun U => U.heap.size = sz ∧ va_P d.1 vwCl ws U.heap ∧ KN d U ∧ va_D (fun _ => True) ws)) := fun a U g mk q => ⟨q.1, q.2.1, q.2.2.1, q.2.2.2.1.calling g mk a, q.2.2.2.2⟩
theorem CtN.start {l : Launch} {d : Dt} {y : MethodName} {cc : ByteArray} {nL : Nat} {rm : Room} {mc ms : Nat} {e0 : va_E} {Wd : (Nat → Nat) → va_W} (hy : plainName y.cls = true) (hnm : y.name = "<init>") (hlen : 1 ≤ nL)
    (lv0 : Nat → List (Option Value)) (hl0 : ∀ a0 : Nat, [some (.ref a0)] ++ List.replicate (nL - 1) (none : Option Value) = lv0 a0)
    (body : ∀ (x : Am) (A : Nat → Prop) (a0 : Nat), Cx x cc nL y.cls d (Imu d A x.s.heap) → x.meth.sig.returnType = none → x.meth.locks = false → x.meth.name = "<init>" → va_AO "MastRobots$Library" x.s → V x rm 0 0 (MQ x.below (QN d A a0 Wd) x.args x.s mc ms A) nL (Imu d A x.s.heap) True 0 [(a0, e0)] (lv0 a0) []) : CtN l d y cc nL rm mc ms e0 Wd := by
  intro sz a0
  refine Met.ofW (cc := cc) (maxL := nL) (ret := none) hy rfl ?_
  intro p e s m args below meth c s₁ B hml hv
  obtain ⟨rfl, hsz, hP, hK, hD⟩ := hv
  have hts := atoms_spec (ws := Cond.code y cc nL none :: tG) B.pre
  have C : Cx (p, l, e, s, m, [Value.ref a0].toArray, below, meth, c) cc nL y.cls d (Imu d (va_A [(a0, e0)] sz) s.heap) :=
    ⟨B.exec, B.bytes, hml, findClass_of_methodNamed B.named, fun w hw => hts w (List.mem_cons_of_mem _ hw), hK.1, fun ws H locs h => h.1⟩
  have hl := lv_entry [Value.ref a0] (n := nL) hlen
  rw [lg_entry_eq]
  exact body (p, l, e, s, m, [Value.ref a0].toArray, below, meth, c) (va_A [(a0, e0)] sz) a0 C B.returns B.notSynchronized ((name_of_methodNamed B.named B.method).1.trans hnm) hK.2 trivial s.heap [] _ ⟨hP, hD.self, va_S.rf, fun q hq => Or.inr (by rw [← hsz]; exact hq)⟩ (LH.entry hl (by simp [Value.category]) (fun i v h => lv0_at (av := [Value.ref a0]) (n := nL - 1) (by rw [← hl0] at h; exact h)))
theorem grow_P {A0 : Nat → Prop} {D : va_G} {ws w1 : va_W} {q : Nat} {e0 : va_E} {H H1 : Heap} (hP : va_P D vwCl (ws ++ [(q, e0)]) H) (hD : va_D A0 (ws ++ [(q, e0)])) (hk : ∀ p : Nat, p < H.size → ¬ va_A [(q, e0)] H.size p → H1[p]? = H[p]?) (hP1 : va_P D vwCl w1 H1) (hD1 : va_D (va_A [(q, e0)] H.size) w1) (hA : ∀ p, va_A [(q, e0)] H.size p → A0 p) : va_P D vwCl (ws ++ w1) H1 ∧ va_D A0 (ws ++ w1) := by
  have hlt : ∀ (k : Nat) (p : Nat × va_E), ws[k]? = some p → k < ws.length := fun k p h => (List.getElem?_eq_some_iff.mp h).1
  have hin : ∀ (k : Nat) (p : Nat × va_E), ws[k]? = some p → (ws ++ [(q, e0)])[k]? = some p := fun k p h => by rw [List.getElem?_append_left (hlt k p h)]; exact h
  have hlast : (ws ++ [(q, e0)])[ws.length]? = some (q, e0) := by simp
  have hout : ∀ (k : Nat) (p : Nat × va_E), ws[k]? = some p → ¬ va_A [(q, e0)] H.size p.1 := by
    intro k p h
    rintro (⟨j, e, hj⟩ | hge)
    · have hj0 : p.1 = q := by
        cases j with
        | zero => simp at hj; exact hj.1.symm
        | succ j => simp at hj
      have := hD.1 k ws.length p (q, e0) (hin k p h) hlast hj0
      have := hlt k p h
      omega
    · have := (hP k p (hin k p h)).lt
      omega
  refine ⟨va_P.app (fun k p h => (hP k p (hin k p h)).kept (hk p.1 (hP k p (hin k p h)).lt (hout k p h))) hP1, va_D.app ⟨fun i j p r h1 h2 e => hD.1 i j p r (hin i p h1) (hin j r h2) e, fun k p h => hD.2 k p (hin k p h)⟩ (hD1.weaken (fun _ _ _ h => hA _ h)) (fun i j p r h1 h2 e => ?_)⟩
  exact hout i p h1 (e ▸ hD1.2 j r h2)
section NEWROWS
variable {x : Am} {R : Room} {cells slots : Nat} {Q : State → Prop} {nL : Nat} {hyp : Prop} {pc : Nat} {ws ws' : va_W} {lv lv' : List (Option Value)} {rest stk : List Value} {cc : ByteArray} {own : String} {d : Dt} {A : Nat → Prop}
theorem V_new (C : Cx x cc nL own d (Imu d A x.s.heap)) {ci : Nat} {CC : String} {T : u_T} {N : Nat} {ty : Nat → FieldType} (F : Fld ci CC T N ty) {idx : Nat} {fs : List Value} (hcl : Cond.classLink own idx CC ∈ tG) (hin : Cond.instantiable CC N ∈ tG) (hini : Cond.initialized CC ∈ tG) (hfs : ∀ j, j < N → defaultValue (ty j) = vp_V fs j) (hc : cells + 1 ≤ R.cells ∧ slots + N ≤ R.slots) (hdg : decode cc pc = .ok (.new idx, 3))
    (kk : ∀ q : Nat, V x R (cells + 1) (slots + N) Q nL (Imu d A x.s.heap) hyp (pc + 3) (ws ++ [(q, .inr (ci, fs))]) lv (.ref q :: rest)) : V x R cells slots Q nL (Imu d A x.s.heap) hyp pc ws lv rest :=
  fun h H locs ls hI hl => va_new (D := d.1) C.1 C.2.1 C.2.2.2.2.1 F.2.1 ty F.2.2.1 C.2.2.2.1 (C.2.2.2.2.1 _ hcl) (C.2.2.2.2.1 _ hin) (C.2.2.2.2.1 _ hini) C.2.2.2.2.2.1.1 hI.1 hI.2.1 hI.2.2.1 hI.2.2.2 F.1 hfs hc.1 hc.2 hdg (fun q H1 hP hD hS => kk q h H1 locs ls ⟨hP, hD, hS, hI.2.2.2⟩ hl)
theorem V_newI (C : Cx x cc nL own d (Imu d A x.s.heap)) {n : Int32} (N : Nat) (harr : Cond.arrayClass .int ∈ tG) (hn : ¬ n < 0) (hN : n.toNatClampNeg = N) (hb : N * componentBytes .int ≤ 536870912) (hc : cells + 1 ≤ R.cells ∧ slots + N ≤ R.slots) (hdg : decode cc pc = .ok (.newarray .int, 2))
    (kk : ∀ q : Nat, V x R (cells + 1) (slots + N) Q nL (Imu d A x.s.heap) hyp (pc + 2) (ws ++ [(q, .inl (d.2.1, N, .inl (fun _ => 0)))]) lv (.ref q :: rest)) : V x R cells slots Q nL (Imu d A x.s.heap) hyp pc ws lv (.int n :: rest) := by
  intro h H locs ls hI hl
  refine va_newa (D := d.1) (atype := .int) (ty := .int) (a0 := (N, .inl (fun _ => 0))) C.1 C.2.1 (C.2.2.2.2.1 _ harr) rfl C.2.2.2.2.2.1.1 hI.1 hI.2.1 hI.2.2.1 hI.2.2.2 (fun cA => rfl) hn hN hb hc.1 hc.2 hdg (fun q cA H1 hK hP hD hS => ?_)
  have e1 : x.s.vm.findClass ("[" ++ (FieldType.int).toString) = some cA := (hK.2 3 (cA, .int) rfl).2
  have e2 : x.s.vm.findClass ("[" ++ (FieldType.int).toString) = some d.2.1 := (C.2.2.2.2.2.1.1.2 0 (d.2.1, .int) rfl).2
  have e3 : cA = d.2.1 := Option.some.inj (e1.symm.trans e2)
  subst e3
  exact kk q h H1 locs ls ⟨hP, hD, hS, hI.2.2.2⟩ hl
theorem V_newC (C : Cx x cc nL own d (Imu d A x.s.heap)) {n : Int32} (N : Nat) (harr : Cond.arrayClass .char ∈ tG) (hn : ¬ n < 0) (hN : n.toNatClampNeg = N) (hb : N * componentBytes .char ≤ 536870912) (hc : cells + 1 ≤ R.cells ∧ slots + N ≤ R.slots) (hdg : decode cc pc = .ok (.newarray .char, 2))
    (kk : ∀ q : Nat, V x R (cells + 1) (slots + N) Q nL (Imu d A x.s.heap) hyp (pc + 2) (ws ++ [(q, .inl (d.2.2.1, N, .inl (fun _ => 0)))]) lv (.ref q :: rest)) : V x R cells slots Q nL (Imu d A x.s.heap) hyp pc ws lv (.int n :: rest) := by
  intro h H locs ls hI hl
  refine va_newa (D := d.1) (atype := .char) (ty := .char) (a0 := (N, .inl (fun _ => 0))) C.1 C.2.1 (C.2.2.2.2.1 _ harr) rfl C.2.2.2.2.2.1.1 hI.1 hI.2.1 hI.2.2.1 hI.2.2.2 (fun cA => rfl) hn hN hb hc.1 hc.2 hdg (fun q cA H1 hK hP hD hS => ?_)
  have e1 : x.s.vm.findClass ("[" ++ (FieldType.char).toString) = some cA := (hK.2 3 (cA, .char) rfl).2
  have e2 : x.s.vm.findClass ("[" ++ (FieldType.char).toString) = some d.2.2.1 := (C.2.2.2.2.2.1.1.2 1 (d.2.2.1, .char) rfl).2
  have e3 : cA = d.2.2.1 := Option.some.inj (e1.symm.trans e2)
  subst e3
  exact kk q h H1 locs ls ⟨hP, hD, hS, hI.2.2.2⟩ hl
theorem V_newL (C : Cx x cc nL own d (Imu d A x.s.heap)) (hAO : va_AO "MastRobots$Library" x.s) {n : Int32} {idx : Nat} (N : Nat) (hcl : Cond.classLink own idx "MastRobots$Library" ∈ tG) (hn : ¬ n < 0) (hN : n.toNatClampNeg = N) (hb : N * 4 ≤ 536870912) (hc : cells + 1 ≤ R.cells ∧ slots + N ≤ R.slots) (hdg : decode cc pc = .ok (.anewarray idx, 3))
    (kk : ∀ q : Nat, V x R (cells + 1) (slots + N) Q nL (Imu d A x.s.heap) hyp (pc + 3) (ws ++ [(q, .inl (d.2.2.2, N, .inr (.inr (.inr (.inr (fun _ => none))))))]) lv (.ref q :: rest)) : V x R cells slots Q nL (Imu d A x.s.heap) hyp pc ws lv (.int n :: rest) := by
  intro h H locs ls hI hl
  refine va_newq (D := d.1) C.1 C.2.1 C.2.2.2.1 (C.2.2.2.2.1 _ hcl) hAO C.2.2.2.2.2.1.1 hI.1 hI.2.1 hI.2.2.1 hI.2.2.2 hn hN hb hc.1 hc.2 hdg (fun q cA H1 hK hP hD hS => ?_)
  obtain ⟨kA, comp, -, -, -, e1⟩ := (hK.2 3 (cA, .object "MastRobots$Library") rfl).2
  obtain ⟨kA', comp', -, -, -, e2⟩ := (C.2.2.2.2.2.1.1.2 2 (d.2.2.2, .object "MastRobots$Library") rfl).2
  have e3 : cA = d.2.2.2 := Option.some.inj (e1.symm.trans e2)
  subst e3
  exact kk q h H1 locs ls ⟨hP, hD, hS, hI.2.2.2⟩ hl
theorem V_putF (C : Cx x cc nL own d (Imu d A x.s.heap)) (hinit : x.meth.name = "<init>") {ci : Nat} {CC : String} {T : u_T} {N : Nat} {ty : Nat → FieldType} (F : Fld ci CC T N ty) (q0 k : Nat) {idx a v : Nat} {fs : List Value} {ft : FieldType} (hlink : Cond.fieldLink own idx (T k).1 (T k).2.1 (T k).2.2.1 ∈ tG) (hk : k < N) (he : ws[q0]? = some (a, .inr (ci, fs))) (hfin : (T k).2.2.2 = true) (hdecl : (T k).1 = own) (hty : ty k = ft) (hft : narrow ft (.ref v) = .ref v ∧ fits ft (.ref v) = true) (hl : k < fs.length) (hws : ws.set q0 (a, .inr (ci, fs.set k (.ref v))) = ws') (hdg : decode cc pc = .ok (.putfield idx, 3))
    (kk : V x R cells slots Q nL (Imu d A x.s.heap) hyp (pc + 3) ws' lv rest) : V x R cells slots Q nL (Imu d A x.s.heap) hyp pc ws lv (.ref v :: .ref a :: rest) := by
  intro h H locs ls hI hl'
  subst hws
  exact va_putF (D := d.1) (ty := ft) C.1 C.2.1 C.2.2.2.2.1 F.2.1 ty F.2.2.1 F.2.2.2 C.2.2.2.1 C.2.2.2.2.2.1.1 hI.1 hI.2.1 hI.2.2.1 q0 he F.1 k hk (C.2.2.2.2.1 _ hlink) (fun _ h9 => h9) hfin hinit hdecl (by rw [F.2.2.1 k hk, hty]) hft.1 hft.2 hl hdg (fun H1 locs1 hP hD hS => kk h H1 locs1 ls ⟨hP, hD, hS, hI.2.2.2⟩ hl')
theorem V_objInit (C : Cx x cc nL own d (Imu d A x.s.heap)) {idx q : Nat} (hlink : Cond.methodLink own idx Lib.objectInit ∈ tG) (hinst : Cond.instanceMethod Lib.objectInit ∈ tG) (hcode : Cond.code Lib.objectInit ⟨#[0xb1]⟩ 1 none ∈ tG) (hR : 1 ≤ R.frames ∧ (rest.map fun v => v.category).sum + 12 ≤ R.locals) (hdg : decode cc pc = .ok (.invokespecial idx, 3))
    (kk : V x R cells slots Q nL (Imu d A x.s.heap) hyp (pc + 3) ws lv rest) : V x R cells slots Q nL (Imu d A x.s.heap) hyp pc ws lv (.ref q :: rest) :=
  fun h H locs ls hI hl => W.objInit C.1 C.2.1 C.2.2.2.1 (C.2.2.2.2.1 _ hlink) (C.2.2.2.2.1 _ hinst) (C.2.2.2.2.1 _ hcode) rfl (hl.1.trans C.2.2.1.symm) rfl hdg hR.1 (by show 2 * 0 + _ + 12 ≤ _; omega) (kk h H locs ls hI hl)
variable {y : MethodName} {cy : ByteArray} {nLy idx mc ms : Nat} {rm : Room} {e0 : va_E} {Wd : (Nat → Nat) → va_W}
/-- a constructor: its code, that it is one -/
def CalN (y : MethodName) (cy : ByteArray) (nLy : Nat) : Prop :=
  Cond.instanceMethod y ∈ tG ∧ Cond.initialized y.cls ∈ tG ∧ Cond.code y cy nLy none ∈ tG ∧ y.name = "<init>" ∧ (y.cls ≠ "java/lang/invoke/MethodHandle" ∧ y.cls ≠ "java/lang/invoke/VarHandle" ∧ (parseMethodDescriptor y.desc).map (fun d => d.parameters.length) = some 0)
theorem V_ctor_of (C : Cx x cc nL own d (Imu d A x.s.heap)) (hAO : va_AO "MastRobots$Library" x.s) {q : Nat}
    (hr : ∀ (H : Heap) (locs : List Loc) (ls : Array Slot), LH ls nL lv → PreS x.s H (va_Pc [.ref q] (fun U => U.heap.size = H.size ∧ va_P d.1 vwCl [(q, e0)] U.heap ∧ KN d U ∧ va_D (fun _ => True) [(q, e0)])) [.ref q] → va_Run x.1 x.2.1 x.2.2.1 R x.s x.m x.args x.below x.meth x.c H locs cells slots mc ms (F0 x.m pc ls (.ref q :: rest)) rest (QN d (va_A [(q, e0)] H.size) q Wd ([Value.ref q] : List Value).toArray) (va_A [(q, e0)] H.size))
    (kk : ∀ a : Nat → Nat, a 0 = q → V x R (cells + mc) (slots + ms) Q nL (Imu d A x.s.heap) hyp (pc + 3) (ws ++ Wd a) lv rest) : V x R cells slots Q nL (Imu d A x.s.heap) hyp pc (ws ++ [(q, e0)]) lv (.ref q :: rest) := by
  intro h H locs ls hI hl
  have hlast : (ws ++ [(q, e0)])[ws.length]? = some (q, e0) := by simp
  have hPc : va_P d.1 vwCl [(q, e0)] H := by
    intro k p hk
    cases k with
    | zero => simp at hk; subst hk; exact hI.1 ws.length _ hlast
    | succ k => simp at hk
  have hDc : va_D (fun _ => True) [(q, e0)] := ⟨fun i j p r h1 h2 _ => by
    cases i <;> cases j <;> simp at h1 h2
    rfl, fun _ _ _ => trivial⟩
  have hFc : ∀ p, va_A [(q, e0)] H.size p → A p := by
    rintro p (⟨j, e, hj⟩ | hge)
    · cases j with
      | zero => simp at hj; exact hj.1 ▸ hI.2.1.2 ws.length _ hlast
      | succ j => simp at hj
    · exact hI.2.2.2 p (Nat.le_trans hI.2.2.1.1 hge)
  have hrun := hr H locs ls hl ⟨Pc_blindN, fun U hU hW => ⟨rfl, by rw [hU], by rw [hU]; exact hPc, KN.warm hW ⟨C.2.2.2.2.2.1, hAO⟩, hDc⟩⟩
  intro T hT X
  obtain ⟨v, st₀, t, T', L, h0, X', hL, e1, -, ⟨hv, ⟨a, ha, hP1, hD1⟩, hF⟩, st⟩ := hrun T hT X
  cases hv
  subst h0
  have hj := grow_P hI.1 hI.2.1 hF.2 hP1 hD1 hFc
  obtain ⟨t2, a1, b1⟩ := kk a ha h t.heap (locs ++ L) ls ⟨hj.1, hj.2, ⟨Nat.le_trans hI.2.2.1.1 hF.1, fun p h1 h2 => (hF.2 p (Nat.lt_of_lt_of_le h1 hI.2.2.1.1) (fun h9 => h2 (hFc p h9))).trans (hI.2.2.1.2.1 p h1 h2), fun p hp => (List.mem_append.mp hp).elim (hI.2.2.1.2.2 p) (fun h9 => hFc _ (hL p h9))⟩, hI.2.2.2⟩ hl T' e1 X'
  exact ⟨t2, st t2 a1, b1⟩
/-- new C() of a program of ours -/
theorem V_callI (C : Cx x cc nL own d (Imu d A x.s.heap)) (hAO : va_AO "MastRobots$Library" x.s) {q : Nat} (hM : CtN x.2.1 d y cy nLy rm mc ms e0 Wd) (Y : CalN y cy nLy) (hlink : Cond.methodLink own idx y ∈ tG) (hdg : decode cc pc = .ok (.invokespecial idx, 3)) (hcat : (rest.map fun v => v.category).sum ≤ 8)
    (hR : rm.frames + 1 ≤ R.frames ∧ 8 + (nLy + 11) + rm.locals ≤ R.locals) (hrc : rm.cells = mc) (hrs : rm.slots = ms) (hcs : cells + mc ≤ R.cells ∧ slots + ms ≤ R.slots)
    (kk : ∀ a : Nat → Nat, a 0 = q → V x R (cells + mc) (slots + ms) Q nL (Imu d A x.s.heap) hyp (pc + 3) (ws ++ Wd a) lv rest) : V x R cells slots Q nL (Imu d A x.s.heap) hyp pc (ws ++ [(q, e0)]) lv (.ref q :: rest) :=
  V_ctor_of C hAO (fun H locs ls hl hp => va_runI (As := []) (rest := rest) ⟨C.1, C.2.1, C.2.2.1, C.2.2.2.1, C.2.2.2.2.1⟩ (hM H.size q) ⟨callB_of 0 C.2.2.2.2.1 (fun w hw => goodY Y.2.2.1 hw) rfl hrc hrs (C.2.2.2.2.1 _ Y.2.1) (C.2.2.2.2.1 _ hlink) Y.2.2.2.2 hR, Y.2.2.2.1, C.2.2.2.2.1 _ Y.1⟩ hp rfl rfl hl.1 rfl (lv_room hcat) hdg hcs) kk
theorem V_callIN (C : Cx x cc nL own d (Imu d A x.s.heap)) (hAO : va_AO "MastRobots$Library" x.s) {q : Nat} {host : String} (hM : CtN x.2.1 d y cy nLy rm mc ms e0 Wd) (Y : CalN y cy nLy) (hlink : Cond.methodLinkNest own idx y host ∈ nestW) (hdg : decode cc pc = .ok (.invokespecial idx, 3)) (hcat : (rest.map fun v => v.category).sum ≤ 8)
    (hR : rm.frames + 1 ≤ R.frames ∧ 8 + (nLy + 11) + rm.locals ≤ R.locals) (hrc : rm.cells = mc) (hrs : rm.slots = ms) (hcs : cells + mc ≤ R.cells ∧ slots + ms ≤ R.slots)
    (kk : ∀ a : Nat → Nat, a 0 = q → V x R (cells + mc) (slots + ms) Q nL (Imu d A x.s.heap) hyp (pc + 3) (ws ++ Wd a) lv rest) : V x R cells slots Q nL (Imu d A x.s.heap) hyp pc (ws ++ [(q, e0)]) lv (.ref q :: rest) :=
  V_ctor_of C hAO (fun H locs ls hl hp => va_runIN (As := []) (rest := rest) ⟨C.1, C.2.1, C.2.2.1, C.2.2.2.1, C.2.2.2.2.1⟩ (hM H.size q) ⟨va_cnB 0 C.2.2.2.2.1 (fun w hw => goodY Y.2.2.1 hw) rfl hrc hrs (C.2.2.2.2.2.1.2 _ hlink) (C.2.2.2.2.1 _ Y.2.1) Y.2.2.2.2 hR, Y.2.2.2.1, C.2.2.2.2.1 _ Y.1⟩ hp rfl rfl hl.1 rfl (lv_room hcat) hdg hcs) kk
theorem V_vretN {a0 : Nat} (C : Cx x cc nL own d (Imu d A x.s.heap)) (hr : x.meth.sig.returnType = none) (hlk : x.meth.locks = false) (a : Nat → Nat) (ha : a 0 = a0) (hw : Wd a = ws) (hdg : decode cc pc = .ok (.return_, 1)) : V x R mc ms (MQ x.below (QN d A a0 Wd) x.args x.s mc ms A) nL (Imu d A x.s.heap) hyp pc ws lv [] := by
  intro h H locs ls hI hl
  exact W.vret C.1 C.2.1 hr (fun t ht _ => ⟨rfl, ⟨a, ha, by rw [ht, hw]; exact hI.1, by rw [hw]; exact hI.2.1⟩, hI.2.2.1.F ht⟩) hI.2.2.1.2.2 hdg hlk
theorem V_ws (hws : ws = ws') (k : V x R cells slots Q nL (Imu d A x.s.heap) hyp pc ws' lv stk) : V x R cells slots Q nL (Imu d A x.s.heap) hyp pc ws lv stk := hws ▸ k
theorem V_ext {q0 a n : Nat} {cA : ClassId} {f g : Nat → Int32} (h1 : ws[q0]? = some (a, .inl (cA, n, .inl f))) (h2 : ws.set q0 (a, .inl (cA, n, .inl g)) = ws') (hfg : ∀ j, j < n → f j = g j) (k : V x R cells slots Q nL (Imu d A x.s.heap) hyp pc ws' lv stk) : V x R cells slots Q nL (Imu d A x.s.heap) hyp pc ws lv stk :=
  fun h H locs ls hI hl => k h H locs ls ⟨inl_ext hI.1 h1 h2 hfg, h2 ▸ hI.2.1.set h1, hI.2.2.1, hI.2.2.2⟩ hl
end NEWROWS
