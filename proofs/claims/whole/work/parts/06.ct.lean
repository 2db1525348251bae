/-! ===== contracts: a method that only reads; a method that writes; calls ===== -/
def Iro (d : Dt) (H0 : Heap) : Iv := fun ws H locs => H = H0 ∧ locs = [] ∧ va_P d.1 vwCl ws H
def Imu (d : Dt) (A : Nat → Prop) (H0 : Heap) : Iv := fun ws H locs => va_P d.1 vwCl ws H ∧ va_D A ws ∧ va_S A H0 H locs ∧ ∀ q, H0.size ≤ q → A q
def QR (r : Option Value) : Array Value → State → Outcome → State → Prop := fun _ st o t => o = .returned r ∧ t.heap = st.heap
def QW (d : Dt) (A : Nat → Prop) (ws' : va_W) (r : Option Value) : Array Value → State → Outcome → State → Prop := fun _ st o t => o = .returned r ∧ va_P d.1 vwCl ws' t.heap ∧ va_F A st t
def CtR (l : Launch) (d : Dt) (y : MethodName) (cc : ByteArray) (nL : Nat) (ret : Option FieldType) (rm : Room) (av : List Value) (ws : va_W) (r : Option Value) : Prop :=
  Met l y (Cond.code y cc nL ret :: tG) rm (va_Pc av (fun U => va_P d.1 vwCl ws U.heap ∧ KX d U)) (QR r) 0 0 (fun _ => False)
def CtW (l : Launch) (d : Dt) (y : MethodName) (cc : ByteArray) (nL : Nat) (ret : Option FieldType) (rm : Room) (av : List Value) (ws ws' : va_W) (r : Option Value) : Prop :=
  ∀ sz : Nat, Met l y (Cond.code y cc nL ret :: tG) rm (va_Pc av (fun U => U.heap.size = sz ∧ va_P d.1 vwCl ws U.heap ∧ KX d U ∧ va_D (fun _ => True) ws)) (QW d (va_A ws sz) ws' r) 0 0 (va_A ws sz)
abbrev rmF (f n : Nat) : Room := { frames := f, cells := 0, slots := 0, locals := n }
theorem lv0_at {av : List Value} {n : Nat} {i : Nat} {v : Value} (h : (av.map some ++ List.replicate n (none : Option Value))[i]? = some (some v)) : av[i]? = some v := by
  rcases Nat.lt_or_ge i av.length with q | q
  · rw [List.getElem?_append_left (by simpa using q), List.getElem?_map] at h
    cases hx : av[i]? with
    | none => rw [hx] at h; simp at h
    | some w => rw [hx] at h; simpa using h
  · rw [List.getElem?_append_right (by simpa using q), List.getElem?_replicate] at h
    split at h <;> simp at h
theorem CtR.start {l : Launch} {d : Dt} {y : MethodName} {cc : ByteArray} {nL : Nat} {ret : Option FieldType} {rm : Room} {av : List Value} {ws : va_W} {r : Option Value} (hy : plainName y.cls = true) (hlen : (lg_sl av).length ≤ nL) (hc : ∀ v ∈ av, v.category = 1)
    (lv0 : List (Option Value)) (hl0 : av.map some ++ List.replicate (nL - av.length) (none : Option Value) = lv0)
    (body : ∀ x : Am, Cx x cc nL y.cls d (Iro d x.s.heap) → x.meth.sig.returnType = ret → x.meth.locks = false → V x rm 0 0 (MQ x.below (QR r) x.args x.s 0 0 (fun _ => False)) nL (Iro d x.s.heap) True 0 ws lv0 []) : CtR l d y cc nL ret rm av ws r := by
  refine Met.ofW (cc := cc) (maxL := nL) (ret := ret) hy rfl ?_
  intro p e s m args below meth c s₁ B hml hv
  obtain ⟨rfl, hP, hK⟩ := hv
  have hts := atoms_spec (ws := Cond.code y cc nL ret :: tG) B.pre
  have C : Cx (p, l, e, s, m, av.toArray, below, meth, c) cc nL y.cls d (Iro d s.heap) :=
    ⟨B.exec, B.bytes, hml, findClass_of_methodNamed B.named, fun w hw => hts w (List.mem_cons_of_mem _ hw), hK, fun ws H locs h => h.2.2⟩
  have hl := lv_entry av (n := nL) hlen
  rw [lg_entry_eq]
  exact body (p, l, e, s, m, av.toArray, below, meth, c) C B.returns B.notSynchronized trivial s.heap [] _ ⟨rfl, rfl, hP⟩ (LH.entry hl hc (fun i v h => lv0_at (by rw [hl0]; exact h)))
theorem CtW.start {l : Launch} {d : Dt} {y : MethodName} {cc : ByteArray} {nL : Nat} {ret : Option FieldType} {rm : Room} {av : List Value} {ws ws' : va_W} {r : Option Value} (hy : plainName y.cls = true) (hlen : (lg_sl av).length ≤ nL) (hc : ∀ v ∈ av, v.category = 1)
    (lv0 : List (Option Value)) (hl0 : av.map some ++ List.replicate (nL - av.length) (none : Option Value) = lv0)
    (body : ∀ (x : Am) (A : Nat → Prop), Cx x cc nL y.cls d (Imu d A x.s.heap) → x.meth.sig.returnType = ret → x.meth.locks = false → V x rm 0 0 (MQ x.below (QW d A ws' r) x.args x.s 0 0 A) nL (Imu d A x.s.heap) True 0 ws lv0 []) : CtW l d y cc nL ret rm av ws ws' r := by
  intro sz
  refine Met.ofW (cc := cc) (maxL := nL) (ret := ret) hy rfl ?_
  intro p e s m args below meth c s₁ B hml hv
  obtain ⟨rfl, hsz, hP, hK, hD⟩ := hv
  have hts := atoms_spec (ws := Cond.code y cc nL ret :: tG) B.pre
  have C : Cx (p, l, e, s, m, av.toArray, below, meth, c) cc nL y.cls d (Imu d (va_A ws sz) s.heap) :=
    ⟨B.exec, B.bytes, hml, findClass_of_methodNamed B.named, fun w hw => hts w (List.mem_cons_of_mem _ hw), hK, fun ws H locs h => h.1⟩
  have hl := lv_entry av (n := nL) hlen
  rw [lg_entry_eq]
  exact body (p, l, e, s, m, av.toArray, below, meth, c) (va_A ws sz) C B.returns B.notSynchronized trivial s.heap [] _ ⟨hP, hD.self, va_S.rf, fun q hq => Or.inr (by rw [← hsz]; exact hq)⟩ (LH.entry hl hc (fun i v h => lv0_at (by rw [hl0]; exact h)))
/-! ===== a part of a world is replaced ===== -/
def putAt : va_W → List Nat → va_W → va_W
  | ws, i :: is, q :: qs => putAt (ws.set i q) is qs
  | ws, _, _ => ws
theorem putAt_get : ∀ (is : List Nat) (qs ws : va_W) (k : Nat) (q : Nat × va_E), is.length = qs.length → (putAt ws is qs)[k]? = some q → (∃ j : Nat, is[j]? = some k ∧ qs[j]? = some q) ∨ (ws[k]? = some q ∧ k ∉ is)
  | [], qs, ws, k, q, _, h => by
    right
    exact ⟨by simpa [putAt] using h, List.not_mem_nil⟩
  | i :: is, [], ws, k, q, hl, h => by simp at hl
  | i :: is, r :: qs, ws, k, q, hl, h => by
    rw [putAt] at h
    rcases putAt_get is qs (ws.set i r) k q (by simpa using hl) h with ⟨j, h1, h2⟩ | ⟨h1, h2⟩
    · exact Or.inl ⟨j + 1, by simpa using h1, by simpa using h2⟩
    · by_cases hk : i = k
      · subst hk
        left
        refine ⟨0, rfl, ?_⟩
        rw [List.getElem?_set_self'] at h1
        cases hx : ws[i]? with
        | none => rw [hx] at h1; simp at h1
        | some y => rw [hx] at h1; simpa using h1
      · right
        rw [List.getElem?_set_ne hk] at h1
        exact ⟨h1, by simp [h2, Ne.symm hk]⟩
theorem map_getE {ws wc : va_W} {isC : List Nat} (hC : isC.map (fun i => ws[i]?) = wc.map some) {j k : Nat} (hj : isC[j]? = some k) : ∃ q, wc[j]? = some q ∧ ws[k]? = some q := by
  have h := congrArg (fun l => l[j]?) hC
  simp only [List.getElem?_map, hj, Option.map_some] at h
  cases hx : wc[j]? with
  | none => rw [hx] at h; simp at h
  | some q => rw [hx] at h; exact ⟨q, rfl, by simpa using h⟩
theorem map_getE' {ws wc : va_W} {isC : List Nat} (hC : isC.map (fun i => ws[i]?) = wc.map some) {j : Nat} {q : Nat × va_E} (hj : wc[j]? = some q) : ∃ k, isC[j]? = some k ∧ ws[k]? = some q := by
  have h := congrArg (fun l => l[j]?) hC
  simp only [List.getElem?_map, hj, Option.map_some] at h
  cases hx : isC[j]? with
  | none => rw [hx] at h; simp at h
  | some k => rw [hx] at h; exact ⟨k, rfl, by simpa using h⟩
theorem putAt_P {A0 : Nat → Prop} {D : va_G} {ws wc wc' : va_W} {H H1 : Heap} {isC : List Nat} (hP : va_P D vwCl ws H) (hD : va_D A0 ws) (hC : isC.map (fun i => ws[i]?) = wc.map some) (hf : wc'.map (·.1) = wc.map (·.1))
    (hk : ∀ q : Nat, q < H.size → ¬ va_A wc H.size q → H1[q]? = H[q]?) (hP1 : va_P D vwCl wc' H1) : va_P D vwCl (putAt ws isC wc') H1 ∧ va_D A0 (putAt ws isC wc') := by
  have hlen : isC.length = wc'.length := by
    have h1 := congrArg List.length hC
    have h2 := congrArg List.length hf
    simp at h1 h2
    omega
  have hat : ∀ (k : Nat) (q : Nat × va_E), (putAt ws isC wc')[k]? = some q → ∃ q', ws[k]? = some q' ∧ q'.1 = q.1 := by
    intro k q h
    rcases putAt_get isC wc' ws k q hlen h with ⟨j, h1, h2⟩ | ⟨h1, -⟩
    · obtain ⟨q', h3, h4⟩ := map_getE hC h1
      refine ⟨q', h4, ?_⟩
      have h5 := congrArg (fun l => l[j]?) hf
      simpa [h2, h3] using h5.symm
    · exact ⟨q, h1, rfl⟩
  refine ⟨fun k q h => ?_, fun i j p q h1 h2 e => ?_, fun k q h => ?_⟩
  · rcases putAt_get isC wc' ws k q hlen h with ⟨j, h1, h2⟩ | ⟨h1, h2⟩
    · exact hP1 j q h2
    · refine (hP k q h1).kept (hk q.1 (hP k q h1).lt ?_)
      rintro (⟨j, e, hj⟩ | hge)
      · obtain ⟨k', h3, h4⟩ := map_getE' hC hj
        have : k = k' := hD.1 k k' q (q.1, e) h1 h4 rfl
        subst this
        exact h2 (List.mem_of_getElem? h3)
      · have := (hP k q h1).lt
        omega
  · obtain ⟨p', h3, h4⟩ := hat i p h1
    obtain ⟨q', h5, h6⟩ := hat j q h2
    exact hD.1 i j p' q' h3 h5 (by rw [h4, h6, e])
  · obtain ⟨q', h3, h4⟩ := hat k q h
    rw [← h4]
    exact hD.2 k q' h3
theorem subP {D : va_G} {ws wc : va_W} {H : Heap} {isC : List Nat} (hP : va_P D vwCl ws H) (hC : isC.map (fun i => ws[i]?) = wc.map some) : va_P D vwCl wc H := by
  intro j q hj
  obtain ⟨k, -, h2⟩ := map_getE' hC hj
  exact hP k q h2
/-! ===== what a callee gives ===== -/
/-- an object method of the program CC, with n arguments -/
def CalV (y : MethodName) (cy : ByteArray) (nLy : Nat) (ret : Option FieldType) (CC : String) (n : Nat) : Prop :=
  Cond.instanceMethod y ∈ tG ∧ Cond.selects CC y y ∈ tG ∧ Cond.initialized CC ∈ tG ∧ Cond.code y cy nLy ret ∈ tG ∧ (y.cls = CC ∧ y.cls ≠ "java/lang/invoke/MethodHandle" ∧ y.cls ≠ "java/lang/invoke/VarHandle" ∧ (parseMethodDescriptor y.desc).map (fun d => d.parameters.length) = some n)
def CalS (y : MethodName) (cy : ByteArray) (nLy : Nat) (ret : Option FieldType) (n : Nat) : Prop :=
  Cond.static y ∈ tG ∧ Cond.initialized y.cls ∈ tG ∧ Cond.code y cy nLy ret ∈ tG ∧ (y.cls ≠ "java/lang/invoke/MethodHandle" ∧ y.cls ≠ "java/lang/invoke/VarHandle" ∧ (parseMethodDescriptor y.desc).map (fun d => d.parameters.length) = some n)
section CALLS
variable {p : Program} {l : Launch} {e : Env} {R : Room} {s : State} {m : MethodId} {args : Array Value} {below : List Frame} {meth : Method} {c : Code} {H : Heap} {locs : List Loc} {cells slots : Nat} {Q : State → Prop} {pc : Nat} {ls : Array Slot} {st0 rest : List Value} {a : Array Value}
theorem W_ro {r : Option Value} (hr : va_Run p l e R s m args below meth c H locs cells slots 0 0 (F0 m pc ls st0) rest (QR r a) (fun _ => False))
    (kk : W p l e R s m args below meth c H locs cells slots Q (F0 m (pc + 3) ls (r.toList ++ rest))) : W p l e R s m args below meth c H locs cells slots Q (F0 m pc ls st0) := by
  intro T hT X
  obtain ⟨v, st₀, t, T', L, h0, X', hL, e1, -, ⟨hv, hh⟩, st⟩ := hr T hT X
  cases hv
  obtain ⟨t2, a1, b1⟩ := kk T' (by rw [e1, hh, h0]) (Stand.forget X' (fun q h => (hL q h).elim))
  exact ⟨t2, st t2 a1, b1⟩
theorem W_mu {d : Dt} {A : Nat → Prop} {w' : va_W} {r : Option Value} (hr : va_Run p l e R s m args below meth c H locs cells slots 0 0 (F0 m pc ls st0) rest (QW d A w' r a) A)
    (kk : ∀ (H1 : Heap) (L : List Loc), va_P d.1 vwCl w' H1 → H.size ≤ H1.size → (∀ q : Nat, q < H.size → ¬ A q → H1[q]? = H[q]?) → (∀ q ∈ L, A q.base) → W p l e R s m args below meth c H1 (locs ++ L) cells slots Q (F0 m (pc + 3) ls (r.toList ++ rest))) : W p l e R s m args below meth c H locs cells slots Q (F0 m pc ls st0) := by
  intro T hT X
  obtain ⟨v, st₀, t, T', L, h0, X', hL, e1, -, ⟨hv, hp, hF⟩, st⟩ := hr T hT X
  cases hv
  subst h0
  obtain ⟨t2, a1, b1⟩ := kk t.heap L hp hF.1 hF.2 hL T' e1 X'
  exact ⟨t2, st t2 a1, b1⟩
end CALLS
theorem Pc_blindR {d : Dt} {av : List Value} {ws : va_W} : FrameBlind (va_Pc av (fun U => va_P d.1 vwCl ws U.heap ∧ KX d U)) := fun a U g mk q => ⟨q.1, q.2.1, q.2.2.calling g mk a⟩
theorem Pc_blindW {d : Dt} {av : List Value} {ws : va_W} {sz : Nat} : FrameBlind (va_Pc av (fun U => U.heap.size = sz ∧ va_P d.1 vwCl ws U.heap ∧ KX d U ∧ va_D (fun _ => True) ws)) := fun a U g mk q => ⟨q.1, q.2.1, q.2.2.1, q.2.2.2.1.calling g mk a, q.2.2.2.2⟩
section VCALLS
variable {x : Am} {R : Room} {cells slots : Nat} {Q : State → Prop} {nL : Nat} {I : Iv} {pc : Nat} {ws : va_W} {lv : List (Option Value)} {rest stk : List Value} {cc : ByteArray} {own : String} {d : Dt}
variable {Z : Type} {z : Z} {y : MethodName} {cy : ByteArray} {nLy n idx b ci : Nat} {ret : Option FieldType} {rm : Room} {CC : String} {T : u_T} {N : Nat} {fs As : List Value} {wc : va_W}
theorem goodY {w : Cond} (hY : Cond.code y cy nLy ret ∈ tG) (hw : w ∈ Cond.code y cy nLy ret :: tG) : w ∈ tG ∧ ((w.onTables && w.keeps) = true ∨ ∃ ty, w = .arrayClass ty) := by
  have h : w ∈ tG := by
    rcases List.mem_cons.mp hw with rfl | hw
    · exact hY
    · exact hw
  exact ⟨h, good_of_word (List.mem_filter.mp h).2⟩
theorem calW {args : Array Value} {s : State} (ht : ∀ w ∈ tG, w.before args s = true) (Y : CalV y cy nLy ret CC n) (hlink : Cond.methodLink own idx y ∈ tG) (hR : rm.frames + 1 ≤ R.frames ∧ 8 + (nLy + 11) + rm.locals ≤ R.locals) (hrc : rm.cells = 0) (hrs : rm.slots = 0) : CallW R s args own CC idx y cy nLy ret (Cond.code y cy nLy ret :: tG) rm 0 0 n :=
  ⟨callB_of n ht (fun w hw => goodY Y.2.2.2.1 hw) rfl hrc hrs (by rw [Y.2.2.2.2.1]; exact ht _ Y.2.2.1) (ht _ hlink) Y.2.2.2.2.2 hR, ht _ Y.1, ht _ Y.2.1⟩
/-- a call of an object method that only reads, with an int as answer -/
theorem V_callRi (C : Cx x cc nL own d I) {g : Option Int32} {k : Int32 → Option Z} (hM : ∀ r, g = some r → CtR x.2.1 d y cy nLy ret rm (.ref b :: As) wc (some (.int r))) (Y : CalV y cy nLy ret CC n) (hlink : Cond.methodLink own idx y ∈ tG)
    (isC : List Nat) (hdg : decode cc pc = .ok (.invokevirtual idx, 3)) (hC : isC.map (fun i => ws[i]?) = wc.map some) (hrv : wc[0]? = some (b, .inr (ci, fs))) (hcl : vwCl[ci]? = some (CC, T, N)) (hn : As.length = n) (hcat : (rest.map fun v => v.category).sum ≤ 8)
    (hR : rm.frames + 1 ≤ R.frames ∧ 8 + (nLy + 11) + rm.locals ≤ R.locals) (hrc : rm.cells = 0) (hrs : rm.slots = 0) (hcs : cells ≤ R.cells ∧ slots ≤ R.slots) (hstk : As.reverse ++ .ref b :: rest = stk)
    (kk : ∀ r, g = some r → V x R cells slots Q nL I (k r = some z) (pc + 3) ws lv (.int r :: rest)) : V x R cells slots Q nL I (g.bind k = some z) pc ws lv stk := by
  intro h H locs ls hI hl
  cases hg : g with
  | none => rw [hg] at h; cases h
  | some r =>
    rw [hg] at h
    have hPc := subP (C.2.2.2.2.2.2 ws H locs hI) hC
    refine W_ro (r := some (.int r)) (va_runV (As := As) (rest := rest) ⟨C.1, C.2.1, C.2.2.1, C.2.2.2.1, C.2.2.2.2.1⟩ (hM r hg) (calW C.2.2.2.2.1 Y hlink hR hrc hrs) ⟨Pc_blindR, va_recv C.2.2.2.2.2.1.1 hPc hcl hrv, fun U hU hW => ⟨rfl, by rw [hU]; exact hPc, C.2.2.2.2.2.1.warm hW⟩⟩ rfl hn hl.1 hstk.symm (lv_room hcat) hdg hcs) (kk r hg h H locs ls hI hl)
/-- a call of an object method that writes, with an int as answer -/
theorem V_callWi {A : Nat → Prop} (C : Cx x cc nL own d (Imu d A x.s.heap)) {U : Type} {g : Option (Int32 × U)} {k : Int32 × U → Option Z} {Wd : U → va_W} (hM : ∀ r, g = some r → CtW x.2.1 d y cy nLy ret rm (.ref b :: As) wc (Wd r.2) (some (.int r.1))) (Y : CalV y cy nLy ret CC n) (hlink : Cond.methodLink own idx y ∈ tG)
    (isC : List Nat) (ws2 : U → va_W) (hdg : decode cc pc = .ok (.invokevirtual idx, 3)) (hC : isC.map (fun i => ws[i]?) = wc.map some) (hnd : va_nd isC = true) (hf : ∀ u, (Wd u).map (·.1) = wc.map (·.1)) (hws : ∀ u, putAt ws isC (Wd u) = ws2 u) (hrv : wc[0]? = some (b, .inr (ci, fs))) (hcl : vwCl[ci]? = some (CC, T, N)) (hn : As.length = n) (hcat : (rest.map fun v => v.category).sum ≤ 8)
    (hR : rm.frames + 1 ≤ R.frames ∧ 8 + (nLy + 11) + rm.locals ≤ R.locals) (hrc : rm.cells = 0) (hrs : rm.slots = 0) (hcs : cells ≤ R.cells ∧ slots ≤ R.slots) (hstk : As.reverse ++ .ref b :: rest = stk)
    (kk : ∀ r, g = some r → V x R cells slots Q nL (Imu d A x.s.heap) (k r = some z) (pc + 3) (ws2 r.2) lv (.int r.1 :: rest)) : V x R cells slots Q nL (Imu d A x.s.heap) (g.bind k = some z) pc ws lv stk := by
  intro h H locs ls hI hl
  cases hg : g with
  | none => rw [hg] at h; cases h
  | some r =>
    rw [hg] at h
    have hPc := subP (C.2.2.2.2.2.2 ws H locs hI) hC
    have hDc := hI.2.1.sub isC hnd hC
    have hFc := va_free hI.2.1 hI.2.2.1 hI.2.2.2 isC hC
    refine W_mu (r := some (.int r.1)) (va_runV (As := As) (rest := rest) ⟨C.1, C.2.1, C.2.2.1, C.2.2.2.1, C.2.2.2.2.1⟩ (hM r hg H.size) (calW C.2.2.2.2.1 Y hlink hR hrc hrs) ⟨Pc_blindW, va_recv C.2.2.2.2.2.1.1 hPc hcl hrv, fun U hU hW => ⟨rfl, by rw [hU], by rw [hU]; exact hPc, C.2.2.2.2.2.1.warm hW, hDc.weaken (fun _ _ _ _ => trivial)⟩⟩ rfl hn hl.1 hstk.symm (lv_room hcat) hdg hcs) (fun H1 L hP1 hz hk hL => ?_)
    · have hj := putAt_P hI.1 hI.2.1 hC (hf r.2) hk hP1
      rw [hws] at hj
      refine kk r hg h H1 (locs ++ L) ls ⟨hj.1, hj.2, ⟨Nat.le_trans hI.2.2.1.1 hz, fun q h1 h2 => ?_, fun q hq => ?_⟩, hI.2.2.2⟩ hl
      · rw [hk q (Nat.lt_of_lt_of_le h1 hI.2.2.1.1) (fun h9 => h2 (hFc q h9))]
        exact hI.2.2.1.2.1 q h1 h2
      · rcases List.mem_append.mp hq with h9 | h9
        · exact hI.2.2.1.2.2 q h9
        · exact hFc _ (hL q h9)
/-- .. with a fixed answer (none, or a reference) -/
theorem V_callWv {A : Nat → Prop} (C : Cx x cc nL own d (Imu d A x.s.heap)) {U : Type} {rv : Option Value} {g : Option U} {k : U → Option Z} {Wd : U → va_W} (hM : ∀ r, g = some r → CtW x.2.1 d y cy nLy ret rm (.ref b :: As) wc (Wd r) rv) (Y : CalV y cy nLy ret CC n) (hlink : Cond.methodLink own idx y ∈ tG)
    (isC : List Nat) (ws2 : U → va_W) (hdg : decode cc pc = .ok (.invokevirtual idx, 3)) (hC : isC.map (fun i => ws[i]?) = wc.map some) (hnd : va_nd isC = true) (hf : ∀ u, (Wd u).map (·.1) = wc.map (·.1)) (hws : ∀ u, putAt ws isC (Wd u) = ws2 u) (hrv : wc[0]? = some (b, .inr (ci, fs))) (hcl : vwCl[ci]? = some (CC, T, N)) (hn : As.length = n) (hcat : (rest.map fun v => v.category).sum ≤ 8)
    (hR : rm.frames + 1 ≤ R.frames ∧ 8 + (nLy + 11) + rm.locals ≤ R.locals) (hrc : rm.cells = 0) (hrs : rm.slots = 0) (hcs : cells ≤ R.cells ∧ slots ≤ R.slots) (hstk : As.reverse ++ .ref b :: rest = stk)
    (kk : ∀ r, g = some r → V x R cells slots Q nL (Imu d A x.s.heap) (k r = some z) (pc + 3) (ws2 r) lv (rv.toList ++ rest)) : V x R cells slots Q nL (Imu d A x.s.heap) (g.bind k = some z) pc ws lv stk := by
  intro h H locs ls hI hl
  cases hg : g with
  | none => rw [hg] at h; cases h
  | some r =>
    rw [hg] at h
    have hPc := subP (C.2.2.2.2.2.2 ws H locs hI) hC
    have hDc := hI.2.1.sub isC hnd hC
    have hFc := va_free hI.2.1 hI.2.2.1 hI.2.2.2 isC hC
    refine W_mu (r := rv) (va_runV (As := As) (rest := rest) ⟨C.1, C.2.1, C.2.2.1, C.2.2.2.1, C.2.2.2.2.1⟩ (hM r hg H.size) (calW C.2.2.2.2.1 Y hlink hR hrc hrs) ⟨Pc_blindW, va_recv C.2.2.2.2.2.1.1 hPc hcl hrv, fun U hU hW => ⟨rfl, by rw [hU], by rw [hU]; exact hPc, C.2.2.2.2.2.1.warm hW, hDc.weaken (fun _ _ _ _ => trivial)⟩⟩ rfl hn hl.1 hstk.symm (lv_room hcat) hdg hcs) (fun H1 L hP1 hz hk hL => ?_)
    · have hj := putAt_P hI.1 hI.2.1 hC (hf r) hk hP1
      rw [hws] at hj
      refine kk r hg h H1 (locs ++ L) ls ⟨hj.1, hj.2, ⟨Nat.le_trans hI.2.2.1.1 hz, fun q h1 h2 => ?_, fun q hq => ?_⟩, hI.2.2.2⟩ hl
      · rw [hk q (Nat.lt_of_lt_of_le h1 hI.2.2.1.1) (fun h9 => h2 (hFc q h9))]
        exact hI.2.2.1.2.1 q h1 h2
      · rcases List.mem_append.mp hq with h9 | h9
        · exact hI.2.2.1.2.2 q h9
        · exact hFc _ (hL q h9)
/-- a static method that only reads, with an int as answer -/
theorem V_callSi (C : Cx x cc nL own d I) {g : Option Int32} {k : Int32 → Option Z} (hM : ∀ r, g = some r → CtR x.2.1 d y cy nLy ret rm As wc (some (.int r))) (Y : CalS y cy nLy ret n) (hlink : Cond.methodLink own idx y ∈ tG)
    (isC : List Nat) (hdg : decode cc pc = .ok (.invokestatic idx, 3)) (hC : isC.map (fun i => ws[i]?) = wc.map some) (hn : As.length = n) (hcat : (rest.map fun v => v.category).sum ≤ 8)
    (hR : rm.frames + 1 ≤ R.frames ∧ 8 + (nLy + 11) + rm.locals ≤ R.locals) (hrc : rm.cells = 0) (hrs : rm.slots = 0) (hcs : cells ≤ R.cells ∧ slots ≤ R.slots) (hstk : As.reverse ++ rest = stk)
    (kk : ∀ r, g = some r → V x R cells slots Q nL I (k r = some z) (pc + 3) ws lv (.int r :: rest)) : V x R cells slots Q nL I (g.bind k = some z) pc ws lv stk := by
  intro h H locs ls hI hl
  cases hg : g with
  | none => rw [hg] at h; cases h
  | some r =>
    rw [hg] at h
    have hPc := subP (C.2.2.2.2.2.2 ws H locs hI) hC
    exact W_ro (r := some (.int r)) (va_runS (As := As) (rest := rest) ⟨C.1, C.2.1, C.2.2.1, C.2.2.2.1, C.2.2.2.2.1⟩ (hM r hg)
      ⟨callB_of n C.2.2.2.2.1 (fun w hw => goodY Y.2.2.1 hw) rfl hrc hrs (C.2.2.2.2.1 _ Y.2.1) (C.2.2.2.2.1 _ hlink) Y.2.2.2 hR, C.2.2.2.2.1 _ Y.1⟩
      ⟨Pc_blindR, fun U hU hW => ⟨rfl, by rw [hU]; exact hPc, C.2.2.2.2.2.1.warm hW⟩⟩ rfl hn hl.1 hstk.symm (lv_room hcat) hdg hcs) (kk r hg h H locs ls hI hl)
/-- .. a nest mate's own one -/
theorem V_callNi (C : Cx x cc nL own d I) {host : String} {g : Option Int32} {k : Int32 → Option Z} (hM : ∀ r, g = some r → CtR x.2.1 d y cy nLy ret rm As wc (some (.int r))) (Y : CalS y cy nLy ret n) (hlink : Cond.methodLinkNest own idx y host ∈ nestW)
    (isC : List Nat) (hdg : decode cc pc = .ok (.invokestatic idx, 3)) (hC : isC.map (fun i => ws[i]?) = wc.map some) (hn : As.length = n) (hcat : (rest.map fun v => v.category).sum ≤ 8)
    (hR : rm.frames + 1 ≤ R.frames ∧ 8 + (nLy + 11) + rm.locals ≤ R.locals) (hrc : rm.cells = 0) (hrs : rm.slots = 0) (hcs : cells ≤ R.cells ∧ slots ≤ R.slots) (hstk : As.reverse ++ rest = stk)
    (kk : ∀ r, g = some r → V x R cells slots Q nL I (k r = some z) (pc + 3) ws lv (.int r :: rest)) : V x R cells slots Q nL I (g.bind k = some z) pc ws lv stk := by
  intro h H locs ls hI hl
  cases hg : g with
  | none => rw [hg] at h; cases h
  | some r =>
    rw [hg] at h
    have hPc := subP (C.2.2.2.2.2.2 ws H locs hI) hC
    exact W_ro (r := some (.int r)) (va_runSN (As := As) (rest := rest) ⟨C.1, C.2.1, C.2.2.1, C.2.2.2.1, C.2.2.2.2.1⟩ (hM r hg)
      ⟨va_cnB n C.2.2.2.2.1 (fun w hw => goodY Y.2.2.1 hw) rfl hrc hrs (C.2.2.2.2.2.1.2 _ hlink) (C.2.2.2.2.1 _ Y.2.1) Y.2.2.2 hR, C.2.2.2.2.1 _ Y.1, trivial⟩
      ⟨Pc_blindR, fun U hU hW => ⟨rfl, by rw [hU]; exact hPc, C.2.2.2.2.2.1.warm hW⟩⟩ rfl hn hl.1 hstk.symm (lv_room hcat) hdg hcs) (kk r hg h H locs ls hI hl)
/-- a static method that writes, without an answer -/
theorem V_callSv {A : Nat → Prop} (C : Cx x cc nL own d (Imu d A x.s.heap)) {U : Type} {g : Option U} {k : U → Option Z} {Wd : U → va_W} (hM : ∀ r, g = some r → CtW x.2.1 d y cy nLy ret rm As wc (Wd r) none) (Y : CalS y cy nLy ret n) (hlink : Cond.methodLink own idx y ∈ tG)
    (isC : List Nat) (ws2 : U → va_W) (hdg : decode cc pc = .ok (.invokestatic idx, 3)) (hC : isC.map (fun i => ws[i]?) = wc.map some) (hnd : va_nd isC = true) (hf : ∀ u, (Wd u).map (·.1) = wc.map (·.1)) (hws : ∀ u, putAt ws isC (Wd u) = ws2 u) (hn : As.length = n) (hcat : (rest.map fun v => v.category).sum ≤ 8)
    (hR : rm.frames + 1 ≤ R.frames ∧ 8 + (nLy + 11) + rm.locals ≤ R.locals) (hrc : rm.cells = 0) (hrs : rm.slots = 0) (hcs : cells ≤ R.cells ∧ slots ≤ R.slots) (hstk : As.reverse ++ rest = stk)
    (kk : ∀ r, g = some r → V x R cells slots Q nL (Imu d A x.s.heap) (k r = some z) (pc + 3) (ws2 r) lv rest) : V x R cells slots Q nL (Imu d A x.s.heap) (g.bind k = some z) pc ws lv stk := by
  intro h H locs ls hI hl
  cases hg : g with
  | none => rw [hg] at h; cases h
  | some r =>
    rw [hg] at h
    have hPc := subP (C.2.2.2.2.2.2 ws H locs hI) hC
    have hDc := hI.2.1.sub isC hnd hC
    have hFc := va_free hI.2.1 hI.2.2.1 hI.2.2.2 isC hC
    refine W_mu (r := none) (va_runS (As := As) (rest := rest) ⟨C.1, C.2.1, C.2.2.1, C.2.2.2.1, C.2.2.2.2.1⟩ (hM r hg H.size)
      ⟨callB_of n C.2.2.2.2.1 (fun w hw => goodY Y.2.2.1 hw) rfl hrc hrs (C.2.2.2.2.1 _ Y.2.1) (C.2.2.2.2.1 _ hlink) Y.2.2.2 hR, C.2.2.2.2.1 _ Y.1⟩
      ⟨Pc_blindW, fun U hU hW => ⟨rfl, by rw [hU], by rw [hU]; exact hPc, C.2.2.2.2.2.1.warm hW, hDc.weaken (fun _ _ _ _ => trivial)⟩⟩ rfl hn hl.1 hstk.symm (lv_room hcat) hdg hcs) (fun H1 L hP1 hz hk hL => ?_)
    have hj := putAt_P hI.1 hI.2.1 hC (hf r) hk hP1
    rw [hws] at hj
    refine kk r hg h H1 (locs ++ L) ls ⟨hj.1, hj.2, ⟨Nat.le_trans hI.2.2.1.1 hz, fun q h1 h2 => ?_, fun q hq => ?_⟩, hI.2.2.2⟩ hl
    · rw [hk q (Nat.lt_of_lt_of_le h1 hI.2.2.1.1) (fun h9 => h2 (hFc q h9))]
      exact hI.2.2.1.2.1 q h1 h2
    · rcases List.mem_append.mp hq with h9 | h9
      · exact hI.2.2.1.2.2 q h9
      · exact hFc _ (hL q h9)
end VCALLS
section VWRITES
variable {x : Am} {R : Room} {cells slots : Nat} {Q : State → Prop} {nL : Nat} {pc : Nat} {ws ws' : va_W} {lv : List (Option Value)} {rest stk : List Value} {cc : ByteArray} {own : String} {d : Dt} {A : Nat → Prop} {hyp : Prop}
theorem V_putI (C : Cx x cc nL own d (Imu d A x.s.heap)) {ci : Nat} {CC : String} {T : u_T} {N : Nat} {ty : Nat → FieldType} (F : Fld ci CC T N ty) (q0 k : Nat) {idx a : Nat} {fs : List Value} {v : Int32} (hlink : Cond.fieldLink own idx (T k).1 (T k).2.1 (T k).2.2.1 ∈ tG) (hk : k < N) (he : ws[q0]? = some (a, .inr (ci, fs))) (hfin : (T k).2.2.2 = false) (hty : ty k = .int) (hl : k < fs.length) (hws : ws.set q0 (a, .inr (ci, fs.set k (.int v))) = ws') (hdg : decode cc pc = .ok (.putfield idx, 3))
    (kk : V x R cells slots Q nL (Imu d A x.s.heap) hyp (pc + 3) ws' lv rest) : V x R cells slots Q nL (Imu d A x.s.heap) hyp pc ws lv (.int v :: .ref a :: rest) := by
  intro h H locs ls hI hl'
  subst hws
  exact va_put (D := d.1) (ty := .int) C.1 C.2.1 C.2.2.2.2.1 F.2.1 ty F.2.2.1 F.2.2.2 C.2.2.2.1 C.2.2.2.2.2.1.1 hI.1 hI.2.1 hI.2.2.1 q0 he F.1 k hk (C.2.2.2.2.1 _ hlink) (fun _ h9 => h9) hfin (by rw [F.2.2.1 k hk, hty]) rfl rfl hl hdg (fun H1 locs1 hP hD hS => kk h H1 locs1 ls ⟨hP, hD, hS, hI.2.2.2⟩ hl')
theorem V_putZ (C : Cx x cc nL own d (Imu d A x.s.heap)) {Z : Type} {z : Z} {B : Option Z} {ci : Nat} {CC : String} {T : u_T} {N : Nat} {ty : Nat → FieldType} (F : Fld ci CC T N ty) (q0 k : Nat) {idx a : Nat} {fs : List Value} {v : Int32} (hlink : Cond.fieldLink own idx (T k).1 (T k).2.1 (T k).2.2.1 ∈ tG) (hk : k < N) (he : ws[q0]? = some (a, .inr (ci, fs))) (hfin : (T k).2.2.2 = false) (hty : ty k = .boolean) (hl : k < fs.length) (hws : ws.set q0 (a, .inr (ci, fs.set k (.int v))) = ws') (hdg : decode cc pc = .ok (.putfield idx, 3))
    (kk : V x R cells slots Q nL (Imu d A x.s.heap) (B = some z) (pc + 3) ws' lv rest) : V x R cells slots Q nL (Imu d A x.s.heap) ((if jbool v = true then B else none) = some z) pc ws lv (.int v :: .ref a :: rest) := by
  intro h H locs ls hI hl'
  by_cases q : jbool v = true
  · subst hws
    have hv := jbool_or q
    exact va_put (D := d.1) (ty := .boolean) C.1 C.2.1 C.2.2.2.2.1 F.2.1 ty F.2.2.1 F.2.2.2 C.2.2.2.1 C.2.2.2.2.2.1.1 hI.1 hI.2.1 hI.2.2.1 q0 he F.1 k hk (C.2.2.2.2.1 _ hlink) (fun _ h9 => h9) hfin (by rw [F.2.2.1 k hk, hty]) (by rcases hv with rfl | rfl <;> rfl) (by rcases hv with rfl | rfl <;> rfl) hl hdg (fun H1 locs1 hP hD hS => kk (ite_t q h) H1 locs1 ls ⟨hP, hD, hS, hI.2.2.2⟩ hl')
  · rw [if_neg q] at h; cases h
theorem V_iast (C : Cx x cc nL own d (Imu d A x.s.heap)) (q0 : Nat) {Z : Type} {z : Z} {B : Option Z} {a n : Nat} {f : Nat → Int32} {i v : Int32} (ha : ws[q0]? = some (a, .inl (d.2.1, n, .inl f))) (hws : ws.set q0 (a, .inl (d.2.1, n, .inl (upd f i.toNatClampNeg v))) = ws') (hdg : decode cc pc = .ok (.iastore, 1))
    (kk : V x R cells slots Q nL (Imu d A x.s.heap) (B = some z) (pc + 1) ws' lv rest) : V x R cells slots Q nL (Imu d A x.s.heap) ((if inb i n = true then B else none) = some z) pc ws lv (.int v :: .int i :: .ref a :: rest) := by
  intro h H locs ls hI hl
  by_cases q : inb i n = true
  · subst hws
    exact va_iast (D := d.1) C.1 C.2.1 C.2.2.2.2.2.1.1 hI.1 hI.2.1 hI.2.2.1 q0 0 ha rfl (inb_in q) hdg (fun H1 locs1 hP hD hS => kk (ite_t q h) H1 locs1 ls ⟨hP, hD, hS, hI.2.2.2⟩ hl)
  · rw [if_neg q] at h; cases h
theorem V_cast (C : Cx x cc nL own d (Imu d A x.s.heap)) (q0 : Nat) {Z : Type} {z : Z} {B : Option Z} {a n : Nat} {f : Nat → Int32} {i v : Int32} (ha : ws[q0]? = some (a, .inl (d.2.2.1, n, .inl f))) (hws : ws.set q0 (a, .inl (d.2.2.1, n, .inl (upd f i.toNatClampNeg (vp_nar .char v)))) = ws') (hdg : decode cc pc = .ok (.castore, 1))
    (kk : V x R cells slots Q nL (Imu d A x.s.heap) (B = some z) (pc + 1) ws' lv rest) : V x R cells slots Q nL (Imu d A x.s.heap) ((if inb i n = true then B else none) = some z) pc ws lv (.int v :: .int i :: .ref a :: rest) := by
  intro h H locs ls hI hl
  by_cases q : inb i n = true
  · subst hws
    exact va_cast (D := d.1) C.1 C.2.1 C.2.2.2.2.2.1.1 hI.1 hI.2.1 hI.2.2.1 q0 1 ha rfl (inb_in q) hdg (fun H1 locs1 hP hD hS => kk (ite_t q h) H1 locs1 ls ⟨hP, hD, hS, hI.2.2.2⟩ hl)
  · rw [if_neg q] at h; cases h
end VWRITES
section VRETS
variable {x : Am} {R : Room} {nL : Nat} {pc : Nat} {ws : va_W} {lv : List (Option Value)} {cc : ByteArray} {own : String} {d : Dt} {A : Nat → Prop}
theorem V_iretR {z r : Int32} (C : Cx x cc nL own d (Iro d x.s.heap)) (hr : x.meth.sig.returnType = some .int) (hlk : x.meth.locks = false) (hdg : decode cc pc = .ok (.ireturn, 1)) : V x R 0 0 (MQ x.below (QR (some (.int z))) x.args x.s 0 0 (fun _ => False)) nL (Iro d x.s.heap) (some r = some z) pc ws lv [.int r] := by
  intro h H locs ls hI hl
  cases h
  exact W.iret C.1 C.2.1 hr (fun t ht _ => ⟨rfl, by rw [ht, hI.1]⟩) (fun q hq => by rw [hI.2.1] at hq; cases hq) hdg hlk
theorem V_zretR {z r : Int32} (C : Cx x cc nL own d (Iro d x.s.heap)) (hr : x.meth.sig.returnType = some .boolean) (hlk : x.meth.locks = false) (hdg : decode cc pc = .ok (.ireturn, 1)) : V x R 0 0 (MQ x.below (QR (some (.int z))) x.args x.s 0 0 (fun _ => False)) nL (Iro d x.s.heap) ((if jbool r = true then some r else none) = some z) pc ws lv [.int r] := by
  intro h H locs ls hI hl
  by_cases q : jbool r = true
  · have h2 := ite_t q h
    cases h2
    exact W.zret C.1 C.2.1 hr (by rcases jbool_or q with rfl | rfl <;> rfl) (fun t ht _ => ⟨rfl, by rw [ht, hI.1]⟩) (fun q hq => by rw [hI.2.1] at hq; cases hq) hdg hlk
  · rw [if_neg q] at h; cases h
theorem V_iretW {U : Type} {Wd : U → va_W} {r : Int32} {u : U} {z : Int32 × U} (C : Cx x cc nL own d (Imu d A x.s.heap)) (hr : x.meth.sig.returnType = some .int) (hlk : x.meth.locks = false) (hdg : decode cc pc = .ok (.ireturn, 1)) (hw : Wd u = ws) : V x R 0 0 (MQ x.below (QW d A (Wd z.2) (some (.int z.1))) x.args x.s 0 0 A) nL (Imu d A x.s.heap) (some (r, u) = some z) pc ws lv [.int r] := by
  intro h H locs ls hI hl
  cases h
  exact W.iret C.1 C.2.1 hr (fun t ht _ => ⟨rfl, by rw [ht, hw]; exact hI.1, hI.2.2.1.F ht⟩) hI.2.2.1.2.2 hdg hlk
theorem V_zretW {U : Type} {Wd : U → va_W} {r : Int32} {u : U} {z : Int32 × U} (C : Cx x cc nL own d (Imu d A x.s.heap)) (hr : x.meth.sig.returnType = some .boolean) (hlk : x.meth.locks = false) (hdg : decode cc pc = .ok (.ireturn, 1)) (hw : Wd u = ws) : V x R 0 0 (MQ x.below (QW d A (Wd z.2) (some (.int z.1))) x.args x.s 0 0 A) nL (Imu d A x.s.heap) ((if jbool r = true then some (r, u) else none) = some z) pc ws lv [.int r] := by
  intro h H locs ls hI hl
  by_cases q : jbool r = true
  · have h2 := ite_t q h
    cases h2
    exact W.zret C.1 C.2.1 hr (by rcases jbool_or q with rfl | rfl <;> rfl) (fun t ht _ => ⟨rfl, by rw [ht, hw]; exact hI.1, hI.2.2.1.F ht⟩) hI.2.2.1.2.2 hdg hlk
  · rw [if_neg q] at h; cases h
theorem V_aretW {U : Type} {Wd : U → va_W} {q : Nat} {u w : U} {rt : FieldType} (C : Cx x cc nL own d (Imu d A x.s.heap)) (hr : x.meth.sig.returnType = some rt) (hrt : (∃ n, rt = .object n) ∨ ∃ t, rt = .array t) (hlk : x.meth.locks = false) (hdg : decode cc pc = .ok (.areturn, 1)) (hw : Wd u = ws) : V x R 0 0 (MQ x.below (QW d A (Wd w) (some (.ref q))) x.args x.s 0 0 A) nL (Imu d A x.s.heap) (some u = some w) pc ws lv [.ref q] := by
  intro h H locs ls hI hl
  cases h
  exact W.aret C.1 C.2.1 hr hrt (Or.inr ⟨q, rfl⟩) (fun t ht _ => ⟨rfl, by rw [ht, hw]; exact hI.1, hI.2.2.1.F ht⟩) hI.2.2.1.2.2 hdg hlk
theorem V_vretW {U : Type} {Wd : U → va_W} {u w : U} (C : Cx x cc nL own d (Imu d A x.s.heap)) (hr : x.meth.sig.returnType = none) (hlk : x.meth.locks = false) (hdg : decode cc pc = .ok (.return_, 1)) (hw : Wd u = ws) : V x R 0 0 (MQ x.below (QW d A (Wd w) none) x.args x.s 0 0 A) nL (Imu d A x.s.heap) (some u = some w) pc ws lv [] := by
  intro h H locs ls hI hl
  cases h
  exact W.vret C.1 C.2.1 hr (fun t ht _ => ⟨rfl, by rw [ht, hw]; exact hI.1, hI.2.2.1.F ht⟩) hI.2.2.1.2.2 hdg hlk
end VRETS
