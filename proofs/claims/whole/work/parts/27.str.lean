/-! ===== texts: the eight constants of Orders ===== -/
abbrev Sg : Type := (Nat → Nat) × (Nat → Nat)
def stL : List Nat := [4, 3, 5, 5, 4, 5, 4, 5]
def stB : List (List Int32) := [[108, 105, 102, 116], [108, 97, 121], [119, 101, 105, 103, 104], [114, 105, 103, 104, 116], [108, 101, 102, 116], [109, 111, 117, 110, 116], [116, 97, 107, 101], [115, 101, 114, 118, 101]]
def stT : List String := ["lift", "lay", "weigh", "right", "left", "mount", "take", "serve"]
def SF (σ : Sg) (A : Nat → Prop) (U : State) (H : Heap) : Prop :=
  (∀ i : Nat, i < 8 → vk_R RX3 (124 + 2 * i) (stT.getD i "") (σ.1 i) U) ∧ vk_S 8 stL stB σ.1 σ.2 A U H ∧ va_Z "java/lang/String" "COMPACT_STRINGS" "Z" (.int 1) A U H ∧ va_Zq "jdk/internal/util/Preconditions" "SIOOBE_FORMATTER" "Ljava/util/function/BiFunction;" A U H
theorem SF.at {σ : Sg} {A : Nat → Prop} {s U : State} {H : Heap} {locs : List Loc} (h : SF σ A s s.heap) (hS : va_S A s.heap H locs) (hU : U.heap = H) (hW : s.WarmedH U.vm) : SF σ (fun _ => False) U U.heap := by
  rw [hU]
  exact ⟨fun i hi => vk_R.warm hW (h.1 i hi), vk_S.moved hW.alike (vk_S.narrow (vk_S.kept h.2.1 hS.2.1) (fun _ q => q.elim)), va_Z.moved hW.alike (va_Z.narrow (va_Z.kept h.2.2.1 hS.2.1) (fun _ q => q.elim)), va_Zq.moved hW.alike (va_Zq.narrow (va_Zq.kept h.2.2.2 hS.2.1) (fun _ q => q.elim))⟩
theorem SF.sub {σ : Sg} {A B : Nat → Prop} {s U : State} {H : Heap} {locs : List Loc} (h : SF σ A s s.heap) (hS : va_S A s.heap H locs) (hU : U.heap = H) (hW : s.WarmedH U.vm) (hB : ∀ q, B q → A q) : SF σ B U U.heap := by
  rw [hU]
  exact ⟨fun i hi => vk_R.warm hW (h.1 i hi), vk_S.moved hW.alike (vk_S.narrow (vk_S.kept h.2.1 hS.2.1) hB), va_Z.moved hW.alike (va_Z.narrow (va_Z.kept h.2.2.1 hS.2.1) hB), va_Zq.moved hW.alike (va_Zq.narrow (va_Zq.kept h.2.2.2 hS.2.1) hB)⟩
theorem SF.calling {σ : Sg} {A : Nat → Prop} {U : State} {H : Heap} (g : JFrame) (mk : MethodId) (a : Array Value) (h : SF σ A U H) : SF σ A (U.calling g mk a) H :=
  ⟨fun i hi => vk_R.same (u := U) (U := U.calling g mk a) rfl (h.1 i hi), vk_S.moved (U := U.calling g mk a) (Vm.Alike.refl U.vm) h.2.1, va_Z.moved (U := U.calling g mk a) (Vm.Alike.refl U.vm) h.2.2.1, va_Zq.moved (U := U.calling g mk a) (Vm.Alike.refl U.vm) h.2.2.2⟩
/-- a method that only reads, beside the texts -/
def CtS (l : Launch) (d : Dt) (σ : Sg) (y : MethodName) (cc : ByteArray) (nL : Nat) (ret : Option FieldType) (rm : Room) (av : List Value) (ws : va_W) (r : Option Value) : Prop :=
  Met l y (Cond.code y cc nL ret :: tG) rm (va_Pc av (fun U => va_P d.1 vwCl ws U.heap ∧ KX d U ∧ SF σ (fun _ => False) U U.heap)) (QR r) 0 0 (fun _ => False)
/-- a method that writes, beside the texts -/
def CtV (l : Launch) (d : Dt) (σ : Sg) (y : MethodName) (cc : ByteArray) (nL : Nat) (ret : Option FieldType) (rm : Room) (av : List Value) (ws ws' : va_W) (r : Option Value) : Prop :=
  ∀ sz : Nat, Met l y (Cond.code y cc nL ret :: tG) rm (va_Pc av (fun U => U.heap.size = sz ∧ va_P d.1 vwCl ws U.heap ∧ KX d U ∧ va_D (fun _ => True) ws ∧ SF σ (va_A ws sz) U U.heap)) (QW d (va_A ws sz) ws' r) 0 0 (va_A ws sz)
theorem CtS.start {l : Launch} {d : Dt} {σ : Sg} {y : MethodName} {cc : ByteArray} {nL : Nat} {ret : Option FieldType} {rm : Room} {av : List Value} {ws : va_W} {r : Option Value} (hy : plainName y.cls = true) (hlen : (lg_sl av).length ≤ nL) (hc : ∀ v ∈ av, v.category = 1)
    (lv0 : List (Option Value)) (hl0 : av.map some ++ List.replicate (nL - av.length) (none : Option Value) = lv0)
    (body : ∀ x : Am, Cx x cc nL y.cls d (Iro d x.s.heap) → x.meth.sig.returnType = ret → x.meth.locks = false → SF σ (fun _ => False) x.s x.s.heap → V x rm 0 0 (MQ x.below (QR r) x.args x.s 0 0 (fun _ => False)) nL (Iro d x.s.heap) True 0 ws lv0 []) : CtS l d σ y cc nL ret rm av ws r := by
  refine Met.ofW (cc := cc) (maxL := nL) (ret := ret) hy rfl ?_
  intro p e s m args below meth c s₁ B hml hv
  obtain ⟨rfl, hP, hK, hσ⟩ := hv
  have hts := atoms_spec (ws := Cond.code y cc nL ret :: tG) B.pre
  have C : Cx (p, l, e, s, m, av.toArray, below, meth, c) cc nL y.cls d (Iro d s.heap) :=
    ⟨B.exec, B.bytes, hml, findClass_of_methodNamed B.named, fun w hw => hts w (List.mem_cons_of_mem _ hw), hK, fun ws H locs h => h.2.2⟩
  have hl := lv_entry av (n := nL) hlen
  rw [lg_entry_eq]
  exact body (p, l, e, s, m, av.toArray, below, meth, c) C B.returns B.notSynchronized hσ trivial s.heap [] _ ⟨rfl, rfl, hP⟩ (LH.entry hl hc (fun i v h => lv0_at (by rw [hl0]; exact h)))
theorem CtV.start {l : Launch} {d : Dt} {σ : Sg} {y : MethodName} {cc : ByteArray} {nL : Nat} {ret : Option FieldType} {rm : Room} {av : List Value} {ws ws' : va_W} {r : Option Value} (hy : plainName y.cls = true) (hlen : (lg_sl av).length ≤ nL) (hc : ∀ v ∈ av, v.category = 1)
    (lv0 : List (Option Value)) (hl0 : av.map some ++ List.replicate (nL - av.length) (none : Option Value) = lv0)
    (body : ∀ (x : Am) (A : Nat → Prop), Cx x cc nL y.cls d (Imu d A x.s.heap) → x.meth.sig.returnType = ret → x.meth.locks = false → SF σ A x.s x.s.heap → V x rm 0 0 (MQ x.below (QW d A ws' r) x.args x.s 0 0 A) nL (Imu d A x.s.heap) True 0 ws lv0 []) : CtV l d σ y cc nL ret rm av ws ws' r := by
  intro sz
  refine Met.ofW (cc := cc) (maxL := nL) (ret := ret) hy rfl ?_
  intro p e s m args below meth c s₁ B hml hv
  obtain ⟨rfl, hsz, hP, hK, hD, hσ⟩ := hv
  have hts := atoms_spec (ws := Cond.code y cc nL ret :: tG) B.pre
  have C : Cx (p, l, e, s, m, av.toArray, below, meth, c) cc nL y.cls d (Imu d (va_A ws sz) s.heap) :=
    ⟨B.exec, B.bytes, hml, findClass_of_methodNamed B.named, fun w hw => hts w (List.mem_cons_of_mem _ hw), hK, fun ws H locs h => h.1⟩
  have hl := lv_entry av (n := nL) hlen
  rw [lg_entry_eq]
  exact body (p, l, e, s, m, av.toArray, below, meth, c) (va_A ws sz) C B.returns B.notSynchronized hσ trivial s.heap [] _ ⟨hP, hD.self, va_S.rf, fun q hq => Or.inr (by rw [← hsz]; exact hq)⟩ (LH.entry hl hc (fun i v h => lv0_at (by rw [hl0]; exact h)))
theorem Pc_blindS {d : Dt} {σ : Sg} {av : List Value} {ws : va_W} : FrameBlind (va_Pc av (fun U => va_P d.1 vwCl ws U.heap ∧ KX d U ∧ SF σ (fun _ => False) U U.heap)) := fun a U g mk q => ⟨q.1, q.2.1, q.2.2.1.calling g mk a, q.2.2.2.calling g mk a⟩
theorem Pc_blindV {d : Dt} {σ : Sg} {av : List Value} {ws : va_W} {sz : Nat} : FrameBlind (va_Pc av (fun U => U.heap.size = sz ∧ va_P d.1 vwCl ws U.heap ∧ KX d U ∧ va_D (fun _ => True) ws ∧ SF σ (va_A ws sz) U U.heap)) := fun a U g mk q => ⟨q.1, q.2.1, q.2.2.1, q.2.2.2.1.calling g mk a, q.2.2.2.2.1, q.2.2.2.2.2.calling g mk a⟩
/-- nothing was written outside A -/
def IvS (x : Am) (A : Nat → Prop) (I : Iv) : Prop := ∀ ws H locs, I ws H locs → va_S A x.s.heap H locs
theorem IvS_ro {x : Am} {d : Dt} : IvS x (fun _ => False) (Iro d x.s.heap) := by
  intro ws H locs h
  rw [h.1, h.2.1]
  exact va_S.rf
theorem IvS_mu {x : Am} {d : Dt} {A : Nat → Prop} : IvS x A (Imu d A x.s.heap) := fun ws H locs h => h.2.2.1
section TEXTS
variable {x : Am} {R : Room} {cells slots : Nat} {Q : State → Prop} {nL : Nat} {I : Iv} {hyp : Prop} {pc : Nat} {ws ws' : va_W} {lv lv' : List (Option Value)} {rest stk : List Value} {cc : ByteArray} {own : String} {d : Dt} {A : Nat → Prop} {σ : Sg}
variable {Z : Type} {z : Z} {y : MethodName} {cy : ByteArray} {nLy n idx b ci : Nat} {ret : Option FieldType} {rm : Room} {CC : String} {T : u_T} {N : Nat} {fs As : List Value} {wc : va_W}
theorem V_gets (C : Cx x cc nL own d I) (hS : IvS x A I) {CF nf df : String} {v : Value} (hZ : va_Z CF nf df v A x.s x.s.heap) (hlink : Cond.fieldLink own idx CF nf df ∈ tG) (hdg : decode cc pc = .ok (.getstatic idx, 3)) (kk : V x R cells slots Q nL I hyp (pc + 3) ws lv (v :: rest)) : V x R cells slots Q nL I hyp pc ws lv rest :=
  fun h H locs ls hI hl => va_gets C.1 C.2.1 hZ (hS ws H locs hI) C.2.2.2.1 (C.2.2.2.2.1 _ hlink) (fun _ h9 => h9) hdg (kk h H locs ls hI hl)
theorem V_getS (C : Cx x cc nL own d I) (hS : IvS x A I) {o nf df : String} {q : Nat} {v : Value} (hE : va_OF o nf df v q A x.s x.s.heap) (hlink : Cond.fieldLink own idx o nf df ∈ tG) (hdg : decode cc pc = .ok (.getfield idx, 3)) (kk : V x R cells slots Q nL I hyp (pc + 3) ws lv (v :: rest)) : V x R cells slots Q nL I hyp pc ws lv (.ref q :: rest) :=
  fun h H locs ls hI hl => vk_getf C.1 C.2.1 hE (hS ws H locs hI) C.2.2.2.1 (C.2.2.2.2.1 _ hlink) (fun _ h9 => h9) hdg (kk h H locs ls hI hl)
theorem V_tlen (C : Cx x cc nL own d I) (hS : IvS x A I) {ty : FieldType} {t N : Nat} {f : Nat → Value} {v : Int32} (hT : va_T ty t N f A x.s x.s.heap) (hv : Int32.ofNat N = v) (hdg : decode cc pc = .ok (.arraylength, 1)) (kk : V x R cells slots Q nL I hyp (pc + 1) ws lv (.int v :: rest)) : V x R cells slots Q nL I hyp pc ws lv (.ref t :: rest) :=
  fun h H locs ls hI hl => va_tlen C.1 C.2.1 hT (hS ws H locs hI) hv hdg (kk h H locs ls hI hl)
theorem V_tb (C : Cx x cc nL own d I) (hS : IvS x A I) {t N : Nat} {f : Nat → Value} {i : Int32} {v : Value} (hT : va_T .byte t N f A x.s x.s.heap) (hin : vp_in i N) (hv : f i.toNatClampNeg = v) (hdg : decode cc pc = .ok (.baload, 1)) (kk : V x R cells slots Q nL I hyp (pc + 1) ws lv (v :: rest)) : V x R cells slots Q nL I hyp pc ws lv (.int i :: .ref t :: rest) :=
  fun h H locs ls hI hl => va_tb C.1 C.2.1 hT (hS ws H locs hI) hin hv hdg (kk h H locs ls hI hl)
theorem V_ishr (C : Cx x cc nL own d I) {a b : Int32} (hdg : decode cc pc = .ok (.ishr, 1)) (k : V x R cells slots Q nL I hyp (pc + 1) ws lv (.int (a >>> (b &&& 31)) :: rest)) : V x R cells slots Q nL I hyp pc ws lv (.int b :: .int a :: rest) :=
  fun h H locs ls hI hl => lv_ishr C.1 C.2.1 hdg (k h H locs ls hI hl)
theorem V_ldcS (C : Cx x cc nL own d I) {tx : String} {q : Nat} (hZ : vk_R own idx tx q x.s) (hdg : decode cc pc = .ok (.ldc idx, 2)) (k : V x R cells slots Q nL I hyp (pc + 2) ws lv (.ref q :: rest)) : V x R cells slots Q nL I hyp pc ws lv rest :=
  fun h H locs ls hI hl => va_ldcS C.1 C.2.1 C.2.2.2.1 hZ hdg (k h H locs ls hI hl)
theorem V_aload_nv (C : Cx x cc nL own d I) {k0 : Fin 4} {v : Value} (i : Nat) (hv : v = .null ∨ ∃ q : Nat, v = .ref q) (hdg : decode cc pc = .ok (.aload_n k0, 1)) (hi : (k0 : Nat) = i) (hy : lv[i]? = some (some v)) (hk : V x R cells slots Q nL I hyp (pc + 1) ws lv (v :: rest)) : V x R cells slots Q nL I hyp pc ws lv rest := by
  rcases hv with rfl | ⟨q, rfl⟩
  · intro h H locs ls hI hl
    subst hi
    intro T hT X
    obtain ⟨t, a, b⟩ := hk h H locs ls hI hl T hT X
    refine ⟨t, ?_, b⟩
    jvm_step X.here [X.here.top, C.1, C.2.1, hdg, hl.at hy]
    exact ⟨rfl, a⟩
  · exact V_aload_n C i hdg hi hy hk
theorem V_if_eqc (C : Cx x cc nL own d I) {a : Int32} {off : Int} {tgt : Nat} (hdg : decode cc pc = .ok (.ifCond .eq off, 3)) (ht : (pc : Int) + off = (tgt : Int)) (hc : ¬ a = 0) (kf : V x R cells slots Q nL I hyp (pc + 3) ws lv rest) : V x R cells slots Q nL I hyp pc ws lv (.int a :: rest) :=
  fun h H locs ls hI hl => lv_if_eq C.1 C.2.1 hdg ht (fun q => absurd q hc) (fun _ => kf h H locs ls hI hl)
theorem V_if_nec (C : Cx x cc nL own d I) {a : Int32} {off : Int} {tgt : Nat} (hdg : decode cc pc = .ok (.ifCond .ne off, 3)) (ht : (pc : Int) + off = (tgt : Int)) (hc : a = 0) (kf : V x R cells slots Q nL I hyp (pc + 3) ws lv rest) : V x R cells slots Q nL I hyp pc ws lv (.int a :: rest) :=
  fun h H locs ls hI hl => lv_if_ne C.1 C.2.1 hdg ht (fun q => absurd hc q) (fun _ => kf h H locs ls hI hl)
theorem V_icmp_ltc (C : Cx x cc nL own d I) {a b : Int32} {off : Int} {tgt : Nat} (hdg : decode cc pc = .ok (.if_icmp .lt off, 3)) (ht : (pc : Int) + off = (tgt : Int)) (hc : a < b) (kf : V x R cells slots Q nL I hyp tgt ws lv rest) : V x R cells slots Q nL I hyp pc ws lv (.int b :: .int a :: rest) :=
  fun h H locs ls hI hl => lv_icmp_lt C.1 C.2.1 hdg ht (fun _ => kf h H locs ls hI hl) (fun q => absurd hc q)
theorem V_retX {r : Int32} {rt : FieldType} (C : Cx x cc nL own d (Iro d x.s.heap)) (hr : x.meth.sig.returnType = some rt) (hn : narrow rt (.int r) = .int r) (hlk : x.meth.locks = false) (hdg : decode cc pc = .ok (.ireturn, 1)) : V x R 0 0 (MQ x.below (QR (some (.int r))) x.args x.s 0 0 (fun _ => False)) nL (Iro d x.s.heap) hyp pc ws lv [.int r] :=
  fun h H locs ls hI hl => W.zret C.1 C.2.1 hr hn (fun t ht _ => ⟨rfl, by rw [ht, hI.1]⟩) (fun q hq => by rw [hI.2.1] at hq; cases hq) hdg hlk
theorem V_vretR (C : Cx x cc nL own d (Iro d x.s.heap)) (hr : x.meth.sig.returnType = none) (hlk : x.meth.locks = false) (hdg : decode cc pc = .ok (.return_, 1)) : V x R 0 0 (MQ x.below (QR none) x.args x.s 0 0 (fun _ => False)) nL (Iro d x.s.heap) hyp pc ws lv [] :=
  fun h H locs ls hI hl => W.vret C.1 C.2.1 hr (fun t ht _ => ⟨rfl, by rw [ht, hI.1]⟩) (fun q hq => by rw [hI.2.1] at hq; cases hq) hdg hlk
/-- a call of a static method that only reads, with a fixed answer -/
theorem V_callTs (C : Cx x cc nL own d I) (hS : IvS x A I) (hσ : SF σ A x.s x.s.heap) {rv : Option Value} (hM : CtS x.2.1 d σ y cy nLy ret rm As [] rv) (Y : CalS y cy nLy ret n) (hlink : Cond.methodLink own idx y ∈ tG)
    (hdg : decode cc pc = .ok (.invokestatic idx, 3)) (hn : As.length = n) (hcat : (rest.map fun v => v.category).sum ≤ 8)
    (hR : rm.frames + 1 ≤ R.frames ∧ 8 + (nLy + 11) + rm.locals ≤ R.locals) (hrc : rm.cells = 0) (hrs : rm.slots = 0) (hcs : cells ≤ R.cells ∧ slots ≤ R.slots) (hstk : As.reverse ++ rest = stk)
    (kk : V x R cells slots Q nL I hyp (pc + 3) ws lv (rv.toList ++ rest)) : V x R cells slots Q nL I hyp pc ws lv stk := by
  intro h H locs ls hI hl
  exact W_ro (r := rv) (va_runS (As := As) (rest := rest) ⟨C.1, C.2.1, C.2.2.1, C.2.2.2.1, C.2.2.2.2.1⟩ hM
    ⟨callB_of n C.2.2.2.2.1 (fun w hw => goodY Y.2.2.1 hw) rfl hrc hrs (C.2.2.2.2.1 _ Y.2.1) (C.2.2.2.2.1 _ hlink) Y.2.2.2 hR, C.2.2.2.2.1 _ Y.1⟩
    ⟨Pc_blindS, fun U hU hW => ⟨rfl, fun k q h9 => by simp at h9, C.2.2.2.2.2.1.warm hW, hσ.at (hS ws H locs hI) hU hW⟩⟩ rfl hn hl.1 hstk.symm (lv_room hcat) hdg hcs) (kk h H locs ls hI hl)
/-- .. of an object method of a text -/
theorem V_callTt (C : Cx x cc nL own d I) (hS : IvS x A I) (hσ : SF σ A x.s x.s.heap) {i : Nat} (hi : i < 8) {rv : Option Value} (hM : CtS x.2.1 d σ y cy nLy ret rm (.ref (σ.1 i) :: As) [] rv) (Y : CalV y cy nLy ret RJ0 n) (hlink : Cond.methodLink own idx y ∈ tG)
    (hdg : decode cc pc = .ok (.invokevirtual idx, 3)) (hn : As.length = n) (hcat : (rest.map fun v => v.category).sum ≤ 8)
    (hR : rm.frames + 1 ≤ R.frames ∧ 8 + (nLy + 11) + rm.locals ≤ R.locals) (hrc : rm.cells = 0) (hrs : rm.slots = 0) (hcs : cells ≤ R.cells ∧ slots ≤ R.slots) (hstk : As.reverse ++ .ref (σ.1 i) :: rest = stk)
    (kk : V x R cells slots Q nL I hyp (pc + 3) ws lv (rv.toList ++ rest)) : V x R cells slots Q nL I hyp pc ws lv stk := by
  intro h H locs ls hI hl
  exact W_ro (r := rv) (va_runV (As := As) (rest := rest) ⟨C.1, C.2.1, C.2.2.1, C.2.2.2.1, C.2.2.2.2.1⟩ hM (calW C.2.2.2.2.1 Y hlink hR hrc hrs)
    ⟨Pc_blindS, vk_recv hσ.2.1 hi (hS ws H locs hI), fun U hU hW => ⟨rfl, fun k q h9 => by simp at h9, C.2.2.2.2.2.1.warm hW, hσ.at (hS ws H locs hI) hU hW⟩⟩ rfl hn hl.1 hstk.symm (lv_room hcat) hdg hcs) (kk h H locs ls hI hl)
/-- .. of an object method of ours, beside the texts, with an int as answer -/
theorem V_callTi (C : Cx x cc nL own d I) (hS : IvS x A I) (hσ : SF σ A x.s x.s.heap) {g : Option Int32} {k : Int32 → Option Z} (hM : ∀ r, g = some r → CtS x.2.1 d σ y cy nLy ret rm (.ref b :: As) wc (some (.int r))) (Y : CalV y cy nLy ret CC n) (hlink : Cond.methodLink own idx y ∈ tG)
    (isC : List Nat) (hdg : decode cc pc = .ok (.invokevirtual idx, 3)) (hC : isC.map (fun i => ws[i]?) = wc.map some) (hrv : wc[0]? = some (b, .inr (ci, fs))) (hcl : vwCl[ci]? = some (CC, T, N)) (hn : As.length = n) (hcat : (rest.map fun v => v.category).sum ≤ 8)
    (hR : rm.frames + 1 ≤ R.frames ∧ 8 + (nLy + 11) + rm.locals ≤ R.locals) (hrc : rm.cells = 0) (hrs : rm.slots = 0) (hcs : cells ≤ R.cells ∧ slots ≤ R.slots) (hstk : As.reverse ++ .ref b :: rest = stk)
    (kk : ∀ r, g = some r → V x R cells slots Q nL I (k r = some z) (pc + 3) ws lv (.int r :: rest)) : V x R cells slots Q nL I (g.bind k = some z) pc ws lv stk := by
  intro h H locs ls hI hl
  cases hg : g with
  | none => rw [hg] at h; cases h
  | some r =>
    rw [hg] at h
    have hPc := subP (C.2.2.2.2.2.2 ws H locs hI) hC
    exact W_ro (r := some (.int r)) (va_runV (As := As) (rest := rest) ⟨C.1, C.2.1, C.2.2.1, C.2.2.2.1, C.2.2.2.2.1⟩ (hM r hg) (calW C.2.2.2.2.1 Y hlink hR hrc hrs) ⟨Pc_blindS, va_recv C.2.2.2.2.2.1.1 hPc hcl hrv, fun U hU hW => ⟨rfl, by rw [hU]; exact hPc, C.2.2.2.2.2.1.warm hW, hσ.at (hS ws H locs hI) hU hW⟩⟩ rfl hn hl.1 hstk.symm (lv_room hcat) hdg hcs) (kk r hg h H locs ls hI hl)
end TEXTS
/-! ===== the JDK's own methods ===== -/
theorem ct_coder (l : Launch) (d : Dt) (σ : Sg) (i : Nat) (hi : i < 8) : CtS l d σ yJ0_coder_7d493 cJ0_coder_7d493 1 (some .byte) (rmF 0 0) [.ref (σ.1 i)] [] (some (.int 0)) := by
  refine CtS.start (by decide) (Nat.le_of_ble_eq_true rfl) (by simp [Value.category]) [some (.ref (σ.1 i))] rfl (fun x C hr hlk hσ => ?_)
  refine V_gets C IvS_ro hσ.2.2.1 ks_f38 dJ0_coder_7d493_0 ?_
  refine V_if_eqc (tgt := 13) C dJ0_coder_7d493_3 (by decide) (by decide) ?_
  refine V_aload_n C 0 dJ0_coder_7d493_6 rfl rfl ?_
  refine V_getS C IvS_ro (hσ.2.1.1 i hi).2.1 ks_f15 dJ0_coder_7d493_7 ?_
  refine V_goto (tgt := 14) C dJ0_coder_7d493_10 (by decide) ?_
  exact V_retX C hr rfl hlk dJ0_coder_7d493_14
theorem ct_isLatin1 (l : Launch) (d : Dt) (σ : Sg) (i : Nat) (hi : i < 8) : CtS l d σ yJ0_isLatin1_aae02 cJ0_isLatin1_aae02 1 (some .boolean) (rmF 0 0) [.ref (σ.1 i)] [] (some (.int 1)) := by
  refine CtS.start (by decide) (Nat.le_of_ble_eq_true rfl) (by simp [Value.category]) [some (.ref (σ.1 i))] rfl (fun x C hr hlk hσ => ?_)
  refine V_gets C IvS_ro hσ.2.2.1 ks_f38 dJ0_isLatin1_aae02_0 ?_
  refine V_if_eqc (tgt := 17) C dJ0_isLatin1_aae02_3 (by decide) (by decide) ?_
  refine V_aload_n C 0 dJ0_isLatin1_aae02_6 rfl rfl ?_
  refine V_getS C IvS_ro (hσ.2.1.1 i hi).2.1 ks_f15 dJ0_isLatin1_aae02_7 ?_
  refine V_if_nec (tgt := 17) C dJ0_isLatin1_aae02_10 (by decide) rfl ?_
  refine V_iconst (v := 1) C dJ0_isLatin1_aae02_13 (by decide) ?_
  refine V_goto (tgt := 18) C dJ0_isLatin1_aae02_14 (by decide) ?_
  exact V_retX C hr rfl hlk dJ0_isLatin1_aae02_18
theorem stL_lt : ∀ i, i < 8 → stL.getD i 0 < 2 ^ 31 := by decide
theorem ct_slength (l : Launch) (d : Dt) (σ : Sg) (i : Nat) (hi : i < 8) : CtS l d σ yJ0_length_8abf5 cJ0_length_8abf5 1 (some .int) (rmF 1 20) [.ref (σ.1 i)] [] (some (.int (nI (stL.getD i 0)))) := by
  refine CtS.start (by decide) (Nat.le_of_ble_eq_true rfl) (by simp [Value.category]) [some (.ref (σ.1 i))] rfl (fun x C hr hlk hσ => ?_)
  refine V_aload_n C 0 dJ0_length_8abf5_0 rfl rfl ?_
  refine V_getS C IvS_ro (hσ.2.1.1 i hi).2.2.1 ks_f9 dJ0_length_8abf5_1 ?_
  refine V_tlen C IvS_ro (hσ.2.1.1 i hi).2.2.2 rfl dJ0_length_8abf5_4 ?_
  refine V_aload_n C 0 dJ0_length_8abf5_5 rfl rfl ?_
  refine V_callTt (As := []) (rest := [.int (nI (stL.getD i 0))]) C IvS_ro hσ hi (ct_coder _ d σ i hi) kv_J0_coder_7d493 ks_l335 dJ0_length_8abf5_6 rfl (Nat.le_of_ble_eq_true rfl) ⟨Nat.le_of_ble_eq_true rfl, Nat.le_of_ble_eq_true rfl⟩ rfl rfl ⟨Nat.le_refl _, Nat.le_refl _⟩ rfl ?_
  refine V_ishr C dJ0_length_8abf5_9 ?_
  rw [sc_shr0 (stL_lt i hi)]
  exact V_retX C hr rfl hlk dJ0_length_8abf5_10
theorem ct_pcheck (l : Launch) (d : Dt) (σ : Sg) (a b : Int32) (v : Value) (hv : v = .null ∨ ∃ q : Nat, v = .ref q) (h1 : ¬ a < 0) (h2 : a < b) : CtS l d σ yJ3_checkIndex_8e157 cJ3_checkIndex_8e157 3 (some .int) (rmF 0 0) [.int a, .int b, v] [] (some (.int a)) := by
  have hv1 : v.category = 1 := by rcases hv with rfl | ⟨q, rfl⟩ <;> rfl
  refine CtS.start (by decide) (by rcases hv with rfl | ⟨q, rfl⟩ <;> exact Nat.le_of_ble_eq_true rfl) (by simp [Value.category, hv1]; exact hv1) [some (.int a), some (.int b), some v] rfl (fun x C hr hlk hσ => ?_)
  refine V_iload_n C 0 dJ3_checkIndex_8e157_0 rfl rfl ?_
  refine V_if_ltc (tgt := 9) C dJ3_checkIndex_8e157_1 (by decide) h1 ?_
  refine V_iload_n C 0 dJ3_checkIndex_8e157_4 rfl rfl ?_
  refine V_iload_n C 1 dJ3_checkIndex_8e157_5 rfl rfl ?_
  refine V_icmp_ltc (tgt := 16) C dJ3_checkIndex_8e157_6 (by decide) h2 ?_
  refine V_iload_n C 0 dJ3_checkIndex_8e157_16 rfl rfl ?_
  exact V_retX C hr rfl hlk dJ3_checkIndex_8e157_17
theorem ct_scheck (l : Launch) (d : Dt) (σ : Sg) (a b : Int32) (h1 : ¬ a < 0) (h2 : a < b) : CtS l d σ yJ0_checkIndex_df160 cJ0_checkIndex_df160 2 none (rmF 1 22) [.int a, .int b] [] none := by
  refine CtS.start (by decide) (Nat.le_of_ble_eq_true rfl) (by simp [Value.category]) [some (.int a), some (.int b)] rfl (fun x C hr hlk hσ => ?_)
  refine V_iload_n C 0 dJ0_checkIndex_df160_0 rfl rfl ?_
  refine V_iload_n C 1 dJ0_checkIndex_df160_1 rfl rfl ?_
  obtain ⟨v, hv, hZ⟩ : ∃ v : Value, (v = .null ∨ ∃ q : Nat, v = .ref q) ∧ va_Z "jdk/internal/util/Preconditions" "SIOOBE_FORMATTER" "Ljava/util/function/BiFunction;" v (fun _ => False) x.s x.s.heap := by
    rcases hσ.2.2.2 with h | ⟨t, h⟩
    · exact ⟨.null, Or.inl rfl, h⟩
    · exact ⟨.ref t, Or.inr ⟨t, rfl⟩, h⟩
  refine V_gets C IvS_ro hZ ks_f1053 dJ0_checkIndex_df160_2 ?_
  refine V_callTs (As := [.int a, .int b, v]) (rest := []) C IvS_ro hσ (ct_pcheck _ d σ a b v hv h1 h2) ks_J3_checkIndex_8e157 ks_l1059 dJ0_checkIndex_df160_5 rfl (Nat.le_of_ble_eq_true rfl) ⟨Nat.le_of_ble_eq_true rfl, Nat.le_of_ble_eq_true rfl⟩ rfl rfl ⟨Nat.le_refl _, Nat.le_refl _⟩ rfl ?_
  refine V_pop C dJ0_checkIndex_df160_8 rfl ?_
  exact V_vretR C hr hlk dJ0_checkIndex_df160_9
/-- the char at k of the text i -/
def stCh (i : Nat) (k : Int32) : Int32 := (stB.getD i []).getD k.toNatClampNeg 0 &&& 255
theorem ct_lcharAt (l : Launch) (d : Dt) (σ : Sg) (i : Nat) (hi : i < 8) (k : Int32) (hk : vp_in k (stL.getD i 0)) : CtS l d σ yJ1_charAt_3b067 cJ1_charAt_3b067 2 (some .char) (rmF 2 43) [.ref (σ.2 i), .int k] [] (some (.int (stCh i k))) := by
  refine CtS.start (by decide) (Nat.le_of_ble_eq_true rfl) (by simp [Value.category]) [some (.ref (σ.2 i)), some (.int k)] rfl (fun x C hr hlk hσ => ?_)
  have h1 : ¬ k < 0 := fun q => hk (Or.inl q)
  have h2 : k < nI (stL.getD i 0) := by
    obtain ⟨j, hj, rfl⟩ := vp_in_of hk (stL_lt i hi)
    exact nI_lt hj (stL_lt i hi)
  refine V_iload_n C 1 dJ1_charAt_3b067_0 rfl rfl ?_
  refine V_aload_n C 0 dJ1_charAt_3b067_1 rfl rfl ?_
  refine V_tlen C IvS_ro (hσ.2.1.1 i hi).2.2.2 rfl dJ1_charAt_3b067_2 ?_
  refine V_callTs (As := [.int k, .int (nI (stL.getD i 0))]) (rest := []) C IvS_ro hσ (ct_scheck _ d σ k _ h1 h2) ks_J0_checkIndex_df160 ks_l9 dJ1_charAt_3b067_3 rfl (Nat.le_of_ble_eq_true rfl) ⟨Nat.le_of_ble_eq_true rfl, Nat.le_of_ble_eq_true rfl⟩ rfl rfl ⟨Nat.le_refl _, Nat.le_refl _⟩ rfl ?_
  refine V_aload_n C 0 dJ1_charAt_3b067_6 rfl rfl ?_
  refine V_iload_n C 1 dJ1_charAt_3b067_7 rfl rfl ?_
  refine V_tb C IvS_ro (hσ.2.1.1 i hi).2.2.2 hk rfl dJ1_charAt_3b067_8 ?_
  refine V_sipush (v := 255) C dJ1_charAt_3b067_9 (by decide) ?_
  refine V_iand C dJ1_charAt_3b067_12 ?_
  refine V_i2c C dJ1_charAt_3b067_13 ?_
  rw [show jchar ((stB.getD i []).getD k.toNatClampNeg 0 &&& 255) = stCh i k from sc_c2 _]
  exact V_retX C hr (sc_nar _) hlk dJ1_charAt_3b067_14
theorem ct_scharAt (l : Launch) (d : Dt) (σ : Sg) (i : Nat) (hi : i < 8) (k : Int32) (hk : vp_in k (stL.getD i 0)) : CtS l d σ yJ0_charAt_5068e cJ0_charAt_5068e 2 (some .char) (rmF 3 64) [.ref (σ.1 i), .int k] [] (some (.int (stCh i k))) := by
  refine CtS.start (by decide) (Nat.le_of_ble_eq_true rfl) (by simp [Value.category]) [some (.ref (σ.1 i)), some (.int k)] rfl (fun x C hr hlk hσ => ?_)
  refine V_aload_n C 0 dJ0_charAt_5068e_0 rfl rfl ?_
  refine V_callTt (As := []) (rest := []) C IvS_ro hσ hi (ct_isLatin1 _ d σ i hi) kv_J0_isLatin1_aae02 ks_l492 dJ0_charAt_5068e_1 rfl (Nat.le_of_ble_eq_true rfl) ⟨Nat.le_of_ble_eq_true rfl, Nat.le_of_ble_eq_true rfl⟩ rfl rfl ⟨Nat.le_refl _, Nat.le_refl _⟩ rfl ?_
  refine V_if_eqc (tgt := 16) C dJ0_charAt_5068e_4 (by decide) (by decide) ?_
  refine V_aload_n C 0 dJ0_charAt_5068e_7 rfl rfl ?_
  refine V_getS C IvS_ro (hσ.2.1.1 i hi).2.2.1 ks_f9 dJ0_charAt_5068e_8 ?_
  refine V_iload_n C 1 dJ0_charAt_5068e_11 rfl rfl ?_
  refine V_callTs (As := [.ref (σ.2 i), .int k]) (rest := []) C IvS_ro hσ (ct_lcharAt _ d σ i hi k hk) ks_J1_charAt_3b067 ks_l495 dJ0_charAt_5068e_12 rfl (Nat.le_of_ble_eq_true rfl) ⟨Nat.le_of_ble_eq_true rfl, Nat.le_of_ble_eq_true rfl⟩ rfl rfl ⟨Nat.le_refl _, Nat.le_refl _⟩ rfl ?_
  exact V_retX C hr (sc_nar _) hlk dJ0_charAt_5068e_15
