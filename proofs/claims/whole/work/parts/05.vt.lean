/-! ===== the words that a call may carry; nest words; the machine's side of a contract ===== -/
def tG : List Cond := lw_tbl.filter goodWord
theorem tG_of {w : Cond} (h : w ∈ lw_tbl) (g : goodWord w = true) : w ∈ tG := List.mem_filter.mpr ⟨h, g⟩
theorem tG_in {x : Cond} {ws : List Cond} (h : ∀ w ∈ ws, w ∈ tG) : GoodIn (x :: tG) ws := fun w hw => ⟨List.mem_cons_of_mem _ (h w hw), good_of_word (List.mem_filter.mp (h w hw)).2⟩
def isNest : Cond → Bool
  | .methodLinkNest _ _ _ _ => true
  | _ => false
def nestW : List Cond := lw_tbl.filter isNest
theorem nest_of {w : Cond} (h : w ∈ lw_tbl) (g : isNest w = true) : w ∈ nestW := List.mem_filter.mpr ⟨h, g⟩
def NW (U : State) : Prop := ∀ w ∈ nestW, va_Nw w U
theorem NW.warm {s U : State} (hW : s.WarmedH U.vm) (h : NW s) : NW U := by
  intro w hw
  have h1 := h w hw
  have h2 := (List.mem_filter.mp hw).2
  cases w <;> first | exact va_Nw.warmM hW h1 | (exact absurd h2 (by simp [isNest]))
theorem NW.same {u U : State} (hv : u.vm = U.vm) (h : NW u) : NW U := by
  intro w hw
  have h1 := h w hw
  have h2 := (List.mem_filter.mp hw).2
  cases w <;> first | exact va_Nw.same rfl hv h1 | (exact absurd h2 (by simp [isNest]))
abbrev Dt : Type := va_G × ClassId × ClassId × ClassId
def TY (d : Dt) : List (ClassId × FieldType) := [(d.2.1, .int), (d.2.2.1, .char), (d.2.2.2, .object "MastRobots$Library")]
def KX (d : Dt) (U : State) : Prop := va_K d.1 vwCl (TY d) U ∧ NW U
theorem KX.warm {d : Dt} {s U : State} (hW : s.WarmedH U.vm) (h : KX d s) : KX d U := ⟨va_K.moved hW.alike h.1, NW.warm hW h.2⟩
theorem KX.calling {d : Dt} {U : State} (g : JFrame) (mk : MethodId) (a : Array Value) (h : KX d U) : KX d (U.calling g mk a) :=
  ⟨va_K.moved (u := U) (U := U.calling g mk a) (Vm.Alike.refl U.vm) h.1, NW.same (u := U) (U := U.calling g mk a) rfl h.2⟩
/-! ===== locals as a list by place ===== -/
def LH (ls : Array Slot) (nL : Nat) (lv : List (Option Value)) : Prop := ls.size = nL ∧ lv_wf ls ∧ ∀ (i : Nat) (v : Value), lv[i]? = some (some v) → ls[i]? = some (.val v) ∧ v.category = 1
def lvA : Nat → List (Option Value) → List (Nat × Value)
  | _, [] => []
  | k, none :: t => lvA (k + 1) t
  | k, some v :: t => (k, v) :: lvA (k + 1) t
theorem lvA_mem : ∀ (lv : List (Option Value)) (k : Nat) (q : Nat × Value), q ∈ lvA k lv ↔ ∃ i, q.1 = k + i ∧ lv[i]? = some (some q.2)
  | [], k, q => by simp [lvA]
  | none :: t, k, q => by
    rw [lvA, lvA_mem t (k + 1) q]
    constructor
    · rintro ⟨i, h1, h2⟩
      exact ⟨i + 1, by omega, by simpa using h2⟩
    · rintro ⟨i, h1, h2⟩
      cases i with
      | zero => simp at h2
      | succ i => exact ⟨i, by omega, by simpa using h2⟩
  | some v :: t, k, q => by
    rw [lvA, List.mem_cons, lvA_mem t (k + 1) q]
    constructor
    · rintro (h | ⟨i, h1, h2⟩)
      · exact ⟨0, by rw [h]; rfl, by rw [h]; rfl⟩
      · exact ⟨i + 1, by omega, by simpa using h2⟩
    · rintro ⟨i, h1, h2⟩
      cases i with
      | zero =>
        left
        obtain ⟨q1, q2⟩ := q
        simp at h1 h2
        simp [h1, h2]
      | succ i => exact Or.inr ⟨i, by omega, by simpa using h2⟩
theorem LH.toHas {ls : Array Slot} {nL : Nat} {lv : List (Option Value)} (h : LH ls nL lv) : lv_has ls nL (lvA 0 lv) := by
  refine ⟨h.1, h.2.1, fun q hq => ?_⟩
  obtain ⟨i, h1, h2⟩ := (lvA_mem lv 0 q).mp hq
  rw [show q.1 = i by omega]
  exact (h.2.2 i q.2 h2).1
theorem LH.at {ls : Array Slot} {nL : Nat} {lv : List (Option Value)} (h : LH ls nL lv) {i : Nat} {v : Value} (hi : lv[i]? = some (some v)) : ls[i]? = some (.val v) := (h.2.2 i v hi).1
theorem LH.put {ls ls' : Array Slot} {nL i : Nat} {v : Value} {lv : List (Option Value)} (h : LH ls nL lv) (hc : v.category = 1)
    (h' : lv_has ls' nL ((i, v) :: (lvA 0 lv).filter (fun q => !(q.1 == i) && !(q.1 + 1 == i && q.2.category == 2)))) : LH ls' nL (lv.set i (some v)) := by
  refine ⟨h'.1, h'.2.1, fun j w hj => ?_⟩
  by_cases hji : i = j
  · subst hji
    rw [List.getElem?_set_self'] at hj
    have : v = w := by
      cases hx : lv[i]? with
      | none => rw [hx] at hj; simp at hj
      | some y => rw [hx] at hj; simpa using hj
    subst this
    exact ⟨h'.2.2 (i, v) List.mem_cons_self, hc⟩
  · rw [List.getElem?_set_ne hji] at hj
    have hc1 := (h.2.2 j w hj).2
    refine ⟨h'.2.2 (j, w) (List.mem_cons_of_mem _ (List.mem_filter.mpr ⟨(lvA_mem lv 0 (j, w)).mpr ⟨j, by simp, hj⟩, ?_⟩)), hc1⟩
    have : ¬ j = i := fun e => hji e.symm
    simp [this, hc1]
def lvM : List Bool → List (Option Value) → List (Option Value)
  | true :: bs, v :: t => v :: lvM bs t
  | false :: bs, _ :: t => none :: lvM bs t
  | _, _ => []
theorem lvM_at : ∀ (bs : List Bool) (lv : List (Option Value)) (i : Nat) (v : Value), (lvM bs lv)[i]? = some (some v) → lv[i]? = some (some v)
  | [], lv, i, v, h => by simp [lvM] at h
  | _ :: _, [], i, v, h => by simp [lvM] at h
  | true :: bs, w :: t, i, v, h => by
    cases i with
    | zero => simpa [lvM] using h
    | succ i => simpa using lvM_at bs t i v (by simpa [lvM] using h)
  | false :: bs, w :: t, i, v, h => by
    cases i with
    | zero => simp [lvM] at h
    | succ i => simpa using lvM_at bs t i v (by simpa [lvM] using h)
theorem lvArgs_mem : ∀ (vs : List Value) (k i : Nat) (v : Value), (∀ w ∈ vs, w.category = 1) → vs[i]? = some v → (k + i, v) ∈ lv_args k vs
  | [], k, i, v, _, h => by simp at h
  | w :: vs, k, i, v, hc, h => by
    have h1 : ¬ w.category = 2 := by rw [hc w List.mem_cons_self]; decide
    rw [lv_args, if_neg h1]
    cases i with
    | zero => simp at h; subst h; exact List.mem_cons_self
    | succ i =>
      refine List.mem_cons_of_mem _ ?_
      have := lvArgs_mem vs (k + 1) i v (fun w hw => hc w (List.mem_cons_of_mem _ hw)) (by simpa using h)
      rw [show k + (i + 1) = k + 1 + i by omega]
      exact this
theorem LH.entry {av : List Value} {nL : Nat} {lv : List (Option Value)} {ls : Array Slot} (h : lv_has ls nL (lv_args 0 av)) (hc : ∀ v ∈ av, v.category = 1) (hl : ∀ (i : Nat) (v : Value), lv[i]? = some (some v) → av[i]? = some v) : LH ls nL lv := by
  refine ⟨h.1, h.2.1, fun i v hi => ?_⟩
  have h1 := hl i v hi
  have := lvArgs_mem av 0 i v hc h1
  exact ⟨h.2.2 _ (by simpa using this), hc v (List.mem_of_getElem? h1)⟩
/-! ===== the judgement: at pc, with world ws, locals lv and stack stk ===== -/
abbrev Am : Type := Program × Launch × Env × State × MethodId × Array Value × List Frame × Method × Code
abbrev Am.s (x : Am) : State := x.2.2.2.1
abbrev Am.m (x : Am) : MethodId := x.2.2.2.2.1
abbrev Am.args (x : Am) : Array Value := x.2.2.2.2.2.1
abbrev Am.below (x : Am) : List Frame := x.2.2.2.2.2.2.1
abbrev Am.meth (x : Am) : Method := x.2.2.2.2.2.2.2.1
abbrev Am.c (x : Am) : Code := x.2.2.2.2.2.2.2.2
abbrev Iv : Type := va_W → Heap → List Loc → Prop
def Cx (x : Am) (cc : ByteArray) (nL : Nat) (own : String) (d : Dt) (I : Iv) : Prop :=
  x.1.tables.exec = Jvm.exec ∧ x.c.code = cc ∧ x.c.maxLocals = nL ∧ x.s.vm.findClass own = some x.m.cls ∧ (∀ w ∈ tG, w.before x.args x.s = true) ∧ KX d x.s ∧ ∀ ws H locs, I ws H locs → va_P d.1 vwCl ws H
def V (x : Am) (R : Room) (cells slots : Nat) (Q : State → Prop) (nL : Nat) (I : Iv) (hyp : Prop) (pc : Nat) (ws : va_W) (lv : List (Option Value)) (stk : List Value) : Prop :=
  hyp → ∀ (H : Heap) (locs : List Loc) (ls : Array Slot), I ws H locs → LH ls nL lv → W x.1 x.2.1 x.2.2.1 R x.s x.m x.args x.below x.meth x.c H locs cells slots Q (F0 x.m pc ls stk)
def inb (i : Int32) (n : Nat) : Bool := decide (¬ (i < 0 ∨ n ≤ i.toNatClampNeg))
theorem inb_in {i : Int32} {n : Nat} (h : inb i n = true) : vp_in i n := by
  unfold vp_in
  simpa [inb] using h
def jrem (x y : Int32) : Int32 := x - x / y * y
def jbool (x : Int32) : Bool := x == 0 || x == 1
theorem jbool_or {x : Int32} (h : jbool x = true) : x = 0 ∨ x = 1 := by simpa [jbool] using h
section VROWS
variable {x : Am} {R : Room} {cells slots : Nat} {Q : State → Prop} {nL : Nat} {I : Iv} {hyp : Prop} {pc : Nat} {ws : va_W} {lv lv' : List (Option Value)} {rest stk : List Value} {cc : ByteArray} {own : String} {d : Dt}
theorem V_eqv {h1 h2 : Prop} (e : h1 → h2) (k : V x R cells slots Q nL I h2 pc ws lv stk) : V x R cells slots Q nL I h1 pc ws lv stk := fun h => k (e h)
theorem V_none {Z : Type} {z : Z} : V x R cells slots Q nL I ((none : Option Z) = some z) pc ws lv stk := fun h => by cases h
theorem V_mask (bs : List Bool) (hl : lvM bs lv = lv') (k : V x R cells slots Q nL I hyp pc ws lv' stk) : V x R cells slots Q nL I hyp pc ws lv stk :=
  fun h H locs ls hI hl' => k h H locs ls hI ⟨hl'.1, hl'.2.1, fun i v hi => hl'.2.2 i v (lvM_at bs lv i v (by rw [hl]; exact hi))⟩
theorem V_iconst (C : Cx x cc nL own d I) {n : Int} {v : Int32} (hdg : decode cc pc = .ok (.iconst n, 1)) (hv : Int32.ofInt n = v) (k : V x R cells slots Q nL I hyp (pc + 1) ws lv (.int v :: rest)) : V x R cells slots Q nL I hyp pc ws lv rest :=
  fun h H locs ls hI hl => lv_iconst C.1 C.2.1 hdg hv (k h H locs ls hI hl)
theorem V_bipush (C : Cx x cc nL own d I) {n : Int} {v : Int32} (hdg : decode cc pc = .ok (.bipush n, 2)) (hv : (Int8.ofInt n).toInt32 = v) (k : V x R cells slots Q nL I hyp (pc + 2) ws lv (.int v :: rest)) : V x R cells slots Q nL I hyp pc ws lv rest :=
  fun h H locs ls hI hl => lv_bipush C.1 C.2.1 hdg hv (k h H locs ls hI hl)
theorem V_sipush (C : Cx x cc nL own d I) {n : Int} {v : Int32} (hdg : decode cc pc = .ok (.sipush n, 3)) (hv : (Int16.ofInt n).toInt32 = v) (k : V x R cells slots Q nL I hyp (pc + 3) ws lv (.int v :: rest)) : V x R cells slots Q nL I hyp pc ws lv rest :=
  fun h H locs ls hI hl => lv_sipush C.1 C.2.1 hdg hv (k h H locs ls hI hl)
theorem V_ldc (C : Cx x cc nL own d I) {idx : Nat} {v : Int32} (hc : Cond.constant own idx v ∈ tG) (hdg : decode cc pc = .ok (.ldc idx, 2)) (k : V x R cells slots Q nL I hyp (pc + 2) ws lv (.int v :: rest)) : V x R cells slots Q nL I hyp pc ws lv rest :=
  fun h H locs ls hI hl => lv_ldc C.1 C.2.1 C.2.2.2.1 (C.2.2.2.2.1 _ hc) hdg (k h H locs ls hI hl)
theorem V_iload_n (C : Cx x cc nL own d I) {k0 : Fin 4} {y : Int32} (i : Nat) (hdg : decode cc pc = .ok (.iload_n k0, 1)) (hi : (k0 : Nat) = i) (hy : lv[i]? = some (some (.int y))) (k : V x R cells slots Q nL I hyp (pc + 1) ws lv (.int y :: rest)) : V x R cells slots Q nL I hyp pc ws lv rest :=
  fun h H locs ls hI hl => lv_iload_n C.1 C.2.1 hdg hi (hl.at hy) (k h H locs ls hI hl)
theorem V_iload (C : Cx x cc nL own d I) {y : Int32} {i : Nat} (hdg : decode cc pc = .ok (.iload i, 2)) (hy : lv[i]? = some (some (.int y))) (k : V x R cells slots Q nL I hyp (pc + 2) ws lv (.int y :: rest)) : V x R cells slots Q nL I hyp pc ws lv rest :=
  fun h H locs ls hI hl => lv_iload C.1 C.2.1 hdg (hl.at hy) (k h H locs ls hI hl)
theorem V_aload_n (C : Cx x cc nL own d I) {k0 : Fin 4} {y : Nat} (i : Nat) (hdg : decode cc pc = .ok (.aload_n k0, 1)) (hi : (k0 : Nat) = i) (hy : lv[i]? = some (some (.ref y))) (k : V x R cells slots Q nL I hyp (pc + 1) ws lv (.ref y :: rest)) : V x R cells slots Q nL I hyp pc ws lv rest :=
  fun h H locs ls hI hl => lv_aload_n C.1 C.2.1 hdg hi (hl.at hy) (k h H locs ls hI hl)
theorem V_aload (C : Cx x cc nL own d I) {y : Nat} {i : Nat} (hdg : decode cc pc = .ok (.aload i, 2)) (hy : lv[i]? = some (some (.ref y))) (k : V x R cells slots Q nL I hyp (pc + 2) ws lv (.ref y :: rest)) : V x R cells slots Q nL I hyp pc ws lv rest :=
  fun h H locs ls hI hl => lv_aload C.1 C.2.1 hdg (hl.at hy) (k h H locs ls hI hl)
theorem V_istore_n (C : Cx x cc nL own d I) {k0 : Fin 4} {y : Int32} (i : Nat) (hdg : decode cc pc = .ok (.istore_n k0, 1)) (hi : (k0 : Nat) = i) (hn : i < nL) (hl' : lv.set i (some (.int y)) = lv') (k : V x R cells slots Q nL I hyp (pc + 1) ws lv' rest) : V x R cells slots Q nL I hyp pc ws lv (.int y :: rest) :=
  fun h H locs ls hI hl => lv_istore_n C.1 C.2.1 hdg hi hl.toHas hn rfl (fun ls' h' => k h H locs ls' hI (hl' ▸ hl.put rfl h'))
theorem V_istore (C : Cx x cc nL own d I) {y : Int32} {i : Nat} (hdg : decode cc pc = .ok (.istore i, 2)) (hn : i < nL) (hl' : lv.set i (some (.int y)) = lv') (k : V x R cells slots Q nL I hyp (pc + 2) ws lv' rest) : V x R cells slots Q nL I hyp pc ws lv (.int y :: rest) :=
  fun h H locs ls hI hl => lv_istore C.1 C.2.1 hdg hl.toHas hn rfl (fun ls' h' => k h H locs ls' hI (hl' ▸ hl.put rfl h'))
theorem V_astore_n (C : Cx x cc nL own d I) {k0 : Fin 4} {y : Nat} (i : Nat) (hdg : decode cc pc = .ok (.astore_n k0, 1)) (hi : (k0 : Nat) = i) (hn : i < nL) (hl' : lv.set i (some (.ref y)) = lv') (k : V x R cells slots Q nL I hyp (pc + 1) ws lv' rest) : V x R cells slots Q nL I hyp pc ws lv (.ref y :: rest) :=
  fun h H locs ls hI hl => lv_astore_n C.1 C.2.1 hdg hi hl.toHas hn rfl (fun ls' h' => k h H locs ls' hI (hl' ▸ hl.put rfl h'))
theorem V_astore (C : Cx x cc nL own d I) {y : Nat} {i : Nat} (hdg : decode cc pc = .ok (.astore i, 2)) (hn : i < nL) (hl' : lv.set i (some (.ref y)) = lv') (k : V x R cells slots Q nL I hyp (pc + 2) ws lv' rest) : V x R cells slots Q nL I hyp pc ws lv (.ref y :: rest) :=
  fun h H locs ls hI hl => lv_astore C.1 C.2.1 hdg hl.toHas hn rfl (fun ls' h' => k h H locs ls' hI (hl' ▸ hl.put rfl h'))
theorem V_iinc (C : Cx x cc nL own d I) {i : Nat} {n : Int} {y v : Int32} (hdg : decode cc pc = .ok (.iinc i n, 3)) (hy : lv[i]? = some (some (.int y))) (hv : y + Int32.ofInt n = v) (hn : i < nL) (hl' : lv.set i (some (.int v)) = lv') (k : V x R cells slots Q nL I hyp (pc + 3) ws lv' rest) : V x R cells slots Q nL I hyp pc ws lv rest := by
  intro h H locs ls hI hl
  obtain ⟨j, hj⟩ := List.getElem?_of_mem ((lvA_mem lv 0 (i, .int y)).mpr ⟨i, by simp, hy⟩)
  exact lv_iinc C.1 C.2.1 hdg hl.toHas hj hv hn rfl (fun ls' h' => k h H locs ls' hI (hl' ▸ hl.put rfl h'))
theorem V_iadd (C : Cx x cc nL own d I) {a b : Int32} (hdg : decode cc pc = .ok (.iadd, 1)) (k : V x R cells slots Q nL I hyp (pc + 1) ws lv (.int (a + b) :: rest)) : V x R cells slots Q nL I hyp pc ws lv (.int b :: .int a :: rest) :=
  fun h H locs ls hI hl => lv_iadd C.1 C.2.1 hdg (k h H locs ls hI hl)
theorem V_isub (C : Cx x cc nL own d I) {a b : Int32} (hdg : decode cc pc = .ok (.isub, 1)) (k : V x R cells slots Q nL I hyp (pc + 1) ws lv (.int (a - b) :: rest)) : V x R cells slots Q nL I hyp pc ws lv (.int b :: .int a :: rest) :=
  fun h H locs ls hI hl => lv_isub C.1 C.2.1 hdg (k h H locs ls hI hl)
theorem V_imul (C : Cx x cc nL own d I) {a b : Int32} (hdg : decode cc pc = .ok (.imul, 1)) (k : V x R cells slots Q nL I hyp (pc + 1) ws lv (.int (a * b) :: rest)) : V x R cells slots Q nL I hyp pc ws lv (.int b :: .int a :: rest) :=
  fun h H locs ls hI hl => lv_imul C.1 C.2.1 hdg (k h H locs ls hI hl)
theorem V_idiv (C : Cx x cc nL own d I) {a b : Int32} (hdg : decode cc pc = .ok (.idiv, 1)) (hne : ¬ b = 0) (k : V x R cells slots Q nL I hyp (pc + 1) ws lv (.int (a / b) :: rest)) : V x R cells slots Q nL I hyp pc ws lv (.int b :: .int a :: rest) :=
  fun h H locs ls hI hl => lv_idiv C.1 C.2.1 hdg hne (k h H locs ls hI hl)
theorem V_irem (C : Cx x cc nL own d I) {a b : Int32} (hdg : decode cc pc = .ok (.irem, 1)) (hne : ¬ b = 0) (k : V x R cells slots Q nL I hyp (pc + 1) ws lv (.int (jrem a b) :: rest)) : V x R cells slots Q nL I hyp pc ws lv (.int b :: .int a :: rest) :=
  fun h H locs ls hI hl => lv_irem C.1 C.2.1 hdg hne (k h H locs ls hI hl)
theorem V_ineg (C : Cx x cc nL own d I) {a : Int32} (hdg : decode cc pc = .ok (.ineg, 1)) (k : V x R cells slots Q nL I hyp (pc + 1) ws lv (.int (-a) :: rest)) : V x R cells slots Q nL I hyp pc ws lv (.int a :: rest) :=
  fun h H locs ls hI hl => lv_ineg C.1 C.2.1 hdg (k h H locs ls hI hl)
def jchar (a : Int32) : Int32 := (a.toUInt32 % 65536).toInt32
theorem V_i2c (C : Cx x cc nL own d I) {a : Int32} (hdg : decode cc pc = .ok (.i2c, 1)) (k : V x R cells slots Q nL I hyp (pc + 1) ws lv (.int (jchar a) :: rest)) : V x R cells slots Q nL I hyp pc ws lv (.int a :: rest) :=
  fun h H locs ls hI hl => lv_i2c C.1 C.2.1 hdg rfl (k h H locs ls hI hl)
theorem V_iand (C : Cx x cc nL own d I) {a b : Int32} (hdg : decode cc pc = .ok (.iand, 1)) (k : V x R cells slots Q nL I hyp (pc + 1) ws lv (.int (a &&& b) :: rest)) : V x R cells slots Q nL I hyp pc ws lv (.int b :: .int a :: rest) :=
  fun h H locs ls hI hl => lv_iand C.1 C.2.1 hdg (k h H locs ls hI hl)
theorem V_dup (C : Cx x cc nL own d I) {v : Value} (hdg : decode cc pc = .ok (.dup, 1)) (hv : v.category = 1) (k : V x R cells slots Q nL I hyp (pc + 1) ws lv (v :: v :: rest)) : V x R cells slots Q nL I hyp pc ws lv (v :: rest) :=
  fun h H locs ls hI hl => lv_dup C.1 C.2.1 hdg hv (k h H locs ls hI hl)
theorem V_dup2 (C : Cx x cc nL own d I) {v w : Value} (hdg : decode cc pc = .ok (.dup2, 1)) (hv : v.category = 1) (hw : w.category = 1) (k : V x R cells slots Q nL I hyp (pc + 1) ws lv (v :: w :: v :: w :: rest)) : V x R cells slots Q nL I hyp pc ws lv (v :: w :: rest) :=
  fun h H locs ls hI hl => lv_dup2_11 C.1 C.2.1 hdg hv hw (k h H locs ls hI hl)
theorem V_dup_x1 (C : Cx x cc nL own d I) {v w : Value} (hdg : decode cc pc = .ok (.dup_x1, 1)) (hv : v.category = 1) (hw : w.category = 1) (k : V x R cells slots Q nL I hyp (pc + 1) ws lv (v :: w :: v :: rest)) : V x R cells slots Q nL I hyp pc ws lv (v :: w :: rest) :=
  fun h H locs ls hI hl => lv_dup_x1 C.1 C.2.1 hdg hv hw (k h H locs ls hI hl)
theorem V_dup_x2 (C : Cx x cc nL own d I) {v w u : Value} (hdg : decode cc pc = .ok (.dup_x2, 1)) (hv : v.category = 1) (hw : w.category = 1) (hu : u.category = 1) (k : V x R cells slots Q nL I hyp (pc + 1) ws lv (v :: w :: u :: v :: rest)) : V x R cells slots Q nL I hyp pc ws lv (v :: w :: u :: rest) :=
  fun h H locs ls hI hl => lv_dup_x2 C.1 C.2.1 hdg hv hw hu (k h H locs ls hI hl)
theorem V_pop (C : Cx x cc nL own d I) {v : Value} (hdg : decode cc pc = .ok (.pop, 1)) (hv : v.category = 1) (k : V x R cells slots Q nL I hyp (pc + 1) ws lv rest) : V x R cells slots Q nL I hyp pc ws lv (v :: rest) :=
  fun h H locs ls hI hl => lv_pop C.1 C.2.1 hdg hv (k h H locs ls hI hl)
theorem V_goto (C : Cx x cc nL own d I) {off : Int} {tgt : Nat} (hdg : decode cc pc = .ok (.goto off, 3)) (ht : (pc : Int) + off = (tgt : Int)) (k : V x R cells slots Q nL I hyp tgt ws lv stk) : V x R cells slots Q nL I hyp pc ws lv stk :=
  fun h H locs ls hI hl => lv_goto C.1 C.2.1 hdg ht (k h H locs ls hI hl)
theorem ite_t {Z : Type} {z : Z} {A B : Option Z} {P : Prop} [Decidable P] (q : P) (h : (if P then A else B) = some z) : A = some z := by rw [if_pos q] at h; exact h
theorem ite_f {Z : Type} {z : Z} {A B : Option Z} {P : Prop} [Decidable P] (q : ¬ P) (h : (if P then A else B) = some z) : B = some z := by rw [if_neg q] at h; exact h
theorem V_if_eq (C : Cx x cc nL own d I) {Z : Type} {z : Z} {A B : Option Z} {a : Int32} {off : Int} {tgt : Nat} (hdg : decode cc pc = .ok (.ifCond .eq off, 3)) (ht : (pc : Int) + off = (tgt : Int)) (kt : V x R cells slots Q nL I (A = some z) tgt ws lv rest) (kf : V x R cells slots Q nL I (B = some z) (pc + 3) ws lv rest) : V x R cells slots Q nL I ((if a = 0 then A else B) = some z) pc ws lv (.int a :: rest) :=
  fun h H locs ls hI hl => lv_if_eq C.1 C.2.1 hdg ht (fun q => kt (ite_t q h) H locs ls hI hl) (fun q => kf (ite_f q h) H locs ls hI hl)
theorem V_if_ne (C : Cx x cc nL own d I) {Z : Type} {z : Z} {A B : Option Z} {a : Int32} {off : Int} {tgt : Nat} (hdg : decode cc pc = .ok (.ifCond .ne off, 3)) (ht : (pc : Int) + off = (tgt : Int)) (kt : V x R cells slots Q nL I (B = some z) tgt ws lv rest) (kf : V x R cells slots Q nL I (A = some z) (pc + 3) ws lv rest) : V x R cells slots Q nL I ((if a = 0 then A else B) = some z) pc ws lv (.int a :: rest) :=
  fun h H locs ls hI hl => lv_if_ne C.1 C.2.1 hdg ht (fun q => kt (ite_f q h) H locs ls hI hl) (fun q => kf (ite_t q h) H locs ls hI hl)
theorem V_if_lt (C : Cx x cc nL own d I) {Z : Type} {z : Z} {A B : Option Z} {a : Int32} {off : Int} {tgt : Nat} (hdg : decode cc pc = .ok (.ifCond .lt off, 3)) (ht : (pc : Int) + off = (tgt : Int)) (kt : V x R cells slots Q nL I (A = some z) tgt ws lv rest) (kf : V x R cells slots Q nL I (B = some z) (pc + 3) ws lv rest) : V x R cells slots Q nL I ((if a < 0 then A else B) = some z) pc ws lv (.int a :: rest) :=
  fun h H locs ls hI hl => lv_if_lt C.1 C.2.1 hdg ht (fun q => kt (ite_t q h) H locs ls hI hl) (fun q => kf (ite_f q h) H locs ls hI hl)
theorem V_if_ge (C : Cx x cc nL own d I) {Z : Type} {z : Z} {A B : Option Z} {a : Int32} {off : Int} {tgt : Nat} (hdg : decode cc pc = .ok (.ifCond .ge off, 3)) (ht : (pc : Int) + off = (tgt : Int)) (kt : V x R cells slots Q nL I (A = some z) tgt ws lv rest) (kf : V x R cells slots Q nL I (B = some z) (pc + 3) ws lv rest) : V x R cells slots Q nL I ((if 0 ≤ a then A else B) = some z) pc ws lv (.int a :: rest) :=
  fun h H locs ls hI hl => lv_if_ge C.1 C.2.1 hdg ht (fun q => kt (ite_t q h) H locs ls hI hl) (fun q => kf (ite_f q h) H locs ls hI hl)
theorem V_if_gt (C : Cx x cc nL own d I) {Z : Type} {z : Z} {A B : Option Z} {a : Int32} {off : Int} {tgt : Nat} (hdg : decode cc pc = .ok (.ifCond .gt off, 3)) (ht : (pc : Int) + off = (tgt : Int)) (kt : V x R cells slots Q nL I (A = some z) tgt ws lv rest) (kf : V x R cells slots Q nL I (B = some z) (pc + 3) ws lv rest) : V x R cells slots Q nL I ((if 0 < a then A else B) = some z) pc ws lv (.int a :: rest) :=
  fun h H locs ls hI hl => lv_if_gt C.1 C.2.1 hdg ht (fun q => kt (ite_t q h) H locs ls hI hl) (fun q => kf (ite_f q h) H locs ls hI hl)
theorem V_if_le (C : Cx x cc nL own d I) {Z : Type} {z : Z} {A B : Option Z} {a : Int32} {off : Int} {tgt : Nat} (hdg : decode cc pc = .ok (.ifCond .le off, 3)) (ht : (pc : Int) + off = (tgt : Int)) (kt : V x R cells slots Q nL I (A = some z) tgt ws lv rest) (kf : V x R cells slots Q nL I (B = some z) (pc + 3) ws lv rest) : V x R cells slots Q nL I ((if a ≤ 0 then A else B) = some z) pc ws lv (.int a :: rest) :=
  fun h H locs ls hI hl => lv_if_le C.1 C.2.1 hdg ht (fun q => kt (ite_t q h) H locs ls hI hl) (fun q => kf (ite_f q h) H locs ls hI hl)
theorem V_icmp_eq (C : Cx x cc nL own d I) {Z : Type} {z : Z} {A B : Option Z} {a b : Int32} {off : Int} {tgt : Nat} (hdg : decode cc pc = .ok (.if_icmp .eq off, 3)) (ht : (pc : Int) + off = (tgt : Int)) (kt : V x R cells slots Q nL I (A = some z) tgt ws lv rest) (kf : V x R cells slots Q nL I (B = some z) (pc + 3) ws lv rest) : V x R cells slots Q nL I ((if a = b then A else B) = some z) pc ws lv (.int b :: .int a :: rest) :=
  fun h H locs ls hI hl => lv_icmp_eq C.1 C.2.1 hdg ht (fun q => kt (ite_t q h) H locs ls hI hl) (fun q => kf (ite_f q h) H locs ls hI hl)
theorem V_icmp_ne (C : Cx x cc nL own d I) {Z : Type} {z : Z} {A B : Option Z} {a b : Int32} {off : Int} {tgt : Nat} (hdg : decode cc pc = .ok (.if_icmp .ne off, 3)) (ht : (pc : Int) + off = (tgt : Int)) (kt : V x R cells slots Q nL I (B = some z) tgt ws lv rest) (kf : V x R cells slots Q nL I (A = some z) (pc + 3) ws lv rest) : V x R cells slots Q nL I ((if a = b then A else B) = some z) pc ws lv (.int b :: .int a :: rest) :=
  fun h H locs ls hI hl => lv_icmp_ne C.1 C.2.1 hdg ht (fun q => kt (ite_f q h) H locs ls hI hl) (fun q => kf (ite_t q h) H locs ls hI hl)
theorem V_icmp_lt (C : Cx x cc nL own d I) {Z : Type} {z : Z} {A B : Option Z} {a b : Int32} {off : Int} {tgt : Nat} (hdg : decode cc pc = .ok (.if_icmp .lt off, 3)) (ht : (pc : Int) + off = (tgt : Int)) (kt : V x R cells slots Q nL I (A = some z) tgt ws lv rest) (kf : V x R cells slots Q nL I (B = some z) (pc + 3) ws lv rest) : V x R cells slots Q nL I ((if a < b then A else B) = some z) pc ws lv (.int b :: .int a :: rest) :=
  fun h H locs ls hI hl => lv_icmp_lt C.1 C.2.1 hdg ht (fun q => kt (ite_t q h) H locs ls hI hl) (fun q => kf (ite_f q h) H locs ls hI hl)
theorem V_icmp_ge (C : Cx x cc nL own d I) {Z : Type} {z : Z} {A B : Option Z} {a b : Int32} {off : Int} {tgt : Nat} (hdg : decode cc pc = .ok (.if_icmp .ge off, 3)) (ht : (pc : Int) + off = (tgt : Int)) (kt : V x R cells slots Q nL I (A = some z) tgt ws lv rest) (kf : V x R cells slots Q nL I (B = some z) (pc + 3) ws lv rest) : V x R cells slots Q nL I ((if b ≤ a then A else B) = some z) pc ws lv (.int b :: .int a :: rest) :=
  fun h H locs ls hI hl => lv_icmp_ge C.1 C.2.1 hdg ht (fun q => kt (ite_t q h) H locs ls hI hl) (fun q => kf (ite_f q h) H locs ls hI hl)
theorem V_icmp_gt (C : Cx x cc nL own d I) {Z : Type} {z : Z} {A B : Option Z} {a b : Int32} {off : Int} {tgt : Nat} (hdg : decode cc pc = .ok (.if_icmp .gt off, 3)) (ht : (pc : Int) + off = (tgt : Int)) (kt : V x R cells slots Q nL I (A = some z) tgt ws lv rest) (kf : V x R cells slots Q nL I (B = some z) (pc + 3) ws lv rest) : V x R cells slots Q nL I ((if b < a then A else B) = some z) pc ws lv (.int b :: .int a :: rest) :=
  fun h H locs ls hI hl => lv_icmp_gt C.1 C.2.1 hdg ht (fun q => kt (ite_t q h) H locs ls hI hl) (fun q => kf (ite_f q h) H locs ls hI hl)
theorem V_icmp_le (C : Cx x cc nL own d I) {Z : Type} {z : Z} {A B : Option Z} {a b : Int32} {off : Int} {tgt : Nat} (hdg : decode cc pc = .ok (.if_icmp .le off, 3)) (ht : (pc : Int) + off = (tgt : Int)) (kt : V x R cells slots Q nL I (A = some z) tgt ws lv rest) (kf : V x R cells slots Q nL I (B = some z) (pc + 3) ws lv rest) : V x R cells slots Q nL I ((if a ≤ b then A else B) = some z) pc ws lv (.int b :: .int a :: rest) :=
  fun h H locs ls hI hl => lv_icmp_le C.1 C.2.1 hdg ht (fun q => kt (ite_t q h) H locs ls hI hl) (fun q => kf (ite_f q h) H locs ls hI hl)
/-- a program of the worlds: its place, its fields' table, its words -/
def Fld (ci : Nat) (CC : String) (T : u_T) (N : Nat) (ty : Nat → FieldType) : Prop := vwCl[ci]? = some (CC, T, N) ∧ (∀ w ∈ u_ws CC T N, w ∈ tG) ∧ (∀ k, k < N → parseFieldDescriptor (T k).2.2.1 = some (ty k)) ∧ ∀ a, a < N → ∀ b, b < N → a ≠ b → (T a).2.1 ≠ (T b).2.1
theorem V_get (C : Cx x cc nL own d I) {ci : Nat} {CC : String} {T : u_T} {N : Nat} {ty : Nat → FieldType} (F : Fld ci CC T N ty) (q0 k : Nat) {idx a : Nat} {fs : List Value} {v : Value} (hlink : Cond.fieldLink own idx (T k).1 (T k).2.1 (T k).2.2.1 ∈ tG) (hk : k < N) (he : ws[q0]? = some (a, .inr (ci, fs))) (hv : fs[k]? = some v) (hdg : decode cc pc = .ok (.getfield idx, 3))
    (kk : V x R cells slots Q nL I hyp (pc + 3) ws lv (v :: rest)) : V x R cells slots Q nL I hyp pc ws lv (.ref a :: rest) :=
  fun h H locs ls hI hl => va_get (D := d.1) C.1 C.2.1 C.2.2.2.2.1 F.2.1 C.2.2.2.1 C.2.2.2.2.2.1.1 (C.2.2.2.2.2.2 ws H locs hI) q0 he F.1 k hk (C.2.2.2.2.1 _ hlink) (fun _ h9 => h9) hv hdg (kk h H locs ls hI hl)
theorem V_iald (C : Cx x cc nL own d I) (q0 : Nat) {Z : Type} {z : Z} {A : Option Z} {a n : Nat} {f : Nat → Int32} {i : Int32} (ha : ws[q0]? = some (a, .inl (d.2.1, n, .inl f))) (hdg : decode cc pc = .ok (.iaload, 1))
    (kk : V x R cells slots Q nL I (A = some z) (pc + 1) ws lv (.int (f i.toNatClampNeg) :: rest)) : V x R cells slots Q nL I ((if inb i n = true then A else none) = some z) pc ws lv (.int i :: .ref a :: rest) := by
  intro h H locs ls hI hl
  by_cases q : inb i n = true
  · exact va_iald (D := d.1) C.1 C.2.1 C.2.2.2.2.2.1.1 (C.2.2.2.2.2.2 ws H locs hI) q0 0 ha rfl (inb_in q) hdg (kk (ite_t q h) H locs ls hI hl)
  · rw [if_neg q] at h; cases h
theorem V_cald (C : Cx x cc nL own d I) (q0 : Nat) {Z : Type} {z : Z} {A : Option Z} {a n : Nat} {f : Nat → Int32} {i : Int32} (ha : ws[q0]? = some (a, .inl (d.2.2.1, n, .inl f))) (hdg : decode cc pc = .ok (.caload, 1))
    (kk : V x R cells slots Q nL I (A = some z) (pc + 1) ws lv (.int (f i.toNatClampNeg) :: rest)) : V x R cells slots Q nL I ((if inb i n = true then A else none) = some z) pc ws lv (.int i :: .ref a :: rest) := by
  intro h H locs ls hI hl
  by_cases q : inb i n = true
  · exact va_cald (D := d.1) C.1 C.2.1 C.2.2.2.2.2.1.1 (C.2.2.2.2.2.2 ws H locs hI) q0 1 ha rfl (inb_in q) hdg (kk (ite_t q h) H locs ls hI hl)
  · rw [if_neg q] at h; cases h
theorem V_alenI (C : Cx x cc nL own d I) (q0 : Nat) {a n : Nat} {g : (Nat → Int32) ⊕ (Nat → Int64) ⊕ (Nat → UInt32) ⊕ (Nat → UInt64) ⊕ (Nat → Option Nat)} {v : Int32} (ha : ws[q0]? = some (a, .inl (d.2.1, n, g))) (hv : Int32.ofNat n = v) (hdg : decode cc pc = .ok (.arraylength, 1))
    (kk : V x R cells slots Q nL I hyp (pc + 1) ws lv (.int v :: rest)) : V x R cells slots Q nL I hyp pc ws lv (.ref a :: rest) :=
  fun h H locs ls hI hl => va_alen (D := d.1) C.1 C.2.1 C.2.2.2.2.2.1.1 (C.2.2.2.2.2.2 ws H locs hI) q0 0 ha rfl hv hdg (kk h H locs ls hI hl)
theorem V_alenC (C : Cx x cc nL own d I) (q0 : Nat) {a n : Nat} {g : (Nat → Int32) ⊕ (Nat → Int64) ⊕ (Nat → UInt32) ⊕ (Nat → UInt64) ⊕ (Nat → Option Nat)} {v : Int32} (ha : ws[q0]? = some (a, .inl (d.2.2.1, n, g))) (hv : Int32.ofNat n = v) (hdg : decode cc pc = .ok (.arraylength, 1))
    (kk : V x R cells slots Q nL I hyp (pc + 1) ws lv (.int v :: rest)) : V x R cells slots Q nL I hyp pc ws lv (.ref a :: rest) :=
  fun h H locs ls hI hl => va_alen (D := d.1) C.1 C.2.1 C.2.2.2.2.2.1.1 (C.2.2.2.2.2.2 ws H locs hI) q0 1 ha rfl hv hdg (kk h H locs ls hI hl)
theorem V_alenL (C : Cx x cc nL own d I) (q0 : Nat) {a n : Nat} {g : (Nat → Int32) ⊕ (Nat → Int64) ⊕ (Nat → UInt32) ⊕ (Nat → UInt64) ⊕ (Nat → Option Nat)} {v : Int32} (ha : ws[q0]? = some (a, .inl (d.2.2.2, n, g))) (hv : Int32.ofNat n = v) (hdg : decode cc pc = .ok (.arraylength, 1))
    (kk : V x R cells slots Q nL I hyp (pc + 1) ws lv (.int v :: rest)) : V x R cells slots Q nL I hyp pc ws lv (.ref a :: rest) :=
  fun h H locs ls hI hl => va_alen (D := d.1) C.1 C.2.1 C.2.2.2.2.2.1.1 (C.2.2.2.2.2.2 ws H locs hI) q0 2 ha rfl hv hdg (kk h H locs ls hI hl)
end VROWS
