/-! ===== small numbers as nI; literals ===== -/
theorem ub31 {n : Nat} (h : n < 2147483648) : n < 2 ^ 31 := h
theorem la (a k : Nat) : (no_index (OfNat.ofNat a) : Int32) + nI k = nI ((OfNat.ofNat a : Nat) + k) := nI_add a k
theorem al (a k : Nat) : nI k + (no_index (OfNat.ofNat a) : Int32) = nI (k + (OfNat.ofNat a : Nat)) := nI_add k a
theorem ml (a k : Nat) : (no_index (OfNat.ofNat a) : Int32) * nI k = nI ((OfNat.ofNat a : Nat) * k) := pk_mul a k
theorem sbl {a k : Nat} (h : (OfNat.ofNat a : Nat) ≤ k) : nI k - (no_index (OfNat.ofNat a) : Int32) = nI (k - (OfNat.ofNat a : Nat)) := pk_sub h
theorem lsb {a k : Nat} (h : k ≤ (OfNat.ofNat a : Nat)) : (no_index (OfNat.ofNat a) : Int32) - nI k = nI ((OfNat.ofNat a : Nat) - k) := pk_sub h
theorem sbn {a k : Nat} (h : a ≤ k) : nI k - nI a = nI (k - a) := pk_sub h
theorem dvl {a k : Nat} (hk : k < 2147483648) (h0 : 0 < (OfNat.ofNat a : Nat)) (ha : (OfNat.ofNat a : Nat) < 2147483648) : nI k / (no_index (OfNat.ofNat a) : Int32) = nI (k / (OfNat.ofNat a : Nat)) := pk_div hk h0 ha
theorem rml {a k : Nat} (hk : k < 2147483648) (h0 : 0 < (OfNat.ofNat a : Nat)) (ha : (OfNat.ofNat a : Nat) < 2147483648) : jrem (nI k) (no_index (OfNat.ofNat a) : Int32) = nI (k % (OfNat.ofNat a : Nat)) := pk_rem hk h0 ha
theorem ltl {a k : Nat} (hk : k < 2147483648) (ha : (OfNat.ofNat a : Nat) < 2147483648) : (nI k < (no_index (OfNat.ofNat a) : Int32)) = (k < (OfNat.ofNat a : Nat)) := propext (nI_ltI hk ha)
theorem llt {a k : Nat} (hk : k < 2147483648) (ha : (OfNat.ofNat a : Nat) < 2147483648) : ((no_index (OfNat.ofNat a) : Int32) < nI k) = ((OfNat.ofNat a : Nat) < k) := propext (nI_ltI ha hk)
theorem lel {a k : Nat} (hk : k < 2147483648) (ha : (OfNat.ofNat a : Nat) < 2147483648) : (nI k ≤ (no_index (OfNat.ofNat a) : Int32)) = (k ≤ (OfNat.ofNat a : Nat)) := propext (nI_leI hk ha)
theorem lle {a k : Nat} (hk : k < 2147483648) (ha : (OfNat.ofNat a : Nat) < 2147483648) : ((no_index (OfNat.ofNat a) : Int32) ≤ nI k) = ((OfNat.ofNat a : Nat) ≤ k) := propext (nI_leI ha hk)
theorem eql {a k : Nat} (hk : k < 2147483648) (ha : (OfNat.ofNat a : Nat) < 2147483648) : (nI k = (no_index (OfNat.ofNat a) : Int32)) = (k = (OfNat.ofNat a : Nat)) := propext (nI_eq hk ha)
theorem leq {a k : Nat} (hk : k < 2147483648) (ha : (OfNat.ofNat a : Nat) < 2147483648) : ((no_index (OfNat.ofNat a) : Int32) = nI k) = ((OfNat.ofNat a : Nat) = k) := propext (nI_eq ha hk)
theorem ltn {a k : Nat} (hk : k < 2147483648) (ha : a < 2147483648) : (nI k < nI a) = (k < a) := propext (nI_ltI hk ha)
theorem len' {a k : Nat} (hk : k < 2147483648) (ha : a < 2147483648) : (nI k ≤ nI a) = (k ≤ a) := propext (nI_leI hk ha)
theorem eqn {a k : Nat} (hk : k < 2147483648) (ha : a < 2147483648) : (nI k = nI a) = (k = a) := propext (nI_eq hk ha)
theorem nI_m1 {k : Nat} (hk : k < 2147483648) : (nI k = (-1)) = False := by
  refine eq_false fun h => ?_
  have h1 := congrArg Int32.toInt h
  rw [nI_toInt hk] at h1
  have h2 : ((-1 : Int32)).toInt = -1 := by decide
  omega
theorem m1_nI {k : Nat} (hk : k < 2147483648) : ((-1) = nI k) = False := eq_false fun h => by
  have := nI_m1 hk
  rw [← h] at this
  exact absurd this (by simp)
theorem m1_lt : ((-1 : Int32) < 0) = True := eq_true (by decide)
theorem m1_ge : ((0 : Int32) ≤ -1) = False := eq_false (by decide)
theorem inbT {k n : Nat} (h : k < n) (hn : n ≤ 2147483648) : inb (nI k) n = true := by
  have h1 : ¬ nI k < 0 := nI_pos (by omega)
  have h2 : (nI k).toNatClampNeg = k := nI_clamp (by omega)
  unfold inb
  rw [h2]
  exact decide_eq_true (fun q => q.elim h1 (fun q => by omega))
theorem clp {k : Nat} (h : k < 2147483648) : (nI k).toNatClampNeg = k := nI_clamp h
theorem upd_s {f : Nat → Int32} {j k : Nat} {x : Int32} (h : j = k) : upd f k x j = x := by simp [upd, h]
theorem upd_n {f : Nat → Int32} {j k : Nat} {x : Int32} (h : j ≠ k) : upd f k x j = f j := by simp [upd, h]
theorem fin1 (p : Int32) (h : Nat) (hh : h < 2147483648) : (∃ j, j ≤ h ∧ p = nI j) ∨ (p < 0 ∨ nI h < p) := by
  by_cases h1 : p < 0
  · exact Or.inr (Or.inl h1)
  · by_cases h2 : nI h < p
    · exact Or.inr (Or.inr h2)
    · exact Or.inl (nI_of2 (nI_toInt hh) h1 (Int32.not_lt.mp h2))
theorem isIn_y {p l h : Int32} (h1 : ¬ p < l) (h2 : ¬ h < p) : f_X6_isIn p l h = some 1 := by unfold f_X6_isIn; rw [if_neg h1, if_neg h2]
theorem isIn_n {p l h : Int32} (h1 : p < l ∨ h < p) : f_X6_isIn p l h = some 0 := by
  unfold f_X6_isIn
  rcases h1 with q | q
  · rw [if_pos q]
  · by_cases r : p < l
    · rw [if_pos r]
    · rw [if_neg r, if_pos q]
theorem in_y {p l h : Int32} (h1 : ¬ p < l) (h2 : ¬ h < p) : f_X7_in p l h = some 1 := by unfold f_X7_in; rw [if_neg h1, if_neg h2]
theorem in_n {p l h : Int32} (h1 : p < l ∨ h < p) : f_X7_in p l h = some 0 := by
  unfold f_X7_in
  rcases h1 with q | q
  · rw [if_pos q]
  · by_cases r : p < l
    · rw [if_pos r]
    · rw [if_neg r, if_pos q]
theorem isIn_k {j a b : Nat} (h1 : (OfNat.ofNat a : Nat) ≤ j) (h2 : j ≤ (OfNat.ofNat b : Nat)) (hb : (OfNat.ofNat b : Nat) < 2147483648) : f_X6_isIn (nI j) (no_index (OfNat.ofNat a)) (no_index (OfNat.ofNat b)) = some 1 :=
  isIn_y (by rw [ltl (by omega) (by omega)]; omega) (by rw [llt (by omega) hb]; omega)
theorem in_k {j a b : Nat} (h1 : (OfNat.ofNat a : Nat) ≤ j) (h2 : j ≤ (OfNat.ofNat b : Nat)) (hb : (OfNat.ofNat b : Nat) < 2147483648) : f_X7_in (nI j) (no_index (OfNat.ofNat a)) (no_index (OfNat.ofNat b)) = some 1 :=
  in_y (by rw [ltl (by omega) (by omega)]; omega) (by rw [llt (by omega) hb]; omega)
/-! ===== the view: numbers behind both states ===== -/
def eC (c : Nat) : Int32 := if c = 30 then -1 else nI c
def eL (k : Nat) : Int32 := if k = 37 then -1 else nI k
def kd (k : Nat) : Nat := if k < 32 then 0 else if k < 35 then 1 else if k < 37 then 2 else 3
def uN (f : Nat → Nat) (k v : Nat) : Nat → Nat := fun j => if j = k then v else f j
theorem uN_s {f : Nat → Nat} {j k v : Nat} (h : j = k) : uN f k v j = v := by simp [uN, h]
theorem uN_n {f : Nat → Nat} {j k v : Nat} (h : j ≠ k) : uN f k v j = f j := by simp [uN, h]
def pw (P : Nat) (wt at' : Nat → Nat) : Nat := (if 0 < P then wt (at' 32) else 0) + (if 1 < P then wt (at' 33) else 0) + (if 2 < P then wt (at' 34) else 0)
def OKv (W P N M z lm k13 k14 k15 : Nat) (wt loc at' ho fi : Nat → Nat) : Prop :=
  W < 8 ∧ P ≤ 3 ∧ N ≤ 30 ∧ M ≤ 12 ∧ z ≤ 1 ∧ lm ≤ 1 ∧ (∀ k, k < 37 → at' k = 30 ∨ (at' k < N ∧ loc (at' k) = k)) ∧ (∀ c, c < N → loc c = 37 ∨ (loc c < 37 ∧ at' (loc c) = c)) ∧ (∀ i, i < 3 → (at' (32 + i) = 30 ↔ P ≤ i)) ∧ (∀ c, c < N → 1 ≤ wt c ∧ wt c ≤ 20) ∧ (∀ x, x < 60 → ho x = 30 ∨ ho x < N) ∧ (∀ k, k < M → fi k < 60) ∧
  (at' 35 ≠ 30 → at' 36 ≠ 30 → (lm = 0 ∧ k14 < k13) ∨ (lm = 1 ∧ k13 < k14)) ∧ (at' 35 ≠ 30 → k13 < k15) ∧ (at' 36 ≠ 30 → k14 < k15) ∧ k13 ≤ k15 ∧ k14 ≤ k15
def RC (W P N M z lm : Nat) (wt loc at' ho fi : Nat → Nat) (we by' ra ti : Nat → Int32) (tk tu se : Int32) (u : UL) : Prop :=
  ∃ (cwt cwe cby csl coc cho rf rr rt : UA), u = ((cwt, cwe, cby, csl, coc, cho, nI N), (rf, rr, rt, nI M), nI W, nI z, nI P, nI (pw P wt at'), nI lm, tk, tu, se) ∧ (∀ c, c < N → cwt c = nI (wt c) ∧ cwe c = we c ∧ cby c = by' c ∧ csl c = eL (loc c)) ∧ (∀ k, k < 37 → coc k = eC (at' k)) ∧ (∀ x, x < 60 → cho x = eC (ho x)) ∧ (∀ k, k < M → rf k = nI (fi k) ∧ rr k = ra k ∧ rt k = ti k)
def RX (W P N M z k13 k14 k15 : Nat) (wt loc at' ho fi : Nat → Nat) (we by' ra ti : Nat → Int32) (tk tu se : Int32) (s : UA) : Prop :=
  s 0 = tk ∧ s 1 = nI W ∧ s 2 = nI P ∧ s 6 = nI z ∧ s 7 = nI N ∧ s 8 = nI M ∧ s 9 = se ∧ s 10 = tu ∧ s 13 = nI k13 ∧ s 14 = nI k14 ∧ s 15 = nI k15 ∧ (∀ k, k < 32 → s (16 + k) = eC (at' k)) ∧ (∀ e, e < 2 → s (11 + e) = eC (at' (35 + e))) ∧ (∀ i, i < P → s (3 + i) = eC (at' (32 + i))) ∧ (∀ c, c < N → s (48 + 4 * c) = nI (wt c) ∧ s (48 + 4 * c + 1) = we c ∧ s (48 + 4 * c + 2) = nI (kd (loc c)) ∧ s (48 + 4 * c + 3) = by' c) ∧ (∀ x, x < 60 → s (168 + x) = eC (ho x)) ∧ (∀ k, k < M → s (228 + 3 * k) = nI (fi k) ∧ s (228 + 3 * k + 1) = ra k ∧ s (228 + 3 * k + 2) = ti k)
def Sim (W P N M z lm k13 k14 k15 : Nat) (wt loc at' ho fi : Nat → Nat) (we by' ra ti : Nat → Int32) (tk tu se : Int32) (u : UL) (s : UA) : Prop :=
  OKv W P N M z lm k13 k14 k15 wt loc at' ho fi ∧ RC W P N M z lm wt loc at' ho fi we by' ra ti tk tu se u ∧ RX W P N M z k13 k14 k15 wt loc at' ho fi we by' ra ti tk tu se s
/-- program and model hold the same state; at most B mounts so far -/
def Rel (B : Nat) (u : UL) (s : UA) : Prop := ∃ (W P N M z lm k13 k14 k15 : Nat) (wt loc at' ho fi : Nat → Nat) (we by' ra ti : Nat → Int32) (tk tu se : Int32), Sim W P N M z lm k13 k14 k15 wt loc at' ho fi we by' ra ti tk tu se u s ∧ k15 ≤ B
