/-! ===== the program's moves under the view ===== -/
theorem eL_37 : eL 37 = -1 := rfl
theorem eL_n {k : Nat} (h : k ≠ 37) : eL k = nI k := by simp [eL, h]
theorem eC_30 : eC 30 = -1 := rfl
theorem eC_n {k : Nat} (h : k ≠ 30) : eC k = nI k := by simp [eC, h]
theorem moveTo_b41_eq (cwt cwe cby csl coc cho : UA) (n : Int32) {c t : Nat} (hc : c < 30) (ht : t ≤ 37) : f_X0_moveTo_b41 (cwt, cwe, cby, csl, coc, cho, n) (nI c) (eL t) = some (cwt, cwe, cby, upd csl c (eL t), (if t = 37 then coc else upd coc t (nI c)), cho, n) := by
  unfold f_X0_moveTo_b41
  by_cases h : t = 37
  · subst h
    simp (disch := omega) only [eL_37, inbT, clp, m1_lt, if_true]
  · simp (disch := omega) only [eL_n, inbT, clp, ltl, lle, if_true, if_neg h]
    rw [if_neg (by omega), if_neg (by omega)]
theorem moveTo_eq (cwt cwe cby csl coc cho : UA) (n : Int32) {c t l : Nat} (hc : c < 30) (ht : t ≤ 37) (hl : l ≤ 37) (hs : csl c = eL l) : f_X0_moveTo (cwt, cwe, cby, csl, coc, cho, n) (nI c) (eL t) = some (cwt, cwe, cby, upd csl c (eL t), (if t = 37 then (if l = 37 then coc else upd coc l (-1)) else upd (if l = 37 then coc else upd coc l (-1)) t (nI c)), cho, n) := by
  unfold f_X0_moveTo
  by_cases h : l = 37
  · subst h
    simp (disch := omega) only [inbT, clp, hs, eL_37, m1_lt, if_true, ltl, moveTo_b41_eq]
    rw [if_neg (by omega), if_pos (by omega)]
  · simp (disch := omega) only [inbT, clp, hs, eL_n h, if_true, ltl, lle, moveTo_b41_eq, if_neg h]
    rw [if_neg (by omega), if_pos (by omega), if_neg (by omega), if_neg (by omega)]
theorem slotOf_eq (u : UC) {c : Nat} (hc : c < 30) : f_X0_slotOf u (nI c) = some (u.2.2.2.1 c) := by
  unfold f_X0_slotOf
  simp (disch := omega) only [inbT, clp, if_true, ltl, lle]
  rw [if_neg (by omega), if_neg (by omega)]
theorem inSlot_eq (u : UC) {k : Nat} (hk : k < 37) : f_X0_inSlot u (nI k) = some (u.2.2.2.2.1 k) := by
  unfold f_X0_inSlot
  simp (disch := omega) only [inbT, clp, if_true, ltl, lle]
  rw [if_neg (by omega), if_neg (by omega)]
theorem weightOf_eq (u : UC) {c : Nat} (hc : c < 30) : f_X0_weightOf u (nI c) = some (u.1 c) := by
  unfold f_X0_weightOf
  simp (disch := omega) only [inbT, clp, if_true, ltl, lle]
  rw [if_neg (by omega), if_neg (by omega)]
theorem wearOf_eq (u : UC) {c : Nat} (hc : c < 30) : f_X0_wearOf u (nI c) = some (u.2.1 c) := by
  unfold f_X0_wearOf
  simp (disch := omega) only [inbT, clp, if_true, ltl, lle]
  rw [if_neg (by omega), if_neg (by omega)]
theorem servedBy_eq (u : UC) {c : Nat} (hc : c < 30) : f_X0_servedBy u (nI c) = some (u.2.2.1 c) := by
  unfold f_X0_servedBy
  simp (disch := omega) only [inbT, clp, if_true, ltl, lle]
  rw [if_neg (by omega), if_neg (by omega)]
theorem holderOf_eq (u : UC) {x : Nat} (hx : x < 60) : f_X0_holderOf u (nI x) = some (u.2.2.2.2.2.1 x) := by
  unfold f_X0_holderOf
  simp (disch := omega) only [inbT, clp, if_true, ltl, lle]
  rw [if_neg (by omega), if_neg (by omega)]
theorem shelfSlot_eq (a b : Nat) : f_X6_shelfSlot (nI a) (nI b) = some (nI (4 * a + b)) := by
  unfold f_X6_shelfSlot
  rw [ml, nI_add]
theorem isShelf_y {a b : Nat} (ha : a ≤ 7) (hb : b ≤ 3) : f_X6_isShelf (nI a) (nI b) = some 1 := by
  unfold f_X6_isShelf
  rw [isIn_k (by omega) ha (by omega), isIn_k (by omega) hb (by omega)]
  rfl
theorem isShelf_n {a : Nat} {p : Int32} (ha : a ≤ 7) (hb : p < 0 ∨ nI 3 < p) : f_X6_isShelf (nI a) p = some 0 := by
  unfold f_X6_isShelf
  rw [isIn_k (by omega) ha (by omega), isIn_n (h := 3) hb]
  rfl
