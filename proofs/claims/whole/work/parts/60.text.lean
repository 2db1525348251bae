/-! ===== the text: signs, letters, words ===== -/
def sgn (f : UA) (T i : Nat) : Int32 := if i < T then f i else -1
theorem signAt_eq (f : UA) {T : Nat} (hT : T ≤ 60) (r) {i : Nat} (hi : i ≤ 60) : f_X3_signAt (f, nI T, r) (nI i) = some (sgn f T i) := by
  unfold f_X3_signAt
  refine ino (by rw [ltl (by omega) (by omega)]; omega) ?_
  unfold sgn
  by_cases h : i < T
  · refine ino (by rw [len' (by omega) (by omega)]; omega) (ino (by rw [lle (by omega) (by omega)]; omega) (iy (inbT (by omega) (by omega)) ?_))
    rw [if_pos h, clp (by omega)]
  · exact iy (by rw [len' (by omega) (by omega)]; omega) (by rw [if_neg h])
theorem sign_eq (s was bg a : UA) (st : Int32) (f : UA) {T : Nat} (hT : T ≤ 60) {i : Nat} (hi : i ≤ 60) (r) : f_X7_sign (s, was, bg, a, st, f, nI T, nI i, r) = some (sgn f T i) := by
  unfold f_X7_sign
  unfold sgn
  by_cases h : i < T
  · refine ino (by rw [len' (by omega) (by omega)]; omega) (iy (inbT (by omega) (by omega)) ?_)
    rw [if_pos h, clp (by omega)]
  · exact iy (by rw [len' (by omega) (by omega)]; omega) (by rw [if_neg h])
/-- what the reader does once the letters are at an end -/
def rdK (u : UX) (v1 : Int32) : Option (Int32 × UX) := ((f_X7_wordFrom u v1).bind fun r35 => (if 0 ≤ r35 then (if r35 = 2 then f_X7_reads_b126 (u.1, u.2.1, u.2.2.1, u.2.2.2.1, u.2.2.2.2.1, u.2.2.2.2.2.1, u.2.2.2.2.2.2.1, u.2.2.2.2.2.2.2.1, u.2.2.2.2.2.2.2.2.1, u.2.2.2.2.2.2.2.2.2.1, u.2.2.2.2.2.2.2.2.2.2.1, r35, u.2.2.2.2.2.2.2.2.2.2.2.2.1, u.2.2.2.2.2.2.2.2.2.2.2.2.2) v1 else ((f_X7_sign (u.1, u.2.1, u.2.2.1, u.2.2.2.1, u.2.2.2.2.1, u.2.2.2.2.2.1, u.2.2.2.2.2.2.1, u.2.2.2.2.2.2.2.1, u.2.2.2.2.2.2.2.2.1, u.2.2.2.2.2.2.2.2.2.1, u.2.2.2.2.2.2.2.2.2.2.1, r35, u.2.2.2.2.2.2.2.2.2.2.2.2.1, u.2.2.2.2.2.2.2.2.2.2.2.2.2)).bind fun r59 => (if r59 = 32 then ((f_X7_sign (u.1, u.2.1, u.2.2.1, u.2.2.2.1, u.2.2.2.2.1, u.2.2.2.2.2.1, u.2.2.2.2.2.2.1, (u.2.2.2.2.2.2.2.1 + 1), u.2.2.2.2.2.2.2.2.1, u.2.2.2.2.2.2.2.2.2.1, u.2.2.2.2.2.2.2.2.2.2.1, r35, u.2.2.2.2.2.2.2.2.2.2.2.2.1, u.2.2.2.2.2.2.2.2.2.2.2.2.2)).bind fun r85 => ((f_X7_in r85 48 57).bind fun r92 => (if r92 = 0 then some (((u.2.2.2.2.2.2.2.1 + 1) - v1), (u.1, u.2.1, u.2.2.1, u.2.2.2.1, u.2.2.2.2.1, u.2.2.2.2.2.1, u.2.2.2.2.2.2.1, (u.2.2.2.2.2.2.2.1 + 1), u.2.2.2.2.2.2.2.2.1, u.2.2.2.2.2.2.2.2.2.1, u.2.2.2.2.2.2.2.2.2.2.1, r35, u.2.2.2.2.2.2.2.2.2.2.2.2.1, u.2.2.2.2.2.2.2.2.2.2.2.2.2)) else ((f_X7_sign (u.1, u.2.1, u.2.2.1, u.2.2.2.1, u.2.2.2.2.1, u.2.2.2.2.2.1, u.2.2.2.2.2.2.1, (u.2.2.2.2.2.2.2.1 + 1), u.2.2.2.2.2.2.2.2.1, u.2.2.2.2.2.2.2.2.2.1, u.2.2.2.2.2.2.2.2.2.2.1, r35, u.2.2.2.2.2.2.2.2.2.2.2.2.1, u.2.2.2.2.2.2.2.2.2.2.2.2.2)).bind fun r107 => f_X7_reads_b126 (u.1, u.2.1, u.2.2.1, u.2.2.2.1, u.2.2.2.2.1, u.2.2.2.2.2.1, u.2.2.2.2.2.2.1, ((u.2.2.2.2.2.2.2.1 + 1) + 1), u.2.2.2.2.2.2.2.2.1, u.2.2.2.2.2.2.2.2.2.1, (r107 - 48), r35, u.2.2.2.2.2.2.2.2.2.2.2.2.1, u.2.2.2.2.2.2.2.2.2.2.2.2.2) v1)))) else some ((u.2.2.2.2.2.2.2.1 - v1), (u.1, u.2.1, u.2.2.1, u.2.2.2.1, u.2.2.2.2.1, u.2.2.2.2.2.1, u.2.2.2.2.2.2.1, u.2.2.2.2.2.2.2.1, u.2.2.2.2.2.2.2.2.1, u.2.2.2.2.2.2.2.2.2.1, u.2.2.2.2.2.2.2.2.2.2.1, r35, u.2.2.2.2.2.2.2.2.2.2.2.2.1, u.2.2.2.2.2.2.2.2.2.2.2.2.2))))) else some (0, (u.1, u.2.1, u.2.2.1, u.2.2.2.1, u.2.2.2.2.1, u.2.2.2.2.2.1, u.2.2.2.2.2.2.1, u.2.2.2.2.2.2.2.1, u.2.2.2.2.2.2.2.2.1, u.2.2.2.2.2.2.2.2.2.1, u.2.2.2.2.2.2.2.2.2.2.1, r35, u.2.2.2.2.2.2.2.2.2.2.2.2.1, u.2.2.2.2.2.2.2.2.2.2.2.2.2))))
theorem letters_ok (f : UA) {T : Nat} (hT : T ≤ 60) (i : Nat) (hi : i ≤ T) : ∀ d k, i + k + d = T → ∃ n, k ≤ n ∧ i + n ≤ T ∧ (∀ (m1 : Nat) r0, d < m1 → f_X3_lettersFrom_b2 m1 (f, nI T, r0) (nI i) (nI k) = some (nI n)) ∧ ∀ (m2 : Nat) (s was bg a : UA) (st : Int32) (r), d < m2 → f_X7_reads_b5 m2 (s, was, bg, a, st, f, nI T, nI (i + k), r) (nI i) = rdK (s, was, bg, a, st, f, nI T, nI (i + n), r) (nI i) := by
  intro d
  induction d with
  | zero =>
    intro k h
    have e : sgn f T (i + k) = -1 := if_neg (by omega)
    refine ⟨k, Nat.le_refl _, by omega, fun m1 r0 hm1 => ?_, fun m2 s was bg a st r hm2 => ?_⟩
    · obtain ⟨m, rfl⟩ : ∃ m, m1 = m + 1 := ⟨m1 - 1, by omega⟩
      rw [f_X3_lettersFrom_b2]
      by_cases h60 : k = 60
      · exact iy (by rw [lle (by omega) (by omega)]; omega) rfl
      · refine ino (by rw [lle (by omega) (by omega)]; omega) (bnd (a := -1) ?_ (bnd (isIn_n (by decide)) (iy rfl rfl)))
        rw [nI_add, signAt_eq f hT _ (by omega), e]
    · obtain ⟨m', rfl⟩ : ∃ m', m2 = m' + 1 := ⟨m2 - 1, by omega⟩
      rw [f_X7_reads_b5]
      refine bnd (a := -1) ?_ (bnd (in_n (by decide)) (iy rfl rfl))
      rw [sign_eq _ _ _ _ _ f hT (by omega), e]
  | succ d ih =>
    intro k h
    by_cases q : sgn f T (i + k) < 97 ∨ 122 < sgn f T (i + k)
    · refine ⟨k, Nat.le_refl _, by omega, fun m1 r0 hm1 => ?_, fun m2 s was bg a st r hm2 => ?_⟩
      · obtain ⟨m, rfl⟩ : ∃ m, m1 = m + 1 := ⟨m1 - 1, by omega⟩
        rw [f_X3_lettersFrom_b2]
        refine ino (by rw [lle (by omega) (by omega)]; omega) (bnd (a := sgn f T (i + k)) ?_ (bnd (isIn_n q) (iy rfl rfl)))
        rw [nI_add, signAt_eq f hT _ (by omega)]
      · obtain ⟨m', rfl⟩ : ∃ m', m2 = m' + 1 := ⟨m2 - 1, by omega⟩
        rw [f_X7_reads_b5]
        exact bnd (sign_eq _ _ _ _ _ f hT (by omega) _) (bnd (in_n q) (iy rfl rfl))
    · have q1 : ¬ sgn f T (i + k) < 97 := fun x => q (Or.inl x)
      have q2 : ¬ 122 < sgn f T (i + k) := fun x => q (Or.inr x)
      obtain ⟨n, h1, h2, h3, h4⟩ := ih (k + 1) (by omega)
      refine ⟨n, by omega, h2, fun m1 r0 hm1 => ?_, fun m2 s was bg a st r hm2 => ?_⟩
      · obtain ⟨m, rfl⟩ : ∃ m, m1 = m + 1 := ⟨m1 - 1, by omega⟩
        rw [f_X3_lettersFrom_b2]
        refine ino (by rw [lle (by omega) (by omega)]; omega) (bnd (a := sgn f T (i + k)) ?_ (bnd (isIn_y q1 q2) (ino (by decide) ?_)))
        · rw [nI_add, signAt_eq f hT _ (by omega)]
        · rw [al]
          exact h3 m r0 (by omega)
      · obtain ⟨m', rfl⟩ : ∃ m', m2 = m' + 1 := ⟨m2 - 1, by omega⟩
        rw [f_X7_reads_b5]
        refine bnd (sign_eq _ _ _ _ _ f hT (by omega) _) (bnd (in_y q1 q2) (ino (by decide) ?_))
        dsimp only
        rw [al]
        exact h4 m' s was bg a st r (by omega)
/-! words -/
theorem st_step (k : Nat) (m : Nat) (f : UA) {T : Nat} (hT : T ≤ 60) (r) {i v : Nat} (h1 : i + v < T) (h2 : v < stL.getD k 0) (h3 : stL.getD k 0 ≤ 5) : f_X3_standsAt_b13 k (m + 1) (f, nI T, r) (nI i) (nI v) = if f (i + v) = stCh k (nI v) then f_X3_standsAt_b13 k m (f, nI T, r) (nI i) (nI (v + 1)) else some 0 := by
  rw [f_X3_standsAt_b13]
  refine ino (by rw [len' (by omega) (by omega)]; omega) (bnd (a := f (i + v)) ?_ (iy (inbT (by omega) (by omega)) ?_))
  · rw [nI_add, signAt_eq f hT r (by omega)]
    unfold sgn
    rw [if_pos h1]
  · rw [al]
theorem st_end (k : Nat) (m : Nat) (u : UO) (i : Int32) : f_X3_standsAt_b13 k (m + 1) u i (nI (stL.getD k 0)) = some 1 := by
  rw [f_X3_standsAt_b13]
  exact iy (Int32.le_refl _) rfl
def W3 (n : Nat) (f : UA) (i : Nat) (a b c : Int32) : Int32 := if n = 3 then (if f i = a then (if f (i + 1) = b then (if f (i + 2) = c then 1 else 0) else 0) else 0) else 0
def W4 (n : Nat) (f : UA) (i : Nat) (a b c e : Int32) : Int32 := if n = 4 then (if f i = a then (if f (i + 1) = b then (if f (i + 2) = c then (if f (i + 3) = e then 1 else 0) else 0) else 0) else 0) else 0
def W5 (n : Nat) (f : UA) (i : Nat) (a b c e g : Int32) : Int32 := if n = 5 then (if f i = a then (if f (i + 1) = b then (if f (i + 2) = c then (if f (i + 3) = e then (if f (i + 4) = g then 1 else 0) else 0) else 0) else 0) else 0) else 0
theorem st3 (k : Nat) (hk : stL.getD k 0 = 3) (f : UA) {T : Nat} (hT : T ≤ 60) (r) {i n : Nat} (h : i + n ≤ T) : f_X3_standsAt k (f, nI T, r) (nI i) (nI n) = some (W3 n f i (stCh k (nI 0)) (stCh k (nI 1)) (stCh k (nI 2))) := by
  unfold f_X3_standsAt W3
  by_cases hn : n = 3
  · subst hn
    have e0 := st_end k (FUEL - 4) (f, nI T, r) (nI i)
    rw [hk] at e0
    refine iy (by rw [hk]) ?_
    show f_X3_standsAt_b13 k (FUEL - 4 + 1 + 1 + 1 + 1) (f, nI T, r) (nI i) (nI 0) = _
    rw [st_step k _ f hT r (by omega) (by omega) (by omega), st_step k _ f hT r (by omega) (by omega) (by omega), st_step k _ f hT r (by omega) (by omega) (by omega), e0, if_pos rfl]
    by_cases c0 : f i = stCh k (nI 0)
    · by_cases c1 : f (i + 1) = stCh k (nI 1)
      · by_cases c2 : f (i + 2) = stCh k (nI 2)
        · exact (iy c0 (iy c1 (iy c2 rfl))).trans (congrArg some (iy c0 (iy c1 (iy c2 rfl)))).symm
        · exact (iy c0 (iy c1 (ino c2 rfl))).trans (congrArg some (iy c0 (iy c1 (ino c2 rfl)))).symm
      · exact (iy c0 (ino c1 rfl)).trans (congrArg some (iy c0 (ino c1 rfl))).symm
    · exact (ino c0 rfl).trans (congrArg some (ino c0 rfl)).symm
  · rw [if_neg hn]
    exact ino (by rw [hk, eqn (by omega) (by omega)]; omega) rfl
theorem st4 (k : Nat) (hk : stL.getD k 0 = 4) (f : UA) {T : Nat} (hT : T ≤ 60) (r) {i n : Nat} (h : i + n ≤ T) : f_X3_standsAt k (f, nI T, r) (nI i) (nI n) = some (W4 n f i (stCh k (nI 0)) (stCh k (nI 1)) (stCh k (nI 2)) (stCh k (nI 3))) := by
  unfold f_X3_standsAt W4
  by_cases hn : n = 4
  · subst hn
    have e0 := st_end k (FUEL - 5) (f, nI T, r) (nI i)
    rw [hk] at e0
    refine iy (by rw [hk]) ?_
    show f_X3_standsAt_b13 k (FUEL - 5 + 1 + 1 + 1 + 1 + 1) (f, nI T, r) (nI i) (nI 0) = _
    rw [st_step k _ f hT r (by omega) (by omega) (by omega), st_step k _ f hT r (by omega) (by omega) (by omega), st_step k _ f hT r (by omega) (by omega) (by omega), st_step k _ f hT r (by omega) (by omega) (by omega), e0, if_pos rfl]
    by_cases c0 : f i = stCh k (nI 0)
    · by_cases c1 : f (i + 1) = stCh k (nI 1)
      · by_cases c2 : f (i + 2) = stCh k (nI 2)
        · by_cases c3 : f (i + 3) = stCh k (nI 3)
          · exact (iy c0 (iy c1 (iy c2 (iy c3 rfl)))).trans (congrArg some (iy c0 (iy c1 (iy c2 (iy c3 rfl))))).symm
          · exact (iy c0 (iy c1 (iy c2 (ino c3 rfl)))).trans (congrArg some (iy c0 (iy c1 (iy c2 (ino c3 rfl))))).symm
        · exact (iy c0 (iy c1 (ino c2 rfl))).trans (congrArg some (iy c0 (iy c1 (ino c2 rfl)))).symm
      · exact (iy c0 (ino c1 rfl)).trans (congrArg some (iy c0 (ino c1 rfl))).symm
    · exact (ino c0 rfl).trans (congrArg some (ino c0 rfl)).symm
  · rw [if_neg hn]
    exact ino (by rw [hk, eqn (by omega) (by omega)]; omega) rfl
theorem st5 (k : Nat) (hk : stL.getD k 0 = 5) (f : UA) {T : Nat} (hT : T ≤ 60) (r) {i n : Nat} (h : i + n ≤ T) : f_X3_standsAt k (f, nI T, r) (nI i) (nI n) = some (W5 n f i (stCh k (nI 0)) (stCh k (nI 1)) (stCh k (nI 2)) (stCh k (nI 3)) (stCh k (nI 4))) := by
  unfold f_X3_standsAt W5
  by_cases hn : n = 5
  · subst hn
    have e0 := st_end k (FUEL - 6) (f, nI T, r) (nI i)
    rw [hk] at e0
    refine iy (by rw [hk]) ?_
    show f_X3_standsAt_b13 k (FUEL - 6 + 1 + 1 + 1 + 1 + 1 + 1) (f, nI T, r) (nI i) (nI 0) = _
    rw [st_step k _ f hT r (by omega) (by omega) (by omega), st_step k _ f hT r (by omega) (by omega) (by omega), st_step k _ f hT r (by omega) (by omega) (by omega), st_step k _ f hT r (by omega) (by omega) (by omega), st_step k _ f hT r (by omega) (by omega) (by omega), e0, if_pos rfl]
    by_cases c0 : f i = stCh k (nI 0)
    · by_cases c1 : f (i + 1) = stCh k (nI 1)
      · by_cases c2 : f (i + 2) = stCh k (nI 2)
        · by_cases c3 : f (i + 3) = stCh k (nI 3)
          · by_cases c4 : f (i + 4) = stCh k (nI 4)
            · exact (iy c0 (iy c1 (iy c2 (iy c3 (iy c4 rfl))))).trans (congrArg some (iy c0 (iy c1 (iy c2 (iy c3 (iy c4 rfl)))))).symm
            · exact (iy c0 (iy c1 (iy c2 (iy c3 (ino c4 rfl))))).trans (congrArg some (iy c0 (iy c1 (iy c2 (iy c3 (ino c4 rfl)))))).symm
          · exact (iy c0 (iy c1 (iy c2 (ino c3 rfl)))).trans (congrArg some (iy c0 (iy c1 (iy c2 (ino c3 rfl))))).symm
        · exact (iy c0 (iy c1 (ino c2 rfl))).trans (congrArg some (iy c0 (iy c1 (ino c2 rfl)))).symm
      · exact (iy c0 (ino c1 rfl)).trans (congrArg some (iy c0 (ino c1 rfl))).symm
    · exact (ino c0 rfl).trans (congrArg some (ino c0 rfl)).symm
  · rw [if_neg hn]
    exact ino (by rw [hk, eqn (by omega) (by omega)]; omega) rfl
/-! the model's words -/
theorem iw3 (s was bg z : UA) (st : Int32) (f : UA) {T : Nat} (hT : T ≤ 60) (r) {i n : Nat} (h : i + n ≤ T) {a b c : Int32} (hc : ¬ c = 32) : f_X7_isWord (s, was, bg, z, st, f, nI T, nI (i + n), r) (nI i) a b c 32 32 = some (W3 n f i a b c) := by
  unfold f_X7_isWord W3
  refine ino hc (iy rfl ?_)
  unfold f_X7_isWord_b34
  dsimp only
  rw [sbn (by omega), Nat.add_sub_cancel_left]
  by_cases hn : n = 3
  · subst hn
    refine iy rfl ?_
    unfold f_X7_isWord_b52
    dsimp only
    rw [al, al, clp (by omega), clp (by omega), clp (by omega), if_pos rfl]
    refine ino (by decide) (iy (inbT (by omega) (by omega)) ?_)
    by_cases c0 : f i = a
    · rw [if_pos c0, if_pos c0]
      refine iy (inbT (by omega) (by omega)) ?_
      by_cases c1 : f (i + 1) = b
      · rw [if_pos c1, if_pos c1]
        refine ino hc (iy (inbT (by omega) (by omega)) ?_)
        by_cases c2 : f (i + 2) = c
        · rw [if_pos c2, if_pos c2]
          rfl
        · rw [if_neg c2, if_neg c2]
          rfl
      · rw [if_neg c1, if_neg c1]
        rfl
    · rw [if_neg c0, if_neg c0]
      rfl
  · rw [if_neg hn]
    refine ino (by rw [eql (by omega) (by omega)]; exact hn) ?_
    rfl
theorem iw4 (s was bg z : UA) (st : Int32) (f : UA) {T : Nat} (hT : T ≤ 60) (r) {i n : Nat} (h : i + n ≤ T) {a b c e : Int32} (hc : ¬ c = 32) (he : ¬ e = 32) : f_X7_isWord (s, was, bg, z, st, f, nI T, nI (i + n), r) (nI i) a b c e 32 = some (W4 n f i a b c e) := by
  unfold f_X7_isWord W4
  refine ino hc (ino he (iy rfl ?_))
  unfold f_X7_isWord_b34
  dsimp only
  rw [sbn (by omega), Nat.add_sub_cancel_left]
  by_cases hn : n = 4
  · subst hn
    refine iy rfl ?_
    unfold f_X7_isWord_b52
    dsimp only
    rw [al, al, clp (by omega), clp (by omega), clp (by omega), if_pos rfl]
    refine ino (by decide) (iy (inbT (by omega) (by omega)) ?_)
    by_cases c0 : f i = a
    · rw [if_pos c0, if_pos c0]
      refine iy (inbT (by omega) (by omega)) ?_
      by_cases c1 : f (i + 1) = b
      · rw [if_pos c1, if_pos c1]
        refine ino hc (iy (inbT (by omega) (by omega)) ?_)
        by_cases c2 : f (i + 2) = c
        · rw [if_pos c2, if_pos c2]
          unfold f_X7_isWord_b101 f_X7_isWord_b106
          dsimp only
          rw [al, clp (by omega)]
          refine ino (by decide) (ino he (iy (inbT (by omega) (by omega)) ?_))
          by_cases c3 : f (i + 3) = e
          · rw [if_pos c3, if_pos c3]
            rfl
          · rw [if_neg c3, if_neg c3]
        · rw [if_neg c2, if_neg c2]
          rfl
      · rw [if_neg c1, if_neg c1]
        rfl
    · rw [if_neg c0, if_neg c0]
      rfl
  · rw [if_neg hn]
    refine ino (by rw [eql (by omega) (by omega)]; exact hn) ?_
    rfl
theorem iw5 (s was bg z : UA) (st : Int32) (f : UA) {T : Nat} (hT : T ≤ 60) (r) {i n : Nat} (h : i + n ≤ T) {a b c e g : Int32} (hc : ¬ c = 32) (he : ¬ e = 32) (hg : ¬ g = 32) : f_X7_isWord (s, was, bg, z, st, f, nI T, nI (i + n), r) (nI i) a b c e g = some (W5 n f i a b c e g) := by
  unfold f_X7_isWord W5
  refine ino hc (ino he (ino hg ?_))
  unfold f_X7_isWord_b34
  dsimp only
  rw [sbn (by omega), Nat.add_sub_cancel_left]
  by_cases hn : n = 5
  · subst hn
    refine iy rfl ?_
    unfold f_X7_isWord_b52
    dsimp only
    rw [al, al, clp (by omega), clp (by omega), clp (by omega), if_pos rfl]
    refine ino (by decide) (iy (inbT (by omega) (by omega)) ?_)
    by_cases c0 : f i = a
    · rw [if_pos c0, if_pos c0]
      refine iy (inbT (by omega) (by omega)) ?_
      by_cases c1 : f (i + 1) = b
      · rw [if_pos c1, if_pos c1]
        refine ino hc (iy (inbT (by omega) (by omega)) ?_)
        by_cases c2 : f (i + 2) = c
        · rw [if_pos c2, if_pos c2]
          unfold f_X7_isWord_b101 f_X7_isWord_b106
          dsimp only
          rw [al, clp (by omega)]
          refine ino (by decide) (ino he (iy (inbT (by omega) (by omega)) ?_))
          by_cases c3 : f (i + 3) = e
          · rw [if_pos c3, if_pos c3]
            unfold f_X7_isWord_b133
            dsimp only
            rw [al, clp (by omega)]
            refine ino hg (iy (inbT (by omega) (by omega)) ?_)
            by_cases c4 : f (i + 4) = g
            · rw [if_pos c4, if_pos c4]
            · rw [if_neg c4, if_neg c4]
          · rw [if_neg c3, if_neg c3]
        · rw [if_neg c2, if_neg c2]
          rfl
      · rw [if_neg c1, if_neg c1]
        rfl
    · rw [if_neg c0, if_neg c0]
      rfl
  · rw [if_neg hn]
    refine ino (by rw [eql (by omega) (by omega)]; exact hn) ?_
    rfl
/-! which word -/
def wv (n : Nat) (f : UA) (i : Nat) (k : Nat) : Int32 := match k with
  | 0 => W4 n f i 108 105 102 116
  | 1 => W3 n f i 108 97 121
  | 2 => W5 n f i 119 101 105 103 104
  | 3 => W5 n f i 114 105 103 104 116
  | 4 => W4 n f i 108 101 102 116
  | 5 => W5 n f i 109 111 117 110 116
  | 6 => W4 n f i 116 97 107 101
  | _ => W5 n f i 115 101 114 118 101
def wd1 (n : Nat) (f : UA) (i : Nat) : Int32 := if wv n f i 0 = 0 then (if wv n f i 1 = 0 then (if wv n f i 2 = 0 then (if wv n f i 3 = 0 then (if wv n f i 4 = 0 then (if wv n f i 5 = 0 then (if wv n f i 6 = 0 then (if wv n f i 7 = 0 then -1 else 7) else 6) else 5) else 4) else 3) else 2) else 1) else 0
theorem stands_k (f : UA) {T : Nat} (hT : T ≤ 60) (r) {i n : Nat} (h : i + n ≤ T) {k : Nat} (hk : k < 8) : f_X3_standsAt k (f, nI T, r) (nI i) (nI n) = some (wv n f i k) := by
  rcases (show k = 0 ∨ k = 1 ∨ k = 2 ∨ k = 3 ∨ k = 4 ∨ k = 5 ∨ k = 6 ∨ k = 7 by omega) with rfl | rfl | rfl | rfl | rfl | rfl | rfl | rfl
  · exact st4 0 rfl f hT r h
  · exact st3 1 rfl f hT r h
  · exact st5 2 rfl f hT r h
  · exact st5 3 rfl f hT r h
  · exact st4 4 rfl f hT r h
  · exact st5 5 rfl f hT r h
  · exact st4 6 rfl f hT r h
  · exact st5 7 rfl f hT r h
theorem some_if {c : Prop} [Decidable c] {x : Option Int32} {y z : Int32} (h : x = some y) : (if c then x else some z) = some (if c then y else z) := by
  rw [h]
  by_cases q : c
  · rw [if_pos q, if_pos q]
  · rw [if_neg q, if_neg q]
theorem word_model (s was bg z : UA) (st : Int32) (f : UA) {T : Nat} (hT : T ≤ 60) (r) {i n : Nat} (h : i + n ≤ T) : f_X7_wordFrom (s, was, bg, z, st, f, nI T, nI (i + n), r) (nI i) = some (wd1 n f i) := by
  unfold f_X7_wordFrom wd1
  refine bnd (iw4 s was bg z st f hT r h (by decide) (by decide)) (some_if ?_)
  refine bnd (iw3 s was bg z st f hT r h (by decide)) (some_if ?_)
  refine bnd (iw5 s was bg z st f hT r h (by decide) (by decide) (by decide)) (some_if ?_)
  refine bnd (iw5 s was bg z st f hT r h (by decide) (by decide) (by decide)) (some_if ?_)
  refine bnd (iw4 s was bg z st f hT r h (by decide) (by decide)) (some_if ?_)
  refine bnd (iw5 s was bg z st f hT r h (by decide) (by decide) (by decide)) (some_if ?_)
  refine bnd (iw4 s was bg z st f hT r h (by decide) (by decide)) (some_if ?_)
  refine bnd (iw5 s was bg z st f hT r h (by decide) (by decide) (by decide)) (some_if ?_)
  rfl
theorem fuel9w : FUEL = 1991 + 1 + 1 + 1 + 1 + 1 + 1 + 1 + 1 + 1 := rfl
theorem wo_step (m : Nat) (f : UA) {T : Nat} (hT : T ≤ 60) (r) {i n : Nat} (h : i + n ≤ T) {k : Nat} (hk : k < 8) (e : tix (nI k) = k) {y : Int32} (hy : f_X3_wordOf_b2 m (f, nI T, r) (nI i) (nI n) (nI (k + 1)) = some y) : f_X3_wordOf_b2 (m + 1) (f, nI T, r) (nI i) (nI n) (nI k) = some (if wv n f i k = 0 then y else nI k) := by
  rw [f_X3_wordOf_b2]
  refine ino (by rw [lle (by omega) (by omega)]; omega) (bnd (a := wv n f i k) ?_ ?_)
  · rw [e]
    exact stands_k f hT r h hk
  · rw [al]
    exact some_if hy
theorem word_class (f : UA) {T : Nat} (hT : T ≤ 60) (r) {i n : Nat} (h : i + n ≤ T) : f_X3_wordOf (f, nI T, r) (nI i) (nI n) = some (wd1 n f i) := by
  unfold f_X3_wordOf
  rw [fuel9w]
  unfold wd1
  show f_X3_wordOf_b2 _ _ _ _ (nI 0) = _
  refine wo_step _ f hT r h (k := 0) (by omega) rfl ?_
  refine wo_step _ f hT r h (k := 1) (by omega) rfl ?_
  refine wo_step _ f hT r h (k := 2) (by omega) rfl ?_
  refine wo_step _ f hT r h (k := 3) (by omega) rfl ?_
  refine wo_step _ f hT r h (k := 4) (by omega) rfl ?_
  refine wo_step _ f hT r h (k := 5) (by omega) rfl ?_
  refine wo_step _ f hT r h (k := 6) (by omega) rfl ?_
  refine wo_step _ f hT r h (k := 7) (by omega) rfl ?_
  rw [f_X3_wordOf_b2]
  exact iy (by decide) rfl
