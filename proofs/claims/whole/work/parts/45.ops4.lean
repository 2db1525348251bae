/-! ===== requests are served ===== -/
theorem fileOf_eq (u : UR) {k : Nat} (hk : k < 12) : f_X4_fileOf u (nI k) = some (u.1 k) := by
  unfold f_X4_fileOf
  simp (disch := omega) only [inbT, clp, if_true, ltl, lle]
  rw [if_neg (by omega), if_neg (by omega)]
theorem rankOf_eq (u : UR) {k : Nat} (hk : k < 12) : f_X4_rankOf u (nI k) = some (u.2.1 k) := by
  unfold f_X4_rankOf
  simp (disch := omega) only [inbT, clp, if_true, ltl, lle]
  rw [if_neg (by omega), if_neg (by omega)]
theorem tickOf_eq (u : UR) {k : Nat} (hk : k < 12) : f_X4_tickOf u (nI k) = some (u.2.2.1 k) := by
  unfold f_X4_tickOf
  simp (disch := omega) only [inbT, clp, if_true, ltl, lle]
  rw [if_neg (by omega), if_neg (by omega)]
theorem addR_eq (rf rr rt : UA) {L : Nat} (hL : L < 12) (a b t : Int32) : f_X4_add (rf, rr, rt, nI L) a b t = some (nI (L + 1), (upd rf L a, upd rr L b, upd rt L t, nI (L + 1))) := by
  unfold f_X4_add
  simp (disch := omega) only [inbT, clp, if_true, ltl, lle, al]
  rw [if_neg (by omega), if_pos hL]
def row3 (s : UA) (L k : Nat) : UA := upd (upd (upd s (228 + 3 * L) (s (228 + 3 * k))) (228 + 3 * L + 1) (s (228 + 3 * k + 1))) (228 + 3 * L + 2) (s (228 + 3 * k + 2))
theorem sv55 (k7 : UX → Int32 → Int32 → Int32 → Int32 → Option (Int32 × UX)) (n : Nat) (s : UA) (w2) (v1 v2 v5 : Int32) {L k j : Nat} (hL : L < 12) (hk : k < 12) (hj : j < 3) : f_X7_serves_b55 k7 (n + 1) (s, w2) v1 v2 (nI L) (nI k) v5 (nI j) = f_X7_serves_b55 k7 n (upd s (228 + 3 * L + j) (s (228 + 3 * k + j)), w2) v1 v2 (nI L) (nI k) v5 (nI (j + 1)) := by
  rw [f_X7_serves_b55]
  simp (disch := omega) only [lle, ml, la, al, nI_add, inbT, clp, if_true]
  rw [if_neg (by omega)]
theorem sv50 (k7 : UX → Int32 → Int32 → Int32 → Int32 → Option (Int32 × UX)) (s : UA) (w2) (v1 v2 v5 : Int32) {L k : Nat} (hL : L < 12) (hk : k < 12) : f_X7_serves_b50 k7 (s, w2) v1 v2 (nI L) (nI k) v5 = if v5 = 0 then k7 (row3 s L k, w2) v1 v2 (nI (L + 1)) (nI (k + 1)) else k7 (row3 s L k, w2) v1 (v2 + 1) (nI L) (nI (k + 1)) := by
  unfold f_X7_serves_b50
  rw [fuel5, show (0 : Int32) = nI 0 from rfl, sv55 k7 _ s w2 v1 v2 v5 hL hk (by omega), sv55 k7 _ _ w2 v1 v2 v5 hL hk (by omega), sv55 k7 _ _ w2 v1 v2 v5 hL hk (by omega), f_X7_serves_b55]
  simp (disch := omega) only [lle, upd_n, Nat.add_zero, Nat.zero_add, Nat.reduceAdd, Nat.reduceLeDiff, if_true]
  unfold f_X7_serves_b109 f_X7_serves_b122
  rw [show nI 0 = (0 : Int32) from rfl]
  by_cases h : v5 = 0
  · simp only [if_pos h, al, Int32.add_zero]
    rfl
  · simp only [if_neg h, al, Int32.add_zero]
    rfl
theorem row3_n {s : UA} {L k i : Nat} (h : i < 228 + 3 * L ∨ 228 + 3 * L + 2 < i) : row3 s L k i = s i := by
  unfold row3
  rw [upd_n (by omega), upd_n (by omega), upd_n (by omega)]
theorem row3_0 {s : UA} {L k : Nat} : row3 s L k (228 + 3 * L) = s (228 + 3 * k) := by
  unfold row3
  rw [upd_n (by omega), upd_n (by omega), upd_s rfl]
theorem row3_1 {s : UA} {L k : Nat} : row3 s L k (228 + 3 * L + 1) = s (228 + 3 * k + 1) := by
  unfold row3
  rw [upd_n (by omega), upd_s rfl]
theorem row3_2 {s : UA} {L k : Nat} : row3 s L k (228 + 3 * L + 2) = s (228 + 3 * k + 2) := by
  unfold row3
  rw [upd_s rfl]
theorem eC_inj {a b : Nat} (ha : a ≤ 30) (hb : b < 30) : (eC a = nI b) = (a = b) := by
  by_cases h : a = 30
  · subst h
    rw [eC_30, m1_nI (by omega)]
    exact (eq_false (by omega)).symm
  · rw [eC_n h, eqn (by omega) (by omega)]
theorem serves_loop {M c : Nat} {fi ho : Nat → Nat} {ra ti : Nat → Int32} (hM : M ≤ 12) (hc : c < 30) (hfi : ∀ k, k < M → fi k < 60) (hho : ∀ x, x < 60 → ho x ≤ 30) (cwt cwe cby csl coc cho : UA) (nn : Int32) (hch : ∀ x, x < 60 → cho x = eC (ho x)) : ∀ (d k L n1 n2 : Nat) (rf rr rt s : UA), k + d = M → d < n1 → d < n2 → L ≤ k → (∀ j, k ≤ j → j < M → rf j = nI (fi j) ∧ rr j = ra j ∧ rt j = ti j ∧ s (228 + 3 * j) = nI (fi j) ∧ s (228 + 3 * j + 1) = ra j ∧ s (228 + 3 * j + 2) = ti j) → s 8 = nI M → (∀ x, x < 60 → s (168 + x) = eC (ho x)) → (∀ j, j < L → rf j = s (228 + 3 * j) ∧ rr j = s (228 + 3 * j + 1) ∧ rt j = s (228 + 3 * j + 2) ∧ ∃ f, f < 60 ∧ rf j = nI f) →
    ∃ (L' : Nat) (rf' rr' rt' s' : UA), L' ≤ M ∧ (L < k ∨ (∃ j, k ≤ j ∧ j < M ∧ ho (fi j) = c) → L' < M) ∧ f_X4_removeHeldBy_b13 n1 ((rf, rr, rt, nI L), (cwt, cwe, cby, csl, coc, cho, nn)) (nI c) (nI M) (nI k) = some (nI (M - L'), ((rf', rr', rt', nI L'), (cwt, cwe, cby, csl, coc, cho, nn))) ∧ (∀ w2, f_X7_serves_b7 n2 (s, w2) (nI c) (nI (k - L)) (nI L) (nI k) = some (nI (M - L'), (upd (upd (upd s' 8 (nI L')) 9 (s' 9 + nI (M - L'))) (48 + 4 * c + 3) (s' (48 + 4 * c + 3) + nI (M - L')), w2))) ∧ (∀ i, i < 228 → s' i = s i) ∧ (∀ j, j < L' → rf' j = s' (228 + 3 * j) ∧ rr' j = s' (228 + 3 * j + 1) ∧ rt' j = s' (228 + 3 * j + 2) ∧ ∃ f, f < 60 ∧ rf' j = nI f) := by
  intro d
  induction d with
  | zero =>
    intro k L n1 n2 rf rr rt s hk h1 h2 hL hrow h8 hh hdone
    obtain ⟨m1, rfl⟩ : ∃ m, n1 = m + 1 := ⟨n1 - 1, by omega⟩
    obtain ⟨m2, rfl⟩ : ∃ m, n2 = m + 1 := ⟨n2 - 1, by omega⟩
    have hkM : k = M := by omega
    subst hkM
    refine ⟨L, rf, rr, rt, s, hL, ?_, ?_, ?_, fun _ _ => rfl, hdone⟩
    · rintro (q | ⟨j, q1, q2, q3⟩) <;> omega
    · rw [f_X4_removeHeldBy_b13]
      simp (disch := omega) only [len', Nat.le_refl, if_true, sbn]
    · intro w2
      rw [f_X7_serves_b7]
      have e1 : upd (upd s 8 (nI L)) 9 (s 9 + nI (k - L)) (48 + 4 * c + 3) = s (48 + 4 * c + 3) := by rw [upd_n (by omega), upd_n (by omega)]
      simp (disch := omega) only [h8, len', Nat.le_refl, if_true, ml, la, al, inbT, clp, upd_n, e1]
  | succ d ih =>
    intro k L n1 n2 rf rr rt s hk h1 h2 hL hrow h8 hh hdone
    obtain ⟨m1, rfl⟩ : ∃ m, n1 = m + 1 := ⟨n1 - 1, by omega⟩
    obtain ⟨m2, rfl⟩ : ∃ m, n2 = m + 1 := ⟨n2 - 1, by omega⟩
    have hkM : k < M := by omega
    have hf := hfi k hkM
    have ho30 := hho _ hf
    obtain ⟨a1, a2, a3, a4, a5, a6⟩ := hrow k (Nat.le_refl _) hkM
    have hn : (M ≤ k) = False := eq_false (by omega)
    have hq := hch _ hf
    have hq2 := hh _ hf
    have g8 : row3 s L k 8 = nI M := by rw [row3_n (by omega)]; exact h8
    have gh : ∀ x, x < 60 → row3 s L k (168 + x) = eC (ho x) := fun x hx => by rw [row3_n (by omega)]; exact hh x hx
    by_cases he : ho (fi k) = c
    · have he' : (eC (ho (fi k)) = nI c) = True := eq_true (by rw [eC_inj ho30 hc]; exact he)
      obtain ⟨L', rf', rr', rt', s', i1, i2, i3, i4, i5, i6⟩ := ih (k + 1) L m1 m2 rf rr rt (row3 s L k) (by omega) (by omega) (by omega) (by omega) (fun j hj1 hj2 => by
        rw [row3_n (by omega), row3_n (by omega), row3_n (by omega)]
        exact hrow j (by omega) hj2) g8 gh (fun j hj => by
        rw [row3_n (by omega), row3_n (by omega), row3_n (by omega)]
        exact hdone j hj)
      refine ⟨L', rf', rr', rt', s', i1, fun _ => i2 (Or.inl (by omega)), ?_, ?_, fun i hi => (i5 i hi).trans (row3_n (by omega)), i6⟩
      · rw [f_X4_removeHeldBy_b13]
        simp (disch := omega) only [len', hn, if_false, fileOf_eq, Option.bind_some, a1, holderOf_eq, hq, he', if_true]
        unfold f_X4_removeHeldBy_b56
        rw [al]
        exact i3
      · intro w2
        rw [f_X7_serves_b7]
        simp (disch := omega) only [h8, len', hn, if_false, ml, la, inbT, clp, a4, hq2, he', if_true, sv50, one0, al]
        rw [show k - L + 1 = k + 1 - L by omega]
        exact i4 w2
    · have he' : (eC (ho (fi k)) = nI c) = False := eq_false (by rw [eC_inj ho30 hc]; exact he)
      obtain ⟨L', rf', rr', rt', s', i1, i2, i3, i4, i5, i6⟩ := ih (k + 1) (L + 1) m1 m2 (upd rf L (nI (fi k))) (upd rr L (ra k)) (upd rt L (ti k)) (row3 s L k) (by omega) (by omega) (by omega) (by omega) (fun j hj1 hj2 => by
        rw [row3_n (by omega), row3_n (by omega), row3_n (by omega), upd_n (by omega), upd_n (by omega), upd_n (by omega)]
        exact hrow j (by omega) hj2) g8 gh (fun j hj => by
        by_cases hjL : j = L
        · subst hjL
          rw [row3_0, row3_1, row3_2, upd_s rfl, upd_s rfl, upd_s rfl]
          exact ⟨a4.symm, a5.symm, a6.symm, _, hf, rfl⟩
        · rw [row3_n (by omega), row3_n (by omega), row3_n (by omega), upd_n (by omega), upd_n (by omega), upd_n (by omega)]
          exact hdone j (by omega))
      refine ⟨L', rf', rr', rt', s', i1, ?_, ?_, ?_, fun i hi => (i5 i hi).trans (row3_n (by omega)), i6⟩
      · rintro (q | ⟨j, q1, q2, q3⟩)
        · exact i2 (Or.inl (by omega))
        · refine i2 (Or.inr ⟨j, ?_, q2, q3⟩)
          by_cases e : j = k
          · subst e; exact absurd q3 he
          · omega
      · rw [f_X4_removeHeldBy_b13]
        simp (disch := omega) only [len', hn, if_false, fileOf_eq, rankOf_eq, tickOf_eq, addR_eq, Option.bind_some, a1, a2, a3, holderOf_eq, hq, he']
        unfold f_X4_removeHeldBy_b56
        rw [al]
        exact i3
      · intro w2
        rw [f_X7_serves_b7]
        simp (disch := omega) only [h8, len', hn, if_false, ml, la, inbT, clp, a4, hq2, he', if_true, sv50]
        rw [show k - L = k + 1 - (L + 1) by omega]
        exact i4 w2
