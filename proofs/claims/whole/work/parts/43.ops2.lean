/-! ===== lay, take, weigh, turn ===== -/
theorem pw_pop {P : Nat} {wt a1 a2 : Nat → Nat} (hP : P < 3) (h2 : ∀ i, i < P → a2 (32 + i) = a1 (32 + i)) : pw (P + 1) wt a1 = pw P wt a2 + wt (a1 (32 + P)) :=
  pw_push hP rfl (fun i hi => (h2 i hi).symm)
theorem topOfPile_eq (u : UL) {P : Nat} (hP : P < 3) (h : u.2.2.2.2.1 = nI (P + 1)) : f_X2_topOfPile u = some (u.1.2.2.2.2.1 (32 + P)) := by
  unfold f_X2_topOfPile
  rw [h]
  simp (disch := omega) only [lel, la, sbl, inSlot_eq, Option.bind_some]
  rw [if_neg (by omega), show 32 + (P + 1) - 1 = 32 + P by omega]
theorem topOfPile_0 (u : UL) (h : u.2.2.2.2.1 = nI 0) : f_X2_topOfPile u = some (-1) := by
  unfold f_X2_topOfPile
  rw [h]
  rfl
theorem offPile_eq (cwt cwe cby csl coc cho : UA) (n : Int32) (r : UR) (w z p q lm tk tu se : Int32) {c t l : Nat} (hc : c < 30) (ht : t < 37) (hl : l < 37) (hs : csl c = nI l) (k : Int32) : f_X2_offPile ((cwt, cwe, cby, csl, coc, cho, n), r, w, z, p, q, lm, tk, tu, se) (nI c) (nI t) k = some ((cwt, cwe, cby, upd csl c (nI t), upd (upd coc l (-1)) t (nI c), cho, n), r, w, 0, p - 1, q - cwt c, lm, tk + k, tu, se) := by
  unfold f_X2_offPile
  rw [moveTo_n cwt cwe cby csl coc cho n hc ht hl hs]
  simp (disch := omega) only [Option.bind_some, weightOf_eq]
theorem lay_ok {W P N M z lm k13 k14 k15 : Nat} {wt loc at' ho fi : Nat → Nat} {we by' ra ti : Nat → Int32} {tk tu se : Int32} {u : UL} {s : UA} (h : Sim W (P + 1) N M z lm k13 k14 k15 wt loc at' ho fi we by' ra ti tk tu se u s) {j : Nat} (hj : j ≤ 3) {c : Nat} (hat : at' (32 + P) = c) (hfree : at' (4 * W + j) = 30) :
    ∃ u' s', f_X2_layOn u (nI j) = some (nI c, u') ∧ (∀ w : UX, w.1 = s → f_X7_lays w (nI j) = some (nI c, (s', w.2))) ∧ Sim W P N M 0 lm k13 k14 k15 wt (uN loc c (4 * W + j)) (uN (uN at' (32 + P) 30) (4 * W + j) c) ho fi we by' ra ti (tk + 1) tu se u' s' := by
  obtain ⟨⟨o1, o2, o3, o4, o5, o6, B, D, o9, o10, o11, o12, o13, o14, o15, o16, o17⟩, ⟨cwt, cwe, cby, csl, coc, cho, rf, rr, rt, rfl, r1, r2, r3, r4⟩, x0, x1, x2, x6, x7, x8, x9, x10, x13, x14, x15, xA, xE, xP, xC, xH, xR⟩ := h
  have hP : P < 3 := by omega
  have hc30 : c ≠ 30 := fun e => by
    have := (o9 P hP).mp (hat.trans e)
    omega
  have hk := B (32 + P) (by omega)
  rw [hat] at hk
  have hcN : c < N := by omega
  have hlc : loc c = 32 + P := by omega
  have hsl : csl c = nI (32 + P) := by rw [(r1 c hcN).2.2.2, hlc, eL_n (by omega)]
  have hoc : coc (32 + P) = nI c := by rw [r2 _ (by omega), hat, eC_n hc30]
  have hof : coc (4 * W + j) = -1 := by rw [r2 _ (by omega), hfree, eC_30]
  have hpw : pw (P + 1) wt at' = pw P wt (uN (uN at' (32 + P) 30) (4 * W + j) c) + wt c := by
    rw [pw_pop hP (a2 := uN (uN at' (32 + P) 30) (4 * W + j) c) (fun i hi => by rw [uN_n (by omega), uN_n (by omega)]), hat]
  have hsk : s (3 + P) = nI c := by rw [xP _ (by omega), hat, eC_n hc30]
  have hsf : s (16 + 4 * W + j) = -1 := by rw [Nat.add_assoc, xA _ (by omega), hfree, eC_30]
  have hoff := offPile_eq cwt cwe cby csl coc cho (nI N) (rf, rr, rt, nI M) (nI W) (nI z) (nI (P + 1)) (nI (pw (P + 1) wt at')) (nI lm) tk tu se (c := c) (t := 4 * W + j) (l := 32 + P) (by omega) (by omega) (by omega) hsl 1
  have htop := topOfPile_eq ((cwt, cwe, cby, csl, coc, cho, nI N), (rf, rr, rt, nI M), nI W, nI z, nI (P + 1), nI (pw (P + 1) wt at'), nI lm, tk, tu, se) hP rfl
  rw [hpw] at htop hoff
  refine ⟨_, upd (upd (upd (upd (upd s 2 (nI P)) 6 0) (16 + 4 * W + j) (nI c)) (48 + 4 * c + 2) 0) 0 (tk + 1), ?_, ?_, ?_, ⟨cwt, cwe, cby, upd csl c (nI (4 * W + j)), upd (upd coc (32 + P) (-1)) (4 * W + j) (nI c), cho, rf, rr, rt, rfl, ?_, ?_, r3, r4⟩, ?_⟩
  · unfold f_X2_layOn
    simp (disch := omega) only [isShelf_y, shelfSlot_eq, inSlot_eq, htop, hoc, hof, hoff, nI_m1, one0, Option.bind_some, if_false, if_true, sbl, (r1 c hcN).1, hpw, sbn, Nat.add_sub_cancel]
    rfl
  · rintro ⟨s0, w2⟩ hw
    dsimp only at hw
    subst hw
    unfold f_X7_lays f_X7_leaves f_X7_isAt
    simp (disch := omega) only [in_k, x0, x1, x2, hsk, hsf, one0, m1_lt, ml, la, al, sbl, nI_add, inbT, clp, Option.bind_some, if_true, if_false, eql, Nat.add_sub_cancel, Nat.add_one_ne_zero, upd_n, upd_s]
  · refine ⟨o1, by omega, o3, o4, by omega, o6, mv_B o3 B hcN hlc (by omega) (by omega) hfree, mv_D o3 B D hcN hlc (by omega) (by omega) hfree, fun i hi => ?_, o10, o11, o12, ?_, ?_, ?_, o16, o17⟩
    · rw [uN_n (by omega)]
      by_cases e : i = P
      · rw [uN_s (by omega)]
        omega
      · rw [uN_n (by omega), o9 i hi]
        omega
    · rw [uN_n (by omega), uN_n (by omega), uN_n (by omega), uN_n (by omega)]; exact o13
    · rw [uN_n (by omega), uN_n (by omega)]; exact o14
    · rw [uN_n (by omega), uN_n (by omega)]; exact o15
  · intro e he
    refine ⟨(r1 e he).1, (r1 e he).2.1, (r1 e he).2.2.1, ?_⟩
    by_cases h1 : e = c
    · rw [upd_s h1, uN_s h1, eL_n (by omega)]
    · rw [upd_n h1, uN_n h1]; exact (r1 e he).2.2.2
  · intro k hk7
    by_cases h1 : k = 4 * W + j
    · rw [upd_s h1, uN_s h1, eC_n hc30]
    · rw [upd_n h1, uN_n h1]
      by_cases h2 : k = 32 + P
      · rw [upd_s h2, uN_s h2, eC_30]
      · rw [upd_n h2, uN_n h2]; exact r2 k hk7
  · refine ⟨upd_s rfl, ?_, ?_, ?_, ?_, ?_, ?_, ?_, ?_, ?_, ?_, ?_, ?_, ?_, ?_, ?_, ?_⟩ <;> (try simp (disch := omega) only [upd_n, upd_s, x1, x2, x6, x7, x8, x9, x10, x13, x14, x15])
    · rfl
    · intro k hk7
      by_cases h2 : k = 4 * W + j
      · simp (disch := omega) only [upd_n, upd_s, uN_s]
        rw [eC_n hc30]
      · simp (disch := omega) only [upd_n, uN_n]
        exact xA k hk7
    · intro e he
      simp (disch := omega) only [upd_n, uN_n]
      exact xE e he
    · intro i hi
      simp (disch := omega) only [upd_n, uN_n]
      exact xP i (by omega)
    · intro e he
      by_cases h2 : e = c
      · subst h2
        simp (disch := omega) only [upd_n, upd_s, uN_s]
        exact ⟨(xC e he).1, (xC e he).2.1, by rw [show kd (4 * W + j) = 0 by unfold kd; rw [if_pos (by omega)]]; rfl, (xC e he).2.2.2⟩
      · simp (disch := omega) only [upd_n, uN_n]
        exact xC e he
    · intro e he
      try simp (disch := omega) only [upd_n]
      exact xH e he
    · intro e he
      try simp (disch := omega) only [upd_n]
      exact xR e he
theorem take_ok {W P N M z lm k13 k14 k15 : Nat} {wt loc at' ho fi : Nat → Nat} {we by' ra ti : Nat → Int32} {tk tu se : Int32} {u : UL} {s : UA} (h : Sim W P N M z lm k13 k14 k15 wt loc at' ho fi we by' ra ti tk tu se u s) {e : Nat} (hj : e ≤ 1) (hW : W = 2 + 4 * e) {c : Nat} (hat : at' (35 + e) = c) (hc30 : c ≠ 30) (hP : P < 3) :
    ∃ u' s', f_X2_takeFrom u (nI e) = some (nI c, u') ∧ (∀ w : UX, w.1 = s → f_X7_takes w (nI e) = some (nI c, (s', w.2))) ∧ Sim W (P + 1) N M 0 lm k13 k14 k15 wt (uN loc c (32 + P)) (uN (uN at' (35 + e) 30) (32 + P) c) ho fi we by' ra ti (tk + 2) tu se u' s' := by
  obtain ⟨⟨o1, o2, o3, o4, o5, o6, B, D, o9, o10, o11, o12, o13, o14, o15, o16, o17⟩, ⟨cwt, cwe, cby, csl, coc, cho, rf, rr, rt, rfl, r1, r2, r3, r4⟩, x0, x1, x2, x6, x7, x8, x9, x10, x13, x14, x15, xA, xE, xP, xC, xH, xR⟩ := h
  have hk := B (35 + e) (by omega)
  rw [hat] at hk
  have hcN : c < N := by omega
  have hlc : loc c = 35 + e := by omega
  have hsl : csl c = nI (35 + e) := by rw [(r1 c hcN).2.2.2, hlc, eL_n (by omega)]
  have hoc : coc (35 + e) = nI c := by rw [r2 _ (by omega), hat, eC_n hc30]
  have hatP : at' (32 + P) = 30 := (o9 P hP).mpr (Nat.le_refl _)
  have hpw : pw (P + 1) wt (uN (uN at' (35 + e) 30) (32 + P) c) = pw P wt at' + wt c :=
    pw_push hP (uN_s rfl) (fun i hi => by rw [uN_n (by omega), uN_n (by omega)])
  have hsk : s (11 + e) = nI c := by rw [xE _ (by omega), hat, eC_n hc30]
  have hm := moveTo_n cwt cwe cby csl coc cho (nI N) (c := c) (t := 32 + P) (l := 35 + e) (by omega) (by omega) (by omega) hsl
  have hwd : f_X6_wallOfDrive (nI e) = some (nI W) := by
    subst hW
    rcases (show e = 0 ∨ e = 1 by omega) with rfl | rfl <;> rfl
  have hP3 : (P = 3) = False := eq_false (by omega)
  have hPl : (P < 3) = True := eq_true hP
  refine ⟨_, upd (upd (upd (upd (upd (upd s (11 + e) (-1)) (3 + P) (nI c)) 2 (nI (P + 1))) 6 0) (48 + 4 * c + 2) 1) 0 (tk + 2), ?_, ?_, ?_, ⟨cwt, cwe, cby, upd csl c (nI (32 + P)), upd (upd coc (35 + e) (-1)) (32 + P) (nI c), cho, rf, rr, rt, rfl, ?_, ?_, r3, r4⟩, ?_⟩
  · unfold f_X2_takeFrom f_X2_ontoPile f_X2_inDrive
    simp (disch := omega) only [isIn_k, hwd, inSlot_eq, hoc, nI_m1, one0, ltl, la, hm, hPl, weightOf_eq, Option.bind_some, if_false, if_true, al, nI_add, hpw, (r1 c hcN).1]
    rfl
  · rintro ⟨s0, w2⟩ hw
    dsimp only at hw
    subst hw
    have hw2 : (W = 2 + 4 * e) = True := eq_true hW
    unfold f_X7_takes f_X7_comes f_X7_isAt f_X7_wallOf
    simp (disch := omega) only [in_k, x0, x1, x2, hsk, hP3, one0, ml, la, al, nI_add, inbT, clp, Option.bind_some, if_true, if_false, eql, eqn, hw2, lle, Nat.zero_le, upd_n, upd_s]
  · refine ⟨o1, by omega, o3, o4, by omega, o6, mv_B o3 B hcN hlc (by omega) (by omega) hatP, mv_D o3 B D hcN hlc (by omega) (by omega) hatP, fun i hi => ?_, o10, o11, o12, ?_, ?_, ?_, o16, o17⟩
    · by_cases e1 : i = P
      · rw [uN_s (by omega)]
        omega
      · rw [uN_n (by omega), uN_n (by omega), o9 i hi]
        omega
    · intro h1 h2
      rw [uN_n (by omega)] at h1 h2
      rcases (show e = 0 ∨ e = 1 by omega) with rfl | rfl
      · exact absurd (uN_s rfl) h1
      · exact absurd (uN_s rfl) h2
    · intro h1
      rw [uN_n (by omega)] at h1
      by_cases e1 : e = 0
      · subst e1; exact absurd (uN_s rfl) h1
      · rw [uN_n (by omega)] at h1; exact o14 h1
    · intro h1
      rw [uN_n (by omega)] at h1
      by_cases e1 : e = 1
      · subst e1; exact absurd (uN_s rfl) h1
      · rw [uN_n (by omega)] at h1; exact o15 h1
  · intro e1 he
    refine ⟨(r1 e1 he).1, (r1 e1 he).2.1, (r1 e1 he).2.2.1, ?_⟩
    by_cases h1 : e1 = c
    · rw [upd_s h1, uN_s h1, eL_n (by omega)]
    · rw [upd_n h1, uN_n h1]; exact (r1 e1 he).2.2.2
  · intro k hk7
    by_cases h1 : k = 32 + P
    · rw [upd_s h1, uN_s h1, eC_n hc30]
    · rw [upd_n h1, uN_n h1]
      by_cases h2 : k = 35 + e
      · rw [upd_s h2, uN_s h2, eC_30]
      · rw [upd_n h2, uN_n h2]; exact r2 k hk7
  · refine ⟨upd_s rfl, ?_, ?_, ?_, ?_, ?_, ?_, ?_, ?_, ?_, ?_, ?_, ?_, ?_, ?_, ?_, ?_⟩ <;> (try simp (disch := omega) only [upd_n, upd_s, x1, x2, x6, x7, x8, x9, x10, x13, x14, x15])
    · rfl
    · intro k hk7
      simp (disch := omega) only [upd_n, uN_n]
      exact xA k hk7
    · intro e1 he
      by_cases h2 : e1 = e
      · simp (disch := omega) only [upd_n, upd_s, uN_n, uN_s, eC_30]
      · simp (disch := omega) only [upd_n, uN_n]
        exact xE e1 he
    · intro i hi
      by_cases h2 : i = P
      · simp (disch := omega) only [upd_n, upd_s, uN_s]
        rw [eC_n hc30]
      · simp (disch := omega) only [upd_n, uN_n]
        exact xP i (by omega)
    · intro e1 he
      by_cases h2 : e1 = c
      · subst h2
        simp (disch := omega) only [upd_n, upd_s, uN_s]
        exact ⟨(xC e1 he).1, (xC e1 he).2.1, by rw [show kd (32 + P) = 1 by unfold kd; rw [if_neg (by omega), if_pos (by omega)]]; rfl, (xC e1 he).2.2.2⟩
      · simp (disch := omega) only [upd_n, uN_n]
        exact xC e1 he
    · intro e1 he
      try simp (disch := omega) only [upd_n]
      exact xH e1 he
    · intro e1 he
      try simp (disch := omega) only [upd_n]
      exact xR e1 he
