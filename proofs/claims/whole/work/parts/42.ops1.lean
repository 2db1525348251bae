/-! ===== one move of a cartridge in the view ===== -/
theorem moveTo_n (cwt cwe cby csl coc cho : UA) (n : Int32) {c t l : Nat} (hc : c < 30) (ht : t < 37) (hl : l < 37) (hs : csl c = nI l) : f_X0_moveTo (cwt, cwe, cby, csl, coc, cho, n) (nI c) (nI t) = some (cwt, cwe, cby, upd csl c (nI t), upd (upd coc l (-1)) t (nI c), cho, n) := by
  have h := moveTo_eq cwt cwe cby csl coc cho n hc (t := t) (l := l) (by omega) (by omega) (by rw [eL_n (by omega)]; exact hs)
  rw [eL_n (by omega), if_neg (by omega), if_neg (by omega)] at h
  exact h
theorem pw_push {P c : Nat} {wt a1 a2 : Nat → Nat} (hP : P < 3) (h1 : a2 (32 + P) = c) (h2 : ∀ i, i < P → a2 (32 + i) = a1 (32 + i)) : pw (P + 1) wt a2 = pw P wt a1 + wt c := by
  rcases (show P = 0 ∨ P = 1 ∨ P = 2 by omega) with rfl | rfl | rfl
  · simp [pw, h1]
  · have e0 := h2 0 (by omega)
    simp at e0
    simp [pw, h1, e0]
  · have e0 := h2 0 (by omega)
    have e1 := h2 1 (by omega)
    simp at e0 e1
    simp [pw, h1, e0, e1]
theorem mv_B {N c l t : Nat} {loc at' : Nat → Nat} (hN : N ≤ 30) (B : ∀ k, k < 37 → at' k = 30 ∨ (at' k < N ∧ loc (at' k) = k)) (hc : c < N) (hl : loc c = l) (hl7 : l < 37) (ht : t < 37) (hat : at' t = 30) : ∀ k, k < 37 → uN (uN at' l 30) t c k = 30 ∨ (uN (uN at' l 30) t c k < N ∧ uN loc c t (uN (uN at' l 30) t c k) = k) := by
  intro k hk
  have b := B k hk
  by_cases h1 : k = t
  · rw [uN_s h1]
    exact Or.inr ⟨hc, by rw [uN_s rfl]; exact h1.symm⟩
  · rw [uN_n h1]
    by_cases h2 : k = l
    · rw [uN_s h2]; exact Or.inl rfl
    · rw [uN_n h2]
      rcases b with b | ⟨b1, b2⟩
      · exact Or.inl b
      · refine Or.inr ⟨b1, ?_⟩
        rw [uN_n (fun e => h2 (by rw [← b2, e, hl]))]
        exact b2
theorem mv_D {N c l t : Nat} {loc at' : Nat → Nat} (hN : N ≤ 30) (B : ∀ k, k < 37 → at' k = 30 ∨ (at' k < N ∧ loc (at' k) = k)) (D : ∀ c, c < N → loc c = 37 ∨ (loc c < 37 ∧ at' (loc c) = c)) (hc : c < N) (hl : loc c = l) (hl7 : l < 37) (ht : t < 37) (hat : at' t = 30) : ∀ e, e < N → uN loc c t e = 37 ∨ (uN loc c t e < 37 ∧ uN (uN at' l 30) t c (uN loc c t e) = e) := by
  intro e he
  by_cases h1 : e = c
  · rw [uN_s h1]
    exact Or.inr ⟨ht, by rw [uN_s rfl]; exact h1.symm⟩
  · rw [uN_n h1]
    rcases D e he with b | ⟨b1, b2⟩
    · exact Or.inl b
    · refine Or.inr ⟨b1, ?_⟩
      have h3 : loc e ≠ t := fun q => by rw [q] at b2; omega
      have h4 : loc e ≠ l := fun q => by
        have := D c hc
        rw [hl] at this
        rw [q] at b2
        omega
      rw [uN_n h3, uN_n h4]
      exact b2
theorem one0 : ((1 : Int32) = 0) = False := eq_false (by decide)
theorem lift_ok {W P N M z lm k13 k14 k15 : Nat} {wt loc at' ho fi : Nat → Nat} {we by' ra ti : Nat → Int32} {tk tu se : Int32} {u : UL} {s : UA} (h : Sim W P N M z lm k13 k14 k15 wt loc at' ho fi we by' ra ti tk tu se u s) {j : Nat} (hj : j ≤ 3) {c : Nat} (hat : at' (4 * W + j) = c) (hc30 : c ≠ 30) (hP : P < 3) :
    ∃ u' s', f_X2_liftFrom u (nI j) = some (nI c, u') ∧ (∀ w : UX, w.1 = s → f_X7_lifts w (nI j) = some (nI c, (s', w.2))) ∧ Sim W (P + 1) N M 0 lm k13 k14 k15 wt (uN loc c (32 + P)) (uN (uN at' (4 * W + j) 30) (32 + P) c) ho fi we by' ra ti (tk + 1) tu se u' s' := by
  obtain ⟨⟨o1, o2, o3, o4, o5, o6, B, D, o9, o10, o11, o12, o13, o14, o15, o16, o17⟩, ⟨cwt, cwe, cby, csl, coc, cho, rf, rr, rt, rfl, r1, r2, r3, r4⟩, x0, x1, x2, x6, x7, x8, x9, x10, x13, x14, x15, xA, xE, xP, xC, xH, xR⟩ := h
  have hk := B (4 * W + j) (by omega)
  rw [hat] at hk
  have hcN : c < N := by omega
  have hlc : loc c = 4 * W + j := by omega
  have hsl : csl c = nI (4 * W + j) := by rw [(r1 c hcN).2.2.2, hlc, eL_n (by omega)]
  have hoc : coc (4 * W + j) = nI c := by rw [r2 _ (by omega), hat, eC_n hc30]
  have hatP : at' (32 + P) = 30 := (o9 P hP).mpr (Nat.le_refl _)
  have hpw : pw (P + 1) wt (uN (uN at' (4 * W + j) 30) (32 + P) c) = pw P wt at' + wt c :=
    pw_push hP (uN_s rfl) (fun i hi => by rw [uN_n (by omega), uN_n (by omega)])
  have hsk : s (16 + (4 * W + j)) = nI c := by rw [xA _ (by omega), hat, eC_n hc30]
  have hm := moveTo_n cwt cwe cby csl coc cho (nI N) (c := c) (t := 32 + P) (l := 4 * W + j) (by omega) (by omega) (by omega) hsl
  refine ⟨_, upd (upd (upd (upd (upd (upd s (16 + 4 * W + j) (-1)) (3 + P) (nI c)) 2 (nI (P + 1))) 6 0) (48 + 4 * c + 2) 1) 0 (tk + 1), ?_, ?_, ?_, ⟨cwt, cwe, cby, upd csl c (nI (32 + P)), upd (upd coc (4 * W + j) (-1)) (32 + P) (nI c), cho, rf, rr, rt, rfl, ?_, ?_, r3, r4⟩, ?_⟩
  · unfold f_X2_liftFrom f_X2_ontoPile
    simp (disch := omega) only [isShelf_y, shelfSlot_eq, inSlot_eq, hoc, nI_m1, ltl, la, hm, weightOf_eq, Option.bind_some, if_false, al, nI_add, hpw, (r1 c hcN).1]
    rw [if_neg (by decide), if_pos hP]
    rfl
  · rintro ⟨s0, w2⟩ hw
    dsimp only at hw
    subst hw
    have hP3 : (P = 3) = False := eq_false (by omega)
    rw [← Nat.add_assoc] at hsk
    unfold f_X7_lifts f_X7_comes f_X7_isAt
    simp (disch := omega) only [in_k, x0, x1, x2, hsk, hP3, one0, ml, la, al, nI_add, inbT, clp, Option.bind_some, if_true, if_false, eql, lle, Nat.zero_le, upd_n, upd_s]
  · refine ⟨o1, by omega, o3, o4, by omega, o6, mv_B o3 B hcN hlc (by omega) (by omega) hatP, mv_D o3 B D hcN hlc (by omega) (by omega) hatP, fun i hi => ?_, o10, o11, o12, ?_, ?_, ?_, o16, o17⟩
    · by_cases e : i = P
      · rw [uN_s (by omega)]
        omega
      · rw [uN_n (by omega), uN_n (by omega), o9 i hi]
        omega
    · rw [uN_n (by omega), uN_n (by omega), uN_n (by omega), uN_n (by omega)]; exact o13
    · rw [uN_n (by omega), uN_n (by omega)]; exact o14
    · rw [uN_n (by omega), uN_n (by omega)]; exact o15
  · intro e he
    refine ⟨(r1 e he).1, (r1 e he).2.1, (r1 e he).2.2.1, ?_⟩
    by_cases h1 : e = c
    · rw [upd_s h1, uN_s h1, eL_n (by omega)]
    · rw [upd_n h1, uN_n h1]; exact (r1 e he).2.2.2
  · intro k hk7
    by_cases h1 : k = 32 + P
    · rw [upd_s h1, uN_s h1, eC_n hc30]
    · rw [upd_n h1, uN_n h1]
      by_cases h2 : k = 4 * W + j
      · rw [upd_s h2, uN_s h2, eC_30]
      · rw [upd_n h2, uN_n h2]; exact r2 k hk7
  · have y1 : s 1 = nI W := x1
    refine ⟨upd_s rfl, ?_, ?_, ?_, ?_, ?_, ?_, ?_, ?_, ?_, ?_, ?_, ?_, ?_, ?_, ?_, ?_⟩ <;> (try simp (disch := omega) only [upd_n, upd_s, x1, x2, x6, x7, x8, x9, x10, x13, x14, x15])
    · rfl
    · intro k hk7
      rw [uN_n (by omega)]
      by_cases h2 : k = 4 * W + j
      · simp (disch := omega) only [upd_n, upd_s, uN_s, eC_30]
      · simp (disch := omega) only [upd_n, uN_n]
        exact xA k hk7
    · intro e he
      simp (disch := omega) only [upd_n, uN_n]
      exact xE e he
    · intro i hi
      by_cases h2 : i = P
      · simp (disch := omega) only [upd_n, upd_s, uN_s]
        rw [eC_n hc30]
      · simp (disch := omega) only [upd_n, uN_n]
        exact xP i (by omega)
    · intro e he
      by_cases h2 : e = c
      · subst h2
        simp (disch := omega) only [upd_n, upd_s, uN_s]
        exact ⟨(xC e he).1, (xC e he).2.1, by rw [show kd (32 + P) = 1 by unfold kd; rw [if_neg (by omega), if_pos (by omega)]]; rfl, (xC e he).2.2.2⟩
      · simp (disch := omega) only [upd_n, uN_n]
        exact xC e he
    · intro e he
      try simp (disch := omega) only [upd_n]
      exact xH e he
    · intro e he
      try simp (disch := omega) only [upd_n]
      exact xR e he
