/-! ===== mount ===== -/
theorem wallOfDrive_eq {e : Nat} (he : e ≤ 1) : f_X6_wallOfDrive (nI e) = some (nI (2 + 4 * e)) := by
  rcases (show e = 0 ∨ e = 1 by omega) with rfl | rfl <;> rfl
theorem inDrive_eq (u : UL) {e : Nat} (he : e ≤ 1) : f_X2_inDrive u (nI e) = some (u.1.2.2.2.2.1 (35 + e)) := by
  unfold f_X2_inDrive
  rw [la, inSlot_eq _ (by omega)]
  rfl
theorem isWorn_eq (u : UC) {c : Nat} (hc : c < 30) : f_X0_isWorn u (nI c) = some (if u.2.1 c < 6 then 0 else 1) := by
  unfold f_X0_isWorn
  rw [wearOf_eq _ hc]
  simp only [Option.bind_some]
  by_cases h : u.2.1 c < 6
  · rw [if_pos h, if_pos h]
  · rw [if_neg h, if_neg h]
theorem countMounting_eq (cwt cwe cby csl coc cho : UA) (n : Int32) {c : Nat} (hc : c < 30) (k : Int32) : f_X0_countMounting (cwt, cwe, cby, csl, coc, cho, n) (nI c) k = some (cwt, upd cwe c (cwe c + 1), upd cby c (cby c + k), csl, coc, cho, n) := by
  unfold f_X0_countMounting
  simp (disch := omega) only [inbT, clp, if_true, ltl, lle]
  rw [if_neg (by omega), if_neg (by omega)]
theorem fuel1 : FUEL = 1999 + 1 := rfl
theorem mount_ok {W P N M z lm k13 k14 k15 : Nat} {wt loc at' ho fi : Nat → Nat} {we by' ra ti : Nat → Int32} {tk tu se : Int32} {u : UL} {s : UA} (h : Sim W (P + 1) N M z lm k13 k14 k15 wt loc at' ho fi we by' ra ti tk tu se u s) {e : Nat} (he : e ≤ 1) (hW : W = 2 + 4 * e) {c : Nat} (hat : at' (32 + P) = c) (hfree : at' (35 + e) = 30) (hwe : we c < 6) :
    ∃ (M' lm' k13' k14' : Nat) (fi' : Nat → Nat) (we'' by'' ra' ti' : Nat → Int32) (se' : Int32) (u' : UL) (s' : UA), M' ≤ M ∧ ((∃ j, j < M ∧ ho (fi j) = c) → M' < M) ∧ f_X2_mountIn u (nI e) = some (nI (M - M'), u') ∧ (∀ w : UX, w.1 = s → f_X7_mounts w (nI e) = some (nI (M - M'), (s', w.2))) ∧ Sim W P N M' 0 lm' k13' k14' (k15 + 1) wt (uN loc c (35 + e)) (uN (uN at' (32 + P) 30) (35 + e) c) ho fi' we'' by'' ra' ti' (tk + 3) tu se' u' s' := by
  obtain ⟨⟨o1, o2, o3, o4, o5, o6, B, D, o9, o10, o11, o12, o13, o14, o15, o16, o17⟩, ⟨cwt, cwe, cby, csl, coc, cho, rf, rr, rt, rfl, r1, r2, r3, r4⟩, x0, x1, x2, x6, x7, x8, x9, x10, x13, x14, x15, xA, xE, xP, xC, xH, xR⟩ := h
  have hP : P < 3 := by omega
  have hc30 : c ≠ 30 := fun e => by
    have := (o9 P hP).mp (hat.trans e)
    omega
  have hk := B (32 + P) (by omega)
  rw [hat] at hk
  have hcN : c < N := by omega
  have hlc : loc c = 32 + P := by omega
  have hsl : csl c = nI (32 + P) := by rw [(r1 c hcN).2.2.2, hlc, eL_n (by omega)]
  have hoc : coc (32 + P) = nI c := by rw [r2 _ (by omega), hat, eC_n hc30]
  have hof : coc (35 + e) = -1 := by rw [r2 _ (by omega), hfree, eC_30]
  have hpw : pw (P + 1) wt at' = pw P wt (uN (uN at' (32 + P) 30) (35 + e) c) + wt c := by
    rw [pw_pop hP (a2 := uN (uN at' (32 + P) 30) (35 + e) c) (fun i hi => by rw [uN_n (by omega), uN_n (by omega)]), hat]
  have hsk : s (3 + P) = nI c := by rw [xP _ (by omega), hat, eC_n hc30]
  have hsf : s (11 + e) = -1 := by rw [xE _ (by omega), hfree, eC_30]
  have hoff := offPile_eq cwt cwe cby csl coc cho (nI N) (rf, rr, rt, nI M) (nI W) (nI z) (nI (P + 1)) (nI (pw (P + 1) wt at')) (nI lm) tk tu se (c := c) (t := 35 + e) (l := 32 + P) (by omega) (by omega) (by omega) hsl 3
  have htop := topOfPile_eq ((cwt, cwe, cby, csl, coc, cho, nI N), (rf, rr, rt, nI M), nI W, nI z, nI (P + 1), nI (pw (P + 1) wt at'), nI lm, tk, tu, se) hP rfl
  rw [hpw] at htop hoff
  have hwc : cwe c = we c := (r1 c hcN).2.1
  obtain ⟨xc0, xc1, xc2, xc3⟩ := xC c hcN
  let sA : UA := upd (upd (upd (upd (upd (upd (upd (upd s 2 (nI P)) 6 0) (11 + e) (nI c)) (13 + e) (nI k15)) 15 (nI (k15 + 1))) (48 + 4 * c + 1) (we c + 1)) (48 + 4 * c + 2) 2) 0 (tk + 3)
  have hsA : ∀ i, 228 ≤ i → sA i = s i := fun i hi => by
    show upd (upd (upd (upd (upd (upd (upd (upd s 2 (nI P)) 6 0) (11 + e) (nI c)) (13 + e) (nI k15)) 15 (nI (k15 + 1))) (48 + 4 * c + 1) (we c + 1)) (48 + 4 * c + 2) 2) 0 (tk + 3) i = s i
    simp (disch := omega) only [upd_n]
  have hlp := fun w2 => serves_loop (M := M) (c := c) (fi := fi) (ho := ho) (ra := ra) (ti := ti) o4 (by omega) o12 (fun x hx => by have := o11 x hx; omega) cwt cwe cby (upd csl c (nI (35 + e))) (upd (upd coc (32 + P) (-1)) (35 + e) (nI c)) cho (nI N) r3 M 0 0 FUEL FUEL rf rr rt sA w2 (by omega) (by rw [fuel1]; omega) (by rw [fuel1]; omega) (Nat.le_refl _) (fun j hj1 hj2 => by
    rw [hsA _ (by omega), hsA _ (by omega), hsA _ (by omega)]
    exact ⟨(r4 j hj2).1, (r4 j hj2).2.1, (r4 j hj2).2.2, xR j hj2⟩) (by
    show upd (upd (upd (upd (upd (upd (upd (upd s 2 (nI P)) 6 0) (11 + e) (nI c)) (13 + e) (nI k15)) 15 (nI (k15 + 1))) (48 + 4 * c + 1) (we c + 1)) (48 + 4 * c + 2) 2) 0 (tk + 3) 8 = nI M
    simp (disch := omega) only [upd_n]
    exact x8) (fun x hx => by
    show upd (upd (upd (upd (upd (upd (upd (upd s 2 (nI P)) 6 0) (11 + e) (nI c)) (13 + e) (nI k15)) 15 (nI (k15 + 1))) (48 + 4 * c + 1) (we c + 1)) (48 + 4 * c + 2) 2) 0 (tk + 3) (168 + x) = eC (ho x)
    simp (disch := omega) only [upd_n]
    exact xH x hx) (fun j hj => absurd hj (by omega))
  sorry
