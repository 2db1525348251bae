/-! ===== mount ===== -/
theorem wallOfDrive_eq {e : Nat} (he : e ≤ 1) : f_X6_wallOfDrive (nI e) = some (nI (2 + 4 * e)) := by
  rcases (show e = 0 ∨ e = 1 by omega) with rfl | rfl <;> rfl
theorem inDrive_eq (u : UL) {e : Nat} (he : e ≤ 1) : f_X2_inDrive u (nI e) = some (u.1.2.2.2.2.1 (35 + e)) := by
  unfold f_X2_inDrive
  rw [la, inSlot_eq _ (by omega)]
  rfl
theorem isWorn_eq (u : UC) {c : Nat} (hc : c < 30) : f_X0_isWorn u (nI c) = some (if u.2.1 c < 6 then 0 else 1) := by
  unfold f_X0_isWorn
  rw [wearOf_eq _ hc]
  simp only [Option.bind_some]
  by_cases h : u.2.1 c < 6
  · rw [if_pos h, if_pos h]
  · rw [if_neg h, if_neg h]
theorem countMounting_eq (cwt cwe cby csl coc cho : UA) (n : Int32) {c : Nat} (hc : c < 30) (k : Int32) : f_X0_countMounting (cwt, cwe, cby, csl, coc, cho, n) (nI c) k = some (cwt, upd cwe c (cwe c + 1), upd cby c (cby c + k), csl, coc, cho, n) := by
  unfold f_X0_countMounting
  simp (disch := omega) only [inbT, clp, if_true, ltl, lle]
  rw [if_neg (by omega), if_neg (by omega), if_neg (by omega)]
theorem leaves_eq {s : UA} {w2} {P c : Nat} (hP : P < 3) (h2 : s 2 = nI (P + 1)) (hc : s (3 + P) = nI c) : f_X7_leaves (s, w2) = some (nI c, (upd (upd s 2 (nI P)) 6 0, w2)) := by
  unfold f_X7_leaves
  simp (disch := omega) only [h2, sbl, Nat.add_sub_cancel, upd_n, upd_s, la, inbT, clp, if_true, hc]
theorem isAt_eq {s : UA} {w2} {c : Nat} (hc : c < 30) (v : Int32) : f_X7_isAt (s, w2) (nI c) v = some (upd s (48 + 4 * c + 2) v, w2) := by
  unfold f_X7_isAt
  simp (disch := omega) only [ml, la, al, inbT, clp, if_true]
theorem ca_eq {s : UA} {w2} {c j : Nat} (hc : c < 30) (hj : j < 4) : f_X7_ca (s, w2) (nI c) (nI j) = some (s (48 + 4 * c + j)) := by
  unfold f_X7_ca
  simp (disch := omega) only [ml, la, nI_add, inbT, clp, if_true]
theorem ca_w {w : UX} {c j : Nat} (hc : c < 30) (hj : j < 4) : f_X7_ca w (nI c) (nI j) = some (w.1 (48 + 4 * c + j)) := by
  unfold f_X7_ca
  simp (disch := omega) only [ml, la, nI_add, inbT, clp, if_true]
theorem iy {α : Type} {c : Prop} [Decidable c] {a b r : α} (h : c) (h2 : a = r) : (if c then a else b) = r := (if_pos h).trans h2
theorem ino {α : Type} {c : Prop} [Decidable c] {a b r : α} (h : ¬ c) (h2 : b = r) : (if c then a else b) = r := (if_neg h).trans h2
theorem bnd {α β : Type} {x : Option α} {a : α} {f : α → Option β} {r : Option β} (h : x = some a) (h2 : f a = r) : x.bind f = r := by rw [h]; exact h2
theorem one_ne_zero_nat : ((1 : Nat) = 0) = False := eq_false (by omega)
theorem fuel1 : FUEL = 1999 + 1 := rfl
theorem mount_ok {W P N M z lm k13 k14 k15 : Nat} {wt loc at' ho fi : Nat → Nat} {we by' ra ti : Nat → Int32} {tk tu se : Int32} {u : UL} {s : UA} (h : Sim W (P + 1) N M z lm k13 k14 k15 wt loc at' ho fi we by' ra ti tk tu se u s) {e : Nat} (he : e ≤ 1) (hW : W = 2 + 4 * e) {c : Nat} (hat : at' (32 + P) = c) (hfree : at' (35 + e) = 30) (hwe : we c < 6) :
    ∃ (M' lm' k13' k14' : Nat) (fi' : Nat → Nat) (we'' by'' ra' ti' : Nat → Int32) (se' : Int32) (u' : UL) (s' : UA), M' ≤ M ∧ ((∃ j, j < M ∧ ho (fi j) = c) → M' < M) ∧ f_X2_mountIn u (nI e) = some (nI (M - M'), u') ∧ (∀ w : UX, w.1 = s → f_X7_mounts w (nI e) = some (nI (M - M'), (s', w.2))) ∧ Sim W P N M' 0 lm' k13' k14' (k15 + 1) wt (uN loc c (35 + e)) (uN (uN at' (32 + P) 30) (35 + e) c) ho fi' we'' by'' ra' ti' (tk + 3) tu se' u' s' := by
  obtain ⟨⟨o1, o2, o3, o4, o5, o6, B, D, o9, o10, o11, o12, o13, o14, o15, o16, o17⟩, ⟨cwt, cwe, cby, csl, coc, cho, rf, rr, rt, rfl, r1, r2, r3, r4⟩, x0, x1, x2, x6, x7, x8, x9, x10, x13, x14, x15, xA, xE, xP, xC, xH, xR⟩ := h
  have hP : P < 3 := by omega
  have hc30 : c ≠ 30 := fun e => by
    have := (o9 P hP).mp (hat.trans e)
    omega
  have hk := B (32 + P) (by omega)
  rw [hat] at hk
  have hcN : c < N := by omega
  have hlc : loc c = 32 + P := by omega
  have hsl : csl c = nI (32 + P) := by rw [(r1 c hcN).2.2.2, hlc, eL_n (by omega)]
  have hoc : coc (32 + P) = nI c := by rw [r2 _ (by omega), hat, eC_n hc30]
  have hof : coc (35 + e) = -1 := by rw [r2 _ (by omega), hfree, eC_30]
  have hpw : pw (P + 1) wt at' = pw P wt (uN (uN at' (32 + P) 30) (35 + e) c) + wt c := by
    rw [pw_pop hP (a2 := uN (uN at' (32 + P) 30) (35 + e) c) (fun i hi => by rw [uN_n (by omega), uN_n (by omega)]), hat]
  have hsk : s (3 + P) = nI c := by rw [xP _ (by omega), hat, eC_n hc30]
  have hsf : s (11 + e) = -1 := by rw [xE _ (by omega), hfree, eC_30]
  have hoff := offPile_eq cwt cwe cby csl coc cho (nI N) (rf, rr, rt, nI M) (nI W) (nI z) (nI (P + 1)) (nI (pw (P + 1) wt at')) (nI lm) tk tu se (c := c) (t := 35 + e) (l := 32 + P) (by omega) (by omega) (by omega) hsl 3
  have htop := topOfPile_eq ((cwt, cwe, cby, csl, coc, cho, nI N), (rf, rr, rt, nI M), nI W, nI z, nI (P + 1), nI (pw (P + 1) wt at'), nI lm, tk, tu, se) hP rfl
  have hwc : cwe c = we c := (r1 c hcN).2.1
  obtain ⟨xc0, xc1, xc2, xc3⟩ := xC c hcN
  let sA : UA := upd (upd (upd (upd (upd (upd (upd (upd s 2 (nI P)) 6 0) (11 + e) (nI c)) (13 + e) (nI k15)) 15 (nI (k15 + 1))) (48 + 4 * c + 1) (we c + 1)) (48 + 4 * c + 2) 2) 0 (tk + 3)
  have hsA : ∀ i, 228 ≤ i → sA i = s i := fun i hi => by
    show upd (upd (upd (upd (upd (upd (upd (upd s 2 (nI P)) 6 0) (11 + e) (nI c)) (13 + e) (nI k15)) 15 (nI (k15 + 1))) (48 + 4 * c + 1) (we c + 1)) (48 + 4 * c + 2) 2) 0 (tk + 3) i = s i
    simp (disch := omega) only [upd_n]
  have hsv : sA = upd (upd (upd (upd (upd (upd (upd (upd s 2 (nI P)) 6 0) (11 + e) (nI c)) (13 + e) (nI k15)) 15 (nI (k15 + 1))) (48 + 4 * c + 1) (we c + 1)) (48 + 4 * c + 2) 2) 0 (tk + 3) := rfl
  obtain ⟨L', rf', rr', rt', s', i1, i2, i3, i4, i5, i6⟩ := serves_loop (M := M) (c := c) (fi := fi) (ho := ho) (ra := ra) (ti := ti) o4 (by omega) o12 (fun x hx => by have := o11 x hx; omega) cwt cwe cby (upd csl c (nI (35 + e))) (upd (upd coc (32 + P) (-1)) (35 + e) (nI c)) cho (nI N) r3 M 0 0 FUEL FUEL rf rr rt sA (by omega) (by rw [fuel1]; omega) (by rw [fuel1]; omega) (Nat.le_refl _) (fun j hj1 hj2 => by
    rw [hsA _ (by omega), hsA _ (by omega), hsA _ (by omega)]
    exact ⟨(r4 j hj2).1, (r4 j hj2).2.1, (r4 j hj2).2.2, xR j hj2⟩) (by
    rw [hsv]
    simp (disch := omega) only [upd_n]
    exact x8) (fun x hx => by
    rw [hsv]
    simp (disch := omega) only [upd_n]
    exact xH x hx) (fun j hj => absurd hj (by omega))
  have hW2 : (W = 2 + 4 * e) = True := eq_true hW
  refine ⟨L', e, (if e = 0 then k15 else k13), (if e = 0 then k14 else k15), fun j => (rf' j).toNatClampNeg, upd we c (we c + 1), upd by' c (by' c + nI (M - L')), rr', rt', se + nI (M - L'), _, upd (upd (upd s' 8 (nI L')) 9 (s' 9 + nI (M - L'))) (48 + 4 * c + 3) (s' (48 + 4 * c + 3) + nI (M - L')), i1, fun q => i2 (Or.inr (by obtain ⟨j, q1, q2⟩ := q; exact ⟨j, Nat.zero_le _, q1, q2⟩)), ?_, ?_, ?_, ⟨cwt, upd cwe c (cwe c + 1), upd cby c (cby c + nI (M - L')), upd csl c (nI (35 + e)), upd (upd coc (32 + P) (-1)) (35 + e) (nI c), cho, rf', rr', rt', rfl, ?_, ?_, r3, ?_⟩, ?_⟩
  · unfold f_X2_mountIn
    have hrm : f_X4_removeHeldBy ((rf, rr, rt, nI M), (cwt, cwe, cby, upd csl c (nI (35 + e)), upd (upd coc (32 + P) (-1)) (35 + e) (nI c), cho, nI N)) (nI c) = some (nI (M - L'), ((rf', rr', rt', nI L'), (cwt, cwe, cby, upd csl c (nI (35 + e)), upd (upd coc (32 + P) (-1)) (35 + e) (nI c), cho, nI N))) := i3
    have hwr : (if we c < 6 then (0 : Int32) else 1) = 0 := if_pos hwe
    simp (disch := omega) only [isIn_k, one0, if_false, htop, hoc, Option.bind_some, wallOfDrive_eq, eqn, hW2, if_true, nI_m1, inDrive_eq, hof, isWorn_eq, hwc, hwr, la, hoff, hrm, countMounting_eq]
    rw [(r1 c hcN).1, hpw, sbn (by omega), Nat.add_sub_cancel, sbl (by omega)]
    rfl
  · rintro ⟨s0, w2⟩ hw
    dsimp only at hw
    subst hw
    have hP0 : (P + 1 = 0) = False := eq_false (by omega)
    have hsv0 := i4 w2
    have y15 : upd (upd (upd (upd s0 2 (nI P)) 6 0) (11 + e) (nI c)) (13 + e) (nI k15) 15 = nI k15 := by
      simp (disch := omega) only [upd_n]
      exact x15
    have hin : f_X7_in (nI e) 0 1 = some 1 := in_k (by omega) he (by omega)
    have hlv := leaves_eq (w2 := w2) hP x2 hsk
    have hg1 : (11 + nI e) = nI (11 + e) := la 11 e
    have hg2 : (13 + nI e) = nI (13 + e) := la 13 e
    have hn10 : ¬ (1 : Int32) = 0 := by decide
    have hca : f_X7_ca (s0, w2) (nI c) 1 = some (we c) := by
      rw [show (1 : Int32) = nI 1 from rfl, ca_eq (by omega) (by omega), xc1]
    have hsA2 : ∀ v, f_X7_isAt (upd (upd (upd (upd (upd (upd s0 2 (nI P)) 6 0) (11 + e) (nI c)) (13 + e) (nI k15)) 15 (nI k15 + 1)) (48 + 4 * c + 1) (we c + 1), w2) (nI c) v = _ := fun v => isAt_eq (by omega) v
    have z15 : upd (upd (upd s0 2 (nI P)) 6 0) (11 + e) (nI c) 15 = nI k15 := by
      simp (disch := omega) only [upd_n]
      exact x15
    have zc1 : upd (upd (upd (upd (upd s0 2 (nI P)) 6 0) (11 + e) (nI c)) (13 + e) (nI k15)) 15 (nI k15 + 1) (48 + 4 * c + 1) = we c := by
      simp (disch := omega) only [upd_n]
      exact xc1
    have zt : upd (upd (upd (upd (upd (upd (upd s0 2 (nI P)) 6 0) (11 + e) (nI c)) (13 + e) (nI k15)) 15 (nI k15 + 1)) (48 + 4 * c + 1) (we c + 1)) (48 + 4 * c + 2) 2 0 = tk := by
      simp (disch := omega) only [upd_n]
      exact x0
    have c11 : (11 + nI e).toNatClampNeg = 11 + e := by rw [la, clp (by omega)]
    have c13 : (13 + nI e).toNatClampNeg = 13 + e := by rw [la, clp (by omega)]
    have cc1 : ((48 + (4 * nI c)) + 1).toNatClampNeg = 48 + 4 * c + 1 := by rw [ml, la, al, clp (by omega)]
    have ct1 : ((3 + nI (P + 1)) - 1).toNatClampNeg = 3 + P := by rw [la, sbl (by omega), clp (by omega)]; omega
    unfold f_X7_mounts
    refine bnd hin (ino hn10 (bnd rfl (iy ?_ (ino ?_ (iy ?_ (ino ?_ (iy ?_ (bnd (a := we c) ?_ (iy hwe (bnd hlv (iy ?_ (iy ?_ (iy ?_ (iy ?_ (bnd (isAt_eq (by omega) 2) (bnd (Eq.trans (congrArg (fun q => f_X7_serves q (nI c)) (?_ : _ = (sA, w2))) hsv0) rfl))))))))))))))))
    · show s0 1 = 2 + 4 * nI e
      rw [x1, hW, ml, la]
    · show ¬ s0 2 = 0
      rw [x2]
      exact nI_ne0 (by omega) (by omega)
    · rw [la]; exact inbT (by omega) (by omega)
    · show ¬ 0 ≤ s0 (11 + nI e).toNatClampNeg
      rw [c11, hsf]
      decide
    · show inb ((3 + s0 2) - 1) 264 = true
      rw [x2, la, sbl (by omega)]
      exact inbT (by omega) (by omega)
    · show f_X7_ca (s0, w2) (s0 ((3 + s0 2) - 1).toNatClampNeg) 1 = some (we c)
      rw [x2, ct1, hsk]
      exact hca
    · rw [la]; exact inbT (by omega) (by omega)
    · rw [la]; exact inbT (by omega) (by omega)
    · show inb ((48 + (4 * nI c)) + 1) 264 = true
      rw [ml, la, al]; exact inbT (by omega) (by omega)
    · show inb ((48 + (4 * nI c)) + 1) 264 = true
      rw [ml, la, al]; exact inbT (by omega) (by omega)
    · dsimp only
      rw [c11, c13, cc1, z15, show upd (upd (upd (upd s0 2 (nI P)) 6 0) (11 + e) (nI c)) (13 + e) (nI k15) 15 = nI k15 from y15, zc1, hsv, (nI_1 k15).symm, zt]
  · have hcase : e = 0 ∨ e = 1 := by omega
    have e35 : ∀ i, i < 2 → 32 + P ≠ 35 + i := fun i hi => by omega
    refine ⟨o1, by omega, o3, by omega, by omega, he, mv_B o3 B hcN hlc (by omega) (by omega) hfree, mv_D o3 B D hcN hlc (by omega) (by omega) hfree, fun i hi => ?_, o10, o11, fun k hk => ?_, ?_, ?_, ?_, ?_, ?_⟩
    · rw [uN_n (by omega)]
      by_cases e : i = P
      · rw [uN_s (by omega)]
        omega
      · rw [uN_n (by omega), o9 i hi]
        omega
    · obtain ⟨_, _, _, f, hf, hf2⟩ := i6 k hk
      dsimp only
      rw [hf2, clp (by omega)]
      exact hf
    · rcases hcase with rfl | rfl
      · intro h1 h2
        rw [uN_n (by omega), uN_n (by omega)] at h2
        have := o15 h2
        exact Or.inl ⟨rfl, by rw [if_pos rfl, if_pos rfl]; exact this⟩
      · intro h1 h2
        rw [uN_n (by omega), uN_n (by omega)] at h1
        have := o14 h1
        exact Or.inr ⟨rfl, by rw [if_neg (by omega), if_neg (by omega)]; exact this⟩
    · rcases hcase with rfl | rfl
      · intro h1
        simp only [if_true]
        omega
      · intro h1
        rw [uN_n (by omega), uN_n (by omega)] at h1
        have := o14 h1
        simp only [one_ne_zero_nat, if_false]
        omega
    · rcases hcase with rfl | rfl
      · intro h1
        rw [uN_n (by omega), uN_n (by omega)] at h1
        have := o15 h1
        simp only [if_true]
        omega
      · intro h1
        simp only [one_ne_zero_nat, if_false]
        omega
    · rcases hcase with rfl | rfl
      · simp only [if_true]; omega
      · simp only [one_ne_zero_nat, if_false]; omega
    · rcases hcase with rfl | rfl
      · simp only [if_true]; omega
      · simp only [one_ne_zero_nat, if_false]; omega
  · intro c1 hc1
    by_cases h1 : c1 = c
    · subst h1
      rw [upd_s rfl, upd_s rfl, upd_s rfl, uN_s rfl, eL_n (by omega), upd_s rfl, upd_s rfl, hwc, (r1 c1 hc1).2.2.1]
      exact ⟨(r1 c1 hc1).1, rfl, rfl, rfl⟩
    · rw [upd_n h1, upd_n h1, upd_n h1, uN_n h1, upd_n h1, upd_n h1]
      exact r1 c1 hc1
  · intro k hk7
    by_cases h1 : k = 35 + e
    · rw [upd_s h1, uN_s h1, eC_n hc30]
    · rw [upd_n h1, uN_n h1]
      by_cases h2 : k = 32 + P
      · rw [upd_s h2, uN_s h2, eC_30]
      · rw [upd_n h2, uN_n h2]; exact r2 k hk7
  · intro k hk
    obtain ⟨_, _, _, f, hf, hf2⟩ := i6 k hk
    refine ⟨?_, rfl, rfl⟩
    dsimp only
    rw [hf2, clp (by omega)]
  · have hS : ∀ i, i < 228 → i ≠ 8 → i ≠ 9 → i ≠ 48 + 4 * c + 3 → upd (upd (upd s' 8 (nI L')) 9 (s' 9 + nI (M - L'))) (48 + 4 * c + 3) (s' (48 + 4 * c + 3) + nI (M - L')) i = upd (upd (upd (upd (upd (upd (upd (upd s 2 (nI P)) 6 0) (11 + e) (nI c)) (13 + e) (nI k15)) 15 (nI (k15 + 1))) (48 + 4 * c + 1) (we c + 1)) (48 + 4 * c + 2) 2) 0 (tk + 3) i := fun i h1 h2 h3 h4 => by
      rw [upd_n h4, upd_n h3, upd_n h2, i5 i h1, hsv]
    refine ⟨?_, ?_, ?_, ?_, ?_, ?_, ?_, ?_, ?_, ?_, ?_, ?_, ?_, ?_, ?_, ?_, ?_⟩
    · rw [hS _ (by omega) (by omega) (by omega) (by omega), upd_s rfl]
    · rw [hS _ (by omega) (by omega) (by omega) (by omega)]
      simp (disch := omega) only [upd_n, x1]
    · rw [hS _ (by omega) (by omega) (by omega) (by omega)]
      simp (disch := omega) only [upd_n, upd_s]
    · rw [hS _ (by omega) (by omega) (by omega) (by omega)]
      simp (disch := omega) only [upd_n, upd_s]
      rfl
    · rw [hS _ (by omega) (by omega) (by omega) (by omega)]
      simp (disch := omega) only [upd_n, x7]
    · simp (disch := omega) only [upd_n, upd_s]
    · rw [upd_n (by omega), upd_s rfl, i5 9 (by omega), hsv]
      simp (disch := omega) only [upd_n, x9]
    · rw [hS _ (by omega) (by omega) (by omega) (by omega)]
      simp (disch := omega) only [upd_n, x10]
    · rw [hS _ (by omega) (by omega) (by omega) (by omega)]
      by_cases q : e = 0
      · simp (disch := omega) only [upd_n, upd_s, if_pos q]
      · simp (disch := omega) only [upd_n, if_neg q, x13]
    · rw [hS _ (by omega) (by omega) (by omega) (by omega)]
      by_cases q : e = 0
      · simp (disch := omega) only [upd_n, if_pos q, x14]
      · simp (disch := omega) only [upd_n, upd_s, if_neg q]
    · rw [hS _ (by omega) (by omega) (by omega) (by omega)]
      simp (disch := omega) only [upd_n, upd_s]
    · intro k hk7
      rw [hS _ (by omega) (by omega) (by omega) (by omega)]
      simp (disch := omega) only [upd_n, uN_n]
      exact xA k hk7
    · intro e1 he1
      rw [hS _ (by omega) (by omega) (by omega) (by omega)]
      by_cases q : e1 = e
      · simp (disch := omega) only [upd_n, upd_s, uN_s]
        rw [eC_n hc30]
      · simp (disch := omega) only [upd_n, uN_n]
        exact xE e1 he1
    · intro i hi
      rw [hS _ (by omega) (by omega) (by omega) (by omega)]
      simp (disch := omega) only [upd_n, uN_n]
      exact xP i (by omega)
    · intro e1 he1
      by_cases h2 : e1 = c
      · subst h2
        rw [hS (48 + 4 * e1) (by omega) (by omega) (by omega) (by omega), hS (48 + 4 * e1 + 1) (by omega) (by omega) (by omega) (by omega), hS (48 + 4 * e1 + 2) (by omega) (by omega) (by omega) (by omega)]
        refine ⟨?_, ?_, ?_, ?_⟩
        · simp (disch := omega) only [upd_n]
          exact xc0
        · simp (disch := omega) only [upd_n, upd_s]
        · simp (disch := omega) only [upd_n, upd_s, uN_s]
          rw [show kd (35 + e) = 2 by unfold kd; rw [if_neg (by omega), if_neg (by omega), if_pos (by omega)]]
          rfl
        · rw [upd_s rfl, upd_s rfl, i5 _ (by omega), hsv]
          simp (disch := omega) only [upd_n, xc3]
      · rw [hS (48 + 4 * e1) (by omega) (by omega) (by omega) (by omega), hS (48 + 4 * e1 + 1) (by omega) (by omega) (by omega) (by omega), hS (48 + 4 * e1 + 2) (by omega) (by omega) (by omega) (by omega), hS (48 + 4 * e1 + 3) (by omega) (by omega) (by omega) (by omega)]
        simp (disch := omega) only [upd_n, uN_n]
        exact xC e1 he1
    · intro x hx
      rw [hS _ (by omega) (by omega) (by omega) (by omega)]
      simp (disch := omega) only [upd_n]
      exact xH x hx
    · intro k hk7
      obtain ⟨q0, q1, q2, f, hf, hf2⟩ := i6 k hk7
      simp (disch := omega) only [upd_n]
      refine ⟨?_, q1.symm, q2.symm⟩
      rw [← q0, hf2, clp (by omega)]
