/-! ===== would, wholeBatch ===== -/
theorem rule_y {j : Nat} (hj : j ≤ 3) : f_X6_isRule (nI j) = some 1 := by
  unfold f_X6_isRule
  rw [isIn_k (by omega) hj (by omega)]
  rfl
theorem rule_n {p : Int32} (h : f_X6_isIn p 0 3 = some 0) : f_X6_isRule p = some 0 := by
  unfold f_X6_isRule
  rw [h]
  rfl
theorem would_call {B : Nat} (hB : B < 2147483648) {um : UM} {ux : UX} (hJ : Jn B um ux) (p1 p2 : Int32) : Call2 B (f_X6_would um p1 p2) (f_X7_would ux p1 p2) := by
  obtain ⟨now, trial, hi, o⟩ := um
  obtain ⟨s, was, bg, a, st, tx, ty, at1, re1, ca1, di1, or1, dr1, mo1⟩ := ux
  obtain ⟨hR, hH, hT⟩ := hJ
  have hfr := fresh_ok (trial := trial) (h := hi) (o := o) hR
  have hR0 := hR
  have rd0 := rl_read hR
  obtain ⟨W, P, N, M, z, lm, k13, k14, k15, wt, loc, at', ho, fi, we, by', ra, ti, tk, tu, se, h, hb, hh⟩ := hR
  unfold f_X6_would f_X7_would
  rcases fin1' p1 3 (by omega) with ⟨j, hj, rfl⟩ | ⟨q1, q2⟩
  · rcases fin1' p2 4 (by omega) with ⟨k, hk, rfl⟩ | ⟨q1, q2⟩
    · have hM := h.1.2.2.2.1
      have hi2 : f_X6_isIn (nI k) 0 4 = some 1 := isIn_k (by omega) hk (by omega)
      have hi3 : f_X7_in (nI k) 0 4 = some 1 := in_k (by omega) hk (by omega)
      have hi4 : f_X7_in (nI j) 0 3 = some 1 := in_k (by omega) hj (by omega)
      rcases serve_ok h hj (by omega) with ⟨c1, m1⟩ | ⟨M', e, c, q, u', s', i1, i2, c1, m1, S, he, n1, n2, n3⟩
      · refine ⟨-1000002, (now, now, hi, o), (cpy (cpy s a 264) s 264, was, bg, cpy s a 264, st, tx, ty, at1, re1, ca1, di1, or1, dr1, mo1), bnd (rule_y hj) (ino (by decide) (bnd hi2 (ino (by decide) (bnd hfr (bnd c1 (ino (show ¬ (0 : Int32) ≤ -1000002 by decide) rfl)))))), bnd hi4 (ino (by decide) (bnd hi3 (ino (by decide) (bnd (puts_eq _) (bnd (m1 _ rfl) (bnd (restores_eq _) (iy rfl rfl))))))), rl_congr hR0 (fun i hi => ?_), hH, hT⟩
        dsimp only
        rw [cpy_in hi, cpy_in hi]
      · have rd := rl_read (simE_rl S (B := k15 + 1) (Nat.le_refl _) hh)
        have hsr := m1 (s, was, bg, cpy s a 264, st, tx, ty, at1, re1, ca1, di1, or1, dr1, mo1) rfl
        have hJ' : Jn B (now, u', hi, o) (cpy (cpy s a 264) s' 264, was, bg, cpy s a 264, st, tx, ty, at1, re1, ca1, di1, or1, nI e, nI c) := by
          refine ⟨rl_congr hR0 (fun i hi => ?_), hH, hT⟩
          dsimp only
          rw [cpy_in hi, cpy_in hi]
        have hne : ¬ nI (M - M') = -1000002 := fun x => by
          have l := nI_pos' (n := M - M') (by omega)
          rw [x] at l
          exact absurd l (by decide)
        have chd : ∀ r, (if nI k = 0 then some ((u'.2.2.2.2.2.2.2.1 - now.2.2.2.2.2.2.2.1), (now, u', hi, o)) else (if nI k = 1 then some ((u'.2.2.2.2.2.2.2.2.1 - now.2.2.2.2.2.2.2.2.1), (now, u', hi, o)) else (if nI k = 2 then some (nI (M - M'), (now, u', hi, o)) else (if nI k = 3 then some (nI e, (now, u', hi, o)) else some (nI c, (now, u', hi, o)))))) = r → f_X6_would (now, trial, hi, o) (nI j) (nI k) = r := by
          intro r hr
          unfold f_X6_would
          refine bnd (rule_y hj) (ino (by decide) (bnd hi2 (ino (by decide) (bnd hfr (bnd c1 (iy (nI_pos' (by omega)) (bnd n1 (bnd n2 ?_))))))))
          by_cases e0 : nI k = 0
          · rw [if_pos e0] at hr ⊢; exact hr
          · rw [if_neg e0] at hr ⊢
            by_cases e1 : nI k = 1
            · rw [if_pos e1] at hr ⊢; exact hr
            · rw [if_neg e1] at hr ⊢
              by_cases e2 : nI k = 2
              · rw [if_pos e2] at hr ⊢; exact hr
              · rw [if_neg e2] at hr ⊢
                by_cases e3 : nI k = 3
                · rw [if_pos e3] at hr ⊢; exact bnd n3 hr
                · rw [if_neg e3] at hr ⊢; exact hr
        have mhd : ∀ r, (if nI k = 0 then some ((s' 0 - s 0), (cpy (cpy s a 264) s' 264, was, bg, cpy s a 264, st, tx, ty, at1, re1, ca1, di1, or1, nI e, nI c)) else (if nI k = 1 then some ((s' 10 - s 10), (cpy (cpy s a 264) s' 264, was, bg, cpy s a 264, st, tx, ty, at1, re1, ca1, di1, or1, nI e, nI c)) else (if nI k = 2 then some (nI (M - M'), (cpy (cpy s a 264) s' 264, was, bg, cpy s a 264, st, tx, ty, at1, re1, ca1, di1, or1, nI e, nI c)) else (if nI k = 3 then some (nI e, (cpy (cpy s a 264) s' 264, was, bg, cpy s a 264, st, tx, ty, at1, re1, ca1, di1, or1, nI e, nI c)) else some (nI c, (cpy (cpy s a 264) s' 264, was, bg, cpy s a 264, st, tx, ty, at1, re1, ca1, di1, or1, nI e, nI c)))))) = r → f_X7_would (s, was, bg, a, st, tx, ty, at1, re1, ca1, di1, or1, dr1, mo1) (nI j) (nI k) = r := by
          intro r hr
          unfold f_X7_would
          refine bnd hi4 (ino (by decide) (bnd hi3 (ino (by decide) (bnd (puts_eq _) (bnd hsr (bnd (restores_eq _) (ino hne ?_)))))))
          have c0 : cpy (cpy s a 264) s' 264 0 = s 0 := by rw [cpy_in (by omega), cpy_in (by omega)]
          have c10 : cpy (cpy s a 264) s' 264 10 = s 10 := by rw [cpy_in (by omega), cpy_in (by omega)]
          show (if nI k = 0 then some ((s' 0 - cpy (cpy s a 264) s' 264 0), (cpy (cpy s a 264) s' 264, was, bg, cpy s a 264, st, tx, ty, at1, re1, ca1, di1, or1, nI e, nI c)) else (if nI k = 1 then some ((s' 10 - cpy (cpy s a 264) s' 264 10), (cpy (cpy s a 264) s' 264, was, bg, cpy s a 264, st, tx, ty, at1, re1, ca1, di1, or1, nI e, nI c)) else (if nI k = 2 then some (nI (M - M'), (cpy (cpy s a 264) s' 264, was, bg, cpy s a 264, st, tx, ty, at1, re1, ca1, di1, or1, nI e, nI c)) else (if nI k = 3 then some (nI e, (cpy (cpy s a 264) s' 264, was, bg, cpy s a 264, st, tx, ty, at1, re1, ca1, di1, or1, nI e, nI c)) else some (nI c, (cpy (cpy s a 264) s' 264, was, bg, cpy s a 264, st, tx, ty, at1, re1, ca1, di1, or1, nI e, nI c)))))) = r
          rw [c0, c10]
          exact hr
        have e0 : u'.2.2.2.2.2.2.2.1 - now.2.2.2.2.2.2.2.1 = s' 0 - s 0 := by rw [rd.1, rd0.1]
        have e10 : u'.2.2.2.2.2.2.2.2.1 - now.2.2.2.2.2.2.2.2.1 = s' 10 - s 10 := by rw [rd.2.1, rd0.2.1]
        rw [e0, e10] at chd
        rcases (show k = 0 ∨ k = 1 ∨ k = 2 ∨ k = 3 ∨ k = 4 by omega) with rfl | rfl | rfl | rfl | rfl
        · exact ⟨_, _, _, chd _ (iy rfl rfl), mhd _ (iy rfl rfl), hJ'⟩
        · exact ⟨_, _, _, chd _ (ino (by decide) (iy rfl rfl)), mhd _ (ino (by decide) (iy rfl rfl)), hJ'⟩
        · exact ⟨_, _, _, chd _ (ino (by decide) (ino (by decide) (iy rfl rfl))), mhd _ (ino (by decide) (ino (by decide) (iy rfl rfl))), hJ'⟩
        · exact ⟨_, _, _, chd _ (ino (by decide) (ino (by decide) (ino (by decide) (iy rfl rfl)))), mhd _ (ino (by decide) (ino (by decide) (ino (by decide) (iy rfl rfl)))), hJ'⟩
        · exact ⟨_, _, _, chd _ (ino (by decide) (ino (by decide) (ino (by decide) (ino (by decide) rfl)))), mhd _ (ino (by decide) (ino (by decide) (ino (by decide) (ino (by decide) rfl)))), hJ'⟩
    · exact ⟨_, _, _, bnd (rule_y hj) (ino (by decide) (bnd q1 (iy rfl rfl))), bnd (in_k (by omega) hj (by omega)) (ino (by decide) (bnd q2 (iy rfl rfl))), hR0, hH, hT⟩
  · exact ⟨_, _, _, bnd (rule_n q1) (iy rfl rfl), bnd q2 (iy rfl rfl), hR0, hH, hT⟩
theorem batch_loop {N j : Nat} {wt ho : Nat → Nat} (hj : j ≤ 3) (hh : ∀ c, c < 30 → hc ho c ≤ 4) : ∀ (d M i k15 n1 n2 : Nat) (u : UL) (s : UA), SimE N M k15 wt ho u s → M ≤ d → i + M ≤ 12 → k15 + M < 2147483648 → M < n1 → M < n2 →
    ∃ (t : Nat) (u' : UL) (s' : UA), t ≤ 12 ∧ f_X2_serveAllBy_b2 n1 u (nI j) (nI i) = some (nI t, u') ∧ (∀ (w : UX) (v2 : Int32), w.1 = s → ∃ d e : Int32, f_X7_wholeBatch_b27 n2 w (nI j) v2 (nI i) = f_X7_wholeBatch_b51 (wd w s' d e) v2 (nI t)) ∧ u'.2.2.2.2.2.2.2.1 = s' 0 ∧ u'.2.1.2.2.2 = s' 8 := by
  intro d
  induction d with
  | zero =>
    intro M i k15 n1 n2 u s h hM hi hk h1 h2
    have hM0 : M = 0 := by omega
    subst hM0
    obtain ⟨m1, rfl⟩ : ∃ m, n1 = m + 1 := ⟨n1 - 1, by omega⟩
    obtain ⟨m2, rfl⟩ : ∃ m, n2 = m + 1 := ⟨n2 - 1, by omega⟩
    have rd := rl_read (simE_rl h (B := k15) (Nat.le_refl _) hh)
    obtain ⟨W, P, z, lm, k13, k14, loc, at', fi, we, by', ra, ti, tk, tu, se, h⟩ := h
    have x8 : s 8 = nI 0 := h.2.2.2.2.2.2.2.1
    refine ⟨i, u, s, by omega, ?_, fun w v2 hw => ?_, rd.1, rd.2.2.2.2.2.2.2⟩
    · rw [f_X2_serveAllBy_b2]
      by_cases e : i = 12
      · exact iy (by rw [lle (by omega) (by omega)]; omega) rfl
      · refine ino (by rw [lle (by omega) (by omega)]; omega) ?_
        rcases serve_ok h hj (by omega) with ⟨c1, _⟩ | ⟨M', e, c, q, u', s', i1, _⟩
        · exact bnd c1 (iy (show (-1000002 : Int32) < 0 by decide) rfl)
        · omega
    · refine ⟨w.2.2.2.2.2.2.2.2.2.2.2.2.1, w.2.2.2.2.2.2.2.2.2.2.2.2.2, ?_⟩
      rw [f_X7_wholeBatch_b27]
      refine iy (by rw [hw, x8]; decide) ?_
      subst hw
      rfl
  | succ d ih =>
    intro M i k15 n1 n2 u s h hM hi hk h1 h2
    by_cases hM1 : M ≤ d
    · exact ih M i k15 n1 n2 u s h hM1 hi hk h1 h2
    · obtain ⟨m1, rfl⟩ : ∃ m, n1 = m + 1 := ⟨n1 - 1, by omega⟩
      obtain ⟨m2, rfl⟩ : ∃ m, n2 = m + 1 := ⟨n2 - 1, by omega⟩
      have rd := rl_read (simE_rl h (B := k15) (Nat.le_refl _) hh)
      obtain ⟨W, P, z, lm, k13, k14, loc, at', fi, we, by', ra, ti, tk, tu, se, h⟩ := h
      have x8 : s 8 = nI M := h.2.2.2.2.2.2.2.1
      have hc12 : ¬ (12 : Int32) ≤ nI i := by rw [lle (by omega) (by omega)]; omega
      have hm8 : ¬ nI M ≤ 0 := by rw [lel (by omega) (by omega)]; omega
      rcases serve_ok h hj (by omega) with ⟨c1, mm⟩ | ⟨M', e, c, q, u1, s1, i1, i2, c1, mm, S, _⟩
      · refine ⟨i, u, s, by omega, ?_, fun w v2 hw => ?_, rd.1, rd.2.2.2.2.2.2.2⟩
        · rw [f_X2_serveAllBy_b2]
          exact ino hc12 (bnd c1 (iy (show (-1000002 : Int32) < 0 by decide) rfl))
        · refine ⟨w.2.2.2.2.2.2.2.2.2.2.2.2.1, w.2.2.2.2.2.2.2.2.2.2.2.2.2, ?_⟩
          rw [f_X7_wholeBatch_b27]
          refine ino (by rw [hw, x8]; exact hm8) (bnd (mm w hw) (iy (show (-1000002 : Int32) < 0 by decide) ?_))
          subst hw
          rfl
      · obtain ⟨t, u', s', ht, g1, g2, g3, g4⟩ := ih M' (i + 1) (k15 + 1) m1 m2 u1 s1 S (by omega) (by omega) (by omega) (by omega) (by omega)
        have hpos : ¬ nI (M - M') < 0 := nI_pos (by omega)
        refine ⟨t, u', s', ht, ?_, fun w v2 hw => ?_, g3, g4⟩
        · rw [f_X2_serveAllBy_b2]
          refine ino hc12 (bnd c1 (ino hpos ?_))
          rw [al]
          exact g1
        · obtain ⟨d1, e1, g5⟩ := g2 (wd w s1 (nI e) (nI c)) v2 rfl
          refine ⟨d1, e1, ?_⟩
          rw [f_X7_wholeBatch_b27]
          refine ino (by rw [hw, x8]; exact hm8) (bnd (mm w hw) (ino hpos ?_))
          rw [al]
          exact g5
theorem wholeBatch_call {B : Nat} (hB : B + 12 < 2147483648) {um : UM} {ux : UX} (hJ : Jn B um ux) (p1 p2 : Int32) : Call2 B (f_X6_wholeBatch um p1 p2) (f_X7_wholeBatch ux p1 p2) := by
  obtain ⟨now, trial, hi, o⟩ := um
  obtain ⟨s, was, bg, a, st, rest⟩ := ux
  obtain ⟨hR, hH, hT⟩ := hJ
  have hfr := fresh_ok (trial := trial) (h := hi) (o := o) hR
  have hR0 := hR
  have rd0 := rl_read hR
  obtain ⟨W, P, N, M, z, lm, k13, k14, k15, wt, loc, at', ho, fi, we, by', ra, ti, tk, tu, se, h, hb, hh⟩ := hR
  unfold f_X6_wholeBatch f_X7_wholeBatch
  rcases fin1' p1 3 (by omega) with ⟨j, hj, rfl⟩ | ⟨q1, q2⟩
  · rcases fin1' p2 2 (by omega) with ⟨k, hk, rfl⟩ | ⟨q1, q2⟩
    · have hM := h.1.2.2.2.1
      have hi2 : f_X6_isIn (nI k) 0 2 = some 1 := isIn_k (by omega) hk (by omega)
      have hi3 : f_X7_in (nI k) 0 2 = some 1 := in_k (by omega) hk (by omega)
      have hi4 : f_X7_in (nI j) 0 3 = some 1 := in_k (by omega) hj (by omega)
      obtain ⟨t, u', s', ht, g1, g2, g3, g4⟩ := batch_loop hj hh M M 0 k15 FUEL FUEL now s ⟨_, _, _, _, _, _, _, _, _, _, _, _, _, _, _, _, h⟩ (Nat.le_refl _) (by omega) (by omega) (by rw [fuel1]; omega) (by rw [fuel1]; omega)
      have ca : f_X2_serveAllBy now (nI j) = some (nI t, u') := g1
      obtain ⟨d, e, g5⟩ := g2 (s, was, bg, cpy s a 264, st, rest) (nI k) rfl
      have cA : f_X7_wholeBatch_b27 FUEL (s, was, bg, cpy s a 264, st, rest) (nI j) (nI k) 0 = _ := g5
      have hJ' : Jn B (now, u', hi, o) (wd (cpy (cpy s a 264) s' 264, was, bg, cpy s a 264, st, rest) (cpy (cpy s a 264) s' 264) d e) := by
        refine ⟨rl_congr hR0 (fun i hi => ?_), hH, hT⟩
        show cpy (cpy s a 264) s' 264 i = s i
        rw [cpy_in hi, cpy_in hi]
      have c0 : cpy (cpy s a 264) s' 264 0 = s 0 := by rw [cpy_in (by omega), cpy_in (by omega)]
      have hres := restores_eq (wd (s, was, bg, cpy s a 264, st, rest) s' d e)
      have mhd : ∀ r, (if nI k = 0 then some ((s' 0 - s 0), wd (cpy (cpy s a 264) s' 264, was, bg, cpy s a 264, st, rest) (cpy (cpy s a 264) s' 264) d e) else (if nI k = 1 then some (nI t, wd (cpy (cpy s a 264) s' 264, was, bg, cpy s a 264, st, rest) (cpy (cpy s a 264) s' 264) d e) else some (s' 8, wd (cpy (cpy s a 264) s' 264, was, bg, cpy s a 264, st, rest) (cpy (cpy s a 264) s' 264) d e))) = r → f_X7_wholeBatch (s, was, bg, a, st, rest) (nI j) (nI k) = r := by
        intro r hr
        unfold f_X7_wholeBatch
        refine bnd hi4 (ino (by decide) (bnd hi3 (ino (by decide) (bnd (puts_eq _) (cA.trans ?_)))))
        unfold f_X7_wholeBatch_b51
        refine bnd hres ?_
        show (if nI k = 0 then some ((s' 0 - cpy (cpy s a 264) s' 264 0), wd (cpy (cpy s a 264) s' 264, was, bg, cpy s a 264, st, rest) (cpy (cpy s a 264) s' 264) d e) else (if nI k = 1 then some (nI t, wd (cpy (cpy s a 264) s' 264, was, bg, cpy s a 264, st, rest) (cpy (cpy s a 264) s' 264) d e) else some (s' 8, wd (cpy (cpy s a 264) s' 264, was, bg, cpy s a 264, st, rest) (cpy (cpy s a 264) s' 264) d e))) = r
        rw [c0]
        exact hr
      have chd : ∀ r, (if nI k = 0 then some ((s' 0 - s 0), (now, u', hi, o)) else (if nI k = 1 then some (nI t, (now, u', hi, o)) else some (s' 8, (now, u', hi, o)))) = r → f_X6_wholeBatch (now, trial, hi, o) (nI j) (nI k) = r := by
        intro r hr
        unfold f_X6_wholeBatch
        refine bnd (rule_y hj) (ino (by decide) (bnd hi2 (ino (by decide) (bnd hfr (bnd ca ?_)))))
        have e1 := rd0.1
        dsimp only at e1 ⊢
        rw [g3, g4, e1]
        exact hr
      rcases (show k = 0 ∨ k = 1 ∨ k = 2 by omega) with rfl | rfl | rfl
      · exact ⟨_, _, _, chd _ (iy rfl rfl), mhd _ (iy rfl rfl), hJ'⟩
      · exact ⟨_, _, _, chd _ (ino (by decide) (iy rfl rfl)), mhd _ (ino (by decide) (iy rfl rfl)), hJ'⟩
      · exact ⟨_, _, _, chd _ (ino (by decide) (ino (by decide) rfl)), mhd _ (ino (by decide) (ino (by decide) rfl)), hJ'⟩
    · exact ⟨_, _, _, bnd (rule_y hj) (ino (by decide) (bnd q1 (iy rfl rfl))), bnd (in_k (by omega) hj (by omega)) (ino (by decide) (bnd q2 (iy rfl rfl))), hR0, hH, hT⟩
  · exact ⟨_, _, _, bnd (rule_n q1) (iy rfl rfl), bnd q2 (iy rfl rfl), hR0, hH, hT⟩
