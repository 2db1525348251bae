/-! ===== goTo ===== -/
def dst (W t : Nat) : Nat := if (t + 8 - W) % 8 ≤ 4 then (t + 8 - W) % 8 else 8 - (t + 8 - W) % 8
def goP (W t m : Nat) : Int32 := if 4 < (t + 8 - W) % 8 then -(jmin (8 - nI ((t + 8 - W) % 8)) (nI m)) else jmin (nI ((t + 8 - W) % 8)) (nI m)
theorem most_m (x : Int32) : ∃ k : Fin 3, f_X6_mostWallsWith x = some (nI (2 ^ k.val)) := by
  unfold f_X6_mostWallsWith
  by_cases h : 10 < x
  · by_cases h2 : 20 < x
    · exact ⟨0, by rw [if_pos h, if_pos h2]; rfl⟩
    · exact ⟨1, by rw [if_pos h, if_neg h2]; rfl⟩
  · exact ⟨2, by rw [if_neg h]; rfl⟩
theorem right_eq {W t : Nat} (hW : W < 8) (ht : t < 8) : jrem ((nI t - nI W) + 8) 8 = nI ((t + 8 - W) % 8) := by
  have k : ∀ a b : Fin 8, jrem ((nI b.val - nI a.val) + 8) 8 = nI ((b.val + 8 - a.val) % 8) := by decide +kernel
  exact k ⟨W, hW⟩ ⟨t, ht⟩
theorem go_facts {W t : Nat} (hW : W < 8) (ht : t < 8) (k : Fin 3) (h : W ≠ t) : ¬ goP W t (2 ^ k.val) < -4 ∧ ¬ 4 < goP W t (2 ^ k.val) ∧ goP W t (2 ^ k.val) ≠ 0 ∧ (if 0 ≤ goP W t (2 ^ k.val) then goP W t (2 ^ k.val) else -goP W t (2 ^ k.val)) = jabs (goP W t (2 ^ k.val)) ∧ jabs (goP W t (2 ^ k.val)) ≤ nI (2 ^ k.val) ∧ jrem ((nI W + goP W t (2 ^ k.val)) + 8) 8 = nI (jrem ((nI W + goP W t (2 ^ k.val)) + 8) 8).toNatClampNeg ∧ (jrem ((nI W + goP W t (2 ^ k.val)) + 8) 8).toNatClampNeg < 8 ∧ dst (jrem ((nI W + goP W t (2 ^ k.val)) + 8) 8).toNatClampNeg t < dst W t := by
  have q : ∀ a b : Fin 8, ∀ k : Fin 3, a.val ≠ b.val → ¬ goP a.val b.val (2 ^ k.val) < -4 ∧ ¬ 4 < goP a.val b.val (2 ^ k.val) ∧ goP a.val b.val (2 ^ k.val) ≠ 0 ∧ (if 0 ≤ goP a.val b.val (2 ^ k.val) then goP a.val b.val (2 ^ k.val) else -goP a.val b.val (2 ^ k.val)) = jabs (goP a.val b.val (2 ^ k.val)) ∧ jabs (goP a.val b.val (2 ^ k.val)) ≤ nI (2 ^ k.val) ∧ jrem ((nI a.val + goP a.val b.val (2 ^ k.val)) + 8) 8 = nI (jrem ((nI a.val + goP a.val b.val (2 ^ k.val)) + 8) 8).toNatClampNeg ∧ (jrem ((nI a.val + goP a.val b.val (2 ^ k.val)) + 8) 8).toNatClampNeg < 8 ∧ dst (jrem ((nI a.val + goP a.val b.val (2 ^ k.val)) + 8) 8).toNatClampNeg b.val < dst a.val b.val := by decide +kernel
  exact q ⟨W, hW⟩ ⟨t, ht⟩ k h
theorem dst_le {W t : Nat} (hW : W < 8) (ht : t < 8) : dst W t ≤ 4 := by
  unfold dst
  by_cases h : (t + 8 - W) % 8 ≤ 4
  · rw [if_pos h]; exact h
  · rw [if_neg h]; omega
theorem sim_W {W P N M z lm k13 k14 k15 : Nat} {wt loc at' ho fi : Nat → Nat} {we by' ra ti : Nat → Int32} {tk tu se : Int32} {u : UL} {s : UA} (h : Sim W P N M z lm k13 k14 k15 wt loc at' ho fi we by' ra ti tk tu se u s) : W < 8 ∧ u.2.2.1 = nI W ∧ s 1 = nI W := by
  obtain ⟨o, ⟨cwt, cwe, cby, csl, coc, cho, rf, rr, rt, rfl, r⟩, x⟩ := h
  exact ⟨o.1, rfl, x.2.1⟩
theorem goTo_loop {P N M lm k13 k14 k15 t : Nat} {wt loc at' ho fi : Nat → Nat} {we by' ra ti : Nat → Int32} {se : Int32} (ht : t < 8) : ∀ (D W z i n1 n2 : Nat) (tk tu : Int32) (u : UL) (s : UA), Sim W P N M z lm k13 k14 k15 wt loc at' ho fi we by' ra ti tk tu se u s → dst W t ≤ D → i + D < 8 → D < n1 → D < n2 →
    ∃ (z' : Nat) (tk' tu' : Int32) (u' : UL) (s' : UA), f_X2_goTo_b2 n1 u (nI t) (nI i) = some u' ∧ (∀ w : UX, w.1 = s → f_X7_goes_b0 n2 w (nI t) = some (s', w.2)) ∧ Sim t P N M z' lm k13 k14 k15 wt loc at' ho fi we by' ra ti tk' tu' se u' s' := by
  intro D
  induction D with
  | zero =>
    intro W z i n1 n2 tk tu u s h hd hi h1 h2
    obtain ⟨m1, rfl⟩ : ∃ m, n1 = m + 1 := ⟨n1 - 1, by omega⟩
    obtain ⟨m2, rfl⟩ : ∃ m, n2 = m + 1 := ⟨n2 - 1, by omega⟩
    obtain ⟨hW, eu, es⟩ := sim_W h
    have hWt : W = t := by
      unfold dst at hd
      by_cases q : (t + 8 - W) % 8 ≤ 4
      · rw [if_pos q] at hd; omega
      · rw [if_neg q] at hd; omega
    subst hWt
    refine ⟨z, tk, tu, u, s, ?_, ?_, h⟩
    · rw [f_X2_goTo_b2]
      exact ino (by rw [lle (by omega) (by omega)]; omega) (iy eu rfl)
    · intro w hw
      rw [f_X7_goes_b0]
      refine iy (by rw [hw]; exact es) ?_
      rw [← hw]
  | succ D ih =>
    intro W z i n1 n2 tk tu u s h hd hi h1 h2
    obtain ⟨m1, rfl⟩ : ∃ m, n1 = m + 1 := ⟨n1 - 1, by omega⟩
    obtain ⟨m2, rfl⟩ : ∃ m, n2 = m + 1 := ⟨n2 - 1, by omega⟩
    obtain ⟨hW, eu, es⟩ := sim_W h
    by_cases hWt : W = t
    · subst hWt
      refine ⟨z, tk, tu, u, s, ?_, ?_, h⟩
      · rw [f_X2_goTo_b2]
        exact ino (by rw [lle (by omega) (by omega)]; omega) (iy eu rfl)
      · intro w hw
        rw [f_X7_goes_b0]
        refine iy (by rw [hw]; exact es) ?_
        rw [← hw]
    · obtain ⟨u1, s1, c1, m1w, S1⟩ := weigh_ok h
      obtain ⟨hW1, eu1, es1⟩ := sim_W S1
      obtain ⟨k, hk⟩ := most_m (nI (pw P wt at'))
      obtain ⟨g1, g2, g3, g4, g5, g6, g7, g8⟩ := go_facts hW ht k hWt
      obtain ⟨u2, s2, c2, m2w, S2⟩ := turn_ok S1 (by omega) g1 g2 g3 g7 g6 g4 hk g5
      obtain ⟨z', tk', tu', u', s', c3, m3w, S3⟩ := ih _ _ (i + 1) m1 m2 _ _ u2 s2 S2 (by omega) (by omega) (by omega) (by omega)
      have hr := right_eq hW ht
      have hr8 : (t + 8 - W) % 8 < 8 := Nat.mod_lt _ (by omega)
      refine ⟨z', tk', tu', u', s', ?_, ?_, S3⟩
      · rw [f_X2_goTo_b2]
        refine ino (by rw [lle (by omega) (by omega)]; omega) (ino ?_ (bnd c1 (bnd hk (bnd (a := nI ((t + 8 - W) % 8)) ?_ ?_))))
        · rw [eu, eqn (by omega) (by omega)]; exact hWt
        · dsimp only
          rw [eu1]
          unfold f_X6_wallsToTheRight
          rw [hr]
        · by_cases q : 4 < (t + 8 - W) % 8
          · refine iy (by rw [lsb (by omega), ltn (by omega) (by omega)]; omega) ?_
            unfold f_X2_goTo_b65
            rw [goP, if_pos q] at c2
            refine bnd c2 ?_
            rw [al]
            exact c3
          · refine ino (by rw [lsb (by omega), ltn (by omega) (by omega)]; omega) ?_
            unfold f_X2_goTo_b65
            rw [goP, if_neg q] at c2
            refine bnd c2 ?_
            rw [al]
            exact c3
      · intro w hw
        rw [f_X7_goes_b0]
        refine ino (by rw [hw, es, eqn (by omega) (by omega)]; exact hWt) (bnd (m1w w hw) ?_)
        dsimp only
        simp only [es1, hr]
        have hmo : f_X7_most (s1, w.2) = some (nI (2 ^ k.val)) := (most_eq S1.1 S1.2.2 _ rfl).trans hk
        by_cases q : 4 < (t + 8 - W) % 8
        · refine iy (by rw [llt (by omega) (by omega)]; omega) ?_
          unfold f_X7_goes_b43
          refine bnd hmo ?_
          have m2' := m2w (s1, w.2) rfl
          rw [goP, if_pos q] at m2'
          unfold jmin at m2'
          by_cases r : nI (2 ^ k.val) < 8 - nI ((t + 8 - W) % 8)
          · rw [if_pos r] at m2'
            refine ino (fun x => absurd r (Int32.not_lt.mpr x)) (bnd hmo ?_)
            unfold f_X7_goes_b60 f_X7_goes_b76
            refine iy (by rw [llt (by omega) (by omega)]; omega) (bnd m2' ?_)
            exact m3w _ rfl
          · rw [if_neg r] at m2'
            refine iy (Int32.not_lt.mp r) ?_
            unfold f_X7_goes_b60 f_X7_goes_b76
            refine iy (by rw [llt (by omega) (by omega)]; omega) (bnd m2' ?_)
            exact m3w _ rfl
        · refine ino (by rw [llt (by omega) (by omega)]; omega) ?_
          unfold f_X7_goes_b43
          refine bnd hmo ?_
          have m2' := m2w (s1, w.2) rfl
          rw [goP, if_neg q] at m2'
          unfold jmin at m2'
          by_cases r : nI (2 ^ k.val) < nI ((t + 8 - W) % 8)
          · rw [if_pos r] at m2'
            refine ino (fun x => absurd r (Int32.not_lt.mpr x)) (bnd hmo ?_)
            unfold f_X7_goes_b60 f_X7_goes_b76
            refine ino (by rw [llt (by omega) (by omega)]; omega) (bnd m2' ?_)
            exact m3w _ rfl
          · rw [if_neg r] at m2'
            refine iy (Int32.not_lt.mp r) ?_
            unfold f_X7_goes_b60 f_X7_goes_b76
            refine ino (by rw [llt (by omega) (by omega)]; omega) (bnd m2' ?_)
            exact m3w _ rfl
theorem goTo_ok {W P N M z lm k13 k14 k15 t : Nat} {wt loc at' ho fi : Nat → Nat} {we by' ra ti : Nat → Int32} {tk tu se : Int32} {u : UL} {s : UA} (h : Sim W P N M z lm k13 k14 k15 wt loc at' ho fi we by' ra ti tk tu se u s) (ht : t < 8) :
    ∃ (z' : Nat) (tk' tu' : Int32) (u' : UL) (s' : UA), f_X2_goTo u (nI t) = some u' ∧ (∀ w : UX, w.1 = s → f_X7_goes w (nI t) = some (s', w.2)) ∧ Sim t P N M z' lm k13 k14 k15 wt loc at' ho fi we by' ra ti tk' tu' se u' s' :=
  goTo_loop ht 4 W z 0 FUEL FUEL tk tu u s h (dst_le h.1.1 ht) (by omega) (by rw [fuel5]; omega) (by rw [fuel5]; omega)
