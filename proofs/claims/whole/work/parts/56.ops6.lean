/-! ===== bring, send ===== -/
theorem add_eq (cwt cwe cby csl coc cho : UA) (p : Int32) {N t : Nat} (hN : N < 30) (ht : t < 37) : f_X0_add (cwt, cwe, cby, csl, coc, cho, nI N) p (nI t) = some (nI N, (upd cwt N p, upd cwe N 0, upd cby N 0, upd (upd csl N (-1)) N (nI t), upd coc t (nI N), cho, nI (N + 1))) := by
  have hm := moveTo_eq (upd cwt N p) (upd cwe N 0) (upd cby N 0) (upd csl N (-1)) coc cho (nI (N + 1)) (c := N) (t := t) (l := 37) hN (by omega) (Nat.le_refl _) (upd_s rfl)
  rw [eL_n (by omega), if_neg (by omega), if_pos rfl] at hm
  unfold f_X0_add
  dsimp only
  rw [clp (by omega), al]
  exact ino (nI_pos (by omega)) (iy (by rw [ltl (by omega) (by omega)]; omega) (iy (inbT (by omega) (by omega)) (iy (inbT (by omega) (by omega)) (iy (inbT (by omega) (by omega)) (iy (inbT (by omega) (by omega)) (bnd hm rfl))))))
theorem br_step (s : UA) (w2) (v1 v2 v3 : Int32) {N k : Nat} (n : Nat) (hN : N < 30) (hk : k < 4) : f_X7_bring_b82 (n + 1) (s, w2) v1 v2 v3 (nI N) (nI k) = f_X7_bring_b82 n (upd s (48 + 4 * N + k) 0, w2) v1 v2 v3 (nI N) (nI (k + 1)) := by
  rw [f_X7_bring_b82]
  refine ino (by rw [lle (by omega) (by omega)]; omega) ?_
  rw [ml, la, nI_add]
  refine iy (inbT (by omega) (by omega)) ?_
  rw [clp (by omega), al]
def brS (s : UA) (N t : Nat) (p : Int32) : UA := upd (upd (upd (upd (upd (upd (upd s (48 + 4 * N + 0) 0) (48 + 4 * N + 1) 0) (48 + 4 * N + 2) 0) (48 + 4 * N + 3) 0) (48 + 4 * N) p) (16 + t) (nI N)) 7 (nI (N + 1))
theorem brS_old {s : UA} {N t : Nat} {p : Int32} {k : Nat} (h1 : k ≠ 7) (h2 : k ≠ 16 + t) (h3 : k < 48 + 4 * N ∨ 48 + 4 * N + 3 < k) : brS s N t p k = s k := by
  unfold brS
  rw [upd_n (by omega), upd_n (by omega), upd_n (by omega), upd_n (by omega), upd_n (by omega), upd_n (by omega), upd_n (by omega)]
theorem br_loop (s : UA) (w2) (p : Int32) {N V j : Nat} (hN : N < 30) (hV : V ≤ 7) (hj : j ≤ 3) (h7 : s 7 = nI N) : f_X7_bring_b82 FUEL (s, w2) p (nI V) (nI j) (nI N) 0 = ((f_X7_acted (brS s N (4 * V + j) p, w2) (nI N)).bind fun r152 => some (r152.1, r152.2)) := by
  rw [fuel5, show (0 : Int32) = nI 0 from rfl, br_step _ _ _ _ _ _ hN (by omega), br_step _ _ _ _ _ _ hN (by omega), br_step _ _ _ _ _ _ hN (by omega), br_step _ _ _ _ _ _ hN (by omega)]
  rw [f_X7_bring_b82]
  refine iy (by decide) ?_
  rw [ml, la]
  refine iy (inbT (by omega) (by omega)) ?_
  rw [ml, la, nI_add]
  refine iy (inbT (by omega) (by omega)) ?_
  rw [clp (by omega), clp (by omega)]
  have e : ∀ a : Int32, upd (upd (upd (upd (upd (upd s (48 + 4 * N + 0) 0) (48 + 4 * N + 1) 0) (48 + 4 * N + 2) 0) (48 + 4 * N + 3) 0) (48 + 4 * N) p) (16 + 4 * V + j) a 7 = nI N := fun a => by
    rw [upd_n (by omega), upd_n (by omega), upd_n (by omega), upd_n (by omega), upd_n (by omega), upd_n (by omega)]
    exact h7
  have e2 : upd (upd (upd (upd (upd (upd (upd s (48 + 4 * N + 0) 0) (48 + 4 * N + 1) 0) (48 + 4 * N + 2) 0) (48 + 4 * N + 3) 0) (48 + 4 * N) p) (16 + 4 * V + j) (nI N)) 7 (upd (upd (upd (upd (upd (upd s (48 + 4 * N + 0) 0) (48 + 4 * N + 1) 0) (48 + 4 * N + 2) 0) (48 + 4 * N + 3) 0) (48 + 4 * N) p) (16 + 4 * V + j) (nI N) 7 + 1) = brS s N (4 * V + j) p := by
    rw [e, al]
    unfold brS
    rw [Nat.add_assoc 16]
  exact congrArg (fun x => (f_X7_acted (x, w2) (nI N)).bind fun r152 => some (r152.1, r152.2)) e2
theorem isShelf_a0 {p q : Int32} (h : f_X6_isIn p 0 7 = some 0) : f_X6_isShelf p q = some 0 := by
  unfold f_X6_isShelf
  exact bnd h (iy rfl rfl)
theorem bring_st {B : Nat} {u : UL} {s : UA} (h : Rl B u s) (p1 p2 p3 : Int32) : StepK B u s (f_X2_addCartridge u p1 p2 p3) (fun w => f_X7_bring w p1 p2 p3) := by
  obtain ⟨W, P, N, M, z, lm, k13, k14, k15, wt, loc, at', ho, fi, we, by', ra, ti, tk, tu, se, h, hb, hh⟩ := h
  obtain ⟨a30, rc, ra', re, rp, rp2⟩ := sim_at30 h
  by_cases q0 : p1 < 1 ∨ 20 < p1
  · refine kbad br1 ?_ (fun w hw => ?_)
    · unfold f_X2_addCartridge
      exact bnd (isIn_n q0) (iy rfl rfl)
    · show f_X7_bring w p1 p2 p3 = _
      unfold f_X7_bring
      exact bnd (in_n q0) (iy rfl rfl)
  · have q01 : ¬ p1 < 1 := fun r => q0 (Or.inl r)
    have q02 : ¬ 20 < p1 := fun r => q0 (Or.inr r)
    rcases fin1' p2 7 (by omega) with ⟨V, hV, rfl⟩ | ⟨q1, q2⟩
    · rcases fin1' p3 3 (by omega) with ⟨j, hj, rfl⟩ | ⟨q1, q2⟩
      · have hsc : f_X0_inSlot u.1 (nI (4 * V + j)) = some (eC (at' (4 * V + j))) := (inSlot_eq _ (by omega)).trans (congrArg some (rc _ (by omega)))
        have hms : ∀ w : UX, w.1 = s → w.1 ((16 + (4 * nI V)) + nI j).toNatClampNeg = eC (at' (4 * V + j)) := fun w hw => by
          rw [cell_eq, clp (by omega), hw, ra' _ (by omega)]
        have hmb : inb ((16 + (4 * nI V)) + nI j) 264 = true := by rw [cell_eq]; exact inbT (by omega) (by omega)
        by_cases h30 : at' (4 * V + j) = 30
        · have x7 := h.2.2.2.2.2.2.1
          have hN := h.1.2.2.1
          by_cases hN30 : N = 30
          · subst hN30
            obtain ⟨o, ⟨cwt, cwe, cby, csl, coc, cho, rf, rr, rt, rfl, r1, r2, r3, r4⟩, x⟩ := h
            refine kbad br3 ?_ (fun w hw => ?_)
            · unfold f_X2_addCartridge
              exact bnd (isIn_y q01 q02) (ino (by decide) (bnd (isShelf_y hV hj) (ino (by decide) (bnd (shelfSlot_eq _ _) (bnd hsc (iy (by rw [h30]; rfl) (bnd (a := (-1000003, (cwt, cwe, cby, csl, coc, cho, nI 30))) (ino (show ¬ nI 30 < 0 by decide) (ino (show ¬ nI 30 < 30 by decide) rfl)) rfl)))))))
            · show f_X7_bring w p1 (nI V) (nI j) = _
              unfold f_X7_bring
              exact bnd (in_y q01 q02) (ino (by decide) (bnd (in_k (by omega) hV (by omega)) (ino (by decide) (bnd (in_k (by omega) hj (by omega)) (ino (by decide) (iy hmb (iy (by rw [hms w hw, h30]; decide) (iy (by rw [hw, x7]; rfl) rfl))))))))
          · obtain ⟨k, hk, rfl⟩ : ∃ k, k ≤ 20 ∧ p1 = nI k := by
              rcases fin1 p1 20 (by omega) with q | q
              · exact q
              · refine (q.elim (fun r => q01 ?_) (fun r => q02 r)).elim
                exact Int32.lt_trans r (by decide)
            have hk1 : 1 ≤ k := by
              rw [ltl (by omega) (by omega)] at q01
              omega
            obtain ⟨o, ⟨cwt, cwe, cby, csl, coc, cho, rf, rr, rt, rfl, r1, r2, r3, r4⟩, x⟩ := h
            obtain ⟨o1, o2, o3, o4, o5, o6, oB, oD, o9, o10, o11, o12, o13, o14, o15, o16, o17⟩ := o
            have hpw : pw P (uN wt N k) (uN at' (4 * V + j) N) = pw P wt at' := pw_congr o2 (fun i hi => by
              have h1 := oB (32 + i) (by omega)
              have h2 := o9 i (by omega)
              rw [uN_n (show 32 + i ≠ 4 * V + j by omega), uN_n (by omega)])
            refine Or.inr ⟨nI N, _, brS s N (4 * V + j) (nI k), Or.inr ⟨N, by omega, rfl⟩, ?_, ⟨W, P, N + 1, M, z, lm, k13, k14, k15, uN wt N k, uN loc N (4 * V + j), uN at' (4 * V + j) N, ho, fi, upd we N 0, upd by' N 0, ra, ti, tk, tu, se, ⟨?_, ⟨upd cwt N (nI k), upd cwe N 0, upd cby N 0, upd (upd csl N (-1)) N (nI (4 * V + j)), upd coc (4 * V + j) (nI N), cho, rf, rr, rt, rfl, ?_, ?_, r3, r4⟩, ?_⟩, hb, hh⟩, fun w hw => ?_⟩
            · rw [hpw]
              unfold f_X2_addCartridge
              exact bnd (isIn_y q01 q02) (ino (by decide) (bnd (isShelf_y hV hj) (ino (by decide) (bnd (shelfSlot_eq _ _) (bnd hsc (iy (by rw [h30]; rfl) (bnd (add_eq _ _ _ _ _ _ _ (by omega) (by omega)) rfl)))))))
            · refine ⟨o1, o2, by omega, o4, o5, o6, fun i hi => ?_, fun c hc => ?_, fun i hi => ?_, fun c hc => ?_, fun y hy => ?_, o12, ?_, ?_, ?_, o16, o17⟩
              · by_cases e : i = 4 * V + j
                · refine Or.inr ?_
                  rw [uN_s e, uN_s rfl]
                  exact ⟨by omega, e.symm⟩
                · rw [uN_n e]
                  rcases oB i hi with q | ⟨qa, qb⟩
                  · exact Or.inl q
                  · exact Or.inr ⟨by omega, by rw [uN_n (by omega)]; exact qb⟩
              · by_cases e : c = N
                · rw [uN_s e]
                  exact Or.inr ⟨by omega, by rw [uN_s rfl, e]⟩
                · rw [uN_n e]
                  rcases oD c (by omega) with q | ⟨qa, qb⟩
                  · exact Or.inl q
                  · refine Or.inr ⟨qa, ?_⟩
                    have : loc c ≠ 4 * V + j := fun q => by
                      rw [q, h30] at qb
                      omega
                    rw [uN_n this]
                    exact qb
              · rw [uN_n (by omega)]
                exact o9 i hi
              · by_cases e : c = N
                · rw [uN_s e]; omega
                · rw [uN_n e]; exact o10 c (by omega)
              · rcases o11 y hy with q | q
                · exact Or.inl q
                · exact Or.inr (by omega)
              · rw [uN_n (by omega), uN_n (by omega)]; exact o13
              · rw [uN_n (by omega)]; exact o14
              · rw [uN_n (by omega)]; exact o15
            · intro c hc
              by_cases e : c = N
              · rw [upd_s e, upd_s e, upd_s e, upd_s e, uN_s e, uN_s e, upd_s e, upd_s e, eL_n (by omega)]
                exact ⟨rfl, rfl, rfl, rfl⟩
              · rw [upd_n e, upd_n e, upd_n e, upd_n e, upd_n e, uN_n e, uN_n e, upd_n e, upd_n e]
                exact r1 c (by omega)
            · intro i hi
              by_cases e : i = 4 * V + j
              · rw [upd_s e, uN_s e, eC_n (by omega)]
              · rw [upd_n e, uN_n e]
                exact r2 i hi
            · obtain ⟨x0, x1, x2, x6, x7, x8, x9, x10, x13, x14, x15, xA, xE, xP, xC, xH, xR⟩ := x
              refine ⟨(brS_old (by omega) (by omega) (by omega)).trans x0, (brS_old (by omega) (by omega) (by omega)).trans x1, (brS_old (by omega) (by omega) (by omega)).trans x2, (brS_old (by omega) (by omega) (by omega)).trans x6, upd_s rfl, (brS_old (by omega) (by omega) (by omega)).trans x8, (brS_old (by omega) (by omega) (by omega)).trans x9, (brS_old (by omega) (by omega) (by omega)).trans x10, (brS_old (by omega) (by omega) (by omega)).trans x13, (brS_old (by omega) (by omega) (by omega)).trans x14, (brS_old (by omega) (by omega) (by omega)).trans x15, fun i hi => ?_, fun i hi => ?_, fun i hi => ?_, fun c hc => ?_, fun i hi => (brS_old (by omega) (by omega) (by omega)).trans (xH i hi), fun i hi => ?_⟩
              · by_cases e : i = 4 * V + j
                · rw [uN_s e, eC_n (by omega)]
                  unfold brS
                  rw [upd_n (by omega), upd_s (by omega)]
                · rw [uN_n e, brS_old (by omega) (by omega) (by omega)]
                  exact xA i hi
              · rw [uN_n (by omega), brS_old (by omega) (by omega) (by omega)]
                exact xE i hi
              · rw [uN_n (by omega), brS_old (by omega) (by omega) (by omega)]
                exact xP i hi
              · by_cases e : c = N
                · subst e
                  rw [uN_s rfl, uN_s rfl, upd_s rfl, upd_s rfl]
                  refine ⟨?_, ?_, ?_, ?_⟩
                  · unfold brS
                    rw [upd_n (by omega), upd_n (by omega), upd_s rfl]
                  · unfold brS
                    rw [upd_n (by omega), upd_n (by omega), upd_n (by omega), upd_n (by omega), upd_n (by omega), upd_s rfl]
                  · unfold brS
                    rw [upd_n (by omega), upd_n (by omega), upd_n (by omega), upd_n (by omega), upd_s rfl]
                    unfold kd
                    rw [if_pos (by omega)]
                    rfl
                  · unfold brS
                    rw [upd_n (by omega), upd_n (by omega), upd_n (by omega), upd_s rfl]
                · rw [uN_n e, uN_n e, upd_n e, upd_n e, brS_old (by omega) (by omega) (by omega), brS_old (by omega) (by omega) (by omega), brS_old (by omega) (by omega) (by omega), brS_old (by omega) (by omega) (by omega)]
                  exact xC c (by omega)
              · rw [brS_old (by omega) (by omega) (by omega), brS_old (by omega) (by omega) (by omega), brS_old (by omega) (by omega) (by omega)]
                exact xR i hi
            · show f_X7_bring w (nI k) (nI V) (nI j) = _
              unfold f_X7_bring
              refine bnd (in_y q01 q02) (ino (by decide) (bnd (in_k (by omega) hV (by omega)) (ino (by decide) (bnd (in_k (by omega) hj (by omega)) (ino (by decide) (iy hmb (iy (by rw [hms w hw, h30]; decide) (ino (by rw [hw, x7, eql (by omega) (by omega)]; exact hN30) (bnd (keeps_eq _) ?_)))))))))
              dsimp only
              rw [hw, x7]
              exact br_loop _ _ _ (by omega) hV hj x7
        · refine kbad br2 ?_ (fun w hw => ?_)
          · unfold f_X2_addCartridge
            exact bnd (isIn_y q01 q02) (ino (by decide) (bnd (isShelf_y hV hj) (ino (by decide) (bnd (shelfSlot_eq _ _) (bnd hsc (ino (by rw [eC_m1 (a30 _ (by omega))]; exact h30) rfl))))))
          · show f_X7_bring w p1 (nI V) (nI j) = _
            unfold f_X7_bring
            exact bnd (in_y q01 q02) (ino (by decide) (bnd (in_k (by omega) hV (by omega)) (ino (by decide) (bnd (in_k (by omega) hj (by omega)) (ino (by decide) (iy hmb (ino (by rw [hms w hw, eC_neg (a30 _ (by omega))]; exact h30) rfl)))))))
      · refine kbad br1 ?_ (fun w hw => ?_)
        · unfold f_X2_addCartridge
          exact bnd (isIn_y q01 q02) (ino (by decide) (bnd (isShelf_0 hV q1) (iy rfl rfl)))
        · show f_X7_bring w p1 (nI V) p3 = _
          unfold f_X7_bring
          exact bnd (in_y q01 q02) (ino (by decide) (bnd (in_k (by omega) hV (by omega)) (ino (by decide) (bnd q2 (iy rfl rfl)))))
    · refine kbad br1 ?_ (fun w hw => ?_)
      · unfold f_X2_addCartridge
        exact bnd (isIn_y q01 q02) (ino (by decide) (bnd (isShelf_a0 q1) (iy rfl rfl)))
      · show f_X7_bring w p1 p2 p3 = _
        unfold f_X7_bring
        exact bnd (in_y q01 q02) (ino (by decide) (bnd q2 (iy rfl rfl)))
/-! send -/
theorem okv_get {W P N M z lm k13 k14 k15 c l : Nat} {wt loc at' ho fi : Nat → Nat} (o : OKv W P N M z lm k13 k14 k15 wt loc at' ho fi) (hc : c < N) (hl : loc c = l) (hl32 : l < 32) : OKv W P N M z lm k13 k14 k15 wt (uN loc c 37) (uN at' l 30) ho fi := by
  obtain ⟨o1, o2, o3, o4, o5, o6, oB, oD, o9, o10, o11, o12, o13, o14, o15, o16, o17⟩ := o
  refine ⟨o1, o2, o3, o4, o5, o6, fun i hi => ?_, fun e he => ?_, fun i hi => ?_, o10, o11, o12, ?_, ?_, ?_, o16, o17⟩
  · by_cases e : i = l
    · rw [uN_s e]; exact Or.inl rfl
    · rw [uN_n e]
      rcases oB i hi with q | ⟨qa, qb⟩
      · exact Or.inl q
      · have : at' i ≠ c := fun q => by
          rw [q, hl] at qb
          exact e qb.symm
        exact Or.inr ⟨qa, by rw [uN_n this]; exact qb⟩
  · by_cases ec : e = c
    · rw [uN_s ec]; exact Or.inl rfl
    · rw [uN_n ec]
      rcases oD e he with q | ⟨qa, qb⟩
      · exact Or.inl q
      · have : loc e ≠ l := fun q => by
          have q2 := oD c hc
          rw [hl] at q2
          rw [q] at qb
          rcases q2 with q3 | ⟨_, q3⟩
          · omega
          · exact ec (qb.symm.trans q3)
        exact Or.inr ⟨qa, by rw [uN_n this]; exact qb⟩
  · rw [uN_n (by omega)]; exact o9 i hi
  · rw [uN_n (by omega), uN_n (by omega)]; exact o13
  · rw [uN_n (by omega)]; exact o14
  · rw [uN_n (by omega)]; exact o15
theorem okv_give {W P N M z lm k13 k14 k15 c t : Nat} {wt loc at' ho fi : Nat → Nat} (o : OKv W P N M z lm k13 k14 k15 wt loc at' ho fi) (hc : c < N) (hl : loc c = 37) (ht : t < 32) (hat : at' t = 30) : OKv W P N M z lm k13 k14 k15 wt (uN loc c t) (uN at' t c) ho fi := by
  obtain ⟨o1, o2, o3, o4, o5, o6, oB, oD, o9, o10, o11, o12, o13, o14, o15, o16, o17⟩ := o
  refine ⟨o1, o2, o3, o4, o5, o6, fun i hi => ?_, fun e he => ?_, fun i hi => ?_, o10, o11, o12, ?_, ?_, ?_, o16, o17⟩
  · by_cases e : i = t
    · rw [uN_s e, uN_s rfl]; exact Or.inr ⟨hc, e.symm⟩
    · rw [uN_n e]
      rcases oB i hi with q | ⟨qa, qb⟩
      · exact Or.inl q
      · have : at' i ≠ c := fun q => by
          rw [q, hl] at qb
          omega
        exact Or.inr ⟨qa, by rw [uN_n this]; exact qb⟩
  · by_cases ec : e = c
    · rw [uN_s ec]; exact Or.inr ⟨by omega, by rw [uN_s rfl, ec]⟩
    · rw [uN_n ec]
      rcases oD e he with q | ⟨qa, qb⟩
      · exact Or.inl q
      · have : loc e ≠ t := fun q => by
          rw [q, hat] at qb
          omega
        exact Or.inr ⟨qa, by rw [uN_n this]; exact qb⟩
  · rw [uN_n (by omega)]; exact o9 i hi
  · rw [uN_n (by omega), uN_n (by omega)]; exact o13
  · rw [uN_n (by omega)]; exact o14
  · rw [uN_n (by omega)]; exact o15
theorem rx_place {W P N M z k13 k14 k15 c t v kk : Nat} {wt loc at' ho fi : Nat → Nat} {we by' ra ti : Nat → Int32} {tk tu se : Int32} {s : UA} (x : RX W P N M z k13 k14 k15 wt loc at' ho fi we by' ra ti tk tu se s) (hP : P ≤ 3) (hN : N ≤ 30) (hc : c < N) (ht : t < 32) {b d : Int32} (hb : b = eC v) (hd : d = nI (kd kk)) : RX W P N M z k13 k14 k15 wt (uN loc c kk) (uN at' t v) ho fi we by' ra ti tk tu se (upd (upd s (16 + t) b) (48 + 4 * c + 2) d) := by
  obtain ⟨x0, x1, x2, x6, x7, x8, x9, x10, x13, x14, x15, xA, xE, xP, xC, xH, xR⟩ := x
  have old : ∀ k, k ≠ 16 + t → k ≠ 48 + 4 * c + 2 → upd (upd s (16 + t) b) (48 + 4 * c + 2) d k = s k := fun k h1 h2 => by
    rw [upd_n h2, upd_n h1]
  refine ⟨(old _ (by omega) (by omega)).trans x0, (old _ (by omega) (by omega)).trans x1, (old _ (by omega) (by omega)).trans x2, (old _ (by omega) (by omega)).trans x6, (old _ (by omega) (by omega)).trans x7, (old _ (by omega) (by omega)).trans x8, (old _ (by omega) (by omega)).trans x9, (old _ (by omega) (by omega)).trans x10, (old _ (by omega) (by omega)).trans x13, (old _ (by omega) (by omega)).trans x14, (old _ (by omega) (by omega)).trans x15, fun i hi => ?_, fun i hi => ?_, fun i hi => ?_, fun e he => ?_, fun i hi => (old _ (by omega) (by omega)).trans (xH i hi), fun i hi => ?_⟩
  · by_cases e : i = t
    · rw [uN_s e, upd_n (by omega), upd_s (by omega), hb]
    · rw [uN_n e, old _ (by omega) (by omega)]
      exact xA i hi
  · rw [uN_n (by omega), old _ (by omega) (by omega)]
    exact xE i hi
  · rw [uN_n (by omega), old _ (by omega) (by omega)]
    exact xP i hi
  · rw [old _ (by omega) (by omega), old _ (by omega) (by omega), old (48 + 4 * e + 3) (by omega) (by omega)]
    by_cases ec : e = c
    · rw [uN_s ec, upd_s (by omega), hd]
      exact ⟨(xC e he).1, (xC e he).2.1, rfl, (xC e he).2.2.2⟩
    · rw [uN_n ec, old _ (by omega) (by omega)]
      exact xC e he
  · rw [old _ (by omega) (by omega), old _ (by omega) (by omega), old _ (by omega) (by omega)]
    exact xR i hi
theorem wn_c {W P N M z lm : Nat} {wt loc at' ho fi : Nat → Nat} {we by' ra ti : Nat → Int32} {tk tu se : Int32} {u : UL} (r : RC W P N M z lm wt loc at' ho fi we by' ra ti tk tu se u) (hN : N ≤ 30) (hl : ∀ c, c < N → loc c ≤ 37) : f_X0_withNeighbors u.1 = some (nI (cntF (fun c => decide (loc c = 37)) N 0)) := by
  obtain ⟨cwt, cwe, cby, csl, coc, cho, rf, rr, rt, rfl, r1, r2, r3, r4⟩ := r
  unfold f_X0_withNeighbors
  have h := wnC_loop (cwt, cwe, cby, csl, coc, cho, nI N) hN rfl (fun c hc => (r1 c hc).2.2.2) hl N 0 FUEL 0 (by omega) (by rw [fuel1]; omega)
  rw [Nat.zero_add] at h
  exact h
theorem wn_m {W P N M z k13 k14 k15 : Nat} {wt loc at' ho fi : Nat → Nat} {we by' ra ti : Nat → Int32} {tk tu se : Int32} {s : UA} (x : RX W P N M z k13 k14 k15 wt loc at' ho fi we by' ra ti tk tu se s) (hN : N ≤ 30) (hl : ∀ c, c < N → loc c ≤ 37) (w : UX) (hw : w.1 = s) : f_X7_withNeighbors w = some (nI (cntF (fun c => decide (loc c = 37)) N 0)) := by
  obtain ⟨x0, x1, x2, x6, x7, x8, x9, x10, x13, x14, x15, xA, xE, xP, xC, xH, xR⟩ := x
  unfold f_X7_withNeighbors
  have h := wnM_loop w hN (by rw [hw]; exact x7) (fun c hc => by rw [hw]; exact (xC c hc).2.2.1) hl N 0 FUEL 0 (by omega) (by rw [fuel1]; omega)
  rw [Nat.zero_add] at h
  exact h
theorem okv_loc {W P N M z lm k13 k14 k15 : Nat} {wt loc at' ho fi : Nat → Nat} (o : OKv W P N M z lm k13 k14 k15 wt loc at' ho fi) : ∀ c, c < N → loc c ≤ 37 := fun c hc => by
  obtain ⟨o1, o2, o3, o4, o5, o6, oB, oD, o⟩ := o
  have := oD c hc
  omega
theorem exch1_st {B : Nat} {u : UL} {s : UA} (h : Rl B u s) (p1 v2 v3 : Int32) : StepK B u s (f_X2_exchange_b15 u p1 v2 v3 1) (fun w => f_X7_send_b15 w p1 v2 v3 1) := by
  obtain ⟨W, P, N, M, z, lm, k13, k14, k15, wt, loc, at', ho, fi, we, by', ra, ti, tk, tu, se, h, hb, hh⟩ := h
  have hN := h.1.2.2.1
  have hP := h.1.2.1
  rcases has_v h p1 with ⟨c, hcN, rfl, c1, m1⟩ | ⟨c1, m1⟩
  · have hl37 := okv_loc h.1 c hcN
    have hsl := csl_of h hcN
    have hca : ∀ w : UX, w.1 = s → f_X7_ca w (nI c) 2 = some (nI (kd (loc c))) := fun w hw => by
      rw [show (2 : Int32) = nI 2 from rfl, ca_w (by omega) (by omega), hw]
      exact congrArg some (h.2.2.2.2.2.2.2.2.2.2.2.2.2.2.2.2.1 c hcN).2.2.1
    by_cases hl : loc c < 32
    · obtain ⟨l, hle⟩ : ∃ l, loc c = l := ⟨_, rfl⟩
      have hst := fun (w : UX) (hw : w.1 = s) => standsAt_eq h.1 h.2.2 w hw hcN hl
      have cos := isOnShelf_eq u.1 (c := c) (by omega) hl37 hsl
      rw [if_pos hl] at cos
      rw [hle] at hl hsl hst
      obtain ⟨o, r, x⟩ := h
      have o' := okv_get o hcN hle hl
      have x' := rx_place (b := -1) (d := 3) x hP hN hcN hl (v := 30) (kk := 37) rfl rfl
      obtain ⟨cwt, cwe, cby, csl, coc, cho, rf, rr, rt, rfl, r1, r2, r3, r4⟩ := r
      have hmv := moveTo_eq cwt cwe cby csl coc cho (nI N) (c := c) (t := 37) (l := l) (by omega) (Nat.le_refl _) (by omega) (hsl.trans rfl)
      rw [eL_37, if_pos rfl, if_neg (by omega)] at hmv
      have hpw : pw P wt (uN at' l 30) = pw P wt at' := pw_congr hP (fun i hi => by rw [uN_n (by omega)])
      have r' : RC W P N M z lm wt (uN loc c 37) (uN at' l 30) ho fi we by' ra ti tk tu se ((cwt, cwe, cby, upd csl c (-1), upd coc l (-1), cho, nI N), (rf, rr, rt, nI M), nI W, nI z, nI P, nI (pw P wt at'), nI lm, tk, tu, se) := by
        refine ⟨cwt, cwe, cby, upd csl c (-1), upd coc l (-1), cho, rf, rr, rt, by rw [hpw], fun e he => ?_, fun i hi => ?_, r3, r4⟩
        · by_cases ec : e = c
          · rw [upd_s ec, uN_s ec]
            exact ⟨(r1 e he).1, (r1 e he).2.1, (r1 e he).2.2.1, rfl⟩
          · rw [upd_n ec, uN_n ec]
            exact r1 e he
        · by_cases ei : i = l
          · rw [upd_s ei, uN_s ei]; rfl
          · rw [upd_n ei, uN_n ei]; exact r2 i hi
      have hwc := wn_c r' hN (okv_loc o')
      have hwm := wn_m x' hN (okv_loc o')
      refine Or.inr ⟨nI (cntF (fun c' => decide (uN loc c 37 c' = 37)) N 0), _, _, Or.inr ⟨_, ?_, rfl⟩, ?_, ⟨W, P, N, M, z, lm, k13, k14, k15, wt, uN loc c 37, uN at' l 30, ho, fi, we, by', ra, ti, tk, tu, se, ⟨o', r', x'⟩, hb, hh⟩, fun w hw => ?_⟩
      · have := cntF_le (fun c' => decide (uN loc c 37 c' = 37)) N 0
        omega
      · unfold f_X2_exchange_b15 f_X2_exchange_b44 f_X2_exchange_b58 f_X2_exchange_b106
        exact bnd c1 (ino (by decide) (ino (by decide) (ino (by decide) (ino (by decide) (bnd cos (ino (by decide) (bnd hmv (bnd hwc rfl))))))))
      · obtain ⟨s0, w2⟩ := w
        dsimp only at hw
        subst hw
        show f_X7_send_b15 (s0, w2) (nI c) v2 v3 1 = _
        unfold f_X7_send_b15 f_X7_send_b52 f_X7_send_b68 f_X7_send_b95 f_X7_send_b123 f_X7_send_b134 f_X7_send_b147
        refine bnd (m1 _ rfl) (ino (by decide) (ino (by decide) (bnd (hca _ rfl) (ino (by decide) (iy (by rw [kd_0 hl37, hle]; exact hl) (ino (by decide) (bnd (keeps_eq _) (ino (by decide) (bnd (hst _ rfl) (ino (by decide) (iy ?_ (ino (by decide) (bnd (a := (upd (upd s0 (16 + l) (-1)) (48 + 4 * c + 2) 3, w2.1, cpy s0 w2.2.1 264, w2.2.2)) ?_ (bnd (hwm _ rfl) rfl))))))))))))))
        · rw [la]; exact inbT (by omega) (by omega)
        · dsimp only
          rw [isAt_eq (by omega), la, clp (by omega)]
    · have cos := isOnShelf_eq u.1 (c := c) (by omega) hl37 hsl
      rw [if_neg hl] at cos
      refine kbad br2 ?_ (fun w hw => ?_)
      · unfold f_X2_exchange_b15 f_X2_exchange_b44 f_X2_exchange_b58 f_X2_exchange_b106
        exact bnd c1 (ino (by decide) (ino (by decide) (ino (by decide) (ino (by decide) (bnd cos (iy rfl rfl))))))
      · show f_X7_send_b15 w (nI c) v2 v3 1 = _
        unfold f_X7_send_b15 f_X7_send_b52 f_X7_send_b68
        exact bnd (m1 _ hw) (ino (by decide) (ino (by decide) (bnd (hca _ hw) (ino (by decide) (ino (by rw [kd_0 hl37]; exact hl) rfl)))))
  · refine kbad br1 ?_ (fun w hw => ?_)
    · unfold f_X2_exchange_b15
      exact bnd c1 (iy rfl rfl)
    · show f_X7_send_b15 w p1 v2 v3 1 = _
      unfold f_X7_send_b15
      exact bnd (m1 w hw) (iy rfl rfl)
theorem exch0_st {B : Nat} {u : UL} {s : UA} (h : Rl B u s) (p1 p2 p3 : Int32) : StepK B u s (f_X2_exchange_b15 u p1 p2 p3 0) (fun w => f_X7_send_b15 w p1 p2 p3 0) := by
  obtain ⟨W, P, N, M, z, lm, k13, k14, k15, wt, loc, at', ho, fi, we, by', ra, ti, tk, tu, se, h, hb, hh⟩ := h
  obtain ⟨a30, rc, ra', re, rp, rp2⟩ := sim_at30 h
  have hN := h.1.2.2.1
  have hP := h.1.2.1
  rcases has_v h p1 with ⟨c, hcN, rfl, c1, m1⟩ | ⟨c1, m1⟩
  · rcases fin1' p2 7 (by omega) with ⟨V, hV, rfl⟩ | ⟨q1, q2⟩
    · rcases fin1' p3 3 (by omega) with ⟨j, hj, rfl⟩ | ⟨q1, q2⟩
      · have hl37 := okv_loc h.1 c hcN
        have hsl := csl_of h hcN
        have hso : f_X0_slotOf u.1 (nI c) = some (eL (loc c)) := (slotOf_eq _ (by omega)).trans (congrArg some hsl)
        have hca : ∀ w : UX, w.1 = s → f_X7_ca w (nI c) 2 = some (nI (kd (loc c))) := fun w hw => by
          rw [show (2 : Int32) = nI 2 from rfl, ca_w (by omega) (by omega), hw]
          exact congrArg some (h.2.2.2.2.2.2.2.2.2.2.2.2.2.2.2.2.1 c hcN).2.2.1
        have hsc : f_X0_inSlot u.1 (nI (4 * V + j)) = some (eC (at' (4 * V + j))) := (inSlot_eq _ (by omega)).trans (congrArg some (rc _ (by omega)))
        have hms : ∀ w : UX, w.1 = s → w.1 ((16 + (4 * nI V)) + nI j).toNatClampNeg = eC (at' (4 * V + j)) := fun w hw => by
          rw [cell_eq, clp (by omega), hw, ra' _ (by omega)]
        have hmb : inb ((16 + (4 * nI V)) + nI j) 264 = true := by rw [cell_eq]; exact inbT (by omega) (by omega)
        have chead : ∀ (r : Option (Int32 × UL)), (if eL (loc c) = (-1) then (if eC (at' (4 * V + j)) = (-1) then f_X2_exchange_b106 u (nI c) (nI (4 * V + j)) 1 else some ((-1000002), u)) else some ((-1000002), u)) = r → f_X2_exchange_b15 u (nI c) (nI V) (nI j) 0 = r := by
          intro r hr
          unfold f_X2_exchange_b15 f_X2_exchange_b44 f_X2_exchange_b58
          refine bnd c1 (ino (by decide) (iy rfl (bnd (isShelf_y hV hj) (ino (by decide) (iy rfl (bnd (shelfSlot_eq _ _) (iy rfl (bnd hso ?_))))))))
          by_cases e1 : eL (loc c) = -1
          · rw [if_pos e1] at hr ⊢
            refine bnd hsc ?_
            by_cases e2 : eC (at' (4 * V + j)) = -1
            · rw [if_pos e2] at hr ⊢
              exact hr
            · rw [if_neg e2] at hr ⊢
              exact hr
          · rw [if_neg e1] at hr ⊢
            exact hr
        have mhead : ∀ (w : UX) (r : Option (Int32 × UX)), w.1 = s → (if nI (kd (loc c)) = 3 then (if eC (at' (4 * V + j)) < 0 then f_X7_send_b95 w (nI c) (nI V) (nI j) 0 else some ((-1000002), w)) else some ((-1000002), w)) = r → f_X7_send_b15 w (nI c) (nI V) (nI j) 0 = r := by
          intro w r hw hr
          unfold f_X7_send_b15 f_X7_send_b52 f_X7_send_b68
          refine bnd (m1 w hw) (ino (by decide) (iy rfl (bnd (in_k (by omega) hV (by omega)) (ino (by decide) (bnd (in_k (by omega) hj (by omega)) (ino (by decide) (bnd (hca w hw) (iy rfl ?_))))))))
          by_cases e1 : nI (kd (loc c)) = 3
          · rw [if_pos e1] at hr ⊢
            refine iy rfl (iy hmb ?_)
            rw [hms w hw]
            exact hr
          · rw [if_neg e1] at hr ⊢
            exact hr
        by_cases hl : loc c = 37
        · by_cases h30 : at' (4 * V + j) = 30
          · obtain ⟨o, r, x⟩ := h
            have o' := okv_give o hcN hl (t := 4 * V + j) (by omega) h30
            have x' := rx_place (b := nI c) (d := 0) x hP hN hcN (t := 4 * V + j) (by omega) (v := c) (kk := 4 * V + j) (eC_n (by omega)).symm (by unfold kd; rw [if_pos (by omega)]; rfl)
            obtain ⟨cwt, cwe, cby, csl, coc, cho, rf, rr, rt, rfl, r1, r2, r3, r4⟩ := r
            have hmv := moveTo_eq cwt cwe cby csl coc cho (nI N) (c := c) (t := 4 * V + j) (l := 37) (by omega) (by omega) (Nat.le_refl _) (hsl.trans (by rw [hl]))
            rw [eL_n (by omega), if_neg (by omega), if_pos rfl] at hmv
            have hpw : pw P wt (uN at' (4 * V + j) c) = pw P wt at' := pw_congr hP (fun i hi => by rw [uN_n (by omega)])
            have r' : RC W P N M z lm wt (uN loc c (4 * V + j)) (uN at' (4 * V + j) c) ho fi we by' ra ti tk tu se ((cwt, cwe, cby, upd csl c (nI (4 * V + j)), upd coc (4 * V + j) (nI c), cho, nI N), (rf, rr, rt, nI M), nI W, nI z, nI P, nI (pw P wt at'), nI lm, tk, tu, se) := by
              refine ⟨cwt, cwe, cby, upd csl c (nI (4 * V + j)), upd coc (4 * V + j) (nI c), cho, rf, rr, rt, by rw [hpw], fun e he => ?_, fun i hi => ?_, r3, r4⟩
              · by_cases ec : e = c
                · rw [upd_s ec, uN_s ec, eL_n (by omega)]
                  exact ⟨(r1 e he).1, (r1 e he).2.1, (r1 e he).2.2.1, rfl⟩
                · rw [upd_n ec, uN_n ec]
                  exact r1 e he
              · by_cases ei : i = 4 * V + j
                · rw [upd_s ei, uN_s ei, eC_n (by omega)]
                · rw [upd_n ei, uN_n ei]; exact r2 i hi
            have hwc := wn_c r' hN (okv_loc o')
            have hwm := wn_m x' hN (okv_loc o')
            refine Or.inr ⟨nI (cntF (fun c' => decide (uN loc c (4 * V + j) c' = 37)) N 0), _, _, Or.inr ⟨_, ?_, rfl⟩, chead _ (iy (by rw [hl]; rfl) (iy (by rw [h30]; rfl) ?_)), ⟨W, P, N, M, z, lm, k13, k14, k15, wt, uN loc c (4 * V + j), uN at' (4 * V + j) c, ho, fi, we, by', ra, ti, tk, tu, se, ⟨o', r', x'⟩, hb, hh⟩, fun w hw => mhead w _ hw (iy (by rw [hl]; rfl) (iy (by rw [h30]; decide) ?_))⟩
            · have := cntF_le (fun c' => decide (uN loc c (4 * V + j) c' = 37)) N 0
              omega
            · unfold f_X2_exchange_b106
              exact ino (by decide) (bnd hmv (bnd hwc rfl))
            · obtain ⟨s0, w2⟩ := w
              dsimp only at hw
              subst hw
              unfold f_X7_send_b95 f_X7_send_b123 f_X7_send_b134 f_X7_send_b147
              refine bnd (keeps_eq _) (iy rfl (iy rfl (iy ?_ (iy rfl (bnd (a := (upd (upd s0 (16 + (4 * V + j)) (nI c)) (48 + 4 * c + 2) 0, w2.1, cpy s0 w2.2.1 264, w2.2.2)) ?_ (bnd (hwm _ rfl) rfl))))))
              · rw [ml, nI_add, la]; exact inbT (by omega) (by omega)
              · dsimp only
                rw [isAt_eq (by omega), ml, nI_add, la, clp (by omega)]
          · exact kbad br2 (chead _ (iy (by rw [hl]; rfl) (ino (by rw [eC_m1 (a30 _ (by omega))]; exact h30) rfl))) (fun w hw => mhead w _ hw (iy (by rw [hl]; rfl) (ino (by rw [eC_neg (a30 _ (by omega))]; exact h30) rfl)))
        · exact kbad br2 (chead _ (ino (by rw [eL_m1 hl37]; exact hl) rfl)) (fun w hw => mhead w _ hw (ino (by rw [kd_37 hl37]; exact hl) rfl))
      · refine kbad br1 ?_ (fun w hw => ?_)
        · unfold f_X2_exchange_b15
          exact bnd c1 (ino (by decide) (iy rfl (bnd (isShelf_0 hV q1) (iy rfl rfl))))
        · show f_X7_send_b15 w (nI c) (nI V) p3 0 = _
          unfold f_X7_send_b15
          exact bnd (m1 w hw) (ino (by decide) (iy rfl (bnd (in_k (by omega) hV (by omega)) (ino (by decide) (bnd q2 (iy rfl rfl))))))
    · refine kbad br1 ?_ (fun w hw => ?_)
      · unfold f_X2_exchange_b15
        exact bnd c1 (ino (by decide) (iy rfl (bnd (isShelf_a0 q1) (iy rfl rfl))))
      · show f_X7_send_b15 w (nI c) p2 p3 0 = _
        unfold f_X7_send_b15
        exact bnd (m1 w hw) (ino (by decide) (iy rfl (bnd q2 (iy rfl rfl))))
  · refine kbad br1 ?_ (fun w hw => ?_)
    · unfold f_X2_exchange_b15
      exact bnd c1 (iy rfl rfl)
    · show f_X7_send_b15 w p1 p2 p3 0 = _
      unfold f_X7_send_b15
      exact bnd (m1 w hw) (iy rfl rfl)
theorem send_st {B : Nat} {u : UL} {s : UA} (h : Rl B u s) (p1 p2 p3 : Int32) : StepK B u s (f_X2_exchange u p1 p2 p3) (fun w => f_X7_send w p1 p2 p3) := by
  unfold f_X2_exchange f_X7_send f_X2_exchange_b14 f_X7_send_b14
  by_cases e2 : p2 = -1
  · by_cases e3 : p3 = -1
    · simp only [if_pos e2, if_pos e3]
      exact exch1_st h p1 p2 p3
    · simp only [if_pos e2, if_neg e3]
      exact exch0_st h p1 p2 p3
  · simp only [if_neg e2]
    exact exch0_st h p1 p2 p3
theorem bring_call {B : Nat} {um : UM} {ux : UX} (hJ : Jn B um ux) (p1 p2 p3 : Int32) : Call2 B (f_X6_bring um p1 p2 p3) (f_X7_bring ux p1 p2 p3) :=
  actK (C := fun v => f_X2_addCartridge v p1 p2 p3) hJ (bring_st hJ.1 p1 p2 p3)
theorem send_call {B : Nat} {um : UM} {ux : UX} (hJ : Jn B um ux) (p1 p2 p3 : Int32) : Call2 B (f_X6_send um p1 p2 p3) (f_X7_send ux p1 p2 p3) :=
  actK (C := fun v => f_X2_exchange v p1 p2 p3) hJ (send_st hJ.1 p1 p2 p3)
theorem hold_call {B : Nat} {um : UM} {ux : UX} (hJ : Jn B um ux) (p1 p2 : Int32) : Call2 B (f_X6_hold um p1 p2) (f_X7_hold ux p1 p2) :=
  actK (C := fun v => f_X2_holdFile v p1 p2) hJ (hold_st hJ.1 p1 p2)
theorem request_call {B : Nat} {um : UM} {ux : UX} (hJ : Jn B um ux) (p1 p2 : Int32) : Call2 B (f_X6_request um p1 p2) (f_X7_request ux p1 p2) :=
  actK (C := fun v => f_X2_addRequest v p1 p2) hJ (request_st hJ.1 p1 p2)
