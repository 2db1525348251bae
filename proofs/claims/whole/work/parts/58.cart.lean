/-! ===== cartridgeOf ===== -/
theorem wh_loop (w : UX) {P c K : Nat} {a : Nat → Nat} (hP : P ≤ 3) (hc : c < 30) (h2 : w.1 2 = nI P) (hx : ∀ k, k < P → w.1 (3 + k) = eC (a k)) (ha : ∀ k, k < P → a k ≤ 30) (hK : ∀ k, k < P → (a k = c ↔ k = K)) : ∀ d i n acc, i + d = P → d < n → f_X7_whereOf_b58 n w (nI c) acc (nI i) = some (if i ≤ K ∧ K < P then nI K else acc) := by
  intro d
  induction d with
  | zero =>
    intro i n acc h hn
    obtain ⟨m, rfl⟩ : ∃ m, n = m + 1 := ⟨n - 1, by omega⟩
    rw [f_X7_whereOf_b58, if_neg (show ¬ (i ≤ K ∧ K < P) by omega)]
    exact iy (by rw [h2, len' (by omega) (by omega)]; omega) rfl
  | succ d ih =>
    intro i n acc h hn
    obtain ⟨m, rfl⟩ : ∃ m, n = m + 1 := ⟨n - 1, by omega⟩
    rw [f_X7_whereOf_b58]
    refine ino (by rw [h2, len' (by omega) (by omega)]; omega) (iy (by rw [la]; exact inbT (by omega) (by omega)) ?_)
    rw [la, clp (by omega), hx i (by omega)]
    unfold f_X7_whereOf_b88
    have hKi := hK i (by omega)
    by_cases e : i = K
    · refine iy (by rw [eC_inj (ha i (by omega)) hc]; exact hKi.mpr e) ?_
      rw [al, ih (i + 1) m (nI i) (by omega) (by omega), if_neg (by omega), if_pos (by omega), e]
    · refine ino (by rw [eC_inj (ha i (by omega)) hc]; exact fun q => e (hKi.mp q)) ?_
      rw [al, ih (i + 1) m acc (by omega) (by omega)]
      by_cases e2 : i ≤ K ∧ K < P
      · rw [if_pos e2, if_pos (by omega)]
      · rw [if_neg e2, if_neg (by omega)]
theorem kop_eq (u : UC) {c l : Nat} (hc : c < 30) (hl : l ≤ 37) (hs : u.2.2.2.1 c = eL l) : f_X0_kindOfPlaceOf u (nI c) = some (nI (kd l)) := by
  unfold f_X0_kindOfPlaceOf
  refine bnd ((slotOf_eq u hc).trans (congrArg some hs)) ?_
  unfold kd
  by_cases e : l = 37
  · subst e
    exact iy rfl rfl
  · refine ino (by rw [eL_m1 hl]; exact e) ?_
    rw [eL_n e]
    by_cases h1 : l < 32
    · rw [if_pos h1]
      exact ino (by rw [lle (by omega) (by omega)]; omega) rfl
    · rw [if_neg h1]
      refine iy (by rw [lle (by omega) (by omega)]; omega) ?_
      by_cases h2 : l < 35
      · rw [if_pos h2]
        exact ino (by rw [lle (by omega) (by omega)]; omega) rfl
      · rw [if_neg h2, if_pos (show l < 37 by omega)]
        exact iy (by rw [lle (by omega) (by omega)]; omega) rfl
theorem place_v {W P N M z lm k13 k14 k15 : Nat} {wt loc at' ho fi : Nat → Nat} {we by' ra ti : Nat → Int32} {tk tu se : Int32} {u : UL} {s : UA} (h : Sim W P N M z lm k13 k14 k15 wt loc at' ho fi we by' ra ti tk tu se u s) {c : Nat} (hcN : c < N) : ∃ r, f_X0_placeOf u.1 (nI c) = some r ∧ ∀ w : UX, w.1 = s → f_X7_whereOf w (nI c) = some r := by
  have hN := h.1.2.2.1
  have hP := h.1.2.1
  have hl37 := okv_loc h.1 c hcN
  have hsl := csl_of h hcN
  obtain ⟨a30, rc, ra', re, rp, rp2⟩ := sim_at30 h
  have hD : loc c = 37 ∨ (loc c < 37 ∧ at' (loc c) = c) := h.1.2.2.2.2.2.2.2.1 c hcN
  have hB := h.1.2.2.2.2.2.2.1
  have h9 := h.1.2.2.2.2.2.2.2.2.1
  have xP := h.2.2.2.2.2.2.2.2.2.2.2.2.2.2.2.1
  have hca : ∀ w : UX, w.1 = s → f_X7_ca w (nI c) 2 = some (nI (kd (loc c))) := fun w hw => by
    rw [show (2 : Int32) = nI 2 from rfl, ca_w (by omega) (by omega), hw]
    exact congrArg some (h.2.2.2.2.2.2.2.2.2.2.2.2.2.2.2.2.1 c hcN).2.2.1
  have hko := kop_eq u.1 (c := c) (by omega) hl37 hsl
  have hloop : ∀ w : UX, w.1 = s → f_X7_whereOf_b58 FUEL w (nI c) (-1000004) 0 = some (if 32 ≤ loc c ∧ loc c - 32 < P then nI (loc c - 32) else -1000004) := fun w hw => by
    by_cases e : 32 ≤ loc c ∧ loc c - 32 < P
    · have := wh_loop w (P := P) (c := c) (K := loc c - 32) (a := fun k => at' (32 + k)) hP (by omega) (by rw [hw]; exact rp2) (fun k hk => by rw [hw]; exact xP k hk) (fun k hk => a30 _ (by omega)) (fun k hk => by
        constructor
        · intro q
          have := hB (32 + k) (by omega)
          rw [q] at this
          omega
        · intro q
          rw [q, show 32 + (loc c - 32) = loc c by omega]
          omega) P 0 FUEL (-1000004) (by omega) (by rw [fuel1]; omega)
      rw [if_pos ⟨Nat.zero_le _, e.2⟩] at this
      rw [if_pos e]
      exact this
    · have := wh_loop w (P := P) (c := c) (K := 5) (a := fun k => at' (32 + k)) hP (by omega) (by rw [hw]; exact rp2) (fun k hk => by rw [hw]; exact xP k hk) (fun k hk => a30 _ (by omega)) (fun k hk => by
        constructor
        · intro q
          have := hB (32 + k) (by omega)
          rw [q] at this
          omega
        · intro q
          omega) P 0 FUEL (-1000004) (by omega) (by rw [fuel1]; omega)
      rw [if_neg (by omega)] at this
      rw [if_neg e]
      exact this
  by_cases h1 : loc c < 32
  · have hk : kd (loc c) = 0 := by unfold kd; rw [if_pos h1]
    rw [hk] at hko hca
    refine ⟨nI (10 * (loc c / 4) + loc c % 4), ?_, fun w hw => ?_⟩
    · unfold f_X0_placeOf
      refine bnd hko (iy rfl (bnd (wallOf_eq _ (by omega) (by omega) hsl) (bnd (shelfOfWall_eq _ (by omega) (by omega) hsl) ?_)))
      rw [ml, nI_add]
    · have hst := standsAt_eq h.1 h.2.2 w hw hcN h1
      unfold f_X7_whereOf
      refine bnd (hca w hw) (iy rfl (bnd hst (bnd hst ?_)))
      rw [dvl (by omega) (by omega) (by omega), rml (by omega) (by omega) (by omega)]
      rw [show nI (loc c / 4) * 10 = nI (10 * (loc c / 4)) by rw [show (10 : Int32) = nI 10 from rfl, pk_mul, Nat.mul_comm], nI_add]
  · by_cases h2 : loc c < 35
    · have hk : kd (loc c) = 1 := by unfold kd; rw [if_neg h1, if_pos h2]
      rw [hk] at hko hca
      have hlt : loc c - 32 < P := by
        have q := h9 (loc c - 32) (by omega)
        rw [show 32 + (loc c - 32) = loc c by omega] at q
        omega
      refine ⟨nI (loc c - 32), ?_, fun w hw => ?_⟩
      · unfold f_X0_placeOf
        refine bnd hko (ino (by decide) (iy rfl (bnd ((slotOf_eq _ (by omega)).trans (congrArg some hsl)) ?_)))
        rw [eL_n (by omega), sbl (by omega)]
      · unfold f_X7_whereOf
        refine bnd (hca w hw) (ino (by decide) (ino (by decide) ((hloop w hw).trans ?_)))
        rw [if_pos ⟨by omega, hlt⟩]
    · by_cases h3 : loc c = 37
      · have hk : kd (loc c) = 3 := by rw [h3]; rfl
        rw [hk] at hko hca
        refine ⟨-1000004, ?_, fun w hw => ?_⟩
        · unfold f_X0_placeOf
          exact bnd hko (ino (by decide) (ino (by decide) (ino (by decide) rfl)))
        · unfold f_X7_whereOf
          refine bnd (hca w hw) (ino (by decide) (ino (by decide) ((hloop w hw).trans ?_)))
          rw [if_neg (by omega)]
      · have hk : kd (loc c) = 2 := by unfold kd; rw [if_neg h1, if_neg h2, if_pos (by omega)]
        rw [hk] at hko hca
        have hre := re 0 (by omega)
        refine ⟨nI (loc c - 35), ?_, fun w hw => ?_⟩
        · unfold f_X0_placeOf
          refine bnd hko (ino (by decide) (ino (by decide) (iy rfl (bnd ((slotOf_eq _ (by omega)).trans (congrArg some hsl)) ?_))))
          rw [eL_n (by omega), sbl (by omega)]
        · unfold f_X7_whereOf
          refine bnd (hca w hw) (ino (by decide) (iy rfl ?_))
          have e11 : w.1 11 = eC (at' 35) := by rw [hw]; exact hre
          rw [e11]
          by_cases h5 : loc c = 35
          · rw [h5] at hD
            refine iy (by rw [eC_inj (a30 _ (by omega)) (by omega)]; omega) ?_
            rw [h5]
            rfl
          · have h6 : loc c = 36 := by omega
            refine ino (by
              rw [eC_inj (a30 _ (by omega)) (by omega)]
              intro q
              have := hB 35 (by omega)
              rw [q] at this
              omega) ?_
            rw [h6]
            rfl
theorem wait_v {W P N M z lm k13 k14 k15 : Nat} {wt loc at' ho fi : Nat → Nat} {we by' ra ti : Nat → Int32} {tk tu se : Int32} {u : UL} {s : UA} (h : Sim W P N M z lm k13 k14 k15 wt loc at' ho fi we by' ra ti tk tu se u s) (v : Int32) : ∃ r, f_X2_waitingFor u v = some r ∧ ∀ w : UX, w.1 = s → f_X7_wanted w v = some r := by
  obtain ⟨h30, hc1, hm1⟩ := sim_ho h
  have hM := h.1.2.2.2.1
  have hf : ∀ k, k < M → fi k < 60 := h.1.2.2.2.2.2.2.2.2.2.2.2.1
  have h8 := h.2.2.2.2.2.2.2.1
  have xR := h.2.2.2.2.2.2.2.2.2.2.2.2.2.2.2.2.2.2
  refine ⟨nI (cntF (fun k => decide (eC (ho (fi k)) = v)) M 0), ?_, fun w hw => ?_⟩
  · obtain ⟨o, ⟨cwt, cwe, cby, csl, coc, cho, rf, rr, rt, rfl, r1, r2, r3, r4⟩, x⟩ := h
    unfold f_X2_waitingFor
    have h := waC_loop ((cwt, cwe, cby, csl, coc, cho, nI N), (rf, rr, rt, nI M), nI W, nI z, nI P, nI (pw P wt at'), nI lm, tk, tu, se) (fi := fi) (ho := ho) v hM rfl (fun k hk => (r4 k hk).1) hf r3 M 0 FUEL 0 (by omega) (by rw [fuel1]; omega)
    rw [Nat.zero_add] at h
    exact h
  · unfold f_X7_wanted
    have h := waM_loop w (fi := fi) (ho := ho) v hM (by rw [hw]; exact h8) (fun k hk => by rw [hw]; exact (xR k hk).1) hf (fun x hx => by rw [hw]; exact hm1 x hx) M 0 FUEL 0 (by omega) (by rw [fuel1]; omega)
    rw [Nat.zero_add] at h
    exact h
theorem no6 {p : Int32} {k : Int32} (h : f_X6_isIn p 0 (nI 6) = some 0) (e : f_X6_isIn k 0 (nI 6) = some 1) : ¬ p = k := fun q => by
  rw [q, e] at h
  exact absurd (Option.some.inj h) (by decide)
theorem cartridgeOf_call {B : Nat} {um : UM} {ux : UX} (hJ : Jn B um ux) (p1 p2 : Int32) : Look2 (f_X6_cartridgeOf um p1 p2) (f_X7_cartridgeOf ux p1 p2) := by
  obtain ⟨now, trial, hi, o⟩ := um
  obtain ⟨s, rest⟩ := ux
  obtain ⟨hR, hH, hT⟩ := hJ
  obtain ⟨W, P, N, M, z, lm, k13, k14, k15, wt, loc, at', ho, fi, we, by', ra, ti, tk, tu, se, h, hb, hh⟩ := hR
  unfold f_X6_cartridgeOf f_X7_cartridgeOf
  rcases has_v h p1 with ⟨c, hcN, rfl, c1, m1⟩ | ⟨c1, m1⟩
  · rcases fin1' p2 6 (by omega) with ⟨j, hj, rfl⟩ | ⟨q1, q2⟩
    · have hN := h.1.2.2.1
      have hl37 := okv_loc h.1 c hcN
      have hsl := csl_of h hcN
      have m1' := m1 (s, rest) rfl
      have hin : f_X7_in (nI j) 0 6 = some 1 := in_k (by omega) hj (by omega)
      have xC := h.2.2.2.2.2.2.2.2.2.2.2.2.2.2.2.2.1 c hcN
      obtain ⟨x1, x2, x3, x4⟩ := xC
      have hr : ∃ cwt cwe cby : UA, now.1.1 = cwt ∧ now.1.2.1 = cwe ∧ now.1.2.2.1 = cby ∧ cwt c = nI (wt c) ∧ cwe c = we c ∧ cby c = by' c := by
        obtain ⟨o, ⟨cwt, cwe, cby, csl, coc, cho, rf, rr, rt, e, r1, r2, r3, r4⟩, x⟩ := h
        have e' : now = _ := e
        subst e'
        exact ⟨cwt, cwe, cby, rfl, rfl, rfl, (r1 c hcN).1, (r1 c hcN).2.1, (r1 c hcN).2.2.1⟩
      obtain ⟨cwt, cwe, cby, y1, y2, y3, y4, y5, y6⟩ := hr
      have hca : ∀ k, k < 4 → f_X7_ca (s, rest) (nI c) (nI k) = some (s (48 + 4 * c + k)) := fun k hk => ca_w (by omega) hk
      rcases (show j = 0 ∨ j = 1 ∨ j = 2 ∨ j = 3 ∨ j = 4 ∨ j = 5 ∨ j = 6 by omega) with rfl | rfl | rfl | rfl | rfl | rfl | rfl
      · exact ⟨_, bnd c1 (ino (by decide) (iy rfl (bnd ((weightOf_eq _ (by omega)).trans (congrArg some (by dsimp only; rw [y1]; exact y4))) rfl))), bnd m1' (ino (by decide) (bnd hin (ino (by decide) (ino (by decide) (ino (by decide) (ino (by decide) (ino (by decide) (bnd ((hca 0 (by omega)).trans (congrArg some x1)) rfl))))))))⟩
      · exact ⟨_, bnd c1 (ino (by decide) (ino (by decide) (iy rfl (bnd ((wearOf_eq _ (by omega)).trans (congrArg some (by dsimp only; rw [y2]; exact y5))) rfl)))), bnd m1' (ino (by decide) (bnd hin (ino (by decide) (ino (by decide) (ino (by decide) (ino (by decide) (ino (by decide) (bnd ((hca 1 (by omega)).trans (congrArg some x2)) rfl))))))))⟩
      · exact ⟨_, bnd c1 (ino (by decide) (ino (by decide) (ino (by decide) (iy rfl (bnd (kop_eq _ (by omega) hl37 hsl) rfl))))), bnd m1' (ino (by decide) (bnd hin (ino (by decide) (ino (by decide) (ino (by decide) (ino (by decide) (ino (by decide) (bnd ((hca 2 (by omega)).trans (congrArg some x3)) rfl))))))))⟩
      · obtain ⟨r, w1, w2⟩ := place_v h hcN
        exact ⟨r, bnd c1 (ino (by decide) (ino (by decide) (ino (by decide) (ino (by decide) (iy rfl (bnd w1 rfl)))))), bnd m1' (ino (by decide) (bnd hin (ino (by decide) (iy rfl (bnd (w2 _ rfl) rfl)))))⟩
      · obtain ⟨w1, w2⟩ := files_v (B := B) h (c := c) (by omega)
        exact ⟨_, bnd c1 (ino (by decide) (ino (by decide) (ino (by decide) (ino (by decide) (ino (by decide) (iy rfl (bnd w1 rfl))))))), bnd m1' (ino (by decide) (bnd hin (ino (by decide) (ino (by decide) (iy rfl (bnd (w2 _ rfl) rfl))))))⟩
      · obtain ⟨r, w1, w2⟩ := wait_v h (nI c)
        exact ⟨r, bnd c1 (ino (by decide) (ino (by decide) (ino (by decide) (ino (by decide) (ino (by decide) (ino (by decide) (iy rfl (bnd w1 rfl)))))))), bnd m1' (ino (by decide) (bnd hin (ino (by decide) (ino (by decide) (ino (by decide) (iy rfl (bnd (w2 _ rfl) rfl)))))))⟩
      · exact ⟨_, bnd c1 (ino (by decide) (ino (by decide) (ino (by decide) (ino (by decide) (ino (by decide) (ino (by decide) (ino (by decide) (iy rfl (bnd ((servedBy_eq _ (by omega)).trans (congrArg some (by dsimp only; rw [y3]; exact y6))) rfl))))))))), bnd m1' (ino (by decide) (bnd hin (ino (by decide) (ino (by decide) (ino (by decide) (ino (by decide) (iy rfl (bnd ((hca 3 (by omega)).trans (congrArg some x4)) rfl))))))))⟩
    · exact ⟨_, bnd c1 (ino (by decide) (ino (no6 q1 rfl) (ino (no6 q1 rfl) (ino (no6 q1 rfl) (ino (no6 q1 rfl) (ino (no6 q1 rfl) (ino (no6 q1 rfl) (ino (no6 q1 rfl) rfl)))))))), bnd (m1 (s, rest) rfl) (ino (by decide) (bnd q2 (iy rfl rfl)))⟩
  · exact ⟨_, bnd c1 (iy rfl rfl), bnd (m1 (s, rest) rfl) (iy rfl rfl)⟩
