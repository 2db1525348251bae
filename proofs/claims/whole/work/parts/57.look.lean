/-! ===== what there is: calls that only look ===== -/
def Look2 (c m : Option Int32) : Prop := ∃ r : Int32, c = some r ∧ m = some r
theorem found_eC {a : Nat} (h : a ≤ 30) : f_X6_found (eC a) = some (if a = 30 then -1000004 else eC a) := by
  unfold f_X6_found
  by_cases e : a = 30
  · rw [if_pos e]; exact iy (by rw [eC_m1 h]; exact e) rfl
  · rw [if_neg e]; exact ino (by rw [eC_m1 h]; exact e) rfl
theorem mfound {a : Nat} (h : a ≤ 30) {v : Int32} (hv : v = eC a) : (if 0 ≤ v then some v else some (-1000004)) = some (if a = 30 then -1000004 else eC a) := by
  subst hv
  by_cases e : a = 30
  · rw [if_pos e]; exact ino (by rw [eC_ge h]; exact fun x => x e) rfl
  · rw [if_neg e]; exact iy (by rw [eC_ge h]; exact e) rfl
theorem shelfOf_call {B : Nat} {um : UM} {ux : UX} (hJ : Jn B um ux) (p1 p2 : Int32) : Look2 (f_X6_shelfOf um p1 p2) (f_X7_shelfOf ux p1 p2) := by
  obtain ⟨now, trial, hi, o⟩ := um
  obtain ⟨s, rest⟩ := ux
  obtain ⟨hR, hH, hT⟩ := hJ
  obtain ⟨W, P, N, M, z, lm, k13, k14, k15, wt, loc, at', ho, fi, we, by', ra, ti, tk, tu, se, h, hb, hh⟩ := hR
  obtain ⟨a30, rc, ra', re, rp, rp2⟩ := sim_at30 h
  unfold f_X6_shelfOf f_X7_shelfOf
  rcases fin1' p1 7 (by omega) with ⟨V, hV, rfl⟩ | ⟨q1, q2⟩
  · rcases fin1' p2 3 (by omega) with ⟨j, hj, rfl⟩ | ⟨q1, q2⟩
    · have ha := a30 (4 * V + j) (by omega)
      refine ⟨_, bnd (isShelf_y hV hj) (ino (by decide) (bnd (shelfSlot_eq _ _) (bnd (inSlot_eq _ (by omega)) (bnd (by dsimp only at rc ⊢; rw [rc _ (by omega)]; exact found_eC ha) rfl)))), bnd (in_k (by omega) hV (by omega)) (ino (by decide) (bnd (in_k (by omega) hj (by omega)) (ino (by decide) (iy (by rw [cell_eq]; exact inbT (by omega) (by omega)) (mfound ha ?_)))))⟩
      rw [cell_eq, clp (by omega)]
      exact ra' _ (by omega)
    · exact ⟨_, bnd (isShelf_0 hV q1) (iy rfl rfl), bnd (in_k (by omega) hV (by omega)) (ino (by decide) (bnd q2 (iy rfl rfl)))⟩
  · exact ⟨_, bnd (isShelf_a0 q1) (iy rfl rfl), bnd q2 (iy rfl rfl)⟩
theorem sim_ho {W P N M z lm k13 k14 k15 : Nat} {wt loc at' ho fi : Nat → Nat} {we by' ra ti : Nat → Int32} {tk tu se : Int32} {u : UL} {s : UA} (h : Sim W P N M z lm k13 k14 k15 wt loc at' ho fi we by' ra ti tk tu se u s) : (∀ x, x < 60 → ho x ≤ 30) ∧ (∀ x, x < 60 → u.1.2.2.2.2.2.1 x = eC (ho x)) ∧ (∀ x, x < 60 → s (168 + x) = eC (ho x)) := by
  obtain ⟨⟨o1, o2, o3, o4, o5, o6, oB, oD, o9, o10, o11, o12, o13, o14, o15, o16, o17⟩, ⟨cwt, cwe, cby, csl, coc, cho, rf, rr, rt, rfl, r1, r2, r3, r4⟩, x0, x1, x2, x6, x7, x8, x9, x10, x13, x14, x15, xA, xE, xP, xC, xH, xR⟩ := h
  exact ⟨fun y hy => by have := o11 y hy; omega, r3, xH⟩
theorem holder_call {B : Nat} {um : UM} {ux : UX} (hJ : Jn B um ux) (p1 : Int32) : Look2 (f_X6_holder um p1) (f_X7_holder ux p1) := by
  obtain ⟨now, trial, hi, o⟩ := um
  obtain ⟨s, rest⟩ := ux
  obtain ⟨hR, hH, hT⟩ := hJ
  obtain ⟨W, P, N, M, z, lm, k13, k14, k15, wt, loc, at', ho, fi, we, by', ra, ti, tk, tu, se, h, hb, hh⟩ := hR
  obtain ⟨h30, hc1, hm1⟩ := sim_ho h
  unfold f_X6_holder f_X7_holder
  rcases fin1' p1 59 (by omega) with ⟨f, hf, rfl⟩ | ⟨q1, q2⟩
  · have ha := h30 f (by omega)
    have hib : inb (168 + nI f) 264 = true := by rw [la]; exact inbT (by omega) (by omega)
    refine ⟨_, bnd (isIn_k (by omega) hf (by omega)) (ino (by decide) (bnd (holderOf_eq _ (by omega)) (bnd (by dsimp only at hc1 ⊢; rw [hc1 _ (by omega)]; exact found_eC ha) rfl))), bnd (in_k (by omega) hf (by omega)) (ino (by decide) (iy hib ?_))⟩
    rw [if_pos hib]
    refine mfound ha ?_
    rw [la, clp (by omega)]
    exact hm1 _ (by omega)
  · exact ⟨_, bnd q1 (iy rfl rfl), bnd q2 (iy rfl rfl)⟩
theorem nextBy_call {B : Nat} {um : UM} {ux : UX} (hJ : Jn B um ux) (p1 : Int32) : Look2 (f_X6_nextBy um p1) (f_X7_nextBy ux p1) := by
  obtain ⟨now, trial, hi, o⟩ := um
  obtain ⟨s, rest⟩ := ux
  obtain ⟨hR, hH, hT⟩ := hJ
  obtain ⟨W, P, N, M, z, lm, k13, k14, k15, wt, loc, at', ho, fi, we, by', ra, ti, tk, tu, se, h, hb, hh⟩ := hR
  unfold f_X6_nextBy f_X7_nextBy
  rcases fin1' p1 3 (by omega) with ⟨j, hj, rfl⟩ | ⟨q1, q2⟩
  · have hM := h.1.2.2.2.1
    obtain ⟨r, n1, n2, n3⟩ := next_ok h hj
    have hru : f_X6_isRule (nI j) = some 1 := by
      unfold f_X6_isRule
      rw [isIn_k (by omega) hj (by omega)]
      rfl
    rcases n3 with rfl | ⟨q, hq, rfl, hel⟩
    · exact ⟨-1000004, bnd hru (ino (by decide) (bnd n1 (bnd (a := -1000004) rfl rfl))), bnd (in_k (by omega) hj (by omega)) (ino (by decide) (bnd (n2 _ rfl) (ino (by decide) rfl)))⟩
    · refine ⟨nI q, bnd hru (ino (by decide) (bnd n1 (bnd (a := nI q) ?_ rfl))), bnd (in_k (by omega) hj (by omega)) (ino (by decide) (bnd (n2 _ rfl) (iy (nI_pos' (by omega)) rfl)))⟩
      unfold f_X6_found
      exact ino (by rw [nI_m1 (by omega)]; exact id) rfl
  · refine ⟨-1000001, bnd (a := 0) ?_ (iy rfl rfl), bnd q2 (iy rfl rfl)⟩
    unfold f_X6_isRule
    rw [show f_X6_isIn p1 0 3 = some 0 from q1]
    rfl
theorem requestOf_call {B : Nat} {um : UM} {ux : UX} (hJ : Jn B um ux) (p1 p2 : Int32) : Look2 (f_X6_requestOf um p1 p2) (f_X7_requestOf ux p1 p2) := by
  obtain ⟨now, trial, hi, o⟩ := um
  obtain ⟨s, rest⟩ := ux
  obtain ⟨hR, hH, hT⟩ := hJ
  have rd := rl_read hR
  obtain ⟨W, P, N, M, z, lm, k13, k14, k15, wt, loc, at', ho, fi, we, by', ra, ti, tk, tu, se, h, hb, hh⟩ := hR
  unfold f_X6_requestOf f_X7_requestOf
  by_cases hneg : p1 < 0
  · exact ⟨_, iy hneg rfl, iy hneg rfl⟩
  · rcases fin1' p2 2 (by omega) with ⟨j, hj, rfl⟩ | ⟨q1, q2⟩
    · have hM := h.1.2.2.2.1
      obtain ⟨o', ⟨cwt, cwe, cby, csl, coc, cho, rf, rr, rt, rfl, r1, r2, r3, r4⟩, x0, x1, x2, x6, x7, x8, x9, x10, x13, x14, x15, xA, xE, xP, xC, xH, xR⟩ := h
      have x8' : s 8 = nI M := x8
      rcases pk_ix p1 (n := M) (by omega) with q | q | ⟨k, hk, rfl⟩
      · exact absurd q hneg
      · exact ⟨_, ino hneg (bnd (isIn_k (by omega) hj (by omega)) (ino (by decide) (ino (Int32.not_lt.mpr q) rfl))), ino hneg (bnd (in_k (by omega) hj (by omega)) (ino (by decide) (iy (by dsimp only; rw [x8']; exact q) rfl)))⟩
      · obtain ⟨y1, y2, y3⟩ := xR k hk
        obtain ⟨z1, z2, z3⟩ := r4 k hk
        have hlt : nI k < nI M := by rw [ltn (by omega) (by omega)]; exact hk
        have hle : ¬ nI M ≤ nI k := by rw [len' (by omega) (by omega)]; omega
        have hib : inb ((228 + (3 * nI k)) + nI j) 264 = true := by rw [ml, la, nI_add]; exact inbT (by omega) (by omega)
        have hcell : s ((228 + (3 * nI k)) + nI j).toNatClampNeg = s (228 + 3 * k + j) := by rw [ml, la, nI_add, clp (by omega)]
        have mm : ∀ v : Int32, s (228 + 3 * k + j) = v → (if nI k < 0 then some (-1000001) else ((f_X7_in (nI j) 0 2).bind fun r7 => (if r7 = 0 then some (-1000001) else (if s 8 ≤ nI k then some (-1000004) else (if inb ((228 + (3 * nI k)) + nI j) 264 = true then some (s ((228 + (3 * nI k)) + nI j).toNatClampNeg) else none))))) = some v := fun v hv => ino hneg (bnd (in_k (by omega) hj (by omega)) (ino (by decide) (ino (by rw [x8']; exact hle) (iy hib (by rw [hcell, hv])))))
        rcases (show j = 0 ∨ j = 1 ∨ j = 2 by omega) with rfl | rfl | rfl
        · exact ⟨_, ino hneg (bnd (isIn_k (by omega) hj (by omega)) (ino (by decide) (iy hlt (iy rfl (bnd ((fileOf_eq _ (by omega)).trans (congrArg some z1)) rfl))))), mm _ y1⟩
        · exact ⟨_, ino hneg (bnd (isIn_k (by omega) hj (by omega)) (ino (by decide) (iy hlt (ino (by decide) (iy rfl (bnd ((rankOf_eq _ (by omega)).trans (congrArg some z2)) rfl)))))), mm _ y2⟩
        · exact ⟨_, ino hneg (bnd (isIn_k (by omega) hj (by omega)) (ino (by decide) (iy hlt (ino (by decide) (ino (by decide) (bnd ((tickOf_eq _ (by omega)).trans (congrArg some z3)) rfl)))))), mm _ y3⟩
    · exact ⟨_, ino hneg (bnd q1 (iy rfl rfl)), ino hneg (bnd q2 (iy rfl rfl))⟩
/-! count -/
theorem worn_v {W P N M z lm k13 k14 k15 : Nat} {wt loc at' ho fi : Nat → Nat} {we by' ra ti : Nat → Int32} {tk tu se : Int32} {u : UL} {s : UA} (h : Sim W P N M z lm k13 k14 k15 wt loc at' ho fi we by' ra ti tk tu se u s) : ∃ r, f_X0_worn u.1 = some r ∧ ∀ w : UX, w.1 = s → f_X7_worn w = some r := by
  obtain ⟨o, ⟨cwt, cwe, cby, csl, coc, cho, rf, rr, rt, rfl, r1, r2, r3, r4⟩, x0, x1, x2, x6, x7, x8, x9, x10, x13, x14, x15, xA, xE, xP, xC, xH, xR⟩ := h
  have hN := o.2.2.1
  refine ⟨nI (cntF (fun c => decide (¬ we c < 6)) N 0), ?_, fun w hw => ?_⟩
  · unfold f_X0_worn
    have h := woC_loop (cwt, cwe, cby, csl, coc, cho, nI N) (we := we) hN rfl (fun c hc => (r1 c hc).2.1) N 0 FUEL 0 (by omega) (by rw [fuel1]; omega)
    rw [Nat.zero_add] at h
    exact h
  · unfold f_X7_worn
    have h := woM_loop w (we := we) hN (by rw [hw]; exact x7) (fun c hc => by rw [hw]; exact (xC c hc).2.1) N 0 FUEL 0 (by omega) (by rw [fuel1]; omega)
    rw [Nat.zero_add] at h
    exact h
theorem nofile_v {W P N M z lm k13 k14 k15 : Nat} {wt loc at' ho fi : Nat → Nat} {we by' ra ti : Nat → Int32} {tk tu se : Int32} {u : UL} {s : UA} (h : Sim W P N M z lm k13 k14 k15 wt loc at' ho fi we by' ra ti tk tu se u s) : ∃ r, f_X0_filesHeld u.1 = some (60 - r) ∧ ∀ w : UX, w.1 = s → f_X7_files w (-1) = some r := by
  obtain ⟨h30, hc1, hm1⟩ := sim_ho h
  refine ⟨nI (cntF (fun y => decide (eC (ho y) = -1)) 60 0), ?_, fun w hw => ?_⟩
  · unfold f_X0_filesHeld
    refine bnd (howOften_eq _ _) ?_
    refine congrArg (fun k => some (60 - nI k)) ?_
    exact cntF_congr 60 0 (fun y _ hy => decide_eq_decide.mpr (by rw [hc1 y (by omega)]))
  · refine (files_eq _ _).trans ?_
    refine congrArg (fun k => some (nI k)) ?_
    exact cntF_congr 60 0 (fun y _ hy => decide_eq_decide.mpr (by rw [hw, hm1 y (by omega)]))
theorem count_call {B : Nat} {um : UM} {ux : UX} (hJ : Jn B um ux) (p : Int32) : Look2 (f_X6_count um p) (f_X7_count ux p) := by
  obtain ⟨now, trial, hi, o⟩ := um
  obtain ⟨s, was, bg, a, st, tx, ty, rest⟩ := ux
  obtain ⟨hR, hH, hT⟩ := hJ
  have rd := rl_read hR
  obtain ⟨W, P, N, M, z, lm, k13, k14, k15, wt, loc, at', ho, fi, we, by', ra, ti, tk, tu, se, h, hb, hh⟩ := hR
  obtain ⟨a30, rc, ra', re, rp, rp2⟩ := sim_at30 h
  obtain ⟨ez, ez2, ep, hz1⟩ := sim_z h
  obtain ⟨e0, e10, e9, e1, e2, e6, e7, e8⟩ := rd
  dsimp only at e0 e10 e9 e1 e2 e6 e7 e8 ez ez2 ep rc re
  by_cases h0 : p = 0
  · subst h0
    unfold f_X6_count f_X7_count
    exact ⟨_, iy rfl rfl, iy rfl (iy (by decide) (by rw [e0]; rfl))⟩
  by_cases h1 : p = 1
  · subst h1
    unfold f_X6_count f_X7_count
    exact ⟨_, ino (by decide) (iy rfl rfl), ino (by decide) (iy rfl (iy (by decide) (by rw [e1]; rfl)))⟩
  by_cases h2 : p = 2
  · subst h2
    unfold f_X6_count f_X7_count
    exact ⟨_, ino (by decide) (ino (by decide) (iy rfl rfl)), ino (by decide) (ino (by decide) (iy rfl (iy (by decide) (by rw [e2]; rfl))))⟩
  by_cases h3 : p = 3
  · subst h3
    unfold f_X6_count f_X7_count
    exact ⟨_, ino (by decide) (ino (by decide) (ino (by decide) (iy rfl rfl))), ino (by decide) (ino (by decide) (ino (by decide) (iy rfl (bnd (weight_eq h.1 h.2.2 _ rfl) (by rw [ep])))))⟩
  by_cases h4 : p = 4
  · subst h4
    unfold f_X6_count f_X7_count
    refine ⟨nI z, ino (by decide) (ino (by decide) (ino (by decide) (ino (by decide) (iy rfl ?_)))), ino (by decide) (ino (by decide) (ino (by decide) (ino (by decide) (iy rfl (congrArg some ez2)))))⟩
    dsimp only
    rw [ez]
    rcases (show z = 0 ∨ z = 1 by omega) with rfl | rfl
    · exact iy rfl rfl
    · exact ino (by decide) rfl
  by_cases h5 : p = 5
  · subst h5
    unfold f_X6_count f_X7_count
    exact ⟨_, ino (by decide) (ino (by decide) (ino (by decide) (ino (by decide) (ino (by decide) (iy rfl rfl))))), ino (by decide) (ino (by decide) (ino (by decide) (ino (by decide) (ino (by decide) (iy rfl (by rw [e7]))))))⟩
  by_cases h6 : p = 6
  · subst h6
    unfold f_X6_count f_X7_count
    exact ⟨_, ino (by decide) (ino (by decide) (ino (by decide) (ino (by decide) (ino (by decide) (ino (by decide) (iy rfl (bnd (wn_c h.2.1 h.1.2.2.1 (okv_loc h.1)) rfl))))))), ino (by decide) (ino (by decide) (ino (by decide) (ino (by decide) (ino (by decide) (ino (by decide) (iy rfl (bnd (wn_m h.2.2 h.1.2.2.1 (okv_loc h.1) _ rfl) rfl)))))))⟩
  by_cases h7 : p = 7
  · subst h7
    unfold f_X6_count f_X7_count
    obtain ⟨r, w1, w2⟩ := worn_v h
    exact ⟨r, ino (by decide) (ino (by decide) (ino (by decide) (ino (by decide) (ino (by decide) (ino (by decide) (ino (by decide) (iy rfl (bnd w1 rfl)))))))), ino (by decide) (ino (by decide) (ino (by decide) (ino (by decide) (ino (by decide) (ino (by decide) (ino (by decide) (iy rfl (bnd (w2 _ rfl) rfl))))))))⟩
  by_cases h8 : p = 8
  · subst h8
    unfold f_X6_count f_X7_count
    exact ⟨_, ino (by decide) (ino (by decide) (ino (by decide) (ino (by decide) (ino (by decide) (ino (by decide) (ino (by decide) (ino (by decide) (iy rfl rfl)))))))), ino (by decide) (ino (by decide) (ino (by decide) (ino (by decide) (ino (by decide) (ino (by decide) (ino (by decide) (ino (by decide) (iy rfl (iy (by decide) (by rw [e8]; rfl))))))))))⟩
  by_cases h9 : p = 9
  · subst h9
    unfold f_X6_count f_X7_count
    exact ⟨_, ino (by decide) (ino (by decide) (ino (by decide) (ino (by decide) (ino (by decide) (ino (by decide) (ino (by decide) (ino (by decide) (ino (by decide) (iy rfl rfl))))))))), ino (by decide) (ino (by decide) (ino (by decide) (ino (by decide) (ino (by decide) (ino (by decide) (ino (by decide) (ino (by decide) (ino (by decide) (iy rfl (iy (by decide) (by rw [e9]; rfl)))))))))))⟩
  by_cases h10 : p = 10
  · subst h10
    unfold f_X6_count f_X7_count
    exact ⟨_, ino (by decide) (ino (by decide) (ino (by decide) (ino (by decide) (ino (by decide) (ino (by decide) (ino (by decide) (ino (by decide) (ino (by decide) (ino (by decide) (iy rfl rfl)))))))))), ino (by decide) (ino (by decide) (ino (by decide) (ino (by decide) (ino (by decide) (ino (by decide) (ino (by decide) (ino (by decide) (ino (by decide) (ino (by decide) (iy rfl (iy (by decide) (by rw [e10]; rfl))))))))))))⟩
  by_cases h11 : p = 11
  · subst h11
    unfold f_X6_count f_X7_count
    have ha := a30 35 (by omega)
    have hre := re 0 (by omega)
    have hrc := rc 35 (by omega)
    refine ⟨_, ino (by decide) (ino (by decide) (ino (by decide) (ino (by decide) (ino (by decide) (ino (by decide) (ino (by decide) (ino (by decide) (ino (by decide) (ino (by decide) (ino (by decide) (iy rfl (bnd ((inDrive_eq now (e := 0) (by omega)).trans (congrArg some hrc)) (bnd (found_eC ha) rfl))))))))))))), ino (by decide) (ino (by decide) (ino (by decide) (ino (by decide) (ino (by decide) (ino (by decide) (ino (by decide) (ino (by decide) (ino (by decide) (ino (by decide) (ino (by decide) (iy rfl (iy (by decide) ?_))))))))))))⟩
    rw [if_pos (show inb 11 264 = true by decide)]
    exact mfound ha hre
  by_cases h12 : p = 12
  · subst h12
    unfold f_X6_count f_X7_count
    have ha := a30 36 (by omega)
    have hre := re 1 (by omega)
    have hrc := rc 36 (by omega)
    refine ⟨_, ino (by decide) (ino (by decide) (ino (by decide) (ino (by decide) (ino (by decide) (ino (by decide) (ino (by decide) (ino (by decide) (ino (by decide) (ino (by decide) (ino (by decide) (ino (by decide) (iy rfl (bnd ((inDrive_eq now (e := 1) (by omega)).trans (congrArg some hrc)) (bnd (found_eC ha) rfl)))))))))))))), ino (by decide) (ino (by decide) (ino (by decide) (ino (by decide) (ino (by decide) (ino (by decide) (ino (by decide) (ino (by decide) (ino (by decide) (ino (by decide) (ino (by decide) (ino (by decide) (iy rfl (iy (by decide) ?_)))))))))))))⟩
    rw [if_pos (show inb 12 264 = true by decide)]
    exact mfound ha hre
  by_cases h13 : p = 13
  · subst h13
    unfold f_X6_count f_X7_count
    obtain ⟨r, w1, w2⟩ := nofile_v h
    exact ⟨60 - r, ino (by decide) (ino (by decide) (ino (by decide) (ino (by decide) (ino (by decide) (ino (by decide) (ino (by decide) (ino (by decide) (ino (by decide) (ino (by decide) (ino (by decide) (ino (by decide) (ino (by decide) (iy rfl (bnd w1 rfl)))))))))))))), ino (by decide) (ino (by decide) (ino (by decide) (ino (by decide) (ino (by decide) (ino (by decide) (ino (by decide) (ino (by decide) (ino (by decide) (ino (by decide) (ino (by decide) (ino (by decide) (ino (by decide) (iy rfl (bnd (w2 _ rfl) rfl))))))))))))))⟩
  by_cases h14 : p = 14
  · subst h14
    unfold f_X6_count f_X7_count
    obtain ⟨x, n, hx, hn, g3, g4, g5, g6⟩ := hH
    exact ⟨nI n, ino (by decide) (ino (by decide) (ino (by decide) (ino (by decide) (ino (by decide) (ino (by decide) (ino (by decide) (ino (by decide) (ino (by decide) (ino (by decide) (ino (by decide) (ino (by decide) (ino (by decide) (ino (by decide) (iy rfl (congrArg some g4))))))))))))))), ino (by decide) (ino (by decide) (ino (by decide) (ino (by decide) (ino (by decide) (ino (by decide) (ino (by decide) (ino (by decide) (ino (by decide) (ino (by decide) (ino (by decide) (ino (by decide) (ino (by decide) (ino (by decide) (iy rfl (congrArg some g5)))))))))))))))⟩
  by_cases h15 : p = 15
  · subst h15
    unfold f_X6_count f_X7_count
    obtain ⟨ht, T, hT, g1, g2⟩ := hT
    exact ⟨nI T, ino (by decide) (ino (by decide) (ino (by decide) (ino (by decide) (ino (by decide) (ino (by decide) (ino (by decide) (ino (by decide) (ino (by decide) (ino (by decide) (ino (by decide) (ino (by decide) (ino (by decide) (ino (by decide) (ino (by decide) (iy rfl (congrArg some g1)))))))))))))))), ino (by decide) (ino (by decide) (ino (by decide) (ino (by decide) (ino (by decide) (ino (by decide) (ino (by decide) (ino (by decide) (ino (by decide) (ino (by decide) (ino (by decide) (ino (by decide) (ino (by decide) (ino (by decide) (ino (by decide) (iy rfl (congrArg some g2))))))))))))))))⟩
  unfold f_X6_count f_X7_count
  exact ⟨_, ino h0 (ino h1 (ino h2 (ino h3 (ino h4 (ino h5 (ino h6 (ino h7 (ino h8 (ino h9 (ino h10 (ino h11 (ino h12 (ino h13 (ino h14 (ino h15 (rfl)))))))))))))))), ino h0 (ino h1 (ino h2 (ino h3 (ino h4 (ino h5 (ino h6 (ino h7 (ino h8 (ino h9 (ino h10 (ino h11 (ino h12 (ino h13 (ino h14 (ino h15 (rfl))))))))))))))))⟩
