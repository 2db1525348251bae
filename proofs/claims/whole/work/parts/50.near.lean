/-! ===== which drive; the nearest empty shelf ===== -/
theorem apI_sym {V : Nat} (hV : V < 8) : apI (nI V) 2 = apI 2 (nI V) ∧ apI (nI V) 6 = apI 6 (nI V) := by
  have k : ∀ a : Fin 8, apI (nI a.val) 2 = apI 2 (nI a.val) ∧ apI (nI a.val) 6 = apI 6 (nI a.val) := by decide +kernel
  exact k ⟨V, hV⟩
theorem eC_m1 {a : Nat} (h : a ≤ 30) : (eC a = -1) = (a = 30) := by
  by_cases q : a = 30
  · subst q
    exact propext ⟨fun _ => rfl, fun _ => rfl⟩
  · rw [eC_n q, nI_m1 (by omega)]
    exact (eq_false q).symm
theorem eC_neg {a : Nat} (h : a ≤ 30) : (eC a < 0) = (a = 30) := by
  by_cases q : a = 30
  · subst q
    rw [eC_30, m1_lt]
    exact (eq_true rfl).symm
  · rw [eC_n q, ltl (by omega) (by omega)]
    exact propext ⟨fun h => by omega, fun h => absurd h q⟩
theorem eC_ge {a : Nat} (h : a ≤ 30) : (0 ≤ eC a) = (¬ a = 30) := by
  by_cases q : a = 30
  · subst q
    rw [eC_30, m1_ge]
    exact (eq_false (fun h => h rfl)).symm
  · rw [eC_n q, lle (by omega) (by omega)]
    exact propext ⟨fun _ => q, fun _ => Nat.zero_le _⟩
theorem chooses_ok {W P N M z lm k13 k14 k15 : Nat} {wt loc at' ho fi : Nat → Nat} {we by' ra ti : Nat → Int32} {tk tu se : Int32} {u : UL} {s : UA} (h : Sim W P N M z lm k13 k14 k15 wt loc at' ho fi we by' ra ti tk tu se u s) {c : Nat} (hc : c < N) (hl : loc c < 32) (hk : k15 < 2147483648) :
    ∃ e : Nat, e ≤ 1 ∧ f_X2_driveFor u (nI c) = some (nI e) ∧ (∀ w : UX, w.1 = s → f_X7_chooses w (nI (loc c / 4)) = some (nI e)) := by
  obtain ⟨⟨o1, o2, o3, o4, o5, o6, B, D, o9, o10, o11, o12, o13, o14, o15, o16, o17⟩, ⟨cwt, cwe, cby, csl, coc, cho, rf, rr, rt, rfl, r1, r2, r3, r4⟩, x0, x1, x2, x6, x7, x8, x9, x10, x13, x14, x15, xA, xE, xP, xC, xH, xR⟩ := h
  have b0 : at' 35 ≤ 30 := by have := B 35 (by omega); omega
  have b1 : at' 36 ≤ 30 := by have := B 36 (by omega); omega
  have q0 : f_X2_inDrive ((cwt, cwe, cby, csl, coc, cho, nI N), (rf, rr, rt, nI M), nI W, nI z, nI P, nI (pw P wt at'), nI lm, tk, tu, se) 0 = some (eC (at' 35)) := (inDrive_eq _ (e := 0) (by omega)).trans (congrArg some (r2 35 (by omega)))
  have q1 : f_X2_inDrive ((cwt, cwe, cby, csl, coc, cho, nI N), (rf, rr, rt, nI M), nI W, nI z, nI P, nI (pw P wt at'), nI lm, tk, tu, se) 1 = some (eC (at' 36)) := (inDrive_eq _ (e := 1) (by omega)).trans (congrArg some (r2 36 (by omega)))
  have y0 : s 11 = eC (at' 35) := xE 0 (by omega)
  have y1 : s 12 = eC (at' 36) := xE 1 (by omega)
  have hwa := wallOf_eq (cwt, cwe, cby, csl, coc, cho, nI N) (c := c) (l := loc c) (by omega) (by omega) (r1 c hc).2.2.2
  obtain ⟨g2, g6⟩ := apI_sym (V := loc c / 4) (by omega)
  by_cases h0 : at' 35 = 30
  · by_cases h1 : at' 36 = 30
    · by_cases hd : apI (nI (loc c / 4)) 6 < apI (nI (loc c / 4)) 2
      · refine ⟨1, by omega, ?_, fun w hw => ?_⟩
        · unfold f_X2_driveFor
          refine bnd q0 (iy (by rw [eC_m1 b0]; exact h0) ?_)
          unfold f_X2_driveFor_b14
          refine bnd q1 (iy (by rw [eC_m1 b1]; exact h1) ?_)
          unfold f_X2_driveFor_b29
          exact ino (by decide) (ino (by decide) (bnd hwa (bnd (a := 2) rfl (bnd (distance_eq _ _) (bnd (a := 6) rfl (bnd (distance_eq _ _) (iy hd rfl)))))))
        · unfold f_X7_chooses
          refine ino (by rw [hw, y0, eC_ge b0]; exact fun q => q h0) ?_
          unfold f_X7_chooses_b15
          refine ino (by rw [hw, y1, eC_ge b1]; exact fun q => q h1) ?_
          unfold f_X7_chooses_b31
          rw [g6, g2] at hd
          exact ino (by decide) (ino (by decide) (bnd (a := 6) rfl (bnd (apart_eq _ _) (bnd (a := 2) rfl (bnd (apart_eq _ _) (ino (Int32.not_le.mpr hd) rfl))))))
      · refine ⟨0, by omega, ?_, fun w hw => ?_⟩
        · unfold f_X2_driveFor
          refine bnd q0 (iy (by rw [eC_m1 b0]; exact h0) ?_)
          unfold f_X2_driveFor_b14
          refine bnd q1 (iy (by rw [eC_m1 b1]; exact h1) ?_)
          unfold f_X2_driveFor_b29
          exact ino (by decide) (ino (by decide) (bnd hwa (bnd (a := 2) rfl (bnd (distance_eq _ _) (bnd (a := 6) rfl (bnd (distance_eq _ _) (ino hd rfl)))))))
        · unfold f_X7_chooses
          refine ino (by rw [hw, y0, eC_ge b0]; exact fun q => q h0) ?_
          unfold f_X7_chooses_b15
          refine ino (by rw [hw, y1, eC_ge b1]; exact fun q => q h1) ?_
          unfold f_X7_chooses_b31
          rw [g6, g2] at hd
          exact ino (by decide) (ino (by decide) (bnd (a := 6) rfl (bnd (apart_eq _ _) (bnd (a := 2) rfl (bnd (apart_eq _ _) (iy (Int32.not_lt.mp hd) rfl))))))
    · refine ⟨0, by omega, ?_, fun w hw => ?_⟩
      · unfold f_X2_driveFor
        refine bnd q0 (iy (by rw [eC_m1 b0]; exact h0) ?_)
        unfold f_X2_driveFor_b14
        refine bnd q1 (ino (by rw [eC_m1 b1]; exact h1) ?_)
        rfl
      · unfold f_X7_chooses
        refine ino (by rw [hw, y0, eC_ge b0]; exact fun q => q h0) ?_
        unfold f_X7_chooses_b15
        refine iy (by rw [hw, y1, eC_ge b1]; exact h1) ?_
        rfl
  · by_cases h1 : at' 36 = 30
    · refine ⟨1, by omega, ?_, fun w hw => ?_⟩
      · unfold f_X2_driveFor
        refine bnd q0 (ino (by rw [eC_m1 b0]; exact h0) ?_)
        unfold f_X2_driveFor_b14
        refine bnd q1 (iy (by rw [eC_m1 b1]; exact h1) ?_)
        rfl
      · unfold f_X7_chooses
        refine iy (by rw [hw, y0, eC_ge b0]; exact h0) ?_
        unfold f_X7_chooses_b15
        refine ino (by rw [hw, y1, eC_ge b1]; exact fun q => q h1) ?_
        rfl
    · have l15a := o14 h0
      have l15b := o15 h1
      rcases o13 h0 h1 with ⟨rfl, hlt⟩ | ⟨rfl, hlt⟩
      · refine ⟨1, by omega, ?_, fun w hw => ?_⟩
        · unfold f_X2_driveFor
          refine bnd q0 (ino (by rw [eC_m1 b0]; exact h0) ?_)
          unfold f_X2_driveFor_b14
          refine bnd q1 (ino (by rw [eC_m1 b1]; exact h1) ?_)
          rfl
        · unfold f_X7_chooses
          refine iy (by rw [hw, y0, eC_ge b0]; exact h0) ?_
          unfold f_X7_chooses_b15
          refine iy (by rw [hw, y1, eC_ge b1]; exact h1) ?_
          unfold f_X7_chooses_b31 f_X7_chooses_b65
          exact iy rfl (iy rfl (iy rfl (iy (by rw [hw, x13, x14, len' (by omega) (by omega)]; omega) rfl)))
      · refine ⟨0, by omega, ?_, fun w hw => ?_⟩
        · unfold f_X2_driveFor
          refine bnd q0 (ino (by rw [eC_m1 b0]; exact h0) ?_)
          unfold f_X2_driveFor_b14
          refine bnd q1 (ino (by rw [eC_m1 b1]; exact h1) ?_)
          rfl
        · unfold f_X7_chooses
          refine iy (by rw [hw, y0, eC_ge b0]; exact h0) ?_
          unfold f_X7_chooses_b15
          refine iy (by rw [hw, y1, eC_ge b1]; exact h1) ?_
          unfold f_X7_chooses_b31 f_X7_chooses_b65
          exact iy rfl (iy rfl (iy rfl (ino (by rw [hw, x13, x14, len' (by omega) (by omega)]; omega) rfl)))
/-- the lowest empty shelf of a wall; 4: none -/
def fe (at' : Nat → Nat) (V : Nat) : Nat := if at' (4 * V) = 30 then 0 else if at' (4 * V + 1) = 30 then 1 else if at' (4 * V + 2) = 30 then 2 else if at' (4 * V + 3) = 30 then 3 else 4
theorem fe_at {at' : Nat → Nat} {V : Nat} (h : fe at' V ≠ 4) : fe at' V < 4 ∧ at' (4 * V + fe at' V) = 30 := by
  unfold fe at h ⊢
  by_cases h0 : at' (4 * V) = 30
  · rw [if_pos h0]; exact ⟨by omega, h0⟩
  · rw [if_neg h0] at h ⊢
    by_cases h1 : at' (4 * V + 1) = 30
    · rw [if_pos h1]; exact ⟨by omega, h1⟩
    · rw [if_neg h1] at h ⊢
      by_cases h2 : at' (4 * V + 2) = 30
      · rw [if_pos h2]; exact ⟨by omega, h2⟩
      · rw [if_neg h2] at h ⊢
        by_cases h3 : at' (4 * V + 3) = 30
        · rw [if_pos h3]; exact ⟨by omega, h3⟩
        · rw [if_neg h3] at h; exact absurd rfl h
theorem empty_eq (w : UX) {at' : Nat → Nat} (hs : ∀ k, k < 32 → w.1 (16 + k) = eC (at' k)) (h30 : ∀ k, k < 37 → at' k ≤ 30) {V : Nat} (hV : V < 8) : f_X7_empty w (nI V) = some (if fe at' V = 4 then -1 else nI (fe at' V)) := by
  have st : ∀ (n : Nat) (f : Int32) (k : Nat), k < 4 → f_X7_empty_b4 (n + 1) w (nI V) f (nI k) = f_X7_empty_b4 n w (nI V) (if at' (4 * V + k) = 30 then nI k else f) (nI k + (-1)) := by
    intro n f k hk
    rw [f_X7_empty_b4]
    refine ino (by rw [ltl (by omega) (by omega)]; omega) ?_
    have e : ((16 + (4 * nI V)) + nI k) = nI (16 + (4 * V + k)) := by rw [ml, la, nI_add, Nat.add_assoc]
    rw [e, clp (by omega), hs _ (by omega)]
    refine iy (inbT (by omega) (by omega)) ?_
    unfold f_X7_empty_b29
    by_cases q : at' (4 * V + k) = 30
    · refine ino (by rw [eC_ge (h30 _ (by omega))]; exact fun r => r q) ?_
      rw [if_pos q]
    · refine iy (by rw [eC_ge (h30 _ (by omega))]; exact q) ?_
      rw [if_neg q]
  unfold f_X7_empty
  rw [fuel5, show (3 : Int32) = nI 3 from rfl, st _ _ 3 (by omega), pk_m1, st _ _ 2 (by omega), pk_m1, st _ _ 1 (by omega), pk_m1, st _ _ 0 (by omega), f_X7_empty_b4]
  refine iy (by decide) ?_
  unfold fe
  rw [show 4 * V + 0 = 4 * V from rfl]
  by_cases h0 : at' (4 * V) = 30
  · simp only [if_pos h0]; rfl
  · simp only [if_neg h0]
    by_cases h1 : at' (4 * V + 1) = 30
    · simp only [if_pos h1]; rfl
    · simp only [if_neg h1]
      by_cases h2 : at' (4 * V + 2) = 30
      · simp only [if_pos h2]; rfl
      · simp only [if_neg h2]
        by_cases h3 : at' (4 * V + 3) = 30
        · simp only [if_pos h3]; rfl
        · simp only [if_neg h3]; rfl
theorem inner_eq (k2 : UC → Int32 → Int32 → Option Int32) (u : UC) {at' : Nat → Nat} (hs : ∀ k, k < 37 → u.2.2.2.2.1 k = eC (at' k)) (h30 : ∀ k, k < 37 → at' k ≤ 30) {V : Nat} (hV : V < 8) (v1 v2 : Int32) : f_X0_emptyShelfNear_b46 k2 FUEL u v1 v2 (nI (4 * V)) (nI (4 * V)) = if fe at' V = 4 then k2 u v1 (v2 + 1) else some (nI (4 * V + fe at' V)) := by
  have st : ∀ (n j : Nat), j < 4 → f_X0_emptyShelfNear_b46 k2 (n + 1) u v1 v2 (nI (4 * V)) (nI (4 * V + j)) = if at' (4 * V + j) = 30 then some (nI (4 * V + j)) else f_X0_emptyShelfNear_b46 k2 n u v1 v2 (nI (4 * V)) (nI (4 * V + (j + 1))) := by
    intro n j hj
    rw [f_X0_emptyShelfNear_b46]
    refine ino (by rw [al, len' (by omega) (by omega)]; omega) (bnd ((inSlot_eq u (by omega)).trans (congrArg some (hs _ (by omega)))) ?_)
    by_cases q : at' (4 * V + j) = 30
    · rw [if_pos q]
      exact iy (by rw [eC_m1 (h30 _ (by omega))]; exact q) rfl
    · rw [if_neg q]
      refine ino (by rw [eC_m1 (h30 _ (by omega))]; exact q) ?_
      rw [al]
      rfl
  have s0 := fun n => st n 0 (by omega)
  simp only [Nat.add_zero, Nat.zero_add] at s0
  rw [fuel5, s0, st _ 1 (by omega), st _ 2 (by omega), st _ 3 (by omega), f_X0_emptyShelfNear_b46, al, if_pos (Int32.le_refl _)]
  unfold fe
  by_cases h0 : at' (4 * V) = 30
  · simp only [if_pos h0]; rfl
  · simp only [if_neg h0]
    by_cases h1 : at' (4 * V + 1) = 30
    · simp only [if_pos h1]; rfl
    · simp only [if_neg h1]
      by_cases h2 : at' (4 * V + 2) = 30
      · simp only [if_pos h2]; rfl
      · simp only [if_neg h2]
        by_cases h3 : at' (4 * V + 3) = 30
        · simp only [if_pos h3]; rfl
        · simp only [if_neg h3]; rfl
theorem near_step (u : UC) {at' : Nat → Nat} (hs : ∀ k, k < 37 → u.2.2.2.2.1 k = eC (at' k)) (h30 : ∀ k, k < 37 → at' k ≤ 30) {V : Nat} (hV : V < 8) (v1 v2 : Int32) (n : Nat) (h8 : ¬ 8 ≤ v2) (hy : jrem v2 2 = 1 → f_X6_shelfSlot (jrem (v1 + (v2 + 1) / 2) 8) 0 = some (nI (4 * V))) (hn : ¬ jrem v2 2 = 1 → f_X6_shelfSlot (jrem (v1 + (8 - v2 / 2)) 8) 0 = some (nI (4 * V))) : f_X0_emptyShelfNear_b2 (n + 1) u v1 v2 = if fe at' V = 4 then f_X0_emptyShelfNear_b2 n u v1 (v2 + 1) else some (nI (4 * V + fe at' V)) := by
  rw [f_X0_emptyShelfNear_b2]
  refine ino h8 ?_
  unfold f_X0_emptyShelfNear_b29
  by_cases q : jrem v2 2 = 1
  · exact iy q (bnd (hy q) (inner_eq _ u hs h30 hV v1 v2))
  · exact ino q (bnd (hn q) (inner_eq _ u hs h30 hV v1 v2))
theorem nearM_step (w : UX) {at' : Nat → Nat} (hs : ∀ k, k < 32 → w.1 (16 + k) = eC (at' k)) (h30 : ∀ k, k < 37 → at' k ≤ 30) {R L : Nat} (hR : R < 8) (hL : L < 8) (v1 v2 : Int32) (n : Nat) (h4 : ¬ 4 < v2) (eR : jrem (v1 + v2) 8 = nI R) (eL : jrem ((v1 - v2) + 8) 8 = nI L) : f_X7_nearest_b2 (n + 1) w v1 v2 = if fe at' R = 4 then (if fe at' L = 4 then f_X7_nearest_b2 n w v1 (v2 + 1) else some (nI L)) else some (nI R) := by
  rw [f_X7_nearest_b2]
  refine ino h4 ?_
  rw [eR, eL]
  refine bnd (empty_eq w hs h30 hR) ?_
  by_cases q : fe at' R = 4
  · rw [if_pos q, if_pos q]
    refine iy (by decide) (bnd (empty_eq w hs h30 hL) ?_)
    by_cases q2 : fe at' L = 4
    · rw [if_pos q2, if_pos q2]
      exact iy (by decide) rfl
    · rw [if_neg q2, if_neg q2]
      have := fe_at q2
      exact ino (by rw [ltl (by omega) (by omega)]; omega) rfl
  · rw [if_neg q, if_neg q]
    have := fe_at q
    exact ino (by rw [ltl (by omega) (by omega)]; omega) rfl
theorem fuel9 : FUEL = 1991 + 1 + 1 + 1 + 1 + 1 + 1 + 1 + 1 + 1 := rfl
theorem fuel6 : FUEL = 1994 + 1 + 1 + 1 + 1 + 1 + 1 := rfl
theorem nearC0 (u : UC) {at' : Nat → Nat} (hs : ∀ k, k < 37 → u.2.2.2.2.1 k = eC (at' k)) (h30 : ∀ k, k < 37 → at' k ≤ 30) : f_X0_emptyShelfNear u (nI 2) = (if fe at' 2 = 4 then (if fe at' 3 = 4 then (if fe at' 1 = 4 then (if fe at' 4 = 4 then (if fe at' 0 = 4 then (if fe at' 5 = 4 then (if fe at' 7 = 4 then (if fe at' 6 = 4 then some (-1) else some (nI (4 * 6 + fe at' 6))) else some (nI (4 * 7 + fe at' 7))) else some (nI (4 * 5 + fe at' 5))) else some (nI (4 * 0 + fe at' 0))) else some (nI (4 * 4 + fe at' 4))) else some (nI (4 * 1 + fe at' 1))) else some (nI (4 * 3 + fe at' 3))) else some (nI (4 * 2 + fe at' 2))) := by
  unfold f_X0_emptyShelfNear
  rw [fuel9]
  rw [near_step u hs h30 (V := 2) (by omega) (nI 2) 0 _ (by decide) (by decide) (by decide), near_step u hs h30 (V := 3) (by omega) (nI 2) _ _ (by decide) (by decide) (by decide), near_step u hs h30 (V := 1) (by omega) (nI 2) _ _ (by decide) (by decide) (by decide), near_step u hs h30 (V := 4) (by omega) (nI 2) _ _ (by decide) (by decide) (by decide), near_step u hs h30 (V := 0) (by omega) (nI 2) _ _ (by decide) (by decide) (by decide), near_step u hs h30 (V := 5) (by omega) (nI 2) _ _ (by decide) (by decide) (by decide), near_step u hs h30 (V := 7) (by omega) (nI 2) _ _ (by decide) (by decide) (by decide), near_step u hs h30 (V := 6) (by omega) (nI 2) _ _ (by decide) (by decide) (by decide), f_X0_emptyShelfNear_b2, if_pos (show (8 : Int32) ≤ 0 + 1 + 1 + 1 + 1 + 1 + 1 + 1 + 1 from by decide)]
theorem nearM0 (w : UX) {at' : Nat → Nat} (hs : ∀ k, k < 32 → w.1 (16 + k) = eC (at' k)) (h30 : ∀ k, k < 37 → at' k ≤ 30) : f_X7_nearest w (nI 2) = (if fe at' 2 = 4 then (if fe at' 2 = 4 then (if fe at' 3 = 4 then (if fe at' 1 = 4 then (if fe at' 4 = 4 then (if fe at' 0 = 4 then (if fe at' 5 = 4 then (if fe at' 7 = 4 then (if fe at' 6 = 4 then (if fe at' 6 = 4 then some (-1) else some (nI 6)) else some (nI 6)) else some (nI 7)) else some (nI 5)) else some (nI 0)) else some (nI 4)) else some (nI 1)) else some (nI 3)) else some (nI 2)) else some (nI 2)) := by
  unfold f_X7_nearest
  rw [fuel6]
  rw [nearM_step w hs h30 (R := 2) (L := 2) (by omega) (by omega) (nI 2) _ _ (by decide) (by decide) (by decide), nearM_step w hs h30 (R := 3) (L := 1) (by omega) (by omega) (nI 2) _ _ (by decide) (by decide) (by decide), nearM_step w hs h30 (R := 4) (L := 0) (by omega) (by omega) (nI 2) _ _ (by decide) (by decide) (by decide), nearM_step w hs h30 (R := 5) (L := 7) (by omega) (by omega) (nI 2) _ _ (by decide) (by decide) (by decide), nearM_step w hs h30 (R := 6) (L := 6) (by omega) (by omega) (nI 2) _ _ (by decide) (by decide) (by decide), f_X7_nearest_b2, if_pos (show (4 : Int32) < 0 + 1 + 1 + 1 + 1 + 1 from by decide)]
theorem nearC1 (u : UC) {at' : Nat → Nat} (hs : ∀ k, k < 37 → u.2.2.2.2.1 k = eC (at' k)) (h30 : ∀ k, k < 37 → at' k ≤ 30) : f_X0_emptyShelfNear u (nI 6) = (if fe at' 6 = 4 then (if fe at' 7 = 4 then (if fe at' 5 = 4 then (if fe at' 0 = 4 then (if fe at' 4 = 4 then (if fe at' 1 = 4 then (if fe at' 3 = 4 then (if fe at' 2 = 4 then some (-1) else some (nI (4 * 2 + fe at' 2))) else some (nI (4 * 3 + fe at' 3))) else some (nI (4 * 1 + fe at' 1))) else some (nI (4 * 4 + fe at' 4))) else some (nI (4 * 0 + fe at' 0))) else some (nI (4 * 5 + fe at' 5))) else some (nI (4 * 7 + fe at' 7))) else some (nI (4 * 6 + fe at' 6))) := by
  unfold f_X0_emptyShelfNear
  rw [fuel9]
  rw [near_step u hs h30 (V := 6) (by omega) (nI 6) 0 _ (by decide) (by decide) (by decide), near_step u hs h30 (V := 7) (by omega) (nI 6) _ _ (by decide) (by decide) (by decide), near_step u hs h30 (V := 5) (by omega) (nI 6) _ _ (by decide) (by decide) (by decide), near_step u hs h30 (V := 0) (by omega) (nI 6) _ _ (by decide) (by decide) (by decide), near_step u hs h30 (V := 4) (by omega) (nI 6) _ _ (by decide) (by decide) (by decide), near_step u hs h30 (V := 1) (by omega) (nI 6) _ _ (by decide) (by decide) (by decide), near_step u hs h30 (V := 3) (by omega) (nI 6) _ _ (by decide) (by decide) (by decide), near_step u hs h30 (V := 2) (by omega) (nI 6) _ _ (by decide) (by decide) (by decide), f_X0_emptyShelfNear_b2, if_pos (show (8 : Int32) ≤ 0 + 1 + 1 + 1 + 1 + 1 + 1 + 1 + 1 from by decide)]
theorem nearM1 (w : UX) {at' : Nat → Nat} (hs : ∀ k, k < 32 → w.1 (16 + k) = eC (at' k)) (h30 : ∀ k, k < 37 → at' k ≤ 30) : f_X7_nearest w (nI 6) = (if fe at' 6 = 4 then (if fe at' 6 = 4 then (if fe at' 7 = 4 then (if fe at' 5 = 4 then (if fe at' 0 = 4 then (if fe at' 4 = 4 then (if fe at' 1 = 4 then (if fe at' 3 = 4 then (if fe at' 2 = 4 then (if fe at' 2 = 4 then some (-1) else some (nI 2)) else some (nI 2)) else some (nI 3)) else some (nI 1)) else some (nI 4)) else some (nI 0)) else some (nI 5)) else some (nI 7)) else some (nI 6)) else some (nI 6)) := by
  unfold f_X7_nearest
  rw [fuel6]
  rw [nearM_step w hs h30 (R := 6) (L := 6) (by omega) (by omega) (nI 6) _ _ (by decide) (by decide) (by decide), nearM_step w hs h30 (R := 7) (L := 5) (by omega) (by omega) (nI 6) _ _ (by decide) (by decide) (by decide), nearM_step w hs h30 (R := 0) (L := 4) (by omega) (by omega) (nI 6) _ _ (by decide) (by decide) (by decide), nearM_step w hs h30 (R := 1) (L := 3) (by omega) (by omega) (nI 6) _ _ (by decide) (by decide) (by decide), nearM_step w hs h30 (R := 2) (L := 2) (by omega) (by omega) (nI 6) _ _ (by decide) (by decide) (by decide), f_X7_nearest_b2, if_pos (show (4 : Int32) < 0 + 1 + 1 + 1 + 1 + 1 from by decide)]
theorem near_ok {u : UC} {at' : Nat → Nat} (hs : ∀ k, k < 37 → u.2.2.2.2.1 k = eC (at' k)) {s : UA} (hm : ∀ k, k < 32 → s (16 + k) = eC (at' k)) (h30 : ∀ k, k < 37 → at' k ≤ 30) {e : Nat} (he : e ≤ 1) : (f_X0_emptyShelfNear u (nI (2 + 4 * e)) = some (-1) ∧ ∀ w : UX, w.1 = s → f_X7_nearest w (nI (2 + 4 * e)) = some (-1)) ∨ ∃ V, V < 8 ∧ fe at' V ≠ 4 ∧ f_X0_emptyShelfNear u (nI (2 + 4 * e)) = some (nI (4 * V + fe at' V)) ∧ ∀ w : UX, w.1 = s → f_X7_nearest w (nI (2 + 4 * e)) = some (nI V) := by
  rcases (show e = 0 ∨ e = 1 by omega) with rfl | rfl
  · have hC := nearC0 u hs h30
    have hM : ∀ w : UX, w.1 = s → _ := fun w hw => nearM0 w (at' := at') (by rw [hw]; exact hm) h30
    rw [show 2 + 4 * 0 = 2 from rfl]
    by_cases h2 : fe at' 2 = 4
    · simp only [if_pos h2] at hC hM
      by_cases h3 : fe at' 3 = 4
      · simp only [if_pos h3] at hC hM
        by_cases h1 : fe at' 1 = 4
        · simp only [if_pos h1] at hC hM
          by_cases h4 : fe at' 4 = 4
          · simp only [if_pos h4] at hC hM
            by_cases h0 : fe at' 0 = 4
            · simp only [if_pos h0] at hC hM
              by_cases h5 : fe at' 5 = 4
              · simp only [if_pos h5] at hC hM
                by_cases h7 : fe at' 7 = 4
                · simp only [if_pos h7] at hC hM
                  by_cases h6 : fe at' 6 = 4
                  · simp only [if_pos h6] at hC hM
                    exact Or.inl ⟨hC, hM⟩
                  · simp only [if_neg h6] at hC hM
                    exact Or.inr ⟨6, by omega, h6, hC, hM⟩
                · simp only [if_neg h7] at hC hM
                  exact Or.inr ⟨7, by omega, h7, hC, hM⟩
              · simp only [if_neg h5] at hC hM
                exact Or.inr ⟨5, by omega, h5, hC, hM⟩
            · simp only [if_neg h0] at hC hM
              exact Or.inr ⟨0, by omega, h0, hC, hM⟩
          · simp only [if_neg h4] at hC hM
            exact Or.inr ⟨4, by omega, h4, hC, hM⟩
        · simp only [if_neg h1] at hC hM
          exact Or.inr ⟨1, by omega, h1, hC, hM⟩
      · simp only [if_neg h3] at hC hM
        exact Or.inr ⟨3, by omega, h3, hC, hM⟩
    · simp only [if_neg h2] at hC hM
      exact Or.inr ⟨2, by omega, h2, hC, hM⟩
  · have hC := nearC1 u hs h30
    have hM : ∀ w : UX, w.1 = s → _ := fun w hw => nearM1 w (at' := at') (by rw [hw]; exact hm) h30
    rw [show 2 + 4 * 1 = 6 from rfl]
    by_cases h6 : fe at' 6 = 4
    · simp only [if_pos h6] at hC hM
      by_cases h7 : fe at' 7 = 4
      · simp only [if_pos h7] at hC hM
        by_cases h5 : fe at' 5 = 4
        · simp only [if_pos h5] at hC hM
          by_cases h0 : fe at' 0 = 4
          · simp only [if_pos h0] at hC hM
            by_cases h4 : fe at' 4 = 4
            · simp only [if_pos h4] at hC hM
              by_cases h1 : fe at' 1 = 4
              · simp only [if_pos h1] at hC hM
                by_cases h3 : fe at' 3 = 4
                · simp only [if_pos h3] at hC hM
                  by_cases h2 : fe at' 2 = 4
                  · simp only [if_pos h2] at hC hM
                    exact Or.inl ⟨hC, hM⟩
                  · simp only [if_neg h2] at hC hM
                    exact Or.inr ⟨2, by omega, h2, hC, hM⟩
                · simp only [if_neg h3] at hC hM
                  exact Or.inr ⟨3, by omega, h3, hC, hM⟩
              · simp only [if_neg h1] at hC hM
                exact Or.inr ⟨1, by omega, h1, hC, hM⟩
            · simp only [if_neg h4] at hC hM
              exact Or.inr ⟨4, by omega, h4, hC, hM⟩
          · simp only [if_neg h0] at hC hM
            exact Or.inr ⟨0, by omega, h0, hC, hM⟩
        · simp only [if_neg h5] at hC hM
          exact Or.inr ⟨5, by omega, h5, hC, hM⟩
      · simp only [if_neg h7] at hC hM
        exact Or.inr ⟨7, by omega, h7, hC, hM⟩
    · simp only [if_neg h6] at hC hM
      exact Or.inr ⟨6, by omega, h6, hC, hM⟩
