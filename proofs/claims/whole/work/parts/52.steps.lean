/-! ===== every step of program and model, errors too ===== -/
def hc (ho : Nat → Nat) (c : Nat) : Nat := cntF (fun x => decide (ho x = c)) 60 0
/-- program and model hold the same state, with at most B mountings and at most four files a cartridge -/
def Rl (B : Nat) (u : UL) (s : UA) : Prop := ∃ (W P N M z lm k13 k14 k15 : Nat) (wt loc at' ho fi : Nat → Nat) (we by' ra ti : Nat → Int32) (tk tu se : Int32), Sim W P N M z lm k13 k14 k15 wt loc at' ho fi we by' ra ti tk tu se u s ∧ k15 ≤ B ∧ ∀ c, c < 30 → hc ho c ≤ 4
def BadR (r : Int32) : Prop := r = -1000001 ∨ r = -1000002 ∨ r = -1000003
def GoodR (r : Int32) : Prop := r = -1 ∨ ∃ n : Nat, n < 2147483648 ∧ r = nI n
def BadI (I : Prop) (r : Int32) : Prop := (r = -1000001 ∧ ¬ I) ∨ (r = -1000002 ∧ I) ∨ (r = -1000003 ∧ I)
theorem badI_R {I : Prop} {r : Int32} (h : BadI I r) : BadR r := by
  rcases h with ⟨h, _⟩ | ⟨h, _⟩ | ⟨h, _⟩
  · exact Or.inl h
  · exact Or.inr (Or.inl h)
  · exact Or.inr (Or.inr h)
/-- I: the argument is in its range -/
def StepO (I : Prop) (B : Nat) (u : UL) (s : UA) (c : Option (Int32 × UL)) (m : UX → Option (Int32 × UX)) : Prop := ∃ (r : Int32) (u' : UL) (s' : UA), c = some (r, u') ∧ (∀ w : UX, w.1 = s → ∃ d e : Int32, m w = some (r, wd w s' d e)) ∧ ((BadI I r ∧ u' = u ∧ s' = s) ∨ (I ∧ (∃ n : Nat, n < 2147483648 ∧ r = nI n) ∧ Rl B u' s'))
theorem rl_mono {B B' : Nat} {u : UL} {s : UA} (h : Rl B u s) (hB : B ≤ B') : Rl B' u s := by
  obtain ⟨W, P, N, M, z, lm, k13, k14, k15, wt, loc, at', ho, fi, we, by', ra, ti, tk, tu, se, h, hb, hh⟩ := h
  exact ⟨W, P, N, M, z, lm, k13, k14, k15, wt, loc, at', ho, fi, we, by', ra, ti, tk, tu, se, h, by omega, hh⟩
theorem step_bad {I : Prop} {B : Nat} {u : UL} {s : UA} {c : Option (Int32 × UL)} {m : UX → Option (Int32 × UX)} {r : Int32} (hr : BadI I r) (h1 : c = some (r, u)) (h2 : ∀ w : UX, w.1 = s → m w = some (r, w)) : StepO I B u s c m := by
  refine ⟨r, u, s, h1, fun w hw => ⟨w.2.2.2.2.2.2.2.2.2.2.2.2.1, w.2.2.2.2.2.2.2.2.2.2.2.2.2, ?_⟩, Or.inl ⟨hr, rfl, rfl⟩⟩
  rw [h2 w hw, ← hw]
  rfl
theorem step_good {I : Prop} {B n : Nat} {u u' : UL} {s s' : UA} {c : Option (Int32 × UL)} {m : UX → Option (Int32 × UX)} (hI : I) (hn : n < 2147483648) (h1 : c = some (nI n, u')) (h2 : ∀ w : UX, w.1 = s → m w = some (nI n, (s', w.2))) (h3 : Rl B u' s') : StepO I B u s c m := by
  refine ⟨nI n, u', s', h1, fun w hw => ⟨w.2.2.2.2.2.2.2.2.2.2.2.2.1, w.2.2.2.2.2.2.2.2.2.2.2.2.2, ?_⟩, Or.inr ⟨hI, ⟨n, hn, rfl⟩, h3⟩⟩
  rw [h2 w hw]
  rfl
theorem bad1 {I : Prop} (h : ¬ I) : BadI I (-1000001) := Or.inl ⟨rfl, h⟩
theorem bad2 {I : Prop} (h : I) : BadI I (-1000002) := Or.inr (Or.inl ⟨rfl, h⟩)
theorem bad3 {I : Prop} (h : I) : BadI I (-1000003) := Or.inr (Or.inr ⟨rfl, h⟩)
theorem isIn_no {p a b : Int32} (h : f_X6_isIn p a b = some 0) : ¬ f_X6_isIn p a b = some 1 := fun q => by
  rw [h] at q
  exact absurd (Option.some.inj q) (by decide)
theorem fin1' (p : Int32) (h : Nat) (hh : h < 2147483648) : (∃ j, j ≤ h ∧ p = nI j) ∨ (f_X6_isIn p 0 (nI h) = some 0 ∧ f_X7_in p 0 (nI h) = some 0) := by
  rcases fin1 p h hh with q | q
  · exact Or.inl q
  · exact Or.inr ⟨isIn_n q, in_n q⟩
theorem isShelf_0 {a : Nat} {p : Int32} (ha : a ≤ 7) (hb : f_X6_isIn p 0 3 = some 0) : f_X6_isShelf (nI a) p = some 0 := by
  unfold f_X6_isShelf
  exact bnd (isIn_k (by omega) ha (by omega)) (ino (by decide) (bnd hb (iy rfl rfl)))
theorem isShelf_1 {a b : Nat} (ha : a ≤ 7) (hb : b ≤ 3) : f_X6_isShelf (nI a) (nI b) = some 1 := isShelf_y ha hb
theorem cell_eq (a b : Nat) : ((16 + (4 * nI a)) + nI b) = nI (16 + (4 * a + b)) := by rw [ml, la, nI_add, Nat.add_assoc]
theorem lift_step {B : Nat} {u : UL} {s : UA} (h : Rl B u s) (p : Int32) : StepO (f_X6_isIn p 0 3 = some 1) B u s (f_X2_liftFrom u p) (fun w => f_X7_lifts w p) := by
  obtain ⟨W, P, N, M, z, lm, k13, k14, k15, wt, loc, at', ho, fi, we, by', ra, ti, tk, tu, se, h, hb, hh⟩ := h
  obtain ⟨a30, rc, ra', re, rp, rp2⟩ := sim_at30 h
  obtain ⟨hW, eu, es⟩ := sim_W h
  have hP := h.1.2.1
  have hN := h.1.2.2.1
  rcases fin1' p 3 (by omega) with ⟨j, hj, rfl⟩ | ⟨q1, q2⟩
  · have hI : f_X6_isIn (nI j) 0 3 = some 1 := isIn_k (by omega) hj (by omega)
    have cA : f_X2_liftFrom u (nI j) = f_X2_ontoPile u (eC (at' (4 * W + j))) 1 := by
      unfold f_X2_liftFrom
      rw [eu]
      refine bnd (isShelf_y (by omega) hj) (ino (by decide) (bnd (shelfSlot_eq _ _) (bnd ((inSlot_eq _ (by omega)).trans (congrArg some (rc _ (by omega)))) ?_)))
      cases f_X2_ontoPile u (eC (at' (4 * W + j))) 1 <;> rfl
    have mA : ∀ (w : UX), w.1 = s → w.1 ((16 + (4 * w.1 1)) + nI j).toNatClampNeg = eC (at' (4 * W + j)) := fun w hw => by
      rw [hw, es, cell_eq, clp (by omega), ra' _ (by omega)]
    have mB : ∀ (w : UX), w.1 = s → inb ((16 + (4 * w.1 1)) + nI j) 264 = true := fun w hw => by
      rw [hw, es, cell_eq]
      exact inbT (by omega) (by omega)
    by_cases h30 : at' (4 * W + j) = 30
    · refine step_bad (bad2 hI) ?_ (fun w hw => ?_)
      · rw [cA, h30]
        rfl
      · show f_X7_lifts w (nI j) = _
        unfold f_X7_lifts
        exact bnd (in_k (by omega) hj (by omega)) (ino (by decide) (iy (mB w hw) (ino (by rw [mA w hw, h30]; decide) rfl)))
    · by_cases hP3 : P < 3
      · obtain ⟨u', s', c1, m1, S⟩ := lift_ok h hj rfl h30 hP3
        have hcN : at' (4 * W + j) < 2147483648 := by have := a30 (4 * W + j) (by omega); omega
        exact step_good hI hcN c1 m1 ⟨_, _, _, _, _, _, _, _, _, _, _, _, _, _, _, _, _, _, _, _, _, S, hb, hh⟩
      · refine step_bad (bad3 hI) ?_ (fun w hw => ?_)
        · rw [cA]
          unfold f_X2_ontoPile
          exact ino (by rw [eC_m1 (a30 _ (by omega))]; exact h30) (ino (by rw [rp, ltl (by omega) (by omega)]; exact hP3) rfl)
        · show f_X7_lifts w (nI j) = _
          unfold f_X7_lifts
          exact bnd (in_k (by omega) hj (by omega)) (ino (by decide) (iy (mB w hw) (iy (by rw [mA w hw, eC_ge (a30 _ (by omega))]; exact h30) (iy (by rw [hw, rp2, show P = 3 by omega]; rfl) rfl))))
  · refine step_bad (bad1 (isIn_no q1)) ?_ (fun w hw => ?_)
    · unfold f_X2_liftFrom
      rw [eu]
      exact bnd (isShelf_0 (by omega) q1) (iy rfl rfl)
    · show f_X7_lifts w p = _
      unfold f_X7_lifts
      exact bnd q2 (iy rfl rfl)
theorem lay_step {B : Nat} {u : UL} {s : UA} (h : Rl B u s) (p : Int32) : StepO (f_X6_isIn p 0 3 = some 1) B u s (f_X2_layOn u p) (fun w => f_X7_lays w p) := by
  obtain ⟨W, P, N, M, z, lm, k13, k14, k15, wt, loc, at', ho, fi, we, by', ra, ti, tk, tu, se, h, hb, hh⟩ := h
  obtain ⟨a30, rc, ra', re, rp, rp2⟩ := sim_at30 h
  obtain ⟨hW, eu, es⟩ := sim_W h
  have hP := h.1.2.1
  have hN := h.1.2.2.1
  rcases fin1' p 3 (by omega) with ⟨j, hj, rfl⟩ | ⟨q1, q2⟩
  · have hI : f_X6_isIn (nI j) 0 3 = some 1 := isIn_k (by omega) hj (by omega)
    rcases (show P = 0 ∨ ∃ Q, P = Q + 1 by cases P with | zero => exact Or.inl rfl | succ n => exact Or.inr ⟨n, rfl⟩) with rfl | ⟨Q, rfl⟩
    · refine step_bad (bad2 hI) ?_ (fun w hw => ?_)
      · unfold f_X2_layOn
        rw [eu]
        exact bnd (isShelf_y (by omega) hj) (ino (by decide) (bnd (shelfSlot_eq _ _) (bnd (topOfPile_0 u rp) (iy rfl rfl))))
      · show f_X7_lays w (nI j) = _
        unfold f_X7_lays
        exact bnd (in_k (by omega) hj (by omega)) (ino (by decide) (iy (by rw [hw, rp2]; rfl) rfl))
    · have hQ : Q < 3 := by omega
      have hc30 : at' (32 + Q) ≠ 30 := fun x => by
        have := (h.1.2.2.2.2.2.2.2.2.1 Q hQ).mp x
        omega
      by_cases h30 : at' (4 * W + j) = 30
      · obtain ⟨u', s', c1, m1, S⟩ := lay_ok h hj rfl h30
        have hcN : at' (32 + Q) < 2147483648 := by have := a30 (32 + Q) (by omega); omega
        exact step_good hI hcN c1 m1 ⟨_, _, _, _, _, _, _, _, _, _, _, _, _, _, _, _, _, _, _, _, _, S, hb, hh⟩
      · refine step_bad (bad2 hI) ?_ (fun w hw => ?_)
        · unfold f_X2_layOn
          rw [eu]
          refine bnd (isShelf_y (by omega) hj) (ino (by decide) (bnd (shelfSlot_eq _ _) (bnd (topOfPile_eq u hQ rp) (ino ?_ (bnd (inSlot_eq _ (by omega)) (ino ?_ rfl))))))
          · rw [rc _ (by omega), eC_m1 (a30 _ (by omega))]; exact hc30
          · rw [rc _ (by omega), eC_m1 (a30 _ (by omega))]; exact h30
        · show f_X7_lays w (nI j) = _
          unfold f_X7_lays
          refine bnd (in_k (by omega) hj (by omega)) (ino (by decide) (ino ?_ (iy ?_ (ino ?_ rfl))))
          · rw [hw, rp2]; exact nI_ne0 (by omega) (by omega)
          · rw [hw, es, cell_eq]; exact inbT (by omega) (by omega)
          · rw [hw, es, cell_eq, clp (by omega), ra' _ (by omega), eC_neg (a30 _ (by omega))]; exact h30
  · refine step_bad (bad1 (isIn_no q1)) ?_ (fun w hw => ?_)
    · unfold f_X2_layOn
      rw [eu]
      exact bnd (isShelf_0 (by omega) q1) (iy rfl rfl)
    · show f_X7_lays w p = _
      unfold f_X7_lays
      exact bnd q2 (iy rfl rfl)
theorem pw_small {P : Nat} {wt at' : Nat → Nat} (h : ∀ i, i < P → wt (at' (32 + i)) ≤ 20) : pw P wt at' ≤ 60 := by
  unfold pw
  have a : (if 0 < P then wt (at' 32) else 0) ≤ 20 := by
    by_cases q : 0 < P
    · rw [if_pos q]; exact h 0 q
    · rw [if_neg q]; omega
  have b : (if 1 < P then wt (at' 33) else 0) ≤ 20 := by
    by_cases q : 1 < P
    · rw [if_pos q]; exact h 1 q
    · rw [if_neg q]; omega
  have c : (if 2 < P then wt (at' 34) else 0) ≤ 20 := by
    by_cases q : 2 < P
    · rw [if_pos q]; exact h 2 q
    · rw [if_neg q]; omega
  omega
theorem sim_pw {W P N M z lm k13 k14 k15 : Nat} {wt loc at' ho fi : Nat → Nat} {we by' ra ti : Nat → Int32} {tk tu se : Int32} {u : UL} {s : UA} (h : Sim W P N M z lm k13 k14 k15 wt loc at' ho fi we by' ra ti tk tu se u s) : pw P wt at' ≤ 60 := by
  obtain ⟨⟨o1, o2, o3, o4, o5, o6, B, D, o9, o10, o⟩, _⟩ := h
  refine pw_small (fun i hi => ?_)
  have h1 := B (32 + i) (by omega)
  have h2 := o9 i (by omega)
  have h3 : at' (32 + i) < N := by omega
  exact (o10 _ h3).2
theorem weigh_step {B : Nat} {u : UL} {s : UA} (h : Rl B u s) : StepO True B u s (f_X2_weighPallet u) (fun w => f_X7_weighs w) := by
  obtain ⟨W, P, N, M, z, lm, k13, k14, k15, wt, loc, at', ho, fi, we, by', ra, ti, tk, tu, se, h, hb, hh⟩ := h
  have hp := sim_pw h
  obtain ⟨u', s', c1, m1, S⟩ := weigh_ok h
  exact step_good trivial (by omega) c1 m1 ⟨_, _, _, _, _, _, _, _, _, _, _, _, _, _, _, _, _, _, _, _, _, S, hb, hh⟩
theorem sim_z {W P N M z lm k13 k14 k15 : Nat} {wt loc at' ho fi : Nat → Nat} {we by' ra ti : Nat → Int32} {tk tu se : Int32} {u : UL} {s : UA} (h : Sim W P N M z lm k13 k14 k15 wt loc at' ho fi we by' ra ti tk tu se u s) : u.2.2.2.1 = nI z ∧ s 6 = nI z ∧ u.2.2.2.2.2.1 = nI (pw P wt at') ∧ z ≤ 1 := by
  obtain ⟨o, ⟨cwt, cwe, cby, csl, coc, cho, rf, rr, rt, rfl, r⟩, x⟩ := h
  exact ⟨rfl, x.2.2.2.1, rfl, o.2.2.2.2.1⟩
theorem turn_step {B : Nat} {u : UL} {s : UA} (h : Rl B u s) (p : Int32) : StepO (¬ (p < -4 ∨ 4 < p) ∧ p ≠ 0) B u s (f_X2_turnBy u p) (fun w => f_X7_turns w p) := by
  obtain ⟨W, P, N, M, z, lm, k13, k14, k15, wt, loc, at', ho, fi, we, by', ra, ti, tk, tu, se, h, hb, hh⟩ := h
  obtain ⟨hW, eu, es⟩ := sim_W h
  obtain ⟨ez, ez2, ep, hz1⟩ := sim_z h
  have mt : ∀ (w : UX) (r : Option (Int32 × UX)), (∀ s0, s0 = (if 0 ≤ p then p else -p) → f_X7_turns_b10 w p s0 = r) → f_X7_turns w p = r := by
    intro w r hr
    unfold f_X7_turns
    by_cases q : 0 ≤ p
    · rw [if_pos q] at hr ⊢
      exact hr _ rfl
    · rw [if_neg q] at hr ⊢
      exact hr _ rfl
  by_cases hin : p < -4 ∨ 4 < p
  · refine step_bad (bad1 (fun q => q.1 hin)) ?_ (fun w hw => mt w _ (fun s0 _ => ?_))
    · unfold f_X2_turnBy
      by_cases h0 : p = 0
      · exact iy h0 rfl
      · exact ino h0 (bnd (isIn_n hin) (iy rfl rfl))
    · unfold f_X7_turns_b10
      exact bnd (in_n hin) (iy rfl rfl)
  · have h1 : ¬ p < -4 := fun q => hin (Or.inl q)
    have h2 : ¬ 4 < p := fun q => hin (Or.inr q)
    by_cases h0 : p = 0
    · refine step_bad (bad1 (fun q => q.2 h0)) ?_ (fun w hw => mt w _ (fun s0 _ => ?_))
      · unfold f_X2_turnBy
        exact iy h0 rfl
      · unfold f_X7_turns_b10
        exact bnd (in_y h1 h2) (ino (by decide) (iy h0 rfl))
    · by_cases hz : z = 0
      · subst hz
        refine step_bad (bad2 ⟨hin, h0⟩) ?_ (fun w hw => mt w _ (fun s0 _ => ?_))
        · unfold f_X2_turnBy
          exact ino h0 (bnd (isIn_y h1 h2) (ino (by decide) (iy (by rw [ez]; rfl) rfl)))
        · unfold f_X7_turns_b10
          exact bnd (in_y h1 h2) (ino (by decide) (ino h0 (iy (by rw [hw, ez2]; rfl) rfl)))
      · obtain ⟨W', g1, g2, g3⟩ := turn_facts hW h1 h2
        obtain ⟨k, hk⟩ := most_m (nI (pw P wt at'))
        have hzn : ¬ nI z = 0 := nI_ne0 (by omega) (by omega)
        by_cases hm : jabs p ≤ nI (2 ^ k.val)
        · obtain ⟨u', s', c1, m1, S⟩ := turn_ok h hz h1 h2 h0 g1 g2 g3 hk hm
          exact step_good ⟨hin, h0⟩ (by omega) c1 m1 ⟨_, _, _, _, _, _, _, _, _, _, _, _, _, _, _, _, _, _, _, _, _, S, hb, hh⟩
        · refine step_bad (bad2 ⟨hin, h0⟩) ?_ (fun w hw => mt w _ (fun s0 hs0 => ?_))
          · unfold f_X2_turnBy
            exact ino h0 (bnd (isIn_y h1 h2) (ino (by decide) (ino (by rw [ez]; exact hzn) (bnd (by rw [ep]; exact hk) (ino hm rfl)))))
          · unfold f_X7_turns_b10
            rw [hs0, g3]
            exact bnd (in_y h1 h2) (ino (by decide) (ino h0 (ino (by rw [hw, ez2]; exact hzn) (bnd ((most_eq h.1 h.2.2 w hw).trans hk) (ino hm rfl)))))
theorem sim_top {W P N M z lm k13 k14 k15 : Nat} {wt loc at' ho fi : Nat → Nat} {we by' ra ti : Nat → Int32} {tk tu se : Int32} {u : UL} {s : UA} (h : Sim W (P + 1) N M z lm k13 k14 k15 wt loc at' ho fi we by' ra ti tk tu se u s) : at' (32 + P) < N ∧ u.1.2.1 (at' (32 + P)) = we (at' (32 + P)) ∧ s (3 + P) = nI (at' (32 + P)) ∧ s (48 + 4 * at' (32 + P) + 1) = we (at' (32 + P)) := by
  obtain ⟨⟨o1, o2, o3, o4, o5, o6, B, D, o9, o10, o11, o12, o13, o14, o15, o16, o17⟩, ⟨cwt, cwe, cby, csl, coc, cho, rf, rr, rt, rfl, r1, r2, r3, r4⟩, x0, x1, x2, x6, x7, x8, x9, x10, x13, x14, x15, xA, xE, xP, xC, xH, xR⟩ := h
  have h1 := B (32 + P) (by omega)
  have h2 := o9 P (by omega)
  have h3 : at' (32 + P) < N := by omega
  refine ⟨h3, (r1 _ h3).2.1, ?_, (xC _ h3).2.1⟩
  rw [xP P (by omega), eC_n (by omega)]
theorem mount_step {B : Nat} {u : UL} {s : UA} (h : Rl B u s) (p : Int32) : StepO (f_X6_isIn p 0 1 = some 1) (B + 1) u s (f_X2_mountIn u p) (fun w => f_X7_mounts w p) := by
  obtain ⟨W, P, N, M, z, lm, k13, k14, k15, wt, loc, at', ho, fi, we, by', ra, ti, tk, tu, se, h, hb, hh⟩ := h
  obtain ⟨a30, rc, ra', re, rp, rp2⟩ := sim_at30 h
  obtain ⟨hW, eu, es⟩ := sim_W h
  have hP := h.1.2.1
  have hN := h.1.2.2.1
  have hM := h.1.2.2.2.1
  rcases fin1' p 1 (by omega) with ⟨e, he, rfl⟩ | ⟨q1, q2⟩
  · have hwm : f_X7_wallOf (nI e) = some (nI (2 + 4 * e)) := by
      unfold f_X7_wallOf
      rw [ml, la]
    have hin : f_X7_in (nI e) 0 1 = some 1 := in_k (by omega) he (by omega)
    have hic : f_X6_isIn (nI e) 0 1 = some 1 := isIn_k (by omega) he (by omega)
    have htop : ∃ r13, f_X2_topOfPile u = some r13 ∧ (P = 0 → r13 = -1) ∧ (∀ Q, P = Q + 1 → r13 = nI (at' (32 + Q))) := by
      rcases (show P = 0 ∨ ∃ Q, P = Q + 1 by cases P with | zero => exact Or.inl rfl | succ n => exact Or.inr ⟨n, rfl⟩) with rfl | ⟨Q, rfl⟩
      · exact ⟨-1, topOfPile_0 u rp, fun _ => rfl, fun Q q => absurd q (by omega)⟩
      · have ht := sim_top h
        refine ⟨_, topOfPile_eq u (P := Q) (by omega) rp, fun q => absurd q (by omega), fun Q' q => ?_⟩
        have : Q' = Q := by omega
        subst this
        rw [rc _ (by omega), eC_n (by omega)]
    obtain ⟨r13, ht, ht0, ht1⟩ := htop
    by_cases hWe : W = 2 + 4 * e
    · rcases (show P = 0 ∨ ∃ Q, P = Q + 1 by cases P with | zero => exact Or.inl rfl | succ n => exact Or.inr ⟨n, rfl⟩) with hP0 | ⟨Q, rfl⟩
      · refine step_bad (bad2 hic) ?_ (fun w hw => ?_)
        · unfold f_X2_mountIn
          exact bnd hic (ino (by decide) (bnd ht (bnd (wallOfDrive_eq he) (iy (by rw [eu, hWe]) (iy (ht0 hP0) rfl)))))
        · show f_X7_mounts w (nI e) = _
          unfold f_X7_mounts
          exact bnd hin (ino (by decide) (bnd hwm (iy (by rw [hw, es, hWe]) (iy (by rw [hw, rp2, hP0]; rfl) rfl))))
      · obtain ⟨t1, t2, t3, t4⟩ := sim_top h
        have htQ := ht1 Q rfl
        have hn13 : ¬ r13 = -1 := by rw [htQ, nI_m1 (by omega)]; exact id
        by_cases hfree : at' (35 + e) = 30
        · by_cases hw6 : we (at' (32 + Q)) < 6
          · obtain ⟨M', lm', k13', k14', fi', we'', by'', ra'', ti', se', u', s', i1, i2, c1, m1, S⟩ := mount_ok h he hWe rfl hfree hw6
            exact step_good hic (by omega) c1 m1 ⟨_, _, _, _, _, _, _, _, _, _, _, _, _, _, _, _, _, _, _, _, _, S, by omega, hh⟩
          · refine step_bad (bad2 hic) ?_ (fun w hw => ?_)
            · unfold f_X2_mountIn
              refine bnd hic (ino (by decide) (bnd ht (bnd (wallOfDrive_eq he) (iy (by rw [eu, hWe]) (ino hn13 (bnd (inDrive_eq u he) (iy ?_ (bnd (a := 1) ?_ (ino (by decide) rfl)))))))))
              · rw [rc _ (by omega), eC_m1 (a30 _ (by omega))]; exact hfree
              · rw [htQ, isWorn_eq _ (by omega)]
                exact congrArg some (if_neg (by rw [t2]; exact hw6))
            · show f_X7_mounts w (nI e) = _
              unfold f_X7_mounts
              refine bnd hin (ino (by decide) (bnd hwm (iy (by rw [hw, es, hWe]) (ino ?_ (iy ?_ (ino ?_ (iy ?_ (bnd (a := we (at' (32 + Q))) ?_ (ino hw6 rfl)))))))))
              · rw [hw, rp2]; exact nI_ne0 (by omega) (by omega)
              · rw [la]; exact inbT (by omega) (by omega)
              · rw [la, clp (by omega), hw, re e (by omega), eC_ge (a30 _ (by omega))]; exact fun x => x hfree
              · rw [hw, rp2, la, sbl (by omega)]; exact inbT (by omega) (by omega)
              · rw [hw, rp2, la, sbl (by omega), clp (by omega), show 3 + (Q + 1) - 1 = 3 + Q by omega, t3, show (1 : Int32) = nI 1 from rfl, ca_w (by omega) (by omega), hw, t4]
        · refine step_bad (bad2 hic) ?_ (fun w hw => ?_)
          · unfold f_X2_mountIn
            refine bnd hic (ino (by decide) (bnd ht (bnd (wallOfDrive_eq he) (iy (by rw [eu, hWe]) (ino hn13 (bnd (inDrive_eq u he) (ino ?_ rfl)))))))
            rw [rc _ (by omega), eC_m1 (a30 _ (by omega))]; exact hfree
          · show f_X7_mounts w (nI e) = _
            unfold f_X7_mounts
            refine bnd hin (ino (by decide) (bnd hwm (iy (by rw [hw, es, hWe]) (ino ?_ (iy ?_ (iy ?_ rfl))))))
            · rw [hw, rp2]; exact nI_ne0 (by omega) (by omega)
            · rw [la]; exact inbT (by omega) (by omega)
            · rw [la, clp (by omega), hw, re e (by omega), eC_ge (a30 _ (by omega))]; exact hfree
    · refine step_bad (bad2 hic) ?_ (fun w hw => ?_)
      · unfold f_X2_mountIn
        exact bnd hic (ino (by decide) (bnd ht (bnd (wallOfDrive_eq he) (ino (by rw [eu, eqn (by omega) (by omega)]; exact hWe) rfl))))
      · show f_X7_mounts w (nI e) = _
        unfold f_X7_mounts
        exact bnd hin (ino (by decide) (bnd hwm (ino (by rw [hw, es, eqn (by omega) (by omega)]; exact hWe) rfl)))
  · refine step_bad (bad1 (isIn_no q1)) ?_ (fun w hw => ?_)
    · unfold f_X2_mountIn
      exact bnd q1 (iy rfl rfl)
    · show f_X7_mounts w p = _
      unfold f_X7_mounts
      exact bnd q2 (iy rfl rfl)
theorem take_step {B : Nat} {u : UL} {s : UA} (h : Rl B u s) (p : Int32) : StepO (f_X6_isIn p 0 1 = some 1) B u s (f_X2_takeFrom u p) (fun w => f_X7_takes w p) := by
  obtain ⟨W, P, N, M, z, lm, k13, k14, k15, wt, loc, at', ho, fi, we, by', ra, ti, tk, tu, se, h, hb, hh⟩ := h
  obtain ⟨a30, rc, ra', re, rp, rp2⟩ := sim_at30 h
  obtain ⟨hW, eu, es⟩ := sim_W h
  have hP := h.1.2.1
  rcases fin1' p 1 (by omega) with ⟨e, he, rfl⟩ | ⟨q1, q2⟩
  · have hwm : f_X7_wallOf (nI e) = some (nI (2 + 4 * e)) := by
      unfold f_X7_wallOf
      rw [ml, la]
    have hin : f_X7_in (nI e) 0 1 = some 1 := in_k (by omega) he (by omega)
    have hic : f_X6_isIn (nI e) 0 1 = some 1 := isIn_k (by omega) he (by omega)
    have hib : inb (11 + nI e) 264 = true := by rw [la]; exact inbT (by omega) (by omega)
    have hse : ∀ w : UX, w.1 = s → w.1 (11 + nI e).toNatClampNeg = eC (at' (35 + e)) := fun w hw => by rw [la, clp (by omega), hw, re e (by omega)]
    by_cases hWe : W = 2 + 4 * e
    · have cA : f_X2_takeFrom u (nI e) = f_X2_ontoPile u (eC (at' (35 + e))) 2 := by
        unfold f_X2_takeFrom
        refine bnd hic (ino (by decide) (bnd (wallOfDrive_eq he) (iy (by rw [eu, hWe]) (bnd ((inDrive_eq u he).trans (congrArg some (rc _ (by omega)))) ?_))))
        cases f_X2_ontoPile u (eC (at' (35 + e))) 2 <;> rfl
      by_cases h30 : at' (35 + e) = 30
      · refine step_bad (bad2 hic) ?_ (fun w hw => ?_)
        · rw [cA, h30]
          rfl
        · show f_X7_takes w (nI e) = _
          unfold f_X7_takes
          exact bnd hin (ino (by decide) (iy hib (bnd hwm (iy (by rw [hw, es, hWe]) (ino (by rw [hse w hw, h30]; decide) rfl)))))
      · by_cases hP3 : P < 3
        · obtain ⟨u', s', c1, m1, S⟩ := take_ok h he hWe rfl h30 hP3
          have hcN : at' (35 + e) < 2147483648 := by have := a30 (35 + e) (by omega); omega
          exact step_good hic hcN c1 m1 ⟨_, _, _, _, _, _, _, _, _, _, _, _, _, _, _, _, _, _, _, _, _, S, hb, hh⟩
        · refine step_bad (bad3 hic) ?_ (fun w hw => ?_)
          · rw [cA]
            unfold f_X2_ontoPile
            exact ino (by rw [eC_m1 (a30 _ (by omega))]; exact h30) (ino (by rw [rp, ltl (by omega) (by omega)]; exact hP3) rfl)
          · show f_X7_takes w (nI e) = _
            unfold f_X7_takes
            exact bnd hin (ino (by decide) (iy hib (bnd hwm (iy (by rw [hw, es, hWe]) (iy (by rw [hse w hw, eC_ge (a30 _ (by omega))]; exact h30) (iy (by rw [hw, rp2, show P = 3 by omega]; rfl) rfl))))))
    · refine step_bad (bad2 hic) ?_ (fun w hw => ?_)
      · unfold f_X2_takeFrom
        exact bnd hic (ino (by decide) (bnd (wallOfDrive_eq he) (ino (by rw [eu, eqn (by omega) (by omega)]; exact hWe) rfl)))
      · show f_X7_takes w (nI e) = _
        unfold f_X7_takes
        exact bnd hin (ino (by decide) (iy hib (bnd hwm (ino (by rw [hw, es, eqn (by omega) (by omega)]; exact hWe) rfl))))
  · refine step_bad (bad1 (isIn_no q1)) ?_ (fun w hw => ?_)
    · unfold f_X2_takeFrom
      exact bnd q1 (iy rfl rfl)
    · show f_X7_takes w p = _
      unfold f_X7_takes
      exact bnd q2 (iy rfl rfl)
theorem simE_rl {N M B k15 : Nat} {wt ho : Nat → Nat} {u : UL} {s : UA} (h : SimE N M k15 wt ho u s) (hb : k15 ≤ B) (hh : ∀ c, c < 30 → hc ho c ≤ 4) : Rl B u s := by
  obtain ⟨W, P, z, lm, k13, k14, loc, at', fi, we, by', ra, ti, tk, tu, se, h⟩ := h
  exact ⟨_, _, _, _, _, _, _, _, _, _, _, _, _, _, _, _, _, _, _, _, _, h, hb, hh⟩
theorem serve_step {B : Nat} (hB : B < 2147483648) {u : UL} {s : UA} (h : Rl B u s) (p : Int32) : StepO (f_X6_isIn p 0 3 = some 1) (B + 1) u s (f_X2_serveBy u p) (fun w => f_X7_servesBy w p) := by
  obtain ⟨W, P, N, M, z, lm, k13, k14, k15, wt, loc, at', ho, fi, we, by', ra, ti, tk, tu, se, h, hb, hh⟩ := h
  have hM := h.1.2.2.2.1
  rcases fin1' p 3 (by omega) with ⟨j, hj, rfl⟩ | ⟨q1, q2⟩
  · have hI : f_X6_isIn (nI j) 0 3 = some 1 := isIn_k (by omega) hj (by omega)
    rcases serve_ok h hj (by omega) with ⟨c1, m1⟩ | ⟨M', e, c, q, u', s', i1, i2, c1, m1, S, _⟩
    · exact step_bad (bad2 hI) c1 m1
    · exact ⟨_, u', s', c1, fun w hw => ⟨_, _, m1 w hw⟩, Or.inr ⟨hI, ⟨M - M', by omega, rfl⟩, simE_rl S (by omega) hh⟩⟩
  · refine step_bad (bad1 (isIn_no q1)) ?_ (fun w hw => ?_)
    · unfold f_X2_serveBy f_X6_isRule
      rw [show f_X6_isIn p 0 3 = some 0 from q1]
      exact bnd (a := 0) rfl (iy rfl rfl)
    · show f_X7_servesBy w p = _
      unfold f_X7_servesBy
      exact bnd q2 (iy rfl rfl)
