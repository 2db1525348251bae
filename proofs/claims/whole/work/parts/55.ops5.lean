/-! ===== calls whose checks come first: bring, send, hold, request ===== -/
def StepK (B : Nat) (u : UL) (s : UA) (c : Option (Int32 × UL)) (m : UX → Option (Int32 × UX)) : Prop :=
  (∃ r : Int32, BadR r ∧ c = some (r, u) ∧ ∀ w : UX, w.1 = s → m w = some (r, w)) ∨ (∃ (r : Int32) (u' : UL) (s' : UA), GoodR r ∧ c = some (r, u') ∧ Rl B u' s' ∧ ∀ w : UX, w.1 = s → m w = ((f_X7_acted (s', w.2.1, cpy w.1 w.2.2.1 264, w.2.2.2) r).bind fun r10 => some (r10.1, r10.2)))
theorem kbad {B : Nat} {u : UL} {s : UA} {c : Option (Int32 × UL)} {m : UX → Option (Int32 × UX)} {r : Int32} (hr : BadR r) (h1 : c = some (r, u)) (h2 : ∀ w : UX, w.1 = s → m w = some (r, w)) : StepK B u s c m := Or.inl ⟨r, hr, h1, h2⟩
theorem br1 : BadR (-1000001) := Or.inl rfl
theorem br2 : BadR (-1000002) := Or.inr (Or.inl rfl)
theorem br3 : BadR (-1000003) := Or.inr (Or.inr rfl)
theorem actK {B : Nat} {um : UM} {ux : UX} {C : UL → Option (Int32 × UL)} {M : UX → Option (Int32 × UX)} (hJ : Jn B um ux) (hS : StepK B um.1 ux.1 (C um.1) M) :
    Call2 B ((f_X6_freshTrial um).bind fun r2 => (C r2.2.1).bind fun r6 => (f_X6_keep (r2.1, r6.2, r2.2.2.1, r2.2.2.2) r6.1).bind fun r9 => some (r9.1, r9.2)) (M ux) := by
  obtain ⟨now, trial, h, o⟩ := um
  obtain ⟨s, was, bg, a, st, rest⟩ := ux
  obtain ⟨hR, hH, hT⟩ := hJ
  rcases hS with ⟨r, hb, c1, m1⟩ | ⟨r, u', s', hg, c1, hR', m1⟩
  · exact ⟨r, _, _, bnd (fresh_ok hR) (bnd c1 (bnd (keep_bad hb) rfl)), m1 _ rfl, hR, hH, hT⟩
  · obtain ⟨h', k1, k2⟩ := keep_good hR hR' (Nat.le_refl _) hH hg o
    obtain ⟨was', st', k3, k4⟩ := k2 (s', was, cpy s bg 264, a, st, rest) rfl (fun k hk => cpy_in hk) rfl
    exact ⟨r, _, _, bnd (fresh_ok hR) (bnd c1 (bnd k1 rfl)), (m1 _ rfl).trans (bnd k3 rfl), hR', k4, hT⟩
theorem pw_congr {P : Nat} {wt wt2 a1 a2 : Nat → Nat} (hP : P ≤ 3) (h : ∀ i, i < P → wt2 (a2 (32 + i)) = wt (a1 (32 + i))) : pw P wt2 a2 = pw P wt a1 := by
  have e0 : (if 0 < P then wt2 (a2 32) else 0) = (if 0 < P then wt (a1 32) else 0) := by
    by_cases q : 0 < P
    · rw [if_pos q, if_pos q]; exact h 0 q
    · rw [if_neg q, if_neg q]
  have e1 : (if 1 < P then wt2 (a2 33) else 0) = (if 1 < P then wt (a1 33) else 0) := by
    by_cases q : 1 < P
    · rw [if_pos q, if_pos q]; exact h 1 q
    · rw [if_neg q, if_neg q]
  have e2 : (if 2 < P then wt2 (a2 34) else 0) = (if 2 < P then wt (a1 34) else 0) := by
    by_cases q : 2 < P
    · rw [if_pos q, if_pos q]; exact h 2 q
    · rw [if_neg q, if_neg q]
  unfold pw
  rw [e0, e1, e2]
/-! request -/
theorem request_st {B : Nat} {u : UL} {s : UA} (h : Rl B u s) (p1 p2 : Int32) : StepK B u s (f_X2_addRequest u p1 p2) (fun w => f_X7_request w p1 p2) := by
  obtain ⟨W, P, N, M, z, lm, k13, k14, k15, wt, loc, at', ho, fi, we, by', ra, ti, tk, tu, se, ⟨o, ⟨cwt, cwe, cby, csl, coc, cho, rf, rr, rt, rfl, r1, r2, r3, r4⟩, x⟩, hb, hh⟩ := h
  rcases fin1' p1 59 (by omega) with ⟨f, hf, rfl⟩ | ⟨q1, q2⟩
  · rcases fin1' p2 9 (by omega) with ⟨g, hg, rfl⟩ | ⟨q1, q2⟩
    · have hM := o.2.2.2.1
      have x0 := x.1
      have x8 := x.2.2.2.2.2.1
      by_cases h12 : M = 12
      · subst h12
        refine kbad br3 ?_ (fun w hw => ?_)
        · unfold f_X2_addRequest
          exact bnd (isIn_k (by omega) hf (by omega)) (ino (by decide) (bnd (isIn_k (by omega) hg (by omega)) (ino (by decide) (bnd (a := (-1000003, (rf, rr, rt, nI 12))) (ino (show ¬ nI 12 < 0 by decide) (ino (show ¬ nI 12 < 12 by decide) rfl)) rfl))))
        · show f_X7_request w (nI f) (nI g) = _
          unfold f_X7_request
          exact bnd (in_k (by omega) hf (by omega)) (ino (by decide) (bnd (in_k (by omega) hg (by omega)) (ino (by decide) (iy (by rw [hw, x8]; rfl) rfl))))
      · refine Or.inr ⟨nI (M + 1), _, upd (upd (upd (upd s (228 + 3 * M) (nI f)) (228 + 3 * M + 1) (nI g)) (228 + 3 * M + 2) tk) 8 (nI (M + 1)), Or.inr ⟨M + 1, by omega, rfl⟩, ?_, ⟨W, P, N, M + 1, z, lm, k13, k14, k15, wt, loc, at', ho, uN fi M f, we, by', upd ra M (nI g), upd ti M tk, tk, tu, se, ⟨?_, ⟨cwt, cwe, cby, csl, coc, cho, upd rf M (nI f), upd rr M (nI g), upd rt M tk, rfl, r1, r2, r3, ?_⟩, ?_⟩, hb, hh⟩, fun w hw => ?_⟩
        · unfold f_X2_addRequest
          exact bnd (isIn_k (by omega) hf (by omega)) (ino (by decide) (bnd (isIn_k (by omega) hg (by omega)) (ino (by decide) (bnd (addR_eq _ _ _ (by omega) _ _ _) rfl))))
        · obtain ⟨o1, o2, o3, o4, o5, o6, oB, oD, o9, o10, o11, o12, o13⟩ := o
          refine ⟨o1, o2, o3, by omega, o5, o6, oB, oD, o9, o10, o11, fun k hk => ?_, o13⟩
          by_cases e : k = M
          · rw [uN_s e]; omega
          · rw [uN_n e]; exact o12 k (by omega)
        · intro k hk
          by_cases e : k = M
          · rw [upd_s e, upd_s e, upd_s e, uN_s e, upd_s e, upd_s e]
            exact ⟨rfl, rfl, rfl⟩
          · rw [upd_n e, upd_n e, upd_n e, uN_n e, upd_n e, upd_n e]
            exact r4 k (by omega)
        · obtain ⟨x0, x1, x2, x6, x7, x8, x9, x10, x13, x14, x15, xA, xE, xP, xC, xH, xR⟩ := x
          have hP := o.2.1
          have hN := o.2.2.1
          have old : ∀ k, k ≠ 8 → k < 228 + 3 * M → upd (upd (upd (upd s (228 + 3 * M) (nI f)) (228 + 3 * M + 1) (nI g)) (228 + 3 * M + 2) tk) 8 (nI (M + 1)) k = s k := fun k h1 h2 => by
            rw [upd_n (by omega), upd_n (by omega), upd_n (by omega), upd_n (by omega)]
          refine ⟨(old _ (by omega) (by omega)).trans x0, (old _ (by omega) (by omega)).trans x1, (old _ (by omega) (by omega)).trans x2, (old _ (by omega) (by omega)).trans x6, (old _ (by omega) (by omega)).trans x7, upd_s rfl, (old _ (by omega) (by omega)).trans x9, (old _ (by omega) (by omega)).trans x10, (old _ (by omega) (by omega)).trans x13, (old _ (by omega) (by omega)).trans x14, (old _ (by omega) (by omega)).trans x15, fun k hk => (old _ (by omega) (by omega)).trans (xA k hk), fun k hk => (old _ (by omega) (by omega)).trans (xE k hk), fun k hk => (old _ (by omega) (by omega)).trans (xP k hk), fun k hk => ?_, fun k hk => (old _ (by omega) (by omega)).trans (xH k hk), fun k hk => ?_⟩
          · rw [old _ (by omega) (by omega), old _ (by omega) (by omega), old _ (by omega) (by omega), old _ (by omega) (by omega)]
            exact xC k hk
          · by_cases e : k = M
            · subst e
              rw [uN_s rfl, upd_s rfl, upd_s rfl]
              refine ⟨?_, ?_, ?_⟩
              · rw [upd_n (by omega), upd_n (by omega), upd_n (by omega), upd_s rfl]
              · rw [upd_n (by omega), upd_n (by omega), upd_s rfl]
              · rw [upd_n (by omega), upd_s rfl]
            · rw [uN_n e, upd_n e, upd_n e, old _ (by omega) (by omega), old _ (by omega) (by omega), old _ (by omega) (by omega)]
              exact xR k (by omega)
        · obtain ⟨s0, was, bg, w2⟩ := w
          dsimp only at hw
          subst hw
          show f_X7_request (s0, was, bg, w2) (nI f) (nI g) = _
          unfold f_X7_request
          refine bnd (in_k (by omega) hf (by omega)) (ino (by decide) (bnd (in_k (by omega) hg (by omega)) (ino (by decide) (ino (by dsimp only; rw [x8, eql (by omega) (by omega)]; exact h12) (bnd (keeps_eq _) ?_)))))
          dsimp only
          simp (disch := omega) only [x8, ml, la, al, clp, inbT, if_true]
          have e0 : upd (upd s0 (228 + 3 * M) (nI f)) (228 + 3 * M + 1) (nI g) 0 = tk := by rw [upd_n (by omega), upd_n (by omega)]; exact x0
          have e8 : upd (upd (upd s0 (228 + 3 * M) (nI f)) (228 + 3 * M + 1) (nI g)) (228 + 3 * M + 2) tk 8 = nI M := by rw [upd_n (by omega), upd_n (by omega), upd_n (by omega)]; exact x8
          rw [e0, e8, al, upd_s rfl]
    · refine kbad br1 ?_ (fun w hw => ?_)
      · unfold f_X2_addRequest
        exact bnd (isIn_k (by omega) hf (by omega)) (ino (by decide) (bnd q1 (iy rfl rfl)))
      · show f_X7_request w (nI f) p2 = _
        unfold f_X7_request
        exact bnd (in_k (by omega) hf (by omega)) (ino (by decide) (bnd q2 (iy rfl rfl)))
  · refine kbad br1 ?_ (fun w hw => ?_)
    · unfold f_X2_addRequest
      exact bnd q1 (iy rfl rfl)
    · show f_X7_request w p1 p2 = _
      unfold f_X7_request
      exact bnd q2 (iy rfl rfl)
/-! a cartridge's number -/
theorem cart_in (p : Int32) {N : Nat} (hN : N ≤ 30) : (∃ c, c < N ∧ p = nI c ∧ f_X6_isIn p 0 (nI N - 1) = some 1 ∧ f_X7_in p 0 (nI N - 1) = some 1) ∨ (f_X6_isIn p 0 (nI N - 1) = some 0 ∧ f_X7_in p 0 (nI N - 1) = some 0) := by
  cases N with
  | zero =>
    have e : nI 0 - 1 = -1 := by decide
    rw [e]
    have q : p < 0 ∨ -1 < p := by
      by_cases h : p < 0
      · exact Or.inl h
      · have h2 := Int32.not_lt.mp h
        rw [Int32.le_iff_toInt_le] at h2
        refine Or.inr ?_
        rw [Int32.lt_iff_toInt_lt]
        have e0 : ((0 : Int32)).toInt = 0 := by decide
        have e1 : ((-1 : Int32)).toInt = -1 := by decide
        omega
    exact Or.inr ⟨isIn_n q, in_n q⟩
  | succ n =>
    rw [nI_pred]
    rcases fin1 p n (by omega) with ⟨j, hj, rfl⟩ | q
    · have a1 : ¬ nI j < 0 := nI_pos (by omega)
      have a2 : ¬ nI n < nI j := by rw [ltn (by omega) (by omega)]; omega
      exact Or.inl ⟨j, by omega, rfl, isIn_y a1 a2, in_y a1 a2⟩
    · exact Or.inr ⟨isIn_n q, in_n q⟩
theorem has_v {W P N M z lm k13 k14 k15 : Nat} {wt loc at' ho fi : Nat → Nat} {we by' ra ti : Nat → Int32} {tk tu se : Int32} {u : UL} {s : UA} (h : Sim W P N M z lm k13 k14 k15 wt loc at' ho fi we by' ra ti tk tu se u s) (p : Int32) : (∃ c, c < N ∧ p = nI c ∧ f_X0_has u.1 p = some 1 ∧ ∀ w : UX, w.1 = s → f_X7_isCartridge w p = some 1) ∨ (f_X0_has u.1 p = some 0 ∧ ∀ w : UX, w.1 = s → f_X7_isCartridge w p = some 0) := by
  obtain ⟨o, ⟨cwt, cwe, cby, csl, coc, cho, rf, rr, rt, rfl, r1, r2, r3, r4⟩, x⟩ := h
  have x7 := x.2.2.2.2.1
  rcases cart_in p o.2.2.1 with ⟨c, hc, e, a1, a2⟩ | ⟨a1, a2⟩
  · refine Or.inl ⟨c, hc, e, ?_, fun w hw => ?_⟩
    · unfold f_X0_has
      exact bnd a1 (iy rfl rfl)
    · unfold f_X7_isCartridge
      rw [hw, x7]
      exact bnd a2 (iy rfl rfl)
  · refine Or.inr ⟨?_, fun w hw => ?_⟩
    · unfold f_X0_has
      exact bnd a1 (iy rfl rfl)
    · unfold f_X7_isCartridge
      rw [hw, x7]
      exact bnd a2 (iy rfl rfl)
theorem eL_m1 {k : Nat} (h : k ≤ 37) : (eL k = -1) = (k = 37) := by
  by_cases e : k = 37
  · subst e
    exact propext ⟨fun _ => rfl, fun _ => rfl⟩
  · rw [eL_n e, nI_m1 (by omega)]
    exact propext ⟨fun q => q.elim, fun q => (e q).elim⟩
theorem eC_good {a : Nat} (h : a ≤ 30) : GoodR (eC a) := by
  by_cases e : a = 30
  · subst e
    exact Or.inl rfl
  · exact Or.inr ⟨a, by omega, eC_n e⟩
theorem hc_le {f g : Nat → Bool} : ∀ d i, (∀ x, i ≤ x → x < i + d → f x = true → g x = true) → cntF f d i ≤ cntF g d i := by
  intro d
  induction d with
  | zero => intro i _; exact Nat.le_refl _
  | succ d ih =>
    intro i h
    have h1 := ih (i + 1) (fun x a b => h x (by omega) (by omega))
    have h2 := h i (by omega) (by omega)
    unfold cntF
    cases hf : f i with
    | false =>
      cases hg : g i <;> simp <;> omega
    | true =>
      rw [h2 hf]
      simp
      omega
theorem hc_one {f g : Nat → Bool} {y : Nat} : ∀ d i, (∀ x, i ≤ x → x < i + d → x ≠ y → f x = g x) → cntF f d i ≤ cntF g d i + 1 := by
  intro d
  induction d with
  | zero => intro i _; exact Nat.zero_le _
  | succ d ih =>
    intro i h
    by_cases e : i = y
    · have h1 : cntF f d (i + 1) = cntF g d (i + 1) := cntF_congr d (i + 1) (fun x a b => h x (by omega) (by omega) (by omega))
      unfold cntF
      rw [h1]
      cases f i <;> cases g i <;> simp <;> omega
    · have h1 := ih (i + 1) (fun x a b => h x (by omega) (by omega))
      have h2 := h i (by omega) (by omega) e
      unfold cntF
      rw [h2]
      cases g i <;> simp <;> omega
/-! hold -/
theorem files_v {B : Nat} {W P N M z lm k13 k14 k15 : Nat} {wt loc at' ho fi : Nat → Nat} {we by' ra ti : Nat → Int32} {tk tu se : Int32} {u : UL} {s : UA} (h : Sim W P N M z lm k13 k14 k15 wt loc at' ho fi we by' ra ti tk tu se u s) {c : Nat} (hc30 : c < 30) : f_X0_filesHeldBy u.1 (nI c) = some (nI (hc ho c)) ∧ ∀ w : UX, w.1 = s → f_X7_files w (nI c) = some (nI (hc ho c)) := by
  obtain ⟨o, ⟨cwt, cwe, cby, csl, coc, cho, rf, rr, rt, rfl, r1, r2, r3, r4⟩, x⟩ := h
  have h30 : ∀ y, y < 60 → ho y ≤ 30 := fun y hy => by
    have := o.2.2.2.2.2.2.2.2.2.2.1 y hy
    have := o.2.2.1
    omega
  have xH := x.2.2.2.2.2.2.2.2.2.2.2.2.2.2.2.1
  refine ⟨?_, fun w hw => ?_⟩
  · unfold f_X0_filesHeldBy
    refine bnd (howOften_eq _ _) ?_
    refine congrArg (fun k => some (nI k)) ?_
    exact cntF_congr 60 0 (fun y _ hy => decide_eq_decide.mpr (by show cho y = nI c ↔ ho y = c; rw [r3 y (by omega), eC_inj (h30 y (by omega)) hc30]))
  · refine (files_eq _ _).trans ?_
    refine congrArg (fun k => some (nI k)) ?_
    exact cntF_congr 60 0 (fun y _ hy => decide_eq_decide.mpr (by rw [hw, xH y (by omega), eC_inj (h30 y (by omega)) hc30]))
theorem hold_st {B : Nat} {u : UL} {s : UA} (h : Rl B u s) (p1 p2 : Int32) : StepK B u s (f_X2_holdFile u p1 p2) (fun w => f_X7_hold w p1 p2) := by
  obtain ⟨W, P, N, M, z, lm, k13, k14, k15, wt, loc, at', ho, fi, we, by', ra, ti, tk, tu, se, h, hb, hh⟩ := h
  have hs := h
  rcases has_v h p1 with ⟨c, hcN, rfl, c1, m1⟩ | ⟨c1, m1⟩
  · rcases fin1' p2 59 (by omega) with ⟨f, hf, rfl⟩ | ⟨q1, q2⟩
    · have fv := files_v (B := B) h (c := c) (by have := h.1.2.2.1; omega)
      obtain ⟨o, ⟨cwt, cwe, cby, csl, coc, cho, rf, rr, rt, rfl, r1, r2, r3, r4⟩, x⟩ := h
      have hN := o.2.2.1
      have hM := o.2.2.2.1
      have hl37 : loc c ≤ 37 := by have := o.2.2.2.2.2.2.2.1 c hcN; omega
      have h30 : ho f ≤ 30 := by have := o.2.2.2.2.2.2.2.2.2.2.1 f (by omega); omega
      have xH := x.2.2.2.2.2.2.2.2.2.2.2.2.2.2.2.1
      have hsl : f_X0_slotOf (cwt, cwe, cby, csl, coc, cho, nI N) (nI c) = some (eL (loc c)) := (slotOf_eq _ (by omega)).trans (congrArg some (r1 c hcN).2.2.2)
      have hho : f_X0_holderOf (cwt, cwe, cby, csl, coc, cho, nI N) (nI f) = some (eC (ho f)) := (holderOf_eq _ (by omega)).trans (congrArg some (r3 f (by omega)))
      have hca : ∀ w : UX, w.1 = s → f_X7_ca w (nI c) 2 = some (nI (kd (loc c))) := fun w hw => by
        rw [show (2 : Int32) = nI 2 from rfl, ca_w (by omega) (by omega), hw, ((x.2.2.2.2.2.2.2.2.2.2.2.2.2.2.1) c hcN).2.2.1]
      have hib : inb (168 + nI f) 264 = true := by rw [la]; exact inbT (by omega) (by omega)
      have hwf : ∀ w : UX, w.1 = s → w.1 (168 + nI f).toNatClampNeg = eC (ho f) := fun w hw => by rw [la, clp (by omega), hw, xH f (by omega)]
      have chead : ∀ (r : Option (Int32 × UL)), (if eL (loc c) = (-1) then some ((-1000002), ((cwt, cwe, cby, csl, coc, cho, nI N), (rf, rr, rt, nI M), nI W, nI z, nI P, nI (pw P wt at'), nI lm, tk, tu, se)) else (if eC (ho f) = nI c then f_X2_holdFile_b68 ((cwt, cwe, cby, csl, coc, cho, nI N), (rf, rr, rt, nI M), nI W, nI z, nI P, nI (pw P wt at'), nI lm, tk, tu, se) (nI c) (nI f) (eC (ho f)) else (if nI (hc ho c) < 4 then f_X2_holdFile_b68 ((cwt, cwe, cby, csl, coc, cho, nI N), (rf, rr, rt, nI M), nI W, nI z, nI P, nI (pw P wt at'), nI lm, tk, tu, se) (nI c) (nI f) (eC (ho f)) else some ((-1000003), ((cwt, cwe, cby, csl, coc, cho, nI N), (rf, rr, rt, nI M), nI W, nI z, nI P, nI (pw P wt at'), nI lm, tk, tu, se))))) = r → f_X2_holdFile ((cwt, cwe, cby, csl, coc, cho, nI N), (rf, rr, rt, nI M), nI W, nI z, nI P, nI (pw P wt at'), nI lm, tk, tu, se) (nI c) (nI f) = r := by
        intro r hr
        unfold f_X2_holdFile
        refine bnd c1 (ino (by decide) (bnd (isIn_k (by omega) hf (by omega)) (ino (by decide) (bnd hsl ?_))))
        by_cases e1 : eL (loc c) = -1
        · rw [if_pos e1] at hr ⊢
          exact hr
        · rw [if_neg e1] at hr ⊢
          refine bnd hho ?_
          by_cases e2 : eC (ho f) = nI c
          · rw [if_pos e2] at hr ⊢
            exact hr
          · rw [if_neg e2] at hr ⊢
            exact bnd fv.1 hr
      have mhead : ∀ (w : UX) (r : Option (Int32 × UX)), w.1 = s → (if nI (kd (loc c)) = 3 then some ((-1000002), w) else (if eC (ho f) = nI c then f_X7_hold_b62 w (nI c) (nI f) (eC (ho f)) else (if nI (hc ho c) = 4 then some ((-1000003), w) else f_X7_hold_b62 w (nI c) (nI f) (eC (ho f))))) = r → f_X7_hold w (nI c) (nI f) = r := by
        intro w r hw hr
        unfold f_X7_hold
        refine bnd (m1 w hw) (ino (by decide) (bnd (in_k (by omega) hf (by omega)) (ino (by decide) (bnd (hca w hw) ?_))))
        by_cases e1 : nI (kd (loc c)) = 3
        · rw [if_pos e1] at hr ⊢
          exact hr
        · rw [if_neg e1] at hr ⊢
          refine iy hib ?_
          rw [hwf w hw]
          by_cases e2 : eC (ho f) = nI c
          · rw [if_pos e2] at hr ⊢
            exact hr
          · rw [if_neg e2] at hr ⊢
            exact bnd (fv.2 w hw) hr
      by_cases hl : loc c = 37
      · exact kbad br2 (chead _ (iy (by rw [eL_m1 hl37]; exact hl) rfl)) (fun w hw => mhead w _ hw (iy (by rw [kd_37 hl37]; exact hl) rfl))
      · have nl1 : ¬ eL (loc c) = -1 := by rw [eL_m1 hl37]; exact hl
        have nl2 : ¬ nI (kd (loc c)) = 3 := by rw [kd_37 hl37]; exact hl
        have hh4 := hh c (by omega)
        by_cases hfull : ho f ≠ c ∧ hc ho c = 4
        · have ne : ¬ eC (ho f) = nI c := by rw [eC_inj h30 (by omega)]; exact hfull.1
          exact kbad br3 (chead _ (ino nl1 (ino ne (ino (by rw [ltl (by omega) (by omega)]; omega) rfl)))) (fun w hw => mhead w _ hw (ino nl2 (ino ne (iy (by rw [eql (by omega) (by omega)]; exact hfull.2) rfl))))
        · have hput : f_X2_holdFile_b68 ((cwt, cwe, cby, csl, coc, cho, nI N), (rf, rr, rt, nI M), nI W, nI z, nI P, nI (pw P wt at'), nI lm, tk, tu, se) (nI c) (nI f) (eC (ho f)) = some (eC (ho f), ((cwt, cwe, cby, csl, coc, upd cho f (nI c), nI N), (rf, rr, rt, nI M), nI W, nI z, nI P, nI (pw P wt at'), nI lm, tk, tu, se)) := by
            unfold f_X2_holdFile_b68 f_X0_putFile
            refine bnd (a := (cwt, cwe, cby, csl, coc, upd cho f (nI c), nI N)) (ino (nI_pos (by omega)) (ino (by rw [lle (by omega) (by omega)]; omega) (iy (inbT (by omega) (by omega)) ?_))) rfl
            rw [clp (by omega)]
          refine Or.inr ⟨eC (ho f), _, upd s (168 + f) (nI c), eC_good h30, chead _ (ino nl1 ?_), ⟨W, P, N, M, z, lm, k13, k14, k15, wt, loc, at', uN ho f c, fi, we, by', ra, ti, tk, tu, se, ⟨?_, ⟨cwt, cwe, cby, csl, coc, upd cho f (nI c), rf, rr, rt, rfl, r1, r2, ?_, r4⟩, ?_⟩, hb, ?_⟩, fun w hw => mhead w _ hw (ino nl2 ?_)⟩
          · by_cases e : ho f = c
            · exact iy (by rw [eC_inj h30 (by omega)]; exact e) hput
            · exact ino (by rw [eC_inj h30 (by omega)]; exact e) (iy (by rw [ltl (by omega) (by omega)]; omega) hput)
          · obtain ⟨o1, o2, o3, o4, o5, o6, oB, oD, o9, o10, o11, o12⟩ := o
            refine ⟨o1, o2, o3, o4, o5, o6, oB, oD, o9, o10, fun y hy => ?_, o12⟩
            by_cases e : y = f
            · rw [uN_s e]; exact Or.inr hcN
            · rw [uN_n e]; exact o11 y hy
          · intro y hy
            by_cases e : y = f
            · rw [upd_s e, uN_s e, eC_n (by omega)]
            · rw [upd_n e, uN_n e]; exact r3 y hy
          · obtain ⟨x0, x1, x2, x6, x7, x8, x9, x10, x13, x14, x15, xA, xE, xP, xC, xH, xR⟩ := x
            have hP := o.2.1
            have old : ∀ k, k ≠ 168 + f → upd s (168 + f) (nI c) k = s k := fun k h1 => upd_n h1
            refine ⟨(old _ (by omega)).trans x0, (old _ (by omega)).trans x1, (old _ (by omega)).trans x2, (old _ (by omega)).trans x6, (old _ (by omega)).trans x7, (old _ (by omega)).trans x8, (old _ (by omega)).trans x9, (old _ (by omega)).trans x10, (old _ (by omega)).trans x13, (old _ (by omega)).trans x14, (old _ (by omega)).trans x15, fun k hk => (old _ (by omega)).trans (xA k hk), fun k hk => (old _ (by omega)).trans (xE k hk), fun k hk => (old _ (by omega)).trans (xP k hk), fun k hk => ?_, fun k hk => ?_, fun k hk => ?_⟩
            · rw [old _ (by omega), old _ (by omega), old _ (by omega), old _ (by omega)]
              exact xC k hk
            · by_cases e : k = f
              · rw [uN_s e, upd_s (by omega), eC_n (by omega)]
              · rw [uN_n e, upd_n (by omega)]; exact xH k hk
            · rw [old _ (by omega), old _ (by omega), old _ (by omega)]
              exact xR k hk
          · intro e he
            by_cases ec : e = c
            · by_cases ef : ho f = c
              · have : hc (uN ho f c) e = hc ho e := cntF_congr 60 0 (fun y _ hy => decide_eq_decide.mpr (by
                  by_cases q : y = f
                  · rw [uN_s q, q, ef]
                  · rw [uN_n q]))
                rw [this]
                exact hh e he
              · have : hc (uN ho f c) e ≤ hc ho e + 1 := hc_one (y := f) 60 0 (fun y _ hy q => by rw [uN_n q])
                subst ec
                omega
            · have : hc (uN ho f c) e ≤ hc ho e := hc_le 60 0 (fun y _ hy q => by
                by_cases qf : y = f
                · rw [uN_s qf] at q
                  exact absurd (of_decide_eq_true q) (fun z => ec z.symm)
                · rw [uN_n qf] at q
                  exact q)
              exact Nat.le_trans this (hh e he)
          · have hmod : f_X7_hold_b62 w (nI c) (nI f) (eC (ho f)) = ((f_X7_acted (upd s (168 + f) (nI c), w.2.1, cpy w.1 w.2.2.1 264, w.2.2.2) (eC (ho f))).bind fun r10 => some (r10.1, r10.2)) := by
              unfold f_X7_hold_b62
              refine bnd (keeps_eq _) (iy hib ?_)
              rw [la, clp (by omega), hw]
            by_cases e : ho f = c
            · exact iy (by rw [eC_inj h30 (by omega)]; exact e) hmod
            · exact ino (by rw [eC_inj h30 (by omega)]; exact e) (ino (by rw [eql (by omega) (by omega)]; omega) hmod)
    · refine kbad br1 ?_ (fun w hw => ?_)
      · unfold f_X2_holdFile
        exact bnd c1 (ino (by decide) (bnd q1 (iy rfl rfl)))
      · show f_X7_hold w (nI c) p2 = _
        unfold f_X7_hold
        exact bnd (m1 w hw) (ino (by decide) (bnd q2 (iy rfl rfl)))
  · refine kbad br1 ?_ (fun w hw => ?_)
    · unfold f_X2_holdFile
      exact bnd c1 (iy rfl rfl)
    · show f_X7_hold w p1 p2 = _
      unfold f_X7_hold
      exact bnd (m1 w hw) (iy rfl rfl)
