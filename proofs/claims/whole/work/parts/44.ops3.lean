/-! ===== weigh, turn ===== -/
theorem fuel5 : FUEL = 1995 + 1 + 1 + 1 + 1 + 1 := rfl
theorem weight_eq {W P N M z lm k13 k14 k15 : Nat} {wt loc at' ho fi : Nat → Nat} {we by' ra ti : Nat → Int32} {tk tu se : Int32} {s : UA} (o : OKv W P N M z lm k13 k14 k15 wt loc at' ho fi) (x : RX W P N M z k13 k14 k15 wt loc at' ho fi we by' ra ti tk tu se s) (w : UX) (hw : w.1 = s) : f_X7_weight w = some (nI (pw P wt at')) := by
  obtain ⟨o1, o2, o3, o4, o5, o6, B, D, o9, o10, o11, o12, o13, o14, o15, o16, o17⟩ := o
  obtain ⟨x0, x1, x2, x6, x7, x8, x9, x10, x13, x14, x15, xA, xE, xP, xC, xH, xR⟩ := x
  obtain ⟨s0, w2⟩ := w
  dsimp only at hw
  subst hw
  have st : ∀ i n (acc : Int32), i < P → f_X7_weight_b4 (n + 1) (s0, w2) acc (nI i) = f_X7_weight_b4 n (s0, w2) (acc + nI (wt (at' (32 + i)))) (nI (i + 1)) := by
    intro i n acc hi
    have h1 := B (32 + i) (by omega)
    have h2 := o9 i (by omega)
    have h3 := xP i hi
    have hc : at' (32 + i) < N := by omega
    rw [eC_n (by omega)] at h3
    have h4 := (xC _ hc).1
    have hn : (P ≤ i) = False := eq_false (by omega)
    rw [f_X7_weight_b4]
    simp (disch := omega) only [f_X7_ca, x2, len', hn, inbT, clp, la, ml, al, h3, h4, Option.bind_some, if_true, if_false, Nat.add_zero]
  have en : ∀ n (acc : Int32), f_X7_weight_b4 (n + 1) (s0, w2) acc (nI P) = some acc := by
    intro n acc
    rw [f_X7_weight_b4]
    simp (disch := omega) only [x2, len', Nat.le_refl, if_true]
  unfold f_X7_weight
  rw [fuel5, show (0 : Int32) = nI 0 from rfl]
  rcases (show P = 0 ∨ P = 1 ∨ P = 2 ∨ P = 3 by omega) with rfl | rfl | rfl | rfl
  · rw [en]
    rfl
  · rw [st 0 _ _ (by omega), en]
    rw [nI_add]
    simp [pw]
  · rw [st 0 _ _ (by omega), st _ _ _ (by omega), en]
    rw [nI_add, nI_add]
    simp [pw]
  · rw [st 0 _ _ (by omega), st _ _ _ (by omega), st _ _ _ (by omega), en]
    rw [nI_add, nI_add, nI_add]
    simp [pw]
theorem most_eq {W P N M z lm k13 k14 k15 : Nat} {wt loc at' ho fi : Nat → Nat} {we by' ra ti : Nat → Int32} {tk tu se : Int32} {s : UA} (o : OKv W P N M z lm k13 k14 k15 wt loc at' ho fi) (x : RX W P N M z k13 k14 k15 wt loc at' ho fi we by' ra ti tk tu se s) (w : UX) (hw : w.1 = s) : f_X7_most w = f_X6_mostWallsWith (nI (pw P wt at')) := by
  unfold f_X7_most f_X6_mostWallsWith
  rw [weight_eq o x w hw]
  rfl
/-- the scalars alone change -/
theorem rx_scal {W W' P N M z z' k13 k14 k15 : Nat} {wt loc at' ho fi : Nat → Nat} {we by' ra ti : Nat → Int32} {tk tu se tk' tu' se' : Int32} {s s' : UA} (x : RX W P N M z k13 k14 k15 wt loc at' ho fi we by' ra ti tk tu se s) (hP : P ≤ 3) (h : ∀ k, 2 ≤ k → k ≠ 6 → k ≠ 9 → k ≠ 10 → s' k = s k) (h0 : s' 0 = tk') (h1 : s' 1 = nI W') (h6 : s' 6 = nI z') (h9 : s' 9 = se') (h10 : s' 10 = tu') : RX W' P N M z' k13 k14 k15 wt loc at' ho fi we by' ra ti tk' tu' se' s' := by
  obtain ⟨x0, x1, x2, x6, x7, x8, x9, x10, x13, x14, x15, xA, xE, xP, xC, xH, xR⟩ := x
  refine ⟨h0, h1, ?_, h6, ?_, ?_, h9, h10, ?_, ?_, ?_, ?_, ?_, ?_, ?_, ?_, ?_⟩
  · rw [h 2 (by omega) (by omega) (by omega) (by omega)]; exact x2
  · rw [h 7 (by omega) (by omega) (by omega) (by omega)]; exact x7
  · rw [h 8 (by omega) (by omega) (by omega) (by omega)]; exact x8
  · rw [h 13 (by omega) (by omega) (by omega) (by omega)]; exact x13
  · rw [h 14 (by omega) (by omega) (by omega) (by omega)]; exact x14
  · rw [h 15 (by omega) (by omega) (by omega) (by omega)]; exact x15
  · intro k hk; rw [h _ (by omega) (by omega) (by omega) (by omega)]; exact xA k hk
  · intro k hk; rw [h _ (by omega) (by omega) (by omega) (by omega)]; exact xE k hk
  · intro k hk; rw [h _ (by omega) (by omega) (by omega) (by omega)]; exact xP k hk
  · intro k hk
    rw [h (48 + 4 * k) (by omega) (by omega) (by omega) (by omega), h (48 + 4 * k + 1) (by omega) (by omega) (by omega) (by omega), h (48 + 4 * k + 2) (by omega) (by omega) (by omega) (by omega), h (48 + 4 * k + 3) (by omega) (by omega) (by omega) (by omega)]; exact xC k hk
  · intro k hk; rw [h _ (by omega) (by omega) (by omega) (by omega)]; exact xH k hk
  · intro k hk
    rw [h (228 + 3 * k) (by omega) (by omega) (by omega) (by omega), h (228 + 3 * k + 1) (by omega) (by omega) (by omega) (by omega), h (228 + 3 * k + 2) (by omega) (by omega) (by omega) (by omega)]; exact xR k hk
theorem weigh_ok {W P N M z lm k13 k14 k15 : Nat} {wt loc at' ho fi : Nat → Nat} {we by' ra ti : Nat → Int32} {tk tu se : Int32} {u : UL} {s : UA} (h : Sim W P N M z lm k13 k14 k15 wt loc at' ho fi we by' ra ti tk tu se u s) :
    ∃ u' s', f_X2_weighPallet u = some (nI (pw P wt at'), u') ∧ (∀ w : UX, w.1 = s → f_X7_weighs w = some (nI (pw P wt at'), (s', w.2))) ∧ Sim W P N M 1 lm k13 k14 k15 wt loc at' ho fi we by' ra ti (tk + 1) tu se u' s' := by
  obtain ⟨o, ⟨cwt, cwe, cby, csl, coc, cho, rf, rr, rt, rfl, r⟩, x⟩ := h
  have x' := rx_scal (W' := W) (z' := 1) (tk' := tk + 1) (tu' := tu) (se' := se) (s' := upd (upd s 6 1) 0 (tk + 1)) x o.2.1 (fun k h1 h2 h3 h4 => by rw [upd_n (by omega), upd_n (by omega)]) (upd_s rfl) (by rw [upd_n (by omega), upd_n (by omega)]; exact x.2.1) (by rw [upd_n (by omega), upd_s rfl]; rfl) (by rw [upd_n (by omega), upd_n (by omega)]; exact x.2.2.2.2.2.2.1) (by rw [upd_n (by omega), upd_n (by omega)]; exact x.2.2.2.2.2.2.2.1)
  have o' : OKv W P N M 1 lm k13 k14 k15 wt loc at' ho fi := ⟨o.1, o.2.1, o.2.2.1, o.2.2.2.1, Nat.le_refl _, o.2.2.2.2.2⟩
  refine ⟨_, upd (upd s 6 1) 0 (tk + 1), rfl, ?_, o', ⟨cwt, cwe, cby, csl, coc, cho, rf, rr, rt, rfl, r⟩, x'⟩
  rintro ⟨s0, w2⟩ hw
  dsimp only at hw
  subst hw
  have e0 : upd s0 6 1 0 = tk := by rw [upd_n (by omega)]; exact x.1
  unfold f_X7_weighs
  dsimp only
  rw [e0, weight_eq o' x' _ rfl]
  rfl
theorem turn_facts {W : Nat} (hW : W < 8) {p : Int32} (h1 : ¬ p < -4) (h2 : ¬ 4 < p) : ∃ W', W' < 8 ∧ jrem ((nI W + p) + 8) 8 = nI W' ∧ (if 0 ≤ p then p else -p) = jabs p := by
  have k : ∀ a : Fin 9, ∀ V : Fin 8, jrem ((nI V.val + (nI a.val - 4)) + 8) 8 = nI ((V.val + a.val + 4) % 8) ∧ (if 0 ≤ nI a.val - 4 then nI a.val - 4 else -(nI a.val - 4)) = jabs (nI a.val - 4) := by decide +kernel
  have l1 : -4 ≤ p.toInt := by
    have := Int32.not_lt.mp h1
    rw [Int32.le_iff_toInt_le] at this
    exact this
  have l2 : p.toInt ≤ 4 := by
    have := Int32.not_lt.mp h2
    rw [Int32.le_iff_toInt_le] at this
    exact this
  have e : p = nI (p.toInt + 4).toNat - 4 := by
    apply Int32.toInt_inj.mp
    rcases (show p.toInt = -4 ∨ p.toInt = -3 ∨ p.toInt = -2 ∨ p.toInt = -1 ∨ p.toInt = 0 ∨ p.toInt = 1 ∨ p.toInt = 2 ∨ p.toInt = 3 ∨ p.toInt = 4 by omega) with q | q | q | q | q | q | q | q | q <;> rw [q] <;> decide +kernel
  have hb : (p.toInt + 4).toNat < 9 := by omega
  have kk := k ⟨_, hb⟩ ⟨W, hW⟩
  dsimp only at kk
  rw [← e] at kk
  exact ⟨_, Nat.mod_lt _ (by omega), kk.1, kk.2⟩
theorem turn_ok {W P N M z lm k13 k14 k15 : Nat} {wt loc at' ho fi : Nat → Nat} {we by' ra ti : Nat → Int32} {tk tu se : Int32} {u : UL} {s : UA} (h : Sim W P N M z lm k13 k14 k15 wt loc at' ho fi we by' ra ti tk tu se u s) {p mv : Int32} {W' : Nat} (hz : z ≠ 0) (h1 : ¬ p < -4) (h2 : ¬ 4 < p) (h0 : p ≠ 0) (hW' : W' < 8) (e1 : jrem ((nI W + p) + 8) 8 = nI W') (e2 : (if 0 ≤ p then p else -p) = jabs p) (hm : f_X6_mostWallsWith (nI (pw P wt at')) = some mv) (hp : jabs p ≤ mv) :
    ∃ u' s', f_X2_turnBy u p = some (nI W', u') ∧ (∀ w : UX, w.1 = s → f_X7_turns w p = some (nI W', (s', w.2))) ∧ Sim W' P N M 0 lm k13 k14 k15 wt loc at' ho fi we by' ra ti (tk + jabs p * (1 + nI (pw P wt at') / 10)) (tu + 1) se u' s' := by
  obtain ⟨o, ⟨cwt, cwe, cby, csl, coc, cho, rf, rr, rt, rfl, r⟩, x⟩ := h
  have hz1 : z < 2147483648 := by have := o.2.2.2.2.1; omega
  have x' := rx_scal (W' := W') (z' := 0) (tk' := tk + jabs p * (1 + nI (pw P wt at') / 10)) (tu' := tu + 1) (se' := se) (s' := upd (upd (upd (upd s 1 (nI W')) 6 0) 0 (tk + jabs p * (1 + nI (pw P wt at') / 10))) 10 (tu + 1)) x o.2.1 (fun k h1 h2 h3 h4 => by rw [upd_n (by omega), upd_n (by omega), upd_n (by omega), upd_n (by omega)]) (by rw [upd_n (by omega), upd_s rfl]) (by rw [upd_n (by omega), upd_n (by omega), upd_n (by omega), upd_s rfl]) (by rw [upd_n (by omega), upd_n (by omega), upd_s rfl]; rfl) (by rw [upd_n (by omega), upd_n (by omega), upd_n (by omega), upd_n (by omega)]; exact x.2.2.2.2.2.2.1) (upd_s rfl)
  have xm := rx_scal (W' := W') (z' := 0) (tk' := tk) (tu' := tu) (se' := se) (s' := upd (upd s 1 (nI W')) 6 0) x o.2.1 (fun k h1 h2 h3 h4 => by rw [upd_n (by omega), upd_n (by omega)]) (by rw [upd_n (by omega), upd_n (by omega)]; exact x.1) (by rw [upd_n (by omega), upd_s rfl]) (by rw [upd_s rfl]; rfl) (by rw [upd_n (by omega), upd_n (by omega)]; exact x.2.2.2.2.2.2.1) (by rw [upd_n (by omega), upd_n (by omega)]; exact x.2.2.2.2.2.2.2.1)
  have o' : OKv W' P N M 0 lm k13 k14 k15 wt loc at' ho fi := ⟨hW', o.2.1, o.2.2.1, o.2.2.2.1, Nat.zero_le _, o.2.2.2.2.2⟩
  have hzf : (nI z = 0) = False := eq_false (nI_ne0 (by omega) hz1)
  refine ⟨_, upd (upd (upd (upd s 1 (nI W')) 6 0) 0 (tk + jabs p * (1 + nI (pw P wt at') / 10))) 10 (tu + 1), ?_, ?_, o', ⟨cwt, cwe, cby, csl, coc, cho, rf, rr, rt, rfl, r⟩, x'⟩
  · unfold f_X2_turnBy
    rw [if_neg h0, isIn_y h1 h2]
    simp only [Option.bind_some, one0, if_false, hzf, hm, hp, if_true, e1]
    rfl
  · rintro ⟨s0, w2⟩ hw
    dsimp only at hw
    subst hw
    have y1 : s0 1 = nI W := x.2.1
    have y6 : s0 6 = nI z := x.2.2.2.1
    have y0 : upd (upd s0 1 (nI W')) 6 0 0 = tk := xm.1
    have y10 : ∀ v : Int32, upd (upd (upd s0 1 (nI W')) 6 0) 0 v 10 = tu := fun v => by rw [upd_n (by omega)]; exact xm.2.2.2.2.2.2.2.1
    have hwt := weight_eq o' xm (upd (upd s0 1 (nI W')) 6 0, w2) rfl
    have key : f_X7_turns_b10 (s0, w2) p (jabs p) = some (nI W', (upd (upd (upd (upd s0 1 (nI W')) 6 0) 0 (tk + jabs p * (1 + nI (pw P wt at') / 10))) 10 (tu + 1), w2)) := by
      unfold f_X7_turns_b10
      rw [in_y h1 h2, most_eq o x _ rfl]
      simp only [Option.bind_some, one0, if_false, y1, y6, hzf, h0, hm, hp, if_true, e1, hwt, y0, y10]
      simp only [upd_s, upd_n (show (1 : Nat) ≠ 10 by omega), upd_n (show (1 : Nat) ≠ 0 by omega), upd_n (show (1 : Nat) ≠ 6 by omega)]
    unfold f_X7_turns
    by_cases q : 0 ≤ p
    · rw [if_pos q] at e2 ⊢
      rw [← key, ← e2]
    · rw [if_neg q] at e2 ⊢
      rw [← key, ← e2]
