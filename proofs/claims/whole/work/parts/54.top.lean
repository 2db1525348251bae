/-! ===== calls: the whole objects ===== -/
def TextR (o : UO) (w : UX) : Prop := o.1 = w.2.2.2.2.2.1 ∧ ∃ T : Nat, T ≤ 60 ∧ o.2.1 = nI T ∧ w.2.2.2.2.2.2.1 = nI T
def Jn (B : Nat) (um : UM) (ux : UX) : Prop := Rl B um.1 ux.1 ∧ Hist B um.2.2.1 ux.2.1 ux.2.2.2.2.1 ∧ TextR um.2.2.2 ux
def Call2 (B : Nat) (c : Option (Int32 × UM)) (m : Option (Int32 × UX)) : Prop := ∃ (r : Int32) (um' : UM) (ux' : UX), c = some (r, um') ∧ m = some (r, ux') ∧ Jn B um' ux'
theorem fresh_ok {B : Nat} {now trial : UL} {h : UH} {o : UO} {s : UA} (hR : Rl B now s) : f_X6_freshTrial (now, trial, h, o) = some (now, now, h, o) := by
  unfold f_X6_freshTrial
  exact bnd (copy_ok hR _) rfl
theorem keep_bad {um : UM} {r : Int32} (h : BadR r) : f_X6_keep um r = some (r, um) := by
  unfold f_X6_keep
  rcases h with rfl | rfl | rfl <;> exact iy (by decide) rfl
theorem act_ok {I : Prop} {B B' : Nat} {um : UM} {ux : UX} {C : UL → Option (Int32 × UL)} {M : UX → Option (Int32 × UX)} (hJ : Jn B um ux) (hS : StepO I B' um.1 ux.1 (C um.1) M) (hB : B ≤ B') :
    Call2 B' ((f_X6_freshTrial um).bind fun r2 => (C r2.2.1).bind fun r6 => (f_X6_keep (r2.1, r6.2, r2.2.2.1, r2.2.2.2) r6.1).bind fun r9 => some (r9.1, r9.2)) ((f_X7_keeps ux).bind fun r1 => (M r1).bind fun r7 => (f_X7_acted r7.2 r7.1).bind fun r10 => some (r10.1, r10.2)) := by
  obtain ⟨now, trial, h, o⟩ := um
  obtain ⟨s, was, bg, a, st, rest⟩ := ux
  obtain ⟨hR, hH, hT⟩ := hJ
  obtain ⟨r, u', s', c1, m1, hg⟩ := hS
  have hk := keeps_eq (s, was, bg, a, st, rest)
  obtain ⟨d, e, m2⟩ := m1 (s, was, cpy s bg 264, a, st, rest) rfl
  rcases hg with ⟨hb, rfl, rfl⟩ | ⟨_, hg, hR'⟩
  · refine ⟨r, _, _, bnd (fresh_ok hR) (bnd c1 (bnd (keep_bad (badI_R hb)) rfl)), bnd hk (bnd m2 (bnd (acted_bad (badI_R hb)) rfl)), rl_mono hR hB, hist_mono hH hB, hT⟩
  · obtain ⟨h', k1, k2⟩ := keep_good hR hR' hB hH (Or.inr hg) o
    obtain ⟨was', st', k3, k4⟩ := k2 (wd (s, was, cpy s bg 264, a, st, rest) s' d e) rfl (fun k hk => cpy_in hk) rfl
    exact ⟨r, _, _, bnd (fresh_ok hR) (bnd c1 (bnd k1 rfl)), bnd hk (bnd m2 (bnd k3 rfl)), hR', k4, hT⟩
theorem lift_call {B : Nat} {um : UM} {ux : UX} (hJ : Jn B um ux) (p : Int32) : Call2 B (f_X6_lift um p) (f_X7_lift ux p) :=
  act_ok (C := fun v => f_X2_liftFrom v p) hJ (lift_step hJ.1 p) (Nat.le_refl _)
theorem lay_call {B : Nat} {um : UM} {ux : UX} (hJ : Jn B um ux) (p : Int32) : Call2 B (f_X6_lay um p) (f_X7_lay ux p) :=
  act_ok (C := fun v => f_X2_layOn v p) hJ (lay_step hJ.1 p) (Nat.le_refl _)
theorem weigh_call {B : Nat} {um : UM} {ux : UX} (hJ : Jn B um ux) : Call2 B (f_X6_weigh um) (f_X7_weigh ux) :=
  act_ok (C := fun v => f_X2_weighPallet v) hJ (weigh_step hJ.1) (Nat.le_refl _)
theorem turn_call {B : Nat} {um : UM} {ux : UX} (hJ : Jn B um ux) (p : Int32) : Call2 B (f_X6_turn um p) (f_X7_turn ux p) :=
  act_ok (C := fun v => f_X2_turnBy v p) hJ (turn_step hJ.1 p) (Nat.le_refl _)
theorem mount_call {B : Nat} {um : UM} {ux : UX} (hJ : Jn B um ux) (p : Int32) : Call2 (B + 1) (f_X6_mount um p) (f_X7_mount ux p) :=
  act_ok (C := fun v => f_X2_mountIn v p) hJ (mount_step hJ.1 p) (Nat.le_succ _)
theorem take_call {B : Nat} {um : UM} {ux : UX} (hJ : Jn B um ux) (p : Int32) : Call2 B (f_X6_take um p) (f_X7_take ux p) :=
  act_ok (C := fun v => f_X2_takeFrom v p) hJ (take_step hJ.1 p) (Nat.le_refl _)
theorem serve_call {B : Nat} (hB : B < 2147483648) {um : UM} {ux : UX} (hJ : Jn B um ux) (p : Int32) : Call2 (B + 1) (f_X6_serve um p) (f_X7_serve ux p) :=
  act_ok (C := fun v => f_X2_serveBy v p) hJ (serve_step hB hJ.1 p) (Nat.le_succ _)
/-! undo -/
theorem undo_loop (s was : UA) (r) (t : Nat) (ht : t < 4) (bg a : UA) : ∀ d i n, i + d = 264 → d < n → f_X7_undo_b22 n (cpy (fun k => was (264 * t + k)) s i, was, bg, a, nI t, r) (nI i) = some (nI t, (cpy (fun k => was (264 * t + k)) s 264, was, bg, a, nI t, r)) := by
  intro d
  induction d with
  | zero =>
    intro i n h hn
    obtain ⟨m, rfl⟩ : ∃ m, n = m + 1 := ⟨n - 1, by omega⟩
    rw [f_X7_undo_b22]
    refine iy (by rw [lle (by omega) (by omega)]; omega) ?_
    rw [show i = 264 by omega]
  | succ d ih =>
    intro i n h hn
    obtain ⟨m, rfl⟩ : ∃ m, n = m + 1 := ⟨n - 1, by omega⟩
    rw [f_X7_undo_b22]
    have e : (264 * nI t) + nI i = nI (264 * t + i) := by rw [ml, nI_add]
    dsimp only
    rw [e]
    refine ino (by rw [lle (by omega) (by omega)]; omega) (iy (inbT (by omega) (by omega)) (iy (inbT (by omega) (by omega)) ?_))
    rw [clp (by omega), clp (by omega), al]
    have q : upd (cpy (fun k => was (264 * t + k)) s i) i (was (264 * t + i)) = cpy (fun k => was (264 * t + k)) s (i + 1) := cpy_s (fun k => was (264 * t + k)) s i
    rw [q]
    exact ih (i + 1) m (by omega) (by omega)
theorem restore_ok {B : Nat} {h : UH} {u : UL} {x n : Nat} {sl : UA} (hx : x < 4) (hn : n < 4) (ex : h.2.2.2.2.1 = nI x) (en : h.2.2.2.2.2 = nI (n + 1)) (hR : Rl B (hAt h ((x + 3) % 4)) sl) : ∃ h' : UH, f_X1_restore (h, u) = some (nI n, (h', hAt h ((x + 3) % 4))) ∧ (∀ i, i < 4 → hAt h' i = hAt h i) ∧ h'.2.2.2.2.1 = nI ((x + 3) % 4) ∧ h'.2.2.2.2.2 = nI n := by
  have hp : nI (n + 1) - 1 = nI n := nI_pred n
  have hl : ¬ nI (n + 1) ≤ 0 := by rw [lel (by omega) (by omega)]; omega
  obtain ⟨h0, h1, h2, h3, nx, sz⟩ := h
  dsimp only at ex en
  subst ex en
  unfold f_X1_restore
  rcases (show x = 0 ∨ x = 1 ∨ x = 2 ∨ x = 3 by omega) with rfl | rfl | rfl | rfl
  · refine ⟨(h0, h1, h2, h3, nI 3, nI n), ino (show ¬ jrem ((nI 0 + 4) - 1) 4 = 0 by decide) (ino (show ¬ jrem ((nI 0 + 4) - 1) 4 = 1 by decide) (ino (show ¬ jrem ((nI 0 + 4) - 1) 4 = 2 by decide) (iy (show jrem ((nI 0 + 4) - 1) 4 = 3 by decide) (ino hl (bnd (copy_ok hR _) ?_))))), fun i hi => ?_, rfl, rfl⟩
    · dsimp only; rw [hp]; rfl
    · rcases (show i = 0 ∨ i = 1 ∨ i = 2 ∨ i = 3 by omega) with rfl | rfl | rfl | rfl <;> rfl
  · refine ⟨(h0, h1, h2, h3, nI 0, nI n), iy (show jrem ((nI 1 + 4) - 1) 4 = 0 by decide) (ino hl (bnd (copy_ok hR _) ?_)), fun i hi => ?_, rfl, rfl⟩
    · dsimp only; rw [hp]; rfl
    · rcases (show i = 0 ∨ i = 1 ∨ i = 2 ∨ i = 3 by omega) with rfl | rfl | rfl | rfl <;> rfl
  · refine ⟨(h0, h1, h2, h3, nI 1, nI n), ino (show ¬ jrem ((nI 2 + 4) - 1) 4 = 0 by decide) (iy (show jrem ((nI 2 + 4) - 1) 4 = 1 by decide) (ino hl (bnd (copy_ok hR _) ?_))), fun i hi => ?_, rfl, rfl⟩
    · dsimp only; rw [hp]; rfl
    · rcases (show i = 0 ∨ i = 1 ∨ i = 2 ∨ i = 3 by omega) with rfl | rfl | rfl | rfl <;> rfl
  · refine ⟨(h0, h1, h2, h3, nI 2, nI n), ino (show ¬ jrem ((nI 3 + 4) - 1) 4 = 0 by decide) (ino (show ¬ jrem ((nI 3 + 4) - 1) 4 = 1 by decide) (iy (show jrem ((nI 3 + 4) - 1) 4 = 2 by decide) (ino hl (bnd (copy_ok hR _) ?_)))), fun i hi => ?_, rfl, rfl⟩
    · dsimp only; rw [hp]; rfl
    · rcases (show i = 0 ∨ i = 1 ∨ i = 2 ∨ i = 3 by omega) with rfl | rfl | rfl | rfl <;> rfl
theorem restore_0 {h : UH} {u : UL} {x : Nat} (hx : x < 4) (ex : h.2.2.2.2.1 = nI x) (en : h.2.2.2.2.2 = nI 0) : f_X1_restore (h, u) = some (-1000002, (h, u)) := by
  obtain ⟨h0, h1, h2, h3, nx, sz⟩ := h
  dsimp only at ex en
  subst ex en
  unfold f_X1_restore
  rcases (show x = 0 ∨ x = 1 ∨ x = 2 ∨ x = 3 by omega) with rfl | rfl | rfl | rfl
  · exact ino (show ¬ jrem ((nI 0 + 4) - 1) 4 = 0 by decide) (ino (show ¬ jrem ((nI 0 + 4) - 1) 4 = 1 by decide) (ino (show ¬ jrem ((nI 0 + 4) - 1) 4 = 2 by decide) (iy (show jrem ((nI 0 + 4) - 1) 4 = 3 by decide) (iy (show nI 0 ≤ 0 by decide) rfl))))
  · exact iy (show jrem ((nI 1 + 4) - 1) 4 = 0 by decide) (iy (show nI 0 ≤ 0 by decide) rfl)
  · exact ino (show ¬ jrem ((nI 2 + 4) - 1) 4 = 0 by decide) (iy (show jrem ((nI 2 + 4) - 1) 4 = 1 by decide) (iy (show nI 0 ≤ 0 by decide) rfl))
  · exact ino (show ¬ jrem ((nI 3 + 4) - 1) 4 = 0 by decide) (ino (show ¬ jrem ((nI 3 + 4) - 1) 4 = 1 by decide) (iy (show jrem ((nI 3 + 4) - 1) 4 = 2 by decide) (iy (show nI 0 ≤ 0 by decide) rfl)))
theorem undo_call {B : Nat} {um : UM} {ux : UX} (hJ : Jn B um ux) : Call2 B (f_X6_undo um) (f_X7_undo ux) := by
  obtain ⟨now, trial, h, o⟩ := um
  obtain ⟨s, was, bg, a, st, rest⟩ := ux
  obtain ⟨hR, ⟨x, n, h1, h2, h3, h4, h5, h6⟩, hT⟩ := hJ
  dsimp only at h3 h4 h5
  subst h5
  cases n with
  | zero =>
    refine ⟨-1000002, (now, trial, h, o), (s, was, bg, a, nI 0, rest), ?_, ?_, hR, ⟨x, 0, h1, h2, h3, h4, rfl, h6⟩, hT⟩
    · unfold f_X6_undo
      exact bnd (restore_0 h1 h3 h4) rfl
    · unfold f_X7_undo
      exact iy (show nI 0 = 0 by decide) rfl
  | succ n =>
    have hr := h6 n (by omega)
    rw [show (x + 4 - (n + 1) + n) % 4 = (x + 3) % 4 by omega] at hr
    obtain ⟨h', c1, c2, c3, c4⟩ := restore_ok (u := now) h1 (by omega) h3 h4 hr
    have hl := undo_loop s was rest n (by omega) bg a 264 0 FUEL (by omega) (by rw [fuel1]; omega)
    rw [cpy_0] at hl
    refine ⟨nI n, (hAt h ((x + 3) % 4), trial, h', o), (cpy (fun k => was (264 * n + k)) s 264, was, bg, a, nI n, rest), ?_, ?_, ?_, ⟨(x + 3) % 4, n, Nat.mod_lt _ (by omega), by omega, c3, c4, rfl, fun k hk => ?_⟩, hT⟩
    · unfold f_X6_undo
      exact bnd c1 rfl
    · unfold f_X7_undo
      refine ino (by dsimp only; rw [eql (by omega) (by omega)]; omega) ?_
      dsimp only
      rw [nI_pred]
      exact hl
    · refine rl_congr hr (fun i hi => ?_)
      exact cpy_in (a := fun k => was (264 * n + k)) hi
    · rw [c2 _ (Nat.mod_lt _ (by omega))]
      have := h6 k (by omega)
      rw [show (x + 4 - (n + 1) + k) % 4 = ((x + 3) % 4 + 4 - n + k) % 4 by omega] at this
      exact this
/-! type, clearText -/
theorem type_call {B : Nat} {um : UM} {ux : UX} (hJ : Jn B um ux) (p : Int32) : Call2 B (f_X6_type um p) (f_X7_type ux p) := by
  obtain ⟨now, trial, h, sg, ln, o⟩ := um
  obtain ⟨s, was, bg, a, st, tx, ty, rest⟩ := ux
  obtain ⟨hR, hH, ht, T, hT, e1, e2⟩ := hJ
  dsimp only at ht e1 e2
  subst ht e1 e2
  unfold f_X6_type f_X7_type f_X3_append
  by_cases q : p < 32 ∨ 126 < p
  · exact ⟨_, _, _, bnd (bnd (isIn_n q) (iy rfl rfl)) rfl, bnd (in_n q) (iy rfl rfl), hR, hH, rfl, T, hT, rfl, rfl⟩
  · have q1 : ¬ p < 32 := fun r => q (Or.inl r)
    have q2 : ¬ 126 < p := fun r => q (Or.inr r)
    by_cases h60 : T = 60
    · subst h60
      exact ⟨_, _, _, bnd (bnd (isIn_y q1 q2) (ino (by decide) (ino (show ¬ nI 60 < 0 by decide) (ino (show ¬ nI 60 < 60 by decide) rfl)))) rfl, bnd (in_y q1 q2) (ino (by decide) (iy (show nI 60 = 60 by decide) rfl)), hR, hH, rfl, 60, hT, rfl, rfl⟩
    · refine ⟨nI T + 1, _, _, bnd (bnd (isIn_y q1 q2) (ino (by decide) (ino ?_ (iy ?_ (iy (inbT (by omega) (by omega)) rfl))))) rfl, bnd (in_y q1 q2) (ino (by decide) (ino ?_ (iy (inbT (by omega) (by omega)) rfl))), hR, hH, ?_, T + 1, by omega, ?_, ?_⟩
      · dsimp only; rw [ltl (by omega) (by omega)]; omega
      · dsimp only; rw [ltl (by omega) (by omega)]; omega
      · dsimp only; rw [eql (by omega) (by omega)]; exact h60
      · rfl
      · exact nI_1 T
      · exact nI_1 T
theorem clear_call {B : Nat} {um : UM} {ux : UX} (hJ : Jn B um ux) : Call2 B (f_X6_clearText um) (f_X7_clearText ux) := by
  obtain ⟨now, trial, h, sg, ln, o⟩ := um
  obtain ⟨s, was, bg, a, st, tx, ty, rest⟩ := ux
  obtain ⟨hR, hH, ht, T, hT, e1, e2⟩ := hJ
  dsimp only at ht e1 e2
  subst ht e1 e2
  exact ⟨nI T, _, _, rfl, rfl, hR, hH, rfl, 0, by omega, rfl, rfl⟩
/-! what would be -/
theorem rl_read {B : Nat} {u : UL} {s : UA} (h : Rl B u s) : u.2.2.2.2.2.2.2.1 = s 0 ∧ u.2.2.2.2.2.2.2.2.1 = s 10 ∧ u.2.2.2.2.2.2.2.2.2 = s 9 ∧ u.2.2.1 = s 1 ∧ u.2.2.2.2.1 = s 2 ∧ u.2.2.2.1 = s 6 ∧ u.1.2.2.2.2.2.2 = s 7 ∧ u.2.1.2.2.2 = s 8 := by
  obtain ⟨W, P, N, M, z, lm, k13, k14, k15, wt, loc, at', ho, fi, we, by', ra, ti, tk, tu, se, ⟨o, ⟨cwt, cwe, cby, csl, coc, cho, rf, rr, rt, rfl, r⟩, x0, x1, x2, x6, x7, x8, x9, x10, x⟩, hb, hh⟩ := h
  exact ⟨x0.symm, x10.symm, x9.symm, x1.symm, x2.symm, x6.symm, x7.symm, x8.symm⟩
theorem goTo_rl {B t : Nat} {u : UL} {s : UA} (h : Rl B u s) (ht : t < 8) : ∃ (u' : UL) (s' : UA), f_X2_goTo u (nI t) = some u' ∧ (∀ w : UX, w.1 = s → f_X7_goes w (nI t) = some (s', w.2)) ∧ Rl B u' s' := by
  obtain ⟨W, P, N, M, z, lm, k13, k14, k15, wt, loc, at', ho, fi, we, by', ra, ti, tk, tu, se, h, hb, hh⟩ := h
  obtain ⟨z', tk', tu', u', s', c1, m1, S⟩ := goTo_ok h ht
  exact ⟨u', s', c1, m1, _, _, _, _, _, _, _, _, _, _, _, _, _, _, _, _, _, _, _, _, _, S, hb, hh⟩
theorem wayTo_call {B : Nat} {um : UM} {ux : UX} (hJ : Jn B um ux) (p : Int32) : Call2 B (f_X6_wayTo um p) (f_X7_wayTo ux p) := by
  obtain ⟨now, trial, h, o⟩ := um
  obtain ⟨s, was, bg, a, st, rest⟩ := ux
  obtain ⟨hR, hH, hT⟩ := hJ
  unfold f_X6_wayTo f_X7_wayTo
  rcases fin1' p 7 (by omega) with ⟨t, ht, rfl⟩ | ⟨q1, q2⟩
  · obtain ⟨u', s', c1, m1, hR'⟩ := goTo_rl hR (t := t) (by omega)
    have e1 := (rl_read hR).1
    have e2 := (rl_read hR').1
    refine ⟨s' 0 - s 0, (now, u', h, o), (cpy (cpy s a 264) s' 264, was, bg, cpy s a 264, st, rest), bnd (isIn_k (by omega) ht (by omega)) (ino (by decide) (bnd (fresh_ok hR) (bnd c1 ?_))), bnd (in_k (by omega) ht (by omega)) (ino (by decide) (bnd (puts_eq _) (bnd (m1 _ rfl) (bnd (restores_eq _) ?_)))), rl_congr hR (fun k hk => ?_), hH, hT⟩
    · dsimp only
      rw [e1, e2]
    · dsimp only
      rw [cpy_in (by omega), cpy_in (by omega)]
    · dsimp only
      rw [cpy_in hk, cpy_in hk]
  · exact ⟨_, _, _, bnd q1 (iy rfl rfl), bnd q2 (iy rfl rfl), hR, hH, hT⟩
