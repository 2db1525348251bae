/-! ===== fault, play ===== -/
def NoFault (B : Nat) (f : UA) (T d i v2 : Nat) (s : UA) (r : Int32) (u' : UL) : Prop := ∃ (v : Nat) (s' : UA), v ≤ 60 ∧ r = nI v ∧ Rl B u' s' ∧
    (∀ (m : Nat) (was bg a : UA) (st re ca dg od dr mo : Int32), d < m → ∃ re' ca' dg' od' dr' mo', f_X7_faulty_b12 m (s, was, bg, a, st, f, nI T, nI i, re, ca, dg, od, dr, mo) (-1000004) = f_X7_faulty_b58 (s', was, bg, a, st, f, nI T, nI T, re', ca', dg', od', dr', mo') (-1000004)) ∧
    (∀ (m : Nat) (was bg a : UA) (st re ca dg od dr mo : Int32), d < m → ∃ re' ca' dg' od' dr' mo', f_X7_play_b23 m (s, was, bg, a, st, f, nI T, nI i, re, ca, dg, od, dr, mo) (nI v2) = ((f_X7_acted (s', was, bg, a, st, f, nI T, nI T, re', ca', dg', od', dr', mo') (nI v)).bind fun r54 => some (r54.1, r54.2)))
def AFault (f : UA) (T d i : Nat) (s : UA) (r : Int32) (o' : UO) : Prop := ∃ (rs p : Nat), rs ≤ 3 ∧ rs ≠ 0 ∧ p ≤ 60 ∧ o'.2.2.2.2.2.2.2.1 = nI rs ∧ r = -1000002 ∧ o'.2.2.2.2.2.2.1 = nI p ∧
    (∀ (m : Nat) (was bg a : UA) (st re ca dg od dr mo : Int32), d < m → ∃ s' at' dg' od' dr' mo', f_X7_faulty_b12 m (s, was, bg, a, st, f, nI T, nI i, re, ca, dg, od, dr, mo) (-1000004) = f_X7_faulty_b58 (s', was, bg, a, st, f, nI T, at', nI rs, (if rs = 1 then o'.2.2.2.2.2.2.2.2 else -1000004), dg', od', dr', mo') (nI p))
theorem run_ok (f : UA) {T : Nat} (hT : T ≤ 60) : ∀ d i v2 B n u s (a2 a3 a4 a5 a6 a8 : Int32), i ≤ T → T ≤ i + d → v2 ≤ i → B + d < 2147483648 → d < n → Rl B u s → ∃ (r : Int32) (o' : UO) (u' : UL), f_X3_doAll_b9 n ((f, nI T, a2, a3, a4, a5, a6, nI 0, a8), u) (nI v2) (nI i) = some (r, (o', u')) ∧ o'.1 = f ∧ o'.2.1 = nI T ∧ ((o'.2.2.2.2.2.2.2.1 = nI 0 ∧ NoFault (B + d) f T d i v2 s r u') ∨ AFault f T d i s r o') := by
  have base : ∀ d i v2 B n u s (a2 a3 a4 a5 a6 a8 : Int32), i = T → v2 ≤ i → 0 < n → Rl B u s → ∃ (r : Int32) (o' : UO) (u' : UL), f_X3_doAll_b9 n ((f, nI T, a2, a3, a4, a5, a6, nI 0, a8), u) (nI v2) (nI i) = some (r, (o', u')) ∧ o'.1 = f ∧ o'.2.1 = nI T ∧ ((o'.2.2.2.2.2.2.2.1 = nI 0 ∧ NoFault (B + d) f T d i v2 s r u') ∨ AFault f T d i s r o') := by
    intro d i v2 B n u s a2 a3 a4 a5 a6 a8 hi hv hn h
    subst hi
    obtain ⟨n, rfl⟩ : ∃ n', n = n' + 1 := ⟨n - 1, by omega⟩
    refine ⟨nI v2, (f, nI i, a2, a3, a4, a5, a6, nI 0, a8), u, ?_, rfl, rfl, Or.inl ⟨rfl, v2, s, by omega, rfl, rl_mono h (by omega), fun m was bg a st re ca dg od dr mo hm => ?_, fun m was bg a st re ca dg od dr mo hm => ?_⟩⟩
    · rw [f_X3_doAll_b9]
      by_cases q : v2 = 60
      · exact iy (by rw [lle (by omega) (by omega)]; omega) rfl
      · exact ino (by rw [lle (by omega) (by omega)]; omega) (iy (Int32.le_refl _) rfl)
    · obtain ⟨m, rfl⟩ : ∃ m', m = m' + 1 := ⟨m - 1, by omega⟩
      refine ⟨re, ca, dg, od, dr, mo, ?_⟩
      rw [f_X7_faulty_b12]
      exact iy (Int32.le_refl _) rfl
    · obtain ⟨m, rfl⟩ : ∃ m', m = m' + 1 := ⟨m - 1, by omega⟩
      refine ⟨re, ca, dg, od, dr, mo, ?_⟩
      rw [f_X7_play_b23]
      exact iy (Int32.le_refl _) rfl
  intro d
  induction d with
  | zero =>
    intro i v2 B n u s a2 a3 a4 a5 a6 a8 hi hd hv hB hn h
    exact base 0 i v2 B n u s a2 a3 a4 a5 a6 a8 (by omega) hv hn h
  | succ d ih =>
    intro i v2 B n u s a2 a3 a4 a5 a6 a8 hi hd hv hB hn h
    by_cases hiT : i = T
    · exact base (d + 1) i v2 B n u s a2 a3 a4 a5 a6 a8 hiT hv (by omega) h
    · obtain ⟨n, rfl⟩ : ∃ n', n = n' + 1 := ⟨n - 1, by omega⟩
      obtain ⟨rs, e, x, dd, br, u1, s1, g1, g2, g3, g4, g5, g6⟩ := order_ok (by omega) h f hT (show i < T by omega)
      by_cases hrs : rs = 0
      · subst hrs
        obtain ⟨hie, hR⟩ := g4 rfl
        obtain ⟨r, o', u', k1, k2, k3, k4⟩ := ih e (v2 + 1) (B + 1) n u1 s1 x dd (nI e) br a6 a8 g3 (by omega) (by omega) (by omega) (by omega) hR
        refine ⟨r, o', u', ?_, k2, k3, ?_⟩
        · rw [g5 n v2 a2 a3 a4 a5 a6 (nI 0) a8 (by omega)]
          unfold f_X3_doAll_b56
          refine iy (show nI 0 = 0 by decide) ?_
          dsimp only
          rw [al]
          exact k1
        · rcases k4 with ⟨k5, v, s', w1, w2, w3, w4, w5⟩ | ⟨rs', p, w0, w1, w2, w3, w4, w5, w6⟩
          · refine Or.inl ⟨k5, v, s', w1, w2, rl_mono w3 (by omega), fun m was bg a st re ca dg od dr mo hm => ?_, fun m was bg a st re ca dg od dr mo hm => ?_⟩
            · obtain ⟨m, rfl⟩ : ∃ m', m = m' + 1 := ⟨m - 1, by omega⟩
              obtain ⟨c1, c2, c3, c4, c5, c6, _⟩ := g6 was bg a st re ca dg od dr mo
              obtain ⟨e1, e2, e3, e4, e5, e6, e7⟩ := w4 m was bg a st (nI 0) c1 c2 c3 c4 c5 (by omega)
              refine ⟨e1, e2, e3, e4, e5, e6, ?_⟩
              rw [f_X7_faulty_b12]
              refine ino (by rw [len' (by omega) (by omega)]; omega) (iy rfl (bnd c6 (iy (show nI 0 ≤ 0 by decide) ?_)))
              exact e7
            · obtain ⟨m, rfl⟩ : ∃ m', m = m' + 1 := ⟨m - 1, by omega⟩
              obtain ⟨c1, c2, c3, c4, c5, c6, _⟩ := g6 was bg a st re ca dg od dr mo
              obtain ⟨e1, e2, e3, e4, e5, e6, e7⟩ := w5 m was bg a st re c1 c2 c3 c4 c5 (by omega)
              refine ⟨e1, e2, e3, e4, e5, e6, ?_⟩
              rw [f_X7_play_b23]
              refine ino (by rw [len' (by omega) (by omega)]; omega) (bnd c6 (iy (show nI 0 = 0 by decide) ?_))
              unfold f_X7_play_b47
              rw [al]
              exact e7
          · refine Or.inr ⟨rs', p, w0, w1, w2, w3, w4, w5, fun m was bg a st re ca dg od dr mo hm => ?_⟩
            obtain ⟨m, rfl⟩ : ∃ m', m = m' + 1 := ⟨m - 1, by omega⟩
            obtain ⟨c1, c2, c3, c4, c5, c6, _⟩ := g6 was bg a st re ca dg od dr mo
            obtain ⟨e1, e2, e3, e4, e5, e6, e7⟩ := w6 m was bg a st (nI 0) c1 c2 c3 c4 c5 (by omega)
            refine ⟨e1, e2, e3, e4, e5, e6, ?_⟩
            rw [f_X7_faulty_b12]
            refine ino (by rw [len' (by omega) (by omega)]; omega) (iy rfl (bnd c6 (iy (show nI 0 ≤ 0 by decide) ?_)))
            exact e7
      · have hne : ¬ nI rs = 0 := by rw [eql (by omega) (by omega)]; exact hrs
        refine ⟨-1000002, (f, nI T, x, dd, nI e, br, nI i, nI rs, br), u1, ?_, rfl, rfl, Or.inr ⟨rs, i, g1, hrs, by omega, rfl, rfl, rfl, fun m was bg a st re ca dg od dr mo hm => ?_⟩⟩
        · rw [g5 n v2 a2 a3 a4 a5 a6 (nI 0) a8 (by omega)]
          unfold f_X3_doAll_b56
          exact ino hne rfl
        · obtain ⟨m, rfl⟩ : ∃ m', m = m' + 1 + 1 := ⟨m - 2, by omega⟩
          obtain ⟨c1, c2, c3, c4, c5, c6, c7⟩ := g6 was bg a st re ca dg od dr mo
          refine ⟨s1, nI e, c2, c3, c4, c5, ?_⟩
          rw [f_X7_faulty_b12]
          refine ino (by rw [len' (by omega) (by omega)]; omega) (iy rfl (bnd c6 (ino (show ¬ nI rs ≤ 0 by rw [lel (by omega) (by omega)]; omega) ?_)))
          unfold f_X7_faulty_b54
          rw [f_X7_faulty_b12]
          dsimp only
          rw [c7]
          by_cases q : nI T ≤ nI e
          · exact iy q rfl
          · exact ino q (ino (fun y => by
              have l := nI_pos' (n := i) (by omega)
              rw [y] at l
              exact absurd l (by decide)) rfl)
/-- the program's run over the whole text -/
theorem doAll_ok {B : Nat} (hB : B + 60 < 2147483648) {u : UL} {s : UA} (h : Rl B u s) (f : UA) {T : Nat} (hT : T ≤ 60) (r0) : ∃ (r : Int32) (o' : UO) (u' : UL), f_X3_doAll ((f, nI T, r0), u) = some (r, (o', u')) ∧ o'.1 = f ∧ o'.2.1 = nI T ∧ ((o'.2.2.2.2.2.2.2.1 = nI 0 ∧ NoFault (B + 60) f T 60 0 0 s r u') ∨ AFault f T 60 0 s r o') := by
  obtain ⟨a2, a3, a4, a5, a6, a7, a8⟩ := r0
  obtain ⟨r, o', u', h1, h2⟩ := run_ok f hT 60 0 0 B FUEL u s a2 a3 a4 a5 a6 a8 (by omega) (by omega) (by omega) (by omega) (by rw [fuel1]; omega) h
  exact ⟨r, o', u', h1, h2⟩
theorem fault_call {B : Nat} (hB : B + 60 < 2147483648) {um : UM} {ux : UX} (hJ : Jn B um ux) (p : Int32) : Call2 B (f_X6_fault um p) (f_X7_fault ux p) := by
  obtain ⟨now, trial, hi, f, ln, r0⟩ := um
  obtain ⟨s, was, bg, a, st, tx, ty, at1, re1, ca1, di1, or1, dr1, mo1⟩ := ux
  obtain ⟨hR, hH, ht, T, hT, e1, e2⟩ := hJ
  dsimp only at ht e1 e2 hR hH
  subst ht e1 e2
  rcases fin1' p 2 (by omega) with ⟨j, hj, rfl⟩ | ⟨q1, q2⟩
  · have hi2 : f_X6_isIn (nI j) 0 2 = some 1 := isIn_k (by omega) hj (by omega)
    have hi3 : f_X7_in (nI j) 0 2 = some 1 := in_k (by omega) hj (by omega)
    obtain ⟨r, o', u', k1, k2, k3, k4⟩ := doAll_ok hB hR f hT r0
    have hback : ∀ s' : UA, Rl B now (cpy (cpy s a 264) s' 264) := fun s' => rl_congr hR (fun i hi => by
      rw [cpy_in hi, cpy_in hi])
    have ho' : ∀ w : UX, w.2.2.2.2.2.1 = f → w.2.2.2.2.2.2.1 = nI T → TextR o' w := fun w w1 w2 => ⟨k2.trans w1.symm, T, hT, k3, w2⟩
    rcases k4 with ⟨k5, v, s', w1, w2, w3, w4, w5⟩ | ⟨rs, q, w0, w1, w2, w3, w4, w5, w6⟩
    · obtain ⟨c1, c2, c3, c4, c5, c6, c7⟩ := w4 FUEL was bg (cpy s a 264) st re1 ca1 di1 or1 dr1 mo1 (by rw [fuel1]; omega)
      refine ⟨-1000004, (now, u', hi, o'), (cpy (cpy s a 264) s' 264, was, bg, cpy s a 264, st, f, nI T, nI T, c1, c2, c3, c4, c5, c6), ?_, ?_, hback s', hH, ho' _ rfl rfl⟩
      · unfold f_X6_fault
        refine bnd hi2 (ino n10 (bnd (fresh_ok hR) (bnd k1 (bnd (a := -1000004) ?_ rfl))))
        unfold f_X3_aboutFault
        exact iy (show o'.2.2.2.2.2.2.2.1 = 0 from k5) rfl
      · unfold f_X7_fault
        refine bnd hi3 (ino n10 (bnd (a := (-1000004, (cpy (cpy s a 264) s' 264, was, bg, cpy s a 264, st, f, nI T, nI T, c1, c2, c3, c4, c5, c6))) ?_ (iy rfl rfl)))
        unfold f_X7_faulty
        refine bnd (puts_eq _) (c7.trans ?_)
        unfold f_X7_faulty_b58
        exact bnd (restores_eq _) rfl
    · obtain ⟨s', at', c3, c4, c5, c6, c7⟩ := w6 FUEL was bg (cpy s a 264) st re1 ca1 di1 or1 dr1 mo1 (by rw [fuel1]; omega)
      have hne : ¬ nI rs = 0 := by rw [eql (by omega) (by omega)]; exact w1
      have hq4 : ¬ nI q = -1000004 := fun y => by
        have l := nI_pos' (n := q) (by omega)
        rw [y] at l
        exact absurd l (by decide)
      have hfy : f_X7_faulty (s, was, bg, a, st, f, nI T, at1, re1, ca1, di1, or1, dr1, mo1) = some (nI q, (cpy (cpy s a 264) s' 264, was, bg, cpy s a 264, st, f, nI T, at', nI rs, (if rs = 1 then o'.2.2.2.2.2.2.2.2 else -1000004), c3, c4, c5, c6)) := by
        unfold f_X7_faulty
        refine bnd (puts_eq _) (c7.trans ?_)
        unfold f_X7_faulty_b58
        exact bnd (restores_eq _) rfl
      have hcl : ∀ y, f_X3_aboutFault o' (nI j) = some y → f_X6_fault (now, trial, hi, f, nI T, r0) (nI j) = some (y, (now, u', hi, o')) := fun y hy => by
        unfold f_X6_fault
        exact bnd hi2 (ino n10 (bnd (fresh_ok hR) (bnd k1 (bnd hy rfl))))
      have hne' : ¬ o'.2.2.2.2.2.2.2.1 = 0 := by rw [w3]; exact hne
      rcases (show j = 0 ∨ j = 1 ∨ j = 2 by omega) with rfl | rfl | rfl
      · refine ⟨nI q, (now, u', hi, o'), (cpy (cpy s a 264) s' 264, was, bg, cpy s a 264, st, f, nI T, at', nI rs, (if rs = 1 then o'.2.2.2.2.2.2.2.2 else -1000004), c3, c4, c5, c6), hcl _ ?_, ?_, hback s', hH, ho' _ rfl rfl⟩
        rotate_left
        · unfold f_X7_fault
          exact bnd hi3 (ino n10 (bnd hfy (ino hq4 (iy (show nI 0 = 0 by decide) rfl))))
        · unfold f_X3_aboutFault
          exact ino hne' (iy (show nI 0 = 0 by decide) (congrArg some w5))
      · refine ⟨nI rs, (now, u', hi, o'), (cpy (cpy s a 264) s' 264, was, bg, cpy s a 264, st, f, nI T, at', nI rs, (if rs = 1 then o'.2.2.2.2.2.2.2.2 else -1000004), c3, c4, c5, c6), hcl _ ?_, ?_, hback s', hH, ho' _ rfl rfl⟩
        rotate_left
        · unfold f_X7_fault
          exact bnd hi3 (ino n10 (bnd hfy (ino hq4 (ino (show ¬ nI 1 = 0 by decide) (iy (show nI 1 = 1 by decide) rfl)))))
        · unfold f_X3_aboutFault
          exact ino hne' (ino (show ¬ nI 1 = 0 by decide) (iy (show nI 1 = 1 by decide) (congrArg some w3)))
      · refine ⟨if rs = 1 then o'.2.2.2.2.2.2.2.2 else -1000004, (now, u', hi, o'), (cpy (cpy s a 264) s' 264, was, bg, cpy s a 264, st, f, nI T, at', nI rs, (if rs = 1 then o'.2.2.2.2.2.2.2.2 else -1000004), c3, c4, c5, c6), hcl _ ?_, ?_, hback s', hH, ho' _ rfl rfl⟩
        rotate_left
        · unfold f_X7_fault
          exact bnd hi3 (ino n10 (bnd hfy (ino hq4 (ino (show ¬ nI 2 = 0 by decide) (ino (show ¬ nI 2 = 1 by decide) rfl)))))
        · unfold f_X3_aboutFault
          refine ino hne' (ino (show ¬ nI 2 = 0 by decide) (ino (show ¬ nI 2 = 1 by decide) ?_))
          rw [w3]
          by_cases hr1 : rs = 1
          · subst hr1
            exact iy (show nI 1 = 1 by decide) (congrArg some (if_pos rfl).symm)
          · refine ino (by rw [eql (by omega) (by omega)]; exact hr1) (congrArg some (if_neg hr1).symm)
  · refine ⟨-1000001, (now, trial, hi, f, nI T, r0), (s, was, bg, a, st, f, nI T, at1, re1, ca1, di1, or1, dr1, mo1), ?_, ?_, hR, hH, rfl, T, hT, rfl, rfl⟩
    · unfold f_X6_fault
      exact bnd q1 (iy rfl rfl)
    · unfold f_X7_fault
      exact bnd q2 (iy rfl rfl)
theorem play_call {B : Nat} (hB : B + 60 < 2147483648) {um : UM} {ux : UX} (hJ : Jn B um ux) : Call2 (B + 60) (f_X6_play um) (f_X7_play ux) := by
  obtain ⟨now, trial, hi, f, ln, r0⟩ := um
  obtain ⟨s, was, bg, a, st, tx, ty, at1, re1, ca1, di1, or1, dr1, mo1⟩ := ux
  obtain ⟨hR, hH, ht, T, hT, e1, e2⟩ := hJ
  dsimp only at ht e1 e2 hR hH
  subst ht e1 e2
  obtain ⟨r, o', u', k1, k2, k3, k4⟩ := doAll_ok hB hR f hT r0
  have hback : ∀ s' : UA, Rl B now (cpy (cpy s a 264) s' 264) := fun s' => rl_congr hR (fun i hi => by
    rw [cpy_in hi, cpy_in hi])
  have ho' : ∀ w : UX, w.2.2.2.2.2.1 = f → w.2.2.2.2.2.2.1 = nI T → TextR o' w := fun w w1 w2 => ⟨k2.trans w1.symm, T, hT, k3, w2⟩
  rcases k4 with ⟨k5, v, s', w1, w2, w3, w4, w5⟩ | ⟨rs, q, w0, w1, w2, w3, w4, w5, w6⟩
  · obtain ⟨c1, c2, c3, c4, c5, c6, c7⟩ := w4 FUEL was bg (cpy s a 264) st re1 ca1 di1 or1 dr1 mo1 (by rw [fuel1]; omega)
    have hfy : f_X7_faulty (s, was, bg, a, st, f, nI T, at1, re1, ca1, di1, or1, dr1, mo1) = some (-1000004, (cpy (cpy s a 264) s' 264, was, bg, cpy s a 264, st, f, nI T, nI T, c1, c2, c3, c4, c5, c6)) := by
      unfold f_X7_faulty
      refine bnd (puts_eq _) (c7.trans ?_)
      unfold f_X7_faulty_b58
      exact bnd (restores_eq _) rfl
    obtain ⟨r', o'', u'', l1, l2, l3, l4⟩ := doAll_ok hB (hback s') f hT r0
    have heq : (r', (o'', u'')) = (r, (o', u')) := Option.some.inj (l1.symm.trans k1)
    have er : r' = r := congrArg Prod.fst heq
    have eo : o'' = o' := congrArg (fun z => z.2.1) heq
    have eu : u'' = u' := congrArg (fun z => z.2.2) heq
    subst er eo eu
    rcases l4 with ⟨_, v', s2, x1, x2, x3, x4, x5⟩ | ⟨rs, q, x0, x1, x2, x3, _⟩
    · obtain ⟨y1, y2, y3, y4, y5, y6, y7⟩ := x5 FUEL was (cpy (cpy (cpy s a 264) s' 264) bg 264) (cpy s a 264) st c1 c2 c3 c4 c5 c6 (by rw [fuel1]; omega)
      obtain ⟨h', z1, z2⟩ := keep_good hR x3 (show B ≤ B + 60 by omega) hH (Or.inr ⟨v', by omega, x2⟩) o''
      obtain ⟨was', st', z3, z4⟩ := z2 (s2, was, cpy (cpy (cpy s a 264) s' 264) bg 264, cpy s a 264, st, f, nI T, nI T, y1, y2, y3, y4, y5, y6) rfl (fun k hk => by
        dsimp only
        rw [cpy_in hk, cpy_in hk, cpy_in hk]) rfl
      refine ⟨r', (u'', u'', h', o''), (s2, was', cpy (cpy (cpy s a 264) s' 264) bg 264, cpy s a 264, st', f, nI T, nI T, y1, y2, y3, y4, y5, y6), ?_, ?_, x3, z4, ho' _ rfl rfl⟩
      rotate_left
      · unfold f_X7_play
        refine bnd hfy (iy rfl (bnd (keeps_eq _) (y7.trans ?_)))
        rw [← x2]
        exact bnd z3 rfl
      · unfold f_X6_play
        exact bnd (fresh_ok hR) (bnd k1 (bnd z1 rfl))
    · rw [k5] at x3
      rw [eqn (by omega) (by omega)] at x3
      exact absurd x3.symm x1
  · obtain ⟨s', at', c3, c4, c5, c6, c7⟩ := w6 FUEL was bg (cpy s a 264) st re1 ca1 di1 or1 dr1 mo1 (by rw [fuel1]; omega)
    have hq4 : ¬ nI q = -1000004 := fun y => by
      have l := nI_pos' (n := q) (by omega)
      rw [y] at l
      exact absurd l (by decide)
    have hfy : f_X7_faulty (s, was, bg, a, st, f, nI T, at1, re1, ca1, di1, or1, dr1, mo1) = some (nI q, (cpy (cpy s a 264) s' 264, was, bg, cpy s a 264, st, f, nI T, at', nI rs, (if rs = 1 then o'.2.2.2.2.2.2.2.2 else -1000004), c3, c4, c5, c6)) := by
      unfold f_X7_faulty
      refine bnd (puts_eq _) (c7.trans ?_)
      unfold f_X7_faulty_b58
      exact bnd (restores_eq _) rfl
    subst w4
    refine ⟨-1000002, (now, u', hi, o'), (cpy (cpy s a 264) s' 264, was, bg, cpy s a 264, st, f, nI T, at', nI rs, (if rs = 1 then o'.2.2.2.2.2.2.2.2 else -1000004), c3, c4, c5, c6), ?_, ?_, rl_mono (hback s') (show B ≤ B + 60 by omega), hist_mono hH (show B ≤ B + 60 by omega), ho' _ rfl rfl⟩
    rotate_left
    · unfold f_X7_play
      exact bnd hfy (ino hq4 rfl)
    · unfold f_X6_play
      exact bnd (fresh_ok hR) (bnd k1 (bnd (keep_bad (Or.inr (Or.inl rfl))) rfl))
