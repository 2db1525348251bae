/-! ===== one order ===== -/
def DN (x : Option (Int32 × UX)) : Option (Int32 × UX) := x.bind fun r24 => (if r24.1 ≤ (-1000001) then (if r24.1 = (-1000001) then some (2, r24.2) else some (3, r24.2)) else some (0, r24.2))
def ordK (K : (UO × UL) → Int32 → Int32 → Option (Int32 × (UO × UL))) (r25 : UO) (u2 : UL) (v2 v3 : Int32) : Option (Int32 × (UO × UL)) := ((f_X3_reasonAgainstForm r25).bind fun r30 => (if r30 = 0 then ((f_X3_carryOut ((r25.1, r25.2.1, r25.2.2.1, r25.2.2.2.1, r25.2.2.2.2.1, r25.2.2.2.2.2.1, r25.2.2.2.2.2.2.1, r30, r25.2.2.2.2.2.2.2.2), u2)).bind fun r45 => (if 0 ≤ r45.1 then f_X3_doAll_b56 K (r45.2.1, r45.2.2) v2 v3 else f_X3_doAll_b56 K ((r45.2.1.1, r45.2.1.2.1, r45.2.1.2.2.1, r45.2.1.2.2.2.1, r45.2.1.2.2.2.2.1, r45.2.1.2.2.2.2.2.1, r45.2.1.2.2.2.2.2.2.1, 3, r45.2.1.2.2.2.2.2.2.2.2), r45.2.2) v2 v3)) else f_X3_doAll_b56 K ((r25.1, r25.2.1, r25.2.2.1, r25.2.2.2.1, r25.2.2.2.2.1, r25.2.2.2.2.2.1, r25.2.2.2.2.2.2.1, r30, r25.2.2.2.2.2.2.2.2), u2) v2 v3))
theorem ord_gen {I : Prop} {B : Nat} {u : UL} {s : UA} {c : Option (Int32 × UL)} {m : UX → Option (Int32 × UX)} (hS : StepO I B u s c m) : ∃ (rs : Nat) (u' : UL) (s' : UA), (∀ w : UX, w.1 = s → ∃ d e, DN (m w) = some (nI rs, wd w s' d e)) ∧ ((¬ I ∧ rs = 2 ∧ u' = u) ∨ (I ∧ ∃ r, c = some (r, u') ∧ ((0 ≤ r ∧ rs = 0 ∧ Rl B u' s') ∨ (¬ 0 ≤ r ∧ rs = 3)))) := by
  obtain ⟨r, u', s', c1, m1, hg⟩ := hS
  rcases hg with ⟨hb, rfl, rfl⟩ | ⟨hI, ⟨n, hn, rfl⟩, hR⟩
  · rcases hb with ⟨rfl, hI⟩ | ⟨rfl, hI⟩ | ⟨rfl, hI⟩
    · refine ⟨2, u', s', fun w hw => ?_, Or.inl ⟨hI, rfl, rfl⟩⟩
      obtain ⟨d, e, h⟩ := m1 w hw
      exact ⟨d, e, bnd h (iy (show (-1000001 : Int32) ≤ -1000001 by decide) (iy (show (-1000001 : Int32) = -1000001 by decide) rfl))⟩
    · refine ⟨3, u', s', fun w hw => ?_, Or.inr ⟨hI, _, c1, Or.inr ⟨by decide, rfl⟩⟩⟩
      obtain ⟨d, e, h⟩ := m1 w hw
      exact ⟨d, e, bnd h (iy (show (-1000002 : Int32) ≤ -1000001 by decide) (ino (show ¬ (-1000002 : Int32) = -1000001 by decide) rfl))⟩
    · refine ⟨3, u', s', fun w hw => ?_, Or.inr ⟨hI, _, c1, Or.inr ⟨by decide, rfl⟩⟩⟩
      obtain ⟨d, e, h⟩ := m1 w hw
      exact ⟨d, e, bnd h (iy (show (-1000003 : Int32) ≤ -1000001 by decide) (ino (show ¬ (-1000003 : Int32) = -1000001 by decide) rfl))⟩
  · refine ⟨0, u', s', fun w hw => ?_, Or.inr ⟨hI, _, c1, Or.inl ⟨nI_pos' hn, rfl, hR⟩⟩⟩
    obtain ⟨d, e, h⟩ := m1 w hw
    exact ⟨d, e, bnd h (ino (good_gt (Or.inr ⟨n, hn, rfl⟩)).1 rfl)⟩
/-- one order whose form is right -/
def OrdOk (B : Nat) (f : UA) (T k q e : Nat) (u : UL) (s : UA) : Prop := ∃ (rs : Nat) (u' : UL) (s' : UA), rs ≤ 3 ∧ rs ≠ 1 ∧ (rs = 0 → Rl B u' s') ∧
    (∀ (K) (a6 a7 a8 v2 v3 : Int32), ordK K (f, nI T, nI k, nI q, nI e, -1, a6, a7, a8) u v2 v3 = f_X3_doAll_b56 K ((f, nI T, nI k, nI q, nI e, -1, a6, nI rs, a8), u') v2 v3) ∧
    (∀ (was bg a : UA) (st : Int32) (re ca dg dr mo : Int32), (k ≠ 2 → dg = nI q) → ∃ d e', DN (f_X7_does (s, was, bg, a, st, f, nI T, nI e, re, ca, dg, nI k, dr, mo)) = some (nI rs, (s', was, bg, a, st, f, nI T, nI e, re, ca, dg, nI k, d, e')))
theorem dn_eta (x : Option (Int32 × UX)) : DN (x.bind fun r => some (r.1, r.2)) = DN x := by
  cases x <;> rfl
theorem ord_k {I : Prop} {B : Nat} {u : UL} {s : UA} {C : Option (Int32 × UL)} {M : UX → Option (Int32 × UX)} (f : UA) (T k q e : Nat) {lo hi : Int32} (hS : StepO I B u s C M)
    (hI : (I ∧ f_X6_isIn (nI q) lo hi = some 1) ∨ (¬ I ∧ f_X6_isIn (nI q) lo hi = some 0))
    (hl : ∀ a4 r, f_X3_lowestNumber (f, nI T, nI k, nI q, a4, r) = some lo) (hg : ∀ a4 r, f_X3_greatestNumber (f, nI T, nI k, nI q, a4, r) = some hi)
    (hc : ∀ a4 r, f_X3_carryOut ((f, nI T, nI k, nI q, a4, r), u) = C.bind fun z => some (z.1, ((f, nI T, nI k, nI q, a4, r), z.2)))
    (hm : ∀ was bg a st re ca dg dr mo, (k ≠ 2 → dg = nI q) → f_X7_does (s, was, bg, a, st, f, nI T, nI e, re, ca, dg, nI k, dr, mo) = (M (s, was, bg, a, st, f, nI T, nI e, re, ca, dg, nI k, dr, mo)).bind fun z => some (z.1, z.2)) : OrdOk B f T k q e u s := by
  obtain ⟨rs, u', s', h1, h2⟩ := ord_gen hS
  have hmm : ∀ (was bg a : UA) (st : Int32) (re ca dg dr mo : Int32), (k ≠ 2 → dg = nI q) → ∃ d e', DN (f_X7_does (s, was, bg, a, st, f, nI T, nI e, re, ca, dg, nI k, dr, mo)) = some (nI rs, (s', was, bg, a, st, f, nI T, nI e, re, ca, dg, nI k, d, e')) := fun was bg a st re ca dg dr mo hd => by
    obtain ⟨d, e', h⟩ := h1 (s, was, bg, a, st, f, nI T, nI e, re, ca, dg, nI k, dr, mo) rfl
    refine ⟨d, e', ?_⟩
    rw [hm was bg a st re ca dg dr mo hd, dn_eta]
    exact h
  have hrf : ∀ r z, f_X6_isIn (nI q) lo hi = some z → f_X3_reasonAgainstForm (f, nI T, nI k, nI q, nI e, -1, r) = if z = 0 then some 2 else some 0 := fun r z h => by
    unfold f_X3_reasonAgainstForm
    exact iy rfl (bnd (hl _ _) (bnd (hg _ _) (bnd h rfl)))
  rcases h2 with ⟨nI', rfl, rfl⟩ | ⟨yI, r, c1, hr⟩
  · rcases hI with ⟨a, _⟩ | ⟨_, hz⟩
    · exact absurd a nI'
    · refine ⟨2, u', s', by omega, by omega, fun h => absurd h (by decide), fun K a6 a7 a8 v2 v3 => ?_, hmm⟩
      unfold ordK
      refine bnd ((hrf _ _ hz).trans (if_pos rfl)) (ino (by decide) rfl)
  · rcases hI with ⟨_, hz⟩ | ⟨a, _⟩
    · have hf : ∀ r, f_X3_reasonAgainstForm (f, nI T, nI k, nI q, nI e, -1, r) = some 0 := fun r => (hrf r _ hz).trans (if_neg n10)
      rcases hr with ⟨r0, rfl, hR⟩ | ⟨r0, rfl⟩
      · refine ⟨0, u', s', by omega, by omega, fun _ => hR, fun K a6 a7 a8 v2 v3 => ?_, hmm⟩
        unfold ordK
        refine bnd (hf _) (iy rfl (bnd ((hc _ _).trans (bnd c1 rfl)) ?_))
        exact iy r0 rfl
      · refine ⟨3, u', s', by omega, by omega, fun h => absurd h (by decide), fun K a6 a7 a8 v2 v3 => ?_, hmm⟩
        unfold ordK
        refine bnd (hf _) (iy rfl (bnd ((hc _ _).trans (bnd c1 rfl)) ?_))
        exact ino r0 rfl
    · exact absurd yI a
theorem isIn_01 (p a b : Int32) : f_X6_isIn p a b = some 1 ∨ f_X6_isIn p a b = some 0 := by
  by_cases h : p < a ∨ b < p
  · exact Or.inr (isIn_n h)
  · exact Or.inl (isIn_y (fun x => h (Or.inl x)) (fun x => h (Or.inr x)))
theorem isIn_self (p a b : Int32) : (f_X6_isIn p a b = some 1 ∧ f_X6_isIn p a b = some 1) ∨ (¬ f_X6_isIn p a b = some 1 ∧ f_X6_isIn p a b = some 0) := by
  rcases isIn_01 p a b with h | h
  · exact Or.inl ⟨h, h⟩
  · exact Or.inr ⟨isIn_no h, h⟩
theorem isIn_turn {q : Nat} (hq : q ≤ 9) : ((¬ (nI q < -4 ∨ 4 < nI q) ∧ nI q ≠ 0) ∧ f_X6_isIn (nI q) 1 4 = some 1) ∨ (¬ (¬ (nI q < -4 ∨ 4 < nI q) ∧ nI q ≠ 0) ∧ f_X6_isIn (nI q) 1 4 = some 0) := by
  rcases (show q = 0 ∨ q = 1 ∨ q = 2 ∨ q = 3 ∨ q = 4 ∨ q = 5 ∨ q = 6 ∨ q = 7 ∨ q = 8 ∨ q = 9 by omega) with rfl | rfl | rfl | rfl | rfl | rfl | rfl | rfl | rfl | rfl <;> decide
theorem isIn_left {q : Nat} (hq : q ≤ 9) : ((¬ (-nI q < -4 ∨ 4 < -nI q) ∧ -nI q ≠ 0) ∧ f_X6_isIn (nI q) 1 4 = some 1) ∨ (¬ (¬ (-nI q < -4 ∨ 4 < -nI q) ∧ -nI q ≠ 0) ∧ f_X6_isIn (nI q) 1 4 = some 0) := by
  rcases (show q = 0 ∨ q = 1 ∨ q = 2 ∨ q = 3 ∨ q = 4 ∨ q = 5 ∨ q = 6 ∨ q = 7 ∨ q = 8 ∨ q = 9 by omega) with rfl | rfl | rfl | rfl | rfl | rfl | rfl | rfl | rfl | rfl <;> decide
theorem ordOk_mono {B B' : Nat} {f : UA} {T k q e : Nat} {u : UL} {s : UA} (h : OrdOk B f T k q e u s) (hB : B ≤ B') : OrdOk B' f T k q e u s := by
  obtain ⟨rs, u', s', h1, h2, h3, h4, h5⟩ := h
  exact ⟨rs, u', s', h1, h2, fun x => rl_mono (h3 x) hB, h4, h5⟩
theorem order_form {B : Nat} (hB : B < 2147483648) {u : UL} {s : UA} (h : Rl B u s) (f : UA) (T e : Nat) {k q : Nat} (hk : k < 8) (hq : q ≤ 9) (h2 : k = 2 → q = 0) : OrdOk (B + 1) f T k q e u s := by
  rcases (show k = 0 ∨ k = 1 ∨ k = 2 ∨ k = 3 ∨ k = 4 ∨ k = 5 ∨ k = 6 ∨ k = 7 by omega) with rfl | rfl | rfl | rfl | rfl | rfl | rfl | rfl
  · refine ordOk_mono (ord_k f T 0 q e (lo := 0) (hi := 3) (lift_step h (nI q)) (isIn_self _ _ _) (fun _ _ => rfl) (fun _ _ => rfl) (fun a4 r => rfl) (fun was bg a st re ca dg dr mo hd => ?_)) (Nat.le_succ _)
    rw [hd (by decide)]
    rfl
  · refine ordOk_mono (ord_k f T 1 q e (lo := 0) (hi := 3) (lay_step h (nI q)) (isIn_self _ _ _) (fun _ _ => rfl) (fun _ _ => rfl) (fun a4 r => rfl) (fun was bg a st re ca dg dr mo hd => ?_)) (Nat.le_succ _)
    rw [hd (by decide)]
    rfl
  · have hq0 := h2 rfl
    subst hq0
    exact ordOk_mono (ord_k f T 2 0 e (lo := 0) (hi := 3) (weigh_step h) (Or.inl ⟨trivial, rfl⟩) (fun _ _ => rfl) (fun _ _ => rfl) (fun a4 r => rfl) (fun was bg a st re ca dg dr mo hd => rfl)) (Nat.le_succ _)
  · refine ordOk_mono (ord_k f T 3 q e (lo := 1) (hi := 4) (turn_step h (nI q)) (isIn_turn hq) (fun _ _ => rfl) (fun _ _ => rfl) (fun a4 r => rfl) (fun was bg a st re ca dg dr mo hd => ?_)) (Nat.le_succ _)
    rw [hd (by decide)]
    rfl
  · refine ordOk_mono (ord_k f T 4 q e (lo := 1) (hi := 4) (turn_step h (-nI q)) (isIn_left hq) (fun _ _ => rfl) (fun _ _ => rfl) (fun a4 r => rfl) (fun was bg a st re ca dg dr mo hd => ?_)) (Nat.le_succ _)
    rw [hd (by decide)]
    rfl
  · refine ord_k f T 5 q e (lo := 0) (hi := 1) (mount_step h (nI q)) (isIn_self _ _ _) (fun _ _ => rfl) (fun _ _ => rfl) (fun a4 r => rfl) (fun was bg a st re ca dg dr mo hd => ?_)
    rw [hd (by decide)]
    rfl
  · refine ordOk_mono (ord_k f T 6 q e (lo := 0) (hi := 1) (take_step h (nI q)) (isIn_self _ _ _) (fun _ _ => rfl) (fun _ _ => rfl) (fun a4 r => rfl) (fun was bg a st re ca dg dr mo hd => ?_)) (Nat.le_succ _)
    rw [hd (by decide)]
    rfl
  · refine ord_k f T 7 q e (lo := 0) (hi := 3) (serve_step hB h (nI q)) (isIn_self _ _ _) (fun _ _ => rfl) (fun _ _ => rfl) (fun a4 r => rfl) (fun was bg a st re ca dg dr mo hd => ?_)
    rw [hd (by decide)]
    rfl
theorem order_ok {B : Nat} (hB : B < 2147483648) {u : UL} {s : UA} (h : Rl B u s) (f : UA) {T i : Nat} (hT : T ≤ 60) (hi : i < T) : ∃ (rs e : Nat) (x d br : Int32) (u' : UL) (s' : UA), rs ≤ 3 ∧ i ≤ e ∧ e ≤ T ∧ (rs = 0 → i < e ∧ Rl (B + 1) u' s') ∧
    (∀ (n v2 : Nat) (a2 a3 a4 a5 a6 a7 a8 : Int32), v2 < 60 → f_X3_doAll_b9 (n + 1) ((f, nI T, a2, a3, a4, a5, a6, a7, a8), u) (nI v2) (nI i) = f_X3_doAll_b56 (f_X3_doAll_b9 n) ((f, nI T, x, d, nI e, br, a6, nI rs, a8), u') (nI v2) (nI i)) ∧
    (∀ (was bg a : UA) (st re ca dg od dr mo : Int32), ∃ ca' dg' od' dr' mo', f_X7_doesNext (s, was, bg, a, st, f, nI T, nI i, re, ca, dg, od, dr, mo) = some (nI rs, (s', was, bg, a, st, f, nI T, nI e, re, ca', dg', od', dr', mo')) ∧ ca' = if rs = 1 then br else -1000004) := by
  obtain ⟨e, x, d, br, h1, h2, hc, hm, hb⟩ := read_both f hT (Nat.le_of_lt hi)
  have hc1 : ∀ (n v2 : Nat) (a2 a3 a4 a5 a6 a7 a8 : Int32), v2 < 60 → f_X3_doAll_b9 (n + 1) ((f, nI T, a2, a3, a4, a5, a6, a7, a8), u) (nI v2) (nI i) = ordK (f_X3_doAll_b9 n) (f, nI T, x, d, nI e, br, a6, a7, a8) u (nI v2) (nI i) := fun n v2 a2 a3 a4 a5 a6 a7 a8 hv => by
    rw [f_X3_doAll_b9]
    refine ino (by rw [lle (by omega) (by omega)]; omega) (ino (by rw [len' (by omega) (by omega)]; omega) ?_)
    exact bnd (hc a2 a3 a4 a5 (a6, a7, a8)) rfl
  rcases hb with ⟨rfl, hie, k, q, hk, hq, rfl, rfl, hkq⟩ | ⟨m, hm9, rfl⟩
  · obtain ⟨rs, u', s', g1, g2, g3, g4, g5⟩ := order_form hB h f T e hk hq hkq
    refine ⟨rs, e, nI k, nI q, -1, u', s', g1, h1, h2, fun x => ⟨hie, g3 x⟩, fun n v2 a2 a3 a4 a5 a6 a7 a8 hv => ?_, fun was bg a st re ca dg od dr mo => ?_⟩
    · rw [hc1 n v2 a2 a3 a4 a5 a6 a7 a8 hv, g4]
    · obtain ⟨dg', e1, e2⟩ := hm s was bg a st re ca dg od (dr, mo)
      obtain ⟨d1, d2, e3⟩ := g5 was bg a st re (-1000004) dg' dr mo (fun hk2 => e2 rfl (fun x => hk2 (by
        rw [eqn (by omega) (by omega)] at x
        exact x)))
      refine ⟨-1000004, dg', nI k, d1, d2, ?_, (if_neg g2).symm⟩
      unfold f_X7_doesNext
      exact bnd e1 (iy (show (-1 : Int32) < 0 by decide) e3)
  · refine ⟨1, e, x, d, nI m, u, s, by omega, h1, h2, fun h => absurd h (by decide), fun n v2 a2 a3 a4 a5 a6 a7 a8 hv => ?_, fun was bg a st re ca dg od dr mo => ?_⟩
    · rw [hc1 n v2 a2 a3 a4 a5 a6 a7 a8 hv]
      unfold ordK
      refine bnd (a := 1) ?_ (ino n10 rfl)
      unfold f_X3_reasonAgainstForm
      exact ino (show ¬ nI m = -1 from fun x => by rw [nI_m1 (by omega)] at x; exact x) rfl
    · obtain ⟨dg', e1, e2⟩ := hm s was bg a st re ca dg od (dr, mo)
      refine ⟨nI m, dg', x, dr, mo, ?_, (if_pos rfl).symm⟩
      unfold f_X7_doesNext
      exact bnd e1 (ino (show ¬ nI m < 0 by rw [ltl (by omega) (by omega)]; omega) rfl)
