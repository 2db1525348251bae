/-! ===== one order is read ===== -/
theorem n10 : ¬ (1 : Int32) = 0 := by decide
theorem sgn_lt {f : UA} {T e : Nat} (h : ¬ sgn f T e = -1) : e < T := by
  unfold sgn at h
  by_cases q : e < T
  · exact q
  · exact absurd (if_neg q) h
theorem rs_y (f : UA) {T : Nat} (hT : T ≤ 60) {e : Nat} (he : e ≤ 60) (x d : Int32) (r) {c : Int32} (h : sgn f T e = c) : f_X3_readSign (f, nI T, x, d, nI e, r) c = some (1, (f, nI T, x, d, nI (e + 1), r)) := by
  unfold f_X3_readSign
  refine bnd (signAt_eq f hT _ he) (iy h ?_)
  dsimp only
  rw [al]
theorem rs_n (f : UA) {T : Nat} (hT : T ≤ 60) {e : Nat} (he : e ≤ 60) (x d : Int32) (r) {c : Int32} (h : ¬ sgn f T e = c) : f_X3_readSign (f, nI T, x, d, nI e, r) c = some (0, (f, nI T, x, d, nI e, r)) := by
  unfold f_X3_readSign
  exact bnd (signAt_eq f hT _ he) (ino h rfl)
theorem dig_of {x : Int32} (h1 : ¬ x < 48) (h2 : ¬ 57 < x) : ∃ q, q ≤ 9 ∧ x - 48 = nI q := by
  rcases fin1 x 57 (by omega) with ⟨j, hj, rfl⟩ | h | h
  · rw [ltl (by omega) (by omega)] at h1
    exact ⟨j - 48, by omega, sbl (by omega)⟩
  · exact absurd (Int32.lt_trans h (by decide)) h1
  · exact absurd h h2
theorem rd_n (f : UA) {T : Nat} (hT : T ≤ 60) {e : Nat} (he : e ≤ 60) (x d : Int32) (r) (h : sgn f T e < 48 ∨ 57 < sgn f T e) : f_X3_readDigit (f, nI T, x, d, nI e, r) = some (0, (f, nI T, x, d, nI e, r)) := by
  unfold f_X3_readDigit
  exact bnd (signAt_eq f hT _ he) (bnd (isIn_n h) (iy rfl rfl))
theorem rd_y (f : UA) {T : Nat} (hT : T ≤ 60) {e : Nat} (he : e ≤ 60) (x d : Int32) (r) (h1 : ¬ sgn f T e < 48) (h2 : ¬ 57 < sgn f T e) : f_X3_readDigit (f, nI T, x, d, nI e, r) = some (1, (f, nI T, x, sgn f T e - 48, nI (e + 1), r)) := by
  unfold f_X3_readDigit
  refine bnd (signAt_eq f hT _ he) (bnd (isIn_y h1 h2) (ino (by decide) ?_))
  dsimp only
  rw [al]
theorem b66_y (f : UA) {T : Nat} (hT : T ≤ 60) {e : Nat} (he : e ≤ 60) (x d a5 : Int32) (r) (i : Int32) (h : sgn f T e = 59) : f_X3_read_b66 (f, nI T, x, d, nI e, a5, r) i = some (f, nI T, x, d, nI (e + 1), -1, r) := by
  unfold f_X3_read_b66
  exact bnd (rs_y f hT he x d (a5, r) h) (ino n10 (ino n10 rfl))
theorem b79_eq (f : UA) {T : Nat} {e i : Nat} (hi : i ≤ e) (x d a5 : Int32) (r) : f_X3_read_b79 (f, nI T, x, d, nI e, a5, r) (nI i) = some (f, nI T, x, d, nI e, nI (e - i), r) := by
  unfold f_X3_read_b79 f_X3_read_b80
  refine iy rfl ?_
  unfold f_X3_read_b96
  dsimp only
  rw [sbn hi]
theorem b66_n (f : UA) {T : Nat} (hT : T ≤ 60) {e i : Nat} (hi : i ≤ e) (he : e ≤ 60) (x d a5 : Int32) (r) (h : ¬ sgn f T e = 59) : f_X3_read_b66 (f, nI T, x, d, nI e, a5, r) (nI i) = some (f, nI T, x, d, nI e, nI (e - i), r) := by
  unfold f_X3_read_b66
  exact bnd (rs_n f hT he x d (a5, r) h) (iy rfl (b79_eq f hi x d a5 r))
theorem b126_y (s was bg a : UA) (st : Int32) (f : UA) {T : Nat} (hT : T ≤ 60) {e : Nat} (he : e ≤ 60) (r) (i : Int32) (h : sgn f T e = 59) : f_X7_reads_b126 (s, was, bg, a, st, f, nI T, nI e, r) i = some (-1, (s, was, bg, a, st, f, nI T, nI (e + 1), r)) := by
  unfold f_X7_reads_b126
  refine bnd (sign_eq _ _ _ _ _ f hT he _) (iy h ?_)
  dsimp only
  rw [al]
theorem b126_n (s was bg a : UA) (st : Int32) (f : UA) {T : Nat} (hT : T ≤ 60) {e i : Nat} (hi : i ≤ e) (he : e ≤ 60) (r) (h : ¬ sgn f T e = 59) : f_X7_reads_b126 (s, was, bg, a, st, f, nI T, nI e, r) (nI i) = some (nI (e - i), (s, was, bg, a, st, f, nI T, nI e, r)) := by
  unfold f_X7_reads_b126
  refine bnd (sign_eq _ _ _ _ _ f hT he _) (ino h ?_)
  dsimp only
  rw [sbn hi]
theorem wd1_cases (n : Nat) (f : UA) (i : Nat) : wd1 n f i = -1 ∨ ∃ k, k < 8 ∧ wd1 n f i = nI k := by
  unfold wd1
  by_cases c0 : wv n f i 0 = 0
  · rw [if_pos c0]
    by_cases c1 : wv n f i 1 = 0
    · rw [if_pos c1]
      by_cases c2 : wv n f i 2 = 0
      · rw [if_pos c2]
        by_cases c3 : wv n f i 3 = 0
        · rw [if_pos c3]
          by_cases c4 : wv n f i 4 = 0
          · rw [if_pos c4]
            by_cases c5 : wv n f i 5 = 0
            · rw [if_pos c5]
              by_cases c6 : wv n f i 6 = 0
              · rw [if_pos c6]
                by_cases c7 : wv n f i 7 = 0
                · rw [if_pos c7]; exact Or.inl rfl
                · rw [if_neg c7]; exact Or.inr ⟨7, by omega, rfl⟩
              · rw [if_neg c6]; exact Or.inr ⟨6, by omega, rfl⟩
            · rw [if_neg c5]; exact Or.inr ⟨5, by omega, rfl⟩
          · rw [if_neg c4]; exact Or.inr ⟨4, by omega, rfl⟩
        · rw [if_neg c3]; exact Or.inr ⟨3, by omega, rfl⟩
      · rw [if_neg c2]; exact Or.inr ⟨2, by omega, rfl⟩
    · rw [if_neg c1]; exact Or.inr ⟨1, by omega, rfl⟩
  · rw [if_neg c0]; exact Or.inr ⟨0, by omega, rfl⟩
theorem read_both (f : UA) {T : Nat} (hT : T ≤ 60) {i : Nat} (hi : i ≤ T) : ∃ (e : Nat) (x d br : Int32), i ≤ e ∧ e ≤ T ∧
    (∀ a2 a3 a4 a5 r, f_X3_read (f, nI T, a2, a3, a4, a5, r) (nI i) = some (f, nI T, x, d, nI e, br, r)) ∧
    (∀ s was bg a st re ca dg od r, ∃ dg', f_X7_reads (s, was, bg, a, st, f, nI T, nI i, re, ca, dg, od, r) = some (br, (s, was, bg, a, st, f, nI T, nI e, re, ca, dg', x, r)) ∧ (br = -1 → x ≠ nI 2 → dg' = d)) ∧
    ((br = -1 ∧ i < e ∧ ∃ k q, k < 8 ∧ q ≤ 9 ∧ x = nI k ∧ d = nI q ∧ (k = 2 → q = 0)) ∨ ∃ m, m ≤ 60 ∧ br = nI m) := by
  obtain ⟨n, _, hn, hc, hm⟩ := letters_ok f hT i hi (T - i) 0 (by omega)
  have hc' : ∀ r0, f_X3_lettersFrom (f, nI T, r0) (nI i) = some (nI n) := fun r0 => hc FUEL r0 (by rw [fuel1]; omega)
  have hm' : ∀ s was bg a st r, f_X7_reads (s, was, bg, a, st, f, nI T, nI i, r) = rdK (s, was, bg, a, st, f, nI T, nI (i + n), r) (nI i) := fun s was bg a st r => hm FUEL s was bg a st r (by rw [fuel1]; omega)
  rcases wd1_cases n f i with hw | ⟨k, hk, hw⟩
  · refine ⟨i + n, -1, 0, 0, by omega, hn, fun a2 a3 a4 a5 r => ?_, fun s was bg a st re ca dg od r => ⟨dg, ?_, fun x => absurd x (by decide)⟩, Or.inr ⟨0, by omega, rfl⟩⟩
    · unfold f_X3_read
      refine bnd (hc' _) (bnd (word_class f hT _ hn) ?_)
      dsimp only
      rw [hw, nI_add]
      exact iy rfl rfl
    · rw [hm']
      unfold rdK
      refine bnd (word_model _ _ _ _ _ f hT _ hn) ?_
      rw [hw]
      exact ino (by decide) rfl
  · have hk1 : ¬ nI k = -1 := fun x => by rw [nI_m1 (by omega)] at x; exact x
    have hk0 : (0 : Int32) ≤ nI k := nI_pos' (by omega)
    by_cases h2 : k = 2
    · subst h2
      have c1 : ∀ a2 a3 a4 a5 r, f_X3_read (f, nI T, a2, a3, a4, a5, r) (nI i) = f_X3_read_b66 (f, nI T, nI 2, 0, nI (i + n), a5, r) (nI i) := fun a2 a3 a4 a5 r => by
        unfold f_X3_read
        refine bnd (hc' _) (bnd (word_class f hT _ hn) ?_)
        dsimp only
        rw [hw, nI_add]
        exact ino hk1 (iy rfl rfl)
      have m1 : ∀ s was bg a st re ca dg od r, f_X7_reads (s, was, bg, a, st, f, nI T, nI i, re, ca, dg, od, r) = f_X7_reads_b126 (s, was, bg, a, st, f, nI T, nI (i + n), re, ca, dg, nI 2, r) (nI i) := fun s was bg a st re ca dg od r => by
        rw [hm']
        unfold rdK
        refine bnd (word_model _ _ _ _ _ f hT _ hn) ?_
        rw [hw]
        exact iy hk0 (iy rfl rfl)
      by_cases q : sgn f T (i + n) = 59
      · have hlt : i + n < T := sgn_lt (by rw [q]; decide)
        refine ⟨i + n + 1, nI 2, 0, -1, by omega, by omega, fun a2 a3 a4 a5 r => ?_, fun s was bg a st re ca dg od r => ⟨dg, ?_, fun _ x => absurd rfl x⟩, Or.inl ⟨rfl, by omega, 2, 0, by omega, by omega, rfl, rfl, fun _ => rfl⟩⟩
        · rw [c1]
          exact b66_y f hT (by omega) _ _ _ _ _ q
        · rw [m1]
          exact b126_y _ _ _ _ _ f hT (by omega) _ _ q
      · refine ⟨i + n, nI 2, 0, nI (i + n - i), by omega, hn, fun a2 a3 a4 a5 r => ?_, fun s was bg a st re ca dg od r => ⟨dg, ?_, fun _ x => absurd rfl x⟩, Or.inr ⟨_, by omega, rfl⟩⟩
        · rw [c1]
          exact b66_n f hT (by omega) (by omega) _ _ _ _ q
        · rw [m1]
          exact b126_n _ _ _ _ _ f hT (by omega) (by omega) _ q
    · have hk2 : ¬ nI k = 2 := by rw [eql (by omega) (by omega)]; exact h2
      by_cases q : sgn f T (i + n) = 32
      · have hlt : i + n < T := sgn_lt (by rw [q]; decide)
        by_cases p : sgn f T (i + n + 1) < 48 ∨ 57 < sgn f T (i + n + 1)
        · refine ⟨i + n + 1, nI k, 0, nI (i + n + 1 - i), by omega, by omega, fun a2 a3 a4 a5 r => ?_, fun s was bg a st re ca dg od r => ⟨dg, ?_, fun x => ?_⟩, Or.inr ⟨_, by omega, rfl⟩⟩
          · unfold f_X3_read
            refine bnd (hc' _) (bnd (word_class f hT _ hn) ?_)
            dsimp only
            rw [hw, nI_add]
            exact ino hk1 (ino hk2 (bnd (rs_y f hT (by omega) _ _ _ q) (ino n10 (bnd (rd_n f hT (by omega) _ _ _ p) (iy rfl (b79_eq f (by omega) _ _ _ _))))))
          · rw [hm']
            unfold rdK
            refine bnd (word_model _ _ _ _ _ f hT _ hn) ?_
            rw [hw]
            refine iy hk0 (ino hk2 (bnd (sign_eq _ _ _ _ _ f hT (by omega) _) (iy q ?_)))
            dsimp only
            rw [al]
            refine bnd (sign_eq _ _ _ _ _ f hT (by omega) _) (bnd (in_n p) (iy rfl ?_))
            rw [sbn (by omega)]
          · rw [nI_m1 (by omega)] at x
            exact x.elim
        · have p1 : ¬ sgn f T (i + n + 1) < 48 := fun x => p (Or.inl x)
          have p2 : ¬ 57 < sgn f T (i + n + 1) := fun x => p (Or.inr x)
          have hlt1 : i + n + 1 < T := sgn_lt (fun x => p1 (by rw [x]; decide))
          obtain ⟨dq, hdq, edq⟩ := dig_of p1 p2
          have c1 : ∀ a2 a3 a4 a5 r, f_X3_read (f, nI T, a2, a3, a4, a5, r) (nI i) = f_X3_read_b66 (f, nI T, nI k, nI dq, nI (i + n + 1 + 1), a5, r) (nI i) := fun a2 a3 a4 a5 r => by
            unfold f_X3_read
            refine bnd (hc' _) (bnd (word_class f hT _ hn) ?_)
            dsimp only
            rw [hw, nI_add]
            refine ino hk1 (ino hk2 (bnd (rs_y f hT (by omega) _ _ _ q) (ino n10 (bnd (rd_y f hT (by omega) _ _ _ p1 p2) (ino n10 ?_)))))
            rw [edq]
          have m1 : ∀ s was bg a st re ca dg od r, f_X7_reads (s, was, bg, a, st, f, nI T, nI i, re, ca, dg, od, r) = f_X7_reads_b126 (s, was, bg, a, st, f, nI T, nI (i + n + 1 + 1), re, ca, nI dq, nI k, r) (nI i) := fun s was bg a st re ca dg od r => by
            rw [hm']
            unfold rdK
            refine bnd (word_model _ _ _ _ _ f hT _ hn) ?_
            rw [hw]
            refine iy hk0 (ino hk2 (bnd (sign_eq _ _ _ _ _ f hT (by omega) _) (iy q ?_)))
            dsimp only
            rw [al, al]
            refine bnd (sign_eq _ _ _ _ _ f hT (by omega) _) (bnd (in_y p1 p2) (ino (by decide) (bnd (sign_eq _ _ _ _ _ f hT (by omega) _) ?_)))
            rw [edq]
          by_cases q9 : sgn f T (i + n + 1 + 1) = 59
          · have hlt2 : i + n + 1 + 1 < T := sgn_lt (by rw [q9]; decide)
            refine ⟨i + n + 1 + 1 + 1, nI k, nI dq, -1, by omega, by omega, fun a2 a3 a4 a5 r => ?_, fun s was bg a st re ca dg od r => ⟨nI dq, ?_, fun _ _ => rfl⟩, Or.inl ⟨rfl, by omega, k, dq, hk, hdq, rfl, rfl, fun x => absurd x h2⟩⟩
            · rw [c1]
              exact b66_y f hT (by omega) _ _ _ _ _ q9
            · rw [m1]
              exact b126_y _ _ _ _ _ f hT (by omega) _ _ q9
          · refine ⟨i + n + 1 + 1, nI k, nI dq, nI (i + n + 1 + 1 - i), by omega, by omega, fun a2 a3 a4 a5 r => ?_, fun s was bg a st re ca dg od r => ⟨nI dq, ?_, fun _ _ => rfl⟩, Or.inr ⟨_, by omega, rfl⟩⟩
            · rw [c1]
              exact b66_n f hT (by omega) (by omega) _ _ _ _ q9
            · rw [m1]
              exact b126_n _ _ _ _ _ f hT (by omega) (by omega) _ q9
      · refine ⟨i + n, nI k, 0, nI (i + n - i), by omega, hn, fun a2 a3 a4 a5 r => ?_, fun s was bg a st re ca dg od r => ⟨dg, ?_, fun x => ?_⟩, Or.inr ⟨_, by omega, rfl⟩⟩
        · unfold f_X3_read
          refine bnd (hc' _) (bnd (word_class f hT _ hn) ?_)
          dsimp only
          rw [hw, nI_add]
          exact ino hk1 (ino hk2 (bnd (rs_n f hT (by omega) _ _ _ q) (iy rfl (b79_eq f (by omega) _ _ _ _))))
        · rw [hm']
          unfold rdK
          refine bnd (word_model _ _ _ _ _ f hT _ hn) ?_
          rw [hw]
          refine iy hk0 (ino hk2 (bnd (sign_eq _ _ _ _ _ f hT (by omega) _) (ino q ?_)))
          dsimp only
          rw [sbn (by omega)]
        · rw [nI_m1 (by omega)] at x
          exact x.elim
