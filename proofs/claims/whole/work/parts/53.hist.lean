/-! ===== copies of the model's row; the latest states ===== -/
def cpy (a b : UA) (n : Nat) : UA := fun k => if k < n then a k else b k
theorem cpy_0 (a b : UA) : cpy a b 0 = b := funext fun k => if_neg (by omega)
theorem cpy_s (a b : UA) (i : Nat) : upd (cpy a b i) i (a i) = cpy a b (i + 1) := by
  funext k
  by_cases h : k = i
  · rw [upd_s h]
    unfold cpy
    rw [if_pos (by omega), h]
  · rw [upd_n h]
    unfold cpy
    by_cases h2 : k < i
    · rw [if_pos h2, if_pos (by omega)]
    · rw [if_neg h2, if_neg (by omega)]
theorem cpy_in {a b : UA} {n k : Nat} (h : k < n) : cpy a b n k = a k := if_pos h
theorem keeps_loop (s was b : UA) (r) : ∀ d i n, i + d = 264 → d < n → f_X7_keeps_b2 n (s, was, cpy s b i, r) (nI i) = some (s, was, cpy s b 264, r) := by
  intro d
  induction d with
  | zero =>
    intro i n h hn
    obtain ⟨m, rfl⟩ : ∃ m, n = m + 1 := ⟨n - 1, by omega⟩
    rw [f_X7_keeps_b2]
    refine iy (by rw [lle (by omega) (by omega)]; omega) ?_
    rw [show i = 264 by omega]
  | succ d ih =>
    intro i n h hn
    obtain ⟨m, rfl⟩ : ∃ m, n = m + 1 := ⟨n - 1, by omega⟩
    rw [f_X7_keeps_b2]
    refine ino (by rw [lle (by omega) (by omega)]; omega) (iy (inbT (by omega) (by omega)) (iy (inbT (by omega) (by omega)) ?_))
    rw [clp (by omega), al]
    dsimp only
    rw [cpy_s]
    exact ih (i + 1) m (by omega) (by omega)
theorem keeps_eq (w : UX) : f_X7_keeps w = some (w.1, w.2.1, cpy w.1 w.2.2.1 264, w.2.2.2) := by
  obtain ⟨s, was, b, r⟩ := w
  unfold f_X7_keeps
  have h := keeps_loop s was b r 264 0 FUEL (by omega) (by rw [fuel1]; omega)
  rw [cpy_0] at h
  exact h
theorem puts_loop (s was bg b : UA) (r) : ∀ d i n, i + d = 264 → d < n → f_X7_puts_b2 n (s, was, bg, cpy s b i, r) (nI i) = some (s, was, bg, cpy s b 264, r) := by
  intro d
  induction d with
  | zero =>
    intro i n h hn
    obtain ⟨m, rfl⟩ : ∃ m, n = m + 1 := ⟨n - 1, by omega⟩
    rw [f_X7_puts_b2]
    refine iy (by rw [lle (by omega) (by omega)]; omega) ?_
    rw [show i = 264 by omega]
  | succ d ih =>
    intro i n h hn
    obtain ⟨m, rfl⟩ : ∃ m, n = m + 1 := ⟨n - 1, by omega⟩
    rw [f_X7_puts_b2]
    refine ino (by rw [lle (by omega) (by omega)]; omega) (iy (inbT (by omega) (by omega)) (iy (inbT (by omega) (by omega)) ?_))
    rw [clp (by omega), al]
    dsimp only
    rw [cpy_s]
    exact ih (i + 1) m (by omega) (by omega)
theorem puts_eq (w : UX) : f_X7_puts w = some (w.1, w.2.1, w.2.2.1, cpy w.1 w.2.2.2.1 264, w.2.2.2.2) := by
  obtain ⟨s, was, bg, b, r⟩ := w
  unfold f_X7_puts
  have h := puts_loop s was bg b r 264 0 FUEL (by omega) (by rw [fuel1]; omega)
  rw [cpy_0] at h
  exact h
theorem restores_loop (s was bg b : UA) (r) : ∀ d i n, i + d = 264 → d < n → f_X7_restores_b2 n (cpy b s i, was, bg, b, r) (nI i) = some (cpy b s 264, was, bg, b, r) := by
  intro d
  induction d with
  | zero =>
    intro i n h hn
    obtain ⟨m, rfl⟩ : ∃ m, n = m + 1 := ⟨n - 1, by omega⟩
    rw [f_X7_restores_b2]
    refine iy (by rw [lle (by omega) (by omega)]; omega) ?_
    rw [show i = 264 by omega]
  | succ d ih =>
    intro i n h hn
    obtain ⟨m, rfl⟩ : ∃ m, n = m + 1 := ⟨n - 1, by omega⟩
    rw [f_X7_restores_b2]
    refine ino (by rw [lle (by omega) (by omega)]; omega) (iy (inbT (by omega) (by omega)) (iy (inbT (by omega) (by omega)) ?_))
    rw [clp (by omega), al]
    dsimp only
    rw [cpy_s]
    exact ih (i + 1) m (by omega) (by omega)
theorem restores_eq (w : UX) : f_X7_restores w = some (cpy w.2.2.2.1 w.1 264, w.2) := by
  obtain ⟨s, was, bg, b, r⟩ := w
  unfold f_X7_restores
  have h := restores_loop s was bg b r 264 0 FUEL (by omega) (by rw [fuel1]; omega)
  rw [cpy_0] at h
  exact h
theorem rl_congr {B : Nat} {u : UL} {s s' : UA} (h : Rl B u s) (e : ∀ k, k < 264 → s' k = s k) : Rl B u s' := by
  obtain ⟨W, P, N, M, z, lm, k13, k14, k15, wt, loc, at', ho, fi, we, by', ra, ti, tk, tu, se, ⟨o, r, x⟩, hb, hh⟩ := h
  have hP := o.2.1
  have hN := o.2.2.1
  have hM := o.2.2.2.1
  refine ⟨W, P, N, M, z, lm, k13, k14, k15, wt, loc, at', ho, fi, we, by', ra, ti, tk, tu, se, ⟨o, r, ?_⟩, hb, hh⟩
  obtain ⟨x0, x1, x2, x6, x7, x8, x9, x10, x13, x14, x15, xA, xE, xP, xC, xH, xR⟩ := x
  refine ⟨(e _ (by omega)).trans x0, (e _ (by omega)).trans x1, (e _ (by omega)).trans x2, (e _ (by omega)).trans x6, (e _ (by omega)).trans x7, (e _ (by omega)).trans x8, (e _ (by omega)).trans x9, (e _ (by omega)).trans x10, (e _ (by omega)).trans x13, (e _ (by omega)).trans x14, (e _ (by omega)).trans x15, fun k hk => (e _ (by omega)).trans (xA k hk), fun k hk => (e _ (by omega)).trans (xE k hk), fun k hk => (e _ (by omega)).trans (xP k hk), fun k hk => ?_, fun k hk => (e _ (by omega)).trans (xH k hk), fun k hk => ?_⟩
  · obtain ⟨a1, a2, a3, a4⟩ := xC k hk
    exact ⟨(e _ (by omega)).trans a1, (e _ (by omega)).trans a2, (e _ (by omega)).trans a3, (e _ (by omega)).trans a4⟩
  · obtain ⟨a1, a2, a3⟩ := xR k hk
    exact ⟨(e _ (by omega)).trans a1, (e _ (by omega)).trans a2, (e _ (by omega)).trans a3⟩
theorem copy_ok {B : Nat} {b : UL} {s : UA} (h : Rl B b s) (a : UL) : f_X2_copyFrom (a, b) = some (b, b) := by
  obtain ⟨W, P, N, M, z, lm, k13, k14, k15, wt, loc, at', ho, fi, we, by', ra, ti, tk, tu, se, h, hb, hh⟩ := h
  obtain ⟨ez, _, _, hz⟩ := sim_z h
  unfold f_X2_copyFrom f_X0_copyFrom f_X4_copyFrom
  refine bnd rfl (bnd rfl (iy ?_ rfl))
  show jbool b.2.2.2.1 = true
  rw [ez]
  rcases (show z = 0 ∨ z = 1 by omega) with rfl | rfl <;> decide
/-- the model's block of a state -/
def blk (was bg : UA) (n i : Nat) : UA := fun k => if 264 * n ≤ k ∧ k < 264 * n + i then bg (k - 264 * n) else was k
theorem blk_0 (was bg : UA) (n : Nat) : blk was bg n 0 = was := funext fun k => if_neg (by omega)
theorem blk_s (was bg : UA) (n i : Nat) : upd (blk was bg n i) (264 * n + i) (bg i) = blk was bg n (i + 1) := by
  funext k
  by_cases h : k = 264 * n + i
  · rw [upd_s h]
    unfold blk
    rw [if_pos (by omega), show k - 264 * n = i by omega]
  · rw [upd_n h]
    unfold blk
    by_cases h2 : 264 * n ≤ k ∧ k < 264 * n + i
    · rw [if_pos h2, if_pos (by omega)]
    · rw [if_neg h2, if_neg (by omega)]
def shf (was : UA) (i : Nat) : UA := fun k => if k < i then was (k + 264) else was k
theorem shf_0 (was : UA) : shf was 0 = was := funext fun k => if_neg (by omega)
theorem shf_s (was : UA) (i : Nat) : upd (shf was i) i (shf was i (i + 264)) = shf was (i + 1) := by
  funext k
  by_cases h : k = i
  · rw [upd_s h]
    unfold shf
    rw [if_neg (by omega), if_pos (by omega), h]
  · rw [upd_n h]
    unfold shf
    by_cases h2 : k < i
    · rw [if_pos h2, if_pos (by omega)]
    · rw [if_neg h2, if_neg (by omega)]
theorem b57_loop (s was bg a : UA) (st : Nat) (hst : st < 4) (r) (v : Int32) : ∀ d i n, i + d = 264 → d < n → f_X7_acted_b57 n (s, blk was bg st i, bg, a, nI st, r) v (nI i) = some (v, (s, blk was bg st 264, bg, a, nI (st + 1), r)) := by
  intro d
  induction d with
  | zero =>
    intro i n h hn
    obtain ⟨m, rfl⟩ : ∃ m, n = m + 1 := ⟨n - 1, by omega⟩
    rw [f_X7_acted_b57]
    refine iy (by rw [lle (by omega) (by omega)]; omega) ?_
    rw [show i = 264 by omega]
    dsimp only
    rw [al]
  | succ d ih =>
    intro i n h hn
    obtain ⟨m, rfl⟩ : ∃ m, n = m + 1 := ⟨n - 1, by omega⟩
    rw [f_X7_acted_b57]
    have e : (264 * nI st) + nI i = nI (264 * st + i) := by rw [ml, nI_add]
    dsimp only
    rw [e]
    refine ino (by rw [lle (by omega) (by omega)]; omega) (iy (inbT (by omega) (by omega)) (iy (inbT (by omega) (by omega)) ?_))
    rw [clp (by omega), clp (by omega), al, blk_s]
    exact ih (i + 1) m (by omega) (by omega)
theorem b16_loop (s was bg a : UA) (st : Int32) (r) (v : Int32) (z : Int32 × UX) (hz : f_X7_acted_b55 (s, shf was 792, bg, a, st - 1, r) v = some z) : ∀ d i n, i + d = 792 → d < n → f_X7_acted_b16 n (s, shf was i, bg, a, st, r) v (nI i) = some z := by
  intro d
  induction d with
  | zero =>
    intro i n h hn
    obtain ⟨m, rfl⟩ : ∃ m, n = m + 1 := ⟨n - 1, by omega⟩
    rw [f_X7_acted_b16]
    refine iy (by rw [lle (by omega) (by omega)]; omega) ?_
    rw [show i = 792 by omega]
    exact hz
  | succ d ih =>
    intro i n h hn
    obtain ⟨m, rfl⟩ : ∃ m, n = m + 1 := ⟨n - 1, by omega⟩
    rw [f_X7_acted_b16]
    dsimp only
    rw [al]
    refine ino (by rw [lle (by omega) (by omega)]; omega) (iy (inbT (by omega) (by omega)) (iy (inbT (by omega) (by omega)) ?_))
    rw [clp (by omega), clp (by omega), al, shf_s]
    exact ih (i + 1) m (by omega) (by omega)
theorem acted_eq (s was bg a : UA) (r) {n : Nat} (hn : n ≤ 4) {v : Int32} (hv : ¬ v ≤ -1000001) : f_X7_acted (s, was, bg, a, nI n, r) v = some (v, (s, blk (if n = 4 then shf was 792 else was) bg (if n = 4 then 3 else n) 264, bg, a, nI (if n = 4 then 4 else n + 1), r)) := by
  unfold f_X7_acted
  refine ino hv ?_
  by_cases h4 : n = 4
  · subst h4
    refine iy rfl ?_
    rw [if_pos rfl, if_pos rfl, if_pos rfl]
    have h := b16_loop s was bg a (nI 4) r v (v, (s, blk (shf was 792) bg 3 264, bg, a, nI 4, r)) (by
      unfold f_X7_acted_b55
      have := b57_loop s (shf was 792) bg a 3 (by omega) r v 264 0 FUEL (by omega) (by rw [fuel1]; omega)
      rw [blk_0] at this
      exact this) 792 0 FUEL (by omega) (by rw [fuel1]; omega)
    rw [shf_0] at h
    exact h
  · refine ino (by dsimp only; rw [eql (by omega) (by omega)]; exact h4) ?_
    rw [if_neg h4, if_neg h4, if_neg h4]
    unfold f_X7_acted_b55
    have := b57_loop s was bg a n (by omega) r v 264 0 FUEL (by omega) (by rw [fuel1]; omega)
    rw [blk_0] at this
    exact this
theorem acted_bad {w : UX} {v : Int32} (h : BadR v) : f_X7_acted w v = some (v, w) := by
  unfold f_X7_acted
  rcases h with rfl | rfl | rfl <;> exact iy (by decide) rfl
theorem good_gt {v : Int32} (h : GoodR v) : ¬ v ≤ -1000001 ∧ ¬ v < -1 := by
  rcases h with rfl | ⟨n, hn, rfl⟩
  · exact ⟨by decide, by decide⟩
  · have h0 : (0 : Int32) ≤ nI n := nI_pos' hn
    have l : (0 : Int) ≤ (nI n).toInt := by
      rw [nI_toInt hn]
      omega
    constructor
    · intro q
      rw [Int32.le_iff_toInt_le] at q
      have : ((-1000001 : Int32)).toInt = -1000001 := by decide
      omega
    · intro q
      rw [Int32.lt_iff_toInt_lt] at q
      have : ((-1 : Int32)).toInt = -1 := by decide
      omega
def hAt (h : UH) : Nat → UL
  | 0 => h.1
  | 1 => h.2.1
  | 2 => h.2.2.1
  | _ => h.2.2.2.1
def Hist (B : Nat) (h : UH) (was : UA) (st : Int32) : Prop := ∃ x n : Nat, x < 4 ∧ n ≤ 4 ∧ h.2.2.2.2.1 = nI x ∧ h.2.2.2.2.2 = nI n ∧ st = nI n ∧ ∀ k, k < n → Rl B (hAt h ((x + 4 - n + k) % 4)) (fun i => was (264 * k + i))
theorem hist_mono {B B' : Nat} {h : UH} {was : UA} {st : Int32} (H : Hist B h was st) (hB : B ≤ B') : Hist B' h was st := by
  obtain ⟨x, n, h1, h2, h3, h4, h5, h6⟩ := H
  exact ⟨x, n, h1, h2, h3, h4, h5, fun k hk => rl_mono (h6 k hk) hB⟩
theorem record_ok {B : Nat} {h : UH} {u : UL} {s : UA} (hu : Rl B u s) {x n : Nat} (hx : x < 4) (hn : n ≤ 4) (ex : h.2.2.2.2.1 = nI x) (en : h.2.2.2.2.2 = nI n) : ∃ h' : UH, f_X1_record (h, u) = some (h', u) ∧ (∀ i, i < 4 → hAt h' i = if i = x then u else hAt h i) ∧ h'.2.2.2.2.1 = nI ((x + 1) % 4) ∧ h'.2.2.2.2.2 = nI (if n = 4 then 4 else n + 1) := by
  have hm : jmin (nI n + 1) 4 = nI (if n = 4 then 4 else n + 1) := by
    rcases (show n = 0 ∨ n = 1 ∨ n = 2 ∨ n = 3 ∨ n = 4 by omega) with rfl | rfl | rfl | rfl | rfl <;> decide
  have hj : jrem (nI x + 1) 4 = nI ((x + 1) % 4) := by
    rcases (show x = 0 ∨ x = 1 ∨ x = 2 ∨ x = 3 by omega) with rfl | rfl | rfl | rfl <;> decide
  obtain ⟨h0, h1, h2, h3, nx, sz⟩ := h
  dsimp only at ex en
  subst ex en
  unfold f_X1_record
  rcases (show x = 0 ∨ x = 1 ∨ x = 2 ∨ x = 3 by omega) with rfl | rfl | rfl | rfl
  · refine ⟨(u, h1, h2, h3, jrem (nI 0 + 1) 4, jmin (nI n + 1) 4), iy rfl (bnd (copy_ok hu _) rfl), fun i hi => ?_, hj, hm⟩
    rcases (show i = 0 ∨ i = 1 ∨ i = 2 ∨ i = 3 by omega) with rfl | rfl | rfl | rfl <;> rfl
  · refine ⟨(h0, u, h2, h3, jrem (nI 1 + 1) 4, jmin (nI n + 1) 4), ino (show ¬ nI 1 = 0 by decide) (iy rfl (bnd (copy_ok hu _) rfl)), fun i hi => ?_, hj, hm⟩
    rcases (show i = 0 ∨ i = 1 ∨ i = 2 ∨ i = 3 by omega) with rfl | rfl | rfl | rfl <;> rfl
  · refine ⟨(h0, h1, u, h3, jrem (nI 2 + 1) 4, jmin (nI n + 1) 4), ino (show ¬ nI 2 = 0 by decide) (ino (show ¬ nI 2 = 1 by decide) (iy rfl (bnd (copy_ok hu _) rfl))), fun i hi => ?_, hj, hm⟩
    rcases (show i = 0 ∨ i = 1 ∨ i = 2 ∨ i = 3 by omega) with rfl | rfl | rfl | rfl <;> rfl
  · refine ⟨(h0, h1, h2, u, jrem (nI 3 + 1) 4, jmin (nI n + 1) 4), ino (show ¬ nI 3 = 0 by decide) (ino (show ¬ nI 3 = 1 by decide) (ino (show ¬ nI 3 = 2 by decide) (iy rfl (bnd (copy_ok hu _) rfl)))), fun i hi => ?_, hj, hm⟩
    rcases (show i = 0 ∨ i = 1 ∨ i = 2 ∨ i = 3 by omega) with rfl | rfl | rfl | rfl <;> rfl
theorem keep_good {B B' : Nat} {now u' : UL} {s0 s' : UA} {h : UH} {was : UA} {st : Int32} (hR0 : Rl B now s0) (hR : Rl B' u' s') (hB : B ≤ B') (hH : Hist B h was st) {r : Int32} (hr : GoodR r) (o' : UO) : ∃ h' : UH, f_X6_keep (now, u', h, o') r = some (r, (u', u', h', o')) ∧ ∀ w : UX, w.2.1 = was → (∀ k, k < 264 → w.2.2.1 k = s0 k) → w.2.2.2.2.1 = st → ∃ (was' : UA) (st' : Int32), f_X7_acted w r = some (r, (w.1, was', w.2.2.1, w.2.2.2.1, st', w.2.2.2.2.2)) ∧ Hist B' h' was' st' := by
  obtain ⟨x, n, h1, h2, h3, h4, rfl, h6⟩ := hH
  obtain ⟨h', c1, c2, c3, c4⟩ := record_ok hR0 h1 h2 h3 h4
  refine ⟨h', ?_, ?_⟩
  · unfold f_X6_keep
    exact ino (good_gt hr).2 (bnd c1 (bnd (copy_ok hR _) rfl))
  · rintro ⟨s1, was1, bg, a, st1, w2⟩ e1 e2 e3
    dsimp only at e1 e2 e3
    subst e1 e3
    refine ⟨_, _, acted_eq s1 was1 bg a w2 h2 (good_gt hr).1, (x + 1) % 4, (if n = 4 then 4 else n + 1), Nat.mod_lt _ (by omega), ?_, c3, c4, rfl, fun k hk => ?_⟩
    · by_cases q : n = 4
      · rw [if_pos q]; omega
      · rw [if_neg q]; omega
    · by_cases q : n = 4
      · subst q
        rw [if_pos rfl] at hk ⊢
        rw [if_pos rfl, if_pos rfl, c2 _ (Nat.mod_lt _ (by omega))]
        by_cases hl : k = 3
        · rw [if_pos (by omega)]
          refine rl_congr (rl_mono hR0 hB) (fun i hi => ?_)
          unfold blk
          rw [if_pos (by omega), show 264 * k + i - 264 * 3 = i by omega]
          exact e2 i hi
        · rw [if_neg (by omega)]
          have := h6 (k + 1) (by omega)
          rw [show (x + 4 - 4 + (k + 1)) % 4 = ((x + 1) % 4 + 4 - 4 + k) % 4 by omega] at this
          refine rl_congr (rl_mono this hB) (fun i hi => ?_)
          unfold blk shf
          rw [if_neg (by omega), if_pos (by omega), show 264 * k + i + 264 = 264 * (k + 1) + i by omega]
      · rw [if_neg q] at hk ⊢
        rw [if_neg q, if_neg q, c2 _ (Nat.mod_lt _ (by omega))]
        by_cases hl : k = n
        · rw [if_pos (by omega)]
          refine rl_congr (rl_mono hR0 hB) (fun i hi => ?_)
          unfold blk
          rw [if_pos (by omega), show 264 * k + i - 264 * n = i by rw [hl]; omega]
          exact e2 i hi
        · rw [if_neg (by omega)]
          have := h6 k (by omega)
          rw [show (x + 4 - n + k) % 4 = ((x + 1) % 4 + 4 - (n + 1) + k) % 4 by omega] at this
          refine rl_congr (rl_mono this hB) (fun i hi => ?_)
          unfold blk
          rw [if_neg (by omega)]
