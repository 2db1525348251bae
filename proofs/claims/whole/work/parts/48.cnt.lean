/-! ===== counting ===== -/
def cntF (p : Nat → Bool) : Nat → Nat → Nat
  | 0, _ => 0
  | d + 1, i => (if p i = true then 1 else 0) + cntF p d (i + 1)
theorem cntF_le (p : Nat → Bool) : ∀ d i, cntF p d i ≤ d := by
  intro d
  induction d with
  | zero => intro i; exact Nat.le_refl _
  | succ d ih =>
    intro i
    have := ih (i + 1)
    rw [cntF]
    by_cases h : p i = true
    · rw [if_pos h]; omega
    · rw [if_neg h]; omega
theorem cntF_congr {p q : Nat → Bool} : ∀ d i, (∀ x, i ≤ x → x < i + d → p x = q x) → cntF p d i = cntF q d i := by
  intro d
  induction d with
  | zero => intro i _; rfl
  | succ d ih =>
    intro i h
    rw [cntF, cntF, h i (Nat.le_refl _) (by omega), ih (i + 1) (fun x h1 h2 => h x (by omega) (by omega))]
theorem howOften_loop (u : UA) (v : Int32) : ∀ d i n acc, i + d = 60 → d < n → f_X5_howOften_b11 n u v (nI acc) 60 (nI i) = some (nI (acc + cntF (fun x => decide (u x = v)) d i)) := by
  intro d
  induction d with
  | zero =>
    intro i n acc h hn
    obtain ⟨m, rfl⟩ : ∃ m, n = m + 1 := ⟨n - 1, by omega⟩
    rw [f_X5_howOften_b11]
    refine iy (by rw [lle (by omega) (by omega)]; omega) ?_
    rfl
  | succ d ih =>
    intro i n acc h hn
    obtain ⟨m, rfl⟩ : ∃ m, n = m + 1 := ⟨n - 1, by omega⟩
    rw [f_X5_howOften_b11]
    refine ino (by rw [lle (by omega) (by omega)]; omega) (iy (inbT (by omega) (by omega)) ?_)
    rw [clp (by omega), cntF]
    unfold f_X5_howOften_b33
    by_cases q : u i = v
    · refine iy q ?_
      rw [al, al, ih (i + 1) m (acc + 1) (by omega) (by omega), if_pos (decide_eq_true q)]
      congr 2
      omega
    · refine ino q ?_
      rw [al, ih (i + 1) m acc (by omega) (by omega), if_neg (by simp [q])]
      congr 2
      omega
theorem howOften_eq (u : UA) (v : Int32) : f_X5_howOften u v = some (nI (cntF (fun x => decide (u x = v)) 60 0)) := by
  unfold f_X5_howOften
  have := howOften_loop u v 60 0 FUEL 0 (by omega) (by rw [fuel1]; omega)
  rw [Nat.zero_add] at this
  exact this
theorem files_loop (w : UX) (v : Int32) : ∀ d i n acc, i + d = 60 → d < n → f_X7_files_b4 n w v (nI acc) (nI i) = some (nI (acc + cntF (fun x => decide (w.1 (168 + x) = v)) d i)) := by
  intro d
  induction d with
  | zero =>
    intro i n acc h hn
    obtain ⟨m, rfl⟩ : ∃ m, n = m + 1 := ⟨n - 1, by omega⟩
    rw [f_X7_files_b4]
    refine iy (by rw [lle (by omega) (by omega)]; omega) ?_
    rfl
  | succ d ih =>
    intro i n acc h hn
    obtain ⟨m, rfl⟩ : ∃ m, n = m + 1 := ⟨n - 1, by omega⟩
    rw [f_X7_files_b4]
    refine ino (by rw [lle (by omega) (by omega)]; omega) (iy (by rw [la]; exact inbT (by omega) (by omega)) ?_)
    rw [la, clp (by omega), cntF]
    unfold f_X7_files_b30
    by_cases q : w.1 (168 + i) = v
    · refine iy q ?_
      rw [al, al, ih (i + 1) m (acc + 1) (by omega) (by omega), if_pos (decide_eq_true q)]
      congr 2
      omega
    · refine ino q ?_
      rw [al, al, Nat.add_zero, ih (i + 1) m acc (by omega) (by omega), if_neg (by simp [q])]
      congr 2
      omega
theorem files_eq (w : UX) (v : Int32) : f_X7_files w v = some (nI (cntF (fun x => decide (w.1 (168 + x) = v)) 60 0)) := by
  unfold f_X7_files
  have := files_loop w v 60 0 FUEL 0 (by omega) (by rw [fuel1]; omega)
  rw [Nat.zero_add] at this
  exact this
theorem wnC_loop (u : UC) {N : Nat} {loc : Nat → Nat} (hN : N ≤ 30) (h7 : u.2.2.2.2.2.2 = nI N) (hs : ∀ c, c < N → u.2.2.2.1 c = eL (loc c)) (hl : ∀ c, c < N → loc c ≤ 37) : ∀ d i n acc, i + d = N → d < n → f_X0_withNeighbors_b4 n u (nI acc) (nI i) = some (nI (acc + cntF (fun c => decide (loc c = 37)) d i)) := by
  intro d
  induction d with
  | zero =>
    intro i n acc h hn
    obtain ⟨m, rfl⟩ : ∃ m, n = m + 1 := ⟨n - 1, by omega⟩
    rw [f_X0_withNeighbors_b4]
    refine iy (by rw [h7, len' (by omega) (by omega)]; omega) ?_
    rfl
  | succ d ih =>
    intro i n acc h hn
    obtain ⟨m, rfl⟩ : ∃ m, n = m + 1 := ⟨n - 1, by omega⟩
    rw [f_X0_withNeighbors_b4]
    refine ino (by rw [h7, len' (by omega) (by omega)]; omega) (bnd (slotOf_eq u (by omega)) ?_)
    rw [cntF]
    unfold f_X0_withNeighbors_b24
    have h1 := hs i (by omega)
    have h2 := hl i (by omega)
    by_cases q : loc i = 37
    · refine iy (by rw [h1, q]; rfl) ?_
      rw [al, al, ih (i + 1) m (acc + 1) (by omega) (by omega), if_pos (decide_eq_true q)]
      congr 2
      omega
    · refine ino (by rw [h1, eL_n q, nI_m1 (by omega)]; exact id) ?_
      rw [al, ih (i + 1) m acc (by omega) (by omega), if_neg (by simp [q])]
      congr 2
      omega
theorem kd_le (k : Nat) : kd k ≤ 3 := by
  unfold kd
  by_cases h1 : k < 32
  · rw [if_pos h1]; omega
  · rw [if_neg h1]
    by_cases h2 : k < 35
    · rw [if_pos h2]; omega
    · rw [if_neg h2]
      by_cases h3 : k < 37
      · rw [if_pos h3]; omega
      · rw [if_neg h3]; omega
theorem kd_37 {k : Nat} (h : k ≤ 37) : (nI (kd k) = 3) = (k = 37) := by
  rw [eql (by have := kd_le k; omega) (by omega)]
  unfold kd
  apply propext
  by_cases h1 : k < 32
  · rw [if_pos h1]; omega
  · rw [if_neg h1]
    by_cases h2 : k < 35
    · rw [if_pos h2]; omega
    · rw [if_neg h2]
      by_cases h3 : k < 37
      · rw [if_pos h3]; omega
      · rw [if_neg h3]; omega
theorem kd_0 {k : Nat} (h : k ≤ 37) : (nI (kd k) = 0) = (k < 32) := by
  rw [eql (by have := kd_le k; omega) (by omega)]
  unfold kd
  apply propext
  by_cases h1 : k < 32
  · rw [if_pos h1]; omega
  · rw [if_neg h1]
    by_cases h2 : k < 35
    · rw [if_pos h2]; omega
    · rw [if_neg h2]
      by_cases h3 : k < 37
      · rw [if_pos h3]; omega
      · rw [if_neg h3]; omega
theorem wnM_loop (w : UX) {N : Nat} {loc : Nat → Nat} (hN : N ≤ 30) (h7 : w.1 7 = nI N) (hs : ∀ c, c < N → w.1 (48 + 4 * c + 2) = nI (kd (loc c))) (hl : ∀ c, c < N → loc c ≤ 37) : ∀ d i n acc, i + d = N → d < n → f_X7_withNeighbors_b4 n w (nI acc) (nI i) = some (nI (acc + cntF (fun c => decide (loc c = 37)) d i)) := by
  intro d
  induction d with
  | zero =>
    intro i n acc h hn
    obtain ⟨m, rfl⟩ : ∃ m, n = m + 1 := ⟨n - 1, by omega⟩
    rw [f_X7_withNeighbors_b4]
    refine iy (by rw [h7, len' (by omega) (by omega)]; omega) ?_
    rfl
  | succ d ih =>
    intro i n acc h hn
    obtain ⟨m, rfl⟩ : ∃ m, n = m + 1 := ⟨n - 1, by omega⟩
    rw [f_X7_withNeighbors_b4]
    refine ino (by rw [h7, len' (by omega) (by omega)]; omega) (bnd (ca_w (j := 2) (by omega) (by omega)) ?_)
    rw [cntF]
    unfold f_X7_withNeighbors_b31
    have h1 := hs i (by omega)
    have h2 := hl i (by omega)
    by_cases q : loc i = 37
    · refine iy (by rw [h1, kd_37 h2]; exact q) ?_
      rw [al, al, ih (i + 1) m (acc + 1) (by omega) (by omega), if_pos (decide_eq_true q)]
      congr 2
      omega
    · refine ino (by rw [h1, kd_37 h2]; exact q) ?_
      rw [al, al, Nat.add_zero, ih (i + 1) m acc (by omega) (by omega), if_neg (by simp [q])]
      congr 2
      omega
theorem woC_loop (u : UC) {N : Nat} {we : Nat → Int32} (hN : N ≤ 30) (h7 : u.2.2.2.2.2.2 = nI N) (hs : ∀ c, c < N → u.2.1 c = we c) : ∀ d i n acc, i + d = N → d < n → f_X0_worn_b4 n u (nI acc) (nI i) = some (nI (acc + cntF (fun c => decide (¬ we c < 6)) d i)) := by
  intro d
  induction d with
  | zero =>
    intro i n acc h hn
    obtain ⟨m, rfl⟩ : ∃ m, n = m + 1 := ⟨n - 1, by omega⟩
    rw [f_X0_worn_b4]
    refine iy (by rw [h7, len' (by omega) (by omega)]; omega) ?_
    rfl
  | succ d ih =>
    intro i n acc h hn
    obtain ⟨m, rfl⟩ : ∃ m, n = m + 1 := ⟨n - 1, by omega⟩
    rw [f_X0_worn_b4]
    refine ino (by rw [h7, len' (by omega) (by omega)]; omega) (bnd (isWorn_eq u (by omega)) ?_)
    rw [cntF]
    unfold f_X0_worn_b23
    have h1 := hs i (by omega)
    by_cases q : we i < 6
    · refine iy (by rw [h1, if_pos q]) ?_
      rw [al, ih (i + 1) m acc (by omega) (by omega), if_neg (by simp [q])]
      congr 2
      omega
    · refine ino (by rw [h1, if_neg q]; decide) ?_
      rw [al, al, ih (i + 1) m (acc + 1) (by omega) (by omega), if_pos (decide_eq_true q)]
      congr 2
      omega
theorem woM_loop (w : UX) {N : Nat} {we : Nat → Int32} (hN : N ≤ 30) (h7 : w.1 7 = nI N) (hs : ∀ c, c < N → w.1 (48 + 4 * c + 1) = we c) : ∀ d i n acc, i + d = N → d < n → f_X7_worn_b4 n w (nI acc) (nI i) = some (nI (acc + cntF (fun c => decide (¬ we c < 6)) d i)) := by
  intro d
  induction d with
  | zero =>
    intro i n acc h hn
    obtain ⟨m, rfl⟩ : ∃ m, n = m + 1 := ⟨n - 1, by omega⟩
    rw [f_X7_worn_b4]
    refine iy (by rw [h7, len' (by omega) (by omega)]; omega) ?_
    rfl
  | succ d ih =>
    intro i n acc h hn
    obtain ⟨m, rfl⟩ : ∃ m, n = m + 1 := ⟨n - 1, by omega⟩
    rw [f_X7_worn_b4]
    refine ino (by rw [h7, len' (by omega) (by omega)]; omega) (bnd (ca_w (j := 1) (by omega) (by omega)) ?_)
    rw [cntF]
    unfold f_X7_worn_b32
    have h1 := hs i (by omega)
    by_cases q : we i < 6
    · refine iy (by rw [h1]; exact q) ?_
      rw [al, al, Nat.add_zero, ih (i + 1) m acc (by omega) (by omega), if_neg (by simp [q])]
      congr 2
      omega
    · refine ino (by rw [h1]; exact q) ?_
      rw [al, al, ih (i + 1) m (acc + 1) (by omega) (by omega), if_pos (decide_eq_true q)]
      congr 2
      omega
theorem waC_loop (u : UL) {M : Nat} {fi ho : Nat → Nat} (v : Int32) (hM : M ≤ 12) (h8 : u.2.1.2.2.2 = nI M) (hr : ∀ k, k < M → u.2.1.1 k = nI (fi k)) (hf : ∀ k, k < M → fi k < 60) (hh : ∀ x, x < 60 → u.1.2.2.2.2.2.1 x = eC (ho x)) : ∀ d i n acc, i + d = M → d < n → f_X2_waitingFor_b4 n u v (nI acc) (nI i) = some (nI (acc + cntF (fun k => decide (eC (ho (fi k)) = v)) d i)) := by
  intro d
  induction d with
  | zero =>
    intro i n acc h hn
    obtain ⟨m, rfl⟩ : ∃ m, n = m + 1 := ⟨n - 1, by omega⟩
    rw [f_X2_waitingFor_b4]
    refine iy (by rw [h8, len' (by omega) (by omega)]; omega) ?_
    rfl
  | succ d ih =>
    intro i n acc h hn
    obtain ⟨m, rfl⟩ : ∃ m, n = m + 1 := ⟨n - 1, by omega⟩
    rw [f_X2_waitingFor_b4]
    have h1 := hr i (by omega)
    have h2 := hf i (by omega)
    refine ino (by rw [h8, len' (by omega) (by omega)]; omega) (bnd (fileOf_eq _ (by omega)) (bnd (a := eC (ho (fi i))) ?_ ?_))
    · rw [h1, holderOf_eq _ h2, hh _ h2]
    rw [cntF]
    unfold f_X2_waitingFor_b37
    by_cases q : eC (ho (fi i)) = v
    · refine iy q ?_
      rw [al, al, ih (i + 1) m (acc + 1) (by omega) (by omega), if_pos (decide_eq_true q)]
      congr 2
      omega
    · refine ino q ?_
      rw [al, ih (i + 1) m acc (by omega) (by omega), if_neg (by simp [q])]
      congr 2
      omega
theorem waM_loop (w : UX) {M : Nat} {fi ho : Nat → Nat} (v : Int32) (hM : M ≤ 12) (h8 : w.1 8 = nI M) (hr : ∀ k, k < M → w.1 (228 + 3 * k) = nI (fi k)) (hf : ∀ k, k < M → fi k < 60) (hh : ∀ x, x < 60 → w.1 (168 + x) = eC (ho x)) : ∀ d i n acc, i + d = M → d < n → f_X7_wanted_b4 n w v (nI acc) (nI i) = some (nI (acc + cntF (fun k => decide (eC (ho (fi k)) = v)) d i)) := by
  intro d
  induction d with
  | zero =>
    intro i n acc h hn
    obtain ⟨m, rfl⟩ : ∃ m, n = m + 1 := ⟨n - 1, by omega⟩
    rw [f_X7_wanted_b4]
    refine iy (by rw [h8, len' (by omega) (by omega)]; omega) ?_
    rfl
  | succ d ih =>
    intro i n acc h hn
    obtain ⟨m, rfl⟩ : ∃ m, n = m + 1 := ⟨n - 1, by omega⟩
    rw [f_X7_wanted_b4]
    have h1 := hr i (by omega)
    have h2 := hf i (by omega)
    refine ino (by rw [h8, len' (by omega) (by omega)]; omega) ?_
    rw [ml, la, clp (by omega), h1, la, clp (by omega), hh _ h2]
    refine iy (inbT (by omega) (by omega)) (iy (inbT (by omega) (by omega)) ?_)
    rw [cntF]
    unfold f_X7_wanted_b46
    by_cases q : eC (ho (fi i)) = v
    · refine iy q ?_
      rw [al, al, ih (i + 1) m (acc + 1) (by omega) (by omega), if_pos (decide_eq_true q)]
      congr 2
      omega
    · refine ino q ?_
      rw [al, al, Nat.add_zero, ih (i + 1) m acc (by omega) (by omega), if_neg (by simp [q])]
      congr 2
      omega
