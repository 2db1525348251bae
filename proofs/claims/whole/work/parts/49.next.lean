/-! ===== the next request ===== -/
theorem stands_loop (w : UX) {l c : Nat} (hc : c < 30) (hl : l < 32) {at' : Nat → Nat} (hs : ∀ k, k < 32 → w.1 (16 + k) = eC (at' k)) (h30 : ∀ k, k < 32 → at' k ≤ 30) (hat : at' l = c) (hne : ∀ k, k < l → at' k ≠ c) : ∀ d k n, k + d = l → d < n → f_X7_standsAt_b2 n w (nI c) (nI k) = some (nI l) := by
  intro d
  induction d with
  | zero =>
    intro k n h hn
    obtain ⟨m, rfl⟩ : ∃ m, n = m + 1 := ⟨n - 1, by omega⟩
    have hk : k = l := by omega
    subst hk
    rw [f_X7_standsAt_b2]
    refine iy (by rw [la]; exact inbT (by omega) (by omega)) (iy ?_ rfl)
    rw [la, clp (by omega), hs k hl, hat, eC_n (by omega)]
  | succ d ih =>
    intro k n h hn
    obtain ⟨m, rfl⟩ : ∃ m, n = m + 1 := ⟨n - 1, by omega⟩
    rw [f_X7_standsAt_b2]
    refine iy (by rw [la]; exact inbT (by omega) (by omega)) (ino ?_ ?_)
    · rw [la, clp (by omega), hs k (by omega), eC_inj (h30 k (by omega)) hc]
      exact hne k (by omega)
    · rw [al]
      exact ih (k + 1) m (by omega) (by omega)
theorem standsAt_eq {W P N M z lm k13 k14 k15 : Nat} {wt loc at' ho fi : Nat → Nat} {we by' ra ti : Nat → Int32} {tk tu se : Int32} {s : UA} (o : OKv W P N M z lm k13 k14 k15 wt loc at' ho fi) (x : RX W P N M z k13 k14 k15 wt loc at' ho fi we by' ra ti tk tu se s) (w : UX) (hw : w.1 = s) {c : Nat} (hc : c < N) (hl : loc c < 32) : f_X7_standsAt w (nI c) = some (nI (loc c)) := by
  obtain ⟨o1, o2, o3, o4, o5, o6, B, D, o9, o10, o11, o12, o13, o14, o15, o16, o17⟩ := o
  obtain ⟨x0, x1, x2, x6, x7, x8, x9, x10, x13, x14, x15, xA, xE, xP, xC, xH, xR⟩ := x
  subst hw
  have hd := D c hc
  refine stands_loop w (by omega) hl xA (fun k hk => by have := B k (by omega); omega) (by omega) (fun k hk e => ?_) (loc c) 0 FUEL (by omega) (by rw [fuel1]; omega)
  have := B k (by omega)
  rw [e] at this
  omega
def apI (a b : Int32) : Int32 := if 4 < jrem ((b - a) + 8) 8 then 8 - jrem ((b - a) + 8) 8 else jrem ((b - a) + 8) 8
theorem apart_eq (a b : Int32) : f_X7_apart a b = some (apI a b) := by
  unfold f_X7_apart apI
  by_cases h : 4 < jrem ((b - a) + 8) 8
  · rw [if_pos h, if_pos h]
  · rw [if_neg h, if_neg h]
theorem distance_eq (a b : Int32) : f_X6_distance a b = some (apI a b) := by
  unfold f_X6_distance apI f_X6_wallsToTheRight
  by_cases h : 4 < jrem ((b - a) + 8) 8
  · refine bnd rfl (iy h ?_)
    rw [if_pos h]
  · refine bnd rfl (ino h ?_)
    rw [if_neg h]
def mer (j W M : Nat) (loc ho fi : Nat → Nat) (ra : Nat → Int32) (k : Nat) : Int32 := if j = 1 then ra k else if j = 2 then -(apI (nI W) (nI (loc (ho (fi k)) / 4))) else if j = 3 then nI (cntF (fun x => decide (eC (ho (fi x)) = eC (ho (fi k)))) M 0) else 0
def elig (loc ho fi : Nat → Nat) (we : Nat → Int32) (k : Nat) : Prop := ho (fi k) ≠ 30 ∧ loc (ho (fi k)) < 32 ∧ we (ho (fi k)) < 6
theorem isOnShelf_eq (u : UC) {c l : Nat} (hc : c < 30) (hl : l ≤ 37) (hs : u.2.2.2.1 c = eL l) : f_X0_isOnShelf u (nI c) = some (if l < 32 then 1 else 0) := by
  unfold f_X0_isOnShelf
  refine bnd (slotOf_eq u hc) ?_
  rw [hs]
  by_cases h37 : l = 37
  · subst h37
    rfl
  · rw [eL_n h37]
    by_cases h : l < 32
    · rw [isIn_k (by omega) (by omega) (by omega), if_pos h]
      rfl
    · rw [isIn_n (Or.inr (by rw [llt (by omega) (by omega)]; omega)), if_neg h]
      rfl
theorem wallOf_eq (u : UC) {c l : Nat} (hc : c < 30) (hl : l < 37) (hs : u.2.2.2.1 c = eL l) : f_X0_wallOf u (nI c) = some (nI (l / 4)) := by
  unfold f_X0_wallOf
  refine bnd (slotOf_eq u hc) ?_
  rw [hs, eL_n (by omega), dvl (by omega) (by omega) (by omega)]
theorem shelfOfWall_eq (u : UC) {c l : Nat} (hc : c < 30) (hl : l < 37) (hs : u.2.2.2.1 c = eL l) : f_X0_shelfOfWall u (nI c) = some (nI (l % 4)) := by
  unfold f_X0_shelfOfWall
  refine bnd (slotOf_eq u hc) ?_
  rw [hs, eL_n (by omega), rml (by omega) (by omega) (by omega)]
theorem holderFor_eq {W P N M z lm k13 k14 k15 : Nat} {wt loc at' ho fi : Nat → Nat} {we by' ra ti : Nat → Int32} {tk tu se : Int32} {u : UL} (o : OKv W P N M z lm k13 k14 k15 wt loc at' ho fi) (r : RC W P N M z lm wt loc at' ho fi we by' ra ti tk tu se u) {k : Nat} (hk : k < M) : f_X2_holderFor u (nI k) = some (eC (ho (fi k))) := by
  obtain ⟨o1, o2, o3, o4, o5, o6, B, D, o9, o10, o11, o12, o13, o14, o15, o16, o17⟩ := o
  obtain ⟨cwt, cwe, cby, csl, coc, cho, rf, rr, rt, rfl, r1, r2, r3, r4⟩ := r
  unfold f_X2_holderFor
  refine bnd (fileOf_eq _ (by omega)) ?_
  dsimp only
  rw [(r4 k hk).1, holderOf_eq _ (o12 k hk)]
  exact congrArg some (r3 _ (o12 k hk))
theorem worth_eq {W P N M z lm k13 k14 k15 : Nat} {wt loc at' ho fi : Nat → Nat} {we by' ra ti : Nat → Int32} {tk tu se : Int32} {s : UA} (o : OKv W P N M z lm k13 k14 k15 wt loc at' ho fi) (x : RX W P N M z k13 k14 k15 wt loc at' ho fi we by' ra ti tk tu se s) (w : UX) (hw : w.1 = s) {j k : Nat} (hj : j ≤ 3) (hk : k < M) (he : elig loc ho fi we k) : f_X7_worth w (nI k) (nI j) = some (mer j W M loc ho fi ra k) := by
  have hst := fun c hc hl => standsAt_eq o x w hw (c := c) hc hl
  obtain ⟨o1, o2, o3, o4, o5, o6, B, D, o9, o10, o11, o12, o13, o14, o15, o16, o17⟩ := o
  obtain ⟨x0, x1, x2, x6, x7, x8, x9, x10, x13, x14, x15, xA, xE, xP, xC, xH, xR⟩ := x
  subst hw
  have hf := o12 k hk
  have hoN : ho (fi k) < N := by have := o11 _ hf; have := he.1; omega
  unfold f_X7_worth
  rw [ml, la, clp (by omega), (xR k hk).1, la, clp (by omega), xH _ hf, eC_n he.1]
  refine iy (inbT (by omega) (by omega)) (iy (inbT (by omega) (by omega)) ?_)
  unfold mer
  rcases (show j = 0 ∨ j = 1 ∨ j = 2 ∨ j = 3 by omega) with rfl | rfl | rfl | rfl
  · rfl
  · refine ino (by decide) (iy (by decide) ?_)
    rw [al, clp (by omega), (xR k hk).2.1]
    exact iy (inbT (by omega) (by omega)) rfl
  · refine ino (by decide) (ino (by decide) (iy (by decide) ?_))
    refine bnd (hst _ hoN he.2.1) (bnd (apart_eq _ _) ?_)
    have he2 := he.2.1
    rw [x1, dvl (by omega) (by omega) (by omega)]
    rfl
  · refine ino (by decide) (ino (by decide) (ino (by decide) ?_))
    unfold f_X7_wanted
    have := waM_loop w (nI (ho (fi k))) o4 x8 (fun k hk => (xR k hk).1) o12 xH M 0 FUEL 0 (by omega) (by rw [fuel1]; omega)
    rw [Nat.zero_add] at this
    refine bnd this ?_
    rw [eC_n he.1]
    rfl
theorem next_loop {W P N M z lm k13 k14 k15 : Nat} {wt loc at' ho fi : Nat → Nat} {we by' ra ti : Nat → Int32} {tk tu se : Int32} {u : UL} {s : UA} (h : Sim W P N M z lm k13 k14 k15 wt loc at' ho fi we by' ra ti tk tu se u s) {j : Nat} (hj : j ≤ 3) : ∀ (d i n1 n2 : Nat) (b m : Int32), i + d = M → d < n1 → d < n2 → (b = -1 ∨ ∃ q, q < M ∧ b = nI q ∧ elig loc ho fi we q ∧ m = mer j W M loc ho fi ra q) →
    ∃ r : Int32, f_X2_nextRequest_b7 n1 u (nI j) b m (nI i) = some r ∧ (∀ w : UX, w.1 = s → f_X7_next_b4 n2 w (nI j) b (nI i) = some r) ∧ (r = -1 ∨ ∃ q, q < M ∧ r = nI q ∧ elig loc ho fi we q) := by
  have hwo := fun w hw k hk he => worth_eq h.1 h.2.2 w hw (j := j) (k := k) hj hk he
  have hhf := fun k hk => holderFor_eq h.1 h.2.1 (k := k) hk
  obtain ⟨⟨o1, o2, o3, o4, o5, o6, B, D, o9, o10, o11, o12, o13, o14, o15, o16, o17⟩, ⟨cwt, cwe, cby, csl, coc, cho, rf, rr, rt, rfl, r1, r2, r3, r4⟩, x0, x1, x2, x6, x7, x8, x9, x10, x13, x14, x15, xA, xE, xP, xC, xH, xR⟩ := h
  intro d
  induction d with
  | zero =>
    intro i n1 n2 b m hi h1 h2 hb
    obtain ⟨m1, rfl⟩ : ∃ m, n1 = m + 1 := ⟨n1 - 1, by omega⟩
    obtain ⟨m2, rfl⟩ : ∃ m, n2 = m + 1 := ⟨n2 - 1, by omega⟩
    have hiM : i = M := by omega
    subst hiM
    refine ⟨b, ?_, ?_, ?_⟩
    · rw [f_X2_nextRequest_b7]
      exact iy (Int32.le_refl _) rfl
    · intro w hw
      rw [f_X7_next_b4]
      exact iy (by rw [hw, x8]; exact Int32.le_refl _) rfl
    · rcases hb with hb | ⟨q, q1, q2, q3, _⟩
      · exact Or.inl hb
      · exact Or.inr ⟨q, q1, q2, q3⟩
  | succ d ih =>
    intro i n1 n2 b m hi h1 h2 hb
    obtain ⟨m1, rfl⟩ : ∃ m, n1 = m + 1 := ⟨n1 - 1, by omega⟩
    obtain ⟨m2, rfl⟩ : ∃ m, n2 = m + 1 := ⟨n2 - 1, by omega⟩
    have hiM : i < M := by omega
    have hf := o12 i hiM
    have hMi : ¬ nI M ≤ nI i := by rw [len' (by omega) (by omega)]; omega
    have mstart : ∀ (w : UX) (r : Int32), w.1 = s → (if eC (ho (fi i)) < 0 then f_X7_next_b69 (f_X7_next_b4 m2) w (nI j) b (nI i) else ((f_X7_ca w (eC (ho (fi i))) 2).bind fun r47 => (if r47 = 0 then ((f_X7_ca w (eC (ho (fi i))) 1).bind fun r57 => (if 6 ≤ r57 then f_X7_next_b69 (f_X7_next_b4 m2) w (nI j) b (nI i) else f_X7_next_b70 (f_X7_next_b4 m2) w (nI j) b (nI i) 1)) else f_X7_next_b69 (f_X7_next_b4 m2) w (nI j) b (nI i)))) = some r → f_X7_next_b4 (m2 + 1) w (nI j) b (nI i) = some r := by
      intro w r hw hr
      subst hw
      rw [f_X7_next_b4]
      refine ino (by rw [x8]; exact hMi) ?_
      rw [ml, la, clp (by omega), (xR i hiM).1, la, clp (by omega), xH _ hf]
      exact iy (inbT (by omega) (by omega)) (iy (inbT (by omega) (by omega)) hr)
    have skipM : ∀ (w : UX), f_X7_next_b69 (f_X7_next_b4 m2) w (nI j) b (nI i) = f_X7_next_b4 m2 w (nI j) b (nI (i + 1)) := by
      intro w
      unfold f_X7_next_b69 f_X7_next_b70 f_X7_next_b100 f_X7_next_b101
      rw [if_pos rfl, al]
    have skipC : ∀ (u : UL), f_X2_nextRequest_b133 (f_X2_nextRequest_b7 m1) u (nI j) b m (nI i) = f_X2_nextRequest_b7 m1 u (nI j) b m (nI (i + 1)) := by
      intro u
      unfold f_X2_nextRequest_b133
      rw [al]
    by_cases h30 : ho (fi i) = 30
    · obtain ⟨r, c1, c2, c3⟩ := ih (i + 1) m1 m2 b m (by omega) (by omega) (by omega) hb
      refine ⟨r, ?_, ?_, c3⟩
      · rw [f_X2_nextRequest_b7]
        refine ino hMi (bnd (hhf i hiM) ?_)
        rw [h30]
        exact bnd (a := 0) rfl (iy rfl ((skipC _).trans c1))
      · intro w hw
        refine mstart w r hw ?_
        rw [h30]
        exact iy (by decide) ((skipM w).trans (c2 w hw))
    · have hoN : ho (fi i) < N := by have := o11 _ hf; omega
      have hl37 : loc (ho (fi i)) ≤ 37 := by have := D _ hoN; omega
      obtain ⟨xc0, xc1, xc2, xc3⟩ := xC _ hoN
      obtain ⟨rc0, rc1, rc2, rc3⟩ := r1 _ hoN
      have hnn : ¬ nI (ho (fi i)) < 0 := by rw [ltl (by omega) (by omega)]; omega
      have hca2 : ∀ w : UX, w.1 = s → f_X7_ca w (nI (ho (fi i))) 2 = some (nI (kd (loc (ho (fi i))))) := fun w hw => by
        rw [show (2 : Int32) = nI 2 from rfl, ca_w (by omega) (by omega), hw, xc2]
      have hca1 : ∀ w : UX, w.1 = s → f_X7_ca w (nI (ho (fi i))) 1 = some (we (ho (fi i))) := fun w hw => by
        rw [show (1 : Int32) = nI 1 from rfl, ca_w (by omega) (by omega), hw, xc1]
      have hw0 : ∀ n, f_X0_isWorn (cwt, cwe, cby, csl, coc, cho, n) (nI (ho (fi i))) = some (if we (ho (fi i)) < 6 then 0 else 1) := fun n => by
        rw [isWorn_eq _ (by omega), ← rc1]
      by_cases hsh : loc (ho (fi i)) < 32
      · by_cases hwr : we (ho (fi i)) < 6
        · have hel : elig loc ho fi we i := ⟨h30, hsh, hwr⟩
          have hskip : ∀ r, f_X2_nextRequest_b116 (f_X2_nextRequest_b7 m1) ((cwt, cwe, cby, csl, coc, cho, nI N), (rf, rr, rt, nI M), nI W, nI z, nI P, nI (pw P wt at'), nI lm, tk, tu, se) (nI j) b m (nI i) (mer j W M loc ho fi ra i) = some r → f_X2_nextRequest_b7 (m1 + 1) ((cwt, cwe, cby, csl, coc, cho, nI N), (rf, rr, rt, nI M), nI W, nI z, nI P, nI (pw P wt at'), nI lm, tk, tu, se) (nI j) b m (nI i) = some r := by
            intro r hr
            rw [f_X2_nextRequest_b7]
            refine ino hMi (bnd (hhf i hiM) ?_)
            rw [eC_n h30]
            refine bnd (isOnShelf_eq _ (by omega) hl37 rc3) ?_
            rw [if_pos hsh]
            refine ino (by decide) (bnd ((hw0 _).trans (congrArg some (if_pos hwr))) ?_)
            refine iy rfl ?_
            unfold mer at hr
            rcases (show j = 0 ∨ j = 1 ∨ j = 2 ∨ j = 3 by omega) with rfl | rfl | rfl | rfl
            · exact ino (by decide) (ino (by decide) (ino (by decide) hr))
            · refine iy (by decide) (bnd (rankOf_eq _ (by omega)) ?_)
              dsimp only
              rw [(r4 i hiM).2.1]
              exact hr
            · refine ino (by decide) (iy (by decide) (bnd (wallOf_eq _ (by omega) (by omega) rc3) (bnd (distance_eq _ _) hr)))
            · refine ino (by decide) (ino (by decide) (iy (by decide) (bnd (a := nI (cntF (fun x => decide (eC (ho (fi x)) = eC (ho (fi i)))) M 0)) ?_ hr)))
              unfold f_X2_waitingFor
              have := waC_loop ((cwt, cwe, cby, csl, coc, cho, nI N), (rf, rr, rt, nI M), nI W, nI z, nI P, nI (pw P wt at'), nI lm, tk, tu, se) (nI (ho (fi i))) o4 rfl (fun k hk => (r4 k hk).1) o12 r3 M 0 FUEL 0 (by omega) (by rw [fuel1]; omega)
              rw [Nat.zero_add] at this
              rw [eC_n h30]
              exact this
          have mskip : ∀ (w : UX) (r : Int32), w.1 = s → f_X7_next_b70 (f_X7_next_b4 m2) w (nI j) b (nI i) 1 = some r → f_X7_next_b4 (m2 + 1) w (nI j) b (nI i) = some r := by
            intro w r hw hr
            refine mstart w r hw ?_
            rw [eC_n h30]
            refine ino hnn (bnd (hca2 w hw) (iy ?_ (bnd (hca1 w hw) (ino ?_ hr))))
            · rw [kd_0 hl37]; exact hsh
            · exact fun q => absurd hwr (Int32.not_lt.mpr q)
          have takes : ∃ r : Int32, f_X2_nextRequest_b7 m1 ((cwt, cwe, cby, csl, coc, cho, nI N), (rf, rr, rt, nI M), nI W, nI z, nI P, nI (pw P wt at'), nI lm, tk, tu, se) (nI j) (nI i) (mer j W M loc ho fi ra i) (nI (i + 1)) = some r ∧ (∀ w : UX, w.1 = s → f_X7_next_b4 m2 w (nI j) (nI i) (nI (i + 1)) = some r) ∧ (r = -1 ∨ ∃ q, q < M ∧ r = nI q ∧ elig loc ho fi we q) := ih (i + 1) m1 m2 (nI i) (mer j W M loc ho fi ra i) (by omega) (by omega) (by omega) (Or.inr ⟨i, hiM, rfl, hel, rfl⟩)
          have stays := ih (i + 1) m1 m2 b m (by omega) (by omega) (by omega) hb
          rcases hb with hb | ⟨q, q1, q2, q3, q4⟩
          · obtain ⟨r, c1, c2, c3⟩ := takes
            refine ⟨r, hskip r ?_, fun w hw => mskip w r hw ?_, c3⟩
            · unfold f_X2_nextRequest_b116 f_X2_nextRequest_b127 f_X2_nextRequest_b133
              refine iy hb ?_
              rw [al]
              exact c1
            · unfold f_X7_next_b70 f_X7_next_b96 f_X7_next_b101
              refine ino (by decide) (iy (by rw [hb]; decide) ?_)
              rw [al]
              exact c2 w hw
          · have hbn : ¬ b = -1 := by rw [q2, nI_m1 (by omega)]; exact id
            have hbn0 : ¬ b < 0 := by rw [q2, ltl (by omega) (by omega)]; omega
            by_cases hm : mer j W M loc ho fi ra i ≤ m
            · obtain ⟨r, c1, c2, c3⟩ := stays
              refine ⟨r, hskip r ?_, fun w hw => mskip w r hw ?_, c3⟩
              · unfold f_X2_nextRequest_b116 f_X2_nextRequest_b133
                refine ino hbn (iy hm ?_)
                rw [al]
                exact c1
              · unfold f_X7_next_b70 f_X7_next_b100 f_X7_next_b101
                refine ino (by decide) (ino hbn0 (bnd (hwo w hw i hiM hel) (bnd (a := m) ?_ (iy hm ?_))))
                · rw [q2, q4]
                  exact hwo w hw q q1 q3
                · rw [al]
                  exact c2 w hw
            · obtain ⟨r, c1, c2, c3⟩ := takes
              refine ⟨r, hskip r ?_, fun w hw => mskip w r hw ?_, c3⟩
              · unfold f_X2_nextRequest_b116 f_X2_nextRequest_b127 f_X2_nextRequest_b133
                refine ino hbn (ino hm ?_)
                rw [al]
                exact c1
              · unfold f_X7_next_b70 f_X7_next_b96 f_X7_next_b101
                refine ino (by decide) (ino hbn0 (bnd (hwo w hw i hiM hel) (bnd (a := m) ?_ (ino hm ?_))))
                · rw [q2, q4]
                  exact hwo w hw q q1 q3
                · rw [al]
                  exact c2 w hw
        · obtain ⟨r, c1, c2, c3⟩ := ih (i + 1) m1 m2 b m (by omega) (by omega) (by omega) hb
          refine ⟨r, ?_, ?_, c3⟩
          · rw [f_X2_nextRequest_b7]
            refine ino hMi (bnd (hhf i hiM) ?_)
            rw [eC_n h30]
            refine bnd (isOnShelf_eq _ (by omega) hl37 rc3) ?_
            rw [if_pos hsh]
            refine ino (by decide) (bnd ((hw0 _).trans (congrArg some (if_neg hwr))) ?_)
            exact ino (by decide) ((skipC _).trans c1)
          · intro w hw
            refine mstart w r hw ?_
            rw [eC_n h30]
            refine ino hnn (bnd (hca2 w hw) (iy ?_ (bnd (hca1 w hw) (iy ?_ ((skipM w).trans (c2 w hw))))))
            · rw [kd_0 hl37]; exact hsh
            · exact Int32.not_lt.mp hwr
      · obtain ⟨r, c1, c2, c3⟩ := ih (i + 1) m1 m2 b m (by omega) (by omega) (by omega) hb
        refine ⟨r, ?_, ?_, c3⟩
        · rw [f_X2_nextRequest_b7]
          refine ino hMi (bnd (hhf i hiM) ?_)
          rw [eC_n h30]
          refine bnd (isOnShelf_eq _ (by omega) hl37 rc3) ?_
          rw [if_neg hsh]
          exact iy rfl ((skipC _).trans c1)
        · intro w hw
          refine mstart w r hw ?_
          rw [eC_n h30]
          refine ino hnn (bnd (hca2 w hw) (ino ?_ ((skipM w).trans (c2 w hw))))
          rw [kd_0 hl37]; exact hsh
theorem next_ok {W P N M z lm k13 k14 k15 : Nat} {wt loc at' ho fi : Nat → Nat} {we by' ra ti : Nat → Int32} {tk tu se : Int32} {u : UL} {s : UA} (h : Sim W P N M z lm k13 k14 k15 wt loc at' ho fi we by' ra ti tk tu se u s) {j : Nat} (hj : j ≤ 3) : ∃ r : Int32, f_X2_nextRequest u (nI j) = some r ∧ (∀ w : UX, w.1 = s → f_X7_next w (nI j) = some r) ∧ (r = -1 ∨ ∃ q, q < M ∧ r = nI q ∧ elig loc ho fi we q) := by
  have hM := h.1.2.2.2.1
  exact next_loop h hj M 0 FUEL FUEL (-1) 0 (by omega) (by rw [fuel1]; omega) (by rw [fuel1]; omega) (Or.inl rfl)
