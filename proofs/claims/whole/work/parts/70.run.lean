/-! ===== the pure run: program and model agree from the first call on ===== -/
theorem cnt_none (c : Nat) (hc : c < 30) : ∀ d i, cntF (fun _ => decide (30 = c)) d i = 0 := by
  intro d
  induction d with
  | zero => intro i; rfl
  | succ d ih =>
    intro i
    rw [cntF, ih, if_neg (by simp; omega)]
theorem iXs_m {j : Nat} (h : j = 11 ∨ j = 12 ∨ (16 ≤ j ∧ j < 48) ∨ (168 ≤ j ∧ j < 228)) : iXs j = -1 := if_pos h
theorem rl_first : Rl 0 iL iXs := by
  refine ⟨0, 0, 0, 0, 0, 0, 0, 0, 0, fun _ => 1, fun _ => 37, fun _ => 30, fun _ => 30, fun _ => 0, fun _ => 0, fun _ => 0, fun _ => 0, fun _ => 0, 0, 0, 0, ⟨⟨by omega, by omega, by omega, by omega, by omega, by omega, fun _ _ => Or.inl rfl, fun c h => absurd h (by omega), fun i _ => ⟨fun _ => by omega, fun _ => rfl⟩, fun c h => absurd h (by omega), fun _ _ => Or.inl rfl, fun k h => absurd h (by omega), fun h => absurd rfl h, fun h => absurd rfl h, fun h => absurd rfl h, by omega, by omega⟩, ⟨f0, f0, f0, f0, fm, fm, f0, f0, f0, rfl, fun c h => absurd h (by omega), fun _ _ => rfl, fun _ _ => rfl, fun k h => absurd h (by omega)⟩, ⟨rfl, rfl, rfl, rfl, rfl, rfl, rfl, rfl, rfl, rfl, rfl, fun k hk => iXs_m (by omega), fun k hk => iXs_m (by omega), fun i h => absurd h (by omega), fun c h => absurd h (by omega), fun k hk => iXs_m (by omega), fun k h => absurd h (by omega)⟩⟩, by omega, fun c hx => ?_⟩
  unfold hc
  rw [cnt_none c hx]
  omega
theorem jn_first : Jn 0 iM iX := by
  refine ⟨rl_first, ⟨0, 0, by omega, by omega, rfl, rfl, rfl, fun k h => absurd h (by omega)⟩, rfl, 0, by omega, rfl, rfl⟩
theorem jn_mono {B B' : Nat} {um : UM} {ux : UX} (h : Jn B um ux) (hB : B ≤ B') : Jn B' um ux := ⟨rl_mono h.1 hB, hist_mono h.2.1 hB, h.2.2⟩
theorem call2_mono {B B' : Nat} {c : Option (Int32 × UM)} {m : Option (Int32 × UX)} (h : Call2 B c m) (hB : B ≤ B') : Call2 B' c m := by
  obtain ⟨r, a, b, h1, h2, h3⟩ := h
  exact ⟨r, a, b, h1, h2, jn_mono h3 hB⟩
theorem law_one (L : Nat) (hL : L ≤ 2048) (xs : Nat → Int32) (n i B : Nat) (hi : i + 4 ≤ L) (hB : B + 60 < 2147483648) {um : UM} {ux : UX} (hJ : Jn B um ux) (hK : ∀ um' ux', Jn (B + 60) um' ux' → f_L_law_b18 L xs n (um', ux') (nI (i + 4)) = some ()) : f_L_law_b18 L xs (n + 1) (um, ux) (nI i) = some () := by
  have hK' : ∀ um' ux', Jn (B + 60) um' ux' → f_L_law_b793 L xs (f_L_law_b18 L xs n) (um', ux') (nI i) = some () := fun um' ux' h => by
    unfold f_L_law_b793
    rw [al]
    exact hK um' ux' h
  have i0 : inb (nI i) L = true := inbT (by omega) (by omega)
  have i1 : inb (nI i + 1) L = true := by rw [al]; exact inbT (by omega) (by omega)
  have i2 : inb (nI i + 2) L = true := by rw [al]; exact inbT (by omega) (by omega)
  have i3 : inb (nI i + 3) L = true := by rw [al]; exact inbT (by omega) (by omega)
  have hc0 : ∀ {B' : Nat} {c : Option (Int32 × UM)} {m : Option (Int32 × UX)}, Call2 B' c m → B' ≤ B + 60 → ∃ r um' ux', c = some (r, um') ∧ m = some (r, ux') ∧ f_L_law_b793 L xs (f_L_law_b18 L xs n) (um', ux') (nI i) = some () := fun h hb => by
    obtain ⟨r, a, b, h1, h2, h3⟩ := h
    exact ⟨r, a, b, h1, h2, hK' a b (jn_mono h3 hb)⟩
  have hst : f_L_law_b793 L xs (f_L_law_b18 L xs n) (um, ux) (nI i) = some () := hK' um ux (jn_mono hJ (by omega))
  rw [f_L_law_b18]
  refine ino ?_ (iy i0 ?_)
  · rw [sbl (by omega), ltn (by omega) (by omega)]
    omega
  by_cases q0 : ((xs (nI i).toNatClampNeg) &&& 31) = 0
  · obtain ⟨r, um', ux', h1, h2, h3⟩ := hc0 (bring_call hJ (xs (nI i + 1).toNatClampNeg) (xs (nI i + 2).toNatClampNeg) (xs (nI i + 3).toNatClampNeg)) (by omega)
    exact iy q0 (iy i1 (iy i2 (iy i3 (bnd h1 (iy i1 (iy i2 (iy i3 (bnd h2 (iy rfl h3)))))))))
  refine ino q0 ?_
  by_cases q1 : ((xs (nI i).toNatClampNeg) &&& 31) = 1
  · obtain ⟨r, um', ux', h1, h2, h3⟩ := hc0 (send_call hJ (xs (nI i + 1).toNatClampNeg) (xs (nI i + 2).toNatClampNeg) (xs (nI i + 3).toNatClampNeg)) (by omega)
    exact iy q1 (iy i1 (iy i2 (iy i3 (bnd h1 (iy i1 (iy i2 (iy i3 (bnd h2 (iy rfl h3)))))))))
  refine ino q1 ?_
  by_cases q2 : ((xs (nI i).toNatClampNeg) &&& 31) = 2
  · obtain ⟨r, um', ux', h1, h2, h3⟩ := hc0 (lift_call hJ (xs (nI i + 1).toNatClampNeg)) (by omega)
    exact iy q2 (iy i1 (bnd h1 (iy i1 (bnd h2 (iy rfl h3)))))
  refine ino q2 ?_
  by_cases q3 : ((xs (nI i).toNatClampNeg) &&& 31) = 3
  · obtain ⟨r, um', ux', h1, h2, h3⟩ := hc0 (lay_call hJ (xs (nI i + 1).toNatClampNeg)) (by omega)
    exact iy q3 (iy i1 (bnd h1 (iy i1 (bnd h2 (iy rfl h3)))))
  refine ino q3 ?_
  by_cases q4 : ((xs (nI i).toNatClampNeg) &&& 31) = 4
  · obtain ⟨r, um', ux', h1, h2, h3⟩ := hc0 (weigh_call hJ ) (by omega)
    exact iy q4 (bnd h1 (bnd h2 (iy rfl h3)))
  refine ino q4 ?_
  by_cases q5 : ((xs (nI i).toNatClampNeg) &&& 31) = 5
  · obtain ⟨r, um', ux', h1, h2, h3⟩ := hc0 (turn_call hJ (xs (nI i + 1).toNatClampNeg)) (by omega)
    exact iy q5 (iy i1 (bnd h1 (iy i1 (bnd h2 (iy rfl h3)))))
  refine ino q5 ?_
  by_cases q6 : ((xs (nI i).toNatClampNeg) &&& 31) = 6
  · obtain ⟨r, um', ux', h1, h2, h3⟩ := hc0 (mount_call hJ (xs (nI i + 1).toNatClampNeg)) (by omega)
    exact iy q6 (iy i1 (bnd h1 (iy i1 (bnd h2 (iy rfl h3)))))
  refine ino q6 ?_
  by_cases q7 : ((xs (nI i).toNatClampNeg) &&& 31) = 7
  · obtain ⟨r, um', ux', h1, h2, h3⟩ := hc0 (take_call hJ (xs (nI i + 1).toNatClampNeg)) (by omega)
    exact iy q7 (iy i1 (bnd h1 (iy i1 (bnd h2 (iy rfl h3)))))
  refine ino q7 ?_
  by_cases q8 : ((xs (nI i).toNatClampNeg) &&& 31) = 8
  · obtain ⟨r, um', ux', h1, h2, h3⟩ := hc0 (hold_call hJ (xs (nI i + 1).toNatClampNeg) (xs (nI i + 2).toNatClampNeg)) (by omega)
    exact iy q8 (iy i1 (iy i2 (bnd h1 (iy i1 (iy i2 (bnd h2 (iy rfl h3)))))))
  refine ino q8 ?_
  by_cases q9 : ((xs (nI i).toNatClampNeg) &&& 31) = 9
  · obtain ⟨r, um', ux', h1, h2, h3⟩ := hc0 (request_call hJ (xs (nI i + 1).toNatClampNeg) (xs (nI i + 2).toNatClampNeg)) (by omega)
    exact iy q9 (iy i1 (iy i2 (bnd h1 (iy i1 (iy i2 (bnd h2 (iy rfl h3)))))))
  refine ino q9 ?_
  by_cases q10 : ((xs (nI i).toNatClampNeg) &&& 31) = 10
  · obtain ⟨r, um', ux', h1, h2, h3⟩ := hc0 (serve_call (by omega) hJ (xs (nI i + 1).toNatClampNeg)) (by omega)
    exact iy q10 (iy i1 (bnd h1 (iy i1 (bnd h2 (iy rfl h3)))))
  refine ino q10 ?_
  by_cases q11 : ((xs (nI i).toNatClampNeg) &&& 31) = 11
  · obtain ⟨r, h1, h2⟩ := cartridgeOf_call hJ (xs (nI i + 1).toNatClampNeg) (xs (nI i + 2).toNatClampNeg)
    exact iy q11 (iy i1 (iy i2 (bnd h1 (iy i1 (iy i2 (bnd h2 (iy rfl hst)))))))
  refine ino q11 ?_
  by_cases q12 : ((xs (nI i).toNatClampNeg) &&& 31) = 12
  · obtain ⟨r, h1, h2⟩ := shelfOf_call hJ (xs (nI i + 1).toNatClampNeg) (xs (nI i + 2).toNatClampNeg)
    exact iy q12 (iy i1 (iy i2 (bnd h1 (iy i1 (iy i2 (bnd h2 (iy rfl hst)))))))
  refine ino q12 ?_
  by_cases q13 : ((xs (nI i).toNatClampNeg) &&& 31) = 13
  · obtain ⟨r, h1, h2⟩ := holder_call hJ (xs (nI i + 1).toNatClampNeg)
    exact iy q13 (iy i1 (bnd h1 (iy i1 (bnd h2 (iy rfl hst)))))
  refine ino q13 ?_
  by_cases q14 : ((xs (nI i).toNatClampNeg) &&& 31) = 14
  · obtain ⟨r, h1, h2⟩ := requestOf_call hJ (xs (nI i + 1).toNatClampNeg) (xs (nI i + 2).toNatClampNeg)
    exact iy q14 (iy i1 (iy i2 (bnd h1 (iy i1 (iy i2 (bnd h2 (iy rfl hst)))))))
  refine ino q14 ?_
  by_cases q15 : ((xs (nI i).toNatClampNeg) &&& 31) = 15
  · obtain ⟨r, h1, h2⟩ := nextBy_call hJ (xs (nI i + 1).toNatClampNeg)
    exact iy q15 (iy i1 (bnd h1 (iy i1 (bnd h2 (iy rfl hst)))))
  refine ino q15 ?_
  by_cases q16 : ((xs (nI i).toNatClampNeg) &&& 31) = 16
  · obtain ⟨r, um', ux', h1, h2, h3⟩ := hc0 (would_call (by omega) hJ (xs (nI i + 1).toNatClampNeg) (xs (nI i + 2).toNatClampNeg)) (by omega)
    exact iy q16 (iy i1 (iy i2 (bnd h1 (iy i1 (iy i2 (bnd h2 (iy rfl h3)))))))
  refine ino q16 ?_
  by_cases q17 : ((xs (nI i).toNatClampNeg) &&& 31) = 17
  · obtain ⟨r, um', ux', h1, h2, h3⟩ := hc0 (wayTo_call hJ (xs (nI i + 1).toNatClampNeg)) (by omega)
    exact iy q17 (iy i1 (bnd h1 (iy i1 (bnd h2 (iy rfl h3)))))
  refine ino q17 ?_
  by_cases q18 : ((xs (nI i).toNatClampNeg) &&& 31) = 18
  · obtain ⟨r, um', ux', h1, h2, h3⟩ := hc0 (wholeBatch_call (by omega) hJ (xs (nI i + 1).toNatClampNeg) (xs (nI i + 2).toNatClampNeg)) (by omega)
    exact iy q18 (iy i1 (iy i2 (bnd h1 (iy i1 (iy i2 (bnd h2 (iy rfl h3)))))))
  refine ino q18 ?_
  by_cases q19 : ((xs (nI i).toNatClampNeg) &&& 31) = 19
  · obtain ⟨r, h1, h2⟩ := count_call hJ (xs (nI i + 1).toNatClampNeg)
    exact iy q19 (iy i1 (bnd h1 (iy i1 (bnd h2 (iy rfl hst)))))
  refine ino q19 ?_
  by_cases q20 : ((xs (nI i).toNatClampNeg) &&& 31) = 20
  · obtain ⟨r, um', ux', h1, h2, h3⟩ := hc0 (undo_call hJ ) (by omega)
    exact iy q20 (bnd h1 (bnd h2 (iy rfl h3)))
  refine ino q20 ?_
  by_cases q21 : ((xs (nI i).toNatClampNeg) &&& 31) = 21
  · obtain ⟨r, um', ux', h1, h2, h3⟩ := hc0 (type_call hJ (xs (nI i + 1).toNatClampNeg)) (by omega)
    exact iy q21 (iy i1 (bnd h1 (iy i1 (bnd h2 (iy rfl h3)))))
  refine ino q21 ?_
  by_cases q22 : ((xs (nI i).toNatClampNeg) &&& 31) = 22
  · obtain ⟨r, um', ux', h1, h2, h3⟩ := hc0 (clear_call hJ ) (by omega)
    exact iy q22 (bnd h1 (bnd h2 (iy rfl h3)))
  refine ino q22 ?_
  by_cases q23 : ((xs (nI i).toNatClampNeg) &&& 31) = 23
  · obtain ⟨r, um', ux', h1, h2, h3⟩ := hc0 (fault_call hB hJ (xs (nI i + 1).toNatClampNeg)) (by omega)
    exact iy q23 (iy i1 (bnd h1 (iy i1 (bnd h2 (iy rfl h3)))))
  refine ino q23 ?_
  by_cases q24 : ((xs (nI i).toNatClampNeg) &&& 31) = 24
  · obtain ⟨r, um', ux', h1, h2, h3⟩ := hc0 (play_call hB hJ ) (by omega)
    exact iy q24 (bnd h1 (bnd h2 (iy rfl h3)))
  refine ino q24 ?_
  exact hst
theorem law_loop (L : Nat) (hL : L ≤ 2048) (xs : Nat → Int32) : ∀ d i n B um ux, L < i + 4 + 4 * d → i ≤ 2052 → d < n → B + 60 * d < 2147483648 → Jn B um ux → f_L_law_b18 L xs n (um, ux) (nI i) = some () := by
  have stop : ∀ i n um ux, L < i + 4 → i ≤ 2052 → 0 < n → f_L_law_b18 L xs n (um, ux) (nI i) = some () := by
    intro i n um ux hi hi2 hn
    obtain ⟨n, rfl⟩ : ∃ n', n = n' + 1 := ⟨n - 1, by omega⟩
    rw [f_L_law_b18]
    refine iy ?_ rfl
    by_cases h4 : 4 ≤ L
    · rw [sbl h4, ltn (by omega) (by omega)]
      omega
    · have hp : (0 : Int32) ≤ nI i := nI_pos' (by omega)
      refine Int32.lt_of_lt_of_le ?_ hp
      rcases (show L = 0 ∨ L = 1 ∨ L = 2 ∨ L = 3 by omega) with rfl | rfl | rfl | rfl <;> decide
  intro d
  induction d with
  | zero =>
    intro i n B um ux h h2 hn hB hJ
    exact stop i n um ux (by omega) h2 hn
  | succ d ih =>
    intro i n B um ux h h2 hn hB hJ
    by_cases hi : L < i + 4
    · exact stop i n um ux hi h2 (by omega)
    · obtain ⟨n, rfl⟩ : ∃ n', n = n' + 1 := ⟨n - 1, by omega⟩
      exact law_one L hL xs n i B (by omega) (by omega) hJ (fun um' ux' hJ' => ih (i + 4) n (B + 60) um' ux' (by omega) (by omega) (by omega) (by omega) hJ')
theorem law_pure (L : Nat) (hL : L ≤ 2048) (xs : Nat → Int32) : ∃ n, f_L_law_b18 L xs n (iM, iX) 0 = some () :=
  ⟨600, law_loop L hL xs 520 0 600 0 iM iX (by omega) (by omega) (by omega) (by omega) jn_first⟩
