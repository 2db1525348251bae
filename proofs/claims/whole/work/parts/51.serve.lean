/-! ===== serving by a rule ===== -/
/-- the model with other numbers, another last drive and cartridge -/
def wd (w : UX) (s : UA) (d e : Int32) : UX := (s, w.2.1, w.2.2.1, w.2.2.2.1, w.2.2.2.2.1, w.2.2.2.2.2.1, w.2.2.2.2.2.2.1, w.2.2.2.2.2.2.2.1, w.2.2.2.2.2.2.2.2.1, w.2.2.2.2.2.2.2.2.2.1, w.2.2.2.2.2.2.2.2.2.2.1, w.2.2.2.2.2.2.2.2.2.2.2.1, d, e)
def SimE (N M : Nat) (k15 : Nat) (wt ho : Nat → Nat) (u : UL) (s : UA) : Prop := ∃ (W P z lm k13 k14 : Nat) (loc at' fi : Nat → Nat) (we by' ra ti : Nat → Int32) (tk tu se : Int32), Sim W P N M z lm k13 k14 k15 wt loc at' ho fi we by' ra ti tk tu se u s
theorem csl_of {W P N M z lm k13 k14 k15 : Nat} {wt loc at' ho fi : Nat → Nat} {we by' ra ti : Nat → Int32} {tk tu se : Int32} {u : UL} {s : UA} (h : Sim W P N M z lm k13 k14 k15 wt loc at' ho fi we by' ra ti tk tu se u s) {c : Nat} (hc : c < N) : u.1.2.2.2.1 c = eL (loc c) := by
  obtain ⟨o, ⟨cwt, cwe, cby, csl, coc, cho, rf, rr, rt, rfl, r1, r⟩, x⟩ := h
  exact (r1 c hc).2.2.2
theorem tail_ok {W N M z lm k13 k14 k15 : Nat} {wt loc at' ho fi : Nat → Nat} {we by' ra ti : Nat → Int32} {tk tu se : Int32} {u : UL} {s : UA} (h : Sim W 0 N M z lm k13 k14 k15 wt loc at' ho fi we by' ra ti tk tu se u s) {c l e : Nat} (hc : c < N) (hl : loc c = l) (hl32 : l < 32) (hw : we c < 6) (he : e ≤ 1) (hfree : at' (35 + e) = 30) :
    ∃ (M' : Nat) (u' : UL) (s' : UA), M' ≤ M ∧ ((∃ j, j < M ∧ ho (fi j) = c) → M' < M) ∧ f_X2_serveBy_b105 u (nI c) (nI e) (nI (2 + 4 * e)) = some (nI (M - M'), u') ∧ (∀ w : UX, w.1 = s → f_X7_servesBy_b162 w (nI l) (nI e) = some (nI (M - M'), (s', w.2))) ∧ SimE N M' (k15 + 1) wt ho u' s' := by
  have hN := h.1.2.2.1
  have hat : at' l = c := by have := h.1.2.2.2.2.2.2.2.1 c hc; rw [hl] at this; omega
  obtain ⟨z1, tk1, tu1, u1, s1, c1, m1, S1⟩ := goTo_ok h (t := l / 4) (by omega)
  obtain ⟨u2, s2, c2, m2, S2⟩ := lift_ok S1 (j := l % 4) (by omega) (c := c) (by rw [show 4 * (l / 4) + l % 4 = l by omega]; exact hat) (by omega) (by omega)
  rw [show 4 * (l / 4) + l % 4 = l by omega] at S2
  obtain ⟨z3, tk3, tu3, u3, s3, c3, m3, S3⟩ := goTo_ok S2 (t := 2 + 4 * e) (by omega)
  obtain ⟨M', lm', k13', k14', fi', we'', by'', ra', ti', se', u', s', i1, i2, c4, m4, S4⟩ := mount_ok S3 he rfl (c := c) (uN_s rfl) (by rw [uN_n (by omega), uN_n (by omega)]; exact hfree) hw
  refine ⟨M', u', s', i1, i2, ?_, ?_, ⟨_, _, _, _, _, _, _, _, _, _, _, _, _, _, _, _, S4⟩⟩
  · unfold f_X2_serveBy_b105
    exact bnd (wallOf_eq _ (by omega) (l := l) (by omega) ((csl_of h hc).trans (by rw [hl]))) (bnd c1 (bnd (shelfOfWall_eq _ (by omega) (l := l) (by omega) ((csl_of S1 hc).trans (by rw [hl]))) (bnd c2 (bnd c3 (bnd c4 rfl)))))
  · intro w hw
    unfold f_X7_servesBy_b162
    rw [dvl (by omega) (by omega) (by omega), rml (by omega) (by omega) (by omega)]
    refine bnd (m1 w hw) (bnd (m2 _ rfl) (bnd (a := nI (2 + 4 * e)) ?_ (bnd (m3 _ rfl) (bnd (m4 _ rfl) rfl))))
    unfold f_X7_wallOf
    rw [ml, la]
theorem fe_congr {a b : Nat → Nat} {V : Nat} (hV : V < 8) (h : ∀ k, k < 32 → a k = b k) : fe a V = fe b V := by
  unfold fe
  rw [h _ (by omega), h _ (by omega), h _ (by omega), h _ (by omega)]
theorem sim_at30 {W P N M z lm k13 k14 k15 : Nat} {wt loc at' ho fi : Nat → Nat} {we by' ra ti : Nat → Int32} {tk tu se : Int32} {u : UL} {s : UA} (h : Sim W P N M z lm k13 k14 k15 wt loc at' ho fi we by' ra ti tk tu se u s) : (∀ k, k < 37 → at' k ≤ 30) ∧ (∀ k, k < 37 → u.1.2.2.2.2.1 k = eC (at' k)) ∧ (∀ k, k < 32 → s (16 + k) = eC (at' k)) ∧ (∀ e, e < 2 → s (11 + e) = eC (at' (35 + e))) ∧ u.2.2.2.2.1 = nI P ∧ s 2 = nI P := by
  obtain ⟨⟨o1, o2, o3, o4, o5, o6, B, D, o9, o10, o11, o12, o13, o14, o15, o16, o17⟩, ⟨cwt, cwe, cby, csl, coc, cho, rf, rr, rt, rfl, r1, r2, r3, r4⟩, x0, x1, x2, x6, x7, x8, x9, x10, x13, x14, x15, xA, xE, xP, xC, xH, xR⟩ := h
  exact ⟨fun k hk => by have := B k hk; omega, r2, xA, xE, rfl, x2⟩
theorem serve_ok {W P N M z lm k13 k14 k15 : Nat} {wt loc at' ho fi : Nat → Nat} {we by' ra ti : Nat → Int32} {tk tu se : Int32} {u : UL} {s : UA} (h : Sim W P N M z lm k13 k14 k15 wt loc at' ho fi we by' ra ti tk tu se u s) {j : Nat} (hj : j ≤ 3) (hk : k15 < 2147483648) :
    (f_X2_serveBy u (nI j) = some (-1000002, u) ∧ ∀ w : UX, w.1 = s → f_X7_servesBy w (nI j) = some (-1000002, w)) ∨ ∃ (M' e c q : Nat) (u' : UL) (s' : UA), M' < M ∧ c < N ∧ f_X2_serveBy u (nI j) = some (nI (M - M'), u') ∧ (∀ w : UX, w.1 = s → f_X7_servesBy w (nI j) = some (nI (M - M'), wd w s' (nI e) (nI c))) ∧ SimE N M' (k15 + 1) wt ho u' s' ∧ e ≤ 1 ∧ f_X2_nextRequest u (nI j) = some (nI q) ∧ f_X2_holderFor u (nI q) = some (nI c) ∧ f_X2_driveFor u (nI c) = some (nI e) := by
  obtain ⟨r, n1, n2, n3⟩ := next_ok h hj
  obtain ⟨a30, rc, ra', re, rp, rp2⟩ := sim_at30 h
  have hP := h.1.2.1
  have hN := h.1.2.2.1
  have hM := h.1.2.2.2.1
  have hru : f_X6_isRule (nI j) = some 1 := by
    unfold f_X6_isRule
    rw [isIn_k (by omega) hj (by omega)]
    rfl
  have hin : f_X7_in (nI j) 0 3 = some 1 := in_k (by omega) hj (by omega)
  rcases n3 with rfl | ⟨q, hq, rfl, hel⟩
  · refine Or.inl ⟨?_, fun w hw => ?_⟩
    · unfold f_X2_serveBy
      refine bnd hru (ino (by decide) (bnd n1 (bnd (a := -1) rfl ?_)))
      by_cases hp : 0 < u.2.2.2.2.1
      · exact iy hp rfl
      · exact ino hp (iy rfl rfl)
    · unfold f_X7_servesBy
      refine bnd hin (ino (by decide) (bnd (n2 w hw) ?_))
      by_cases hp : 0 < w.1 2
      · exact iy hp rfl
      · exact ino hp (ino (by decide) rfl)
  · have hof := (h.1.2.2.2.2.2.2.2.2.2.2.2.1 q hq)
    have hoN : ho (fi q) < N := by have := h.1.2.2.2.2.2.2.2.2.2.2.1 _ hof; have := hel.1; omega
    have hhf := holderFor_eq h.1 h.2.1 hq
    rw [eC_n hel.1] at hhf
    have hcn : ∀ w : UX, w.1 = s → w.1 (228 + 3 * nI q).toNatClampNeg = nI (fi q) := fun w hw => by
      rw [ml, la, clp (by omega), hw]
      exact (h.2.2.2.2.2.2.2.2.2.2.2.2.2.2.2.2.2.2 q hq).1
    have hho : ∀ w : UX, w.1 = s → w.1 (168 + w.1 (228 + 3 * nI q).toNatClampNeg).toNatClampNeg = nI (ho (fi q)) := fun w hw => by
      rw [hcn w hw, la, clp (by omega), hw]
      exact (h.2.2.2.2.2.2.2.2.2.2.2.2.2.2.2.2.2.1 _ hof).trans (eC_n hel.1)
    by_cases hp : 0 < P
    · have hp1 : (0 : Int32) < nI P := by rw [llt (by omega) (by omega)]; exact hp
      refine Or.inl ⟨?_, fun w hw => ?_⟩
      · unfold f_X2_serveBy
        exact bnd hru (ino (by decide) (bnd n1 (bnd hhf (iy (by rw [rp]; exact hp1) rfl))))
      · unfold f_X7_servesBy
        exact bnd hin (ino (by decide) (bnd (n2 w hw) (iy (by rw [hw, rp2]; exact hp1) rfl)))
    · have hP0 : P = 0 := by omega
      subst hP0
      have hp0 : ¬ (0 : Int32) < nI 0 := by decide
      obtain ⟨e, he, d1, d2⟩ := chooses_ok h hoN hel.2.1 hk
      have hin2 : f_X2_inDrive u (nI e) = some (eC (at' (35 + e))) := (inDrive_eq u he).trans (congrArg some (rc _ (by omega)))
      have hl := hel.2.1
      -- the model's first steps
      have mhead : ∀ (w : UX) (t : Int32) (r : Option (Int32 × UX)), w.1 = s → f_X7_nearest w (nI (2 + 4 * e)) = some t → (if eC (at' (35 + e)) < 0 then f_X7_servesBy_b105 w (nI (ho (fi q))) (nI (loc (ho (fi q)))) (nI e) t else (if 0 ≤ t then f_X7_servesBy_b105 w (nI (ho (fi q))) (nI (loc (ho (fi q)))) (nI e) t else some ((-1000002), w))) = r → f_X7_servesBy w (nI j) = r := by
        intro w t r hw ht hr
        unfold f_X7_servesBy
        refine bnd hin (ino (by decide) (bnd (n2 w hw) (ino (by rw [hw, rp2]; exact hp0) (iy (by rw [lle (by omega) (by omega)]; exact Nat.zero_le _) (iy (by rw [ml, la]; exact inbT (by omega) (by omega)) (iy (by rw [hcn w hw, la]; exact inbT (by omega) (by omega)) ?_))))))
        rw [hho w hw]
        refine bnd (standsAt_eq h.1 h.2.2 w hw hoN hl) ?_
        rw [dvl (by omega) (by omega) (by omega)]
        refine bnd (d2 w hw) (bnd (a := nI (2 + 4 * e)) ?_ (bnd ht ?_))
        · unfold f_X7_wallOf
          rw [ml, la]
        · rw [la, clp (by omega), hw, re e (by omega)]
          exact iy (inbT (by omega) (by omega)) hr
      have chead : ∀ (r : Option (Int32 × UL)), (if eC (at' (35 + e)) = (-1) then f_X2_serveBy_b105 u (nI (ho (fi q))) (nI e) (nI (2 + 4 * e)) else ((f_X0_emptyShelfNear u.1 (nI (2 + 4 * e))).bind fun r62 => (if r62 = (-1) then some ((-1000002), u) else ((f_X2_goTo u (nI (2 + 4 * e))).bind fun r79 => ((f_X2_takeFrom r79 (nI e)).bind fun r84 => ((f_X2_goTo r84.2 (r62 / 4)).bind fun r93 => ((f_X2_layOn r93 (jrem r62 4)).bind fun r101 => f_X2_serveBy_b105 r101.2 (nI (ho (fi q))) (nI e) (nI (2 + 4 * e))))))))) = r → f_X2_serveBy u (nI j) = r := by
        intro r hr
        unfold f_X2_serveBy
        exact bnd hru (ino (by decide) (bnd n1 (bnd hhf (ino (by rw [rp]; exact hp0) (ino (by rw [nI_m1 (by omega)]; exact id) (bnd d1 (bnd (wallOfDrive_eq he) (bnd hin2 hr))))))))
      by_cases hfree : at' (35 + e) = 30
      · obtain ⟨M', u', s', i1, i2, c1, m1, S⟩ := tail_ok h hoN rfl hl hel.2.2 he hfree
        refine Or.inr ⟨M', e, ho (fi q), q, u', s', i2 ⟨q, hq, rfl⟩, hoN, chead _ (iy (by rw [hfree]; rfl) c1), fun w hw => ?_, S, he, n1, hhf, d1⟩
        have hb105 : ∀ t, f_X7_servesBy_b105 w (nI (ho (fi q))) (nI (loc (ho (fi q)))) (nI e) t = some (nI (M - M'), wd w s' (nI e) (nI (ho (fi q)))) := by
          intro t
          unfold f_X7_servesBy_b105
          refine iy (by rw [la]; exact inbT (by omega) (by omega)) (iy ?_ (m1 _ hw))
          rw [la, clp (by omega), hw, re e (by omega), hfree]
          decide
        rcases near_ok (u := u.1) rc ra' a30 he with ⟨_, nm⟩ | ⟨V, _, _, _, nm⟩
        · exact mhead w _ _ hw (nm w hw) (iy (by rw [hfree]; decide) (hb105 _))
        · exact mhead w _ _ hw (nm w hw) (iy (by rw [hfree]; decide) (hb105 _))
      · have hn1 : ¬ eC (at' (35 + e)) = -1 := by rw [eC_m1 (a30 _ (by omega))]; exact hfree
        have hn2 : ¬ eC (at' (35 + e)) < 0 := by rw [eC_neg (a30 _ (by omega))]; exact hfree
        rcases near_ok (u := u.1) rc ra' a30 he with ⟨nc, nm⟩ | ⟨V, hV, hfe, nc, nm⟩
        · refine Or.inl ⟨chead _ (ino hn1 (bnd nc (iy rfl rfl))), fun w hw => mhead w _ _ hw (nm w hw) (ino hn2 (ino (by decide) rfl))⟩
        · obtain ⟨hf4, hfat⟩ := fe_at hfe
          obtain ⟨z1, tk1, tu1, u1, s1, c1, m1, S1⟩ := goTo_ok h (t := 2 + 4 * e) (by omega)
          obtain ⟨u2, s2, c2, m2, S2⟩ := take_ok S1 he rfl rfl hfree (by omega)
          obtain ⟨z3, tk3, tu3, u3, s3, c3, m3, S3⟩ := goTo_ok S2 (t := V) hV
          have hlt2 : at' (35 + e) < N ∧ loc (at' (35 + e)) = 35 + e := by
            have := h.1.2.2.2.2.2.2.1 (35 + e) (by omega)
            omega
          have hcell : ∀ k, k < 32 → uN (uN at' (35 + e) 30) (32 + 0) (at' (35 + e)) k = at' k := fun k hk => by rw [uN_n (by omega), uN_n (by omega)]
          obtain ⟨u4, s4, c4, m4, S4⟩ := lay_ok S3 (j := fe at' V) (by omega) (c := at' (35 + e)) (uN_s rfl) (by rw [hcell _ (by omega)]; exact hfat)
          have hne : ho (fi q) ≠ at' (35 + e) := fun x => by
            rw [← x] at hlt2
            omega
          obtain ⟨M', u', s', i1, i2, c5, m5, S5⟩ := tail_ok S4 (c := ho (fi q)) (l := loc (ho (fi q))) (e := e) hoN (by rw [uN_n hne, uN_n hne]) hl hel.2.2 he (by rw [uN_n (by omega), uN_n (by omega), uN_n (by omega), uN_s rfl])
          refine Or.inr ⟨M', e, ho (fi q), q, u', s', i2 ⟨q, hq, rfl⟩, hoN, chead _ (ino hn1 (bnd nc (ino (by rw [nI_m1 (by omega)]; exact id) (bnd c1 (bnd c2 ?_))))), fun w hw => mhead w _ _ hw (nm w hw) (ino hn2 (iy (by rw [lle (by omega) (by omega)]; exact Nat.zero_le _) ?_)), S5, he, n1, hhf, d1⟩
          · rw [dvl (by omega) (by omega) (by omega), rml (by omega) (by omega) (by omega), show (4 * V + fe at' V) / 4 = V by omega, show (4 * V + fe at' V) % 4 = fe at' V by omega]
            exact bnd c3 (bnd c4 c5)
          · unfold f_X7_servesBy_b105
            refine iy (by rw [la]; exact inbT (by omega) (by omega)) (ino ?_ ?_)
            · rw [la, clp (by omega), hw, re e (by omega)]
              exact hn2
            · refine bnd (a := nI (2 + 4 * e)) ?_ (bnd (m1 _ hw) (bnd (m2 _ rfl) (bnd (m3 _ rfl) (bnd (a := nI (fe at' V)) ?_ (bnd (m4 _ rfl) (m5 _ rfl))))))
              · unfold f_X7_wallOf
                rw [ml, la]
              · obtain ⟨b30, _, rb, _⟩ := sim_at30 S3
                have hfc := fe_congr (a := uN (uN at' (35 + e) 30) (32 + 0) (at' (35 + e))) (b := at') hV hcell
                refine (empty_eq _ rb b30 hV).trans ?_
                rw [hfc, if_neg hfe]
