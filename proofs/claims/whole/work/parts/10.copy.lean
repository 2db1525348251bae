theorem km_ini : Cond.initialized "java/lang/Math" ∈ tG := tG_of (List.mem_of_getElem? (i := 65) (by decide +kernel)) (by decide +kernel)
theorem km_min_st : Cond.static Lib.Math.min.name ∈ tG := tG_of (List.mem_of_getElem? (i := 268) (by decide +kernel)) (by decide +kernel)
theorem km_abs_st : Cond.static Lib.Math.abs.name ∈ tG := tG_of (List.mem_of_getElem? (i := 398) (by decide +kernel)) (by decide +kernel)
theorem km_min_code : Cond.code Lib.Math.min.name Lib.Math.min.code 2 (some .int) ∈ tG := tG_of (List.mem_of_getElem? (i := 269) (by decide +kernel)) (by decide +kernel)
theorem km_abs_code : Cond.code Lib.Math.abs.name Lib.Math.abs.code 1 (some .int) ∈ tG := tG_of (List.mem_of_getElem? (i := 399) (by decide +kernel)) (by decide +kernel)
theorem ka_nat : Cond.native arraycopyName ∈ tG := tG_of (List.mem_of_getElem? (i := 272) (by decide +kernel)) (by decide +kernel)
theorem ka_st : Cond.static arraycopyName ∈ tG := tG_of (List.mem_of_getElem? (i := 271) (by decide +kernel)) (by decide +kernel)
theorem ka_ini : Cond.initialized "java/lang/System" ∈ tG := tG_of (List.mem_of_getElem? (i := 66) (by decide +kernel)) (by decide +kernel)
theorem ks_X5_copy : CalS yX5_copy cX5_copy 2 none 2 := ⟨tG_of (List.mem_of_getElem? (i := 265) (by decide +kernel)) (by decide +kernel), tG_of (List.mem_of_getElem? (i := 64) (by decide +kernel)) (by decide +kernel), tG_of (List.mem_of_getElem? (i := 266) (by decide +kernel)) (by decide +kernel), by decide +kernel⟩
theorem kl_cp_min : Cond.methodLink RX5 7 Lib.Math.min.name ∈ tG := tG_of (List.mem_of_getElem? (i := 267) (by decide +kernel)) (by decide +kernel)
theorem kl_cp_ac : Cond.methodLink RX5 13 arraycopyName ∈ tG := tG_of (List.mem_of_getElem? (i := 270) (by decide +kernel)) (by decide +kernel)
theorem jmin_self (x : Int32) : jmin x x = x := by unfold jmin; split <;> rfl
set_option maxRecDepth 20000 in
/-- Rows.copy of a whole row onto one of the same length -/
theorem ct_X5_copy (l : Launch) (d : Dt) (p q : Nat) (n : Nat) (hn : n < 2 ^ 31) (f g : Nat → Int32) : CtW l d yX5_copy cX5_copy 2 none (rmF 1 72) [.ref p, .ref q] [(p, .inl (d.2.1, n, .inl f)), (q, .inl (d.2.1, n, .inl g))] [(p, .inl (d.2.1, n, .inl f)), (q, .inl (d.2.1, n, .inl f))] none := by
  refine CtW.start (by decide) (Nat.le_of_ble_eq_true rfl) (by simp [Value.category]) [some (.ref p), some (.ref q)] rfl (fun x A C hr hlk => ?_)
  refine V_aload_n C 0 dX5_copy_0 rfl rfl ?_
  refine V_iconst (v := 0) C dX5_copy_1 (by decide) ?_
  refine V_aload_n C 1 dX5_copy_2 rfl rfl ?_
  refine V_iconst (v := 0) C dX5_copy_3 (by decide) ?_
  refine V_aload_n C 0 dX5_copy_4 rfl rfl ?_
  refine V_alenI (v := nI n) C 0 rfl rfl dX5_copy_5 ?_
  refine V_aload_n C 1 dX5_copy_6 rfl rfl ?_
  refine V_alenI (v := nI n) C 1 rfl rfl dX5_copy_7 ?_
  refine V_mmin C kl_cp_min km_min_st km_ini km_min_code dX5_copy_8 ⟨Nat.le_of_ble_eq_true rfl, Nat.le_of_ble_eq_true rfl, Nat.zero_le _, Nat.zero_le _⟩ ?_
  rw [jmin_self]
  refine V_acopy (ws2 := [(p, .inl (d.2.1, n, .inl f)), (q, .inl (d.2.1, n, .inl f))]) C kl_cp_ac ka_nat ka_st ka_ini dX5_copy_11 0 1 rfl rfl rfl hn ⟨Nat.le_of_ble_eq_true rfl, by decide +kernel⟩ ?_
  exact V_eqv (h2 := some () = some ()) (fun _ => rfl) (V_vretW (Wd := fun _ : Unit => [(p, .inl (d.2.1, n, .inl f)), (q, .inl (d.2.1, n, .inl f))]) C hr hlk dX5_copy_14 rfl)
