/-! ===== the law from its entry, given the pure run ===== -/
theorem kz_cl_7 : Cond.classLink RL 7 RX6 ∈ tG := tG_of (List.mem_of_getElem? (i := 71) (by decide +kernel)) (by decide +kernel)
theorem kz_cl_10 : Cond.classLink RL 10 RX7 ∈ tG := tG_of (List.mem_of_getElem? (i := 801) (by decide +kernel)) (by decide +kernel)
theorem kx_in_X6 : Cond.instantiable RX6 4 ∈ tG := tG_of (List.mem_of_getElem? (i := 72) (by decide +kernel)) (by decide +kernel)
theorem kx_in_X7 : Cond.instantiable RX7 14 ∈ tG := tG_of (List.mem_of_getElem? (i := 802) (by decide +kernel)) (by decide +kernel)
theorem kx_ini_X6 : Cond.initialized RX6 ∈ tG := tG_of (List.mem_of_getElem? (i := 56) (by decide +kernel)) (by decide +kernel)
theorem kx_ini_X7 : Cond.initialized RX7 ∈ tG := tG_of (List.mem_of_getElem? (i := 63) (by decide +kernel)) (by decide +kernel)
theorem kz_l9 : Cond.methodLink RL 9 yX6_init ∈ tG := tG_of (List.mem_of_getElem? (i := 73) (by decide +kernel)) (by decide +kernel)
theorem kz_l12 : Cond.methodLink RL 12 yX7_init ∈ tG := tG_of (List.mem_of_getElem? (i := 803) (by decide +kernel)) (by decide +kernel)
theorem kz_sr0 : Cond.stringRef RX3 124 "lift" ∈ lw_tbl := List.mem_of_getElem? (i := 699) (by decide +kernel)
theorem kz_sr1 : Cond.stringRef RX3 126 "lay" ∈ lw_tbl := List.mem_of_getElem? (i := 700) (by decide +kernel)
theorem kz_sr2 : Cond.stringRef RX3 128 "weigh" ∈ lw_tbl := List.mem_of_getElem? (i := 701) (by decide +kernel)
theorem kz_sr3 : Cond.stringRef RX3 130 "right" ∈ lw_tbl := List.mem_of_getElem? (i := 702) (by decide +kernel)
theorem kz_sr4 : Cond.stringRef RX3 132 "left" ∈ lw_tbl := List.mem_of_getElem? (i := 703) (by decide +kernel)
theorem kz_sr5 : Cond.stringRef RX3 134 "mount" ∈ lw_tbl := List.mem_of_getElem? (i := 704) (by decide +kernel)
theorem kz_sr6 : Cond.stringRef RX3 136 "take" ∈ lw_tbl := List.mem_of_getElem? (i := 705) (by decide +kernel)
theorem kz_sr7 : Cond.stringRef RX3 138 "serve" ∈ lw_tbl := List.mem_of_getElem? (i := 706) (by decide +kernel)
theorem kz_lc : Cond.laysStatic "java/lang/String" "COMPACT_STRINGS" "Z" ∈ lw_tbl := List.mem_of_getElem? (i := 720) (by decide +kernel)
theorem kz_lp : Cond.laysStatic "jdk/internal/util/Preconditions" "SIOOBE_FORMATTER" "Ljava/util/function/BiFunction;" ∈ lw_tbl := List.mem_of_getElem? (i := 736) (by decide +kernel)
theorem kz_is : Cond.initialized "java/lang/String" ∈ lw_tbl := List.mem_of_getElem? (i := 67) (by decide +kernel)
theorem kz_ip : Cond.initialized "jdk/internal/util/Preconditions" ∈ lw_tbl := List.mem_of_getElem? (i := 69) (by decide +kernel)
theorem kz_ao : Cond.arrayOver (.object "MastRobots$Library") ∈ lw_tbl := List.mem_of_getElem? (i := 186) (by decide +kernel)
def stTm (i : Nat) : Term := .string RX3 (124 + 2 * i)
set_option maxRecDepth 20000 in
theorem st_facts {args : Array Value} {s : State} {A : Nat → Prop} (hgv : (Jvm.Cond.and given_1 narrow_1).before args s = true) (hA : ∀ a : Nat, a < s.heap.size → ¬ A a) : ∃ adK adV : Nat → Nat, vk_S 8 stL stB adK adV A s s.heap ∧ ∀ i : Nat, i < 8 → (stTm i).eval args s none [] s = some (.ref (adK i)) := by
  have hs := flat_of_before _ hgv
  refine vk_Sof stL_lt ?_ ?_ ?_ ?_ ?_ ?_ hA
  · intro i hi
    match i, hi with
    | 0, _ => exact hs (.exactly (.string "MastRobots$Orders" 124) "java/lang/String") (by decide +kernel)
    | 1, _ => exact hs (.exactly (.string "MastRobots$Orders" 126) "java/lang/String") (by decide +kernel)
    | 2, _ => exact hs (.exactly (.string "MastRobots$Orders" 128) "java/lang/String") (by decide +kernel)
    | 3, _ => exact hs (.exactly (.string "MastRobots$Orders" 130) "java/lang/String") (by decide +kernel)
    | 4, _ => exact hs (.exactly (.string "MastRobots$Orders" 132) "java/lang/String") (by decide +kernel)
    | 5, _ => exact hs (.exactly (.string "MastRobots$Orders" 134) "java/lang/String") (by decide +kernel)
    | 6, _ => exact hs (.exactly (.string "MastRobots$Orders" 136) "java/lang/String") (by decide +kernel)
    | 7, _ => exact hs (.exactly (.string "MastRobots$Orders" 138) "java/lang/String") (by decide +kernel)
  · intro i hi
    match i, hi with
    | 0, _ => exact hs (.eq (.field (.string "MastRobots$Orders" 124) "java/lang/String" "coder" "B") (.int 0)) (by decide +kernel)
    | 1, _ => exact hs (.eq (.field (.string "MastRobots$Orders" 126) "java/lang/String" "coder" "B") (.int 0)) (by decide +kernel)
    | 2, _ => exact hs (.eq (.field (.string "MastRobots$Orders" 128) "java/lang/String" "coder" "B") (.int 0)) (by decide +kernel)
    | 3, _ => exact hs (.eq (.field (.string "MastRobots$Orders" 130) "java/lang/String" "coder" "B") (.int 0)) (by decide +kernel)
    | 4, _ => exact hs (.eq (.field (.string "MastRobots$Orders" 132) "java/lang/String" "coder" "B") (.int 0)) (by decide +kernel)
    | 5, _ => exact hs (.eq (.field (.string "MastRobots$Orders" 134) "java/lang/String" "coder" "B") (.int 0)) (by decide +kernel)
    | 6, _ => exact hs (.eq (.field (.string "MastRobots$Orders" 136) "java/lang/String" "coder" "B") (.int 0)) (by decide +kernel)
    | 7, _ => exact hs (.eq (.field (.string "MastRobots$Orders" 138) "java/lang/String" "coder" "B") (.int 0)) (by decide +kernel)
  · intro i hi
    match i, hi with
    | 0, _ => exact hs (.arrayOf (.field (.string "MastRobots$Orders" 124) "java/lang/String" "value" "[B") .byte) (by decide +kernel)
    | 1, _ => exact hs (.arrayOf (.field (.string "MastRobots$Orders" 126) "java/lang/String" "value" "[B") .byte) (by decide +kernel)
    | 2, _ => exact hs (.arrayOf (.field (.string "MastRobots$Orders" 128) "java/lang/String" "value" "[B") .byte) (by decide +kernel)
    | 3, _ => exact hs (.arrayOf (.field (.string "MastRobots$Orders" 130) "java/lang/String" "value" "[B") .byte) (by decide +kernel)
    | 4, _ => exact hs (.arrayOf (.field (.string "MastRobots$Orders" 132) "java/lang/String" "value" "[B") .byte) (by decide +kernel)
    | 5, _ => exact hs (.arrayOf (.field (.string "MastRobots$Orders" 134) "java/lang/String" "value" "[B") .byte) (by decide +kernel)
    | 6, _ => exact hs (.arrayOf (.field (.string "MastRobots$Orders" 136) "java/lang/String" "value" "[B") .byte) (by decide +kernel)
    | 7, _ => exact hs (.arrayOf (.field (.string "MastRobots$Orders" 138) "java/lang/String" "value" "[B") .byte) (by decide +kernel)
  · intro i hi
    match i, hi with
    | 0, _ => exact hs (.eq (.length (.field (.string "MastRobots$Orders" 124) "java/lang/String" "value" "[B")) (.int 4)) (by decide +kernel)
    | 1, _ => exact hs (.eq (.length (.field (.string "MastRobots$Orders" 126) "java/lang/String" "value" "[B")) (.int 3)) (by decide +kernel)
    | 2, _ => exact hs (.eq (.length (.field (.string "MastRobots$Orders" 128) "java/lang/String" "value" "[B")) (.int 5)) (by decide +kernel)
    | 3, _ => exact hs (.eq (.length (.field (.string "MastRobots$Orders" 130) "java/lang/String" "value" "[B")) (.int 5)) (by decide +kernel)
    | 4, _ => exact hs (.eq (.length (.field (.string "MastRobots$Orders" 132) "java/lang/String" "value" "[B")) (.int 4)) (by decide +kernel)
    | 5, _ => exact hs (.eq (.length (.field (.string "MastRobots$Orders" 134) "java/lang/String" "value" "[B")) (.int 5)) (by decide +kernel)
    | 6, _ => exact hs (.eq (.length (.field (.string "MastRobots$Orders" 136) "java/lang/String" "value" "[B")) (.int 4)) (by decide +kernel)
    | 7, _ => exact hs (.eq (.length (.field (.string "MastRobots$Orders" 138) "java/lang/String" "value" "[B")) (.int 5)) (by decide +kernel)
  · intro i hi j hj
    match i, hi with
    | 0, _ =>
      match j, hj with
      | 0, _ => exact hs (.eq (.elem (.field (.string "MastRobots$Orders" 124) "java/lang/String" "value" "[B") (.int 0)) (.int 108)) (by decide +kernel)
      | 1, _ => exact hs (.eq (.elem (.field (.string "MastRobots$Orders" 124) "java/lang/String" "value" "[B") (.int 1)) (.int 105)) (by decide +kernel)
      | 2, _ => exact hs (.eq (.elem (.field (.string "MastRobots$Orders" 124) "java/lang/String" "value" "[B") (.int 2)) (.int 102)) (by decide +kernel)
      | 3, _ => exact hs (.eq (.elem (.field (.string "MastRobots$Orders" 124) "java/lang/String" "value" "[B") (.int 3)) (.int 116)) (by decide +kernel)
      | k + 4, h => exact absurd h (by show ¬ (k + 4 < 4); omega)
    | 1, _ =>
      match j, hj with
      | 0, _ => exact hs (.eq (.elem (.field (.string "MastRobots$Orders" 126) "java/lang/String" "value" "[B") (.int 0)) (.int 108)) (by decide +kernel)
      | 1, _ => exact hs (.eq (.elem (.field (.string "MastRobots$Orders" 126) "java/lang/String" "value" "[B") (.int 1)) (.int 97)) (by decide +kernel)
      | 2, _ => exact hs (.eq (.elem (.field (.string "MastRobots$Orders" 126) "java/lang/String" "value" "[B") (.int 2)) (.int 121)) (by decide +kernel)
      | k + 3, h => exact absurd h (by show ¬ (k + 3 < 3); omega)
    | 2, _ =>
      match j, hj with
      | 0, _ => exact hs (.eq (.elem (.field (.string "MastRobots$Orders" 128) "java/lang/String" "value" "[B") (.int 0)) (.int 119)) (by decide +kernel)
      | 1, _ => exact hs (.eq (.elem (.field (.string "MastRobots$Orders" 128) "java/lang/String" "value" "[B") (.int 1)) (.int 101)) (by decide +kernel)
      | 2, _ => exact hs (.eq (.elem (.field (.string "MastRobots$Orders" 128) "java/lang/String" "value" "[B") (.int 2)) (.int 105)) (by decide +kernel)
      | 3, _ => exact hs (.eq (.elem (.field (.string "MastRobots$Orders" 128) "java/lang/String" "value" "[B") (.int 3)) (.int 103)) (by decide +kernel)
      | 4, _ => exact hs (.eq (.elem (.field (.string "MastRobots$Orders" 128) "java/lang/String" "value" "[B") (.int 4)) (.int 104)) (by decide +kernel)
      | k + 5, h => exact absurd h (by show ¬ (k + 5 < 5); omega)
    | 3, _ =>
      match j, hj with
      | 0, _ => exact hs (.eq (.elem (.field (.string "MastRobots$Orders" 130) "java/lang/String" "value" "[B") (.int 0)) (.int 114)) (by decide +kernel)
      | 1, _ => exact hs (.eq (.elem (.field (.string "MastRobots$Orders" 130) "java/lang/String" "value" "[B") (.int 1)) (.int 105)) (by decide +kernel)
      | 2, _ => exact hs (.eq (.elem (.field (.string "MastRobots$Orders" 130) "java/lang/String" "value" "[B") (.int 2)) (.int 103)) (by decide +kernel)
      | 3, _ => exact hs (.eq (.elem (.field (.string "MastRobots$Orders" 130) "java/lang/String" "value" "[B") (.int 3)) (.int 104)) (by decide +kernel)
      | 4, _ => exact hs (.eq (.elem (.field (.string "MastRobots$Orders" 130) "java/lang/String" "value" "[B") (.int 4)) (.int 116)) (by decide +kernel)
      | k + 5, h => exact absurd h (by show ¬ (k + 5 < 5); omega)
    | 4, _ =>
      match j, hj with
      | 0, _ => exact hs (.eq (.elem (.field (.string "MastRobots$Orders" 132) "java/lang/String" "value" "[B") (.int 0)) (.int 108)) (by decide +kernel)
      | 1, _ => exact hs (.eq (.elem (.field (.string "MastRobots$Orders" 132) "java/lang/String" "value" "[B") (.int 1)) (.int 101)) (by decide +kernel)
      | 2, _ => exact hs (.eq (.elem (.field (.string "MastRobots$Orders" 132) "java/lang/String" "value" "[B") (.int 2)) (.int 102)) (by decide +kernel)
      | 3, _ => exact hs (.eq (.elem (.field (.string "MastRobots$Orders" 132) "java/lang/String" "value" "[B") (.int 3)) (.int 116)) (by decide +kernel)
      | k + 4, h => exact absurd h (by show ¬ (k + 4 < 4); omega)
    | 5, _ =>
      match j, hj with
      | 0, _ => exact hs (.eq (.elem (.field (.string "MastRobots$Orders" 134) "java/lang/String" "value" "[B") (.int 0)) (.int 109)) (by decide +kernel)
      | 1, _ => exact hs (.eq (.elem (.field (.string "MastRobots$Orders" 134) "java/lang/String" "value" "[B") (.int 1)) (.int 111)) (by decide +kernel)
      | 2, _ => exact hs (.eq (.elem (.field (.string "MastRobots$Orders" 134) "java/lang/String" "value" "[B") (.int 2)) (.int 117)) (by decide +kernel)
      | 3, _ => exact hs (.eq (.elem (.field (.string "MastRobots$Orders" 134) "java/lang/String" "value" "[B") (.int 3)) (.int 110)) (by decide +kernel)
      | 4, _ => exact hs (.eq (.elem (.field (.string "MastRobots$Orders" 134) "java/lang/String" "value" "[B") (.int 4)) (.int 116)) (by decide +kernel)
      | k + 5, h => exact absurd h (by show ¬ (k + 5 < 5); omega)
    | 6, _ =>
      match j, hj with
      | 0, _ => exact hs (.eq (.elem (.field (.string "MastRobots$Orders" 136) "java/lang/String" "value" "[B") (.int 0)) (.int 116)) (by decide +kernel)
      | 1, _ => exact hs (.eq (.elem (.field (.string "MastRobots$Orders" 136) "java/lang/String" "value" "[B") (.int 1)) (.int 97)) (by decide +kernel)
      | 2, _ => exact hs (.eq (.elem (.field (.string "MastRobots$Orders" 136) "java/lang/String" "value" "[B") (.int 2)) (.int 107)) (by decide +kernel)
      | 3, _ => exact hs (.eq (.elem (.field (.string "MastRobots$Orders" 136) "java/lang/String" "value" "[B") (.int 3)) (.int 101)) (by decide +kernel)
      | k + 4, h => exact absurd h (by show ¬ (k + 4 < 4); omega)
    | 7, _ =>
      match j, hj with
      | 0, _ => exact hs (.eq (.elem (.field (.string "MastRobots$Orders" 138) "java/lang/String" "value" "[B") (.int 0)) (.int 115)) (by decide +kernel)
      | 1, _ => exact hs (.eq (.elem (.field (.string "MastRobots$Orders" 138) "java/lang/String" "value" "[B") (.int 1)) (.int 101)) (by decide +kernel)
      | 2, _ => exact hs (.eq (.elem (.field (.string "MastRobots$Orders" 138) "java/lang/String" "value" "[B") (.int 2)) (.int 114)) (by decide +kernel)
      | 3, _ => exact hs (.eq (.elem (.field (.string "MastRobots$Orders" 138) "java/lang/String" "value" "[B") (.int 3)) (.int 118)) (by decide +kernel)
      | 4, _ => exact hs (.eq (.elem (.field (.string "MastRobots$Orders" 138) "java/lang/String" "value" "[B") (.int 4)) (.int 101)) (by decide +kernel)
      | k + 5, h => exact absurd h (by show ¬ (k + 5 < 5); omega)
  · intro i j hi hj hij
    match i, hi, j, hj with
    | 0, _, 0, _ => exact absurd rfl hij
    | 0, _, 1, _ => exact Or.inl (hs (.not (.eq (.string "MastRobots$Orders" 124) (.string "MastRobots$Orders" 126))) (by decide +kernel))
    | 0, _, 2, _ => exact Or.inl (hs (.not (.eq (.string "MastRobots$Orders" 124) (.string "MastRobots$Orders" 128))) (by decide +kernel))
    | 0, _, 3, _ => exact Or.inl (hs (.not (.eq (.string "MastRobots$Orders" 124) (.string "MastRobots$Orders" 130))) (by decide +kernel))
    | 0, _, 4, _ => exact Or.inl (hs (.not (.eq (.string "MastRobots$Orders" 124) (.string "MastRobots$Orders" 132))) (by decide +kernel))
    | 0, _, 5, _ => exact Or.inl (hs (.not (.eq (.string "MastRobots$Orders" 124) (.string "MastRobots$Orders" 134))) (by decide +kernel))
    | 0, _, 6, _ => exact Or.inl (hs (.not (.eq (.string "MastRobots$Orders" 124) (.string "MastRobots$Orders" 136))) (by decide +kernel))
    | 0, _, 7, _ => exact Or.inl (hs (.not (.eq (.string "MastRobots$Orders" 124) (.string "MastRobots$Orders" 138))) (by decide +kernel))
    | 1, _, 0, _ => exact Or.inr (hs (.not (.eq (.string "MastRobots$Orders" 124) (.string "MastRobots$Orders" 126))) (by decide +kernel))
    | 1, _, 1, _ => exact absurd rfl hij
    | 1, _, 2, _ => exact Or.inl (hs (.not (.eq (.string "MastRobots$Orders" 126) (.string "MastRobots$Orders" 128))) (by decide +kernel))
    | 1, _, 3, _ => exact Or.inl (hs (.not (.eq (.string "MastRobots$Orders" 126) (.string "MastRobots$Orders" 130))) (by decide +kernel))
    | 1, _, 4, _ => exact Or.inl (hs (.not (.eq (.string "MastRobots$Orders" 126) (.string "MastRobots$Orders" 132))) (by decide +kernel))
    | 1, _, 5, _ => exact Or.inl (hs (.not (.eq (.string "MastRobots$Orders" 126) (.string "MastRobots$Orders" 134))) (by decide +kernel))
    | 1, _, 6, _ => exact Or.inl (hs (.not (.eq (.string "MastRobots$Orders" 126) (.string "MastRobots$Orders" 136))) (by decide +kernel))
    | 1, _, 7, _ => exact Or.inl (hs (.not (.eq (.string "MastRobots$Orders" 126) (.string "MastRobots$Orders" 138))) (by decide +kernel))
    | 2, _, 0, _ => exact Or.inr (hs (.not (.eq (.string "MastRobots$Orders" 124) (.string "MastRobots$Orders" 128))) (by decide +kernel))
    | 2, _, 1, _ => exact Or.inr (hs (.not (.eq (.string "MastRobots$Orders" 126) (.string "MastRobots$Orders" 128))) (by decide +kernel))
    | 2, _, 2, _ => exact absurd rfl hij
    | 2, _, 3, _ => exact Or.inl (hs (.not (.eq (.string "MastRobots$Orders" 128) (.string "MastRobots$Orders" 130))) (by decide +kernel))
    | 2, _, 4, _ => exact Or.inl (hs (.not (.eq (.string "MastRobots$Orders" 128) (.string "MastRobots$Orders" 132))) (by decide +kernel))
    | 2, _, 5, _ => exact Or.inl (hs (.not (.eq (.string "MastRobots$Orders" 128) (.string "MastRobots$Orders" 134))) (by decide +kernel))
    | 2, _, 6, _ => exact Or.inl (hs (.not (.eq (.string "MastRobots$Orders" 128) (.string "MastRobots$Orders" 136))) (by decide +kernel))
    | 2, _, 7, _ => exact Or.inl (hs (.not (.eq (.string "MastRobots$Orders" 128) (.string "MastRobots$Orders" 138))) (by decide +kernel))
    | 3, _, 0, _ => exact Or.inr (hs (.not (.eq (.string "MastRobots$Orders" 124) (.string "MastRobots$Orders" 130))) (by decide +kernel))
    | 3, _, 1, _ => exact Or.inr (hs (.not (.eq (.string "MastRobots$Orders" 126) (.string "MastRobots$Orders" 130))) (by decide +kernel))
    | 3, _, 2, _ => exact Or.inr (hs (.not (.eq (.string "MastRobots$Orders" 128) (.string "MastRobots$Orders" 130))) (by decide +kernel))
    | 3, _, 3, _ => exact absurd rfl hij
    | 3, _, 4, _ => exact Or.inl (hs (.not (.eq (.string "MastRobots$Orders" 130) (.string "MastRobots$Orders" 132))) (by decide +kernel))
    | 3, _, 5, _ => exact Or.inl (hs (.not (.eq (.string "MastRobots$Orders" 130) (.string "MastRobots$Orders" 134))) (by decide +kernel))
    | 3, _, 6, _ => exact Or.inl (hs (.not (.eq (.string "MastRobots$Orders" 130) (.string "MastRobots$Orders" 136))) (by decide +kernel))
    | 3, _, 7, _ => exact Or.inl (hs (.not (.eq (.string "MastRobots$Orders" 130) (.string "MastRobots$Orders" 138))) (by decide +kernel))
    | 4, _, 0, _ => exact Or.inr (hs (.not (.eq (.string "MastRobots$Orders" 124) (.string "MastRobots$Orders" 132))) (by decide +kernel))
    | 4, _, 1, _ => exact Or.inr (hs (.not (.eq (.string "MastRobots$Orders" 126) (.string "MastRobots$Orders" 132))) (by decide +kernel))
    | 4, _, 2, _ => exact Or.inr (hs (.not (.eq (.string "MastRobots$Orders" 128) (.string "MastRobots$Orders" 132))) (by decide +kernel))
    | 4, _, 3, _ => exact Or.inr (hs (.not (.eq (.string "MastRobots$Orders" 130) (.string "MastRobots$Orders" 132))) (by decide +kernel))
    | 4, _, 4, _ => exact absurd rfl hij
    | 4, _, 5, _ => exact Or.inl (hs (.not (.eq (.string "MastRobots$Orders" 132) (.string "MastRobots$Orders" 134))) (by decide +kernel))
    | 4, _, 6, _ => exact Or.inl (hs (.not (.eq (.string "MastRobots$Orders" 132) (.string "MastRobots$Orders" 136))) (by decide +kernel))
    | 4, _, 7, _ => exact Or.inl (hs (.not (.eq (.string "MastRobots$Orders" 132) (.string "MastRobots$Orders" 138))) (by decide +kernel))
    | 5, _, 0, _ => exact Or.inr (hs (.not (.eq (.string "MastRobots$Orders" 124) (.string "MastRobots$Orders" 134))) (by decide +kernel))
    | 5, _, 1, _ => exact Or.inr (hs (.not (.eq (.string "MastRobots$Orders" 126) (.string "MastRobots$Orders" 134))) (by decide +kernel))
    | 5, _, 2, _ => exact Or.inr (hs (.not (.eq (.string "MastRobots$Orders" 128) (.string "MastRobots$Orders" 134))) (by decide +kernel))
    | 5, _, 3, _ => exact Or.inr (hs (.not (.eq (.string "MastRobots$Orders" 130) (.string "MastRobots$Orders" 134))) (by decide +kernel))
    | 5, _, 4, _ => exact Or.inr (hs (.not (.eq (.string "MastRobots$Orders" 132) (.string "MastRobots$Orders" 134))) (by decide +kernel))
    | 5, _, 5, _ => exact absurd rfl hij
    | 5, _, 6, _ => exact Or.inl (hs (.not (.eq (.string "MastRobots$Orders" 134) (.string "MastRobots$Orders" 136))) (by decide +kernel))
    | 5, _, 7, _ => exact Or.inl (hs (.not (.eq (.string "MastRobots$Orders" 134) (.string "MastRobots$Orders" 138))) (by decide +kernel))
    | 6, _, 0, _ => exact Or.inr (hs (.not (.eq (.string "MastRobots$Orders" 124) (.string "MastRobots$Orders" 136))) (by decide +kernel))
    | 6, _, 1, _ => exact Or.inr (hs (.not (.eq (.string "MastRobots$Orders" 126) (.string "MastRobots$Orders" 136))) (by decide +kernel))
    | 6, _, 2, _ => exact Or.inr (hs (.not (.eq (.string "MastRobots$Orders" 128) (.string "MastRobots$Orders" 136))) (by decide +kernel))
    | 6, _, 3, _ => exact Or.inr (hs (.not (.eq (.string "MastRobots$Orders" 130) (.string "MastRobots$Orders" 136))) (by decide +kernel))
    | 6, _, 4, _ => exact Or.inr (hs (.not (.eq (.string "MastRobots$Orders" 132) (.string "MastRobots$Orders" 136))) (by decide +kernel))
    | 6, _, 5, _ => exact Or.inr (hs (.not (.eq (.string "MastRobots$Orders" 134) (.string "MastRobots$Orders" 136))) (by decide +kernel))
    | 6, _, 6, _ => exact absurd rfl hij
    | 6, _, 7, _ => exact Or.inl (hs (.not (.eq (.string "MastRobots$Orders" 136) (.string "MastRobots$Orders" 138))) (by decide +kernel))
    | 7, _, 0, _ => exact Or.inr (hs (.not (.eq (.string "MastRobots$Orders" 124) (.string "MastRobots$Orders" 138))) (by decide +kernel))
    | 7, _, 1, _ => exact Or.inr (hs (.not (.eq (.string "MastRobots$Orders" 126) (.string "MastRobots$Orders" 138))) (by decide +kernel))
    | 7, _, 2, _ => exact Or.inr (hs (.not (.eq (.string "MastRobots$Orders" 128) (.string "MastRobots$Orders" 138))) (by decide +kernel))
    | 7, _, 3, _ => exact Or.inr (hs (.not (.eq (.string "MastRobots$Orders" 130) (.string "MastRobots$Orders" 138))) (by decide +kernel))
    | 7, _, 4, _ => exact Or.inr (hs (.not (.eq (.string "MastRobots$Orders" 132) (.string "MastRobots$Orders" 138))) (by decide +kernel))
    | 7, _, 5, _ => exact Or.inr (hs (.not (.eq (.string "MastRobots$Orders" 134) (.string "MastRobots$Orders" 138))) (by decide +kernel))
    | 7, _, 6, _ => exact Or.inr (hs (.not (.eq (.string "MastRobots$Orders" 136) (.string "MastRobots$Orders" 138))) (by decide +kernel))
    | 7, _, 7, _ => exact absurd rfl hij
set_option maxRecDepth 20000 in
theorem start_facts {p : Program} {s : State} {m : MethodId} {meth : Method} {c : Code} {b L : Nat} {xs : Nat → Int32} (C0 : lw_At p s m meth c b L xs) : ∃ (d : Dt) (σ : Sg), KX d s ∧ va_AO "MastRobots$Library" s ∧ SF σ (fun q => s.heap.size ≤ q) s s.heap := by
  obtain ⟨hx, hb, hr, hml, hown, hts, hX, hbl, hlocks, hgv⟩ := C0
  have htG : ∀ w ∈ tG, w.before #[Value.ref b] s = true := fun w hw => hts w (List.mem_filter.mp hw).1
  obtain ⟨c0, i0, hK0⟩ := u_known (C := RX0) (T := TX0) (N := 7) (n := 7) htG fx0.2.1 (htG _ kx_in_X0)
  obtain ⟨c1, i1, hK1⟩ := u_known (C := RX1) (T := TX1) (N := 3) (n := 3) htG fx1.2.1 (htG _ kx_in_X1)
  obtain ⟨c2, i2, hK2⟩ := u_known (C := RX2) (T := TX2) (N := 10) (n := 10) htG fx2.2.1 (htG _ kx_in_X2)
  obtain ⟨c3, i3, hK3⟩ := u_known (C := RX3) (T := TX3) (N := 9) (n := 9) htG fx3.2.1 (htG _ kx_in_X3)
  obtain ⟨c4, i4, hK4⟩ := u_known (C := RX4) (T := TX4) (N := 4) (n := 4) htG fx4.2.1 (htG _ kx_in_X4)
  obtain ⟨c5, i5, hK5⟩ := u_known (C := RX6) (T := TX6) (N := 4) (n := 4) htG fx6.2.1 (htG _ kx_in_X6)
  obtain ⟨c6, i6, hK6⟩ := u_known (C := RX7) (T := TX7) (N := 14) (n := 14) htG fx7.2.1 (htG _ kx_in_X7)
  obtain ⟨aI, kI, oI, f1, f2, f3⟩ := Cond.arrayClass_spec (args := #[Value.ref b]) (first := s) (o := none) (s := s) (idx := []) (htG _ kx_ac_int)
  obtain ⟨aC, kC, oC, g1, g2, g3⟩ := Cond.arrayClass_spec (args := #[Value.ref b]) (first := s) (o := none) (s := s) (idx := []) (htG _ kx_ac_char)
  have hao : va_AO "MastRobots$Library" s := hts _ kz_ao
  obtain ⟨oL, aL, kL, e1, e2, e3, e4, e5⟩ := Cond.arrayOver_spec hao
  obtain ⟨adK, adV, hst, hev⟩ := st_facts (A := fun q => s.heap.size ≤ q) hgv (fun a ha => Nat.not_le.mpr ha)
  have hs := flat_of_before _ hgv
  refine ⟨((fun k => match k with | 0 => c0 | 1 => c1 | 2 => c2 | 3 => c3 | 4 => c4 | 5 => c5 | _ => c6, fun k => match k with | 0 => i0 | 1 => i1 | 2 => i2 | 3 => i3 | 4 => i4 | 5 => i5 | _ => i6), aI, aC, aL), (adK, adV), ⟨⟨?_, ?_⟩, ?_⟩, hao, ?_, hst, ?_, ?_⟩
  · intro k q hq
    match k, hq with
    | 0, hq => cases hq; exact hK0
    | 1, hq => cases hq; exact hK1
    | 2, hq => cases hq; exact hK2
    | 3, hq => cases hq; exact hK3
    | 4, hq => cases hq; exact hK4
    | 5, hq => cases hq; exact hK5
    | 6, hq => cases hq; exact hK6
    | k + 7, hq => simp [vwCl] at hq
  · intro k q hq
    match k, hq with
    | 0, hq => cases hq; exact ⟨fun n z => ⟨(fun k h => by cases h), kI, f2, oI, f3⟩, f1⟩
    | 1, hq => cases hq; exact ⟨fun n z => ⟨(fun k h => by cases h), kC, g2, oC, g3⟩, g1⟩
    | 2, hq => cases hq; exact ⟨fun n z => ⟨(fun k h => by cases h), kL, e3, oL, e4⟩, kL, oL, e3, e4, e1, e5⟩
    | k + 3, hq => simp [TY] at hq
  · intro w hw
    have h2 := (List.mem_filter.mp hw)
    have h3 := hts w h2.1
    cases w <;> first | exact va_Nw.of rfl h3 | (exact absurd h2.2 (by simp [isNest]))
  · intro i hi
    match i, hi with
    | 0, hi => exact vk_R.of (hts _ kz_sr0) (hev 0 hi)
    | 1, hi => exact vk_R.of (hts _ kz_sr1) (hev 1 hi)
    | 2, hi => exact vk_R.of (hts _ kz_sr2) (hev 2 hi)
    | 3, hi => exact vk_R.of (hts _ kz_sr3) (hev 3 hi)
    | 4, hi => exact vk_R.of (hts _ kz_sr4) (hev 4 hi)
    | 5, hi => exact vk_R.of (hts _ kz_sr5) (hev 5 hi)
    | 6, hi => exact vk_R.of (hts _ kz_sr6) (hev 6 hi)
    | 7, hi => exact vk_R.of (hts _ kz_sr7) (hev 7 hi)
  · exact va_Zof (hts _ kz_lc) (hts _ kz_is) (va_eqt (hs (.eq (.static "java/lang/String" "COMPACT_STRINGS" "Z") (.int 1)) (by decide +kernel))) (fun a ha => Nat.not_le.mpr ha)
  · exact va_Zqof (hts _ kz_lp) (hts _ kz_ip) (hs (.isRef (.static "jdk/internal/util/Preconditions" "SIOOBE_FORMATTER" "Ljava/util/function/BiFunction;")) (by decide +kernel)) (fun a ha => Nat.not_le.mpr ha)
set_option maxRecDepth 20000 in
/-- the law, where the pure run comes to its end -/
theorem start_of_pure {p : Program} {e : Env} {s : State} {m : MethodId} {below : List Frame} {meth : Method} {c : Code} (l : Launch) {b L : Nat} {xs : Nat → Int32} (C0 : lw_At p s m meth c b L xs) (n : Nat) (hpure : f_L_law_b18 L xs n (iM, iX) 0 = some ()) : W p l e room_1 s m #[Value.ref b] below meth c s.heap [] 0 0 (lw_Z below #[Value.ref b] s) (entryFrame m ([Value.ref b] : List Value).toArray 4) := by
  obtain ⟨d, σ, hKX, hAO, hσ⟩ := start_facts C0
  obtain ⟨hx, hb, hr, hml, hown, hts, hX, hbl, hlocks, hgv⟩ := C0
  have C : Cx (p, l, e, s, m, #[Value.ref b], below, meth, c) code 4 RL d (Imu d (fun q => s.heap.size ≤ q) s.heap) :=
    ⟨hx, hb, hml, hown, fun w hw => hts w (List.mem_filter.mp hw).1, hKX, fun ws H locs h => h.1⟩
  have hl := lv_entry [Value.ref b] (n := 4) (Nat.le_of_ble_eq_true rfl)
  rw [lg_entry_eq]
  have hI : Imu d (fun q => s.heap.size ≤ q) s.heap [] s.heap [] := ⟨fun k q h => by simp at h, ⟨fun i j p q h => by simp at h, fun k q h => by simp at h⟩, va_S.rf, fun q h => h⟩
  have K : V (p, l, e, s, m, #[Value.ref b], below, meth, c) room_1 0 0 (lw_Z below #[Value.ref b] s) 4 (Imu d (fun q => s.heap.size ≤ q) s.heap) True 0 [] [some (.ref b), none, none, none] [] := by
    refine V_new (fs := [.null, .null, .null, .null]) C fx6 kz_cl_7 kx_in_X6 kx_ini_X6 (fun j hj => by rcases (show j = 0 ∨ j = 1 ∨ j = 2 ∨ j = 3 by omega) with rfl | rfl | rfl | rfl <;> rfl) ⟨(Nat.le_of_ble_eq_true rfl), (Nat.le_of_ble_eq_true rfl)⟩ dL_law_0 (fun q1 => ?_)
    refine V_dup C dL_law_3 rfl ?_
    refine V_callI C hAO (ct_X6_init _ d) kx_cn_X6_init kz_l9 dL_law_4 (Nat.le_of_ble_eq_true rfl) ⟨(Nat.le_of_ble_eq_true rfl), (Nat.le_of_ble_eq_true rfl)⟩ rfl rfl ⟨(Nat.le_of_ble_eq_true rfl), (Nat.le_of_ble_eq_true rfl)⟩ (fun a1 ha1 => ?_)
    subst ha1
    refine V_astore_n (lv' := [some (.ref b), some (.ref (a1 0)), none, none]) C 1 dL_law_7 rfl (by decide) rfl ?_
    refine V_new (fs := [.null, .null, .null, .null, .int 0, .null, .int 0, .int 0, .int 0, .int 0, .int 0, .int 0, .int 0, .int 0]) C fx7 kz_cl_10 kx_in_X7 kx_ini_X7 (fun j hj => by rcases (show j = 0 ∨ j = 1 ∨ j = 2 ∨ j = 3 ∨ j = 4 ∨ j = 5 ∨ j = 6 ∨ j = 7 ∨ j = 8 ∨ j = 9 ∨ j = 10 ∨ j = 11 ∨ j = 12 ∨ j = 13 by omega) with rfl | rfl | rfl | rfl | rfl | rfl | rfl | rfl | rfl | rfl | rfl | rfl | rfl | rfl <;> rfl) ⟨(Nat.le_of_ble_eq_true rfl), (Nat.le_of_ble_eq_true rfl)⟩ dL_law_8 (fun q2 => ?_)
    refine V_dup C dL_law_11 rfl ?_
    refine V_callI C hAO (ct_X7_init _ d) kx_cn_X7_init kz_l12 dL_law_12 (Nat.le_of_ble_eq_true rfl) ⟨(Nat.le_of_ble_eq_true rfl), (Nat.le_of_ble_eq_true rfl)⟩ rfl rfl ⟨(Nat.le_of_ble_eq_true rfl), (Nat.le_of_ble_eq_true rfl)⟩ (fun a2 ha2 => ?_)
    subst ha2
    refine V_astore_n (lv' := [some (.ref b), some (.ref (a1 0)), some (.ref (a2 0)), none]) C 2 dL_law_15 rfl (by decide) rfl ?_
    refine V_iconst (v := 0) C dL_law_16 (by decide) ?_
    refine V_istore_n (lv' := [some (.ref b), some (.ref (a1 0)), some (.ref (a2 0)), some (.int 0)]) C 3 dL_law_17 rfl (by decide) rfl ?_
    refine V_ws (ws' := WMX d a1 a2 (iM, iX)) rfl ?_
    exact V_eqv (fun _ => hpure) (v_L_law_b18 C hr hlocks hσ ⟨hX, hbl, Nat.not_le.mpr hbl⟩ (fun q h => h) rfl n (iM, iX) 0)
  exact K trivial s.heap [] _ hI (LH.entry hl (by simp [Value.category]) (fun i v h => lv0_at (av := [Value.ref b]) (n := 3) h))
