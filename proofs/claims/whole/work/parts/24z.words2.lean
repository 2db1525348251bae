/-! more words of the tables -/
theorem kf_X1_18 : Cond.fieldLink RX1 18 (TX1 1).1 (TX1 1).2.1 (TX1 1).2.2.1 ∈ tG := tG_of (List.mem_of_getElem? (i := 189) (by decide +kernel)) (by decide +kernel)
theorem kv_X1_stateAt : CalV yX1_stateAt cX1_stateAt 2 (some (.object "MastRobots$Library")) RX1 1 := ⟨tG_of (List.mem_of_getElem? (i := 317) (by decide +kernel)) (by decide +kernel), tG_of (List.mem_of_getElem? (i := 2) (by decide +kernel)) (by decide +kernel), tG_of (List.mem_of_getElem? (i := 61) (by decide +kernel)) (by decide +kernel), tG_of (List.mem_of_getElem? (i := 318) (by decide +kernel)) (by decide +kernel), by decide +kernel⟩
theorem kl_X1_26 : Cond.methodLink RX1 26 yX2_copyFrom ∈ tG := tG_of (List.mem_of_getElem? (i := 319) (by decide +kernel)) (by decide +kernel)
theorem kf_X1_30 : Cond.fieldLink RX1 30 (TX1 2).1 (TX1 2).2.1 (TX1 2).2.2.1 ∈ tG := tG_of (List.mem_of_getElem? (i := 190) (by decide +kernel)) (by decide +kernel)
theorem kl_X1_33 : Cond.methodLink RX1 33 Lib.Math.min.name ∈ tG := tG_of (List.mem_of_getElem? (i := 320) (by decide +kernel)) (by decide +kernel)
theorem kl_X1_22 : Cond.methodLink RX1 22 yX1_stateAt ∈ tG := tG_of (List.mem_of_getElem? (i := 315) (by decide +kernel)) (by decide +kernel)
theorem kc_X1_39 : Cond.constant RX1 39 (-1000002) ∈ tG := tG_of (List.mem_of_getElem? (i := 652) (by decide +kernel)) (by decide +kernel)
theorem kf_X1_11 : Cond.fieldLink RX1 11 (TX1 0).1 (TX1 0).2.1 (TX1 0).2.2.1 ∈ tG := tG_of (List.mem_of_getElem? (i := 188) (by decide +kernel)) (by decide +kernel)
