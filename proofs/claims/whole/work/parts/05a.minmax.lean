set_option maxRecDepth 20000 in
theorem kc_min : Cond.code Lib.Math.min.name Lib.Math.min.code 2 (some .int) ∈ wsG := kGm (tab_2 (List.mem_of_getElem? (i := 87) rfl)) rfl
set_option maxRecDepth 20000 in
theorem kc_max : Cond.code Lib.Math.max.name Lib.Math.max.code 2 (some .int) ∈ wsG := kGm (tab_1 (List.mem_of_getElem? (i := 190) rfl)) rfl
