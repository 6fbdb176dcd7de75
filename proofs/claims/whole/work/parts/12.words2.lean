set_option maxRecDepth 100000 in
theorem kc_J6_265 : Cond.constant RJ6 265 (iI (1431655765)) ∈ T0 := tw4 143 rfl (by decide +kernel)
set_option maxRecDepth 100000 in
theorem kc_J6_266 : Cond.constant RJ6 266 (iI (858993459)) ∈ T0 := tw4 144 rfl (by decide +kernel)
set_option maxRecDepth 100000 in
theorem kc_J6_267 : Cond.constant RJ6 267 (iI (252645135)) ∈ T0 := tw4 145 rfl (by decide +kernel)
