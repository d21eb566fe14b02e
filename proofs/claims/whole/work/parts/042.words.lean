/-! The code is looked at, by the kernel. -/
set_option maxRecDepth 1000000 in
theorem dz_mk_0 : (List.range' 0 20).all dz_mk = true := by decide +kernel
set_option maxRecDepth 1000000 in
theorem dz_mk_20 : (List.range' 20 20).all dz_mk = true := by decide +kernel
set_option maxRecDepth 1000000 in
theorem dz_mk_40 : (List.range' 40 20).all dz_mk = true := by decide +kernel
set_option maxRecDepth 1000000 in
theorem dz_mk_60 : (List.range' 60 20).all dz_mk = true := by decide +kernel
set_option maxRecDepth 1000000 in
theorem dz_mk_80 : (List.range' 80 20).all dz_mk = true := by decide +kernel
set_option maxRecDepth 1000000 in
theorem dz_mk_100 : (List.range' 100 20).all dz_mk = true := by decide +kernel
set_option maxRecDepth 1000000 in
theorem dz_mk_120 : (List.range' 120 20).all dz_mk = true := by decide +kernel
set_option maxRecDepth 1000000 in
theorem dz_mk_140 : (List.range' 140 20).all dz_mk = true := by decide +kernel
set_option maxRecDepth 1000000 in
theorem dz_mk_160 : (List.range' 160 20).all dz_mk = true := by decide +kernel
set_option maxRecDepth 1000000 in
theorem dz_mk_180 : (List.range' 180 20).all dz_mk = true := by decide +kernel
set_option maxRecDepth 1000000 in
theorem dz_mk_200 : (List.range' 200 20).all dz_mk = true := by decide +kernel
