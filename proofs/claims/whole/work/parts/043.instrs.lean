/-! The code is looked at, by the kernel: its instructions. -/
set_option maxRecDepth 1000000 in
theorem dz_mc_0 : (List.range' 0 20).all dz_mc = true := by decide +kernel
set_option maxRecDepth 1000000 in
theorem dz_mc_20 : (List.range' 20 20).all dz_mc = true := by decide +kernel
set_option maxRecDepth 1000000 in
theorem dz_mc_40 : (List.range' 40 20).all dz_mc = true := by decide +kernel
set_option maxRecDepth 1000000 in
theorem dz_mc_60 : (List.range' 60 20).all dz_mc = true := by decide +kernel
set_option maxRecDepth 1000000 in
theorem dz_mc_80 : (List.range' 80 20).all dz_mc = true := by decide +kernel
set_option maxRecDepth 1000000 in
theorem dz_mc_100 : (List.range' 100 20).all dz_mc = true := by decide +kernel
set_option maxRecDepth 1000000 in
theorem dz_mc_120 : (List.range' 120 20).all dz_mc = true := by decide +kernel
set_option maxRecDepth 1000000 in
theorem dz_mc_140 : (List.range' 140 20).all dz_mc = true := by decide +kernel
set_option maxRecDepth 1000000 in
theorem dz_mc_160 : (List.range' 160 20).all dz_mc = true := by decide +kernel
set_option maxRecDepth 1000000 in
theorem dz_mc_180 : (List.range' 180 20).all dz_mc = true := by decide +kernel
set_option maxRecDepth 1000000 in
theorem dz_mc_200 : (List.range' 200 20).all dz_mc = true := by decide +kernel
