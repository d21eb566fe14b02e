/-! The law's own code is looked at, by the kernel, in pieces. -/
def dz_lawck (x : Nat × dz_I) : Bool := dz_ck (dz_yy 220).1.cls (dz_yy 220).1.name (dz_yy 220).2.1 (dz_pp 220).2.2.2.2 x
theorem dz_all_td {f : Nat × dz_I → Bool} {l : List (Nat × dz_I)} (n : Nat) (h1 : (l.take n).all f = true) (h2 : (l.drop n).all f = true) : l.all f = true := by
  rw [← List.take_append_drop n l, List.all_append, h1, h2]
  rfl
set_option maxRecDepth 1000000 in
theorem dz_lw_0 : ((dzK_220.drop 0).take 60).all dz_lawck = true := by decide +kernel
set_option maxRecDepth 1000000 in
theorem dz_lw_60 : ((dzK_220.drop 60).take 60).all dz_lawck = true := by decide +kernel
set_option maxRecDepth 1000000 in
theorem dz_lw_120 : ((dzK_220.drop 120).take 60).all dz_lawck = true := by decide +kernel
set_option maxRecDepth 1000000 in
theorem dz_lw_180 : ((dzK_220.drop 180).take 60).all dz_lawck = true := by decide +kernel
set_option maxRecDepth 1000000 in
theorem dz_lw_240 : ((dzK_220.drop 240).take 60).all dz_lawck = true := by decide +kernel
set_option maxRecDepth 1000000 in
theorem dz_lw_300 : ((dzK_220.drop 300).take 60).all dz_lawck = true := by decide +kernel
set_option maxRecDepth 1000000 in
theorem dz_lw_360 : ((dzK_220.drop 360).take 60).all dz_lawck = true := by decide +kernel
set_option maxRecDepth 1000000 in
theorem dz_lw_420 : ((dzK_220.drop 420).take 60).all dz_lawck = true := by decide +kernel
set_option maxRecDepth 1000000 in
theorem dz_lw_480 : ((dzK_220.drop 480).take 60).all dz_lawck = true := by decide +kernel
set_option maxRecDepth 1000000 in
theorem dz_lw_540 : ((dzK_220.drop 540).take 60).all dz_lawck = true := by decide +kernel
set_option maxRecDepth 1000000 in
theorem dz_lw_600 : ((dzK_220.drop 600).take 60).all dz_lawck = true := by decide +kernel
set_option maxRecDepth 1000000 in
theorem dz_lw_660 : ((dzK_220.drop 660).take 60).all dz_lawck = true := by decide +kernel
set_option maxRecDepth 1000000 in
theorem dz_lw_720 : ((dzK_220.drop 720).take 60).all dz_lawck = true := by decide +kernel
set_option maxRecDepth 1000000 in
theorem dz_lw_780 : ((dzK_220.drop 780).take 60).all dz_lawck = true := by decide +kernel
set_option maxRecDepth 1000000 in
theorem dz_lw_840 : ((dzK_220.drop 840).take 60).all dz_lawck = true := by decide +kernel
set_option maxRecDepth 1000000 in
theorem dz_lw_900 : ((dzK_220.drop 900).take 60).all dz_lawck = true := by decide +kernel
set_option maxRecDepth 1000000 in
theorem dz_lw_end : (dzK_220.drop 960).all dz_lawck = true := by decide +kernel
theorem dz_mc_law : dz_mc 220 = true := by
  show dzK_220.all dz_lawck = true
  have e960 := dz_lw_end
  have e900 : (dzK_220.drop 900).all dz_lawck = true := dz_all_td 60 dz_lw_900 (by rw [List.drop_drop]; exact e960)
  have e840 : (dzK_220.drop 840).all dz_lawck = true := dz_all_td 60 dz_lw_840 (by rw [List.drop_drop]; exact e900)
  have e780 : (dzK_220.drop 780).all dz_lawck = true := dz_all_td 60 dz_lw_780 (by rw [List.drop_drop]; exact e840)
  have e720 : (dzK_220.drop 720).all dz_lawck = true := dz_all_td 60 dz_lw_720 (by rw [List.drop_drop]; exact e780)
  have e660 : (dzK_220.drop 660).all dz_lawck = true := dz_all_td 60 dz_lw_660 (by rw [List.drop_drop]; exact e720)
  have e600 : (dzK_220.drop 600).all dz_lawck = true := dz_all_td 60 dz_lw_600 (by rw [List.drop_drop]; exact e660)
  have e540 : (dzK_220.drop 540).all dz_lawck = true := dz_all_td 60 dz_lw_540 (by rw [List.drop_drop]; exact e600)
  have e480 : (dzK_220.drop 480).all dz_lawck = true := dz_all_td 60 dz_lw_480 (by rw [List.drop_drop]; exact e540)
  have e420 : (dzK_220.drop 420).all dz_lawck = true := dz_all_td 60 dz_lw_420 (by rw [List.drop_drop]; exact e480)
  have e360 : (dzK_220.drop 360).all dz_lawck = true := dz_all_td 60 dz_lw_360 (by rw [List.drop_drop]; exact e420)
  have e300 : (dzK_220.drop 300).all dz_lawck = true := dz_all_td 60 dz_lw_300 (by rw [List.drop_drop]; exact e360)
  have e240 : (dzK_220.drop 240).all dz_lawck = true := dz_all_td 60 dz_lw_240 (by rw [List.drop_drop]; exact e300)
  have e180 : (dzK_220.drop 180).all dz_lawck = true := dz_all_td 60 dz_lw_180 (by rw [List.drop_drop]; exact e240)
  have e120 : (dzK_220.drop 120).all dz_lawck = true := dz_all_td 60 dz_lw_120 (by rw [List.drop_drop]; exact e180)
  have e60 : (dzK_220.drop 60).all dz_lawck = true := dz_all_td 60 dz_lw_60 (by rw [List.drop_drop]; exact e120)
  have e0 : (dzK_220.drop 0).all dz_lawck = true := dz_all_td 60 dz_lw_0 (by rw [List.drop_drop]; exact e60)
  exact e0
