theorem dz_nk_lt {j : Nat} (h : (dz_nk j).1 < 3) : j < 220 := by
  rcases Nat.lt_or_ge j 220 with q | q
  · exact q
  · exfalso
    rcases Nat.eq_or_lt_of_le q with q | q
    · subst q
      exact absurd h (by decide +kernel)
    · have e : dz_nk j = (9, 9) := by
        unfold dz_nk
        rw [List.getD_eq_getElem?_getD, List.getElem?_eq_none (by have : dz_NK.length = 221 := by decide +kernel
                                                                  omega)]
        rfl
      rw [e] at h
      exact absurd h (by decide)
theorem dz_mk_all : ∀ j, (dz_nk j).1 < 3 → dz_mk j = true := by
  intro j hj
  have hlt := dz_nk_lt hj
  by_cases h0 : j < 20
  · exact List.all_eq_true.mp dz_mk_0 j (List.mem_range'_1.mpr ⟨by omega, by omega⟩)
  by_cases h20 : j < 40
  · exact List.all_eq_true.mp dz_mk_20 j (List.mem_range'_1.mpr ⟨by omega, by omega⟩)
  by_cases h40 : j < 60
  · exact List.all_eq_true.mp dz_mk_40 j (List.mem_range'_1.mpr ⟨by omega, by omega⟩)
  by_cases h60 : j < 80
  · exact List.all_eq_true.mp dz_mk_60 j (List.mem_range'_1.mpr ⟨by omega, by omega⟩)
  by_cases h80 : j < 100
  · exact List.all_eq_true.mp dz_mk_80 j (List.mem_range'_1.mpr ⟨by omega, by omega⟩)
  by_cases h100 : j < 120
  · exact List.all_eq_true.mp dz_mk_100 j (List.mem_range'_1.mpr ⟨by omega, by omega⟩)
  by_cases h120 : j < 140
  · exact List.all_eq_true.mp dz_mk_120 j (List.mem_range'_1.mpr ⟨by omega, by omega⟩)
  by_cases h140 : j < 160
  · exact List.all_eq_true.mp dz_mk_140 j (List.mem_range'_1.mpr ⟨by omega, by omega⟩)
  by_cases h160 : j < 180
  · exact List.all_eq_true.mp dz_mk_160 j (List.mem_range'_1.mpr ⟨by omega, by omega⟩)
  by_cases h180 : j < 200
  · exact List.all_eq_true.mp dz_mk_180 j (List.mem_range'_1.mpr ⟨by omega, by omega⟩)
  by_cases h200 : j < 220
  · exact List.all_eq_true.mp dz_mk_200 j (List.mem_range'_1.mpr ⟨by omega, by omega⟩)
  omega
theorem dz_mc_all : ∀ j, (dz_nk j).1 < 3 → dz_mc j = true := by
  intro j hj
  have hlt := dz_nk_lt hj
  by_cases h0 : j < 20
  · exact List.all_eq_true.mp dz_mc_0 j (List.mem_range'_1.mpr ⟨by omega, by omega⟩)
  by_cases h20 : j < 40
  · exact List.all_eq_true.mp dz_mc_20 j (List.mem_range'_1.mpr ⟨by omega, by omega⟩)
  by_cases h40 : j < 60
  · exact List.all_eq_true.mp dz_mc_40 j (List.mem_range'_1.mpr ⟨by omega, by omega⟩)
  by_cases h60 : j < 80
  · exact List.all_eq_true.mp dz_mc_60 j (List.mem_range'_1.mpr ⟨by omega, by omega⟩)
  by_cases h80 : j < 100
  · exact List.all_eq_true.mp dz_mc_80 j (List.mem_range'_1.mpr ⟨by omega, by omega⟩)
  by_cases h100 : j < 120
  · exact List.all_eq_true.mp dz_mc_100 j (List.mem_range'_1.mpr ⟨by omega, by omega⟩)
  by_cases h120 : j < 140
  · exact List.all_eq_true.mp dz_mc_120 j (List.mem_range'_1.mpr ⟨by omega, by omega⟩)
  by_cases h140 : j < 160
  · exact List.all_eq_true.mp dz_mc_140 j (List.mem_range'_1.mpr ⟨by omega, by omega⟩)
  by_cases h160 : j < 180
  · exact List.all_eq_true.mp dz_mc_160 j (List.mem_range'_1.mpr ⟨by omega, by omega⟩)
  by_cases h180 : j < 200
  · exact List.all_eq_true.mp dz_mc_180 j (List.mem_range'_1.mpr ⟨by omega, by omega⟩)
  by_cases h200 : j < 220
  · exact List.all_eq_true.mp dz_mc_200 j (List.mem_range'_1.mpr ⟨by omega, by omega⟩)
  omega
/-- what the small machine says of a call holds of the real one -/
theorem dz_true (l : Launch) (D : va_G) (aC : Nat → ClassId) (ob : Nat → Nat) (xo : Nat → List Int) (d : Nat) : dz_callsK l D aC ob xo d (dz_E dz_pp xo d) := dz_sound dz_mk_all dz_mc_all l D aC ob xo d
