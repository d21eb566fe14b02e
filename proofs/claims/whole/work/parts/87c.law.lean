/-! The law, call by call. Written by l2_87.py. -/
set_option maxRecDepth 100000 in
set_option maxHeartbeats 1000000 in
theorem L_lies {xo : Nat → List Int} {Q : dz_Q} {sh : List (Nat ⊕ (Nat × Nat))} {rf : Nat → Nat → Nat} {M : Nat → Nat → Int} {i : Int} (hx1 : xo 1 = dz_xs1) (hx2 : xo 2 = dz_xs2) (hr : ∀ j, dz_in32 ((xo 0).getD j 0)) (hi : 0 ≤ i) (hL : i + 6 ≤ (xo 0).length) (hN : (xo 0).length ≤ 384) (hI : LI sh rf M) (h : ∀ rf2 M2, LI sh rf2 M2 → dz_X (dz_E dz_pp xo 60) dz_pp xo (dz_pp 220) Q 18 [some (dz_o 0), some (dz_r 0), some (dz_r 115), some (dz_i (i + 6))] [] 130 5989 (sh, rf2, M2)) : dz_X (dz_E dz_pp xo 60) dz_pp xo (dz_pp 220) Q 1050 [some (dz_o 0), some (dz_r 0), some (dz_r 115), some (dz_i i)] [] 130 5989 (sh, rf, M) := by
  have hc := dz_E_m dz_pp xo 60
  obtain ⟨rs, it, ts, ch, tl, up, lo, fn, w, pl, kd, wt, nx, n, hs, kp, kh, hl, hm, hX, hM, hW⟩ := hI
  have c0 := hl.1
  have m0 := hm.1
  refine xr_aloadn hc rfl rfl ?_
  refine xr_aloadn hc rfl rfl ?_
  refine xr_iloadn hc rfl rfl ?_
  refine xr_iconst hc rfl ?_
  refine xr_iaddz hc rfl (by first | exact dz_wid (by first | omega | (unfold dz_w; omega)) (by first | omega | (unfold dz_w; omega)) | rfl) ?_
  refine xr_ialoado hc rfl (by first | omega | (unfold dz_w; omega)) (by first | omega | (unfold dz_w; omega)) ?_
  refine xr_aloadn hc rfl rfl ?_
  refine xr_iloadn hc rfl rfl ?_
  refine xr_iconst hc rfl ?_
  refine xr_iaddz hc rfl (by first | exact dz_wid (by first | omega | (unfold dz_w; omega)) (by first | omega | (unfold dz_w; omega)) | rfl) ?_
  refine xr_ialoado hc rfl (by first | omega | (unfold dz_w; omega)) (by first | omega | (unfold dz_w; omega)) ?_
  refine xr_callv2 hc rfl (by first | assumption | rfl) rfl rfl rfl (Nat.le_of_ble_eq_true rfl) (Nat.le_of_ble_eq_true rfl) (Nat.le_of_ble_eq_true rfl) ?_
  refine X_lies (d := 55) hx2 hl hX hW (fun M2 f2 hX2 => ?_)
  have hM2 := RM_hi hM hW f2
  refine xk_1 ?_
  refine xr_aloadn hc rfl rfl ?_
  refine xr_aloadn hc rfl rfl ?_
  refine xr_iloadn hc rfl rfl ?_
  refine xr_iconst hc rfl ?_
  refine xr_iaddz hc rfl (by first | exact dz_wid (by first | omega | (unfold dz_w; omega)) (by first | omega | (unfold dz_w; omega)) | rfl) ?_
  refine xr_ialoado hc rfl (by first | omega | (unfold dz_w; omega)) (by first | omega | (unfold dz_w; omega)) ?_
  refine xr_aloadn hc rfl rfl ?_
  refine xr_iloadn hc rfl rfl ?_
  refine xr_iconst hc rfl ?_
  refine xr_iaddz hc rfl (by first | exact dz_wid (by first | omega | (unfold dz_w; omega)) (by first | omega | (unfold dz_w; omega)) | rfl) ?_
  refine xr_ialoado hc rfl (by first | omega | (unfold dz_w; omega)) (by first | omega | (unfold dz_w; omega)) ?_
  refine xr_callv2 hc rfl (by first | assumption | rfl) rfl rfl rfl (Nat.le_of_ble_eq_true rfl) (Nat.le_of_ble_eq_true rfl) (Nat.le_of_ble_eq_true rfl) ?_
  refine D_lies (d := 55) hm hM2 hW (fun M3 f3 hM3 => ?_)
  refine xk_1 ?_
  refine xr_icmp_eq hc rfl (t := 1385) rfl (fun b1078 => ?_) (fun b1078 => ?_)
  · refine xr_iincz3 hc rfl rfl (by first | exact dz_wid (by first | omega | (unfold dz_w; omega)) (by first | omega | (unfold dz_w; omega)) | rfl) ?_
    refine xr_goto hc rfl (t := 18) rfl ?_
    exact h _ _ ⟨_, _, _, _, _, _, _, _, _, _, _, _, _, _, _, _, _, hl, hm, (RX_lo hX2 f3), hM3, (WF_any hW)⟩
  · exact absurd rfl b1078
set_option maxRecDepth 100000 in
set_option maxHeartbeats 1000000 in
theorem L_kinds {xo : Nat → List Int} {Q : dz_Q} {sh : List (Nat ⊕ (Nat × Nat))} {rf : Nat → Nat → Nat} {M : Nat → Nat → Int} {i : Int} (hx1 : xo 1 = dz_xs1) (hx2 : xo 2 = dz_xs2) (hr : ∀ j, dz_in32 ((xo 0).getD j 0)) (hi : 0 ≤ i) (hL : i + 6 ≤ (xo 0).length) (hN : (xo 0).length ≤ 384) (hI : LI sh rf M) (h : ∀ rf2 M2, LI sh rf2 M2 → dz_X (dz_E dz_pp xo 60) dz_pp xo (dz_pp 220) Q 18 [some (dz_o 0), some (dz_r 0), some (dz_r 115), some (dz_i (i + 6))] [] 130 5989 (sh, rf2, M2)) : dz_X (dz_E dz_pp xo 60) dz_pp xo (dz_pp 220) Q 1083 [some (dz_o 0), some (dz_r 0), some (dz_r 115), some (dz_i i)] [] 130 5989 (sh, rf, M) := by
  have hc := dz_E_m dz_pp xo 60
  obtain ⟨rs, it, ts, ch, tl, up, lo, fn, w, pl, kd, wt, nx, n, hs, kp, kh, hl, hm, hX, hM, hW⟩ := hI
  have c0 := hl.1
  have m0 := hm.1
  refine xr_aloadn hc rfl rfl ?_
  refine xr_aloadn hc rfl rfl ?_
  refine xr_iloadn hc rfl rfl ?_
  refine xr_iconst hc rfl ?_
  refine xr_iaddz hc rfl (by first | exact dz_wid (by first | omega | (unfold dz_w; omega)) (by first | omega | (unfold dz_w; omega)) | rfl) ?_
  refine xr_ialoado hc rfl (by first | omega | (unfold dz_w; omega)) (by first | omega | (unfold dz_w; omega)) ?_
  refine xr_aloadn hc rfl rfl ?_
  refine xr_iloadn hc rfl rfl ?_
  refine xr_iconst hc rfl ?_
  refine xr_iaddz hc rfl (by first | exact dz_wid (by first | omega | (unfold dz_w; omega)) (by first | omega | (unfold dz_w; omega)) | rfl) ?_
  refine xr_ialoado hc rfl (by first | omega | (unfold dz_w; omega)) (by first | omega | (unfold dz_w; omega)) ?_
  refine xr_callv2 hc rfl (by first | assumption | rfl) rfl rfl rfl (Nat.le_of_ble_eq_true rfl) (Nat.le_of_ble_eq_true rfl) (Nat.le_of_ble_eq_true rfl) ?_
  refine X_kinds (d := 55) hx2 hl hX hW (fun M2 f2 hX2 => ?_)
  have hM2 := RM_hi hM hW f2
  refine xk_1 ?_
  refine xr_aloadn hc rfl rfl ?_
  refine xr_aloadn hc rfl rfl ?_
  refine xr_iloadn hc rfl rfl ?_
  refine xr_iconst hc rfl ?_
  refine xr_iaddz hc rfl (by first | exact dz_wid (by first | omega | (unfold dz_w; omega)) (by first | omega | (unfold dz_w; omega)) | rfl) ?_
  refine xr_ialoado hc rfl (by first | omega | (unfold dz_w; omega)) (by first | omega | (unfold dz_w; omega)) ?_
  refine xr_aloadn hc rfl rfl ?_
  refine xr_iloadn hc rfl rfl ?_
  refine xr_iconst hc rfl ?_
  refine xr_iaddz hc rfl (by first | exact dz_wid (by first | omega | (unfold dz_w; omega)) (by first | omega | (unfold dz_w; omega)) | rfl) ?_
  refine xr_ialoado hc rfl (by first | omega | (unfold dz_w; omega)) (by first | omega | (unfold dz_w; omega)) ?_
  refine xr_callv2 hc rfl (by first | assumption | rfl) rfl rfl rfl (Nat.le_of_ble_eq_true rfl) (Nat.le_of_ble_eq_true rfl) (Nat.le_of_ble_eq_true rfl) ?_
  refine D_kinds (d := 55) hm hM2 hW (fun M3 f3 hM3 => ?_)
  refine xk_1 ?_
  refine xr_icmp_eq hc rfl (t := 1385) rfl (fun b1111 => ?_) (fun b1111 => ?_)
  · refine xr_iincz3 hc rfl rfl (by first | exact dz_wid (by first | omega | (unfold dz_w; omega)) (by first | omega | (unfold dz_w; omega)) | rfl) ?_
    refine xr_goto hc rfl (t := 18) rfl ?_
    exact h _ _ ⟨_, _, _, _, _, _, _, _, _, _, _, _, _, _, _, _, _, hl, hm, (RX_lo hX2 f3), hM3, (WF_any hW)⟩
  · exact absurd rfl b1111
set_option maxRecDepth 100000 in
set_option maxHeartbeats 1000000 in
theorem L_watch {xo : Nat → List Int} {Q : dz_Q} {sh : List (Nat ⊕ (Nat × Nat))} {rf : Nat → Nat → Nat} {M : Nat → Nat → Int} {i : Int} (hx1 : xo 1 = dz_xs1) (hx2 : xo 2 = dz_xs2) (hr : ∀ j, dz_in32 ((xo 0).getD j 0)) (hi : 0 ≤ i) (hL : i + 6 ≤ (xo 0).length) (hN : (xo 0).length ≤ 384) (hI : LI sh rf M) (h : ∀ rf2 M2, LI sh rf2 M2 → dz_X (dz_E dz_pp xo 60) dz_pp xo (dz_pp 220) Q 18 [some (dz_o 0), some (dz_r 0), some (dz_r 115), some (dz_i (i + 6))] [] 130 5989 (sh, rf2, M2)) : dz_X (dz_E dz_pp xo 60) dz_pp xo (dz_pp 220) Q 1116 [some (dz_o 0), some (dz_r 0), some (dz_r 115), some (dz_i i)] [] 130 5989 (sh, rf, M) := by
  have hc := dz_E_m dz_pp xo 60
  obtain ⟨rs, it, ts, ch, tl, up, lo, fn, w, pl, kd, wt, nx, n, hs, kp, kh, hl, hm, hX, hM, hW⟩ := hI
  have c0 := hl.1
  have m0 := hm.1
  refine xr_aloadn hc rfl rfl ?_
  refine xr_aloadn hc rfl rfl ?_
  refine xr_iloadn hc rfl rfl ?_
  refine xr_iconst hc rfl ?_
  refine xr_iaddz hc rfl (by first | exact dz_wid (by first | omega | (unfold dz_w; omega)) (by first | omega | (unfold dz_w; omega)) | rfl) ?_
  refine xr_ialoado hc rfl (by first | omega | (unfold dz_w; omega)) (by first | omega | (unfold dz_w; omega)) ?_
  refine xr_callv1 hc rfl (by first | assumption | rfl) rfl rfl rfl (Nat.le_of_ble_eq_true rfl) (Nat.le_of_ble_eq_true rfl) (Nat.le_of_ble_eq_true rfl) ?_
  refine X_watch (d := 54) hx2 hl hX hW (fun M2 f2 hX2 => ?_)
  have hM2 := RM_hi hM hW f2
  refine xk_1 ?_
  refine xr_aloadn hc rfl rfl ?_
  refine xr_aloadn hc rfl rfl ?_
  refine xr_iloadn hc rfl rfl ?_
  refine xr_iconst hc rfl ?_
  refine xr_iaddz hc rfl (by first | exact dz_wid (by first | omega | (unfold dz_w; omega)) (by first | omega | (unfold dz_w; omega)) | rfl) ?_
  refine xr_ialoado hc rfl (by first | omega | (unfold dz_w; omega)) (by first | omega | (unfold dz_w; omega)) ?_
  refine xr_callv1 hc rfl (by first | assumption | rfl) rfl rfl rfl (Nat.le_of_ble_eq_true rfl) (Nat.le_of_ble_eq_true rfl) (Nat.le_of_ble_eq_true rfl) ?_
  refine D_watch (d := 53) hm hM2 hW (fun M3 f3 hM3 => ?_)
  refine xk_1 ?_
  refine xr_icmp_eq hc rfl (t := 1385) rfl (fun b1134 => ?_) (fun b1134 => ?_)
  · refine xr_iincz3 hc rfl rfl (by first | exact dz_wid (by first | omega | (unfold dz_w; omega)) (by first | omega | (unfold dz_w; omega)) | rfl) ?_
    refine xr_goto hc rfl (t := 18) rfl ?_
    exact h _ _ ⟨_, _, _, _, _, _, _, _, _, _, _, _, _, _, _, _, _, hl, hm, (RX_lo hX2 f3), hM3, (WF_any hW)⟩
  · exact absurd rfl b1134
set_option maxRecDepth 100000 in
set_option maxHeartbeats 1000000 in
theorem L_duel {xo : Nat → List Int} {Q : dz_Q} {sh : List (Nat ⊕ (Nat × Nat))} {rf : Nat → Nat → Nat} {M : Nat → Nat → Int} {i : Int} (hx1 : xo 1 = dz_xs1) (hx2 : xo 2 = dz_xs2) (hr : ∀ j, dz_in32 ((xo 0).getD j 0)) (hi : 0 ≤ i) (hL : i + 6 ≤ (xo 0).length) (hN : (xo 0).length ≤ 384) (hI : LI sh rf M) (h : ∀ rf2 M2, LI sh rf2 M2 → dz_X (dz_E dz_pp xo 60) dz_pp xo (dz_pp 220) Q 18 [some (dz_o 0), some (dz_r 0), some (dz_r 115), some (dz_i (i + 6))] [] 130 5989 (sh, rf2, M2)) : dz_X (dz_E dz_pp xo 60) dz_pp xo (dz_pp 220) Q 1139 [some (dz_o 0), some (dz_r 0), some (dz_r 115), some (dz_i i)] [] 130 5989 (sh, rf, M) := by
  have hc := dz_E_m dz_pp xo 60
  obtain ⟨rs, it, ts, ch, tl, up, lo, fn, w, pl, kd, wt, nx, n, hs, kp, kh, hl, hm, hX, hM, hW⟩ := hI
  have c0 := hl.1
  have m0 := hm.1
  refine xr_aloadn hc rfl rfl ?_
  refine xr_aloadn hc rfl rfl ?_
  refine xr_iloadn hc rfl rfl ?_
  refine xr_iconst hc rfl ?_
  refine xr_iaddz hc rfl (by first | exact dz_wid (by first | omega | (unfold dz_w; omega)) (by first | omega | (unfold dz_w; omega)) | rfl) ?_
  refine xr_ialoado hc rfl (by first | omega | (unfold dz_w; omega)) (by first | omega | (unfold dz_w; omega)) ?_
  refine xr_callv1 hc rfl (by first | assumption | rfl) rfl rfl rfl (Nat.le_of_ble_eq_true rfl) (Nat.le_of_ble_eq_true rfl) (Nat.le_of_ble_eq_true rfl) ?_
  refine X_duel (d := 51) hx2 hl hX hW (fun M2 f2 hX2 => ?_)
  have hM2 := RM_hi hM hW f2
  refine xk_1 ?_
  refine xr_aloadn hc rfl rfl ?_
  refine xr_aloadn hc rfl rfl ?_
  refine xr_iloadn hc rfl rfl ?_
  refine xr_iconst hc rfl ?_
  refine xr_iaddz hc rfl (by first | exact dz_wid (by first | omega | (unfold dz_w; omega)) (by first | omega | (unfold dz_w; omega)) | rfl) ?_
  refine xr_ialoado hc rfl (by first | omega | (unfold dz_w; omega)) (by first | omega | (unfold dz_w; omega)) ?_
  refine xr_callv1 hc rfl (by first | assumption | rfl) rfl rfl rfl (Nat.le_of_ble_eq_true rfl) (Nat.le_of_ble_eq_true rfl) (Nat.le_of_ble_eq_true rfl) ?_
  refine D_duel (d := 54) hm hM2 hW (fun M3 f3 hM3 => ?_)
  refine xk_1 ?_
  refine xr_icmp_eq hc rfl (t := 1385) rfl (fun b1157 => ?_) (fun b1157 => ?_)
  · refine xr_iincz3 hc rfl rfl (by first | exact dz_wid (by first | omega | (unfold dz_w; omega)) (by first | omega | (unfold dz_w; omega)) | rfl) ?_
    refine xr_goto hc rfl (t := 18) rfl ?_
    exact h _ _ ⟨_, _, _, _, _, _, _, _, _, _, _, _, _, _, _, _, _, hl, hm, (RX_lo hX2 f3), hM3, (WF_any hW)⟩
  · exact absurd rfl b1157
set_option maxRecDepth 100000 in
set_option maxHeartbeats 1000000 in
theorem L_odds {xo : Nat → List Int} {Q : dz_Q} {sh : List (Nat ⊕ (Nat × Nat))} {rf : Nat → Nat → Nat} {M : Nat → Nat → Int} {i : Int} (hx1 : xo 1 = dz_xs1) (hx2 : xo 2 = dz_xs2) (hr : ∀ j, dz_in32 ((xo 0).getD j 0)) (hi : 0 ≤ i) (hL : i + 6 ≤ (xo 0).length) (hN : (xo 0).length ≤ 384) (hI : LI sh rf M) (h : ∀ rf2 M2, LI sh rf2 M2 → dz_X (dz_E dz_pp xo 60) dz_pp xo (dz_pp 220) Q 18 [some (dz_o 0), some (dz_r 0), some (dz_r 115), some (dz_i (i + 6))] [] 130 5989 (sh, rf2, M2)) : dz_X (dz_E dz_pp xo 60) dz_pp xo (dz_pp 220) Q 1162 [some (dz_o 0), some (dz_r 0), some (dz_r 115), some (dz_i i)] [] 130 5989 (sh, rf, M) := by
  have hc := dz_E_m dz_pp xo 60
  obtain ⟨rs, it, ts, ch, tl, up, lo, fn, w, pl, kd, wt, nx, n, hs, kp, kh, hl, hm, hX, hM, hW⟩ := hI
  have c0 := hl.1
  have m0 := hm.1
  refine xr_aloadn hc rfl rfl ?_
  refine xr_aloadn hc rfl rfl ?_
  refine xr_iloadn hc rfl rfl ?_
  refine xr_iconst hc rfl ?_
  refine xr_iaddz hc rfl (by first | exact dz_wid (by first | omega | (unfold dz_w; omega)) (by first | omega | (unfold dz_w; omega)) | rfl) ?_
  refine xr_ialoado hc rfl (by first | omega | (unfold dz_w; omega)) (by first | omega | (unfold dz_w; omega)) ?_
  refine xr_aloadn hc rfl rfl ?_
  refine xr_iloadn hc rfl rfl ?_
  refine xr_iconst hc rfl ?_
  refine xr_iaddz hc rfl (by first | exact dz_wid (by first | omega | (unfold dz_w; omega)) (by first | omega | (unfold dz_w; omega)) | rfl) ?_
  refine xr_ialoado hc rfl (by first | omega | (unfold dz_w; omega)) (by first | omega | (unfold dz_w; omega)) ?_
  refine xr_aloadn hc rfl rfl ?_
  refine xr_iloadn hc rfl rfl ?_
  refine xr_iconst hc rfl ?_
  refine xr_iaddz hc rfl (by first | exact dz_wid (by first | omega | (unfold dz_w; omega)) (by first | omega | (unfold dz_w; omega)) | rfl) ?_
  refine xr_ialoado hc rfl (by first | omega | (unfold dz_w; omega)) (by first | omega | (unfold dz_w; omega)) ?_
  refine xr_callv3 hc rfl (by first | assumption | rfl) rfl rfl rfl (Nat.le_of_ble_eq_true rfl) (Nat.le_of_ble_eq_true rfl) (Nat.le_of_ble_eq_true rfl) ?_
  refine X_odds (d := 55) hx2 hl hX hW (fun M2 f2 hX2 => ?_)
  have hM2 := RM_hi hM hW f2
  refine xk_1 ?_
  refine xr_aloadn hc rfl rfl ?_
  refine xr_aloadn hc rfl rfl ?_
  refine xr_iloadn hc rfl rfl ?_
  refine xr_iconst hc rfl ?_
  refine xr_iaddz hc rfl (by first | exact dz_wid (by first | omega | (unfold dz_w; omega)) (by first | omega | (unfold dz_w; omega)) | rfl) ?_
  refine xr_ialoado hc rfl (by first | omega | (unfold dz_w; omega)) (by first | omega | (unfold dz_w; omega)) ?_
  refine xr_aloadn hc rfl rfl ?_
  refine xr_iloadn hc rfl rfl ?_
  refine xr_iconst hc rfl ?_
  refine xr_iaddz hc rfl (by first | exact dz_wid (by first | omega | (unfold dz_w; omega)) (by first | omega | (unfold dz_w; omega)) | rfl) ?_
  refine xr_ialoado hc rfl (by first | omega | (unfold dz_w; omega)) (by first | omega | (unfold dz_w; omega)) ?_
  refine xr_aloadn hc rfl rfl ?_
  refine xr_iloadn hc rfl rfl ?_
  refine xr_iconst hc rfl ?_
  refine xr_iaddz hc rfl (by first | exact dz_wid (by first | omega | (unfold dz_w; omega)) (by first | omega | (unfold dz_w; omega)) | rfl) ?_
  refine xr_ialoado hc rfl (by first | omega | (unfold dz_w; omega)) (by first | omega | (unfold dz_w; omega)) ?_
  refine xr_callv3 hc rfl (by first | assumption | rfl) rfl rfl rfl (Nat.le_of_ble_eq_true rfl) (Nat.le_of_ble_eq_true rfl) (Nat.le_of_ble_eq_true rfl) ?_
  refine D_odds (d := 53) hm hM2 hW (fun M3 f3 hM3 => ?_)
  refine xk_1 ?_
  refine xr_icmp_eq hc rfl (t := 1385) rfl (fun b1200 => ?_) (fun b1200 => ?_)
  · refine xr_iincz3 hc rfl rfl (by first | exact dz_wid (by first | omega | (unfold dz_w; omega)) (by first | omega | (unfold dz_w; omega)) | rfl) ?_
    refine xr_goto hc rfl (t := 18) rfl ?_
    exact h _ _ ⟨_, _, _, _, _, _, _, _, _, _, _, _, _, _, _, _, _, hl, hm, (RX_lo hX2 f3), hM3, (WF_any hW)⟩
  · exact absurd rfl b1200
set_option maxRecDepth 100000 in
set_option maxHeartbeats 1000000 in
theorem L_mid {xo : Nat → List Int} {Q : dz_Q} {sh : List (Nat ⊕ (Nat × Nat))} {rf : Nat → Nat → Nat} {M : Nat → Nat → Int} {i : Int} (hx1 : xo 1 = dz_xs1) (hx2 : xo 2 = dz_xs2) (hr : ∀ j, dz_in32 ((xo 0).getD j 0)) (hi : 0 ≤ i) (hL : i + 6 ≤ (xo 0).length) (hN : (xo 0).length ≤ 384) (hI : LI sh rf M) (h : ∀ rf2 M2, LI sh rf2 M2 → dz_X (dz_E dz_pp xo 60) dz_pp xo (dz_pp 220) Q 18 [some (dz_o 0), some (dz_r 0), some (dz_r 115), some (dz_i (i + 6))] [] 130 5989 (sh, rf2, M2)) : dz_X (dz_E dz_pp xo 60) dz_pp xo (dz_pp 220) Q 1205 [some (dz_o 0), some (dz_r 0), some (dz_r 115), some (dz_i i)] [] 130 5989 (sh, rf, M) := by
  have hc := dz_E_m dz_pp xo 60
  obtain ⟨rs, it, ts, ch, tl, up, lo, fn, w, pl, kd, wt, nx, n, hs, kp, kh, hl, hm, hX, hM, hW⟩ := hI
  have c0 := hl.1
  have m0 := hm.1
  refine xr_aloadn hc rfl rfl ?_
  refine xr_aloadn hc rfl rfl ?_
  refine xr_iloadn hc rfl rfl ?_
  refine xr_iconst hc rfl ?_
  refine xr_iaddz hc rfl (by first | exact dz_wid (by first | omega | (unfold dz_w; omega)) (by first | omega | (unfold dz_w; omega)) | rfl) ?_
  refine xr_ialoado hc rfl (by first | omega | (unfold dz_w; omega)) (by first | omega | (unfold dz_w; omega)) ?_
  refine xr_aloadn hc rfl rfl ?_
  refine xr_iloadn hc rfl rfl ?_
  refine xr_iconst hc rfl ?_
  refine xr_iaddz hc rfl (by first | exact dz_wid (by first | omega | (unfold dz_w; omega)) (by first | omega | (unfold dz_w; omega)) | rfl) ?_
  refine xr_ialoado hc rfl (by first | omega | (unfold dz_w; omega)) (by first | omega | (unfold dz_w; omega)) ?_
  refine xr_callv2 hc rfl (by first | assumption | rfl) rfl rfl rfl (Nat.le_of_ble_eq_true rfl) (Nat.le_of_ble_eq_true rfl) (Nat.le_of_ble_eq_true rfl) ?_
  refine X_mid (d := 55) hx2 hl hX hW (fun M2 f2 hX2 => ?_)
  have hM2 := RM_hi hM hW f2
  refine xk_1 ?_
  refine xr_aloadn hc rfl rfl ?_
  refine xr_aloadn hc rfl rfl ?_
  refine xr_iloadn hc rfl rfl ?_
  refine xr_iconst hc rfl ?_
  refine xr_iaddz hc rfl (by first | exact dz_wid (by first | omega | (unfold dz_w; omega)) (by first | omega | (unfold dz_w; omega)) | rfl) ?_
  refine xr_ialoado hc rfl (by first | omega | (unfold dz_w; omega)) (by first | omega | (unfold dz_w; omega)) ?_
  refine xr_aloadn hc rfl rfl ?_
  refine xr_iloadn hc rfl rfl ?_
  refine xr_iconst hc rfl ?_
  refine xr_iaddz hc rfl (by first | exact dz_wid (by first | omega | (unfold dz_w; omega)) (by first | omega | (unfold dz_w; omega)) | rfl) ?_
  refine xr_ialoado hc rfl (by first | omega | (unfold dz_w; omega)) (by first | omega | (unfold dz_w; omega)) ?_
  refine xr_callv2 hc rfl (by first | assumption | rfl) rfl rfl rfl (Nat.le_of_ble_eq_true rfl) (Nat.le_of_ble_eq_true rfl) (Nat.le_of_ble_eq_true rfl) ?_
  refine D_mid (d := 53) hm hM2 hW (fun M3 f3 hM3 => ?_)
  refine xk_1 ?_
  refine xr_icmp_eq hc rfl (t := 1385) rfl (fun b1233 => ?_) (fun b1233 => ?_)
  · refine xr_iincz3 hc rfl rfl (by first | exact dz_wid (by first | omega | (unfold dz_w; omega)) (by first | omega | (unfold dz_w; omega)) | rfl) ?_
    refine xr_goto hc rfl (t := 18) rfl ?_
    exact h _ _ ⟨_, _, _, _, _, _, _, _, _, _, _, _, _, _, _, _, _, hl, hm, (RX_lo hX2 f3), hM3, (WF_any hW)⟩
  · exact absurd rfl b1233
set_option maxRecDepth 100000 in
set_option maxHeartbeats 1000000 in
theorem L_lots {xo : Nat → List Int} {Q : dz_Q} {sh : List (Nat ⊕ (Nat × Nat))} {rf : Nat → Nat → Nat} {M : Nat → Nat → Int} {i : Int} (hx1 : xo 1 = dz_xs1) (hx2 : xo 2 = dz_xs2) (hr : ∀ j, dz_in32 ((xo 0).getD j 0)) (hi : 0 ≤ i) (hL : i + 6 ≤ (xo 0).length) (hN : (xo 0).length ≤ 384) (hI : LI sh rf M) (h : ∀ rf2 M2, LI sh rf2 M2 → dz_X (dz_E dz_pp xo 60) dz_pp xo (dz_pp 220) Q 18 [some (dz_o 0), some (dz_r 0), some (dz_r 115), some (dz_i (i + 6))] [] 130 5989 (sh, rf2, M2)) : dz_X (dz_E dz_pp xo 60) dz_pp xo (dz_pp 220) Q 1238 [some (dz_o 0), some (dz_r 0), some (dz_r 115), some (dz_i i)] [] 130 5989 (sh, rf, M) := by
  have hc := dz_E_m dz_pp xo 60
  obtain ⟨rs, it, ts, ch, tl, up, lo, fn, w, pl, kd, wt, nx, n, hs, kp, kh, hl, hm, hX, hM, hW⟩ := hI
  have c0 := hl.1
  have m0 := hm.1
  refine xr_aloadn hc rfl rfl ?_
  refine xr_aloadn hc rfl rfl ?_
  refine xr_iloadn hc rfl rfl ?_
  refine xr_iconst hc rfl ?_
  refine xr_iaddz hc rfl (by first | exact dz_wid (by first | omega | (unfold dz_w; omega)) (by first | omega | (unfold dz_w; omega)) | rfl) ?_
  refine xr_ialoado hc rfl (by first | omega | (unfold dz_w; omega)) (by first | omega | (unfold dz_w; omega)) ?_
  refine xr_aloadn hc rfl rfl ?_
  refine xr_iloadn hc rfl rfl ?_
  refine xr_iconst hc rfl ?_
  refine xr_iaddz hc rfl (by first | exact dz_wid (by first | omega | (unfold dz_w; omega)) (by first | omega | (unfold dz_w; omega)) | rfl) ?_
  refine xr_ialoado hc rfl (by first | omega | (unfold dz_w; omega)) (by first | omega | (unfold dz_w; omega)) ?_
  refine xr_callv2 hc rfl (by first | assumption | rfl) rfl rfl rfl (Nat.le_of_ble_eq_true rfl) (Nat.le_of_ble_eq_true rfl) (Nat.le_of_ble_eq_true rfl) ?_
  refine X_lots (d := 52) hx2 hl hX hW (fun M2 f2 hX2 => ?_)
  have hM2 := RM_hi hM hW f2
  refine xk_1 ?_
  refine xr_aloadn hc rfl rfl ?_
  refine xr_aloadn hc rfl rfl ?_
  refine xr_iloadn hc rfl rfl ?_
  refine xr_iconst hc rfl ?_
  refine xr_iaddz hc rfl (by first | exact dz_wid (by first | omega | (unfold dz_w; omega)) (by first | omega | (unfold dz_w; omega)) | rfl) ?_
  refine xr_ialoado hc rfl (by first | omega | (unfold dz_w; omega)) (by first | omega | (unfold dz_w; omega)) ?_
  refine xr_aloadn hc rfl rfl ?_
  refine xr_iloadn hc rfl rfl ?_
  refine xr_iconst hc rfl ?_
  refine xr_iaddz hc rfl (by first | exact dz_wid (by first | omega | (unfold dz_w; omega)) (by first | omega | (unfold dz_w; omega)) | rfl) ?_
  refine xr_ialoado hc rfl (by first | omega | (unfold dz_w; omega)) (by first | omega | (unfold dz_w; omega)) ?_
  refine xr_callv2 hc rfl (by first | assumption | rfl) rfl rfl rfl (Nat.le_of_ble_eq_true rfl) (Nat.le_of_ble_eq_true rfl) (Nat.le_of_ble_eq_true rfl) ?_
  refine D_lots (d := 56) hm hM2 hW (fun M3 f3 hM3 => ?_)
  refine xk_1 ?_
  refine xr_icmp_eq hc rfl (t := 1385) rfl (fun b1266 => ?_) (fun b1266 => ?_)
  · refine xr_iincz3 hc rfl rfl (by first | exact dz_wid (by first | omega | (unfold dz_w; omega)) (by first | omega | (unfold dz_w; omega)) | rfl) ?_
    refine xr_goto hc rfl (t := 18) rfl ?_
    exact h _ _ ⟨_, _, _, _, _, _, _, _, _, _, _, _, _, _, _, _, _, hl, hm, (RX_lo hX2 f3), hM3, (WF_lots hW)⟩
  · exact absurd rfl b1266
set_option maxRecDepth 100000 in
set_option maxHeartbeats 1000000 in
theorem L_asked {xo : Nat → List Int} {Q : dz_Q} {sh : List (Nat ⊕ (Nat × Nat))} {rf : Nat → Nat → Nat} {M : Nat → Nat → Int} {i : Int} (hx1 : xo 1 = dz_xs1) (hx2 : xo 2 = dz_xs2) (hr : ∀ j, dz_in32 ((xo 0).getD j 0)) (hi : 0 ≤ i) (hL : i + 6 ≤ (xo 0).length) (hN : (xo 0).length ≤ 384) (hI : LI sh rf M) (h : ∀ rf2 M2, LI sh rf2 M2 → dz_X (dz_E dz_pp xo 60) dz_pp xo (dz_pp 220) Q 18 [some (dz_o 0), some (dz_r 0), some (dz_r 115), some (dz_i (i + 6))] [] 130 5989 (sh, rf2, M2)) : dz_X (dz_E dz_pp xo 60) dz_pp xo (dz_pp 220) Q 1271 [some (dz_o 0), some (dz_r 0), some (dz_r 115), some (dz_i i)] [] 130 5989 (sh, rf, M) := by
  have hc := dz_E_m dz_pp xo 60
  obtain ⟨rs, it, ts, ch, tl, up, lo, fn, w, pl, kd, wt, nx, n, hs, kp, kh, hl, hm, hX, hM, hW⟩ := hI
  have c0 := hl.1
  have m0 := hm.1
  refine xr_aloadn hc rfl rfl ?_
  refine xr_callv0 hc rfl (by first | assumption | rfl) rfl rfl rfl (Nat.le_of_ble_eq_true rfl) (Nat.le_of_ble_eq_true rfl) (Nat.le_of_ble_eq_true rfl) ?_
  refine X_asked (d := 59) hl hX hW ?_
  refine xk_1 ?_
  refine xr_aloadn hc rfl rfl ?_
  refine xr_callv0 hc rfl (by first | assumption | rfl) rfl rfl rfl (Nat.le_of_ble_eq_true rfl) (Nat.le_of_ble_eq_true rfl) (Nat.le_of_ble_eq_true rfl) ?_
  refine D_asked (d := 59) hm hM hW ?_
  refine xk_1 ?_
  refine xr_icmp_eq hc rfl (t := 1385) rfl (fun b1279 => ?_) (fun b1279 => ?_)
  · refine xr_iincz3 hc rfl rfl (by first | exact dz_wid (by first | omega | (unfold dz_w; omega)) (by first | omega | (unfold dz_w; omega)) | rfl) ?_
    refine xr_goto hc rfl (t := 18) rfl ?_
    exact h _ _ ⟨_, _, _, _, _, _, _, _, _, _, _, _, _, _, _, _, _, hl, hm, hX, hM, hW⟩
  · exact absurd rfl b1279
set_option maxRecDepth 100000 in
set_option maxHeartbeats 1000000 in
theorem L_upper {xo : Nat → List Int} {Q : dz_Q} {sh : List (Nat ⊕ (Nat × Nat))} {rf : Nat → Nat → Nat} {M : Nat → Nat → Int} {i : Int} (hx1 : xo 1 = dz_xs1) (hx2 : xo 2 = dz_xs2) (hr : ∀ j, dz_in32 ((xo 0).getD j 0)) (hi : 0 ≤ i) (hL : i + 6 ≤ (xo 0).length) (hN : (xo 0).length ≤ 384) (hI : LI sh rf M) (h : ∀ rf2 M2, LI sh rf2 M2 → dz_X (dz_E dz_pp xo 60) dz_pp xo (dz_pp 220) Q 18 [some (dz_o 0), some (dz_r 0), some (dz_r 115), some (dz_i (i + 6))] [] 130 5989 (sh, rf2, M2)) : dz_X (dz_E dz_pp xo 60) dz_pp xo (dz_pp 220) Q 1284 [some (dz_o 0), some (dz_r 0), some (dz_r 115), some (dz_i i)] [] 130 5989 (sh, rf, M) := by
  have hc := dz_E_m dz_pp xo 60
  obtain ⟨rs, it, ts, ch, tl, up, lo, fn, w, pl, kd, wt, nx, n, hs, kp, kh, hl, hm, hX, hM, hW⟩ := hI
  have c0 := hl.1
  have m0 := hm.1
  refine xr_aloadn hc rfl rfl ?_
  refine xr_callv0 hc rfl (by first | assumption | rfl) rfl rfl rfl (Nat.le_of_ble_eq_true rfl) (Nat.le_of_ble_eq_true rfl) (Nat.le_of_ble_eq_true rfl) ?_
  refine X_upper (d := 59) hl hX hW ?_
  refine xk_1 ?_
  refine xr_aloadn hc rfl rfl ?_
  refine xr_callv0 hc rfl (by first | assumption | rfl) rfl rfl rfl (Nat.le_of_ble_eq_true rfl) (Nat.le_of_ble_eq_true rfl) (Nat.le_of_ble_eq_true rfl) ?_
  refine D_upper (d := 59) hm hM hW ?_
  refine xk_1 ?_
  refine xr_lcmp hc rfl ?_
  refine xr_if_eq hc rfl (t := 1385) rfl (fun b1293 => ?_) (fun b1293 => ?_)
  · refine xr_iincz3 hc rfl rfl (by first | exact dz_wid (by first | omega | (unfold dz_w; omega)) (by first | omega | (unfold dz_w; omega)) | rfl) ?_
    refine xr_goto hc rfl (t := 18) rfl ?_
    exact h _ _ ⟨_, _, _, _, _, _, _, _, _, _, _, _, _, _, _, _, _, hl, hm, hX, hM, hW⟩
  · exact absurd (show dz_lcmp _ _ = 0 by unfold dz_lcmp; rw [if_neg (Int.lt_irrefl _), if_pos rfl]) b1293
set_option maxRecDepth 100000 in
set_option maxHeartbeats 1000000 in
theorem L_lower {xo : Nat → List Int} {Q : dz_Q} {sh : List (Nat ⊕ (Nat × Nat))} {rf : Nat → Nat → Nat} {M : Nat → Nat → Int} {i : Int} (hx1 : xo 1 = dz_xs1) (hx2 : xo 2 = dz_xs2) (hr : ∀ j, dz_in32 ((xo 0).getD j 0)) (hi : 0 ≤ i) (hL : i + 6 ≤ (xo 0).length) (hN : (xo 0).length ≤ 384) (hI : LI sh rf M) (h : ∀ rf2 M2, LI sh rf2 M2 → dz_X (dz_E dz_pp xo 60) dz_pp xo (dz_pp 220) Q 18 [some (dz_o 0), some (dz_r 0), some (dz_r 115), some (dz_i (i + 6))] [] 130 5989 (sh, rf2, M2)) : dz_X (dz_E dz_pp xo 60) dz_pp xo (dz_pp 220) Q 1298 [some (dz_o 0), some (dz_r 0), some (dz_r 115), some (dz_i i)] [] 130 5989 (sh, rf, M) := by
  have hc := dz_E_m dz_pp xo 60
  obtain ⟨rs, it, ts, ch, tl, up, lo, fn, w, pl, kd, wt, nx, n, hs, kp, kh, hl, hm, hX, hM, hW⟩ := hI
  have c0 := hl.1
  have m0 := hm.1
  refine xr_aloadn hc rfl rfl ?_
  refine xr_callv0 hc rfl (by first | assumption | rfl) rfl rfl rfl (Nat.le_of_ble_eq_true rfl) (Nat.le_of_ble_eq_true rfl) (Nat.le_of_ble_eq_true rfl) ?_
  refine X_lower (d := 59) hl hX hW ?_
  refine xk_1 ?_
  refine xr_aloadn hc rfl rfl ?_
  refine xr_callv0 hc rfl (by first | assumption | rfl) rfl rfl rfl (Nat.le_of_ble_eq_true rfl) (Nat.le_of_ble_eq_true rfl) (Nat.le_of_ble_eq_true rfl) ?_
  refine D_lower (d := 59) hm hM hW ?_
  refine xk_1 ?_
  refine xr_lcmp hc rfl ?_
  refine xr_if_eq hc rfl (t := 1385) rfl (fun b1307 => ?_) (fun b1307 => ?_)
  · refine xr_iincz3 hc rfl rfl (by first | exact dz_wid (by first | omega | (unfold dz_w; omega)) (by first | omega | (unfold dz_w; omega)) | rfl) ?_
    refine xr_goto hc rfl (t := 18) rfl ?_
    exact h _ _ ⟨_, _, _, _, _, _, _, _, _, _, _, _, _, _, _, _, _, hl, hm, hX, hM, hW⟩
  · exact absurd (show dz_lcmp _ _ = 0 by unfold dz_lcmp; rw [if_neg (Int.lt_irrefl _), if_pos rfl]) b1307
set_option maxRecDepth 100000 in
set_option maxHeartbeats 1000000 in
theorem L_count {xo : Nat → List Int} {Q : dz_Q} {sh : List (Nat ⊕ (Nat × Nat))} {rf : Nat → Nat → Nat} {M : Nat → Nat → Int} {i : Int} (hx1 : xo 1 = dz_xs1) (hx2 : xo 2 = dz_xs2) (hr : ∀ j, dz_in32 ((xo 0).getD j 0)) (hi : 0 ≤ i) (hL : i + 6 ≤ (xo 0).length) (hN : (xo 0).length ≤ 384) (hI : LI sh rf M) (h : ∀ rf2 M2, LI sh rf2 M2 → dz_X (dz_E dz_pp xo 60) dz_pp xo (dz_pp 220) Q 18 [some (dz_o 0), some (dz_r 0), some (dz_r 115), some (dz_i (i + 6))] [] 130 5989 (sh, rf2, M2)) : dz_X (dz_E dz_pp xo 60) dz_pp xo (dz_pp 220) Q 1312 [some (dz_o 0), some (dz_r 0), some (dz_r 115), some (dz_i i)] [] 130 5989 (sh, rf, M) := by
  have hc := dz_E_m dz_pp xo 60
  obtain ⟨rs, it, ts, ch, tl, up, lo, fn, w, pl, kd, wt, nx, n, hs, kp, kh, hl, hm, hX, hM, hW⟩ := hI
  have c0 := hl.1
  have m0 := hm.1
  refine xr_aloadn hc rfl rfl ?_
  refine xr_aloadn hc rfl rfl ?_
  refine xr_iloadn hc rfl rfl ?_
  refine xr_iconst hc rfl ?_
  refine xr_iaddz hc rfl (by first | exact dz_wid (by first | omega | (unfold dz_w; omega)) (by first | omega | (unfold dz_w; omega)) | rfl) ?_
  refine xr_ialoado hc rfl (by first | omega | (unfold dz_w; omega)) (by first | omega | (unfold dz_w; omega)) ?_
  refine xr_callv1 hc rfl (by first | assumption | rfl) rfl rfl rfl (Nat.le_of_ble_eq_true rfl) (Nat.le_of_ble_eq_true rfl) (Nat.le_of_ble_eq_true rfl) ?_
  refine X_count (d := 56) hx2 hl hX hW ?_
  refine xk_1 ?_
  refine xr_aloadn hc rfl rfl ?_
  refine xr_aloadn hc rfl rfl ?_
  refine xr_iloadn hc rfl rfl ?_
  refine xr_iconst hc rfl ?_
  refine xr_iaddz hc rfl (by first | exact dz_wid (by first | omega | (unfold dz_w; omega)) (by first | omega | (unfold dz_w; omega)) | rfl) ?_
  refine xr_ialoado hc rfl (by first | omega | (unfold dz_w; omega)) (by first | omega | (unfold dz_w; omega)) ?_
  refine xr_callv1 hc rfl (by first | assumption | rfl) rfl rfl rfl (Nat.le_of_ble_eq_true rfl) (Nat.le_of_ble_eq_true rfl) (Nat.le_of_ble_eq_true rfl) ?_
  refine D_count (d := 56) hm hM hW ?_
  refine xk_1 ?_
  refine xr_icmp_eq hc rfl (t := 1385) rfl (fun b1330 => ?_) (fun b1330 => ?_)
  · refine xr_iincz3 hc rfl rfl (by first | exact dz_wid (by first | omega | (unfold dz_w; omega)) (by first | omega | (unfold dz_w; omega)) | rfl) ?_
    refine xr_goto hc rfl (t := 18) rfl ?_
    exact h _ _ ⟨_, _, _, _, _, _, _, _, _, _, _, _, _, _, _, _, _, hl, hm, hX, hM, hW⟩
  · exact absurd rfl b1330
set_option maxRecDepth 100000 in
set_option maxHeartbeats 1000000 in
theorem L_finding {xo : Nat → List Int} {Q : dz_Q} {sh : List (Nat ⊕ (Nat × Nat))} {rf : Nat → Nat → Nat} {M : Nat → Nat → Int} {i : Int} (hx1 : xo 1 = dz_xs1) (hx2 : xo 2 = dz_xs2) (hr : ∀ j, dz_in32 ((xo 0).getD j 0)) (hi : 0 ≤ i) (hL : i + 6 ≤ (xo 0).length) (hN : (xo 0).length ≤ 384) (hI : LI sh rf M) (h : ∀ rf2 M2, LI sh rf2 M2 → dz_X (dz_E dz_pp xo 60) dz_pp xo (dz_pp 220) Q 18 [some (dz_o 0), some (dz_r 0), some (dz_r 115), some (dz_i (i + 6))] [] 130 5989 (sh, rf2, M2)) : dz_X (dz_E dz_pp xo 60) dz_pp xo (dz_pp 220) Q 1335 [some (dz_o 0), some (dz_r 0), some (dz_r 115), some (dz_i i)] [] 130 5989 (sh, rf, M) := by
  have hc := dz_E_m dz_pp xo 60
  obtain ⟨rs, it, ts, ch, tl, up, lo, fn, w, pl, kd, wt, nx, n, hs, kp, kh, hl, hm, hX, hM, hW⟩ := hI
  have c0 := hl.1
  have m0 := hm.1
  refine xr_aloadn hc rfl rfl ?_
  refine xr_callv0 hc rfl (by first | assumption | rfl) rfl rfl rfl (Nat.le_of_ble_eq_true rfl) (Nat.le_of_ble_eq_true rfl) (Nat.le_of_ble_eq_true rfl) ?_
  refine X_finding (d := 59) hl hX hW ?_
  refine xk_1 ?_
  refine xr_aloadn hc rfl rfl ?_
  refine xr_callv0 hc rfl (by first | assumption | rfl) rfl rfl rfl (Nat.le_of_ble_eq_true rfl) (Nat.le_of_ble_eq_true rfl) (Nat.le_of_ble_eq_true rfl) ?_
  refine D_finding (d := 59) hm hM hW ?_
  refine xk_1 ?_
  refine xr_icmp_eq hc rfl (t := 1385) rfl (fun b1343 => ?_) (fun b1343 => ?_)
  · refine xr_iincz3 hc rfl rfl (by first | exact dz_wid (by first | omega | (unfold dz_w; omega)) (by first | omega | (unfold dz_w; omega)) | rfl) ?_
    refine xr_goto hc rfl (t := 18) rfl ?_
    exact h _ _ ⟨_, _, _, _, _, _, _, _, _, _, _, _, _, _, _, _, _, hl, hm, hX, hM, hW⟩
  · exact absurd rfl b1343
set_option maxRecDepth 100000 in
set_option maxHeartbeats 1000000 in
theorem L_findings {xo : Nat → List Int} {Q : dz_Q} {sh : List (Nat ⊕ (Nat × Nat))} {rf : Nat → Nat → Nat} {M : Nat → Nat → Int} {i : Int} (hx1 : xo 1 = dz_xs1) (hx2 : xo 2 = dz_xs2) (hr : ∀ j, dz_in32 ((xo 0).getD j 0)) (hi : 0 ≤ i) (hL : i + 6 ≤ (xo 0).length) (hN : (xo 0).length ≤ 384) (hI : LI sh rf M) (h : ∀ rf2 M2, LI sh rf2 M2 → dz_X (dz_E dz_pp xo 60) dz_pp xo (dz_pp 220) Q 18 [some (dz_o 0), some (dz_r 0), some (dz_r 115), some (dz_i (i + 6))] [] 130 5989 (sh, rf2, M2)) : dz_X (dz_E dz_pp xo 60) dz_pp xo (dz_pp 220) Q 1348 [some (dz_o 0), some (dz_r 0), some (dz_r 115), some (dz_i i)] [] 130 5989 (sh, rf, M) := by
  have hc := dz_E_m dz_pp xo 60
  obtain ⟨rs, it, ts, ch, tl, up, lo, fn, w, pl, kd, wt, nx, n, hs, kp, kh, hl, hm, hX, hM, hW⟩ := hI
  have c0 := hl.1
  have m0 := hm.1
  refine xr_aloadn hc rfl rfl ?_
  refine xr_aloadn hc rfl rfl ?_
  refine xr_iloadn hc rfl rfl ?_
  refine xr_iconst hc rfl ?_
  refine xr_iaddz hc rfl (by first | exact dz_wid (by first | omega | (unfold dz_w; omega)) (by first | omega | (unfold dz_w; omega)) | rfl) ?_
  refine xr_ialoado hc rfl (by first | omega | (unfold dz_w; omega)) (by first | omega | (unfold dz_w; omega)) ?_
  refine xr_callv1 hc rfl (by first | assumption | rfl) rfl rfl rfl (Nat.le_of_ble_eq_true rfl) (Nat.le_of_ble_eq_true rfl) (Nat.le_of_ble_eq_true rfl) ?_
  refine X_findings (d := 58) hl hX hW ?_
  refine xk_1 ?_
  refine xr_aloadn hc rfl rfl ?_
  refine xr_aloadn hc rfl rfl ?_
  refine xr_iloadn hc rfl rfl ?_
  refine xr_iconst hc rfl ?_
  refine xr_iaddz hc rfl (by first | exact dz_wid (by first | omega | (unfold dz_w; omega)) (by first | omega | (unfold dz_w; omega)) | rfl) ?_
  refine xr_ialoado hc rfl (by first | omega | (unfold dz_w; omega)) (by first | omega | (unfold dz_w; omega)) ?_
  refine xr_callv1 hc rfl (by first | assumption | rfl) rfl rfl rfl (Nat.le_of_ble_eq_true rfl) (Nat.le_of_ble_eq_true rfl) (Nat.le_of_ble_eq_true rfl) ?_
  refine D_findings (d := 58) hm hM hW ?_
  refine xk_1 ?_
  refine xr_icmp_eq hc rfl (t := 1385) rfl (fun b1366 => ?_) (fun b1366 => ?_)
  · refine xr_iincz3 hc rfl rfl (by first | exact dz_wid (by first | omega | (unfold dz_w; omega)) (by first | omega | (unfold dz_w; omega)) | rfl) ?_
    refine xr_goto hc rfl (t := 18) rfl ?_
    exact h _ _ ⟨_, _, _, _, _, _, _, _, _, _, _, _, _, _, _, _, _, hl, hm, hX, hM, hW⟩
  · exact absurd rfl b1366
set_option maxRecDepth 100000 in
set_option maxHeartbeats 1000000 in
theorem L_digest {xo : Nat → List Int} {Q : dz_Q} {sh : List (Nat ⊕ (Nat × Nat))} {rf : Nat → Nat → Nat} {M : Nat → Nat → Int} {i : Int} (hx1 : xo 1 = dz_xs1) (hx2 : xo 2 = dz_xs2) (hr : ∀ j, dz_in32 ((xo 0).getD j 0)) (hi : 0 ≤ i) (hL : i + 6 ≤ (xo 0).length) (hN : (xo 0).length ≤ 384) (hI : LI sh rf M) (h : ∀ rf2 M2, LI sh rf2 M2 → dz_X (dz_E dz_pp xo 60) dz_pp xo (dz_pp 220) Q 18 [some (dz_o 0), some (dz_r 0), some (dz_r 115), some (dz_i (i + 6))] [] 130 5989 (sh, rf2, M2)) : dz_X (dz_E dz_pp xo 60) dz_pp xo (dz_pp 220) Q 1371 [some (dz_o 0), some (dz_r 0), some (dz_r 115), some (dz_i i)] [] 130 5989 (sh, rf, M) := by
  have hc := dz_E_m dz_pp xo 60
  obtain ⟨rs, it, ts, ch, tl, up, lo, fn, w, pl, kd, wt, nx, n, hs, kp, kh, hl, hm, hX, hM, hW⟩ := hI
  have c0 := hl.1
  have m0 := hm.1
  refine xr_aloadn hc rfl rfl ?_
  refine xr_callv0 hc rfl (by first | assumption | rfl) rfl rfl rfl (Nat.le_of_ble_eq_true rfl) (Nat.le_of_ble_eq_true rfl) (Nat.le_of_ble_eq_true rfl) ?_
  refine X_digest (d := 55) hx2 hl hX hW ?_
  refine xk_1 ?_
  refine xr_aloadn hc rfl rfl ?_
  refine xr_callv0 hc rfl (by first | assumption | rfl) rfl rfl rfl (Nat.le_of_ble_eq_true rfl) (Nat.le_of_ble_eq_true rfl) (Nat.le_of_ble_eq_true rfl) ?_
  refine D_digest (d := 55) hm hM hW ?_
  refine xk_1 ?_
  refine xr_lcmp hc rfl ?_
  refine xr_if_eq hc rfl (t := 1385) rfl (fun b1380 => ?_) (fun b1380 => ?_)
  · refine xr_iincz3 hc rfl rfl (by first | exact dz_wid (by first | omega | (unfold dz_w; omega)) (by first | omega | (unfold dz_w; omega)) | rfl) ?_
    refine xr_goto hc rfl (t := 18) rfl ?_
    exact h _ _ ⟨_, _, _, _, _, _, _, _, _, _, _, _, _, _, _, _, _, hl, hm, hX, hM, hW⟩
  · exact absurd (show dz_lcmp _ _ = 0 by unfold dz_lcmp; rw [if_neg (Int.lt_irrefl _), if_pos rfl]) b1380
