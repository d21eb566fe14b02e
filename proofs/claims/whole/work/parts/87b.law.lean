/-! The law, call by call. Written by l2_87.py. -/
set_option maxRecDepth 100000 in
set_option maxHeartbeats 1000000 in
theorem L_move {xo : Nat → List Int} {Q : dz_Q} {sh : List (Nat ⊕ (Nat × Nat))} {rf : Nat → Nat → Nat} {M : Nat → Nat → Int} {i : Int} (hx1 : xo 1 = dz_xs1) (hx2 : xo 2 = dz_xs2) (hr : ∀ j, dz_in32 ((xo 0).getD j 0)) (hi : 0 ≤ i) (hL : i + 6 ≤ (xo 0).length) (hN : (xo 0).length ≤ 384) (hI : LI sh rf M) (h : ∀ rf2 M2, LI sh rf2 M2 → dz_X (dz_E dz_pp xo 60) dz_pp xo (dz_pp 220) Q 18 [some (dz_o 0), some (dz_r 0), some (dz_r 115), some (dz_i (i + 6))] [] 130 5989 (sh, rf2, M2)) : dz_X (dz_E dz_pp xo 60) dz_pp xo (dz_pp 220) Q 668 [some (dz_o 0), some (dz_r 0), some (dz_r 115), some (dz_i i)] [] 130 5989 (sh, rf, M) := by
  have hc := dz_E_m dz_pp xo 60
  obtain ⟨rs, it, ts, ch, tl, up, lo, fn, w, pl, kd, wt, nx, n, hs, kp, kh, hl, hm, hX, hM, hW⟩ := hI
  have c0 := hl.1
  have m0 := hm.1
  refine xr_aloadn hc rfl rfl ?_
  refine xr_aloadn hc rfl rfl ?_
  refine xr_iloadn hc rfl rfl ?_
  refine xr_iconst hc rfl ?_
  refine xr_iaddz hc rfl (by first | exact dz_wid (by first | omega | (unfold dz_w; omega)) (by first | omega | (unfold dz_w; omega)) | rfl) ?_
  refine xr_ialoado hc rfl (by first | omega | (unfold dz_w; omega)) (by first | omega | (unfold dz_w; omega)) ?_
  refine xr_aloadn hc rfl rfl ?_
  refine xr_iloadn hc rfl rfl ?_
  refine xr_iconst hc rfl ?_
  refine xr_iaddz hc rfl (by first | exact dz_wid (by first | omega | (unfold dz_w; omega)) (by first | omega | (unfold dz_w; omega)) | rfl) ?_
  refine xr_ialoado hc rfl (by first | omega | (unfold dz_w; omega)) (by first | omega | (unfold dz_w; omega)) ?_
  refine xr_callv2 hc rfl (by first | assumption | rfl) rfl rfl rfl (Nat.le_of_ble_eq_true rfl) (Nat.le_of_ble_eq_true rfl) (Nat.le_of_ble_eq_true rfl) ?_
  refine X_move (d := 53) hx2 hl hX hW (fun M2 f2 hX2 => ?_)
  have hM2 := RM_hi hM hW f2
  refine xk_1 ?_
  refine xr_aloadn hc rfl rfl ?_
  refine xr_aloadn hc rfl rfl ?_
  refine xr_iloadn hc rfl rfl ?_
  refine xr_iconst hc rfl ?_
  refine xr_iaddz hc rfl (by first | exact dz_wid (by first | omega | (unfold dz_w; omega)) (by first | omega | (unfold dz_w; omega)) | rfl) ?_
  refine xr_ialoado hc rfl (by first | omega | (unfold dz_w; omega)) (by first | omega | (unfold dz_w; omega)) ?_
  refine xr_aloadn hc rfl rfl ?_
  refine xr_iloadn hc rfl rfl ?_
  refine xr_iconst hc rfl ?_
  refine xr_iaddz hc rfl (by first | exact dz_wid (by first | omega | (unfold dz_w; omega)) (by first | omega | (unfold dz_w; omega)) | rfl) ?_
  refine xr_ialoado hc rfl (by first | omega | (unfold dz_w; omega)) (by first | omega | (unfold dz_w; omega)) ?_
  refine xr_callv2 hc rfl (by first | assumption | rfl) rfl rfl rfl (Nat.le_of_ble_eq_true rfl) (Nat.le_of_ble_eq_true rfl) (Nat.le_of_ble_eq_true rfl) ?_
  refine D_move (d := 57) hm hM2 hW (fun M3 f3 hM3 => ?_)
  refine xk_1 ?_
  refine xr_icmp_eq hc rfl (t := 1385) rfl (fun b696 => ?_) (fun b696 => ?_)
  · refine xr_iincz3 hc rfl rfl (by first | exact dz_wid (by first | omega | (unfold dz_w; omega)) (by first | omega | (unfold dz_w; omega)) | rfl) ?_
    refine xr_goto hc rfl (t := 18) rfl ?_
    exact h _ _ ⟨_, _, _, _, _, _, _, _, _, _, _, _, _, _, _, _, _, hl, hm, (RX_lo hX2 f3), hM3, (WF_move hW)⟩
  · exact absurd rfl b696
set_option maxRecDepth 100000 in
set_option maxHeartbeats 1000000 in
theorem L_swap {xo : Nat → List Int} {Q : dz_Q} {sh : List (Nat ⊕ (Nat × Nat))} {rf : Nat → Nat → Nat} {M : Nat → Nat → Int} {i : Int} (hx1 : xo 1 = dz_xs1) (hx2 : xo 2 = dz_xs2) (hr : ∀ j, dz_in32 ((xo 0).getD j 0)) (hi : 0 ≤ i) (hL : i + 6 ≤ (xo 0).length) (hN : (xo 0).length ≤ 384) (hI : LI sh rf M) (h : ∀ rf2 M2, LI sh rf2 M2 → dz_X (dz_E dz_pp xo 60) dz_pp xo (dz_pp 220) Q 18 [some (dz_o 0), some (dz_r 0), some (dz_r 115), some (dz_i (i + 6))] [] 130 5989 (sh, rf2, M2)) : dz_X (dz_E dz_pp xo 60) dz_pp xo (dz_pp 220) Q 701 [some (dz_o 0), some (dz_r 0), some (dz_r 115), some (dz_i i)] [] 130 5989 (sh, rf, M) := by
  have hc := dz_E_m dz_pp xo 60
  obtain ⟨rs, it, ts, ch, tl, up, lo, fn, w, pl, kd, wt, nx, n, hs, kp, kh, hl, hm, hX, hM, hW⟩ := hI
  have c0 := hl.1
  have m0 := hm.1
  refine xr_aloadn hc rfl rfl ?_
  refine xr_aloadn hc rfl rfl ?_
  refine xr_iloadn hc rfl rfl ?_
  refine xr_iconst hc rfl ?_
  refine xr_iaddz hc rfl (by first | exact dz_wid (by first | omega | (unfold dz_w; omega)) (by first | omega | (unfold dz_w; omega)) | rfl) ?_
  refine xr_ialoado hc rfl (by first | omega | (unfold dz_w; omega)) (by first | omega | (unfold dz_w; omega)) ?_
  refine xr_aloadn hc rfl rfl ?_
  refine xr_iloadn hc rfl rfl ?_
  refine xr_iconst hc rfl ?_
  refine xr_iaddz hc rfl (by first | exact dz_wid (by first | omega | (unfold dz_w; omega)) (by first | omega | (unfold dz_w; omega)) | rfl) ?_
  refine xr_ialoado hc rfl (by first | omega | (unfold dz_w; omega)) (by first | omega | (unfold dz_w; omega)) ?_
  refine xr_callv2 hc rfl (by first | assumption | rfl) rfl rfl rfl (Nat.le_of_ble_eq_true rfl) (Nat.le_of_ble_eq_true rfl) (Nat.le_of_ble_eq_true rfl) ?_
  refine X_swap (d := 53) hx2 hl hX hW (fun M2 f2 hX2 => ?_)
  have hM2 := RM_hi hM hW f2
  refine xk_1 ?_
  refine xr_aloadn hc rfl rfl ?_
  refine xr_aloadn hc rfl rfl ?_
  refine xr_iloadn hc rfl rfl ?_
  refine xr_iconst hc rfl ?_
  refine xr_iaddz hc rfl (by first | exact dz_wid (by first | omega | (unfold dz_w; omega)) (by first | omega | (unfold dz_w; omega)) | rfl) ?_
  refine xr_ialoado hc rfl (by first | omega | (unfold dz_w; omega)) (by first | omega | (unfold dz_w; omega)) ?_
  refine xr_aloadn hc rfl rfl ?_
  refine xr_iloadn hc rfl rfl ?_
  refine xr_iconst hc rfl ?_
  refine xr_iaddz hc rfl (by first | exact dz_wid (by first | omega | (unfold dz_w; omega)) (by first | omega | (unfold dz_w; omega)) | rfl) ?_
  refine xr_ialoado hc rfl (by first | omega | (unfold dz_w; omega)) (by first | omega | (unfold dz_w; omega)) ?_
  refine xr_callv2 hc rfl (by first | assumption | rfl) rfl rfl rfl (Nat.le_of_ble_eq_true rfl) (Nat.le_of_ble_eq_true rfl) (Nat.le_of_ble_eq_true rfl) ?_
  refine D_swap (d := 57) hm hM2 hW (fun M3 f3 hM3 => ?_)
  refine xk_1 ?_
  refine xr_icmp_eq hc rfl (t := 1385) rfl (fun b729 => ?_) (fun b729 => ?_)
  · refine xr_iincz3 hc rfl rfl (by first | exact dz_wid (by first | omega | (unfold dz_w; omega)) (by first | omega | (unfold dz_w; omega)) | rfl) ?_
    refine xr_goto hc rfl (t := 18) rfl ?_
    exact h _ _ ⟨_, _, _, _, _, _, _, _, _, _, _, _, _, _, _, _, _, hl, hm, (RX_lo hX2 f3), hM3, (WF_swap hW)⟩
  · exact absurd rfl b729
set_option maxRecDepth 100000 in
set_option maxHeartbeats 1000000 in
theorem L_value {xo : Nat → List Int} {Q : dz_Q} {sh : List (Nat ⊕ (Nat × Nat))} {rf : Nat → Nat → Nat} {M : Nat → Nat → Int} {i : Int} (hx1 : xo 1 = dz_xs1) (hx2 : xo 2 = dz_xs2) (hr : ∀ j, dz_in32 ((xo 0).getD j 0)) (hi : 0 ≤ i) (hL : i + 6 ≤ (xo 0).length) (hN : (xo 0).length ≤ 384) (hI : LI sh rf M) (h : ∀ rf2 M2, LI sh rf2 M2 → dz_X (dz_E dz_pp xo 60) dz_pp xo (dz_pp 220) Q 18 [some (dz_o 0), some (dz_r 0), some (dz_r 115), some (dz_i (i + 6))] [] 130 5989 (sh, rf2, M2)) : dz_X (dz_E dz_pp xo 60) dz_pp xo (dz_pp 220) Q 734 [some (dz_o 0), some (dz_r 0), some (dz_r 115), some (dz_i i)] [] 130 5989 (sh, rf, M) := by
  have hc := dz_E_m dz_pp xo 60
  obtain ⟨rs, it, ts, ch, tl, up, lo, fn, w, pl, kd, wt, nx, n, hs, kp, kh, hl, hm, hX, hM, hW⟩ := hI
  have c0 := hl.1
  have m0 := hm.1
  refine xr_aloadn hc rfl rfl ?_
  refine xr_aloadn hc rfl rfl ?_
  refine xr_iloadn hc rfl rfl ?_
  refine xr_iconst hc rfl ?_
  refine xr_iaddz hc rfl (by first | exact dz_wid (by first | omega | (unfold dz_w; omega)) (by first | omega | (unfold dz_w; omega)) | rfl) ?_
  refine xr_ialoado hc rfl (by first | omega | (unfold dz_w; omega)) (by first | omega | (unfold dz_w; omega)) ?_
  refine xr_aloadn hc rfl rfl ?_
  refine xr_iloadn hc rfl rfl ?_
  refine xr_iconst hc rfl ?_
  refine xr_iaddz hc rfl (by first | exact dz_wid (by first | omega | (unfold dz_w; omega)) (by first | omega | (unfold dz_w; omega)) | rfl) ?_
  refine xr_ialoado hc rfl (by first | omega | (unfold dz_w; omega)) (by first | omega | (unfold dz_w; omega)) ?_
  refine xr_callv2 hc rfl (by first | assumption | rfl) rfl rfl rfl (Nat.le_of_ble_eq_true rfl) (Nat.le_of_ble_eq_true rfl) (Nat.le_of_ble_eq_true rfl) ?_
  refine X_value (d := 53) hx2 hl hX hW (fun M2 f2 hX2 => ?_)
  have hM2 := RM_hi hM hW f2
  refine xk_1 ?_
  refine xr_aloadn hc rfl rfl ?_
  refine xr_aloadn hc rfl rfl ?_
  refine xr_iloadn hc rfl rfl ?_
  refine xr_iconst hc rfl ?_
  refine xr_iaddz hc rfl (by first | exact dz_wid (by first | omega | (unfold dz_w; omega)) (by first | omega | (unfold dz_w; omega)) | rfl) ?_
  refine xr_ialoado hc rfl (by first | omega | (unfold dz_w; omega)) (by first | omega | (unfold dz_w; omega)) ?_
  refine xr_aloadn hc rfl rfl ?_
  refine xr_iloadn hc rfl rfl ?_
  refine xr_iconst hc rfl ?_
  refine xr_iaddz hc rfl (by first | exact dz_wid (by first | omega | (unfold dz_w; omega)) (by first | omega | (unfold dz_w; omega)) | rfl) ?_
  refine xr_ialoado hc rfl (by first | omega | (unfold dz_w; omega)) (by first | omega | (unfold dz_w; omega)) ?_
  refine xr_callv2 hc rfl (by first | assumption | rfl) rfl rfl rfl (Nat.le_of_ble_eq_true rfl) (Nat.le_of_ble_eq_true rfl) (Nat.le_of_ble_eq_true rfl) ?_
  refine D_value (d := 57) hm hM2 hW (fun M3 f3 hM3 => ?_)
  refine xk_1 ?_
  refine xr_icmp_eq hc rfl (t := 1385) rfl (fun b762 => ?_) (fun b762 => ?_)
  · refine xr_iincz3 hc rfl rfl (by first | exact dz_wid (by first | omega | (unfold dz_w; omega)) (by first | omega | (unfold dz_w; omega)) | rfl) ?_
    refine xr_goto hc rfl (t := 18) rfl ?_
    exact h _ _ ⟨_, _, _, _, _, _, _, _, _, _, _, _, _, _, _, _, _, hl, hm, (RX_lo hX2 f3), hM3, (WF_value hW)⟩
  · exact absurd rfl b762
set_option maxRecDepth 100000 in
set_option maxHeartbeats 1000000 in
theorem L_undo {xo : Nat → List Int} {Q : dz_Q} {sh : List (Nat ⊕ (Nat × Nat))} {rf : Nat → Nat → Nat} {M : Nat → Nat → Int} {i : Int} (hx1 : xo 1 = dz_xs1) (hx2 : xo 2 = dz_xs2) (hr : ∀ j, dz_in32 ((xo 0).getD j 0)) (hi : 0 ≤ i) (hL : i + 6 ≤ (xo 0).length) (hN : (xo 0).length ≤ 384) (hI : LI sh rf M) (h : ∀ rf2 M2, LI sh rf2 M2 → dz_X (dz_E dz_pp xo 60) dz_pp xo (dz_pp 220) Q 18 [some (dz_o 0), some (dz_r 0), some (dz_r 115), some (dz_i (i + 6))] [] 130 5989 (sh, rf2, M2)) : dz_X (dz_E dz_pp xo 60) dz_pp xo (dz_pp 220) Q 767 [some (dz_o 0), some (dz_r 0), some (dz_r 115), some (dz_i i)] [] 130 5989 (sh, rf, M) := by
  have hc := dz_E_m dz_pp xo 60
  obtain ⟨rs, it, ts, ch, tl, up, lo, fn, w, pl, kd, wt, nx, n, hs, kp, kh, hl, hm, hX, hM, hW⟩ := hI
  have c0 := hl.1
  have m0 := hm.1
  refine xr_aloadn hc rfl rfl ?_
  refine xr_aloadn hc rfl rfl ?_
  refine xr_iloadn hc rfl rfl ?_
  refine xr_iconst hc rfl ?_
  refine xr_iaddz hc rfl (by first | exact dz_wid (by first | omega | (unfold dz_w; omega)) (by first | omega | (unfold dz_w; omega)) | rfl) ?_
  refine xr_ialoado hc rfl (by first | omega | (unfold dz_w; omega)) (by first | omega | (unfold dz_w; omega)) ?_
  refine xr_callv1 hc rfl (by first | assumption | rfl) rfl rfl rfl (Nat.le_of_ble_eq_true rfl) (Nat.le_of_ble_eq_true rfl) (Nat.le_of_ble_eq_true rfl) ?_
  refine X_undo (d := 53) hx2 hl hX hW (fun M2 f2 hX2 => ?_)
  have hM2 := RM_hi hM hW f2
  refine xk_1 ?_
  refine xr_aloadn hc rfl rfl ?_
  refine xr_aloadn hc rfl rfl ?_
  refine xr_iloadn hc rfl rfl ?_
  refine xr_iconst hc rfl ?_
  refine xr_iaddz hc rfl (by first | exact dz_wid (by first | omega | (unfold dz_w; omega)) (by first | omega | (unfold dz_w; omega)) | rfl) ?_
  refine xr_ialoado hc rfl (by first | omega | (unfold dz_w; omega)) (by first | omega | (unfold dz_w; omega)) ?_
  refine xr_callv1 hc rfl (by first | assumption | rfl) rfl rfl rfl (Nat.le_of_ble_eq_true rfl) (Nat.le_of_ble_eq_true rfl) (Nat.le_of_ble_eq_true rfl) ?_
  refine D_undo (d := 57) hm hM2 hW (fun M3 f3 hM3 => ?_)
  refine xk_1 ?_
  refine xr_icmp_eq hc rfl (t := 1385) rfl (fun b785 => ?_) (fun b785 => ?_)
  · refine xr_iincz3 hc rfl rfl (by first | exact dz_wid (by first | omega | (unfold dz_w; omega)) (by first | omega | (unfold dz_w; omega)) | rfl) ?_
    refine xr_goto hc rfl (t := 18) rfl ?_
    exact h _ _ ⟨_, _, _, _, _, _, _, _, _, _, _, _, _, _, _, _, _, hl, hm, (RX_lo hX2 f3), hM3, (WF_undo hW)⟩
  · exact absurd rfl b785
set_option maxRecDepth 100000 in
set_option maxHeartbeats 1000000 in
theorem L_keep {xo : Nat → List Int} {Q : dz_Q} {sh : List (Nat ⊕ (Nat × Nat))} {rf : Nat → Nat → Nat} {M : Nat → Nat → Int} {i : Int} (hx1 : xo 1 = dz_xs1) (hx2 : xo 2 = dz_xs2) (hr : ∀ j, dz_in32 ((xo 0).getD j 0)) (hi : 0 ≤ i) (hL : i + 6 ≤ (xo 0).length) (hN : (xo 0).length ≤ 384) (hI : LI sh rf M) (h : ∀ rf2 M2, LI sh rf2 M2 → dz_X (dz_E dz_pp xo 60) dz_pp xo (dz_pp 220) Q 18 [some (dz_o 0), some (dz_r 0), some (dz_r 115), some (dz_i (i + 6))] [] 130 5989 (sh, rf2, M2)) : dz_X (dz_E dz_pp xo 60) dz_pp xo (dz_pp 220) Q 790 [some (dz_o 0), some (dz_r 0), some (dz_r 115), some (dz_i i)] [] 130 5989 (sh, rf, M) := by
  have hc := dz_E_m dz_pp xo 60
  obtain ⟨rs, it, ts, ch, tl, up, lo, fn, w, pl, kd, wt, nx, n, hs, kp, kh, hl, hm, hX, hM, hW⟩ := hI
  have c0 := hl.1
  have m0 := hm.1
  refine xr_aloadn hc rfl rfl ?_
  refine xr_aloadn hc rfl rfl ?_
  refine xr_iloadn hc rfl rfl ?_
  refine xr_iconst hc rfl ?_
  refine xr_iaddz hc rfl (by first | exact dz_wid (by first | omega | (unfold dz_w; omega)) (by first | omega | (unfold dz_w; omega)) | rfl) ?_
  refine xr_ialoado hc rfl (by first | omega | (unfold dz_w; omega)) (by first | omega | (unfold dz_w; omega)) ?_
  refine xr_callv1 hc rfl (by first | assumption | rfl) rfl rfl rfl (Nat.le_of_ble_eq_true rfl) (Nat.le_of_ble_eq_true rfl) (Nat.le_of_ble_eq_true rfl) ?_
  refine X_keep (d := 57) hl hX hW (fun M2 f2 hX2 => ?_)
  have hM2 := RM_hi hM hW f2
  refine xk_1 ?_
  refine xr_aloadn hc rfl rfl ?_
  refine xr_aloadn hc rfl rfl ?_
  refine xr_iloadn hc rfl rfl ?_
  refine xr_iconst hc rfl ?_
  refine xr_iaddz hc rfl (by first | exact dz_wid (by first | omega | (unfold dz_w; omega)) (by first | omega | (unfold dz_w; omega)) | rfl) ?_
  refine xr_ialoado hc rfl (by first | omega | (unfold dz_w; omega)) (by first | omega | (unfold dz_w; omega)) ?_
  refine xr_callv1 hc rfl (by first | assumption | rfl) rfl rfl rfl (Nat.le_of_ble_eq_true rfl) (Nat.le_of_ble_eq_true rfl) (Nat.le_of_ble_eq_true rfl) ?_
  refine D_keep (d := 57) hm hM2 hW (fun M3 f3 hM3 => ?_)
  refine xk_1 ?_
  refine xr_icmp_eq hc rfl (t := 1385) rfl (fun b808 => ?_) (fun b808 => ?_)
  · refine xr_iincz3 hc rfl rfl (by first | exact dz_wid (by first | omega | (unfold dz_w; omega)) (by first | omega | (unfold dz_w; omega)) | rfl) ?_
    refine xr_goto hc rfl (t := 18) rfl ?_
    exact h _ _ ⟨_, _, _, _, _, _, _, _, _, _, _, _, _, _, _, _, _, hl, hm, (RX_lo hX2 f3), hM3, (WF_keep hW)⟩
  · exact absurd rfl b808
set_option maxRecDepth 100000 in
set_option maxHeartbeats 1000000 in
theorem L_on {xo : Nat → List Int} {Q : dz_Q} {sh : List (Nat ⊕ (Nat × Nat))} {rf : Nat → Nat → Nat} {M : Nat → Nat → Int} {i : Int} (hx1 : xo 1 = dz_xs1) (hx2 : xo 2 = dz_xs2) (hr : ∀ j, dz_in32 ((xo 0).getD j 0)) (hi : 0 ≤ i) (hL : i + 6 ≤ (xo 0).length) (hN : (xo 0).length ≤ 384) (hI : LI sh rf M) (h : ∀ rf2 M2, LI sh rf2 M2 → dz_X (dz_E dz_pp xo 60) dz_pp xo (dz_pp 220) Q 18 [some (dz_o 0), some (dz_r 0), some (dz_r 115), some (dz_i (i + 6))] [] 130 5989 (sh, rf2, M2)) : dz_X (dz_E dz_pp xo 60) dz_pp xo (dz_pp 220) Q 813 [some (dz_o 0), some (dz_r 0), some (dz_r 115), some (dz_i i)] [] 130 5989 (sh, rf, M) := by
  have hc := dz_E_m dz_pp xo 60
  obtain ⟨rs, it, ts, ch, tl, up, lo, fn, w, pl, kd, wt, nx, n, hs, kp, kh, hl, hm, hX, hM, hW⟩ := hI
  have c0 := hl.1
  have m0 := hm.1
  refine xr_aloadn hc rfl rfl ?_
  refine xr_aloadn hc rfl rfl ?_
  refine xr_iloadn hc rfl rfl ?_
  refine xr_iconst hc rfl ?_
  refine xr_iaddz hc rfl (by first | exact dz_wid (by first | omega | (unfold dz_w; omega)) (by first | omega | (unfold dz_w; omega)) | rfl) ?_
  refine xr_ialoado hc rfl (by first | omega | (unfold dz_w; omega)) (by first | omega | (unfold dz_w; omega)) ?_
  refine xr_callv1 hc rfl (by first | assumption | rfl) rfl rfl rfl (Nat.le_of_ble_eq_true rfl) (Nat.le_of_ble_eq_true rfl) (Nat.le_of_ble_eq_true rfl) ?_
  refine X_on (d := 57) hl hX hW (fun M2 f2 hX2 => ?_)
  have hM2 := RM_hi hM hW f2
  refine xk_1 ?_
  refine xr_aloadn hc rfl rfl ?_
  refine xr_aloadn hc rfl rfl ?_
  refine xr_iloadn hc rfl rfl ?_
  refine xr_iconst hc rfl ?_
  refine xr_iaddz hc rfl (by first | exact dz_wid (by first | omega | (unfold dz_w; omega)) (by first | omega | (unfold dz_w; omega)) | rfl) ?_
  refine xr_ialoado hc rfl (by first | omega | (unfold dz_w; omega)) (by first | omega | (unfold dz_w; omega)) ?_
  refine xr_callv1 hc rfl (by first | assumption | rfl) rfl rfl rfl (Nat.le_of_ble_eq_true rfl) (Nat.le_of_ble_eq_true rfl) (Nat.le_of_ble_eq_true rfl) ?_
  refine D_on (d := 57) hm hM2 hW (fun M3 f3 hM3 => ?_)
  refine xk_1 ?_
  refine xr_icmp_eq hc rfl (t := 1385) rfl (fun b831 => ?_) (fun b831 => ?_)
  · refine xr_iincz3 hc rfl rfl (by first | exact dz_wid (by first | omega | (unfold dz_w; omega)) (by first | omega | (unfold dz_w; omega)) | rfl) ?_
    refine xr_goto hc rfl (t := 18) rfl ?_
    exact h _ _ ⟨_, _, _, _, _, _, _, _, _, _, _, _, _, _, _, _, _, hl, hm, (RX_lo hX2 f3), hM3, (WF_on hW)⟩
  · exact absurd rfl b831
set_option maxRecDepth 100000 in
set_option maxHeartbeats 1000000 in
theorem L_takes {xo : Nat → List Int} {Q : dz_Q} {sh : List (Nat ⊕ (Nat × Nat))} {rf : Nat → Nat → Nat} {M : Nat → Nat → Int} {i : Int} (hx1 : xo 1 = dz_xs1) (hx2 : xo 2 = dz_xs2) (hr : ∀ j, dz_in32 ((xo 0).getD j 0)) (hi : 0 ≤ i) (hL : i + 6 ≤ (xo 0).length) (hN : (xo 0).length ≤ 384) (hI : LI sh rf M) (h : ∀ rf2 M2, LI sh rf2 M2 → dz_X (dz_E dz_pp xo 60) dz_pp xo (dz_pp 220) Q 18 [some (dz_o 0), some (dz_r 0), some (dz_r 115), some (dz_i (i + 6))] [] 130 5989 (sh, rf2, M2)) : dz_X (dz_E dz_pp xo 60) dz_pp xo (dz_pp 220) Q 836 [some (dz_o 0), some (dz_r 0), some (dz_r 115), some (dz_i i)] [] 130 5989 (sh, rf, M) := by
  have hc := dz_E_m dz_pp xo 60
  obtain ⟨rs, it, ts, ch, tl, up, lo, fn, w, pl, kd, wt, nx, n, hs, kp, kh, hl, hm, hX, hM, hW⟩ := hI
  have c0 := hl.1
  have m0 := hm.1
  refine xr_aloadn hc rfl rfl ?_
  refine xr_aloadn hc rfl rfl ?_
  refine xr_iloadn hc rfl rfl ?_
  refine xr_iconst hc rfl ?_
  refine xr_iaddz hc rfl (by first | exact dz_wid (by first | omega | (unfold dz_w; omega)) (by first | omega | (unfold dz_w; omega)) | rfl) ?_
  refine xr_ialoado hc rfl (by first | omega | (unfold dz_w; omega)) (by first | omega | (unfold dz_w; omega)) ?_
  refine xr_callv1 hc rfl (by first | assumption | rfl) rfl rfl rfl (Nat.le_of_ble_eq_true rfl) (Nat.le_of_ble_eq_true rfl) (Nat.le_of_ble_eq_true rfl) ?_
  refine X_takes (d := 55) hx2 hl hX hW (fun M2 f2 hX2 => ?_)
  have hM2 := RM_hi hM hW f2
  refine xk_1 ?_
  refine xr_aloadn hc rfl rfl ?_
  refine xr_aloadn hc rfl rfl ?_
  refine xr_iloadn hc rfl rfl ?_
  refine xr_iconst hc rfl ?_
  refine xr_iaddz hc rfl (by first | exact dz_wid (by first | omega | (unfold dz_w; omega)) (by first | omega | (unfold dz_w; omega)) | rfl) ?_
  refine xr_ialoado hc rfl (by first | omega | (unfold dz_w; omega)) (by first | omega | (unfold dz_w; omega)) ?_
  refine xr_callv1 hc rfl (by first | assumption | rfl) rfl rfl rfl (Nat.le_of_ble_eq_true rfl) (Nat.le_of_ble_eq_true rfl) (Nat.le_of_ble_eq_true rfl) ?_
  refine D_takes (d := 55) hm hM2 hW (fun M3 f3 hM3 => ?_)
  refine xk_1 ?_
  refine xr_icmp_eq hc rfl (t := 1385) rfl (fun b854 => ?_) (fun b854 => ?_)
  · refine xr_iincz3 hc rfl rfl (by first | exact dz_wid (by first | omega | (unfold dz_w; omega)) (by first | omega | (unfold dz_w; omega)) | rfl) ?_
    refine xr_goto hc rfl (t := 18) rfl ?_
    exact h _ _ ⟨_, _, _, _, _, _, _, _, _, _, _, _, _, _, _, _, _, hl, hm, (RX_lo hX2 f3), hM3, (WF_any hW)⟩
  · exact absurd rfl b854
set_option maxRecDepth 100000 in
set_option maxHeartbeats 1000000 in
theorem L_idle {xo : Nat → List Int} {Q : dz_Q} {sh : List (Nat ⊕ (Nat × Nat))} {rf : Nat → Nat → Nat} {M : Nat → Nat → Int} {i : Int} (hx1 : xo 1 = dz_xs1) (hx2 : xo 2 = dz_xs2) (hr : ∀ j, dz_in32 ((xo 0).getD j 0)) (hi : 0 ≤ i) (hL : i + 6 ≤ (xo 0).length) (hN : (xo 0).length ≤ 384) (hI : LI sh rf M) (h : ∀ rf2 M2, LI sh rf2 M2 → dz_X (dz_E dz_pp xo 60) dz_pp xo (dz_pp 220) Q 18 [some (dz_o 0), some (dz_r 0), some (dz_r 115), some (dz_i (i + 6))] [] 130 5989 (sh, rf2, M2)) : dz_X (dz_E dz_pp xo 60) dz_pp xo (dz_pp 220) Q 859 [some (dz_o 0), some (dz_r 0), some (dz_r 115), some (dz_i i)] [] 130 5989 (sh, rf, M) := by
  have hc := dz_E_m dz_pp xo 60
  obtain ⟨rs, it, ts, ch, tl, up, lo, fn, w, pl, kd, wt, nx, n, hs, kp, kh, hl, hm, hX, hM, hW⟩ := hI
  have c0 := hl.1
  have m0 := hm.1
  refine xr_aloadn hc rfl rfl ?_
  refine xr_aloadn hc rfl rfl ?_
  refine xr_iloadn hc rfl rfl ?_
  refine xr_iconst hc rfl ?_
  refine xr_iaddz hc rfl (by first | exact dz_wid (by first | omega | (unfold dz_w; omega)) (by first | omega | (unfold dz_w; omega)) | rfl) ?_
  refine xr_ialoado hc rfl (by first | omega | (unfold dz_w; omega)) (by first | omega | (unfold dz_w; omega)) ?_
  refine xr_callv1 hc rfl (by first | assumption | rfl) rfl rfl rfl (Nat.le_of_ble_eq_true rfl) (Nat.le_of_ble_eq_true rfl) (Nat.le_of_ble_eq_true rfl) ?_
  refine X_idle (d := 55) hx2 hl hX hW (fun M2 f2 hX2 => ?_)
  have hM2 := RM_hi hM hW f2
  refine xk_1 ?_
  refine xr_aloadn hc rfl rfl ?_
  refine xr_aloadn hc rfl rfl ?_
  refine xr_iloadn hc rfl rfl ?_
  refine xr_iconst hc rfl ?_
  refine xr_iaddz hc rfl (by first | exact dz_wid (by first | omega | (unfold dz_w; omega)) (by first | omega | (unfold dz_w; omega)) | rfl) ?_
  refine xr_ialoado hc rfl (by first | omega | (unfold dz_w; omega)) (by first | omega | (unfold dz_w; omega)) ?_
  refine xr_callv1 hc rfl (by first | assumption | rfl) rfl rfl rfl (Nat.le_of_ble_eq_true rfl) (Nat.le_of_ble_eq_true rfl) (Nat.le_of_ble_eq_true rfl) ?_
  refine D_idle (d := 55) hm hM2 hW (fun M3 f3 hM3 => ?_)
  refine xk_1 ?_
  refine xr_icmp_eq hc rfl (t := 1385) rfl (fun b877 => ?_) (fun b877 => ?_)
  · refine xr_iincz3 hc rfl rfl (by first | exact dz_wid (by first | omega | (unfold dz_w; omega)) (by first | omega | (unfold dz_w; omega)) | rfl) ?_
    refine xr_goto hc rfl (t := 18) rfl ?_
    exact h _ _ ⟨_, _, _, _, _, _, _, _, _, _, _, _, _, _, _, _, _, hl, hm, (RX_lo hX2 f3), hM3, (WF_any hW)⟩
  · exact absurd rfl b877
set_option maxRecDepth 100000 in
set_option maxHeartbeats 1000000 in
theorem L_stops {xo : Nat → List Int} {Q : dz_Q} {sh : List (Nat ⊕ (Nat × Nat))} {rf : Nat → Nat → Nat} {M : Nat → Nat → Int} {i : Int} (hx1 : xo 1 = dz_xs1) (hx2 : xo 2 = dz_xs2) (hr : ∀ j, dz_in32 ((xo 0).getD j 0)) (hi : 0 ≤ i) (hL : i + 6 ≤ (xo 0).length) (hN : (xo 0).length ≤ 384) (hI : LI sh rf M) (h : ∀ rf2 M2, LI sh rf2 M2 → dz_X (dz_E dz_pp xo 60) dz_pp xo (dz_pp 220) Q 18 [some (dz_o 0), some (dz_r 0), some (dz_r 115), some (dz_i (i + 6))] [] 130 5989 (sh, rf2, M2)) : dz_X (dz_E dz_pp xo 60) dz_pp xo (dz_pp 220) Q 882 [some (dz_o 0), some (dz_r 0), some (dz_r 115), some (dz_i i)] [] 130 5989 (sh, rf, M) := by
  have hc := dz_E_m dz_pp xo 60
  obtain ⟨rs, it, ts, ch, tl, up, lo, fn, w, pl, kd, wt, nx, n, hs, kp, kh, hl, hm, hX, hM, hW⟩ := hI
  have c0 := hl.1
  have m0 := hm.1
  refine xr_aloadn hc rfl rfl ?_
  refine xr_callv0 hc rfl (by first | assumption | rfl) rfl rfl rfl (Nat.le_of_ble_eq_true rfl) (Nat.le_of_ble_eq_true rfl) (Nat.le_of_ble_eq_true rfl) ?_
  refine X_stops (d := 55) hx2 hl hX hW (fun M2 f2 hX2 => ?_)
  have hM2 := RM_hi hM hW f2
  refine xk_1 ?_
  refine xr_aloadn hc rfl rfl ?_
  refine xr_callv0 hc rfl (by first | assumption | rfl) rfl rfl rfl (Nat.le_of_ble_eq_true rfl) (Nat.le_of_ble_eq_true rfl) (Nat.le_of_ble_eq_true rfl) ?_
  refine D_stops (d := 56) hm hM2 hW (fun M3 f3 hM3 => ?_)
  refine xk_1 ?_
  refine xr_icmp_eq hc rfl (t := 1385) rfl (fun b890 => ?_) (fun b890 => ?_)
  · refine xr_iincz3 hc rfl rfl (by first | exact dz_wid (by first | omega | (unfold dz_w; omega)) (by first | omega | (unfold dz_w; omega)) | rfl) ?_
    refine xr_goto hc rfl (t := 18) rfl ?_
    exact h _ _ ⟨_, _, _, _, _, _, _, _, _, _, _, _, _, _, _, _, _, hl, hm, (RX_lo hX2 f3), hM3, (WF_any hW)⟩
  · exact absurd rfl b890
set_option maxRecDepth 100000 in
set_option maxHeartbeats 1000000 in
theorem L_when {xo : Nat → List Int} {Q : dz_Q} {sh : List (Nat ⊕ (Nat × Nat))} {rf : Nat → Nat → Nat} {M : Nat → Nat → Int} {i : Int} (hx1 : xo 1 = dz_xs1) (hx2 : xo 2 = dz_xs2) (hr : ∀ j, dz_in32 ((xo 0).getD j 0)) (hi : 0 ≤ i) (hL : i + 6 ≤ (xo 0).length) (hN : (xo 0).length ≤ 384) (hI : LI sh rf M) (h : ∀ rf2 M2, LI sh rf2 M2 → dz_X (dz_E dz_pp xo 60) dz_pp xo (dz_pp 220) Q 18 [some (dz_o 0), some (dz_r 0), some (dz_r 115), some (dz_i (i + 6))] [] 130 5989 (sh, rf2, M2)) : dz_X (dz_E dz_pp xo 60) dz_pp xo (dz_pp 220) Q 895 [some (dz_o 0), some (dz_r 0), some (dz_r 115), some (dz_i i)] [] 130 5989 (sh, rf, M) := by
  have hc := dz_E_m dz_pp xo 60
  obtain ⟨rs, it, ts, ch, tl, up, lo, fn, w, pl, kd, wt, nx, n, hs, kp, kh, hl, hm, hX, hM, hW⟩ := hI
  have c0 := hl.1
  have m0 := hm.1
  refine xr_aloadn hc rfl rfl ?_
  refine xr_aloadn hc rfl rfl ?_
  refine xr_iloadn hc rfl rfl ?_
  refine xr_iconst hc rfl ?_
  refine xr_iaddz hc rfl (by first | exact dz_wid (by first | omega | (unfold dz_w; omega)) (by first | omega | (unfold dz_w; omega)) | rfl) ?_
  refine xr_ialoado hc rfl (by first | omega | (unfold dz_w; omega)) (by first | omega | (unfold dz_w; omega)) ?_
  refine xr_aloadn hc rfl rfl ?_
  refine xr_iloadn hc rfl rfl ?_
  refine xr_iconst hc rfl ?_
  refine xr_iaddz hc rfl (by first | exact dz_wid (by first | omega | (unfold dz_w; omega)) (by first | omega | (unfold dz_w; omega)) | rfl) ?_
  refine xr_ialoado hc rfl (by first | omega | (unfold dz_w; omega)) (by first | omega | (unfold dz_w; omega)) ?_
  refine xr_callv2 hc rfl (by first | assumption | rfl) rfl rfl rfl (Nat.le_of_ble_eq_true rfl) (Nat.le_of_ble_eq_true rfl) (Nat.le_of_ble_eq_true rfl) ?_
  refine X_when (d := 55) hx2 hl hX hW (fun M2 f2 hX2 => ?_)
  have hM2 := RM_hi hM hW f2
  refine xk_1 ?_
  refine xr_aloadn hc rfl rfl ?_
  refine xr_aloadn hc rfl rfl ?_
  refine xr_iloadn hc rfl rfl ?_
  refine xr_iconst hc rfl ?_
  refine xr_iaddz hc rfl (by first | exact dz_wid (by first | omega | (unfold dz_w; omega)) (by first | omega | (unfold dz_w; omega)) | rfl) ?_
  refine xr_ialoado hc rfl (by first | omega | (unfold dz_w; omega)) (by first | omega | (unfold dz_w; omega)) ?_
  refine xr_aloadn hc rfl rfl ?_
  refine xr_iloadn hc rfl rfl ?_
  refine xr_iconst hc rfl ?_
  refine xr_iaddz hc rfl (by first | exact dz_wid (by first | omega | (unfold dz_w; omega)) (by first | omega | (unfold dz_w; omega)) | rfl) ?_
  refine xr_ialoado hc rfl (by first | omega | (unfold dz_w; omega)) (by first | omega | (unfold dz_w; omega)) ?_
  refine xr_callv2 hc rfl (by first | assumption | rfl) rfl rfl rfl (Nat.le_of_ble_eq_true rfl) (Nat.le_of_ble_eq_true rfl) (Nat.le_of_ble_eq_true rfl) ?_
  refine D_when (d := 55) hm hM2 hW (fun M3 f3 hM3 => ?_)
  refine xk_1 ?_
  refine xr_icmp_eq hc rfl (t := 1385) rfl (fun b923 => ?_) (fun b923 => ?_)
  · refine xr_iincz3 hc rfl rfl (by first | exact dz_wid (by first | omega | (unfold dz_w; omega)) (by first | omega | (unfold dz_w; omega)) | rfl) ?_
    refine xr_goto hc rfl (t := 18) rfl ?_
    exact h _ _ ⟨_, _, _, _, _, _, _, _, _, _, _, _, _, _, _, _, _, hl, hm, (RX_lo hX2 f3), hM3, (WF_any hW)⟩
  · exact absurd rfl b923
set_option maxRecDepth 100000 in
set_option maxHeartbeats 1000000 in
theorem L_place {xo : Nat → List Int} {Q : dz_Q} {sh : List (Nat ⊕ (Nat × Nat))} {rf : Nat → Nat → Nat} {M : Nat → Nat → Int} {i : Int} (hx1 : xo 1 = dz_xs1) (hx2 : xo 2 = dz_xs2) (hr : ∀ j, dz_in32 ((xo 0).getD j 0)) (hi : 0 ≤ i) (hL : i + 6 ≤ (xo 0).length) (hN : (xo 0).length ≤ 384) (hI : LI sh rf M) (h : ∀ rf2 M2, LI sh rf2 M2 → dz_X (dz_E dz_pp xo 60) dz_pp xo (dz_pp 220) Q 18 [some (dz_o 0), some (dz_r 0), some (dz_r 115), some (dz_i (i + 6))] [] 130 5989 (sh, rf2, M2)) : dz_X (dz_E dz_pp xo 60) dz_pp xo (dz_pp 220) Q 928 [some (dz_o 0), some (dz_r 0), some (dz_r 115), some (dz_i i)] [] 130 5989 (sh, rf, M) := by
  have hc := dz_E_m dz_pp xo 60
  obtain ⟨rs, it, ts, ch, tl, up, lo, fn, w, pl, kd, wt, nx, n, hs, kp, kh, hl, hm, hX, hM, hW⟩ := hI
  have c0 := hl.1
  have m0 := hm.1
  refine xr_aloadn hc rfl rfl ?_
  refine xr_aloadn hc rfl rfl ?_
  refine xr_iloadn hc rfl rfl ?_
  refine xr_iconst hc rfl ?_
  refine xr_iaddz hc rfl (by first | exact dz_wid (by first | omega | (unfold dz_w; omega)) (by first | omega | (unfold dz_w; omega)) | rfl) ?_
  refine xr_ialoado hc rfl (by first | omega | (unfold dz_w; omega)) (by first | omega | (unfold dz_w; omega)) ?_
  refine xr_aloadn hc rfl rfl ?_
  refine xr_iloadn hc rfl rfl ?_
  refine xr_iconst hc rfl ?_
  refine xr_iaddz hc rfl (by first | exact dz_wid (by first | omega | (unfold dz_w; omega)) (by first | omega | (unfold dz_w; omega)) | rfl) ?_
  refine xr_ialoado hc rfl (by first | omega | (unfold dz_w; omega)) (by first | omega | (unfold dz_w; omega)) ?_
  refine xr_callv2 hc rfl (by first | assumption | rfl) rfl rfl rfl (Nat.le_of_ble_eq_true rfl) (Nat.le_of_ble_eq_true rfl) (Nat.le_of_ble_eq_true rfl) ?_
  refine X_place (d := 55) hx2 hl hX hW (fun M2 f2 hX2 => ?_)
  have hM2 := RM_hi hM hW f2
  refine xk_1 ?_
  refine xr_aloadn hc rfl rfl ?_
  refine xr_aloadn hc rfl rfl ?_
  refine xr_iloadn hc rfl rfl ?_
  refine xr_iconst hc rfl ?_
  refine xr_iaddz hc rfl (by first | exact dz_wid (by first | omega | (unfold dz_w; omega)) (by first | omega | (unfold dz_w; omega)) | rfl) ?_
  refine xr_ialoado hc rfl (by first | omega | (unfold dz_w; omega)) (by first | omega | (unfold dz_w; omega)) ?_
  refine xr_aloadn hc rfl rfl ?_
  refine xr_iloadn hc rfl rfl ?_
  refine xr_iconst hc rfl ?_
  refine xr_iaddz hc rfl (by first | exact dz_wid (by first | omega | (unfold dz_w; omega)) (by first | omega | (unfold dz_w; omega)) | rfl) ?_
  refine xr_ialoado hc rfl (by first | omega | (unfold dz_w; omega)) (by first | omega | (unfold dz_w; omega)) ?_
  refine xr_callv2 hc rfl (by first | assumption | rfl) rfl rfl rfl (Nat.le_of_ble_eq_true rfl) (Nat.le_of_ble_eq_true rfl) (Nat.le_of_ble_eq_true rfl) ?_
  refine D_place (d := 54) hm hM2 hW (fun M3 f3 hM3 => ?_)
  refine xk_1 ?_
  refine xr_icmp_eq hc rfl (t := 1385) rfl (fun b956 => ?_) (fun b956 => ?_)
  · refine xr_iincz3 hc rfl rfl (by first | exact dz_wid (by first | omega | (unfold dz_w; omega)) (by first | omega | (unfold dz_w; omega)) | rfl) ?_
    refine xr_goto hc rfl (t := 18) rfl ?_
    exact h _ _ ⟨_, _, _, _, _, _, _, _, _, _, _, _, _, _, _, _, _, hl, hm, (RX_lo hX2 f3), hM3, (WF_any hW)⟩
  · exact absurd rfl b956
set_option maxRecDepth 100000 in
set_option maxHeartbeats 1000000 in
theorem L_best {xo : Nat → List Int} {Q : dz_Q} {sh : List (Nat ⊕ (Nat × Nat))} {rf : Nat → Nat → Nat} {M : Nat → Nat → Int} {i : Int} (hx1 : xo 1 = dz_xs1) (hx2 : xo 2 = dz_xs2) (hr : ∀ j, dz_in32 ((xo 0).getD j 0)) (hi : 0 ≤ i) (hL : i + 6 ≤ (xo 0).length) (hN : (xo 0).length ≤ 384) (hI : LI sh rf M) (h : ∀ rf2 M2, LI sh rf2 M2 → dz_X (dz_E dz_pp xo 60) dz_pp xo (dz_pp 220) Q 18 [some (dz_o 0), some (dz_r 0), some (dz_r 115), some (dz_i (i + 6))] [] 130 5989 (sh, rf2, M2)) : dz_X (dz_E dz_pp xo 60) dz_pp xo (dz_pp 220) Q 961 [some (dz_o 0), some (dz_r 0), some (dz_r 115), some (dz_i i)] [] 130 5989 (sh, rf, M) := by
  have hc := dz_E_m dz_pp xo 60
  obtain ⟨rs, it, ts, ch, tl, up, lo, fn, w, pl, kd, wt, nx, n, hs, kp, kh, hl, hm, hX, hM, hW⟩ := hI
  have c0 := hl.1
  have m0 := hm.1
  refine xr_aloadn hc rfl rfl ?_
  refine xr_aloadn hc rfl rfl ?_
  refine xr_iloadn hc rfl rfl ?_
  refine xr_iconst hc rfl ?_
  refine xr_iaddz hc rfl (by first | exact dz_wid (by first | omega | (unfold dz_w; omega)) (by first | omega | (unfold dz_w; omega)) | rfl) ?_
  refine xr_ialoado hc rfl (by first | omega | (unfold dz_w; omega)) (by first | omega | (unfold dz_w; omega)) ?_
  refine xr_callv1 hc rfl (by first | assumption | rfl) rfl rfl rfl (Nat.le_of_ble_eq_true rfl) (Nat.le_of_ble_eq_true rfl) (Nat.le_of_ble_eq_true rfl) ?_
  refine X_best (d := 55) hx2 hl hX hW (fun M2 f2 hX2 => ?_)
  have hM2 := RM_hi hM hW f2
  refine xk_1 ?_
  refine xr_aloadn hc rfl rfl ?_
  refine xr_aloadn hc rfl rfl ?_
  refine xr_iloadn hc rfl rfl ?_
  refine xr_iconst hc rfl ?_
  refine xr_iaddz hc rfl (by first | exact dz_wid (by first | omega | (unfold dz_w; omega)) (by first | omega | (unfold dz_w; omega)) | rfl) ?_
  refine xr_ialoado hc rfl (by first | omega | (unfold dz_w; omega)) (by first | omega | (unfold dz_w; omega)) ?_
  refine xr_callv1 hc rfl (by first | assumption | rfl) rfl rfl rfl (Nat.le_of_ble_eq_true rfl) (Nat.le_of_ble_eq_true rfl) (Nat.le_of_ble_eq_true rfl) ?_
  refine D_best (d := 55) hm hM2 hW (fun M3 f3 hM3 => ?_)
  refine xk_1 ?_
  refine xr_icmp_eq hc rfl (t := 1385) rfl (fun b979 => ?_) (fun b979 => ?_)
  · refine xr_iincz3 hc rfl rfl (by first | exact dz_wid (by first | omega | (unfold dz_w; omega)) (by first | omega | (unfold dz_w; omega)) | rfl) ?_
    refine xr_goto hc rfl (t := 18) rfl ?_
    exact h _ _ ⟨_, _, _, _, _, _, _, _, _, _, _, _, _, _, _, _, _, hl, hm, (RX_lo hX2 f3), hM3, (WF_any hW)⟩
  · exact absurd rfl b979
set_option maxRecDepth 100000 in
set_option maxHeartbeats 1000000 in
theorem L_least {xo : Nat → List Int} {Q : dz_Q} {sh : List (Nat ⊕ (Nat × Nat))} {rf : Nat → Nat → Nat} {M : Nat → Nat → Int} {i : Int} (hx1 : xo 1 = dz_xs1) (hx2 : xo 2 = dz_xs2) (hr : ∀ j, dz_in32 ((xo 0).getD j 0)) (hi : 0 ≤ i) (hL : i + 6 ≤ (xo 0).length) (hN : (xo 0).length ≤ 384) (hI : LI sh rf M) (h : ∀ rf2 M2, LI sh rf2 M2 → dz_X (dz_E dz_pp xo 60) dz_pp xo (dz_pp 220) Q 18 [some (dz_o 0), some (dz_r 0), some (dz_r 115), some (dz_i (i + 6))] [] 130 5989 (sh, rf2, M2)) : dz_X (dz_E dz_pp xo 60) dz_pp xo (dz_pp 220) Q 984 [some (dz_o 0), some (dz_r 0), some (dz_r 115), some (dz_i i)] [] 130 5989 (sh, rf, M) := by
  have hc := dz_E_m dz_pp xo 60
  obtain ⟨rs, it, ts, ch, tl, up, lo, fn, w, pl, kd, wt, nx, n, hs, kp, kh, hl, hm, hX, hM, hW⟩ := hI
  have c0 := hl.1
  have m0 := hm.1
  refine xr_aloadn hc rfl rfl ?_
  refine xr_aloadn hc rfl rfl ?_
  refine xr_iloadn hc rfl rfl ?_
  refine xr_iconst hc rfl ?_
  refine xr_iaddz hc rfl (by first | exact dz_wid (by first | omega | (unfold dz_w; omega)) (by first | omega | (unfold dz_w; omega)) | rfl) ?_
  refine xr_ialoado hc rfl (by first | omega | (unfold dz_w; omega)) (by first | omega | (unfold dz_w; omega)) ?_
  refine xr_aloadn hc rfl rfl ?_
  refine xr_iloadn hc rfl rfl ?_
  refine xr_iconst hc rfl ?_
  refine xr_iaddz hc rfl (by first | exact dz_wid (by first | omega | (unfold dz_w; omega)) (by first | omega | (unfold dz_w; omega)) | rfl) ?_
  refine xr_ialoado hc rfl (by first | omega | (unfold dz_w; omega)) (by first | omega | (unfold dz_w; omega)) ?_
  refine xr_callv2 hc rfl (by first | assumption | rfl) rfl rfl rfl (Nat.le_of_ble_eq_true rfl) (Nat.le_of_ble_eq_true rfl) (Nat.le_of_ble_eq_true rfl) ?_
  refine X_least (d := 49) hx2 hl hX hW (fun M2 f2 hX2 => ?_)
  have hM2 := RM_hi hM hW f2
  refine xk_1 ?_
  refine xr_aloadn hc rfl rfl ?_
  refine xr_aloadn hc rfl rfl ?_
  refine xr_iloadn hc rfl rfl ?_
  refine xr_iconst hc rfl ?_
  refine xr_iaddz hc rfl (by first | exact dz_wid (by first | omega | (unfold dz_w; omega)) (by first | omega | (unfold dz_w; omega)) | rfl) ?_
  refine xr_ialoado hc rfl (by first | omega | (unfold dz_w; omega)) (by first | omega | (unfold dz_w; omega)) ?_
  refine xr_aloadn hc rfl rfl ?_
  refine xr_iloadn hc rfl rfl ?_
  refine xr_iconst hc rfl ?_
  refine xr_iaddz hc rfl (by first | exact dz_wid (by first | omega | (unfold dz_w; omega)) (by first | omega | (unfold dz_w; omega)) | rfl) ?_
  refine xr_ialoado hc rfl (by first | omega | (unfold dz_w; omega)) (by first | omega | (unfold dz_w; omega)) ?_
  refine xr_callv2 hc rfl (by first | assumption | rfl) rfl rfl rfl (Nat.le_of_ble_eq_true rfl) (Nat.le_of_ble_eq_true rfl) (Nat.le_of_ble_eq_true rfl) ?_
  refine D_least (d := 54) hm hM2 hW (fun M3 f3 hM3 => ?_)
  refine xk_1 ?_
  refine xr_icmp_eq hc rfl (t := 1385) rfl (fun b1012 => ?_) (fun b1012 => ?_)
  · refine xr_iincz3 hc rfl rfl (by first | exact dz_wid (by first | omega | (unfold dz_w; omega)) (by first | omega | (unfold dz_w; omega)) | rfl) ?_
    refine xr_goto hc rfl (t := 18) rfl ?_
    exact h _ _ ⟨_, _, _, _, _, _, _, _, _, _, _, _, _, _, _, _, _, hl, hm, (RX_lo hX2 f3), hM3, (WF_least hW)⟩
  · exact absurd rfl b1012
set_option maxRecDepth 100000 in
set_option maxHeartbeats 1000000 in
theorem L_clerk {xo : Nat → List Int} {Q : dz_Q} {sh : List (Nat ⊕ (Nat × Nat))} {rf : Nat → Nat → Nat} {M : Nat → Nat → Int} {i : Int} (hx1 : xo 1 = dz_xs1) (hx2 : xo 2 = dz_xs2) (hr : ∀ j, dz_in32 ((xo 0).getD j 0)) (hi : 0 ≤ i) (hL : i + 6 ≤ (xo 0).length) (hN : (xo 0).length ≤ 384) (hI : LI sh rf M) (h : ∀ rf2 M2, LI sh rf2 M2 → dz_X (dz_E dz_pp xo 60) dz_pp xo (dz_pp 220) Q 18 [some (dz_o 0), some (dz_r 0), some (dz_r 115), some (dz_i (i + 6))] [] 130 5989 (sh, rf2, M2)) : dz_X (dz_E dz_pp xo 60) dz_pp xo (dz_pp 220) Q 1017 [some (dz_o 0), some (dz_r 0), some (dz_r 115), some (dz_i i)] [] 130 5989 (sh, rf, M) := by
  have hc := dz_E_m dz_pp xo 60
  obtain ⟨rs, it, ts, ch, tl, up, lo, fn, w, pl, kd, wt, nx, n, hs, kp, kh, hl, hm, hX, hM, hW⟩ := hI
  have c0 := hl.1
  have m0 := hm.1
  refine xr_aloadn hc rfl rfl ?_
  refine xr_aloadn hc rfl rfl ?_
  refine xr_iloadn hc rfl rfl ?_
  refine xr_iconst hc rfl ?_
  refine xr_iaddz hc rfl (by first | exact dz_wid (by first | omega | (unfold dz_w; omega)) (by first | omega | (unfold dz_w; omega)) | rfl) ?_
  refine xr_ialoado hc rfl (by first | omega | (unfold dz_w; omega)) (by first | omega | (unfold dz_w; omega)) ?_
  refine xr_aloadn hc rfl rfl ?_
  refine xr_iloadn hc rfl rfl ?_
  refine xr_iconst hc rfl ?_
  refine xr_iaddz hc rfl (by first | exact dz_wid (by first | omega | (unfold dz_w; omega)) (by first | omega | (unfold dz_w; omega)) | rfl) ?_
  refine xr_ialoado hc rfl (by first | omega | (unfold dz_w; omega)) (by first | omega | (unfold dz_w; omega)) ?_
  refine xr_callv2 hc rfl (by first | assumption | rfl) rfl rfl rfl (Nat.le_of_ble_eq_true rfl) (Nat.le_of_ble_eq_true rfl) (Nat.le_of_ble_eq_true rfl) ?_
  refine X_clerk (d := 55) hx2 hl hX hW (fun M2 f2 hX2 => ?_)
  have hM2 := RM_hi hM hW f2
  refine xk_1 ?_
  refine xr_aloadn hc rfl rfl ?_
  refine xr_aloadn hc rfl rfl ?_
  refine xr_iloadn hc rfl rfl ?_
  refine xr_iconst hc rfl ?_
  refine xr_iaddz hc rfl (by first | exact dz_wid (by first | omega | (unfold dz_w; omega)) (by first | omega | (unfold dz_w; omega)) | rfl) ?_
  refine xr_ialoado hc rfl (by first | omega | (unfold dz_w; omega)) (by first | omega | (unfold dz_w; omega)) ?_
  refine xr_aloadn hc rfl rfl ?_
  refine xr_iloadn hc rfl rfl ?_
  refine xr_iconst hc rfl ?_
  refine xr_iaddz hc rfl (by first | exact dz_wid (by first | omega | (unfold dz_w; omega)) (by first | omega | (unfold dz_w; omega)) | rfl) ?_
  refine xr_ialoado hc rfl (by first | omega | (unfold dz_w; omega)) (by first | omega | (unfold dz_w; omega)) ?_
  refine xr_callv2 hc rfl (by first | assumption | rfl) rfl rfl rfl (Nat.le_of_ble_eq_true rfl) (Nat.le_of_ble_eq_true rfl) (Nat.le_of_ble_eq_true rfl) ?_
  refine D_clerk (d := 54) hm hM2 hW (fun M3 f3 hM3 => ?_)
  refine xk_1 ?_
  refine xr_icmp_eq hc rfl (t := 1385) rfl (fun b1045 => ?_) (fun b1045 => ?_)
  · refine xr_iincz3 hc rfl rfl (by first | exact dz_wid (by first | omega | (unfold dz_w; omega)) (by first | omega | (unfold dz_w; omega)) | rfl) ?_
    refine xr_goto hc rfl (t := 18) rfl ?_
    exact h _ _ ⟨_, _, _, _, _, _, _, _, _, _, _, _, _, _, _, _, _, hl, hm, (RX_lo hX2 f3), hM3, (WF_clerk hW)⟩
  · exact absurd rfl b1045
