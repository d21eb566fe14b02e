/-! The law, call by call. Written by l2_87.py. -/
def LI (sh : List (Nat ⊕ (Nat × Nat))) (rf : Nat → Nat → Nat) (M : Nat → Nat → Int) : Prop := ∃ (rs : Nat → Int) (it : Nat → Nat → Int) (ts : Nat → Int) (ch : Nat → Nat → Int) (tl up lo : Int) (fn : Nat → Int) (w pl : Int) (kd wt nx : Nat → Int) (n : Nat) (hs : Nat → Nat → Int) (kp : Nat → Int) (kh : Nat → Nat → Nat → Int), cl sh rf ∧ ml sh rf ∧ RX M rs it ts ch tl up lo fn w pl kd wt nx n hs kp kh ∧ RM M rs it ts ch tl up lo fn w pl kd wt nx n hs kp kh ∧ WF rs it ts ch tl up lo fn w pl kd wt nx n hs kp kh
set_option maxRecDepth 100000 in
set_option maxHeartbeats 1000000 in
theorem L_row {xo : Nat → List Int} {Q : dz_Q} {sh : List (Nat ⊕ (Nat × Nat))} {rf : Nat → Nat → Nat} {M : Nat → Nat → Int} {i : Int} (hx1 : xo 1 = dz_xs1) (hx2 : xo 2 = dz_xs2) (hr : ∀ j, dz_in32 ((xo 0).getD j 0)) (hi : 0 ≤ i) (hL : i + 6 ≤ (xo 0).length) (hN : (xo 0).length ≤ 384) (hI : LI sh rf M) (h : ∀ rf2 M2, LI sh rf2 M2 → dz_X (dz_E dz_pp xo 60) dz_pp xo (dz_pp 220) Q 18 [some (dz_o 0), some (dz_r 0), some (dz_r 115), some (dz_i (i + 6))] [] 130 5989 (sh, rf2, M2)) : dz_X (dz_E dz_pp xo 60) dz_pp xo (dz_pp 220) Q 216 [some (dz_o 0), some (dz_r 0), some (dz_r 115), some (dz_i i)] [] 130 5989 (sh, rf, M) := by
  have hc := dz_E_m dz_pp xo 60
  obtain ⟨rs, it, ts, ch, tl, up, lo, fn, w, pl, kd, wt, nx, n, hs, kp, kh, hl, hm, hX, hM, hW⟩ := hI
  have c0 := hl.1
  have m0 := hm.1
  refine xr_aloadn hc rfl rfl ?_
  refine xr_aloadn hc rfl rfl ?_
  refine xr_iloadn hc rfl rfl ?_
  refine xr_iconst hc rfl ?_
  refine xr_iaddz hc rfl (by first | exact dz_wid (by first | omega | (unfold dz_w; omega)) (by first | omega | (unfold dz_w; omega)) | rfl) ?_
  refine xr_ialoado hc rfl (by first | omega | (unfold dz_w; omega)) (by first | omega | (unfold dz_w; omega)) ?_
  refine xr_aloadn hc rfl rfl ?_
  refine xr_iloadn hc rfl rfl ?_
  refine xr_iconst hc rfl ?_
  refine xr_iaddz hc rfl (by first | exact dz_wid (by first | omega | (unfold dz_w; omega)) (by first | omega | (unfold dz_w; omega)) | rfl) ?_
  refine xr_ialoado hc rfl (by first | omega | (unfold dz_w; omega)) (by first | omega | (unfold dz_w; omega)) ?_
  refine xr_callv2 hc rfl (by first | assumption | rfl) rfl rfl rfl (Nat.le_of_ble_eq_true rfl) (Nat.le_of_ble_eq_true rfl) (Nat.le_of_ble_eq_true rfl) ?_
  refine X_row (d := 57) hl hX hW (fun M2 f2 hX2 => ?_)
  have hM2 := RM_hi hM hW f2
  refine xk_1 ?_
  refine xr_aloadn hc rfl rfl ?_
  refine xr_aloadn hc rfl rfl ?_
  refine xr_iloadn hc rfl rfl ?_
  refine xr_iconst hc rfl ?_
  refine xr_iaddz hc rfl (by first | exact dz_wid (by first | omega | (unfold dz_w; omega)) (by first | omega | (unfold dz_w; omega)) | rfl) ?_
  refine xr_ialoado hc rfl (by first | omega | (unfold dz_w; omega)) (by first | omega | (unfold dz_w; omega)) ?_
  refine xr_aloadn hc rfl rfl ?_
  refine xr_iloadn hc rfl rfl ?_
  refine xr_iconst hc rfl ?_
  refine xr_iaddz hc rfl (by first | exact dz_wid (by first | omega | (unfold dz_w; omega)) (by first | omega | (unfold dz_w; omega)) | rfl) ?_
  refine xr_ialoado hc rfl (by first | omega | (unfold dz_w; omega)) (by first | omega | (unfold dz_w; omega)) ?_
  refine xr_callv2 hc rfl (by first | assumption | rfl) rfl rfl rfl (Nat.le_of_ble_eq_true rfl) (Nat.le_of_ble_eq_true rfl) (Nat.le_of_ble_eq_true rfl) ?_
  refine D_row (d := 57) hm hM2 hW (fun M3 f3 hM3 => ?_)
  refine xk_1 ?_
  refine xr_icmp_eq hc rfl (t := 1385) rfl (fun b244 => ?_) (fun b244 => ?_)
  · refine xr_iincz3 hc rfl rfl (by first | exact dz_wid (by first | omega | (unfold dz_w; omega)) (by first | omega | (unfold dz_w; omega)) | rfl) ?_
    refine xr_goto hc rfl (t := 18) rfl ?_
    exact h _ _ ⟨_, _, _, _, _, _, _, _, _, _, _, _, _, _, _, _, _, hl, hm, (RX_lo hX2 f3), hM3, (WF_row hW)⟩
  · exact absurd rfl b244
set_option maxRecDepth 100000 in
set_option maxHeartbeats 1000000 in
theorem L_lay {xo : Nat → List Int} {Q : dz_Q} {sh : List (Nat ⊕ (Nat × Nat))} {rf : Nat → Nat → Nat} {M : Nat → Nat → Int} {i : Int} (hx1 : xo 1 = dz_xs1) (hx2 : xo 2 = dz_xs2) (hr : ∀ j, dz_in32 ((xo 0).getD j 0)) (hi : 0 ≤ i) (hL : i + 6 ≤ (xo 0).length) (hN : (xo 0).length ≤ 384) (hI : LI sh rf M) (h : ∀ rf2 M2, LI sh rf2 M2 → dz_X (dz_E dz_pp xo 60) dz_pp xo (dz_pp 220) Q 18 [some (dz_o 0), some (dz_r 0), some (dz_r 115), some (dz_i (i + 6))] [] 130 5989 (sh, rf2, M2)) : dz_X (dz_E dz_pp xo 60) dz_pp xo (dz_pp 220) Q 249 [some (dz_o 0), some (dz_r 0), some (dz_r 115), some (dz_i i)] [] 130 5989 (sh, rf, M) := by
  have hc := dz_E_m dz_pp xo 60
  obtain ⟨rs, it, ts, ch, tl, up, lo, fn, w, pl, kd, wt, nx, n, hs, kp, kh, hl, hm, hX, hM, hW⟩ := hI
  have c0 := hl.1
  have m0 := hm.1
  refine xr_aloadn hc rfl rfl ?_
  refine xr_aloadn hc rfl rfl ?_
  refine xr_iloadn hc rfl rfl ?_
  refine xr_iconst hc rfl ?_
  refine xr_iaddz hc rfl (by first | exact dz_wid (by first | omega | (unfold dz_w; omega)) (by first | omega | (unfold dz_w; omega)) | rfl) ?_
  refine xr_ialoado hc rfl (by first | omega | (unfold dz_w; omega)) (by first | omega | (unfold dz_w; omega)) ?_
  refine xr_aloadn hc rfl rfl ?_
  refine xr_iloadn hc rfl rfl ?_
  refine xr_iconst hc rfl ?_
  refine xr_iaddz hc rfl (by first | exact dz_wid (by first | omega | (unfold dz_w; omega)) (by first | omega | (unfold dz_w; omega)) | rfl) ?_
  refine xr_ialoado hc rfl (by first | omega | (unfold dz_w; omega)) (by first | omega | (unfold dz_w; omega)) ?_
  refine xr_aloadn hc rfl rfl ?_
  refine xr_iloadn hc rfl rfl ?_
  refine xr_iconst hc rfl ?_
  refine xr_iaddz hc rfl (by first | exact dz_wid (by first | omega | (unfold dz_w; omega)) (by first | omega | (unfold dz_w; omega)) | rfl) ?_
  refine xr_ialoado hc rfl (by first | omega | (unfold dz_w; omega)) (by first | omega | (unfold dz_w; omega)) ?_
  refine xr_callv3 hc rfl (by first | assumption | rfl) rfl rfl rfl (Nat.le_of_ble_eq_true rfl) (Nat.le_of_ble_eq_true rfl) (Nat.le_of_ble_eq_true rfl) ?_
  refine X_lay (d := 56) hl hX hW (fun M2 f2 hX2 => ?_)
  have hM2 := RM_hi hM hW f2
  refine xk_1 ?_
  refine xr_aloadn hc rfl rfl ?_
  refine xr_aloadn hc rfl rfl ?_
  refine xr_iloadn hc rfl rfl ?_
  refine xr_iconst hc rfl ?_
  refine xr_iaddz hc rfl (by first | exact dz_wid (by first | omega | (unfold dz_w; omega)) (by first | omega | (unfold dz_w; omega)) | rfl) ?_
  refine xr_ialoado hc rfl (by first | omega | (unfold dz_w; omega)) (by first | omega | (unfold dz_w; omega)) ?_
  refine xr_aloadn hc rfl rfl ?_
  refine xr_iloadn hc rfl rfl ?_
  refine xr_iconst hc rfl ?_
  refine xr_iaddz hc rfl (by first | exact dz_wid (by first | omega | (unfold dz_w; omega)) (by first | omega | (unfold dz_w; omega)) | rfl) ?_
  refine xr_ialoado hc rfl (by first | omega | (unfold dz_w; omega)) (by first | omega | (unfold dz_w; omega)) ?_
  refine xr_aloadn hc rfl rfl ?_
  refine xr_iloadn hc rfl rfl ?_
  refine xr_iconst hc rfl ?_
  refine xr_iaddz hc rfl (by first | exact dz_wid (by first | omega | (unfold dz_w; omega)) (by first | omega | (unfold dz_w; omega)) | rfl) ?_
  refine xr_ialoado hc rfl (by first | omega | (unfold dz_w; omega)) (by first | omega | (unfold dz_w; omega)) ?_
  refine xr_callv3 hc rfl (by first | assumption | rfl) rfl rfl rfl (Nat.le_of_ble_eq_true rfl) (Nat.le_of_ble_eq_true rfl) (Nat.le_of_ble_eq_true rfl) ?_
  refine D_lay (d := 56) hm hM2 hW (fun M3 f3 hM3 => ?_)
  refine xk_1 ?_
  refine xr_icmp_eq hc rfl (t := 1385) rfl (fun b287 => ?_) (fun b287 => ?_)
  · refine xr_iincz3 hc rfl rfl (by first | exact dz_wid (by first | omega | (unfold dz_w; omega)) (by first | omega | (unfold dz_w; omega)) | rfl) ?_
    refine xr_goto hc rfl (t := 18) rfl ?_
    exact h _ _ ⟨_, _, _, _, _, _, _, _, _, _, _, _, _, _, _, _, _, hl, hm, (RX_lo hX2 f3), hM3, (WF_any hW)⟩
  · exact absurd rfl b287
set_option maxRecDepth 100000 in
set_option maxHeartbeats 1000000 in
theorem L_at {xo : Nat → List Int} {Q : dz_Q} {sh : List (Nat ⊕ (Nat × Nat))} {rf : Nat → Nat → Nat} {M : Nat → Nat → Int} {i : Int} (hx1 : xo 1 = dz_xs1) (hx2 : xo 2 = dz_xs2) (hr : ∀ j, dz_in32 ((xo 0).getD j 0)) (hi : 0 ≤ i) (hL : i + 6 ≤ (xo 0).length) (hN : (xo 0).length ≤ 384) (hI : LI sh rf M) (h : ∀ rf2 M2, LI sh rf2 M2 → dz_X (dz_E dz_pp xo 60) dz_pp xo (dz_pp 220) Q 18 [some (dz_o 0), some (dz_r 0), some (dz_r 115), some (dz_i (i + 6))] [] 130 5989 (sh, rf2, M2)) : dz_X (dz_E dz_pp xo 60) dz_pp xo (dz_pp 220) Q 292 [some (dz_o 0), some (dz_r 0), some (dz_r 115), some (dz_i i)] [] 130 5989 (sh, rf, M) := by
  have hc := dz_E_m dz_pp xo 60
  obtain ⟨rs, it, ts, ch, tl, up, lo, fn, w, pl, kd, wt, nx, n, hs, kp, kh, hl, hm, hX, hM, hW⟩ := hI
  have c0 := hl.1
  have m0 := hm.1
  refine xr_aloadn hc rfl rfl ?_
  refine xr_aloadn hc rfl rfl ?_
  refine xr_iloadn hc rfl rfl ?_
  refine xr_iconst hc rfl ?_
  refine xr_iaddz hc rfl (by first | exact dz_wid (by first | omega | (unfold dz_w; omega)) (by first | omega | (unfold dz_w; omega)) | rfl) ?_
  refine xr_ialoado hc rfl (by first | omega | (unfold dz_w; omega)) (by first | omega | (unfold dz_w; omega)) ?_
  refine xr_aloadn hc rfl rfl ?_
  refine xr_iloadn hc rfl rfl ?_
  refine xr_iconst hc rfl ?_
  refine xr_iaddz hc rfl (by first | exact dz_wid (by first | omega | (unfold dz_w; omega)) (by first | omega | (unfold dz_w; omega)) | rfl) ?_
  refine xr_ialoado hc rfl (by first | omega | (unfold dz_w; omega)) (by first | omega | (unfold dz_w; omega)) ?_
  refine xr_callv2 hc rfl (by first | assumption | rfl) rfl rfl rfl (Nat.le_of_ble_eq_true rfl) (Nat.le_of_ble_eq_true rfl) (Nat.le_of_ble_eq_true rfl) ?_
  refine X_at (d := 56) hl hX hW (fun M2 f2 hX2 => ?_)
  have hM2 := RM_hi hM hW f2
  refine xk_1 ?_
  refine xr_aloadn hc rfl rfl ?_
  refine xr_aloadn hc rfl rfl ?_
  refine xr_iloadn hc rfl rfl ?_
  refine xr_iconst hc rfl ?_
  refine xr_iaddz hc rfl (by first | exact dz_wid (by first | omega | (unfold dz_w; omega)) (by first | omega | (unfold dz_w; omega)) | rfl) ?_
  refine xr_ialoado hc rfl (by first | omega | (unfold dz_w; omega)) (by first | omega | (unfold dz_w; omega)) ?_
  refine xr_aloadn hc rfl rfl ?_
  refine xr_iloadn hc rfl rfl ?_
  refine xr_iconst hc rfl ?_
  refine xr_iaddz hc rfl (by first | exact dz_wid (by first | omega | (unfold dz_w; omega)) (by first | omega | (unfold dz_w; omega)) | rfl) ?_
  refine xr_ialoado hc rfl (by first | omega | (unfold dz_w; omega)) (by first | omega | (unfold dz_w; omega)) ?_
  refine xr_callv2 hc rfl (by first | assumption | rfl) rfl rfl rfl (Nat.le_of_ble_eq_true rfl) (Nat.le_of_ble_eq_true rfl) (Nat.le_of_ble_eq_true rfl) ?_
  refine D_at (d := 56) hm hM2 hW (fun M3 f3 hM3 => ?_)
  refine xk_1 ?_
  refine xr_icmp_eq hc rfl (t := 1385) rfl (fun b320 => ?_) (fun b320 => ?_)
  · refine xr_iincz3 hc rfl rfl (by first | exact dz_wid (by first | omega | (unfold dz_w; omega)) (by first | omega | (unfold dz_w; omega)) | rfl) ?_
    refine xr_goto hc rfl (t := 18) rfl ?_
    exact h _ _ ⟨_, _, _, _, _, _, _, _, _, _, _, _, _, _, _, _, _, hl, hm, (RX_lo hX2 f3), hM3, (WF_any hW)⟩
  · exact absurd rfl b320
set_option maxRecDepth 100000 in
set_option maxHeartbeats 1000000 in
theorem L_tear {xo : Nat → List Int} {Q : dz_Q} {sh : List (Nat ⊕ (Nat × Nat))} {rf : Nat → Nat → Nat} {M : Nat → Nat → Int} {i : Int} (hx1 : xo 1 = dz_xs1) (hx2 : xo 2 = dz_xs2) (hr : ∀ j, dz_in32 ((xo 0).getD j 0)) (hi : 0 ≤ i) (hL : i + 6 ≤ (xo 0).length) (hN : (xo 0).length ≤ 384) (hI : LI sh rf M) (h : ∀ rf2 M2, LI sh rf2 M2 → dz_X (dz_E dz_pp xo 60) dz_pp xo (dz_pp 220) Q 18 [some (dz_o 0), some (dz_r 0), some (dz_r 115), some (dz_i (i + 6))] [] 130 5989 (sh, rf2, M2)) : dz_X (dz_E dz_pp xo 60) dz_pp xo (dz_pp 220) Q 325 [some (dz_o 0), some (dz_r 0), some (dz_r 115), some (dz_i i)] [] 130 5989 (sh, rf, M) := by
  have hc := dz_E_m dz_pp xo 60
  obtain ⟨rs, it, ts, ch, tl, up, lo, fn, w, pl, kd, wt, nx, n, hs, kp, kh, hl, hm, hX, hM, hW⟩ := hI
  have c0 := hl.1
  have m0 := hm.1
  refine xr_aloadn hc rfl rfl ?_
  refine xr_aloadn hc rfl rfl ?_
  refine xr_iloadn hc rfl rfl ?_
  refine xr_iconst hc rfl ?_
  refine xr_iaddz hc rfl (by first | exact dz_wid (by first | omega | (unfold dz_w; omega)) (by first | omega | (unfold dz_w; omega)) | rfl) ?_
  refine xr_ialoado hc rfl (by first | omega | (unfold dz_w; omega)) (by first | omega | (unfold dz_w; omega)) ?_
  refine xr_callv1 hc rfl (by first | assumption | rfl) rfl rfl rfl (Nat.le_of_ble_eq_true rfl) (Nat.le_of_ble_eq_true rfl) (Nat.le_of_ble_eq_true rfl) ?_
  refine X_tear (d := 57) hl hX hW (fun M2 f2 hX2 => ?_)
  have hM2 := RM_hi hM hW f2
  refine xk_1 ?_
  refine xr_aloadn hc rfl rfl ?_
  refine xr_aloadn hc rfl rfl ?_
  refine xr_iloadn hc rfl rfl ?_
  refine xr_iconst hc rfl ?_
  refine xr_iaddz hc rfl (by first | exact dz_wid (by first | omega | (unfold dz_w; omega)) (by first | omega | (unfold dz_w; omega)) | rfl) ?_
  refine xr_ialoado hc rfl (by first | omega | (unfold dz_w; omega)) (by first | omega | (unfold dz_w; omega)) ?_
  refine xr_callv1 hc rfl (by first | assumption | rfl) rfl rfl rfl (Nat.le_of_ble_eq_true rfl) (Nat.le_of_ble_eq_true rfl) (Nat.le_of_ble_eq_true rfl) ?_
  refine D_tear (d := 57) hm hM2 hW (fun M3 f3 hM3 => ?_)
  refine xk_1 ?_
  refine xr_icmp_eq hc rfl (t := 1385) rfl (fun b343 => ?_) (fun b343 => ?_)
  · refine xr_iincz3 hc rfl rfl (by first | exact dz_wid (by first | omega | (unfold dz_w; omega)) (by first | omega | (unfold dz_w; omega)) | rfl) ?_
    refine xr_goto hc rfl (t := 18) rfl ?_
    exact h _ _ ⟨_, _, _, _, _, _, _, _, _, _, _, _, _, _, _, _, _, hl, hm, (RX_lo hX2 f3), hM3, (WF_tear hW)⟩
  · exact absurd rfl b343
set_option maxRecDepth 100000 in
set_option maxHeartbeats 1000000 in
theorem L_copy {xo : Nat → List Int} {Q : dz_Q} {sh : List (Nat ⊕ (Nat × Nat))} {rf : Nat → Nat → Nat} {M : Nat → Nat → Int} {i : Int} (hx1 : xo 1 = dz_xs1) (hx2 : xo 2 = dz_xs2) (hr : ∀ j, dz_in32 ((xo 0).getD j 0)) (hi : 0 ≤ i) (hL : i + 6 ≤ (xo 0).length) (hN : (xo 0).length ≤ 384) (hI : LI sh rf M) (h : ∀ rf2 M2, LI sh rf2 M2 → dz_X (dz_E dz_pp xo 60) dz_pp xo (dz_pp 220) Q 18 [some (dz_o 0), some (dz_r 0), some (dz_r 115), some (dz_i (i + 6))] [] 130 5989 (sh, rf2, M2)) : dz_X (dz_E dz_pp xo 60) dz_pp xo (dz_pp 220) Q 348 [some (dz_o 0), some (dz_r 0), some (dz_r 115), some (dz_i i)] [] 130 5989 (sh, rf, M) := by
  have hc := dz_E_m dz_pp xo 60
  obtain ⟨rs, it, ts, ch, tl, up, lo, fn, w, pl, kd, wt, nx, n, hs, kp, kh, hl, hm, hX, hM, hW⟩ := hI
  have c0 := hl.1
  have m0 := hm.1
  refine xr_aloadn hc rfl rfl ?_
  refine xr_aloadn hc rfl rfl ?_
  refine xr_iloadn hc rfl rfl ?_
  refine xr_iconst hc rfl ?_
  refine xr_iaddz hc rfl (by first | exact dz_wid (by first | omega | (unfold dz_w; omega)) (by first | omega | (unfold dz_w; omega)) | rfl) ?_
  refine xr_ialoado hc rfl (by first | omega | (unfold dz_w; omega)) (by first | omega | (unfold dz_w; omega)) ?_
  refine xr_aloadn hc rfl rfl ?_
  refine xr_iloadn hc rfl rfl ?_
  refine xr_iconst hc rfl ?_
  refine xr_iaddz hc rfl (by first | exact dz_wid (by first | omega | (unfold dz_w; omega)) (by first | omega | (unfold dz_w; omega)) | rfl) ?_
  refine xr_ialoado hc rfl (by first | omega | (unfold dz_w; omega)) (by first | omega | (unfold dz_w; omega)) ?_
  refine xr_aloadn hc rfl rfl ?_
  refine xr_iloadn hc rfl rfl ?_
  refine xr_iconst hc rfl ?_
  refine xr_iaddz hc rfl (by first | exact dz_wid (by first | omega | (unfold dz_w; omega)) (by first | omega | (unfold dz_w; omega)) | rfl) ?_
  refine xr_ialoado hc rfl (by first | omega | (unfold dz_w; omega)) (by first | omega | (unfold dz_w; omega)) ?_
  refine xr_aloadn hc rfl rfl ?_
  refine xr_iloadn hc rfl rfl ?_
  refine xr_iconst hc rfl ?_
  refine xr_iaddz hc rfl (by first | exact dz_wid (by first | omega | (unfold dz_w; omega)) (by first | omega | (unfold dz_w; omega)) | rfl) ?_
  refine xr_ialoado hc rfl (by first | omega | (unfold dz_w; omega)) (by first | omega | (unfold dz_w; omega)) ?_
  refine xr_aloadn hc rfl rfl ?_
  refine xr_iloadn hc rfl rfl ?_
  refine xr_iconst hc rfl ?_
  refine xr_iaddz hc rfl (by first | exact dz_wid (by first | omega | (unfold dz_w; omega)) (by first | omega | (unfold dz_w; omega)) | rfl) ?_
  refine xr_ialoado hc rfl (by first | omega | (unfold dz_w; omega)) (by first | omega | (unfold dz_w; omega)) ?_
  refine xr_callv5 hc rfl (by first | assumption | rfl) rfl rfl rfl (Nat.le_of_ble_eq_true rfl) (Nat.le_of_ble_eq_true rfl) (Nat.le_of_ble_eq_true rfl) ?_
  refine X_copy (d := 57) hl hX hW (hr _) (hr _) (hr _) (fun M2 f2 hX2 => ?_)
  have hM2 := RM_hi hM hW f2
  refine xk_1 ?_
  refine xr_aloadn hc rfl rfl ?_
  refine xr_aloadn hc rfl rfl ?_
  refine xr_iloadn hc rfl rfl ?_
  refine xr_iconst hc rfl ?_
  refine xr_iaddz hc rfl (by first | exact dz_wid (by first | omega | (unfold dz_w; omega)) (by first | omega | (unfold dz_w; omega)) | rfl) ?_
  refine xr_ialoado hc rfl (by first | omega | (unfold dz_w; omega)) (by first | omega | (unfold dz_w; omega)) ?_
  refine xr_aloadn hc rfl rfl ?_
  refine xr_iloadn hc rfl rfl ?_
  refine xr_iconst hc rfl ?_
  refine xr_iaddz hc rfl (by first | exact dz_wid (by first | omega | (unfold dz_w; omega)) (by first | omega | (unfold dz_w; omega)) | rfl) ?_
  refine xr_ialoado hc rfl (by first | omega | (unfold dz_w; omega)) (by first | omega | (unfold dz_w; omega)) ?_
  refine xr_aloadn hc rfl rfl ?_
  refine xr_iloadn hc rfl rfl ?_
  refine xr_iconst hc rfl ?_
  refine xr_iaddz hc rfl (by first | exact dz_wid (by first | omega | (unfold dz_w; omega)) (by first | omega | (unfold dz_w; omega)) | rfl) ?_
  refine xr_ialoado hc rfl (by first | omega | (unfold dz_w; omega)) (by first | omega | (unfold dz_w; omega)) ?_
  refine xr_aloadn hc rfl rfl ?_
  refine xr_iloadn hc rfl rfl ?_
  refine xr_iconst hc rfl ?_
  refine xr_iaddz hc rfl (by first | exact dz_wid (by first | omega | (unfold dz_w; omega)) (by first | omega | (unfold dz_w; omega)) | rfl) ?_
  refine xr_ialoado hc rfl (by first | omega | (unfold dz_w; omega)) (by first | omega | (unfold dz_w; omega)) ?_
  refine xr_aloadn hc rfl rfl ?_
  refine xr_iloadn hc rfl rfl ?_
  refine xr_iconst hc rfl ?_
  refine xr_iaddz hc rfl (by first | exact dz_wid (by first | omega | (unfold dz_w; omega)) (by first | omega | (unfold dz_w; omega)) | rfl) ?_
  refine xr_ialoado hc rfl (by first | omega | (unfold dz_w; omega)) (by first | omega | (unfold dz_w; omega)) ?_
  refine xr_callv5 hc rfl (by first | assumption | rfl) rfl rfl rfl (Nat.le_of_ble_eq_true rfl) (Nat.le_of_ble_eq_true rfl) (Nat.le_of_ble_eq_true rfl) ?_
  refine D_copy (d := 57) hm hM2 hW (hr _) (hr _) (hr _) (fun M3 f3 hM3 => ?_)
  refine xk_1 ?_
  refine xr_icmp_eq hc rfl (t := 1385) rfl (fun b406 => ?_) (fun b406 => ?_)
  · refine xr_iincz3 hc rfl rfl (by first | exact dz_wid (by first | omega | (unfold dz_w; omega)) (by first | omega | (unfold dz_w; omega)) | rfl) ?_
    refine xr_goto hc rfl (t := 18) rfl ?_
    exact h _ _ ⟨_, _, _, _, _, _, _, _, _, _, _, _, _, _, _, _, _, hl, hm, (RX_lo hX2 f3), hM3, (WF_any hW)⟩
  · exact absurd rfl b406
set_option maxRecDepth 100000 in
set_option maxHeartbeats 1000000 in
theorem L_mean {xo : Nat → List Int} {Q : dz_Q} {sh : List (Nat ⊕ (Nat × Nat))} {rf : Nat → Nat → Nat} {M : Nat → Nat → Int} {i : Int} (hx1 : xo 1 = dz_xs1) (hx2 : xo 2 = dz_xs2) (hr : ∀ j, dz_in32 ((xo 0).getD j 0)) (hi : 0 ≤ i) (hL : i + 6 ≤ (xo 0).length) (hN : (xo 0).length ≤ 384) (hI : LI sh rf M) (h : ∀ rf2 M2, LI sh rf2 M2 → dz_X (dz_E dz_pp xo 60) dz_pp xo (dz_pp 220) Q 18 [some (dz_o 0), some (dz_r 0), some (dz_r 115), some (dz_i (i + 6))] [] 130 5989 (sh, rf2, M2)) : dz_X (dz_E dz_pp xo 60) dz_pp xo (dz_pp 220) Q 411 [some (dz_o 0), some (dz_r 0), some (dz_r 115), some (dz_i i)] [] 130 5989 (sh, rf, M) := by
  have hc := dz_E_m dz_pp xo 60
  obtain ⟨rs, it, ts, ch, tl, up, lo, fn, w, pl, kd, wt, nx, n, hs, kp, kh, hl, hm, hX, hM, hW⟩ := hI
  have c0 := hl.1
  have m0 := hm.1
  refine xr_aloadn hc rfl rfl ?_
  refine xr_aloadn hc rfl rfl ?_
  refine xr_iloadn hc rfl rfl ?_
  refine xr_iconst hc rfl ?_
  refine xr_iaddz hc rfl (by first | exact dz_wid (by first | omega | (unfold dz_w; omega)) (by first | omega | (unfold dz_w; omega)) | rfl) ?_
  refine xr_ialoado hc rfl (by first | omega | (unfold dz_w; omega)) (by first | omega | (unfold dz_w; omega)) ?_
  refine xr_callv1 hc rfl (by first | assumption | rfl) rfl rfl rfl (Nat.le_of_ble_eq_true rfl) (Nat.le_of_ble_eq_true rfl) (Nat.le_of_ble_eq_true rfl) ?_
  refine X_mean (d := 57) hl hX hW (fun M2 f2 hX2 => ?_)
  have hM2 := RM_hi hM hW f2
  refine xk_1 ?_
  refine xr_aloadn hc rfl rfl ?_
  refine xr_aloadn hc rfl rfl ?_
  refine xr_iloadn hc rfl rfl ?_
  refine xr_iconst hc rfl ?_
  refine xr_iaddz hc rfl (by first | exact dz_wid (by first | omega | (unfold dz_w; omega)) (by first | omega | (unfold dz_w; omega)) | rfl) ?_
  refine xr_ialoado hc rfl (by first | omega | (unfold dz_w; omega)) (by first | omega | (unfold dz_w; omega)) ?_
  refine xr_callv1 hc rfl (by first | assumption | rfl) rfl rfl rfl (Nat.le_of_ble_eq_true rfl) (Nat.le_of_ble_eq_true rfl) (Nat.le_of_ble_eq_true rfl) ?_
  refine D_mean (d := 57) hm hM2 hW (fun M3 f3 hM3 => ?_)
  refine xk_1 ?_
  refine xr_icmp_eq hc rfl (t := 1385) rfl (fun b429 => ?_) (fun b429 => ?_)
  · refine xr_iincz3 hc rfl rfl (by first | exact dz_wid (by first | omega | (unfold dz_w; omega)) (by first | omega | (unfold dz_w; omega)) | rfl) ?_
    refine xr_goto hc rfl (t := 18) rfl ?_
    exact h _ _ ⟨_, _, _, _, _, _, _, _, _, _, _, _, _, _, _, _, _, hl, hm, (RX_lo hX2 f3), hM3, (WF_any hW)⟩
  · exact absurd rfl b429
set_option maxRecDepth 100000 in
set_option maxHeartbeats 1000000 in
theorem L_text {xo : Nat → List Int} {Q : dz_Q} {sh : List (Nat ⊕ (Nat × Nat))} {rf : Nat → Nat → Nat} {M : Nat → Nat → Int} {i : Int} (hx1 : xo 1 = dz_xs1) (hx2 : xo 2 = dz_xs2) (hr : ∀ j, dz_in32 ((xo 0).getD j 0)) (hi : 0 ≤ i) (hL : i + 6 ≤ (xo 0).length) (hN : (xo 0).length ≤ 384) (hI : LI sh rf M) (h : ∀ rf2 M2, LI sh rf2 M2 → dz_X (dz_E dz_pp xo 60) dz_pp xo (dz_pp 220) Q 18 [some (dz_o 0), some (dz_r 0), some (dz_r 115), some (dz_i (i + 6))] [] 130 5989 (sh, rf2, M2)) : dz_X (dz_E dz_pp xo 60) dz_pp xo (dz_pp 220) Q 434 [some (dz_o 0), some (dz_r 0), some (dz_r 115), some (dz_i i)] [] 130 5989 (sh, rf, M) := by
  have hc := dz_E_m dz_pp xo 60
  obtain ⟨rs, it, ts, ch, tl, up, lo, fn, w, pl, kd, wt, nx, n, hs, kp, kh, hl, hm, hX, hM, hW⟩ := hI
  have c0 := hl.1
  have m0 := hm.1
  refine xr_aloadn hc rfl rfl ?_
  refine xr_aloadn hc rfl rfl ?_
  refine xr_iloadn hc rfl rfl ?_
  refine xr_iconst hc rfl ?_
  refine xr_iaddz hc rfl (by first | exact dz_wid (by first | omega | (unfold dz_w; omega)) (by first | omega | (unfold dz_w; omega)) | rfl) ?_
  refine xr_ialoado hc rfl (by first | omega | (unfold dz_w; omega)) (by first | omega | (unfold dz_w; omega)) ?_
  refine xr_aloadn hc rfl rfl ?_
  refine xr_iloadn hc rfl rfl ?_
  refine xr_iconst hc rfl ?_
  refine xr_iaddz hc rfl (by first | exact dz_wid (by first | omega | (unfold dz_w; omega)) (by first | omega | (unfold dz_w; omega)) | rfl) ?_
  refine xr_ialoado hc rfl (by first | omega | (unfold dz_w; omega)) (by first | omega | (unfold dz_w; omega)) ?_
  refine xr_callv2 hc rfl (by first | assumption | rfl) rfl rfl rfl (Nat.le_of_ble_eq_true rfl) (Nat.le_of_ble_eq_true rfl) (Nat.le_of_ble_eq_true rfl) ?_
  refine X_text (d := 57) hl hX hW (fun M2 f2 hX2 => ?_)
  have hM2 := RM_hi hM hW f2
  refine xk_1 ?_
  refine xr_aloadn hc rfl rfl ?_
  refine xr_aloadn hc rfl rfl ?_
  refine xr_iloadn hc rfl rfl ?_
  refine xr_iconst hc rfl ?_
  refine xr_iaddz hc rfl (by first | exact dz_wid (by first | omega | (unfold dz_w; omega)) (by first | omega | (unfold dz_w; omega)) | rfl) ?_
  refine xr_ialoado hc rfl (by first | omega | (unfold dz_w; omega)) (by first | omega | (unfold dz_w; omega)) ?_
  refine xr_aloadn hc rfl rfl ?_
  refine xr_iloadn hc rfl rfl ?_
  refine xr_iconst hc rfl ?_
  refine xr_iaddz hc rfl (by first | exact dz_wid (by first | omega | (unfold dz_w; omega)) (by first | omega | (unfold dz_w; omega)) | rfl) ?_
  refine xr_ialoado hc rfl (by first | omega | (unfold dz_w; omega)) (by first | omega | (unfold dz_w; omega)) ?_
  refine xr_callv2 hc rfl (by first | assumption | rfl) rfl rfl rfl (Nat.le_of_ble_eq_true rfl) (Nat.le_of_ble_eq_true rfl) (Nat.le_of_ble_eq_true rfl) ?_
  refine D_text (d := 57) hm hM2 hW (fun M3 f3 hM3 => ?_)
  refine xk_1 ?_
  refine xr_icmp_eq hc rfl (t := 1385) rfl (fun b462 => ?_) (fun b462 => ?_)
  · refine xr_iincz3 hc rfl rfl (by first | exact dz_wid (by first | omega | (unfold dz_w; omega)) (by first | omega | (unfold dz_w; omega)) | rfl) ?_
    refine xr_goto hc rfl (t := 18) rfl ?_
    exact h _ _ ⟨_, _, _, _, _, _, _, _, _, _, _, _, _, _, _, _, _, hl, hm, (RX_lo hX2 f3), hM3, (WF_text hW)⟩
  · exact absurd rfl b462
set_option maxRecDepth 100000 in
set_option maxHeartbeats 1000000 in
theorem L_put {xo : Nat → List Int} {Q : dz_Q} {sh : List (Nat ⊕ (Nat × Nat))} {rf : Nat → Nat → Nat} {M : Nat → Nat → Int} {i : Int} (hx1 : xo 1 = dz_xs1) (hx2 : xo 2 = dz_xs2) (hr : ∀ j, dz_in32 ((xo 0).getD j 0)) (hi : 0 ≤ i) (hL : i + 6 ≤ (xo 0).length) (hN : (xo 0).length ≤ 384) (hI : LI sh rf M) (h : ∀ rf2 M2, LI sh rf2 M2 → dz_X (dz_E dz_pp xo 60) dz_pp xo (dz_pp 220) Q 18 [some (dz_o 0), some (dz_r 0), some (dz_r 115), some (dz_i (i + 6))] [] 130 5989 (sh, rf2, M2)) : dz_X (dz_E dz_pp xo 60) dz_pp xo (dz_pp 220) Q 467 [some (dz_o 0), some (dz_r 0), some (dz_r 115), some (dz_i i)] [] 130 5989 (sh, rf, M) := by
  have hc := dz_E_m dz_pp xo 60
  obtain ⟨rs, it, ts, ch, tl, up, lo, fn, w, pl, kd, wt, nx, n, hs, kp, kh, hl, hm, hX, hM, hW⟩ := hI
  have c0 := hl.1
  have m0 := hm.1
  refine xr_aloadn hc rfl rfl ?_
  refine xr_aloadn hc rfl rfl ?_
  refine xr_iloadn hc rfl rfl ?_
  refine xr_iconst hc rfl ?_
  refine xr_iaddz hc rfl (by first | exact dz_wid (by first | omega | (unfold dz_w; omega)) (by first | omega | (unfold dz_w; omega)) | rfl) ?_
  refine xr_ialoado hc rfl (by first | omega | (unfold dz_w; omega)) (by first | omega | (unfold dz_w; omega)) ?_
  refine xr_aloadn hc rfl rfl ?_
  refine xr_iloadn hc rfl rfl ?_
  refine xr_iconst hc rfl ?_
  refine xr_iaddz hc rfl (by first | exact dz_wid (by first | omega | (unfold dz_w; omega)) (by first | omega | (unfold dz_w; omega)) | rfl) ?_
  refine xr_ialoado hc rfl (by first | omega | (unfold dz_w; omega)) (by first | omega | (unfold dz_w; omega)) ?_
  refine xr_aloadn hc rfl rfl ?_
  refine xr_iloadn hc rfl rfl ?_
  refine xr_iconst hc rfl ?_
  refine xr_iaddz hc rfl (by first | exact dz_wid (by first | omega | (unfold dz_w; omega)) (by first | omega | (unfold dz_w; omega)) | rfl) ?_
  refine xr_ialoado hc rfl (by first | omega | (unfold dz_w; omega)) (by first | omega | (unfold dz_w; omega)) ?_
  refine xr_callv3 hc rfl (by first | assumption | rfl) rfl rfl rfl (Nat.le_of_ble_eq_true rfl) (Nat.le_of_ble_eq_true rfl) (Nat.le_of_ble_eq_true rfl) ?_
  refine X_put (d := 57) hl hX hW (fun M2 f2 hX2 => ?_)
  have hM2 := RM_hi hM hW f2
  refine xk_1 ?_
  refine xr_aloadn hc rfl rfl ?_
  refine xr_aloadn hc rfl rfl ?_
  refine xr_iloadn hc rfl rfl ?_
  refine xr_iconst hc rfl ?_
  refine xr_iaddz hc rfl (by first | exact dz_wid (by first | omega | (unfold dz_w; omega)) (by first | omega | (unfold dz_w; omega)) | rfl) ?_
  refine xr_ialoado hc rfl (by first | omega | (unfold dz_w; omega)) (by first | omega | (unfold dz_w; omega)) ?_
  refine xr_aloadn hc rfl rfl ?_
  refine xr_iloadn hc rfl rfl ?_
  refine xr_iconst hc rfl ?_
  refine xr_iaddz hc rfl (by first | exact dz_wid (by first | omega | (unfold dz_w; omega)) (by first | omega | (unfold dz_w; omega)) | rfl) ?_
  refine xr_ialoado hc rfl (by first | omega | (unfold dz_w; omega)) (by first | omega | (unfold dz_w; omega)) ?_
  refine xr_aloadn hc rfl rfl ?_
  refine xr_iloadn hc rfl rfl ?_
  refine xr_iconst hc rfl ?_
  refine xr_iaddz hc rfl (by first | exact dz_wid (by first | omega | (unfold dz_w; omega)) (by first | omega | (unfold dz_w; omega)) | rfl) ?_
  refine xr_ialoado hc rfl (by first | omega | (unfold dz_w; omega)) (by first | omega | (unfold dz_w; omega)) ?_
  refine xr_callv3 hc rfl (by first | assumption | rfl) rfl rfl rfl (Nat.le_of_ble_eq_true rfl) (Nat.le_of_ble_eq_true rfl) (Nat.le_of_ble_eq_true rfl) ?_
  refine D_put (d := 57) hm hM2 hW (fun M3 f3 hM3 => ?_)
  refine xk_1 ?_
  refine xr_icmp_eq hc rfl (t := 1385) rfl (fun b505 => ?_) (fun b505 => ?_)
  · refine xr_iincz3 hc rfl rfl (by first | exact dz_wid (by first | omega | (unfold dz_w; omega)) (by first | omega | (unfold dz_w; omega)) | rfl) ?_
    refine xr_goto hc rfl (t := 18) rfl ?_
    exact h _ _ ⟨_, _, _, _, _, _, _, _, _, _, _, _, _, _, _, _, _, hl, hm, (RX_lo hX2 f3), hM3, (WF_put hW)⟩
  · exact absurd rfl b505
set_option maxRecDepth 100000 in
set_option maxHeartbeats 1000000 in
theorem L_fault {xo : Nat → List Int} {Q : dz_Q} {sh : List (Nat ⊕ (Nat × Nat))} {rf : Nat → Nat → Nat} {M : Nat → Nat → Int} {i : Int} (hx1 : xo 1 = dz_xs1) (hx2 : xo 2 = dz_xs2) (hr : ∀ j, dz_in32 ((xo 0).getD j 0)) (hi : 0 ≤ i) (hL : i + 6 ≤ (xo 0).length) (hN : (xo 0).length ≤ 384) (hI : LI sh rf M) (h : ∀ rf2 M2, LI sh rf2 M2 → dz_X (dz_E dz_pp xo 60) dz_pp xo (dz_pp 220) Q 18 [some (dz_o 0), some (dz_r 0), some (dz_r 115), some (dz_i (i + 6))] [] 130 5989 (sh, rf2, M2)) : dz_X (dz_E dz_pp xo 60) dz_pp xo (dz_pp 220) Q 510 [some (dz_o 0), some (dz_r 0), some (dz_r 115), some (dz_i i)] [] 130 5989 (sh, rf, M) := by
  have hc := dz_E_m dz_pp xo 60
  obtain ⟨rs, it, ts, ch, tl, up, lo, fn, w, pl, kd, wt, nx, n, hs, kp, kh, hl, hm, hX, hM, hW⟩ := hI
  have c0 := hl.1
  have m0 := hm.1
  refine xr_aloadn hc rfl rfl ?_
  refine xr_aloadn hc rfl rfl ?_
  refine xr_iloadn hc rfl rfl ?_
  refine xr_iconst hc rfl ?_
  refine xr_iaddz hc rfl (by first | exact dz_wid (by first | omega | (unfold dz_w; omega)) (by first | omega | (unfold dz_w; omega)) | rfl) ?_
  refine xr_ialoado hc rfl (by first | omega | (unfold dz_w; omega)) (by first | omega | (unfold dz_w; omega)) ?_
  refine xr_callv1 hc rfl (by first | assumption | rfl) rfl rfl rfl (Nat.le_of_ble_eq_true rfl) (Nat.le_of_ble_eq_true rfl) (Nat.le_of_ble_eq_true rfl) ?_
  refine X_fault (d := 54) hx1 hl hX hW (fun M2 rf2 hl2 hm2 f2 hX2 => ?_)
  have hm3 := hm2 hm
  have hM2 := RM_hi hM hW f2
  refine xk_1 ?_
  refine xr_aloadn hc rfl rfl ?_
  refine xr_aloadn hc rfl rfl ?_
  refine xr_iloadn hc rfl rfl ?_
  refine xr_iconst hc rfl ?_
  refine xr_iaddz hc rfl (by first | exact dz_wid (by first | omega | (unfold dz_w; omega)) (by first | omega | (unfold dz_w; omega)) | rfl) ?_
  refine xr_ialoado hc rfl (by first | omega | (unfold dz_w; omega)) (by first | omega | (unfold dz_w; omega)) ?_
  refine xr_callv1 hc rfl (by first | assumption | rfl) rfl rfl rfl (Nat.le_of_ble_eq_true rfl) (Nat.le_of_ble_eq_true rfl) (Nat.le_of_ble_eq_true rfl) ?_
  refine D_fault (d := 54) hm3 hM2 hW (fun M3 f3 hM3 => ?_)
  refine xk_1 ?_
  refine xr_icmp_eq hc rfl (t := 1385) rfl (fun b528 => ?_) (fun b528 => ?_)
  · refine xr_iincz3 hc rfl rfl (by first | exact dz_wid (by first | omega | (unfold dz_w; omega)) (by first | omega | (unfold dz_w; omega)) | rfl) ?_
    refine xr_goto hc rfl (t := 18) rfl ?_
    exact h _ _ ⟨_, _, _, _, _, _, _, _, _, _, _, _, _, _, _, _, _, hl2, hm3, (RX_lo hX2 f3), hM3, (WF_any hW)⟩
  · exact absurd rfl b528
set_option maxRecDepth 100000 in
set_option maxHeartbeats 1000000 in
theorem L_drum {xo : Nat → List Int} {Q : dz_Q} {sh : List (Nat ⊕ (Nat × Nat))} {rf : Nat → Nat → Nat} {M : Nat → Nat → Int} {i : Int} (hx1 : xo 1 = dz_xs1) (hx2 : xo 2 = dz_xs2) (hr : ∀ j, dz_in32 ((xo 0).getD j 0)) (hi : 0 ≤ i) (hL : i + 6 ≤ (xo 0).length) (hN : (xo 0).length ≤ 384) (hI : LI sh rf M) (h : ∀ rf2 M2, LI sh rf2 M2 → dz_X (dz_E dz_pp xo 60) dz_pp xo (dz_pp 220) Q 18 [some (dz_o 0), some (dz_r 0), some (dz_r 115), some (dz_i (i + 6))] [] 130 5989 (sh, rf2, M2)) : dz_X (dz_E dz_pp xo 60) dz_pp xo (dz_pp 220) Q 533 [some (dz_o 0), some (dz_r 0), some (dz_r 115), some (dz_i i)] [] 130 5989 (sh, rf, M) := by
  have hc := dz_E_m dz_pp xo 60
  obtain ⟨rs, it, ts, ch, tl, up, lo, fn, w, pl, kd, wt, nx, n, hs, kp, kh, hl, hm, hX, hM, hW⟩ := hI
  have c0 := hl.1
  have m0 := hm.1
  refine xr_aloadn hc rfl rfl ?_
  refine xr_aloadn hc rfl rfl ?_
  refine xr_iloadn hc rfl rfl ?_
  refine xr_iconst hc rfl ?_
  refine xr_iaddz hc rfl (by first | exact dz_wid (by first | omega | (unfold dz_w; omega)) (by first | omega | (unfold dz_w; omega)) | rfl) ?_
  refine xr_ialoado hc rfl (by first | omega | (unfold dz_w; omega)) (by first | omega | (unfold dz_w; omega)) ?_
  refine xr_callv1 hc rfl (by first | assumption | rfl) rfl rfl rfl (Nat.le_of_ble_eq_true rfl) (Nat.le_of_ble_eq_true rfl) (Nat.le_of_ble_eq_true rfl) ?_
  refine X_drum (d := 53) hx1 hl hX hW (fun M2 rf2 hl2 hm2 f2 hX2 => ?_)
  have hm3 := hm2 hm
  have hM2 := RM_hi hM hW f2
  refine xk_1 ?_
  refine xr_aloadn hc rfl rfl ?_
  refine xr_aloadn hc rfl rfl ?_
  refine xr_iloadn hc rfl rfl ?_
  refine xr_iconst hc rfl ?_
  refine xr_iaddz hc rfl (by first | exact dz_wid (by first | omega | (unfold dz_w; omega)) (by first | omega | (unfold dz_w; omega)) | rfl) ?_
  refine xr_ialoado hc rfl (by first | omega | (unfold dz_w; omega)) (by first | omega | (unfold dz_w; omega)) ?_
  refine xr_callv1 hc rfl (by first | assumption | rfl) rfl rfl rfl (Nat.le_of_ble_eq_true rfl) (Nat.le_of_ble_eq_true rfl) (Nat.le_of_ble_eq_true rfl) ?_
  refine D_drum (d := 54) hm3 hM2 hW (fun M3 f3 hM3 => ?_)
  refine xk_1 ?_
  refine xr_icmp_eq hc rfl (t := 1385) rfl (fun b551 => ?_) (fun b551 => ?_)
  · refine xr_iincz3 hc rfl rfl (by first | exact dz_wid (by first | omega | (unfold dz_w; omega)) (by first | omega | (unfold dz_w; omega)) | rfl) ?_
    refine xr_goto hc rfl (t := 18) rfl ?_
    exact h _ _ ⟨_, _, _, _, _, _, _, _, _, _, _, _, _, _, _, _, _, hl2, hm3, (RX_lo hX2 f3), hM3, (WF_drum hW)⟩
  · exact absurd rfl b551
set_option maxRecDepth 100000 in
set_option maxHeartbeats 1000000 in
theorem L_word {xo : Nat → List Int} {Q : dz_Q} {sh : List (Nat ⊕ (Nat × Nat))} {rf : Nat → Nat → Nat} {M : Nat → Nat → Int} {i : Int} (hx1 : xo 1 = dz_xs1) (hx2 : xo 2 = dz_xs2) (hr : ∀ j, dz_in32 ((xo 0).getD j 0)) (hi : 0 ≤ i) (hL : i + 6 ≤ (xo 0).length) (hN : (xo 0).length ≤ 384) (hI : LI sh rf M) (h : ∀ rf2 M2, LI sh rf2 M2 → dz_X (dz_E dz_pp xo 60) dz_pp xo (dz_pp 220) Q 18 [some (dz_o 0), some (dz_r 0), some (dz_r 115), some (dz_i (i + 6))] [] 130 5989 (sh, rf2, M2)) : dz_X (dz_E dz_pp xo 60) dz_pp xo (dz_pp 220) Q 556 [some (dz_o 0), some (dz_r 0), some (dz_r 115), some (dz_i i)] [] 130 5989 (sh, rf, M) := by
  have hc := dz_E_m dz_pp xo 60
  obtain ⟨rs, it, ts, ch, tl, up, lo, fn, w, pl, kd, wt, nx, n, hs, kp, kh, hl, hm, hX, hM, hW⟩ := hI
  have c0 := hl.1
  have m0 := hm.1
  refine xr_aloadn hc rfl rfl ?_
  refine xr_aloadn hc rfl rfl ?_
  refine xr_iloadn hc rfl rfl ?_
  refine xr_iconst hc rfl ?_
  refine xr_iaddz hc rfl (by first | exact dz_wid (by first | omega | (unfold dz_w; omega)) (by first | omega | (unfold dz_w; omega)) | rfl) ?_
  refine xr_ialoado hc rfl (by first | omega | (unfold dz_w; omega)) (by first | omega | (unfold dz_w; omega)) ?_
  refine xr_aloadn hc rfl rfl ?_
  refine xr_iloadn hc rfl rfl ?_
  refine xr_iconst hc rfl ?_
  refine xr_iaddz hc rfl (by first | exact dz_wid (by first | omega | (unfold dz_w; omega)) (by first | omega | (unfold dz_w; omega)) | rfl) ?_
  refine xr_ialoado hc rfl (by first | omega | (unfold dz_w; omega)) (by first | omega | (unfold dz_w; omega)) ?_
  refine xr_callv2 hc rfl (by first | assumption | rfl) rfl rfl rfl (Nat.le_of_ble_eq_true rfl) (Nat.le_of_ble_eq_true rfl) (Nat.le_of_ble_eq_true rfl) ?_
  refine X_word (d := 57) hl hX hW (fun M2 f2 hX2 => ?_)
  have hM2 := RM_hi hM hW f2
  refine xk_1 ?_
  refine xr_aloadn hc rfl rfl ?_
  refine xr_aloadn hc rfl rfl ?_
  refine xr_iloadn hc rfl rfl ?_
  refine xr_iconst hc rfl ?_
  refine xr_iaddz hc rfl (by first | exact dz_wid (by first | omega | (unfold dz_w; omega)) (by first | omega | (unfold dz_w; omega)) | rfl) ?_
  refine xr_ialoado hc rfl (by first | omega | (unfold dz_w; omega)) (by first | omega | (unfold dz_w; omega)) ?_
  refine xr_aloadn hc rfl rfl ?_
  refine xr_iloadn hc rfl rfl ?_
  refine xr_iconst hc rfl ?_
  refine xr_iaddz hc rfl (by first | exact dz_wid (by first | omega | (unfold dz_w; omega)) (by first | omega | (unfold dz_w; omega)) | rfl) ?_
  refine xr_ialoado hc rfl (by first | omega | (unfold dz_w; omega)) (by first | omega | (unfold dz_w; omega)) ?_
  refine xr_callv2 hc rfl (by first | assumption | rfl) rfl rfl rfl (Nat.le_of_ble_eq_true rfl) (Nat.le_of_ble_eq_true rfl) (Nat.le_of_ble_eq_true rfl) ?_
  refine D_word (d := 57) hm hM2 hW (fun M3 f3 hM3 => ?_)
  refine xk_1 ?_
  refine xr_icmp_eq hc rfl (t := 1385) rfl (fun b584 => ?_) (fun b584 => ?_)
  · refine xr_iincz3 hc rfl rfl (by first | exact dz_wid (by first | omega | (unfold dz_w; omega)) (by first | omega | (unfold dz_w; omega)) | rfl) ?_
    refine xr_goto hc rfl (t := 18) rfl ?_
    exact h _ _ ⟨_, _, _, _, _, _, _, _, _, _, _, _, _, _, _, _, _, hl, hm, (RX_lo hX2 f3), hM3, (WF_any hW)⟩
  · exact absurd rfl b584
set_option maxRecDepth 100000 in
set_option maxHeartbeats 1000000 in
theorem L_mark {xo : Nat → List Int} {Q : dz_Q} {sh : List (Nat ⊕ (Nat × Nat))} {rf : Nat → Nat → Nat} {M : Nat → Nat → Int} {i : Int} (hx1 : xo 1 = dz_xs1) (hx2 : xo 2 = dz_xs2) (hr : ∀ j, dz_in32 ((xo 0).getD j 0)) (hi : 0 ≤ i) (hL : i + 6 ≤ (xo 0).length) (hN : (xo 0).length ≤ 384) (hI : LI sh rf M) (h : ∀ rf2 M2, LI sh rf2 M2 → dz_X (dz_E dz_pp xo 60) dz_pp xo (dz_pp 220) Q 18 [some (dz_o 0), some (dz_r 0), some (dz_r 115), some (dz_i (i + 6))] [] 130 5989 (sh, rf2, M2)) : dz_X (dz_E dz_pp xo 60) dz_pp xo (dz_pp 220) Q 589 [some (dz_o 0), some (dz_r 0), some (dz_r 115), some (dz_i i)] [] 130 5989 (sh, rf, M) := by
  have hc := dz_E_m dz_pp xo 60
  obtain ⟨rs, it, ts, ch, tl, up, lo, fn, w, pl, kd, wt, nx, n, hs, kp, kh, hl, hm, hX, hM, hW⟩ := hI
  have c0 := hl.1
  have m0 := hm.1
  refine xr_aloadn hc rfl rfl ?_
  refine xr_aloadn hc rfl rfl ?_
  refine xr_iloadn hc rfl rfl ?_
  refine xr_iconst hc rfl ?_
  refine xr_iaddz hc rfl (by first | exact dz_wid (by first | omega | (unfold dz_w; omega)) (by first | omega | (unfold dz_w; omega)) | rfl) ?_
  refine xr_ialoado hc rfl (by first | omega | (unfold dz_w; omega)) (by first | omega | (unfold dz_w; omega)) ?_
  refine xr_aloadn hc rfl rfl ?_
  refine xr_iloadn hc rfl rfl ?_
  refine xr_iconst hc rfl ?_
  refine xr_iaddz hc rfl (by first | exact dz_wid (by first | omega | (unfold dz_w; omega)) (by first | omega | (unfold dz_w; omega)) | rfl) ?_
  refine xr_ialoado hc rfl (by first | omega | (unfold dz_w; omega)) (by first | omega | (unfold dz_w; omega)) ?_
  refine xr_callv2 hc rfl (by first | assumption | rfl) rfl rfl rfl (Nat.le_of_ble_eq_true rfl) (Nat.le_of_ble_eq_true rfl) (Nat.le_of_ble_eq_true rfl) ?_
  refine X_mark (d := 56) hx2 hl hX hW (fun M2 f2 hX2 => ?_)
  have hM2 := RM_hi hM hW f2
  refine xk_1 ?_
  refine xr_aloadn hc rfl rfl ?_
  refine xr_aloadn hc rfl rfl ?_
  refine xr_iloadn hc rfl rfl ?_
  refine xr_iconst hc rfl ?_
  refine xr_iaddz hc rfl (by first | exact dz_wid (by first | omega | (unfold dz_w; omega)) (by first | omega | (unfold dz_w; omega)) | rfl) ?_
  refine xr_ialoado hc rfl (by first | omega | (unfold dz_w; omega)) (by first | omega | (unfold dz_w; omega)) ?_
  refine xr_aloadn hc rfl rfl ?_
  refine xr_iloadn hc rfl rfl ?_
  refine xr_iconst hc rfl ?_
  refine xr_iaddz hc rfl (by first | exact dz_wid (by first | omega | (unfold dz_w; omega)) (by first | omega | (unfold dz_w; omega)) | rfl) ?_
  refine xr_ialoado hc rfl (by first | omega | (unfold dz_w; omega)) (by first | omega | (unfold dz_w; omega)) ?_
  refine xr_callv2 hc rfl (by first | assumption | rfl) rfl rfl rfl (Nat.le_of_ble_eq_true rfl) (Nat.le_of_ble_eq_true rfl) (Nat.le_of_ble_eq_true rfl) ?_
  refine D_mark (d := 57) hm hM2 hW (fun M3 f3 hM3 => ?_)
  refine xk_1 ?_
  refine xr_icmp_eq hc rfl (t := 1385) rfl (fun b617 => ?_) (fun b617 => ?_)
  · refine xr_iincz3 hc rfl rfl (by first | exact dz_wid (by first | omega | (unfold dz_w; omega)) (by first | omega | (unfold dz_w; omega)) | rfl) ?_
    refine xr_goto hc rfl (t := 18) rfl ?_
    exact h _ _ ⟨_, _, _, _, _, _, _, _, _, _, _, _, _, _, _, _, _, hl, hm, (RX_lo hX2 f3), hM3, (WF_any hW)⟩
  · exact absurd rfl b617
set_option maxRecDepth 100000 in
set_option maxHeartbeats 1000000 in
theorem L_waits {xo : Nat → List Int} {Q : dz_Q} {sh : List (Nat ⊕ (Nat × Nat))} {rf : Nat → Nat → Nat} {M : Nat → Nat → Int} {i : Int} (hx1 : xo 1 = dz_xs1) (hx2 : xo 2 = dz_xs2) (hr : ∀ j, dz_in32 ((xo 0).getD j 0)) (hi : 0 ≤ i) (hL : i + 6 ≤ (xo 0).length) (hN : (xo 0).length ≤ 384) (hI : LI sh rf M) (h : ∀ rf2 M2, LI sh rf2 M2 → dz_X (dz_E dz_pp xo 60) dz_pp xo (dz_pp 220) Q 18 [some (dz_o 0), some (dz_r 0), some (dz_r 115), some (dz_i (i + 6))] [] 130 5989 (sh, rf2, M2)) : dz_X (dz_E dz_pp xo 60) dz_pp xo (dz_pp 220) Q 622 [some (dz_o 0), some (dz_r 0), some (dz_r 115), some (dz_i i)] [] 130 5989 (sh, rf, M) := by
  have hc := dz_E_m dz_pp xo 60
  obtain ⟨rs, it, ts, ch, tl, up, lo, fn, w, pl, kd, wt, nx, n, hs, kp, kh, hl, hm, hX, hM, hW⟩ := hI
  have c0 := hl.1
  have m0 := hm.1
  refine xr_aloadn hc rfl rfl ?_
  refine xr_aloadn hc rfl rfl ?_
  refine xr_iloadn hc rfl rfl ?_
  refine xr_iconst hc rfl ?_
  refine xr_iaddz hc rfl (by first | exact dz_wid (by first | omega | (unfold dz_w; omega)) (by first | omega | (unfold dz_w; omega)) | rfl) ?_
  refine xr_ialoado hc rfl (by first | omega | (unfold dz_w; omega)) (by first | omega | (unfold dz_w; omega)) ?_
  refine xr_aloadn hc rfl rfl ?_
  refine xr_iloadn hc rfl rfl ?_
  refine xr_iconst hc rfl ?_
  refine xr_iaddz hc rfl (by first | exact dz_wid (by first | omega | (unfold dz_w; omega)) (by first | omega | (unfold dz_w; omega)) | rfl) ?_
  refine xr_ialoado hc rfl (by first | omega | (unfold dz_w; omega)) (by first | omega | (unfold dz_w; omega)) ?_
  refine xr_callv2 hc rfl (by first | assumption | rfl) rfl rfl rfl (Nat.le_of_ble_eq_true rfl) (Nat.le_of_ble_eq_true rfl) (Nat.le_of_ble_eq_true rfl) ?_
  refine X_waits (d := 57) hl hX hW (fun M2 f2 hX2 => ?_)
  have hM2 := RM_hi hM hW f2
  refine xk_1 ?_
  refine xr_aloadn hc rfl rfl ?_
  refine xr_aloadn hc rfl rfl ?_
  refine xr_iloadn hc rfl rfl ?_
  refine xr_iconst hc rfl ?_
  refine xr_iaddz hc rfl (by first | exact dz_wid (by first | omega | (unfold dz_w; omega)) (by first | omega | (unfold dz_w; omega)) | rfl) ?_
  refine xr_ialoado hc rfl (by first | omega | (unfold dz_w; omega)) (by first | omega | (unfold dz_w; omega)) ?_
  refine xr_aloadn hc rfl rfl ?_
  refine xr_iloadn hc rfl rfl ?_
  refine xr_iconst hc rfl ?_
  refine xr_iaddz hc rfl (by first | exact dz_wid (by first | omega | (unfold dz_w; omega)) (by first | omega | (unfold dz_w; omega)) | rfl) ?_
  refine xr_ialoado hc rfl (by first | omega | (unfold dz_w; omega)) (by first | omega | (unfold dz_w; omega)) ?_
  refine xr_callv2 hc rfl (by first | assumption | rfl) rfl rfl rfl (Nat.le_of_ble_eq_true rfl) (Nat.le_of_ble_eq_true rfl) (Nat.le_of_ble_eq_true rfl) ?_
  refine D_waits (d := 57) hm hM2 hW (fun M3 f3 hM3 => ?_)
  refine xk_1 ?_
  refine xr_icmp_eq hc rfl (t := 1385) rfl (fun b650 => ?_) (fun b650 => ?_)
  · refine xr_iincz3 hc rfl rfl (by first | exact dz_wid (by first | omega | (unfold dz_w; omega)) (by first | omega | (unfold dz_w; omega)) | rfl) ?_
    refine xr_goto hc rfl (t := 18) rfl ?_
    exact h _ _ ⟨_, _, _, _, _, _, _, _, _, _, _, _, _, _, _, _, _, hl, hm, (RX_lo hX2 f3), hM3, (WF_any hW)⟩
  · exact absurd rfl b650
set_option maxRecDepth 100000 in
set_option maxHeartbeats 1000000 in
theorem L_step {xo : Nat → List Int} {Q : dz_Q} {sh : List (Nat ⊕ (Nat × Nat))} {rf : Nat → Nat → Nat} {M : Nat → Nat → Int} {i : Int} (hx1 : xo 1 = dz_xs1) (hx2 : xo 2 = dz_xs2) (hr : ∀ j, dz_in32 ((xo 0).getD j 0)) (hi : 0 ≤ i) (hL : i + 6 ≤ (xo 0).length) (hN : (xo 0).length ≤ 384) (hI : LI sh rf M) (h : ∀ rf2 M2, LI sh rf2 M2 → dz_X (dz_E dz_pp xo 60) dz_pp xo (dz_pp 220) Q 18 [some (dz_o 0), some (dz_r 0), some (dz_r 115), some (dz_i (i + 6))] [] 130 5989 (sh, rf2, M2)) : dz_X (dz_E dz_pp xo 60) dz_pp xo (dz_pp 220) Q 655 [some (dz_o 0), some (dz_r 0), some (dz_r 115), some (dz_i i)] [] 130 5989 (sh, rf, M) := by
  have hc := dz_E_m dz_pp xo 60
  obtain ⟨rs, it, ts, ch, tl, up, lo, fn, w, pl, kd, wt, nx, n, hs, kp, kh, hl, hm, hX, hM, hW⟩ := hI
  have c0 := hl.1
  have m0 := hm.1
  refine xr_aloadn hc rfl rfl ?_
  refine xr_callv0 hc rfl (by first | assumption | rfl) rfl rfl rfl (Nat.le_of_ble_eq_true rfl) (Nat.le_of_ble_eq_true rfl) (Nat.le_of_ble_eq_true rfl) ?_
  refine X_step (d := 53) hx2 hl hX hW (fun M2 f2 hX2 => ?_)
  have hM2 := RM_hi hM hW f2
  refine xk_1 ?_
  refine xr_aloadn hc rfl rfl ?_
  refine xr_callv0 hc rfl (by first | assumption | rfl) rfl rfl rfl (Nat.le_of_ble_eq_true rfl) (Nat.le_of_ble_eq_true rfl) (Nat.le_of_ble_eq_true rfl) ?_
  refine D_step (d := 56) hm hM2 hW (fun M3 f3 hM3 => ?_)
  refine xk_1 ?_
  refine xr_icmp_eq hc rfl (t := 1385) rfl (fun b663 => ?_) (fun b663 => ?_)
  · refine xr_iincz3 hc rfl rfl (by first | exact dz_wid (by first | omega | (unfold dz_w; omega)) (by first | omega | (unfold dz_w; omega)) | rfl) ?_
    refine xr_goto hc rfl (t := 18) rfl ?_
    exact h _ _ ⟨_, _, _, _, _, _, _, _, _, _, _, _, _, _, _, _, _, hl, hm, (RX_lo hX2 f3), hM3, (WF_step hW)⟩
  · exact absurd rfl b663
