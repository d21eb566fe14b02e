/-! Drum. Written by l2_26.py. -/
/-- a drum of the class at cell q: start at q + 1, now at q + 8, its deeds at q + 15 .. q + 17 -/
def dr_at (sh : List (Nat ⊕ (Nat × Nat))) (rf : Nat → Nat → Nat) (q : Nat) : Prop := sh[q]? = some (.inl 0) ∧ rf q 0 = q + 1 + 1 ∧ ma_at sh rf (q + 1) ∧ rf q 1 = q + 8 + 1 ∧ ma_at sh rf (q + 8) ∧ rf q 3 = q + 15 + 1 ∧ sh[q + 15]? = some (.inr (0, 40)) ∧ rf q 4 = q + 16 + 1 ∧ sh[q + 16]? = some (.inr (0, 40)) ∧ rf q 5 = q + 17 + 1 ∧ sh[q + 17]? = some (.inr (0, 40))
/-- a deed: 0 a step, 1 a move, 2 a change round, else a value -/
def ded (pl : Int) (kd wt nx : Nat → Int) (wh fi se : Int) (s : Nat → Int) : Nat → Int := if wh = 0 then stp pl kd wt nx s else if wh = 1 then mv s fi.toNat se else if wh = 2 then sw s fi.toNat se.toNat else vl s fi.toNat se
/-- what it answers -/
def dan (pl : Int) (kd wt nx : Nat → Int) (wh fi se : Int) (s : Nat → Int) : Int := if wh = 0 then stp pl kd wt nx s 1 - s 1 else if wh = 1 then s (5 + fi.toNat) else if wh = 2 then s (5 + se.toNat) else s (11 + fi.toNat)
/-- a deed that can be done -/
def dok (w pl wh fi se : Int) (s : Nat → Int) : Prop := (wh = 0 ∧ s 3 ≠ -9) ∨ (wh = 1 ∧ (0 ≤ fi ∧ fi < w) ∧ 0 ≤ se ∧ se < pl) ∨ (wh = 2 ∧ (0 ≤ fi ∧ fi < w) ∧ 0 ≤ se ∧ se < w) ∨ (wh = 3 ∧ (0 ≤ fi ∧ fi < w) ∧ 0 ≤ se ∧ se ≤ 99)
theorem stok_up {w pl B B2 : Int} {s : Nat → Int} (hs : stok w pl B s) (h : B ≤ B2) (h2 : B2 ≤ 1000000) : stok w pl B2 s := by
  obtain ⟨t0, t1, t2, t3, t4, t5, t6, t7, t8⟩ := hs
  refine ⟨h2, t1, by omega, t3, t4, t5, t6, by omega, fun i hi => ?_⟩
  obtain ⟨d1, d2, d3, d4, d5, d6⟩ := t8 i hi
  exact ⟨d1, d2, d3, d4, d5, by omega⟩
theorem ded_ok {w pl B wh fi se : Int} {kd wt nx s : Nat → Int} (hp : pgok w pl kd wt nx) (hs : stok w pl B s) (hB : B + 29 ≤ 1000000) (hd : dok w pl wh fi se s) : stok w pl (B + 29) (ded pl kd wt nx wh fi se s) := by
  have hw := hp.2.1
  rcases hd with ⟨rfl, h⟩ | ⟨rfl, h1, h2⟩ | ⟨rfl, h1, h2⟩ | ⟨rfl, h1, h2⟩
  · exact stp_ok hp hs hB h
  · exact stok_up (mv_ok hw hs (by omega) h2) (by omega) hB
  · exact stok_up (sw_ok hw hs (by omega) (by omega)) (by omega) hB
  · exact stok_up (vl_ok hw hs (by omega) h2) (by omega) hB
set_option maxRecDepth 100000 in
theorem S_perform {xo : Nat → List Int} {d : Nat} {Q : dz_Q} {sh : List (Nat ⊕ (Nat × Nat))} {rf : Nat → Nat → Nat} {M : Nat → Nat → Int} {q : Nat} {w pl B : Int} {kd wt nx s : Nat → Int} {n : Int} (hx : xo 2 = dz_xs2) (hq : dr_at sh rf q) (hp : pgok w pl kd wt nx) (hs : stok w pl B s) (hr : mrel M (q + 8) w pl kd wt nx s) (hB : B ≤ 998000) (hn : 0 ≤ n ∧ n < 40) (hd : dok w pl (M (q + 15) n.toNat) (M (q + 16) n.toNat) (M (q + 17) n.toNat) s) (hQ : ∀ M2 : Nat → Nat → Int, (∀ q2 k, (q2 < q + 8 ∨ q + 14 < q2) → M2 q2 k = M q2 k) → mrel M2 (q + 8) w pl kd wt nx (ded pl kd wt nx (M (q + 15) n.toNat) (M (q + 16) n.toNat) (M (q + 17) n.toNat) s) → Q (some (dz_i (dan pl kd wt nx (M (q + 15) n.toNat) (M (q + 16) n.toNat) (M (q + 17) n.toNat) s))) (sh, rf, M2)) : dz_E dz_pp xo (d + 5) 6 [dz_r q, dz_i n] (sh, rf, M) Q := by
  refine ⟨Nat.le_of_ble_eq_true rfl, ?_⟩
  have hc := dz_E_m dz_pp xo (d + 4)
  show dz_X (dz_E dz_pp xo (d + 4)) dz_pp xo (dz_pp 6) Q 0 [some (dz_r q), some (dz_i n)] [] 0 0 (sh, rf, M)
  obtain ⟨d0, d1, d2, d3, d4, d5, d6, d7, d8, d9, d10⟩ := id hq
  have m0 := d4.1
  have m1 := d2.1
  unfold ded dan at hQ
  unfold dok at hd
  have hw := hp.2.1
  refine xr_aloadn hc rfl rfl ?_
  refine xr_getfr hc rfl rfl (by first | assumption | rfl) (by first | assumption | rfl) ?_
  refine xr_iloadn hc rfl rfl ?_
  first | refine xr_iaload hc rfl (by first | assumption | rfl) (by first | omega | (unfold dz_w; omega)) (by first | omega | (unfold dz_w; omega)) ?_ | refine xr_ialoado hc rfl (by first | omega | (unfold dz_w; omega)) (by first | omega | (unfold dz_w; omega)) ?_
  refine xr_table hc rfl (fun t6 => ?_) (fun t6 t6b => ?_)
  · refine xr_at (t := 80) rfl ?_
    refine xr_aloadn hc rfl rfl ?_
    refine xr_getfr hc rfl rfl (by first | assumption | rfl) (by first | assumption | rfl) ?_
    refine xr_aloadn hc rfl rfl ?_
    refine xr_getfr hc rfl rfl (by first | assumption | rfl) (by first | assumption | rfl) ?_
    refine xr_iloadn hc rfl rfl ?_
    first | refine xr_iaload hc rfl (by first | assumption | rfl) (by first | omega | (unfold dz_w; omega)) (by first | omega | (unfold dz_w; omega)) ?_ | refine xr_ialoado hc rfl (by first | omega | (unfold dz_w; omega)) (by first | omega | (unfold dz_w; omega)) ?_
    refine xr_aloadn hc rfl rfl ?_
    refine xr_getfr hc rfl rfl (by first | assumption | rfl) (by first | assumption | rfl) ?_
    refine xr_iloadn hc rfl rfl ?_
    first | refine xr_iaload hc rfl (by first | assumption | rfl) (by first | omega | (unfold dz_w; omega)) (by first | omega | (unfold dz_w; omega)) ?_ | refine xr_ialoado hc rfl (by first | omega | (unfold dz_w; omega)) (by first | omega | (unfold dz_w; omega)) ?_
    refine xr_callv2 hc rfl (by first | assumption | rfl) rfl rfl rfl (Nat.le_of_ble_eq_true rfl) (Nat.zero_le _) (Nat.zero_le _) ?_
    rw [if_neg (by omega), if_neg (by omega), if_neg (by omega), if_neg (by omega), if_neg (by omega), if_neg (by omega)] at hQ
    refine S_tellAnew d4 hp hs hr (by omega) (fun M2 z1 z2 => ?_)
    refine xk_1 ?_
    refine xr_ireturn hc rfl rfl (Nat.zero_le _) (Nat.zero_le _) ?_
    first
      | exact hQ M2 (fun q2 k h => z1.1 q2 k (by omega) (by omega) (by omega) (by omega)) z2
      | exact hQ M2 (fun q2 k h => z1 q2 k (by omega)) z2
  · rcases (show M (q + 15) n.toNat = 0 ∨ M (q + 15) n.toNat = 1 ∨ M (q + 15) n.toNat = 2 by omega) with e6 | e6 | e6
    · refine ⟨26, by rw [e6]; rfl, xr_at (t := 32) rfl ?_⟩
      refine xr_aloadn hc rfl rfl ?_
      refine xr_getfr hc rfl rfl (by first | assumption | rfl) (by first | assumption | rfl) ?_
      refine xr_callv0 hc rfl (by first | assumption | rfl) rfl rfl rfl (Nat.le_of_ble_eq_true rfl) (Nat.zero_le _) (Nat.zero_le _) ?_
      rw [if_pos (by omega), if_pos (by omega)] at hQ
      refine S_doStep hx d4 hp hs hr hB (by omega) (fun M2 z1 z2 => ?_)
      refine xk_1 ?_
      refine xr_ireturn hc rfl rfl (Nat.zero_le _) (Nat.zero_le _) ?_
      first
        | exact hQ M2 (fun q2 k h => z1.1 q2 k (by omega) (by omega) (by omega) (by omega)) z2
        | exact hQ M2 (fun q2 k h => z1 q2 k (by omega)) z2
    · refine ⟨34, by rw [e6]; rfl, xr_at (t := 40) rfl ?_⟩
      refine xr_aloadn hc rfl rfl ?_
      refine xr_getfr hc rfl rfl (by first | assumption | rfl) (by first | assumption | rfl) ?_
      refine xr_aloadn hc rfl rfl ?_
      refine xr_getfr hc rfl rfl (by first | assumption | rfl) (by first | assumption | rfl) ?_
      refine xr_iloadn hc rfl rfl ?_
      first | refine xr_iaload hc rfl (by first | assumption | rfl) (by first | omega | (unfold dz_w; omega)) (by first | omega | (unfold dz_w; omega)) ?_ | refine xr_ialoado hc rfl (by first | omega | (unfold dz_w; omega)) (by first | omega | (unfold dz_w; omega)) ?_
      refine xr_aloadn hc rfl rfl ?_
      refine xr_getfr hc rfl rfl (by first | assumption | rfl) (by first | assumption | rfl) ?_
      refine xr_iloadn hc rfl rfl ?_
      first | refine xr_iaload hc rfl (by first | assumption | rfl) (by first | omega | (unfold dz_w; omega)) (by first | omega | (unfold dz_w; omega)) ?_ | refine xr_ialoado hc rfl (by first | omega | (unfold dz_w; omega)) (by first | omega | (unfold dz_w; omega)) ?_
      refine xr_callv2 hc rfl (by first | assumption | rfl) rfl rfl rfl (Nat.le_of_ble_eq_true rfl) (Nat.zero_le _) (Nat.zero_le _) ?_
      rw [if_neg (by omega), if_pos (by omega), if_neg (by omega), if_pos (by omega)] at hQ
      refine S_moveTo d4 hp hs hr (by omega) (fun M2 z1 z2 => ?_)
      refine xk_1 ?_
      refine xr_ireturn hc rfl rfl (Nat.zero_le _) (Nat.zero_le _) ?_
      first
        | exact hQ M2 (fun q2 k h => z1.1 q2 k (by omega) (by omega) (by omega) (by omega)) z2
        | exact hQ M2 (fun q2 k h => z1 q2 k (by omega)) z2
    · refine ⟨54, by rw [e6]; rfl, xr_at (t := 60) rfl ?_⟩
      refine xr_aloadn hc rfl rfl ?_
      refine xr_getfr hc rfl rfl (by first | assumption | rfl) (by first | assumption | rfl) ?_
      refine xr_aloadn hc rfl rfl ?_
      refine xr_getfr hc rfl rfl (by first | assumption | rfl) (by first | assumption | rfl) ?_
      refine xr_iloadn hc rfl rfl ?_
      first | refine xr_iaload hc rfl (by first | assumption | rfl) (by first | omega | (unfold dz_w; omega)) (by first | omega | (unfold dz_w; omega)) ?_ | refine xr_ialoado hc rfl (by first | omega | (unfold dz_w; omega)) (by first | omega | (unfold dz_w; omega)) ?_
      refine xr_aloadn hc rfl rfl ?_
      refine xr_getfr hc rfl rfl (by first | assumption | rfl) (by first | assumption | rfl) ?_
      refine xr_iloadn hc rfl rfl ?_
      first | refine xr_iaload hc rfl (by first | assumption | rfl) (by first | omega | (unfold dz_w; omega)) (by first | omega | (unfold dz_w; omega)) ?_ | refine xr_ialoado hc rfl (by first | omega | (unfold dz_w; omega)) (by first | omega | (unfold dz_w; omega)) ?_
      refine xr_callv2 hc rfl (by first | assumption | rfl) rfl rfl rfl (Nat.le_of_ble_eq_true rfl) (Nat.zero_le _) (Nat.zero_le _) ?_
      rw [if_neg (by omega), if_neg (by omega), if_pos (by omega), if_neg (by omega), if_neg (by omega), if_pos (by omega)] at hQ
      refine S_changeRound d4 hp hs hr (by omega) (by omega) (fun M2 z1 z2 => ?_)
      refine xk_1 ?_
      refine xr_ireturn hc rfl rfl (Nat.zero_le _) (Nat.zero_le _) ?_
      first
        | exact hQ M2 (fun q2 k h => z1.1 q2 k (by omega) (by omega) (by omega) (by omega)) z2
        | exact hQ M2 (fun q2 k h => z1 q2 k (by omega)) z2
