/-! Machine: become, mark, adds. Written by l2_25.py. -/
set_option maxRecDepth 100000 in
theorem S_mbecome {xo : Nat → List Int} {d : Nat} {Q : dz_Q} {sh : List (Nat ⊕ (Nat × Nat))} {rf : Nat → Nat → Nat} {M : Nat → Nat → Int} {q q0 : Nat} (hm : ma_at sh rf q) (hm0 : ma_at sh rf q0) (hd : q + 6 < q0 ∨ q0 + 6 < q) (hQ : ∀ M2 : Nat → Nat → Int, (∀ q2 k, (q2 < q ∨ q + 6 < q2) → M2 q2 k = M q2 k) → (∀ k, k < 6 → M2 q k = M q0 k) → (∀ a k, 1 ≤ a → a ≤ 6 → k < 6 → M2 (q + a) k = M (q0 + a) k) → Q none (sh, rf, M2)) : dz_E dz_pp xo (d + 1) 9 [dz_r q, dz_r q0] (sh, rf, M) Q := by
  refine ⟨Nat.le_of_ble_eq_true rfl, ?_⟩
  have hc := dz_E_m dz_pp xo (d + 0)
  show dz_X (dz_E dz_pp xo (d + 0)) dz_pp xo (dz_pp 9) Q 0 [some (dz_r q), some (dz_r q0)] [] 0 0 (sh, rf, M)
  obtain ⟨m0, m1, m2, m3, m4, m5, m6, m7, m8, m9, m10, m11, m12⟩ := hm
  obtain ⟨n0, n1, n2, n3, n4, n5, n6, n7, n8, n9, n10, n11, n12⟩ := hm0
  refine xr_aloadn hc rfl rfl ?_
  refine xr_aloadn hc rfl rfl ?_
  refine xr_getfi hc rfl (Or.inl rfl) (by first | assumption | rfl) ?_
  refine xr_putfi hc rfl rfl (by first | assumption | rfl) ?_
  refine xr_aloadn hc rfl rfl ?_
  refine xr_aloadn hc rfl rfl ?_
  refine xr_getfi hc rfl (Or.inl rfl) (by first | assumption | rfl) ?_
  refine xr_putfi hc rfl rfl (by first | assumption | rfl) ?_
  refine xr_aloadn hc rfl rfl ?_
  refine xr_aloadn hc rfl rfl ?_
  refine xr_getfi hc rfl (Or.inl rfl) (by first | assumption | rfl) ?_
  refine xr_putfi hc rfl rfl (by first | assumption | rfl) ?_
  refine xr_aloadn hc rfl rfl ?_
  refine xr_aloadn hc rfl rfl ?_
  refine xr_getfi hc rfl (Or.inl rfl) (by first | assumption | rfl) ?_
  refine xr_putfi hc rfl rfl (by first | assumption | rfl) ?_
  refine xr_aloadn hc rfl rfl ?_
  refine xr_aloadn hc rfl rfl ?_
  refine xr_getfi hc rfl (Or.inl rfl) (by first | assumption | rfl) ?_
  refine xr_putfi hc rfl rfl (by first | assumption | rfl) ?_
  refine xr_aloadn hc rfl rfl ?_
  refine xr_aloadn hc rfl rfl ?_
  refine xr_getfi hc rfl (Or.inl rfl) (by first | assumption | rfl) ?_
  refine xr_putfi hc rfl rfl (by first | assumption | rfl) ?_
  refine xr_aloadn hc rfl rfl ?_
  refine xr_getfr hc rfl rfl (by first | assumption | rfl) (by first | assumption | rfl) ?_
  refine xr_iconst hc rfl ?_
  refine xr_aloadn hc rfl rfl ?_
  refine xr_getfr hc rfl rfl (by first | assumption | rfl) (by first | assumption | rfl) ?_
  refine xr_iconst hc rfl ?_
  refine xr_bipush hc rfl ?_
  refine xr_copy hc rfl rfl (by first | assumption | rfl) (by first | assumption | rfl) (by first | omega | (unfold dz_w; omega)) (by first | omega | (unfold dz_w; omega)) (by first | omega | (unfold dz_w; omega)) (by first | omega | (unfold dz_w; omega)) (by first | omega | (unfold dz_w; omega)) (by first | decide | (simp [dz_cats]; done) | exact Nat.le_of_ble_eq_true rfl) ?_
  refine xr_aloadn hc rfl rfl ?_
  refine xr_getfr hc rfl rfl (by first | assumption | rfl) (by first | assumption | rfl) ?_
  refine xr_iconst hc rfl ?_
  refine xr_aloadn hc rfl rfl ?_
  refine xr_getfr hc rfl rfl (by first | assumption | rfl) (by first | assumption | rfl) ?_
  refine xr_iconst hc rfl ?_
  refine xr_bipush hc rfl ?_
  refine xr_copy hc rfl rfl (by first | assumption | rfl) (by first | assumption | rfl) (by first | omega | (unfold dz_w; omega)) (by first | omega | (unfold dz_w; omega)) (by first | omega | (unfold dz_w; omega)) (by first | omega | (unfold dz_w; omega)) (by first | omega | (unfold dz_w; omega)) (by first | decide | (simp [dz_cats]; done) | exact Nat.le_of_ble_eq_true rfl) ?_
  refine xr_aloadn hc rfl rfl ?_
  refine xr_getfr hc rfl rfl (by first | assumption | rfl) (by first | assumption | rfl) ?_
  refine xr_iconst hc rfl ?_
  refine xr_aloadn hc rfl rfl ?_
  refine xr_getfr hc rfl rfl (by first | assumption | rfl) (by first | assumption | rfl) ?_
  refine xr_iconst hc rfl ?_
  refine xr_bipush hc rfl ?_
  refine xr_copy hc rfl rfl (by first | assumption | rfl) (by first | assumption | rfl) (by first | omega | (unfold dz_w; omega)) (by first | omega | (unfold dz_w; omega)) (by first | omega | (unfold dz_w; omega)) (by first | omega | (unfold dz_w; omega)) (by first | omega | (unfold dz_w; omega)) (by first | decide | (simp [dz_cats]; done) | exact Nat.le_of_ble_eq_true rfl) ?_
  refine xr_aloadn hc rfl rfl ?_
  refine xr_getfr hc rfl rfl (by first | assumption | rfl) (by first | assumption | rfl) ?_
  refine xr_iconst hc rfl ?_
  refine xr_aloadn hc rfl rfl ?_
  refine xr_getfr hc rfl rfl (by first | assumption | rfl) (by first | assumption | rfl) ?_
  refine xr_iconst hc rfl ?_
  refine xr_bipush hc rfl ?_
  refine xr_copy hc rfl rfl (by first | assumption | rfl) (by first | assumption | rfl) (by first | omega | (unfold dz_w; omega)) (by first | omega | (unfold dz_w; omega)) (by first | omega | (unfold dz_w; omega)) (by first | omega | (unfold dz_w; omega)) (by first | omega | (unfold dz_w; omega)) (by first | decide | (simp [dz_cats]; done) | exact Nat.le_of_ble_eq_true rfl) ?_
  refine xr_aloadn hc rfl rfl ?_
  refine xr_getfr hc rfl rfl (by first | assumption | rfl) (by first | assumption | rfl) ?_
  refine xr_iconst hc rfl ?_
  refine xr_aloadn hc rfl rfl ?_
  refine xr_getfr hc rfl rfl (by first | assumption | rfl) (by first | assumption | rfl) ?_
  refine xr_iconst hc rfl ?_
  refine xr_bipush hc rfl ?_
  refine xr_copy hc rfl rfl (by first | assumption | rfl) (by first | assumption | rfl) (by first | omega | (unfold dz_w; omega)) (by first | omega | (unfold dz_w; omega)) (by first | omega | (unfold dz_w; omega)) (by first | omega | (unfold dz_w; omega)) (by first | omega | (unfold dz_w; omega)) (by first | decide | (simp [dz_cats]; done) | exact Nat.le_of_ble_eq_true rfl) ?_
  refine xr_aloadn hc rfl rfl ?_
  refine xr_getfr hc rfl rfl (by first | assumption | rfl) (by first | assumption | rfl) ?_
  refine xr_iconst hc rfl ?_
  refine xr_aloadn hc rfl rfl ?_
  refine xr_getfr hc rfl rfl (by first | assumption | rfl) (by first | assumption | rfl) ?_
  refine xr_iconst hc rfl ?_
  refine xr_bipush hc rfl ?_
  refine xr_copy hc rfl rfl (by first | assumption | rfl) (by first | assumption | rfl) (by first | omega | (unfold dz_w; omega)) (by first | omega | (unfold dz_w; omega)) (by first | omega | (unfold dz_w; omega)) (by first | omega | (unfold dz_w; omega)) (by first | omega | (unfold dz_w; omega)) (by first | decide | (simp [dz_cats]; done) | exact Nat.le_of_ble_eq_true rfl) ?_
  refine xr_return hc rfl rfl (Nat.zero_le _) (Nat.zero_le _) ?_
  have e6 : Int.toNat 6 = 6 := rfl
  have e0 : Int.toNat 0 = 0 := rfl
  refine hQ _ (fun q2 k z => ?_) (fun k hk => ?_) (fun a k h1 h2 hk => ?_)
  · simp only [dz_cpy, dz_up, e6, e0]
    repeat rw [if_neg (by omega)]
  · have hq : ¬ q0 = q := by omega
    rcases (show k = 0 ∨ k = 1 ∨ k = 2 ∨ k = 3 ∨ k = 4 ∨ k = 5 by omega) with rfl | rfl | rfl | rfl | rfl | rfl <;> simp [dz_cpy, dz_up, hq]
  · simp only [dz_cpy, dz_up, e6, e0]
    rcases (show a = 1 ∨ a = 2 ∨ a = 3 ∨ a = 4 ∨ a = 5 ∨ a = 6 by omega) with rfl | rfl | rfl | rfl | rfl | rfl <;> repeat (first | rw [if_neg (by omega)] | rw [if_pos (by omega)] | (congr 1; omega))
/-- a machine that holds what another one holds -/
theorem mrel_same {M M2 : Nat → Nat → Int} {q q0 : Nat} {w pl : Int} {kd wt nx s : Nat → Int} (hw : w ≤ 6) (hr : mrel M q0 w pl kd wt nx s) (h1 : ∀ k, k < 6 → M2 q k = M q0 k) (h2 : ∀ a k, 1 ≤ a → a ≤ 6 → k < 6 → M2 (q + a) k = M (q0 + a) k) : mrel M2 q w pl kd wt nx s := by
  obtain ⟨r0, r1, r2, r3, r4, r5, r6⟩ := hr
  refine ⟨by rw [h1 0 (by omega), r0], by rw [h1 1 (by omega), r1], by rw [h1 2 (by omega), r2], by rw [h1 3 (by omega), r3], by rw [h1 4 (by omega), r4], by rw [h1 5 (by omega), r5], fun i hi => ?_⟩
  obtain ⟨v1, v2, v3, v4, v5, v6⟩ := r6 i hi
  exact ⟨by rw [h2 1 i (by omega) (by omega) (by omega), v1], by rw [h2 2 i (by omega) (by omega) (by omega), v2], by rw [h2 3 i (by omega) (by omega) (by omega), v3], by rw [h2 4 i (by omega) (by omega) (by omega), v4], by rw [h2 5 i (by omega) (by omega) (by omega), v5], by rw [h2 6 i (by omega) (by omega) (by omega), v6]⟩
theorem mrel_fr {M M2 : Nat → Nat → Int} {q : Nat} {w pl : Int} {kd wt nx s : Nat → Int} (hr : mrel M q w pl kd wt nx s) (h : ∀ q2 k, q ≤ q2 → q2 ≤ q + 6 → M2 q2 k = M q2 k) : mrel M2 q w pl kd wt nx s := by
  obtain ⟨r0, r1, r2, r3, r4, r5, r6⟩ := hr
  refine ⟨by rw [h _ _ (by omega) (by omega), r0], by rw [h _ _ (by omega) (by omega), r1], by rw [h _ _ (by omega) (by omega), r2], by rw [h _ _ (by omega) (by omega), r3], by rw [h _ _ (by omega) (by omega), r4], by rw [h _ _ (by omega) (by omega), r5], fun i hi => ?_⟩
  obtain ⟨v1, v2, v3, v4, v5, v6⟩ := r6 i hi
  exact ⟨by rw [h _ _ (by omega) (by omega), v1], by rw [h _ _ (by omega) (by omega), v2], by rw [h _ _ (by omega) (by omega), v3], by rw [h _ _ (by omega) (by omega), v4], by rw [h _ _ (by omega) (by omega), v5], by rw [h _ _ (by omega) (by omega), v6]⟩
/-- what a word tells as one of kind c -/
def mk (pl : Int) (kd wt nx s : Nat → Int) (i : Nat) (c : Int) : Int := if c = 1 then wa (s (5 + (wt i).toNat)) (s (5 + i) + 1) pl else if c = 2 then wa (s (5 + (nx i).toNat)) (s (5 + i) + 1) pl else if c = 3 then (if s (11 + (wt i).toNat) = s 2 then 0 else 1) else if c = 4 then wk (kd i) (s (11 + (wt i).toNat)) else du kd wt nx (s 2) i
set_option maxRecDepth 100000 in
theorem S_markOf {xo : Nat → List Int} {d : Nat} {Q : dz_Q} {sh : List (Nat ⊕ (Nat × Nat))} {rf : Nat → Nat → Nat} {M : Nat → Nat → Int} {q : Nat} {w pl B : Int} {kd wt nx s : Nat → Int} {i c : Int} (hm : ma_at sh rf q) (hp : pgok w pl kd wt nx) (hs : stok w pl B s) (hr : mrel M q w pl kd wt nx s) (hi : 0 ≤ i ∧ i < w) (hQ : Q (some (dz_i (mk pl kd wt nx s i.toNat c))) (sh, rf, M)) : dz_E dz_pp xo (d + 3) 16 [dz_r q, dz_i i, dz_i c] (sh, rf, M) Q := by
  refine ⟨Nat.le_of_ble_eq_true rfl, ?_⟩
  have hc := dz_E_m dz_pp xo (d + 2)
  show dz_X (dz_E dz_pp xo (d + 2)) dz_pp xo (dz_pp 16) Q 0 [some (dz_r q), some (dz_i i), some (dz_i c)] [] 0 0 (sh, rf, M)
  have hm1 := hm
  obtain ⟨m0, m1, m2, m3, m4, m5, m6, m7, m8, m9, m10, m11, m12⟩ := hm
  obtain ⟨p1, p2, p3, p4, p5⟩ := id hp
  obtain ⟨s0, s1, s2, s3, s4, s5, s6, s7, s8⟩ := id hs
  obtain ⟨r0, r1, r2, r3, r4, r5, r6⟩ := id hr
  have hi_i : ((i).toNat : Int) < w := by omega
  obtain ⟨k1i, k2i, k3i, k4i, k5i, k6i⟩ := p5 (i).toNat hi_i
  obtain ⟨a1i, a2i, a3i, a4i, a5i, a6i⟩ := s8 (i).toNat hi_i
  obtain ⟨x1i, x2i, x3i, x4i, x5i, x6i⟩ := r6 (i).toNat hi_i
  have ho : ((wt i.toNat).toNat : Int) < w := by omega
  have hx : ((nx i.toNat).toNat : Int) < w := by omega
  obtain ⟨b1, b2, b3, b4, b5, b6⟩ := s8 _ ho
  obtain ⟨c1, c2, c3, c4, c5, c6⟩ := s8 _ hx
  obtain ⟨y1, y2, y3, y4, y5, y6⟩ := r6 _ ho
  obtain ⟨z1, z2, z3, z4, z5, z6⟩ := r6 _ hx
  have ho2 : 0 ≤ M (q + 4) i.toNat ∧ M (q + 4) i.toNat < 6 := by omega
  have hx2 : 0 ≤ M (q + 5) i.toNat ∧ M (q + 5) i.toNat < 6 := by omega
  unfold mk at hQ
  refine xr_iloadn hc rfl rfl ?_
  refine xr_table hc rfl (fun t1 => ?_) (fun t1 t1b => ?_)
  · refine xr_at (t := 116) rfl ?_
    refine xr_aloadn hc rfl rfl ?_
    refine xr_iloadn hc rfl rfl ?_
    refine xr_callv1 hc rfl (by first | assumption | rfl) rfl rfl rfl (Nat.le_of_ble_eq_true rfl) (Nat.zero_le _) (Nat.zero_le _) ?_
    refine S_dueBehind hm1 (by omega) ?_
    refine xk_1 ?_
    refine xr_ireturn hc rfl rfl (Nat.zero_le _) (Nat.zero_le _) ?_
    first
      | (rw [if_pos (by omega)] at hQ; rw [x4i, y2, x2i, r1]; exact hQ)
      | (rw [if_neg (by omega), if_pos (by omega)] at hQ; rw [x5i, z2, x2i, r1]; exact hQ)
      | (rw [x4i, y3, r3] at *; rw [if_neg (by omega), if_neg (by omega), if_pos (by omega), if_pos (by omega)] at hQ; exact hQ)
      | (rw [x4i, y3, r3] at *; rw [if_neg (by omega), if_neg (by omega), if_pos (by omega), if_neg (by omega)] at hQ; exact hQ)
      | (rw [if_neg (by omega), if_neg (by omega), if_neg (by omega), if_pos (by omega)] at hQ; rw [x1i, x4i, y3]; exact hQ)
      | (rw [if_neg (by omega), if_neg (by omega), if_neg (by omega), if_neg (by omega)] at hQ; unfold du at hQ ⊢; rw [x1i, x4i, x5i, r3]; exact hQ)
  · rcases (show c = 1 ∨ c = 2 ∨ c = 3 ∨ c = 4 by omega) with e1 | e1 | e1 | e1
    · refine ⟨31, by rw [e1]; rfl, xr_at (t := 32) rfl ?_⟩
      refine xr_aloadn hc rfl rfl ?_
      refine xr_getfr hc rfl rfl (by first | assumption | rfl) (by first | assumption | rfl) ?_
      refine xr_aloadn hc rfl rfl ?_
      refine xr_getfr hc rfl rfl (by first | assumption | rfl) (by first | assumption | rfl) ?_
      refine xr_iloadn hc rfl rfl ?_
      first | refine xr_iaload hc rfl (by first | assumption | rfl) (by first | omega | (unfold dz_w; omega)) (by first | omega | (unfold dz_w; omega)) ?_ | refine xr_ialoado hc rfl (by first | omega | (unfold dz_w; omega)) (by first | omega | (unfold dz_w; omega)) ?_
      first | refine xr_iaload hc rfl (by first | assumption | rfl) (by first | omega | (unfold dz_w; omega)) (by first | omega | (unfold dz_w; omega)) ?_ | refine xr_ialoado hc rfl (by first | omega | (unfold dz_w; omega)) (by first | omega | (unfold dz_w; omega)) ?_
      refine xr_aloadn hc rfl rfl ?_
      refine xr_getfr hc rfl rfl (by first | assumption | rfl) (by first | assumption | rfl) ?_
      refine xr_iloadn hc rfl rfl ?_
      first | refine xr_iaload hc rfl (by first | assumption | rfl) (by first | omega | (unfold dz_w; omega)) (by first | omega | (unfold dz_w; omega)) ?_ | refine xr_ialoado hc rfl (by first | omega | (unfold dz_w; omega)) (by first | omega | (unfold dz_w; omega)) ?_
      refine xr_iconst hc rfl ?_
      refine xr_iaddz hc rfl (by first | exact dz_wid (by first | omega | (unfold dz_w; omega)) (by first | omega | (unfold dz_w; omega)) | rfl) ?_
      refine xr_aloadn hc rfl rfl ?_
      refine xr_getfi hc rfl (Or.inl rfl) (by first | assumption | rfl) ?_
      refine xr_calls3 hc rfl (by decide) rfl rfl rfl (Nat.le_of_ble_eq_true rfl) (Nat.zero_le _) (Nat.zero_le _) ?_
      refine S_waitFor (by first | (rw [x4i, y2]; omega) | (rw [x5i, z2]; omega)) (by omega) (by omega) ?_
      refine xk_1 ?_
      refine xr_ireturn hc rfl rfl (Nat.zero_le _) (Nat.zero_le _) ?_
      first
        | (rw [if_pos (by omega)] at hQ; rw [x4i, y2, x2i, r1]; exact hQ)
        | (rw [if_neg (by omega), if_pos (by omega)] at hQ; rw [x5i, z2, x2i, r1]; exact hQ)
        | (rw [x4i, y3, r3] at *; rw [if_neg (by omega), if_neg (by omega), if_pos (by omega), if_pos (by omega)] at hQ; exact hQ)
        | (rw [x4i, y3, r3] at *; rw [if_neg (by omega), if_neg (by omega), if_pos (by omega), if_neg (by omega)] at hQ; exact hQ)
        | (rw [if_neg (by omega), if_neg (by omega), if_neg (by omega), if_pos (by omega)] at hQ; rw [x1i, x4i, y3]; exact hQ)
        | (rw [if_neg (by omega), if_neg (by omega), if_neg (by omega), if_neg (by omega)] at hQ; unfold du at hQ ⊢; rw [x1i, x4i, x5i, r3]; exact hQ)
    · refine ⟨58, by rw [e1]; rfl, xr_at (t := 59) rfl ?_⟩
      refine xr_aloadn hc rfl rfl ?_
      refine xr_getfr hc rfl rfl (by first | assumption | rfl) (by first | assumption | rfl) ?_
      refine xr_aloadn hc rfl rfl ?_
      refine xr_getfr hc rfl rfl (by first | assumption | rfl) (by first | assumption | rfl) ?_
      refine xr_iloadn hc rfl rfl ?_
      first | refine xr_iaload hc rfl (by first | assumption | rfl) (by first | omega | (unfold dz_w; omega)) (by first | omega | (unfold dz_w; omega)) ?_ | refine xr_ialoado hc rfl (by first | omega | (unfold dz_w; omega)) (by first | omega | (unfold dz_w; omega)) ?_
      first | refine xr_iaload hc rfl (by first | assumption | rfl) (by first | omega | (unfold dz_w; omega)) (by first | omega | (unfold dz_w; omega)) ?_ | refine xr_ialoado hc rfl (by first | omega | (unfold dz_w; omega)) (by first | omega | (unfold dz_w; omega)) ?_
      refine xr_aloadn hc rfl rfl ?_
      refine xr_getfr hc rfl rfl (by first | assumption | rfl) (by first | assumption | rfl) ?_
      refine xr_iloadn hc rfl rfl ?_
      first | refine xr_iaload hc rfl (by first | assumption | rfl) (by first | omega | (unfold dz_w; omega)) (by first | omega | (unfold dz_w; omega)) ?_ | refine xr_ialoado hc rfl (by first | omega | (unfold dz_w; omega)) (by first | omega | (unfold dz_w; omega)) ?_
      refine xr_iconst hc rfl ?_
      refine xr_iaddz hc rfl (by first | exact dz_wid (by first | omega | (unfold dz_w; omega)) (by first | omega | (unfold dz_w; omega)) | rfl) ?_
      refine xr_aloadn hc rfl rfl ?_
      refine xr_getfi hc rfl (Or.inl rfl) (by first | assumption | rfl) ?_
      refine xr_calls3 hc rfl (by decide) rfl rfl rfl (Nat.le_of_ble_eq_true rfl) (Nat.zero_le _) (Nat.zero_le _) ?_
      refine S_waitFor (by first | (rw [x4i, y2]; omega) | (rw [x5i, z2]; omega)) (by omega) (by omega) ?_
      refine xk_1 ?_
      refine xr_ireturn hc rfl rfl (Nat.zero_le _) (Nat.zero_le _) ?_
      first
        | (rw [if_pos (by omega)] at hQ; rw [x4i, y2, x2i, r1]; exact hQ)
        | (rw [if_neg (by omega), if_pos (by omega)] at hQ; rw [x5i, z2, x2i, r1]; exact hQ)
        | (rw [x4i, y3, r3] at *; rw [if_neg (by omega), if_neg (by omega), if_pos (by omega), if_pos (by omega)] at hQ; exact hQ)
        | (rw [x4i, y3, r3] at *; rw [if_neg (by omega), if_neg (by omega), if_pos (by omega), if_neg (by omega)] at hQ; exact hQ)
        | (rw [if_neg (by omega), if_neg (by omega), if_neg (by omega), if_pos (by omega)] at hQ; rw [x1i, x4i, y3]; exact hQ)
        | (rw [if_neg (by omega), if_neg (by omega), if_neg (by omega), if_neg (by omega)] at hQ; unfold du at hQ ⊢; rw [x1i, x4i, x5i, r3]; exact hQ)
    · refine ⟨85, by rw [e1]; rfl, xr_at (t := 86) rfl ?_⟩
      refine xr_aloadn hc rfl rfl ?_
      refine xr_getfr hc rfl rfl (by first | assumption | rfl) (by first | assumption | rfl) ?_
      refine xr_aloadn hc rfl rfl ?_
      refine xr_getfr hc rfl rfl (by first | assumption | rfl) (by first | assumption | rfl) ?_
      refine xr_iloadn hc rfl rfl ?_
      first | refine xr_iaload hc rfl (by first | assumption | rfl) (by first | omega | (unfold dz_w; omega)) (by first | omega | (unfold dz_w; omega)) ?_ | refine xr_ialoado hc rfl (by first | omega | (unfold dz_w; omega)) (by first | omega | (unfold dz_w; omega)) ?_
      first | refine xr_iaload hc rfl (by first | assumption | rfl) (by first | omega | (unfold dz_w; omega)) (by first | omega | (unfold dz_w; omega)) ?_ | refine xr_ialoado hc rfl (by first | omega | (unfold dz_w; omega)) (by first | omega | (unfold dz_w; omega)) ?_
      refine xr_aloadn hc rfl rfl ?_
      refine xr_getfi hc rfl (Or.inl rfl) (by first | assumption | rfl) ?_
      refine xr_icmp_ne hc rfl (t := 108) rfl (fun b101 => ?_) (fun b101 => ?_)
      · refine xr_iconst hc rfl ?_
        refine xr_ireturn hc rfl rfl (Nat.zero_le _) (Nat.zero_le _) ?_
        first
          | (rw [if_pos (by omega)] at hQ; rw [x4i, y2, x2i, r1]; exact hQ)
          | (rw [if_neg (by omega), if_pos (by omega)] at hQ; rw [x5i, z2, x2i, r1]; exact hQ)
          | (rw [x4i, y3, r3] at *; rw [if_neg (by omega), if_neg (by omega), if_pos (by omega), if_pos (by omega)] at hQ; exact hQ)
          | (rw [x4i, y3, r3] at *; rw [if_neg (by omega), if_neg (by omega), if_pos (by omega), if_neg (by omega)] at hQ; exact hQ)
          | (rw [if_neg (by omega), if_neg (by omega), if_neg (by omega), if_pos (by omega)] at hQ; rw [x1i, x4i, y3]; exact hQ)
          | (rw [if_neg (by omega), if_neg (by omega), if_neg (by omega), if_neg (by omega)] at hQ; unfold du at hQ ⊢; rw [x1i, x4i, x5i, r3]; exact hQ)
      · refine xr_iconst hc rfl ?_
        refine xr_goto hc rfl (t := 109) rfl ?_
        refine xr_ireturn hc rfl rfl (Nat.zero_le _) (Nat.zero_le _) ?_
        first
          | (rw [if_pos (by omega)] at hQ; rw [x4i, y2, x2i, r1]; exact hQ)
          | (rw [if_neg (by omega), if_pos (by omega)] at hQ; rw [x5i, z2, x2i, r1]; exact hQ)
          | (rw [x4i, y3, r3] at *; rw [if_neg (by omega), if_neg (by omega), if_pos (by omega), if_pos (by omega)] at hQ; exact hQ)
          | (rw [x4i, y3, r3] at *; rw [if_neg (by omega), if_neg (by omega), if_pos (by omega), if_neg (by omega)] at hQ; exact hQ)
          | (rw [if_neg (by omega), if_neg (by omega), if_neg (by omega), if_pos (by omega)] at hQ; rw [x1i, x4i, y3]; exact hQ)
          | (rw [if_neg (by omega), if_neg (by omega), if_neg (by omega), if_neg (by omega)] at hQ; unfold du at hQ ⊢; rw [x1i, x4i, x5i, r3]; exact hQ)
    · refine ⟨109, by rw [e1]; rfl, xr_at (t := 110) rfl ?_⟩
      refine xr_aloadn hc rfl rfl ?_
      refine xr_iloadn hc rfl rfl ?_
      refine xr_callv1 hc rfl (by first | assumption | rfl) rfl rfl rfl (Nat.le_of_ble_eq_true rfl) (Nat.zero_le _) (Nat.zero_le _) ?_
      refine S_workOf hm1 (by omega) (by omega) (by omega) (by rw [x4i, y3]; omega) ?_
      refine xk_1 ?_
      refine xr_ireturn hc rfl rfl (Nat.zero_le _) (Nat.zero_le _) ?_
      first
        | (rw [if_pos (by omega)] at hQ; rw [x4i, y2, x2i, r1]; exact hQ)
        | (rw [if_neg (by omega), if_pos (by omega)] at hQ; rw [x5i, z2, x2i, r1]; exact hQ)
        | (rw [x4i, y3, r3] at *; rw [if_neg (by omega), if_neg (by omega), if_pos (by omega), if_pos (by omega)] at hQ; exact hQ)
        | (rw [x4i, y3, r3] at *; rw [if_neg (by omega), if_neg (by omega), if_pos (by omega), if_neg (by omega)] at hQ; exact hQ)
        | (rw [if_neg (by omega), if_neg (by omega), if_neg (by omega), if_pos (by omega)] at hQ; rw [x1i, x4i, y3]; exact hQ)
        | (rw [if_neg (by omega), if_neg (by omega), if_neg (by omega), if_neg (by omega)] at hQ; unfold du at hQ ⊢; rw [x1i, x4i, x5i, r3]; exact hQ)
def cadd (kd : Nat → Int) : Nat → Int
  | 0 => 0
  | n + 1 => cadd kd n + if kd n = 1 ∨ kd n = 3 ∨ kd n = 4 then 1 else 0
theorem cadd_in (kd : Nat → Int) : ∀ n, 0 ≤ cadd kd n ∧ cadd kd n ≤ n
  | 0 => ⟨Int.le_refl 0, Int.le_refl 0⟩
  | n + 1 => by
    have h := cadd_in kd n
    rw [cadd]
    split <;> omega
set_option maxRecDepth 100000 in
theorem S_adds {xo : Nat → List Int} {d : Nat} {Q : dz_Q} {sh : List (Nat ⊕ (Nat × Nat))} {rf : Nat → Nat → Nat} {M : Nat → Nat → Int} {q : Nat} {w pl B : Int} {kd wt nx s : Nat → Int} (hx : xo 2 = dz_xs2) (hm : ma_at sh rf q) (hp : pgok w pl kd wt nx) (hs : stok w pl B s) (hr : mrel M q w pl kd wt nx s) (hQ : Q (some (dz_i (cadd kd w.toNat))) (sh, rf, M)) : dz_E dz_pp xo (d + 3) 14 [dz_r q] (sh, rf, M) Q := by
  refine ⟨Nat.le_of_ble_eq_true rfl, ?_⟩
  have hc := dz_E_m dz_pp xo (d + 2)
  show dz_X (dz_E dz_pp xo (d + 2)) dz_pp xo (dz_pp 14) Q 0 [some (dz_r q), none, none] [] 0 0 (sh, rf, M)
  have hm1 := hm
  obtain ⟨m0, m1, m2, m3, m4, m5, m6, m7, m8, m9, m10, m11, m12⟩ := hm
  obtain ⟨p1, p2, p3, p4, p5⟩ := id hp
  obtain ⟨s0, s1, s2, s3, s4, s5, s6, s7, s8⟩ := id hs
  obtain ⟨r0, r1, r2, r3, r4, r5, r6⟩ := id hr
  have lp : ∀ (n : Nat) (i : Nat), (i : Int) + n = w → dz_X (dz_E dz_pp xo (d + 2)) dz_pp xo (dz_pp 14) Q 4 [some (dz_r q), some (dz_i (cadd kd i)), some (dz_i (i : Int))] [] 0 0 (sh, rf, M) := by
    intro n
    induction n with
    | zero =>
      intro i hi
      have hr0 := r0
      refine xr_iloadn hc rfl rfl ?_
      refine xr_aloadn hc rfl rfl ?_
      refine xr_getfi hc rfl (Or.inl rfl) (by first | assumption | rfl) ?_
      refine xr_icmp_ge hc rfl (t := 30) rfl (fun b9 => ?_) (fun b9 => ?_)
      · refine xr_iloadn hc rfl rfl ?_
        refine xr_ireturn hc rfl rfl (Nat.zero_le _) (Nat.zero_le _) ?_
        have e3 : i = w.toNat := by omega
        rw [e3]
        exact hQ
      · omega
    | succ n ih =>
      intro i hi
      have hr0 := r0
      have hc1 := cadd_in kd i
      obtain ⟨k1, k2, -⟩ := p5 i (by omega)
      obtain ⟨x1, -⟩ := r6 i (by omega)
      have e1 : cadd kd (i + 1) = cadd kd i + if kd i = 1 ∨ kd i = 3 ∨ kd i = 4 then 1 else 0 := rfl
      refine xr_iloadn hc rfl rfl ?_
      refine xr_aloadn hc rfl rfl ?_
      refine xr_getfi hc rfl (Or.inl rfl) (by first | assumption | rfl) ?_
      refine xr_icmp_ge hc rfl (t := 30) rfl (fun b9 => ?_) (fun b9 => ?_)
      · omega
      · refine xr_aloadn hc rfl rfl ?_
        refine xr_iloadn hc rfl rfl ?_
        refine xr_iconst hc rfl ?_
        refine xr_callv2 hc rfl (by first | assumption | rfl) rfl rfl rfl (Nat.le_of_ble_eq_true rfl) (Nat.zero_le _) (Nat.zero_le _) ?_
        refine S_isOf hx hm1 (by omega) (by simpa [x1] using ⟨k1, k2⟩) (by omega) (fun g1 => ?_) (fun g1 => ?_)
        · refine xk_1 ?_
          refine xr_iff hc rfl (by simp [dz_cmp]) ?_
          refine xr_iincz1 hc rfl rfl (by first | exact dz_wid (by first | omega | (unfold dz_w; omega)) (by first | omega | (unfold dz_w; omega)) | rfl) ?_
          refine xr_iincz2 hc rfl rfl (by first | exact dz_wid (by first | omega | (unfold dz_w; omega)) (by first | omega | (unfold dz_w; omega)) | rfl) ?_
          refine xr_goto hc rfl (t := 4) rfl ?_
          first
            | (have g2 : kd i = 1 ∨ kd i = 3 ∨ kd i = 4 := by
                simp [isof, x1] at g1
                omega
               rw [if_pos g2] at e1
               rw [← e1]
               exact ih (i + 1) (by omega))
            | (have g2 : ¬ (kd i = 1 ∨ kd i = 3 ∨ kd i = 4) := by
                simp [isof, x1] at g1
                omega
               rw [if_neg g2, Int.add_zero] at e1
               rw [← e1]
               exact ih (i + 1) (by omega))
        · refine xk_1 ?_
          refine xr_ift hc rfl (t := 24) rfl (by simp [dz_cmp]) ?_
          refine xr_iincz2 hc rfl rfl (by first | exact dz_wid (by first | omega | (unfold dz_w; omega)) (by first | omega | (unfold dz_w; omega)) | rfl) ?_
          refine xr_goto hc rfl (t := 4) rfl ?_
          first
            | (have g2 : kd i = 1 ∨ kd i = 3 ∨ kd i = 4 := by
                simp [isof, x1] at g1
                omega
               rw [if_pos g2] at e1
               rw [← e1]
               exact ih (i + 1) (by omega))
            | (have g2 : ¬ (kd i = 1 ∨ kd i = 3 ∨ kd i = 4) := by
                simp [isof, x1] at g1
                omega
               rw [if_neg g2, Int.add_zero] at e1
               rw [← e1]
               exact ih (i + 1) (by omega))
  refine xr_iconst hc rfl ?_
  refine xr_istore1 hc rfl rfl ?_
  refine xr_iconst hc rfl ?_
  refine xr_istore2 hc rfl rfl ?_
  exact lp w.toNat 0 (by omega)
