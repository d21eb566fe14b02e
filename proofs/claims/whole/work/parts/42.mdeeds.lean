/-! The other one: words, deeds. Written by l2_42.py. -/
theorem RM_deed {M M3 : Nat → Nat → Int} {rs : Nat → Int} {it : Nat → Nat → Int} {ts : Nat → Int} {ch : Nat → Nat → Int} {tl up lo : Int} {fn : Nat → Int} {w pl : Int} {kd wt nx : Nat → Int} {n : Nat} {hs : Nat → Nat → Int} {kp : Nat → Int} {kh : Nat → Nat → Nat → Int} {s : Nat → Int} (hR : RM M rs it ts ch tl up lo fn w pl kd wt nx n hs kp kh) (hW : WF rs it ts ch tl up lo fn w pl kd wt nx n hs kp kh) (hn : n < 40) (hf : ∀ q2 k2, ¬ (q2 = 115 ∧ 15 ≤ k2 ∧ k2 ≤ 23) → ¬ (q2 = 116 ∧ (k2 ≤ 22 ∨ (23 + 22 * n ≤ k2 ∧ k2 < 45 + 22 * n) ∨ 3612 ≤ k2)) → M3 q2 k2 = M q2 k2) (h0 : M3 116 0 = (n : Int) + 1) (h1 : ∀ c, 1 ≤ c → c ≤ 22 → M3 116 (22 + 22 * n + c) = M 116 c) (h2 : prel M3 0 w s) : RM M3 rs it ts ch tl up lo fn w pl kd wt nx (n + 1) (hup hs n s) kp kh := by
  obtain ⟨hrow, htxt, htl, hup, hlo, hfn, hdr, hkp⟩ := id hR
  obtain ⟨wrow, wtxt, wdr, wst, wkp⟩ := id hW
  have hw6 := WF_w hW
  have hdr3 : drM M w pl kd wt nx n hs ∧ w ≤ 6 ∧ n ≤ 40 := ⟨hdr, hw6.2, wst.1⟩
  have hkp3 : kepM M w kp kh ∧ w ≤ 6 ∧ ∀ k, k < 3 → kp k ≤ 40 := ⟨hkp, hw6.2, fun k hk => by
    rcases wkp k hk with z | z
    · omega
    · exact z.2.1⟩
  obtain ⟨a1, a2, a3, b1, b2, b3⟩ := hdr
  refine ⟨rowM_fr hrow (fun k2 => hf _ _ (by omega) (by omega)) (fun k2 => hf _ _ (by omega) (by omega)), txtM_fr htxt (fun k2 => hf _ _ (by omega) (by omega)) (fun k2 => hf _ _ (by omega) (by omega)), Eq.trans (hf _ _ (by omega) (by omega)) htl, Eq.trans (hf _ _ (by omega) (by omega)) hup, Eq.trans (hf _ _ (by omega) (by omega)) hlo, fndM_fr hfn (hf _ _ (by omega) (by omega)) (fun k2 => hf _ _ (by omega) (by omega)), ⟨by rw [hf _ _ (by omega) (by omega)]; exact a1, by rw [hf _ _ (by omega) (by omega)]; exact a2, fun i hi => by rw [hf _ _ (by omega) (by omega), hf _ _ (by omega) (by omega), hf _ _ (by omega) (by omega)]; exact a3 i hi, ?_⟩, kepM_fr hkp3 (fun k2 u1 u2 => hf _ _ (by omega) (by omega))⟩
  refine ⟨by rw [h0]; rfl, by rw [hup_eq]; exact h2, fun k hk => ?_⟩
  by_cases e : k = n
  · subst e
    rw [hup_ne (by omega)]
    intro c hc
    have hc2 := hc
    unfold okc at hc2
    have h3 := b2 c hc
    rw [Nat.zero_add] at h3
    rw [Nat.zero_add, h1 c (by omega) (by omega)]
    exact h3
  · rw [hup_ne (by omega)]
    exact prel_fr hw6.2 (b3 k (by omega)) (fun j u v => hf _ _ (by omega) (by omega))
theorem prel_mv {M M2 : Nat → Nat → Int} {b i : Nat} {w p : Int} {s : Nat → Int} (hw : w ≤ 6) (hi : i < 6) (h : prel M b w s) (h1 : ∀ k2, k2 ≠ b + (5 + i) → M2 116 k2 = M 116 k2) (h2 : M2 116 (b + (5 + i)) = p) : prel M2 b w (mv s i p) := fun c hc => by
  by_cases e : c = 5 + i
  · subst e
    rw [h2, mv_eq]
  · rw [h1 _ (by omega), mv_ne e]
    exact h c hc
theorem prel_vl {M M2 : Nat → Nat → Int} {b i : Nat} {w p : Int} {s : Nat → Int} (hw : w ≤ 6) (hi : i < 6) (h : prel M b w s) (h1 : ∀ k2, k2 ≠ b + (11 + i) → M2 116 k2 = M 116 k2) (h2 : M2 116 (b + (11 + i)) = p) : prel M2 b w (vl s i p) := fun c hc => by
  by_cases e : c = 11 + i
  · subst e
    rw [h2, vl_eq]
  · rw [h1 _ (by omega), vl_ne e]
    exact h c hc
theorem prel_sw {M M2 : Nat → Nat → Int} {b i j : Nat} {w : Int} {s : Nat → Int} (hi : (i : Int) < w) (hj : (j : Int) < w) (h : prel M b w s) (h1 : ∀ k2, M2 116 k2 = if k2 = b + (5 + j) then M 116 (b + (5 + i)) else if k2 = b + (5 + i) then M 116 (b + (5 + j)) else M 116 k2) : prel M2 b w (sw s i j) := fun c hc => by
  have hi2 := h (5 + i) (by unfold okc; omega)
  have hj2 := h (5 + j) (by unfold okc; omega)
  rw [h1]
  by_cases e : c = 5 + j
  · subst e
    rw [if_pos rfl, sw_2, hi2]
  · rw [if_neg (by omega)]
    by_cases e2 : c = 5 + i
    · subst e2
      rw [if_pos rfl, sw_1, hj2]
    · rw [if_neg (by omega), sw_ne e2 e]
      exact h c hc
set_option maxRecDepth 100000 in
theorem D_toldOf {xo : Nat → List Int} {d : Nat} {Q : dz_Q} {sh : List (Nat ⊕ (Nat × Nat))} {rf : Nat → Nat → Nat} {M : Nat → Nat → Int} {rs : Nat → Int} {it : Nat → Nat → Int} {ts : Nat → Int} {ch : Nat → Nat → Int} {tl up lo : Int} {fn : Nat → Int} {w pl : Int} {kd wt nx : Nat → Int} {n : Nat} {hs : Nat → Nat → Int} {kp : Nat → Int} {kh : Nat → Nat → Nat → Int} {i what : Int} (hl : ml sh rf) (hR : RM M rs it ts ch tl up lo fn w pl kd wt nx n hs kp kh) (hW : WF rs it ts ch tl up lo fn w pl kd wt nx n hs kp kh) (hi : 0 ≤ i ∧ i < w) (hQ : Q (some (dz_i (tw kd wt nx (hs n) i.toNat what))) (sh, rf, M)) : dz_E dz_pp xo (d + 1) 154 [dz_r 115, dz_i i, dz_i what] (sh, rf, M) Q := by
  refine ⟨Nat.le_of_ble_eq_true rfl, ?_⟩
  have hc := dz_E_m dz_pp xo (d + 0)
  show dz_X (dz_E dz_pp xo (d + 0)) dz_pp xo (dz_pp 154) Q 0 [some (dz_r 115), some (dz_i i), some (dz_i what)] [] 0 0 (sh, rf, M)
  obtain ⟨c0, c1, c2, c3, c4, c5, c6, c7, c8, c9, c10, c11, c12, c13, c14, c15, c16, c17, c18, c19, c20, c21, c22, c23, c24, c25, c26, c27, c28, c29⟩ := id hl
  obtain ⟨hrow, htxt, htl, hup, hlo, hfn, hdr, hkp⟩ := id hR
  obtain ⟨wrow, wtxt, wdr, wst, wkp⟩ := id hW
  have hw6 := WF_w hW
  have hdr3 : drM M w pl kd wt nx n hs ∧ w ≤ 6 ∧ n ≤ 40 := ⟨hdr, hw6.2, wst.1⟩
  have hkp3 : kepM M w kp kh ∧ w ≤ 6 ∧ ∀ k, k < 3 → kp k ≤ 40 := ⟨hkp, hw6.2, fun k hk => by
    rcases wkp k hk with z | z
    · omega
    · exact z.2.1⟩
  obtain ⟨a1, a2, a3, b1, b2, b3⟩ := id hdr
  have hpg : pgM M w pl kd wt nx := ⟨a1, a2, a3⟩
  have b2c : ∀ c, okc w c → M 116 c = hs n c := fun c hc => by
    have h3 := b2 c hc
    rw [Nat.zero_add] at h3
    exact h3
  have i5 : (5 + i).toNat = 5 + i.toNat := by omega
  have i11 : (11 + i).toNat = 11 + i.toNat := by omega
  have i17 : (17 + i).toNat = 17 + i.toNat := by omega
  obtain ⟨x1, x2, x3⟩ := a3 i.toNat (by omega)
  have y5 := b2c (5 + i.toNat) (by unfold okc; omega)
  have y11 := b2c (11 + i.toNat) (by unfold okc; omega)
  have y17 := b2c (17 + i.toNat) (by unfold okc; omega)
  unfold tw at hQ
  refine xr_iloadn hc rfl rfl ?_
  refine xr_table hc rfl (fun t1 => ?_) (fun t1 t1b => ?_)
  · refine xr_at (t := 104) rfl ?_
    refine xr_aloadn hc rfl rfl ?_
    refine xr_getfr hc rfl rfl (by first | assumption | rfl) (by first | assumption | rfl) ?_
    refine xr_bipush hc rfl ?_
    refine xr_iloadn hc rfl rfl ?_
    refine xr_iaddz hc rfl (by first | exact dz_wid (by first | omega | (unfold dz_w; omega)) (by first | omega | (unfold dz_w; omega)) | rfl) ?_
    first | refine xr_iaload hc rfl (by first | assumption | rfl) (by first | omega | (unfold dz_w; omega)) (by first | omega | (unfold dz_w; omega)) ?_ | refine xr_ialoado hc rfl (by first | omega | (unfold dz_w; omega)) (by first | omega | (unfold dz_w; omega)) ?_
    rw [i17, y17]
    refine xr_ireturn hc rfl rfl (Nat.zero_le _) (Nat.zero_le _) ?_
    repeat (first | rw [if_pos (by omega)] at hQ | rw [if_neg (by omega)] at hQ)
    exact hQ
  · rcases (show what = 0 ∨ what = 1 ∨ what = 2 ∨ what = 3 ∨ what = 4 by omega) with e1 | e1 | e1 | e1 | e1
    · refine ⟨35, by rw [e1]; rfl, xr_at (t := 36) rfl ?_⟩
      refine xr_aloadn hc rfl rfl ?_
      refine xr_getfr hc rfl rfl (by first | assumption | rfl) (by first | assumption | rfl) ?_
      refine xr_iloadn hc rfl rfl ?_
      first | refine xr_iaload hc rfl (by first | assumption | rfl) (by first | omega | (unfold dz_w; omega)) (by first | omega | (unfold dz_w; omega)) ?_ | refine xr_ialoado hc rfl (by first | omega | (unfold dz_w; omega)) (by first | omega | (unfold dz_w; omega)) ?_
      rw [x1]
      refine xr_ireturn hc rfl rfl (Nat.zero_le _) (Nat.zero_le _) ?_
      repeat (first | rw [if_pos (by omega)] at hQ | rw [if_neg (by omega)] at hQ)
      exact hQ
    · refine ⟨42, by rw [e1]; rfl, xr_at (t := 43) rfl ?_⟩
      refine xr_aloadn hc rfl rfl ?_
      refine xr_getfr hc rfl rfl (by first | assumption | rfl) (by first | assumption | rfl) ?_
      refine xr_iconst hc rfl ?_
      refine xr_iloadn hc rfl rfl ?_
      refine xr_iaddz hc rfl (by first | exact dz_wid (by first | omega | (unfold dz_w; omega)) (by first | omega | (unfold dz_w; omega)) | rfl) ?_
      first | refine xr_iaload hc rfl (by first | assumption | rfl) (by first | omega | (unfold dz_w; omega)) (by first | omega | (unfold dz_w; omega)) ?_ | refine xr_ialoado hc rfl (by first | omega | (unfold dz_w; omega)) (by first | omega | (unfold dz_w; omega)) ?_
      rw [i5, y5]
      refine xr_ireturn hc rfl rfl (Nat.zero_le _) (Nat.zero_le _) ?_
      repeat (first | rw [if_pos (by omega)] at hQ | rw [if_neg (by omega)] at hQ)
      exact hQ
    · refine ⟨51, by rw [e1]; rfl, xr_at (t := 52) rfl ?_⟩
      refine xr_aloadn hc rfl rfl ?_
      refine xr_getfr hc rfl rfl (by first | assumption | rfl) (by first | assumption | rfl) ?_
      refine xr_bipush hc rfl ?_
      refine xr_iloadn hc rfl rfl ?_
      refine xr_iaddz hc rfl (by first | exact dz_wid (by first | omega | (unfold dz_w; omega)) (by first | omega | (unfold dz_w; omega)) | rfl) ?_
      first | refine xr_iaload hc rfl (by first | assumption | rfl) (by first | omega | (unfold dz_w; omega)) (by first | omega | (unfold dz_w; omega)) ?_ | refine xr_ialoado hc rfl (by first | omega | (unfold dz_w; omega)) (by first | omega | (unfold dz_w; omega)) ?_
      rw [i11, y11]
      refine xr_ireturn hc rfl rfl (Nat.zero_le _) (Nat.zero_le _) ?_
      repeat (first | rw [if_pos (by omega)] at hQ | rw [if_neg (by omega)] at hQ)
      exact hQ
    · refine ⟨61, by rw [e1]; rfl, xr_at (t := 62) rfl ?_⟩
      refine xr_aloadn hc rfl rfl ?_
      refine xr_getfr hc rfl rfl (by first | assumption | rfl) (by first | assumption | rfl) ?_
      refine xr_iloadn hc rfl rfl ?_
      first | refine xr_iaload hc rfl (by first | assumption | rfl) (by first | omega | (unfold dz_w; omega)) (by first | omega | (unfold dz_w; omega)) ?_ | refine xr_ialoado hc rfl (by first | omega | (unfold dz_w; omega)) (by first | omega | (unfold dz_w; omega)) ?_
      rw [x1]
      refine xr_if_ne hc rfl (t := 76) rfl (fun b68 => ?_) (fun b68 => ?_)
      · refine xr_aloadn hc rfl rfl ?_
        refine xr_getfr hc rfl rfl (by first | assumption | rfl) (by first | assumption | rfl) ?_
        refine xr_iloadn hc rfl rfl ?_
        first | refine xr_iaload hc rfl (by first | assumption | rfl) (by first | omega | (unfold dz_w; omega)) (by first | omega | (unfold dz_w; omega)) ?_ | refine xr_ialoado hc rfl (by first | omega | (unfold dz_w; omega)) (by first | omega | (unfold dz_w; omega)) ?_
        refine xr_ireturn hc rfl rfl (Nat.zero_le _) (Nat.zero_le _) ?_
        repeat (first | rw [if_pos (by omega)] at hQ | rw [if_neg (by omega)] at hQ)
        first
          | exact hQ
          | (rw [x2]; exact hQ)
      · refine xr_bipush hc rfl ?_
        refine xr_goto hc rfl (t := 82) rfl ?_
        refine xr_ireturn hc rfl rfl (Nat.zero_le _) (Nat.zero_le _) ?_
        repeat (first | rw [if_pos (by omega)] at hQ | rw [if_neg (by omega)] at hQ)
        first
          | exact hQ
          | (rw [x2]; exact hQ)
    · refine ⟨82, by rw [e1]; rfl, xr_at (t := 83) rfl ?_⟩
      refine xr_aloadn hc rfl rfl ?_
      refine xr_getfr hc rfl rfl (by first | assumption | rfl) (by first | assumption | rfl) ?_
      refine xr_iloadn hc rfl rfl ?_
      first | refine xr_iaload hc rfl (by first | assumption | rfl) (by first | omega | (unfold dz_w; omega)) (by first | omega | (unfold dz_w; omega)) ?_ | refine xr_ialoado hc rfl (by first | omega | (unfold dz_w; omega)) (by first | omega | (unfold dz_w; omega)) ?_
      rw [x1]
      refine xr_if_ne hc rfl (t := 97) rfl (fun b89 => ?_) (fun b89 => ?_)
      · refine xr_aloadn hc rfl rfl ?_
        refine xr_getfr hc rfl rfl (by first | assumption | rfl) (by first | assumption | rfl) ?_
        refine xr_iloadn hc rfl rfl ?_
        first | refine xr_iaload hc rfl (by first | assumption | rfl) (by first | omega | (unfold dz_w; omega)) (by first | omega | (unfold dz_w; omega)) ?_ | refine xr_ialoado hc rfl (by first | omega | (unfold dz_w; omega)) (by first | omega | (unfold dz_w; omega)) ?_
        refine xr_ireturn hc rfl rfl (Nat.zero_le _) (Nat.zero_le _) ?_
        repeat (first | rw [if_pos (by omega)] at hQ | rw [if_neg (by omega)] at hQ)
        first
          | exact hQ
          | (rw [x3]; exact hQ)
      · refine xr_bipush hc rfl ?_
        refine xr_goto hc rfl (t := 103) rfl ?_
        refine xr_ireturn hc rfl rfl (Nat.zero_le _) (Nat.zero_le _) ?_
        repeat (first | rw [if_pos (by omega)] at hQ | rw [if_neg (by omega)] at hQ)
        first
          | exact hQ
          | (rw [x3]; exact hQ)
set_option maxRecDepth 100000 in
theorem D_word {xo : Nat → List Int} {d : Nat} {Q : dz_Q} {sh : List (Nat ⊕ (Nat × Nat))} {rf : Nat → Nat → Nat} {M : Nat → Nat → Int} {rs : Nat → Int} {it : Nat → Nat → Int} {ts : Nat → Int} {ch : Nat → Nat → Int} {tl up lo : Int} {fn : Nat → Int} {w pl : Int} {kd wt nx : Nat → Int} {n : Nat} {hs : Nat → Nat → Int} {kp : Nat → Int} {kh : Nat → Nat → Nat → Int} {i what : Int} (hl : ml sh rf) (hR : RM M rs it ts ch tl up lo fn w pl kd wt nx n hs kp kh) (hW : WF rs it ts ch tl up lo fn w pl kd wt nx n hs kp kh) (hQ : ∀ M2 : Nat → Nat → Int, (∀ q2 k2, q2 < 115 → M2 q2 k2 = M q2 k2) → RM M2 rs it ts ch (o_word tl w kd wt nx (hs n) i what).2 up lo fn w pl kd wt nx n hs kp kh → Q (some (dz_i ((o_word tl w kd wt nx (hs n) i what).1))) (sh, rf, M2)) : dz_E dz_pp xo (d + 3) 155 [dz_r 115, dz_i i, dz_i what] (sh, rf, M) Q := by
  refine ⟨Nat.le_of_ble_eq_true rfl, ?_⟩
  have hc := dz_E_m dz_pp xo (d + 2)
  show dz_X (dz_E dz_pp xo (d + 2)) dz_pp xo (dz_pp 155) Q 0 [some (dz_r 115), some (dz_i i), some (dz_i what)] [] 0 0 (sh, rf, M)
  obtain ⟨c0, c1, c2, c3, c4, c5, c6, c7, c8, c9, c10, c11, c12, c13, c14, c15, c16, c17, c18, c19, c20, c21, c22, c23, c24, c25, c26, c27, c28, c29⟩ := id hl
  obtain ⟨hrow, htxt, htl, hup, hlo, hfn, hdr, hkp⟩ := id hR
  obtain ⟨wrow, wtxt, wdr, wst, wkp⟩ := id hW
  have hw6 := WF_w hW
  have hdr3 : drM M w pl kd wt nx n hs ∧ w ≤ 6 ∧ n ≤ 40 := ⟨hdr, hw6.2, wst.1⟩
  have hkp3 : kepM M w kp kh ∧ w ≤ 6 ∧ ∀ k, k < 3 → kp k ≤ 40 := ⟨hkp, hw6.2, fun k hk => by
    rcases wkp k hk with z | z
    · omega
    · exact z.2.1⟩
  obtain ⟨a1, a2, a3, b1, b2, b3⟩ := id hdr
  have hpg : pgM M w pl kd wt nx := ⟨a1, a2, a3⟩
  have b2c : ∀ c, okc w c → M 116 c = hs n c := fun c hc => by
    have h3 := b2 c hc
    rw [Nat.zero_add] at h3
    exact h3
  refine xr_aloadn hc rfl rfl ?_
  refine xr_iloadn hc rfl rfl ?_
  refine xr_callv1 hc rfl (by first | assumption | rfl) rfl rfl rfl (Nat.le_of_ble_eq_true rfl) (Nat.zero_le _) (Nat.zero_le _) ?_
  refine D_isWord hl a1 hw6 (fun u1 v1 => ?_) (fun u1 => ?_)
  · refine xk_1 ?_
    refine xr_iff hc rfl (by simp [dz_cmp]) ?_
    refine xr_iloadn hc rfl rfl ?_
    refine xr_i2l hc rfl ?_
    refine xr_lconst hc rfl ?_
    refine xr_ldc2 hc rfl ?_
    refine xr_calls3 hc rfl (by decide) rfl rfl rfl (Nat.le_of_ble_eq_true rfl) (Nat.zero_le _) (Nat.zero_le _) ?_
    refine S_in (fun u2 v2 => ?_) (fun u2 => ?_)
    · refine xk_1 ?_
      refine xr_iff hc rfl (by simp [dz_cmp]) ?_
      refine xr_aloadn hc rfl rfl ?_
      refine xr_aloadn hc rfl rfl ?_
      refine xr_iloadn hc rfl rfl ?_
      refine xr_iloadn hc rfl rfl ?_
      refine xr_callv2 hc rfl (by first | assumption | rfl) rfl rfl rfl (Nat.le_of_ble_eq_true rfl) (Nat.zero_le _) (Nat.zero_le _) ?_
      refine D_toldOf hl hR hW (by omega) ?_
      refine xk_1 ?_
      refine xr_callv1 hc rfl (by first | assumption | rfl) rfl rfl rfl (Nat.le_of_ble_eq_true rfl) (Nat.zero_le _) (Nat.zero_le _) ?_
      refine D_tell hl hR hW (fun M2 z1 z2 => ?_)
      refine xk_1 ?_
      refine xr_goto hc rfl (t := 34) rfl ?_
      refine xr_ireturn hc rfl rfl (Nat.zero_le _) (Nat.zero_le _) ?_
      simp only [o_word] at hQ
      repeat (first | rw [if_pos (by omega)] at hQ | rw [if_neg (by omega)] at hQ)
      try dsimp only at hQ
      first
        | exact hQ M2 z1 z2
        | exact hQ M (fun _ _ _ => rfl) hR
    · refine xk_1 ?_
      refine xr_ift hc rfl (t := 33) rfl (by simp [dz_cmp]) ?_
      refine xr_iconst hc rfl ?_
      refine xr_ireturn hc rfl rfl (Nat.zero_le _) (Nat.zero_le _) ?_
      simp only [o_word] at hQ
      repeat (first | rw [if_pos (by omega)] at hQ | rw [if_neg (by omega)] at hQ)
      try dsimp only at hQ
      first
        | exact hQ M2 z1 z2
        | exact hQ M (fun _ _ _ => rfl) hR
  · refine xk_1 ?_
    refine xr_ift hc rfl (t := 33) rfl (by simp [dz_cmp]) ?_
    refine xr_iconst hc rfl ?_
    refine xr_ireturn hc rfl rfl (Nat.zero_le _) (Nat.zero_le _) ?_
    simp only [o_word] at hQ
    repeat (first | rw [if_pos (by omega)] at hQ | rw [if_neg (by omega)] at hQ)
    try dsimp only at hQ
    first
      | exact hQ M2 z1 z2
      | exact hQ M (fun _ _ _ => rfl) hR
set_option maxRecDepth 100000 in
theorem D_isOf {xo : Nat → List Int} {d : Nat} {Q : dz_Q} {sh : List (Nat ⊕ (Nat × Nat))} {rf : Nat → Nat → Nat} {M : Nat → Nat → Int} {i c : Int} {kd : Nat → Int} (hl : ml sh rf) (hi : 0 ≤ i ∧ i < 6) (hk : M 117 i.toNat = kd i.toNat) (h1 : (kd i.toNat = c ∨ (c = 1 ∧ (kd i.toNat = 3 ∨ kd i.toNat = 4)) ∨ (c = 2 ∧ kd i.toNat = 5)) → Q (some (dz_i 1)) (sh, rf, M)) (h2 : ¬ (kd i.toNat = c ∨ (c = 1 ∧ (kd i.toNat = 3 ∨ kd i.toNat = 4)) ∨ (c = 2 ∧ kd i.toNat = 5)) → Q (some (dz_i 0)) (sh, rf, M)) : dz_E dz_pp xo (d + 1) 156 [dz_r 115, dz_i i, dz_i c] (sh, rf, M) Q := by
  refine ⟨Nat.le_of_ble_eq_true rfl, ?_⟩
  have hc := dz_E_m dz_pp xo (d + 0)
  show dz_X (dz_E dz_pp xo (d + 0)) dz_pp xo (dz_pp 156) Q 0 [some (dz_r 115), some (dz_i i), some (dz_i c), none] [] 0 0 (sh, rf, M)
  obtain ⟨c0, c1, c2, c3, c4, c5, c6, c7, c8, c9, c10, c11, c12, c13, c14, c15, c16, c17, c18, c19, c20, c21, c22, c23, c24, c25, c26, c27, c28, c29⟩ := id hl
  refine xr_aloadn hc rfl rfl ?_
  refine xr_getfr hc rfl rfl (by first | assumption | rfl) (by first | assumption | rfl) ?_
  refine xr_iloadn hc rfl rfl ?_
  first | refine xr_iaload hc rfl (by first | assumption | rfl) (by first | omega | (unfold dz_w; omega)) (by first | omega | (unfold dz_w; omega)) ?_ | refine xr_ialoado hc rfl (by first | omega | (unfold dz_w; omega)) (by first | omega | (unfold dz_w; omega)) ?_
  rw [hk]
  refine xr_istore3 hc rfl rfl ?_
  refine xr_iloadn hc rfl rfl ?_
  refine xr_iloadn hc rfl rfl ?_
  refine xr_icmp_eq hc rfl (t := 37) rfl (fun b9 => ?_) (fun b9 => ?_)
  · refine xr_iconst hc rfl ?_
    refine xr_goto hc rfl (t := 42) rfl ?_
    refine xr_zreturn hc rfl rfl (Nat.zero_le _) (Nat.zero_le _) (by first | exact Or.inl rfl | exact Or.inr rfl | assumption) ?_
    first
      | exact h1 (by omega)
      | exact h2 (by omega)
  · refine xr_iloadn hc rfl rfl ?_
    refine xr_iconst hc rfl ?_
    refine xr_icmp_ne hc rfl (t := 27) rfl (fun b14 => ?_) (fun b14 => ?_)
    · refine xr_iloadn hc rfl rfl ?_
      refine xr_iconst hc rfl ?_
      refine xr_icmp_ne hc rfl (t := 41) rfl (fun b29 => ?_) (fun b29 => ?_)
      · refine xr_iconst hc rfl ?_
        refine xr_zreturn hc rfl rfl (Nat.zero_le _) (Nat.zero_le _) (by first | exact Or.inl rfl | exact Or.inr rfl | assumption) ?_
        first
          | exact h1 (by omega)
          | exact h2 (by omega)
      · refine xr_iloadn hc rfl rfl ?_
        refine xr_iconst hc rfl ?_
        refine xr_icmp_ne hc rfl (t := 41) rfl (fun b34 => ?_) (fun b34 => ?_)
        · refine xr_iconst hc rfl ?_
          refine xr_zreturn hc rfl rfl (Nat.zero_le _) (Nat.zero_le _) (by first | exact Or.inl rfl | exact Or.inr rfl | assumption) ?_
          first
            | exact h1 (by omega)
            | exact h2 (by omega)
        · refine xr_iconst hc rfl ?_
          refine xr_goto hc rfl (t := 42) rfl ?_
          refine xr_zreturn hc rfl rfl (Nat.zero_le _) (Nat.zero_le _) (by first | exact Or.inl rfl | exact Or.inr rfl | assumption) ?_
          first
            | exact h1 (by omega)
            | exact h2 (by omega)
    · refine xr_iloadn hc rfl rfl ?_
      refine xr_iconst hc rfl ?_
      refine xr_icmp_eq hc rfl (t := 37) rfl (fun b19 => ?_) (fun b19 => ?_)
      · refine xr_iconst hc rfl ?_
        refine xr_goto hc rfl (t := 42) rfl ?_
        refine xr_zreturn hc rfl rfl (Nat.zero_le _) (Nat.zero_le _) (by first | exact Or.inl rfl | exact Or.inr rfl | assumption) ?_
        first
          | exact h1 (by omega)
          | exact h2 (by omega)
      · refine xr_iloadn hc rfl rfl ?_
        refine xr_iconst hc rfl ?_
        refine xr_icmp_eq hc rfl (t := 37) rfl (fun b24 => ?_) (fun b24 => ?_)
        · refine xr_iconst hc rfl ?_
          refine xr_goto hc rfl (t := 42) rfl ?_
          refine xr_zreturn hc rfl rfl (Nat.zero_le _) (Nat.zero_le _) (by first | exact Or.inl rfl | exact Or.inr rfl | assumption) ?_
          first
            | exact h1 (by omega)
            | exact h2 (by omega)
        · refine xr_iloadn hc rfl rfl ?_
          refine xr_iconst hc rfl ?_
          refine xr_icmp_ne hc rfl (t := 41) rfl (fun b29 => ?_) (fun b29 => ?_)
          · refine xr_iconst hc rfl ?_
            refine xr_zreturn hc rfl rfl (Nat.zero_le _) (Nat.zero_le _) (by first | exact Or.inl rfl | exact Or.inr rfl | assumption) ?_
            first
              | exact h1 (by omega)
              | exact h2 (by omega)
          · refine xr_iloadn hc rfl rfl ?_
            refine xr_iconst hc rfl ?_
            refine xr_icmp_ne hc rfl (t := 41) rfl (fun b34 => ?_) (fun b34 => ?_)
            · refine xr_iconst hc rfl ?_
              refine xr_zreturn hc rfl rfl (Nat.zero_le _) (Nat.zero_le _) (by first | exact Or.inl rfl | exact Or.inr rfl | assumption) ?_
              first
                | exact h1 (by omega)
                | exact h2 (by omega)
            · refine xr_iconst hc rfl ?_
              refine xr_goto hc rfl (t := 42) rfl ?_
              refine xr_zreturn hc rfl rfl (Nat.zero_le _) (Nat.zero_le _) (by first | exact Or.inl rfl | exact Or.inr rfl | assumption) ?_
              first
                | exact h1 (by omega)
                | exact h2 (by omega)
set_option maxRecDepth 100000 in
theorem D_mark {xo : Nat → List Int} {d : Nat} {Q : dz_Q} {sh : List (Nat ⊕ (Nat × Nat))} {rf : Nat → Nat → Nat} {M : Nat → Nat → Int} {rs : Nat → Int} {it : Nat → Nat → Int} {ts : Nat → Int} {ch : Nat → Nat → Int} {tl up lo : Int} {fn : Nat → Int} {w pl : Int} {kd wt nx : Nat → Int} {n : Nat} {hs : Nat → Nat → Int} {kp : Nat → Int} {kh : Nat → Nat → Nat → Int} {i c : Int} (hl : ml sh rf) (hR : RM M rs it ts ch tl up lo fn w pl kd wt nx n hs kp kh) (hW : WF rs it ts ch tl up lo fn w pl kd wt nx n hs kp kh) (hQ : ∀ M2 : Nat → Nat → Int, (∀ q2 k2, q2 < 115 → M2 q2 k2 = M q2 k2) → RM M2 rs it ts ch tl up lo (o_mark fn w pl kd wt nx (hs n) i c).2 w pl kd wt nx n hs kp kh → Q (some (dz_i ((o_mark fn w pl kd wt nx (hs n) i c).1))) (sh, rf, M2)) : dz_E dz_pp xo (d + 3) 157 [dz_r 115, dz_i i, dz_i c] (sh, rf, M) Q := by
  refine ⟨Nat.le_of_ble_eq_true rfl, ?_⟩
  have hc := dz_E_m dz_pp xo (d + 2)
  show dz_X (dz_E dz_pp xo (d + 2)) dz_pp xo (dz_pp 157) Q 0 [some (dz_r 115), some (dz_i i), some (dz_i c)] [] 0 0 (sh, rf, M)
  obtain ⟨c0, c1, c2, c3, c4, c5, c6, c7, c8, c9, c10, c11, c12, c13, c14, c15, c16, c17, c18, c19, c20, c21, c22, c23, c24, c25, c26, c27, c28, c29⟩ := id hl
  obtain ⟨hrow, htxt, htl, hup, hlo, hfn, hdr, hkp⟩ := id hR
  obtain ⟨wrow, wtxt, wdr, wst, wkp⟩ := id hW
  have hw6 := WF_w hW
  have hdr3 : drM M w pl kd wt nx n hs ∧ w ≤ 6 ∧ n ≤ 40 := ⟨hdr, hw6.2, wst.1⟩
  have hkp3 : kepM M w kp kh ∧ w ≤ 6 ∧ ∀ k, k < 3 → kp k ≤ 40 := ⟨hkp, hw6.2, fun k hk => by
    rcases wkp k hk with z | z
    · omega
    · exact z.2.1⟩
  obtain ⟨a1, a2, a3, b1, b2, b3⟩ := id hdr
  have hpg : pgM M w pl kd wt nx := ⟨a1, a2, a3⟩
  have b2c : ∀ c, okc w c → M 116 c = hs n c := fun c hc => by
    have h3 := b2 c hc
    rw [Nat.zero_add] at h3
    exact h3
  refine xr_aloadn hc rfl rfl ?_
  refine xr_iloadn hc rfl rfl ?_
  refine xr_callv1 hc rfl (by first | assumption | rfl) rfl rfl rfl (Nat.le_of_ble_eq_true rfl) (Nat.zero_le _) (Nat.zero_le _) ?_
  refine D_isWord hl a1 hw6 (fun u1 v1 => ?_) (fun u1 => ?_)
  · refine xk_1 ?_
    refine xr_iff hc rfl (by simp [dz_cmp]) ?_
    refine xr_iloadn hc rfl rfl ?_
    refine xr_i2l hc rfl ?_
    refine xr_lconst hc rfl ?_
    refine xr_ldc2 hc rfl ?_
    refine xr_calls3 hc rfl (by decide) rfl rfl rfl (Nat.le_of_ble_eq_true rfl) (Nat.zero_le _) (Nat.zero_le _) ?_
    refine S_in (fun u2 v2 => ?_) (fun u2 => ?_)
    · refine xk_1 ?_
      refine xr_ift hc rfl (t := 22) rfl (by simp [dz_cmp]) ?_
      refine xr_aloadn hc rfl rfl ?_
      refine xr_iloadn hc rfl rfl ?_
      refine xr_iloadn hc rfl rfl ?_
      refine xr_callv2 hc rfl (by first | assumption | rfl) rfl rfl rfl (Nat.le_of_ble_eq_true rfl) (Nat.zero_le _) (Nat.zero_le _) ?_
      have hp := WF_p hW (by omega)
      have hst := wst.2 n (Nat.le_refl n)
      have i5 : (5 + i).toNat = 5 + i.toNat := by omega
      have i11 : (11 + i).toNat = 11 + i.toNat := by omega
      have i17 : (17 + i).toNat = 17 + i.toNat := by omega
      obtain ⟨x1, x2, x3⟩ := a3 i.toNat (by omega)
      have y5 := b2c (5 + i.toNat) (by unfold okc; omega)
      have y11 := b2c (11 + i.toNat) (by unfold okc; omega)
      have y17 := b2c (17 + i.toNat) (by unfold okc; omega)
      obtain ⟨k1, k2, k3, k4, k5, k6⟩ := hp.2.2.2.2 i.toNat (by omega)
      have hp3 := hp.2.2.1
      have hp4 := hp.2.2.2.1
      obtain ⟨s0, s1, s2, s3, s4, s5, s6, s7, s8⟩ := hst
      obtain ⟨q1, q2, -⟩ := s8 i.toNat (by omega)
      obtain ⟨q3, q4, q5, q6, -⟩ := s8 (wt i.toNat).toNat (by omega)
      obtain ⟨q7, q8, -⟩ := s8 (nx i.toNat).toNat (by omega)
      have j5 : (5 + wt i.toNat).toNat = 5 + (wt i.toNat).toNat := by omega
      have j11 : (11 + wt i.toNat).toNat = 11 + (wt i.toNat).toNat := by omega
      have n5 : (5 + nx i.toNat).toNat = 5 + (nx i.toNat).toNat := by omega
      have yw := b2c (5 + (wt i.toNat).toNat) (by unfold okc; omega)
      have yv := b2c (11 + (wt i.toNat).toNat) (by unfold okc; omega)
      have yn := b2c (5 + (nx i.toNat).toNat) (by unfold okc; omega)
      have ys : M 116 2 = hs n 2 := b2c 2 (by unfold okc; omega)
      have t2 : Int.toNat 2 = 2 := rfl
      refine D_isOf (kd := kd) hl (by omega) x1 (fun y1 => ?_) (fun y1 => ?_)
      · refine xk_1 ?_
        refine xr_ift hc rfl (t := 37) rfl (by simp [dz_cmp]) ?_
        refine xr_iloadn hc rfl rfl ?_
        refine xr_table hc rfl (fun t38 => ?_) (fun t38 t38b => ?_)
        · refine xr_at (t := 173) rfl ?_
          refine xr_aloadn hc rfl rfl ?_
          refine xr_getfr hc rfl rfl (by first | assumption | rfl) (by first | assumption | rfl) ?_
          refine xr_iconst hc rfl ?_
          first | refine xr_iaload hc rfl (by first | assumption | rfl) (by first | omega | (unfold dz_w; omega)) (by first | omega | (unfold dz_w; omega)) ?_ | refine xr_ialoado hc rfl (by first | omega | (unfold dz_w; omega)) (by first | omega | (unfold dz_w; omega)) ?_
          rw [t2, ys]
          refine xr_bipush hc rfl ?_
          refine xr_icmp_le hc rfl (t := 193) rfl (fun b181 => ?_) (fun b181 => ?_)
          · refine xr_aloadn hc rfl rfl ?_
            refine xr_getfr hc rfl rfl (by first | assumption | rfl) (by first | assumption | rfl) ?_
            refine xr_iloadn hc rfl rfl ?_
            first | refine xr_iaload hc rfl (by first | assumption | rfl) (by first | omega | (unfold dz_w; omega)) (by first | omega | (unfold dz_w; omega)) ?_ | refine xr_ialoado hc rfl (by first | omega | (unfold dz_w; omega)) (by first | omega | (unfold dz_w; omega)) ?_
            refine xr_ireturn hc rfl rfl (Nat.zero_le _) (Nat.zero_le _) ?_
            simp only [o_mark, mk, du] at hQ
            repeat (first | rw [if_pos (by omega)] at hQ | rw [if_neg (by omega)] at hQ)
            try dsimp only at hQ
            first
              | (rw [x2]; exact hQ M (fun _ _ _ => rfl) hR)
              | (rw [x3]; exact hQ M (fun _ _ _ => rfl) hR)
          · refine xr_aloadn hc rfl rfl ?_
            refine xr_getfr hc rfl rfl (by first | assumption | rfl) (by first | assumption | rfl) ?_
            refine xr_iloadn hc rfl rfl ?_
            first | refine xr_iaload hc rfl (by first | assumption | rfl) (by first | omega | (unfold dz_w; omega)) (by first | omega | (unfold dz_w; omega)) ?_ | refine xr_ialoado hc rfl (by first | omega | (unfold dz_w; omega)) (by first | omega | (unfold dz_w; omega)) ?_
            refine xr_goto hc rfl (t := 199) rfl ?_
            refine xr_ireturn hc rfl rfl (Nat.zero_le _) (Nat.zero_le _) ?_
            simp only [o_mark, mk, du] at hQ
            repeat (first | rw [if_pos (by omega)] at hQ | rw [if_neg (by omega)] at hQ)
            try dsimp only at hQ
            first
              | (rw [x2]; exact hQ M (fun _ _ _ => rfl) hR)
              | (rw [x3]; exact hQ M (fun _ _ _ => rfl) hR)
        · rcases (show c = 1 ∨ c = 2 ∨ c = 3 ∨ c = 4 by omega) with e38 | e38 | e38 | e38
          · refine ⟨30, by rw [e38]; rfl, xr_at (t := 68) rfl ?_⟩
            refine xr_aloadn hc rfl rfl ?_
            refine xr_aloadn hc rfl rfl ?_
            refine xr_getfr hc rfl rfl (by first | assumption | rfl) (by first | assumption | rfl) ?_
            refine xr_iconst hc rfl ?_
            refine xr_aloadn hc rfl rfl ?_
            refine xr_getfr hc rfl rfl (by first | assumption | rfl) (by first | assumption | rfl) ?_
            refine xr_iloadn hc rfl rfl ?_
            first | refine xr_iaload hc rfl (by first | assumption | rfl) (by first | omega | (unfold dz_w; omega)) (by first | omega | (unfold dz_w; omega)) ?_ | refine xr_ialoado hc rfl (by first | omega | (unfold dz_w; omega)) (by first | omega | (unfold dz_w; omega)) ?_
            rw [x2]
            refine xr_iaddz hc rfl (by first | exact dz_wid (by first | omega | (unfold dz_w; omega)) (by first | omega | (unfold dz_w; omega)) | rfl) ?_
            first | refine xr_iaload hc rfl (by first | assumption | rfl) (by first | omega | (unfold dz_w; omega)) (by first | omega | (unfold dz_w; omega)) ?_ | refine xr_ialoado hc rfl (by first | omega | (unfold dz_w; omega)) (by first | omega | (unfold dz_w; omega)) ?_
            rw [j5, yw]
            refine xr_aloadn hc rfl rfl ?_
            refine xr_getfr hc rfl rfl (by first | assumption | rfl) (by first | assumption | rfl) ?_
            refine xr_iconst hc rfl ?_
            refine xr_iloadn hc rfl rfl ?_
            refine xr_iaddz hc rfl (by first | exact dz_wid (by first | omega | (unfold dz_w; omega)) (by first | omega | (unfold dz_w; omega)) | rfl) ?_
            first | refine xr_iaload hc rfl (by first | assumption | rfl) (by first | omega | (unfold dz_w; omega)) (by first | omega | (unfold dz_w; omega)) ?_ | refine xr_ialoado hc rfl (by first | omega | (unfold dz_w; omega)) (by first | omega | (unfold dz_w; omega)) ?_
            rw [i5, y5]
            refine xr_iconst hc rfl ?_
            refine xr_iaddz hc rfl (by first | exact dz_wid (by first | omega | (unfold dz_w; omega)) (by first | omega | (unfold dz_w; omega)) | rfl) ?_
            refine xr_callv2 hc rfl (by first | assumption | rfl) rfl rfl rfl (Nat.le_of_ble_eq_true rfl) (Nat.zero_le _) (Nat.zero_le _) ?_
            refine D_waitsFor hl a2 (by omega) (by omega) (by omega) ?_
            refine xk_1 ?_
            refine xr_ireturn hc rfl rfl (Nat.zero_le _) (Nat.zero_le _) ?_
            simp only [o_mark, mk] at hQ
            repeat (first | rw [if_pos (by omega)] at hQ | rw [if_neg (by omega)] at hQ)
            try dsimp only at hQ
            exact hQ M (fun _ _ _ => rfl) hR
          · refine ⟨58, by rw [e38]; rfl, xr_at (t := 96) rfl ?_⟩
            refine xr_aloadn hc rfl rfl ?_
            refine xr_aloadn hc rfl rfl ?_
            refine xr_getfr hc rfl rfl (by first | assumption | rfl) (by first | assumption | rfl) ?_
            refine xr_iconst hc rfl ?_
            refine xr_aloadn hc rfl rfl ?_
            refine xr_getfr hc rfl rfl (by first | assumption | rfl) (by first | assumption | rfl) ?_
            refine xr_iloadn hc rfl rfl ?_
            first | refine xr_iaload hc rfl (by first | assumption | rfl) (by first | omega | (unfold dz_w; omega)) (by first | omega | (unfold dz_w; omega)) ?_ | refine xr_ialoado hc rfl (by first | omega | (unfold dz_w; omega)) (by first | omega | (unfold dz_w; omega)) ?_
            rw [x3]
            refine xr_iaddz hc rfl (by first | exact dz_wid (by first | omega | (unfold dz_w; omega)) (by first | omega | (unfold dz_w; omega)) | rfl) ?_
            first | refine xr_iaload hc rfl (by first | assumption | rfl) (by first | omega | (unfold dz_w; omega)) (by first | omega | (unfold dz_w; omega)) ?_ | refine xr_ialoado hc rfl (by first | omega | (unfold dz_w; omega)) (by first | omega | (unfold dz_w; omega)) ?_
            rw [n5, yn]
            refine xr_aloadn hc rfl rfl ?_
            refine xr_getfr hc rfl rfl (by first | assumption | rfl) (by first | assumption | rfl) ?_
            refine xr_iconst hc rfl ?_
            refine xr_iloadn hc rfl rfl ?_
            refine xr_iaddz hc rfl (by first | exact dz_wid (by first | omega | (unfold dz_w; omega)) (by first | omega | (unfold dz_w; omega)) | rfl) ?_
            first | refine xr_iaload hc rfl (by first | assumption | rfl) (by first | omega | (unfold dz_w; omega)) (by first | omega | (unfold dz_w; omega)) ?_ | refine xr_ialoado hc rfl (by first | omega | (unfold dz_w; omega)) (by first | omega | (unfold dz_w; omega)) ?_
            rw [i5, y5]
            refine xr_iconst hc rfl ?_
            refine xr_iaddz hc rfl (by first | exact dz_wid (by first | omega | (unfold dz_w; omega)) (by first | omega | (unfold dz_w; omega)) | rfl) ?_
            refine xr_callv2 hc rfl (by first | assumption | rfl) rfl rfl rfl (Nat.le_of_ble_eq_true rfl) (Nat.zero_le _) (Nat.zero_le _) ?_
            refine D_waitsFor hl a2 (by omega) (by omega) (by omega) ?_
            refine xk_1 ?_
            refine xr_ireturn hc rfl rfl (Nat.zero_le _) (Nat.zero_le _) ?_
            simp only [o_mark, mk] at hQ
            repeat (first | rw [if_pos (by omega)] at hQ | rw [if_neg (by omega)] at hQ)
            try dsimp only at hQ
            exact hQ M (fun _ _ _ => rfl) hR
          · refine ⟨86, by rw [e38]; rfl, xr_at (t := 124) rfl ?_⟩
            refine xr_aloadn hc rfl rfl ?_
            refine xr_getfr hc rfl rfl (by first | assumption | rfl) (by first | assumption | rfl) ?_
            refine xr_iconst hc rfl ?_
            first | refine xr_iaload hc rfl (by first | assumption | rfl) (by first | omega | (unfold dz_w; omega)) (by first | omega | (unfold dz_w; omega)) ?_ | refine xr_ialoado hc rfl (by first | omega | (unfold dz_w; omega)) (by first | omega | (unfold dz_w; omega)) ?_
            rw [t2, ys]
            refine xr_aloadn hc rfl rfl ?_
            refine xr_getfr hc rfl rfl (by first | assumption | rfl) (by first | assumption | rfl) ?_
            refine xr_bipush hc rfl ?_
            refine xr_aloadn hc rfl rfl ?_
            refine xr_getfr hc rfl rfl (by first | assumption | rfl) (by first | assumption | rfl) ?_
            refine xr_iloadn hc rfl rfl ?_
            first | refine xr_iaload hc rfl (by first | assumption | rfl) (by first | omega | (unfold dz_w; omega)) (by first | omega | (unfold dz_w; omega)) ?_ | refine xr_ialoado hc rfl (by first | omega | (unfold dz_w; omega)) (by first | omega | (unfold dz_w; omega)) ?_
            rw [x2]
            refine xr_iaddz hc rfl (by first | exact dz_wid (by first | omega | (unfold dz_w; omega)) (by first | omega | (unfold dz_w; omega)) | rfl) ?_
            first | refine xr_iaload hc rfl (by first | assumption | rfl) (by first | omega | (unfold dz_w; omega)) (by first | omega | (unfold dz_w; omega)) ?_ | refine xr_ialoado hc rfl (by first | omega | (unfold dz_w; omega)) (by first | omega | (unfold dz_w; omega)) ?_
            rw [j11, yv]
            refine xr_icmp_eq hc rfl (t := 151) rfl (fun b144 => ?_) (fun b144 => ?_)
            · refine xr_iconst hc rfl ?_
              refine xr_ireturn hc rfl rfl (Nat.zero_le _) (Nat.zero_le _) ?_
              simp only [o_mark, mk] at hQ
              repeat (first | rw [if_pos (by omega)] at hQ | rw [if_neg (by omega)] at hQ)
              try dsimp only at hQ
              exact hQ M (fun _ _ _ => rfl) hR
            · refine xr_iconst hc rfl ?_
              refine xr_goto hc rfl (t := 152) rfl ?_
              refine xr_ireturn hc rfl rfl (Nat.zero_le _) (Nat.zero_le _) ?_
              simp only [o_mark, mk] at hQ
              repeat (first | rw [if_pos (by omega)] at hQ | rw [if_neg (by omega)] at hQ)
              try dsimp only at hQ
              exact hQ M (fun _ _ _ => rfl) hR
          · refine ⟨115, by rw [e38]; rfl, xr_at (t := 153) rfl ?_⟩
            refine xr_aloadn hc rfl rfl ?_
            refine xr_iconst hc rfl ?_
            refine xr_aloadn hc rfl rfl ?_
            refine xr_getfr hc rfl rfl (by first | assumption | rfl) (by first | assumption | rfl) ?_
            refine xr_bipush hc rfl ?_
            refine xr_aloadn hc rfl rfl ?_
            refine xr_getfr hc rfl rfl (by first | assumption | rfl) (by first | assumption | rfl) ?_
            refine xr_iloadn hc rfl rfl ?_
            first | refine xr_iaload hc rfl (by first | assumption | rfl) (by first | omega | (unfold dz_w; omega)) (by first | omega | (unfold dz_w; omega)) ?_ | refine xr_ialoado hc rfl (by first | omega | (unfold dz_w; omega)) (by first | omega | (unfold dz_w; omega)) ?_
            rw [x2]
            refine xr_iaddz hc rfl (by first | exact dz_wid (by first | omega | (unfold dz_w; omega)) (by first | omega | (unfold dz_w; omega)) | rfl) ?_
            first | refine xr_iaload hc rfl (by first | assumption | rfl) (by first | omega | (unfold dz_w; omega)) (by first | omega | (unfold dz_w; omega)) ?_ | refine xr_ialoado hc rfl (by first | omega | (unfold dz_w; omega)) (by first | omega | (unfold dz_w; omega)) ?_
            rw [j11, yv]
            refine xr_callv2 hc rfl (by first | assumption | rfl) rfl rfl rfl (Nat.le_of_ble_eq_true rfl) (Nat.zero_le _) (Nat.zero_le _) ?_
            refine D_worksBy (by omega) ?_
            refine xk_1 ?_
            refine xr_ireturn hc rfl rfl (Nat.zero_le _) (Nat.zero_le _) ?_
            simp only [o_mark, mk] at hQ
            repeat (first | rw [if_pos (by omega)] at hQ | rw [if_neg (by omega)] at hQ)
            try dsimp only at hQ
            rw [show kd i.toNat = 4 by omega] at hQ
            exact hQ M (fun _ _ _ => rfl) hR
      · refine xk_1 ?_
        refine xr_iff hc rfl (by simp [dz_cmp]) ?_
        refine xr_aloadn hc rfl rfl ?_
        refine xr_iconst hc rfl ?_
        refine xr_callv1 hc rfl (by first | assumption | rfl) rfl rfl rfl (Nat.le_of_ble_eq_true rfl) (Nat.zero_le _) (Nat.zero_le _) ?_
        refine D_find hl hR hW (by omega) (fun M2 z1 z2 => ?_)
        refine xk_1 ?_
        refine xr_ireturn hc rfl rfl (Nat.zero_le _) (Nat.zero_le _) ?_
        simp only [o_mark] at hQ
        repeat (first | rw [if_pos (by omega)] at hQ | rw [if_neg (by omega)] at hQ)
        try dsimp only at hQ
        exact hQ M2 z1 z2
    · refine xk_1 ?_
      refine xr_iff hc rfl (by simp [dz_cmp]) ?_
      refine xr_iconst hc rfl ?_
      refine xr_ireturn hc rfl rfl (Nat.zero_le _) (Nat.zero_le _) ?_
      simp only [o_mark] at hQ
      repeat (first | rw [if_pos (by omega)] at hQ | rw [if_neg (by omega)] at hQ)
      try dsimp only at hQ
      exact hQ M (fun _ _ _ => rfl) hR
  · refine xk_1 ?_
    refine xr_ift hc rfl (t := 20) rfl (by simp [dz_cmp]) ?_
    refine xr_iconst hc rfl ?_
    refine xr_ireturn hc rfl rfl (Nat.zero_le _) (Nat.zero_le _) ?_
    simp only [o_mark] at hQ
    repeat (first | rw [if_pos (by omega)] at hQ | rw [if_neg (by omega)] at hQ)
    try dsimp only at hQ
    exact hQ M (fun _ _ _ => rfl) hR
set_option maxRecDepth 100000 in
theorem D_waits {xo : Nat → List Int} {d : Nat} {Q : dz_Q} {sh : List (Nat ⊕ (Nat × Nat))} {rf : Nat → Nat → Nat} {M : Nat → Nat → Int} {rs : Nat → Int} {it : Nat → Nat → Int} {ts : Nat → Int} {ch : Nat → Nat → Int} {tl up lo : Int} {fn : Nat → Int} {w pl : Int} {kd wt nx : Nat → Int} {n : Nat} {hs : Nat → Nat → Int} {kp : Nat → Int} {kh : Nat → Nat → Nat → Int} {i b : Int} (hl : ml sh rf) (hR : RM M rs it ts ch tl up lo fn w pl kd wt nx n hs kp kh) (hW : WF rs it ts ch tl up lo fn w pl kd wt nx n hs kp kh) (hQ : ∀ M2 : Nat → Nat → Int, (∀ q2 k2, q2 < 115 → M2 q2 k2 = M q2 k2) → RM M2 rs it ts ch tl up lo fn w pl kd wt nx n hs kp kh → Q (some (dz_i ((o_waits w pl (hs n) i b)))) (sh, rf, M2)) : dz_E dz_pp xo (d + 3) 158 [dz_r 115, dz_i i, dz_i b] (sh, rf, M) Q := by
  refine ⟨Nat.le_of_ble_eq_true rfl, ?_⟩
  have hc := dz_E_m dz_pp xo (d + 2)
  show dz_X (dz_E dz_pp xo (d + 2)) dz_pp xo (dz_pp 158) Q 0 [some (dz_r 115), some (dz_i i), some (dz_i b)] [] 0 0 (sh, rf, M)
  obtain ⟨c0, c1, c2, c3, c4, c5, c6, c7, c8, c9, c10, c11, c12, c13, c14, c15, c16, c17, c18, c19, c20, c21, c22, c23, c24, c25, c26, c27, c28, c29⟩ := id hl
  obtain ⟨hrow, htxt, htl, hup, hlo, hfn, hdr, hkp⟩ := id hR
  obtain ⟨wrow, wtxt, wdr, wst, wkp⟩ := id hW
  have hw6 := WF_w hW
  have hdr3 : drM M w pl kd wt nx n hs ∧ w ≤ 6 ∧ n ≤ 40 := ⟨hdr, hw6.2, wst.1⟩
  have hkp3 : kepM M w kp kh ∧ w ≤ 6 ∧ ∀ k, k < 3 → kp k ≤ 40 := ⟨hkp, hw6.2, fun k hk => by
    rcases wkp k hk with z | z
    · omega
    · exact z.2.1⟩
  obtain ⟨a1, a2, a3, b1, b2, b3⟩ := id hdr
  have hpg : pgM M w pl kd wt nx := ⟨a1, a2, a3⟩
  have b2c : ∀ c, okc w c → M 116 c = hs n c := fun c hc => by
    have h3 := b2 c hc
    rw [Nat.zero_add] at h3
    exact h3
  refine xr_aloadn hc rfl rfl ?_
  refine xr_iloadn hc rfl rfl ?_
  refine xr_callv1 hc rfl (by first | assumption | rfl) rfl rfl rfl (Nat.le_of_ble_eq_true rfl) (Nat.zero_le _) (Nat.zero_le _) ?_
  refine D_isWord hl a1 hw6 (fun u1 v1 => ?_) (fun u1 => ?_)
  · refine xk_1 ?_
    refine xr_iff hc rfl (by simp [dz_cmp]) ?_
    refine xr_iloadn hc rfl rfl ?_
    refine xr_i2l hc rfl ?_
    refine xr_lconst hc rfl ?_
    refine xr_ldc2 hc rfl ?_
    refine xr_calls3 hc rfl (by decide) rfl rfl rfl (Nat.le_of_ble_eq_true rfl) (Nat.zero_le _) (Nat.zero_le _) ?_
    refine S_in (fun u2 v2 => ?_) (fun u2 => ?_)
    · refine xk_1 ?_
      refine xr_iff hc rfl (by simp [dz_cmp]) ?_
      refine xr_aloadn hc rfl rfl ?_
      refine xr_aloadn hc rfl rfl ?_
      refine xr_getfr hc rfl rfl (by first | assumption | rfl) (by first | assumption | rfl) ?_
      refine xr_iconst hc rfl ?_
      refine xr_iloadn hc rfl rfl ?_
      refine xr_iaddz hc rfl (by first | exact dz_wid (by first | omega | (unfold dz_w; omega)) (by first | omega | (unfold dz_w; omega)) | rfl) ?_
      first | refine xr_iaload hc rfl (by first | assumption | rfl) (by first | omega | (unfold dz_w; omega)) (by first | omega | (unfold dz_w; omega)) ?_ | refine xr_ialoado hc rfl (by first | omega | (unfold dz_w; omega)) (by first | omega | (unfold dz_w; omega)) ?_
      have i5 : (5 + i).toNat = 5 + i.toNat := by omega
      have i11 : (11 + i).toNat = 11 + i.toNat := by omega
      have i17 : (17 + i).toNat = 17 + i.toNat := by omega
      obtain ⟨x1, x2, x3⟩ := a3 i.toNat (by omega)
      have y5 := b2c (5 + i.toNat) (by unfold okc; omega)
      have y11 := b2c (11 + i.toNat) (by unfold okc; omega)
      have y17 := b2c (17 + i.toNat) (by unfold okc; omega)
      rw [i5, y5]
      refine xr_iloadn hc rfl rfl ?_
      refine xr_callv2 hc rfl (by first | assumption | rfl) rfl rfl rfl (Nat.le_of_ble_eq_true rfl) (Nat.zero_le _) (Nat.zero_le _) ?_
      have hp := WF_p hW (by omega)
      have hst := wst.2 n (Nat.le_refl n)
      have hk := hst.2.2.2.2.2.2.2.2 i.toNat (by omega)
      refine D_waitsFor hl a2 ⟨hp.2.2.1, hp.2.2.2.1⟩ (by have := hp.2.2.2.1; omega) (by omega) ?_
      refine xk_1 ?_
      refine xr_goto hc rfl (t := 37) rfl ?_
      refine xr_ireturn hc rfl rfl (Nat.zero_le _) (Nat.zero_le _) ?_
      simp only [o_waits] at hQ
      repeat (first | rw [if_pos (by omega)] at hQ | rw [if_neg (by omega)] at hQ)
      try dsimp only at hQ
      exact hQ M (fun _ _ _ => rfl) hR
    · refine xk_1 ?_
      refine xr_ift hc rfl (t := 36) rfl (by simp [dz_cmp]) ?_
      refine xr_iconst hc rfl ?_
      refine xr_ireturn hc rfl rfl (Nat.zero_le _) (Nat.zero_le _) ?_
      simp only [o_waits] at hQ
      repeat (first | rw [if_pos (by omega)] at hQ | rw [if_neg (by omega)] at hQ)
      try dsimp only at hQ
      exact hQ M (fun _ _ _ => rfl) hR
  · refine xk_1 ?_
    refine xr_ift hc rfl (t := 36) rfl (by simp [dz_cmp]) ?_
    refine xr_iconst hc rfl ?_
    refine xr_ireturn hc rfl rfl (Nat.zero_le _) (Nat.zero_le _) ?_
    simp only [o_waits] at hQ
    repeat (first | rw [if_pos (by omega)] at hQ | rw [if_neg (by omega)] at hQ)
    try dsimp only at hQ
    exact hQ M (fun _ _ _ => rfl) hR
set_option maxRecDepth 100000 in
theorem D_keepPast {xo : Nat → List Int} {d : Nat} {Q : dz_Q} {sh : List (Nat ⊕ (Nat × Nat))} {rf : Nat → Nat → Nat} {M : Nat → Nat → Int} {n : Nat} (hl : ml sh rf) (hn : n < 40) (h0 : M 116 0 = (n : Int)) (hQ : ∀ M2 : Nat → Nat → Int, (∀ q2 k2, ¬ (q2 = 116 ∧ (k2 = 0 ∨ (23 + 22 * n ≤ k2 ∧ k2 < 45 + 22 * n))) → M2 q2 k2 = M q2 k2) → M2 116 0 = (n : Int) + 1 → (∀ c, 1 ≤ c → c ≤ 22 → M2 116 (22 + 22 * n + c) = M 116 c) → Q none (sh, rf, M2)) : dz_E dz_pp xo (d + 1) 159 [dz_r 115] (sh, rf, M) Q := by
  refine ⟨Nat.le_of_ble_eq_true rfl, ?_⟩
  have hc := dz_E_m dz_pp xo (d + 0)
  show dz_X (dz_E dz_pp xo (d + 0)) dz_pp xo (dz_pp 159) Q 0 [some (dz_r 115), none] [] 0 0 (sh, rf, M)
  obtain ⟨c0, c1, c2, c3, c4, c5, c6, c7, c8, c9, c10, c11, c12, c13, c14, c15, c16, c17, c18, c19, c20, c21, c22, c23, c24, c25, c26, c27, c28, c29⟩ := id hl
  have lp : ∀ (m_ : Nat) (i : Nat) (M1 : Nat → Nat → Int), i + m_ = 22 → (∀ q2 k2, ¬ (q2 = 116 ∧ 23 + 22 * n ≤ k2 ∧ k2 < 45 + 22 * n) → M1 q2 k2 = M q2 k2) → (∀ k2, k2 < i → M1 116 (23 + 22 * n + k2) = M 116 (1 + k2)) → dz_X (dz_E dz_pp xo (d + 0)) dz_pp xo (dz_pp 159) Q 2 [some (dz_r 115), some (dz_i (i : Int))] [] 0 0 (sh, rf, M1) := by
    intro m_
    induction m_ with
    | zero =>
      intro i M1 hi h1 h2
      have e0 : M1 116 (Int.toNat 0) = (n : Int) := by rw [h1 _ _ (by show ¬ (116 = 116 ∧ _ ≤ 0 ∧ 0 < _); omega)]; exact h0
      refine xr_iloadn hc rfl rfl ?_
      refine xr_bipush hc rfl ?_
      refine xr_icmp_ge hc rfl (t := 41) rfl (fun b5 => ?_) (fun b5 => ?_)
      · refine xr_aloadn hc rfl rfl ?_
        refine xr_getfr hc rfl rfl (by first | assumption | rfl) (by first | assumption | rfl) ?_
        refine xr_iconst hc rfl ?_
        refine xr_dup2i hc rfl ?_
        first | refine xr_iaload hc rfl (by first | assumption | rfl) (by first | omega | (unfold dz_w; omega)) (by first | omega | (unfold dz_w; omega)) ?_ | refine xr_ialoado hc rfl (by first | omega | (unfold dz_w; omega)) (by first | omega | (unfold dz_w; omega)) ?_
        rw [e0]
        refine xr_iconst hc rfl ?_
        refine xr_iaddz hc rfl (by first | exact dz_wid (by first | omega | (unfold dz_w; omega)) (by first | omega | (unfold dz_w; omega)) | rfl) ?_
        refine xr_iastore hc rfl (by first | assumption | rfl) (by first | omega | (unfold dz_w; omega)) (by first | omega | (unfold dz_w; omega)) ?_
        refine xr_return hc rfl rfl (Nat.zero_le _) (Nat.zero_le _) ?_
        refine hQ _ (fun q2 k2 u => ?_) ?_ (fun c u1 u2 => ?_)
        · by_cases e : q2 = 116
          · subst e
            rw [dz_up_k (by show k2 ≠ 0; omega), h1 _ _ (by omega)]
          · rw [dz_up_ne e, h1 _ _ (by omega)]
        · exact dz_up_eq _ _ _ _
        · rw [dz_up_k (by show _ ≠ 0; omega), show 22 + 22 * n + c = 23 + 22 * n + (c - 1) by omega, h2 _ (by omega)]
          congr 1
          omega
      · omega
    | succ m_ ih =>
      intro i M1 hi h1 h2
      have e0 : M1 116 (Int.toNat 0) = (n : Int) := by rw [h1 _ _ (by show ¬ (116 = 116 ∧ _ ≤ 0 ∧ 0 < _); omega)]; exact h0
      have ix : (23 + 22 * (n : Int) + (i : Int)).toNat = 23 + 22 * n + i := by omega
      have iy : (1 + (i : Int)).toNat = 1 + i := by omega
      refine xr_iloadn hc rfl rfl ?_
      refine xr_bipush hc rfl ?_
      refine xr_icmp_ge hc rfl (t := 41) rfl (fun b5 => ?_) (fun b5 => ?_)
      · omega
      · refine xr_aloadn hc rfl rfl ?_
        refine xr_getfr hc rfl rfl (by first | assumption | rfl) (by first | assumption | rfl) ?_
        refine xr_bipush hc rfl ?_
        refine xr_bipush hc rfl ?_
        refine xr_aloadn hc rfl rfl ?_
        refine xr_getfr hc rfl rfl (by first | assumption | rfl) (by first | assumption | rfl) ?_
        refine xr_iconst hc rfl ?_
        first | refine xr_iaload hc rfl (by first | assumption | rfl) (by first | omega | (unfold dz_w; omega)) (by first | omega | (unfold dz_w; omega)) ?_ | refine xr_ialoado hc rfl (by first | omega | (unfold dz_w; omega)) (by first | omega | (unfold dz_w; omega)) ?_
        rw [e0]
        refine xr_imulz hc rfl (by first | exact dz_wid (by first | omega | (unfold dz_w; omega)) (by first | omega | (unfold dz_w; omega)) | rfl) ?_
        refine xr_iaddz hc rfl (by first | exact dz_wid (by first | omega | (unfold dz_w; omega)) (by first | omega | (unfold dz_w; omega)) | rfl) ?_
        refine xr_iloadn hc rfl rfl ?_
        refine xr_iaddz hc rfl (by first | exact dz_wid (by first | omega | (unfold dz_w; omega)) (by first | omega | (unfold dz_w; omega)) | rfl) ?_
        refine xr_aloadn hc rfl rfl ?_
        refine xr_getfr hc rfl rfl (by first | assumption | rfl) (by first | assumption | rfl) ?_
        refine xr_iconst hc rfl ?_
        refine xr_iloadn hc rfl rfl ?_
        refine xr_iaddz hc rfl (by first | exact dz_wid (by first | omega | (unfold dz_w; omega)) (by first | omega | (unfold dz_w; omega)) | rfl) ?_
        first | refine xr_iaload hc rfl (by first | assumption | rfl) (by first | omega | (unfold dz_w; omega)) (by first | omega | (unfold dz_w; omega)) ?_ | refine xr_ialoado hc rfl (by first | omega | (unfold dz_w; omega)) (by first | omega | (unfold dz_w; omega)) ?_
        rw [iy, h1 _ _ (by omega)]
        refine xr_iastore hc rfl (by first | assumption | rfl) (by first | omega | (unfold dz_w; omega)) (by first | omega | (unfold dz_w; omega)) ?_
        rw [ix]
        refine xr_iincz1 hc rfl rfl (by first | exact dz_wid (by first | omega | (unfold dz_w; omega)) (by first | omega | (unfold dz_w; omega)) | rfl) ?_
        refine xr_goto hc rfl (t := 2) rfl ?_
        refine ih (i + 1) _ (by omega) (fun q2 k2 u => ?_) (fun k2 hk => ?_)
        · by_cases e : q2 = 116
          · subst e
            rw [dz_up_k (by omega), h1 _ _ u]
          · rw [dz_up_ne e, h1 _ _ u]
        · by_cases e : k2 = i
          · subst e
            rw [dz_up_eq]
          · rw [dz_up_k (by omega)]
            exact h2 k2 (by omega)
  refine xr_iconst hc rfl ?_
  refine xr_istore1 hc rfl rfl ?_
  exact lp 22 0 M (by omega) (fun _ _ _ => rfl) (fun k2 hk => by omega)
set_option maxRecDepth 100000 in
theorem D_swaps {xo : Nat → List Int} {d : Nat} {Q : dz_Q} {sh : List (Nat ⊕ (Nat × Nat))} {rf : Nat → Nat → Nat} {M : Nat → Nat → Int} {b : Nat} {i j : Int} (hl : ml sh rf) (hb : b ≤ 3612) (hi : 0 ≤ i ∧ i < 6) (hj : 0 ≤ j ∧ j < 6) (hQ : ∀ M2 : Nat → Nat → Int, (∀ q2 k2, q2 ≠ 116 → M2 q2 k2 = M q2 k2) → (∀ k2, M2 116 k2 = if k2 = b + (5 + j.toNat) then M 116 (b + (5 + i.toNat)) else if k2 = b + (5 + i.toNat) then M 116 (b + (5 + j.toNat)) else M 116 k2) → Q none (sh, rf, M2)) : dz_E dz_pp xo (d + 1) 162 [dz_r 115, dz_i (b : Int), dz_i i, dz_i j] (sh, rf, M) Q := by
  refine ⟨Nat.le_of_ble_eq_true rfl, ?_⟩
  have hc := dz_E_m dz_pp xo (d + 0)
  show dz_X (dz_E dz_pp xo (d + 0)) dz_pp xo (dz_pp 162) Q 0 [some (dz_r 115), some (dz_i (b : Int)), some (dz_i i), some (dz_i j), none] [] 0 0 (sh, rf, M)
  obtain ⟨c0, c1, c2, c3, c4, c5, c6, c7, c8, c9, c10, c11, c12, c13, c14, c15, c16, c17, c18, c19, c20, c21, c22, c23, c24, c25, c26, c27, c28, c29⟩ := id hl
  have ix : ((b : Int) + 5 + i).toNat = b + (5 + i.toNat) := by omega
  have iy : ((b : Int) + 5 + j).toNat = b + (5 + j.toNat) := by omega
  refine xr_aloadn hc rfl rfl ?_
  refine xr_getfr hc rfl rfl (by first | assumption | rfl) (by first | assumption | rfl) ?_
  refine xr_iloadn hc rfl rfl ?_
  refine xr_iconst hc rfl ?_
  refine xr_iaddz hc rfl (by first | exact dz_wid (by first | omega | (unfold dz_w; omega)) (by first | omega | (unfold dz_w; omega)) | rfl) ?_
  refine xr_iloadn hc rfl rfl ?_
  refine xr_iaddz hc rfl (by first | exact dz_wid (by first | omega | (unfold dz_w; omega)) (by first | omega | (unfold dz_w; omega)) | rfl) ?_
  first | refine xr_iaload hc rfl (by first | assumption | rfl) (by first | omega | (unfold dz_w; omega)) (by first | omega | (unfold dz_w; omega)) ?_ | refine xr_ialoado hc rfl (by first | omega | (unfold dz_w; omega)) (by first | omega | (unfold dz_w; omega)) ?_
  refine xr_istore4 hc rfl rfl ?_
  refine xr_aloadn hc rfl rfl ?_
  refine xr_getfr hc rfl rfl (by first | assumption | rfl) (by first | assumption | rfl) ?_
  refine xr_iloadn hc rfl rfl ?_
  refine xr_iconst hc rfl ?_
  refine xr_iaddz hc rfl (by first | exact dz_wid (by first | omega | (unfold dz_w; omega)) (by first | omega | (unfold dz_w; omega)) | rfl) ?_
  refine xr_iloadn hc rfl rfl ?_
  refine xr_iaddz hc rfl (by first | exact dz_wid (by first | omega | (unfold dz_w; omega)) (by first | omega | (unfold dz_w; omega)) | rfl) ?_
  refine xr_aloadn hc rfl rfl ?_
  refine xr_getfr hc rfl rfl (by first | assumption | rfl) (by first | assumption | rfl) ?_
  refine xr_iloadn hc rfl rfl ?_
  refine xr_iconst hc rfl ?_
  refine xr_iaddz hc rfl (by first | exact dz_wid (by first | omega | (unfold dz_w; omega)) (by first | omega | (unfold dz_w; omega)) | rfl) ?_
  refine xr_iloadn hc rfl rfl ?_
  refine xr_iaddz hc rfl (by first | exact dz_wid (by first | omega | (unfold dz_w; omega)) (by first | omega | (unfold dz_w; omega)) | rfl) ?_
  first | refine xr_iaload hc rfl (by first | assumption | rfl) (by first | omega | (unfold dz_w; omega)) (by first | omega | (unfold dz_w; omega)) ?_ | refine xr_ialoado hc rfl (by first | omega | (unfold dz_w; omega)) (by first | omega | (unfold dz_w; omega)) ?_
  refine xr_iastore hc rfl (by first | assumption | rfl) (by first | omega | (unfold dz_w; omega)) (by first | omega | (unfold dz_w; omega)) ?_
  refine xr_aloadn hc rfl rfl ?_
  refine xr_getfr hc rfl rfl (by first | assumption | rfl) (by first | assumption | rfl) ?_
  refine xr_iloadn hc rfl rfl ?_
  refine xr_iconst hc rfl ?_
  refine xr_iaddz hc rfl (by first | exact dz_wid (by first | omega | (unfold dz_w; omega)) (by first | omega | (unfold dz_w; omega)) | rfl) ?_
  refine xr_iloadn hc rfl rfl ?_
  refine xr_iaddz hc rfl (by first | exact dz_wid (by first | omega | (unfold dz_w; omega)) (by first | omega | (unfold dz_w; omega)) | rfl) ?_
  refine xr_iload hc rfl rfl ?_
  refine xr_iastore hc rfl (by first | assumption | rfl) (by first | omega | (unfold dz_w; omega)) (by first | omega | (unfold dz_w; omega)) ?_
  refine xr_return hc rfl rfl (Nat.zero_le _) (Nat.zero_le _) ?_
  rw [ix, iy]
  refine hQ _ (fun q2 k2 u => by rw [dz_up_ne u, dz_up_ne u]) (fun k2 => ?_)
  rw [up_fup]
  unfold fup
  by_cases e : k2 = b + (5 + j.toNat)
  · rw [if_pos e, if_pos e]
  · rw [if_neg e, if_neg e, up_fup]
    rfl
set_option maxRecDepth 100000 in
theorem D_step {xo : Nat → List Int} {d : Nat} {Q : dz_Q} {sh : List (Nat ⊕ (Nat × Nat))} {rf : Nat → Nat → Nat} {M : Nat → Nat → Int} {rs : Nat → Int} {it : Nat → Nat → Int} {ts : Nat → Int} {ch : Nat → Nat → Int} {tl up lo : Int} {fn : Nat → Int} {w pl : Int} {kd wt nx : Nat → Int} {n : Nat} {hs : Nat → Nat → Int} {kp : Nat → Int} {kh : Nat → Nat → Nat → Int} (hl : ml sh rf) (hR : RM M rs it ts ch tl up lo fn w pl kd wt nx n hs kp kh) (hW : WF rs it ts ch tl up lo fn w pl kd wt nx n hs kp kh) (hQ : ∀ M2 : Nat → Nat → Int, (∀ q2 k2, q2 < 115 → M2 q2 k2 = M q2 k2) → RM M2 rs it ts ch tl up lo fn w pl kd wt nx (o_step w pl kd wt nx n hs).2.1 (o_step w pl kd wt nx n hs).2.2 kp kh → Q (some (dz_i ((o_step w pl kd wt nx n hs).1))) (sh, rf, M2)) : dz_E dz_pp xo (d + 4) 160 [dz_r 115] (sh, rf, M) Q := by
  refine ⟨Nat.le_of_ble_eq_true rfl, ?_⟩
  have hc := dz_E_m dz_pp xo (d + 3)
  show dz_X (dz_E dz_pp xo (d + 3)) dz_pp xo (dz_pp 160) Q 0 [some (dz_r 115), none] [] 0 0 (sh, rf, M)
  obtain ⟨c0, c1, c2, c3, c4, c5, c6, c7, c8, c9, c10, c11, c12, c13, c14, c15, c16, c17, c18, c19, c20, c21, c22, c23, c24, c25, c26, c27, c28, c29⟩ := id hl
  obtain ⟨hrow, htxt, htl, hup, hlo, hfn, hdr, hkp⟩ := id hR
  obtain ⟨wrow, wtxt, wdr, wst, wkp⟩ := id hW
  have hw6 := WF_w hW
  have hdr3 : drM M w pl kd wt nx n hs ∧ w ≤ 6 ∧ n ≤ 40 := ⟨hdr, hw6.2, wst.1⟩
  have hkp3 : kepM M w kp kh ∧ w ≤ 6 ∧ ∀ k, k < 3 → kp k ≤ 40 := ⟨hkp, hw6.2, fun k hk => by
    rcases wkp k hk with z | z
    · omega
    · exact z.2.1⟩
  obtain ⟨a1, a2, a3, b1, b2, b3⟩ := id hdr
  have hpg : pgM M w pl kd wt nx := ⟨a1, a2, a3⟩
  have b2c : ∀ c, okc w c → M 116 c = hs n c := fun c hc => by
    have h3 := b2 c hc
    rw [Nat.zero_add] at h3
    exact h3
  have t0 : Int.toNat 0 = 0 := rfl
  have t1 : Int.toNat 1 = 1 := rfl
  have t3 : Int.toNat 3 = 3 := rfl
  have y3 : M 116 3 = hs n 3 := b2c 3 (by unfold okc; omega)
  have y1 : M 116 1 = hs n 1 := b2c 1 (by unfold okc; omega)
  refine xr_aloadn hc rfl rfl ?_
  refine xr_getfi hc rfl (Or.inl rfl) (by first | assumption | rfl) ?_
  rw [a1]
  refine xr_if_eq hc rfl (t := 18) rfl (fun b4 => ?_) (fun b4 => ?_)
  · refine xr_bipush hc rfl ?_
    refine xr_ireturn hc rfl rfl (Nat.zero_le _) (Nat.zero_le _) ?_
    unfold o_step at hQ
    rw [if_pos (by omega)] at hQ
    exact hQ M (fun _ _ _ => rfl) hR
  · refine xr_aloadn hc rfl rfl ?_
    refine xr_getfr hc rfl rfl (by first | assumption | rfl) (by first | assumption | rfl) ?_
    refine xr_iconst hc rfl ?_
    first | refine xr_iaload hc rfl (by first | assumption | rfl) (by first | omega | (unfold dz_w; omega)) (by first | omega | (unfold dz_w; omega)) ?_ | refine xr_ialoado hc rfl (by first | omega | (unfold dz_w; omega)) (by first | omega | (unfold dz_w; omega)) ?_
    rw [t3, y3]
    refine xr_bipush hc rfl ?_
    refine xr_icmp_ne hc rfl (t := 21) rfl (fun b15 => ?_) (fun b15 => ?_)
    · refine xr_aloadn hc rfl rfl ?_
      refine xr_getfr hc rfl rfl (by first | assumption | rfl) (by first | assumption | rfl) ?_
      refine xr_iconst hc rfl ?_
      first | refine xr_iaload hc rfl (by first | assumption | rfl) (by first | omega | (unfold dz_w; omega)) (by first | omega | (unfold dz_w; omega)) ?_ | refine xr_ialoado hc rfl (by first | omega | (unfold dz_w; omega)) (by first | omega | (unfold dz_w; omega)) ?_
      rw [t0, b1]
      refine xr_bipush hc rfl ?_
      refine xr_icmp_ne hc rfl (t := 35) rfl (fun b29 => ?_) (fun b29 => ?_)
      · refine xr_aloadn hc rfl rfl ?_
        refine xr_callv0 hc rfl (by first | assumption | rfl) rfl rfl rfl (Nat.le_of_ble_eq_true rfl) (Nat.zero_le _) (Nat.zero_le _) ?_
        have hp := WF_p hW (by omega)
        have hst := wst.2 n (Nat.le_refl n)
        refine D_keepPast hl (by omega) b1 (fun M1 f1 f2 f3 => ?_)
        have pr1 : prel M1 0 w (hs n) := prel_fr hw6.2 b2 (fun k u v => f1 _ _ (by omega))
        have pg1 : pgM M1 w pl kd wt nx := ⟨by rw [f1 _ _ (by omega)]; exact a1, by rw [f1 _ _ (by omega)]; exact a2, fun i hi => by rw [f1 _ _ (by omega), f1 _ _ (by omega), f1 _ _ (by omega)]; exact a3 i hi⟩
        refine xk_0 ?_
        refine xr_aloadn hc rfl rfl ?_
        refine xr_getfr hc rfl rfl (by first | assumption | rfl) (by first | assumption | rfl) ?_
        refine xr_iconst hc rfl ?_
        first | refine xr_iaload hc rfl (by first | assumption | rfl) (by first | omega | (unfold dz_w; omega)) (by first | omega | (unfold dz_w; omega)) ?_ | refine xr_ialoado hc rfl (by first | omega | (unfold dz_w; omega)) (by first | omega | (unfold dz_w; omega)) ?_
        rw [t1, f1 _ _ (by omega), y1]
        refine xr_istore1 hc rfl rfl ?_
        refine xr_aloadn hc rfl rfl ?_
        refine xr_iconst hc rfl ?_
        refine xr_putfz hc rfl rfl (by first | assumption | rfl) (by first | exact Or.inl rfl | exact Or.inr rfl | assumption) ?_
        refine xr_aloadn hc rfl rfl ?_
        refine xr_iconst hc rfl ?_
        refine xr_callv1 hc rfl (by first | assumption | rfl) rfl rfl rfl (Nat.le_of_ble_eq_true rfl) (Nat.zero_le _) (Nat.zero_le _) ?_
        refine D_goes (b := 0) hl (by omega) (pl := pl) (kd := kd) (wt := wt) (nx := nx) (w := w) (s := hs n) ⟨by rw [dz_up_k (by omega)]; exact pg1.1, by rw [dz_up_k (by omega)]; exact pg1.2.1, fun i hi => by rw [dz_up_ne (by omega), dz_up_ne (by omega), dz_up_ne (by omega)]; exact pg1.2.2 i hi⟩ hp hst (by omega) (prel_fr hw6.2 pr1 (fun k u v => by rw [dz_up_ne (by omega)])) (dz_up_eq _ _ _ _) (by omega) (fun M3 z1 z2 z3 => ?_)
        have z4 : M3 116 1 = stp pl kd wt nx (hs n) 1 := by
          have h3 := z2 1 (by unfold okc; omega)
          rw [Nat.zero_add] at h3
          exact h3
        have hbt := (stp_ok hp hst (by omega) (by omega)).2.2.1
        have hbt2 := (stp_ok hp hst (by omega) (by omega)).2.1
        have hst1 := hst.2.1
        have hst2 := hst.2.2.1
        refine xk_0 ?_
        refine xr_aloadn hc rfl rfl ?_
        refine xr_getfr hc rfl rfl (by first | assumption | rfl) (by first | assumption | rfl) ?_
        refine xr_iconst hc rfl ?_
        first | refine xr_iaload hc rfl (by first | assumption | rfl) (by first | omega | (unfold dz_w; omega)) (by first | omega | (unfold dz_w; omega)) ?_ | refine xr_ialoado hc rfl (by first | omega | (unfold dz_w; omega)) (by first | omega | (unfold dz_w; omega)) ?_
        rw [t1, z4]
        refine xr_iloadn hc rfl rfl ?_
        refine xr_isubz hc rfl (by first | exact dz_wid (by first | omega | (unfold dz_w; omega)) (by first | omega | (unfold dz_w; omega)) | rfl) ?_
        refine xr_ireturn hc rfl rfl (Nat.zero_le _) (Nat.zero_le _) ?_
        unfold o_step o_deed at hQ
        repeat (first | rw [if_pos (by omega)] at hQ | rw [if_neg (by omega)] at hQ)
        refine hQ M3 (fun q2 k2 u => ?_) (RM_deed hR hW (by omega) (fun q2 k2 u1 u2 => ?_) ?_ (fun c u1 u2 => ?_) z2)
        · rw [z1 _ _ (by omega) (by omega), dz_up_ne (by omega), f1 _ _ (by omega)]
        · by_cases e : q2 = 115
          · subst e
            rw [z1 _ _ (by omega) (by omega), dz_up_k (by omega), f1 _ _ (by omega)]
          · rw [z1 _ _ (by omega) (by omega), dz_up_ne (by omega), f1 _ _ (by omega)]
        · rw [z1 _ _ (by omega) (by omega), dz_up_ne (by omega), f2]
        · rw [z1 _ _ (by omega) (by omega), dz_up_ne (by omega), f3 c u1 u2]
      · refine xr_bipush hc rfl ?_
        refine xr_ireturn hc rfl rfl (Nat.zero_le _) (Nat.zero_le _) ?_
        unfold o_step o_deed at hQ
        repeat (first | rw [if_pos (by omega)] at hQ | rw [if_neg (by omega)] at hQ)
        exact hQ M (fun _ _ _ => rfl) hR
    · refine xr_bipush hc rfl ?_
      refine xr_ireturn hc rfl rfl (Nat.zero_le _) (Nat.zero_le _) ?_
      unfold o_step at hQ
      rw [if_pos (by omega)] at hQ
      exact hQ M (fun _ _ _ => rfl) hR
set_option maxRecDepth 100000 in
theorem D_move {xo : Nat → List Int} {d : Nat} {Q : dz_Q} {sh : List (Nat ⊕ (Nat × Nat))} {rf : Nat → Nat → Nat} {M : Nat → Nat → Int} {rs : Nat → Int} {it : Nat → Nat → Int} {ts : Nat → Int} {ch : Nat → Nat → Int} {tl up lo : Int} {fn : Nat → Int} {w pl : Int} {kd wt nx : Nat → Int} {n : Nat} {hs : Nat → Nat → Int} {kp : Nat → Int} {kh : Nat → Nat → Nat → Int} {i p : Int} (hl : ml sh rf) (hR : RM M rs it ts ch tl up lo fn w pl kd wt nx n hs kp kh) (hW : WF rs it ts ch tl up lo fn w pl kd wt nx n hs kp kh) (hQ : ∀ M2 : Nat → Nat → Int, (∀ q2 k2, q2 < 115 → M2 q2 k2 = M q2 k2) → RM M2 rs it ts ch tl up lo fn w pl kd wt nx (o_move w pl kd wt nx n hs i p).2.1 (o_move w pl kd wt nx n hs i p).2.2 kp kh → Q (some (dz_i ((o_move w pl kd wt nx n hs i p).1))) (sh, rf, M2)) : dz_E dz_pp xo (d + 3) 161 [dz_r 115, dz_i i, dz_i p] (sh, rf, M) Q := by
  refine ⟨Nat.le_of_ble_eq_true rfl, ?_⟩
  have hc := dz_E_m dz_pp xo (d + 2)
  show dz_X (dz_E dz_pp xo (d + 2)) dz_pp xo (dz_pp 161) Q 0 [some (dz_r 115), some (dz_i i), some (dz_i p), none] [] 0 0 (sh, rf, M)
  obtain ⟨c0, c1, c2, c3, c4, c5, c6, c7, c8, c9, c10, c11, c12, c13, c14, c15, c16, c17, c18, c19, c20, c21, c22, c23, c24, c25, c26, c27, c28, c29⟩ := id hl
  obtain ⟨hrow, htxt, htl, hup, hlo, hfn, hdr, hkp⟩ := id hR
  obtain ⟨wrow, wtxt, wdr, wst, wkp⟩ := id hW
  have hw6 := WF_w hW
  have hdr3 : drM M w pl kd wt nx n hs ∧ w ≤ 6 ∧ n ≤ 40 := ⟨hdr, hw6.2, wst.1⟩
  have hkp3 : kepM M w kp kh ∧ w ≤ 6 ∧ ∀ k, k < 3 → kp k ≤ 40 := ⟨hkp, hw6.2, fun k hk => by
    rcases wkp k hk with z | z
    · omega
    · exact z.2.1⟩
  obtain ⟨a1, a2, a3, b1, b2, b3⟩ := id hdr
  have hpg : pgM M w pl kd wt nx := ⟨a1, a2, a3⟩
  have b2c : ∀ c, okc w c → M 116 c = hs n c := fun c hc => by
    have h3 := b2 c hc
    rw [Nat.zero_add] at h3
    exact h3
  have t0 : Int.toNat 0 = 0 := rfl
  have t1 : Int.toNat 1 = 1 := rfl
  have t3 : Int.toNat 3 = 3 := rfl
  have y3 : M 116 3 = hs n 3 := b2c 3 (by unfold okc; omega)
  have y1 : M 116 1 = hs n 1 := b2c 1 (by unfold okc; omega)
  refine xr_aloadn hc rfl rfl ?_
  refine xr_iloadn hc rfl rfl ?_
  refine xr_callv1 hc rfl (by first | assumption | rfl) rfl rfl rfl (Nat.le_of_ble_eq_true rfl) (Nat.zero_le _) (Nat.zero_le _) ?_
  refine D_isWord hl a1 hw6 (fun u1 v1 => ?_) (fun u1 => ?_)
  · refine xk_1 ?_
    refine xr_iff hc rfl (by simp [dz_cmp]) ?_
    have hp := WF_p hW (by omega)
    have hst := wst.2 n (Nat.le_refl n)
    have hp3 := hp.2.2.1
    have hp4 := hp.2.2.2.1
    have i5 : (5 + i).toNat = 5 + i.toNat := by omega
    have i11 : (11 + i).toNat = 11 + i.toNat := by omega
    have i17 : (17 + i).toNat = 17 + i.toNat := by omega
    obtain ⟨x1, x2, x3⟩ := a3 i.toNat (by omega)
    have y5 := b2c (5 + i.toNat) (by unfold okc; omega)
    have y11 := b2c (11 + i.toNat) (by unfold okc; omega)
    have y17 := b2c (17 + i.toNat) (by unfold okc; omega)
    refine xr_iloadn hc rfl rfl ?_
    refine xr_i2l hc rfl ?_
    refine xr_lconst hc rfl ?_
    refine xr_aloadn hc rfl rfl ?_
    refine xr_getfi hc rfl (Or.inl rfl) (by first | assumption | rfl) ?_
    rw [a2]
    refine xr_iconst hc rfl ?_
    refine xr_isubz hc rfl (by first | exact dz_wid (by first | omega | (unfold dz_w; omega)) (by first | omega | (unfold dz_w; omega)) | rfl) ?_
    refine xr_i2l hc rfl ?_
    refine xr_calls3 hc rfl (by decide) rfl rfl rfl (Nat.le_of_ble_eq_true rfl) (Nat.zero_le _) (Nat.zero_le _) ?_
    refine S_in (fun u2 v2 => ?_) (fun u2 => ?_)
    · refine xk_1 ?_
      refine xr_ift hc rfl (t := 26) rfl (by simp [dz_cmp]) ?_
      refine xr_aloadn hc rfl rfl ?_
      refine xr_iconst hc rfl ?_
      refine xr_iloadn hc rfl rfl ?_
      refine xr_callv2 hc rfl (by first | assumption | rfl) rfl rfl rfl (Nat.le_of_ble_eq_true rfl) (Nat.zero_le _) (Nat.zero_le _) ?_
      have hfr := ly_free (f := fun k => hs n (5 + k)) (p := p) hw6.1
      have hfc := free_c (f := fun k => M 116 (0 + (5 + k))) (g := fun k => hs n (5 + k)) (w := w) (p := p) (fun k hk => b2 (5 + k) (by unfold okc; omega))
      refine D_isFree (b := 0) hl (by omega) a1 hw6 (fun u3 => ?_) (fun u3 => ?_)
      have hfy := hfr.mpr (hfc.mp u3)
      rotate_left
      have hfn2 : ¬ _ := fun z => u3 (hfc.mpr (hfr.mp z))
      rotate_right
      · refine xk_1 ?_
        refine xr_ift hc rfl (t := 38) rfl (by simp [dz_cmp]) ?_
        refine xr_aloadn hc rfl rfl ?_
        refine xr_getfr hc rfl rfl (by first | assumption | rfl) (by first | assumption | rfl) ?_
        refine xr_iconst hc rfl ?_
        first | refine xr_iaload hc rfl (by first | assumption | rfl) (by first | omega | (unfold dz_w; omega)) (by first | omega | (unfold dz_w; omega)) ?_ | refine xr_ialoado hc rfl (by first | omega | (unfold dz_w; omega)) (by first | omega | (unfold dz_w; omega)) ?_
        rw [t0, b1]
        refine xr_bipush hc rfl ?_
        refine xr_icmp_ne hc rfl (t := 52) rfl (fun b46 => ?_) (fun b46 => ?_)
        · refine xr_aloadn hc rfl rfl ?_
          refine xr_callv0 hc rfl (by first | assumption | rfl) rfl rfl rfl (Nat.le_of_ble_eq_true rfl) (Nat.zero_le _) (Nat.zero_le _) ?_
          refine D_keepPast hl (by omega) b1 (fun M1 f1 f2 f3 => ?_)
          have pr1 : prel M1 0 w (hs n) := prel_fr hw6.2 b2 (fun k u v => f1 _ _ (by omega))
          have pg1 : pgM M1 w pl kd wt nx := ⟨by rw [f1 _ _ (by omega)]; exact a1, by rw [f1 _ _ (by omega)]; exact a2, fun i hi => by rw [f1 _ _ (by omega), f1 _ _ (by omega), f1 _ _ (by omega)]; exact a3 i hi⟩
          refine xk_0 ?_
          refine xr_aloadn hc rfl rfl ?_
          refine xr_getfr hc rfl rfl (by first | assumption | rfl) (by first | assumption | rfl) ?_
          refine xr_iconst hc rfl ?_
          refine xr_iloadn hc rfl rfl ?_
          refine xr_iaddz hc rfl (by first | exact dz_wid (by first | omega | (unfold dz_w; omega)) (by first | omega | (unfold dz_w; omega)) | rfl) ?_
          first | refine xr_iaload hc rfl (by first | assumption | rfl) (by first | omega | (unfold dz_w; omega)) (by first | omega | (unfold dz_w; omega)) ?_ | refine xr_ialoado hc rfl (by first | omega | (unfold dz_w; omega)) (by first | omega | (unfold dz_w; omega)) ?_
          rw [i5, f1 _ _ (by omega), y5]
          refine xr_istore3 hc rfl rfl ?_
          refine xr_aloadn hc rfl rfl ?_
          refine xr_getfr hc rfl rfl (by first | assumption | rfl) (by first | assumption | rfl) ?_
          refine xr_iconst hc rfl ?_
          refine xr_iloadn hc rfl rfl ?_
          refine xr_iaddz hc rfl (by first | exact dz_wid (by first | omega | (unfold dz_w; omega)) (by first | omega | (unfold dz_w; omega)) | rfl) ?_
          refine xr_iloadn hc rfl rfl ?_
          refine xr_iastore hc rfl (by first | assumption | rfl) (by first | omega | (unfold dz_w; omega)) (by first | omega | (unfold dz_w; omega)) ?_
          rw [i5]
          refine xr_iloadn hc rfl rfl ?_
          refine xr_ireturn hc rfl rfl (Nat.zero_le _) (Nat.zero_le _) ?_
          unfold o_move o_deed at hQ
          repeat (first | rw [if_pos (by omega)] at hQ | rw [if_neg (by omega)] at hQ)
          refine hQ _ (fun q2 k2 u => ?_) (RM_deed hR hW (by omega) (fun q2 k2 u1 u2 => ?_) ?_ (fun c u1 u2 => ?_) (prel_mv hw6.2 (by omega) pr1 (fun k2 u => by rw [dz_up_k (by omega)]) (by rw [Nat.zero_add]; exact dz_up_eq _ _ _ _)))
          · rw [dz_up_ne (by omega), f1 _ _ (by omega)]
          · by_cases e : q2 = 116
            · subst e
              rw [dz_up_k (by omega), f1 _ _ (by omega)]
            · rw [dz_up_ne (by omega), f1 _ _ (by omega)]
          · rw [dz_up_k (by omega), f2]
          · rw [dz_up_k (by omega), f3 c u1 u2]
        · refine xr_bipush hc rfl ?_
          refine xr_ireturn hc rfl rfl (Nat.zero_le _) (Nat.zero_le _) ?_
          unfold o_move o_deed at hQ
          repeat (first | rw [if_pos (by omega)] at hQ | rw [if_neg (by omega)] at hQ)
          exact hQ M (fun _ _ _ => rfl) hR
      · refine xk_1 ?_
        refine xr_iff hc rfl (by simp [dz_cmp]) ?_
        refine xr_bipush hc rfl ?_
        refine xr_ireturn hc rfl rfl (Nat.zero_le _) (Nat.zero_le _) ?_
        unfold o_move at hQ
        rw [if_neg (by omega), if_neg hfn2] at hQ
        exact hQ M (fun _ _ _ => rfl) hR
    · refine xk_1 ?_
      refine xr_iff hc rfl (by simp [dz_cmp]) ?_
      refine xr_iconst hc rfl ?_
      refine xr_ireturn hc rfl rfl (Nat.zero_le _) (Nat.zero_le _) ?_
      unfold o_move at hQ
      rw [if_pos (by omega)] at hQ
      exact hQ M (fun _ _ _ => rfl) hR
  · refine xk_1 ?_
    refine xr_ift hc rfl (t := 24) rfl (by simp [dz_cmp]) ?_
    refine xr_iconst hc rfl ?_
    refine xr_ireturn hc rfl rfl (Nat.zero_le _) (Nat.zero_le _) ?_
    unfold o_move at hQ
    rw [if_pos (by omega)] at hQ
    exact hQ M (fun _ _ _ => rfl) hR
set_option maxRecDepth 100000 in
theorem D_value {xo : Nat → List Int} {d : Nat} {Q : dz_Q} {sh : List (Nat ⊕ (Nat × Nat))} {rf : Nat → Nat → Nat} {M : Nat → Nat → Int} {rs : Nat → Int} {it : Nat → Nat → Int} {ts : Nat → Int} {ch : Nat → Nat → Int} {tl up lo : Int} {fn : Nat → Int} {w pl : Int} {kd wt nx : Nat → Int} {n : Nat} {hs : Nat → Nat → Int} {kp : Nat → Int} {kh : Nat → Nat → Nat → Int} {i v : Int} (hl : ml sh rf) (hR : RM M rs it ts ch tl up lo fn w pl kd wt nx n hs kp kh) (hW : WF rs it ts ch tl up lo fn w pl kd wt nx n hs kp kh) (hQ : ∀ M2 : Nat → Nat → Int, (∀ q2 k2, q2 < 115 → M2 q2 k2 = M q2 k2) → RM M2 rs it ts ch tl up lo fn w pl kd wt nx (o_value w pl kd wt nx n hs i v).2.1 (o_value w pl kd wt nx n hs i v).2.2 kp kh → Q (some (dz_i ((o_value w pl kd wt nx n hs i v).1))) (sh, rf, M2)) : dz_E dz_pp xo (d + 3) 164 [dz_r 115, dz_i i, dz_i v] (sh, rf, M) Q := by
  refine ⟨Nat.le_of_ble_eq_true rfl, ?_⟩
  have hc := dz_E_m dz_pp xo (d + 2)
  show dz_X (dz_E dz_pp xo (d + 2)) dz_pp xo (dz_pp 164) Q 0 [some (dz_r 115), some (dz_i i), some (dz_i v), none] [] 0 0 (sh, rf, M)
  obtain ⟨c0, c1, c2, c3, c4, c5, c6, c7, c8, c9, c10, c11, c12, c13, c14, c15, c16, c17, c18, c19, c20, c21, c22, c23, c24, c25, c26, c27, c28, c29⟩ := id hl
  obtain ⟨hrow, htxt, htl, hup, hlo, hfn, hdr, hkp⟩ := id hR
  obtain ⟨wrow, wtxt, wdr, wst, wkp⟩ := id hW
  have hw6 := WF_w hW
  have hdr3 : drM M w pl kd wt nx n hs ∧ w ≤ 6 ∧ n ≤ 40 := ⟨hdr, hw6.2, wst.1⟩
  have hkp3 : kepM M w kp kh ∧ w ≤ 6 ∧ ∀ k, k < 3 → kp k ≤ 40 := ⟨hkp, hw6.2, fun k hk => by
    rcases wkp k hk with z | z
    · omega
    · exact z.2.1⟩
  obtain ⟨a1, a2, a3, b1, b2, b3⟩ := id hdr
  have hpg : pgM M w pl kd wt nx := ⟨a1, a2, a3⟩
  have b2c : ∀ c, okc w c → M 116 c = hs n c := fun c hc => by
    have h3 := b2 c hc
    rw [Nat.zero_add] at h3
    exact h3
  have t0 : Int.toNat 0 = 0 := rfl
  have t1 : Int.toNat 1 = 1 := rfl
  have t3 : Int.toNat 3 = 3 := rfl
  have y3 : M 116 3 = hs n 3 := b2c 3 (by unfold okc; omega)
  have y1 : M 116 1 = hs n 1 := b2c 1 (by unfold okc; omega)
  refine xr_aloadn hc rfl rfl ?_
  refine xr_iloadn hc rfl rfl ?_
  refine xr_callv1 hc rfl (by first | assumption | rfl) rfl rfl rfl (Nat.le_of_ble_eq_true rfl) (Nat.zero_le _) (Nat.zero_le _) ?_
  refine D_isWord hl a1 hw6 (fun u1 v1 => ?_) (fun u1 => ?_)
  · refine xk_1 ?_
    refine xr_iff hc rfl (by simp [dz_cmp]) ?_
    have hp := WF_p hW (by omega)
    have hst := wst.2 n (Nat.le_refl n)
    have i5 : (5 + i).toNat = 5 + i.toNat := by omega
    have i11 : (11 + i).toNat = 11 + i.toNat := by omega
    have i17 : (17 + i).toNat = 17 + i.toNat := by omega
    obtain ⟨x1, x2, x3⟩ := a3 i.toNat (by omega)
    have y5 := b2c (5 + i.toNat) (by unfold okc; omega)
    have y11 := b2c (11 + i.toNat) (by unfold okc; omega)
    have y17 := b2c (17 + i.toNat) (by unfold okc; omega)
    refine xr_iloadn hc rfl rfl ?_
    refine xr_i2l hc rfl ?_
    refine xr_lconst hc rfl ?_
    refine xr_ldc2 hc rfl ?_
    refine xr_calls3 hc rfl (by decide) rfl rfl rfl (Nat.le_of_ble_eq_true rfl) (Nat.zero_le _) (Nat.zero_le _) ?_
    refine S_in (fun u2 v2 => ?_) (fun u2 => ?_)
    · refine xk_1 ?_
      refine xr_ift hc rfl (t := 22) rfl (by simp [dz_cmp]) ?_
      refine xr_aloadn hc rfl rfl ?_
      refine xr_getfr hc rfl rfl (by first | assumption | rfl) (by first | assumption | rfl) ?_
      refine xr_iconst hc rfl ?_
      first | refine xr_iaload hc rfl (by first | assumption | rfl) (by first | omega | (unfold dz_w; omega)) (by first | omega | (unfold dz_w; omega)) ?_ | refine xr_ialoado hc rfl (by first | omega | (unfold dz_w; omega)) (by first | omega | (unfold dz_w; omega)) ?_
      rw [t0, b1]
      refine xr_bipush hc rfl ?_
      refine xr_icmp_ne hc rfl (t := 36) rfl (fun b30 => ?_) (fun b30 => ?_)
      · refine xr_aloadn hc rfl rfl ?_
        refine xr_callv0 hc rfl (by first | assumption | rfl) rfl rfl rfl (Nat.le_of_ble_eq_true rfl) (Nat.zero_le _) (Nat.zero_le _) ?_
        refine D_keepPast hl (by omega) b1 (fun M1 f1 f2 f3 => ?_)
        have pr1 : prel M1 0 w (hs n) := prel_fr hw6.2 b2 (fun k u v => f1 _ _ (by omega))
        have pg1 : pgM M1 w pl kd wt nx := ⟨by rw [f1 _ _ (by omega)]; exact a1, by rw [f1 _ _ (by omega)]; exact a2, fun i hi => by rw [f1 _ _ (by omega), f1 _ _ (by omega), f1 _ _ (by omega)]; exact a3 i hi⟩
        refine xk_0 ?_
        refine xr_aloadn hc rfl rfl ?_
        refine xr_getfr hc rfl rfl (by first | assumption | rfl) (by first | assumption | rfl) ?_
        refine xr_bipush hc rfl ?_
        refine xr_iloadn hc rfl rfl ?_
        refine xr_iaddz hc rfl (by first | exact dz_wid (by first | omega | (unfold dz_w; omega)) (by first | omega | (unfold dz_w; omega)) | rfl) ?_
        first | refine xr_iaload hc rfl (by first | assumption | rfl) (by first | omega | (unfold dz_w; omega)) (by first | omega | (unfold dz_w; omega)) ?_ | refine xr_ialoado hc rfl (by first | omega | (unfold dz_w; omega)) (by first | omega | (unfold dz_w; omega)) ?_
        rw [i11, f1 _ _ (by omega), y11]
        refine xr_istore3 hc rfl rfl ?_
        refine xr_aloadn hc rfl rfl ?_
        refine xr_getfr hc rfl rfl (by first | assumption | rfl) (by first | assumption | rfl) ?_
        refine xr_bipush hc rfl ?_
        refine xr_iloadn hc rfl rfl ?_
        refine xr_iaddz hc rfl (by first | exact dz_wid (by first | omega | (unfold dz_w; omega)) (by first | omega | (unfold dz_w; omega)) | rfl) ?_
        refine xr_iloadn hc rfl rfl ?_
        refine xr_iastore hc rfl (by first | assumption | rfl) (by first | omega | (unfold dz_w; omega)) (by first | omega | (unfold dz_w; omega)) ?_
        rw [i11]
        refine xr_iloadn hc rfl rfl ?_
        refine xr_ireturn hc rfl rfl (Nat.zero_le _) (Nat.zero_le _) ?_
        unfold o_value o_deed at hQ
        repeat (first | rw [if_pos (by omega)] at hQ | rw [if_neg (by omega)] at hQ)
        refine hQ _ (fun q2 k2 u => ?_) (RM_deed hR hW (by omega) (fun q2 k2 u1 u2 => ?_) ?_ (fun c u1 u2 => ?_) (prel_vl hw6.2 (by omega) pr1 (fun k2 u => by rw [dz_up_k (by omega)]) (by rw [Nat.zero_add]; exact dz_up_eq _ _ _ _)))
        · rw [dz_up_ne (by omega), f1 _ _ (by omega)]
        · by_cases e : q2 = 116
          · subst e
            rw [dz_up_k (by omega), f1 _ _ (by omega)]
          · rw [dz_up_ne (by omega), f1 _ _ (by omega)]
        · rw [dz_up_k (by omega), f2]
        · rw [dz_up_k (by omega), f3 c u1 u2]
      · refine xr_bipush hc rfl ?_
        refine xr_ireturn hc rfl rfl (Nat.zero_le _) (Nat.zero_le _) ?_
        unfold o_value o_deed at hQ
        repeat (first | rw [if_pos (by omega)] at hQ | rw [if_neg (by omega)] at hQ)
        exact hQ M (fun _ _ _ => rfl) hR
    · refine xk_1 ?_
      refine xr_iff hc rfl (by simp [dz_cmp]) ?_
      refine xr_iconst hc rfl ?_
      refine xr_ireturn hc rfl rfl (Nat.zero_le _) (Nat.zero_le _) ?_
      unfold o_value at hQ
      rw [if_pos (by omega)] at hQ
      exact hQ M (fun _ _ _ => rfl) hR
  · refine xk_1 ?_
    refine xr_ift hc rfl (t := 20) rfl (by simp [dz_cmp]) ?_
    refine xr_iconst hc rfl ?_
    refine xr_ireturn hc rfl rfl (Nat.zero_le _) (Nat.zero_le _) ?_
    unfold o_value at hQ
    rw [if_pos (by omega)] at hQ
    exact hQ M (fun _ _ _ => rfl) hR
set_option maxRecDepth 100000 in
theorem D_swap {xo : Nat → List Int} {d : Nat} {Q : dz_Q} {sh : List (Nat ⊕ (Nat × Nat))} {rf : Nat → Nat → Nat} {M : Nat → Nat → Int} {rs : Nat → Int} {it : Nat → Nat → Int} {ts : Nat → Int} {ch : Nat → Nat → Int} {tl up lo : Int} {fn : Nat → Int} {w pl : Int} {kd wt nx : Nat → Int} {n : Nat} {hs : Nat → Nat → Int} {kp : Nat → Int} {kh : Nat → Nat → Nat → Int} {i j : Int} (hl : ml sh rf) (hR : RM M rs it ts ch tl up lo fn w pl kd wt nx n hs kp kh) (hW : WF rs it ts ch tl up lo fn w pl kd wt nx n hs kp kh) (hQ : ∀ M2 : Nat → Nat → Int, (∀ q2 k2, q2 < 115 → M2 q2 k2 = M q2 k2) → RM M2 rs it ts ch tl up lo fn w pl kd wt nx (o_swap w pl kd wt nx n hs i j).2.1 (o_swap w pl kd wt nx n hs i j).2.2 kp kh → Q (some (dz_i ((o_swap w pl kd wt nx n hs i j).1))) (sh, rf, M2)) : dz_E dz_pp xo (d + 3) 163 [dz_r 115, dz_i i, dz_i j] (sh, rf, M) Q := by
  refine ⟨Nat.le_of_ble_eq_true rfl, ?_⟩
  have hc := dz_E_m dz_pp xo (d + 2)
  show dz_X (dz_E dz_pp xo (d + 2)) dz_pp xo (dz_pp 163) Q 0 [some (dz_r 115), some (dz_i i), some (dz_i j)] [] 0 0 (sh, rf, M)
  obtain ⟨c0, c1, c2, c3, c4, c5, c6, c7, c8, c9, c10, c11, c12, c13, c14, c15, c16, c17, c18, c19, c20, c21, c22, c23, c24, c25, c26, c27, c28, c29⟩ := id hl
  obtain ⟨hrow, htxt, htl, hup, hlo, hfn, hdr, hkp⟩ := id hR
  obtain ⟨wrow, wtxt, wdr, wst, wkp⟩ := id hW
  have hw6 := WF_w hW
  have hdr3 : drM M w pl kd wt nx n hs ∧ w ≤ 6 ∧ n ≤ 40 := ⟨hdr, hw6.2, wst.1⟩
  have hkp3 : kepM M w kp kh ∧ w ≤ 6 ∧ ∀ k, k < 3 → kp k ≤ 40 := ⟨hkp, hw6.2, fun k hk => by
    rcases wkp k hk with z | z
    · omega
    · exact z.2.1⟩
  obtain ⟨a1, a2, a3, b1, b2, b3⟩ := id hdr
  have hpg : pgM M w pl kd wt nx := ⟨a1, a2, a3⟩
  have b2c : ∀ c, okc w c → M 116 c = hs n c := fun c hc => by
    have h3 := b2 c hc
    rw [Nat.zero_add] at h3
    exact h3
  have t0 : Int.toNat 0 = 0 := rfl
  have t1 : Int.toNat 1 = 1 := rfl
  have t3 : Int.toNat 3 = 3 := rfl
  have y3 : M 116 3 = hs n 3 := b2c 3 (by unfold okc; omega)
  have y1 : M 116 1 = hs n 1 := b2c 1 (by unfold okc; omega)
  refine xr_aloadn hc rfl rfl ?_
  refine xr_iloadn hc rfl rfl ?_
  refine xr_callv1 hc rfl (by first | assumption | rfl) rfl rfl rfl (Nat.le_of_ble_eq_true rfl) (Nat.zero_le _) (Nat.zero_le _) ?_
  refine D_isWord hl a1 hw6 (fun u1 v1 => ?_) (fun u1 => ?_)
  · refine xk_1 ?_
    refine xr_iff hc rfl (by simp [dz_cmp]) ?_
    refine xr_aloadn hc rfl rfl ?_
    refine xr_iloadn hc rfl rfl ?_
    refine xr_callv1 hc rfl (by first | assumption | rfl) rfl rfl rfl (Nat.le_of_ble_eq_true rfl) (Nat.zero_le _) (Nat.zero_le _) ?_
    refine D_isWord hl a1 hw6 (fun u2 v2 => ?_) (fun u2 => ?_)
    · refine xk_1 ?_
      refine xr_iff hc rfl (by simp [dz_cmp]) ?_
      have hp := WF_p hW (by omega)
      have hst := wst.2 n (Nat.le_refl n)
      have i5 : (5 + i).toNat = 5 + i.toNat := by omega
      have i11 : (11 + i).toNat = 11 + i.toNat := by omega
      have i17 : (17 + i).toNat = 17 + i.toNat := by omega
      obtain ⟨x1, x2, x3⟩ := a3 i.toNat (by omega)
      have y5 := b2c (5 + i.toNat) (by unfold okc; omega)
      have y11 := b2c (11 + i.toNat) (by unfold okc; omega)
      have y17 := b2c (17 + i.toNat) (by unfold okc; omega)
      have yj := b2c (5 + j.toNat) (by unfold okc; omega)
      refine xr_iloadn hc rfl rfl ?_
      refine xr_iloadn hc rfl rfl ?_
      refine xr_icmp_ne hc rfl (t := 23) rfl (fun b18 => ?_) (fun b18 => ?_)
      · refine xr_aloadn hc rfl rfl ?_
        refine xr_getfr hc rfl rfl (by first | assumption | rfl) (by first | assumption | rfl) ?_
        refine xr_iconst hc rfl ?_
        first | refine xr_iaload hc rfl (by first | assumption | rfl) (by first | omega | (unfold dz_w; omega)) (by first | omega | (unfold dz_w; omega)) ?_ | refine xr_ialoado hc rfl (by first | omega | (unfold dz_w; omega)) (by first | omega | (unfold dz_w; omega)) ?_
        rw [t0, b1]
        refine xr_bipush hc rfl ?_
        refine xr_icmp_ne hc rfl (t := 37) rfl (fun b31 => ?_) (fun b31 => ?_)
        · refine xr_aloadn hc rfl rfl ?_
          refine xr_callv0 hc rfl (by first | assumption | rfl) rfl rfl rfl (Nat.le_of_ble_eq_true rfl) (Nat.zero_le _) (Nat.zero_le _) ?_
          refine D_keepPast hl (by omega) b1 (fun M1 f1 f2 f3 => ?_)
          have pr1 : prel M1 0 w (hs n) := prel_fr hw6.2 b2 (fun k u v => f1 _ _ (by omega))
          have pg1 : pgM M1 w pl kd wt nx := ⟨by rw [f1 _ _ (by omega)]; exact a1, by rw [f1 _ _ (by omega)]; exact a2, fun i hi => by rw [f1 _ _ (by omega), f1 _ _ (by omega), f1 _ _ (by omega)]; exact a3 i hi⟩
          refine xk_0 ?_
          refine xr_aloadn hc rfl rfl ?_
          refine xr_iconst hc rfl ?_
          refine xr_iloadn hc rfl rfl ?_
          refine xr_iloadn hc rfl rfl ?_
          refine xr_callv3 hc rfl (by first | assumption | rfl) rfl rfl rfl (Nat.le_of_ble_eq_true rfl) (Nat.zero_le _) (Nat.zero_le _) ?_
          refine D_swaps (b := 0) hl (by omega) (by omega) (by omega) (fun M3 z1 z2 => ?_)
          refine xk_0 ?_
          refine xr_aloadn hc rfl rfl ?_
          refine xr_getfr hc rfl rfl (by first | assumption | rfl) (by first | assumption | rfl) ?_
          refine xr_iconst hc rfl ?_
          refine xr_iloadn hc rfl rfl ?_
          refine xr_iaddz hc rfl (by first | exact dz_wid (by first | omega | (unfold dz_w; omega)) (by first | omega | (unfold dz_w; omega)) | rfl) ?_
          first | refine xr_iaload hc rfl (by first | assumption | rfl) (by first | omega | (unfold dz_w; omega)) (by first | omega | (unfold dz_w; omega)) ?_ | refine xr_ialoado hc rfl (by first | omega | (unfold dz_w; omega)) (by first | omega | (unfold dz_w; omega)) ?_
          rw [i5, z2, if_neg (by omega), if_pos (by omega), f1 _ _ (by omega), Nat.zero_add, yj]
          refine xr_ireturn hc rfl rfl (Nat.zero_le _) (Nat.zero_le _) ?_
          unfold o_swap o_deed at hQ
          repeat (first | rw [if_pos (by omega)] at hQ | rw [if_neg (by omega)] at hQ)
          have zz : ∀ k2, k2 ≠ 5 + i.toNat → k2 ≠ 5 + j.toNat → M3 116 k2 = M1 116 k2 := fun k2 u1 u2 => by rw [z2, if_neg (by omega), if_neg (by omega)]
          refine hQ _ (fun q2 k2 u => ?_) (RM_deed hR hW (by omega) (fun q2 k2 u1 u2 => ?_) ?_ (fun c u1 u2 => ?_) (prel_sw (by omega) (by omega) pr1 z2))
          · rw [z1 _ _ (by omega), f1 _ _ (by omega)]
          · by_cases e : q2 = 116
            · subst e
              rw [zz _ (by omega) (by omega), f1 _ _ (by omega)]
            · rw [z1 _ _ e, f1 _ _ (by omega)]
          · rw [zz _ (by omega) (by omega), f2]
          · rw [zz _ (by omega) (by omega), f3 c u1 u2]
        · refine xr_bipush hc rfl ?_
          refine xr_ireturn hc rfl rfl (Nat.zero_le _) (Nat.zero_le _) ?_
          unfold o_swap o_deed at hQ
          repeat (first | rw [if_pos (by omega)] at hQ | rw [if_neg (by omega)] at hQ)
          exact hQ M (fun _ _ _ => rfl) hR
      · refine xr_iconst hc rfl ?_
        refine xr_ireturn hc rfl rfl (Nat.zero_le _) (Nat.zero_le _) ?_
        unfold o_swap at hQ
        rw [if_pos (by omega)] at hQ
        exact hQ M (fun _ _ _ => rfl) hR
    · refine xk_1 ?_
      refine xr_ift hc rfl (t := 21) rfl (by simp [dz_cmp]) ?_
      refine xr_iconst hc rfl ?_
      refine xr_ireturn hc rfl rfl (Nat.zero_le _) (Nat.zero_le _) ?_
      unfold o_swap at hQ
      rw [if_pos (by omega)] at hQ
      exact hQ M (fun _ _ _ => rfl) hR
  · refine xk_1 ?_
    refine xr_ift hc rfl (t := 21) rfl (by simp [dz_cmp]) ?_
    refine xr_iconst hc rfl ?_
    refine xr_ireturn hc rfl rfl (Nat.zero_le _) (Nat.zero_le _) ?_
    unfold o_swap at hQ
    rw [if_pos (by omega)] at hQ
    exact hQ M (fun _ _ _ => rfl) hR
set_option maxRecDepth 100000 in
theorem D_undo {xo : Nat → List Int} {d : Nat} {Q : dz_Q} {sh : List (Nat ⊕ (Nat × Nat))} {rf : Nat → Nat → Nat} {M : Nat → Nat → Int} {rs : Nat → Int} {it : Nat → Nat → Int} {ts : Nat → Int} {ch : Nat → Nat → Int} {tl up lo : Int} {fn : Nat → Int} {w pl : Int} {kd wt nx : Nat → Int} {n : Nat} {hs : Nat → Nat → Int} {kp : Nat → Int} {kh : Nat → Nat → Nat → Int} {m : Int} (hl : ml sh rf) (hR : RM M rs it ts ch tl up lo fn w pl kd wt nx n hs kp kh) (hW : WF rs it ts ch tl up lo fn w pl kd wt nx n hs kp kh) (hQ : ∀ M2 : Nat → Nat → Int, (∀ q2 k2, q2 < 115 → M2 q2 k2 = M q2 k2) → RM M2 rs it ts ch tl up lo fn w pl kd wt nx (o_undo n m).2 hs kp kh → Q (some (dz_i ((o_undo n m).1))) (sh, rf, M2)) : dz_E dz_pp xo (d + 3) 165 [dz_r 115, dz_i m] (sh, rf, M) Q := by
  refine ⟨Nat.le_of_ble_eq_true rfl, ?_⟩
  have hc := dz_E_m dz_pp xo (d + 2)
  show dz_X (dz_E dz_pp xo (d + 2)) dz_pp xo (dz_pp 165) Q 0 [some (dz_r 115), some (dz_i m), none, none] [] 0 0 (sh, rf, M)
  obtain ⟨c0, c1, c2, c3, c4, c5, c6, c7, c8, c9, c10, c11, c12, c13, c14, c15, c16, c17, c18, c19, c20, c21, c22, c23, c24, c25, c26, c27, c28, c29⟩ := id hl
  obtain ⟨hrow, htxt, htl, hup, hlo, hfn, hdr, hkp⟩ := id hR
  obtain ⟨wrow, wtxt, wdr, wst, wkp⟩ := id hW
  have hw6 := WF_w hW
  have hdr3 : drM M w pl kd wt nx n hs ∧ w ≤ 6 ∧ n ≤ 40 := ⟨hdr, hw6.2, wst.1⟩
  have hkp3 : kepM M w kp kh ∧ w ≤ 6 ∧ ∀ k, k < 3 → kp k ≤ 40 := ⟨hkp, hw6.2, fun k hk => by
    rcases wkp k hk with z | z
    · omega
    · exact z.2.1⟩
  obtain ⟨a1, a2, a3, b1, b2, b3⟩ := id hdr
  have hpg : pgM M w pl kd wt nx := ⟨a1, a2, a3⟩
  have b2c : ∀ c, okc w c → M 116 c = hs n c := fun c hc => by
    have h3 := b2 c hc
    rw [Nat.zero_add] at h3
    exact h3
  have t0 : Int.toNat 0 = 0 := rfl
  have t1 : Int.toNat 1 = 1 := rfl
  have t3 : Int.toNat 3 = 3 := rfl
  have y3 : M 116 3 = hs n 3 := b2c 3 (by unfold okc; omega)
  have y1 : M 116 1 = hs n 1 := b2c 1 (by unfold okc; omega)
  have lp : ∀ (m_ : Nat) (i : Nat) (M1 : Nat → Nat → Int), i + m_ = 22 → 0 ≤ m → m ≤ (n : Int) → m < (n : Int) → (∀ q2 k2, ¬ (q2 = 116 ∧ 1 ≤ k2 ∧ k2 ≤ 22) → M1 q2 k2 = M q2 k2) → (∀ c, 1 ≤ c → c ≤ i → M1 116 c = M 116 (22 + 22 * m.toNat + c)) → dz_X (dz_E dz_pp xo (d + 2)) dz_pp xo (dz_pp 165) Q 29 [some (dz_r 115), some (dz_i m), some (dz_i ((n : Int) - m)), some (dz_i (i : Int))] [] 0 0 (sh, rf, M1) := by
    intro m_
    induction m_ with
    | zero =>
      intro i M1 hi a4 a5 a6 h1 h2a
      have h2 : ∀ c, 1 ≤ c → c ≤ 22 → M1 116 c = M 116 (22 + 22 * m.toNat + c) := fun c u v => h2a c u (by omega)
      refine xr_iloadn hc rfl rfl ?_
      refine xr_bipush hc rfl ?_
      refine xr_icmp_ge hc rfl (t := 67) rfl (fun b32 => ?_) (fun b32 => ?_)
      · refine xr_aloadn hc rfl rfl ?_
        refine xr_getfr hc rfl rfl (by first | assumption | rfl) (by first | assumption | rfl) ?_
        refine xr_iconst hc rfl ?_
        refine xr_iloadn hc rfl rfl ?_
        refine xr_iastore hc rfl (by first | assumption | rfl) (by first | omega | (unfold dz_w; omega)) (by first | omega | (unfold dz_w; omega)) ?_
        refine xr_iloadn hc rfl rfl ?_
        refine xr_ireturn hc rfl rfl (Nat.zero_le _) (Nat.zero_le _) ?_
        simp only [o_undo] at hQ
        repeat (first | rw [if_pos (by omega)] at hQ | rw [if_neg (by omega)] at hQ)
        try dsimp only at hQ
        refine hQ _ (fun q2 k2 u => by rw [dz_up_ne (by omega), h1 _ _ (by omega)]) ?_
        have hz : ∀ q2 k2, ¬ (q2 = 116 ∧ k2 ≤ 22) → dz_up M1 116 (Int.toNat 0) m q2 k2 = M q2 k2 := fun q2 k2 u => by
          by_cases e : q2 = 116
          · subst e
            rw [dz_up_k (by show k2 ≠ 0; omega), h1 _ _ (by omega)]
          · rw [dz_up_ne e, h1 _ _ (by omega)]
        refine ⟨rowM_fr hrow (fun k2 => hz _ _ (by omega)) (fun k2 => hz _ _ (by omega)), txtM_fr htxt (fun k2 => hz _ _ (by omega)) (fun k2 => hz _ _ (by omega)), Eq.trans (hz _ _ (by omega)) htl, Eq.trans (hz _ _ (by omega)) hup, Eq.trans (hz _ _ (by omega)) hlo, fndM_fr hfn (hz _ _ (by omega)) (fun k2 => hz _ _ (by omega)), ⟨by rw [hz _ _ (by omega)]; exact a1, by rw [hz _ _ (by omega)]; exact a2, fun i hi => by rw [hz _ _ (by omega), hz _ _ (by omega), hz _ _ (by omega)]; exact a3 i hi, ?_, ?_, ?_⟩, kepM_fr hkp3 (fun k2 u1 u2 => hz _ _ (by omega))⟩
        · exact (dz_up_eq _ _ _ _).trans (by omega)
        · intro c hc
          have hc2 := hc
          unfold okc at hc2
          rw [Nat.zero_add, dz_up_k (by show c ≠ 0; omega), h2 c (by omega) (by omega)]
          first
            | (rw [show m.toNat = n by omega]; exact b2c c hc)
            | (have h3 := b3 m.toNat (by omega) c hc
               rw [Nat.zero_add] at h3
               exact h3)
        · intro k hk
          exact prel_fr hw6.2 (b3 k (by omega)) (fun j u v => hz _ _ (by omega))
      · omega
    | succ m_ ih =>
      intro i M1 hi a4 a5 a6 h1 h2a
      have ix : (23 + 22 * m + (i : Int)).toNat = 23 + 22 * m.toNat + i := by omega
      have iy : (1 + (i : Int)).toNat = 1 + i := by omega
      refine xr_iloadn hc rfl rfl ?_
      refine xr_bipush hc rfl ?_
      refine xr_icmp_ge hc rfl (t := 67) rfl (fun b32 => ?_) (fun b32 => ?_)
      · omega
      · refine xr_iloadn hc rfl rfl ?_
        refine xr_if_le hc rfl (t := 67) rfl (fun b36 => ?_) (fun b36 => ?_)
        · omega
        · refine xr_aloadn hc rfl rfl ?_
          refine xr_getfr hc rfl rfl (by first | assumption | rfl) (by first | assumption | rfl) ?_
          refine xr_iconst hc rfl ?_
          refine xr_iloadn hc rfl rfl ?_
          refine xr_iaddz hc rfl (by first | exact dz_wid (by first | omega | (unfold dz_w; omega)) (by first | omega | (unfold dz_w; omega)) | rfl) ?_
          refine xr_aloadn hc rfl rfl ?_
          refine xr_getfr hc rfl rfl (by first | assumption | rfl) (by first | assumption | rfl) ?_
          refine xr_bipush hc rfl ?_
          refine xr_bipush hc rfl ?_
          refine xr_iloadn hc rfl rfl ?_
          refine xr_imulz hc rfl (by first | exact dz_wid (by first | omega | (unfold dz_w; omega)) (by first | omega | (unfold dz_w; omega)) | rfl) ?_
          refine xr_iaddz hc rfl (by first | exact dz_wid (by first | omega | (unfold dz_w; omega)) (by first | omega | (unfold dz_w; omega)) | rfl) ?_
          refine xr_iloadn hc rfl rfl ?_
          refine xr_iaddz hc rfl (by first | exact dz_wid (by first | omega | (unfold dz_w; omega)) (by first | omega | (unfold dz_w; omega)) | rfl) ?_
          first | refine xr_iaload hc rfl (by first | assumption | rfl) (by first | omega | (unfold dz_w; omega)) (by first | omega | (unfold dz_w; omega)) ?_ | refine xr_ialoado hc rfl (by first | omega | (unfold dz_w; omega)) (by first | omega | (unfold dz_w; omega)) ?_
          rw [ix, h1 _ _ (by omega)]
          refine xr_iastore hc rfl (by first | assumption | rfl) (by first | omega | (unfold dz_w; omega)) (by first | omega | (unfold dz_w; omega)) ?_
          rw [iy]
          refine xr_iincz3 hc rfl rfl (by first | exact dz_wid (by first | omega | (unfold dz_w; omega)) (by first | omega | (unfold dz_w; omega)) | rfl) ?_
          refine xr_goto hc rfl (t := 29) rfl ?_
          refine ih (i + 1) _ (by omega) a4 a5 a6 (fun q2 k2 u => ?_) (fun c u1 u2 => ?_)
          · by_cases e : q2 = 116
            · subst e
              rw [dz_up_k (by omega), h1 _ _ u]
            · rw [dz_up_ne e, h1 _ _ u]
          · by_cases e : c = 1 + i
            · subst e
              rw [dz_up_eq]
              congr 1
              omega
            · rw [dz_up_k (by omega)]
              exact h2a c u1 (by omega)
  refine xr_iloadn hc rfl rfl ?_
  refine xr_i2l hc rfl ?_
  refine xr_lconst hc rfl ?_
  refine xr_aloadn hc rfl rfl ?_
  refine xr_getfr hc rfl rfl (by first | assumption | rfl) (by first | assumption | rfl) ?_
  refine xr_iconst hc rfl ?_
  first | refine xr_iaload hc rfl (by first | assumption | rfl) (by first | omega | (unfold dz_w; omega)) (by first | omega | (unfold dz_w; omega)) ?_ | refine xr_ialoado hc rfl (by first | omega | (unfold dz_w; omega)) (by first | omega | (unfold dz_w; omega)) ?_
  rw [t0, b1]
  refine xr_i2l hc rfl ?_
  refine xr_calls3 hc rfl (by decide) rfl rfl rfl (Nat.le_of_ble_eq_true rfl) (Nat.zero_le _) (Nat.zero_le _) ?_
  refine S_in (fun u1 v1 => ?_) (fun u1 => ?_)
  · refine xk_1 ?_
    refine xr_ift hc rfl (t := 18) rfl (by simp [dz_cmp]) ?_
    refine xr_aloadn hc rfl rfl ?_
    refine xr_getfr hc rfl rfl (by first | assumption | rfl) (by first | assumption | rfl) ?_
    refine xr_iconst hc rfl ?_
    first | refine xr_iaload hc rfl (by first | assumption | rfl) (by first | omega | (unfold dz_w; omega)) (by first | omega | (unfold dz_w; omega)) ?_ | refine xr_ialoado hc rfl (by first | omega | (unfold dz_w; omega)) (by first | omega | (unfold dz_w; omega)) ?_
    rw [t0, b1]
    refine xr_iloadn hc rfl rfl ?_
    refine xr_isubz hc rfl (by first | exact dz_wid (by first | omega | (unfold dz_w; omega)) (by first | omega | (unfold dz_w; omega)) | rfl) ?_
    refine xr_istore2 hc rfl rfl ?_
    refine xr_iconst hc rfl ?_
    refine xr_istore3 hc rfl rfl ?_
    by_cases hmn : m < (n : Int)
    · exact lp 22 0 M (by omega) u1 v1 hmn (fun _ _ _ => rfl) (fun c u v => by omega)
    have a4 := u1
    have a5 := v1
    have h1 : ∀ q2 k2, ¬ (q2 = 116 ∧ 1 ≤ k2 ∧ k2 ≤ 22) → M q2 k2 = M q2 k2 := fun _ _ _ => rfl
    have h2 : ∀ c, 1 ≤ c → c ≤ 22 → M 116 c = M 116 c := fun _ _ _ => rfl
    refine xr_iloadn hc rfl rfl ?_
    refine xr_bipush hc rfl ?_
    refine xr_icmp_ge hc rfl (t := 67) rfl (fun b32 => ?_) (fun b32 => ?_)
    · refine xr_aloadn hc rfl rfl ?_
      refine xr_getfr hc rfl rfl (by first | assumption | rfl) (by first | assumption | rfl) ?_
      refine xr_iconst hc rfl ?_
      refine xr_iloadn hc rfl rfl ?_
      refine xr_iastore hc rfl (by first | assumption | rfl) (by first | omega | (unfold dz_w; omega)) (by first | omega | (unfold dz_w; omega)) ?_
      refine xr_iloadn hc rfl rfl ?_
      refine xr_ireturn hc rfl rfl (Nat.zero_le _) (Nat.zero_le _) ?_
      first
        | (exfalso; omega)
        | (simp only [o_undo] at hQ
           repeat (first | rw [if_pos (by omega)] at hQ | rw [if_neg (by omega)] at hQ)
           try dsimp only at hQ
           refine hQ _ (fun q2 k2 u => by rw [dz_up_ne (by omega), h1 _ _ (by omega)]) ?_
           have hz : ∀ q2 k2, ¬ (q2 = 116 ∧ k2 ≤ 22) → dz_up M 116 (Int.toNat 0) m q2 k2 = M q2 k2 := fun q2 k2 u => by
             by_cases e : q2 = 116
             · subst e
               rw [dz_up_k (by show k2 ≠ 0; omega), h1 _ _ (by omega)]
             · rw [dz_up_ne e, h1 _ _ (by omega)]
           refine ⟨rowM_fr hrow (fun k2 => hz _ _ (by omega)) (fun k2 => hz _ _ (by omega)), txtM_fr htxt (fun k2 => hz _ _ (by omega)) (fun k2 => hz _ _ (by omega)), Eq.trans (hz _ _ (by omega)) htl, Eq.trans (hz _ _ (by omega)) hup, Eq.trans (hz _ _ (by omega)) hlo, fndM_fr hfn (hz _ _ (by omega)) (fun k2 => hz _ _ (by omega)), ⟨by rw [hz _ _ (by omega)]; exact a1, by rw [hz _ _ (by omega)]; exact a2, fun i hi => by rw [hz _ _ (by omega), hz _ _ (by omega), hz _ _ (by omega)]; exact a3 i hi, ?_, ?_, ?_⟩, kepM_fr hkp3 (fun k2 u1 u2 => hz _ _ (by omega))⟩
           · exact (dz_up_eq _ _ _ _).trans (by omega)
           · intro c hc
             have hc2 := hc
             unfold okc at hc2
             rw [Nat.zero_add, dz_up_k (by show c ≠ 0; omega), h2 c (by omega) (by omega)]
             first
               | (rw [show m.toNat = n by omega]; exact b2c c hc)
               | (have h3 := b3 m.toNat (by omega) c hc
                  rw [Nat.zero_add] at h3
                  exact h3)
           · intro k hk
             exact prel_fr hw6.2 (b3 k (by omega)) (fun j u v => hz _ _ (by omega)))
    · refine xr_iloadn hc rfl rfl ?_
      refine xr_if_le hc rfl (t := 67) rfl (fun b36 => ?_) (fun b36 => ?_)
      · refine xr_aloadn hc rfl rfl ?_
        refine xr_getfr hc rfl rfl (by first | assumption | rfl) (by first | assumption | rfl) ?_
        refine xr_iconst hc rfl ?_
        refine xr_iloadn hc rfl rfl ?_
        refine xr_iastore hc rfl (by first | assumption | rfl) (by first | omega | (unfold dz_w; omega)) (by first | omega | (unfold dz_w; omega)) ?_
        refine xr_iloadn hc rfl rfl ?_
        refine xr_ireturn hc rfl rfl (Nat.zero_le _) (Nat.zero_le _) ?_
        first
          | (exfalso; omega)
          | (simp only [o_undo] at hQ
             repeat (first | rw [if_pos (by omega)] at hQ | rw [if_neg (by omega)] at hQ)
             try dsimp only at hQ
             refine hQ _ (fun q2 k2 u => by rw [dz_up_ne (by omega), h1 _ _ (by omega)]) ?_
             have hz : ∀ q2 k2, ¬ (q2 = 116 ∧ k2 ≤ 22) → dz_up M 116 (Int.toNat 0) m q2 k2 = M q2 k2 := fun q2 k2 u => by
               by_cases e : q2 = 116
               · subst e
                 rw [dz_up_k (by show k2 ≠ 0; omega), h1 _ _ (by omega)]
               · rw [dz_up_ne e, h1 _ _ (by omega)]
             refine ⟨rowM_fr hrow (fun k2 => hz _ _ (by omega)) (fun k2 => hz _ _ (by omega)), txtM_fr htxt (fun k2 => hz _ _ (by omega)) (fun k2 => hz _ _ (by omega)), Eq.trans (hz _ _ (by omega)) htl, Eq.trans (hz _ _ (by omega)) hup, Eq.trans (hz _ _ (by omega)) hlo, fndM_fr hfn (hz _ _ (by omega)) (fun k2 => hz _ _ (by omega)), ⟨by rw [hz _ _ (by omega)]; exact a1, by rw [hz _ _ (by omega)]; exact a2, fun i hi => by rw [hz _ _ (by omega), hz _ _ (by omega), hz _ _ (by omega)]; exact a3 i hi, ?_, ?_, ?_⟩, kepM_fr hkp3 (fun k2 u1 u2 => hz _ _ (by omega))⟩
             · exact (dz_up_eq _ _ _ _).trans (by omega)
             · intro c hc
               have hc2 := hc
               unfold okc at hc2
               rw [Nat.zero_add, dz_up_k (by show c ≠ 0; omega), h2 c (by omega) (by omega)]
               first
                 | (rw [show m.toNat = n by omega]; exact b2c c hc)
                 | (have h3 := b3 m.toNat (by omega) c hc
                    rw [Nat.zero_add] at h3
                    exact h3)
             · intro k hk
               exact prel_fr hw6.2 (b3 k (by omega)) (fun j u v => hz _ _ (by omega)))
      · omega
  · refine xk_1 ?_
    refine xr_iff hc rfl (by simp [dz_cmp]) ?_
    refine xr_iconst hc rfl ?_
    refine xr_ireturn hc rfl rfl (Nat.zero_le _) (Nat.zero_le _) ?_
    simp only [o_undo] at hQ
    repeat (first | rw [if_pos (by omega)] at hQ | rw [if_neg (by omega)] at hQ)
    try dsimp only at hQ
    exact hQ M (fun _ _ _ => rfl) hR
set_option maxRecDepth 100000 in
theorem D_copyDrum {xo : Nat → List Int} {d : Nat} {Q : dz_Q} {sh : List (Nat ⊕ (Nat × Nat))} {rf : Nat → Nat → Nat} {M : Nat → Nat → Int} {a b : Nat} (hl : ml sh rf) (ha : a ≤ 2709) (hb : b ≤ 2709) (hab : a + 903 ≤ b ∨ b + 903 ≤ a) (hQ : ∀ M2 : Nat → Nat → Int, (∀ q2 k2, ¬ (q2 = 116 ∧ b ≤ k2 ∧ k2 < b + 903) → M2 q2 k2 = M q2 k2) → (∀ k2, k2 < 903 → M2 116 (b + k2) = M 116 (a + k2)) → Q none (sh, rf, M2)) : dz_E dz_pp xo (d + 1) 166 [dz_r 115, dz_i (a : Int), dz_i (b : Int)] (sh, rf, M) Q := by
  refine ⟨Nat.le_of_ble_eq_true rfl, ?_⟩
  have hc := dz_E_m dz_pp xo (d + 0)
  show dz_X (dz_E dz_pp xo (d + 0)) dz_pp xo (dz_pp 166) Q 0 [some (dz_r 115), some (dz_i (a : Int)), some (dz_i (b : Int)), none] [] 0 0 (sh, rf, M)
  obtain ⟨c0, c1, c2, c3, c4, c5, c6, c7, c8, c9, c10, c11, c12, c13, c14, c15, c16, c17, c18, c19, c20, c21, c22, c23, c24, c25, c26, c27, c28, c29⟩ := id hl
  have lp : ∀ (m_ : Nat) (i : Nat) (M1 : Nat → Nat → Int), i + m_ = 903 → (∀ q2 k2, ¬ (q2 = 116 ∧ b ≤ k2 ∧ k2 < b + 903) → M1 q2 k2 = M q2 k2) → (∀ k2, k2 < i → M1 116 (b + k2) = M 116 (a + k2)) → dz_X (dz_E dz_pp xo (d + 0)) dz_pp xo (dz_pp 166) Q 2 [some (dz_r 115), some (dz_i (a : Int)), some (dz_i (b : Int)), some (dz_i (i : Int))] [] 0 0 (sh, rf, M1) := by
    intro m_
    induction m_ with
    | zero =>
      intro i M1 hi h1 h2
      refine xr_iloadn hc rfl rfl ?_
      refine xr_sipush hc rfl ?_
      refine xr_icmp_ge hc rfl (t := 31) rfl (fun b6 => ?_) (fun b6 => ?_)
      · refine xr_return hc rfl rfl (Nat.zero_le _) (Nat.zero_le _) ?_
        exact hQ M1 h1 (fun k2 hk => h2 k2 (by omega))
      · omega
    | succ m_ ih =>
      intro i M1 hi h1 h2
      have ix : ((b : Int) + (i : Int)).toNat = b + i := by omega
      have iy : ((a : Int) + (i : Int)).toNat = a + i := by omega
      refine xr_iloadn hc rfl rfl ?_
      refine xr_sipush hc rfl ?_
      refine xr_icmp_ge hc rfl (t := 31) rfl (fun b6 => ?_) (fun b6 => ?_)
      · omega
      · refine xr_aloadn hc rfl rfl ?_
        refine xr_getfr hc rfl rfl (by first | assumption | rfl) (by first | assumption | rfl) ?_
        refine xr_iloadn hc rfl rfl ?_
        refine xr_iloadn hc rfl rfl ?_
        refine xr_iaddz hc rfl (by first | exact dz_wid (by first | omega | (unfold dz_w; omega)) (by first | omega | (unfold dz_w; omega)) | rfl) ?_
        refine xr_aloadn hc rfl rfl ?_
        refine xr_getfr hc rfl rfl (by first | assumption | rfl) (by first | assumption | rfl) ?_
        refine xr_iloadn hc rfl rfl ?_
        refine xr_iloadn hc rfl rfl ?_
        refine xr_iaddz hc rfl (by first | exact dz_wid (by first | omega | (unfold dz_w; omega)) (by first | omega | (unfold dz_w; omega)) | rfl) ?_
        first | refine xr_iaload hc rfl (by first | assumption | rfl) (by first | omega | (unfold dz_w; omega)) (by first | omega | (unfold dz_w; omega)) ?_ | refine xr_ialoado hc rfl (by first | omega | (unfold dz_w; omega)) (by first | omega | (unfold dz_w; omega)) ?_
        rw [iy, h1 _ _ (by omega)]
        refine xr_iastore hc rfl (by first | assumption | rfl) (by first | omega | (unfold dz_w; omega)) (by first | omega | (unfold dz_w; omega)) ?_
        rw [ix]
        refine xr_iincz3 hc rfl rfl (by first | exact dz_wid (by first | omega | (unfold dz_w; omega)) (by first | omega | (unfold dz_w; omega)) | rfl) ?_
        refine xr_goto hc rfl (t := 2) rfl ?_
        refine ih (i + 1) _ (by omega) (fun q2 k2 u => ?_) (fun k2 hk => ?_)
        · by_cases e : q2 = 116
          · subst e
            rw [dz_up_k (by omega), h1 _ _ u]
          · rw [dz_up_ne e, h1 _ _ u]
        · by_cases e : k2 = i
          · subst e
            rw [dz_up_eq]
          · rw [dz_up_k (by omega)]
            exact h2 k2 (by omega)
  refine xr_iconst hc rfl ?_
  refine xr_istore3 hc rfl rfl ?_
  exact lp 903 0 M (by omega) (fun _ _ _ => rfl) (fun k2 hk => by omega)
theorem segM_cp {M M2 : Nat → Nat → Int} {a b n : Nat} {w : Int} {hs : Nat → Nat → Int} (hw : w ≤ 6) (hn : n ≤ 40) (h : segM M a w n hs) (hc : ∀ k2, k2 < 903 → M2 116 (b + k2) = M 116 (a + k2)) : segM M2 b w n hs := by
  obtain ⟨h1, h2, h3⟩ := h
  refine ⟨(hc 0 (by omega)).trans h1, fun c hk => ?_, fun k hk c hc2 => ?_⟩
  · have hk2 := hk
    unfold okc at hk2
    rw [hc c (by omega)]
    exact h2 c hk
  · have hk2 := hc2
    unfold okc at hk2
    rw [Nat.add_assoc, hc (22 + 22 * k + c) (by omega), ← Nat.add_assoc]
    exact h3 k hk c hc2
set_option maxRecDepth 100000 in
theorem D_keep {xo : Nat → List Int} {d : Nat} {Q : dz_Q} {sh : List (Nat ⊕ (Nat × Nat))} {rf : Nat → Nat → Nat} {M : Nat → Nat → Int} {rs : Nat → Int} {it : Nat → Nat → Int} {ts : Nat → Int} {ch : Nat → Nat → Int} {tl up lo : Int} {fn : Nat → Int} {w pl : Int} {kd wt nx : Nat → Int} {n : Nat} {hs : Nat → Nat → Int} {kp : Nat → Int} {kh : Nat → Nat → Nat → Int} {k : Int} (hl : ml sh rf) (hR : RM M rs it ts ch tl up lo fn w pl kd wt nx n hs kp kh) (hW : WF rs it ts ch tl up lo fn w pl kd wt nx n hs kp kh) (hQ : ∀ M2 : Nat → Nat → Int, (∀ q2 k2, q2 < 115 → M2 q2 k2 = M q2 k2) → RM M2 rs it ts ch tl up lo fn w pl kd wt nx n hs (o_keep w n hs kp kh k).2.1 (o_keep w n hs kp kh k).2.2 → Q (some (dz_i ((o_keep w n hs kp kh k).1))) (sh, rf, M2)) : dz_E dz_pp xo (d + 3) 167 [dz_r 115, dz_i k] (sh, rf, M) Q := by
  refine ⟨Nat.le_of_ble_eq_true rfl, ?_⟩
  have hc := dz_E_m dz_pp xo (d + 2)
  show dz_X (dz_E dz_pp xo (d + 2)) dz_pp xo (dz_pp 167) Q 0 [some (dz_r 115), some (dz_i k)] [] 0 0 (sh, rf, M)
  obtain ⟨c0, c1, c2, c3, c4, c5, c6, c7, c8, c9, c10, c11, c12, c13, c14, c15, c16, c17, c18, c19, c20, c21, c22, c23, c24, c25, c26, c27, c28, c29⟩ := id hl
  obtain ⟨hrow, htxt, htl, hup, hlo, hfn, hdr, hkp⟩ := id hR
  obtain ⟨wrow, wtxt, wdr, wst, wkp⟩ := id hW
  have hw6 := WF_w hW
  have hdr3 : drM M w pl kd wt nx n hs ∧ w ≤ 6 ∧ n ≤ 40 := ⟨hdr, hw6.2, wst.1⟩
  have hkp3 : kepM M w kp kh ∧ w ≤ 6 ∧ ∀ k, k < 3 → kp k ≤ 40 := ⟨hkp, hw6.2, fun k hk => by
    rcases wkp k hk with z | z
    · omega
    · exact z.2.1⟩
  obtain ⟨a1, a2, a3, b1, b2, b3⟩ := id hdr
  have hpg : pgM M w pl kd wt nx := ⟨a1, a2, a3⟩
  have b2c : ∀ c, okc w c → M 116 c = hs n c := fun c hc => by
    have h3 := b2 c hc
    rw [Nat.zero_add] at h3
    exact h3
  have t0 : Int.toNat 0 = 0 := rfl
  have t1 : Int.toNat 1 = 1 := rfl
  have t3 : Int.toNat 3 = 3 := rfl
  have y3 : M 116 3 = hs n 3 := b2c 3 (by unfold okc; omega)
  have y1 : M 116 1 = hs n 1 := b2c 1 (by unfold okc; omega)
  refine xr_iloadn hc rfl rfl ?_
  refine xr_i2l hc rfl ?_
  refine xr_lconst hc rfl ?_
  refine xr_ldc2 hc rfl ?_
  refine xr_calls3 hc rfl (by decide) rfl rfl rfl (Nat.le_of_ble_eq_true rfl) (Nat.zero_le _) (Nat.zero_le _) ?_
  refine S_in (fun u1 v1 => ?_) (fun u1 => ?_)
  · refine xk_1 ?_
    refine xr_ift hc rfl (t := 14) rfl (by simp [dz_cmp]) ?_
    refine xr_aloadn hc rfl rfl ?_
    refine xr_getfi hc rfl (Or.inl rfl) (by first | assumption | rfl) ?_
    rw [a1]
    refine xr_if_ne hc rfl (t := 24) rfl (fun b18 => ?_) (fun b18 => ?_)
    · refine xr_aloadn hc rfl rfl ?_
      refine xr_iconst hc rfl ?_
      refine xr_sipush hc rfl ?_
      refine xr_iconst hc rfl ?_
      refine xr_iloadn hc rfl rfl ?_
      refine xr_iaddz hc rfl (by first | exact dz_wid (by first | omega | (unfold dz_w; omega)) (by first | omega | (unfold dz_w; omega)) | rfl) ?_
      refine xr_imulz hc rfl (by first | exact dz_wid (by first | omega | (unfold dz_w; omega)) (by first | omega | (unfold dz_w; omega)) | rfl) ?_
      rw [show (903 * (1 + k) : Int) = ((903 * (1 + k.toNat) : Nat) : Int) by omega]
      refine xr_callv2 hc rfl (by first | assumption | rfl) rfl rfl rfl (Nat.le_of_ble_eq_true rfl) (Nat.zero_le _) (Nat.zero_le _) ?_
      refine D_copyDrum (a := 0) hl (by omega) (by omega) (by omega) (fun M2 z1 z2 => ?_)
      refine xk_0 ?_
      refine xr_aloadn hc rfl rfl ?_
      refine xr_getfr hc rfl rfl (by first | assumption | rfl) (by first | assumption | rfl) ?_
      refine xr_iconst hc rfl ?_
      first | refine xr_iaload hc rfl (by first | assumption | rfl) (by first | omega | (unfold dz_w; omega)) (by first | omega | (unfold dz_w; omega)) ?_ | refine xr_ialoado hc rfl (by first | omega | (unfold dz_w; omega)) (by first | omega | (unfold dz_w; omega)) ?_
      rw [t0, z1 _ _ (by omega), b1]
      refine xr_ireturn hc rfl rfl (Nat.zero_le _) (Nat.zero_le _) ?_
      simp only [o_keep] at hQ
      repeat (first | rw [if_pos (by omega)] at hQ | rw [if_neg (by omega)] at hQ)
      try dsimp only at hQ
      refine hQ M2 (fun q2 k2 u => z1 q2 k2 (by omega)) ⟨rowM_fr hrow (fun k2 => z1 _ _ (by omega)) (fun k2 => z1 _ _ (by omega)), txtM_fr htxt (fun k2 => z1 _ _ (by omega)) (fun k2 => z1 _ _ (by omega)), Eq.trans (z1 _ _ (by omega)) htl, Eq.trans (z1 _ _ (by omega)) hup, Eq.trans (z1 _ _ (by omega)) hlo, fndM_fr hfn (z1 _ _ (by omega)) (fun k2 => z1 _ _ (by omega)), drM_fr hdr3 (z1 _ _ (by omega)) (z1 _ _ (by omega)) (fun k2 => z1 _ _ (by omega)) (fun k2 => z1 _ _ (by omega)) (fun k2 => z1 _ _ (by omega)) (fun k2 u1 => z1 _ _ (by omega)), fun k3 hk3 => ?_⟩
      dsimp only
      by_cases e : k3 = k.toNat
      · subst e
        rw [fup_eq, if_pos rfl]
        refine ⟨(z2 0 (by omega)).trans b1, fun _ => ?_⟩
        rw [Int.toNat_natCast]
        exact segM_cp hw6.2 (by omega) hdr.2.2.2 z2
      · rw [fup_ne e, if_neg e]
        have hk4 := hkp3.2.2 k3 hk3
        refine ⟨by rw [z1 _ _ (by omega)]; exact (hkp k3 hk3).1, fun hz => segM_fr hw6.2 (by omega) ((hkp k3 hk3).2 hz) (fun j u v => z1 _ _ (by omega))⟩
    · refine xr_bipush hc rfl ?_
      refine xr_ireturn hc rfl rfl (Nat.zero_le _) (Nat.zero_le _) ?_
      simp only [o_keep] at hQ
      repeat (first | rw [if_pos (by omega)] at hQ | rw [if_neg (by omega)] at hQ)
      try dsimp only at hQ
      exact hQ M (fun _ _ _ => rfl) hR
  · refine xk_1 ?_
    refine xr_iff hc rfl (by simp [dz_cmp]) ?_
    refine xr_iconst hc rfl ?_
    refine xr_ireturn hc rfl rfl (Nat.zero_le _) (Nat.zero_le _) ?_
    simp only [o_keep] at hQ
    repeat (first | rw [if_pos (by omega)] at hQ | rw [if_neg (by omega)] at hQ)
    try dsimp only at hQ
    exact hQ M (fun _ _ _ => rfl) hR
set_option maxRecDepth 100000 in
theorem D_on {xo : Nat → List Int} {d : Nat} {Q : dz_Q} {sh : List (Nat ⊕ (Nat × Nat))} {rf : Nat → Nat → Nat} {M : Nat → Nat → Int} {rs : Nat → Int} {it : Nat → Nat → Int} {ts : Nat → Int} {ch : Nat → Nat → Int} {tl up lo : Int} {fn : Nat → Int} {w pl : Int} {kd wt nx : Nat → Int} {n : Nat} {hs : Nat → Nat → Int} {kp : Nat → Int} {kh : Nat → Nat → Nat → Int} {k : Int} (hl : ml sh rf) (hR : RM M rs it ts ch tl up lo fn w pl kd wt nx n hs kp kh) (hW : WF rs it ts ch tl up lo fn w pl kd wt nx n hs kp kh) (hQ : ∀ M2 : Nat → Nat → Int, (∀ q2 k2, q2 < 115 → M2 q2 k2 = M q2 k2) → RM M2 rs it ts ch tl up lo (o_on fn n hs kp kh k).2.1 w pl kd wt nx (o_on fn n hs kp kh k).2.2.1 (o_on fn n hs kp kh k).2.2.2 kp kh → Q (some (dz_i ((o_on fn n hs kp kh k).1))) (sh, rf, M2)) : dz_E dz_pp xo (d + 3) 168 [dz_r 115, dz_i k] (sh, rf, M) Q := by
  refine ⟨Nat.le_of_ble_eq_true rfl, ?_⟩
  have hc := dz_E_m dz_pp xo (d + 2)
  show dz_X (dz_E dz_pp xo (d + 2)) dz_pp xo (dz_pp 168) Q 0 [some (dz_r 115), some (dz_i k)] [] 0 0 (sh, rf, M)
  obtain ⟨c0, c1, c2, c3, c4, c5, c6, c7, c8, c9, c10, c11, c12, c13, c14, c15, c16, c17, c18, c19, c20, c21, c22, c23, c24, c25, c26, c27, c28, c29⟩ := id hl
  obtain ⟨hrow, htxt, htl, hup, hlo, hfn, hdr, hkp⟩ := id hR
  obtain ⟨wrow, wtxt, wdr, wst, wkp⟩ := id hW
  have hw6 := WF_w hW
  have hdr3 : drM M w pl kd wt nx n hs ∧ w ≤ 6 ∧ n ≤ 40 := ⟨hdr, hw6.2, wst.1⟩
  have hkp3 : kepM M w kp kh ∧ w ≤ 6 ∧ ∀ k, k < 3 → kp k ≤ 40 := ⟨hkp, hw6.2, fun k hk => by
    rcases wkp k hk with z | z
    · omega
    · exact z.2.1⟩
  obtain ⟨a1, a2, a3, b1, b2, b3⟩ := id hdr
  have hpg : pgM M w pl kd wt nx := ⟨a1, a2, a3⟩
  have b2c : ∀ c, okc w c → M 116 c = hs n c := fun c hc => by
    have h3 := b2 c hc
    rw [Nat.zero_add] at h3
    exact h3
  have t0 : Int.toNat 0 = 0 := rfl
  have t1 : Int.toNat 1 = 1 := rfl
  have t3 : Int.toNat 3 = 3 := rfl
  have y3 : M 116 3 = hs n 3 := b2c 3 (by unfold okc; omega)
  have y1 : M 116 1 = hs n 1 := b2c 1 (by unfold okc; omega)
  refine xr_iloadn hc rfl rfl ?_
  refine xr_i2l hc rfl ?_
  refine xr_lconst hc rfl ?_
  refine xr_ldc2 hc rfl ?_
  refine xr_calls3 hc rfl (by decide) rfl rfl rfl (Nat.le_of_ble_eq_true rfl) (Nat.zero_le _) (Nat.zero_le _) ?_
  refine S_in (fun u1 v1 => ?_) (fun u1 => ?_)
  · refine xk_1 ?_
    refine xr_ift hc rfl (t := 14) rfl (by simp [dz_cmp]) ?_
    obtain ⟨q1, q2⟩ := hkp k.toNat (by omega)
    have wkk := wkp k.toNat (by omega)
    have ik : (903 * (1 + k) + 0 : Int).toNat = 903 * (1 + k.toNat) := by omega
    refine xr_aloadn hc rfl rfl ?_
    refine xr_getfr hc rfl rfl (by first | assumption | rfl) (by first | assumption | rfl) ?_
    refine xr_sipush hc rfl ?_
    refine xr_iconst hc rfl ?_
    refine xr_iloadn hc rfl rfl ?_
    refine xr_iaddz hc rfl (by first | exact dz_wid (by first | omega | (unfold dz_w; omega)) (by first | omega | (unfold dz_w; omega)) | rfl) ?_
    refine xr_imulz hc rfl (by first | exact dz_wid (by first | omega | (unfold dz_w; omega)) (by first | omega | (unfold dz_w; omega)) | rfl) ?_
    refine xr_iconst hc rfl ?_
    refine xr_iaddz hc rfl (by first | exact dz_wid (by first | omega | (unfold dz_w; omega)) (by first | omega | (unfold dz_w; omega)) | rfl) ?_
    first | refine xr_iaload hc rfl (by first | assumption | rfl) (by first | omega | (unfold dz_w; omega)) (by first | omega | (unfold dz_w; omega)) ?_ | refine xr_ialoado hc rfl (by first | omega | (unfold dz_w; omega)) (by first | omega | (unfold dz_w; omega)) ?_
    rw [ik, q1]
    refine xr_if_ge hc rfl (t := 37) rfl (fun b28 => ?_) (fun b28 => ?_)
    · refine xr_aloadn hc rfl rfl ?_
      refine xr_sipush hc rfl ?_
      refine xr_iconst hc rfl ?_
      refine xr_iloadn hc rfl rfl ?_
      refine xr_iaddz hc rfl (by first | exact dz_wid (by first | omega | (unfold dz_w; omega)) (by first | omega | (unfold dz_w; omega)) | rfl) ?_
      refine xr_imulz hc rfl (by first | exact dz_wid (by first | omega | (unfold dz_w; omega)) (by first | omega | (unfold dz_w; omega)) | rfl) ?_
      rw [show (903 * (1 + k) : Int) = ((903 * (1 + k.toNat) : Nat) : Int) by omega]
      refine xr_iconst hc rfl ?_
      refine xr_callv2 hc rfl (by first | assumption | rfl) rfl rfl rfl (Nat.le_of_ble_eq_true rfl) (Nat.zero_le _) (Nat.zero_le _) ?_
      refine D_copyDrum (b := 0) hl (by omega) (by omega) (by omega) (fun M2 z1 z2 => ?_)
      have hk0 : 0 ≤ kp k.toNat := by omega
      have hk40 : kp k.toNat ≤ 40 := hkp3.2.2 k.toNat (by omega)
      have sg := segM_cp hw6.2 (by omega) (q2 hk0) z2
      have eg : M2 116 (Int.toNat 0) = kp k.toNat := sg.1.trans (by omega)
      refine xk_0 ?_
      refine xr_aloadn hc rfl rfl ?_
      refine xr_getfr hc rfl rfl (by first | assumption | rfl) (by first | assumption | rfl) ?_
      refine xr_iconst hc rfl ?_
      first | refine xr_iaload hc rfl (by first | assumption | rfl) (by first | omega | (unfold dz_w; omega)) (by first | omega | (unfold dz_w; omega)) ?_ | refine xr_ialoado hc rfl (by first | omega | (unfold dz_w; omega)) (by first | omega | (unfold dz_w; omega)) ?_
      refine xr_ireturn hc rfl rfl (Nat.zero_le _) (Nat.zero_le _) ?_
      rw [eg]
      simp only [o_on] at hQ
      repeat (first | rw [if_pos (by omega)] at hQ | rw [if_neg (by omega)] at hQ)
      try dsimp only at hQ
      exact hQ M2 (fun q2 k2 u => z1 q2 k2 (by omega)) ⟨rowM_fr hrow (fun k2 => z1 _ _ (by omega)) (fun k2 => z1 _ _ (by omega)), txtM_fr htxt (fun k2 => z1 _ _ (by omega)) (fun k2 => z1 _ _ (by omega)), Eq.trans (z1 _ _ (by omega)) htl, Eq.trans (z1 _ _ (by omega)) hup, Eq.trans (z1 _ _ (by omega)) hlo, fndM_fr hfn (z1 _ _ (by omega)) (fun k2 => z1 _ _ (by omega)), ⟨by rw [z1 _ _ (by omega)]; exact a1, by rw [z1 _ _ (by omega)]; exact a2, fun i hi => by rw [z1 _ _ (by omega), z1 _ _ (by omega), z1 _ _ (by omega)]; exact a3 i hi, sg⟩, kepM_fr hkp3 (fun k2 u1 u2 => z1 _ _ (by omega))⟩
    · refine xr_aloadn hc rfl rfl ?_
      refine xr_iconst hc rfl ?_
      refine xr_callv1 hc rfl (by first | assumption | rfl) rfl rfl rfl (Nat.le_of_ble_eq_true rfl) (Nat.zero_le _) (Nat.zero_le _) ?_
      refine D_find hl hR hW (by omega) (fun M2 z1 z2 => ?_)
      refine xk_1 ?_
      refine xr_ireturn hc rfl rfl (Nat.zero_le _) (Nat.zero_le _) ?_
      simp only [o_on] at hQ
      repeat (first | rw [if_pos (by omega)] at hQ | rw [if_neg (by omega)] at hQ)
      try dsimp only at hQ
      exact hQ M2 z1 z2
  · refine xk_1 ?_
    refine xr_iff hc rfl (by simp [dz_cmp]) ?_
    refine xr_iconst hc rfl ?_
    refine xr_ireturn hc rfl rfl (Nat.zero_le _) (Nat.zero_le _) ?_
    simp only [o_on] at hQ
    repeat (first | rw [if_pos (by omega)] at hQ | rw [if_neg (by omega)] at hQ)
    try dsimp only at hQ
    exact hQ M (fun _ _ _ => rfl) hR
