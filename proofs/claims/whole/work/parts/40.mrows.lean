/-! The other one: rows, texts. Written by l2_40.py. -/
theorem lcmp_i (x y : Int) : (dz_lcmp x y < 0 ↔ x < y) ∧ (0 < dz_lcmp x y ↔ y < x) ∧ (dz_lcmp x y = 0 ↔ x = y) := by
  unfold dz_lcmp
  split
  · omega
  · split <;> omega
set_option maxRecDepth 100000 in
theorem S_in {xo : Nat → List Int} {d : Nat} {Q : dz_Q} {sh : List (Nat ⊕ (Nat × Nat))} {rf : Nat → Nat → Nat} {M : Nat → Nat → Int} {x lo hi : Int} (h1 : lo ≤ x → x ≤ hi → Q (some (dz_i 1)) (sh, rf, M)) (h2 : (x < lo ∨ hi < x) → Q (some (dz_i 0)) (sh, rf, M)) : dz_E dz_pp xo (d + 1) 119 [dz_l x, dz_l lo, dz_l hi] (sh, rf, M) Q := by
  refine ⟨Nat.le_of_ble_eq_true rfl, ?_⟩
  have hc := dz_E_m dz_pp xo (d + 0)
  show dz_X (dz_E dz_pp xo (d + 0)) dz_pp xo (dz_pp 119) Q 0 [some (dz_l x), none, some (dz_l lo), none, some (dz_l hi), none] [] 0 0 (sh, rf, M)
  have q1 := lcmp_i x lo
  have q2 := lcmp_i x hi
  refine xr_lloadn hc rfl rfl ?_
  refine xr_lloadn hc rfl rfl ?_
  refine xr_lcmp hc rfl ?_
  refine xr_if_lt hc rfl (t := 17) rfl (fun b3 => ?_) (fun b3 => ?_)
  · refine xr_iconst hc rfl ?_
    refine xr_zreturn hc rfl rfl (Nat.zero_le _) (Nat.zero_le _) (by first | exact Or.inl rfl | exact Or.inr rfl | assumption) ?_
    first
      | exact h1 (by omega) (by omega)
      | exact h2 (by omega)
  · refine xr_lloadn hc rfl rfl ?_
    refine xr_lload hc rfl rfl ?_
    refine xr_lcmp hc rfl ?_
    refine xr_if_gt hc rfl (t := 17) rfl (fun b10 => ?_) (fun b10 => ?_)
    · refine xr_iconst hc rfl ?_
      refine xr_zreturn hc rfl rfl (Nat.zero_le _) (Nat.zero_le _) (by first | exact Or.inl rfl | exact Or.inr rfl | assumption) ?_
      first
        | exact h1 (by omega) (by omega)
        | exact h2 (by omega)
    · refine xr_iconst hc rfl ?_
      refine xr_goto hc rfl (t := 18) rfl ?_
      refine xr_zreturn hc rfl rfl (Nat.zero_le _) (Nat.zero_le _) (by first | exact Or.inl rfl | exact Or.inr rfl | assumption) ?_
      first
        | exact h1 (by omega) (by omega)
        | exact h2 (by omega)
set_option maxRecDepth 100000 in
theorem D_isRow {xo : Nat → List Int} {d : Nat} {Q : dz_Q} {sh : List (Nat ⊕ (Nat × Nat))} {rf : Nat → Nat → Nat} {M : Nat → Nat → Int} {x : Int} (h1 : 0 ≤ x → x ≤ 5 → Q (some (dz_i 1)) (sh, rf, M)) (h2 : (x < 0 ∨ 5 < x) → Q (some (dz_i 0)) (sh, rf, M)) : dz_E dz_pp xo (d + 2) 123 [dz_i x] (sh, rf, M) Q := by
  refine ⟨Nat.le_of_ble_eq_true rfl, ?_⟩
  have hc := dz_E_m dz_pp xo (d + 1)
  show dz_X (dz_E dz_pp xo (d + 1)) dz_pp xo (dz_pp 123) Q 0 [some (dz_i x)] [] 0 0 (sh, rf, M)
  refine xr_iloadn hc rfl rfl ?_
  refine xr_i2l hc rfl ?_
  refine xr_lconst hc rfl ?_
  refine xr_ldc2 hc rfl ?_
  refine xr_calls3 hc rfl (by decide) rfl rfl rfl (Nat.le_of_ble_eq_true rfl) (Nat.zero_le _) (Nat.zero_le _) ?_
  refine S_in (fun u1 v1 => ?_) (fun u1 => ?_)
  · refine xk_1 ?_
    refine xr_zreturn hc rfl rfl (Nat.zero_le _) (Nat.zero_le _) (by first | exact Or.inl rfl | exact Or.inr rfl | assumption) ?_
    first
      | exact h1 u1 v1
      | exact h2 u1
  · refine xk_1 ?_
    refine xr_zreturn hc rfl rfl (Nat.zero_le _) (Nat.zero_le _) (by first | exact Or.inl rfl | exact Or.inr rfl | assumption) ?_
    first
      | exact h1 u1 v1
      | exact h2 u1
set_option maxRecDepth 100000 in
theorem D_isText {xo : Nat → List Int} {d : Nat} {Q : dz_Q} {sh : List (Nat ⊕ (Nat × Nat))} {rf : Nat → Nat → Nat} {M : Nat → Nat → Int} {x : Int} (h1 : 0 ≤ x → x ≤ 3 → Q (some (dz_i 1)) (sh, rf, M)) (h2 : (x < 0 ∨ 3 < x) → Q (some (dz_i 0)) (sh, rf, M)) : dz_E dz_pp xo (d + 2) 124 [dz_i x] (sh, rf, M) Q := by
  refine ⟨Nat.le_of_ble_eq_true rfl, ?_⟩
  have hc := dz_E_m dz_pp xo (d + 1)
  show dz_X (dz_E dz_pp xo (d + 1)) dz_pp xo (dz_pp 124) Q 0 [some (dz_i x)] [] 0 0 (sh, rf, M)
  refine xr_iloadn hc rfl rfl ?_
  refine xr_i2l hc rfl ?_
  refine xr_lconst hc rfl ?_
  refine xr_ldc2 hc rfl ?_
  refine xr_calls3 hc rfl (by decide) rfl rfl rfl (Nat.le_of_ble_eq_true rfl) (Nat.zero_le _) (Nat.zero_le _) ?_
  refine S_in (fun u1 v1 => ?_) (fun u1 => ?_)
  · refine xk_1 ?_
    refine xr_zreturn hc rfl rfl (Nat.zero_le _) (Nat.zero_le _) (by first | exact Or.inl rfl | exact Or.inr rfl | assumption) ?_
    first
      | exact h1 u1 v1
      | exact h2 u1
  · refine xk_1 ?_
    refine xr_zreturn hc rfl rfl (Nat.zero_le _) (Nat.zero_le _) (by first | exact Or.inl rfl | exact Or.inr rfl | assumption) ?_
    first
      | exact h1 u1 v1
      | exact h2 u1
set_option maxRecDepth 100000 in
theorem D_find {xo : Nat → List Int} {d : Nat} {Q : dz_Q} {sh : List (Nat ⊕ (Nat × Nat))} {rf : Nat → Nat → Nat} {M : Nat → Nat → Int} {rs : Nat → Int} {it : Nat → Nat → Int} {ts : Nat → Int} {ch : Nat → Nat → Int} {tl up lo : Int} {fn : Nat → Int} {w pl : Int} {kd wt nx : Nat → Int} {n : Nat} {hs : Nat → Nat → Int} {kp : Nat → Int} {kh : Nat → Nat → Nat → Int} {f : Int} (hl : ml sh rf) (hR : RM M rs it ts ch tl up lo fn w pl kd wt nx n hs kp kh) (hW : WF rs it ts ch tl up lo fn w pl kd wt nx n hs kp kh) (hf : 1 ≤ f ∧ f ≤ 5) (hQ : ∀ M2 : Nat → Nat → Int, (∀ q2 k2, q2 < 115 → M2 q2 k2 = M q2 k2) → RM M2 rs it ts ch tl up lo (rfu fn f.toNat) w pl kd wt nx n hs kp kh → Q (some (dz_i (-3))) (sh, rf, M2)) : dz_E dz_pp xo (d + 1) 121 [dz_r 115, dz_i f] (sh, rf, M) Q := by
  refine ⟨Nat.le_of_ble_eq_true rfl, ?_⟩
  have hc := dz_E_m dz_pp xo (d + 0)
  show dz_X (dz_E dz_pp xo (d + 0)) dz_pp xo (dz_pp 121) Q 0 [some (dz_r 115), some (dz_i f)] [] 0 0 (sh, rf, M)
  obtain ⟨c0, c1, c2, c3, c4, c5, c6, c7, c8, c9, c10, c11, c12, c13, c14, c15, c16, c17, c18, c19, c20, c21, c22, c23, c24, c25, c26, c27, c28, c29⟩ := id hl
  obtain ⟨hrow, htxt, htl, hup, hlo, hfn, hdr, hkp⟩ := id hR
  obtain ⟨wrow, wtxt, wdr, wst, wkp⟩ := id hW
  have hw6 := WF_w hW
  have hdr3 : drM M w pl kd wt nx n hs ∧ w ≤ 6 ∧ n ≤ 40 := ⟨hdr, hw6.2, wst.1⟩
  have hkp3 : kepM M w kp kh ∧ w ≤ 6 ∧ ∀ k, k < 3 → kp k ≤ 40 := ⟨hkp, hw6.2, fun k hk => by
    rcases wkp k hk with z | z
    · omega
    · exact z.2.1⟩
  obtain ⟨f1, f2⟩ := hfn
  refine xr_aloadn hc rfl rfl ?_
  refine xr_iloadn hc rfl rfl ?_
  refine xr_putfi hc rfl rfl (by first | assumption | rfl) ?_
  refine xr_aloadn hc rfl rfl ?_
  refine xr_getfr hc rfl rfl (by first | assumption | rfl) (by first | assumption | rfl) ?_
  refine xr_iloadn hc rfl rfl ?_
  refine xr_dup2i hc rfl ?_
  first | refine xr_iaload hc rfl (by first | assumption | rfl) (by first | omega | (unfold dz_w; omega)) (by first | omega | (unfold dz_w; omega)) ?_ | refine xr_ialoado hc rfl (by first | omega | (unfold dz_w; omega)) (by first | omega | (unfold dz_w; omega)) ?_
  refine xr_iconst hc rfl ?_
  refine xr_iaddz hc rfl (by first | exact dz_wid (by first | omega | (unfold dz_w; omega)) (by first | omega | (unfold dz_w; omega)) | rfl) ?_
  refine xr_iastore hc rfl (by first | assumption | rfl) (by first | omega | (unfold dz_w; omega)) (by first | omega | (unfold dz_w; omega)) ?_
  refine xr_bipush hc rfl ?_
  refine xr_ireturn hc rfl rfl (Nat.zero_le _) (Nat.zero_le _) ?_
  have ef : ((f.toNat : Nat) : Int) = f := by omega
  refine hQ _ (fun q2 k2 u => by repeat (first | rw [dz_up_ne (by omega)] | rw [dz_up_k (by omega)])) ⟨rowM_fr hrow (fun k2 => by repeat (first | rw [dz_up_ne (by omega)] | rw [dz_up_k (by omega)])) (fun k2 => by repeat (first | rw [dz_up_ne (by omega)] | rw [dz_up_k (by omega)])), txtM_fr htxt (fun k2 => by repeat (first | rw [dz_up_ne (by omega)] | rw [dz_up_k (by omega)])) (fun k2 => by repeat (first | rw [dz_up_ne (by omega)] | rw [dz_up_k (by omega)])), Eq.trans (by repeat (first | rw [dz_up_ne (by omega)] | rw [dz_up_k (by omega)])) htl, Eq.trans (by repeat (first | rw [dz_up_ne (by omega)] | rw [dz_up_k (by omega)])) hup, Eq.trans (by repeat (first | rw [dz_up_ne (by omega)] | rw [dz_up_k (by omega)])) hlo, ⟨?_, fun k h1 h2 => ?_⟩, drM_fr hdr3 (by repeat (first | rw [dz_up_ne (by omega)] | rw [dz_up_k (by omega)])) (by repeat (first | rw [dz_up_ne (by omega)] | rw [dz_up_k (by omega)])) (fun k2 => by repeat (first | rw [dz_up_ne (by omega)] | rw [dz_up_k (by omega)])) (fun k2 => by repeat (first | rw [dz_up_ne (by omega)] | rw [dz_up_k (by omega)])) (fun k2 => by repeat (first | rw [dz_up_ne (by omega)] | rw [dz_up_k (by omega)])) (fun k2 u1 => by repeat (first | rw [dz_up_ne (by omega)] | rw [dz_up_k (by omega)])), kepM_fr hkp3 (fun k2 u1 u2 => by repeat (first | rw [dz_up_ne (by omega)] | rw [dz_up_k (by omega)]))⟩
  · rw [dz_up_ne (by omega), dz_up_eq]
    unfold rfu
    rw [if_pos rfl, ef]
  · unfold rfu
    rw [if_neg (by omega), up_fup, dz_up_ne (by omega)]
    unfold fup
    by_cases e : k = f.toNat
    · rw [if_pos e, if_pos e, f2 _ (by omega) (by omega), e]
    · rw [if_neg e, if_neg e]
      exact f2 k h1 h2
set_option maxRecDepth 100000 in
theorem D_tell {xo : Nat → List Int} {d : Nat} {Q : dz_Q} {sh : List (Nat ⊕ (Nat × Nat))} {rf : Nat → Nat → Nat} {M : Nat → Nat → Int} {rs : Nat → Int} {it : Nat → Nat → Int} {ts : Nat → Int} {ch : Nat → Nat → Int} {tl up lo : Int} {fn : Nat → Int} {w pl : Int} {kd wt nx : Nat → Int} {n : Nat} {hs : Nat → Nat → Int} {kp : Nat → Int} {kh : Nat → Nat → Nat → Int} {v : Int} (hl : ml sh rf) (hR : RM M rs it ts ch tl up lo fn w pl kd wt nx n hs kp kh) (hW : WF rs it ts ch tl up lo fn w pl kd wt nx n hs kp kh) (hQ : ∀ M2 : Nat → Nat → Int, (∀ q2 k2, q2 < 115 → M2 q2 k2 = M q2 k2) → RM M2 rs it ts ch v up lo fn w pl kd wt nx n hs kp kh → Q (some (dz_i 1)) (sh, rf, M2)) : dz_E dz_pp xo (d + 1) 122 [dz_r 115, dz_i v] (sh, rf, M) Q := by
  refine ⟨Nat.le_of_ble_eq_true rfl, ?_⟩
  have hc := dz_E_m dz_pp xo (d + 0)
  show dz_X (dz_E dz_pp xo (d + 0)) dz_pp xo (dz_pp 122) Q 0 [some (dz_r 115), some (dz_i v)] [] 0 0 (sh, rf, M)
  obtain ⟨c0, c1, c2, c3, c4, c5, c6, c7, c8, c9, c10, c11, c12, c13, c14, c15, c16, c17, c18, c19, c20, c21, c22, c23, c24, c25, c26, c27, c28, c29⟩ := id hl
  obtain ⟨hrow, htxt, htl, hup, hlo, hfn, hdr, hkp⟩ := id hR
  obtain ⟨wrow, wtxt, wdr, wst, wkp⟩ := id hW
  have hw6 := WF_w hW
  have hdr3 : drM M w pl kd wt nx n hs ∧ w ≤ 6 ∧ n ≤ 40 := ⟨hdr, hw6.2, wst.1⟩
  have hkp3 : kepM M w kp kh ∧ w ≤ 6 ∧ ∀ k, k < 3 → kp k ≤ 40 := ⟨hkp, hw6.2, fun k hk => by
    rcases wkp k hk with z | z
    · omega
    · exact z.2.1⟩
  refine xr_aloadn hc rfl rfl ?_
  refine xr_iloadn hc rfl rfl ?_
  refine xr_putfi hc rfl rfl (by first | assumption | rfl) ?_
  refine xr_iconst hc rfl ?_
  refine xr_ireturn hc rfl rfl (Nat.zero_le _) (Nat.zero_le _) ?_
  refine hQ _ (fun q2 k2 u => by repeat (first | rw [dz_up_ne (by omega)] | rw [dz_up_k (by omega)])) ⟨rowM_fr hrow (fun k2 => by repeat (first | rw [dz_up_ne (by omega)] | rw [dz_up_k (by omega)])) (fun k2 => by repeat (first | rw [dz_up_ne (by omega)] | rw [dz_up_k (by omega)])), txtM_fr htxt (fun k2 => by repeat (first | rw [dz_up_ne (by omega)] | rw [dz_up_k (by omega)])) (fun k2 => by repeat (first | rw [dz_up_ne (by omega)] | rw [dz_up_k (by omega)])), by rw [dz_up_eq], Eq.trans (by repeat (first | rw [dz_up_ne (by omega)] | rw [dz_up_k (by omega)])) hup, Eq.trans (by repeat (first | rw [dz_up_ne (by omega)] | rw [dz_up_k (by omega)])) hlo, fndM_fr hfn (by repeat (first | rw [dz_up_ne (by omega)] | rw [dz_up_k (by omega)])) (fun k2 => by repeat (first | rw [dz_up_ne (by omega)] | rw [dz_up_k (by omega)])), drM_fr hdr3 (by repeat (first | rw [dz_up_ne (by omega)] | rw [dz_up_k (by omega)])) (by repeat (first | rw [dz_up_ne (by omega)] | rw [dz_up_k (by omega)])) (fun k2 => by repeat (first | rw [dz_up_ne (by omega)] | rw [dz_up_k (by omega)])) (fun k2 => by repeat (first | rw [dz_up_ne (by omega)] | rw [dz_up_k (by omega)])) (fun k2 => by repeat (first | rw [dz_up_ne (by omega)] | rw [dz_up_k (by omega)])) (fun k2 u1 => by repeat (first | rw [dz_up_ne (by omega)] | rw [dz_up_k (by omega)])), kepM_fr hkp3 (fun k2 u1 u2 => by repeat (first | rw [dz_up_ne (by omega)] | rw [dz_up_k (by omega)]))⟩
set_option maxRecDepth 100000 in
theorem D_makeRow {xo : Nat → List Int} {d : Nat} {Q : dz_Q} {sh : List (Nat ⊕ (Nat × Nat))} {rf : Nat → Nat → Nat} {M : Nat → Nat → Int} {r m : Int} (hl : ml sh rf) (hr : 0 ≤ r ∧ r ≤ 5) (hQ : ∀ M2 : Nat → Nat → Int, (∀ q2 k2, q2 ≠ 120 → q2 ≠ 121 → M2 q2 k2 = M q2 k2) → (∀ k2, M2 120 k2 = fup (M 120) r.toNat m k2) → (∀ k2, (k2 < 40 * r.toNat ∨ 40 * r.toNat + 40 ≤ k2) → M2 121 k2 = M 121 k2) → (∀ k2, k2 < 40 → M2 121 (40 * r.toNat + k2) = 0) → Q none (sh, rf, M2)) : dz_E dz_pp xo (d + 1) 126 [dz_r 115, dz_i r, dz_i m] (sh, rf, M) Q := by
  refine ⟨Nat.le_of_ble_eq_true rfl, ?_⟩
  have hc := dz_E_m dz_pp xo (d + 0)
  show dz_X (dz_E dz_pp xo (d + 0)) dz_pp xo (dz_pp 126) Q 0 [some (dz_r 115), some (dz_i r), some (dz_i m), none] [] 0 0 (sh, rf, M)
  obtain ⟨c0, c1, c2, c3, c4, c5, c6, c7, c8, c9, c10, c11, c12, c13, c14, c15, c16, c17, c18, c19, c20, c21, c22, c23, c24, c25, c26, c27, c28, c29⟩ := id hl
  have lp : ∀ (m_ : Nat) (i : Nat) (M1 : Nat → Nat → Int), i + m_ = 40 → (∀ q2 k2, q2 ≠ 120 → q2 ≠ 121 → M1 q2 k2 = M q2 k2) → (∀ k2, M1 120 k2 = fup (M 120) r.toNat m k2) → (∀ k2, (k2 < 40 * r.toNat ∨ 40 * r.toNat + 40 ≤ k2) → M1 121 k2 = M 121 k2) → (∀ k2, k2 < i → M1 121 (40 * r.toNat + k2) = 0) → dz_X (dz_E dz_pp xo (d + 0)) dz_pp xo (dz_pp 126) Q 9 [some (dz_r 115), some (dz_i r), some (dz_i m), some (dz_i (i : Int))] [] 0 0 (sh, rf, M1) := by
    intro m_
    induction m_ with
    | zero =>
      intro i M1 hi h1 h2 h3 h4
      refine xr_iloadn hc rfl rfl ?_
      refine xr_bipush hc rfl ?_
      refine xr_icmp_ge hc rfl (t := 33) rfl (fun b12 => ?_) (fun b12 => ?_)
      · refine xr_return hc rfl rfl (Nat.zero_le _) (Nat.zero_le _) ?_
        exact hQ M1 h1 h2 h3 (fun k2 hk => h4 k2 (by omega))
      · omega
    | succ m_ ih =>
      intro i M1 hi h1 h2 h3 h4
      have ix : (40 * r + (i : Int)).toNat = 40 * r.toNat + i := by omega
      refine xr_iloadn hc rfl rfl ?_
      refine xr_bipush hc rfl ?_
      refine xr_icmp_ge hc rfl (t := 33) rfl (fun b12 => ?_) (fun b12 => ?_)
      · omega
      · refine xr_aloadn hc rfl rfl ?_
        refine xr_getfr hc rfl rfl (by first | assumption | rfl) (by first | assumption | rfl) ?_
        refine xr_bipush hc rfl ?_
        refine xr_iloadn hc rfl rfl ?_
        refine xr_imulz hc rfl (by first | exact dz_wid (by first | omega | (unfold dz_w; omega)) (by first | omega | (unfold dz_w; omega)) | rfl) ?_
        refine xr_iloadn hc rfl rfl ?_
        refine xr_iaddz hc rfl (by first | exact dz_wid (by first | omega | (unfold dz_w; omega)) (by first | omega | (unfold dz_w; omega)) | rfl) ?_
        refine xr_iconst hc rfl ?_
        refine xr_iastore hc rfl (by first | assumption | rfl) (by first | omega | (unfold dz_w; omega)) (by first | omega | (unfold dz_w; omega)) ?_
        rw [ix]
        refine xr_iincz3 hc rfl rfl (by first | exact dz_wid (by first | omega | (unfold dz_w; omega)) (by first | omega | (unfold dz_w; omega)) | rfl) ?_
        refine xr_goto hc rfl (t := 9) rfl ?_
        refine ih (i + 1) _ (by omega) (fun q2 k2 u1 u2 => by rw [dz_up_ne u2, h1 q2 k2 u1 u2]) (fun k2 => by rw [dz_up_ne (by omega), h2]) (fun k2 u1 => by rw [dz_up_k (by omega), h3 k2 u1]) (fun k2 hk => ?_)
        by_cases e : k2 = i
        · subst e
          rw [dz_up_eq]
        · rw [dz_up_k (by omega)]
          exact h4 k2 (by omega)
  refine xr_aloadn hc rfl rfl ?_
  refine xr_getfr hc rfl rfl (by first | assumption | rfl) (by first | assumption | rfl) ?_
  refine xr_iloadn hc rfl rfl ?_
  refine xr_iloadn hc rfl rfl ?_
  refine xr_iastore hc rfl (by first | assumption | rfl) (by first | omega | (unfold dz_w; omega)) (by first | omega | (unfold dz_w; omega)) ?_
  refine xr_iconst hc rfl ?_
  refine xr_istore3 hc rfl rfl ?_
  exact lp 40 0 _ (by omega) (fun q2 k2 u1 u2 => by rw [dz_up_ne u1]) (fun k2 => up_fup _ _ _ _ _) (fun k2 u => by rw [dz_up_ne (by omega)]) (fun k2 hk => by omega)
set_option maxRecDepth 100000 in
theorem D_row {xo : Nat → List Int} {d : Nat} {Q : dz_Q} {sh : List (Nat ⊕ (Nat × Nat))} {rf : Nat → Nat → Nat} {M : Nat → Nat → Int} {rs : Nat → Int} {it : Nat → Nat → Int} {ts : Nat → Int} {ch : Nat → Nat → Int} {tl up lo : Int} {fn : Nat → Int} {w pl : Int} {kd wt nx : Nat → Int} {n : Nat} {hs : Nat → Nat → Int} {kp : Nat → Int} {kh : Nat → Nat → Nat → Int} {r m : Int} (hl : ml sh rf) (hR : RM M rs it ts ch tl up lo fn w pl kd wt nx n hs kp kh) (hW : WF rs it ts ch tl up lo fn w pl kd wt nx n hs kp kh) (hQ : ∀ M2 : Nat → Nat → Int, (∀ q2 k2, q2 < 115 → M2 q2 k2 = M q2 k2) → RM M2 (o_row rs it fn r m).2.1 (o_row rs it fn r m).2.2.1 ts ch tl up lo (o_row rs it fn r m).2.2.2 w pl kd wt nx n hs kp kh → Q (some (dz_i ((o_row rs it fn r m).1))) (sh, rf, M2)) : dz_E dz_pp xo (d + 3) 125 [dz_r 115, dz_i r, dz_i m] (sh, rf, M) Q := by
  refine ⟨Nat.le_of_ble_eq_true rfl, ?_⟩
  have hc := dz_E_m dz_pp xo (d + 2)
  show dz_X (dz_E dz_pp xo (d + 2)) dz_pp xo (dz_pp 125) Q 0 [some (dz_r 115), some (dz_i r), some (dz_i m)] [] 0 0 (sh, rf, M)
  obtain ⟨c0, c1, c2, c3, c4, c5, c6, c7, c8, c9, c10, c11, c12, c13, c14, c15, c16, c17, c18, c19, c20, c21, c22, c23, c24, c25, c26, c27, c28, c29⟩ := id hl
  obtain ⟨hrow, htxt, htl, hup, hlo, hfn, hdr, hkp⟩ := id hR
  obtain ⟨wrow, wtxt, wdr, wst, wkp⟩ := id hW
  have hw6 := WF_w hW
  have hdr3 : drM M w pl kd wt nx n hs ∧ w ≤ 6 ∧ n ≤ 40 := ⟨hdr, hw6.2, wst.1⟩
  have hkp3 : kepM M w kp kh ∧ w ≤ 6 ∧ ∀ k, k < 3 → kp k ≤ 40 := ⟨hkp, hw6.2, fun k hk => by
    rcases wkp k hk with z | z
    · omega
    · exact z.2.1⟩
  refine xr_iloadn hc rfl rfl ?_
  refine xr_calls1 hc rfl (by decide) rfl rfl rfl (Nat.le_of_ble_eq_true rfl) (Nat.zero_le _) (Nat.zero_le _) ?_
  refine D_isRow (fun u1 v1 => ?_) (fun u1 => ?_)
  · refine xk_1 ?_
    refine xr_iff hc rfl (by simp [dz_cmp]) ?_
    refine xr_iloadn hc rfl rfl ?_
    refine xr_bipush hc rfl ?_
    refine xr_icmp_le hc rfl (t := 15) rfl (fun b10 => ?_) (fun b10 => ?_)
    · refine xr_iloadn hc rfl rfl ?_
      refine xr_if_ge hc rfl (t := 25) rfl (fun b16 => ?_) (fun b16 => ?_)
      · refine xr_aloadn hc rfl rfl ?_
        refine xr_iloadn hc rfl rfl ?_
        refine xr_iloadn hc rfl rfl ?_
        refine xr_callv2 hc rfl (by first | assumption | rfl) rfl rfl rfl (Nat.le_of_ble_eq_true rfl) (Nat.zero_le _) (Nat.zero_le _) ?_
        refine D_makeRow hl (by omega) (fun M2 z1 z2 z3 z4 => ?_)
        refine xk_0 ?_
        refine xr_iloadn hc rfl rfl ?_
        refine xr_ireturn hc rfl rfl (Nat.zero_le _) (Nat.zero_le _) ?_
        simp only [o_row] at hQ
        repeat (first | rw [if_pos (by omega)] at hQ | rw [if_neg (by omega)] at hQ)
        try dsimp only at hQ
        refine hQ _ (fun q2 k2 u => z1 _ _ (by omega) (by omega)) ⟨fun r2 hr2 => ?_, txtM_fr htxt (fun k2 => z1 _ _ (by omega) (by omega)) (fun k2 => z1 _ _ (by omega) (by omega)), Eq.trans (z1 _ _ (by omega) (by omega)) htl, Eq.trans (z1 _ _ (by omega) (by omega)) hup, Eq.trans (z1 _ _ (by omega) (by omega)) hlo, fndM_fr hfn (z1 _ _ (by omega) (by omega)) (fun k2 => z1 _ _ (by omega) (by omega)), drM_fr hdr3 (z1 _ _ (by omega) (by omega)) (z1 _ _ (by omega) (by omega)) (fun k2 => z1 _ _ (by omega) (by omega)) (fun k2 => z1 _ _ (by omega) (by omega)) (fun k2 => z1 _ _ (by omega) (by omega)) (fun k2 u1 => z1 _ _ (by omega) (by omega)), kepM_fr hkp3 (fun k2 u1 u2 => z1 _ _ (by omega) (by omega))⟩
        rw [z2]
        by_cases e : r2 = r.toNat
        · subst e
          rw [fup_eq, fup_eq]
          exact ⟨rfl, fun k hk => by rw [z4 k (by omega), rup_eq]⟩
        · have w2 := wrow r2 hr2
          rw [fup_ne e, fup_ne e, rup_ne e]
          exact ⟨(hrow r2 hr2).1, fun k hk => by rw [z3 _ (by omega)]; exact (hrow r2 hr2).2 k hk⟩
      · refine xr_aloadn hc rfl rfl ?_
        refine xr_iconst hc rfl ?_
        refine xr_callv1 hc rfl (by first | assumption | rfl) rfl rfl rfl (Nat.le_of_ble_eq_true rfl) (Nat.zero_le _) (Nat.zero_le _) ?_
        refine D_find hl hR hW (by omega) (fun M2 z1 z2 => ?_)
        refine xk_1 ?_
        refine xr_ireturn hc rfl rfl (Nat.zero_le _) (Nat.zero_le _) ?_
        simp only [o_row] at hQ
        repeat (first | rw [if_pos (by omega)] at hQ | rw [if_neg (by omega)] at hQ)
        try dsimp only at hQ
        exact hQ M2 z1 z2
    · refine xr_iconst hc rfl ?_
      refine xr_ireturn hc rfl rfl (Nat.zero_le _) (Nat.zero_le _) ?_
      simp only [o_row] at hQ
      repeat (first | rw [if_pos (by omega)] at hQ | rw [if_neg (by omega)] at hQ)
      try dsimp only at hQ
      exact hQ M (fun _ _ _ => rfl) hR
  · refine xk_1 ?_
    refine xr_ift hc rfl (t := 13) rfl (by simp [dz_cmp]) ?_
    refine xr_iconst hc rfl ?_
    refine xr_ireturn hc rfl rfl (Nat.zero_le _) (Nat.zero_le _) ?_
    simp only [o_row] at hQ
    repeat (first | rw [if_pos (by omega)] at hQ | rw [if_neg (by omega)] at hQ)
    try dsimp only at hQ
    exact hQ M (fun _ _ _ => rfl) hR
set_option maxRecDepth 100000 in
theorem D_refused {xo : Nat → List Int} {d : Nat} {Q : dz_Q} {sh : List (Nat ⊕ (Nat × Nat))} {rf : Nat → Nat → Nat} {M : Nat → Nat → Int} {rs : Nat → Int} {it : Nat → Nat → Int} {ts : Nat → Int} {ch : Nat → Nat → Int} {tl up lo : Int} {fn : Nat → Int} {w pl : Int} {kd wt nx : Nat → Int} {n : Nat} {hs : Nat → Nat → Int} {kp : Nat → Int} {kh : Nat → Nat → Nat → Int} {r i : Int} (hl : ml sh rf) (hR : RM M rs it ts ch tl up lo fn w pl kd wt nx n hs kp kh) (hW : WF rs it ts ch tl up lo fn w pl kd wt nx n hs kp kh) (h1 : (r < 0 ∨ 5 < r) → Q (some (dz_i (-1))) (sh, rf, M)) (h2 : 0 ≤ r → r ≤ 5 → rs r.toNat = -1 → ∀ M2 : Nat → Nat → Int, (∀ q2 k2, q2 < 115 → M2 q2 k2 = M q2 k2) → RM M2 rs it ts ch tl up lo (rfu fn 1) w pl kd wt nx n hs kp kh → Q (some (dz_i (-3))) (sh, rf, M2)) (h3 : 0 ≤ r → r ≤ 5 → rs r.toNat ≠ -1 → 0 ≤ i → i < rs r.toNat → Q (some (dz_i 0)) (sh, rf, M)) (h4 : 0 ≤ r → r ≤ 5 → rs r.toNat ≠ -1 → (i < 0 ∨ rs r.toNat ≤ i) → ∀ M2 : Nat → Nat → Int, (∀ q2 k2, q2 < 115 → M2 q2 k2 = M q2 k2) → RM M2 rs it ts ch tl up lo (rfu fn 2) w pl kd wt nx n hs kp kh → Q (some (dz_i (-3))) (sh, rf, M2)) : dz_E dz_pp xo (d + 3) 127 [dz_r 115, dz_i r, dz_i i] (sh, rf, M) Q := by
  refine ⟨Nat.le_of_ble_eq_true rfl, ?_⟩
  have hc := dz_E_m dz_pp xo (d + 2)
  show dz_X (dz_E dz_pp xo (d + 2)) dz_pp xo (dz_pp 127) Q 0 [some (dz_r 115), some (dz_i r), some (dz_i i)] [] 0 0 (sh, rf, M)
  obtain ⟨c0, c1, c2, c3, c4, c5, c6, c7, c8, c9, c10, c11, c12, c13, c14, c15, c16, c17, c18, c19, c20, c21, c22, c23, c24, c25, c26, c27, c28, c29⟩ := id hl
  obtain ⟨hrow, htxt, htl, hup, hlo, hfn, hdr, hkp⟩ := id hR
  obtain ⟨wrow, wtxt, wdr, wst, wkp⟩ := id hW
  have hw6 := WF_w hW
  have hdr3 : drM M w pl kd wt nx n hs ∧ w ≤ 6 ∧ n ≤ 40 := ⟨hdr, hw6.2, wst.1⟩
  have hkp3 : kepM M w kp kh ∧ w ≤ 6 ∧ ∀ k, k < 3 → kp k ≤ 40 := ⟨hkp, hw6.2, fun k hk => by
    rcases wkp k hk with z | z
    · omega
    · exact z.2.1⟩
  refine xr_iloadn hc rfl rfl ?_
  refine xr_calls1 hc rfl (by decide) rfl rfl rfl (Nat.le_of_ble_eq_true rfl) (Nat.zero_le _) (Nat.zero_le _) ?_
  refine D_isRow (fun u1 v1 => ?_) (fun u1 => ?_)
  · refine xk_1 ?_
    refine xr_ift hc rfl (t := 11) rfl (by simp [dz_cmp]) ?_
    obtain ⟨e1, e2⟩ := hrow r.toNat (by omega)
    have w1 := wrow r.toNat (by omega)
    refine xr_aloadn hc rfl rfl ?_
    refine xr_getfr hc rfl rfl (by first | assumption | rfl) (by first | assumption | rfl) ?_
    refine xr_iloadn hc rfl rfl ?_
    first | refine xr_iaload hc rfl (by first | assumption | rfl) (by first | omega | (unfold dz_w; omega)) (by first | omega | (unfold dz_w; omega)) ?_ | refine xr_ialoado hc rfl (by first | omega | (unfold dz_w; omega)) (by first | omega | (unfold dz_w; omega)) ?_
    rw [e1]
    refine xr_if_ge hc rfl (t := 28) rfl (fun b17 => ?_) (fun b17 => ?_)
    · refine xr_iloadn hc rfl rfl ?_
      refine xr_i2l hc rfl ?_
      refine xr_lconst hc rfl ?_
      refine xr_aloadn hc rfl rfl ?_
      refine xr_getfr hc rfl rfl (by first | assumption | rfl) (by first | assumption | rfl) ?_
      refine xr_iloadn hc rfl rfl ?_
      first | refine xr_iaload hc rfl (by first | assumption | rfl) (by first | omega | (unfold dz_w; omega)) (by first | omega | (unfold dz_w; omega)) ?_ | refine xr_ialoado hc rfl (by first | omega | (unfold dz_w; omega)) (by first | omega | (unfold dz_w; omega)) ?_
      rw [e1]
      refine xr_iconst hc rfl ?_
      refine xr_isubz hc rfl (by first | exact dz_wid (by first | omega | (unfold dz_w; omega)) (by first | omega | (unfold dz_w; omega)) | rfl) ?_
      refine xr_i2l hc rfl ?_
      refine xr_calls3 hc rfl (by decide) rfl rfl rfl (Nat.le_of_ble_eq_true rfl) (Nat.zero_le _) (Nat.zero_le _) ?_
      refine S_in (fun u2 v2 => ?_) (fun u2 => ?_)
      · refine xk_1 ?_
        refine xr_iff hc rfl (by simp [dz_cmp]) ?_
        refine xr_iconst hc rfl ?_
        refine xr_goto hc rfl (t := 55) rfl ?_
        refine xr_ireturn hc rfl rfl (Nat.zero_le _) (Nat.zero_le _) ?_
        first
          | exact h1 u1
          | exact h2 u1 v1 (by omega) M2 z1 z2
          | exact h3 u1 v1 (by omega) u2 (by omega)
          | exact h4 u1 v1 (by omega) (by omega) M2 z1 z2
      · refine xk_1 ?_
        refine xr_ift hc rfl (t := 50) rfl (by simp [dz_cmp]) ?_
        refine xr_aloadn hc rfl rfl ?_
        refine xr_iconst hc rfl ?_
        refine xr_callv1 hc rfl (by first | assumption | rfl) rfl rfl rfl (Nat.le_of_ble_eq_true rfl) (Nat.zero_le _) (Nat.zero_le _) ?_
        refine D_find hl hR hW (by omega) (fun M2 z1 z2 => ?_)
        refine xk_1 ?_
        refine xr_ireturn hc rfl rfl (Nat.zero_le _) (Nat.zero_le _) ?_
        first
          | exact h1 u1
          | exact h2 u1 v1 (by omega) M2 z1 z2
          | exact h3 u1 v1 (by omega) u2 (by omega)
          | exact h4 u1 v1 (by omega) (by omega) M2 z1 z2
    · refine xr_aloadn hc rfl rfl ?_
      refine xr_iconst hc rfl ?_
      refine xr_callv1 hc rfl (by first | assumption | rfl) rfl rfl rfl (Nat.le_of_ble_eq_true rfl) (Nat.zero_le _) (Nat.zero_le _) ?_
      refine D_find hl hR hW (by omega) (fun M2 z1 z2 => ?_)
      refine xk_1 ?_
      refine xr_goto hc rfl (t := 55) rfl ?_
      refine xr_ireturn hc rfl rfl (Nat.zero_le _) (Nat.zero_le _) ?_
      first
        | exact h1 u1
        | exact h2 u1 v1 (by omega) M2 z1 z2
        | exact h3 u1 v1 (by omega) u2 (by omega)
        | exact h4 u1 v1 (by omega) (by omega) M2 z1 z2
  · refine xk_1 ?_
    refine xr_iff hc rfl (by simp [dz_cmp]) ?_
    refine xr_iconst hc rfl ?_
    refine xr_goto hc rfl (t := 55) rfl ?_
    refine xr_ireturn hc rfl rfl (Nat.zero_le _) (Nat.zero_le _) ?_
    first
      | exact h1 u1
      | exact h2 u1 v1 (by omega) M2 z1 z2
      | exact h3 u1 v1 (by omega) u2 (by omega)
      | exact h4 u1 v1 (by omega) (by omega) M2 z1 z2
set_option maxRecDepth 100000 in
theorem D_lay {xo : Nat → List Int} {d : Nat} {Q : dz_Q} {sh : List (Nat ⊕ (Nat × Nat))} {rf : Nat → Nat → Nat} {M : Nat → Nat → Int} {rs : Nat → Int} {it : Nat → Nat → Int} {ts : Nat → Int} {ch : Nat → Nat → Int} {tl up lo : Int} {fn : Nat → Int} {w pl : Int} {kd wt nx : Nat → Int} {n : Nat} {hs : Nat → Nat → Int} {kp : Nat → Int} {kh : Nat → Nat → Nat → Int} {r i v : Int} (hl : ml sh rf) (hR : RM M rs it ts ch tl up lo fn w pl kd wt nx n hs kp kh) (hW : WF rs it ts ch tl up lo fn w pl kd wt nx n hs kp kh) (hQ : ∀ M2 : Nat → Nat → Int, (∀ q2 k2, q2 < 115 → M2 q2 k2 = M q2 k2) → RM M2 rs (o_lay rs it tl fn r i v).2.1 ts ch (o_lay rs it tl fn r i v).2.2.1 up lo (o_lay rs it tl fn r i v).2.2.2 w pl kd wt nx n hs kp kh → Q (some (dz_i ((o_lay rs it tl fn r i v).1))) (sh, rf, M2)) : dz_E dz_pp xo (d + 4) 128 [dz_r 115, dz_i r, dz_i i, dz_i v] (sh, rf, M) Q := by
  refine ⟨Nat.le_of_ble_eq_true rfl, ?_⟩
  have hc := dz_E_m dz_pp xo (d + 3)
  show dz_X (dz_E dz_pp xo (d + 3)) dz_pp xo (dz_pp 128) Q 0 [some (dz_r 115), some (dz_i r), some (dz_i i), some (dz_i v), none, none] [] 0 0 (sh, rf, M)
  obtain ⟨c0, c1, c2, c3, c4, c5, c6, c7, c8, c9, c10, c11, c12, c13, c14, c15, c16, c17, c18, c19, c20, c21, c22, c23, c24, c25, c26, c27, c28, c29⟩ := id hl
  obtain ⟨hrow, htxt, htl, hup, hlo, hfn, hdr, hkp⟩ := id hR
  obtain ⟨wrow, wtxt, wdr, wst, wkp⟩ := id hW
  have hw6 := WF_w hW
  have hdr3 : drM M w pl kd wt nx n hs ∧ w ≤ 6 ∧ n ≤ 40 := ⟨hdr, hw6.2, wst.1⟩
  have hkp3 : kepM M w kp kh ∧ w ≤ 6 ∧ ∀ k, k < 3 → kp k ≤ 40 := ⟨hkp, hw6.2, fun k hk => by
    rcases wkp k hk with z | z
    · omega
    · exact z.2.1⟩
  refine xr_aloadn hc rfl rfl ?_
  refine xr_iloadn hc rfl rfl ?_
  refine xr_iloadn hc rfl rfl ?_
  refine xr_callv2 hc rfl (by first | assumption | rfl) rfl rfl rfl (Nat.le_of_ble_eq_true rfl) (Nat.zero_le _) (Nat.zero_le _) ?_
  refine D_refused hl hR hW (fun u1 => ?_) (fun u1 v1 u2 M2 z1 z2 => ?_) (fun u1 v1 u2 u3 v3 => ?_) (fun u1 v1 u2 u3 M2 z1 z2 => ?_)
  · refine xk_1 ?_
    refine xr_istore4 hc rfl rfl ?_
    refine xr_iload hc rfl rfl ?_
    refine xr_iff hc rfl (by simp [dz_cmp]) ?_
    refine xr_iload hc rfl rfl ?_
    refine xr_ireturn hc rfl rfl (Nat.zero_le _) (Nat.zero_le _) ?_
    simp only [o_lay] at hQ
    repeat (first | rw [if_pos (by omega)] at hQ | rw [if_neg (by omega)] at hQ)
    try dsimp only at hQ
    first
      | exact hQ M (fun _ _ _ => rfl) hR
      | exact hQ M2 z1 z2
  · refine xk_1 ?_
    refine xr_istore4 hc rfl rfl ?_
    refine xr_iload hc rfl rfl ?_
    refine xr_iff hc rfl (by simp [dz_cmp]) ?_
    refine xr_iload hc rfl rfl ?_
    refine xr_ireturn hc rfl rfl (Nat.zero_le _) (Nat.zero_le _) ?_
    simp only [o_lay] at hQ
    repeat (first | rw [if_pos (by omega)] at hQ | rw [if_neg (by omega)] at hQ)
    try dsimp only at hQ
    first
      | exact hQ M (fun _ _ _ => rfl) hR
      | exact hQ M2 z1 z2
  · refine xk_1 ?_
    refine xr_istore4 hc rfl rfl ?_
    refine xr_iload hc rfl rfl ?_
    refine xr_ift hc rfl (t := 16) rfl (by simp [dz_cmp]) ?_
    obtain ⟨e1, e2⟩ := hrow r.toNat (by omega)
    have w1 := wrow r.toNat (by omega)
    have hi3 := e2 i.toNat (by omega)
    have ix : (40 * r + i).toNat = 40 * r.toNat + i.toNat := by omega
    have hW2 : WF rs (rup it r.toNat (fup (it r.toNat) i.toNat v)) ts ch tl up lo fn w pl kd wt nx n hs kp kh := hW
    refine xr_aloadn hc rfl rfl ?_
    refine xr_getfr hc rfl rfl (by first | assumption | rfl) (by first | assumption | rfl) ?_
    refine xr_bipush hc rfl ?_
    refine xr_iloadn hc rfl rfl ?_
    refine xr_imulz hc rfl (by first | exact dz_wid (by first | omega | (unfold dz_w; omega)) (by first | omega | (unfold dz_w; omega)) | rfl) ?_
    refine xr_iloadn hc rfl rfl ?_
    refine xr_iaddz hc rfl (by first | exact dz_wid (by first | omega | (unfold dz_w; omega)) (by first | omega | (unfold dz_w; omega)) | rfl) ?_
    first | refine xr_iaload hc rfl (by first | assumption | rfl) (by first | omega | (unfold dz_w; omega)) (by first | omega | (unfold dz_w; omega)) ?_ | refine xr_ialoado hc rfl (by first | omega | (unfold dz_w; omega)) (by first | omega | (unfold dz_w; omega)) ?_
    rw [ix, hi3]
    refine xr_istore5 hc rfl rfl ?_
    refine xr_aloadn hc rfl rfl ?_
    refine xr_getfr hc rfl rfl (by first | assumption | rfl) (by first | assumption | rfl) ?_
    refine xr_bipush hc rfl ?_
    refine xr_iloadn hc rfl rfl ?_
    refine xr_imulz hc rfl (by first | exact dz_wid (by first | omega | (unfold dz_w; omega)) (by first | omega | (unfold dz_w; omega)) | rfl) ?_
    refine xr_iloadn hc rfl rfl ?_
    refine xr_iaddz hc rfl (by first | exact dz_wid (by first | omega | (unfold dz_w; omega)) (by first | omega | (unfold dz_w; omega)) | rfl) ?_
    refine xr_iloadn hc rfl rfl ?_
    refine xr_iastore hc rfl (by first | assumption | rfl) (by first | omega | (unfold dz_w; omega)) (by first | omega | (unfold dz_w; omega)) ?_
    refine xr_aloadn hc rfl rfl ?_
    refine xr_iload hc rfl rfl ?_
    refine xr_callv1 hc rfl (by first | assumption | rfl) rfl rfl rfl (Nat.le_of_ble_eq_true rfl) (Nat.zero_le _) (Nat.zero_le _) ?_
    rw [ix]
    have hR2 : RM (dz_up M 121 (40 * r.toNat + i.toNat) v) rs (rup it r.toNat (fup (it r.toNat) i.toNat v)) ts ch tl up lo fn w pl kd wt nx n hs kp kh := by
      refine ⟨fun r2 hr2 => ?_, txtM_fr htxt (fun k2 => by repeat (first | rw [dz_up_ne (by omega)] | rw [dz_up_k (by omega)])) (fun k2 => by repeat (first | rw [dz_up_ne (by omega)] | rw [dz_up_k (by omega)])), Eq.trans (by repeat (first | rw [dz_up_ne (by omega)] | rw [dz_up_k (by omega)])) htl, Eq.trans (by repeat (first | rw [dz_up_ne (by omega)] | rw [dz_up_k (by omega)])) hup, Eq.trans (by repeat (first | rw [dz_up_ne (by omega)] | rw [dz_up_k (by omega)])) hlo, fndM_fr hfn (by repeat (first | rw [dz_up_ne (by omega)] | rw [dz_up_k (by omega)])) (fun k2 => by repeat (first | rw [dz_up_ne (by omega)] | rw [dz_up_k (by omega)])), drM_fr hdr3 (by repeat (first | rw [dz_up_ne (by omega)] | rw [dz_up_k (by omega)])) (by repeat (first | rw [dz_up_ne (by omega)] | rw [dz_up_k (by omega)])) (fun k2 => by repeat (first | rw [dz_up_ne (by omega)] | rw [dz_up_k (by omega)])) (fun k2 => by repeat (first | rw [dz_up_ne (by omega)] | rw [dz_up_k (by omega)])) (fun k2 => by repeat (first | rw [dz_up_ne (by omega)] | rw [dz_up_k (by omega)])) (fun k2 u1 => by repeat (first | rw [dz_up_ne (by omega)] | rw [dz_up_k (by omega)])), kepM_fr hkp3 (fun k2 u1 u2 => by repeat (first | rw [dz_up_ne (by omega)] | rw [dz_up_k (by omega)]))⟩
      refine ⟨by rw [dz_up_ne (by omega)]; exact (hrow r2 hr2).1, fun k hk => ?_⟩
      have w2 := wrow r2 hr2
      by_cases e : r2 = r.toNat
      · subst e
        rw [rup_eq]
        unfold fup
        by_cases e3 : k = i.toNat
        · rw [if_pos e3, e3, dz_up_eq]
        · rw [if_neg e3, dz_up_k (by omega)]
          exact e2 k hk
      · rw [rup_ne e, dz_up_k (by omega)]
        exact (hrow r2 hr2).2 k hk
    refine D_tell hl hR2 hW2 (fun M2 z1 z2 => ?_)
    refine xk_1 ?_
    refine xr_ireturn hc rfl rfl (Nat.zero_le _) (Nat.zero_le _) ?_
    simp only [o_lay] at hQ
    repeat (first | rw [if_pos (by omega)] at hQ | rw [if_neg (by omega)] at hQ)
    try dsimp only at hQ
    exact hQ _ (fun q2 k2 u => by rw [z1 _ _ u, dz_up_ne (by omega)]) z2
  · refine xk_1 ?_
    refine xr_istore4 hc rfl rfl ?_
    refine xr_iload hc rfl rfl ?_
    refine xr_iff hc rfl (by simp [dz_cmp]) ?_
    refine xr_iload hc rfl rfl ?_
    refine xr_ireturn hc rfl rfl (Nat.zero_le _) (Nat.zero_le _) ?_
    simp only [o_lay] at hQ
    repeat (first | rw [if_pos (by omega)] at hQ | rw [if_neg (by omega)] at hQ)
    try dsimp only at hQ
    first
      | exact hQ M (fun _ _ _ => rfl) hR
      | exact hQ M2 z1 z2
set_option maxRecDepth 100000 in
theorem D_at {xo : Nat → List Int} {d : Nat} {Q : dz_Q} {sh : List (Nat ⊕ (Nat × Nat))} {rf : Nat → Nat → Nat} {M : Nat → Nat → Int} {rs : Nat → Int} {it : Nat → Nat → Int} {ts : Nat → Int} {ch : Nat → Nat → Int} {tl up lo : Int} {fn : Nat → Int} {w pl : Int} {kd wt nx : Nat → Int} {n : Nat} {hs : Nat → Nat → Int} {kp : Nat → Int} {kh : Nat → Nat → Nat → Int} {r i : Int} (hl : ml sh rf) (hR : RM M rs it ts ch tl up lo fn w pl kd wt nx n hs kp kh) (hW : WF rs it ts ch tl up lo fn w pl kd wt nx n hs kp kh) (hQ : ∀ M2 : Nat → Nat → Int, (∀ q2 k2, q2 < 115 → M2 q2 k2 = M q2 k2) → RM M2 rs it ts ch (o_at rs it tl fn r i).2.1 up lo (o_at rs it tl fn r i).2.2 w pl kd wt nx n hs kp kh → Q (some (dz_i ((o_at rs it tl fn r i).1))) (sh, rf, M2)) : dz_E dz_pp xo (d + 4) 129 [dz_r 115, dz_i r, dz_i i] (sh, rf, M) Q := by
  refine ⟨Nat.le_of_ble_eq_true rfl, ?_⟩
  have hc := dz_E_m dz_pp xo (d + 3)
  show dz_X (dz_E dz_pp xo (d + 3)) dz_pp xo (dz_pp 129) Q 0 [some (dz_r 115), some (dz_i r), some (dz_i i), none] [] 0 0 (sh, rf, M)
  obtain ⟨c0, c1, c2, c3, c4, c5, c6, c7, c8, c9, c10, c11, c12, c13, c14, c15, c16, c17, c18, c19, c20, c21, c22, c23, c24, c25, c26, c27, c28, c29⟩ := id hl
  obtain ⟨hrow, htxt, htl, hup, hlo, hfn, hdr, hkp⟩ := id hR
  obtain ⟨wrow, wtxt, wdr, wst, wkp⟩ := id hW
  have hw6 := WF_w hW
  have hdr3 : drM M w pl kd wt nx n hs ∧ w ≤ 6 ∧ n ≤ 40 := ⟨hdr, hw6.2, wst.1⟩
  have hkp3 : kepM M w kp kh ∧ w ≤ 6 ∧ ∀ k, k < 3 → kp k ≤ 40 := ⟨hkp, hw6.2, fun k hk => by
    rcases wkp k hk with z | z
    · omega
    · exact z.2.1⟩
  refine xr_aloadn hc rfl rfl ?_
  refine xr_iloadn hc rfl rfl ?_
  refine xr_iloadn hc rfl rfl ?_
  refine xr_callv2 hc rfl (by first | assumption | rfl) rfl rfl rfl (Nat.le_of_ble_eq_true rfl) (Nat.zero_le _) (Nat.zero_le _) ?_
  refine D_refused hl hR hW (fun u1 => ?_) (fun u1 v1 u2 M2 z1 z2 => ?_) (fun u1 v1 u2 u3 v3 => ?_) (fun u1 v1 u2 u3 M2 z1 z2 => ?_)
  · refine xk_1 ?_
    refine xr_istore3 hc rfl rfl ?_
    refine xr_iloadn hc rfl rfl ?_
    refine xr_iff hc rfl (by simp [dz_cmp]) ?_
    refine xr_iloadn hc rfl rfl ?_
    refine xr_goto hc rfl (t := 30) rfl ?_
    refine xr_ireturn hc rfl rfl (Nat.zero_le _) (Nat.zero_le _) ?_
    simp only [o_at] at hQ
    repeat (first | rw [if_pos (by omega)] at hQ | rw [if_neg (by omega)] at hQ)
    try dsimp only at hQ
    first
      | exact hQ M (fun _ _ _ => rfl) hR
      | exact hQ M2 z1 z2
  · refine xk_1 ?_
    refine xr_istore3 hc rfl rfl ?_
    refine xr_iloadn hc rfl rfl ?_
    refine xr_iff hc rfl (by simp [dz_cmp]) ?_
    refine xr_iloadn hc rfl rfl ?_
    refine xr_goto hc rfl (t := 30) rfl ?_
    refine xr_ireturn hc rfl rfl (Nat.zero_le _) (Nat.zero_le _) ?_
    simp only [o_at] at hQ
    repeat (first | rw [if_pos (by omega)] at hQ | rw [if_neg (by omega)] at hQ)
    try dsimp only at hQ
    first
      | exact hQ M (fun _ _ _ => rfl) hR
      | exact hQ M2 z1 z2
  · refine xk_1 ?_
    refine xr_istore3 hc rfl rfl ?_
    refine xr_iloadn hc rfl rfl ?_
    refine xr_ift hc rfl (t := 15) rfl (by simp [dz_cmp]) ?_
    obtain ⟨e1, e2⟩ := hrow r.toNat (by omega)
    have w1 := wrow r.toNat (by omega)
    have hi3 := e2 i.toNat (by omega)
    have ix : (40 * r + i).toNat = 40 * r.toNat + i.toNat := by omega
    refine xr_aloadn hc rfl rfl ?_
    refine xr_aloadn hc rfl rfl ?_
    refine xr_getfr hc rfl rfl (by first | assumption | rfl) (by first | assumption | rfl) ?_
    refine xr_bipush hc rfl ?_
    refine xr_iloadn hc rfl rfl ?_
    refine xr_imulz hc rfl (by first | exact dz_wid (by first | omega | (unfold dz_w; omega)) (by first | omega | (unfold dz_w; omega)) | rfl) ?_
    refine xr_iloadn hc rfl rfl ?_
    refine xr_iaddz hc rfl (by first | exact dz_wid (by first | omega | (unfold dz_w; omega)) (by first | omega | (unfold dz_w; omega)) | rfl) ?_
    first | refine xr_iaload hc rfl (by first | assumption | rfl) (by first | omega | (unfold dz_w; omega)) (by first | omega | (unfold dz_w; omega)) ?_ | refine xr_ialoado hc rfl (by first | omega | (unfold dz_w; omega)) (by first | omega | (unfold dz_w; omega)) ?_
    rw [ix, hi3]
    refine xr_callv1 hc rfl (by first | assumption | rfl) rfl rfl rfl (Nat.le_of_ble_eq_true rfl) (Nat.zero_le _) (Nat.zero_le _) ?_
    refine D_tell hl hR hW (fun M2 z1 z2 => ?_)
    refine xk_1 ?_
    refine xr_ireturn hc rfl rfl (Nat.zero_le _) (Nat.zero_le _) ?_
    simp only [o_at] at hQ
    repeat (first | rw [if_pos (by omega)] at hQ | rw [if_neg (by omega)] at hQ)
    try dsimp only at hQ
    first
      | exact hQ M (fun _ _ _ => rfl) hR
      | exact hQ M2 z1 z2
  · refine xk_1 ?_
    refine xr_istore3 hc rfl rfl ?_
    refine xr_iloadn hc rfl rfl ?_
    refine xr_iff hc rfl (by simp [dz_cmp]) ?_
    refine xr_iloadn hc rfl rfl ?_
    refine xr_goto hc rfl (t := 30) rfl ?_
    refine xr_ireturn hc rfl rfl (Nat.zero_le _) (Nat.zero_le _) ?_
    simp only [o_at] at hQ
    repeat (first | rw [if_pos (by omega)] at hQ | rw [if_neg (by omega)] at hQ)
    try dsimp only at hQ
    first
      | exact hQ M (fun _ _ _ => rfl) hR
      | exact hQ M2 z1 z2
set_option maxRecDepth 100000 in
theorem D_tear {xo : Nat → List Int} {d : Nat} {Q : dz_Q} {sh : List (Nat ⊕ (Nat × Nat))} {rf : Nat → Nat → Nat} {M : Nat → Nat → Int} {rs : Nat → Int} {it : Nat → Nat → Int} {ts : Nat → Int} {ch : Nat → Nat → Int} {tl up lo : Int} {fn : Nat → Int} {w pl : Int} {kd wt nx : Nat → Int} {n : Nat} {hs : Nat → Nat → Int} {kp : Nat → Int} {kh : Nat → Nat → Nat → Int} {r : Int} (hl : ml sh rf) (hR : RM M rs it ts ch tl up lo fn w pl kd wt nx n hs kp kh) (hW : WF rs it ts ch tl up lo fn w pl kd wt nx n hs kp kh) (hQ : ∀ M2 : Nat → Nat → Int, (∀ q2 k2, q2 < 115 → M2 q2 k2 = M q2 k2) → RM M2 (o_tear rs fn r).2.1 it ts ch tl up lo (o_tear rs fn r).2.2 w pl kd wt nx n hs kp kh → Q (some (dz_i ((o_tear rs fn r).1))) (sh, rf, M2)) : dz_E dz_pp xo (d + 3) 130 [dz_r 115, dz_i r] (sh, rf, M) Q := by
  refine ⟨Nat.le_of_ble_eq_true rfl, ?_⟩
  have hc := dz_E_m dz_pp xo (d + 2)
  show dz_X (dz_E dz_pp xo (d + 2)) dz_pp xo (dz_pp 130) Q 0 [some (dz_r 115), some (dz_i r)] [] 0 0 (sh, rf, M)
  obtain ⟨c0, c1, c2, c3, c4, c5, c6, c7, c8, c9, c10, c11, c12, c13, c14, c15, c16, c17, c18, c19, c20, c21, c22, c23, c24, c25, c26, c27, c28, c29⟩ := id hl
  obtain ⟨hrow, htxt, htl, hup, hlo, hfn, hdr, hkp⟩ := id hR
  obtain ⟨wrow, wtxt, wdr, wst, wkp⟩ := id hW
  have hw6 := WF_w hW
  have hdr3 : drM M w pl kd wt nx n hs ∧ w ≤ 6 ∧ n ≤ 40 := ⟨hdr, hw6.2, wst.1⟩
  have hkp3 : kepM M w kp kh ∧ w ≤ 6 ∧ ∀ k, k < 3 → kp k ≤ 40 := ⟨hkp, hw6.2, fun k hk => by
    rcases wkp k hk with z | z
    · omega
    · exact z.2.1⟩
  refine xr_iloadn hc rfl rfl ?_
  refine xr_calls1 hc rfl (by decide) rfl rfl rfl (Nat.le_of_ble_eq_true rfl) (Nat.zero_le _) (Nat.zero_le _) ?_
  refine D_isRow (fun u1 v1 => ?_) (fun u1 => ?_)
  · refine xk_1 ?_
    refine xr_ift hc rfl (t := 9) rfl (by simp [dz_cmp]) ?_
    obtain ⟨e1, e2⟩ := hrow r.toNat (by omega)
    have w1 := wrow r.toNat (by omega)
    refine xr_aloadn hc rfl rfl ?_
    refine xr_getfr hc rfl rfl (by first | assumption | rfl) (by first | assumption | rfl) ?_
    refine xr_iloadn hc rfl rfl ?_
    first | refine xr_iaload hc rfl (by first | assumption | rfl) (by first | omega | (unfold dz_w; omega)) (by first | omega | (unfold dz_w; omega)) ?_ | refine xr_ialoado hc rfl (by first | omega | (unfold dz_w; omega)) (by first | omega | (unfold dz_w; omega)) ?_
    rw [e1]
    refine xr_if_ge hc rfl (t := 24) rfl (fun b15 => ?_) (fun b15 => ?_)
    · refine xr_aloadn hc rfl rfl ?_
      refine xr_getfr hc rfl rfl (by first | assumption | rfl) (by first | assumption | rfl) ?_
      refine xr_iloadn hc rfl rfl ?_
      refine xr_iconst hc rfl ?_
      refine xr_iastore hc rfl (by first | assumption | rfl) (by first | omega | (unfold dz_w; omega)) (by first | omega | (unfold dz_w; omega)) ?_
      refine xr_iconst hc rfl ?_
      refine xr_ireturn hc rfl rfl (Nat.zero_le _) (Nat.zero_le _) ?_
      simp only [o_tear] at hQ
      repeat (first | rw [if_pos (by omega)] at hQ | rw [if_neg (by omega)] at hQ)
      try dsimp only at hQ
      refine hQ _ (fun q2 k2 u => by repeat (first | rw [dz_up_ne (by omega)] | rw [dz_up_k (by omega)])) ⟨fun r2 hr2 => ?_, txtM_fr htxt (fun k2 => by repeat (first | rw [dz_up_ne (by omega)] | rw [dz_up_k (by omega)])) (fun k2 => by repeat (first | rw [dz_up_ne (by omega)] | rw [dz_up_k (by omega)])), Eq.trans (by repeat (first | rw [dz_up_ne (by omega)] | rw [dz_up_k (by omega)])) htl, Eq.trans (by repeat (first | rw [dz_up_ne (by omega)] | rw [dz_up_k (by omega)])) hup, Eq.trans (by repeat (first | rw [dz_up_ne (by omega)] | rw [dz_up_k (by omega)])) hlo, fndM_fr hfn (by repeat (first | rw [dz_up_ne (by omega)] | rw [dz_up_k (by omega)])) (fun k2 => by repeat (first | rw [dz_up_ne (by omega)] | rw [dz_up_k (by omega)])), drM_fr hdr3 (by repeat (first | rw [dz_up_ne (by omega)] | rw [dz_up_k (by omega)])) (by repeat (first | rw [dz_up_ne (by omega)] | rw [dz_up_k (by omega)])) (fun k2 => by repeat (first | rw [dz_up_ne (by omega)] | rw [dz_up_k (by omega)])) (fun k2 => by repeat (first | rw [dz_up_ne (by omega)] | rw [dz_up_k (by omega)])) (fun k2 => by repeat (first | rw [dz_up_ne (by omega)] | rw [dz_up_k (by omega)])) (fun k2 u1 => by repeat (first | rw [dz_up_ne (by omega)] | rw [dz_up_k (by omega)])), kepM_fr hkp3 (fun k2 u1 u2 => by repeat (first | rw [dz_up_ne (by omega)] | rw [dz_up_k (by omega)]))⟩
      rw [up_fup, dz_up_ne (by omega)]
      by_cases e : r2 = r.toNat
      · subst e
        rw [fup_eq, fup_eq]
        exact ⟨rfl, fun k hk => by omega⟩
      · rw [fup_ne e, fup_ne e]
        exact hrow r2 hr2
    · refine xr_aloadn hc rfl rfl ?_
      refine xr_iconst hc rfl ?_
      refine xr_callv1 hc rfl (by first | assumption | rfl) rfl rfl rfl (Nat.le_of_ble_eq_true rfl) (Nat.zero_le _) (Nat.zero_le _) ?_
      refine D_find hl hR hW (by omega) (fun M2 z1 z2 => ?_)
      refine xk_1 ?_
      refine xr_ireturn hc rfl rfl (Nat.zero_le _) (Nat.zero_le _) ?_
      simp only [o_tear] at hQ
      repeat (first | rw [if_pos (by omega)] at hQ | rw [if_neg (by omega)] at hQ)
      try dsimp only at hQ
      exact hQ M2 z1 z2
  · refine xk_1 ?_
    refine xr_iff hc rfl (by simp [dz_cmp]) ?_
    refine xr_iconst hc rfl ?_
    refine xr_ireturn hc rfl rfl (Nat.zero_le _) (Nat.zero_le _) ?_
    simp only [o_tear] at hQ
    repeat (first | rw [if_pos (by omega)] at hQ | rw [if_neg (by omega)] at hQ)
    try dsimp only at hQ
    exact hQ M (fun _ _ _ => rfl) hR
set_option maxRecDepth 100000 in
theorem D_isSpan {xo : Nat → List Int} {d : Nat} {Q : dz_Q} {sh : List (Nat ⊕ (Nat × Nat))} {rf : Nat → Nat → Nat} {M : Nat → Nat → Int} {rs : Nat → Int} {it : Nat → Nat → Int} {ts : Nat → Int} {ch : Nat → Nat → Int} {tl up lo : Int} {fn : Nat → Int} {w pl : Int} {kd wt nx : Nat → Int} {n : Nat} {hs : Nat → Nat → Int} {kp : Nat → Int} {kh : Nat → Nat → Nat → Int} {r i m : Int} (hl : ml sh rf) (hR : RM M rs it ts ch tl up lo fn w pl kd wt nx n hs kp kh) (hW : WF rs it ts ch tl up lo fn w pl kd wt nx n hs kp kh) (hr : 0 ≤ r ∧ r ≤ 5) (hm : 0 ≤ m ∧ m < 2147483648) (hi : dz_in32 i) (h1 : 0 ≤ i → i + m ≤ rs r.toNat → Q (some (dz_i 1)) (sh, rf, M)) (h2 : (i < 0 ∨ rs r.toNat < i + m) → Q (some (dz_i 0)) (sh, rf, M)) : dz_E dz_pp xo (d + 1) 131 [dz_r 115, dz_i r, dz_i i, dz_i m] (sh, rf, M) Q := by
  refine ⟨Nat.le_of_ble_eq_true rfl, ?_⟩
  have hc := dz_E_m dz_pp xo (d + 0)
  show dz_X (dz_E dz_pp xo (d + 0)) dz_pp xo (dz_pp 131) Q 0 [some (dz_r 115), some (dz_i r), some (dz_i i), some (dz_i m)] [] 0 0 (sh, rf, M)
  obtain ⟨c0, c1, c2, c3, c4, c5, c6, c7, c8, c9, c10, c11, c12, c13, c14, c15, c16, c17, c18, c19, c20, c21, c22, c23, c24, c25, c26, c27, c28, c29⟩ := id hl
  obtain ⟨hrow, htxt, htl, hup, hlo, hfn, hdr, hkp⟩ := id hR
  obtain ⟨wrow, wtxt, wdr, wst, wkp⟩ := id hW
  have hw6 := WF_w hW
  have hdr3 : drM M w pl kd wt nx n hs ∧ w ≤ 6 ∧ n ≤ 40 := ⟨hdr, hw6.2, wst.1⟩
  have hkp3 : kepM M w kp kh ∧ w ≤ 6 ∧ ∀ k, k < 3 → kp k ≤ 40 := ⟨hkp, hw6.2, fun k hk => by
    rcases wkp k hk with z | z
    · omega
    · exact z.2.1⟩
  obtain ⟨e1, e2⟩ := hrow r.toNat (by omega)
  have w1 := wrow r.toNat (by omega)
  unfold dz_in32 at hi
  have hWi : dz_W (i + m) = i + m := dz_W_id (by unfold dz_in64; omega)
  have q1 := lcmp_i (i + m) (rs r.toNat)
  refine xr_iloadn hc rfl rfl ?_
  refine xr_if_lt hc rfl (t := 24) rfl (fun b1 => ?_) (fun b1 => ?_)
  · refine xr_iconst hc rfl ?_
    refine xr_zreturn hc rfl rfl (Nat.zero_le _) (Nat.zero_le _) (by first | exact Or.inl rfl | exact Or.inr rfl | assumption) ?_
    first
      | exact h1 (by omega) (by omega)
      | exact h2 (by omega)
  · refine xr_iloadn hc rfl rfl ?_
    refine xr_i2l hc rfl ?_
    refine xr_iloadn hc rfl rfl ?_
    refine xr_i2l hc rfl ?_
    refine xr_ladd hc rfl ?_
    rw [hWi]
    refine xr_aloadn hc rfl rfl ?_
    refine xr_getfr hc rfl rfl (by first | assumption | rfl) (by first | assumption | rfl) ?_
    refine xr_iloadn hc rfl rfl ?_
    first | refine xr_iaload hc rfl (by first | assumption | rfl) (by first | omega | (unfold dz_w; omega)) (by first | omega | (unfold dz_w; omega)) ?_ | refine xr_ialoado hc rfl (by first | omega | (unfold dz_w; omega)) (by first | omega | (unfold dz_w; omega)) ?_
    rw [e1]
    refine xr_i2l hc rfl ?_
    refine xr_lcmp hc rfl ?_
    refine xr_if_gt hc rfl (t := 24) rfl (fun b17 => ?_) (fun b17 => ?_)
    · refine xr_iconst hc rfl ?_
      refine xr_zreturn hc rfl rfl (Nat.zero_le _) (Nat.zero_le _) (by first | exact Or.inl rfl | exact Or.inr rfl | assumption) ?_
      first
        | exact h1 (by omega) (by omega)
        | exact h2 (by omega)
    · refine xr_iconst hc rfl ?_
      refine xr_goto hc rfl (t := 25) rfl ?_
      refine xr_zreturn hc rfl rfl (Nat.zero_le _) (Nat.zero_le _) (by first | exact Or.inl rfl | exact Or.inr rfl | assumption) ?_
      first
        | exact h1 (by omega) (by omega)
        | exact h2 (by omega)
set_option maxRecDepth 100000 in
theorem D_copy {xo : Nat → List Int} {d : Nat} {Q : dz_Q} {sh : List (Nat ⊕ (Nat × Nat))} {rf : Nat → Nat → Nat} {M : Nat → Nat → Int} {rs : Nat → Int} {it : Nat → Nat → Int} {ts : Nat → Int} {ch : Nat → Nat → Int} {tl up lo : Int} {fn : Nat → Int} {w pl : Int} {kd wt nx : Nat → Int} {n : Nat} {hs : Nat → Nat → Int} {kp : Nat → Int} {kh : Nat → Nat → Nat → Int} {r i t j m : Int} (hl : ml sh rf) (hR : RM M rs it ts ch tl up lo fn w pl kd wt nx n hs kp kh) (hW : WF rs it ts ch tl up lo fn w pl kd wt nx n hs kp kh) (hi : dz_in32 i) (hj : dz_in32 j) (hm : dz_in32 m) (hQ : ∀ M2 : Nat → Nat → Int, (∀ q2 k2, q2 < 115 → M2 q2 k2 = M q2 k2) → RM M2 rs (o_copy rs it fn r i t j m).2.1 ts ch tl up lo (o_copy rs it fn r i t j m).2.2 w pl kd wt nx n hs kp kh → Q (some (dz_i ((o_copy rs it fn r i t j m).1))) (sh, rf, M2)) : dz_E dz_pp xo (d + 3) 132 [dz_r 115, dz_i r, dz_i i, dz_i t, dz_i j, dz_i m] (sh, rf, M) Q := by
  refine ⟨Nat.le_of_ble_eq_true rfl, ?_⟩
  have hc := dz_E_m dz_pp xo (d + 2)
  show dz_X (dz_E dz_pp xo (d + 2)) dz_pp xo (dz_pp 132) Q 0 [some (dz_r 115), some (dz_i r), some (dz_i i), some (dz_i t), some (dz_i j), some (dz_i m), none, none, none] [] 0 0 (sh, rf, M)
  obtain ⟨c0, c1, c2, c3, c4, c5, c6, c7, c8, c9, c10, c11, c12, c13, c14, c15, c16, c17, c18, c19, c20, c21, c22, c23, c24, c25, c26, c27, c28, c29⟩ := id hl
  obtain ⟨hrow, htxt, htl, hup, hlo, hfn, hdr, hkp⟩ := id hR
  obtain ⟨wrow, wtxt, wdr, wst, wkp⟩ := id hW
  have hw6 := WF_w hW
  have hdr3 : drM M w pl kd wt nx n hs ∧ w ≤ 6 ∧ n ≤ 40 := ⟨hdr, hw6.2, wst.1⟩
  have hkp3 : kepM M w kp kh ∧ w ≤ 6 ∧ ∀ k, k < 3 → kp k ≤ 40 := ⟨hkp, hw6.2, fun k hk => by
    rcases wkp k hk with z | z
    · omega
    · exact z.2.1⟩
  have hm2 := hm
  unfold dz_in32 at hm2
  have lb : ∀ (m_ : Nat) (k : Nat) (K : Option dz_V) (M1 : Nat → Nat → Int), (k : Int) + m_ = m → i < j → 0 ≤ r → r ≤ 5 → 0 ≤ t → t ≤ 5 → 0 ≤ i → i + m ≤ rs r.toNat → 0 ≤ j → j + m ≤ rs t.toNat → 0 ≤ m → rs r.toNat ≠ -1 → rs t.toNat ≠ -1 → (∀ q2 k2, q2 ≠ 121 → M1 q2 k2 = M q2 k2) → (∀ k2, k2 < 40 → M1 121 (40 * t.toNat + k2) = if (j.toNat + m.toNat ≤ k2 + k ∧ k2 < j.toNat + m.toNat) then M 121 (40 * r.toNat + (i.toNat + (k2 - j.toNat))) else M 121 (40 * t.toNat + k2)) → (∀ k2, (k2 < 40 * t.toNat ∨ 40 * t.toNat + 40 ≤ k2) → M1 121 k2 = M 121 k2) → dz_X (dz_E dz_pp xo (d + 2)) dz_pp xo (dz_pp 132) Q 96 [some (dz_r 115), some (dz_i r), some (dz_i i), some (dz_i t), some (dz_i j), some (dz_i m), some (dz_i 1), some (dz_i (k : Int)), K] [] 0 0 (sh, rf, M1) := by
    intro m_
    induction m_ with
    | zero =>
      intro k K M1 hk hij a1 a2 a3 a4 a5 a6 a7 a8 a9 a10 a11 h1 h2 h3
      have wr := wrow r.toNat (by omega)
      have ww := wrow t.toNat (by omega)
      
      refine xr_iload hc rfl rfl ?_
      refine xr_iload hc rfl rfl ?_
      refine xr_icmp_ge hc rfl (t := 157) rfl (fun b100 => ?_) (fun b100 => ?_)
      · refine xr_iconst hc rfl ?_
        refine xr_ireturn hc rfl rfl (Nat.zero_le _) (Nat.zero_le _) ?_
        simp only [o_copy] at hQ
        repeat (first | rw [if_pos (by omega)] at hQ | rw [if_neg (by omega)] at hQ)
        try dsimp only at hQ
        refine hQ _ (fun q2 k2 u => h1 q2 k2 (by omega)) ⟨fun r2 hr2 => ⟨by rw [h1 _ _ (by omega)]; exact (hrow r2 hr2).1, fun k3 hk3 => ?_⟩, txtM_fr htxt (fun k2 => h1 _ _ (by omega)) (fun k2 => h1 _ _ (by omega)), Eq.trans (h1 _ _ (by omega)) htl, Eq.trans (h1 _ _ (by omega)) hup, Eq.trans (h1 _ _ (by omega)) hlo, fndM_fr hfn (h1 _ _ (by omega)) (fun k2 => h1 _ _ (by omega)), drM_fr hdr3 (h1 _ _ (by omega)) (h1 _ _ (by omega)) (fun k2 => h1 _ _ (by omega)) (fun k2 => h1 _ _ (by omega)) (fun k2 => h1 _ _ (by omega)) (fun k2 u1 => h1 _ _ (by omega)), kepM_fr hkp3 (fun k2 u1 u2 => h1 _ _ (by omega))⟩
        by_cases e : r2 = t.toNat
        · subst e
          rw [rup_eq, h2 k3 (by omega)]
          by_cases e3 : j.toNat ≤ k3 ∧ k3 < j.toNat + m.toNat
          · rw [if_pos e3, if_pos (by omega)]
            exact (hrow r.toNat (by omega)).2 _ (by omega)
          · rw [if_neg e3, if_neg (by omega)]
            exact (hrow t.toNat (by omega)).2 k3 hk3
        · have w2 := wrow r2 hr2
          rw [rup_ne e, h3 _ (by omega)]
          exact (hrow r2 hr2).2 k3 hk3
      · omega
    | succ m_ ih =>
      intro k K M1 hk hij a1 a2 a3 a4 a5 a6 a7 a8 a9 a10 a11 h1 h2 h3
      have wr := wrow r.toNat (by omega)
      have ww := wrow t.toNat (by omega)
      have ix : (40 * t + j + (m - 1 - (k : Int))).toNat = 40 * t.toNat + (j.toNat + (m - 1 - (k : Int)).toNat) := by omega
      have iy : (40 * r + i + (m - 1 - (k : Int))).toNat = 40 * r.toNat + (i.toNat + (m - 1 - (k : Int)).toNat) := by omega
      have hin : i.toNat + (m - 1 - (k : Int)).toNat < 40 := by omega
      refine xr_iload hc rfl rfl ?_
      refine xr_iload hc rfl rfl ?_
      refine xr_icmp_ge hc rfl (t := 157) rfl (fun b100 => ?_) (fun b100 => ?_)
      · omega
      · refine xr_iload hc rfl rfl ?_
        refine xr_if_eq hc rfl (t := 118) rfl (fun b105 => ?_) (fun b105 => ?_)
        · omega
        · refine xr_iload hc rfl rfl ?_
          refine xr_iconst hc rfl ?_
          refine xr_isubz hc rfl (by first | exact dz_wid (by first | omega | (unfold dz_w; omega)) (by first | omega | (unfold dz_w; omega)) | rfl) ?_
          refine xr_iload hc rfl rfl ?_
          refine xr_isubz hc rfl (by first | exact dz_wid (by first | omega | (unfold dz_w; omega)) (by first | omega | (unfold dz_w; omega)) | rfl) ?_
          refine xr_goto hc rfl (t := 120) rfl ?_
          refine xr_istore8 hc rfl rfl ?_
          refine xr_aloadn hc rfl rfl ?_
          refine xr_getfr hc rfl rfl (by first | assumption | rfl) (by first | assumption | rfl) ?_
          refine xr_bipush hc rfl ?_
          refine xr_iloadn hc rfl rfl ?_
          refine xr_imulz hc rfl (by first | exact dz_wid (by first | omega | (unfold dz_w; omega)) (by first | omega | (unfold dz_w; omega)) | rfl) ?_
          refine xr_iload hc rfl rfl ?_
          refine xr_iaddz hc rfl (by first | exact dz_wid (by first | omega | (unfold dz_w; omega)) (by first | omega | (unfold dz_w; omega)) | rfl) ?_
          refine xr_iload hc rfl rfl ?_
          refine xr_iaddz hc rfl (by first | exact dz_wid (by first | omega | (unfold dz_w; omega)) (by first | omega | (unfold dz_w; omega)) | rfl) ?_
          refine xr_aloadn hc rfl rfl ?_
          refine xr_getfr hc rfl rfl (by first | assumption | rfl) (by first | assumption | rfl) ?_
          refine xr_bipush hc rfl ?_
          refine xr_iloadn hc rfl rfl ?_
          refine xr_imulz hc rfl (by first | exact dz_wid (by first | omega | (unfold dz_w; omega)) (by first | omega | (unfold dz_w; omega)) | rfl) ?_
          refine xr_iloadn hc rfl rfl ?_
          refine xr_iaddz hc rfl (by first | exact dz_wid (by first | omega | (unfold dz_w; omega)) (by first | omega | (unfold dz_w; omega)) | rfl) ?_
          refine xr_iload hc rfl rfl ?_
          refine xr_iaddz hc rfl (by first | exact dz_wid (by first | omega | (unfold dz_w; omega)) (by first | omega | (unfold dz_w; omega)) | rfl) ?_
          
          first | refine xr_iaload hc rfl (by first | assumption | rfl) (by first | omega | (unfold dz_w; omega)) (by first | omega | (unfold dz_w; omega)) ?_ | refine xr_ialoado hc rfl (by first | omega | (unfold dz_w; omega)) (by first | omega | (unfold dz_w; omega)) ?_
          refine xr_iastore hc rfl (by first | assumption | rfl) (by first | omega | (unfold dz_w; omega)) (by first | omega | (unfold dz_w; omega)) ?_
          rw [ix, iy]
          refine xr_iincz7 hc rfl rfl (by first | exact dz_wid (by first | omega | (unfold dz_w; omega)) (by first | omega | (unfold dz_w; omega)) | rfl) ?_
          refine xr_goto hc rfl (t := 96) rfl ?_
          refine ih (k + 1) _ _ (by omega) hij a1 a2 a3 a4 a5 a6 a7 a8 a9 a10 a11 (fun q2 k2 u => by rw [dz_up_ne u, h1 q2 k2 u]) (fun k2 hk2 => ?_) (fun k2 u => by rw [dz_up_k (by omega), h3 k2 u])
          by_cases e : k2 = j.toNat + (m - 1 - (k : Int)).toNat
          · rw [e, dz_up_eq, if_pos (by omega)]
            by_cases ert : r.toNat = t.toNat
            · rw [ert, h2 _ (by omega), if_neg (by omega)]
              congr 1
              omega
            · rw [h3 _ (by omega)]
              congr 1
              omega
          · rw [dz_up_k (by omega), h2 k2 hk2]
            by_cases e3 : j.toNat + m.toNat ≤ k2 + k ∧ k2 < j.toNat + m.toNat
            · rw [if_pos e3, if_pos (by omega)]
            · rw [if_neg e3, if_neg (by omega)]
  have lf : ∀ (m_ : Nat) (k : Nat) (K : Option dz_V) (M1 : Nat → Nat → Int), (k : Int) + m_ = m → j ≤ i → 0 ≤ r → r ≤ 5 → 0 ≤ t → t ≤ 5 → 0 ≤ i → i + m ≤ rs r.toNat → 0 ≤ j → j + m ≤ rs t.toNat → 0 ≤ m → rs r.toNat ≠ -1 → rs t.toNat ≠ -1 → (∀ q2 k2, q2 ≠ 121 → M1 q2 k2 = M q2 k2) → (∀ k2, k2 < 40 → M1 121 (40 * t.toNat + k2) = if (j.toNat ≤ k2 ∧ k2 < j.toNat + k) then M 121 (40 * r.toNat + (i.toNat + (k2 - j.toNat))) else M 121 (40 * t.toNat + k2)) → (∀ k2, (k2 < 40 * t.toNat ∨ 40 * t.toNat + 40 ≤ k2) → M1 121 k2 = M 121 k2) → dz_X (dz_E dz_pp xo (d + 2)) dz_pp xo (dz_pp 132) Q 96 [some (dz_r 115), some (dz_i r), some (dz_i i), some (dz_i t), some (dz_i j), some (dz_i m), some (dz_i 0), some (dz_i (k : Int)), K] [] 0 0 (sh, rf, M1) := by
    intro m_
    induction m_ with
    | zero =>
      intro k K M1 hk hij a1 a2 a3 a4 a5 a6 a7 a8 a9 a10 a11 h1 h2 h3
      have wr := wrow r.toNat (by omega)
      have ww := wrow t.toNat (by omega)
      
      refine xr_iload hc rfl rfl ?_
      refine xr_iload hc rfl rfl ?_
      refine xr_icmp_ge hc rfl (t := 157) rfl (fun b100 => ?_) (fun b100 => ?_)
      · refine xr_iconst hc rfl ?_
        refine xr_ireturn hc rfl rfl (Nat.zero_le _) (Nat.zero_le _) ?_
        simp only [o_copy] at hQ
        repeat (first | rw [if_pos (by omega)] at hQ | rw [if_neg (by omega)] at hQ)
        try dsimp only at hQ
        refine hQ _ (fun q2 k2 u => h1 q2 k2 (by omega)) ⟨fun r2 hr2 => ⟨by rw [h1 _ _ (by omega)]; exact (hrow r2 hr2).1, fun k3 hk3 => ?_⟩, txtM_fr htxt (fun k2 => h1 _ _ (by omega)) (fun k2 => h1 _ _ (by omega)), Eq.trans (h1 _ _ (by omega)) htl, Eq.trans (h1 _ _ (by omega)) hup, Eq.trans (h1 _ _ (by omega)) hlo, fndM_fr hfn (h1 _ _ (by omega)) (fun k2 => h1 _ _ (by omega)), drM_fr hdr3 (h1 _ _ (by omega)) (h1 _ _ (by omega)) (fun k2 => h1 _ _ (by omega)) (fun k2 => h1 _ _ (by omega)) (fun k2 => h1 _ _ (by omega)) (fun k2 u1 => h1 _ _ (by omega)), kepM_fr hkp3 (fun k2 u1 u2 => h1 _ _ (by omega))⟩
        by_cases e : r2 = t.toNat
        · subst e
          rw [rup_eq, h2 k3 (by omega)]
          by_cases e3 : j.toNat ≤ k3 ∧ k3 < j.toNat + m.toNat
          · rw [if_pos e3, if_pos (by omega)]
            exact (hrow r.toNat (by omega)).2 _ (by omega)
          · rw [if_neg e3, if_neg (by omega)]
            exact (hrow t.toNat (by omega)).2 k3 hk3
        · have w2 := wrow r2 hr2
          rw [rup_ne e, h3 _ (by omega)]
          exact (hrow r2 hr2).2 k3 hk3
      · omega
    | succ m_ ih =>
      intro k K M1 hk hij a1 a2 a3 a4 a5 a6 a7 a8 a9 a10 a11 h1 h2 h3
      have wr := wrow r.toNat (by omega)
      have ww := wrow t.toNat (by omega)
      have ix : (40 * t + j + ((k : Int))).toNat = 40 * t.toNat + (j.toNat + ((k : Int)).toNat) := by omega
      have iy : (40 * r + i + ((k : Int))).toNat = 40 * r.toNat + (i.toNat + ((k : Int)).toNat) := by omega
      refine xr_iload hc rfl rfl ?_
      refine xr_iload hc rfl rfl ?_
      refine xr_icmp_ge hc rfl (t := 157) rfl (fun b100 => ?_) (fun b100 => ?_)
      · omega
      · refine xr_iload hc rfl rfl ?_
        refine xr_if_eq hc rfl (t := 118) rfl (fun b105 => ?_) (fun b105 => ?_)
        · refine xr_iload hc rfl rfl ?_
          refine xr_istore8 hc rfl rfl ?_
          refine xr_aloadn hc rfl rfl ?_
          refine xr_getfr hc rfl rfl (by first | assumption | rfl) (by first | assumption | rfl) ?_
          refine xr_bipush hc rfl ?_
          refine xr_iloadn hc rfl rfl ?_
          refine xr_imulz hc rfl (by first | exact dz_wid (by first | omega | (unfold dz_w; omega)) (by first | omega | (unfold dz_w; omega)) | rfl) ?_
          refine xr_iload hc rfl rfl ?_
          refine xr_iaddz hc rfl (by first | exact dz_wid (by first | omega | (unfold dz_w; omega)) (by first | omega | (unfold dz_w; omega)) | rfl) ?_
          refine xr_iload hc rfl rfl ?_
          refine xr_iaddz hc rfl (by first | exact dz_wid (by first | omega | (unfold dz_w; omega)) (by first | omega | (unfold dz_w; omega)) | rfl) ?_
          refine xr_aloadn hc rfl rfl ?_
          refine xr_getfr hc rfl rfl (by first | assumption | rfl) (by first | assumption | rfl) ?_
          refine xr_bipush hc rfl ?_
          refine xr_iloadn hc rfl rfl ?_
          refine xr_imulz hc rfl (by first | exact dz_wid (by first | omega | (unfold dz_w; omega)) (by first | omega | (unfold dz_w; omega)) | rfl) ?_
          refine xr_iloadn hc rfl rfl ?_
          refine xr_iaddz hc rfl (by first | exact dz_wid (by first | omega | (unfold dz_w; omega)) (by first | omega | (unfold dz_w; omega)) | rfl) ?_
          refine xr_iload hc rfl rfl ?_
          refine xr_iaddz hc rfl (by first | exact dz_wid (by first | omega | (unfold dz_w; omega)) (by first | omega | (unfold dz_w; omega)) | rfl) ?_
          first | refine xr_iaload hc rfl (by first | assumption | rfl) (by first | omega | (unfold dz_w; omega)) (by first | omega | (unfold dz_w; omega)) ?_ | refine xr_ialoado hc rfl (by first | omega | (unfold dz_w; omega)) (by first | omega | (unfold dz_w; omega)) ?_
          refine xr_iastore hc rfl (by first | assumption | rfl) (by first | omega | (unfold dz_w; omega)) (by first | omega | (unfold dz_w; omega)) ?_
          rw [ix, iy, Int.toNat_natCast]
          refine xr_iincz7 hc rfl rfl (by first | exact dz_wid (by first | omega | (unfold dz_w; omega)) (by first | omega | (unfold dz_w; omega)) | rfl) ?_
          refine xr_goto hc rfl (t := 96) rfl ?_
          refine ih (k + 1) _ _ (by omega) hij a1 a2 a3 a4 a5 a6 a7 a8 a9 a10 a11 (fun q2 k2 u => by rw [dz_up_ne u, h1 q2 k2 u]) (fun k2 hk2 => ?_) (fun k2 u => by rw [dz_up_k (by omega), h3 k2 u])
          by_cases e : k2 = j.toNat + k
          · rw [e, dz_up_eq, if_pos (by omega)]
            by_cases ert : r.toNat = t.toNat
            · rw [ert, h2 _ (by omega), if_neg (by omega)]
              congr 1
              omega
            · rw [h3 _ (by omega)]
              congr 1
              omega
          · rw [dz_up_k (by omega), h2 k2 hk2]
            by_cases e3 : j.toNat ≤ k2 ∧ k2 < j.toNat + k
            · rw [if_pos e3, if_pos (by omega)]
            · rw [if_neg e3, if_neg (by omega)]
        · omega
  refine xr_iloadn hc rfl rfl ?_
  refine xr_calls1 hc rfl (by decide) rfl rfl rfl (Nat.le_of_ble_eq_true rfl) (Nat.zero_le _) (Nat.zero_le _) ?_
  refine D_isRow (fun u1 v1 => ?_) (fun u1 => ?_)
  · refine xk_1 ?_
    refine xr_iff hc rfl (by simp [dz_cmp]) ?_
    refine xr_iloadn hc rfl rfl ?_
    refine xr_calls1 hc rfl (by decide) rfl rfl rfl (Nat.le_of_ble_eq_true rfl) (Nat.zero_le _) (Nat.zero_le _) ?_
    refine D_isRow (fun u2 v2 => ?_) (fun u2 => ?_)
    · refine xk_1 ?_
      refine xr_ift hc rfl (t := 16) rfl (by simp [dz_cmp]) ?_
      refine xr_iload hc rfl rfl ?_
      refine xr_if_ge hc rfl (t := 27) rfl (fun b18 => ?_) (fun b18 => ?_)
      · obtain ⟨e1, e2⟩ := hrow r.toNat (by omega)
        have w1 := wrow r.toNat (by omega)
        obtain ⟨f1, f2⟩ := hrow t.toNat (by omega)
        have w2 := wrow t.toNat (by omega)
        refine xr_aloadn hc rfl rfl ?_
        refine xr_getfr hc rfl rfl (by first | assumption | rfl) (by first | assumption | rfl) ?_
        refine xr_iloadn hc rfl rfl ?_
        first | refine xr_iaload hc rfl (by first | assumption | rfl) (by first | omega | (unfold dz_w; omega)) (by first | omega | (unfold dz_w; omega)) ?_ | refine xr_ialoado hc rfl (by first | omega | (unfold dz_w; omega)) (by first | omega | (unfold dz_w; omega)) ?_
        rw [e1]
        refine xr_if_lt hc rfl (t := 45) rfl (fun b33 => ?_) (fun b33 => ?_)
        · refine xr_aloadn hc rfl rfl ?_
          refine xr_iconst hc rfl ?_
          refine xr_callv1 hc rfl (by first | assumption | rfl) rfl rfl rfl (Nat.le_of_ble_eq_true rfl) (Nat.zero_le _) (Nat.zero_le _) ?_
          refine D_find hl hR hW (by omega) (fun M2 z1 z2 => ?_)
          refine xk_1 ?_
          refine xr_ireturn hc rfl rfl (Nat.zero_le _) (Nat.zero_le _) ?_
          simp only [o_copy] at hQ
          repeat (first | rw [if_pos (by omega)] at hQ | rw [if_neg (by omega)] at hQ)
          try dsimp only at hQ
          exact hQ M2 z1 z2
        · refine xr_aloadn hc rfl rfl ?_
          refine xr_getfr hc rfl rfl (by first | assumption | rfl) (by first | assumption | rfl) ?_
          refine xr_iloadn hc rfl rfl ?_
          first | refine xr_iaload hc rfl (by first | assumption | rfl) (by first | omega | (unfold dz_w; omega)) (by first | omega | (unfold dz_w; omega)) ?_ | refine xr_ialoado hc rfl (by first | omega | (unfold dz_w; omega)) (by first | omega | (unfold dz_w; omega)) ?_
          rw [f1]
          refine xr_if_ge hc rfl (t := 51) rfl (fun b42 => ?_) (fun b42 => ?_)
          · refine xr_aloadn hc rfl rfl ?_
            refine xr_iloadn hc rfl rfl ?_
            refine xr_iloadn hc rfl rfl ?_
            refine xr_iload hc rfl rfl ?_
            refine xr_callv3 hc rfl (by first | assumption | rfl) rfl rfl rfl (Nat.le_of_ble_eq_true rfl) (Nat.zero_le _) (Nat.zero_le _) ?_
            refine D_isSpan hl hR hW (by omega) (by omega) hi (fun u3 v3 => ?_) (fun u3 => ?_)
            · refine xk_1 ?_
              refine xr_iff hc rfl (by simp [dz_cmp]) ?_
              refine xr_aloadn hc rfl rfl ?_
              refine xr_iloadn hc rfl rfl ?_
              refine xr_iload hc rfl rfl ?_
              refine xr_iload hc rfl rfl ?_
              refine xr_callv3 hc rfl (by first | assumption | rfl) rfl rfl rfl (Nat.le_of_ble_eq_true rfl) (Nat.zero_le _) (Nat.zero_le _) ?_
              refine D_isSpan hl hR hW (by omega) (by omega) hj (fun u4 v4 => ?_) (fun u4 => ?_)
              · refine xk_1 ?_
                refine xr_ift hc rfl (t := 80) rfl (by simp [dz_cmp]) ?_
                refine xr_iloadn hc rfl rfl ?_
                refine xr_iload hc rfl rfl ?_
                refine xr_icmp_ge hc rfl (t := 90) rfl (fun b83 => ?_) (fun b83 => ?_)
                · refine xr_iconst hc rfl ?_
                  refine xr_istore6 hc rfl rfl ?_
                  refine xr_iconst hc rfl ?_
                  refine xr_istore7 hc rfl rfl ?_
                  first
                    | exact lb m.toNat 0 none M (by omega) (by omega) u1 v1 u2 v2 u3 v3 u4 v4 (by omega) (by omega) (by omega) (fun _ _ _ => rfl) (fun k2 hk2 => by rw [if_neg (by omega)]) (fun _ _ => rfl)
                    | exact lf m.toNat 0 none M (by omega) (by omega) u1 v1 u2 v2 u3 v3 u4 v4 (by omega) (by omega) (by omega) (fun _ _ _ => rfl) (fun k2 hk2 => by rw [if_neg (by omega)]) (fun _ _ => rfl)
                · refine xr_iconst hc rfl ?_
                  refine xr_goto hc rfl (t := 91) rfl ?_
                  refine xr_istore6 hc rfl rfl ?_
                  refine xr_iconst hc rfl ?_
                  refine xr_istore7 hc rfl rfl ?_
                  first
                    | exact lb m.toNat 0 none M (by omega) (by omega) u1 v1 u2 v2 u3 v3 u4 v4 (by omega) (by omega) (by omega) (fun _ _ _ => rfl) (fun k2 hk2 => by rw [if_neg (by omega)]) (fun _ _ => rfl)
                    | exact lf m.toNat 0 none M (by omega) (by omega) u1 v1 u2 v2 u3 v3 u4 v4 (by omega) (by omega) (by omega) (fun _ _ _ => rfl) (fun k2 hk2 => by rw [if_neg (by omega)]) (fun _ _ => rfl)
              · refine xk_1 ?_
                refine xr_iff hc rfl (by simp [dz_cmp]) ?_
                refine xr_aloadn hc rfl rfl ?_
                refine xr_iconst hc rfl ?_
                refine xr_callv1 hc rfl (by first | assumption | rfl) rfl rfl rfl (Nat.le_of_ble_eq_true rfl) (Nat.zero_le _) (Nat.zero_le _) ?_
                refine D_find hl hR hW (by omega) (fun M2 z1 z2 => ?_)
                refine xk_1 ?_
                refine xr_ireturn hc rfl rfl (Nat.zero_le _) (Nat.zero_le _) ?_
                simp only [o_copy] at hQ
                repeat (first | rw [if_pos (by omega)] at hQ | rw [if_neg (by omega)] at hQ)
                try dsimp only at hQ
                exact hQ M2 z1 z2
            · refine xk_1 ?_
              refine xr_ift hc rfl (t := 74) rfl (by simp [dz_cmp]) ?_
              refine xr_aloadn hc rfl rfl ?_
              refine xr_iconst hc rfl ?_
              refine xr_callv1 hc rfl (by first | assumption | rfl) rfl rfl rfl (Nat.le_of_ble_eq_true rfl) (Nat.zero_le _) (Nat.zero_le _) ?_
              refine D_find hl hR hW (by omega) (fun M2 z1 z2 => ?_)
              refine xk_1 ?_
              refine xr_ireturn hc rfl rfl (Nat.zero_le _) (Nat.zero_le _) ?_
              simp only [o_copy] at hQ
              repeat (first | rw [if_pos (by omega)] at hQ | rw [if_neg (by omega)] at hQ)
              try dsimp only at hQ
              exact hQ M2 z1 z2
          · refine xr_aloadn hc rfl rfl ?_
            refine xr_iconst hc rfl ?_
            refine xr_callv1 hc rfl (by first | assumption | rfl) rfl rfl rfl (Nat.le_of_ble_eq_true rfl) (Nat.zero_le _) (Nat.zero_le _) ?_
            refine D_find hl hR hW (by omega) (fun M2 z1 z2 => ?_)
            refine xk_1 ?_
            refine xr_ireturn hc rfl rfl (Nat.zero_le _) (Nat.zero_le _) ?_
            simp only [o_copy] at hQ
            repeat (first | rw [if_pos (by omega)] at hQ | rw [if_neg (by omega)] at hQ)
            try dsimp only at hQ
            exact hQ M2 z1 z2
      · refine xr_aloadn hc rfl rfl ?_
        refine xr_iconst hc rfl ?_
        refine xr_callv1 hc rfl (by first | assumption | rfl) rfl rfl rfl (Nat.le_of_ble_eq_true rfl) (Nat.zero_le _) (Nat.zero_le _) ?_
        refine D_find hl hR hW (by omega) (fun M2 z1 z2 => ?_)
        refine xk_1 ?_
        refine xr_ireturn hc rfl rfl (Nat.zero_le _) (Nat.zero_le _) ?_
        simp only [o_copy] at hQ
        repeat (first | rw [if_pos (by omega)] at hQ | rw [if_neg (by omega)] at hQ)
        try dsimp only at hQ
        exact hQ M2 z1 z2
    · refine xk_1 ?_
      refine xr_iff hc rfl (by simp [dz_cmp]) ?_
      refine xr_iconst hc rfl ?_
      refine xr_ireturn hc rfl rfl (Nat.zero_le _) (Nat.zero_le _) ?_
      simp only [o_copy] at hQ
      repeat (first | rw [if_pos (by omega)] at hQ | rw [if_neg (by omega)] at hQ)
      try dsimp only at hQ
      exact hQ M (fun _ _ _ => rfl) hR
  · refine xk_1 ?_
    refine xr_ift hc rfl (t := 14) rfl (by simp [dz_cmp]) ?_
    refine xr_iconst hc rfl ?_
    refine xr_ireturn hc rfl rfl (Nat.zero_le _) (Nat.zero_le _) ?_
    simp only [o_copy] at hQ
    repeat (first | rw [if_pos (by omega)] at hQ | rw [if_neg (by omega)] at hQ)
    try dsimp only at hQ
    exact hQ M (fun _ _ _ => rfl) hR
set_option maxRecDepth 100000 in
theorem D_mean {xo : Nat → List Int} {d : Nat} {Q : dz_Q} {sh : List (Nat ⊕ (Nat × Nat))} {rf : Nat → Nat → Nat} {M : Nat → Nat → Int} {rs : Nat → Int} {it : Nat → Nat → Int} {ts : Nat → Int} {ch : Nat → Nat → Int} {tl up lo : Int} {fn : Nat → Int} {w pl : Int} {kd wt nx : Nat → Int} {n : Nat} {hs : Nat → Nat → Int} {kp : Nat → Int} {kh : Nat → Nat → Nat → Int} {r : Int} (hl : ml sh rf) (hR : RM M rs it ts ch tl up lo fn w pl kd wt nx n hs kp kh) (hW : WF rs it ts ch tl up lo fn w pl kd wt nx n hs kp kh) (hQ : ∀ M2 : Nat → Nat → Int, (∀ q2 k2, q2 < 115 → M2 q2 k2 = M q2 k2) → RM M2 rs it ts ch (o_mean rs it tl fn r).2.1 up lo (o_mean rs it tl fn r).2.2 w pl kd wt nx n hs kp kh → Q (some (dz_i ((o_mean rs it tl fn r).1))) (sh, rf, M2)) : dz_E dz_pp xo (d + 3) 133 [dz_r 115, dz_i r] (sh, rf, M) Q := by
  refine ⟨Nat.le_of_ble_eq_true rfl, ?_⟩
  have hc := dz_E_m dz_pp xo (d + 2)
  show dz_X (dz_E dz_pp xo (d + 2)) dz_pp xo (dz_pp 133) Q 0 [some (dz_r 115), some (dz_i r), none, none, none] [] 0 0 (sh, rf, M)
  obtain ⟨c0, c1, c2, c3, c4, c5, c6, c7, c8, c9, c10, c11, c12, c13, c14, c15, c16, c17, c18, c19, c20, c21, c22, c23, c24, c25, c26, c27, c28, c29⟩ := id hl
  obtain ⟨hrow, htxt, htl, hup, hlo, hfn, hdr, hkp⟩ := id hR
  obtain ⟨wrow, wtxt, wdr, wst, wkp⟩ := id hW
  have hw6 := WF_w hW
  have hdr3 : drM M w pl kd wt nx n hs ∧ w ≤ 6 ∧ n ≤ 40 := ⟨hdr, hw6.2, wst.1⟩
  have hkp3 : kepM M w kp kh ∧ w ≤ 6 ∧ ∀ k, k < 3 → kp k ≤ 40 := ⟨hkp, hw6.2, fun k hk => by
    rcases wkp k hk with z | z
    · omega
    · exact z.2.1⟩
  have lp : ∀ (m_ : Nat) (i : Nat), 0 ≤ r → r ≤ 5 → 1 ≤ rs r.toNat → (i : Int) + m_ = rs r.toNat → dz_X (dz_E dz_pp xo (d + 2)) dz_pp xo (dz_pp 133) Q 44 [some (dz_r 115), some (dz_i r), some (dz_l (lsum (it r.toNat) i)), none, some (dz_i (i : Int))] [] 0 0 (sh, rf, M) := by
    intro m_
    induction m_ with
    | zero =>
      intro i u1 v1 u4 hi
      obtain ⟨e1, e2⟩ := hrow r.toNat (by omega)
      have w1 := wrow r.toNat (by omega)
      refine xr_iload hc rfl rfl ?_
      refine xr_aloadn hc rfl rfl ?_
      refine xr_getfr hc rfl rfl (by first | assumption | rfl) (by first | assumption | rfl) ?_
      refine xr_iloadn hc rfl rfl ?_
      first | refine xr_iaload hc rfl (by first | assumption | rfl) (by first | omega | (unfold dz_w; omega)) (by first | omega | (unfold dz_w; omega)) ?_ | refine xr_ialoado hc rfl (by first | omega | (unfold dz_w; omega)) (by first | omega | (unfold dz_w; omega)) ?_
      rw [e1]
      refine xr_icmp_ge hc rfl (t := 77) rfl (fun b52 => ?_) (fun b52 => ?_)
      · refine xr_aloadn hc rfl rfl ?_
        refine xr_lloadn hc rfl rfl ?_
        refine xr_aloadn hc rfl rfl ?_
        refine xr_getfr hc rfl rfl (by first | assumption | rfl) (by first | assumption | rfl) ?_
        refine xr_iloadn hc rfl rfl ?_
        first | refine xr_iaload hc rfl (by first | assumption | rfl) (by first | omega | (unfold dz_w; omega)) (by first | omega | (unfold dz_w; omega)) ?_ | refine xr_ialoado hc rfl (by first | omega | (unfold dz_w; omega)) (by first | omega | (unfold dz_w; omega)) ?_
        rw [e1]
        refine xr_i2l hc rfl ?_
        refine xr_ldiv hc rfl (by first | omega | (unfold dz_w; omega)) ?_
        refine xr_l2i hc rfl ?_
        refine xr_callv1 hc rfl (by first | assumption | rfl) rfl rfl rfl (Nat.le_of_ble_eq_true rfl) (Nat.zero_le _) (Nat.zero_le _) ?_
        refine D_tell hl hR hW (fun M2 z1 z2 => ?_)
        refine xk_1 ?_
        refine xr_ireturn hc rfl rfl (Nat.zero_le _) (Nat.zero_le _) ?_
        simp only [o_mean] at hQ
        repeat (first | rw [if_pos (by omega)] at hQ | rw [if_neg (by omega)] at hQ)
        try dsimp only at hQ
        have ei : i = (rs r.toNat).toNat := by omega
        rw [ei] at z2
        exact hQ M2 z1 z2
      · omega
    | succ m_ ih =>
      intro i u1 v1 u4 hi
      obtain ⟨e1, e2⟩ := hrow r.toNat (by omega)
      have w1 := wrow r.toNat (by omega)
      have e3 := e2 i (by omega)
      have ix : (40 * r + (i : Int)).toNat = 40 * r.toNat + i := by omega
      refine xr_iload hc rfl rfl ?_
      refine xr_aloadn hc rfl rfl ?_
      refine xr_getfr hc rfl rfl (by first | assumption | rfl) (by first | assumption | rfl) ?_
      refine xr_iloadn hc rfl rfl ?_
      first | refine xr_iaload hc rfl (by first | assumption | rfl) (by first | omega | (unfold dz_w; omega)) (by first | omega | (unfold dz_w; omega)) ?_ | refine xr_ialoado hc rfl (by first | omega | (unfold dz_w; omega)) (by first | omega | (unfold dz_w; omega)) ?_
      rw [e1]
      refine xr_icmp_ge hc rfl (t := 77) rfl (fun b52 => ?_) (fun b52 => ?_)
      · omega
      · refine xr_lloadn hc rfl rfl ?_
        refine xr_aloadn hc rfl rfl ?_
        refine xr_getfr hc rfl rfl (by first | assumption | rfl) (by first | assumption | rfl) ?_
        refine xr_bipush hc rfl ?_
        refine xr_iloadn hc rfl rfl ?_
        refine xr_imulz hc rfl (by first | exact dz_wid (by first | omega | (unfold dz_w; omega)) (by first | omega | (unfold dz_w; omega)) | rfl) ?_
        refine xr_iload hc rfl rfl ?_
        refine xr_iaddz hc rfl (by first | exact dz_wid (by first | omega | (unfold dz_w; omega)) (by first | omega | (unfold dz_w; omega)) | rfl) ?_
        first | refine xr_iaload hc rfl (by first | assumption | rfl) (by first | omega | (unfold dz_w; omega)) (by first | omega | (unfold dz_w; omega)) ?_ | refine xr_ialoado hc rfl (by first | omega | (unfold dz_w; omega)) (by first | omega | (unfold dz_w; omega)) ?_
        rw [ix, e3]
        refine xr_i2l hc rfl ?_
        refine xr_ladd hc rfl ?_
        refine xr_lstore2 hc rfl rfl ?_
        refine xr_iincz4 hc rfl rfl (by first | exact dz_wid (by first | omega | (unfold dz_w; omega)) (by first | omega | (unfold dz_w; omega)) | rfl) ?_
        refine xr_goto hc rfl (t := 44) rfl ?_
        exact ih (i + 1) u1 v1 u4 (by omega)
  refine xr_iloadn hc rfl rfl ?_
  refine xr_calls1 hc rfl (by decide) rfl rfl rfl (Nat.le_of_ble_eq_true rfl) (Nat.zero_le _) (Nat.zero_le _) ?_
  refine D_isRow (fun u1 v1 => ?_) (fun u1 => ?_)
  · refine xk_1 ?_
    refine xr_ift hc rfl (t := 9) rfl (by simp [dz_cmp]) ?_
    obtain ⟨e1, e2⟩ := hrow r.toNat (by omega)
    have w1 := wrow r.toNat (by omega)
    refine xr_aloadn hc rfl rfl ?_
    refine xr_getfr hc rfl rfl (by first | assumption | rfl) (by first | assumption | rfl) ?_
    refine xr_iloadn hc rfl rfl ?_
    first | refine xr_iaload hc rfl (by first | assumption | rfl) (by first | omega | (unfold dz_w; omega)) (by first | omega | (unfold dz_w; omega)) ?_ | refine xr_ialoado hc rfl (by first | omega | (unfold dz_w; omega)) (by first | omega | (unfold dz_w; omega)) ?_
    rw [e1]
    refine xr_if_ge hc rfl (t := 24) rfl (fun b15 => ?_) (fun b15 => ?_)
    · refine xr_aloadn hc rfl rfl ?_
      refine xr_getfr hc rfl rfl (by first | assumption | rfl) (by first | assumption | rfl) ?_
      refine xr_iloadn hc rfl rfl ?_
      first | refine xr_iaload hc rfl (by first | assumption | rfl) (by first | omega | (unfold dz_w; omega)) (by first | omega | (unfold dz_w; omega)) ?_ | refine xr_ialoado hc rfl (by first | omega | (unfold dz_w; omega)) (by first | omega | (unfold dz_w; omega)) ?_
      rw [e1]
      refine xr_if_ne hc rfl (t := 39) rfl (fun b30 => ?_) (fun b30 => ?_)
      · refine xr_lconst hc rfl ?_
        refine xr_lstore2 hc rfl rfl ?_
        refine xr_iconst hc rfl ?_
        refine xr_istore4 hc rfl rfl ?_
        exact lp (rs r.toNat).toNat 0 u1 v1 (by omega) (by omega)
      · refine xr_aloadn hc rfl rfl ?_
        refine xr_iconst hc rfl ?_
        refine xr_callv1 hc rfl (by first | assumption | rfl) rfl rfl rfl (Nat.le_of_ble_eq_true rfl) (Nat.zero_le _) (Nat.zero_le _) ?_
        refine D_find hl hR hW (by omega) (fun M2 z1 z2 => ?_)
        refine xk_1 ?_
        refine xr_ireturn hc rfl rfl (Nat.zero_le _) (Nat.zero_le _) ?_
        simp only [o_mean] at hQ
        repeat (first | rw [if_pos (by omega)] at hQ | rw [if_neg (by omega)] at hQ)
        try dsimp only at hQ
        exact hQ M2 z1 z2
    · refine xr_aloadn hc rfl rfl ?_
      refine xr_iconst hc rfl ?_
      refine xr_callv1 hc rfl (by first | assumption | rfl) rfl rfl rfl (Nat.le_of_ble_eq_true rfl) (Nat.zero_le _) (Nat.zero_le _) ?_
      refine D_find hl hR hW (by omega) (fun M2 z1 z2 => ?_)
      refine xk_1 ?_
      refine xr_ireturn hc rfl rfl (Nat.zero_le _) (Nat.zero_le _) ?_
      simp only [o_mean] at hQ
      repeat (first | rw [if_pos (by omega)] at hQ | rw [if_neg (by omega)] at hQ)
      try dsimp only at hQ
      exact hQ M2 z1 z2
  · refine xk_1 ?_
    refine xr_iff hc rfl (by simp [dz_cmp]) ?_
    refine xr_iconst hc rfl ?_
    refine xr_ireturn hc rfl rfl (Nat.zero_le _) (Nat.zero_le _) ?_
    simp only [o_mean] at hQ
    repeat (first | rw [if_pos (by omega)] at hQ | rw [if_neg (by omega)] at hQ)
    try dsimp only at hQ
    exact hQ M (fun _ _ _ => rfl) hR
set_option maxRecDepth 100000 in
theorem D_text {xo : Nat → List Int} {d : Nat} {Q : dz_Q} {sh : List (Nat ⊕ (Nat × Nat))} {rf : Nat → Nat → Nat} {M : Nat → Nat → Int} {rs : Nat → Int} {it : Nat → Nat → Int} {ts : Nat → Int} {ch : Nat → Nat → Int} {tl up lo : Int} {fn : Nat → Int} {w pl : Int} {kd wt nx : Nat → Int} {n : Nat} {hs : Nat → Nat → Int} {kp : Nat → Int} {kh : Nat → Nat → Nat → Int} {t m : Int} (hl : ml sh rf) (hR : RM M rs it ts ch tl up lo fn w pl kd wt nx n hs kp kh) (hW : WF rs it ts ch tl up lo fn w pl kd wt nx n hs kp kh) (hQ : ∀ M2 : Nat → Nat → Int, (∀ q2 k2, q2 < 115 → M2 q2 k2 = M q2 k2) → RM M2 rs it (o_text ts ch fn t m).2.1 (o_text ts ch fn t m).2.2.1 tl up lo (o_text ts ch fn t m).2.2.2 w pl kd wt nx n hs kp kh → Q (some (dz_i ((o_text ts ch fn t m).1))) (sh, rf, M2)) : dz_E dz_pp xo (d + 3) 134 [dz_r 115, dz_i t, dz_i m] (sh, rf, M) Q := by
  refine ⟨Nat.le_of_ble_eq_true rfl, ?_⟩
  have hc := dz_E_m dz_pp xo (d + 2)
  show dz_X (dz_E dz_pp xo (d + 2)) dz_pp xo (dz_pp 134) Q 0 [some (dz_r 115), some (dz_i t), some (dz_i m), none] [] 0 0 (sh, rf, M)
  obtain ⟨c0, c1, c2, c3, c4, c5, c6, c7, c8, c9, c10, c11, c12, c13, c14, c15, c16, c17, c18, c19, c20, c21, c22, c23, c24, c25, c26, c27, c28, c29⟩ := id hl
  obtain ⟨hrow, htxt, htl, hup, hlo, hfn, hdr, hkp⟩ := id hR
  obtain ⟨wrow, wtxt, wdr, wst, wkp⟩ := id hW
  have hw6 := WF_w hW
  have hdr3 : drM M w pl kd wt nx n hs ∧ w ≤ 6 ∧ n ≤ 40 := ⟨hdr, hw6.2, wst.1⟩
  have hkp3 : kepM M w kp kh ∧ w ≤ 6 ∧ ∀ k, k < 3 → kp k ≤ 40 := ⟨hkp, hw6.2, fun k hk => by
    rcases wkp k hk with z | z
    · omega
    · exact z.2.1⟩
  have lp : ∀ (m_ : Nat) (i : Nat) (M1 : Nat → Nat → Int), i + m_ = 60 → 0 ≤ t → t ≤ 3 → 0 ≤ m → m ≤ 60 → (∀ q2 k2, q2 ≠ 122 → q2 ≠ 123 → M1 q2 k2 = M q2 k2) → (∀ k2, M1 122 k2 = fup (M 122) t.toNat m k2) → (∀ k2, (k2 < 60 * t.toNat ∨ 60 * t.toNat + 60 ≤ k2) → M1 123 k2 = M 123 k2) → (∀ k2, k2 < i → M1 123 (60 * t.toNat + k2) = 32) → dz_X (dz_E dz_pp xo (d + 2)) dz_pp xo (dz_pp 134) Q 34 [some (dz_r 115), some (dz_i t), some (dz_i m), some (dz_i (i : Int))] [] 0 0 (sh, rf, M1) := by
    intro m_
    induction m_ with
    | zero =>
      intro i M1 hi a1 a2 a3 a4 h1 h2 h3 h4
      refine xr_iloadn hc rfl rfl ?_
      refine xr_bipush hc rfl ?_
      refine xr_icmp_ge hc rfl (t := 59) rfl (fun b37 => ?_) (fun b37 => ?_)
      · refine xr_iloadn hc rfl rfl ?_
        refine xr_ireturn hc rfl rfl (Nat.zero_le _) (Nat.zero_le _) ?_
        simp only [o_text] at hQ
        repeat (first | rw [if_pos (by omega)] at hQ | rw [if_neg (by omega)] at hQ)
        try dsimp only at hQ
        refine hQ _ (fun q2 k2 u => h1 _ _ (by omega) (by omega)) ⟨rowM_fr hrow (fun k2 => h1 _ _ (by omega) (by omega)) (fun k2 => h1 _ _ (by omega) (by omega)), fun r2 hr2 => ?_, Eq.trans (h1 _ _ (by omega) (by omega)) htl, Eq.trans (h1 _ _ (by omega) (by omega)) hup, Eq.trans (h1 _ _ (by omega) (by omega)) hlo, fndM_fr hfn (h1 _ _ (by omega) (by omega)) (fun k2 => h1 _ _ (by omega) (by omega)), drM_fr hdr3 (h1 _ _ (by omega) (by omega)) (h1 _ _ (by omega) (by omega)) (fun k2 => h1 _ _ (by omega) (by omega)) (fun k2 => h1 _ _ (by omega) (by omega)) (fun k2 => h1 _ _ (by omega) (by omega)) (fun k2 u1 => h1 _ _ (by omega) (by omega)), kepM_fr hkp3 (fun k2 u1 u2 => h1 _ _ (by omega) (by omega))⟩
        rw [h2]
        by_cases e : r2 = t.toNat
        · subst e
          rw [fup_eq, fup_eq]
          exact ⟨rfl, fun k hk => by rw [h4 k (by omega), rup_eq]⟩
        · have w2 := (wtxt r2 hr2).1
          rw [fup_ne e, fup_ne e, rup_ne e]
          exact ⟨(htxt r2 hr2).1, fun k hk => by rw [h3 _ (by omega)]; exact (htxt r2 hr2).2 k hk⟩
      · omega
    | succ m_ ih =>
      intro i M1 hi a1 a2 a3 a4 h1 h2 h3 h4
      have ix : (60 * t + (i : Int)).toNat = 60 * t.toNat + i := by omega
      refine xr_iloadn hc rfl rfl ?_
      refine xr_bipush hc rfl ?_
      refine xr_icmp_ge hc rfl (t := 59) rfl (fun b37 => ?_) (fun b37 => ?_)
      · omega
      · refine xr_aloadn hc rfl rfl ?_
        refine xr_getfr hc rfl rfl (by first | assumption | rfl) (by first | assumption | rfl) ?_
        refine xr_bipush hc rfl ?_
        refine xr_iloadn hc rfl rfl ?_
        refine xr_imulz hc rfl (by first | exact dz_wid (by first | omega | (unfold dz_w; omega)) (by first | omega | (unfold dz_w; omega)) | rfl) ?_
        refine xr_iloadn hc rfl rfl ?_
        refine xr_iaddz hc rfl (by first | exact dz_wid (by first | omega | (unfold dz_w; omega)) (by first | omega | (unfold dz_w; omega)) | rfl) ?_
        refine xr_bipush hc rfl ?_
        refine xr_iastore hc rfl (by first | assumption | rfl) (by first | omega | (unfold dz_w; omega)) (by first | omega | (unfold dz_w; omega)) ?_
        rw [ix]
        refine xr_iincz3 hc rfl rfl (by first | exact dz_wid (by first | omega | (unfold dz_w; omega)) (by first | omega | (unfold dz_w; omega)) | rfl) ?_
        refine xr_goto hc rfl (t := 34) rfl ?_
        refine ih (i + 1) _ (by omega) a1 a2 a3 a4 (fun q2 k2 u1 u2 => by rw [dz_up_ne u2, h1 q2 k2 u1 u2]) (fun k2 => by rw [dz_up_ne (by omega), h2]) (fun k2 u1 => by rw [dz_up_k (by omega), h3 k2 u1]) (fun k2 hk => ?_)
        by_cases e : k2 = i
        · subst e
          rw [dz_up_eq]
        · rw [dz_up_k (by omega)]
          exact h4 k2 (by omega)
  refine xr_iloadn hc rfl rfl ?_
  refine xr_calls1 hc rfl (by decide) rfl rfl rfl (Nat.le_of_ble_eq_true rfl) (Nat.zero_le _) (Nat.zero_le _) ?_
  refine D_isText (fun u1 v1 => ?_) (fun u1 => ?_)
  · refine xk_1 ?_
    refine xr_iff hc rfl (by simp [dz_cmp]) ?_
    refine xr_iloadn hc rfl rfl ?_
    refine xr_bipush hc rfl ?_
    refine xr_icmp_le hc rfl (t := 15) rfl (fun b10 => ?_) (fun b10 => ?_)
    · refine xr_iloadn hc rfl rfl ?_
      refine xr_if_ge hc rfl (t := 25) rfl (fun b16 => ?_) (fun b16 => ?_)
      · refine xr_aloadn hc rfl rfl ?_
        refine xr_getfr hc rfl rfl (by first | assumption | rfl) (by first | assumption | rfl) ?_
        refine xr_iloadn hc rfl rfl ?_
        refine xr_iloadn hc rfl rfl ?_
        refine xr_iastore hc rfl (by first | assumption | rfl) (by first | omega | (unfold dz_w; omega)) (by first | omega | (unfold dz_w; omega)) ?_
        refine xr_iconst hc rfl ?_
        refine xr_istore3 hc rfl rfl ?_
        exact lp 60 0 _ (by omega) u1 v1 (by omega) (by omega) (fun q2 k2 u1 u2 => by rw [dz_up_ne u1]) (fun k2 => up_fup _ _ _ _ _) (fun k2 u => by rw [dz_up_ne (by omega)]) (fun k2 hk => by omega)
      · refine xr_aloadn hc rfl rfl ?_
        refine xr_iconst hc rfl ?_
        refine xr_callv1 hc rfl (by first | assumption | rfl) rfl rfl rfl (Nat.le_of_ble_eq_true rfl) (Nat.zero_le _) (Nat.zero_le _) ?_
        refine D_find hl hR hW (by omega) (fun M2 z1 z2 => ?_)
        refine xk_1 ?_
        refine xr_ireturn hc rfl rfl (Nat.zero_le _) (Nat.zero_le _) ?_
        simp only [o_text] at hQ
        repeat (first | rw [if_pos (by omega)] at hQ | rw [if_neg (by omega)] at hQ)
        try dsimp only at hQ
        exact hQ M2 z1 z2
    · refine xr_iconst hc rfl ?_
      refine xr_ireturn hc rfl rfl (Nat.zero_le _) (Nat.zero_le _) ?_
      simp only [o_text] at hQ
      repeat (first | rw [if_pos (by omega)] at hQ | rw [if_neg (by omega)] at hQ)
      try dsimp only at hQ
      exact hQ M (fun _ _ _ => rfl) hR
  · refine xk_1 ?_
    refine xr_ift hc rfl (t := 13) rfl (by simp [dz_cmp]) ?_
    refine xr_iconst hc rfl ?_
    refine xr_ireturn hc rfl rfl (Nat.zero_le _) (Nat.zero_le _) ?_
    simp only [o_text] at hQ
    repeat (first | rw [if_pos (by omega)] at hQ | rw [if_neg (by omega)] at hQ)
    try dsimp only at hQ
    exact hQ M (fun _ _ _ => rfl) hR
set_option maxRecDepth 100000 in
theorem D_put {xo : Nat → List Int} {d : Nat} {Q : dz_Q} {sh : List (Nat ⊕ (Nat × Nat))} {rf : Nat → Nat → Nat} {M : Nat → Nat → Int} {rs : Nat → Int} {it : Nat → Nat → Int} {ts : Nat → Int} {ch : Nat → Nat → Int} {tl up lo : Int} {fn : Nat → Int} {w pl : Int} {kd wt nx : Nat → Int} {n : Nat} {hs : Nat → Nat → Int} {kp : Nat → Int} {kh : Nat → Nat → Nat → Int} {t i v : Int} (hl : ml sh rf) (hR : RM M rs it ts ch tl up lo fn w pl kd wt nx n hs kp kh) (hW : WF rs it ts ch tl up lo fn w pl kd wt nx n hs kp kh) (hQ : ∀ M2 : Nat → Nat → Int, (∀ q2 k2, q2 < 115 → M2 q2 k2 = M q2 k2) → RM M2 rs it ts (o_put ts ch fn t i v).2.1 tl up lo (o_put ts ch fn t i v).2.2 w pl kd wt nx n hs kp kh → Q (some (dz_i ((o_put ts ch fn t i v).1))) (sh, rf, M2)) : dz_E dz_pp xo (d + 3) 135 [dz_r 115, dz_i t, dz_i i, dz_i v] (sh, rf, M) Q := by
  refine ⟨Nat.le_of_ble_eq_true rfl, ?_⟩
  have hc := dz_E_m dz_pp xo (d + 2)
  show dz_X (dz_E dz_pp xo (d + 2)) dz_pp xo (dz_pp 135) Q 0 [some (dz_r 115), some (dz_i t), some (dz_i i), some (dz_i v), none] [] 0 0 (sh, rf, M)
  obtain ⟨c0, c1, c2, c3, c4, c5, c6, c7, c8, c9, c10, c11, c12, c13, c14, c15, c16, c17, c18, c19, c20, c21, c22, c23, c24, c25, c26, c27, c28, c29⟩ := id hl
  obtain ⟨hrow, htxt, htl, hup, hlo, hfn, hdr, hkp⟩ := id hR
  obtain ⟨wrow, wtxt, wdr, wst, wkp⟩ := id hW
  have hw6 := WF_w hW
  have hdr3 : drM M w pl kd wt nx n hs ∧ w ≤ 6 ∧ n ≤ 40 := ⟨hdr, hw6.2, wst.1⟩
  have hkp3 : kepM M w kp kh ∧ w ≤ 6 ∧ ∀ k, k < 3 → kp k ≤ 40 := ⟨hkp, hw6.2, fun k hk => by
    rcases wkp k hk with z | z
    · omega
    · exact z.2.1⟩
  refine xr_iloadn hc rfl rfl ?_
  refine xr_calls1 hc rfl (by decide) rfl rfl rfl (Nat.le_of_ble_eq_true rfl) (Nat.zero_le _) (Nat.zero_le _) ?_
  refine D_isText (fun u1 v1 => ?_) (fun u1 => ?_)
  · refine xk_1 ?_
    refine xr_ift hc rfl (t := 9) rfl (by simp [dz_cmp]) ?_
    obtain ⟨e1, e2⟩ := htxt t.toNat (by omega)
    obtain ⟨w1, w2⟩ := wtxt t.toNat (by omega)
    refine xr_aloadn hc rfl rfl ?_
    refine xr_getfr hc rfl rfl (by first | assumption | rfl) (by first | assumption | rfl) ?_
    refine xr_iloadn hc rfl rfl ?_
    first | refine xr_iaload hc rfl (by first | assumption | rfl) (by first | omega | (unfold dz_w; omega)) (by first | omega | (unfold dz_w; omega)) ?_ | refine xr_ialoado hc rfl (by first | omega | (unfold dz_w; omega)) (by first | omega | (unfold dz_w; omega)) ?_
    rw [e1]
    refine xr_if_ge hc rfl (t := 24) rfl (fun b15 => ?_) (fun b15 => ?_)
    · refine xr_iloadn hc rfl rfl ?_
      refine xr_i2l hc rfl ?_
      refine xr_lconst hc rfl ?_
      refine xr_aloadn hc rfl rfl ?_
      refine xr_getfr hc rfl rfl (by first | assumption | rfl) (by first | assumption | rfl) ?_
      refine xr_iloadn hc rfl rfl ?_
      first | refine xr_iaload hc rfl (by first | assumption | rfl) (by first | omega | (unfold dz_w; omega)) (by first | omega | (unfold dz_w; omega)) ?_ | refine xr_ialoado hc rfl (by first | omega | (unfold dz_w; omega)) (by first | omega | (unfold dz_w; omega)) ?_
      rw [e1]
      refine xr_iconst hc rfl ?_
      refine xr_isubz hc rfl (by first | exact dz_wid (by first | omega | (unfold dz_w; omega)) (by first | omega | (unfold dz_w; omega)) | rfl) ?_
      refine xr_i2l hc rfl ?_
      refine xr_calls3 hc rfl (by decide) rfl rfl rfl (Nat.le_of_ble_eq_true rfl) (Nat.zero_le _) (Nat.zero_le _) ?_
      refine S_in (fun u2 v2 => ?_) (fun u2 => ?_)
      · refine xk_1 ?_
        refine xr_ift hc rfl (t := 48) rfl (by simp [dz_cmp]) ?_
        have e3 := e2 i.toNat (by omega)
        have w3 := w2 i.toNat (by omega)
        have ix : (60 * t + i).toNat = 60 * t.toNat + i.toNat := by omega
        refine xr_aloadn hc rfl rfl ?_
        refine xr_getfr hc rfl rfl (by first | assumption | rfl) (by first | assumption | rfl) ?_
        refine xr_bipush hc rfl ?_
        refine xr_iloadn hc rfl rfl ?_
        refine xr_imulz hc rfl (by first | exact dz_wid (by first | omega | (unfold dz_w; omega)) (by first | omega | (unfold dz_w; omega)) | rfl) ?_
        refine xr_iloadn hc rfl rfl ?_
        refine xr_iaddz hc rfl (by first | exact dz_wid (by first | omega | (unfold dz_w; omega)) (by first | omega | (unfold dz_w; omega)) | rfl) ?_
        first | refine xr_iaload hc rfl (by first | assumption | rfl) (by first | omega | (unfold dz_w; omega)) (by first | omega | (unfold dz_w; omega)) ?_ | refine xr_ialoado hc rfl (by first | omega | (unfold dz_w; omega)) (by first | omega | (unfold dz_w; omega)) ?_
        rw [ix, e3]
        refine xr_istore4 hc rfl rfl ?_
        refine xr_aloadn hc rfl rfl ?_
        refine xr_getfr hc rfl rfl (by first | assumption | rfl) (by first | assumption | rfl) ?_
        refine xr_bipush hc rfl ?_
        refine xr_iloadn hc rfl rfl ?_
        refine xr_imulz hc rfl (by first | exact dz_wid (by first | omega | (unfold dz_w; omega)) (by first | omega | (unfold dz_w; omega)) | rfl) ?_
        refine xr_iloadn hc rfl rfl ?_
        refine xr_iaddz hc rfl (by first | exact dz_wid (by first | omega | (unfold dz_w; omega)) (by first | omega | (unfold dz_w; omega)) | rfl) ?_
        refine xr_iloadn hc rfl rfl ?_
        refine xr_i2b hc rfl ?_
        refine xr_iastore hc rfl (by first | assumption | rfl) (by first | omega | (unfold dz_w; omega)) (by first | omega | (unfold dz_w; omega)) ?_
        rw [ix]
        refine xr_iload hc rfl rfl ?_
        refine xr_sipush hc rfl ?_
        refine xr_iaddz hc rfl (by first | exact dz_wid (by first | omega | (unfold dz_w; omega)) (by first | omega | (unfold dz_w; omega)) | rfl) ?_
        refine xr_ireturn hc rfl rfl (Nat.zero_le _) (Nat.zero_le _) ?_
        simp only [o_put] at hQ
        repeat (first | rw [if_pos (by omega)] at hQ | rw [if_neg (by omega)] at hQ)
        try dsimp only at hQ
        refine hQ _ (fun q2 k2 u => by repeat (first | rw [dz_up_ne (by omega)] | rw [dz_up_k (by omega)])) ⟨rowM_fr hrow (fun k2 => by repeat (first | rw [dz_up_ne (by omega)] | rw [dz_up_k (by omega)])) (fun k2 => by repeat (first | rw [dz_up_ne (by omega)] | rw [dz_up_k (by omega)])), fun r2 hr2 => ?_, Eq.trans (by repeat (first | rw [dz_up_ne (by omega)] | rw [dz_up_k (by omega)])) htl, Eq.trans (by repeat (first | rw [dz_up_ne (by omega)] | rw [dz_up_k (by omega)])) hup, Eq.trans (by repeat (first | rw [dz_up_ne (by omega)] | rw [dz_up_k (by omega)])) hlo, fndM_fr hfn (by repeat (first | rw [dz_up_ne (by omega)] | rw [dz_up_k (by omega)])) (fun k2 => by repeat (first | rw [dz_up_ne (by omega)] | rw [dz_up_k (by omega)])), drM_fr hdr3 (by repeat (first | rw [dz_up_ne (by omega)] | rw [dz_up_k (by omega)])) (by repeat (first | rw [dz_up_ne (by omega)] | rw [dz_up_k (by omega)])) (fun k2 => by repeat (first | rw [dz_up_ne (by omega)] | rw [dz_up_k (by omega)])) (fun k2 => by repeat (first | rw [dz_up_ne (by omega)] | rw [dz_up_k (by omega)])) (fun k2 => by repeat (first | rw [dz_up_ne (by omega)] | rw [dz_up_k (by omega)])) (fun k2 u1 => by repeat (first | rw [dz_up_ne (by omega)] | rw [dz_up_k (by omega)])), kepM_fr hkp3 (fun k2 u1 u2 => by repeat (first | rw [dz_up_ne (by omega)] | rw [dz_up_k (by omega)]))⟩
        refine ⟨by rw [dz_up_ne (by omega)]; exact (htxt r2 hr2).1, fun k hk => ?_⟩
        have w4 := (wtxt r2 hr2).1
        by_cases e : r2 = t.toNat
        · subst e
          rw [rup_eq]
          unfold fup
          by_cases e4 : k = i.toNat
          · rw [if_pos e4, e4, dz_up_eq]
          · rw [if_neg e4, dz_up_k (by omega)]
            exact e2 k hk
        · rw [rup_ne e, dz_up_k (by omega)]
          exact (htxt r2 hr2).2 k hk
      · refine xk_1 ?_
        refine xr_iff hc rfl (by simp [dz_cmp]) ?_
        refine xr_aloadn hc rfl rfl ?_
        refine xr_iconst hc rfl ?_
        refine xr_callv1 hc rfl (by first | assumption | rfl) rfl rfl rfl (Nat.le_of_ble_eq_true rfl) (Nat.zero_le _) (Nat.zero_le _) ?_
        refine D_find hl hR hW (by omega) (fun M2 z1 z2 => ?_)
        refine xk_1 ?_
        refine xr_ireturn hc rfl rfl (Nat.zero_le _) (Nat.zero_le _) ?_
        simp only [o_put] at hQ
        repeat (first | rw [if_pos (by omega)] at hQ | rw [if_neg (by omega)] at hQ)
        try dsimp only at hQ
        exact hQ M2 z1 z2
    · refine xr_aloadn hc rfl rfl ?_
      refine xr_iconst hc rfl ?_
      refine xr_callv1 hc rfl (by first | assumption | rfl) rfl rfl rfl (Nat.le_of_ble_eq_true rfl) (Nat.zero_le _) (Nat.zero_le _) ?_
      refine D_find hl hR hW (by omega) (fun M2 z1 z2 => ?_)
      refine xk_1 ?_
      refine xr_ireturn hc rfl rfl (Nat.zero_le _) (Nat.zero_le _) ?_
      simp only [o_put] at hQ
      repeat (first | rw [if_pos (by omega)] at hQ | rw [if_neg (by omega)] at hQ)
      try dsimp only at hQ
      exact hQ M2 z1 z2
  · refine xk_1 ?_
    refine xr_iff hc rfl (by simp [dz_cmp]) ?_
    refine xr_iconst hc rfl ?_
    refine xr_ireturn hc rfl rfl (Nat.zero_le _) (Nat.zero_le _) ?_
    simp only [o_put] at hQ
    repeat (first | rw [if_pos (by omega)] at hQ | rw [if_neg (by omega)] at hQ)
    try dsimp only at hQ
    exact hQ M (fun _ _ _ => rfl) hR
