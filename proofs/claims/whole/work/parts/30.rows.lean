/-! The class: rows, texts. Written by l2_30.py. -/
def rup (f : Nat → Nat → Int) (i : Nat) (g : Nat → Int) : Nat → Nat → Int := fun r => if r = i then g else f r
theorem rup_eq (f : Nat → Nat → Int) (i : Nat) (g : Nat → Int) : rup f i g i = g := if_pos rfl
theorem rup_ne {f : Nat → Nat → Int} {i r : Nat} {g : Nat → Int} (h : r ≠ i) : rup f i g r = f r := if_neg h
set_option maxRecDepth 100000 in
theorem S_fillL {xo : Nat → List Int} {d : Nat} {Q : dz_Q} {sh : List (Nat ⊕ (Nat × Nat))} {rf : Nat → Nat → Nat} {M : Nat → Nat → Int} {q len : Nat} {v : Int} (ha : sh[q]? = some (.inr (1, len))) (hlen : len < 2147483647) (hQ : ∀ M2 : Nat → Nat → Int, (∀ q2 k, q2 ≠ q → M2 q2 k = M q2 k) → (∀ k, k < len → M2 q k = v) → Q none (sh, rf, M2)) : dz_E dz_pp xo (d + 1) 217 [dz_r q, dz_l v] (sh, rf, M) Q := by
  refine ⟨Nat.le_of_ble_eq_true rfl, ?_⟩
  have hc := dz_E_m dz_pp xo (d + 0)
  show dz_X (dz_E dz_pp xo (d + 0)) dz_pp xo (dz_pp 217) Q 0 [some (dz_r q), some (dz_l v), none, none, none] [] 0 0 (sh, rf, M)
  have lp : ∀ (n : Nat) (i : Nat) (M1 : Nat → Nat → Int), i + n = len → (∀ q2 k, q2 ≠ q → M1 q2 k = M q2 k) → (∀ k, k < i → M1 q k = v) → dz_X (dz_E dz_pp xo (d + 0)) dz_pp xo (dz_pp 217) Q 6 [some (dz_r q), some (dz_l v), none, some (dz_i (i : Int)), some (dz_i (len : Int))] [] 0 0 (sh, rf, M1) := by
    intro n
    induction n with
    | zero =>
      intro i M1 hi h1 h2
      refine xr_iloadn hc rfl rfl ?_
      refine xr_iload hc rfl rfl ?_
      refine xr_icmp_ge hc rfl (t := 22) rfl (fun b9 => ?_) (fun b9 => ?_)
      · refine xr_return hc rfl rfl (Nat.zero_le _) (Nat.zero_le _) ?_
        exact hQ M1 h1 (fun k hk => h2 k (by omega))
      · omega
    | succ n ih =>
      intro i M1 hi h1 h2
      refine xr_iloadn hc rfl rfl ?_
      refine xr_iload hc rfl rfl ?_
      refine xr_icmp_ge hc rfl (t := 22) rfl (fun b9 => ?_) (fun b9 => ?_)
      · omega
      · refine xr_aloadn hc rfl rfl ?_
        refine xr_iloadn hc rfl rfl ?_
        refine xr_lloadn hc rfl rfl ?_
        refine xr_lastore hc rfl (by first | assumption | rfl) (by first | omega | (unfold dz_w; omega)) (by first | omega | (unfold dz_w; omega)) ?_
        refine xr_iincz3 hc rfl rfl (by first | exact dz_wid (by first | omega | (unfold dz_w; omega)) (by first | omega | (unfold dz_w; omega)) | rfl) ?_
        refine xr_goto hc rfl (t := 6) rfl ?_
        refine ih (i + 1) _ (by omega) (fun q2 k u => by rw [dz_up_ne u, h1 q2 k u]) (fun k hk => ?_)
        rw [Int.toNat_natCast]
        by_cases e : k = i
        · subst e
          rw [dz_up_eq]
        · rw [dz_up_k e]
          exact h2 k (by omega)
  refine xr_iconst hc rfl ?_
  refine xr_istore3 hc rfl rfl ?_
  refine xr_aloadn hc rfl rfl ?_
  first | refine xr_alen hc rfl (by first | assumption | rfl) ?_ | refine xr_aleno hc rfl ?_
  refine xr_istore4 hc rfl rfl ?_
  exact lp len 0 M (by omega) (fun _ _ _ => rfl) (fun k hk => by omega)
set_option maxRecDepth 100000 in
theorem S_fillI {xo : Nat → List Int} {d : Nat} {Q : dz_Q} {sh : List (Nat ⊕ (Nat × Nat))} {rf : Nat → Nat → Nat} {M : Nat → Nat → Int} {q len : Nat} {v : Int} (ha : sh[q]? = some (.inr (0, len))) (hlen : len < 2147483647) (hQ : ∀ M2 : Nat → Nat → Int, (∀ q2 k, q2 ≠ q → M2 q2 k = M q2 k) → (∀ k, k < len → M2 q k = v) → Q none (sh, rf, M2)) : dz_E dz_pp xo (d + 1) 218 [dz_r q, dz_i v] (sh, rf, M) Q := by
  refine ⟨Nat.le_of_ble_eq_true rfl, ?_⟩
  have hc := dz_E_m dz_pp xo (d + 0)
  show dz_X (dz_E dz_pp xo (d + 0)) dz_pp xo (dz_pp 218) Q 0 [some (dz_r q), some (dz_i v), none, none] [] 0 0 (sh, rf, M)
  have lp : ∀ (n : Nat) (i : Nat) (M1 : Nat → Nat → Int), i + n = len → (∀ q2 k, q2 ≠ q → M1 q2 k = M q2 k) → (∀ k, k < i → M1 q k = v) → dz_X (dz_E dz_pp xo (d + 0)) dz_pp xo (dz_pp 218) Q 5 [some (dz_r q), some (dz_i v), some (dz_i (i : Int)), some (dz_i (len : Int))] [] 0 0 (sh, rf, M1) := by
    intro n
    induction n with
    | zero =>
      intro i M1 hi h1 h2
      refine xr_iloadn hc rfl rfl ?_
      refine xr_iloadn hc rfl rfl ?_
      refine xr_icmp_ge hc rfl (t := 20) rfl (fun b7 => ?_) (fun b7 => ?_)
      · refine xr_return hc rfl rfl (Nat.zero_le _) (Nat.zero_le _) ?_
        exact hQ M1 h1 (fun k hk => h2 k (by omega))
      · omega
    | succ n ih =>
      intro i M1 hi h1 h2
      refine xr_iloadn hc rfl rfl ?_
      refine xr_iloadn hc rfl rfl ?_
      refine xr_icmp_ge hc rfl (t := 20) rfl (fun b7 => ?_) (fun b7 => ?_)
      · omega
      · refine xr_aloadn hc rfl rfl ?_
        refine xr_iloadn hc rfl rfl ?_
        refine xr_iloadn hc rfl rfl ?_
        refine xr_iastore hc rfl (by first | assumption | rfl) (by first | omega | (unfold dz_w; omega)) (by first | omega | (unfold dz_w; omega)) ?_
        refine xr_iincz2 hc rfl rfl (by first | exact dz_wid (by first | omega | (unfold dz_w; omega)) (by first | omega | (unfold dz_w; omega)) | rfl) ?_
        refine xr_goto hc rfl (t := 5) rfl ?_
        refine ih (i + 1) _ (by omega) (fun q2 k u => by rw [dz_up_ne u, h1 q2 k u]) (fun k hk => ?_)
        rw [Int.toNat_natCast]
        by_cases e : k = i
        · subst e
          rw [dz_up_eq]
        · rw [dz_up_k e]
          exact h2 k (by omega)
  refine xr_iconst hc rfl ?_
  refine xr_istore2 hc rfl rfl ?_
  refine xr_aloadn hc rfl rfl ?_
  first | refine xr_alen hc rfl (by first | assumption | rfl) ?_ | refine xr_aleno hc rfl ?_
  refine xr_istore3 hc rfl rfl ?_
  exact lp len 0 M (by omega) (fun _ _ _ => rfl) (fun k hk => by omega)
set_option maxRecDepth 100000 in
theorem S_fillB {xo : Nat → List Int} {d : Nat} {Q : dz_Q} {sh : List (Nat ⊕ (Nat × Nat))} {rf : Nat → Nat → Nat} {M : Nat → Nat → Int} {q len : Nat} {v : Int} (ha : sh[q]? = some (.inr (2, len))) (hlen : len < 2147483647) (hQ : ∀ M2 : Nat → Nat → Int, (∀ q2 k, q2 ≠ q → M2 q2 k = M q2 k) → (∀ k, k < len → M2 q k = dz_b v) → Q none (sh, rf, M2)) : dz_E dz_pp xo (d + 1) 219 [dz_r q, dz_i v] (sh, rf, M) Q := by
  refine ⟨Nat.le_of_ble_eq_true rfl, ?_⟩
  have hc := dz_E_m dz_pp xo (d + 0)
  show dz_X (dz_E dz_pp xo (d + 0)) dz_pp xo (dz_pp 219) Q 0 [some (dz_r q), some (dz_i v), none, none] [] 0 0 (sh, rf, M)
  have lp : ∀ (n : Nat) (i : Nat) (M1 : Nat → Nat → Int), i + n = len → (∀ q2 k, q2 ≠ q → M1 q2 k = M q2 k) → (∀ k, k < i → M1 q k = dz_b v) → dz_X (dz_E dz_pp xo (d + 0)) dz_pp xo (dz_pp 219) Q 5 [some (dz_r q), some (dz_i v), some (dz_i (i : Int)), some (dz_i (len : Int))] [] 0 0 (sh, rf, M1) := by
    intro n
    induction n with
    | zero =>
      intro i M1 hi h1 h2
      refine xr_iloadn hc rfl rfl ?_
      refine xr_iloadn hc rfl rfl ?_
      refine xr_icmp_ge hc rfl (t := 20) rfl (fun b7 => ?_) (fun b7 => ?_)
      · refine xr_return hc rfl rfl (Nat.zero_le _) (Nat.zero_le _) ?_
        exact hQ M1 h1 (fun k hk => h2 k (by omega))
      · omega
    | succ n ih =>
      intro i M1 hi h1 h2
      refine xr_iloadn hc rfl rfl ?_
      refine xr_iloadn hc rfl rfl ?_
      refine xr_icmp_ge hc rfl (t := 20) rfl (fun b7 => ?_) (fun b7 => ?_)
      · omega
      · refine xr_aloadn hc rfl rfl ?_
        refine xr_iloadn hc rfl rfl ?_
        refine xr_iloadn hc rfl rfl ?_
        refine xr_bastore hc rfl (by first | assumption | rfl) (by first | omega | (unfold dz_w; omega)) (by first | omega | (unfold dz_w; omega)) ?_
        refine xr_iincz2 hc rfl rfl (by first | exact dz_wid (by first | omega | (unfold dz_w; omega)) (by first | omega | (unfold dz_w; omega)) | rfl) ?_
        refine xr_goto hc rfl (t := 5) rfl ?_
        refine ih (i + 1) _ (by omega) (fun q2 k u => by rw [dz_up_ne u, h1 q2 k u]) (fun k hk => ?_)
        rw [Int.toNat_natCast]
        by_cases e : k = i
        · subst e
          rw [dz_up_eq]
        · rw [dz_up_k e]
          exact h2 k (by omega)
  refine xr_iconst hc rfl ?_
  refine xr_istore2 hc rfl rfl ?_
  refine xr_aloadn hc rfl rfl ?_
  first | refine xr_alen hc rfl (by first | assumption | rfl) ?_ | refine xr_aleno hc rfl ?_
  refine xr_istore3 hc rfl rfl ?_
  exact lp len 0 M (by omega) (fun _ _ _ => rfl) (fun k hk => by omega)
set_option maxRecDepth 100000 in
theorem S_refuse {xo : Nat → List Int} {d : Nat} {Q : dz_Q} {sh : List (Nat ⊕ (Nat × Nat))} {rf : Nat → Nat → Nat} {M : Nat → Nat → Int} {rs : Nat → Int} {it : Nat → Nat → Int} {ts : Nat → Int} {ch : Nat → Nat → Int} {tl up lo : Int} {fn : Nat → Int} {w pl : Int} {kd wt nx : Nat → Int} {n : Nat} {hs : Nat → Nat → Int} {kp : Nat → Int} {kh : Nat → Nat → Nat → Int} {f : Int} (hl : cl sh rf) (hR : RX M rs it ts ch tl up lo fn w pl kd wt nx n hs kp kh) (hW : WF rs it ts ch tl up lo fn w pl kd wt nx n hs kp kh) (hf : 1 ≤ f ∧ f ≤ 5) (hQ : ∀ M2 : Nat → Nat → Int, (∀ q2 k2, 115 ≤ q2 → M2 q2 k2 = M q2 k2) → RX M2 rs it ts ch tl up lo (rfu fn f.toNat) w pl kd wt nx n hs kp kh → Q (some (dz_i (-3))) (sh, rf, M2)) : dz_E dz_pp xo (d + 1) 102 [dz_r 0, dz_i f] (sh, rf, M) Q := by
  refine ⟨Nat.le_of_ble_eq_true rfl, ?_⟩
  have hc := dz_E_m dz_pp xo (d + 0)
  show dz_X (dz_E dz_pp xo (d + 0)) dz_pp xo (dz_pp 102) Q 0 [some (dz_r 0), some (dz_i f)] [] 0 0 (sh, rf, M)
  obtain ⟨c0, c1, c2, c3, c4, c5, c6, c7, c8, c9, c10, c11, c12, c13, c14, c15, c16, c17, c18, c19, c20, c21, c22, c23, c24, c25, c26, c27, c28, c29, c30, c31, c32, c33, c34, c35, c36⟩ := id hl
  obtain ⟨hrow, htxt, htl, hup, hlo, hfn, hdr, hkp, hrb⟩ := id hR
  obtain ⟨wrow, wtxt, wdr, wst, wkp⟩ := id hW
  obtain ⟨f1, f2⟩ := hfn
  refine xr_aloadn hc rfl rfl ?_
  refine xr_iloadn hc rfl rfl ?_
  refine xr_putfi hc rfl rfl (by first | assumption | rfl) ?_
  refine xr_aloadn hc rfl rfl ?_
  refine xr_getfr hc rfl rfl (by first | assumption | rfl) (by first | assumption | rfl) ?_
  refine xr_iloadn hc rfl rfl ?_
  refine xr_dup2i hc rfl ?_
  first | refine xr_iaload hc rfl (by first | assumption | rfl) (by first | omega | (unfold dz_w; omega)) (by first | omega | (unfold dz_w; omega)) ?_ | refine xr_ialoado hc rfl (by first | omega | (unfold dz_w; omega)) (by first | omega | (unfold dz_w; omega)) ?_
  refine xr_iconst hc rfl ?_
  refine xr_iaddz hc rfl (by first | exact dz_wid (by first | omega | (unfold dz_w; omega)) (by first | omega | (unfold dz_w; omega)) | rfl) ?_
  refine xr_iastore hc rfl (by first | assumption | rfl) (by first | omega | (unfold dz_w; omega)) (by first | omega | (unfold dz_w; omega)) ?_
  refine xr_bipush hc rfl ?_
  refine xr_ireturn hc rfl rfl (Nat.zero_le _) (Nat.zero_le _) ?_
  have ef : ((f.toNat : Nat) : Int) = f := by omega
  refine hQ _ (fun q2 k2 u => by rw [dz_up_ne (by omega), dz_up_ne (by omega)]) ⟨rowX_fr hrow (fun q2 k2 u1 u2 => by rw [dz_up_ne (by omega), dz_up_ne (by omega)]), txtX_fr htxt (fun q2 k2 u1 u2 => by rw [dz_up_ne (by omega), dz_up_ne (by omega)]), by rw [dz_up_ne (by omega), dz_up_k (by omega)]; exact htl, by rw [dz_up_ne (by omega), dz_up_k (by omega)]; exact hup, by rw [dz_up_ne (by omega), dz_up_k (by omega)]; exact hlo, ⟨?_, fun k h1 h2 => ?_⟩, drX_fr hdr (fun q2 k2 u1 u2 => by rw [dz_up_ne (by omega), dz_up_ne (by omega)]), kepX_fr hkp (fun q2 k2 u1 u2 => by rw [dz_up_ne (by omega), dz_up_ne (by omega)]), rbX_fr hrb (fun q2 k2 u1 => by rw [dz_up_ne (by omega), dz_up_ne (by omega)])⟩
  · rw [dz_up_ne (by omega), dz_up_eq]
    unfold rfu
    rw [if_pos rfl, ef]
  · unfold rfu
    rw [if_neg (by omega), up_fup, dz_up_ne (by omega)]
    unfold fup
    by_cases e : k = f.toNat
    · rw [if_pos e, if_pos e, f2 _ (by omega) (by omega), e]
    · rw [if_neg e, if_neg e]
      exact f2 k h1 h2
set_option maxRecDepth 100000 in
theorem S_refusedPlace {xo : Nat → List Int} {d : Nat} {Q : dz_Q} {sh : List (Nat ⊕ (Nat × Nat))} {rf : Nat → Nat → Nat} {M : Nat → Nat → Int} {rs : Nat → Int} {it : Nat → Nat → Int} {ts : Nat → Int} {ch : Nat → Nat → Int} {tl up lo : Int} {fn : Nat → Int} {w pl : Int} {kd wt nx : Nat → Int} {n : Nat} {hs : Nat → Nat → Int} {kp : Nat → Int} {kh : Nat → Nat → Nat → Int} {r i : Int} (hl : cl sh rf) (hR : RX M rs it ts ch tl up lo fn w pl kd wt nx n hs kp kh) (hW : WF rs it ts ch tl up lo fn w pl kd wt nx n hs kp kh) (h1 : (r < 0 ∨ 5 < r) → Q (some (dz_i (-1))) (sh, rf, M)) (h2 : 0 ≤ r → r ≤ 5 → rs r.toNat = -1 → ∀ M2 : Nat → Nat → Int, (∀ q2 k2, 115 ≤ q2 → M2 q2 k2 = M q2 k2) → RX M2 rs it ts ch tl up lo (rfu fn 1) w pl kd wt nx n hs kp kh → Q (some (dz_i (-3))) (sh, rf, M2)) (h3 : 0 ≤ r → r ≤ 5 → rs r.toNat ≠ -1 → 0 ≤ i → i < rs r.toNat → Q (some (dz_i 0)) (sh, rf, M)) (h4 : 0 ≤ r → r ≤ 5 → rs r.toNat ≠ -1 → (i < 0 ∨ rs r.toNat ≤ i) → ∀ M2 : Nat → Nat → Int, (∀ q2 k2, 115 ≤ q2 → M2 q2 k2 = M q2 k2) → RX M2 rs it ts ch tl up lo (rfu fn 2) w pl kd wt nx n hs kp kh → Q (some (dz_i (-3))) (sh, rf, M2)) : dz_E dz_pp xo (d + 3) 103 [dz_r 0, dz_i r, dz_i i] (sh, rf, M) Q := by
  refine ⟨Nat.le_of_ble_eq_true rfl, ?_⟩
  have hc := dz_E_m dz_pp xo (d + 2)
  show dz_X (dz_E dz_pp xo (d + 2)) dz_pp xo (dz_pp 103) Q 0 [some (dz_r 0), some (dz_i r), some (dz_i i)] [] 0 0 (sh, rf, M)
  obtain ⟨c0, c1, c2, c3, c4, c5, c6, c7, c8, c9, c10, c11, c12, c13, c14, c15, c16, c17, c18, c19, c20, c21, c22, c23, c24, c25, c26, c27, c28, c29, c30, c31, c32, c33, c34, c35, c36⟩ := id hl
  obtain ⟨hrow, htxt, htl, hup, hlo, hfn, hdr, hkp, hrb⟩ := id hR
  obtain ⟨wrow, wtxt, wdr, wst, wkp⟩ := id hW
  refine xr_iloadn hc rfl rfl ?_
  refine xr_calls1 hc rfl (by decide) rfl rfl rfl (Nat.le_of_ble_eq_true rfl) (Nat.zero_le _) (Nat.zero_le _) ?_
  refine S_isRow (fun u1 v1 => ?_) (fun u1 => ?_)
  · refine xk_1 ?_
    refine xr_ift hc rfl (t := 9) rfl (by simp [dz_cmp]) ?_
    obtain ⟨e1, e2⟩ := hrow r.toNat (by omega)
    have w1 := wrow r.toNat (by omega)
    have c3r := c3 r.toNat (by omega)
    have c4r := c4 r.toNat (by omega)
    refine xr_aloadn hc rfl rfl ?_
    refine xr_getfr hc rfl rfl (by first | assumption | rfl) (by first | assumption | rfl) ?_
    refine xr_iloadn hc rfl rfl ?_
    first | refine xr_iaload hc rfl (by first | assumption | rfl) (by first | omega | (unfold dz_w; omega)) (by first | omega | (unfold dz_w; omega)) ?_ | refine xr_ialoado hc rfl (by first | omega | (unfold dz_w; omega)) (by first | omega | (unfold dz_w; omega)) ?_
    rw [e1]
    refine xr_iconst hc rfl ?_
    refine xr_icmp_ne hc rfl (t := 25) rfl (fun b16 => ?_) (fun b16 => ?_)
    · refine xr_iloadn hc rfl rfl ?_
      refine xr_iconst hc rfl ?_
      refine xr_aloadn hc rfl rfl ?_
      refine xr_getfr hc rfl rfl (by first | assumption | rfl) (by first | assumption | rfl) ?_
      refine xr_iloadn hc rfl rfl ?_
      first | refine xr_iaload hc rfl (by first | assumption | rfl) (by first | omega | (unfold dz_w; omega)) (by first | omega | (unfold dz_w; omega)) ?_ | refine xr_ialoado hc rfl (by first | omega | (unfold dz_w; omega)) (by first | omega | (unfold dz_w; omega)) ?_
      rw [e1]
      refine xr_iconst hc rfl ?_
      refine xr_isubz hc rfl (by first | exact dz_wid (by first | omega | (unfold dz_w; omega)) (by first | omega | (unfold dz_w; omega)) | rfl) ?_
      refine xr_calls3 hc rfl (by decide) rfl rfl rfl (Nat.le_of_ble_eq_true rfl) (Nat.zero_le _) (Nat.zero_le _) ?_
      refine S_isWithin (fun u2 v2 => ?_) (fun u2 => ?_)
      · refine xk_1 ?_
        refine xr_iff hc rfl (by simp [dz_cmp]) ?_
        refine xr_iconst hc rfl ?_
        refine xr_goto hc rfl (t := 50) rfl ?_
        refine xr_ireturn hc rfl rfl (Nat.zero_le _) (Nat.zero_le _) ?_
        first
          | exact h3 u1 v1 (by omega) u2 (by omega)
          | exact h4 u1 v1 (by omega) (by omega) M2 z1 z2
      · refine xk_1 ?_
        refine xr_ift hc rfl (t := 45) rfl (by simp [dz_cmp]) ?_
        refine xr_aloadn hc rfl rfl ?_
        refine xr_iconst hc rfl ?_
        refine xr_callv1 hc rfl (by first | assumption | rfl) rfl rfl rfl (Nat.le_of_ble_eq_true rfl) (Nat.zero_le _) (Nat.zero_le _) ?_
        refine S_refuse hl hR hW (by omega) (fun M2 z1 z2 => ?_)
        refine xk_1 ?_
        refine xr_ireturn hc rfl rfl (Nat.zero_le _) (Nat.zero_le _) ?_
        first
          | exact h3 u1 v1 (by omega) u2 (by omega)
          | exact h4 u1 v1 (by omega) (by omega) M2 z1 z2
    · refine xr_aloadn hc rfl rfl ?_
      refine xr_iconst hc rfl ?_
      refine xr_callv1 hc rfl (by first | assumption | rfl) rfl rfl rfl (Nat.le_of_ble_eq_true rfl) (Nat.zero_le _) (Nat.zero_le _) ?_
      refine S_refuse hl hR hW (by omega) (fun M2 z1 z2 => ?_)
      refine xk_1 ?_
      refine xr_ireturn hc rfl rfl (Nat.zero_le _) (Nat.zero_le _) ?_
      exact h2 u1 v1 (by omega) M2 z1 z2
  · refine xk_1 ?_
    refine xr_iff hc rfl (by simp [dz_cmp]) ?_
    refine xr_iconst hc rfl ?_
    refine xr_ireturn hc rfl rfl (Nat.zero_le _) (Nat.zero_le _) ?_
    exact h1 u1
def o_row (rs : Nat → Int) (it : Nat → Nat → Int) (fn : Nat → Int) (r n : Int) : Int × (Nat → Int) × (Nat → Nat → Int) × (Nat → Int) := if r < 0 ∨ 5 < r ∨ 40 < n then (-1, rs, it, fn) else if n < 0 then (-3, rs, it, rfu fn 5) else (n, fup rs r.toNat n, rup it r.toNat (fun _ => 0), fn)
set_option maxRecDepth 100000 in
theorem X_row {xo : Nat → List Int} {d : Nat} {Q : dz_Q} {sh : List (Nat ⊕ (Nat × Nat))} {rf : Nat → Nat → Nat} {M : Nat → Nat → Int} {rs : Nat → Int} {it : Nat → Nat → Int} {ts : Nat → Int} {ch : Nat → Nat → Int} {tl up lo : Int} {fn : Nat → Int} {w pl : Int} {kd wt nx : Nat → Int} {n : Nat} {hs : Nat → Nat → Int} {kp : Nat → Int} {kh : Nat → Nat → Nat → Int} {r m : Int} (hl : cl sh rf) (hR : RX M rs it ts ch tl up lo fn w pl kd wt nx n hs kp kh) (hW : WF rs it ts ch tl up lo fn w pl kd wt nx n hs kp kh) (hQ : ∀ M2 : Nat → Nat → Int, (∀ q2 k2, 115 ≤ q2 → M2 q2 k2 = M q2 k2) → RX M2 (o_row rs it fn r m).2.1 (o_row rs it fn r m).2.2.1 ts ch tl up lo (o_row rs it fn r m).2.2.2 w pl kd wt nx n hs kp kh → Q (some (dz_i ((o_row rs it fn r m).1))) (sh, rf, M2)) : dz_E dz_pp xo (d + 3) 53 [dz_r 0, dz_i r, dz_i m] (sh, rf, M) Q := by
  refine ⟨Nat.le_of_ble_eq_true rfl, ?_⟩
  have hc := dz_E_m dz_pp xo (d + 2)
  show dz_X (dz_E dz_pp xo (d + 2)) dz_pp xo (dz_pp 53) Q 0 [some (dz_r 0), some (dz_i r), some (dz_i m)] [] 0 0 (sh, rf, M)
  obtain ⟨c0, c1, c2, c3, c4, c5, c6, c7, c8, c9, c10, c11, c12, c13, c14, c15, c16, c17, c18, c19, c20, c21, c22, c23, c24, c25, c26, c27, c28, c29, c30, c31, c32, c33, c34, c35, c36⟩ := id hl
  obtain ⟨hrow, htxt, htl, hup, hlo, hfn, hdr, hkp, hrb⟩ := id hR
  obtain ⟨wrow, wtxt, wdr, wst, wkp⟩ := id hW
  refine xr_iloadn hc rfl rfl ?_
  refine xr_calls1 hc rfl (by decide) rfl rfl rfl (Nat.le_of_ble_eq_true rfl) (Nat.zero_le _) (Nat.zero_le _) ?_
  refine S_isRow (fun u1 v1 => ?_) (fun u1 => ?_)
  · refine xk_1 ?_
    refine xr_iff hc rfl (by simp [dz_cmp]) ?_
    refine xr_iloadn hc rfl rfl ?_
    refine xr_bipush hc rfl ?_
    refine xr_icmp_le hc rfl (t := 15) rfl (fun b10 => ?_) (fun b10 => ?_)
    · refine xr_iloadn hc rfl rfl ?_
      refine xr_if_ge hc rfl (t := 25) rfl (fun b16 => ?_) (fun b16 => ?_)
      · obtain ⟨e1, e2⟩ := hrow r.toNat (by omega)
        have w1 := wrow r.toNat (by omega)
        have c3r := c3 r.toNat (by omega)
        have c4r := c4 r.toNat (by omega)
        refine xr_aloadn hc rfl rfl ?_
        refine xr_getfr hc rfl rfl (by first | assumption | rfl) (by first | assumption | rfl) ?_
        refine xr_iloadn hc rfl rfl ?_
        refine xr_aaload hc rfl (by first | assumption | rfl) (by decide) (by first | omega | (unfold dz_w; omega)) (by first | omega | (unfold dz_w; omega)) (by first | assumption | rfl) ?_
        refine xr_iconst hc rfl ?_
        refine xr_calls2 hc rfl (by decide) rfl rfl rfl (Nat.le_of_ble_eq_true rfl) (Nat.zero_le _) (Nat.zero_le _) ?_
        refine S_fillI c4r (by omega) (fun M2 z1 z2 => ?_)
        refine xk_0 ?_
        refine xr_aloadn hc rfl rfl ?_
        refine xr_getfr hc rfl rfl (by first | assumption | rfl) (by first | assumption | rfl) ?_
        refine xr_iloadn hc rfl rfl ?_
        refine xr_iloadn hc rfl rfl ?_
        refine xr_iastore hc rfl (by first | assumption | rfl) (by first | omega | (unfold dz_w; omega)) (by first | omega | (unfold dz_w; omega)) ?_
        refine xr_iloadn hc rfl rfl ?_
        refine xr_ireturn hc rfl rfl (Nat.zero_le _) (Nat.zero_le _) ?_
        simp only [o_row] at hQ
        repeat (first | rw [if_pos (by omega)] at hQ | rw [if_neg (by omega)] at hQ)
        try dsimp only at hQ
        refine hQ _ (fun q2 k2 u => by rw [dz_up_ne (by omega), z1 _ _ (by omega)]) ⟨fun r2 hr2 => ?_, txtX_fr htxt (fun q2 k2 u1 u2 => by rw [dz_up_ne (by omega), z1 _ _ (by omega)]), Eq.trans (by rw [dz_up_ne (by omega), z1 _ _ (by omega)]) htl, Eq.trans (by rw [dz_up_ne (by omega), z1 _ _ (by omega)]) hup, Eq.trans (by rw [dz_up_ne (by omega), z1 _ _ (by omega)]) hlo, fndX_fr hfn (by rw [dz_up_ne (by omega), z1 _ _ (by omega)]) (fun k2 => by rw [dz_up_ne (by omega), z1 _ _ (by omega)]), drX_fr hdr (fun q2 k2 u1 u2 => by rw [dz_up_ne (by omega), z1 _ _ (by omega)]), kepX_fr hkp (fun q2 k2 u1 u2 => by rw [dz_up_ne (by omega), z1 _ _ (by omega)]), rbX_fr hrb (fun q2 k2 u1 => by rw [dz_up_ne (by omega), z1 _ _ (by omega)])⟩
        rw [dz_up_ne (show 2 + r2 ≠ 8 by omega), up_fup]
        by_cases e : r2 = r.toNat
        · subst e
          rw [fup_eq, fup_eq]
          refine ⟨rfl, fun k hk => ?_⟩
          rw [z2 k (by omega), rup_eq]
        · rw [fup_ne e, fup_ne e, rup_ne e, z1 _ _ (by omega)]
          exact ⟨(hrow r2 hr2).1, fun k hk => by rw [z1 _ _ (by omega)]; exact (hrow r2 hr2).2 k hk⟩
      · refine xr_aloadn hc rfl rfl ?_
        refine xr_iconst hc rfl ?_
        refine xr_callv1 hc rfl (by first | assumption | rfl) rfl rfl rfl (Nat.le_of_ble_eq_true rfl) (Nat.zero_le _) (Nat.zero_le _) ?_
        refine S_refuse hl hR hW (by omega) (fun M2 z1 z2 => ?_)
        refine xk_1 ?_
        refine xr_ireturn hc rfl rfl (Nat.zero_le _) (Nat.zero_le _) ?_
        simp only [o_row] at hQ
        repeat (first | rw [if_pos (by omega)] at hQ | rw [if_neg (by omega)] at hQ)
        try dsimp only at hQ
        exact hQ M2 z1 z2
    · refine xr_iconst hc rfl ?_
      refine xr_ireturn hc rfl rfl (Nat.zero_le _) (Nat.zero_le _) ?_
      simp only [o_row] at hQ
      repeat (first | rw [if_pos (by omega)] at hQ | rw [if_neg (by omega)] at hQ)
      try dsimp only at hQ
      exact hQ M (fun _ _ _ => rfl) hR
  · refine xk_1 ?_
    refine xr_ift hc rfl (t := 13) rfl (by simp [dz_cmp]) ?_
    refine xr_iconst hc rfl ?_
    refine xr_ireturn hc rfl rfl (Nat.zero_le _) (Nat.zero_le _) ?_
    simp only [o_row] at hQ
    repeat (first | rw [if_pos (by omega)] at hQ | rw [if_neg (by omega)] at hQ)
    try dsimp only at hQ
    exact hQ M (fun _ _ _ => rfl) hR
def o_lay (rs : Nat → Int) (it : Nat → Nat → Int) (tl : Int) (fn : Nat → Int) (r i v : Int) : Int × (Nat → Nat → Int) × Int × (Nat → Int) := if r < 0 ∨ 5 < r then (-1, it, tl, fn) else if rs r.toNat = -1 then (-3, it, tl, rfu fn 1) else if i < 0 ∨ rs r.toNat ≤ i then (-3, it, tl, rfu fn 2) else (1, rup it r.toNat (fup (it r.toNat) i.toNat v), it r.toNat i.toNat, fn)
def o_at (rs : Nat → Int) (it : Nat → Nat → Int) (tl : Int) (fn : Nat → Int) (r i : Int) : Int × Int × (Nat → Int) := if r < 0 ∨ 5 < r then (-1, tl, fn) else if rs r.toNat = -1 then (-3, tl, rfu fn 1) else if i < 0 ∨ rs r.toNat ≤ i then (-3, tl, rfu fn 2) else (1, it r.toNat i.toNat, fn)
set_option maxRecDepth 100000 in
theorem X_lay {xo : Nat → List Int} {d : Nat} {Q : dz_Q} {sh : List (Nat ⊕ (Nat × Nat))} {rf : Nat → Nat → Nat} {M : Nat → Nat → Int} {rs : Nat → Int} {it : Nat → Nat → Int} {ts : Nat → Int} {ch : Nat → Nat → Int} {tl up lo : Int} {fn : Nat → Int} {w pl : Int} {kd wt nx : Nat → Int} {n : Nat} {hs : Nat → Nat → Int} {kp : Nat → Int} {kh : Nat → Nat → Nat → Int} {r i v : Int} (hl : cl sh rf) (hR : RX M rs it ts ch tl up lo fn w pl kd wt nx n hs kp kh) (hW : WF rs it ts ch tl up lo fn w pl kd wt nx n hs kp kh) (hQ : ∀ M2 : Nat → Nat → Int, (∀ q2 k2, 115 ≤ q2 → M2 q2 k2 = M q2 k2) → RX M2 rs (o_lay rs it tl fn r i v).2.1 ts ch (o_lay rs it tl fn r i v).2.2.1 up lo (o_lay rs it tl fn r i v).2.2.2 w pl kd wt nx n hs kp kh → Q (some (dz_i ((o_lay rs it tl fn r i v).1))) (sh, rf, M2)) : dz_E dz_pp xo (d + 4) 54 [dz_r 0, dz_i r, dz_i i, dz_i v] (sh, rf, M) Q := by
  refine ⟨Nat.le_of_ble_eq_true rfl, ?_⟩
  have hc := dz_E_m dz_pp xo (d + 3)
  show dz_X (dz_E dz_pp xo (d + 3)) dz_pp xo (dz_pp 54) Q 0 [some (dz_r 0), some (dz_i r), some (dz_i i), some (dz_i v), none] [] 0 0 (sh, rf, M)
  obtain ⟨c0, c1, c2, c3, c4, c5, c6, c7, c8, c9, c10, c11, c12, c13, c14, c15, c16, c17, c18, c19, c20, c21, c22, c23, c24, c25, c26, c27, c28, c29, c30, c31, c32, c33, c34, c35, c36⟩ := id hl
  obtain ⟨hrow, htxt, htl, hup, hlo, hfn, hdr, hkp, hrb⟩ := id hR
  obtain ⟨wrow, wtxt, wdr, wst, wkp⟩ := id hW
  refine xr_aloadn hc rfl rfl ?_
  refine xr_iloadn hc rfl rfl ?_
  refine xr_iloadn hc rfl rfl ?_
  refine xr_callv2 hc rfl (by first | assumption | rfl) rfl rfl rfl (Nat.le_of_ble_eq_true rfl) (Nat.zero_le _) (Nat.zero_le _) ?_
  refine S_refusedPlace hl hR hW (fun u1 => ?_) (fun u1 v1 u2 M2 z1 z2 => ?_) (fun u1 v1 u2 u3 v3 => ?_) (fun u1 v1 u2 u3 M2 z1 z2 => ?_)
  · refine xk_1 ?_
    refine xr_istore4 hc rfl rfl ?_
    refine xr_iload hc rfl rfl ?_
    refine xr_iff hc rfl (by simp [dz_cmp]) ?_
    refine xr_iload hc rfl rfl ?_
    refine xr_ireturn hc rfl rfl (Nat.zero_le _) (Nat.zero_le _) ?_
    simp only [o_lay] at hQ
    repeat (first | rw [if_pos (by omega)] at hQ | rw [if_neg (by omega)] at hQ)
    try dsimp only at hQ
    first
      | exact hQ M (fun _ _ _ => rfl) hR
      | exact hQ M2 z1 z2
  · refine xk_1 ?_
    refine xr_istore4 hc rfl rfl ?_
    refine xr_iload hc rfl rfl ?_
    refine xr_iff hc rfl (by simp [dz_cmp]) ?_
    refine xr_iload hc rfl rfl ?_
    refine xr_ireturn hc rfl rfl (Nat.zero_le _) (Nat.zero_le _) ?_
    simp only [o_lay] at hQ
    repeat (first | rw [if_pos (by omega)] at hQ | rw [if_neg (by omega)] at hQ)
    try dsimp only at hQ
    first
      | exact hQ M (fun _ _ _ => rfl) hR
      | exact hQ M2 z1 z2
  · refine xk_1 ?_
    refine xr_istore4 hc rfl rfl ?_
    refine xr_iload hc rfl rfl ?_
    refine xr_ift hc rfl (t := 16) rfl (by simp [dz_cmp]) ?_
    obtain ⟨e1, e2⟩ := hrow r.toNat (by omega)
    have w1 := wrow r.toNat (by omega)
    have c3r := c3 r.toNat (by omega)
    have c4r := c4 r.toNat (by omega)
    have hi3 := e2 i.toNat (by omega)
    refine xr_aloadn hc rfl rfl ?_
    refine xr_aloadn hc rfl rfl ?_
    refine xr_getfr hc rfl rfl (by first | assumption | rfl) (by first | assumption | rfl) ?_
    refine xr_iloadn hc rfl rfl ?_
    refine xr_aaload hc rfl (by first | assumption | rfl) (by decide) (by first | omega | (unfold dz_w; omega)) (by first | omega | (unfold dz_w; omega)) (by first | assumption | rfl) ?_
    refine xr_iloadn hc rfl rfl ?_
    first | refine xr_iaload hc rfl (by first | assumption | rfl) (by first | omega | (unfold dz_w; omega)) (by first | omega | (unfold dz_w; omega)) ?_ | refine xr_ialoado hc rfl (by first | omega | (unfold dz_w; omega)) (by first | omega | (unfold dz_w; omega)) ?_
    refine xr_putfi hc rfl rfl (by first | assumption | rfl) ?_
    refine xr_aloadn hc rfl rfl ?_
    refine xr_getfr hc rfl rfl (by first | assumption | rfl) (by first | assumption | rfl) ?_
    refine xr_iloadn hc rfl rfl ?_
    refine xr_aaload hc rfl (by first | assumption | rfl) (by decide) (by first | omega | (unfold dz_w; omega)) (by first | omega | (unfold dz_w; omega)) (by first | assumption | rfl) ?_
    refine xr_iloadn hc rfl rfl ?_
    refine xr_iloadn hc rfl rfl ?_
    refine xr_iastore hc rfl (by first | assumption | rfl) (by first | omega | (unfold dz_w; omega)) (by first | omega | (unfold dz_w; omega)) ?_
    refine xr_iconst hc rfl ?_
    refine xr_ireturn hc rfl rfl (Nat.zero_le _) (Nat.zero_le _) ?_
    simp only [o_lay] at hQ
    repeat (first | rw [if_pos (by omega)] at hQ | rw [if_neg (by omega)] at hQ)
    try dsimp only at hQ
    rw [hi3]
    refine hQ _ (fun q2 k2 u => by rw [dz_up_ne (by omega), dz_up_ne (by omega)]) ⟨fun r2 hr2 => ?_, txtX_fr htxt (fun q2 k2 u1 u2 => by rw [dz_up_ne (by omega), dz_up_ne (by omega)]), by rw [dz_up_ne (by omega), dz_up_eq], by rw [dz_up_ne (by omega), dz_up_k (by omega)]; exact hup, by rw [dz_up_ne (by omega), dz_up_k (by omega)]; exact hlo, fndX_fr hfn (by rw [dz_up_ne (by omega), dz_up_k (by omega)]) (fun k2 => by rw [dz_up_ne (by omega), dz_up_ne (by omega)]), drX_fr hdr (fun q2 k2 u1 u2 => by rw [dz_up_ne (by omega), dz_up_ne (by omega)]), kepX_fr hkp (fun q2 k2 u1 u2 => by rw [dz_up_ne (by omega), dz_up_ne (by omega)]), rbX_fr hrb (fun q2 k2 u1 => by rw [dz_up_ne (by omega), dz_up_ne (by omega)])⟩
    refine ⟨by rw [dz_up_ne (by omega), dz_up_ne (by omega)]; exact (hrow r2 hr2).1, fun k hk => ?_⟩
    show _ = rup it r.toNat (fup (it r.toNat) i.toNat v) r2 k
    by_cases e : r2 = r.toNat
    · subst e
      rw [up_fup, rup_eq, dz_up_ne (by omega)]
      unfold fup
      by_cases e3 : k = i.toNat
      · rw [if_pos e3, if_pos e3]
      · rw [if_neg e3, if_neg e3]
        exact e2 k hk
    · rw [rup_ne e, dz_up_ne (by omega), dz_up_ne (by omega)]
      exact (hrow r2 hr2).2 k hk
  · refine xk_1 ?_
    refine xr_istore4 hc rfl rfl ?_
    refine xr_iload hc rfl rfl ?_
    refine xr_iff hc rfl (by simp [dz_cmp]) ?_
    refine xr_iload hc rfl rfl ?_
    refine xr_ireturn hc rfl rfl (Nat.zero_le _) (Nat.zero_le _) ?_
    simp only [o_lay] at hQ
    repeat (first | rw [if_pos (by omega)] at hQ | rw [if_neg (by omega)] at hQ)
    try dsimp only at hQ
    first
      | exact hQ M (fun _ _ _ => rfl) hR
      | exact hQ M2 z1 z2
set_option maxRecDepth 100000 in
theorem X_at {xo : Nat → List Int} {d : Nat} {Q : dz_Q} {sh : List (Nat ⊕ (Nat × Nat))} {rf : Nat → Nat → Nat} {M : Nat → Nat → Int} {rs : Nat → Int} {it : Nat → Nat → Int} {ts : Nat → Int} {ch : Nat → Nat → Int} {tl up lo : Int} {fn : Nat → Int} {w pl : Int} {kd wt nx : Nat → Int} {n : Nat} {hs : Nat → Nat → Int} {kp : Nat → Int} {kh : Nat → Nat → Nat → Int} {r i : Int} (hl : cl sh rf) (hR : RX M rs it ts ch tl up lo fn w pl kd wt nx n hs kp kh) (hW : WF rs it ts ch tl up lo fn w pl kd wt nx n hs kp kh) (hQ : ∀ M2 : Nat → Nat → Int, (∀ q2 k2, 115 ≤ q2 → M2 q2 k2 = M q2 k2) → RX M2 rs it ts ch (o_at rs it tl fn r i).2.1 up lo (o_at rs it tl fn r i).2.2 w pl kd wt nx n hs kp kh → Q (some (dz_i ((o_at rs it tl fn r i).1))) (sh, rf, M2)) : dz_E dz_pp xo (d + 4) 55 [dz_r 0, dz_i r, dz_i i] (sh, rf, M) Q := by
  refine ⟨Nat.le_of_ble_eq_true rfl, ?_⟩
  have hc := dz_E_m dz_pp xo (d + 3)
  show dz_X (dz_E dz_pp xo (d + 3)) dz_pp xo (dz_pp 55) Q 0 [some (dz_r 0), some (dz_i r), some (dz_i i), none] [] 0 0 (sh, rf, M)
  obtain ⟨c0, c1, c2, c3, c4, c5, c6, c7, c8, c9, c10, c11, c12, c13, c14, c15, c16, c17, c18, c19, c20, c21, c22, c23, c24, c25, c26, c27, c28, c29, c30, c31, c32, c33, c34, c35, c36⟩ := id hl
  obtain ⟨hrow, htxt, htl, hup, hlo, hfn, hdr, hkp, hrb⟩ := id hR
  obtain ⟨wrow, wtxt, wdr, wst, wkp⟩ := id hW
  refine xr_aloadn hc rfl rfl ?_
  refine xr_iloadn hc rfl rfl ?_
  refine xr_iloadn hc rfl rfl ?_
  refine xr_callv2 hc rfl (by first | assumption | rfl) rfl rfl rfl (Nat.le_of_ble_eq_true rfl) (Nat.zero_le _) (Nat.zero_le _) ?_
  refine S_refusedPlace hl hR hW (fun u1 => ?_) (fun u1 v1 u2 M2 z1 z2 => ?_) (fun u1 v1 u2 u3 v3 => ?_) (fun u1 v1 u2 u3 M2 z1 z2 => ?_)
  · refine xk_1 ?_
    refine xr_istore3 hc rfl rfl ?_
    refine xr_iloadn hc rfl rfl ?_
    refine xr_iff hc rfl (by simp [dz_cmp]) ?_
    refine xr_iloadn hc rfl rfl ?_
    refine xr_ireturn hc rfl rfl (Nat.zero_le _) (Nat.zero_le _) ?_
    simp only [o_at] at hQ
    repeat (first | rw [if_pos (by omega)] at hQ | rw [if_neg (by omega)] at hQ)
    try dsimp only at hQ
    first
      | exact hQ M (fun _ _ _ => rfl) hR
      | exact hQ M2 z1 z2
  · refine xk_1 ?_
    refine xr_istore3 hc rfl rfl ?_
    refine xr_iloadn hc rfl rfl ?_
    refine xr_iff hc rfl (by simp [dz_cmp]) ?_
    refine xr_iloadn hc rfl rfl ?_
    refine xr_ireturn hc rfl rfl (Nat.zero_le _) (Nat.zero_le _) ?_
    simp only [o_at] at hQ
    repeat (first | rw [if_pos (by omega)] at hQ | rw [if_neg (by omega)] at hQ)
    try dsimp only at hQ
    first
      | exact hQ M (fun _ _ _ => rfl) hR
      | exact hQ M2 z1 z2
  · refine xk_1 ?_
    refine xr_istore3 hc rfl rfl ?_
    refine xr_iloadn hc rfl rfl ?_
    refine xr_ift hc rfl (t := 13) rfl (by simp [dz_cmp]) ?_
    obtain ⟨e1, e2⟩ := hrow r.toNat (by omega)
    have w1 := wrow r.toNat (by omega)
    have c3r := c3 r.toNat (by omega)
    have c4r := c4 r.toNat (by omega)
    have hi3 := e2 i.toNat (by omega)
    refine xr_aloadn hc rfl rfl ?_
    refine xr_aloadn hc rfl rfl ?_
    refine xr_getfr hc rfl rfl (by first | assumption | rfl) (by first | assumption | rfl) ?_
    refine xr_iloadn hc rfl rfl ?_
    refine xr_aaload hc rfl (by first | assumption | rfl) (by decide) (by first | omega | (unfold dz_w; omega)) (by first | omega | (unfold dz_w; omega)) (by first | assumption | rfl) ?_
    refine xr_iloadn hc rfl rfl ?_
    first | refine xr_iaload hc rfl (by first | assumption | rfl) (by first | omega | (unfold dz_w; omega)) (by first | omega | (unfold dz_w; omega)) ?_ | refine xr_ialoado hc rfl (by first | omega | (unfold dz_w; omega)) (by first | omega | (unfold dz_w; omega)) ?_
    refine xr_putfi hc rfl rfl (by first | assumption | rfl) ?_
    refine xr_iconst hc rfl ?_
    refine xr_ireturn hc rfl rfl (Nat.zero_le _) (Nat.zero_le _) ?_
    simp only [o_at] at hQ
    repeat (first | rw [if_pos (by omega)] at hQ | rw [if_neg (by omega)] at hQ)
    try dsimp only at hQ
    rw [hi3]
    refine hQ _ (fun q2 k2 u => by rw [dz_up_ne (by omega)]) ⟨rowX_fr hrow (fun q2 k2 u1 u2 => by rw [dz_up_ne (by omega)]), txtX_fr htxt (fun q2 k2 u1 u2 => by rw [dz_up_ne (by omega)]), by rw [dz_up_eq], by rw [dz_up_k (by omega)]; exact hup, by rw [dz_up_k (by omega)]; exact hlo, fndX_fr hfn (by rw [dz_up_k (by omega)]) (fun k2 => by rw [dz_up_ne (by omega)]), drX_fr hdr (fun q2 k2 u1 u2 => by rw [dz_up_ne (by omega)]), kepX_fr hkp (fun q2 k2 u1 u2 => by rw [dz_up_ne (by omega)]), rbX_fr hrb (fun q2 k2 u1 => by rw [dz_up_ne (by omega)])⟩
  · refine xk_1 ?_
    refine xr_istore3 hc rfl rfl ?_
    refine xr_iloadn hc rfl rfl ?_
    refine xr_iff hc rfl (by simp [dz_cmp]) ?_
    refine xr_iloadn hc rfl rfl ?_
    refine xr_ireturn hc rfl rfl (Nat.zero_le _) (Nat.zero_le _) ?_
    simp only [o_at] at hQ
    repeat (first | rw [if_pos (by omega)] at hQ | rw [if_neg (by omega)] at hQ)
    try dsimp only at hQ
    first
      | exact hQ M (fun _ _ _ => rfl) hR
      | exact hQ M2 z1 z2
def o_tear (rs : Nat → Int) (fn : Nat → Int) (r : Int) : Int × (Nat → Int) × (Nat → Int) := if r < 0 ∨ 5 < r then (-1, rs, fn) else if rs r.toNat = -1 then (-3, rs, rfu fn 1) else (1, fup rs r.toNat (-1), fn)
set_option maxRecDepth 100000 in
theorem X_tear {xo : Nat → List Int} {d : Nat} {Q : dz_Q} {sh : List (Nat ⊕ (Nat × Nat))} {rf : Nat → Nat → Nat} {M : Nat → Nat → Int} {rs : Nat → Int} {it : Nat → Nat → Int} {ts : Nat → Int} {ch : Nat → Nat → Int} {tl up lo : Int} {fn : Nat → Int} {w pl : Int} {kd wt nx : Nat → Int} {n : Nat} {hs : Nat → Nat → Int} {kp : Nat → Int} {kh : Nat → Nat → Nat → Int} {r : Int} (hl : cl sh rf) (hR : RX M rs it ts ch tl up lo fn w pl kd wt nx n hs kp kh) (hW : WF rs it ts ch tl up lo fn w pl kd wt nx n hs kp kh) (hQ : ∀ M2 : Nat → Nat → Int, (∀ q2 k2, 115 ≤ q2 → M2 q2 k2 = M q2 k2) → RX M2 (o_tear rs fn r).2.1 it ts ch tl up lo (o_tear rs fn r).2.2 w pl kd wt nx n hs kp kh → Q (some (dz_i ((o_tear rs fn r).1))) (sh, rf, M2)) : dz_E dz_pp xo (d + 3) 56 [dz_r 0, dz_i r] (sh, rf, M) Q := by
  refine ⟨Nat.le_of_ble_eq_true rfl, ?_⟩
  have hc := dz_E_m dz_pp xo (d + 2)
  show dz_X (dz_E dz_pp xo (d + 2)) dz_pp xo (dz_pp 56) Q 0 [some (dz_r 0), some (dz_i r)] [] 0 0 (sh, rf, M)
  obtain ⟨c0, c1, c2, c3, c4, c5, c6, c7, c8, c9, c10, c11, c12, c13, c14, c15, c16, c17, c18, c19, c20, c21, c22, c23, c24, c25, c26, c27, c28, c29, c30, c31, c32, c33, c34, c35, c36⟩ := id hl
  obtain ⟨hrow, htxt, htl, hup, hlo, hfn, hdr, hkp, hrb⟩ := id hR
  obtain ⟨wrow, wtxt, wdr, wst, wkp⟩ := id hW
  refine xr_iloadn hc rfl rfl ?_
  refine xr_calls1 hc rfl (by decide) rfl rfl rfl (Nat.le_of_ble_eq_true rfl) (Nat.zero_le _) (Nat.zero_le _) ?_
  refine S_isRow (fun u1 v1 => ?_) (fun u1 => ?_)
  · refine xk_1 ?_
    refine xr_ift hc rfl (t := 9) rfl (by simp [dz_cmp]) ?_
    obtain ⟨e1, e2⟩ := hrow r.toNat (by omega)
    have w1 := wrow r.toNat (by omega)
    have c3r := c3 r.toNat (by omega)
    have c4r := c4 r.toNat (by omega)
    refine xr_aloadn hc rfl rfl ?_
    refine xr_getfr hc rfl rfl (by first | assumption | rfl) (by first | assumption | rfl) ?_
    refine xr_iloadn hc rfl rfl ?_
    first | refine xr_iaload hc rfl (by first | assumption | rfl) (by first | omega | (unfold dz_w; omega)) (by first | omega | (unfold dz_w; omega)) ?_ | refine xr_ialoado hc rfl (by first | omega | (unfold dz_w; omega)) (by first | omega | (unfold dz_w; omega)) ?_
    rw [e1]
    refine xr_iconst hc rfl ?_
    refine xr_icmp_ne hc rfl (t := 25) rfl (fun b16 => ?_) (fun b16 => ?_)
    · refine xr_aloadn hc rfl rfl ?_
      refine xr_getfr hc rfl rfl (by first | assumption | rfl) (by first | assumption | rfl) ?_
      refine xr_iloadn hc rfl rfl ?_
      refine xr_iconst hc rfl ?_
      refine xr_iastore hc rfl (by first | assumption | rfl) (by first | omega | (unfold dz_w; omega)) (by first | omega | (unfold dz_w; omega)) ?_
      refine xr_iconst hc rfl ?_
      refine xr_ireturn hc rfl rfl (Nat.zero_le _) (Nat.zero_le _) ?_
      simp only [o_tear] at hQ
      repeat (first | rw [if_pos (by omega)] at hQ | rw [if_neg (by omega)] at hQ)
      try dsimp only at hQ
      refine hQ _ (fun q2 k2 u => by rw [dz_up_ne (by omega)]) ⟨fun r2 hr2 => ?_, txtX_fr htxt (fun q2 k2 u1 u2 => by rw [dz_up_ne (by omega)]), Eq.trans (by rw [dz_up_ne (by omega)]) htl, Eq.trans (by rw [dz_up_ne (by omega)]) hup, Eq.trans (by rw [dz_up_ne (by omega)]) hlo, fndX_fr hfn (by rw [dz_up_ne (by omega)]) (fun k2 => by rw [dz_up_ne (by omega)]), drX_fr hdr (fun q2 k2 u1 u2 => by rw [dz_up_ne (by omega)]), kepX_fr hkp (fun q2 k2 u1 u2 => by rw [dz_up_ne (by omega)]), rbX_fr hrb (fun q2 k2 u1 => by rw [dz_up_ne (by omega)])⟩
      show dz_up M 8 r.toNat (-1) 8 r2 = fup rs r.toNat (-1) r2 ∧ ∀ k : Nat, (k : Int) < fup rs r.toNat (-1) r2 → dz_up M 8 r.toNat (-1) (2 + r2) k = it r2 k
      rw [up_fup]
      by_cases e : r2 = r.toNat
      · subst e
        rw [fup_eq, fup_eq]
        exact ⟨rfl, fun k hk => by omega⟩
      · rw [fup_ne e, fup_ne e, dz_up_ne (by omega)]
        exact hrow r2 hr2
    · refine xr_aloadn hc rfl rfl ?_
      refine xr_iconst hc rfl ?_
      refine xr_callv1 hc rfl (by first | assumption | rfl) rfl rfl rfl (Nat.le_of_ble_eq_true rfl) (Nat.zero_le _) (Nat.zero_le _) ?_
      refine S_refuse hl hR hW (by omega) (fun M2 z1 z2 => ?_)
      refine xk_1 ?_
      refine xr_ireturn hc rfl rfl (Nat.zero_le _) (Nat.zero_le _) ?_
      simp only [o_tear] at hQ
      repeat (first | rw [if_pos (by omega)] at hQ | rw [if_neg (by omega)] at hQ)
      try dsimp only at hQ
      exact hQ M2 z1 z2
  · refine xk_1 ?_
    refine xr_iff hc rfl (by simp [dz_cmp]) ?_
    refine xr_iconst hc rfl ?_
    refine xr_ireturn hc rfl rfl (Nat.zero_le _) (Nat.zero_le _) ?_
    simp only [o_tear] at hQ
    repeat (first | rw [if_pos (by omega)] at hQ | rw [if_neg (by omega)] at hQ)
    try dsimp only at hQ
    exact hQ M (fun _ _ _ => rfl) hR
def o_copy (rs : Nat → Int) (it : Nat → Nat → Int) (fn : Nat → Int) (r i t j m : Int) : Int × (Nat → Nat → Int) × (Nat → Int) := if r < 0 ∨ 5 < r ∨ t < 0 ∨ 5 < t then (-1, it, fn) else if m < 0 then (-3, it, rfu fn 5) else if rs r.toNat = -1 ∨ rs t.toNat = -1 then (-3, it, rfu fn 1) else if i < 0 ∨ rs r.toNat < i + m ∨ j < 0 ∨ rs t.toNat < j + m then (-3, it, rfu fn 2) else (1, rup it t.toNat (fun k => if j.toNat ≤ k ∧ k < j.toNat + m.toNat then it r.toNat (i.toNat + (k - j.toNat)) else it t.toNat k), fn)
set_option maxRecDepth 100000 in
theorem S_rowHolds {xo : Nat → List Int} {d : Nat} {Q : dz_Q} {sh : List (Nat ⊕ (Nat × Nat))} {rf : Nat → Nat → Nat} {M : Nat → Nat → Int} {rs : Nat → Int} {it : Nat → Nat → Int} {ts : Nat → Int} {ch : Nat → Nat → Int} {tl up lo : Int} {fn : Nat → Int} {w pl : Int} {kd wt nx : Nat → Int} {n : Nat} {hs : Nat → Nat → Int} {kp : Nat → Int} {kh : Nat → Nat → Nat → Int} {r i m : Int} (hl : cl sh rf) (hR : RX M rs it ts ch tl up lo fn w pl kd wt nx n hs kp kh) (hW : WF rs it ts ch tl up lo fn w pl kd wt nx n hs kp kh) (hr : 0 ≤ r ∧ r ≤ 5) (hm : 0 ≤ m ∧ m < 2147483648) (hi : dz_in32 i) (h1 : 0 ≤ i → i + m ≤ rs r.toNat → Q (some (dz_i 1)) (sh, rf, M)) (h2 : (i < 0 ∨ rs r.toNat < i + m) → Q (some (dz_i 0)) (sh, rf, M)) : dz_E dz_pp xo (d + 1) 104 [dz_r 0, dz_i r, dz_i i, dz_i m] (sh, rf, M) Q := by
  refine ⟨Nat.le_of_ble_eq_true rfl, ?_⟩
  have hc := dz_E_m dz_pp xo (d + 0)
  show dz_X (dz_E dz_pp xo (d + 0)) dz_pp xo (dz_pp 104) Q 0 [some (dz_r 0), some (dz_i r), some (dz_i i), some (dz_i m)] [] 0 0 (sh, rf, M)
  obtain ⟨c0, c1, c2, c3, c4, c5, c6, c7, c8, c9, c10, c11, c12, c13, c14, c15, c16, c17, c18, c19, c20, c21, c22, c23, c24, c25, c26, c27, c28, c29, c30, c31, c32, c33, c34, c35, c36⟩ := id hl
  obtain ⟨hrow, htxt, htl, hup, hlo, hfn, hdr, hkp, hrb⟩ := id hR
  obtain ⟨wrow, wtxt, wdr, wst, wkp⟩ := id hW
  obtain ⟨e1, e2⟩ := hrow r.toNat (by omega)
  have w1 := wrow r.toNat (by omega)
  have c3r := c3 r.toNat (by omega)
  have c4r := c4 r.toNat (by omega)
  unfold dz_in32 at hi
  refine xr_iloadn hc rfl rfl ?_
  refine xr_if_lt hc rfl (t := 20) rfl (fun b1 => ?_) (fun b1 => ?_)
  · refine xr_iconst hc rfl ?_
    refine xr_zreturn hc rfl rfl (Nat.zero_le _) (Nat.zero_le _) (by first | exact Or.inl rfl | exact Or.inr rfl | assumption) ?_
    first
      | exact h1 (by omega) (by omega)
      | exact h2 (by omega)
  · refine xr_iloadn hc rfl rfl ?_
    refine xr_aloadn hc rfl rfl ?_
    refine xr_getfr hc rfl rfl (by first | assumption | rfl) (by first | assumption | rfl) ?_
    refine xr_iloadn hc rfl rfl ?_
    first | refine xr_iaload hc rfl (by first | assumption | rfl) (by first | omega | (unfold dz_w; omega)) (by first | omega | (unfold dz_w; omega)) ?_ | refine xr_ialoado hc rfl (by first | omega | (unfold dz_w; omega)) (by first | omega | (unfold dz_w; omega)) ?_
    rw [e1]
    refine xr_iloadn hc rfl rfl ?_
    refine xr_isubz hc rfl (by first | exact dz_wid (by first | omega | (unfold dz_w; omega)) (by first | omega | (unfold dz_w; omega)) | rfl) ?_
    refine xr_icmp_gt hc rfl (t := 20) rfl (fun b13 => ?_) (fun b13 => ?_)
    · refine xr_iconst hc rfl ?_
      refine xr_zreturn hc rfl rfl (Nat.zero_le _) (Nat.zero_le _) (by first | exact Or.inl rfl | exact Or.inr rfl | assumption) ?_
      first
        | exact h1 (by omega) (by omega)
        | exact h2 (by omega)
    · refine xr_iconst hc rfl ?_
      refine xr_goto hc rfl (t := 21) rfl ?_
      refine xr_zreturn hc rfl rfl (Nat.zero_le _) (Nat.zero_le _) (by first | exact Or.inl rfl | exact Or.inr rfl | assumption) ?_
      first
        | exact h1 (by omega) (by omega)
        | exact h2 (by omega)
set_option maxRecDepth 100000 in
theorem X_copy {xo : Nat → List Int} {d : Nat} {Q : dz_Q} {sh : List (Nat ⊕ (Nat × Nat))} {rf : Nat → Nat → Nat} {M : Nat → Nat → Int} {rs : Nat → Int} {it : Nat → Nat → Int} {ts : Nat → Int} {ch : Nat → Nat → Int} {tl up lo : Int} {fn : Nat → Int} {w pl : Int} {kd wt nx : Nat → Int} {n : Nat} {hs : Nat → Nat → Int} {kp : Nat → Int} {kh : Nat → Nat → Nat → Int} {r i t j m : Int} (hl : cl sh rf) (hR : RX M rs it ts ch tl up lo fn w pl kd wt nx n hs kp kh) (hW : WF rs it ts ch tl up lo fn w pl kd wt nx n hs kp kh) (hi : dz_in32 i) (hj : dz_in32 j) (hm : dz_in32 m) (hQ : ∀ M2 : Nat → Nat → Int, (∀ q2 k2, 115 ≤ q2 → M2 q2 k2 = M q2 k2) → RX M2 rs (o_copy rs it fn r i t j m).2.1 ts ch tl up lo (o_copy rs it fn r i t j m).2.2 w pl kd wt nx n hs kp kh → Q (some (dz_i ((o_copy rs it fn r i t j m).1))) (sh, rf, M2)) : dz_E dz_pp xo (d + 3) 57 [dz_r 0, dz_i r, dz_i i, dz_i t, dz_i j, dz_i m] (sh, rf, M) Q := by
  refine ⟨Nat.le_of_ble_eq_true rfl, ?_⟩
  have hc := dz_E_m dz_pp xo (d + 2)
  show dz_X (dz_E dz_pp xo (d + 2)) dz_pp xo (dz_pp 57) Q 0 [some (dz_r 0), some (dz_i r), some (dz_i i), some (dz_i t), some (dz_i j), some (dz_i m)] [] 0 0 (sh, rf, M)
  obtain ⟨c0, c1, c2, c3, c4, c5, c6, c7, c8, c9, c10, c11, c12, c13, c14, c15, c16, c17, c18, c19, c20, c21, c22, c23, c24, c25, c26, c27, c28, c29, c30, c31, c32, c33, c34, c35, c36⟩ := id hl
  obtain ⟨hrow, htxt, htl, hup, hlo, hfn, hdr, hkp, hrb⟩ := id hR
  obtain ⟨wrow, wtxt, wdr, wst, wkp⟩ := id hW
  have hm2 := hm
  unfold dz_in32 at hm2
  refine xr_iloadn hc rfl rfl ?_
  refine xr_calls1 hc rfl (by decide) rfl rfl rfl (Nat.le_of_ble_eq_true rfl) (Nat.zero_le _) (Nat.zero_le _) ?_
  refine S_isRow (fun u1 v1 => ?_) (fun u1 => ?_)
  · refine xk_1 ?_
    refine xr_iff hc rfl (by simp [dz_cmp]) ?_
    refine xr_iloadn hc rfl rfl ?_
    refine xr_calls1 hc rfl (by decide) rfl rfl rfl (Nat.le_of_ble_eq_true rfl) (Nat.zero_le _) (Nat.zero_le _) ?_
    refine S_isRow (fun u2 v2 => ?_) (fun u2 => ?_)
    · refine xk_1 ?_
      refine xr_ift hc rfl (t := 16) rfl (by simp [dz_cmp]) ?_
      refine xr_iload hc rfl rfl ?_
      refine xr_if_ge hc rfl (t := 27) rfl (fun b18 => ?_) (fun b18 => ?_)
      · obtain ⟨e1, e2⟩ := hrow r.toNat (by omega)
        have w1 := wrow r.toNat (by omega)
        have c3r := c3 r.toNat (by omega)
        have c4r := c4 r.toNat (by omega)
        obtain ⟨f1, f2⟩ := hrow t.toNat (by omega)
        have w2 := wrow t.toNat (by omega)
        have c3t := c3 t.toNat (by omega)
        have c4t := c4 t.toNat (by omega)
        refine xr_aloadn hc rfl rfl ?_
        refine xr_getfr hc rfl rfl (by first | assumption | rfl) (by first | assumption | rfl) ?_
        refine xr_iloadn hc rfl rfl ?_
        first | refine xr_iaload hc rfl (by first | assumption | rfl) (by first | omega | (unfold dz_w; omega)) (by first | omega | (unfold dz_w; omega)) ?_ | refine xr_ialoado hc rfl (by first | omega | (unfold dz_w; omega)) (by first | omega | (unfold dz_w; omega)) ?_
        rw [e1]
        refine xr_iconst hc rfl ?_
        refine xr_icmp_eq hc rfl (t := 47) rfl (fun b34 => ?_) (fun b34 => ?_)
        · refine xr_aloadn hc rfl rfl ?_
          refine xr_iconst hc rfl ?_
          refine xr_callv1 hc rfl (by first | assumption | rfl) rfl rfl rfl (Nat.le_of_ble_eq_true rfl) (Nat.zero_le _) (Nat.zero_le _) ?_
          refine S_refuse hl hR hW (by omega) (fun M2 z1 z2 => ?_)
          refine xk_1 ?_
          refine xr_ireturn hc rfl rfl (Nat.zero_le _) (Nat.zero_le _) ?_
          simp only [o_copy] at hQ
          repeat (first | rw [if_pos (by omega)] at hQ | rw [if_neg (by omega)] at hQ)
          try dsimp only at hQ
          exact hQ M2 z1 z2
        · refine xr_aloadn hc rfl rfl ?_
          refine xr_getfr hc rfl rfl (by first | assumption | rfl) (by first | assumption | rfl) ?_
          refine xr_iloadn hc rfl rfl ?_
          first | refine xr_iaload hc rfl (by first | assumption | rfl) (by first | omega | (unfold dz_w; omega)) (by first | omega | (unfold dz_w; omega)) ?_ | refine xr_ialoado hc rfl (by first | omega | (unfold dz_w; omega)) (by first | omega | (unfold dz_w; omega)) ?_
          rw [f1]
          refine xr_iconst hc rfl ?_
          refine xr_icmp_ne hc rfl (t := 53) rfl (fun b44 => ?_) (fun b44 => ?_)
          · refine xr_aloadn hc rfl rfl ?_
            refine xr_iloadn hc rfl rfl ?_
            refine xr_iloadn hc rfl rfl ?_
            refine xr_iload hc rfl rfl ?_
            refine xr_callv3 hc rfl (by first | assumption | rfl) rfl rfl rfl (Nat.le_of_ble_eq_true rfl) (Nat.zero_le _) (Nat.zero_le _) ?_
            refine S_rowHolds hl hR hW (by omega) (by omega) hi (fun u3 v3 => ?_) (fun u3 => ?_)
            · refine xk_1 ?_
              refine xr_iff hc rfl (by simp [dz_cmp]) ?_
              refine xr_aloadn hc rfl rfl ?_
              refine xr_iloadn hc rfl rfl ?_
              refine xr_iload hc rfl rfl ?_
              refine xr_iload hc rfl rfl ?_
              refine xr_callv3 hc rfl (by first | assumption | rfl) rfl rfl rfl (Nat.le_of_ble_eq_true rfl) (Nat.zero_le _) (Nat.zero_le _) ?_
              refine S_rowHolds hl hR hW (by omega) (by omega) hj (fun u4 v4 => ?_) (fun u4 => ?_)
              · refine xk_1 ?_
                refine xr_ift hc rfl (t := 82) rfl (by simp [dz_cmp]) ?_
                refine xr_aloadn hc rfl rfl ?_
                refine xr_getfr hc rfl rfl (by first | assumption | rfl) (by first | assumption | rfl) ?_
                refine xr_iloadn hc rfl rfl ?_
                refine xr_aaload hc rfl (by first | assumption | rfl) (by decide) (by first | omega | (unfold dz_w; omega)) (by first | omega | (unfold dz_w; omega)) (by first | assumption | rfl) ?_
                refine xr_iloadn hc rfl rfl ?_
                refine xr_aloadn hc rfl rfl ?_
                refine xr_getfr hc rfl rfl (by first | assumption | rfl) (by first | assumption | rfl) ?_
                refine xr_iloadn hc rfl rfl ?_
                refine xr_aaload hc rfl (by first | assumption | rfl) (by decide) (by first | omega | (unfold dz_w; omega)) (by first | omega | (unfold dz_w; omega)) (by first | assumption | rfl) ?_
                refine xr_iload hc rfl rfl ?_
                refine xr_iload hc rfl rfl ?_
                refine xr_copy hc rfl rfl (by first | assumption | rfl) (by first | assumption | rfl) (by first | omega | (unfold dz_w; omega)) (by first | omega | (unfold dz_w; omega)) (by first | omega | (unfold dz_w; omega)) (by first | omega | (unfold dz_w; omega)) (by first | omega | (unfold dz_w; omega)) (by first | decide | (simp [dz_cats]; done) | exact Nat.le_of_ble_eq_true rfl) ?_
                refine xr_iconst hc rfl ?_
                refine xr_ireturn hc rfl rfl (Nat.zero_le _) (Nat.zero_le _) ?_
                simp only [o_copy] at hQ
                repeat (first | rw [if_pos (by omega)] at hQ | rw [if_neg (by omega)] at hQ)
                try dsimp only at hQ
                refine hQ _ (fun q2 k2 u => by simp only [dz_cpy]; rw [if_neg (by omega)]) ⟨fun r2 hr2 => ⟨by simp only [dz_cpy]; rw [if_neg (by omega)]; exact (hrow r2 hr2).1, fun k hk => ?_⟩, txtX_fr htxt (fun q2 k2 u1 u2 => by simp only [dz_cpy]; rw [if_neg (by omega)]), Eq.trans (by simp only [dz_cpy]; rw [if_neg (by omega)]) htl, Eq.trans (by simp only [dz_cpy]; rw [if_neg (by omega)]) hup, Eq.trans (by simp only [dz_cpy]; rw [if_neg (by omega)]) hlo, fndX_fr hfn (by simp only [dz_cpy]; rw [if_neg (by omega)]) (fun k2 => by simp only [dz_cpy]; rw [if_neg (by omega)]), drX_fr hdr (fun q2 k2 u1 u2 => by simp only [dz_cpy]; rw [if_neg (by omega)]), kepX_fr hkp (fun q2 k2 u1 u2 => by simp only [dz_cpy]; rw [if_neg (by omega)]), rbX_fr hrb (fun q2 k2 u1 => by simp only [dz_cpy]; rw [if_neg (by omega)])⟩
                show dz_cpy M (2 + r.toNat) (2 + t.toNat) i.toNat j.toNat m.toNat (2 + r2) k = rup it t.toNat _ r2 k
                simp only [dz_cpy]
                by_cases e : r2 = t.toNat
                · subst e
                  rw [rup_eq]
                  by_cases e3 : j.toNat ≤ k ∧ k < j.toNat + m.toNat
                  · rw [if_pos (by omega), if_pos e3]
                    exact e2 _ (by omega)
                  · rw [if_neg (by omega), if_neg e3]
                    exact f2 k hk
                · rw [rup_ne e, if_neg (by omega)]
                  exact (hrow r2 hr2).2 k hk
              · refine xk_1 ?_
                refine xr_iff hc rfl (by simp [dz_cmp]) ?_
                refine xr_aloadn hc rfl rfl ?_
                refine xr_iconst hc rfl ?_
                refine xr_callv1 hc rfl (by first | assumption | rfl) rfl rfl rfl (Nat.le_of_ble_eq_true rfl) (Nat.zero_le _) (Nat.zero_le _) ?_
                refine S_refuse hl hR hW (by omega) (fun M2 z1 z2 => ?_)
                refine xk_1 ?_
                refine xr_ireturn hc rfl rfl (Nat.zero_le _) (Nat.zero_le _) ?_
                simp only [o_copy] at hQ
                repeat (first | rw [if_pos (by omega)] at hQ | rw [if_neg (by omega)] at hQ)
                try dsimp only at hQ
                exact hQ M2 z1 z2
            · refine xk_1 ?_
              refine xr_ift hc rfl (t := 76) rfl (by simp [dz_cmp]) ?_
              refine xr_aloadn hc rfl rfl ?_
              refine xr_iconst hc rfl ?_
              refine xr_callv1 hc rfl (by first | assumption | rfl) rfl rfl rfl (Nat.le_of_ble_eq_true rfl) (Nat.zero_le _) (Nat.zero_le _) ?_
              refine S_refuse hl hR hW (by omega) (fun M2 z1 z2 => ?_)
              refine xk_1 ?_
              refine xr_ireturn hc rfl rfl (Nat.zero_le _) (Nat.zero_le _) ?_
              simp only [o_copy] at hQ
              repeat (first | rw [if_pos (by omega)] at hQ | rw [if_neg (by omega)] at hQ)
              try dsimp only at hQ
              exact hQ M2 z1 z2
          · refine xr_aloadn hc rfl rfl ?_
            refine xr_iconst hc rfl ?_
            refine xr_callv1 hc rfl (by first | assumption | rfl) rfl rfl rfl (Nat.le_of_ble_eq_true rfl) (Nat.zero_le _) (Nat.zero_le _) ?_
            refine S_refuse hl hR hW (by omega) (fun M2 z1 z2 => ?_)
            refine xk_1 ?_
            refine xr_ireturn hc rfl rfl (Nat.zero_le _) (Nat.zero_le _) ?_
            simp only [o_copy] at hQ
            repeat (first | rw [if_pos (by omega)] at hQ | rw [if_neg (by omega)] at hQ)
            try dsimp only at hQ
            exact hQ M2 z1 z2
      · refine xr_aloadn hc rfl rfl ?_
        refine xr_iconst hc rfl ?_
        refine xr_callv1 hc rfl (by first | assumption | rfl) rfl rfl rfl (Nat.le_of_ble_eq_true rfl) (Nat.zero_le _) (Nat.zero_le _) ?_
        refine S_refuse hl hR hW (by omega) (fun M2 z1 z2 => ?_)
        refine xk_1 ?_
        refine xr_ireturn hc rfl rfl (Nat.zero_le _) (Nat.zero_le _) ?_
        simp only [o_copy] at hQ
        repeat (first | rw [if_pos (by omega)] at hQ | rw [if_neg (by omega)] at hQ)
        try dsimp only at hQ
        exact hQ M2 z1 z2
    · refine xk_1 ?_
      refine xr_iff hc rfl (by simp [dz_cmp]) ?_
      refine xr_iconst hc rfl ?_
      refine xr_ireturn hc rfl rfl (Nat.zero_le _) (Nat.zero_le _) ?_
      simp only [o_copy] at hQ
      repeat (first | rw [if_pos (by omega)] at hQ | rw [if_neg (by omega)] at hQ)
      try dsimp only at hQ
      exact hQ M (fun _ _ _ => rfl) hR
  · refine xk_1 ?_
    refine xr_ift hc rfl (t := 14) rfl (by simp [dz_cmp]) ?_
    refine xr_iconst hc rfl ?_
    refine xr_ireturn hc rfl rfl (Nat.zero_le _) (Nat.zero_le _) ?_
    simp only [o_copy] at hQ
    repeat (first | rw [if_pos (by omega)] at hQ | rw [if_neg (by omega)] at hQ)
    try dsimp only at hQ
    exact hQ M (fun _ _ _ => rfl) hR
/-- the sum of the first so many, as longs add -/
def lsum (f : Nat → Int) : Nat → Int
  | 0 => 0
  | n + 1 => dz_W (lsum f n + f n)
def o_mean (rs : Nat → Int) (it : Nat → Nat → Int) (tl : Int) (fn : Nat → Int) (r : Int) : Int × Int × (Nat → Int) := if r < 0 ∨ 5 < r then (-1, tl, fn) else if rs r.toNat = -1 then (-3, tl, rfu fn 1) else if rs r.toNat = 0 then (-3, tl, rfu fn 4) else (1, dz_w (dz_W (Int.tdiv (lsum (it r.toNat) (rs r.toNat).toNat) (rs r.toNat))), fn)
set_option maxRecDepth 100000 in
theorem X_mean {xo : Nat → List Int} {d : Nat} {Q : dz_Q} {sh : List (Nat ⊕ (Nat × Nat))} {rf : Nat → Nat → Nat} {M : Nat → Nat → Int} {rs : Nat → Int} {it : Nat → Nat → Int} {ts : Nat → Int} {ch : Nat → Nat → Int} {tl up lo : Int} {fn : Nat → Int} {w pl : Int} {kd wt nx : Nat → Int} {n : Nat} {hs : Nat → Nat → Int} {kp : Nat → Int} {kh : Nat → Nat → Nat → Int} {r : Int} (hl : cl sh rf) (hR : RX M rs it ts ch tl up lo fn w pl kd wt nx n hs kp kh) (hW : WF rs it ts ch tl up lo fn w pl kd wt nx n hs kp kh) (hQ : ∀ M2 : Nat → Nat → Int, (∀ q2 k2, 115 ≤ q2 → M2 q2 k2 = M q2 k2) → RX M2 rs it ts ch (o_mean rs it tl fn r).2.1 up lo (o_mean rs it tl fn r).2.2 w pl kd wt nx n hs kp kh → Q (some (dz_i ((o_mean rs it tl fn r).1))) (sh, rf, M2)) : dz_E dz_pp xo (d + 3) 58 [dz_r 0, dz_i r] (sh, rf, M) Q := by
  refine ⟨Nat.le_of_ble_eq_true rfl, ?_⟩
  have hc := dz_E_m dz_pp xo (d + 2)
  show dz_X (dz_E dz_pp xo (d + 2)) dz_pp xo (dz_pp 58) Q 0 [some (dz_r 0), some (dz_i r), none, none, none] [] 0 0 (sh, rf, M)
  obtain ⟨c0, c1, c2, c3, c4, c5, c6, c7, c8, c9, c10, c11, c12, c13, c14, c15, c16, c17, c18, c19, c20, c21, c22, c23, c24, c25, c26, c27, c28, c29, c30, c31, c32, c33, c34, c35, c36⟩ := id hl
  obtain ⟨hrow, htxt, htl, hup, hlo, hfn, hdr, hkp, hrb⟩ := id hR
  obtain ⟨wrow, wtxt, wdr, wst, wkp⟩ := id hW
  have lp : ∀ (m : Nat) (i : Nat), 0 ≤ r → r ≤ 5 → 1 ≤ rs r.toNat → (i : Int) + m = rs r.toNat → dz_X (dz_E dz_pp xo (d + 2)) dz_pp xo (dz_pp 58) Q 45 [some (dz_r 0), some (dz_i r), some (dz_l (lsum (it r.toNat) i)), none, some (dz_i (i : Int))] [] 0 0 (sh, rf, M) := by
    intro m
    induction m with
    | zero =>
      intro i u1 v1 u4 hi
      obtain ⟨e1, e2⟩ := hrow r.toNat (by omega)
      have w1 := wrow r.toNat (by omega)
      have c3r := c3 r.toNat (by omega)
      have c4r := c4 r.toNat (by omega)
      refine xr_iload hc rfl rfl ?_
      refine xr_aloadn hc rfl rfl ?_
      refine xr_getfr hc rfl rfl (by first | assumption | rfl) (by first | assumption | rfl) ?_
      refine xr_iloadn hc rfl rfl ?_
      first | refine xr_iaload hc rfl (by first | assumption | rfl) (by first | omega | (unfold dz_w; omega)) (by first | omega | (unfold dz_w; omega)) ?_ | refine xr_ialoado hc rfl (by first | omega | (unfold dz_w; omega)) (by first | omega | (unfold dz_w; omega)) ?_
      rw [e1]
      refine xr_icmp_ge hc rfl (t := 75) rfl (fun b53 => ?_) (fun b53 => ?_)
      · refine xr_aloadn hc rfl rfl ?_
        refine xr_lloadn hc rfl rfl ?_
        refine xr_aloadn hc rfl rfl ?_
        refine xr_getfr hc rfl rfl (by first | assumption | rfl) (by first | assumption | rfl) ?_
        refine xr_iloadn hc rfl rfl ?_
        first | refine xr_iaload hc rfl (by first | assumption | rfl) (by first | omega | (unfold dz_w; omega)) (by first | omega | (unfold dz_w; omega)) ?_ | refine xr_ialoado hc rfl (by first | omega | (unfold dz_w; omega)) (by first | omega | (unfold dz_w; omega)) ?_
        rw [e1]
        refine xr_i2l hc rfl ?_
        refine xr_ldiv hc rfl (by first | omega | (unfold dz_w; omega)) ?_
        refine xr_l2i hc rfl ?_
        refine xr_putfi hc rfl rfl (by first | assumption | rfl) ?_
        refine xr_iconst hc rfl ?_
        refine xr_ireturn hc rfl rfl (Nat.zero_le _) (Nat.zero_le _) ?_
        simp only [o_mean] at hQ
        repeat (first | rw [if_pos (by omega)] at hQ | rw [if_neg (by omega)] at hQ)
        try dsimp only at hQ
        have ei : i = (rs r.toNat).toNat := by omega
        rw [ei]
        refine hQ _ (fun q2 k2 u => by rw [dz_up_ne (by omega)]) ⟨rowX_fr hrow (fun q2 k2 u1 u2 => by rw [dz_up_ne (by omega)]), txtX_fr htxt (fun q2 k2 u1 u2 => by rw [dz_up_ne (by omega)]), by rw [dz_up_eq], by rw [dz_up_k (by omega)]; exact hup, by rw [dz_up_k (by omega)]; exact hlo, fndX_fr hfn (by rw [dz_up_k (by omega)]) (fun k2 => by rw [dz_up_ne (by omega)]), drX_fr hdr (fun q2 k2 u1 u2 => by rw [dz_up_ne (by omega)]), kepX_fr hkp (fun q2 k2 u1 u2 => by rw [dz_up_ne (by omega)]), rbX_fr hrb (fun q2 k2 u1 => by rw [dz_up_ne (by omega)])⟩
      · omega
    | succ m ih =>
      intro i u1 v1 u4 hi
      obtain ⟨e1, e2⟩ := hrow r.toNat (by omega)
      have w1 := wrow r.toNat (by omega)
      have c3r := c3 r.toNat (by omega)
      have c4r := c4 r.toNat (by omega)
      have e3 := e2 i (by omega)
      refine xr_iload hc rfl rfl ?_
      refine xr_aloadn hc rfl rfl ?_
      refine xr_getfr hc rfl rfl (by first | assumption | rfl) (by first | assumption | rfl) ?_
      refine xr_iloadn hc rfl rfl ?_
      first | refine xr_iaload hc rfl (by first | assumption | rfl) (by first | omega | (unfold dz_w; omega)) (by first | omega | (unfold dz_w; omega)) ?_ | refine xr_ialoado hc rfl (by first | omega | (unfold dz_w; omega)) (by first | omega | (unfold dz_w; omega)) ?_
      rw [e1]
      refine xr_icmp_ge hc rfl (t := 75) rfl (fun b53 => ?_) (fun b53 => ?_)
      · omega
      · refine xr_lloadn hc rfl rfl ?_
        refine xr_aloadn hc rfl rfl ?_
        refine xr_getfr hc rfl rfl (by first | assumption | rfl) (by first | assumption | rfl) ?_
        refine xr_iloadn hc rfl rfl ?_
        refine xr_aaload hc rfl (by first | assumption | rfl) (by decide) (by first | omega | (unfold dz_w; omega)) (by first | omega | (unfold dz_w; omega)) (by first | assumption | rfl) ?_
        refine xr_iload hc rfl rfl ?_
        first | refine xr_iaload hc rfl (by first | assumption | rfl) (by first | omega | (unfold dz_w; omega)) (by first | omega | (unfold dz_w; omega)) ?_ | refine xr_ialoado hc rfl (by first | omega | (unfold dz_w; omega)) (by first | omega | (unfold dz_w; omega)) ?_
        rw [Int.toNat_natCast, e3]
        refine xr_i2l hc rfl ?_
        refine xr_ladd hc rfl ?_
        refine xr_lstore2 hc rfl rfl ?_
        refine xr_iincz4 hc rfl rfl (by first | exact dz_wid (by first | omega | (unfold dz_w; omega)) (by first | omega | (unfold dz_w; omega)) | rfl) ?_
        refine xr_goto hc rfl (t := 45) rfl ?_
        exact ih (i + 1) u1 v1 u4 (by omega)
  refine xr_iloadn hc rfl rfl ?_
  refine xr_calls1 hc rfl (by decide) rfl rfl rfl (Nat.le_of_ble_eq_true rfl) (Nat.zero_le _) (Nat.zero_le _) ?_
  refine S_isRow (fun u1 v1 => ?_) (fun u1 => ?_)
  · refine xk_1 ?_
    refine xr_ift hc rfl (t := 9) rfl (by simp [dz_cmp]) ?_
    obtain ⟨e1, e2⟩ := hrow r.toNat (by omega)
    have w1 := wrow r.toNat (by omega)
    have c3r := c3 r.toNat (by omega)
    have c4r := c4 r.toNat (by omega)
    refine xr_aloadn hc rfl rfl ?_
    refine xr_getfr hc rfl rfl (by first | assumption | rfl) (by first | assumption | rfl) ?_
    refine xr_iloadn hc rfl rfl ?_
    first | refine xr_iaload hc rfl (by first | assumption | rfl) (by first | omega | (unfold dz_w; omega)) (by first | omega | (unfold dz_w; omega)) ?_ | refine xr_ialoado hc rfl (by first | omega | (unfold dz_w; omega)) (by first | omega | (unfold dz_w; omega)) ?_
    rw [e1]
    refine xr_iconst hc rfl ?_
    refine xr_icmp_ne hc rfl (t := 25) rfl (fun b16 => ?_) (fun b16 => ?_)
    · refine xr_aloadn hc rfl rfl ?_
      refine xr_getfr hc rfl rfl (by first | assumption | rfl) (by first | assumption | rfl) ?_
      refine xr_iloadn hc rfl rfl ?_
      first | refine xr_iaload hc rfl (by first | assumption | rfl) (by first | omega | (unfold dz_w; omega)) (by first | omega | (unfold dz_w; omega)) ?_ | refine xr_ialoado hc rfl (by first | omega | (unfold dz_w; omega)) (by first | omega | (unfold dz_w; omega)) ?_
      rw [e1]
      refine xr_if_ne hc rfl (t := 40) rfl (fun b31 => ?_) (fun b31 => ?_)
      · refine xr_lconst hc rfl ?_
        refine xr_lstore2 hc rfl rfl ?_
        refine xr_iconst hc rfl ?_
        refine xr_istore4 hc rfl rfl ?_
        exact lp (rs r.toNat).toNat 0 u1 v1 (by omega) (by omega)
      · refine xr_aloadn hc rfl rfl ?_
        refine xr_iconst hc rfl ?_
        refine xr_callv1 hc rfl (by first | assumption | rfl) rfl rfl rfl (Nat.le_of_ble_eq_true rfl) (Nat.zero_le _) (Nat.zero_le _) ?_
        refine S_refuse hl hR hW (by omega) (fun M2 z1 z2 => ?_)
        refine xk_1 ?_
        refine xr_ireturn hc rfl rfl (Nat.zero_le _) (Nat.zero_le _) ?_
        simp only [o_mean] at hQ
        repeat (first | rw [if_pos (by omega)] at hQ | rw [if_neg (by omega)] at hQ)
        try dsimp only at hQ
        exact hQ M2 z1 z2
    · refine xr_aloadn hc rfl rfl ?_
      refine xr_iconst hc rfl ?_
      refine xr_callv1 hc rfl (by first | assumption | rfl) rfl rfl rfl (Nat.le_of_ble_eq_true rfl) (Nat.zero_le _) (Nat.zero_le _) ?_
      refine S_refuse hl hR hW (by omega) (fun M2 z1 z2 => ?_)
      refine xk_1 ?_
      refine xr_ireturn hc rfl rfl (Nat.zero_le _) (Nat.zero_le _) ?_
      simp only [o_mean] at hQ
      repeat (first | rw [if_pos (by omega)] at hQ | rw [if_neg (by omega)] at hQ)
      try dsimp only at hQ
      exact hQ M2 z1 z2
  · refine xk_1 ?_
    refine xr_iff hc rfl (by simp [dz_cmp]) ?_
    refine xr_iconst hc rfl ?_
    refine xr_ireturn hc rfl rfl (Nat.zero_le _) (Nat.zero_le _) ?_
    simp only [o_mean] at hQ
    repeat (first | rw [if_pos (by omega)] at hQ | rw [if_neg (by omega)] at hQ)
    try dsimp only at hQ
    exact hQ M (fun _ _ _ => rfl) hR
