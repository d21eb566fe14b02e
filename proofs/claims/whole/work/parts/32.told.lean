/-! The class: what is told. Written by l2_32.py. -/
set_option maxRecDepth 100000 in
theorem X_asked {xo : Nat → List Int} {d : Nat} {Q : dz_Q} {sh : List (Nat ⊕ (Nat × Nat))} {rf : Nat → Nat → Nat} {M : Nat → Nat → Int} {rs : Nat → Int} {it : Nat → Nat → Int} {ts : Nat → Int} {ch : Nat → Nat → Int} {tl up lo : Int} {fn : Nat → Int} {w pl : Int} {kd wt nx : Nat → Int} {n : Nat} {hs : Nat → Nat → Int} {kp : Nat → Int} {kh : Nat → Nat → Nat → Int} (hl : cl sh rf) (hR : RX M rs it ts ch tl up lo fn w pl kd wt nx n hs kp kh) (hW : WF rs it ts ch tl up lo fn w pl kd wt nx n hs kp kh) (hQ : Q (some (dz_i (tl))) (sh, rf, M)) : dz_E dz_pp xo (d + 1) 88 [dz_r 0] (sh, rf, M) Q := by
  refine ⟨Nat.le_of_ble_eq_true rfl, ?_⟩
  have hc := dz_E_m dz_pp xo (d + 0)
  show dz_X (dz_E dz_pp xo (d + 0)) dz_pp xo (dz_pp 88) Q 0 [some (dz_r 0)] [] 0 0 (sh, rf, M)
  obtain ⟨c0, c1, c2, c3, c4, c5, c6, c7, c8, c9, c10, c11, c12, c13, c14, c15, c16, c17, c18, c19, c20, c21, c22, c23, c24, c25, c26, c27, c28, c29, c30, c31, c32, c33, c34, c35, c36⟩ := id hl
  obtain ⟨hrow, htxt, htl, hup, hlo, hfn, hdr, hkp, hrb⟩ := id hR
  obtain ⟨wrow, wtxt, wdr, wst, wkp⟩ := id hW
  refine xr_aloadn hc rfl rfl ?_
  refine xr_getfi hc rfl (Or.inl rfl) (by first | assumption | rfl) ?_
  refine xr_ireturn hc rfl rfl (Nat.zero_le _) (Nat.zero_le _) ?_
  rw [htl]
  exact hQ
set_option maxRecDepth 100000 in
theorem X_finding {xo : Nat → List Int} {d : Nat} {Q : dz_Q} {sh : List (Nat ⊕ (Nat × Nat))} {rf : Nat → Nat → Nat} {M : Nat → Nat → Int} {rs : Nat → Int} {it : Nat → Nat → Int} {ts : Nat → Int} {ch : Nat → Nat → Int} {tl up lo : Int} {fn : Nat → Int} {w pl : Int} {kd wt nx : Nat → Int} {n : Nat} {hs : Nat → Nat → Int} {kp : Nat → Int} {kh : Nat → Nat → Nat → Int} (hl : cl sh rf) (hR : RX M rs it ts ch tl up lo fn w pl kd wt nx n hs kp kh) (hW : WF rs it ts ch tl up lo fn w pl kd wt nx n hs kp kh) (hQ : Q (some (dz_i (fn 0))) (sh, rf, M)) : dz_E dz_pp xo (d + 1) 92 [dz_r 0] (sh, rf, M) Q := by
  refine ⟨Nat.le_of_ble_eq_true rfl, ?_⟩
  have hc := dz_E_m dz_pp xo (d + 0)
  show dz_X (dz_E dz_pp xo (d + 0)) dz_pp xo (dz_pp 92) Q 0 [some (dz_r 0)] [] 0 0 (sh, rf, M)
  obtain ⟨c0, c1, c2, c3, c4, c5, c6, c7, c8, c9, c10, c11, c12, c13, c14, c15, c16, c17, c18, c19, c20, c21, c22, c23, c24, c25, c26, c27, c28, c29, c30, c31, c32, c33, c34, c35, c36⟩ := id hl
  obtain ⟨hrow, htxt, htl, hup, hlo, hfn, hdr, hkp, hrb⟩ := id hR
  obtain ⟨wrow, wtxt, wdr, wst, wkp⟩ := id hW
  refine xr_aloadn hc rfl rfl ?_
  refine xr_getfi hc rfl (Or.inl rfl) (by first | assumption | rfl) ?_
  refine xr_ireturn hc rfl rfl (Nat.zero_le _) (Nat.zero_le _) ?_
  rw [hfn.1]
  exact hQ
set_option maxRecDepth 100000 in
theorem X_upper {xo : Nat → List Int} {d : Nat} {Q : dz_Q} {sh : List (Nat ⊕ (Nat × Nat))} {rf : Nat → Nat → Nat} {M : Nat → Nat → Int} {rs : Nat → Int} {it : Nat → Nat → Int} {ts : Nat → Int} {ch : Nat → Nat → Int} {tl up lo : Int} {fn : Nat → Int} {w pl : Int} {kd wt nx : Nat → Int} {n : Nat} {hs : Nat → Nat → Int} {kp : Nat → Int} {kh : Nat → Nat → Nat → Int} (hl : cl sh rf) (hR : RX M rs it ts ch tl up lo fn w pl kd wt nx n hs kp kh) (hW : WF rs it ts ch tl up lo fn w pl kd wt nx n hs kp kh) (hQ : Q (some (dz_l (up))) (sh, rf, M)) : dz_E dz_pp xo (d + 1) 89 [dz_r 0] (sh, rf, M) Q := by
  refine ⟨Nat.le_of_ble_eq_true rfl, ?_⟩
  have hc := dz_E_m dz_pp xo (d + 0)
  show dz_X (dz_E dz_pp xo (d + 0)) dz_pp xo (dz_pp 89) Q 0 [some (dz_r 0)] [] 0 0 (sh, rf, M)
  obtain ⟨c0, c1, c2, c3, c4, c5, c6, c7, c8, c9, c10, c11, c12, c13, c14, c15, c16, c17, c18, c19, c20, c21, c22, c23, c24, c25, c26, c27, c28, c29, c30, c31, c32, c33, c34, c35, c36⟩ := id hl
  obtain ⟨hrow, htxt, htl, hup, hlo, hfn, hdr, hkp, hrb⟩ := id hR
  obtain ⟨wrow, wtxt, wdr, wst, wkp⟩ := id hW
  refine xr_aloadn hc rfl rfl ?_
  refine xr_getfl hc rfl rfl (by first | assumption | rfl) ?_
  refine xr_lreturn hc rfl rfl (Nat.zero_le _) (Nat.zero_le _) ?_
  rw [hup]
  exact hQ
set_option maxRecDepth 100000 in
theorem X_lower {xo : Nat → List Int} {d : Nat} {Q : dz_Q} {sh : List (Nat ⊕ (Nat × Nat))} {rf : Nat → Nat → Nat} {M : Nat → Nat → Int} {rs : Nat → Int} {it : Nat → Nat → Int} {ts : Nat → Int} {ch : Nat → Nat → Int} {tl up lo : Int} {fn : Nat → Int} {w pl : Int} {kd wt nx : Nat → Int} {n : Nat} {hs : Nat → Nat → Int} {kp : Nat → Int} {kh : Nat → Nat → Nat → Int} (hl : cl sh rf) (hR : RX M rs it ts ch tl up lo fn w pl kd wt nx n hs kp kh) (hW : WF rs it ts ch tl up lo fn w pl kd wt nx n hs kp kh) (hQ : Q (some (dz_l (lo))) (sh, rf, M)) : dz_E dz_pp xo (d + 1) 90 [dz_r 0] (sh, rf, M) Q := by
  refine ⟨Nat.le_of_ble_eq_true rfl, ?_⟩
  have hc := dz_E_m dz_pp xo (d + 0)
  show dz_X (dz_E dz_pp xo (d + 0)) dz_pp xo (dz_pp 90) Q 0 [some (dz_r 0)] [] 0 0 (sh, rf, M)
  obtain ⟨c0, c1, c2, c3, c4, c5, c6, c7, c8, c9, c10, c11, c12, c13, c14, c15, c16, c17, c18, c19, c20, c21, c22, c23, c24, c25, c26, c27, c28, c29, c30, c31, c32, c33, c34, c35, c36⟩ := id hl
  obtain ⟨hrow, htxt, htl, hup, hlo, hfn, hdr, hkp, hrb⟩ := id hR
  obtain ⟨wrow, wtxt, wdr, wst, wkp⟩ := id hW
  refine xr_aloadn hc rfl rfl ?_
  refine xr_getfl hc rfl rfl (by first | assumption | rfl) ?_
  refine xr_lreturn hc rfl rfl (Nat.zero_le _) (Nat.zero_le _) ?_
  rw [hlo]
  exact hQ
def o_findings (fn : Nat → Int) (f : Int) : Int := if f < 1 ∨ 5 < f then -1 else fn f.toNat
set_option maxRecDepth 100000 in
theorem X_findings {xo : Nat → List Int} {d : Nat} {Q : dz_Q} {sh : List (Nat ⊕ (Nat × Nat))} {rf : Nat → Nat → Nat} {M : Nat → Nat → Int} {rs : Nat → Int} {it : Nat → Nat → Int} {ts : Nat → Int} {ch : Nat → Nat → Int} {tl up lo : Int} {fn : Nat → Int} {w pl : Int} {kd wt nx : Nat → Int} {n : Nat} {hs : Nat → Nat → Int} {kp : Nat → Int} {kh : Nat → Nat → Nat → Int} {f : Int} (hl : cl sh rf) (hR : RX M rs it ts ch tl up lo fn w pl kd wt nx n hs kp kh) (hW : WF rs it ts ch tl up lo fn w pl kd wt nx n hs kp kh) (hQ : Q (some (dz_i (o_findings fn f))) (sh, rf, M)) : dz_E dz_pp xo (d + 2) 93 [dz_r 0, dz_i f] (sh, rf, M) Q := by
  refine ⟨Nat.le_of_ble_eq_true rfl, ?_⟩
  have hc := dz_E_m dz_pp xo (d + 1)
  show dz_X (dz_E dz_pp xo (d + 1)) dz_pp xo (dz_pp 93) Q 0 [some (dz_r 0), some (dz_i f)] [] 0 0 (sh, rf, M)
  obtain ⟨c0, c1, c2, c3, c4, c5, c6, c7, c8, c9, c10, c11, c12, c13, c14, c15, c16, c17, c18, c19, c20, c21, c22, c23, c24, c25, c26, c27, c28, c29, c30, c31, c32, c33, c34, c35, c36⟩ := id hl
  obtain ⟨hrow, htxt, htl, hup, hlo, hfn, hdr, hkp, hrb⟩ := id hR
  obtain ⟨wrow, wtxt, wdr, wst, wkp⟩ := id hW
  refine xr_iloadn hc rfl rfl ?_
  refine xr_iconst hc rfl ?_
  refine xr_iconst hc rfl ?_
  refine xr_calls3 hc rfl (by decide) rfl rfl rfl (Nat.le_of_ble_eq_true rfl) (Nat.zero_le _) (Nat.zero_le _) ?_
  refine S_isWithin (fun u1 v1 => ?_) (fun u1 => ?_)
  · refine xk_1 ?_
    refine xr_iff hc rfl (by simp [dz_cmp]) ?_
    refine xr_aloadn hc rfl rfl ?_
    refine xr_getfr hc rfl rfl (by first | assumption | rfl) (by first | assumption | rfl) ?_
    refine xr_iloadn hc rfl rfl ?_
    first | refine xr_iaload hc rfl (by first | assumption | rfl) (by first | omega | (unfold dz_w; omega)) (by first | omega | (unfold dz_w; omega)) ?_ | refine xr_ialoado hc rfl (by first | omega | (unfold dz_w; omega)) (by first | omega | (unfold dz_w; omega)) ?_
    refine xr_goto hc rfl (t := 19) rfl ?_
    refine xr_ireturn hc rfl rfl (Nat.zero_le _) (Nat.zero_le _) ?_
    simp only [o_findings] at hQ
    repeat (first | rw [if_pos (by omega)] at hQ | rw [if_neg (by omega)] at hQ)
    try dsimp only at hQ
    first
      | exact hQ
      | (rw [hfn.2 f.toNat (by omega) (by omega)]; exact hQ)
  · refine xk_1 ?_
    refine xr_ift hc rfl (t := 18) rfl (by simp [dz_cmp]) ?_
    refine xr_iconst hc rfl ?_
    refine xr_ireturn hc rfl rfl (Nat.zero_le _) (Nat.zero_le _) ?_
    simp only [o_findings] at hQ
    repeat (first | rw [if_pos (by omega)] at hQ | rw [if_neg (by omega)] at hQ)
    try dsimp only at hQ
    first
      | exact hQ
      | (rw [hfn.2 f.toNat (by omega) (by omega)]; exact hQ)
/-- how many are there -/
def cth (f : Nat → Int) : Nat → Int
  | 0 => 0
  | k + 1 => cth f k + (if f k = -1 then 0 else 1)
theorem cth_in (f : Nat → Int) : ∀ k : Nat, 0 ≤ cth f k ∧ cth f k ≤ k
  | 0 => ⟨Int.le_refl 0, Int.le_refl 0⟩
  | k + 1 => by
    have h := cth_in f k
    rw [cth]
    split <;> omega
theorem cth_c {f g : Nat → Int} : ∀ k : Nat, (∀ i, i < k → f i = g i) → cth f k = cth g k
  | 0, _ => rfl
  | k + 1, h => by rw [cth, cth, cth_c k (fun i hi => h i (by omega)), h k (by omega)]
set_option maxRecDepth 100000 in
theorem S_thereOf {xo : Nat → List Int} {d : Nat} {Q : dz_Q} {sh : List (Nat ⊕ (Nat × Nat))} {rf : Nat → Nat → Nat} {M : Nat → Nat → Int} {q len : Nat} (ha : sh[q]? = some (.inr (0, len))) (hlen : len < 1000) (hQ : Q (some (dz_i (cth (M q) len))) (sh, rf, M)) : dz_E dz_pp xo (d + 1) 116 [dz_r q] (sh, rf, M) Q := by
  refine ⟨Nat.le_of_ble_eq_true rfl, ?_⟩
  have hc := dz_E_m dz_pp xo (d + 0)
  show dz_X (dz_E dz_pp xo (d + 0)) dz_pp xo (dz_pp 116) Q 0 [some (dz_r q), none, none] [] 0 0 (sh, rf, M)
  have lp : ∀ (n : Nat) (i : Nat), i + n = len → dz_X (dz_E dz_pp xo (d + 0)) dz_pp xo (dz_pp 116) Q 4 [some (dz_r q), some (dz_i (cth (M q) i)), some (dz_i (i : Int))] [] 0 0 (sh, rf, M) := by
    intro n
    induction n with
    | zero =>
      intro i hi
      refine xr_iloadn hc rfl rfl ?_
      refine xr_aloadn hc rfl rfl ?_
      first | refine xr_alen hc rfl (by first | assumption | rfl) ?_ | refine xr_aleno hc rfl ?_
      refine xr_icmp_ge hc rfl (t := 26) rfl (fun b7 => ?_) (fun b7 => ?_)
      · refine xr_iloadn hc rfl rfl ?_
        refine xr_ireturn hc rfl rfl (Nat.zero_le _) (Nat.zero_le _) ?_
        have ei : i = len := by omega
        rw [← ei] at hQ
        exact hQ
      · omega
    | succ n ih =>
      intro i hi
      have hci := cth_in (M q) i
      have e1 : cth (M q) (i + 1) = cth (M q) i + (if M q i = -1 then 0 else 1) := rfl
      refine xr_iloadn hc rfl rfl ?_
      refine xr_aloadn hc rfl rfl ?_
      first | refine xr_alen hc rfl (by first | assumption | rfl) ?_ | refine xr_aleno hc rfl ?_
      refine xr_icmp_ge hc rfl (t := 26) rfl (fun b7 => ?_) (fun b7 => ?_)
      · omega
      · refine xr_aloadn hc rfl rfl ?_
        refine xr_iloadn hc rfl rfl ?_
        first | refine xr_iaload hc rfl (by first | assumption | rfl) (by first | omega | (unfold dz_w; omega)) (by first | omega | (unfold dz_w; omega)) ?_ | refine xr_ialoado hc rfl (by first | omega | (unfold dz_w; omega)) (by first | omega | (unfold dz_w; omega)) ?_
        rw [Int.toNat_natCast]
        refine xr_iconst hc rfl ?_
        refine xr_icmp_eq hc rfl (t := 20) rfl (fun b14 => ?_) (fun b14 => ?_)
        · refine xr_iincz2 hc rfl rfl (by first | exact dz_wid (by first | omega | (unfold dz_w; omega)) (by first | omega | (unfold dz_w; omega)) | rfl) ?_
          refine xr_goto hc rfl (t := 4) rfl ?_
          first
            | (rw [if_pos (by omega), Int.add_zero] at e1; rw [← e1]; exact ih (i + 1) (by omega))
            | (rw [if_neg (by omega)] at e1; rw [← e1]; exact ih (i + 1) (by omega))
        · refine xr_iincz1 hc rfl rfl (by first | exact dz_wid (by first | omega | (unfold dz_w; omega)) (by first | omega | (unfold dz_w; omega)) | rfl) ?_
          refine xr_iincz2 hc rfl rfl (by first | exact dz_wid (by first | omega | (unfold dz_w; omega)) (by first | omega | (unfold dz_w; omega)) | rfl) ?_
          refine xr_goto hc rfl (t := 4) rfl ?_
          first
            | (rw [if_pos (by omega), Int.add_zero] at e1; rw [← e1]; exact ih (i + 1) (by omega))
            | (rw [if_neg (by omega)] at e1; rw [← e1]; exact ih (i + 1) (by omega))
  refine xr_iconst hc rfl ?_
  refine xr_istore1 hc rfl rfl ?_
  refine xr_iconst hc rfl ?_
  refine xr_istore2 hc rfl rfl ?_
  exact lp len 0 (by omega)
set_option maxRecDepth 100000 in
theorem S_keptDrums {xo : Nat → List Int} {d : Nat} {Q : dz_Q} {sh : List (Nat ⊕ (Nat × Nat))} {rf : Nat → Nat → Nat} {M : Nat → Nat → Int} {rs : Nat → Int} {it : Nat → Nat → Int} {ts : Nat → Int} {ch : Nat → Nat → Int} {tl up lo : Int} {fn : Nat → Int} {w pl : Int} {kd wt nx : Nat → Int} {n : Nat} {hs : Nat → Nat → Int} {kp : Nat → Int} {kh : Nat → Nat → Nat → Int} (hl : cl sh rf) (hR : RX M rs it ts ch tl up lo fn w pl kd wt nx n hs kp kh) (hW : WF rs it ts ch tl up lo fn w pl kd wt nx n hs kp kh) (hQ : Q (some (dz_i (cth kp 3))) (sh, rf, M)) : dz_E dz_pp xo (d + 2) 117 [dz_r 0] (sh, rf, M) Q := by
  refine ⟨Nat.le_of_ble_eq_true rfl, ?_⟩
  have hc := dz_E_m dz_pp xo (d + 1)
  show dz_X (dz_E dz_pp xo (d + 1)) dz_pp xo (dz_pp 117) Q 0 [some (dz_r 0), none, none] [] 0 0 (sh, rf, M)
  obtain ⟨c0, c1, c2, c3, c4, c5, c6, c7, c8, c9, c10, c11, c12, c13, c14, c15, c16, c17, c18, c19, c20, c21, c22, c23, c24, c25, c26, c27, c28, c29, c30, c31, c32, c33, c34, c35, c36⟩ := id hl
  obtain ⟨hrow, htxt, htl, hup, hlo, hfn, hdr, hkp, hrb⟩ := id hR
  obtain ⟨wrow, wtxt, wdr, wst, wkp⟩ := id hW
  obtain ⟨d0, d1, d2, d3, d4, d5, d6, d7, d8, d9, d10⟩ := id c14
  have m0 := d4.1
  have m1 := d2.1
  obtain ⟨g1, g2, g3, g4, g5, g6⟩ := id hdr
  obtain ⟨r0, r1, r2, r3, r4, r5, r6⟩ := id g2
  have hw6 := WF_w hW
  have lp : ∀ (m : Nat) (i : Nat), i + m = 3 → dz_X (dz_E dz_pp xo (d + 1)) dz_pp xo (dz_pp 117) Q 4 [some (dz_r 0), some (dz_i (cth kp i)), some (dz_i (i : Int))] [] 0 0 (sh, rf, M) := by
    intro m
    induction m with
    | zero =>
      intro i hi
      refine xr_iloadn hc rfl rfl ?_
      refine xr_iconst hc rfl ?_
      refine xr_icmp_ge hc rfl (t := 30) rfl (fun b6 => ?_) (fun b6 => ?_)
      · refine xr_iloadn hc rfl rfl ?_
        refine xr_ireturn hc rfl rfl (Nat.zero_le _) (Nat.zero_le _) ?_
        have ei : i = 3 := by omega
        rw [ei]
        exact hQ
      · omega
    | succ m ih =>
      intro i hi
      have hci := cth_in kp i
      have e1 : cth kp (i + 1) = cth kp i + (if kp i = -1 then 0 else 1) := rfl
      have c17k := c17 i (by omega)
      have c18k := c18 i (by omega)
      have c18z := c18k.1
      have hkk := hkp i (by omega)
      have hkm : M (61 + 18 * i + 8) 0 = 0 → kp i = -1 := by
        intro h8
        rcases hkk with y | y
        · exact y.1
        · have h9 := y.2.2.1.1
          rcases wdr with z | z
          · have := z.1
            omega
          · exact z.2.2.2 i (by omega)
      have hkn : M (61 + 18 * i + 8) 0 ≠ 0 → 0 ≤ kp i := by
        intro h8
        rcases hkk with y | y
        · exact absurd y.2 h8
        · exact y.1
      refine xr_iloadn hc rfl rfl ?_
      refine xr_iconst hc rfl ?_
      refine xr_icmp_ge hc rfl (t := 30) rfl (fun b6 => ?_) (fun b6 => ?_)
      · omega
      · refine xr_aloadn hc rfl rfl ?_
        refine xr_getfr hc rfl rfl (by first | assumption | rfl) (by first | assumption | rfl) ?_
        refine xr_iloadn hc rfl rfl ?_
        refine xr_aaload hc rfl (by first | assumption | rfl) (by decide) (by first | omega | (unfold dz_w; omega)) (by first | omega | (unfold dz_w; omega)) (by first | assumption | rfl) ?_
        refine xr_callv0 hc rfl (by first | assumption | rfl) rfl rfl rfl (Nat.le_of_ble_eq_true rfl) (Nat.zero_le _) (Nat.zero_le _) ?_
        refine S_isMissing c18k (fun u2 => ?_) (fun u2 => ?_)
        have u3 := hkm u2
        rotate_left
        have u4 := hkn u2
        rotate_right
        · refine xk_1 ?_
          refine xr_ift hc rfl (t := 24) rfl (by simp [dz_cmp]) ?_
          refine xr_iincz2 hc rfl rfl (by first | exact dz_wid (by first | omega | (unfold dz_w; omega)) (by first | omega | (unfold dz_w; omega)) | rfl) ?_
          refine xr_goto hc rfl (t := 4) rfl ?_
          first
            | (rw [if_pos (by omega), Int.add_zero] at e1; rw [← e1]; exact ih (i + 1) (by omega))
            | (rw [if_neg (by omega)] at e1; rw [← e1]; exact ih (i + 1) (by omega))
        · refine xk_1 ?_
          refine xr_iff hc rfl (by simp [dz_cmp]) ?_
          refine xr_iincz1 hc rfl rfl (by first | exact dz_wid (by first | omega | (unfold dz_w; omega)) (by first | omega | (unfold dz_w; omega)) | rfl) ?_
          refine xr_iincz2 hc rfl rfl (by first | exact dz_wid (by first | omega | (unfold dz_w; omega)) (by first | omega | (unfold dz_w; omega)) | rfl) ?_
          refine xr_goto hc rfl (t := 4) rfl ?_
          first
            | (rw [if_pos (by omega), Int.add_zero] at e1; rw [← e1]; exact ih (i + 1) (by omega))
            | (rw [if_neg (by omega)] at e1; rw [← e1]; exact ih (i + 1) (by omega))
  refine xr_iconst hc rfl ?_
  refine xr_istore1 hc rfl rfl ?_
  refine xr_iconst hc rfl ?_
  refine xr_istore2 hc rfl rfl ?_
  exact lp 3 0 (by omega)
set_option maxRecDepth 100000 in
theorem S_adds0 {xo : Nat → List Int} {d : Nat} {Q : dz_Q} {sh : List (Nat ⊕ (Nat × Nat))} {rf : Nat → Nat → Nat} {M : Nat → Nat → Int} {q : Nat} (hm : ma_at sh rf q) (h0 : M q 0 = 0) (hQ : Q (some (dz_i 0)) (sh, rf, M)) : dz_E dz_pp xo (d + 3) 14 [dz_r q] (sh, rf, M) Q := by
  refine ⟨Nat.le_of_ble_eq_true rfl, ?_⟩
  have hc := dz_E_m dz_pp xo (d + 2)
  show dz_X (dz_E dz_pp xo (d + 2)) dz_pp xo (dz_pp 14) Q 0 [some (dz_r q), none, none] [] 0 0 (sh, rf, M)
  have m0 := hm.1
  refine xr_iconst hc rfl ?_
  refine xr_istore1 hc rfl rfl ?_
  refine xr_iconst hc rfl ?_
  refine xr_istore2 hc rfl rfl ?_
  refine xr_iloadn hc rfl rfl ?_
  refine xr_aloadn hc rfl rfl ?_
  refine xr_getfi hc rfl (Or.inl rfl) (by first | assumption | rfl) ?_
  refine xr_icmp_ge hc rfl (t := 30) rfl (fun b9 => ?_) (fun b9 => ?_)
  · refine xr_iloadn hc rfl rfl ?_
    refine xr_ireturn hc rfl rfl (Nat.zero_le _) (Nat.zero_le _) ?_
    exact hQ
  · omega
def o_count (rs ts : Nat → Int) (w pl : Int) (kd : Nat → Int) (n : Nat) (s kp : Nat → Int) (what : Int) : Int := if what = 0 then w else if what = 1 then pl else if what = 2 then (n : Int) else if what = 3 then s 1 else if what = 4 then s 2 else if what = 5 then s 3 else if what = 6 then s 4 else if what = 7 then cadd kd w.toNat else if what = 8 then cth rs 6 else if what = 9 then cth ts 4 else if what = 10 then cth kp 3 else -1
set_option maxRecDepth 100000 in
theorem X_count {xo : Nat → List Int} {d : Nat} {Q : dz_Q} {sh : List (Nat ⊕ (Nat × Nat))} {rf : Nat → Nat → Nat} {M : Nat → Nat → Int} {rs : Nat → Int} {it : Nat → Nat → Int} {ts : Nat → Int} {ch : Nat → Nat → Int} {tl up lo : Int} {fn : Nat → Int} {w pl : Int} {kd wt nx : Nat → Int} {n : Nat} {hs : Nat → Nat → Int} {kp : Nat → Int} {kh : Nat → Nat → Nat → Int} {what : Int} (hx : xo 2 = dz_xs2) (hl : cl sh rf) (hR : RX M rs it ts ch tl up lo fn w pl kd wt nx n hs kp kh) (hW : WF rs it ts ch tl up lo fn w pl kd wt nx n hs kp kh) (hQ : Q (some (dz_i ((o_count rs ts w pl kd n (hs n) kp what)))) (sh, rf, M)) : dz_E dz_pp xo (d + 4) 91 [dz_r 0, dz_i what] (sh, rf, M) Q := by
  refine ⟨Nat.le_of_ble_eq_true rfl, ?_⟩
  have hc := dz_E_m dz_pp xo (d + 3)
  show dz_X (dz_E dz_pp xo (d + 3)) dz_pp xo (dz_pp 91) Q 0 [some (dz_r 0), some (dz_i what)] [] 0 0 (sh, rf, M)
  obtain ⟨c0, c1, c2, c3, c4, c5, c6, c7, c8, c9, c10, c11, c12, c13, c14, c15, c16, c17, c18, c19, c20, c21, c22, c23, c24, c25, c26, c27, c28, c29, c30, c31, c32, c33, c34, c35, c36⟩ := id hl
  obtain ⟨hrow, htxt, htl, hup, hlo, hfn, hdr, hkp, hrb⟩ := id hR
  obtain ⟨wrow, wtxt, wdr, wst, wkp⟩ := id hW
  obtain ⟨d0, d1, d2, d3, d4, d5, d6, d7, d8, d9, d10⟩ := id c14
  have m0 := d4.1
  have m1 := d2.1
  obtain ⟨g1, g2, g3, g4, g5, g6⟩ := id hdr
  obtain ⟨r0, r1, r2, r3, r4, r5, r6⟩ := id g2
  have hw6 := WF_w hW
  unfold o_count at hQ
  refine xr_iloadn hc rfl rfl ?_
  refine xr_table hc rfl (fun t1 => ?_) (fun t1 t1b => ?_)
  · refine xr_at (t := 166) rfl ?_
    refine xr_iconst hc rfl ?_
    refine xr_ireturn hc rfl rfl (Nat.zero_le _) (Nat.zero_le _) ?_
    repeat (first | rw [if_pos (by omega)] at hQ | rw [if_neg (by omega)] at hQ)
    first
      | exact hQ
      | (rw [r0]; exact hQ)
      | (rw [r1]; exact hQ)
      | (rw [g3]; exact hQ)
      | (rw [r2]; exact hQ)
      | (rw [r3]; exact hQ)
      | (rw [r4]; exact hQ)
      | (rw [r5]; exact hQ)
  · rcases (show what = 0 ∨ what = 1 ∨ what = 2 ∨ what = 3 ∨ what = 4 ∨ what = 5 ∨ what = 6 ∨ what = 7 ∨ what = 8 ∨ what = 9 ∨ what = 10 by omega) with e1 | e1 | e1 | e1 | e1 | e1 | e1 | e1 | e1 | e1 | e1
    · refine ⟨59, by rw [e1]; rfl, xr_at (t := 60) rfl ?_⟩
      refine xr_aloadn hc rfl rfl ?_
      refine xr_getfr hc rfl rfl (by first | assumption | rfl) (by first | assumption | rfl) ?_
      refine xr_getfr hc rfl rfl (by first | assumption | rfl) (by first | assumption | rfl) ?_
      refine xr_getfi hc rfl (Or.inl rfl) (by first | assumption | rfl) ?_
      refine xr_ireturn hc rfl rfl (Nat.zero_le _) (Nat.zero_le _) ?_
      repeat (first | rw [if_pos (by omega)] at hQ | rw [if_neg (by omega)] at hQ)
      first
        | exact hQ
        | (rw [r0]; exact hQ)
        | (rw [r1]; exact hQ)
        | (rw [g3]; exact hQ)
        | (rw [r2]; exact hQ)
        | (rw [r3]; exact hQ)
        | (rw [r4]; exact hQ)
        | (rw [r5]; exact hQ)
    · refine ⟨70, by rw [e1]; rfl, xr_at (t := 71) rfl ?_⟩
      refine xr_aloadn hc rfl rfl ?_
      refine xr_getfr hc rfl rfl (by first | assumption | rfl) (by first | assumption | rfl) ?_
      refine xr_getfr hc rfl rfl (by first | assumption | rfl) (by first | assumption | rfl) ?_
      refine xr_getfi hc rfl (Or.inl rfl) (by first | assumption | rfl) ?_
      refine xr_ireturn hc rfl rfl (Nat.zero_le _) (Nat.zero_le _) ?_
      repeat (first | rw [if_pos (by omega)] at hQ | rw [if_neg (by omega)] at hQ)
      first
        | exact hQ
        | (rw [r0]; exact hQ)
        | (rw [r1]; exact hQ)
        | (rw [g3]; exact hQ)
        | (rw [r2]; exact hQ)
        | (rw [r3]; exact hQ)
        | (rw [r4]; exact hQ)
        | (rw [r5]; exact hQ)
    · refine ⟨81, by rw [e1]; rfl, xr_at (t := 82) rfl ?_⟩
      refine xr_aloadn hc rfl rfl ?_
      refine xr_getfr hc rfl rfl (by first | assumption | rfl) (by first | assumption | rfl) ?_
      refine xr_getfi hc rfl (Or.inl rfl) (by first | assumption | rfl) ?_
      refine xr_ireturn hc rfl rfl (Nat.zero_le _) (Nat.zero_le _) ?_
      repeat (first | rw [if_pos (by omega)] at hQ | rw [if_neg (by omega)] at hQ)
      first
        | exact hQ
        | (rw [r0]; exact hQ)
        | (rw [r1]; exact hQ)
        | (rw [g3]; exact hQ)
        | (rw [r2]; exact hQ)
        | (rw [r3]; exact hQ)
        | (rw [r4]; exact hQ)
        | (rw [r5]; exact hQ)
    · refine ⟨89, by rw [e1]; rfl, xr_at (t := 90) rfl ?_⟩
      refine xr_aloadn hc rfl rfl ?_
      refine xr_getfr hc rfl rfl (by first | assumption | rfl) (by first | assumption | rfl) ?_
      refine xr_getfr hc rfl rfl (by first | assumption | rfl) (by first | assumption | rfl) ?_
      refine xr_getfi hc rfl (Or.inl rfl) (by first | assumption | rfl) ?_
      refine xr_ireturn hc rfl rfl (Nat.zero_le _) (Nat.zero_le _) ?_
      repeat (first | rw [if_pos (by omega)] at hQ | rw [if_neg (by omega)] at hQ)
      first
        | exact hQ
        | (rw [r0]; exact hQ)
        | (rw [r1]; exact hQ)
        | (rw [g3]; exact hQ)
        | (rw [r2]; exact hQ)
        | (rw [r3]; exact hQ)
        | (rw [r4]; exact hQ)
        | (rw [r5]; exact hQ)
    · refine ⟨100, by rw [e1]; rfl, xr_at (t := 101) rfl ?_⟩
      refine xr_aloadn hc rfl rfl ?_
      refine xr_getfr hc rfl rfl (by first | assumption | rfl) (by first | assumption | rfl) ?_
      refine xr_getfr hc rfl rfl (by first | assumption | rfl) (by first | assumption | rfl) ?_
      refine xr_getfi hc rfl (Or.inl rfl) (by first | assumption | rfl) ?_
      refine xr_ireturn hc rfl rfl (Nat.zero_le _) (Nat.zero_le _) ?_
      repeat (first | rw [if_pos (by omega)] at hQ | rw [if_neg (by omega)] at hQ)
      first
        | exact hQ
        | (rw [r0]; exact hQ)
        | (rw [r1]; exact hQ)
        | (rw [g3]; exact hQ)
        | (rw [r2]; exact hQ)
        | (rw [r3]; exact hQ)
        | (rw [r4]; exact hQ)
        | (rw [r5]; exact hQ)
    · refine ⟨111, by rw [e1]; rfl, xr_at (t := 112) rfl ?_⟩
      refine xr_aloadn hc rfl rfl ?_
      refine xr_getfr hc rfl rfl (by first | assumption | rfl) (by first | assumption | rfl) ?_
      refine xr_getfr hc rfl rfl (by first | assumption | rfl) (by first | assumption | rfl) ?_
      refine xr_getfi hc rfl (Or.inl rfl) (by first | assumption | rfl) ?_
      refine xr_ireturn hc rfl rfl (Nat.zero_le _) (Nat.zero_le _) ?_
      repeat (first | rw [if_pos (by omega)] at hQ | rw [if_neg (by omega)] at hQ)
      first
        | exact hQ
        | (rw [r0]; exact hQ)
        | (rw [r1]; exact hQ)
        | (rw [g3]; exact hQ)
        | (rw [r2]; exact hQ)
        | (rw [r3]; exact hQ)
        | (rw [r4]; exact hQ)
        | (rw [r5]; exact hQ)
    · refine ⟨122, by rw [e1]; rfl, xr_at (t := 123) rfl ?_⟩
      refine xr_aloadn hc rfl rfl ?_
      refine xr_getfr hc rfl rfl (by first | assumption | rfl) (by first | assumption | rfl) ?_
      refine xr_getfr hc rfl rfl (by first | assumption | rfl) (by first | assumption | rfl) ?_
      refine xr_getfi hc rfl (Or.inl rfl) (by first | assumption | rfl) ?_
      refine xr_ireturn hc rfl rfl (Nat.zero_le _) (Nat.zero_le _) ?_
      repeat (first | rw [if_pos (by omega)] at hQ | rw [if_neg (by omega)] at hQ)
      first
        | exact hQ
        | (rw [r0]; exact hQ)
        | (rw [r1]; exact hQ)
        | (rw [g3]; exact hQ)
        | (rw [r2]; exact hQ)
        | (rw [r3]; exact hQ)
        | (rw [r4]; exact hQ)
        | (rw [r5]; exact hQ)
    · refine ⟨133, by rw [e1]; rfl, xr_at (t := 134) rfl ?_⟩
      refine xr_aloadn hc rfl rfl ?_
      refine xr_getfr hc rfl rfl (by first | assumption | rfl) (by first | assumption | rfl) ?_
      refine xr_getfr hc rfl rfl (by first | assumption | rfl) (by first | assumption | rfl) ?_
      refine xr_callv0 hc rfl (by first | assumption | rfl) rfl rfl rfl (Nat.le_of_ble_eq_true rfl) (Nat.zero_le _) (Nat.zero_le _) ?_
      by_cases hw0 : w = 0
      · refine S_adds0 d4 (by omega) ?_
        refine xk_1 ?_
        refine xr_ireturn hc rfl rfl (Nat.zero_le _) (Nat.zero_le _) ?_
        repeat (first | rw [if_pos (by omega)] at hQ | rw [if_neg (by omega)] at hQ)
        rw [hw0] at hQ
        exact hQ
      · have hp := WF_p hW hw0
        have hst := wst.2 n (Nat.le_refl n)
        refine S_adds hx d4 hp hst g2 ?_
        refine xk_1 ?_
        refine xr_ireturn hc rfl rfl (Nat.zero_le _) (Nat.zero_le _) ?_
        repeat (first | rw [if_pos (by omega)] at hQ | rw [if_neg (by omega)] at hQ)
        exact hQ
    · refine ⟨144, by rw [e1]; rfl, xr_at (t := 145) rfl ?_⟩
      refine xr_aloadn hc rfl rfl ?_
      refine xr_getfr hc rfl rfl (by first | assumption | rfl) (by first | assumption | rfl) ?_
      refine xr_calls1 hc rfl (by decide) rfl rfl rfl (Nat.le_of_ble_eq_true rfl) (Nat.zero_le _) (Nat.zero_le _) ?_
      refine S_thereOf c6 (by omega) ?_
      rw [cth_c (f := M 8) (g := rs) 6 (fun i hi => (hrow i hi).1)]
      refine xk_1 ?_
      refine xr_ireturn hc rfl rfl (Nat.zero_le _) (Nat.zero_le _) ?_
      repeat (first | rw [if_pos (by omega)] at hQ | rw [if_neg (by omega)] at hQ)
      first
        | exact hQ
        | (rw [r0]; exact hQ)
        | (rw [r1]; exact hQ)
        | (rw [g3]; exact hQ)
        | (rw [r2]; exact hQ)
        | (rw [r3]; exact hQ)
        | (rw [r4]; exact hQ)
        | (rw [r5]; exact hQ)
    · refine ⟨152, by rw [e1]; rfl, xr_at (t := 153) rfl ?_⟩
      refine xr_aloadn hc rfl rfl ?_
      refine xr_getfr hc rfl rfl (by first | assumption | rfl) (by first | assumption | rfl) ?_
      refine xr_calls1 hc rfl (by decide) rfl rfl rfl (Nat.le_of_ble_eq_true rfl) (Nat.zero_le _) (Nat.zero_le _) ?_
      refine S_thereOf c12 (by omega) ?_
      rw [cth_c (f := M 14) (g := ts) 4 (fun i hi => (htxt i hi).1)]
      refine xk_1 ?_
      refine xr_ireturn hc rfl rfl (Nat.zero_le _) (Nat.zero_le _) ?_
      repeat (first | rw [if_pos (by omega)] at hQ | rw [if_neg (by omega)] at hQ)
      first
        | exact hQ
        | (rw [r0]; exact hQ)
        | (rw [r1]; exact hQ)
        | (rw [g3]; exact hQ)
        | (rw [r2]; exact hQ)
        | (rw [r3]; exact hQ)
        | (rw [r4]; exact hQ)
        | (rw [r5]; exact hQ)
    · refine ⟨160, by rw [e1]; rfl, xr_at (t := 161) rfl ?_⟩
      refine xr_aloadn hc rfl rfl ?_
      refine xr_callv0 hc rfl (by first | assumption | rfl) rfl rfl rfl (Nat.le_of_ble_eq_true rfl) (Nat.zero_le _) (Nat.zero_le _) ?_
      refine S_keptDrums hl hR hW ?_
      refine xk_1 ?_
      refine xr_ireturn hc rfl rfl (Nat.zero_le _) (Nat.zero_le _) ?_
      repeat (first | rw [if_pos (by omega)] at hQ | rw [if_neg (by omega)] at hQ)
      first
        | exact hQ
        | (rw [r0]; exact hQ)
        | (rw [r1]; exact hQ)
        | (rw [g3]; exact hQ)
        | (rw [r2]; exact hQ)
        | (rw [r3]; exact hQ)
        | (rw [r4]; exact hQ)
        | (rw [r5]; exact hQ)
/-- one more number comes into the digest -/
def hf (h x : Int) : Int := dz_W (dz_W (31 * h) + x)
def fld (f : Nat → Int) : Nat → Int → Int
  | 0, h => h
  | k + 1, h => hf (fld f k h) (f k)
theorem fld_c {f g : Nat → Int} : ∀ (k : Nat) (h : Int), (∀ i, i < k → f i = g i) → fld f k h = fld g k h
  | 0, _, _ => rfl
  | k + 1, h, z => by rw [fld, fld, fld_c k h (fun i hi => z i (by omega)), z k (by omega)]
def dgw (f : Nat → Nat → Int) : Nat → Int → Int
  | 0, h => h
  | i + 1, h => fld (f i) 6 (dgw f i h)
def dgr (rs : Nat → Int) (it : Nat → Nat → Int) : Nat → Int → Int
  | 0, h => h
  | r + 1, h => fld (it r) (rs r).toNat (hf (dgr rs it r h) (rs r))
def o_digest (rs : Nat → Int) (it : Nat → Nat → Int) (ts : Nat → Int) (ch : Nat → Nat → Int) (w pl : Int) (kd wt nx : Nat → Int) (n : Nat) (s kp : Nat → Int) : Int :=
  dgr ts ch 4 (dgr rs it 6 (fld kp 3 (dgw (fun i k => tw kd wt nx s i k) w.toNat (fld (fun k => o_count rs ts w pl kd n s kp k) 11 17))))
set_option maxRecDepth 100000 in
theorem X_digest {xo : Nat → List Int} {d : Nat} {Q : dz_Q} {sh : List (Nat ⊕ (Nat × Nat))} {rf : Nat → Nat → Nat} {M : Nat → Nat → Int} {rs : Nat → Int} {it : Nat → Nat → Int} {ts : Nat → Int} {ch : Nat → Nat → Int} {tl up lo : Int} {fn : Nat → Int} {w pl : Int} {kd wt nx : Nat → Int} {n : Nat} {hs : Nat → Nat → Int} {kp : Nat → Int} {kh : Nat → Nat → Nat → Int} (hx : xo 2 = dz_xs2) (hl : cl sh rf) (hR : RX M rs it ts ch tl up lo fn w pl kd wt nx n hs kp kh) (hW : WF rs it ts ch tl up lo fn w pl kd wt nx n hs kp kh) (hQ : Q (some (dz_l (o_digest rs it ts ch w pl kd wt nx n (hs n) kp))) (sh, rf, M)) : dz_E dz_pp xo (d + 5) 94 [dz_r 0] (sh, rf, M) Q := by
  refine ⟨Nat.le_of_ble_eq_true rfl, ?_⟩
  have hc := dz_E_m dz_pp xo (d + 4)
  show dz_X (dz_E dz_pp xo (d + 4)) dz_pp xo (dz_pp 94) Q 0 [some (dz_r 0), none, none, none, none] [] 0 0 (sh, rf, M)
  obtain ⟨c0, c1, c2, c3, c4, c5, c6, c7, c8, c9, c10, c11, c12, c13, c14, c15, c16, c17, c18, c19, c20, c21, c22, c23, c24, c25, c26, c27, c28, c29, c30, c31, c32, c33, c34, c35, c36⟩ := id hl
  obtain ⟨hrow, htxt, htl, hup, hlo, hfn, hdr, hkp, hrb⟩ := id hR
  obtain ⟨wrow, wtxt, wdr, wst, wkp⟩ := id hW
  obtain ⟨d0, d1, d2, d3, d4, d5, d6, d7, d8, d9, d10⟩ := id c14
  have m0 := d4.1
  have m1 := d2.1
  obtain ⟨g1, g2, g3, g4, g5, g6⟩ := id hdr
  obtain ⟨r0, r1, r2, r3, r4, r5, r6⟩ := id g2
  have hw6 := WF_w hW
  have l5i : ∀ (m : Nat) (t k : Nat), t < 4 → (k : Int) + m = (if ts t < 0 then 0 else ts t) → (dz_X (dz_E dz_pp xo (d + 4)) dz_pp xo (dz_pp 94) Q 203 [some (dz_r 0), some (dz_l (dgr ts ch (t + 1) (dgr rs it 6 (fld kp 3 (dgw (fun i k => tw kd wt nx (hs n) i k) w.toNat (fld (fun k => o_count rs ts w pl kd n (hs n) kp k) 11 17)))))), none, some (dz_i ((t : Int) + 1 : Int)), some (dz_i (if ts t < 0 then 0 else ts t))] [] 0 0 (sh, rf, M)) → dz_X (dz_E dz_pp xo (d + 4)) dz_pp xo (dz_pp 94) Q 225 [some (dz_r 0), some (dz_l (fld (ch t) k (hf (dgr ts ch t (dgr rs it 6 (fld kp 3 (dgw (fun i k => tw kd wt nx (hs n) i k) w.toNat (fld (fun k => o_count rs ts w pl kd n (hs n) kp k) 11 17))))) (ts t)))), none, some (dz_i (t : Int)), some (dz_i (k : Int))] [] 0 0 (sh, rf, M) := by
    intro m
    induction m with
    | zero =>
      intro t k ht hk hK
      obtain ⟨e1, e2⟩ := htxt t ht
      have c9r := c9 t ht
      have c10r := c10 t ht
      have wt1 := (wtxt t ht).1
      refine xr_iload hc rfl rfl ?_
      refine xr_aloadn hc rfl rfl ?_
      refine xr_getfr hc rfl rfl (by first | assumption | rfl) (by first | assumption | rfl) ?_
      refine xr_iloadn hc rfl rfl ?_
      first | refine xr_iaload hc rfl (by first | assumption | rfl) (by first | omega | (unfold dz_w; omega)) (by first | omega | (unfold dz_w; omega)) ?_ | refine xr_ialoado hc rfl (by first | omega | (unfold dz_w; omega)) (by first | omega | (unfold dz_w; omega)) ?_
      rw [Int.toNat_natCast, e1]
      refine xr_icmp_ge hc rfl (t := 259) rfl (fun b233 => ?_) (fun b233 => ?_)
      · refine xr_iincz3 hc rfl rfl (by first | exact dz_wid (by first | omega | (unfold dz_w; omega)) (by first | omega | (unfold dz_w; omega)) | rfl) ?_
        refine xr_goto hc rfl (t := 203) rfl ?_
        have ek : k = (ts t).toNat := by split at hk <;> omega
        have ek2 : (k : Int) = if ts t < 0 then 0 else ts t := by omega
        rw [ek2, show fld (ch t) k _ = (dgr ts ch (t + 1) (dgr rs it 6 (fld kp 3 (dgw (fun i k => tw kd wt nx (hs n) i k) w.toNat (fld (fun k => o_count rs ts w pl kd n (hs n) kp k) 11 17))))) by rw [ek]; rfl]
        exact hK
      · split at hk <;> omega
    | succ m ih =>
      intro t k ht hk hK
      obtain ⟨e1, e2⟩ := htxt t ht
      have c9r := c9 t ht
      have c10r := c10 t ht
      have wt1 := (wtxt t ht).1
      have hk3 : (k : Int) < ts t := by split at hk <;> omega
      have e3 := e2 k hk3
      refine xr_iload hc rfl rfl ?_
      refine xr_aloadn hc rfl rfl ?_
      refine xr_getfr hc rfl rfl (by first | assumption | rfl) (by first | assumption | rfl) ?_
      refine xr_iloadn hc rfl rfl ?_
      first | refine xr_iaload hc rfl (by first | assumption | rfl) (by first | omega | (unfold dz_w; omega)) (by first | omega | (unfold dz_w; omega)) ?_ | refine xr_ialoado hc rfl (by first | omega | (unfold dz_w; omega)) (by first | omega | (unfold dz_w; omega)) ?_
      rw [Int.toNat_natCast, e1]
      refine xr_icmp_ge hc rfl (t := 259) rfl (fun b233 => ?_) (fun b233 => ?_)
      · omega
      · refine xr_ldc2 hc rfl ?_
        refine xr_lloadn hc rfl rfl ?_
        refine xr_lmul hc rfl ?_
        refine xr_aloadn hc rfl rfl ?_
        refine xr_getfr hc rfl rfl (by first | assumption | rfl) (by first | assumption | rfl) ?_
        refine xr_iloadn hc rfl rfl ?_
        refine xr_aaload hc rfl (by first | assumption | rfl) (by decide) (by first | omega | (unfold dz_w; omega)) (by first | omega | (unfold dz_w; omega)) (by first | assumption | rfl) ?_
        refine xr_iload hc rfl rfl ?_
        refine xr_baload hc rfl (by first | assumption | rfl) (by first | omega | (unfold dz_w; omega)) (by first | omega | (unfold dz_w; omega)) ?_
        rw [Int.toNat_natCast, e3]
        refine xr_i2l hc rfl ?_
        refine xr_ladd hc rfl ?_
        refine xr_lstore1 hc rfl rfl ?_
        refine xr_iincz4 hc rfl rfl (by first | exact dz_wid (by first | omega | (unfold dz_w; omega)) (by first | omega | (unfold dz_w; omega)) | rfl) ?_
        refine xr_goto hc rfl (t := 225) rfl ?_
        exact ih t (k + 1) ht (by omega) hK
  have l5 : ∀ (m : Nat) (t : Nat) (K : Option dz_V), t + m = 4 → dz_X (dz_E dz_pp xo (d + 4)) dz_pp xo (dz_pp 94) Q 203 [some (dz_r 0), some (dz_l (dgr ts ch t (dgr rs it 6 (fld kp 3 (dgw (fun i k => tw kd wt nx (hs n) i k) w.toNat (fld (fun k => o_count rs ts w pl kd n (hs n) kp k) 11 17)))))), none, some (dz_i (t : Int)), K] [] 0 0 (sh, rf, M) := by
    intro m
    induction m with
    | zero =>
      intro t K ht
      have et : t = 4 := by omega
      subst et
      refine xr_iloadn hc rfl rfl ?_
      refine xr_iconst hc rfl ?_
      refine xr_icmp_ge hc rfl (t := 265) rfl (fun b205 => ?_) (fun b205 => ?_)
      · refine xr_lloadn hc rfl rfl ?_
        refine xr_lreturn hc rfl rfl (Nat.zero_le _) (Nat.zero_le _) ?_
        exact hQ
      · omega
    | succ m ih =>
      intro t K ht
      obtain ⟨e1, e2⟩ := htxt t (by omega)
      have wt1 := (wtxt t (by omega)).1
      refine xr_iloadn hc rfl rfl ?_
      refine xr_iconst hc rfl ?_
      refine xr_icmp_ge hc rfl (t := 265) rfl (fun b205 => ?_) (fun b205 => ?_)
      · omega
      · refine xr_ldc2 hc rfl ?_
        refine xr_lloadn hc rfl rfl ?_
        refine xr_lmul hc rfl ?_
        refine xr_aloadn hc rfl rfl ?_
        refine xr_getfr hc rfl rfl (by first | assumption | rfl) (by first | assumption | rfl) ?_
        refine xr_iloadn hc rfl rfl ?_
        first | refine xr_iaload hc rfl (by first | assumption | rfl) (by first | omega | (unfold dz_w; omega)) (by first | omega | (unfold dz_w; omega)) ?_ | refine xr_ialoado hc rfl (by first | omega | (unfold dz_w; omega)) (by first | omega | (unfold dz_w; omega)) ?_
        rw [Int.toNat_natCast, e1]
        refine xr_i2l hc rfl ?_
        refine xr_ladd hc rfl ?_
        refine xr_lstore1 hc rfl rfl ?_
        refine xr_iconst hc rfl ?_
        refine xr_istore4 hc rfl rfl ?_
        exact l5i (if ts t < 0 then 0 else ts t).toNat t 0 (by omega) (by split <;> omega) (ih (t + 1) _ (by omega))
  have l4i : ∀ (m : Nat) (t k : Nat), t < 6 → (k : Int) + m = (if rs t < 0 then 0 else rs t) → (dz_X (dz_E dz_pp xo (d + 4)) dz_pp xo (dz_pp 94) Q 138 [some (dz_r 0), some (dz_l (dgr rs it (t + 1) (fld kp 3 (dgw (fun i k => tw kd wt nx (hs n) i k) w.toNat (fld (fun k => o_count rs ts w pl kd n (hs n) kp k) 11 17))))), none, some (dz_i ((t : Int) + 1 : Int)), some (dz_i (if rs t < 0 then 0 else rs t))] [] 0 0 (sh, rf, M)) → dz_X (dz_E dz_pp xo (d + 4)) dz_pp xo (dz_pp 94) Q 161 [some (dz_r 0), some (dz_l (fld (it t) k (hf (dgr rs it t (fld kp 3 (dgw (fun i k => tw kd wt nx (hs n) i k) w.toNat (fld (fun k => o_count rs ts w pl kd n (hs n) kp k) 11 17)))) (rs t)))), none, some (dz_i (t : Int)), some (dz_i (k : Int))] [] 0 0 (sh, rf, M) := by
    intro m
    induction m with
    | zero =>
      intro t k ht hk hK
      obtain ⟨e1, e2⟩ := hrow t ht
      have c3r := c3 t ht
      have c4r := c4 t ht
      have wt1 := wrow t ht
      refine xr_iload hc rfl rfl ?_
      refine xr_aloadn hc rfl rfl ?_
      refine xr_getfr hc rfl rfl (by first | assumption | rfl) (by first | assumption | rfl) ?_
      refine xr_iloadn hc rfl rfl ?_
      first | refine xr_iaload hc rfl (by first | assumption | rfl) (by first | omega | (unfold dz_w; omega)) (by first | omega | (unfold dz_w; omega)) ?_ | refine xr_ialoado hc rfl (by first | omega | (unfold dz_w; omega)) (by first | omega | (unfold dz_w; omega)) ?_
      rw [Int.toNat_natCast, e1]
      refine xr_icmp_ge hc rfl (t := 195) rfl (fun b169 => ?_) (fun b169 => ?_)
      · refine xr_iincz3 hc rfl rfl (by first | exact dz_wid (by first | omega | (unfold dz_w; omega)) (by first | omega | (unfold dz_w; omega)) | rfl) ?_
        refine xr_goto hc rfl (t := 138) rfl ?_
        have ek : k = (rs t).toNat := by split at hk <;> omega
        have ek2 : (k : Int) = if rs t < 0 then 0 else rs t := by omega
        rw [ek2, show fld (it t) k _ = (dgr rs it (t + 1) (fld kp 3 (dgw (fun i k => tw kd wt nx (hs n) i k) w.toNat (fld (fun k => o_count rs ts w pl kd n (hs n) kp k) 11 17)))) by rw [ek]; rfl]
        exact hK
      · split at hk <;> omega
    | succ m ih =>
      intro t k ht hk hK
      obtain ⟨e1, e2⟩ := hrow t ht
      have c3r := c3 t ht
      have c4r := c4 t ht
      have wt1 := wrow t ht
      have hk3 : (k : Int) < rs t := by split at hk <;> omega
      have e3 := e2 k hk3
      refine xr_iload hc rfl rfl ?_
      refine xr_aloadn hc rfl rfl ?_
      refine xr_getfr hc rfl rfl (by first | assumption | rfl) (by first | assumption | rfl) ?_
      refine xr_iloadn hc rfl rfl ?_
      first | refine xr_iaload hc rfl (by first | assumption | rfl) (by first | omega | (unfold dz_w; omega)) (by first | omega | (unfold dz_w; omega)) ?_ | refine xr_ialoado hc rfl (by first | omega | (unfold dz_w; omega)) (by first | omega | (unfold dz_w; omega)) ?_
      rw [Int.toNat_natCast, e1]
      refine xr_icmp_ge hc rfl (t := 195) rfl (fun b169 => ?_) (fun b169 => ?_)
      · omega
      · refine xr_ldc2 hc rfl ?_
        refine xr_lloadn hc rfl rfl ?_
        refine xr_lmul hc rfl ?_
        refine xr_aloadn hc rfl rfl ?_
        refine xr_getfr hc rfl rfl (by first | assumption | rfl) (by first | assumption | rfl) ?_
        refine xr_iloadn hc rfl rfl ?_
        refine xr_aaload hc rfl (by first | assumption | rfl) (by decide) (by first | omega | (unfold dz_w; omega)) (by first | omega | (unfold dz_w; omega)) (by first | assumption | rfl) ?_
        refine xr_iload hc rfl rfl ?_
        first | refine xr_iaload hc rfl (by first | assumption | rfl) (by first | omega | (unfold dz_w; omega)) (by first | omega | (unfold dz_w; omega)) ?_ | refine xr_ialoado hc rfl (by first | omega | (unfold dz_w; omega)) (by first | omega | (unfold dz_w; omega)) ?_
        rw [Int.toNat_natCast, e3]
        refine xr_i2l hc rfl ?_
        refine xr_ladd hc rfl ?_
        refine xr_lstore1 hc rfl rfl ?_
        refine xr_iincz4 hc rfl rfl (by first | exact dz_wid (by first | omega | (unfold dz_w; omega)) (by first | omega | (unfold dz_w; omega)) | rfl) ?_
        refine xr_goto hc rfl (t := 161) rfl ?_
        exact ih t (k + 1) ht (by omega) hK
  have l4 : ∀ (m : Nat) (t : Nat) (K : Option dz_V), t + m = 6 → dz_X (dz_E dz_pp xo (d + 4)) dz_pp xo (dz_pp 94) Q 138 [some (dz_r 0), some (dz_l (dgr rs it t (fld kp 3 (dgw (fun i k => tw kd wt nx (hs n) i k) w.toNat (fld (fun k => o_count rs ts w pl kd n (hs n) kp k) 11 17))))), none, some (dz_i (t : Int)), K] [] 0 0 (sh, rf, M) := by
    intro m
    induction m with
    | zero =>
      intro t K ht
      have et : t = 6 := by omega
      subst et
      refine xr_iloadn hc rfl rfl ?_
      refine xr_bipush hc rfl ?_
      refine xr_icmp_ge hc rfl (t := 201) rfl (fun b141 => ?_) (fun b141 => ?_)
      · refine xr_iconst hc rfl ?_
        refine xr_istore3 hc rfl rfl ?_
        exact l5 4 0 _ (by omega)
      · omega
    | succ m ih =>
      intro t K ht
      obtain ⟨e1, e2⟩ := hrow t (by omega)
      have wt1 := wrow t (by omega)
      refine xr_iloadn hc rfl rfl ?_
      refine xr_bipush hc rfl ?_
      refine xr_icmp_ge hc rfl (t := 201) rfl (fun b141 => ?_) (fun b141 => ?_)
      · omega
      · refine xr_ldc2 hc rfl ?_
        refine xr_lloadn hc rfl rfl ?_
        refine xr_lmul hc rfl ?_
        refine xr_aloadn hc rfl rfl ?_
        refine xr_getfr hc rfl rfl (by first | assumption | rfl) (by first | assumption | rfl) ?_
        refine xr_iloadn hc rfl rfl ?_
        first | refine xr_iaload hc rfl (by first | assumption | rfl) (by first | omega | (unfold dz_w; omega)) (by first | omega | (unfold dz_w; omega)) ?_ | refine xr_ialoado hc rfl (by first | omega | (unfold dz_w; omega)) (by first | omega | (unfold dz_w; omega)) ?_
        rw [Int.toNat_natCast, e1]
        refine xr_i2l hc rfl ?_
        refine xr_ladd hc rfl ?_
        refine xr_lstore1 hc rfl rfl ?_
        refine xr_iconst hc rfl ?_
        refine xr_istore4 hc rfl rfl ?_
        exact l4i (if rs t < 0 then 0 else rs t).toNat t 0 (by omega) (by split <;> omega) (ih (t + 1) _ (by omega))
  have l3 : ∀ (m : Nat) (t : Nat) (K : Option dz_V), t + m = 3 → dz_X (dz_E dz_pp xo (d + 4)) dz_pp xo (dz_pp 94) Q 92 [some (dz_r 0), some (dz_l (fld kp t (dgw (fun i k => tw kd wt nx (hs n) i k) w.toNat (fld (fun k => o_count rs ts w pl kd n (hs n) kp k) 11 17)))), none, some (dz_i (t : Int)), K] [] 0 0 (sh, rf, M) := by
    intro m
    induction m with
    | zero =>
      intro t K ht
      have et : t = 3 := by omega
      subst et
      refine xr_iloadn hc rfl rfl ?_
      refine xr_iconst hc rfl ?_
      refine xr_icmp_ge hc rfl (t := 136) rfl (fun b94 => ?_) (fun b94 => ?_)
      · refine xr_iconst hc rfl ?_
        refine xr_istore3 hc rfl rfl ?_
        exact l4 6 0 _ (by omega)
      · omega
    | succ m ih =>
      intro t K ht
      have c17k := c17 t (by omega)
      have c18k := c18 t (by omega)
      have c18z := c18k.1
      have hkk := hkp t (by omega)
      have hkm : M (61 + 18 * t + 8) 0 = 0 → kp t = -1 := by
        intro h8
        rcases hkk with y | y
        · exact y.1
        · have h9 := y.2.2.1.1
          rcases wdr with z | z
          · have := z.1
            omega
          · exact z.2.2.2 t (by omega)
      have hkn : M (61 + 18 * t + 8) 0 ≠ 0 → M (61 + 18 * t) 2 = kp t := by
        intro h8
        rcases hkk with y | y
        · exact absurd y.2 h8
        · rw [y.2.2.2.1]
          omega
      have hgo := ih (t + 1) K (by omega)
      rw [show (fld kp (t + 1) (dgw (fun i k => tw kd wt nx (hs n) i k) w.toNat (fld (fun k => o_count rs ts w pl kd n (hs n) kp k) 11 17))) = hf (fld kp t (dgw (fun i k => tw kd wt nx (hs n) i k) w.toNat (fld (fun k => o_count rs ts w pl kd n (hs n) kp k) 11 17))) (kp t) from rfl] at hgo
      unfold hf at hgo
      refine xr_iloadn hc rfl rfl ?_
      refine xr_iconst hc rfl ?_
      refine xr_icmp_ge hc rfl (t := 136) rfl (fun b94 => ?_) (fun b94 => ?_)
      · omega
      · refine xr_ldc2 hc rfl ?_
        refine xr_lloadn hc rfl rfl ?_
        refine xr_lmul hc rfl ?_
        refine xr_aloadn hc rfl rfl ?_
        refine xr_getfr hc rfl rfl (by first | assumption | rfl) (by first | assumption | rfl) ?_
        refine xr_iloadn hc rfl rfl ?_
        refine xr_aaload hc rfl (by first | assumption | rfl) (by decide) (by first | omega | (unfold dz_w; omega)) (by first | omega | (unfold dz_w; omega)) (by first | assumption | rfl) ?_
        refine xr_callv0 hc rfl (by first | assumption | rfl) rfl rfl rfl (Nat.le_of_ble_eq_true rfl) (Nat.zero_le _) (Nat.zero_le _) ?_
        refine S_isMissing c18k (fun u2 => ?_) (fun u2 => ?_)
        have u3 := hkm u2
        rotate_left
        have u4 := hkn u2
        rotate_right
        · refine xk_1 ?_
          refine xr_iff hc rfl (by simp [dz_cmp]) ?_
          refine xr_iconst hc rfl ?_
          refine xr_goto hc rfl (t := 127) rfl ?_
          refine xr_i2l hc rfl ?_
          refine xr_ladd hc rfl ?_
          refine xr_lstore1 hc rfl rfl ?_
          refine xr_iincz3 hc rfl rfl (by first | exact dz_wid (by first | omega | (unfold dz_w; omega)) (by first | omega | (unfold dz_w; omega)) | rfl) ?_
          refine xr_goto hc rfl (t := 92) rfl ?_
          first
            | (rw [u3] at hgo; exact hgo)
            | (rw [← u4] at hgo; exact hgo)
        · refine xk_1 ?_
          refine xr_ift hc rfl (t := 118) rfl (by simp [dz_cmp]) ?_
          refine xr_aloadn hc rfl rfl ?_
          refine xr_getfr hc rfl rfl (by first | assumption | rfl) (by first | assumption | rfl) ?_
          refine xr_iloadn hc rfl rfl ?_
          refine xr_aaload hc rfl (by first | assumption | rfl) (by decide) (by first | omega | (unfold dz_w; omega)) (by first | omega | (unfold dz_w; omega)) (by first | assumption | rfl) ?_
          refine xr_getfi hc rfl (Or.inl rfl) (by first | assumption | rfl) ?_
          refine xr_i2l hc rfl ?_
          refine xr_ladd hc rfl ?_
          refine xr_lstore1 hc rfl rfl ?_
          refine xr_iincz3 hc rfl rfl (by first | exact dz_wid (by first | omega | (unfold dz_w; omega)) (by first | omega | (unfold dz_w; omega)) | rfl) ?_
          refine xr_goto hc rfl (t := 92) rfl ?_
          first
            | (rw [u3] at hgo; exact hgo)
            | (rw [← u4] at hgo; exact hgo)
  have l2i : ∀ (m : Nat) (t k : Nat), (t : Int) < w → k + m = 6 → (dz_X (dz_E dz_pp xo (d + 4)) dz_pp xo (dz_pp 94) Q 33 [some (dz_r 0), some (dz_l (dgw (fun i k => tw kd wt nx (hs n) i k) (t + 1) (fld (fun k => o_count rs ts w pl kd n (hs n) kp k) 11 17))), none, some (dz_i ((t : Int) + 1 : Int)), some (dz_i 6)] [] 0 0 (sh, rf, M)) → dz_X (dz_E dz_pp xo (d + 4)) dz_pp xo (dz_pp 94) Q 50 [some (dz_r 0), some (dz_l (fld (fun k => tw kd wt nx (hs n) t k) k (dgw (fun i k => tw kd wt nx (hs n) i k) t (fld (fun k => o_count rs ts w pl kd n (hs n) kp k) 11 17)))), none, some (dz_i (t : Int)), some (dz_i (k : Int))] [] 0 0 (sh, rf, M) := by
    intro m
    induction m with
    | zero =>
      intro t k ht hk hK
      have ek : k = 6 := by omega
      subst ek
      refine xr_iload hc rfl rfl ?_
      refine xr_bipush hc rfl ?_
      refine xr_icmp_ge hc rfl (t := 84) rfl (fun b54 => ?_) (fun b54 => ?_)
      · refine xr_iincz3 hc rfl rfl (by first | exact dz_wid (by first | omega | (unfold dz_w; omega)) (by first | omega | (unfold dz_w; omega)) | rfl) ?_
        refine xr_goto hc rfl (t := 33) rfl ?_
        exact hK
      · omega
    | succ m ih =>
      intro t k ht hk hK
      have hp := WF_p hW (by omega)
      have hst := wst.2 n (Nat.le_refl n)
      refine xr_iload hc rfl rfl ?_
      refine xr_bipush hc rfl ?_
      refine xr_icmp_ge hc rfl (t := 84) rfl (fun b54 => ?_) (fun b54 => ?_)
      · omega
      · refine xr_ldc2 hc rfl ?_
        refine xr_lloadn hc rfl rfl ?_
        refine xr_lmul hc rfl ?_
        refine xr_aloadn hc rfl rfl ?_
        refine xr_getfr hc rfl rfl (by first | assumption | rfl) (by first | assumption | rfl) ?_
        refine xr_getfr hc rfl rfl (by first | assumption | rfl) (by first | assumption | rfl) ?_
        refine xr_iloadn hc rfl rfl ?_
        refine xr_iload hc rfl rfl ?_
        refine xr_callv2 hc rfl (by first | assumption | rfl) rfl rfl rfl (Nat.le_of_ble_eq_true rfl) (Nat.zero_le _) (Nat.zero_le _) ?_
        refine S_tellWord d4 hp hst g2 (by omega) ?_
        rw [Int.toNat_natCast]
        refine xk_1 ?_
        refine xr_i2l hc rfl ?_
        refine xr_ladd hc rfl ?_
        refine xr_lstore1 hc rfl rfl ?_
        refine xr_iincz4 hc rfl rfl (by first | exact dz_wid (by first | omega | (unfold dz_w; omega)) (by first | omega | (unfold dz_w; omega)) | rfl) ?_
        refine xr_goto hc rfl (t := 50) rfl ?_
        exact ih t (k + 1) ht (by omega) hK
  have l2 : ∀ (m : Nat) (t : Nat) (K : Option dz_V), (t : Int) + m = w → dz_X (dz_E dz_pp xo (d + 4)) dz_pp xo (dz_pp 94) Q 33 [some (dz_r 0), some (dz_l (dgw (fun i k => tw kd wt nx (hs n) i k) t (fld (fun k => o_count rs ts w pl kd n (hs n) kp k) 11 17))), none, some (dz_i (t : Int)), K] [] 0 0 (sh, rf, M) := by
    intro m
    induction m with
    | zero =>
      intro t K ht
      have et : t = w.toNat := by omega
      refine xr_iloadn hc rfl rfl ?_
      refine xr_aloadn hc rfl rfl ?_
      refine xr_getfr hc rfl rfl (by first | assumption | rfl) (by first | assumption | rfl) ?_
      refine xr_getfr hc rfl rfl (by first | assumption | rfl) (by first | assumption | rfl) ?_
      refine xr_getfi hc rfl (Or.inl rfl) (by first | assumption | rfl) ?_
      rw [r0]
      refine xr_icmp_ge hc rfl (t := 90) rfl (fun b44 => ?_) (fun b44 => ?_)
      · refine xr_iconst hc rfl ?_
        refine xr_istore3 hc rfl rfl ?_
        rw [et]
        exact l3 3 0 _ (by omega)
      · omega
    | succ m ih =>
      intro t K ht
      refine xr_iloadn hc rfl rfl ?_
      refine xr_aloadn hc rfl rfl ?_
      refine xr_getfr hc rfl rfl (by first | assumption | rfl) (by first | assumption | rfl) ?_
      refine xr_getfr hc rfl rfl (by first | assumption | rfl) (by first | assumption | rfl) ?_
      refine xr_getfi hc rfl (Or.inl rfl) (by first | assumption | rfl) ?_
      rw [r0]
      refine xr_icmp_ge hc rfl (t := 90) rfl (fun b44 => ?_) (fun b44 => ?_)
      · omega
      · refine xr_iconst hc rfl ?_
        refine xr_istore4 hc rfl rfl ?_
        exact l2i 6 t 0 (by omega) (by omega) (ih (t + 1) _ (by omega))
  have l1 : ∀ (m : Nat) (t : Nat), t + m = 11 → dz_X (dz_E dz_pp xo (d + 4)) dz_pp xo (dz_pp 94) Q 6 [some (dz_r 0), some (dz_l (fld (fun k => o_count rs ts w pl kd n (hs n) kp k) t 17)), none, some (dz_i (t : Int)), none] [] 0 0 (sh, rf, M) := by
    intro m
    induction m with
    | zero =>
      intro t ht
      have et : t = 11 := by omega
      subst et
      refine xr_iloadn hc rfl rfl ?_
      refine xr_bipush hc rfl ?_
      refine xr_icmp_ge hc rfl (t := 31) rfl (fun b9 => ?_) (fun b9 => ?_)
      · refine xr_iconst hc rfl ?_
        refine xr_istore3 hc rfl rfl ?_
        exact l2 w.toNat 0 _ (by omega)
      · omega
    | succ m ih =>
      intro t ht
      refine xr_iloadn hc rfl rfl ?_
      refine xr_bipush hc rfl ?_
      refine xr_icmp_ge hc rfl (t := 31) rfl (fun b9 => ?_) (fun b9 => ?_)
      · omega
      · refine xr_ldc2 hc rfl ?_
        refine xr_lloadn hc rfl rfl ?_
        refine xr_lmul hc rfl ?_
        refine xr_aloadn hc rfl rfl ?_
        refine xr_iloadn hc rfl rfl ?_
        refine xr_callv1 hc rfl (by first | assumption | rfl) rfl rfl rfl (Nat.le_of_ble_eq_true rfl) (Nat.zero_le _) (Nat.zero_le _) ?_
        refine X_count hx hl hR hW ?_
        refine xk_1 ?_
        refine xr_i2l hc rfl ?_
        refine xr_ladd hc rfl ?_
        refine xr_lstore1 hc rfl rfl ?_
        refine xr_iincz3 hc rfl rfl (by first | exact dz_wid (by first | omega | (unfold dz_w; omega)) (by first | omega | (unfold dz_w; omega)) | rfl) ?_
        refine xr_goto hc rfl (t := 6) rfl ?_
        exact ih (t + 1) (by omega)
  refine xr_ldc2 hc rfl ?_
  refine xr_lstore1 hc rfl rfl ?_
  refine xr_iconst hc rfl ?_
  refine xr_istore3 hc rfl rfl ?_
  exact l1 11 0 (by omega)
