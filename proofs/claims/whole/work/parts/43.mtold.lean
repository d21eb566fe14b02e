/-! The other one: what is told. Written by l2_43.py. -/
set_option maxRecDepth 100000 in
theorem D_asked {xo : Nat → List Int} {d : Nat} {Q : dz_Q} {sh : List (Nat ⊕ (Nat × Nat))} {rf : Nat → Nat → Nat} {M : Nat → Nat → Int} {rs : Nat → Int} {it : Nat → Nat → Int} {ts : Nat → Int} {ch : Nat → Nat → Int} {tl up lo : Int} {fn : Nat → Int} {w pl : Int} {kd wt nx : Nat → Int} {n : Nat} {hs : Nat → Nat → Int} {kp : Nat → Int} {kh : Nat → Nat → Nat → Int} (hl : ml sh rf) (hR : RM M rs it ts ch tl up lo fn w pl kd wt nx n hs kp kh) (hW : WF rs it ts ch tl up lo fn w pl kd wt nx n hs kp kh) (hQ : Q (some (dz_i (tl))) (sh, rf, M)) : dz_E dz_pp xo (d + 1) 204 [dz_r 115] (sh, rf, M) Q := by
  refine ⟨Nat.le_of_ble_eq_true rfl, ?_⟩
  have hc := dz_E_m dz_pp xo (d + 0)
  show dz_X (dz_E dz_pp xo (d + 0)) dz_pp xo (dz_pp 204) Q 0 [some (dz_r 115)] [] 0 0 (sh, rf, M)
  obtain ⟨c0, c1, c2, c3, c4, c5, c6, c7, c8, c9, c10, c11, c12, c13, c14, c15, c16, c17, c18, c19, c20, c21, c22, c23, c24, c25, c26, c27, c28, c29⟩ := id hl
  obtain ⟨hrow, htxt, htl, hup, hlo, hfn, hdr, hkp⟩ := id hR
  obtain ⟨wrow, wtxt, wdr, wst, wkp⟩ := id hW
  have hw6 := WF_w hW
  have hdr3 : drM M w pl kd wt nx n hs ∧ w ≤ 6 ∧ n ≤ 40 := ⟨hdr, hw6.2, wst.1⟩
  have hkp3 : kepM M w kp kh ∧ w ≤ 6 ∧ ∀ k, k < 3 → kp k ≤ 40 := ⟨hkp, hw6.2, fun k hk => by
    rcases wkp k hk with z | z
    · omega
    · exact z.2.1⟩
  refine xr_aloadn hc rfl rfl ?_
  refine xr_getfi hc rfl (Or.inl rfl) (by first | assumption | rfl) ?_
  refine xr_ireturn hc rfl rfl (Nat.zero_le _) (Nat.zero_le _) ?_
  rw [htl]
  exact hQ
set_option maxRecDepth 100000 in
theorem D_finding {xo : Nat → List Int} {d : Nat} {Q : dz_Q} {sh : List (Nat ⊕ (Nat × Nat))} {rf : Nat → Nat → Nat} {M : Nat → Nat → Int} {rs : Nat → Int} {it : Nat → Nat → Int} {ts : Nat → Int} {ch : Nat → Nat → Int} {tl up lo : Int} {fn : Nat → Int} {w pl : Int} {kd wt nx : Nat → Int} {n : Nat} {hs : Nat → Nat → Int} {kp : Nat → Int} {kh : Nat → Nat → Nat → Int} (hl : ml sh rf) (hR : RM M rs it ts ch tl up lo fn w pl kd wt nx n hs kp kh) (hW : WF rs it ts ch tl up lo fn w pl kd wt nx n hs kp kh) (hQ : Q (some (dz_i (fn 0))) (sh, rf, M)) : dz_E dz_pp xo (d + 1) 211 [dz_r 115] (sh, rf, M) Q := by
  refine ⟨Nat.le_of_ble_eq_true rfl, ?_⟩
  have hc := dz_E_m dz_pp xo (d + 0)
  show dz_X (dz_E dz_pp xo (d + 0)) dz_pp xo (dz_pp 211) Q 0 [some (dz_r 115)] [] 0 0 (sh, rf, M)
  obtain ⟨c0, c1, c2, c3, c4, c5, c6, c7, c8, c9, c10, c11, c12, c13, c14, c15, c16, c17, c18, c19, c20, c21, c22, c23, c24, c25, c26, c27, c28, c29⟩ := id hl
  obtain ⟨hrow, htxt, htl, hup, hlo, hfn, hdr, hkp⟩ := id hR
  obtain ⟨wrow, wtxt, wdr, wst, wkp⟩ := id hW
  have hw6 := WF_w hW
  have hdr3 : drM M w pl kd wt nx n hs ∧ w ≤ 6 ∧ n ≤ 40 := ⟨hdr, hw6.2, wst.1⟩
  have hkp3 : kepM M w kp kh ∧ w ≤ 6 ∧ ∀ k, k < 3 → kp k ≤ 40 := ⟨hkp, hw6.2, fun k hk => by
    rcases wkp k hk with z | z
    · omega
    · exact z.2.1⟩
  refine xr_aloadn hc rfl rfl ?_
  refine xr_getfi hc rfl (Or.inl rfl) (by first | assumption | rfl) ?_
  refine xr_ireturn hc rfl rfl (Nat.zero_le _) (Nat.zero_le _) ?_
  rw [hfn.1]
  exact hQ
set_option maxRecDepth 100000 in
theorem D_upper {xo : Nat → List Int} {d : Nat} {Q : dz_Q} {sh : List (Nat ⊕ (Nat × Nat))} {rf : Nat → Nat → Nat} {M : Nat → Nat → Int} {rs : Nat → Int} {it : Nat → Nat → Int} {ts : Nat → Int} {ch : Nat → Nat → Int} {tl up lo : Int} {fn : Nat → Int} {w pl : Int} {kd wt nx : Nat → Int} {n : Nat} {hs : Nat → Nat → Int} {kp : Nat → Int} {kh : Nat → Nat → Nat → Int} (hl : ml sh rf) (hR : RM M rs it ts ch tl up lo fn w pl kd wt nx n hs kp kh) (hW : WF rs it ts ch tl up lo fn w pl kd wt nx n hs kp kh) (hQ : Q (some (dz_l (up))) (sh, rf, M)) : dz_E dz_pp xo (d + 1) 205 [dz_r 115] (sh, rf, M) Q := by
  refine ⟨Nat.le_of_ble_eq_true rfl, ?_⟩
  have hc := dz_E_m dz_pp xo (d + 0)
  show dz_X (dz_E dz_pp xo (d + 0)) dz_pp xo (dz_pp 205) Q 0 [some (dz_r 115)] [] 0 0 (sh, rf, M)
  obtain ⟨c0, c1, c2, c3, c4, c5, c6, c7, c8, c9, c10, c11, c12, c13, c14, c15, c16, c17, c18, c19, c20, c21, c22, c23, c24, c25, c26, c27, c28, c29⟩ := id hl
  obtain ⟨hrow, htxt, htl, hup, hlo, hfn, hdr, hkp⟩ := id hR
  obtain ⟨wrow, wtxt, wdr, wst, wkp⟩ := id hW
  have hw6 := WF_w hW
  have hdr3 : drM M w pl kd wt nx n hs ∧ w ≤ 6 ∧ n ≤ 40 := ⟨hdr, hw6.2, wst.1⟩
  have hkp3 : kepM M w kp kh ∧ w ≤ 6 ∧ ∀ k, k < 3 → kp k ≤ 40 := ⟨hkp, hw6.2, fun k hk => by
    rcases wkp k hk with z | z
    · omega
    · exact z.2.1⟩
  refine xr_aloadn hc rfl rfl ?_
  refine xr_getfl hc rfl rfl (by first | assumption | rfl) ?_
  refine xr_lreturn hc rfl rfl (Nat.zero_le _) (Nat.zero_le _) ?_
  rw [hup]
  exact hQ
set_option maxRecDepth 100000 in
theorem D_lower {xo : Nat → List Int} {d : Nat} {Q : dz_Q} {sh : List (Nat ⊕ (Nat × Nat))} {rf : Nat → Nat → Nat} {M : Nat → Nat → Int} {rs : Nat → Int} {it : Nat → Nat → Int} {ts : Nat → Int} {ch : Nat → Nat → Int} {tl up lo : Int} {fn : Nat → Int} {w pl : Int} {kd wt nx : Nat → Int} {n : Nat} {hs : Nat → Nat → Int} {kp : Nat → Int} {kh : Nat → Nat → Nat → Int} (hl : ml sh rf) (hR : RM M rs it ts ch tl up lo fn w pl kd wt nx n hs kp kh) (hW : WF rs it ts ch tl up lo fn w pl kd wt nx n hs kp kh) (hQ : Q (some (dz_l (lo))) (sh, rf, M)) : dz_E dz_pp xo (d + 1) 206 [dz_r 115] (sh, rf, M) Q := by
  refine ⟨Nat.le_of_ble_eq_true rfl, ?_⟩
  have hc := dz_E_m dz_pp xo (d + 0)
  show dz_X (dz_E dz_pp xo (d + 0)) dz_pp xo (dz_pp 206) Q 0 [some (dz_r 115)] [] 0 0 (sh, rf, M)
  obtain ⟨c0, c1, c2, c3, c4, c5, c6, c7, c8, c9, c10, c11, c12, c13, c14, c15, c16, c17, c18, c19, c20, c21, c22, c23, c24, c25, c26, c27, c28, c29⟩ := id hl
  obtain ⟨hrow, htxt, htl, hup, hlo, hfn, hdr, hkp⟩ := id hR
  obtain ⟨wrow, wtxt, wdr, wst, wkp⟩ := id hW
  have hw6 := WF_w hW
  have hdr3 : drM M w pl kd wt nx n hs ∧ w ≤ 6 ∧ n ≤ 40 := ⟨hdr, hw6.2, wst.1⟩
  have hkp3 : kepM M w kp kh ∧ w ≤ 6 ∧ ∀ k, k < 3 → kp k ≤ 40 := ⟨hkp, hw6.2, fun k hk => by
    rcases wkp k hk with z | z
    · omega
    · exact z.2.1⟩
  refine xr_aloadn hc rfl rfl ?_
  refine xr_getfl hc rfl rfl (by first | assumption | rfl) ?_
  refine xr_lreturn hc rfl rfl (Nat.zero_le _) (Nat.zero_le _) ?_
  rw [hlo]
  exact hQ
set_option maxRecDepth 100000 in
theorem D_findings {xo : Nat → List Int} {d : Nat} {Q : dz_Q} {sh : List (Nat ⊕ (Nat × Nat))} {rf : Nat → Nat → Nat} {M : Nat → Nat → Int} {rs : Nat → Int} {it : Nat → Nat → Int} {ts : Nat → Int} {ch : Nat → Nat → Int} {tl up lo : Int} {fn : Nat → Int} {w pl : Int} {kd wt nx : Nat → Int} {n : Nat} {hs : Nat → Nat → Int} {kp : Nat → Int} {kh : Nat → Nat → Nat → Int} {f : Int} (hl : ml sh rf) (hR : RM M rs it ts ch tl up lo fn w pl kd wt nx n hs kp kh) (hW : WF rs it ts ch tl up lo fn w pl kd wt nx n hs kp kh) (hQ : Q (some (dz_i (o_findings fn f))) (sh, rf, M)) : dz_E dz_pp xo (d + 2) 212 [dz_r 115, dz_i f] (sh, rf, M) Q := by
  refine ⟨Nat.le_of_ble_eq_true rfl, ?_⟩
  have hc := dz_E_m dz_pp xo (d + 1)
  show dz_X (dz_E dz_pp xo (d + 1)) dz_pp xo (dz_pp 212) Q 0 [some (dz_r 115), some (dz_i f)] [] 0 0 (sh, rf, M)
  obtain ⟨c0, c1, c2, c3, c4, c5, c6, c7, c8, c9, c10, c11, c12, c13, c14, c15, c16, c17, c18, c19, c20, c21, c22, c23, c24, c25, c26, c27, c28, c29⟩ := id hl
  obtain ⟨hrow, htxt, htl, hup, hlo, hfn, hdr, hkp⟩ := id hR
  obtain ⟨wrow, wtxt, wdr, wst, wkp⟩ := id hW
  have hw6 := WF_w hW
  have hdr3 : drM M w pl kd wt nx n hs ∧ w ≤ 6 ∧ n ≤ 40 := ⟨hdr, hw6.2, wst.1⟩
  have hkp3 : kepM M w kp kh ∧ w ≤ 6 ∧ ∀ k, k < 3 → kp k ≤ 40 := ⟨hkp, hw6.2, fun k hk => by
    rcases wkp k hk with z | z
    · omega
    · exact z.2.1⟩
  refine xr_iloadn hc rfl rfl ?_
  refine xr_i2l hc rfl ?_
  refine xr_lconst hc rfl ?_
  refine xr_ldc2 hc rfl ?_
  refine xr_calls3 hc rfl (by decide) rfl rfl rfl (Nat.le_of_ble_eq_true rfl) (Nat.zero_le _) (Nat.zero_le _) ?_
  refine S_in (fun u1 v1 => ?_) (fun u1 => ?_)
  · refine xk_1 ?_
    refine xr_iff hc rfl (by simp [dz_cmp]) ?_
    refine xr_aloadn hc rfl rfl ?_
    refine xr_getfr hc rfl rfl (by first | assumption | rfl) (by first | assumption | rfl) ?_
    refine xr_iloadn hc rfl rfl ?_
    first | refine xr_iaload hc rfl (by first | assumption | rfl) (by first | omega | (unfold dz_w; omega)) (by first | omega | (unfold dz_w; omega)) ?_ | refine xr_ialoado hc rfl (by first | omega | (unfold dz_w; omega)) (by first | omega | (unfold dz_w; omega)) ?_
    refine xr_goto hc rfl (t := 22) rfl ?_
    refine xr_ireturn hc rfl rfl (Nat.zero_le _) (Nat.zero_le _) ?_
    simp only [o_findings] at hQ
    repeat (first | rw [if_pos (by omega)] at hQ | rw [if_neg (by omega)] at hQ)
    try dsimp only at hQ
    first
      | exact hQ
      | (rw [hfn.2 f.toNat (by omega) (by omega)]; exact hQ)
  · refine xk_1 ?_
    refine xr_ift hc rfl (t := 21) rfl (by simp [dz_cmp]) ?_
    refine xr_iconst hc rfl ?_
    refine xr_ireturn hc rfl rfl (Nat.zero_le _) (Nat.zero_le _) ?_
    simp only [o_findings] at hQ
    repeat (first | rw [if_pos (by omega)] at hQ | rw [if_neg (by omega)] at hQ)
    try dsimp only at hQ
    first
      | exact hQ
      | (rw [hfn.2 f.toNat (by omega) (by omega)]; exact hQ)
set_option maxRecDepth 100000 in
theorem D_those {xo : Nat → List Int} {d : Nat} {Q : dz_Q} {sh : List (Nat ⊕ (Nat × Nat))} {rf : Nat → Nat → Nat} {M : Nat → Nat → Int} {rs : Nat → Int} {it : Nat → Nat → Int} {ts : Nat → Int} {ch : Nat → Nat → Int} {tl up lo : Int} {fn : Nat → Int} {w pl : Int} {kd wt nx : Nat → Int} {n : Nat} {hs : Nat → Nat → Int} {kp : Nat → Int} {kh : Nat → Nat → Nat → Int} (hl : ml sh rf) (hR : RM M rs it ts ch tl up lo fn w pl kd wt nx n hs kp kh) (hW : WF rs it ts ch tl up lo fn w pl kd wt nx n hs kp kh) (hQ : Q (some (dz_i (cadd kd w.toNat))) (sh, rf, M)) : dz_E dz_pp xo (d + 2) 207 [dz_r 115, dz_i 1] (sh, rf, M) Q := by
  refine ⟨Nat.le_of_ble_eq_true rfl, ?_⟩
  have hc := dz_E_m dz_pp xo (d + 1)
  show dz_X (dz_E dz_pp xo (d + 1)) dz_pp xo (dz_pp 207) Q 0 [some (dz_r 115), some (dz_i 1), none, none] [] 0 0 (sh, rf, M)
  obtain ⟨c0, c1, c2, c3, c4, c5, c6, c7, c8, c9, c10, c11, c12, c13, c14, c15, c16, c17, c18, c19, c20, c21, c22, c23, c24, c25, c26, c27, c28, c29⟩ := id hl
  obtain ⟨hrow, htxt, htl, hup, hlo, hfn, hdr, hkp⟩ := id hR
  obtain ⟨wrow, wtxt, wdr, wst, wkp⟩ := id hW
  have hw6 := WF_w hW
  have hdr3 : drM M w pl kd wt nx n hs ∧ w ≤ 6 ∧ n ≤ 40 := ⟨hdr, hw6.2, wst.1⟩
  have hkp3 : kepM M w kp kh ∧ w ≤ 6 ∧ ∀ k, k < 3 → kp k ≤ 40 := ⟨hkp, hw6.2, fun k hk => by
    rcases wkp k hk with z | z
    · omega
    · exact z.2.1⟩
  obtain ⟨a1, a2, a3, b1, b2, b3⟩ := id hdr
  have hpg : pgM M w pl kd wt nx := ⟨a1, a2, a3⟩
  have b2c : ∀ c, okc w c → M 116 c = hs n c := fun c hc => by
    have h3 := b2 c hc
    rw [Nat.zero_add] at h3
    exact h3
  have lp : ∀ (m_ : Nat) (i : Nat), (i : Int) + m_ = w → dz_X (dz_E dz_pp xo (d + 1)) dz_pp xo (dz_pp 207) Q 4 [some (dz_r 115), some (dz_i 1), some (dz_i (cadd kd i)), some (dz_i (i : Int))] [] 0 0 (sh, rf, M) := by
    intro m_
    induction m_ with
    | zero =>
      intro i hi
      refine xr_iloadn hc rfl rfl ?_
      refine xr_aloadn hc rfl rfl ?_
      refine xr_getfi hc rfl (Or.inl rfl) (by first | assumption | rfl) ?_
      rw [a1]
      refine xr_icmp_ge hc rfl (t := 35) rfl (fun b9 => ?_) (fun b9 => ?_)
      · refine xr_iloadn hc rfl rfl ?_
        refine xr_ireturn hc rfl rfl (Nat.zero_le _) (Nat.zero_le _) ?_
        have ei : i = w.toNat := by omega
        rw [ei]
        exact hQ
      · omega
    | succ m_ ih =>
      intro i hi
      have hci := cadd_in kd i
      have e1 : cadd kd (i + 1) = cadd kd i + if kd i = 1 ∨ kd i = 3 ∨ kd i = 4 then 1 else 0 := rfl
      obtain ⟨x1, x2, x3⟩ := a3 i (by omega)
      refine xr_iloadn hc rfl rfl ?_
      refine xr_aloadn hc rfl rfl ?_
      refine xr_getfi hc rfl (Or.inl rfl) (by first | assumption | rfl) ?_
      rw [a1]
      refine xr_icmp_ge hc rfl (t := 35) rfl (fun b9 => ?_) (fun b9 => ?_)
      · omega
      · refine xr_iloadn hc rfl rfl ?_
        refine xr_aloadn hc rfl rfl ?_
        refine xr_iloadn hc rfl rfl ?_
        refine xr_iloadn hc rfl rfl ?_
        refine xr_callv2 hc rfl (by first | assumption | rfl) rfl rfl rfl (Nat.le_of_ble_eq_true rfl) (Nat.zero_le _) (Nat.zero_le _) ?_
        refine D_isOf (kd := kd) hl (by omega) (by rw [Int.toNat_natCast]; exact x1) (fun g1 => ?_) (fun g1 => ?_)
        all_goals rw [Int.toNat_natCast] at g1
        · refine xk_1 ?_
          refine xr_iff hc rfl (by simp [dz_cmp]) ?_
          refine xr_iconst hc rfl ?_
          refine xr_goto hc rfl (t := 27) rfl ?_
          refine xr_iaddz hc rfl (by first | exact dz_wid (by first | omega | (unfold dz_w; omega)) (by first | omega | (unfold dz_w; omega)) | rfl) ?_
          refine xr_istore2 hc rfl rfl ?_
          refine xr_iincz3 hc rfl rfl (by first | exact dz_wid (by first | omega | (unfold dz_w; omega)) (by first | omega | (unfold dz_w; omega)) | rfl) ?_
          refine xr_goto hc rfl (t := 4) rfl ?_
          first
            | (rw [if_pos (by omega)] at e1; rw [← e1]; exact ih (i + 1) (by omega))
            | (rw [if_neg (by omega)] at e1; rw [← e1]; exact ih (i + 1) (by omega))
        · refine xk_1 ?_
          refine xr_ift hc rfl (t := 26) rfl (by simp [dz_cmp]) ?_
          refine xr_iconst hc rfl ?_
          refine xr_iaddz hc rfl (by first | exact dz_wid (by first | omega | (unfold dz_w; omega)) (by first | omega | (unfold dz_w; omega)) | rfl) ?_
          refine xr_istore2 hc rfl rfl ?_
          refine xr_iincz3 hc rfl rfl (by first | exact dz_wid (by first | omega | (unfold dz_w; omega)) (by first | omega | (unfold dz_w; omega)) | rfl) ?_
          refine xr_goto hc rfl (t := 4) rfl ?_
          first
            | (rw [if_pos (by omega)] at e1; rw [← e1]; exact ih (i + 1) (by omega))
            | (rw [if_neg (by omega)] at e1; rw [← e1]; exact ih (i + 1) (by omega))
  refine xr_iconst hc rfl ?_
  refine xr_istore2 hc rfl rfl ?_
  refine xr_iconst hc rfl ?_
  refine xr_istore3 hc rfl rfl ?_
  exact lp w.toNat 0 (by omega)
def tho (rs ts kp : Nat → Int) (what : Int) (i : Nat) : Int := if what = 8 then cth rs i else if what = 9 then cth ts (min i 4) else cth kp (min i 3)
set_option maxRecDepth 100000 in
theorem D_thereOf {xo : Nat → List Int} {d : Nat} {Q : dz_Q} {sh : List (Nat ⊕ (Nat × Nat))} {rf : Nat → Nat → Nat} {M : Nat → Nat → Int} {rs : Nat → Int} {it : Nat → Nat → Int} {ts : Nat → Int} {ch : Nat → Nat → Int} {tl up lo : Int} {fn : Nat → Int} {w pl : Int} {kd wt nx : Nat → Int} {n : Nat} {hs : Nat → Nat → Int} {kp : Nat → Int} {kh : Nat → Nat → Nat → Int} {what : Int} (hl : ml sh rf) (hR : RM M rs it ts ch tl up lo fn w pl kd wt nx n hs kp kh) (hW : WF rs it ts ch tl up lo fn w pl kd wt nx n hs kp kh) (hQ : Q (some (dz_i (tho rs ts kp what 6))) (sh, rf, M)) : dz_E dz_pp xo (d + 1) 208 [dz_r 115, dz_i what] (sh, rf, M) Q := by
  refine ⟨Nat.le_of_ble_eq_true rfl, ?_⟩
  have hc := dz_E_m dz_pp xo (d + 0)
  show dz_X (dz_E dz_pp xo (d + 0)) dz_pp xo (dz_pp 208) Q 0 [some (dz_r 115), some (dz_i what), none, none] [] 0 0 (sh, rf, M)
  obtain ⟨c0, c1, c2, c3, c4, c5, c6, c7, c8, c9, c10, c11, c12, c13, c14, c15, c16, c17, c18, c19, c20, c21, c22, c23, c24, c25, c26, c27, c28, c29⟩ := id hl
  obtain ⟨hrow, htxt, htl, hup, hlo, hfn, hdr, hkp⟩ := id hR
  obtain ⟨wrow, wtxt, wdr, wst, wkp⟩ := id hW
  have hw6 := WF_w hW
  have hdr3 : drM M w pl kd wt nx n hs ∧ w ≤ 6 ∧ n ≤ 40 := ⟨hdr, hw6.2, wst.1⟩
  have hkp3 : kepM M w kp kh ∧ w ≤ 6 ∧ ∀ k, k < 3 → kp k ≤ 40 := ⟨hkp, hw6.2, fun k hk => by
    rcases wkp k hk with z | z
    · omega
    · exact z.2.1⟩
  obtain ⟨a1, a2, a3, b1, b2, b3⟩ := id hdr
  have hpg : pgM M w pl kd wt nx := ⟨a1, a2, a3⟩
  have b2c : ∀ c, okc w c → M 116 c = hs n c := fun c hc => by
    have h3 := b2 c hc
    rw [Nat.zero_add] at h3
    exact h3
  have lp : ∀ (m_ : Nat) (i : Nat), i + m_ = 6 → dz_X (dz_E dz_pp xo (d + 0)) dz_pp xo (dz_pp 208) Q 4 [some (dz_r 115), some (dz_i what), some (dz_i (tho rs ts kp what i)), some (dz_i (i : Int))] [] 0 0 (sh, rf, M) := by
    intro m_
    induction m_ with
    | zero =>
      intro i hi
      have ei : i = 6 := by omega
      subst ei
      refine xr_iloadn hc rfl rfl ?_
      refine xr_bipush hc rfl ?_
      refine xr_icmp_ge hc rfl (t := 97) rfl (fun b7 => ?_) (fun b7 => ?_)
      · refine xr_iloadn hc rfl rfl ?_
        refine xr_ireturn hc rfl rfl (Nat.zero_le _) (Nat.zero_le _) ?_
        exact hQ
      · omega
    | succ m_ ih =>
      intro i hi
      have ht : tho rs ts kp what (i + 1) = tho rs ts kp what i + (if what = 8 then (if rs i = -1 then 0 else 1) else if what = 9 then (if i < 4 then (if ts i = -1 then 0 else 1) else 0) else (if i < 3 then (if kp i = -1 then 0 else 1) else 0)) := by
        unfold tho
        by_cases h8 : what = 8
        · rw [if_pos h8, if_pos h8, if_pos h8]
          rfl
        · rw [if_neg h8, if_neg h8, if_neg h8]
          by_cases h9 : what = 9
          · rw [if_pos h9, if_pos h9, if_pos h9]
            by_cases h4 : i < 4
            · rw [if_pos h4, show min (i + 1) 4 = i + 1 by omega, show min i 4 = i by omega]
              rfl
            · rw [if_neg h4, show min (i + 1) 4 = 4 by omega, show min i 4 = 4 by omega]
              omega
          · rw [if_neg h9, if_neg h9, if_neg h9]
            by_cases h4 : i < 3
            · rw [if_pos h4, show min (i + 1) 3 = i + 1 by omega, show min i 3 = i by omega]
              rfl
            · rw [if_neg h4, show min (i + 1) 3 = 3 by omega, show min i 3 = 3 by omega]
              omega
      have hb : 0 ≤ tho rs ts kp what i ∧ tho rs ts kp what i ≤ 6 := by
        unfold tho
        have q1 := cth_in rs i
        have q2 := cth_in ts (min i 4)
        have q3 := cth_in kp (min i 3)
        split
        · omega
        · split <;> omega
      obtain ⟨e1, -⟩ := hrow i (by omega)
      have w1 := wrow i (by omega)
      have ix : (903 * (1 + (i : Int)) + 0).toNat = 903 * (1 + i) := by omega
      refine xr_iloadn hc rfl rfl ?_
      refine xr_bipush hc rfl ?_
      refine xr_icmp_ge hc rfl (t := 97) rfl (fun b7 => ?_) (fun b7 => ?_)
      · omega
      · refine xr_iloadn hc rfl rfl ?_
        refine xr_iloadn hc rfl rfl ?_
        refine xr_bipush hc rfl ?_
        refine xr_icmp_ne hc rfl (t := 34) rfl (fun b14 => ?_) (fun b14 => ?_)
        · refine xr_iloadn hc rfl rfl ?_
          refine xr_bipush hc rfl ?_
          refine xr_icmp_ne hc rfl (t := 62) rfl (fun b37 => ?_) (fun b37 => ?_)
          · refine xr_iloadn hc rfl rfl ?_
            refine xr_iconst hc rfl ?_
            refine xr_icmp_ge hc rfl (t := 88) rfl (fun b64 => ?_) (fun b64 => ?_)
            · refine xr_iconst hc rfl ?_
              refine xr_iaddz hc rfl (by first | exact dz_wid (by first | omega | (unfold dz_w; omega)) (by first | omega | (unfold dz_w; omega)) | rfl) ?_
              refine xr_istore2 hc rfl rfl ?_
              refine xr_iincz3 hc rfl rfl (by first | exact dz_wid (by first | omega | (unfold dz_w; omega)) (by first | omega | (unfold dz_w; omega)) | rfl) ?_
              refine xr_goto hc rfl (t := 4) rfl ?_
              repeat (first | rw [if_pos (by omega)] at ht | rw [if_neg (by omega)] at ht)
              rw [← ht]
              exact ih (i + 1) (by omega)
            · obtain ⟨f1, -⟩ := hkp i (by omega)
              have w2 := wkp i (by omega)
              refine xr_aloadn hc rfl rfl ?_
              refine xr_getfr hc rfl rfl (by first | assumption | rfl) (by first | assumption | rfl) ?_
              refine xr_sipush hc rfl ?_
              refine xr_iconst hc rfl ?_
              refine xr_iloadn hc rfl rfl ?_
              refine xr_iaddz hc rfl (by first | exact dz_wid (by first | omega | (unfold dz_w; omega)) (by first | omega | (unfold dz_w; omega)) | rfl) ?_
              refine xr_imulz hc rfl (by first | exact dz_wid (by first | omega | (unfold dz_w; omega)) (by first | omega | (unfold dz_w; omega)) | rfl) ?_
              refine xr_iconst hc rfl ?_
              refine xr_iaddz hc rfl (by first | exact dz_wid (by first | omega | (unfold dz_w; omega)) (by first | omega | (unfold dz_w; omega)) | rfl) ?_
              first | refine xr_iaload hc rfl (by first | assumption | rfl) (by first | omega | (unfold dz_w; omega)) (by first | omega | (unfold dz_w; omega)) ?_ | refine xr_ialoado hc rfl (by first | omega | (unfold dz_w; omega)) (by first | omega | (unfold dz_w; omega)) ?_
              rw [ix, f1]
              refine xr_if_lt hc rfl (t := 88) rfl (fun b81 => ?_) (fun b81 => ?_)
              · refine xr_iconst hc rfl ?_
                refine xr_iaddz hc rfl (by first | exact dz_wid (by first | omega | (unfold dz_w; omega)) (by first | omega | (unfold dz_w; omega)) | rfl) ?_
                refine xr_istore2 hc rfl rfl ?_
                refine xr_iincz3 hc rfl rfl (by first | exact dz_wid (by first | omega | (unfold dz_w; omega)) (by first | omega | (unfold dz_w; omega)) | rfl) ?_
                refine xr_goto hc rfl (t := 4) rfl ?_
                repeat (first | rw [if_pos (by omega)] at ht | rw [if_neg (by omega)] at ht)
                rw [← ht]
                exact ih (i + 1) (by omega)
              · refine xr_iconst hc rfl ?_
                refine xr_goto hc rfl (t := 89) rfl ?_
                refine xr_iaddz hc rfl (by first | exact dz_wid (by first | omega | (unfold dz_w; omega)) (by first | omega | (unfold dz_w; omega)) | rfl) ?_
                refine xr_istore2 hc rfl rfl ?_
                refine xr_iincz3 hc rfl rfl (by first | exact dz_wid (by first | omega | (unfold dz_w; omega)) (by first | omega | (unfold dz_w; omega)) | rfl) ?_
                refine xr_goto hc rfl (t := 4) rfl ?_
                repeat (first | rw [if_pos (by omega)] at ht | rw [if_neg (by omega)] at ht)
                rw [← ht]
                exact ih (i + 1) (by omega)
          · refine xr_iloadn hc rfl rfl ?_
            refine xr_iconst hc rfl ?_
            refine xr_icmp_ge hc rfl (t := 58) rfl (fun b42 => ?_) (fun b42 => ?_)
            · refine xr_iconst hc rfl ?_
              refine xr_goto hc rfl (t := 89) rfl ?_
              refine xr_iaddz hc rfl (by first | exact dz_wid (by first | omega | (unfold dz_w; omega)) (by first | omega | (unfold dz_w; omega)) | rfl) ?_
              refine xr_istore2 hc rfl rfl ?_
              refine xr_iincz3 hc rfl rfl (by first | exact dz_wid (by first | omega | (unfold dz_w; omega)) (by first | omega | (unfold dz_w; omega)) | rfl) ?_
              refine xr_goto hc rfl (t := 4) rfl ?_
              repeat (first | rw [if_pos (by omega)] at ht | rw [if_neg (by omega)] at ht)
              rw [← ht]
              exact ih (i + 1) (by omega)
            · obtain ⟨f1, -⟩ := htxt i (by omega)
              obtain ⟨w2, -⟩ := wtxt i (by omega)
              refine xr_aloadn hc rfl rfl ?_
              refine xr_getfr hc rfl rfl (by first | assumption | rfl) (by first | assumption | rfl) ?_
              refine xr_iloadn hc rfl rfl ?_
              first | refine xr_iaload hc rfl (by first | assumption | rfl) (by first | omega | (unfold dz_w; omega)) (by first | omega | (unfold dz_w; omega)) ?_ | refine xr_ialoado hc rfl (by first | omega | (unfold dz_w; omega)) (by first | omega | (unfold dz_w; omega)) ?_
              rw [Int.toNat_natCast, f1]
              refine xr_if_lt hc rfl (t := 58) rfl (fun b51 => ?_) (fun b51 => ?_)
              · refine xr_iconst hc rfl ?_
                refine xr_goto hc rfl (t := 89) rfl ?_
                refine xr_iaddz hc rfl (by first | exact dz_wid (by first | omega | (unfold dz_w; omega)) (by first | omega | (unfold dz_w; omega)) | rfl) ?_
                refine xr_istore2 hc rfl rfl ?_
                refine xr_iincz3 hc rfl rfl (by first | exact dz_wid (by first | omega | (unfold dz_w; omega)) (by first | omega | (unfold dz_w; omega)) | rfl) ?_
                refine xr_goto hc rfl (t := 4) rfl ?_
                repeat (first | rw [if_pos (by omega)] at ht | rw [if_neg (by omega)] at ht)
                rw [← ht]
                exact ih (i + 1) (by omega)
              · refine xr_iconst hc rfl ?_
                refine xr_goto hc rfl (t := 89) rfl ?_
                refine xr_iaddz hc rfl (by first | exact dz_wid (by first | omega | (unfold dz_w; omega)) (by first | omega | (unfold dz_w; omega)) | rfl) ?_
                refine xr_istore2 hc rfl rfl ?_
                refine xr_iincz3 hc rfl rfl (by first | exact dz_wid (by first | omega | (unfold dz_w; omega)) (by first | omega | (unfold dz_w; omega)) | rfl) ?_
                refine xr_goto hc rfl (t := 4) rfl ?_
                repeat (first | rw [if_pos (by omega)] at ht | rw [if_neg (by omega)] at ht)
                rw [← ht]
                exact ih (i + 1) (by omega)
        · refine xr_aloadn hc rfl rfl ?_
          refine xr_getfr hc rfl rfl (by first | assumption | rfl) (by first | assumption | rfl) ?_
          refine xr_iloadn hc rfl rfl ?_
          first | refine xr_iaload hc rfl (by first | assumption | rfl) (by first | omega | (unfold dz_w; omega)) (by first | omega | (unfold dz_w; omega)) ?_ | refine xr_ialoado hc rfl (by first | omega | (unfold dz_w; omega)) (by first | omega | (unfold dz_w; omega)) ?_
          rw [Int.toNat_natCast, e1]
          refine xr_if_ge hc rfl (t := 30) rfl (fun b23 => ?_) (fun b23 => ?_)
          · refine xr_iconst hc rfl ?_
            refine xr_goto hc rfl (t := 89) rfl ?_
            refine xr_iaddz hc rfl (by first | exact dz_wid (by first | omega | (unfold dz_w; omega)) (by first | omega | (unfold dz_w; omega)) | rfl) ?_
            refine xr_istore2 hc rfl rfl ?_
            refine xr_iincz3 hc rfl rfl (by first | exact dz_wid (by first | omega | (unfold dz_w; omega)) (by first | omega | (unfold dz_w; omega)) | rfl) ?_
            refine xr_goto hc rfl (t := 4) rfl ?_
            repeat (first | rw [if_pos (by omega)] at ht | rw [if_neg (by omega)] at ht)
            rw [← ht]
            exact ih (i + 1) (by omega)
          · refine xr_iconst hc rfl ?_
            refine xr_goto hc rfl (t := 89) rfl ?_
            refine xr_iaddz hc rfl (by first | exact dz_wid (by first | omega | (unfold dz_w; omega)) (by first | omega | (unfold dz_w; omega)) | rfl) ?_
            refine xr_istore2 hc rfl rfl ?_
            refine xr_iincz3 hc rfl rfl (by first | exact dz_wid (by first | omega | (unfold dz_w; omega)) (by first | omega | (unfold dz_w; omega)) | rfl) ?_
            refine xr_goto hc rfl (t := 4) rfl ?_
            repeat (first | rw [if_pos (by omega)] at ht | rw [if_neg (by omega)] at ht)
            rw [← ht]
            exact ih (i + 1) (by omega)
  refine xr_iconst hc rfl ?_
  refine xr_istore2 hc rfl rfl ?_
  refine xr_iconst hc rfl ?_
  refine xr_istore3 hc rfl rfl ?_
  have e0 : tho rs ts kp what 0 = 0 := by
    unfold tho
    split
    · rfl
    · split <;> rfl
  have l0 := lp 6 0 (by omega)
  rw [e0] at l0
  exact l0
set_option maxRecDepth 100000 in
theorem D_countOf {xo : Nat → List Int} {d : Nat} {Q : dz_Q} {sh : List (Nat ⊕ (Nat × Nat))} {rf : Nat → Nat → Nat} {M : Nat → Nat → Int} {rs : Nat → Int} {it : Nat → Nat → Int} {ts : Nat → Int} {ch : Nat → Nat → Int} {tl up lo : Int} {fn : Nat → Int} {w pl : Int} {kd wt nx : Nat → Int} {n : Nat} {hs : Nat → Nat → Int} {kp : Nat → Int} {kh : Nat → Nat → Nat → Int} {what : Int} (hl : ml sh rf) (hR : RM M rs it ts ch tl up lo fn w pl kd wt nx n hs kp kh) (hW : WF rs it ts ch tl up lo fn w pl kd wt nx n hs kp kh) (h10 : 0 ≤ what ∧ what ≤ 10) (hQ : Q (some (dz_i ((o_count rs ts w pl kd n (hs n) kp what)))) (sh, rf, M)) : dz_E dz_pp xo (d + 3) 209 [dz_r 115, dz_i what] (sh, rf, M) Q := by
  refine ⟨Nat.le_of_ble_eq_true rfl, ?_⟩
  have hc := dz_E_m dz_pp xo (d + 2)
  show dz_X (dz_E dz_pp xo (d + 2)) dz_pp xo (dz_pp 209) Q 0 [some (dz_r 115), some (dz_i what)] [] 0 0 (sh, rf, M)
  obtain ⟨c0, c1, c2, c3, c4, c5, c6, c7, c8, c9, c10, c11, c12, c13, c14, c15, c16, c17, c18, c19, c20, c21, c22, c23, c24, c25, c26, c27, c28, c29⟩ := id hl
  obtain ⟨hrow, htxt, htl, hup, hlo, hfn, hdr, hkp⟩ := id hR
  obtain ⟨wrow, wtxt, wdr, wst, wkp⟩ := id hW
  have hw6 := WF_w hW
  have hdr3 : drM M w pl kd wt nx n hs ∧ w ≤ 6 ∧ n ≤ 40 := ⟨hdr, hw6.2, wst.1⟩
  have hkp3 : kepM M w kp kh ∧ w ≤ 6 ∧ ∀ k, k < 3 → kp k ≤ 40 := ⟨hkp, hw6.2, fun k hk => by
    rcases wkp k hk with z | z
    · omega
    · exact z.2.1⟩
  obtain ⟨a1, a2, a3, b1, b2, b3⟩ := id hdr
  have hpg : pgM M w pl kd wt nx := ⟨a1, a2, a3⟩
  have b2c : ∀ c, okc w c → M 116 c = hs n c := fun c hc => by
    have h3 := b2 c hc
    rw [Nat.zero_add] at h3
    exact h3
  have tz0 : Int.toNat 0 = 0 := rfl
  have tz1 : Int.toNat 1 = 1 := rfl
  have tz2 : Int.toNat 2 = 2 := rfl
  have tz3 : Int.toNat 3 = 3 := rfl
  have tz4 : Int.toNat 4 = 4 := rfl
  have y1 := b2c 1 (by unfold okc; omega)
  have y2 := b2c 2 (by unfold okc; omega)
  have y3 := b2c 3 (by unfold okc; omega)
  have y4 := b2c 4 (by unfold okc; omega)
  unfold o_count at hQ
  refine xr_iloadn hc rfl rfl ?_
  refine xr_table hc rfl (fun t1 => ?_) (fun t1 t1b => ?_)
  · refine xr_at (t := 99) rfl ?_
    refine xr_aloadn hc rfl rfl ?_
    refine xr_iloadn hc rfl rfl ?_
    refine xr_callv1 hc rfl (by first | assumption | rfl) rfl rfl rfl (Nat.le_of_ble_eq_true rfl) (Nat.zero_le _) (Nat.zero_le _) ?_
    refine D_thereOf hl hR hW ?_
    refine xk_1 ?_
    refine xr_ireturn hc rfl rfl (Nat.zero_le _) (Nat.zero_le _) ?_
    unfold tho
    rcases (show what = 8 ∨ what = 9 ∨ what = 10 by omega) with e | e | e
    · repeat (first | rw [if_pos (by omega)] at hQ | rw [if_neg (by omega)] at hQ)
      rw [if_pos e]
      exact hQ
    · repeat (first | rw [if_pos (by omega)] at hQ | rw [if_neg (by omega)] at hQ)
      rw [if_neg (by omega), if_pos e]
      exact hQ
    · repeat (first | rw [if_pos (by omega)] at hQ | rw [if_neg (by omega)] at hQ)
      rw [if_neg (by omega), if_neg (by omega)]
      exact hQ
  · rcases (show what = 0 ∨ what = 1 ∨ what = 2 ∨ what = 3 ∨ what = 4 ∨ what = 5 ∨ what = 6 ∨ what = 7 by omega) with e1 | e1 | e1 | e1 | e1 | e1 | e1 | e1
    · refine ⟨47, by rw [e1]; rfl, xr_at (t := 48) rfl ?_⟩
      refine xr_aloadn hc rfl rfl ?_
      refine xr_getfi hc rfl (Or.inl rfl) (by first | assumption | rfl) ?_
      rw [a1]
      refine xr_ireturn hc rfl rfl (Nat.zero_le _) (Nat.zero_le _) ?_
      repeat (first | rw [if_pos (by omega)] at hQ | rw [if_neg (by omega)] at hQ)
      exact hQ
    · refine ⟨52, by rw [e1]; rfl, xr_at (t := 53) rfl ?_⟩
      refine xr_aloadn hc rfl rfl ?_
      refine xr_getfi hc rfl (Or.inl rfl) (by first | assumption | rfl) ?_
      rw [a2]
      refine xr_ireturn hc rfl rfl (Nat.zero_le _) (Nat.zero_le _) ?_
      repeat (first | rw [if_pos (by omega)] at hQ | rw [if_neg (by omega)] at hQ)
      exact hQ
    · refine ⟨57, by rw [e1]; rfl, xr_at (t := 58) rfl ?_⟩
      refine xr_aloadn hc rfl rfl ?_
      refine xr_getfr hc rfl rfl (by first | assumption | rfl) (by first | assumption | rfl) ?_
      refine xr_iconst hc rfl ?_
      first | refine xr_iaload hc rfl (by first | assumption | rfl) (by first | omega | (unfold dz_w; omega)) (by first | omega | (unfold dz_w; omega)) ?_ | refine xr_ialoado hc rfl (by first | omega | (unfold dz_w; omega)) (by first | omega | (unfold dz_w; omega)) ?_
      rw [tz0, b1]
      refine xr_ireturn hc rfl rfl (Nat.zero_le _) (Nat.zero_le _) ?_
      repeat (first | rw [if_pos (by omega)] at hQ | rw [if_neg (by omega)] at hQ)
      exact hQ
    · refine ⟨64, by rw [e1]; rfl, xr_at (t := 65) rfl ?_⟩
      refine xr_aloadn hc rfl rfl ?_
      refine xr_getfr hc rfl rfl (by first | assumption | rfl) (by first | assumption | rfl) ?_
      refine xr_iconst hc rfl ?_
      first | refine xr_iaload hc rfl (by first | assumption | rfl) (by first | omega | (unfold dz_w; omega)) (by first | omega | (unfold dz_w; omega)) ?_ | refine xr_ialoado hc rfl (by first | omega | (unfold dz_w; omega)) (by first | omega | (unfold dz_w; omega)) ?_
      rw [tz1, y1]
      refine xr_ireturn hc rfl rfl (Nat.zero_le _) (Nat.zero_le _) ?_
      repeat (first | rw [if_pos (by omega)] at hQ | rw [if_neg (by omega)] at hQ)
      exact hQ
    · refine ⟨71, by rw [e1]; rfl, xr_at (t := 72) rfl ?_⟩
      refine xr_aloadn hc rfl rfl ?_
      refine xr_getfr hc rfl rfl (by first | assumption | rfl) (by first | assumption | rfl) ?_
      refine xr_iconst hc rfl ?_
      first | refine xr_iaload hc rfl (by first | assumption | rfl) (by first | omega | (unfold dz_w; omega)) (by first | omega | (unfold dz_w; omega)) ?_ | refine xr_ialoado hc rfl (by first | omega | (unfold dz_w; omega)) (by first | omega | (unfold dz_w; omega)) ?_
      rw [tz2, y2]
      refine xr_ireturn hc rfl rfl (Nat.zero_le _) (Nat.zero_le _) ?_
      repeat (first | rw [if_pos (by omega)] at hQ | rw [if_neg (by omega)] at hQ)
      exact hQ
    · refine ⟨78, by rw [e1]; rfl, xr_at (t := 79) rfl ?_⟩
      refine xr_aloadn hc rfl rfl ?_
      refine xr_getfr hc rfl rfl (by first | assumption | rfl) (by first | assumption | rfl) ?_
      refine xr_iconst hc rfl ?_
      first | refine xr_iaload hc rfl (by first | assumption | rfl) (by first | omega | (unfold dz_w; omega)) (by first | omega | (unfold dz_w; omega)) ?_ | refine xr_ialoado hc rfl (by first | omega | (unfold dz_w; omega)) (by first | omega | (unfold dz_w; omega)) ?_
      rw [tz3, y3]
      refine xr_ireturn hc rfl rfl (Nat.zero_le _) (Nat.zero_le _) ?_
      repeat (first | rw [if_pos (by omega)] at hQ | rw [if_neg (by omega)] at hQ)
      exact hQ
    · refine ⟨85, by rw [e1]; rfl, xr_at (t := 86) rfl ?_⟩
      refine xr_aloadn hc rfl rfl ?_
      refine xr_getfr hc rfl rfl (by first | assumption | rfl) (by first | assumption | rfl) ?_
      refine xr_iconst hc rfl ?_
      first | refine xr_iaload hc rfl (by first | assumption | rfl) (by first | omega | (unfold dz_w; omega)) (by first | omega | (unfold dz_w; omega)) ?_ | refine xr_ialoado hc rfl (by first | omega | (unfold dz_w; omega)) (by first | omega | (unfold dz_w; omega)) ?_
      rw [tz4, y4]
      refine xr_ireturn hc rfl rfl (Nat.zero_le _) (Nat.zero_le _) ?_
      repeat (first | rw [if_pos (by omega)] at hQ | rw [if_neg (by omega)] at hQ)
      exact hQ
    · refine ⟨92, by rw [e1]; rfl, xr_at (t := 93) rfl ?_⟩
      refine xr_aloadn hc rfl rfl ?_
      refine xr_iconst hc rfl ?_
      refine xr_callv1 hc rfl (by first | assumption | rfl) rfl rfl rfl (Nat.le_of_ble_eq_true rfl) (Nat.zero_le _) (Nat.zero_le _) ?_
      refine D_those hl hR hW ?_
      refine xk_1 ?_
      refine xr_ireturn hc rfl rfl (Nat.zero_le _) (Nat.zero_le _) ?_
      repeat (first | rw [if_pos (by omega)] at hQ | rw [if_neg (by omega)] at hQ)
      exact hQ
set_option maxRecDepth 100000 in
theorem D_count {xo : Nat → List Int} {d : Nat} {Q : dz_Q} {sh : List (Nat ⊕ (Nat × Nat))} {rf : Nat → Nat → Nat} {M : Nat → Nat → Int} {rs : Nat → Int} {it : Nat → Nat → Int} {ts : Nat → Int} {ch : Nat → Nat → Int} {tl up lo : Int} {fn : Nat → Int} {w pl : Int} {kd wt nx : Nat → Int} {n : Nat} {hs : Nat → Nat → Int} {kp : Nat → Int} {kh : Nat → Nat → Nat → Int} {what : Int} (hl : ml sh rf) (hR : RM M rs it ts ch tl up lo fn w pl kd wt nx n hs kp kh) (hW : WF rs it ts ch tl up lo fn w pl kd wt nx n hs kp kh) (hQ : Q (some (dz_i ((o_count rs ts w pl kd n (hs n) kp what)))) (sh, rf, M)) : dz_E dz_pp xo (d + 4) 210 [dz_r 115, dz_i what] (sh, rf, M) Q := by
  refine ⟨Nat.le_of_ble_eq_true rfl, ?_⟩
  have hc := dz_E_m dz_pp xo (d + 3)
  show dz_X (dz_E dz_pp xo (d + 3)) dz_pp xo (dz_pp 210) Q 0 [some (dz_r 115), some (dz_i what)] [] 0 0 (sh, rf, M)
  obtain ⟨c0, c1, c2, c3, c4, c5, c6, c7, c8, c9, c10, c11, c12, c13, c14, c15, c16, c17, c18, c19, c20, c21, c22, c23, c24, c25, c26, c27, c28, c29⟩ := id hl
  obtain ⟨hrow, htxt, htl, hup, hlo, hfn, hdr, hkp⟩ := id hR
  obtain ⟨wrow, wtxt, wdr, wst, wkp⟩ := id hW
  have hw6 := WF_w hW
  have hdr3 : drM M w pl kd wt nx n hs ∧ w ≤ 6 ∧ n ≤ 40 := ⟨hdr, hw6.2, wst.1⟩
  have hkp3 : kepM M w kp kh ∧ w ≤ 6 ∧ ∀ k, k < 3 → kp k ≤ 40 := ⟨hkp, hw6.2, fun k hk => by
    rcases wkp k hk with z | z
    · omega
    · exact z.2.1⟩
  have hneg : (what < 0 ∨ 10 < what) → (o_count rs ts w pl kd n (hs n) kp what) = -1 := by
    intro h
    unfold o_count
    rw [if_neg (by omega), if_neg (by omega), if_neg (by omega), if_neg (by omega), if_neg (by omega), if_neg (by omega), if_neg (by omega), if_neg (by omega), if_neg (by omega), if_neg (by omega), if_neg (by omega)]
  refine xr_iloadn hc rfl rfl ?_
  refine xr_i2l hc rfl ?_
  refine xr_lconst hc rfl ?_
  refine xr_ldc2 hc rfl ?_
  refine xr_calls3 hc rfl (by decide) rfl rfl rfl (Nat.le_of_ble_eq_true rfl) (Nat.zero_le _) (Nat.zero_le _) ?_
  refine S_in (fun u1 v1 => ?_) (fun u1 => ?_)
  · refine xk_1 ?_
    refine xr_iff hc rfl (by simp [dz_cmp]) ?_
    refine xr_aloadn hc rfl rfl ?_
    refine xr_iloadn hc rfl rfl ?_
    refine xr_callv1 hc rfl (by first | assumption | rfl) rfl rfl rfl (Nat.le_of_ble_eq_true rfl) (Nat.zero_le _) (Nat.zero_le _) ?_
    refine D_countOf hl hR hW ⟨u1, v1⟩ ?_
    refine xk_1 ?_
    refine xr_goto hc rfl (t := 21) rfl ?_
    refine xr_ireturn hc rfl rfl (Nat.zero_le _) (Nat.zero_le _) ?_
    first
      | exact hQ
      | (rw [hneg u1] at hQ; exact hQ)
  · refine xk_1 ?_
    refine xr_ift hc rfl (t := 20) rfl (by simp [dz_cmp]) ?_
    refine xr_iconst hc rfl ?_
    refine xr_ireturn hc rfl rfl (Nat.zero_le _) (Nat.zero_le _) ?_
    first
      | exact hQ
      | (rw [hneg u1] at hQ; exact hQ)
theorem dgw_flat (f : Nat → Nat → Int) : ∀ (i : Nat) (h : Int), fld (fun k => f (k / 6) (k % 6)) (6 * i) h = dgw f i h
  | 0, _ => rfl
  | i + 1, h => by
    have e : ∀ j, j < 6 → (6 * i + j) / 6 = i ∧ (6 * i + j) % 6 = j := fun j hj => ⟨by omega, by omega⟩
    show fld _ (6 * i + 6) h = fld (f i) 6 (dgw f i h)
    rw [← dgw_flat f i h]
    simp only [fld]
    rw [(e 5 (by omega)).1, (e 5 (by omega)).2, (e 4 (by omega)).1, (e 4 (by omega)).2, (e 3 (by omega)).1, (e 3 (by omega)).2, (e 2 (by omega)).1, (e 2 (by omega)).2, (e 1 (by omega)).1, (e 1 (by omega)).2, show 6 * i / 6 = i by omega, show 6 * i % 6 = 0 by omega]
set_option maxRecDepth 100000 in
theorem D_digest {xo : Nat → List Int} {d : Nat} {Q : dz_Q} {sh : List (Nat ⊕ (Nat × Nat))} {rf : Nat → Nat → Nat} {M : Nat → Nat → Int} {rs : Nat → Int} {it : Nat → Nat → Int} {ts : Nat → Int} {ch : Nat → Nat → Int} {tl up lo : Int} {fn : Nat → Int} {w pl : Int} {kd wt nx : Nat → Int} {n : Nat} {hs : Nat → Nat → Int} {kp : Nat → Int} {kh : Nat → Nat → Nat → Int} (hl : ml sh rf) (hR : RM M rs it ts ch tl up lo fn w pl kd wt nx n hs kp kh) (hW : WF rs it ts ch tl up lo fn w pl kd wt nx n hs kp kh) (hQ : Q (some (dz_l (o_digest rs it ts ch w pl kd wt nx n (hs n) kp))) (sh, rf, M)) : dz_E dz_pp xo (d + 5) 213 [dz_r 115] (sh, rf, M) Q := by
  refine ⟨Nat.le_of_ble_eq_true rfl, ?_⟩
  have hc := dz_E_m dz_pp xo (d + 4)
  show dz_X (dz_E dz_pp xo (d + 4)) dz_pp xo (dz_pp 213) Q 0 [some (dz_r 115), none, none, none, none] [] 0 0 (sh, rf, M)
  obtain ⟨c0, c1, c2, c3, c4, c5, c6, c7, c8, c9, c10, c11, c12, c13, c14, c15, c16, c17, c18, c19, c20, c21, c22, c23, c24, c25, c26, c27, c28, c29⟩ := id hl
  obtain ⟨hrow, htxt, htl, hup, hlo, hfn, hdr, hkp⟩ := id hR
  obtain ⟨wrow, wtxt, wdr, wst, wkp⟩ := id hW
  have hw6 := WF_w hW
  have hdr3 : drM M w pl kd wt nx n hs ∧ w ≤ 6 ∧ n ≤ 40 := ⟨hdr, hw6.2, wst.1⟩
  have hkp3 : kepM M w kp kh ∧ w ≤ 6 ∧ ∀ k, k < 3 → kp k ≤ 40 := ⟨hkp, hw6.2, fun k hk => by
    rcases wkp k hk with z | z
    · omega
    · exact z.2.1⟩
  obtain ⟨a1, a2, a3, b1, b2, b3⟩ := id hdr
  have hpg : pgM M w pl kd wt nx := ⟨a1, a2, a3⟩
  have b2c : ∀ c, okc w c → M 116 c = hs n c := fun c hc => by
    have h3 := b2 c hc
    rw [Nat.zero_add] at h3
    exact h3
  have l5i : ∀ (m_ : Nat) (t k : Nat), t < 4 → (k : Int) + m_ = (if ts t < 0 then 0 else ts t) → (dz_X (dz_E dz_pp xo (d + 4)) dz_pp xo (dz_pp 213) Q 173 [some (dz_r 115), some (dz_l (dgr ts ch (t + 1) (dgr rs it 6 (fld kp 3 (dgw (fun i k => tw kd wt nx (hs n) i k) w.toNat (fld (fun k => o_count rs ts w pl kd n (hs n) kp k) 11 17)))))), none, some (dz_i ((t : Int) + 1 : Int)), some (dz_i (if ts t < 0 then 0 else ts t))] [] 0 0 (sh, rf, M)) → dz_X (dz_E dz_pp xo (d + 4)) dz_pp xo (dz_pp 213) Q 195 [some (dz_r 115), some (dz_l (fld (ch t) k (hf (dgr ts ch t (dgr rs it 6 (fld kp 3 (dgw (fun i k => tw kd wt nx (hs n) i k) w.toNat (fld (fun k => o_count rs ts w pl kd n (hs n) kp k) 11 17))))) (ts t)))), none, some (dz_i (t : Int)), some (dz_i (k : Int))] [] 0 0 (sh, rf, M) := by
    intro m_
    induction m_ with
    | zero =>
      intro t k ht hk hK
      obtain ⟨e1, e2⟩ := htxt t ht
      have wt1 := wtxt t ht
      refine xr_iload hc rfl rfl ?_
      refine xr_aloadn hc rfl rfl ?_
      refine xr_getfr hc rfl rfl (by first | assumption | rfl) (by first | assumption | rfl) ?_
      refine xr_iloadn hc rfl rfl ?_
      first | refine xr_iaload hc rfl (by first | assumption | rfl) (by first | omega | (unfold dz_w; omega)) (by first | omega | (unfold dz_w; omega)) ?_ | refine xr_ialoado hc rfl (by first | omega | (unfold dz_w; omega)) (by first | omega | (unfold dz_w; omega)) ?_
      rw [Int.toNat_natCast, e1]
      refine xr_icmp_ge hc rfl (t := 232) rfl (fun b203 => ?_) (fun b203 => ?_)
      · refine xr_iincz3 hc rfl rfl (by first | exact dz_wid (by first | omega | (unfold dz_w; omega)) (by first | omega | (unfold dz_w; omega)) | rfl) ?_
        refine xr_goto hc rfl (t := 173) rfl ?_
        have ek : k = (ts t).toNat := by first | omega | (have wt2 := wt1.1; split at hk <;> omega) | (split at hk <;> omega)
        have ek2 : (k : Int) = if ts t < 0 then 0 else ts t := by omega
        rw [ek2, show fld (ch t) k _ = (dgr ts ch (t + 1) (dgr rs it 6 (fld kp 3 (dgw (fun i k => tw kd wt nx (hs n) i k) w.toNat (fld (fun k => o_count rs ts w pl kd n (hs n) kp k) 11 17))))) by rw [ek]; rfl]
        exact hK
      · first | omega | (have wt2 := wt1.1; split at hk <;> omega) | (split at hk <;> omega)
    | succ m_ ih =>
      intro t k ht hk hK
      obtain ⟨e1, e2⟩ := htxt t ht
      have wt1 := wtxt t ht
      have hk3 : (k : Int) < ts t := by first | (have wt2 := wt1.1; split at hk <;> omega) | (split at hk <;> omega)
      have e3 := e2 k hk3
      have ix : (60 * (t : Int) + (k : Int)).toNat = 60 * t + k := by omega
      have hk40 : (k : Int) < 60 := by first | omega | (have wt2 := wt1.1; omega)
      refine xr_iload hc rfl rfl ?_
      refine xr_aloadn hc rfl rfl ?_
      refine xr_getfr hc rfl rfl (by first | assumption | rfl) (by first | assumption | rfl) ?_
      refine xr_iloadn hc rfl rfl ?_
      first | refine xr_iaload hc rfl (by first | assumption | rfl) (by first | omega | (unfold dz_w; omega)) (by first | omega | (unfold dz_w; omega)) ?_ | refine xr_ialoado hc rfl (by first | omega | (unfold dz_w; omega)) (by first | omega | (unfold dz_w; omega)) ?_
      rw [Int.toNat_natCast, e1]
      refine xr_icmp_ge hc rfl (t := 232) rfl (fun b203 => ?_) (fun b203 => ?_)
      · omega
      · refine xr_ldc2 hc rfl ?_
        refine xr_lloadn hc rfl rfl ?_
        refine xr_lmul hc rfl ?_
        refine xr_aloadn hc rfl rfl ?_
        refine xr_getfr hc rfl rfl (by first | assumption | rfl) (by first | assumption | rfl) ?_
        refine xr_bipush hc rfl ?_
        refine xr_iloadn hc rfl rfl ?_
        refine xr_imulz hc rfl (by first | exact dz_wid (by first | omega | (unfold dz_w; omega)) (by first | omega | (unfold dz_w; omega)) | rfl) ?_
        refine xr_iload hc rfl rfl ?_
        refine xr_iaddz hc rfl (by first | exact dz_wid (by first | omega | (unfold dz_w; omega)) (by first | omega | (unfold dz_w; omega)) | rfl) ?_
        first | refine xr_iaload hc rfl (by first | assumption | rfl) (by first | omega | (unfold dz_w; omega)) (by first | omega | (unfold dz_w; omega)) ?_ | refine xr_ialoado hc rfl (by first | omega | (unfold dz_w; omega)) (by first | omega | (unfold dz_w; omega)) ?_
        rw [ix, e3]
        refine xr_i2l hc rfl ?_
        refine xr_ladd hc rfl ?_
        refine xr_lstore1 hc rfl rfl ?_
        refine xr_iincz4 hc rfl rfl (by first | exact dz_wid (by first | omega | (unfold dz_w; omega)) (by first | omega | (unfold dz_w; omega)) | rfl) ?_
        refine xr_goto hc rfl (t := 195) rfl ?_
        exact ih t (k + 1) ht (by omega) hK
  have l5 : ∀ (m_ : Nat) (t : Nat) (K : Option dz_V), t + m_ = 4 → dz_X (dz_E dz_pp xo (d + 4)) dz_pp xo (dz_pp 213) Q 173 [some (dz_r 115), some (dz_l (dgr ts ch t (dgr rs it 6 (fld kp 3 (dgw (fun i k => tw kd wt nx (hs n) i k) w.toNat (fld (fun k => o_count rs ts w pl kd n (hs n) kp k) 11 17)))))), none, some (dz_i (t : Int)), K] [] 0 0 (sh, rf, M) := by
    intro m_
    induction m_ with
    | zero =>
      intro t K ht
      have et : t = 4 := by omega
      subst et
      refine xr_iloadn hc rfl rfl ?_
      refine xr_iconst hc rfl ?_
      refine xr_icmp_ge hc rfl (t := 238) rfl (fun b175 => ?_) (fun b175 => ?_)
      · refine xr_lloadn hc rfl rfl ?_
        refine xr_lreturn hc rfl rfl (Nat.zero_le _) (Nat.zero_le _) ?_
        exact hQ
      · omega
    | succ m_ ih =>
      intro t K ht
      obtain ⟨e1, e2⟩ := htxt t (by omega)
      have wt1 := wtxt t (by omega)
      refine xr_iloadn hc rfl rfl ?_
      refine xr_iconst hc rfl ?_
      refine xr_icmp_ge hc rfl (t := 238) rfl (fun b175 => ?_) (fun b175 => ?_)
      · omega
      · refine xr_ldc2 hc rfl ?_
        refine xr_lloadn hc rfl rfl ?_
        refine xr_lmul hc rfl ?_
        refine xr_aloadn hc rfl rfl ?_
        refine xr_getfr hc rfl rfl (by first | assumption | rfl) (by first | assumption | rfl) ?_
        refine xr_iloadn hc rfl rfl ?_
        first | refine xr_iaload hc rfl (by first | assumption | rfl) (by first | omega | (unfold dz_w; omega)) (by first | omega | (unfold dz_w; omega)) ?_ | refine xr_ialoado hc rfl (by first | omega | (unfold dz_w; omega)) (by first | omega | (unfold dz_w; omega)) ?_
        rw [Int.toNat_natCast, e1]
        refine xr_i2l hc rfl ?_
        refine xr_ladd hc rfl ?_
        refine xr_lstore1 hc rfl rfl ?_
        refine xr_iconst hc rfl ?_
        refine xr_istore4 hc rfl rfl ?_
        exact l5i (if ts t < 0 then 0 else ts t).toNat t 0 (by omega) (by split <;> omega) (ih (t + 1) _ (by omega))
  have l4i : ∀ (m_ : Nat) (t k : Nat), t < 6 → (k : Int) + m_ = (if rs t < 0 then 0 else rs t) → (dz_X (dz_E dz_pp xo (d + 4)) dz_pp xo (dz_pp 213) Q 105 [some (dz_r 115), some (dz_l (dgr rs it (t + 1) (fld kp 3 (dgw (fun i k => tw kd wt nx (hs n) i k) w.toNat (fld (fun k => o_count rs ts w pl kd n (hs n) kp k) 11 17))))), none, some (dz_i ((t : Int) + 1 : Int)), some (dz_i (if rs t < 0 then 0 else rs t))] [] 0 0 (sh, rf, M)) → dz_X (dz_E dz_pp xo (d + 4)) dz_pp xo (dz_pp 213) Q 128 [some (dz_r 115), some (dz_l (fld (it t) k (hf (dgr rs it t (fld kp 3 (dgw (fun i k => tw kd wt nx (hs n) i k) w.toNat (fld (fun k => o_count rs ts w pl kd n (hs n) kp k) 11 17)))) (rs t)))), none, some (dz_i (t : Int)), some (dz_i (k : Int))] [] 0 0 (sh, rf, M) := by
    intro m_
    induction m_ with
    | zero =>
      intro t k ht hk hK
      obtain ⟨e1, e2⟩ := hrow t ht
      have wt1 := wrow t ht
      refine xr_iload hc rfl rfl ?_
      refine xr_aloadn hc rfl rfl ?_
      refine xr_getfr hc rfl rfl (by first | assumption | rfl) (by first | assumption | rfl) ?_
      refine xr_iloadn hc rfl rfl ?_
      first | refine xr_iaload hc rfl (by first | assumption | rfl) (by first | omega | (unfold dz_w; omega)) (by first | omega | (unfold dz_w; omega)) ?_ | refine xr_ialoado hc rfl (by first | omega | (unfold dz_w; omega)) (by first | omega | (unfold dz_w; omega)) ?_
      rw [Int.toNat_natCast, e1]
      refine xr_icmp_ge hc rfl (t := 165) rfl (fun b136 => ?_) (fun b136 => ?_)
      · refine xr_iincz3 hc rfl rfl (by first | exact dz_wid (by first | omega | (unfold dz_w; omega)) (by first | omega | (unfold dz_w; omega)) | rfl) ?_
        refine xr_goto hc rfl (t := 105) rfl ?_
        have ek : k = (rs t).toNat := by first | omega | (have wt2 := wt1.1; split at hk <;> omega) | (split at hk <;> omega)
        have ek2 : (k : Int) = if rs t < 0 then 0 else rs t := by omega
        rw [ek2, show fld (it t) k _ = (dgr rs it (t + 1) (fld kp 3 (dgw (fun i k => tw kd wt nx (hs n) i k) w.toNat (fld (fun k => o_count rs ts w pl kd n (hs n) kp k) 11 17)))) by rw [ek]; rfl]
        exact hK
      · first | omega | (have wt2 := wt1.1; split at hk <;> omega) | (split at hk <;> omega)
    | succ m_ ih =>
      intro t k ht hk hK
      obtain ⟨e1, e2⟩ := hrow t ht
      have wt1 := wrow t ht
      have hk3 : (k : Int) < rs t := by first | (have wt2 := wt1.1; split at hk <;> omega) | (split at hk <;> omega)
      have e3 := e2 k hk3
      have ix : (40 * (t : Int) + (k : Int)).toNat = 40 * t + k := by omega
      have hk40 : (k : Int) < 40 := by first | omega | (have wt2 := wt1.1; omega)
      refine xr_iload hc rfl rfl ?_
      refine xr_aloadn hc rfl rfl ?_
      refine xr_getfr hc rfl rfl (by first | assumption | rfl) (by first | assumption | rfl) ?_
      refine xr_iloadn hc rfl rfl ?_
      first | refine xr_iaload hc rfl (by first | assumption | rfl) (by first | omega | (unfold dz_w; omega)) (by first | omega | (unfold dz_w; omega)) ?_ | refine xr_ialoado hc rfl (by first | omega | (unfold dz_w; omega)) (by first | omega | (unfold dz_w; omega)) ?_
      rw [Int.toNat_natCast, e1]
      refine xr_icmp_ge hc rfl (t := 165) rfl (fun b136 => ?_) (fun b136 => ?_)
      · omega
      · refine xr_ldc2 hc rfl ?_
        refine xr_lloadn hc rfl rfl ?_
        refine xr_lmul hc rfl ?_
        refine xr_aloadn hc rfl rfl ?_
        refine xr_getfr hc rfl rfl (by first | assumption | rfl) (by first | assumption | rfl) ?_
        refine xr_bipush hc rfl ?_
        refine xr_iloadn hc rfl rfl ?_
        refine xr_imulz hc rfl (by first | exact dz_wid (by first | omega | (unfold dz_w; omega)) (by first | omega | (unfold dz_w; omega)) | rfl) ?_
        refine xr_iload hc rfl rfl ?_
        refine xr_iaddz hc rfl (by first | exact dz_wid (by first | omega | (unfold dz_w; omega)) (by first | omega | (unfold dz_w; omega)) | rfl) ?_
        first | refine xr_iaload hc rfl (by first | assumption | rfl) (by first | omega | (unfold dz_w; omega)) (by first | omega | (unfold dz_w; omega)) ?_ | refine xr_ialoado hc rfl (by first | omega | (unfold dz_w; omega)) (by first | omega | (unfold dz_w; omega)) ?_
        rw [ix, e3]
        refine xr_i2l hc rfl ?_
        refine xr_ladd hc rfl ?_
        refine xr_lstore1 hc rfl rfl ?_
        refine xr_iincz4 hc rfl rfl (by first | exact dz_wid (by first | omega | (unfold dz_w; omega)) (by first | omega | (unfold dz_w; omega)) | rfl) ?_
        refine xr_goto hc rfl (t := 128) rfl ?_
        exact ih t (k + 1) ht (by omega) hK
  have l4 : ∀ (m_ : Nat) (t : Nat) (K : Option dz_V), t + m_ = 6 → dz_X (dz_E dz_pp xo (d + 4)) dz_pp xo (dz_pp 213) Q 105 [some (dz_r 115), some (dz_l (dgr rs it t (fld kp 3 (dgw (fun i k => tw kd wt nx (hs n) i k) w.toNat (fld (fun k => o_count rs ts w pl kd n (hs n) kp k) 11 17))))), none, some (dz_i (t : Int)), K] [] 0 0 (sh, rf, M) := by
    intro m_
    induction m_ with
    | zero =>
      intro t K ht
      have et : t = 6 := by omega
      subst et
      refine xr_iloadn hc rfl rfl ?_
      refine xr_bipush hc rfl ?_
      refine xr_icmp_ge hc rfl (t := 171) rfl (fun b108 => ?_) (fun b108 => ?_)
      · refine xr_iconst hc rfl ?_
        refine xr_istore3 hc rfl rfl ?_
        exact l5 4 0 _ (by omega)
      · omega
    | succ m_ ih =>
      intro t K ht
      obtain ⟨e1, e2⟩ := hrow t (by omega)
      have wt1 := wrow t (by omega)
      refine xr_iloadn hc rfl rfl ?_
      refine xr_bipush hc rfl ?_
      refine xr_icmp_ge hc rfl (t := 171) rfl (fun b108 => ?_) (fun b108 => ?_)
      · omega
      · refine xr_ldc2 hc rfl ?_
        refine xr_lloadn hc rfl rfl ?_
        refine xr_lmul hc rfl ?_
        refine xr_aloadn hc rfl rfl ?_
        refine xr_getfr hc rfl rfl (by first | assumption | rfl) (by first | assumption | rfl) ?_
        refine xr_iloadn hc rfl rfl ?_
        first | refine xr_iaload hc rfl (by first | assumption | rfl) (by first | omega | (unfold dz_w; omega)) (by first | omega | (unfold dz_w; omega)) ?_ | refine xr_ialoado hc rfl (by first | omega | (unfold dz_w; omega)) (by first | omega | (unfold dz_w; omega)) ?_
        rw [Int.toNat_natCast, e1]
        refine xr_i2l hc rfl ?_
        refine xr_ladd hc rfl ?_
        refine xr_lstore1 hc rfl rfl ?_
        refine xr_iconst hc rfl ?_
        refine xr_istore4 hc rfl rfl ?_
        exact l4i (if rs t < 0 then 0 else rs t).toNat t 0 (by omega) (by split <;> omega) (ih (t + 1) _ (by omega))
  have l3 : ∀ (m_ : Nat) (t : Nat) (K : Option dz_V), t + m_ = 3 → dz_X (dz_E dz_pp xo (d + 4)) dz_pp xo (dz_pp 213) Q 72 [some (dz_r 115), some (dz_l (fld kp t (dgw (fun i k => tw kd wt nx (hs n) i k) w.toNat (fld (fun k => o_count rs ts w pl kd n (hs n) kp k) 11 17)))), none, some (dz_i ((t : Int) + 1 : Int)), K] [] 0 0 (sh, rf, M) := by
    intro m_
    induction m_ with
    | zero =>
      intro t K ht
      have et : t = 3 := by omega
      subst et
      refine xr_iloadn hc rfl rfl ?_
      refine xr_iconst hc rfl ?_
      refine xr_icmp_ge hc rfl (t := 103) rfl (fun b74 => ?_) (fun b74 => ?_)
      · refine xr_iconst hc rfl ?_
        refine xr_istore3 hc rfl rfl ?_
        exact l4 6 0 _ (by omega)
      · omega
    | succ m_ ih =>
      intro t K ht
      obtain ⟨f1, -⟩ := hkp t (by omega)
      have ix : (903 * ((t : Int) + 1) + 0).toNat = 903 * (1 + t) := by omega
      refine xr_iloadn hc rfl rfl ?_
      refine xr_iconst hc rfl ?_
      refine xr_icmp_ge hc rfl (t := 103) rfl (fun b74 => ?_) (fun b74 => ?_)
      · omega
      · refine xr_ldc2 hc rfl ?_
        refine xr_lloadn hc rfl rfl ?_
        refine xr_lmul hc rfl ?_
        refine xr_aloadn hc rfl rfl ?_
        refine xr_getfr hc rfl rfl (by first | assumption | rfl) (by first | assumption | rfl) ?_
        refine xr_sipush hc rfl ?_
        refine xr_iloadn hc rfl rfl ?_
        refine xr_imulz hc rfl (by first | exact dz_wid (by first | omega | (unfold dz_w; omega)) (by first | omega | (unfold dz_w; omega)) | rfl) ?_
        refine xr_iconst hc rfl ?_
        refine xr_iaddz hc rfl (by first | exact dz_wid (by first | omega | (unfold dz_w; omega)) (by first | omega | (unfold dz_w; omega)) | rfl) ?_
        first | refine xr_iaload hc rfl (by first | assumption | rfl) (by first | omega | (unfold dz_w; omega)) (by first | omega | (unfold dz_w; omega)) ?_ | refine xr_ialoado hc rfl (by first | omega | (unfold dz_w; omega)) (by first | omega | (unfold dz_w; omega)) ?_
        rw [ix, f1]
        refine xr_i2l hc rfl ?_
        refine xr_ladd hc rfl ?_
        refine xr_lstore1 hc rfl rfl ?_
        refine xr_iincz3 hc rfl rfl (by first | exact dz_wid (by first | omega | (unfold dz_w; omega)) (by first | omega | (unfold dz_w; omega)) | rfl) ?_
        refine xr_goto hc rfl (t := 72) rfl ?_
        exact ih (t + 1) K (by omega)
  have l2 : ∀ (m_ : Nat) (t : Nat), (t : Int) + m_ = 6 * w → dz_X (dz_E dz_pp xo (d + 4)) dz_pp xo (dz_pp 213) Q 33 [some (dz_r 115), some (dz_l (fld (fun k => tw kd wt nx (hs n) (k / 6) ((k % 6 : Nat) : Int)) t (fld (fun k => o_count rs ts w pl kd n (hs n) kp k) 11 17))), none, some (dz_i (t : Int)), none] [] 0 0 (sh, rf, M) := by
    intro m_
    induction m_ with
    | zero =>
      intro t ht
      have et : t = 6 * w.toNat := by omega
      refine xr_iloadn hc rfl rfl ?_
      refine xr_bipush hc rfl ?_
      refine xr_aloadn hc rfl rfl ?_
      refine xr_getfi hc rfl (Or.inl rfl) (by first | assumption | rfl) ?_
      rw [a1]
      refine xr_imulz hc rfl (by first | exact dz_wid (by first | omega | (unfold dz_w; omega)) (by first | omega | (unfold dz_w; omega)) | rfl) ?_
      refine xr_icmp_ge hc rfl (t := 70) rfl (fun b41 => ?_) (fun b41 => ?_)
      · refine xr_iconst hc rfl ?_
        refine xr_istore3 hc rfl rfl ?_
        rw [et, dgw_flat (fun i k => tw kd wt nx (hs n) i (k : Int))]
        exact l3 3 0 _ (by omega)
      · omega
    | succ m_ ih =>
      intro t ht
      have hd6 : Int.tdiv (t : Int) 6 = ((t / 6 : Nat) : Int) := by rw [Int.tdiv_eq_ediv_of_nonneg (by omega)]; omega
      have hm6 : Int.tmod (t : Int) 6 = ((t % 6 : Nat) : Int) := by rw [Int.tmod_eq_emod_of_nonneg (by omega)]; omega
      refine xr_iloadn hc rfl rfl ?_
      refine xr_bipush hc rfl ?_
      refine xr_aloadn hc rfl rfl ?_
      refine xr_getfi hc rfl (Or.inl rfl) (by first | assumption | rfl) ?_
      rw [a1]
      refine xr_imulz hc rfl (by first | exact dz_wid (by first | omega | (unfold dz_w; omega)) (by first | omega | (unfold dz_w; omega)) | rfl) ?_
      refine xr_icmp_ge hc rfl (t := 70) rfl (fun b41 => ?_) (fun b41 => ?_)
      · omega
      · refine xr_ldc2 hc rfl ?_
        refine xr_lloadn hc rfl rfl ?_
        refine xr_lmul hc rfl ?_
        refine xr_aloadn hc rfl rfl ?_
        refine xr_iloadn hc rfl rfl ?_
        refine xr_bipush hc rfl ?_
        refine xr_idivz hc rfl (by first | omega | (unfold dz_w; omega)) (by first | exact dz_wid (by first | omega | (unfold dz_w; omega)) (by first | omega | (unfold dz_w; omega)) | rfl) ?_
        rw [hd6]
        refine xr_iloadn hc rfl rfl ?_
        refine xr_bipush hc rfl ?_
        refine xr_irem hc rfl (by first | omega | (unfold dz_w; omega)) ?_
        rw [hm6]
        refine xr_callv2 hc rfl (by first | assumption | rfl) rfl rfl rfl (Nat.le_of_ble_eq_true rfl) (Nat.zero_le _) (Nat.zero_le _) ?_
        refine D_toldOf hl hR hW (by omega) ?_
        rw [Int.toNat_natCast]
        refine xk_1 ?_
        refine xr_i2l hc rfl ?_
        refine xr_ladd hc rfl ?_
        refine xr_lstore1 hc rfl rfl ?_
        refine xr_iincz3 hc rfl rfl (by first | exact dz_wid (by first | omega | (unfold dz_w; omega)) (by first | omega | (unfold dz_w; omega)) | rfl) ?_
        refine xr_goto hc rfl (t := 33) rfl ?_
        exact ih (t + 1) (by omega)
  have l1 : ∀ (m_ : Nat) (t : Nat), t + m_ = 11 → dz_X (dz_E dz_pp xo (d + 4)) dz_pp xo (dz_pp 213) Q 6 [some (dz_r 115), some (dz_l (fld (fun k => o_count rs ts w pl kd n (hs n) kp k) t 17)), none, some (dz_i (t : Int)), none] [] 0 0 (sh, rf, M) := by
    intro m_
    induction m_ with
    | zero =>
      intro t ht
      have et : t = 11 := by omega
      subst et
      refine xr_iloadn hc rfl rfl ?_
      refine xr_bipush hc rfl ?_
      refine xr_icmp_ge hc rfl (t := 31) rfl (fun b9 => ?_) (fun b9 => ?_)
      · refine xr_iconst hc rfl ?_
        refine xr_istore3 hc rfl rfl ?_
        exact l2 (6 * w).toNat 0 (by omega)
      · omega
    | succ m_ ih =>
      intro t ht
      refine xr_iloadn hc rfl rfl ?_
      refine xr_bipush hc rfl ?_
      refine xr_icmp_ge hc rfl (t := 31) rfl (fun b9 => ?_) (fun b9 => ?_)
      · omega
      · refine xr_ldc2 hc rfl ?_
        refine xr_lloadn hc rfl rfl ?_
        refine xr_lmul hc rfl ?_
        refine xr_aloadn hc rfl rfl ?_
        refine xr_iloadn hc rfl rfl ?_
        refine xr_callv1 hc rfl (by first | assumption | rfl) rfl rfl rfl (Nat.le_of_ble_eq_true rfl) (Nat.zero_le _) (Nat.zero_le _) ?_
        refine D_countOf hl hR hW (by omega) ?_
        refine xk_1 ?_
        refine xr_i2l hc rfl ?_
        refine xr_ladd hc rfl ?_
        refine xr_lstore1 hc rfl rfl ?_
        refine xr_iincz3 hc rfl rfl (by first | exact dz_wid (by first | omega | (unfold dz_w; omega)) (by first | omega | (unfold dz_w; omega)) | rfl) ?_
        refine xr_goto hc rfl (t := 6) rfl ?_
        exact ih (t + 1) (by omega)
  refine xr_ldc2 hc rfl ?_
  refine xr_lstore1 hc rfl rfl ?_
  refine xr_iconst hc rfl ?_
  refine xr_istore3 hc rfl rfl ?_
  exact l1 11 0 (by omega)
