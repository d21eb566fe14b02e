/-! The other one: how long steps take. Written by l2_49.py. -/
set_option maxRecDepth 100000 in
theorem D_tellParts {xo : Nat → List Int} {d : Nat} {Q : dz_Q} {sh : List (Nat ⊕ (Nat × Nat))} {rf : Nat → Nat → Nat} {M : Nat → Nat → Int} {x y : Nat} (hl : ml sh rf) (hx : x ≤ 1000000000000) (hy : y ≤ 10000000) (hxy : y = 0 → x = 0) (hQ : ∀ M2 : Nat → Nat → Int, (∀ q2 k2, ¬ (q2 = 115 ∧ (k2 = 11 ∨ k2 = 12)) → M2 q2 k2 = M q2 k2) → M2 115 11 = (o_sh (x : Int) (y : Int)).1 → M2 115 12 = (o_sh (x : Int) (y : Int)).2 → Q none (sh, rf, M2)) : dz_E dz_pp xo (d + 1) 173 [dz_r 115, dz_l (x : Int), dz_l (y : Int)] (sh, rf, M) Q := by
  refine ⟨Nat.le_of_ble_eq_true rfl, ?_⟩
  have hc := dz_E_m dz_pp xo (d + 0)
  show dz_X (dz_E dz_pp xo (d + 0)) dz_pp xo (dz_pp 173) Q 0 [some (dz_r 115), some (dz_l (x : Int)), none, some (dz_l (y : Int)), none, none, none, none, none, none, none] [] 0 0 (sh, rf, M)
  obtain ⟨c0, c1, c2, c3, c4, c5, c6, c7, c8, c9, c10, c11, c12, c13, c14, c15, c16, c17, c18, c19, c20, c21, c22, c23, c24, c25, c26, c27, c28, c29⟩ := id hl
  have lp : ∀ (m_ : Nat) (a b : Nat) (e1 e2 : Option dz_V), eI m_ a b → Nat.gcd a b = Nat.gcd x y → dz_X (dz_E dz_pp xo (d + 0)) dz_pp xo (dz_pp 173) Q 6 [some (dz_r 115), some (dz_l (x : Int)), none, some (dz_l (y : Int)), none, some (dz_l (a : Int)), none, some (dz_l (b : Int)), none, e1, e2] [] 0 0 (sh, rf, M) := by
    intro m_
    induction m_ with
    | zero =>
      intro a b e1 e2 hI hG
      have hb := eI_0 hI
      have hlc := lcmp_0 (b : Int) 0
      refine xr_lload hc rfl rfl ?_
      refine xr_lconst hc rfl ?_
      refine xr_lcmp hc rfl ?_
      refine xr_if_eq hc rfl (t := 31) rfl (fun b10 => ?_) (fun b10 => ?_)
      · have hg : a = Nat.gcd x y := by rw [← hG, hb, Nat.gcd_zero_right]
        have hla := lcmp_0 (a : Int) 0
        have hg0 : a = 0 ↔ (x = 0 ∧ y = 0) := by rw [hg]; exact Nat.gcd_eq_zero_iff
        have hE : a ≠ 0 → dz_W (Int.tdiv (x : Int) (a : Int)) = (o_sh (x : Int) (y : Int)).1 ∧ dz_W (Int.tdiv (y : Int) (a : Int)) = (o_sh (x : Int) (y : Int)).2 := fun ha => by
          rw [sh_q (by omega), sh_q (by omega)]
          unfold o_sh
          by_cases hx0 : x = 0
          · rw [if_pos (by omega)]
            have hay : a = y := by rw [hg, hx0, Nat.gcd_zero_left]
            rw [hx0, hay]
            refine ⟨by simp, ?_⟩
            exact Int.ediv_self (by omega)
          · rw [if_neg (by omega)]
            rw [Int.toNat_natCast, Int.toNat_natCast, ← hg]
            exact ⟨rfl, rfl⟩
        refine xr_aloadn hc rfl rfl ?_
        refine xr_lload hc rfl rfl ?_
        refine xr_lconst hc rfl ?_
        refine xr_lcmp hc rfl ?_
        refine xr_if_ne hc rfl (t := 43) rfl (fun b36 => ?_) (fun b36 => ?_)
        · have ha1 : a ≠ 0 := by
            have z := b36
            simp only [show ((0 : Fin 2).val : Int) = 0 from rfl] at z
            have z2 := hla.2.2
            omega
          have hE := hE ha1
          have hy0 : (a : Int) ≠ 0 := by omega
          refine xr_lloadn hc rfl rfl ?_
          refine xr_lload hc rfl rfl ?_
          refine xr_ldiv hc rfl (by first | omega | (unfold dz_w; omega)) ?_
          refine xr_putfl hc rfl rfl (by first | assumption | rfl) ?_
          refine xr_aloadn hc rfl rfl ?_
          refine xr_lload hc rfl rfl ?_
          refine xr_lconst hc rfl ?_
          refine xr_lcmp hc rfl ?_
          refine xr_if_ne hc rfl (t := 62) rfl (fun b55 => ?_) (fun b55 => ?_)
          · have ha1b : a ≠ 0 := by
              have z := b55
              simp only [show ((0 : Fin 2).val : Int) = 0 from rfl] at z
              have z2 := hla.2.2
              omega
            have hy0 : (a : Int) ≠ 0 := by omega
            refine xr_lloadn hc rfl rfl ?_
            refine xr_lload hc rfl rfl ?_
            refine xr_ldiv hc rfl (by first | omega | (unfold dz_w; omega)) ?_
            refine xr_putfl hc rfl rfl (by first | assumption | rfl) ?_
            refine xr_return hc rfl rfl (Nat.zero_le _) (Nat.zero_le _) ?_
            first
              | (exfalso; omega)
              | (skip
                 refine hQ _ (fun q2 k2 u => ?_) ?_ ?_
                 · by_cases e : q2 = 115
                   · subst e
                     rw [dz_up_k (by omega), dz_up_k (by omega)]
                   · rw [dz_up_ne e, dz_up_ne e]
                 · rw [dz_up_k (by omega), dz_up_eq]
                   first
                     | exact hE.1
                     | (rw [show x = 0 by omega, show y = 0 by omega]; rfl)
                 · rw [dz_up_eq]
                   first
                     | exact hE.2
                     | (rw [show x = 0 by omega, show y = 0 by omega]; rfl))
          · have ha0b : a = 0 := by
              have z := b55
              simp only [show ((0 : Fin 2).val : Int) = 0 from rfl] at z
              have z2 := hla.2.2
              omega
            refine xr_lconst hc rfl ?_
            refine xr_goto hc rfl (t := 66) rfl ?_
            refine xr_putfl hc rfl rfl (by first | assumption | rfl) ?_
            refine xr_return hc rfl rfl (Nat.zero_le _) (Nat.zero_le _) ?_
            first
              | (exfalso; omega)
              | (skip
                 refine hQ _ (fun q2 k2 u => ?_) ?_ ?_
                 · by_cases e : q2 = 115
                   · subst e
                     rw [dz_up_k (by omega), dz_up_k (by omega)]
                   · rw [dz_up_ne e, dz_up_ne e]
                 · rw [dz_up_k (by omega), dz_up_eq]
                   first
                     | exact hE.1
                     | (rw [show x = 0 by omega, show y = 0 by omega]; rfl)
                 · rw [dz_up_eq]
                   first
                     | exact hE.2
                     | (rw [show x = 0 by omega, show y = 0 by omega]; rfl))
        · have ha0 : a = 0 := by
            have z := b36
            simp only [show ((0 : Fin 2).val : Int) = 0 from rfl] at z
            have z2 := hla.2.2
            omega
          refine xr_lconst hc rfl ?_
          refine xr_goto hc rfl (t := 47) rfl ?_
          refine xr_putfl hc rfl rfl (by first | assumption | rfl) ?_
          refine xr_aloadn hc rfl rfl ?_
          refine xr_lload hc rfl rfl ?_
          refine xr_lconst hc rfl ?_
          refine xr_lcmp hc rfl ?_
          refine xr_if_ne hc rfl (t := 62) rfl (fun b55 => ?_) (fun b55 => ?_)
          · have ha1b : a ≠ 0 := by
              have z := b55
              simp only [show ((0 : Fin 2).val : Int) = 0 from rfl] at z
              have z2 := hla.2.2
              omega
            have hy0 : (a : Int) ≠ 0 := by omega
            refine xr_lloadn hc rfl rfl ?_
            refine xr_lload hc rfl rfl ?_
            refine xr_ldiv hc rfl (by first | omega | (unfold dz_w; omega)) ?_
            refine xr_putfl hc rfl rfl (by first | assumption | rfl) ?_
            refine xr_return hc rfl rfl (Nat.zero_le _) (Nat.zero_le _) ?_
            first
              | (exfalso; omega)
              | (skip
                 refine hQ _ (fun q2 k2 u => ?_) ?_ ?_
                 · by_cases e : q2 = 115
                   · subst e
                     rw [dz_up_k (by omega), dz_up_k (by omega)]
                   · rw [dz_up_ne e, dz_up_ne e]
                 · rw [dz_up_k (by omega), dz_up_eq]
                   first
                     | exact hE.1
                     | (rw [show x = 0 by omega, show y = 0 by omega]; rfl)
                 · rw [dz_up_eq]
                   first
                     | exact hE.2
                     | (rw [show x = 0 by omega, show y = 0 by omega]; rfl))
          · have ha0b : a = 0 := by
              have z := b55
              simp only [show ((0 : Fin 2).val : Int) = 0 from rfl] at z
              have z2 := hla.2.2
              omega
            refine xr_lconst hc rfl ?_
            refine xr_goto hc rfl (t := 66) rfl ?_
            refine xr_putfl hc rfl rfl (by first | assumption | rfl) ?_
            refine xr_return hc rfl rfl (Nat.zero_le _) (Nat.zero_le _) ?_
            first
              | (exfalso; omega)
              | (skip
                 refine hQ _ (fun q2 k2 u => ?_) ?_ ?_
                 · by_cases e : q2 = 115
                   · subst e
                     rw [dz_up_k (by omega), dz_up_k (by omega)]
                   · rw [dz_up_ne e, dz_up_ne e]
                 · rw [dz_up_k (by omega), dz_up_eq]
                   first
                     | exact hE.1
                     | (rw [show x = 0 by omega, show y = 0 by omega]; rfl)
                 · rw [dz_up_eq]
                   first
                     | exact hE.2
                     | (rw [show x = 0 by omega, show y = 0 by omega]; rfl))
      · exfalso
        have z := b10
        simp only [show ((0 : Fin 2).val : Int) = 0 from rfl] at z
        have z2 := hlc.2.2
        omega
    | succ m_ ih =>
      intro a b e1 e2 hI hG
      have hlc := lcmp_0 (b : Int) 0
      refine xr_lload hc rfl rfl ?_
      refine xr_lconst hc rfl ?_
      refine xr_lcmp hc rfl ?_
      refine xr_if_eq hc rfl (t := 31) rfl (fun b10 => ?_) (fun b10 => ?_)
      · have hb : b = 0 := by
          have z := b10
          simp only [show ((0 : Fin 2).val : Int) = 0 from rfl] at z
          have z2 := hlc.2.2
          omega
        have hg : a = Nat.gcd x y := by rw [← hG, hb, Nat.gcd_zero_right]
        have hla := lcmp_0 (a : Int) 0
        have hg0 : a = 0 ↔ (x = 0 ∧ y = 0) := by rw [hg]; exact Nat.gcd_eq_zero_iff
        have hE : a ≠ 0 → dz_W (Int.tdiv (x : Int) (a : Int)) = (o_sh (x : Int) (y : Int)).1 ∧ dz_W (Int.tdiv (y : Int) (a : Int)) = (o_sh (x : Int) (y : Int)).2 := fun ha => by
          rw [sh_q (by omega), sh_q (by omega)]
          unfold o_sh
          by_cases hx0 : x = 0
          · rw [if_pos (by omega)]
            have hay : a = y := by rw [hg, hx0, Nat.gcd_zero_left]
            rw [hx0, hay]
            refine ⟨by simp, ?_⟩
            exact Int.ediv_self (by omega)
          · rw [if_neg (by omega)]
            rw [Int.toNat_natCast, Int.toNat_natCast, ← hg]
            exact ⟨rfl, rfl⟩
        refine xr_aloadn hc rfl rfl ?_
        refine xr_lload hc rfl rfl ?_
        refine xr_lconst hc rfl ?_
        refine xr_lcmp hc rfl ?_
        refine xr_if_ne hc rfl (t := 43) rfl (fun b36 => ?_) (fun b36 => ?_)
        · have ha1 : a ≠ 0 := by
            have z := b36
            simp only [show ((0 : Fin 2).val : Int) = 0 from rfl] at z
            have z2 := hla.2.2
            omega
          have hE := hE ha1
          have hy0 : (a : Int) ≠ 0 := by omega
          refine xr_lloadn hc rfl rfl ?_
          refine xr_lload hc rfl rfl ?_
          refine xr_ldiv hc rfl (by first | omega | (unfold dz_w; omega)) ?_
          refine xr_putfl hc rfl rfl (by first | assumption | rfl) ?_
          refine xr_aloadn hc rfl rfl ?_
          refine xr_lload hc rfl rfl ?_
          refine xr_lconst hc rfl ?_
          refine xr_lcmp hc rfl ?_
          refine xr_if_ne hc rfl (t := 62) rfl (fun b55 => ?_) (fun b55 => ?_)
          · have ha1b : a ≠ 0 := by
              have z := b55
              simp only [show ((0 : Fin 2).val : Int) = 0 from rfl] at z
              have z2 := hla.2.2
              omega
            have hy0 : (a : Int) ≠ 0 := by omega
            refine xr_lloadn hc rfl rfl ?_
            refine xr_lload hc rfl rfl ?_
            refine xr_ldiv hc rfl (by first | omega | (unfold dz_w; omega)) ?_
            refine xr_putfl hc rfl rfl (by first | assumption | rfl) ?_
            refine xr_return hc rfl rfl (Nat.zero_le _) (Nat.zero_le _) ?_
            first
              | (exfalso; omega)
              | (skip
                 refine hQ _ (fun q2 k2 u => ?_) ?_ ?_
                 · by_cases e : q2 = 115
                   · subst e
                     rw [dz_up_k (by omega), dz_up_k (by omega)]
                   · rw [dz_up_ne e, dz_up_ne e]
                 · rw [dz_up_k (by omega), dz_up_eq]
                   first
                     | exact hE.1
                     | (rw [show x = 0 by omega, show y = 0 by omega]; rfl)
                 · rw [dz_up_eq]
                   first
                     | exact hE.2
                     | (rw [show x = 0 by omega, show y = 0 by omega]; rfl))
          · have ha0b : a = 0 := by
              have z := b55
              simp only [show ((0 : Fin 2).val : Int) = 0 from rfl] at z
              have z2 := hla.2.2
              omega
            refine xr_lconst hc rfl ?_
            refine xr_goto hc rfl (t := 66) rfl ?_
            refine xr_putfl hc rfl rfl (by first | assumption | rfl) ?_
            refine xr_return hc rfl rfl (Nat.zero_le _) (Nat.zero_le _) ?_
            first
              | (exfalso; omega)
              | (skip
                 refine hQ _ (fun q2 k2 u => ?_) ?_ ?_
                 · by_cases e : q2 = 115
                   · subst e
                     rw [dz_up_k (by omega), dz_up_k (by omega)]
                   · rw [dz_up_ne e, dz_up_ne e]
                 · rw [dz_up_k (by omega), dz_up_eq]
                   first
                     | exact hE.1
                     | (rw [show x = 0 by omega, show y = 0 by omega]; rfl)
                 · rw [dz_up_eq]
                   first
                     | exact hE.2
                     | (rw [show x = 0 by omega, show y = 0 by omega]; rfl))
        · have ha0 : a = 0 := by
            have z := b36
            simp only [show ((0 : Fin 2).val : Int) = 0 from rfl] at z
            have z2 := hla.2.2
            omega
          refine xr_lconst hc rfl ?_
          refine xr_goto hc rfl (t := 47) rfl ?_
          refine xr_putfl hc rfl rfl (by first | assumption | rfl) ?_
          refine xr_aloadn hc rfl rfl ?_
          refine xr_lload hc rfl rfl ?_
          refine xr_lconst hc rfl ?_
          refine xr_lcmp hc rfl ?_
          refine xr_if_ne hc rfl (t := 62) rfl (fun b55 => ?_) (fun b55 => ?_)
          · have ha1b : a ≠ 0 := by
              have z := b55
              simp only [show ((0 : Fin 2).val : Int) = 0 from rfl] at z
              have z2 := hla.2.2
              omega
            have hy0 : (a : Int) ≠ 0 := by omega
            refine xr_lloadn hc rfl rfl ?_
            refine xr_lload hc rfl rfl ?_
            refine xr_ldiv hc rfl (by first | omega | (unfold dz_w; omega)) ?_
            refine xr_putfl hc rfl rfl (by first | assumption | rfl) ?_
            refine xr_return hc rfl rfl (Nat.zero_le _) (Nat.zero_le _) ?_
            first
              | (exfalso; omega)
              | (skip
                 refine hQ _ (fun q2 k2 u => ?_) ?_ ?_
                 · by_cases e : q2 = 115
                   · subst e
                     rw [dz_up_k (by omega), dz_up_k (by omega)]
                   · rw [dz_up_ne e, dz_up_ne e]
                 · rw [dz_up_k (by omega), dz_up_eq]
                   first
                     | exact hE.1
                     | (rw [show x = 0 by omega, show y = 0 by omega]; rfl)
                 · rw [dz_up_eq]
                   first
                     | exact hE.2
                     | (rw [show x = 0 by omega, show y = 0 by omega]; rfl))
          · have ha0b : a = 0 := by
              have z := b55
              simp only [show ((0 : Fin 2).val : Int) = 0 from rfl] at z
              have z2 := hla.2.2
              omega
            refine xr_lconst hc rfl ?_
            refine xr_goto hc rfl (t := 66) rfl ?_
            refine xr_putfl hc rfl rfl (by first | assumption | rfl) ?_
            refine xr_return hc rfl rfl (Nat.zero_le _) (Nat.zero_le _) ?_
            first
              | (exfalso; omega)
              | (skip
                 refine hQ _ (fun q2 k2 u => ?_) ?_ ?_
                 · by_cases e : q2 = 115
                   · subst e
                     rw [dz_up_k (by omega), dz_up_k (by omega)]
                   · rw [dz_up_ne e, dz_up_ne e]
                 · rw [dz_up_k (by omega), dz_up_eq]
                   first
                     | exact hE.1
                     | (rw [show x = 0 by omega, show y = 0 by omega]; rfl)
                 · rw [dz_up_eq]
                   first
                     | exact hE.2
                     | (rw [show x = 0 by omega, show y = 0 by omega]; rfl))
      · have hbn : (b : Int) ≠ 0 := by
          have z := b10
          simp only [show ((0 : Fin 2).val : Int) = 0 from rfl] at z
          have z2 := hlc.2.2
          omega
        refine xr_lload hc rfl rfl ?_
        refine xr_lload hc rfl rfl ?_
        refine xr_lrem hc rfl (by first | omega | (unfold dz_w; omega)) ?_
        rw [← Int.ofNat_tmod]
        refine xr_lstore9 hc rfl rfl ?_
        refine xr_lload hc rfl rfl ?_
        refine xr_lstore5 hc rfl rfl ?_
        refine xr_lload hc rfl rfl ?_
        refine xr_lstore7 hc rfl rfl ?_
        refine xr_goto hc rfl (t := 6) rfl ?_
        exact ih b (a % b) _ _ (eI_s (by omega) hI) (by rw [gcd_st]; exact hG)
  refine xr_lloadn hc rfl rfl ?_
  refine xr_lstore5 hc rfl rfl ?_
  refine xr_lloadn hc rfl rfl ?_
  refine xr_lstore7 hc rfl rfl ?_
  exact lp 200 x y none none ⟨24, Or.inl ⟨by omega, by omega⟩⟩ rfl
set_option maxRecDepth 100000 in
theorem D_takes {xo : Nat → List Int} {d : Nat} {Q : dz_Q} {sh : List (Nat ⊕ (Nat × Nat))} {rf : Nat → Nat → Nat} {M : Nat → Nat → Int} {rs : Nat → Int} {it : Nat → Nat → Int} {ts : Nat → Int} {ch : Nat → Nat → Int} {tl up lo : Int} {fn : Nat → Int} {w pl : Int} {kd wt nx : Nat → Int} {n : Nat} {hs : Nat → Nat → Int} {kp : Nat → Int} {kh : Nat → Nat → Nat → Int} {m : Int} (hl : ml sh rf) (hR : RM M rs it ts ch tl up lo fn w pl kd wt nx n hs kp kh) (hW : WF rs it ts ch tl up lo fn w pl kd wt nx n hs kp kh) (hQ : ∀ M2 : Nat → Nat → Int, (∀ q2 k2, q2 < 115 → M2 q2 k2 = M q2 k2) → RM M2 rs it ts ch (o_takes tl w pl kd wt nx (hs n) m).2 up lo fn w pl kd wt nx n hs kp kh → Q (some (dz_i ((o_takes tl w pl kd wt nx (hs n) m).1))) (sh, rf, M2)) : dz_E dz_pp xo (d + 5) 172 [dz_r 115, dz_i m] (sh, rf, M) Q := by
  refine ⟨Nat.le_of_ble_eq_true rfl, ?_⟩
  have hc := dz_E_m dz_pp xo (d + 4)
  show dz_X (dz_E dz_pp xo (d + 4)) dz_pp xo (dz_pp 172) Q 0 [some (dz_r 115), some (dz_i m), none, none] [] 0 0 (sh, rf, M)
  obtain ⟨c0, c1, c2, c3, c4, c5, c6, c7, c8, c9, c10, c11, c12, c13, c14, c15, c16, c17, c18, c19, c20, c21, c22, c23, c24, c25, c26, c27, c28, c29⟩ := id hl
  obtain ⟨hrow, htxt, htl, hup, hlo, hfn, hdr, hkp⟩ := id hR
  obtain ⟨wrow, wtxt, wdr, wst, wkp⟩ := id hW
  have hw6 := WF_w hW
  have hdr3 : drM M w pl kd wt nx n hs ∧ w ≤ 6 ∧ n ≤ 40 := ⟨hdr, hw6.2, wst.1⟩
  have hkp3 : kepM M w kp kh ∧ w ≤ 6 ∧ ∀ k, k < 3 → kp k ≤ 40 := ⟨hkp, hw6.2, fun k hk => by
    rcases wkp k hk with z | z
    · omega
    · exact z.2.1⟩
  obtain ⟨a1, a2, a3, b1, b2, b3⟩ := id hdr
  have hpg : pgM M w pl kd wt nx := ⟨a1, a2, a3⟩
  have b2c : ∀ c, okc w c → M 116 c = hs n c := fun c hc => by
    have h3 := b2 c hc
    rw [Nat.zero_add] at h3
    exact h3
  refine xr_aloadn hc rfl rfl ?_
  refine xr_iloadn hc rfl rfl ?_
  refine xr_bipush hc rfl ?_
  refine xr_callv2 hc rfl (by first | assumption | rfl) rfl rfl rfl (Nat.le_of_ble_eq_true rfl) (Nat.zero_le _) (Nat.zero_le _) ?_
  refine D_noSteps hl hR hW (fun u1 => ?_) (fun u1 v1 hw0 => ?_) (fun u1 v1 hw0 => ?_)
  · refine xk_1 ?_
    refine xr_istore2 hc rfl rfl ?_
    refine xr_iloadn hc rfl rfl ?_
    refine xr_iff hc rfl (by simp [dz_cmp]) ?_
    refine xr_iloadn hc rfl rfl ?_
    refine xr_ireturn hc rfl rfl (Nat.zero_le _) (Nat.zero_le _) ?_
    simp only [o_takes] at hQ
    repeat (first | rw [if_pos (by omega)] at hQ | rw [if_neg (by omega)] at hQ)
    try dsimp only at hQ
    exact hQ M (fun _ _ _ => rfl) hR
  · refine xk_1 ?_
    refine xr_istore2 hc rfl rfl ?_
    refine xr_iloadn hc rfl rfl ?_
    refine xr_iff hc rfl (by simp [dz_cmp]) ?_
    refine xr_iloadn hc rfl rfl ?_
    refine xr_ireturn hc rfl rfl (Nat.zero_le _) (Nat.zero_le _) ?_
    simp only [o_takes] at hQ
    repeat (first | rw [if_pos (by omega)] at hQ | rw [if_neg (by omega)] at hQ)
    try dsimp only at hQ
    exact hQ M (fun _ _ _ => rfl) hR
  · refine xk_1 ?_
    refine xr_istore2 hc rfl rfl ?_
    refine xr_iloadn hc rfl rfl ?_
    refine xr_ift hc rfl (t := 14) rfl (by simp [dz_cmp]) ?_
    refine xr_aloadn hc rfl rfl ?_
    refine xr_callv0 hc rfl (by first | assumption | rfl) rfl rfl rfl (Nat.le_of_ble_eq_true rfl) (Nat.zero_le _) (Nat.zero_le _) ?_
    have hp := WF_p hW (by omega)
    have hst := wst.2 n (Nat.le_refl n)
    obtain ⟨p1, p2, p3, p4, p5⟩ := id hp
    obtain ⟨st0, st1, st2, st3, st4, st5, st6, st7, st8⟩ := id hst
    refine D_layTried hl hR hW (fun M1 z1 z2 z3 z4 z5 => ?_)
    refine xk_0 ?_
    refine xr_aloadn hc rfl rfl ?_
    refine xr_iloadn hc rfl rfl ?_
    refine xr_callv1 hc rfl (by first | assumption | rfl) rfl rfl rfl (Nat.le_of_ble_eq_true rfl) (Nat.zero_le _) (Nat.zero_le _) ?_
    refine D_beatsTried (w := w) (pl := pl) (B := 29 * n) (kd := kd) (wt := wt) (nx := nx) (s := hs n) hl (tfr_pg z1 hpg) hp hst (by omega) z2 z5 (by omega) (fun M2 y1 y2 y3 y4 => ?_)
    have tf := tfr_trans z1 y1
    have hR2 := RM_scr hR hW (tfr_scr tf)
    have v2 : M2 116 3614 = t_run pl kd wt nx m.toNat (hs n) 2 := y2 2 (by unfold okc; omega)
    have ea : t_run pl kd wt nx m.toNat (hs n) 1 - hs n 1 = t_at pl kd wt nx (fun k => hs n (5 + k)) m.toNat (hs n) := t_at_run hp hst (by omega) (t_eq_refl w (hs n)) rfl (fun i hi => rfl)
    rw [ea]
    refine xk_1 ?_
    refine xr_istore3 hc rfl rfl ?_
    refine xr_aloadn hc rfl rfl ?_
    refine xr_aloadn hc rfl rfl ?_
    refine xr_getfr hc rfl rfl (by first | assumption | rfl) (by first | assumption | rfl) ?_
    refine xr_sipush hc rfl ?_
    first | refine xr_iaload hc rfl (by first | assumption | rfl) (by first | omega | (unfold dz_w; omega)) (by first | omega | (unfold dz_w; omega)) ?_ | refine xr_ialoado hc rfl (by first | omega | (unfold dz_w; omega)) (by first | omega | (unfold dz_w; omega)) ?_
    rw [show M2 116 (Int.toNat 3614) = _ from v2]
    refine xr_putfi hc rfl rfl (by first | assumption | rfl) ?_
    refine xr_iloadn hc rfl rfl ?_
    refine xr_ireturn hc rfl rfl (Nat.zero_le _) (Nat.zero_le _) ?_
    simp only [o_takes] at hQ
    repeat (first | rw [if_pos (by omega)] at hQ | rw [if_neg (by omega)] at hQ)
    try dsimp only at hQ
    obtain ⟨hrow, htxt, htl, hup, hlo, hfn, hdr, hkp⟩ := id hR2
    have hdr3 : drM _ w pl kd wt nx n hs ∧ w ≤ 6 ∧ n ≤ 40 := ⟨hdr, hw6.2, wst.1⟩
    have hkp3 := And.intro hkp hkp3.2
    refine hQ _ (fun q2 k2 u => by rw [dz_up_ne (by omega), tfr_x tf _ _ u]) ⟨rowM_fr hrow (fun k2 => by first | rw [dz_up_ne (by omega)] | rw [dz_up_k (by omega)]) (fun k2 => by first | rw [dz_up_ne (by omega)] | rw [dz_up_k (by omega)]), txtM_fr htxt (fun k2 => by first | rw [dz_up_ne (by omega)] | rw [dz_up_k (by omega)]) (fun k2 => by first | rw [dz_up_ne (by omega)] | rw [dz_up_k (by omega)]), by rw [dz_up_eq], Eq.trans (by first | rw [dz_up_ne (by omega)] | rw [dz_up_k (by omega)]) hup, Eq.trans (by first | rw [dz_up_ne (by omega)] | rw [dz_up_k (by omega)]) hlo, fndM_fr hfn (by first | rw [dz_up_ne (by omega)] | rw [dz_up_k (by omega)]) (fun k2 => by first | rw [dz_up_ne (by omega)] | rw [dz_up_k (by omega)]), drM_fr hdr3 (by first | rw [dz_up_ne (by omega)] | rw [dz_up_k (by omega)]) (by first | rw [dz_up_ne (by omega)] | rw [dz_up_k (by omega)]) (fun k2 => by first | rw [dz_up_ne (by omega)] | rw [dz_up_k (by omega)]) (fun k2 => by first | rw [dz_up_ne (by omega)] | rw [dz_up_k (by omega)]) (fun k2 => by first | rw [dz_up_ne (by omega)] | rw [dz_up_k (by omega)]) (fun k2 u1 => by first | rw [dz_up_ne (by omega)] | rw [dz_up_k (by omega)]), kepM_fr hkp3 (fun k2 u1 u2 => by first | rw [dz_up_ne (by omega)] | rw [dz_up_k (by omega)])⟩
set_option maxRecDepth 100000 in
theorem D_idle {xo : Nat → List Int} {d : Nat} {Q : dz_Q} {sh : List (Nat ⊕ (Nat × Nat))} {rf : Nat → Nat → Nat} {M : Nat → Nat → Int} {rs : Nat → Int} {it : Nat → Nat → Int} {ts : Nat → Int} {ch : Nat → Nat → Int} {tl up lo : Int} {fn : Nat → Int} {w pl : Int} {kd wt nx : Nat → Int} {n : Nat} {hs : Nat → Nat → Int} {kp : Nat → Int} {kh : Nat → Nat → Nat → Int} {m : Int} (hl : ml sh rf) (hR : RM M rs it ts ch tl up lo fn w pl kd wt nx n hs kp kh) (hW : WF rs it ts ch tl up lo fn w pl kd wt nx n hs kp kh) (hQ : ∀ M2 : Nat → Nat → Int, (∀ q2 k2, q2 < 115 → M2 q2 k2 = M q2 k2) → RM M2 rs it ts ch tl (o_idle up lo w pl kd wt nx (hs n) m).2.1 (o_idle up lo w pl kd wt nx (hs n) m).2.2 fn w pl kd wt nx n hs kp kh → Q (some (dz_i ((o_idle up lo w pl kd wt nx (hs n) m).1))) (sh, rf, M2)) : dz_E dz_pp xo (d + 5) 174 [dz_r 115, dz_i m] (sh, rf, M) Q := by
  refine ⟨Nat.le_of_ble_eq_true rfl, ?_⟩
  have hc := dz_E_m dz_pp xo (d + 4)
  show dz_X (dz_E dz_pp xo (d + 4)) dz_pp xo (dz_pp 174) Q 0 [some (dz_r 115), some (dz_i m), none, none] [] 0 0 (sh, rf, M)
  obtain ⟨c0, c1, c2, c3, c4, c5, c6, c7, c8, c9, c10, c11, c12, c13, c14, c15, c16, c17, c18, c19, c20, c21, c22, c23, c24, c25, c26, c27, c28, c29⟩ := id hl
  obtain ⟨hrow, htxt, htl, hup, hlo, hfn, hdr, hkp⟩ := id hR
  obtain ⟨wrow, wtxt, wdr, wst, wkp⟩ := id hW
  have hw6 := WF_w hW
  have hdr3 : drM M w pl kd wt nx n hs ∧ w ≤ 6 ∧ n ≤ 40 := ⟨hdr, hw6.2, wst.1⟩
  have hkp3 : kepM M w kp kh ∧ w ≤ 6 ∧ ∀ k, k < 3 → kp k ≤ 40 := ⟨hkp, hw6.2, fun k hk => by
    rcases wkp k hk with z | z
    · omega
    · exact z.2.1⟩
  obtain ⟨a1, a2, a3, b1, b2, b3⟩ := id hdr
  have hpg : pgM M w pl kd wt nx := ⟨a1, a2, a3⟩
  have b2c : ∀ c, okc w c → M 116 c = hs n c := fun c hc => by
    have h3 := b2 c hc
    rw [Nat.zero_add] at h3
    exact h3
  refine xr_aloadn hc rfl rfl ?_
  refine xr_iloadn hc rfl rfl ?_
  refine xr_bipush hc rfl ?_
  refine xr_callv2 hc rfl (by first | assumption | rfl) rfl rfl rfl (Nat.le_of_ble_eq_true rfl) (Nat.zero_le _) (Nat.zero_le _) ?_
  refine D_noSteps hl hR hW (fun u1 => ?_) (fun u1 v1 hw0 => ?_) (fun u1 v1 hw0 => ?_)
  · refine xk_1 ?_
    refine xr_istore2 hc rfl rfl ?_
    refine xr_iloadn hc rfl rfl ?_
    refine xr_iff hc rfl (by simp [dz_cmp]) ?_
    refine xr_iloadn hc rfl rfl ?_
    refine xr_ireturn hc rfl rfl (Nat.zero_le _) (Nat.zero_le _) ?_
    simp only [o_idle] at hQ
    repeat (first | rw [if_pos (by omega)] at hQ | rw [if_neg (by omega)] at hQ)
    try dsimp only at hQ
    exact hQ M (fun _ _ _ => rfl) hR
  · refine xk_1 ?_
    refine xr_istore2 hc rfl rfl ?_
    refine xr_iloadn hc rfl rfl ?_
    refine xr_iff hc rfl (by simp [dz_cmp]) ?_
    refine xr_iloadn hc rfl rfl ?_
    refine xr_ireturn hc rfl rfl (Nat.zero_le _) (Nat.zero_le _) ?_
    simp only [o_idle] at hQ
    repeat (first | rw [if_pos (by omega)] at hQ | rw [if_neg (by omega)] at hQ)
    try dsimp only at hQ
    exact hQ M (fun _ _ _ => rfl) hR
  · refine xk_1 ?_
    refine xr_istore2 hc rfl rfl ?_
    refine xr_iloadn hc rfl rfl ?_
    refine xr_ift hc rfl (t := 14) rfl (by simp [dz_cmp]) ?_
    refine xr_aloadn hc rfl rfl ?_
    refine xr_callv0 hc rfl (by first | assumption | rfl) rfl rfl rfl (Nat.le_of_ble_eq_true rfl) (Nat.zero_le _) (Nat.zero_le _) ?_
    have hp := WF_p hW (by omega)
    have hst := wst.2 n (Nat.le_refl n)
    obtain ⟨p1, p2, p3, p4, p5⟩ := id hp
    obtain ⟨st0, st1, st2, st3, st4, st5, st6, st7, st8⟩ := id hst
    refine D_layTried hl hR hW (fun M1 z1 z2 z3 z4 z5 => ?_)
    refine xk_0 ?_
    refine xr_aloadn hc rfl rfl ?_
    refine xr_iloadn hc rfl rfl ?_
    refine xr_callv1 hc rfl (by first | assumption | rfl) rfl rfl rfl (Nat.le_of_ble_eq_true rfl) (Nat.zero_le _) (Nat.zero_le _) ?_
    refine D_beatsTried (w := w) (pl := pl) (B := 29 * n) (kd := kd) (wt := wt) (nx := nx) (s := hs n) hl (tfr_pg z1 hpg) hp hst (by omega) z2 z5 (by omega) (fun M2 y1 y2 y3 y4 => ?_)
    have tf := tfr_trans z1 y1
    have hR2 := RM_scr hR hW (tfr_scr tf)
    obtain ⟨c1, -⟩ := y4 ⟨z3, z4⟩
    have ea : t_run pl kd wt nx m.toNat (hs n) 1 - hs n 1 = t_at pl kd wt nx (fun k => hs n (5 + k)) m.toNat (hs n) := t_at_run hp hst (by omega) (t_eq_refl w (hs n)) rfl (fun i hi => rfl)
    rw [ea]
    refine xk_1 ?_
    refine xr_istore3 hc rfl rfl ?_
    refine xr_aloadn hc rfl rfl ?_
    refine xr_aloadn hc rfl rfl ?_
    refine xr_getfi hc rfl (Or.inl rfl) (by first | assumption | rfl) ?_
    rw [c1]
    refine xr_i2l hc rfl ?_
    refine xr_iloadn hc rfl rfl ?_
    refine xr_i2l hc rfl ?_
    refine xr_callv2 hc rfl (by first | assumption | rfl) rfl rfl rfl (Nat.le_of_ble_eq_true rfl) (Nat.zero_le _) (Nat.zero_le _) ?_
    have eb := t_b_eq pl (fun k => hs n (5 + k)) (t_l pl kd wt nx m.toNat (hs n)) (hs n 1)
    have hl1 := t_l_in hp m.toNat _ _ hst (by omega)
    have hk1 := t_k_in _ (fun x hx => (hl1.1 x hx).2)
    have hw1 := t_w_in (sp := (fun k => hs n (5 + k))) ⟨p3, p4⟩ (t_l pl kd wt nx m.toNat (hs n)) (hs n 1)
    have ha1 : t_at pl kd wt nx (fun k => hs n (5 + k)) m.toNat (hs n) = t_b pl (fun k => hs n (5 + k)) (t_l pl kd wt nx m.toNat (hs n)) (hs n 1) - hs n 1 := rfl
    have ex : t_w pl (fun k => hs n (5 + k)) (t_l pl kd wt nx m.toNat (hs n)) (hs n 1) = ((t_w pl (fun k => hs n (5 + k)) (t_l pl kd wt nx m.toNat (hs n)) (hs n 1)).toNat : Int) := by omega
    have ey : t_at pl kd wt nx (fun k => hs n (5 + k)) m.toNat (hs n) = ((t_at pl kd wt nx (fun k => hs n (5 + k)) m.toNat (hs n)).toNat : Int) := by omega
    rw [ex, ey]
    refine D_tellParts hl (by omega) (by omega) (by omega) (fun M3 g1 g2 g3 => ?_)
    rw [← ex, ← ey] at g2 g3
    refine xk_0 ?_
    refine xr_aloadn hc rfl rfl ?_
    refine xr_getfi hc rfl (Or.inl rfl) (by first | assumption | rfl) ?_
    rw [g1 _ _ (by omega), c1]
    refine xr_ireturn hc rfl rfl (Nat.zero_le _) (Nat.zero_le _) ?_
    simp only [o_idle] at hQ
    repeat (first | rw [if_pos (by omega)] at hQ | rw [if_neg (by omega)] at hQ)
    try dsimp only at hQ
    obtain ⟨hrow, htxt, htl, hup, hlo, hfn, hdr, hkp⟩ := id hR2
    have hdr3 : drM _ w pl kd wt nx n hs ∧ w ≤ 6 ∧ n ≤ 40 := ⟨hdr, hw6.2, wst.1⟩
    have hkp3 := And.intro hkp hkp3.2
    refine hQ _ (fun q2 k2 u => by rw [g1 _ _ (by omega), tfr_x tf _ _ u]) ⟨rowM_fr hrow (fun k2 => g1 _ _ (by omega)) (fun k2 => g1 _ _ (by omega)), txtM_fr htxt (fun k2 => g1 _ _ (by omega)) (fun k2 => g1 _ _ (by omega)), Eq.trans (g1 _ _ (by omega)) htl, g2, g3, fndM_fr hfn (g1 _ _ (by omega)) (fun k2 => g1 _ _ (by omega)), drM_fr hdr3 (g1 _ _ (by omega)) (g1 _ _ (by omega)) (fun k2 => g1 _ _ (by omega)) (fun k2 => g1 _ _ (by omega)) (fun k2 => g1 _ _ (by omega)) (fun k2 u1 => g1 _ _ (by omega)), kepM_fr hkp3 (fun k2 u1 u2 => g1 _ _ (by omega))⟩
set_option maxRecDepth 100000 in
theorem D_stops {xo : Nat → List Int} {d : Nat} {Q : dz_Q} {sh : List (Nat ⊕ (Nat × Nat))} {rf : Nat → Nat → Nat} {M : Nat → Nat → Int} {rs : Nat → Int} {it : Nat → Nat → Int} {ts : Nat → Int} {ch : Nat → Nat → Int} {tl up lo : Int} {fn : Nat → Int} {w pl : Int} {kd wt nx : Nat → Int} {n : Nat} {hs : Nat → Nat → Int} {kp : Nat → Int} {kh : Nat → Nat → Nat → Int} (hl : ml sh rf) (hR : RM M rs it ts ch tl up lo fn w pl kd wt nx n hs kp kh) (hW : WF rs it ts ch tl up lo fn w pl kd wt nx n hs kp kh) (hQ : ∀ M2 : Nat → Nat → Int, (∀ q2 k2, q2 < 115 → M2 q2 k2 = M q2 k2) → RM M2 rs it ts ch tl up lo fn w pl kd wt nx n hs kp kh → Q (some (dz_i ((o_stops w pl kd wt nx (hs n))))) (sh, rf, M2)) : dz_E dz_pp xo (d + 4) 175 [dz_r 115] (sh, rf, M) Q := by
  refine ⟨Nat.le_of_ble_eq_true rfl, ?_⟩
  have hc := dz_E_m dz_pp xo (d + 3)
  show dz_X (dz_E dz_pp xo (d + 3)) dz_pp xo (dz_pp 175) Q 0 [some (dz_r 115), none] [] 0 0 (sh, rf, M)
  obtain ⟨c0, c1, c2, c3, c4, c5, c6, c7, c8, c9, c10, c11, c12, c13, c14, c15, c16, c17, c18, c19, c20, c21, c22, c23, c24, c25, c26, c27, c28, c29⟩ := id hl
  obtain ⟨hrow, htxt, htl, hup, hlo, hfn, hdr, hkp⟩ := id hR
  obtain ⟨wrow, wtxt, wdr, wst, wkp⟩ := id hW
  have hw6 := WF_w hW
  have hdr3 : drM M w pl kd wt nx n hs ∧ w ≤ 6 ∧ n ≤ 40 := ⟨hdr, hw6.2, wst.1⟩
  have hkp3 : kepM M w kp kh ∧ w ≤ 6 ∧ ∀ k, k < 3 → kp k ≤ 40 := ⟨hkp, hw6.2, fun k hk => by
    rcases wkp k hk with z | z
    · omega
    · exact z.2.1⟩
  obtain ⟨a1, a2, a3, b1, b2, b3⟩ := id hdr
  have hpg : pgM M w pl kd wt nx := ⟨a1, a2, a3⟩
  have b2c : ∀ c, okc w c → M 116 c = hs n c := fun c hc => by
    have h3 := b2 c hc
    rw [Nat.zero_add] at h3
    exact h3
  refine xr_aloadn hc rfl rfl ?_
  refine xr_getfi hc rfl (Or.inl rfl) (by first | assumption | rfl) ?_
  rw [a1]
  refine xr_if_ne hc rfl (t := 10) rfl (fun b4 => ?_) (fun b4 => ?_)
  · refine xr_aloadn hc rfl rfl ?_
    refine xr_callv0 hc rfl (by first | assumption | rfl) rfl rfl rfl (Nat.le_of_ble_eq_true rfl) (Nat.zero_le _) (Nat.zero_le _) ?_
    have hw0 : w ≠ 0 := by omega
    have hp := WF_p hW (by omega)
    have hst := wst.2 n (Nat.le_refl n)
    obtain ⟨p1, p2, p3, p4, p5⟩ := id hp
    obtain ⟨st0, st1, st2, st3, st4, st5, st6, st7, st8⟩ := id hst
    have lp : ∀ (m_ : Nat) (j : Nat) (M1 : Nat → Nat → Int), j + m_ = 41 → tfr M M1 → prel M1 3612 w (t_run pl kd wt nx j (hs n)) → M1 115 23 = 0 → (∀ i, i < j → t_run pl kd wt nx i (hs n) 3 ≠ -9) → dz_X (dz_E dz_pp xo (d + 3)) dz_pp xo (dz_pp 175) Q 16 [some (dz_r 115), some (dz_i (j : Int))] [] 0 0 (sh, rf, M1) := by
      intro m_
      induction m_ with
      | zero =>
        intro j M1 hj h1 h2 h3 h4
        have e40 := h4 40 (by omega)
        refine xr_iloadn hc rfl rfl ?_
        refine xr_bipush hc rfl ?_
        refine xr_icmp_ge hc rfl (t := 50) rfl (fun b19 => ?_) (fun b19 => ?_)
        · refine xr_bipush hc rfl ?_
          refine xr_ireturn hc rfl rfl (Nat.zero_le _) (Nat.zero_le _) ?_
          simp only [o_stops] at hQ
          repeat (first | rw [if_pos (by omega)] at hQ | rw [if_neg (by omega)] at hQ)
          try dsimp only at hQ
          exact hQ M1 (tfr_x h1) (RM_scr hR hW (tfr_scr h1))
        · omega
      | succ m_ ih =>
        intro j M1 hj h1 h2 h3 h4
        have hok := t_run_ok hp j (29 * n) (hs n) hst (by omega)
        have v3 : M1 116 3615 = (t_run pl kd wt nx j (hs n)) 3 := h2 3 (by unfold okc; omega)
        refine xr_iloadn hc rfl rfl ?_
        refine xr_bipush hc rfl ?_
        refine xr_icmp_ge hc rfl (t := 50) rfl (fun b19 => ?_) (fun b19 => ?_)
        · omega
        · refine xr_aloadn hc rfl rfl ?_
          refine xr_getfr hc rfl rfl (by first | assumption | rfl) (by first | assumption | rfl) ?_
          refine xr_sipush hc rfl ?_
          first | refine xr_iaload hc rfl (by first | assumption | rfl) (by first | omega | (unfold dz_w; omega)) (by first | omega | (unfold dz_w; omega)) ?_ | refine xr_ialoado hc rfl (by first | omega | (unfold dz_w; omega)) (by first | omega | (unfold dz_w; omega)) ?_
          rw [show M1 116 (Int.toNat 3615) = _ from v3]
          refine xr_bipush hc rfl ?_
          refine xr_icmp_ne hc rfl (t := 37) rfl (fun b32 => ?_) (fun b32 => ?_)
          · refine xr_aloadn hc rfl rfl ?_
            refine xr_sipush hc rfl ?_
            refine xr_callv1 hc rfl (by first | assumption | rfl) rfl rfl rfl (Nat.le_of_ble_eq_true rfl) (Nat.zero_le _) (Nat.zero_le _) ?_
            refine D_goes (b := 3612) (w := w) (pl := pl) (B := 29 * n + 29 * j) (kd := kd) (wt := wt) (nx := nx) (s := (t_run pl kd wt nx j (hs n))) hl (by omega) (tfr_pg h1 hpg) hp hok (by omega) h2 h3 (by omega) (fun M2 g1 g2 g3 => ?_)
            have e1 := ((t_snoc (pl := pl) (kd := kd) (wt := wt) (nx := nx) j (hs n)).1 (by omega)).1
            refine xk_0 ?_
            refine xr_iincz1 hc rfl rfl (by first | exact dz_wid (by first | omega | (unfold dz_w; omega)) (by first | omega | (unfold dz_w; omega)) | rfl) ?_
            refine xr_goto hc rfl (t := 16) rfl ?_
            refine ih (j + 1) M2 (by omega) (fun q2 k2 u1 u2 => by rw [g1 _ _ (by omega) (by omega), h1 _ _ u1 u2]) (by rw [e1]; exact g2) (by rw [g1 _ _ (by omega) (by omega)]; exact h3) (fun i hi => ?_)
            by_cases e : i = j
            · rw [e]
              omega
            · exact h4 i (by omega)
          · refine xr_iloadn hc rfl rfl ?_
            refine xr_ireturn hc rfl rfl (Nat.zero_le _) (Nat.zero_le _) ?_
            have e9 : (t_run pl kd wt nx j (hs n)) 3 = -9 := by omega
            have ey := (t_stay e9 (40 - j)).1
            rw [show j + (40 - j) = 40 by omega] at ey
            have en := t_n_eq 40 j (hs n) (by omega) h4 (Or.inr e9)
            simp only [o_stops, en] at hQ
            rw [if_neg hw0, if_pos (by rw [ey]; exact e9)] at hQ
            exact hQ M1 (tfr_x h1) (RM_scr hR hW (tfr_scr h1))
    refine D_layTried hl hR hW (fun M1 z1 z2 z3 z4 z5 => ?_)
    refine xk_0 ?_
    refine xr_iconst hc rfl ?_
    refine xr_istore1 hc rfl rfl ?_
    exact lp 41 0 M1 (by omega) z1 z2 z5 (fun i hi => by omega)
  · refine xr_bipush hc rfl ?_
    refine xr_ireturn hc rfl rfl (Nat.zero_le _) (Nat.zero_le _) ?_
    simp only [o_stops] at hQ
    repeat (first | rw [if_pos (by omega)] at hQ | rw [if_neg (by omega)] at hQ)
    try dsimp only at hQ
    exact hQ M (fun _ _ _ => rfl) hR
set_option maxRecDepth 100000 in
theorem D_when {xo : Nat → List Int} {d : Nat} {Q : dz_Q} {sh : List (Nat ⊕ (Nat × Nat))} {rf : Nat → Nat → Nat} {M : Nat → Nat → Int} {rs : Nat → Int} {it : Nat → Nat → Int} {ts : Nat → Int} {ch : Nat → Nat → Int} {tl up lo : Int} {fn : Nat → Int} {w pl : Int} {kd wt nx : Nat → Int} {n : Nat} {hs : Nat → Nat → Int} {kp : Nat → Int} {kh : Nat → Nat → Nat → Int} {i v : Int} (hl : ml sh rf) (hR : RM M rs it ts ch tl up lo fn w pl kd wt nx n hs kp kh) (hW : WF rs it ts ch tl up lo fn w pl kd wt nx n hs kp kh) (hQ : ∀ M2 : Nat → Nat → Int, (∀ q2 k2, q2 < 115 → M2 q2 k2 = M q2 k2) → RM M2 rs it ts ch (o_when tl w pl kd wt nx (hs n) i v).2 up lo fn w pl kd wt nx n hs kp kh → Q (some (dz_i ((o_when tl w pl kd wt nx (hs n) i v).1))) (sh, rf, M2)) : dz_E dz_pp xo (d + 5) 176 [dz_r 115, dz_i i, dz_i v] (sh, rf, M) Q := by
  refine ⟨Nat.le_of_ble_eq_true rfl, ?_⟩
  have hc := dz_E_m dz_pp xo (d + 4)
  show dz_X (dz_E dz_pp xo (d + 4)) dz_pp xo (dz_pp 176) Q 0 [some (dz_r 115), some (dz_i i), some (dz_i v), none] [] 0 0 (sh, rf, M)
  obtain ⟨c0, c1, c2, c3, c4, c5, c6, c7, c8, c9, c10, c11, c12, c13, c14, c15, c16, c17, c18, c19, c20, c21, c22, c23, c24, c25, c26, c27, c28, c29⟩ := id hl
  obtain ⟨hrow, htxt, htl, hup, hlo, hfn, hdr, hkp⟩ := id hR
  obtain ⟨wrow, wtxt, wdr, wst, wkp⟩ := id hW
  have hw6 := WF_w hW
  have hdr3 : drM M w pl kd wt nx n hs ∧ w ≤ 6 ∧ n ≤ 40 := ⟨hdr, hw6.2, wst.1⟩
  have hkp3 : kepM M w kp kh ∧ w ≤ 6 ∧ ∀ k, k < 3 → kp k ≤ 40 := ⟨hkp, hw6.2, fun k hk => by
    rcases wkp k hk with z | z
    · omega
    · exact z.2.1⟩
  obtain ⟨a1, a2, a3, b1, b2, b3⟩ := id hdr
  have hpg : pgM M w pl kd wt nx := ⟨a1, a2, a3⟩
  have b2c : ∀ c, okc w c → M 116 c = hs n c := fun c hc => by
    have h3 := b2 c hc
    rw [Nat.zero_add] at h3
    exact h3
  refine xr_aloadn hc rfl rfl ?_
  refine xr_iloadn hc rfl rfl ?_
  refine xr_callv1 hc rfl (by first | assumption | rfl) rfl rfl rfl (Nat.le_of_ble_eq_true rfl) (Nat.zero_le _) (Nat.zero_le _) ?_
  refine D_isWord hl a1 hw6 (fun u1 v1 => ?_) (fun u1 => ?_)
  · refine xk_1 ?_
    refine xr_iff hc rfl (by simp [dz_cmp]) ?_
    refine xr_iloadn hc rfl rfl ?_
    refine xr_i2l hc rfl ?_
    refine xr_lconst hc rfl ?_
    refine xr_ldc2 hc rfl ?_
    refine xr_calls3 hc rfl (by decide) rfl rfl rfl (Nat.le_of_ble_eq_true rfl) (Nat.zero_le _) (Nat.zero_le _) ?_
    refine S_in (fun u2 v2 => ?_) (fun u2 => ?_)
    · refine xk_1 ?_
      refine xr_ift hc rfl (t := 22) rfl (by simp [dz_cmp]) ?_
      refine xr_aloadn hc rfl rfl ?_
      refine xr_callv0 hc rfl (by first | assumption | rfl) rfl rfl rfl (Nat.le_of_ble_eq_true rfl) (Nat.zero_le _) (Nat.zero_le _) ?_
      have hw0 : w ≠ 0 := by omega
      have hp := WF_p hW (by omega)
      have hst := wst.2 n (Nat.le_refl n)
      obtain ⟨p1, p2, p3, p4, p5⟩ := id hp
      obtain ⟨st0, st1, st2, st3, st4, st5, st6, st7, st8⟩ := id hst
      have lp : ∀ (m_ : Nat) (j : Nat) (M1 : Nat → Nat → Int) (c : Nat → Int), j + m_ = 41 → tfr M M1 → prel M1 3612 w c → M1 115 23 = 0 → stok w pl (29 * n + 29 * j) c → (c 4 = hs n 4 + j ∨ (c 3 = -9 ∧ c (11 + i.toNat) < v)) → (m_ = 0 → (t_whn pl kd wt nx i.toNat v 40 (hs n)) (11 + i.toNat) < v) → (m_ ≠ 0 → (t_whn pl kd wt nx i.toNat v 40 (hs n)) = t_whn pl kd wt nx i.toNat v (m_ - 1) c) → dz_X (dz_E dz_pp xo (d + 4)) dz_pp xo (dz_pp 176) Q 28 [some (dz_r 115), some (dz_i i), some (dz_i v), some (dz_i (j : Int))] [] 0 0 (sh, rf, M1) := by
        intro m_
        induction m_ with
        | zero =>
          intro j M1 c hj h1 h2 h3 h4 h5 h6 h7
          have e40 := h6 rfl
          refine xr_iloadn hc rfl rfl ?_
          refine xr_bipush hc rfl ?_
          refine xr_icmp_ge hc rfl (t := 81) rfl (fun b31 => ?_) (fun b31 => ?_)
          · refine xr_bipush hc rfl ?_
            refine xr_ireturn hc rfl rfl (Nat.zero_le _) (Nat.zero_le _) ?_
            simp only [o_when] at hQ
            rw [if_neg (by omega), if_pos e40] at hQ
            exact hQ M1 (tfr_x h1) (RM_scr hR hW (tfr_scr h1))
          · omega
        | succ m_ ih =>
          intro j M1 c hj h1 h2 h3 h4 h5 h6 h7
          have ix : ((3623 : Int) + i).toNat = 3612 + (11 + i.toNat) := by omega
          have v11 : M1 116 (3612 + (11 + i.toNat)) = c (11 + i.toNat) := h2 _ (by unfold okc; omega)
          have v1 : M1 116 3613 = c 1 := h2 1 (by unfold okc; omega)
          have n1 : M1 116 1 = hs n 1 := by rw [h1 _ _ (by omega) (by omega)]; exact b2c 1 (by unfold okc; omega)
          obtain ⟨e0, e1, e2, e3, e4, e5, e6, e7, e8⟩ := id h4
          have h7 := h7 (by omega)
          rw [show m_ + 1 - 1 = m_ by omega] at h7
          refine xr_iloadn hc rfl rfl ?_
          refine xr_bipush hc rfl ?_
          refine xr_icmp_ge hc rfl (t := 81) rfl (fun b31 => ?_) (fun b31 => ?_)
          · omega
          · refine xr_aloadn hc rfl rfl ?_
            refine xr_getfr hc rfl rfl (by first | assumption | rfl) (by first | assumption | rfl) ?_
            refine xr_sipush hc rfl ?_
            refine xr_iloadn hc rfl rfl ?_
            refine xr_iaddz hc rfl (by first | exact dz_wid (by first | omega | (unfold dz_w; omega)) (by first | omega | (unfold dz_w; omega)) | rfl) ?_
            first | refine xr_iaload hc rfl (by first | assumption | rfl) (by first | omega | (unfold dz_w; omega)) (by first | omega | (unfold dz_w; omega)) ?_ | refine xr_ialoado hc rfl (by first | omega | (unfold dz_w; omega)) (by first | omega | (unfold dz_w; omega)) ?_
            rw [ix, v11]
            refine xr_iloadn hc rfl rfl ?_
            refine xr_icmp_lt hc rfl (t := 69) rfl (fun b45 => ?_) (fun b45 => ?_)
            · refine xr_aloadn hc rfl rfl ?_
              refine xr_iconst hc rfl ?_
              refine xr_callv1 hc rfl (by first | assumption | rfl) rfl rfl rfl (Nat.le_of_ble_eq_true rfl) (Nat.zero_le _) (Nat.zero_le _) ?_
              refine D_beatsTried (w := w) (pl := pl) (B := 29 * n + 29 * j) (kd := kd) (wt := wt) (nx := nx) (s := c) hl (tfr_pg h1 hpg) hp h4 (by omega) h2 h3 (by omega) (fun M2 y1 y2 y3 y4 => ?_)
              have e1 : t_run pl kd wt nx (Int.toNat 1) c = if c 3 = -9 then c else stp pl kd wt nx c := rfl
              refine xk_1 ?_
              refine xr_pop hc rfl rfl ?_
              refine xr_iincz3 hc rfl rfl (by first | exact dz_wid (by first | omega | (unfold dz_w; omega)) (by first | omega | (unfold dz_w; omega)) | rfl) ?_
              refine xr_goto hc rfl (t := 28) rfl ?_
              by_cases h9 : c 3 = -9
              · rw [e1, if_pos h9] at y2
                have hw9 : ∀ k, t_whn pl kd wt nx i.toNat v k c = c := fun k => by
                  cases k with
                  | zero => rfl
                  | succ k =>
                    show (if v ≤ c (11 + i.toNat) ∨ c 3 = -9 then c else _) = _
                    rw [if_pos (by omega)]
                exact ih (j + 1) M2 c (by omega) (tfr_trans h1 y1) y2 y3 (stok_up h4 (by omega) (by omega)) (Or.inr ⟨h9, by omega⟩) (fun _ => by rw [h7, hw9]; omega) (fun _ => by rw [h7, hw9, hw9])
              · rw [e1, if_neg h9] at y2
                have hs4 : stp pl kd wt nx c 4 = c 4 + 1 := rfl
                have hok := stp_ok hp h4 (by omega) h9
                refine ih (j + 1) M2 _ (by omega) (tfr_trans h1 y1) y2 y3 (stok_up hok (by omega) (by omega)) (Or.inl (by omega)) (fun hm0 => ?_) (fun hm1 => ?_)
                · rw [h7, hm0]
                  show c (11 + i.toNat) < v
                  omega
                · rw [h7]
                  cases m_ with
                  | zero =>
                    exact absurd rfl hm1
                  | succ m_ =>
                    show (if v ≤ c (11 + i.toNat) ∨ c 3 = -9 then c else t_whn pl kd wt nx i.toNat v m_ (stp pl kd wt nx c)) = _
                    rw [if_neg (by omega)]
                    rfl
            · refine xr_aloadn hc rfl rfl ?_
              refine xr_aloadn hc rfl rfl ?_
              refine xr_getfr hc rfl rfl (by first | assumption | rfl) (by first | assumption | rfl) ?_
              refine xr_sipush hc rfl ?_
              first | refine xr_iaload hc rfl (by first | assumption | rfl) (by first | omega | (unfold dz_w; omega)) (by first | omega | (unfold dz_w; omega)) ?_ | refine xr_ialoado hc rfl (by first | omega | (unfold dz_w; omega)) (by first | omega | (unfold dz_w; omega)) ?_
              rw [show M1 116 (Int.toNat 3613) = _ from v1]
              refine xr_aloadn hc rfl rfl ?_
              refine xr_getfr hc rfl rfl (by first | assumption | rfl) (by first | assumption | rfl) ?_
              refine xr_iconst hc rfl ?_
              first | refine xr_iaload hc rfl (by first | assumption | rfl) (by first | omega | (unfold dz_w; omega)) (by first | omega | (unfold dz_w; omega)) ?_ | refine xr_ialoado hc rfl (by first | omega | (unfold dz_w; omega)) (by first | omega | (unfold dz_w; omega)) ?_
              rw [show M1 116 (Int.toNat 1) = _ from n1]
              refine xr_isubz hc rfl (by first | exact dz_wid (by first | omega | (unfold dz_w; omega)) (by first | omega | (unfold dz_w; omega)) | rfl) ?_
              refine xr_putfi hc rfl rfl (by first | assumption | rfl) ?_
              refine xr_iloadn hc rfl rfl ?_
              refine xr_ireturn hc rfl rfl (Nat.zero_le _) (Nat.zero_le _) ?_
              have hc : (t_whn pl kd wt nx i.toNat v 40 (hs n)) = c := by
                rw [h7]
                cases m_ with
                | zero => rfl
                | succ m_ =>
                  show (if v ≤ c (11 + i.toNat) ∨ c 3 = -9 then c else _) = _
                  rw [if_pos (by omega)]
              have hc4 : c 4 - hs n 4 = (j : Int) := by omega
              simp only [o_when, hc] at hQ
              rw [if_neg (by omega), if_neg (by omega), hc4] at hQ
              have hR2 := RM_scr hR hW (tfr_scr h1)
              obtain ⟨hrow, htxt, htl, hup, hlo, hfn, hdr, hkp⟩ := id hR2
              have hdr3 : drM _ w pl kd wt nx n hs ∧ w ≤ 6 ∧ n ≤ 40 := ⟨hdr, hw6.2, wst.1⟩
              have hkp3 := And.intro hkp hkp3.2
              refine hQ _ (fun q2 k2 u => by rw [dz_up_ne (by omega), tfr_x h1 _ _ u]) ⟨rowM_fr hrow (fun k2 => by first | rw [dz_up_ne (by omega)] | rw [dz_up_k (by omega)]) (fun k2 => by first | rw [dz_up_ne (by omega)] | rw [dz_up_k (by omega)]), txtM_fr htxt (fun k2 => by first | rw [dz_up_ne (by omega)] | rw [dz_up_k (by omega)]) (fun k2 => by first | rw [dz_up_ne (by omega)] | rw [dz_up_k (by omega)]), by rw [dz_up_eq], Eq.trans (by first | rw [dz_up_ne (by omega)] | rw [dz_up_k (by omega)]) hup, Eq.trans (by first | rw [dz_up_ne (by omega)] | rw [dz_up_k (by omega)]) hlo, fndM_fr hfn (by first | rw [dz_up_ne (by omega)] | rw [dz_up_k (by omega)]) (fun k2 => by first | rw [dz_up_ne (by omega)] | rw [dz_up_k (by omega)]), drM_fr hdr3 (by first | rw [dz_up_ne (by omega)] | rw [dz_up_k (by omega)]) (by first | rw [dz_up_ne (by omega)] | rw [dz_up_k (by omega)]) (fun k2 => by first | rw [dz_up_ne (by omega)] | rw [dz_up_k (by omega)]) (fun k2 => by first | rw [dz_up_ne (by omega)] | rw [dz_up_k (by omega)]) (fun k2 => by first | rw [dz_up_ne (by omega)] | rw [dz_up_k (by omega)]) (fun k2 u1 => by first | rw [dz_up_ne (by omega)] | rw [dz_up_k (by omega)]), kepM_fr hkp3 (fun k2 u1 u2 => by first | rw [dz_up_ne (by omega)] | rw [dz_up_k (by omega)])⟩
      refine D_layTried hl hR hW (fun M1 z1 z2 z3 z4 z5 => ?_)
      refine xk_0 ?_
      refine xr_iconst hc rfl ?_
      refine xr_istore3 hc rfl rfl ?_
      exact lp 41 0 M1 (hs n) (by omega) z1 z2 z5 (stok_up hst (by omega) (by omega)) (Or.inl (by omega)) (fun z => by omega) (fun _ => rfl)
    · refine xk_1 ?_
      refine xr_iff hc rfl (by simp [dz_cmp]) ?_
      refine xr_iconst hc rfl ?_
      refine xr_ireturn hc rfl rfl (Nat.zero_le _) (Nat.zero_le _) ?_
      simp only [o_when] at hQ
      repeat (first | rw [if_pos (by omega)] at hQ | rw [if_neg (by omega)] at hQ)
      try dsimp only at hQ
      exact hQ M (fun _ _ _ => rfl) hR
  · refine xk_1 ?_
    refine xr_ift hc rfl (t := 20) rfl (by simp [dz_cmp]) ?_
    refine xr_iconst hc rfl ?_
    refine xr_ireturn hc rfl rfl (Nat.zero_le _) (Nat.zero_le _) ?_
    simp only [o_when] at hQ
    repeat (first | rw [if_pos (by omega)] at hQ | rw [if_neg (by omega)] at hQ)
    try dsimp only at hQ
    exact hQ M (fun _ _ _ => rfl) hR
