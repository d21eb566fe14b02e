/-! The best placing: the class. Written by l2_69.py. -/
theorem un_le0 {sp : Nat → Int} (h : sp 0 ≠ -9) : ∀ k, un sp (k + 1) ≤ k
  | 0 => by
    show 0 + (if sp 0 = -9 then 1 else 0) ≤ 0
    rw [if_neg h]
    omega
  | k + 1 => by
    have ih := un_le0 h k
    show un sp (k + 1) + (if sp (k + 1) = -9 then 1 else 0) ≤ k + 1
    split <;> omega
theorem ext_c {W : Nat} {sp sp2 f : Nat → Int} (h : ∀ k, k < W → sp k = sp2 k) : ext W sp f ↔ ext W sp2 f := by
  refine ⟨fun z k hk h9 => ?_, fun z k hk h9 => ?_⟩
  · rw [← h k hk]
    exact z k hk (by rw [h k hk]; exact h9)
  · rw [h k hk]
    exact z k hk (by rw [← h k hk]; exact h9)
theorem spf0_ok {w pl B : Int} {s : Nat → Int} (hw : 2 ≤ w) (hs : stok w pl B s) : spok w pl (spf0 s) ∧ pinj w.toNat (spf0 s) ∧ 0 ≤ s 5 := by
  have z := hs.2.2.2.2.2.2.2.2 0 (by omega)
  have z0 : 0 ≤ s 5 := z.1
  refine ⟨fun k hk => ?_, fun j k hj hk h9 e => ?_, z0⟩
  · unfold spf0
    by_cases e : k = 0
    · rw [if_pos e]
      exact Or.inr ⟨z.1, z.2.1⟩
    · rw [if_neg e]
      exact Or.inl rfl
  · unfold spf0 at h9 e
    by_cases ej : j = 0
    · by_cases ek : k = 0
      · rw [ej, ek]
      · rw [if_pos ej, if_neg ek] at e
        omega
    · rw [if_neg ej] at h9
      exact absurd rfl h9
theorem rnk_in {w pl : Int} {f : Nat → Int} {l : List (Nat × Int)} {t u : Int} (hw : w ≤ 6) (hpl : 6 ≤ pl ∧ pl ≤ 9) (hv : vld w.toNat pl f) (hl : u + 9 * l.length ≤ 9999) (hu : 0 ≤ u) : 0 ≤ rnk pl w.toNat f l t u ∧ rnk pl w.toNat f l t u < 100000000000 := by
  have z := t_w_in (sp := f) hpl l t
  have z2 := key_in w.toNat (by omega) (vld_dig hpl.2 hv)
  unfold rnk
  omega
set_option maxRecDepth 100000 in
theorem S_findShortest {xo : Nat → List Int} {d : Nat} {Q : dz_Q} {sh : List (Nat ⊕ (Nat × Nat))} {rf : Nat → Nat → Nat} {M : Nat → Nat → Int} {w pl B : Int} {kd wt nx s : Nat → Int} {K : Nat} (hl : cl sh rf) (hp : pgok w pl kd wt nx) (hs : stok w pl B s) (hB : B ≤ 900000) (hT : TR M pl kd wt nx K s) (h5 : M 54 5 = w) (h6 : M 54 6 = pl) (h0 : M 55 0 = s 5) (hQ : ∀ (M2 : Nat → Nat → Int) (f : Nat → Int), (∀ q2 k2, ¬ (q2 = 54 ∧ k2 = 4) → q2 ≠ 55 → q2 ≠ 56 → q2 ≠ 57 → M2 q2 k2 = M q2 k2) → lst1 w pl (t_l pl kd wt nx K s) (spf0 s) (s 1) f → (∀ k, k < w.toNat → M2 57 k = f k) → Q none (sh, rf, M2)) : dz_E dz_pp xo (d + 10) 31 [dz_r 54] (sh, rf, M) Q := by
  refine ⟨Nat.le_of_ble_eq_true rfl, ?_⟩
  have hc := dz_E_m dz_pp xo (d + 9)
  show dz_X (dz_E dz_pp xo (d + 9)) dz_pp xo (dz_pp 31) Q 0 [some (dz_r 54)] [] 0 0 (sh, rf, M)
  obtain ⟨c0, c1, c2, c3, c4, c5, c6, c7, c8, c9, c10, c11, c12, c13, c14, c15, c16, c17, c18, c19, c20, c21, c22, c23, c24, c25, c26, c27, c28, c29, c30, c31, c32, c33, c34, c35, c36⟩ := id hl
  have k0 : sh[54]? = some (.inl 2) := c28.1
  have k1 : rf 54 1 = 55 + 1 := c28.2.1
  have k2 : sh[55]? = some (.inr (0, 6)) := c28.2.2.1
  have k3 : rf 54 2 = 56 + 1 := c28.2.2.2.1
  have k4 : sh[56]? = some (.inr (0, 6)) := c28.2.2.2.2.1
  have k5 : rf 54 3 = 57 + 1 := c28.2.2.2.2.2.1
  have k6 : sh[57]? = some (.inr (0, 6)) := c28.2.2.2.2.2.2
  have k7 : rf 54 0 = 50 + 1 := c29
  have ht := c26
  have t0 : sh[50]? = some (.inl 4) := ht.1
  have t1 : rf 50 0 = 51 + 1 := ht.2.1
  have t2 : sh[51]? = some (.inr (0, 80)) := ht.2.2.1
  have t3 : rf 50 1 = 52 + 1 := ht.2.2.2.1
  have t4 : sh[52]? = some (.inr (0, 80)) := ht.2.2.2.2.1
  have t5 : rf 50 2 = 53 + 1 := ht.2.2.2.2.2.1
  have t6 : sh[53]? = some (.inr (0, 41)) := ht.2.2.2.2.2.2
  obtain ⟨T1, T2, T3, T4, T5, T6, T7, T8⟩ := id hT
  obtain ⟨p1, p2, p3, p4, p5⟩ := id hp
  obtain ⟨s0, s1, s2, s3, s4, s5, s6, s7, s8⟩ := id hs
  have hl1 := t_l_in hp K B s hs (by omega)
  have hs0 := spf0_ok p1 hs
  refine xr_aloadn hc rfl rfl ?_
  refine xr_callv0 hc rfl (by first | assumption | rfl) rfl rfl rfl (Nat.le_of_ble_eq_true rfl) (Nat.zero_le _) (Nat.zero_le _) ?_
  refine S_takeOff (w := w) hl h5 (by omega) (fun N0 a1 a2 a3 => ?_)
  have n5 : dz_up N0 54 4 1000000 50 5 = s 1 := by rw [dz_up_ne (by omega), a1 _ _ (by omega)]; exact T2
  have e55 : ∀ k, k < w.toNat → dz_up N0 54 4 1000000 55 k = spf0 s k := fun k hk => by
    rw [dz_up_ne (by omega)]
    unfold spf0
    by_cases e : k = 0
    · rw [if_pos e, e, a2, h0]
    · rw [if_neg e]
      exact a3 k (by omega) (by omega)
  refine xk_0 ?_
  refine xr_aloadn hc rfl rfl ?_
  refine xr_ldc hc rfl ?_
  refine xr_putfi hc rfl rfl (by first | assumption | rfl) ?_
  refine xr_aloadn hc rfl rfl ?_
  refine xr_iconst hc rfl ?_
  refine xr_aloadn hc rfl rfl ?_
  refine xr_getfr hc rfl rfl (by first | assumption | rfl) (by first | assumption | rfl) ?_
  refine xr_getfi hc rfl (Or.inl rfl) (by first | assumption | rfl) ?_
  rw [n5]
  refine xr_iconst hc rfl ?_
  refine xr_iconst hc rfl ?_
  refine xr_calls5 hc rfl (by decide) rfl rfl rfl (Nat.le_of_ble_eq_true rfl) (Nat.zero_le _) (Nat.zero_le _) ?_
  refine S_layOn (d := d) (w := w) (pl := pl) hl (by omega) (by omega) 5 _ _ (t_l pl kd wt nx K s) 0 (s 1) 0 0 1000000 1000000000000 (fun i x hx => by rw [Nat.zero_add, dz_up_ne (by omega), dz_up_ne (by omega), a1 _ _ (by omega), a1 _ _ (by omega)]; exact T6 i x hx) hl1.1 (by rw [dz_up_ne (by omega), a1 _ _ (by omega), Nat.zero_add]; exact T4) (by omega) (by omega) (by omega) (by omega) (by omega) ?_ (by omega) (by omega) (by rw [dz_up_k (by omega), a1 _ _ (by omega)]; exact h5) (by rw [dz_up_k (by omega), a1 _ _ (by omega)]; exact h6) (fun k hk => by rw [e55 k (by omega)]; exact hs0.1 k hk) (fun j k hj hk h9 e => ?_) ⟨dz_up_eq _ _ _ _, Or.inl ⟨rfl, rfl⟩⟩ (fun M2 bw2 br2 y1 y2 y3 y4 y5 => ?_)
  · have z := un_le0 (sp := dz_up N0 54 4 1000000 55) (by rw [e55 0 (by omega)]; show s 5 ≠ -9; have := hs0.2.2; omega) (w.toNat - 1)
    rw [show w.toNat - 1 + 1 = w.toNat by omega] at z
    omega
  · rw [e55 j hj] at h9 e
    rw [e55 k hk] at e
    exact hs0.2.1 j k hj hk h9 e
  refine xk_0 ?_
  refine xr_return hc rfl rfl (Nat.zero_le _) (Nat.zero_le _) ?_
  obtain ⟨q1, q2, q3⟩ := fillr_min (w := w) (pl := pl) (by omega) (by omega) w.toNat 0 0 (spf0 s) (by omega) (by omega) hs0.1 hs0.2.1 (fun k hk => by omega) (fun p hp => by omega)
  rcases y5 with ⟨v1, v2⟩ | ⟨f, v1, v2, v3, v4⟩
  · exfalso
    have z := y4 _ q1 ((ext_c e55).mpr q2)
    have z2 := rnk_in (t := s 1) (u := 0) (l := (t_l pl kd wt nx K s)) p2 ⟨p3, p4⟩ q1 (by omega) (by omega)
    omega
  · refine hQ M2 f (fun q2 k2 u1 u2 u3 u4 => ?_) ⟨v1, (ext_c e55).mp v2, fun g hg he => ?_⟩ v4
    · rw [y1 _ _ u1 u3 u4]
      by_cases e : q2 = 54
      · subst e
        rw [dz_up_k (by omega), a1 _ _ u2]
      · rw [dz_up_ne e, a1 _ _ u2]
    · rw [← v3]
      exact y4 g hg ((ext_c e55).mpr he)
set_option maxRecDepth 100000 in
theorem X_least {xo : Nat → List Int} {d : Nat} {Q : dz_Q} {sh : List (Nat ⊕ (Nat × Nat))} {rf : Nat → Nat → Nat} {M : Nat → Nat → Int} {rs : Nat → Int} {it : Nat → Nat → Int} {ts : Nat → Int} {ch : Nat → Nat → Int} {tl up lo : Int} {fn : Nat → Int} {w pl : Int} {kd wt nx : Nat → Int} {n : Nat} {hs : Nat → Nat → Int} {kp : Nat → Int} {kh : Nat → Nat → Nat → Int} {m r : Int} (hx : xo 2 = dz_xs2) (hl : cl sh rf) (hR : RX M rs it ts ch tl up lo fn w pl kd wt nx n hs kp kh) (hW : WF rs it ts ch tl up lo fn w pl kd wt nx n hs kp kh) (hQ : ∀ M2 : Nat → Nat → Int, (∀ q2 k2, 115 ≤ q2 → M2 q2 k2 = M q2 k2) → RX M2 (o_least rs it w pl kd wt nx (hs n) m r).2.1 (o_least rs it w pl kd wt nx (hs n) m r).2.2 ts ch tl up lo fn w pl kd wt nx n hs kp kh → Q (some (dz_i ((o_least rs it w pl kd wt nx (hs n) m r).1))) (sh, rf, M2)) : dz_E dz_pp xo (d + 11) 79 [dz_r 0, dz_i m, dz_i r] (sh, rf, M) Q := by
  refine ⟨Nat.le_of_ble_eq_true rfl, ?_⟩
  have hc := dz_E_m dz_pp xo (d + 10)
  show dz_X (dz_E dz_pp xo (d + 10)) dz_pp xo (dz_pp 79) Q 0 [some (dz_r 0), some (dz_i m), some (dz_i r), none] [] 0 0 (sh, rf, M)
  obtain ⟨c0, c1, c2, c3, c4, c5, c6, c7, c8, c9, c10, c11, c12, c13, c14, c15, c16, c17, c18, c19, c20, c21, c22, c23, c24, c25, c26, c27, c28, c29, c30, c31, c32, c33, c34, c35, c36⟩ := id hl
  obtain ⟨hrow, htxt, htl, hup, hlo, hfn, hdr, hkp, hrb⟩ := id hR
  obtain ⟨wrow, wtxt, wdr, wst, wkp⟩ := id hW
  have n0 : sh[23]? = some (.inl 1) := c14.2.2.2.2.1.1
  have n1 : rf 23 7 = 25 + 1 := c14.2.2.2.2.1.2.2.2.1
  have n2 : sh[25]? = some (.inr (0, 6)) := c14.2.2.2.2.1.2.2.2.2.1
  have n3 : rf 15 1 = 23 + 1 := c14.2.2.2.1
  have n4 : sh[15]? = some (.inl 0) := c14.1
  have n5 : ma_at sh rf 23 := c14.2.2.2.2.1
  have q0 : sh[34]? = some (.inl 1) := c20.1
  have q1 : rf 34 8 = 37 + 1 := c20.2.2.2.2.2.1
  have q2 : sh[37]? = some (.inr (0, 6)) := c20.2.2.2.2.2.2.1
  have q3 : sh[50]? = some (.inl 4) := c26.1
  have k0 : sh[54]? = some (.inl 2) := c28.1
  have k1 : rf 54 1 = 55 + 1 := c28.2.1
  have k2 : sh[55]? = some (.inr (0, 6)) := c28.2.2.1
  have hw6 := WF_w hW
  have hM0 : M 23 0 = w := hdr.2.1.1
  have hM1 : M 23 1 = pl := hdr.2.1.2.1
  have hsp0 : ∀ i : Nat, (i : Int) < w → M 25 i = hs n (5 + i) := fun i hi => (hdr.2.1.2.2.2.2.2.2 i hi).2.1
  have k5 : rf 54 3 = 57 + 1 := c28.2.2.2.2.2.1
  have k6 : sh[57]? = some (.inr (0, 6)) := c28.2.2.2.2.2.2
  refine xr_iloadn hc rfl rfl ?_
  refine xr_calls1 hc rfl (by decide) rfl rfl rfl (Nat.le_of_ble_eq_true rfl) (Nat.zero_le _) (Nat.zero_le _) ?_
  refine S_isRow (fun u7 v7 => ?_) (fun u7 => ?_)
  · refine xk_1 ?_
    refine xr_iff hc rfl (by simp [dz_cmp]) ?_
    refine xr_aloadn hc rfl rfl ?_
    refine xr_iloadn hc rfl rfl ?_
    refine xr_bipush hc rfl ?_
    refine xr_callv2 hc rfl (by first | assumption | rfl) rfl rfl rfl (Nat.le_of_ble_eq_true rfl) (Nat.zero_le _) (Nat.zero_le _) ?_
    refine S_refusedSteps hl hR hW (fun u1 => ?_) (fun u1 v1 hw0 => ?_) (fun u1 v1 hw0 => ?_)
    · refine xk_1 ?_
      refine xr_goto hc rfl (t := 18) rfl ?_
      refine xr_istore3 hc rfl rfl ?_
      refine xr_iloadn hc rfl rfl ?_
      refine xr_iff hc rfl (by simp [dz_cmp]) ?_
      refine xr_iloadn hc rfl rfl ?_
      refine xr_ireturn hc rfl rfl (Nat.zero_le _) (Nat.zero_le _) ?_
      simp only [o_least] at hQ
      repeat (first | rw [if_pos (by omega)] at hQ | rw [if_neg (by omega)] at hQ)
      try dsimp only at hQ
      exact hQ M (fun _ _ _ => rfl) hR
    · refine xk_1 ?_
      refine xr_goto hc rfl (t := 18) rfl ?_
      refine xr_istore3 hc rfl rfl ?_
      refine xr_iloadn hc rfl rfl ?_
      refine xr_iff hc rfl (by simp [dz_cmp]) ?_
      refine xr_iloadn hc rfl rfl ?_
      refine xr_ireturn hc rfl rfl (Nat.zero_le _) (Nat.zero_le _) ?_
      simp only [o_least] at hQ
      repeat (first | rw [if_pos (by omega)] at hQ | rw [if_neg (by omega)] at hQ)
      try dsimp only at hQ
      exact hQ M (fun _ _ _ => rfl) hR
    · refine xk_1 ?_
      refine xr_goto hc rfl (t := 18) rfl ?_
      refine xr_istore3 hc rfl rfl ?_
      refine xr_iloadn hc rfl rfl ?_
      refine xr_ift hc rfl (t := 25) rfl (by simp [dz_cmp]) ?_
      refine xr_aloadn hc rfl rfl ?_
      refine xr_iloadn hc rfl rfl ?_
      refine xr_callv1 hc rfl (by first | assumption | rfl) rfl rfl rfl (Nat.le_of_ble_eq_true rfl) (Nat.zero_le _) (Nat.zero_le _) ?_
      have hp := WF_p hW hw0
      have hst := wst.2 n (Nat.le_refl n)
      obtain ⟨p1, p2, p3, p4, p5⟩ := id hp
      obtain ⟨st0, st1, st2, st3, st4, st5, st6, st7, st8⟩ := id hst
      refine S_followSteps hx hl hR hW hw0 (by omega) (fun M1 K f1 f2 f3 f4 f5 f6 => ?_)
      refine xk_0 ?_
      refine xr_aloadn hc rfl rfl ?_
      refine xr_getfr hc rfl rfl (by first | assumption | rfl) (by first | assumption | rfl) ?_
      refine xr_aloadn hc rfl rfl ?_
      refine xr_getfr hc rfl rfl (by first | assumption | rfl) (by first | assumption | rfl) ?_
      refine xr_getfr hc rfl rfl (by first | assumption | rfl) (by first | assumption | rfl) ?_
      refine xr_callv1 hc rfl (by first | assumption | rfl) rfl rfl rfl (Nat.le_of_ble_eq_true rfl) (Nat.zero_le _) (Nat.zero_le _) ?_
      refine S_pbegin hl (fun M2 g1 g2 g3 g4 => ?_)
      have L1 : ∀ q2 k2, ¬ (34 ≤ q2 ∧ q2 ≤ 40) → ¬ (50 ≤ q2 ∧ q2 ≤ 55) → M2 q2 k2 = M q2 k2 := fun q2 k2 v1 v2 => by rw [g1 _ _ (by omega) (by omega), f1 _ _ (by omega) (by omega)]
      have L2 := TR_fr f3 (M2 := M2) (fun q k v1 v2 => g1 _ _ (by omega) (by omega))
      have L3 : ∀ i : Nat, (i : Int) < w → M2 55 i = hs n (5 + i) := fun i hi => by rw [g4 i (by omega), f1 _ _ (by omega) (by omega)]; exact hsp0 i hi
      have LR : scX M M2 := ⟨fun q2 k2 u => L1 _ _ (by omega) (by omega), fun q2 k2 u => by
        rcases u with ⟨a, b⟩ | u
        · rw [a, b, g1 _ _ (by omega) (by omega), f2.2.2.2.2.2.2.2.2.1, hrb.1]
        · exact L1 _ _ (by omega) (by omega)⟩
      have g5 : M2 54 5 = w := by rw [g2, f1 _ _ (by omega) (by omega), hM0]
      have g6 : M2 54 6 = pl := by rw [g3, f1 _ _ (by omega) (by omega), hM1]
      have eL := TR_end f4 f5
      refine xk_0 ?_
      refine xr_aloadn hc rfl rfl ?_
      refine xr_getfr hc rfl rfl (by first | assumption | rfl) (by first | assumption | rfl) ?_
      refine xr_callv0 hc rfl (by first | assumption | rfl) rfl rfl rfl (Nat.le_of_ble_eq_true rfl) (Nat.zero_le _) (Nat.zero_le _) ?_
      refine S_findShortest hl hp hst (by omega) L2 g5 g6 (L3 0 (by omega)) (fun M3 f a1 a2 a3 => ?_)
      rw [← eL] at a2
      have hok := lsp_ok a2
      have e57 : ∀ k : Nat, (k : Int) < w → M3 57 k = (lsp w pl (t_l pl kd wt nx m.toNat (hs n)) (spf0 (hs n)) (hs n 1)) k := fun k hk => by rw [a3 k (by omega)]; exact lst1_one (by omega) ⟨p3, p4⟩ a2 hok k (by omega)
      have LR3 : scX M M3 := scX_trans LR ⟨fun q2 k2 u => a1 _ _ (by omega) (by omega) (by omega) (by omega), fun q2 k2 u => a1 _ _ (by omega) (by omega) (by omega) (by omega)⟩
      have hR3 := RX_scr hR LR3
      refine xk_0 ?_
      refine xr_aloadn hc rfl rfl ?_
      refine xr_iloadn hc rfl rfl ?_
      refine xr_aloadn hc rfl rfl ?_
      refine xr_getfr hc rfl rfl (by first | assumption | rfl) (by first | assumption | rfl) ?_
      refine xr_getfr hc rfl rfl (by first | assumption | rfl) (by first | assumption | rfl) ?_
      refine xr_callv2 hc rfl (by first | assumption | rfl) rfl rfl rfl (Nat.le_of_ble_eq_true rfl) (Nat.zero_le _) (Nat.zero_le _) ?_
      refine S_layPlaces (sp := (lsp w pl (t_l pl kd wt nx m.toNat (hs n)) (spf0 (hs n)) (hs n 1))) hl hR3 hW (by omega) k6 (by omega) e57 (fun M4 b1 b2 => ?_)
      refine xk_0 ?_
      refine xr_aloadn hc rfl rfl ?_
      refine xr_getfr hc rfl rfl (by first | assumption | rfl) (by first | assumption | rfl) ?_
      refine xr_aloadn hc rfl rfl ?_
      refine xr_getfr hc rfl rfl (by first | assumption | rfl) (by first | assumption | rfl) ?_
      refine xr_getfr hc rfl rfl (by first | assumption | rfl) (by first | assumption | rfl) ?_
      refine xr_iloadn hc rfl rfl ?_
      refine xr_callv2 hc rfl (by first | assumption | rfl) rfl rfl rfl (Nat.le_of_ble_eq_true rfl) (Nat.zero_le _) (Nat.zero_le _) ?_
      refine S_beatsAt (N := m.toNat) (sp := (lsp w pl (t_l pl kd wt nx m.toNat (hs n)) (spf0 (hs n)) (hs n 1))) hp hst (by omega) c26 (TR_fr L2 (fun q k v1 v2 => by rw [b1 _ _ (by omega), a1 _ _ (by omega) (by omega) (by omega) (by omega)])) f4 (by omega) k6 (fun i hi => ?_) (fun i hi => ?_) (by omega) ?_
      · rw [b1 _ _ (by omega), e57 i hi]
        have z := hok.1.1 i (by omega)
        omega
      · rw [b1 _ _ (by omega), e57 i hi]
      refine xk_1 ?_
      refine xr_ireturn hc rfl rfl (Nat.zero_le _) (Nat.zero_le _) ?_
      simp only [o_least] at hQ
      rw [if_neg (by omega), if_neg hw0] at hQ
      exact hQ M4 (fun q2 k2 u => by rw [b1 _ _ (by omega), a1 _ _ (by omega) (by omega) (by omega) (by omega), L1 _ _ (by omega) (by omega)]) b2
  · refine xk_1 ?_
    refine xr_ift hc rfl (t := 17) rfl (by simp [dz_cmp]) ?_
    refine xr_iconst hc rfl ?_
    refine xr_istore3 hc rfl rfl ?_
    refine xr_iloadn hc rfl rfl ?_
    refine xr_iff hc rfl (by simp [dz_cmp]) ?_
    refine xr_iloadn hc rfl rfl ?_
    refine xr_ireturn hc rfl rfl (Nat.zero_le _) (Nat.zero_le _) ?_
    simp only [o_least] at hQ
    repeat (first | rw [if_pos (by omega)] at hQ | rw [if_neg (by omega)] at hQ)
    try dsimp only at hQ
    exact hQ M (fun _ _ _ => rfl) hR
