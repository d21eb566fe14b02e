/-! What the other one tries. Written by l2_47.py. -/
def tfr (M M2 : Nat → Nat → Int) : Prop := ∀ q2 k2, ¬ (q2 = 115 ∧ 21 ≤ k2 ∧ k2 ≤ 23) → ¬ (q2 = 116 ∧ 3612 ≤ k2) → M2 q2 k2 = M q2 k2
theorem tfr_refl (M : Nat → Nat → Int) : tfr M M := fun _ _ _ _ => rfl
theorem tfr_trans {M M2 M3 : Nat → Nat → Int} (h : tfr M M2) (h2 : tfr M2 M3) : tfr M M3 := fun q k a b => (h2 q k a b).trans (h q k a b)
theorem tfr_scr {M M2 : Nat → Nat → Int} (h : tfr M M2) : scr M M2 := fun q k a b _ => h q k (by omega) b
theorem tfr_x {M M2 : Nat → Nat → Int} (h : tfr M M2) : ∀ q2 k2, q2 < 115 → M2 q2 k2 = M q2 k2 := fun q k a => h q k (by omega) (by omega)
theorem tfr_pg {M M2 : Nat → Nat → Int} {w pl : Int} {kd wt nx : Nat → Int} (h : tfr M M2) (hp : pgM M w pl kd wt nx) : pgM M2 w pl kd wt nx := ⟨by rw [h _ _ (by omega) (by omega)]; exact hp.1, by rw [h _ _ (by omega) (by omega)]; exact hp.2.1, fun i hi => by rw [h _ _ (by omega) (by omega), h _ _ (by omega) (by omega), h _ _ (by omega) (by omega)]; exact hp.2.2 i hi⟩
theorem t_run_w {w pl B : Int} {kd wt nx s : Nat → Int} {j : Nat} (hp : pgok w pl kd wt nx) (hs : stok w pl B s) (hB : B + 29 * j ≤ 1000000) (h9 : t_run pl kd wt nx j s 3 ≠ -9) : t_w pl (fun i => s (5 + i)) (t_l pl kd wt nx (j + 1) s) (s 1) = t_w pl (fun i => s (5 + i)) (t_l pl kd wt nx j s) (s 1) + wts pl kd wt (t_run pl kd wt nx j s) ∧ ((t_l pl kd wt nx (j + 1) s).length : Int) = ((t_l pl kd wt nx j s).length : Int) + rds kd (t_run pl kd wt nx j s) := by
  have e := ((t_snoc (pl := pl) (kd := kd) (wt := wt) (nx := nx) j s).1 h9).2
  have hwy := t_way hp j B s s hs hB (t_eq_refl w s)
  have hok := t_run_ok hp j B s hs hB
  have ho := t_one_in hp hok
  have hw6 := hp.2.1
  rw [e, t_w_app, List.length_append, t_one_w, t_one_r (wt := wt), hwy.2.2.1]
  refine ⟨?_, by omega⟩
  congr 1
  refine t_w_c _ _ (fun x hx => ?_)
  have hx2 := (ho.1 x hx).1
  exact (hwy.2.2.2 x.1 (by omega)).symm
/-- the beats that m steps take, if the words lie so -/
def t_at (pl : Int) (kd wt nx sp : Nat → Int) (m : Nat) (s : Nat → Int) : Int := t_b pl sp (t_l pl kd wt nx m s) (s 1) - s 1
theorem t_at_in {w pl B : Int} {kd wt nx s : Nat → Int} {sp : Nat → Int} {m : Nat} (hp : pgok w pl kd wt nx) (hs : stok w pl B s) (hB : B + 29 * m ≤ 1000000) : 0 ≤ t_at pl kd wt nx sp m s ∧ t_at pl kd wt nx sp m s ≤ 40 * m := by
  have h1 := t_l_in hp m B s hs hB
  have h2 := t_b_in (sp := sp) ⟨hp.2.2.1, hp.2.2.2.1⟩ (t_l pl kd wt nx m s) (s 1) (fun x hx => (h1.1 x hx).2)
  unfold t_at
  omega
theorem t_at_c {w pl B : Int} {kd wt nx s : Nat → Int} {sp sp2 : Nat → Int} {m : Nat} (hp : pgok w pl kd wt nx) (hs : stok w pl B s) (hB : B + 29 * m ≤ 1000000) (h : ∀ i : Nat, (i : Int) < w → sp i = sp2 i) : t_at pl kd wt nx sp m s = t_at pl kd wt nx sp2 m s := by
  have h1 := t_l_in hp m B s hs hB
  unfold t_at
  rw [t_b_c _ _ (fun x hx => h x.1 (h1.1 x hx).1)]
/-- a state that lies otherwise -/
theorem t_at_run {w pl B : Int} {kd wt nx s s2 : Nat → Int} {sp : Nat → Int} {m : Nat} (hp : pgok w pl kd wt nx) (hs : stok w pl B s) (hB : B + 29 * m ≤ 1000000) (he : t_eq w s s2) (h1 : s2 1 = s 1) (h : ∀ i : Nat, (i : Int) < w → s2 (5 + i) = sp i) : t_run pl kd wt nx m s2 1 - s2 1 = t_at pl kd wt nx sp m s := by
  have h2 := (t_way hp m B s s2 hs hB he).2.2.1
  have h3 := t_l_in hp m B s hs hB
  rw [h2, h1]
  unfold t_at
  rw [t_b_c _ _ (fun x hx => h x.1 (h3.1 x hx).1)]
theorem t_eq_mv {w : Int} {s : Nat → Int} {i : Nat} {p : Int} (hi : i < 6) : t_eq w s (mv s i p) := ⟨(mv_ne (by omega)).symm, (mv_ne (by omega)).symm, fun k hk => by rw [mv_ne (by omega)]⟩
set_option maxRecDepth 100000 in
theorem D_layTried0 {xo : Nat → List Int} {d : Nat} {Q : dz_Q} {sh : List (Nat ⊕ (Nat × Nat))} {rf : Nat → Nat → Nat} {M : Nat → Nat → Int} (hl : ml sh rf) (hQ : ∀ M2 : Nat → Nat → Int, tfr M M2 → (∀ c, c ≤ 22 → M2 116 (3612 + c) = M 116 c) → M2 115 21 = 0 → M2 115 22 = 0 → M2 115 23 = 0 → Q none (sh, rf, M2)) : dz_E dz_pp xo (d + 1) 169 [dz_r 115] (sh, rf, M) Q := by
  refine ⟨Nat.le_of_ble_eq_true rfl, ?_⟩
  have hc := dz_E_m dz_pp xo (d + 0)
  show dz_X (dz_E dz_pp xo (d + 0)) dz_pp xo (dz_pp 169) Q 0 [some (dz_r 115), none] [] 0 0 (sh, rf, M)
  obtain ⟨c0, c1, c2, c3, c4, c5, c6, c7, c8, c9, c10, c11, c12, c13, c14, c15, c16, c17, c18, c19, c20, c21, c22, c23, c24, c25, c26, c27, c28, c29⟩ := id hl
  have lp : ∀ (m_ : Nat) (i : Nat) (M1 : Nat → Nat → Int), i + m_ = 23 → (∀ q2 k2, ¬ (q2 = 116 ∧ 3612 ≤ k2) → M1 q2 k2 = M q2 k2) → (∀ k2, k2 < i → M1 116 (3612 + k2) = M 116 k2) → dz_X (dz_E dz_pp xo (d + 0)) dz_pp xo (dz_pp 169) Q 2 [some (dz_r 115), some (dz_i (i : Int))] [] 0 0 (sh, rf, M1) := by
    intro m_
    induction m_ with
    | zero =>
      intro i M1 hi h1 h2
      refine xr_iloadn hc rfl rfl ?_
      refine xr_bipush hc rfl ?_
      refine xr_icmp_ge hc rfl (t := 30) rfl (fun b5 => ?_) (fun b5 => ?_)
      · refine xr_aloadn hc rfl rfl ?_
        refine xr_iconst hc rfl ?_
        refine xr_putfi hc rfl rfl (by first | assumption | rfl) ?_
        refine xr_aloadn hc rfl rfl ?_
        refine xr_iconst hc rfl ?_
        refine xr_putfi hc rfl rfl (by first | assumption | rfl) ?_
        refine xr_aloadn hc rfl rfl ?_
        refine xr_iconst hc rfl ?_
        refine xr_putfz hc rfl rfl (by first | assumption | rfl) (by first | exact Or.inl rfl | exact Or.inr rfl | assumption) ?_
        refine xr_return hc rfl rfl (Nat.zero_le _) (Nat.zero_le _) ?_
        refine hQ _ (fun q2 k2 u1 u2 => ?_) (fun c hc => ?_) ?_ ?_ ?_
        · by_cases e : q2 = 115
          · subst e
            rw [dz_up_k (by omega), dz_up_k (by omega), dz_up_k (by omega), h1 _ _ (by omega)]
          · rw [dz_up_ne e, dz_up_ne e, dz_up_ne e, h1 _ _ u2]
        · rw [dz_up_ne (by omega), dz_up_ne (by omega), dz_up_ne (by omega)]
          exact h2 c (by omega)
        · rw [dz_up_k (by omega), dz_up_k (by omega), dz_up_eq]
        · rw [dz_up_k (by omega), dz_up_eq]
        · rw [dz_up_eq]
      · omega
    | succ m_ ih =>
      intro i M1 hi h1 h2
      have ix : ((3612 : Int) + (i : Int)).toNat = 3612 + i := by omega
      refine xr_iloadn hc rfl rfl ?_
      refine xr_bipush hc rfl ?_
      refine xr_icmp_ge hc rfl (t := 30) rfl (fun b5 => ?_) (fun b5 => ?_)
      · omega
      · refine xr_aloadn hc rfl rfl ?_
        refine xr_getfr hc rfl rfl (by first | assumption | rfl) (by first | assumption | rfl) ?_
        refine xr_sipush hc rfl ?_
        refine xr_iloadn hc rfl rfl ?_
        refine xr_iaddz hc rfl (by first | exact dz_wid (by first | omega | (unfold dz_w; omega)) (by first | omega | (unfold dz_w; omega)) | rfl) ?_
        refine xr_aloadn hc rfl rfl ?_
        refine xr_getfr hc rfl rfl (by first | assumption | rfl) (by first | assumption | rfl) ?_
        refine xr_iloadn hc rfl rfl ?_
        first | refine xr_iaload hc rfl (by first | assumption | rfl) (by first | omega | (unfold dz_w; omega)) (by first | omega | (unfold dz_w; omega)) ?_ | refine xr_ialoado hc rfl (by first | omega | (unfold dz_w; omega)) (by first | omega | (unfold dz_w; omega)) ?_
        rw [Int.toNat_natCast, h1 _ _ (by omega)]
        refine xr_iastore hc rfl (by first | assumption | rfl) (by first | omega | (unfold dz_w; omega)) (by first | omega | (unfold dz_w; omega)) ?_
        rw [ix]
        refine xr_iincz1 hc rfl rfl (by first | exact dz_wid (by first | omega | (unfold dz_w; omega)) (by first | omega | (unfold dz_w; omega)) | rfl) ?_
        refine xr_goto hc rfl (t := 2) rfl ?_
        refine ih (i + 1) _ (by omega) (fun q2 k2 u => ?_) (fun k2 hk => ?_)
        · by_cases e : q2 = 116
          · subst e
            rw [dz_up_k (by omega), h1 _ _ u]
          · rw [dz_up_ne e, h1 _ _ u]
        · by_cases e : k2 = i
          · subst e
            rw [dz_up_eq]
          · rw [dz_up_k (by omega)]
            exact h2 k2 (by omega)
  refine xr_iconst hc rfl ?_
  refine xr_istore1 hc rfl rfl ?_
  exact lp 23 0 M (by omega) (fun _ _ _ => rfl) (fun k2 hk => by omega)
theorem D_layTried {xo : Nat → List Int} {d : Nat} {Q : dz_Q} {sh : List (Nat ⊕ (Nat × Nat))} {rf : Nat → Nat → Nat} {M : Nat → Nat → Int} {rs : Nat → Int} {it : Nat → Nat → Int} {ts : Nat → Int} {ch : Nat → Nat → Int} {tl up lo : Int} {fn : Nat → Int} {w pl : Int} {kd wt nx : Nat → Int} {n : Nat} {hs : Nat → Nat → Int} {kp : Nat → Int} {kh : Nat → Nat → Nat → Int} (hl : ml sh rf) (hR : RM M rs it ts ch tl up lo fn w pl kd wt nx n hs kp kh) (hW : WF rs it ts ch tl up lo fn w pl kd wt nx n hs kp kh) (hQ : ∀ M2 : Nat → Nat → Int, tfr M M2 → prel M2 3612 w (hs n) → M2 115 21 = 0 → M2 115 22 = 0 → M2 115 23 = 0 → Q none (sh, rf, M2)) : dz_E dz_pp xo (d + 1) 169 [dz_r 115] (sh, rf, M) Q := by
  have hw6 := WF_w hW
  refine D_layTried0 hl (fun M2 z1 z2 z3 z4 z5 => hQ M2 z1 (fun c hc => ?_) z3 z4 z5)
  have h3 := hR.2.2.2.2.2.2.1.2.2.2.2.1 c hc
  rw [Nat.zero_add] at h3
  have hc2 := hc
  unfold okc at hc2
  rw [z2 c (by omega)]
  exact h3
set_option maxRecDepth 100000 in
theorem D_beatsTried {xo : Nat → List Int} {d : Nat} {Q : dz_Q} {sh : List (Nat ⊕ (Nat × Nat))} {rf : Nat → Nat → Nat} {M : Nat → Nat → Int} {w pl B m : Int} {kd wt nx s : Nat → Int} (hl : ml sh rf) (hpg : pgM M w pl kd wt nx) (hp : pgok w pl kd wt nx) (hs : stok w pl B s) (hB : B ≤ 900000) (hr : prel M 3612 w s) (hld : M 115 23 = 0) (hm : 0 ≤ m ∧ m ≤ 41) (hQ : ∀ M2 : Nat → Nat → Int, tfr M M2 → prel M2 3612 w (t_run pl kd wt nx m.toNat s) → M2 115 23 = 0 → ((M 115 21 = 0 ∧ M 115 22 = 0) → M2 115 21 = t_w pl (fun i => s (5 + i)) (t_l pl kd wt nx m.toNat s) (s 1) ∧ M2 115 22 = ((t_l pl kd wt nx m.toNat s).length : Int)) → Q (some (dz_i ((t_run pl kd wt nx m.toNat s) 1 - s 1))) (sh, rf, M2)) : dz_E dz_pp xo (d + 4) 170 [dz_r 115, dz_i m] (sh, rf, M) Q := by
  refine ⟨Nat.le_of_ble_eq_true rfl, ?_⟩
  have hc := dz_E_m dz_pp xo (d + 3)
  show dz_X (dz_E dz_pp xo (d + 3)) dz_pp xo (dz_pp 170) Q 0 [some (dz_r 115), some (dz_i m), none, none] [] 0 0 (sh, rf, M)
  obtain ⟨c0, c1, c2, c3, c4, c5, c6, c7, c8, c9, c10, c11, c12, c13, c14, c15, c16, c17, c18, c19, c20, c21, c22, c23, c24, c25, c26, c27, c28, c29⟩ := id hl
  obtain ⟨p1, p2, p3, p4, p5⟩ := id hp
  have v0 : M 116 3613 = s 1 := hr 1 (by unfold okc; omega)
  obtain ⟨b0, b1, b2, b3, b4, b5, b6, b7, b8⟩ := id hs
  have lp : ∀ (m_ : Nat) (j : Nat) (M1 : Nat → Nat → Int), (j : Int) + m_ = m → tfr M M1 → prel M1 3612 w (t_run pl kd wt nx j s) → M1 115 23 = 0 → ((M 115 21 = 0 ∧ M 115 22 = 0) → M1 115 21 = t_w pl (fun i => s (5 + i)) (t_l pl kd wt nx j s) (s 1) ∧ M1 115 22 = ((t_l pl kd wt nx j s).length : Int)) → dz_X (dz_E dz_pp xo (d + 3)) dz_pp xo (dz_pp 170) Q 11 [some (dz_r 115), some (dz_i m), some (dz_i (s 1)), some (dz_i (j : Int))] [] 0 0 (sh, rf, M1) := by
    intro m_
    induction m_ with
    | zero =>
      intro j M1 hj h1 h2 h3 h4
      have hok := t_run_ok hp j B s hs (by omega)
      obtain ⟨s0, s1, s2, s3, s4, s5, s6, s7, s8⟩ := id hok
      have v1 : M1 116 3613 = (t_run pl kd wt nx j s) 1 := h2 1 (by unfold okc; omega)
      have ej : j = m.toNat := by omega
      subst ej
      refine xr_iloadn hc rfl rfl ?_
      refine xr_iloadn hc rfl rfl ?_
      refine xr_icmp_ge hc rfl (t := 42) rfl (fun b13 => ?_) (fun b13 => ?_)
      · refine xr_aloadn hc rfl rfl ?_
        refine xr_getfr hc rfl rfl (by first | assumption | rfl) (by first | assumption | rfl) ?_
        refine xr_sipush hc rfl ?_
        first | refine xr_iaload hc rfl (by first | assumption | rfl) (by first | omega | (unfold dz_w; omega)) (by first | omega | (unfold dz_w; omega)) ?_ | refine xr_ialoado hc rfl (by first | omega | (unfold dz_w; omega)) (by first | omega | (unfold dz_w; omega)) ?_
        rw [show M1 116 (Int.toNat 3613) = _ from v1]
        refine xr_iloadn hc rfl rfl ?_
        refine xr_isubz hc rfl (by first | exact dz_wid (by first | omega | (unfold dz_w; omega)) (by first | omega | (unfold dz_w; omega)) | rfl) ?_
        refine xr_ireturn hc rfl rfl (Nat.zero_le _) (Nat.zero_le _) ?_
        exact hQ M1 h1 h2 h3 h4
      · omega
    | succ m_ ih =>
      intro j M1 hj h1 h2 h3 h4
      have hok := t_run_ok hp j B s hs (by omega)
      obtain ⟨s0, s1, s2, s3, s4, s5, s6, s7, s8⟩ := id hok
      have v1 : M1 116 3613 = (t_run pl kd wt nx j s) 1 := h2 1 (by unfold okc; omega)
      have v3 : M1 116 3615 = (t_run pl kd wt nx j s) 3 := h2 3 (by unfold okc; omega)
      refine xr_iloadn hc rfl rfl ?_
      refine xr_iloadn hc rfl rfl ?_
      refine xr_icmp_ge hc rfl (t := 42) rfl (fun b13 => ?_) (fun b13 => ?_)
      · refine xr_aloadn hc rfl rfl ?_
        refine xr_getfr hc rfl rfl (by first | assumption | rfl) (by first | assumption | rfl) ?_
        refine xr_sipush hc rfl ?_
        first | refine xr_iaload hc rfl (by first | assumption | rfl) (by first | omega | (unfold dz_w; omega)) (by first | omega | (unfold dz_w; omega)) ?_ | refine xr_ialoado hc rfl (by first | omega | (unfold dz_w; omega)) (by first | omega | (unfold dz_w; omega)) ?_
        rw [show M1 116 (Int.toNat 3613) = _ from v1]
        refine xr_iloadn hc rfl rfl ?_
        refine xr_isubz hc rfl (by first | exact dz_wid (by first | omega | (unfold dz_w; omega)) (by first | omega | (unfold dz_w; omega)) | rfl) ?_
        refine xr_ireturn hc rfl rfl (Nat.zero_le _) (Nat.zero_le _) ?_
        first
          | (exfalso; omega)
          | (have ey := t_stay (show (t_run pl kd wt nx j s) 3 = -9 by omega) (m.toNat - j)
             rw [show j + (m.toNat - j) = m.toNat by omega] at ey
             rw [← ey.1]
             exact hQ M1 h1 (by rw [ey.1]; exact h2) h3 (by rw [ey.2]; exact h4))
      · refine xr_aloadn hc rfl rfl ?_
        refine xr_getfr hc rfl rfl (by first | assumption | rfl) (by first | assumption | rfl) ?_
        refine xr_sipush hc rfl ?_
        first | refine xr_iaload hc rfl (by first | assumption | rfl) (by first | omega | (unfold dz_w; omega)) (by first | omega | (unfold dz_w; omega)) ?_ | refine xr_ialoado hc rfl (by first | omega | (unfold dz_w; omega)) (by first | omega | (unfold dz_w; omega)) ?_
        rw [show M1 116 (Int.toNat 3615) = _ from v3]
        refine xr_bipush hc rfl ?_
        refine xr_icmp_eq hc rfl (t := 42) rfl (fun b26 => ?_) (fun b26 => ?_)
        · refine xr_aloadn hc rfl rfl ?_
          refine xr_getfr hc rfl rfl (by first | assumption | rfl) (by first | assumption | rfl) ?_
          refine xr_sipush hc rfl ?_
          first | refine xr_iaload hc rfl (by first | assumption | rfl) (by first | omega | (unfold dz_w; omega)) (by first | omega | (unfold dz_w; omega)) ?_ | refine xr_ialoado hc rfl (by first | omega | (unfold dz_w; omega)) (by first | omega | (unfold dz_w; omega)) ?_
          rw [show M1 116 (Int.toNat 3613) = _ from v1]
          refine xr_iloadn hc rfl rfl ?_
          refine xr_isubz hc rfl (by first | exact dz_wid (by first | omega | (unfold dz_w; omega)) (by first | omega | (unfold dz_w; omega)) | rfl) ?_
          refine xr_ireturn hc rfl rfl (Nat.zero_le _) (Nat.zero_le _) ?_
          first
            | (exfalso; omega)
            | (have ey := t_stay (show (t_run pl kd wt nx j s) 3 = -9 by omega) (m.toNat - j)
               rw [show j + (m.toNat - j) = m.toNat by omega] at ey
               rw [← ey.1]
               exact hQ M1 h1 (by rw [ey.1]; exact h2) h3 (by rw [ey.2]; exact h4))
        · refine xr_aloadn hc rfl rfl ?_
          refine xr_sipush hc rfl ?_
          refine xr_callv1 hc rfl (by first | assumption | rfl) rfl rfl rfl (Nat.le_of_ble_eq_true rfl) (Nat.zero_le _) (Nat.zero_le _) ?_
          refine D_goes (b := 3612) (w := w) (pl := pl) (B := B + 29 * j) (kd := kd) (wt := wt) (nx := nx) (s := (t_run pl kd wt nx j s)) hl (by omega) (tfr_pg h1 hpg) hp hok (by omega) h2 h3 (by omega) (fun M2 g1 g2 g3 => ?_)
          have e1 := ((t_snoc (pl := pl) (kd := kd) (wt := wt) (nx := nx) j s).1 (by omega)).1
          have e2 := t_run_w (j := j) hp hs (by omega) (by omega)
          have hlj := t_l_in hp j B s hs (by omega)
          have hwj := t_w_in (sp := (fun i => s (5 + i))) ⟨p3, p4⟩ (t_l pl kd wt nx j s) (s 1)
          refine xk_0 ?_
          refine xr_iincz3 hc rfl rfl (by first | exact dz_wid (by first | omega | (unfold dz_w; omega)) (by first | omega | (unfold dz_w; omega)) | rfl) ?_
          refine xr_goto hc rfl (t := 11) rfl ?_
          refine ih (j + 1) M2 (by omega) (fun q2 k2 u1 u2 => by rw [g1 _ _ (by omega) (by omega), h1 _ _ u1 u2]) (by rw [e1]; exact g2) (by rw [g1 _ _ (by omega) (by omega)]; exact h3) (fun hz => ?_)
          have h5 := h4 hz
          have g4 := g3 (by omega)
          omega
  refine xr_aloadn hc rfl rfl ?_
  refine xr_getfr hc rfl rfl (by first | assumption | rfl) (by first | assumption | rfl) ?_
  refine xr_sipush hc rfl ?_
  first | refine xr_iaload hc rfl (by first | assumption | rfl) (by first | omega | (unfold dz_w; omega)) (by first | omega | (unfold dz_w; omega)) ?_ | refine xr_ialoado hc rfl (by first | omega | (unfold dz_w; omega)) (by first | omega | (unfold dz_w; omega)) ?_
  rw [show M 116 (Int.toNat 3613) = _ from v0]
  refine xr_istore2 hc rfl rfl ?_
  refine xr_iconst hc rfl ?_
  refine xr_istore3 hc rfl rfl ?_
  exact lp m.toNat 0 M (by omega) (tfr_refl M) hr hld (fun hz => ⟨by rw [hz.1]; rfl, by rw [hz.2]; rfl⟩)
set_option maxRecDepth 100000 in
theorem D_noSteps {xo : Nat → List Int} {d : Nat} {Q : dz_Q} {sh : List (Nat ⊕ (Nat × Nat))} {rf : Nat → Nat → Nat} {M : Nat → Nat → Int} {rs : Nat → Int} {it : Nat → Nat → Int} {ts : Nat → Int} {ch : Nat → Nat → Int} {tl up lo : Int} {fn : Nat → Int} {w pl : Int} {kd wt nx : Nat → Int} {n : Nat} {hs : Nat → Nat → Int} {kp : Nat → Int} {kh : Nat → Nat → Nat → Int} {m mo : Int} (hl : ml sh rf) (hR : RM M rs it ts ch tl up lo fn w pl kd wt nx n hs kp kh) (hW : WF rs it ts ch tl up lo fn w pl kd wt nx n hs kp kh) (h1 : (m < 0 ∨ mo < m) → Q (some (dz_i (-1))) (sh, rf, M)) (h2 : 0 ≤ m → m ≤ mo → w = 0 → Q (some (dz_i (-4))) (sh, rf, M)) (h3 : 0 ≤ m → m ≤ mo → w ≠ 0 → Q (some (dz_i 0)) (sh, rf, M)) : dz_E dz_pp xo (d + 2) 171 [dz_r 115, dz_i m, dz_i mo] (sh, rf, M) Q := by
  refine ⟨Nat.le_of_ble_eq_true rfl, ?_⟩
  have hc := dz_E_m dz_pp xo (d + 1)
  show dz_X (dz_E dz_pp xo (d + 1)) dz_pp xo (dz_pp 171) Q 0 [some (dz_r 115), some (dz_i m), some (dz_i mo)] [] 0 0 (sh, rf, M)
  obtain ⟨c0, c1, c2, c3, c4, c5, c6, c7, c8, c9, c10, c11, c12, c13, c14, c15, c16, c17, c18, c19, c20, c21, c22, c23, c24, c25, c26, c27, c28, c29⟩ := id hl
  obtain ⟨hrow, htxt, htl, hup, hlo, hfn, hdr, hkp⟩ := id hR
  obtain ⟨wrow, wtxt, wdr, wst, wkp⟩ := id hW
  have hw6 := WF_w hW
  have hdr3 : drM M w pl kd wt nx n hs ∧ w ≤ 6 ∧ n ≤ 40 := ⟨hdr, hw6.2, wst.1⟩
  have hkp3 : kepM M w kp kh ∧ w ≤ 6 ∧ ∀ k, k < 3 → kp k ≤ 40 := ⟨hkp, hw6.2, fun k hk => by
    rcases wkp k hk with z | z
    · omega
    · exact z.2.1⟩
  obtain ⟨a1, a2, a3, b1, b2, b3⟩ := id hdr
  have hpg : pgM M w pl kd wt nx := ⟨a1, a2, a3⟩
  have b2c : ∀ c, okc w c → M 116 c = hs n c := fun c hc => by
    have h3 := b2 c hc
    rw [Nat.zero_add] at h3
    exact h3
  refine xr_iloadn hc rfl rfl ?_
  refine xr_i2l hc rfl ?_
  refine xr_lconst hc rfl ?_
  refine xr_iloadn hc rfl rfl ?_
  refine xr_i2l hc rfl ?_
  refine xr_calls3 hc rfl (by decide) rfl rfl rfl (Nat.le_of_ble_eq_true rfl) (Nat.zero_le _) (Nat.zero_le _) ?_
  refine S_in (fun u1 v1 => ?_) (fun u1 => ?_)
  · refine xk_1 ?_
    refine xr_ift hc rfl (t := 15) rfl (by simp [dz_cmp]) ?_
    refine xr_aloadn hc rfl rfl ?_
    refine xr_getfi hc rfl (Or.inl rfl) (by first | assumption | rfl) ?_
    rw [a1]
    refine xr_if_ne hc rfl (t := 27) rfl (fun b19 => ?_) (fun b19 => ?_)
    · refine xr_iconst hc rfl ?_
      refine xr_ireturn hc rfl rfl (Nat.zero_le _) (Nat.zero_le _) ?_
      first
        | exact h1 (by omega)
        | exact h2 (by omega) (by omega) (by omega)
        | exact h3 (by omega) (by omega) (by omega)
    · refine xr_bipush hc rfl ?_
      refine xr_goto hc rfl (t := 28) rfl ?_
      refine xr_ireturn hc rfl rfl (Nat.zero_le _) (Nat.zero_le _) ?_
      first
        | exact h1 (by omega)
        | exact h2 (by omega) (by omega) (by omega)
        | exact h3 (by omega) (by omega) (by omega)
  · refine xk_1 ?_
    refine xr_iff hc rfl (by simp [dz_cmp]) ?_
    refine xr_iconst hc rfl ?_
    refine xr_goto hc rfl (t := 28) rfl ?_
    refine xr_ireturn hc rfl rfl (Nat.zero_le _) (Nat.zero_le _) ?_
    first
      | exact h1 (by omega)
      | exact h2 (by omega) (by omega) (by omega)
      | exact h3 (by omega) (by omega) (by omega)
set_option maxRecDepth 100000 in
theorem D_mayLie {xo : Nat → List Int} {d : Nat} {Q : dz_Q} {sh : List (Nat ⊕ (Nat × Nat))} {rf : Nat → Nat → Nat} {M : Nat → Nat → Int} {rs : Nat → Int} {it : Nat → Nat → Int} {ts : Nat → Int} {ch : Nat → Nat → Int} {tl up lo : Int} {fn : Nat → Int} {w pl : Int} {kd wt nx : Nat → Int} {n : Nat} {hs : Nat → Nat → Int} {kp : Nat → Int} {kh : Nat → Nat → Nat → Int} {i p : Int} (hl : ml sh rf) (hR : RM M rs it ts ch tl up lo fn w pl kd wt nx n hs kp kh) (hW : WF rs it ts ch tl up lo fn w pl kd wt nx n hs kp kh) (hi : 0 ≤ i ∧ i < w) (h1 : (hs n (5 + i.toNat) = p ∨ free (fun k => hs n (5 + k)) w p) → Q (some (dz_i 1)) (sh, rf, M)) (h2 : ¬ (hs n (5 + i.toNat) = p ∨ free (fun k => hs n (5 + k)) w p) → Q (some (dz_i 0)) (sh, rf, M)) : dz_E dz_pp xo (d + 2) 178 [dz_r 115, dz_i i, dz_i p] (sh, rf, M) Q := by
  refine ⟨Nat.le_of_ble_eq_true rfl, ?_⟩
  have hc := dz_E_m dz_pp xo (d + 1)
  show dz_X (dz_E dz_pp xo (d + 1)) dz_pp xo (dz_pp 178) Q 0 [some (dz_r 115), some (dz_i i), some (dz_i p)] [] 0 0 (sh, rf, M)
  obtain ⟨c0, c1, c2, c3, c4, c5, c6, c7, c8, c9, c10, c11, c12, c13, c14, c15, c16, c17, c18, c19, c20, c21, c22, c23, c24, c25, c26, c27, c28, c29⟩ := id hl
  obtain ⟨hrow, htxt, htl, hup, hlo, hfn, hdr, hkp⟩ := id hR
  obtain ⟨wrow, wtxt, wdr, wst, wkp⟩ := id hW
  have hw6 := WF_w hW
  have hdr3 : drM M w pl kd wt nx n hs ∧ w ≤ 6 ∧ n ≤ 40 := ⟨hdr, hw6.2, wst.1⟩
  have hkp3 : kepM M w kp kh ∧ w ≤ 6 ∧ ∀ k, k < 3 → kp k ≤ 40 := ⟨hkp, hw6.2, fun k hk => by
    rcases wkp k hk with z | z
    · omega
    · exact z.2.1⟩
  obtain ⟨a1, a2, a3, b1, b2, b3⟩ := id hdr
  have hpg : pgM M w pl kd wt nx := ⟨a1, a2, a3⟩
  have b2c : ∀ c, okc w c → M 116 c = hs n c := fun c hc => by
    have h3 := b2 c hc
    rw [Nat.zero_add] at h3
    exact h3
  have i5 : (5 + i).toNat = 5 + i.toNat := by omega
  have y5 := b2c (5 + i.toNat) (by unfold okc; omega)
  have hfc : free (fun k => M 116 (0 + (5 + k))) w p ↔ free (fun k => hs n (5 + k)) w p := by
    refine ⟨fun h k hk => ?_, fun h k hk => ?_⟩
    · have z := h k hk
      have z2 := b2 (5 + k) (by unfold okc; omega)
      show hs n (5 + k) ≠ p
      rw [← z2]
      exact z
    · have z := h k hk
      have z2 := b2 (5 + k) (by unfold okc; omega)
      show M 116 (0 + (5 + k)) ≠ p
      rw [z2]
      exact z
  refine xr_aloadn hc rfl rfl ?_
  refine xr_getfr hc rfl rfl (by first | assumption | rfl) (by first | assumption | rfl) ?_
  refine xr_iconst hc rfl ?_
  refine xr_iloadn hc rfl rfl ?_
  refine xr_iaddz hc rfl (by first | exact dz_wid (by first | omega | (unfold dz_w; omega)) (by first | omega | (unfold dz_w; omega)) | rfl) ?_
  first | refine xr_iaload hc rfl (by first | assumption | rfl) (by first | omega | (unfold dz_w; omega)) (by first | omega | (unfold dz_w; omega)) ?_ | refine xr_ialoado hc rfl (by first | omega | (unfold dz_w; omega)) (by first | omega | (unfold dz_w; omega)) ?_
  rw [i5, y5]
  refine xr_iloadn hc rfl rfl ?_
  refine xr_icmp_eq hc rfl (t := 21) rfl (fun b9 => ?_) (fun b9 => ?_)
  · refine xr_iconst hc rfl ?_
    refine xr_goto hc rfl (t := 26) rfl ?_
    refine xr_zreturn hc rfl rfl (Nat.zero_le _) (Nat.zero_le _) (by first | exact Or.inl rfl | exact Or.inr rfl | assumption) ?_
    first
      | exact h1 (Or.inl (by omega))
      | exact h1 (Or.inr (hfc.mp v1))
      | exact h2 (fun hz => hz.elim (fun z => by omega) (fun z => v1 (hfc.mpr z)))
  · refine xr_aloadn hc rfl rfl ?_
    refine xr_iconst hc rfl ?_
    refine xr_iloadn hc rfl rfl ?_
    refine xr_callv2 hc rfl (by first | assumption | rfl) rfl rfl rfl (Nat.le_of_ble_eq_true rfl) (Nat.zero_le _) (Nat.zero_le _) ?_
    refine D_isFree (b := 0) hl (by omega) a1 hw6 (fun v1 => ?_) (fun v1 => ?_)
    · refine xk_1 ?_
      refine xr_iff hc rfl (by simp [dz_cmp]) ?_
      refine xr_iconst hc rfl ?_
      refine xr_goto hc rfl (t := 26) rfl ?_
      refine xr_zreturn hc rfl rfl (Nat.zero_le _) (Nat.zero_le _) (by first | exact Or.inl rfl | exact Or.inr rfl | assumption) ?_
      first
        | exact h1 (Or.inl (by omega))
        | exact h1 (Or.inr (hfc.mp v1))
        | exact h2 (fun hz => hz.elim (fun z => by omega) (fun z => v1 (hfc.mpr z)))
    · refine xk_1 ?_
      refine xr_ift hc rfl (t := 25) rfl (by simp [dz_cmp]) ?_
      refine xr_iconst hc rfl ?_
      refine xr_zreturn hc rfl rfl (Nat.zero_le _) (Nat.zero_le _) (by first | exact Or.inl rfl | exact Or.inr rfl | assumption) ?_
      first
        | exact h1 (Or.inl (by omega))
        | exact h1 (Or.inr (hfc.mp v1))
        | exact h2 (fun hz => hz.elim (fun z => by omega) (fun z => v1 (hfc.mpr z)))
set_option maxRecDepth 100000 in
theorem D_beatsAt {xo : Nat → List Int} {d : Nat} {Q : dz_Q} {sh : List (Nat ⊕ (Nat × Nat))} {rf : Nat → Nat → Nat} {M : Nat → Nat → Int} {rs : Nat → Int} {it : Nat → Nat → Int} {ts : Nat → Int} {ch : Nat → Nat → Int} {tl up lo : Int} {fn : Nat → Int} {w pl : Int} {kd wt nx : Nat → Int} {n : Nat} {hs : Nat → Nat → Int} {kp : Nat → Int} {kh : Nat → Nat → Nat → Int} {i p m : Int} (hl : ml sh rf) (hR : RM M rs it ts ch tl up lo fn w pl kd wt nx n hs kp kh) (hW : WF rs it ts ch tl up lo fn w pl kd wt nx n hs kp kh) (hi : 0 ≤ i ∧ i < w) (hpp : 0 ≤ p ∧ p < pl) (hm : 0 ≤ m ∧ m ≤ 40) (hQ : ∀ M2 : Nat → Nat → Int, tfr M M2 → Q (some (dz_i (t_at pl kd wt nx (fup (fun k => hs n (5 + k)) i.toNat p) m.toNat (hs n)))) (sh, rf, M2)) : dz_E dz_pp xo (d + 5) 177 [dz_r 115, dz_i i, dz_i p, dz_i m] (sh, rf, M) Q := by
  refine ⟨Nat.le_of_ble_eq_true rfl, ?_⟩
  have hc := dz_E_m dz_pp xo (d + 4)
  show dz_X (dz_E dz_pp xo (d + 4)) dz_pp xo (dz_pp 177) Q 0 [some (dz_r 115), some (dz_i i), some (dz_i p), some (dz_i m)] [] 0 0 (sh, rf, M)
  obtain ⟨c0, c1, c2, c3, c4, c5, c6, c7, c8, c9, c10, c11, c12, c13, c14, c15, c16, c17, c18, c19, c20, c21, c22, c23, c24, c25, c26, c27, c28, c29⟩ := id hl
  obtain ⟨hrow, htxt, htl, hup, hlo, hfn, hdr, hkp⟩ := id hR
  obtain ⟨wrow, wtxt, wdr, wst, wkp⟩ := id hW
  have hw6 := WF_w hW
  have hdr3 : drM M w pl kd wt nx n hs ∧ w ≤ 6 ∧ n ≤ 40 := ⟨hdr, hw6.2, wst.1⟩
  have hkp3 : kepM M w kp kh ∧ w ≤ 6 ∧ ∀ k, k < 3 → kp k ≤ 40 := ⟨hkp, hw6.2, fun k hk => by
    rcases wkp k hk with z | z
    · omega
    · exact z.2.1⟩
  obtain ⟨a1, a2, a3, b1, b2, b3⟩ := id hdr
  have hpg : pgM M w pl kd wt nx := ⟨a1, a2, a3⟩
  have b2c : ∀ c, okc w c → M 116 c = hs n c := fun c hc => by
    have h3 := b2 c hc
    rw [Nat.zero_add] at h3
    exact h3
  have hp := WF_p hW (by omega)
  have hst := wst.2 n (Nat.le_refl n)
  have ix : ((3617 : Int) + i).toNat = 3612 + (5 + i.toNat) := by omega
  refine xr_aloadn hc rfl rfl ?_
  refine xr_callv0 hc rfl (by first | assumption | rfl) rfl rfl rfl (Nat.le_of_ble_eq_true rfl) (Nat.zero_le _) (Nat.zero_le _) ?_
  refine D_layTried hl hR hW (fun M1 z1 z2 z3 z4 z5 => ?_)
  refine xk_0 ?_
  refine xr_aloadn hc rfl rfl ?_
  refine xr_getfr hc rfl rfl (by first | assumption | rfl) (by first | assumption | rfl) ?_
  refine xr_sipush hc rfl ?_
  refine xr_iloadn hc rfl rfl ?_
  refine xr_iaddz hc rfl (by first | exact dz_wid (by first | omega | (unfold dz_w; omega)) (by first | omega | (unfold dz_w; omega)) | rfl) ?_
  refine xr_iloadn hc rfl rfl ?_
  refine xr_iastore hc rfl (by first | assumption | rfl) (by first | omega | (unfold dz_w; omega)) (by first | omega | (unfold dz_w; omega)) ?_
  refine xr_aloadn hc rfl rfl ?_
  refine xr_iloadn hc rfl rfl ?_
  refine xr_callv1 hc rfl (by first | assumption | rfl) rfl rfl rfl (Nat.le_of_ble_eq_true rfl) (Nat.zero_le _) (Nat.zero_le _) ?_
  rw [ix]
  refine D_beatsTried (w := w) (pl := pl) (B := 29 * n) (kd := kd) (wt := wt) (nx := nx) (s := mv (hs n) i.toNat p) hl (tfr_pg (fun q2 k2 u1 u2 => ?_) hpg) hp (mv_ok hw6.2 hst (by omega) hpp) (by omega) ?_ (by rw [dz_up_ne (by omega)]; exact z5) (by omega) (fun M2 y1 y2 y3 y4 => ?_)
  · by_cases e : q2 = 116
    · subst e
      rw [dz_up_k (by omega), z1 _ _ u1 u2]
    · rw [dz_up_ne e, z1 _ _ u1 u2]
  · refine prel_mv hw6.2 (by omega) z2 (fun k2 u => ?_) ?_
    · rw [dz_up_k (by omega)]
    · rw [dz_up_eq]
  have ea : t_run pl kd wt nx m.toNat (mv (hs n) i.toNat p) 1 - mv (hs n) i.toNat p 1 = t_at pl kd wt nx (fup (fun k => hs n (5 + k)) i.toNat p) m.toNat (hs n) := t_at_run hp hst (by omega) (t_eq_mv (by omega)) (mv_ne (by omega)) (fun k hk => by unfold mv fup; split <;> split <;> first | rfl | omega)
  refine xk_1 ?_
  refine xr_ireturn hc rfl rfl (Nat.zero_le _) (Nat.zero_le _) ?_
  rw [ea]
  refine hQ M2 (fun q2 k2 u1 u2 => ?_)
  rw [y1 _ _ u1 u2]
  by_cases e : q2 = 116
  · subst e
    rw [dz_up_k (by omega), z1 _ _ u1 u2]
  · rw [dz_up_ne e, z1 _ _ u1 u2]
