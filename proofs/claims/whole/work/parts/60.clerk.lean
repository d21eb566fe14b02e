/-! The placing by first use: the class. Written by l2_60.py. -/
theorem nf_c {w : Int} {sp sp2 : Nat → Int} (h : ∀ k, k < w.toNat → sp k = sp2 k) : ∀ (f p : Nat), nf w sp f p = nf w sp2 f p
  | 0, _ => rfl
  | f + 1, p => by
    unfold nf
    have h1 := ly_c (p := (p : Int)) h
    by_cases e : ly_at sp (p : Int) w.toNat 0 = -9
    · rw [if_pos e, if_pos (h1.mp e)]
    · rw [if_neg e, if_neg (fun z => e (h1.mpr z)), nf_c h f (p + 1)]
theorem fillr_c {w : Int} {P : Nat} : ∀ (m i q : Nat) (sp sp2 : Nat → Int), i + m = w.toNat → (∀ k, k < w.toNat → sp k = sp2 k) → ∀ k, k < w.toNat → fillr w P m i q sp k = fillr w P m i q sp2 k
  | 0, _, _, _, _, _, h => h
  | m + 1, i, q, sp, sp2, hi, h => by
    unfold fillr
    have h1 := h i (by omega)
    have h2 := nf_c h (P - q) q
    by_cases e : sp i = -9
    · rw [if_pos e, if_pos (by rw [← h1]; exact e), h2]
      refine fillr_c m (i + 1) _ _ _ (by omega) (fun k hk => ?_)
      by_cases e2 : k = i
      · rw [e2, fup_eq, fup_eq]
      · rw [fup_ne e2, fup_ne e2]
        exact h k hk
    · rw [if_neg e, if_neg (by rw [← h1]; exact e)]
      exact fillr_c m (i + 1) q sp sp2 (by omega) h
theorem clay_c {w pl t : Int} {sp sp2 : Nat → Int} {i : Nat} (hi : i < w.toNat) (h : ∀ k, k < w.toNat → sp k = sp2 k) : ∀ k, k < w.toNat → clay pl w sp i t k = clay pl w sp2 i t k := fun k hk => by
  unfold clay
  have h1 := h i hi
  by_cases e : sp i = -9
  · rw [if_pos e, if_pos (by rw [← h1]; exact e), cff_c h]
    by_cases e2 : k = i
    · rw [e2, fup_eq, fup_eq]
    · rw [fup_ne e2, fup_ne e2]
      exact h k hk
  · rw [if_neg e, if_neg (by rw [← h1]; exact e)]
    exact h k hk
set_option maxRecDepth 100000 in
theorem S_fillRest {xo : Nat → List Int} {d : Nat} {Q : dz_Q} {sh : List (Nat ⊕ (Nat × Nat))} {rf : Nat → Nat → Nat} {M : Nat → Nat → Int} {q : Nat} {w pl : Int} (hl : cl sh rf) (h5 : M 54 5 = w) (h6 : M 54 6 = pl) (hw : 0 ≤ w ∧ w ≤ 6) (hpl : 6 ≤ pl ∧ pl ≤ 9) (hq : sh[q]? = some (.inr (0, 6))) (hq54 : 54 ≠ q) (hQ : ∀ M2 : Nat → Nat → Int, (∀ q2 k2, q2 ≠ q → M2 q2 k2 = M q2 k2) → (∀ k, k < w.toNat → M2 q k = fillr w pl.toNat w.toNat 0 0 (M 55) k) → Q none (sh, rf, M2)) : dz_E dz_pp xo (d + 2) 28 [dz_r 54, dz_r q] (sh, rf, M) Q := by
  refine ⟨Nat.le_of_ble_eq_true rfl, ?_⟩
  have hc := dz_E_m dz_pp xo (d + 1)
  show dz_X (dz_E dz_pp xo (d + 1)) dz_pp xo (dz_pp 28) Q 0 [some (dz_r 54), some (dz_r q), none, none] [] 0 0 (sh, rf, M)
  obtain ⟨c0, c1, c2, c3, c4, c5, c6, c7, c8, c9, c10, c11, c12, c13, c14, c15, c16, c17, c18, c19, c20, c21, c22, c23, c24, c25, c26, c27, c28, c29, c30, c31, c32, c33, c34, c35, c36⟩ := id hl
  have k0 : sh[54]? = some (.inl 2) := c28.1
  have k1 : rf 54 1 = 55 + 1 := c28.2.1
  have k2 : sh[55]? = some (.inr (0, 6)) := c28.2.2.1
  have k3 : rf 54 2 = 56 + 1 := c28.2.2.2.1
  have k4 : sh[56]? = some (.inr (0, 6)) := c28.2.2.2.2.1
  have k5 : rf 54 3 = 57 + 1 := c28.2.2.2.2.2.1
  have k6 : sh[57]? = some (.inr (0, 6)) := c28.2.2.2.2.2.2
  have k7 : rf 54 0 = 50 + 1 := c29
  have ht := c26
  have lp : ∀ (m_ : Nat) (i p0 : Nat) (sp : Nat → Int) (N : Nat → Nat → Int), (i : Int) + m_ = w → p0 ≤ pl.toNat → (∀ q2 k2, q2 ≠ q → N q2 k2 = M q2 k2) → (∀ k, k < w.toNat → N q k = sp k) → fillr w pl.toNat w.toNat 0 0 (M 55) = fillr w pl.toNat m_ i p0 sp → dz_X (dz_E dz_pp xo (d + 1)) dz_pp xo (dz_pp 28) Q 16 [some (dz_r 54), some (dz_r q), some (dz_i (p0 : Int)), some (dz_i (i : Int))] [] 0 0 (sh, rf, N) := by
    intro m_
    induction m_ with
    | zero =>
      intro i p0 sp N hi hp0 h1 h2 h3
      have n5 : N 54 5 = w := by rw [h1 _ _ hq54]; exact h5
      refine xr_iloadn hc rfl rfl ?_
      refine xr_aloadn hc rfl rfl ?_
      refine xr_getfi hc rfl (Or.inl rfl) (by first | assumption | rfl) ?_
      rw [n5]
      refine xr_icmp_ge hc rfl (t := 70) rfl (fun b21 => ?_) (fun b21 => ?_)
      · refine xr_return hc rfl rfl (Nat.zero_le _) (Nat.zero_le _) ?_
        have h4 : fillr w pl.toNat w.toNat 0 0 (M 55) = sp := h3
        exact hQ N h1 (fun k hk => by rw [h4]; exact h2 k hk)
      · omega
    | succ m_ ih =>
      intro i p0 sp N hi hp0 h1 h2 h3
      have n5 : N 54 5 = w := by rw [h1 _ _ hq54]; exact h5
      have n6 : N 54 6 = pl := by rw [h1 _ _ hq54]; exact h6
      have hv := h2 i (by omega)
      have lq : ∀ (f p : Nat), p + f = pl.toNat → (∀ r : Nat, r = nf w sp f p → r ≤ pl.toNat → dz_X (dz_E dz_pp xo (d + 1)) dz_pp xo (dz_pp 28) Q 60 [some (dz_r 54), some (dz_r q), some (dz_i (r : Int)), some (dz_i (i : Int))] [] 0 0 (sh, rf, N)) → dz_X (dz_E dz_pp xo (d + 1)) dz_pp xo (dz_pp 28) Q 32 [some (dz_r 54), some (dz_r q), some (dz_i (p : Int)), some (dz_i (i : Int))] [] 0 0 (sh, rf, N) := by
        intro f
        induction f with
        | zero =>
          intro p hp hK
          refine xr_iloadn hc rfl rfl ?_
          refine xr_aloadn hc rfl rfl ?_
          refine xr_getfi hc rfl (Or.inl rfl) (by first | assumption | rfl) ?_
          rw [n6]
          refine xr_icmp_ge hc rfl (t := 60) rfl (fun b37 => ?_) (fun b37 => ?_)
          · exact hK p rfl (by omega)
          · omega
        | succ f ih2 =>
          intro p hp hK
          have hfr := ly_free (f := N q) (p := (p : Int)) hw.1
          have hly := ly_c (f := N q) (g := sp) (p := (p : Int)) h2
          have en : nf w sp (f + 1) p = if ly_at sp (p : Int) w.toNat 0 = -9 then p else nf w sp f (p + 1) := rfl
          refine xr_iloadn hc rfl rfl ?_
          refine xr_aloadn hc rfl rfl ?_
          refine xr_getfi hc rfl (Or.inl rfl) (by first | assumption | rfl) ?_
          rw [n6]
          refine xr_icmp_ge hc rfl (t := 60) rfl (fun b37 => ?_) (fun b37 => ?_)
          · first
              | (exfalso; omega)
              | exact hK p (by rw [en, if_pos (hly.mp (hfr.mpr y1))]) (by omega)
          · refine xr_aloadn hc rfl rfl ?_
            refine xr_aloadn hc rfl rfl ?_
            refine xr_getfi hc rfl (Or.inl rfl) (by first | assumption | rfl) ?_
            rw [n5]
            refine xr_iloadn hc rfl rfl ?_
            refine xr_calls3 hc rfl (by decide) rfl rfl rfl (Nat.le_of_ble_eq_true rfl) (Nat.zero_le _) (Nat.zero_le _) ?_
            refine S_lies hq (by omega) (by omega) (fun y1 => ?_) (fun y0 y1 y2 => ?_)
            · refine xk_1 ?_
              refine xr_bipush hc rfl ?_
              refine xr_icmp_eq hc rfl (t := 60) rfl (fun b51 => ?_) (fun b51 => ?_)
              · first
                  | (exfalso; omega)
                  | exact hK p (by rw [en, if_pos (hly.mp (hfr.mpr y1))]) (by omega)
              · refine xr_iincz2 hc rfl rfl (by first | exact dz_wid (by first | omega | (unfold dz_w; omega)) (by first | omega | (unfold dz_w; omega)) | rfl) ?_
                refine xr_goto hc rfl (t := 32) rfl ?_
                first
                  | (exfalso; omega)
                  | exact ih2 (p + 1) (by omega) (fun r hr hr2 => hK r (by rw [en, if_neg (fun z => (hfr.mp (hly.mpr z)) y0 y1 y2)]; exact hr) hr2)
            · refine xk_1 ?_
              refine xr_bipush hc rfl ?_
              refine xr_icmp_eq hc rfl (t := 60) rfl (fun b51 => ?_) (fun b51 => ?_)
              · first
                  | (exfalso; omega)
                  | exact hK p (by rw [en, if_pos (hly.mp (hfr.mpr y1))]) (by omega)
              · refine xr_iincz2 hc rfl rfl (by first | exact dz_wid (by first | omega | (unfold dz_w; omega)) (by first | omega | (unfold dz_w; omega)) | rfl) ?_
                refine xr_goto hc rfl (t := 32) rfl ?_
                first
                  | (exfalso; omega)
                  | exact ih2 (p + 1) (by omega) (fun r hr hr2 => hK r (by rw [en, if_neg (fun z => (hfr.mp (hly.mpr z)) y0 y1 y2)]; exact hr) hr2)
      refine xr_iloadn hc rfl rfl ?_
      refine xr_aloadn hc rfl rfl ?_
      refine xr_getfi hc rfl (Or.inl rfl) (by first | assumption | rfl) ?_
      rw [n5]
      refine xr_icmp_ge hc rfl (t := 70) rfl (fun b21 => ?_) (fun b21 => ?_)
      · omega
      · refine xr_aloadn hc rfl rfl ?_
        refine xr_iloadn hc rfl rfl ?_
        first | refine xr_iaload hc rfl (by first | assumption | rfl) (by first | omega | (unfold dz_w; omega)) (by first | omega | (unfold dz_w; omega)) ?_ | refine xr_ialoado hc rfl (by first | omega | (unfold dz_w; omega)) (by first | omega | (unfold dz_w; omega)) ?_
        rw [Int.toNat_natCast, hv]
        refine xr_bipush hc rfl ?_
        refine xr_icmp_ne hc rfl (t := 64) rfl (fun b29 => ?_) (fun b29 => ?_)
        · refine xr_iincz3 hc rfl rfl (by first | exact dz_wid (by first | omega | (unfold dz_w; omega)) (by first | omega | (unfold dz_w; omega)) | rfl) ?_
          refine xr_goto hc rfl (t := 16) rfl ?_
          exact ih (i + 1) p0 sp N (by omega) hp0 h1 h2 (by rw [h3]; show (if sp i = -9 then _ else fillr w pl.toNat m_ (i + 1) p0 sp) = _; rw [if_neg (by omega)])
        · have h9 : sp i = -9 := by omega
          refine lq (pl.toNat - p0) p0 (by omega) (fun r er hr => ?_)
          refine xr_aloadn hc rfl rfl ?_
          refine xr_iloadn hc rfl rfl ?_
          refine xr_iloadn hc rfl rfl ?_
          refine xr_iastore hc rfl (by first | assumption | rfl) (by first | omega | (unfold dz_w; omega)) (by first | omega | (unfold dz_w; omega)) ?_
          rw [Int.toNat_natCast]
          refine xr_iincz3 hc rfl rfl (by first | exact dz_wid (by first | omega | (unfold dz_w; omega)) (by first | omega | (unfold dz_w; omega)) | rfl) ?_
          refine xr_goto hc rfl (t := 16) rfl ?_
          refine ih (i + 1) r (fup sp i (r : Int)) (dz_up N q i (r : Int)) (by omega) (by omega) (fun q2 k2 u => by rw [dz_up_ne u, h1 _ _ u]) (fun k hk => ?_) (by rw [h3]; show (if sp i = -9 then fillr w pl.toNat m_ (i + 1) (nf w sp (pl.toNat - p0) p0) (fup sp i (nf w sp (pl.toNat - p0) p0 : Nat)) else _) = _; rw [if_pos h9, ← er])
          by_cases e : k = i
          · rw [e, dz_up_eq, fup_eq]
          · rw [dz_up_k e, fup_ne e]
            exact h2 k hk
  refine xr_aloadn hc rfl rfl ?_
  refine xr_getfr hc rfl rfl (by first | assumption | rfl) (by first | assumption | rfl) ?_
  refine xr_iconst hc rfl ?_
  refine xr_aloadn hc rfl rfl ?_
  refine xr_iconst hc rfl ?_
  refine xr_bipush hc rfl ?_
  refine xr_copy hc rfl rfl (by first | assumption | rfl) (by first | assumption | rfl) (by first | omega | (unfold dz_w; omega)) (by first | omega | (unfold dz_w; omega)) (by first | omega | (unfold dz_w; omega)) (by first | omega | (unfold dz_w; omega)) (by first | omega | (unfold dz_w; omega)) (by first | decide | (simp [dz_cats]; done) | exact Nat.le_of_ble_eq_true rfl) ?_
  refine xr_iconst hc rfl ?_
  refine xr_istore2 hc rfl rfl ?_
  refine xr_iconst hc rfl ?_
  refine xr_istore3 hc rfl rfl ?_
  refine lp w.toNat 0 0 (M 55) _ (by omega) (by omega) (fun q2 k2 u => ?_) (fun k hk => ?_) rfl
  · unfold dz_cpy
    rw [if_neg (fun z => u z.1)]
  · unfold dz_cpy
    rw [if_pos ⟨rfl, by omega, by omega⟩]
    congr 1
    omega
set_option maxRecDepth 100000 in
theorem S_layByFirstUse {xo : Nat → List Int} {d : Nat} {Q : dz_Q} {sh : List (Nat ⊕ (Nat × Nat))} {rf : Nat → Nat → Nat} {M : Nat → Nat → Int} {w pl B : Int} {kd wt nx s : Nat → Int} {K : Nat} (hl : cl sh rf) (hp : pgok w pl kd wt nx) (hs : stok w pl B s) (hB : B ≤ 900000) (hT : TR M pl kd wt nx K s) (h5 : M 54 5 = w) (h6 : M 54 6 = pl) (h0 : M 55 0 = s 5) (hQ : ∀ M2 : Nat → Nat → Int, (∀ q2 k2, q2 ≠ 55 → M2 q2 k2 = M q2 k2) → (∀ k : Nat, (k : Int) < w → M2 55 k = fillr w pl.toNat w.toNat 0 0 (ck_l pl w (t_l pl kd wt nx K s) (spf0 s) (s 1)).1 k) → Q none (sh, rf, M2)) : dz_E dz_pp xo (d + 3) 29 [dz_r 54] (sh, rf, M) Q := by
  refine ⟨Nat.le_of_ble_eq_true rfl, ?_⟩
  have hc := dz_E_m dz_pp xo (d + 2)
  show dz_X (dz_E dz_pp xo (d + 2)) dz_pp xo (dz_pp 29) Q 0 [some (dz_r 54), none, none, none] [] 0 0 (sh, rf, M)
  obtain ⟨c0, c1, c2, c3, c4, c5, c6, c7, c8, c9, c10, c11, c12, c13, c14, c15, c16, c17, c18, c19, c20, c21, c22, c23, c24, c25, c26, c27, c28, c29, c30, c31, c32, c33, c34, c35, c36⟩ := id hl
  have k0 : sh[54]? = some (.inl 2) := c28.1
  have k1 : rf 54 1 = 55 + 1 := c28.2.1
  have k2 : sh[55]? = some (.inr (0, 6)) := c28.2.2.1
  have k3 : rf 54 2 = 56 + 1 := c28.2.2.2.1
  have k4 : sh[56]? = some (.inr (0, 6)) := c28.2.2.2.2.1
  have k5 : rf 54 3 = 57 + 1 := c28.2.2.2.2.2.1
  have k6 : sh[57]? = some (.inr (0, 6)) := c28.2.2.2.2.2.2
  have k7 : rf 54 0 = 50 + 1 := c29
  have ht := c26
  have t0 : sh[50]? = some (.inl 4) := ht.1
  have t1 : rf 50 0 = 51 + 1 := ht.2.1
  have t2 : sh[51]? = some (.inr (0, 80)) := ht.2.2.1
  have t3 : rf 50 1 = 52 + 1 := ht.2.2.2.1
  have t4 : sh[52]? = some (.inr (0, 80)) := ht.2.2.2.2.1
  have t5 : rf 50 2 = 53 + 1 := ht.2.2.2.2.2.1
  have t6 : sh[53]? = some (.inr (0, 41)) := ht.2.2.2.2.2.2
  obtain ⟨T1, T2, T3, T4, T5, T6, T7, T8⟩ := id hT
  obtain ⟨p1, p2, p3, p4, p5⟩ := id hp
  obtain ⟨s0, s1, s2, s3, s4, s5, s6, s7, s8⟩ := id hs
  have hl1 := t_l_in hp K B s hs (by omega)
  have lp : ∀ (l : List (Nat × Int)) (k : Nat) (t : Int) (sp : Nat → Int) (N : Nat → Nat → Int) (e : Option dz_V), (∀ i x, l[i]? = some x → M 51 (k + i) = (x.1 : Int) ∧ M 52 (k + i) = x.2) → (∀ x, x ∈ l → (x.1 : Int) < w ∧ 0 ≤ x.2 ∧ x.2 ≤ 11) → (t_l pl kd wt nx K s).length = k + l.length → k + l.length ≤ 80 → 0 ≤ t → t + 20 * l.length ≤ 990000 → (∀ q2 k2, q2 ≠ 55 → N q2 k2 = M q2 k2) → (∀ k : Nat, (k : Int) < w → N 55 k = sp k) → spok w pl sp → ck_l pl w (t_l pl kd wt nx K s) (spf0 s) (s 1) = ck_l pl w l sp t → dz_X (dz_E dz_pp xo (d + 2)) dz_pp xo (dz_pp 29) Q 14 [some (dz_r 54), some (dz_i t), some (dz_i (k : Int)), e] [] 0 0 (sh, rf, N) := by
    intro l
    induction l with
    | nil =>
      intro k t sp N e f1 f2 f3 f4 f5 f6 g1 g2 g3 g4
      have f3b : (t_l pl kd wt nx K s).length = k := f3
      have n3 : N 50 3 = (k : Int) := by rw [g1 _ _ (by omega), T4, f3b]
      have g4b : ck_l pl w (t_l pl kd wt nx K s) (spf0 s) (s 1) = (sp, t) := g4
      refine xr_iloadn hc rfl rfl ?_
      refine xr_aloadn hc rfl rfl ?_
      refine xr_getfr hc rfl rfl (by first | assumption | rfl) (by first | assumption | rfl) ?_
      refine xr_getfi hc rfl (Or.inl rfl) (by first | assumption | rfl) ?_
      rw [n3]
      refine xr_icmp_ge hc rfl (t := 92) rfl (fun b22 => ?_) (fun b22 => ?_)
      · refine xr_aloadn hc rfl rfl ?_
        refine xr_aloadn hc rfl rfl ?_
        refine xr_getfr hc rfl rfl (by first | assumption | rfl) (by first | assumption | rfl) ?_
        refine xr_callv1 hc rfl (by first | assumption | rfl) rfl rfl rfl (Nat.le_of_ble_eq_true rfl) (Nat.zero_le _) (Nat.zero_le _) ?_
        refine S_fillRest (w := w) (pl := pl) hl (by rw [g1 _ _ (by omega)]; exact h5) (by rw [g1 _ _ (by omega)]; exact h6) (by omega) (by omega) k2 (by omega) (fun M2 a1 a2 => ?_)
        refine xk_0 ?_
        refine xr_return hc rfl rfl (Nat.zero_le _) (Nat.zero_le _) ?_
        refine hQ M2 (fun q2 k2 u => by rw [a1 _ _ u, g1 _ _ u]) (fun i hi => ?_)
        rw [a2 i (by omega), g4b]
        exact fillr_c _ _ _ _ _ (by omega) (fun k hk => g2 k (by omega)) i (by omega)
      · omega
    | cons x l ih =>
      intro k t sp N e f1 f2 f3 f4 f5 f6 g1 g2 g3 g4
      rw [List.length_cons] at f3 f4 f6
      have n3 : N 50 3 = (k : Int) + (l.length + 1) := by rw [g1 _ _ (by omega), T4, f3]; omega
      obtain ⟨x1, x2⟩ := f1 0 x rfl
      rw [Nat.add_zero] at x1 x2
      obtain ⟨y1, y2, y3⟩ := f2 x (List.mem_cons_self ..)
      have n51 : N 51 k = (x.1 : Int) := by rw [g1 _ _ (by omega)]; exact x1
      have n6 : N 54 6 = pl := by rw [g1 _ _ (by omega)]; exact h6
      have n5 : N 54 5 = w := by rw [g1 _ _ (by omega)]; exact h5
      have hcl := clay_ok (t := t) (by omega) (by omega) y1 g3
      have hwa := wa_in (p := clay pl w sp x.1 t x.1) (b := t) (pl := pl) (by omega)
      have hsx := g2 x.1 y1
      have t57 : ∀ (NB : Nat → Nat → Int), (∀ q2 k2, q2 ≠ 55 → NB q2 k2 = M q2 k2) → (∀ k : Nat, (k : Int) < w → NB 55 k = clay pl w sp x.1 t k) → dz_X (dz_E dz_pp xo (d + 2)) dz_pp xo (dz_pp 29) Q 57 [some (dz_r 54), some (dz_i t), some (dz_i (k : Int)), some (dz_i (x.1 : Int))] [] 0 0 (sh, rf, NB) := by
        intro NB b1 b2
        have m6 : NB 54 6 = pl := by rw [b1 _ _ (by omega)]; exact h6
        have m52 : NB 52 k = x.2 := by rw [b1 _ _ (by omega)]; exact x2
        have m55 := b2 x.1 y1
        refine xr_iloadn hc rfl rfl ?_
        refine xr_aloadn hc rfl rfl ?_
        refine xr_getfr hc rfl rfl (by first | assumption | rfl) (by first | assumption | rfl) ?_
        refine xr_iloadn hc rfl rfl ?_
        first | refine xr_iaload hc rfl (by first | assumption | rfl) (by first | omega | (unfold dz_w; omega)) (by first | omega | (unfold dz_w; omega)) ?_ | refine xr_ialoado hc rfl (by first | omega | (unfold dz_w; omega)) (by first | omega | (unfold dz_w; omega)) ?_
        rw [Int.toNat_natCast, m55]
        refine xr_iloadn hc rfl rfl ?_
        refine xr_aloadn hc rfl rfl ?_
        refine xr_getfi hc rfl (Or.inl rfl) (by first | assumption | rfl) ?_
        rw [m6]
        refine xr_calls3 hc rfl (by decide) rfl rfl rfl (Nat.le_of_ble_eq_true rfl) (Nat.zero_le _) (Nat.zero_le _) ?_
        refine S_waitFor (by omega) (by omega) (by omega) ?_
        refine xk_1 ?_
        refine xr_iconst hc rfl ?_
        refine xr_iaddz hc rfl (by first | exact dz_wid (by first | omega | (unfold dz_w; omega)) (by first | omega | (unfold dz_w; omega)) | rfl) ?_
        refine xr_aloadn hc rfl rfl ?_
        refine xr_getfr hc rfl rfl (by first | assumption | rfl) (by first | assumption | rfl) ?_
        refine xr_getfr hc rfl rfl (by first | assumption | rfl) (by first | assumption | rfl) ?_
        refine xr_iloadn hc rfl rfl ?_
        first | refine xr_iaload hc rfl (by first | assumption | rfl) (by first | omega | (unfold dz_w; omega)) (by first | omega | (unfold dz_w; omega)) ?_ | refine xr_ialoado hc rfl (by first | omega | (unfold dz_w; omega)) (by first | omega | (unfold dz_w; omega)) ?_
        rw [Int.toNat_natCast, m52]
        refine xr_iaddz hc rfl (by first | exact dz_wid (by first | omega | (unfold dz_w; omega)) (by first | omega | (unfold dz_w; omega)) | rfl) ?_
        refine xr_iaddz hc rfl (by first | exact dz_wid (by first | omega | (unfold dz_w; omega)) (by first | omega | (unfold dz_w; omega)) | rfl) ?_
        refine xr_istore1 hc rfl rfl ?_
        refine xr_iincz2 hc rfl rfl (by first | exact dz_wid (by first | omega | (unfold dz_w; omega)) (by first | omega | (unfold dz_w; omega)) | rfl) ?_
        refine xr_goto hc rfl (t := 14) rfl ?_
        rw [show t + (wa (clay pl w sp x.1 t x.1) t pl + 1 + x.2) = t + wa (clay pl w sp x.1 t x.1) t pl + 1 + x.2 by omega]
        exact ih (k + 1) _ _ NB _ (fun i y hy => by rw [show k + 1 + i = k + (i + 1) by omega]; exact f1 (i + 1) y (by simpa using hy)) (fun y hy => f2 y (List.mem_cons_of_mem _ hy)) (by omega) (by omega) (by omega) (by omega) b1 b2 hcl.1 g4
      refine xr_iloadn hc rfl rfl ?_
      refine xr_aloadn hc rfl rfl ?_
      refine xr_getfr hc rfl rfl (by first | assumption | rfl) (by first | assumption | rfl) ?_
      refine xr_getfi hc rfl (Or.inl rfl) (by first | assumption | rfl) ?_
      rw [n3]
      refine xr_icmp_ge hc rfl (t := 92) rfl (fun b22 => ?_) (fun b22 => ?_)
      · omega
      · refine xr_aloadn hc rfl rfl ?_
        refine xr_getfr hc rfl rfl (by first | assumption | rfl) (by first | assumption | rfl) ?_
        refine xr_getfr hc rfl rfl (by first | assumption | rfl) (by first | assumption | rfl) ?_
        refine xr_iloadn hc rfl rfl ?_
        first | refine xr_iaload hc rfl (by first | assumption | rfl) (by first | omega | (unfold dz_w; omega)) (by first | omega | (unfold dz_w; omega)) ?_ | refine xr_ialoado hc rfl (by first | omega | (unfold dz_w; omega)) (by first | omega | (unfold dz_w; omega)) ?_
        rw [Int.toNat_natCast, n51]
        refine xr_istore3 hc rfl rfl ?_
        refine xr_aloadn hc rfl rfl ?_
        refine xr_getfr hc rfl rfl (by first | assumption | rfl) (by first | assumption | rfl) ?_
        refine xr_iloadn hc rfl rfl ?_
        first | refine xr_iaload hc rfl (by first | assumption | rfl) (by first | omega | (unfold dz_w; omega)) (by first | omega | (unfold dz_w; omega)) ?_ | refine xr_ialoado hc rfl (by first | omega | (unfold dz_w; omega)) (by first | omega | (unfold dz_w; omega)) ?_
        rw [Int.toNat_natCast, hsx]
        refine xr_bipush hc rfl ?_
        refine xr_icmp_ne hc rfl (t := 57) rfl (fun b43 => ?_) (fun b43 => ?_)
        · first
            | (have ecl : clay pl w sp x.1 t = sp := by unfold clay; rw [if_neg (by omega)]
               exact t57 N g1 (fun k hk => by rw [ecl]; exact g2 k hk))
            | (rw [Int.toNat_natCast]
               refine t57 _ (fun q2 k2 u => by rw [dz_up_ne u, g1 _ _ u]) (fun k hk => ?_)
               rw [ecl, up_fup]
               unfold fup
               split
               · rfl
               · exact g2 k hk)
        · have h9 : sp x.1 = -9 := by omega
          have ecl : clay pl w sp x.1 t = fup sp x.1 (cff pl w sp t pl.toNat 0) := by unfold clay; rw [if_pos h9]
          refine xr_aloadn hc rfl rfl ?_
          refine xr_getfr hc rfl rfl (by first | assumption | rfl) (by first | assumption | rfl) ?_
          refine xr_iloadn hc rfl rfl ?_
          refine xr_aloadn hc rfl rfl ?_
          refine xr_iloadn hc rfl rfl ?_
          refine xr_callv1 hc rfl (by first | assumption | rfl) rfl rfl rfl (Nat.le_of_ble_eq_true rfl) (Nat.zero_le _) (Nat.zero_le _) ?_
          refine S_firstFreeFrom hl n5 n6 (by omega) (by omega) (by omega) ?_
          rw [cff_c (sp2 := sp) (fun k hk => g2 k (by omega))]
          refine xk_1 ?_
          refine xr_iastore hc rfl (by first | assumption | rfl) (by first | omega | (unfold dz_w; omega)) (by first | omega | (unfold dz_w; omega)) ?_
          first
            | (have ecl : clay pl w sp x.1 t = sp := by unfold clay; rw [if_neg (by omega)]
               exact t57 N g1 (fun k hk => by rw [ecl]; exact g2 k hk))
            | (rw [Int.toNat_natCast]
               refine t57 _ (fun q2 k2 u => by rw [dz_up_ne u, g1 _ _ u]) (fun k hk => ?_)
               rw [ecl, up_fup]
               unfold fup
               split
               · rfl
               · exact g2 k hk)
  refine xr_aloadn hc rfl rfl ?_
  refine xr_callv0 hc rfl (by first | assumption | rfl) rfl rfl rfl (Nat.le_of_ble_eq_true rfl) (Nat.zero_le _) (Nat.zero_le _) ?_
  refine S_takeOff (w := w) hl h5 (by omega) (fun N0 a1 a2 a3 => ?_)
  have n5 : N0 50 5 = s 1 := by rw [a1 _ _ (by omega)]; exact T2
  refine xk_0 ?_
  refine xr_aloadn hc rfl rfl ?_
  refine xr_getfr hc rfl rfl (by first | assumption | rfl) (by first | assumption | rfl) ?_
  refine xr_getfi hc rfl (Or.inl rfl) (by first | assumption | rfl) ?_
  rw [n5]
  refine xr_istore1 hc rfl rfl ?_
  refine xr_iconst hc rfl ?_
  refine xr_istore2 hc rfl rfl ?_
  refine lp (t_l pl kd wt nx K s) 0 (s 1) (spf0 s) N0 _ (fun i x hx => by rw [Nat.zero_add]; exact T6 i x hx) hl1.1 (by omega) (by omega) (by omega) (by omega) a1 (fun k hk => ?_) (fun k hk => ?_) rfl
  · unfold spf0
    by_cases e : k = 0
    · rw [if_pos e, e, a2, h0]
    · rw [if_neg e]
      exact a3 k (by omega) hk
  · unfold spf0
    have z := s8 0 (by omega)
    by_cases e : k = 0
    · rw [if_pos e]
      exact Or.inr ⟨z.1, z.2.1⟩
    · rw [if_neg e]
      exact Or.inl rfl
set_option maxRecDepth 100000 in
theorem S_layPlaces {xo : Nat → List Int} {d : Nat} {Q : dz_Q} {sh : List (Nat ⊕ (Nat × Nat))} {rf : Nat → Nat → Nat} {M : Nat → Nat → Int} {rs : Nat → Int} {it : Nat → Nat → Int} {ts : Nat → Int} {ch : Nat → Nat → Int} {tl up lo : Int} {fn : Nat → Int} {w pl : Int} {kd wt nx : Nat → Int} {n : Nat} {hs : Nat → Nat → Int} {kp : Nat → Int} {kh : Nat → Nat → Nat → Int} {r : Int} {q : Nat} {sp : Nat → Int} (hl : cl sh rf) (hR : RX M rs it ts ch tl up lo fn w pl kd wt nx n hs kp kh) (hW : WF rs it ts ch tl up lo fn w pl kd wt nx n hs kp kh) (hr : 0 ≤ r ∧ r ≤ 5) (hq : sh[q]? = some (.inr (0, 6))) (hqr : 55 ≤ q ∧ q ≤ 57) (hsp : ∀ k : Nat, (k : Int) < w → M q k = sp k) (hQ : ∀ M2 : Nat → Nat → Int, (∀ q2 k2, 8 < q2 → M2 q2 k2 = M q2 k2) → RX M2 (fup rs r.toNat w) (rup it r.toNat sp) ts ch tl up lo fn w pl kd wt nx n hs kp kh → Q none (sh, rf, M2)) : dz_E dz_pp xo (d + 1) 108 [dz_r 0, dz_i r, dz_r q] (sh, rf, M) Q := by
  refine ⟨Nat.le_of_ble_eq_true rfl, ?_⟩
  have hc := dz_E_m dz_pp xo (d + 0)
  show dz_X (dz_E dz_pp xo (d + 0)) dz_pp xo (dz_pp 108) Q 0 [some (dz_r 0), some (dz_i r), some (dz_r q)] [] 0 0 (sh, rf, M)
  obtain ⟨c0, c1, c2, c3, c4, c5, c6, c7, c8, c9, c10, c11, c12, c13, c14, c15, c16, c17, c18, c19, c20, c21, c22, c23, c24, c25, c26, c27, c28, c29, c30, c31, c32, c33, c34, c35, c36⟩ := id hl
  obtain ⟨hrow, htxt, htl, hup, hlo, hfn, hdr, hkp, hrb⟩ := id hR
  obtain ⟨wrow, wtxt, wdr, wst, wkp⟩ := id hW
  have n0 : sh[23]? = some (.inl 1) := c14.2.2.2.2.1.1
  have n1 : rf 23 7 = 25 + 1 := c14.2.2.2.2.1.2.2.2.1
  have n2 : sh[25]? = some (.inr (0, 6)) := c14.2.2.2.2.1.2.2.2.2.1
  have n3 : rf 15 1 = 23 + 1 := c14.2.2.2.1
  have n4 : sh[15]? = some (.inl 0) := c14.1
  have n5 : ma_at sh rf 23 := c14.2.2.2.2.1
  have q0 : sh[34]? = some (.inl 1) := c20.1
  have q1 : rf 34 8 = 37 + 1 := c20.2.2.2.2.2.1
  have q2 : sh[37]? = some (.inr (0, 6)) := c20.2.2.2.2.2.2.1
  have q3 : sh[50]? = some (.inl 4) := c26.1
  have hw6 := WF_w hW
  have hM0 : M 23 0 = w := hdr.2.1.1
  have c3r := c3 r.toNat (by omega)
  have c4r := c4 r.toNat (by omega)
  have cp : ∀ q2 k2, q2 ≠ 2 + r.toNat → dz_cpy M q (2 + r.toNat) (Int.toNat 0) (Int.toNat 0) w.toNat q2 k2 = M q2 k2 := fun q2 k2 u => by
    unfold dz_cpy
    rw [if_neg (fun z => u z.1)]
  refine xr_aloadn hc rfl rfl ?_
  refine xr_iconst hc rfl ?_
  refine xr_aloadn hc rfl rfl ?_
  refine xr_getfr hc rfl rfl (by first | assumption | rfl) (by first | assumption | rfl) ?_
  refine xr_iloadn hc rfl rfl ?_
  refine xr_aaload hc rfl (by first | assumption | rfl) (by decide) (by first | omega | (unfold dz_w; omega)) (by first | omega | (unfold dz_w; omega)) (by first | assumption | rfl) ?_
  refine xr_iconst hc rfl ?_
  refine xr_aloadn hc rfl rfl ?_
  refine xr_getfr hc rfl rfl (by first | assumption | rfl) (by first | assumption | rfl) ?_
  refine xr_getfr hc rfl rfl (by first | assumption | rfl) (by first | assumption | rfl) ?_
  refine xr_getfi hc rfl (Or.inl rfl) (by first | assumption | rfl) ?_
  rw [hM0]
  refine xr_copy hc rfl rfl (by first | assumption | rfl) (by first | assumption | rfl) (by first | omega | (unfold dz_w; omega)) (by first | omega | (unfold dz_w; omega)) (by first | omega | (unfold dz_w; omega)) (by first | omega | (unfold dz_w; omega)) (by first | omega | (unfold dz_w; omega)) (by first | decide | (simp [dz_cats]; done) | exact Nat.le_of_ble_eq_true rfl) ?_
  refine xr_aloadn hc rfl rfl ?_
  refine xr_getfr hc rfl rfl (by first | assumption | rfl) (by first | assumption | rfl) ?_
  refine xr_iloadn hc rfl rfl ?_
  refine xr_aloadn hc rfl rfl ?_
  refine xr_getfr hc rfl rfl (by first | assumption | rfl) (by first | assumption | rfl) ?_
  refine xr_getfr hc rfl rfl (by first | assumption | rfl) (by first | assumption | rfl) ?_
  refine xr_getfi hc rfl (Or.inl rfl) (by first | assumption | rfl) ?_
  rw [cp _ _ (by omega), hM0]
  refine xr_iastore hc rfl (by first | assumption | rfl) (by first | omega | (unfold dz_w; omega)) (by first | omega | (unfold dz_w; omega)) ?_
  refine xr_return hc rfl rfl (Nat.zero_le _) (Nat.zero_le _) ?_
  refine hQ _ (fun q2 k2 u => by rw [dz_up_ne (by omega), cp _ _ (by omega)]) ⟨fun r2 hr2 => ?_, txtX_fr htxt (fun q2 k2 u1 u2 => by rw [dz_up_ne (by omega), cp _ _ (by omega)]), Eq.trans (by rw [dz_up_ne (by omega), cp _ _ (by omega)]) htl, Eq.trans (by rw [dz_up_ne (by omega), cp _ _ (by omega)]) hup, Eq.trans (by rw [dz_up_ne (by omega), cp _ _ (by omega)]) hlo, fndX_fr hfn (by rw [dz_up_ne (by omega), cp _ _ (by omega)]) (fun k2 => by rw [dz_up_ne (by omega), cp _ _ (by omega)]), drX_fr hdr (fun q2 k2 u1 u2 => by rw [dz_up_ne (by omega), cp _ _ (by omega)]), kepX_fr hkp (fun q2 k2 u1 u2 => by rw [dz_up_ne (by omega), cp _ _ (by omega)]), rbX_fr hrb (fun q2 k2 u1 => by rw [dz_up_ne (by omega), cp _ _ (by omega)])⟩
  rw [dz_up_ne (show 2 + r2 ≠ 8 by omega), up_fup]
  by_cases e : r2 = r.toNat
  · subst e
    rw [fup_eq, fup_eq, rup_eq]
    refine ⟨rfl, fun k hk => ?_⟩
    rw [← hsp k hk]
    unfold dz_cpy
    rw [if_pos ⟨rfl, by omega, by omega⟩]
    congr 1
    omega
  · rw [fup_ne e, fup_ne e, rup_ne e, cp _ _ (by omega)]
    exact ⟨(hrow r2 hr2).1, fun k hk => by rw [cp _ _ (by omega)]; exact (hrow r2 hr2).2 k hk⟩
set_option maxRecDepth 100000 in
theorem X_clerk {xo : Nat → List Int} {d : Nat} {Q : dz_Q} {sh : List (Nat ⊕ (Nat × Nat))} {rf : Nat → Nat → Nat} {M : Nat → Nat → Int} {rs : Nat → Int} {it : Nat → Nat → Int} {ts : Nat → Int} {ch : Nat → Nat → Int} {tl up lo : Int} {fn : Nat → Int} {w pl : Int} {kd wt nx : Nat → Int} {n : Nat} {hs : Nat → Nat → Int} {kp : Nat → Int} {kh : Nat → Nat → Nat → Int} {m r : Int} (hx : xo 2 = dz_xs2) (hl : cl sh rf) (hR : RX M rs it ts ch tl up lo fn w pl kd wt nx n hs kp kh) (hW : WF rs it ts ch tl up lo fn w pl kd wt nx n hs kp kh) (hQ : ∀ M2 : Nat → Nat → Int, (∀ q2 k2, 115 ≤ q2 → M2 q2 k2 = M q2 k2) → RX M2 (o_clerk rs it w pl kd wt nx (hs n) m r).2.1 (o_clerk rs it w pl kd wt nx (hs n) m r).2.2 ts ch tl up lo fn w pl kd wt nx n hs kp kh → Q (some (dz_i ((o_clerk rs it w pl kd wt nx (hs n) m r).1))) (sh, rf, M2)) : dz_E dz_pp xo (d + 5) 80 [dz_r 0, dz_i m, dz_i r] (sh, rf, M) Q := by
  refine ⟨Nat.le_of_ble_eq_true rfl, ?_⟩
  have hc := dz_E_m dz_pp xo (d + 4)
  show dz_X (dz_E dz_pp xo (d + 4)) dz_pp xo (dz_pp 80) Q 0 [some (dz_r 0), some (dz_i m), some (dz_i r), none] [] 0 0 (sh, rf, M)
  obtain ⟨c0, c1, c2, c3, c4, c5, c6, c7, c8, c9, c10, c11, c12, c13, c14, c15, c16, c17, c18, c19, c20, c21, c22, c23, c24, c25, c26, c27, c28, c29, c30, c31, c32, c33, c34, c35, c36⟩ := id hl
  obtain ⟨hrow, htxt, htl, hup, hlo, hfn, hdr, hkp, hrb⟩ := id hR
  obtain ⟨wrow, wtxt, wdr, wst, wkp⟩ := id hW
  have n0 : sh[23]? = some (.inl 1) := c14.2.2.2.2.1.1
  have n1 : rf 23 7 = 25 + 1 := c14.2.2.2.2.1.2.2.2.1
  have n2 : sh[25]? = some (.inr (0, 6)) := c14.2.2.2.2.1.2.2.2.2.1
  have n3 : rf 15 1 = 23 + 1 := c14.2.2.2.1
  have n4 : sh[15]? = some (.inl 0) := c14.1
  have n5 : ma_at sh rf 23 := c14.2.2.2.2.1
  have q0 : sh[34]? = some (.inl 1) := c20.1
  have q1 : rf 34 8 = 37 + 1 := c20.2.2.2.2.2.1
  have q2 : sh[37]? = some (.inr (0, 6)) := c20.2.2.2.2.2.2.1
  have q3 : sh[50]? = some (.inl 4) := c26.1
  have k0 : sh[54]? = some (.inl 2) := c28.1
  have k1 : rf 54 1 = 55 + 1 := c28.2.1
  have k2 : sh[55]? = some (.inr (0, 6)) := c28.2.2.1
  have hw6 := WF_w hW
  have hM0 : M 23 0 = w := hdr.2.1.1
  have hM1 : M 23 1 = pl := hdr.2.1.2.1
  have hsp0 : ∀ i : Nat, (i : Int) < w → M 25 i = hs n (5 + i) := fun i hi => (hdr.2.1.2.2.2.2.2.2 i hi).2.1
  refine xr_iloadn hc rfl rfl ?_
  refine xr_calls1 hc rfl (by decide) rfl rfl rfl (Nat.le_of_ble_eq_true rfl) (Nat.zero_le _) (Nat.zero_le _) ?_
  refine S_isRow (fun u7 v7 => ?_) (fun u7 => ?_)
  · refine xk_1 ?_
    refine xr_iff hc rfl (by simp [dz_cmp]) ?_
    refine xr_aloadn hc rfl rfl ?_
    refine xr_iloadn hc rfl rfl ?_
    refine xr_bipush hc rfl ?_
    refine xr_callv2 hc rfl (by first | assumption | rfl) rfl rfl rfl (Nat.le_of_ble_eq_true rfl) (Nat.zero_le _) (Nat.zero_le _) ?_
    refine S_refusedSteps hl hR hW (fun u1 => ?_) (fun u1 v1 hw0 => ?_) (fun u1 v1 hw0 => ?_)
    · refine xk_1 ?_
      refine xr_goto hc rfl (t := 18) rfl ?_
      refine xr_istore3 hc rfl rfl ?_
      refine xr_iloadn hc rfl rfl ?_
      refine xr_iff hc rfl (by simp [dz_cmp]) ?_
      refine xr_iloadn hc rfl rfl ?_
      refine xr_ireturn hc rfl rfl (Nat.zero_le _) (Nat.zero_le _) ?_
      simp only [o_clerk] at hQ
      repeat (first | rw [if_pos (by omega)] at hQ | rw [if_neg (by omega)] at hQ)
      try dsimp only at hQ
      exact hQ M (fun _ _ _ => rfl) hR
    · refine xk_1 ?_
      refine xr_goto hc rfl (t := 18) rfl ?_
      refine xr_istore3 hc rfl rfl ?_
      refine xr_iloadn hc rfl rfl ?_
      refine xr_iff hc rfl (by simp [dz_cmp]) ?_
      refine xr_iloadn hc rfl rfl ?_
      refine xr_ireturn hc rfl rfl (Nat.zero_le _) (Nat.zero_le _) ?_
      simp only [o_clerk] at hQ
      repeat (first | rw [if_pos (by omega)] at hQ | rw [if_neg (by omega)] at hQ)
      try dsimp only at hQ
      exact hQ M (fun _ _ _ => rfl) hR
    · refine xk_1 ?_
      refine xr_goto hc rfl (t := 18) rfl ?_
      refine xr_istore3 hc rfl rfl ?_
      refine xr_iloadn hc rfl rfl ?_
      refine xr_ift hc rfl (t := 25) rfl (by simp [dz_cmp]) ?_
      refine xr_aloadn hc rfl rfl ?_
      refine xr_iloadn hc rfl rfl ?_
      refine xr_callv1 hc rfl (by first | assumption | rfl) rfl rfl rfl (Nat.le_of_ble_eq_true rfl) (Nat.zero_le _) (Nat.zero_le _) ?_
      have hp := WF_p hW hw0
      have hst := wst.2 n (Nat.le_refl n)
      obtain ⟨p1, p2, p3, p4, p5⟩ := id hp
      obtain ⟨st0, st1, st2, st3, st4, st5, st6, st7, st8⟩ := id hst
      refine S_followSteps hx hl hR hW hw0 (by omega) (fun M1 K f1 f2 f3 f4 f5 f6 => ?_)
      refine xk_0 ?_
      refine xr_aloadn hc rfl rfl ?_
      refine xr_getfr hc rfl rfl (by first | assumption | rfl) (by first | assumption | rfl) ?_
      refine xr_aloadn hc rfl rfl ?_
      refine xr_getfr hc rfl rfl (by first | assumption | rfl) (by first | assumption | rfl) ?_
      refine xr_getfr hc rfl rfl (by first | assumption | rfl) (by first | assumption | rfl) ?_
      refine xr_callv1 hc rfl (by first | assumption | rfl) rfl rfl rfl (Nat.le_of_ble_eq_true rfl) (Nat.zero_le _) (Nat.zero_le _) ?_
      refine S_pbegin hl (fun M2 g1 g2 g3 g4 => ?_)
      have L1 : ∀ q2 k2, ¬ (34 ≤ q2 ∧ q2 ≤ 40) → ¬ (50 ≤ q2 ∧ q2 ≤ 55) → M2 q2 k2 = M q2 k2 := fun q2 k2 v1 v2 => by rw [g1 _ _ (by omega) (by omega), f1 _ _ (by omega) (by omega)]
      have L2 := TR_fr f3 (M2 := M2) (fun q k v1 v2 => g1 _ _ (by omega) (by omega))
      have L3 : ∀ i : Nat, (i : Int) < w → M2 55 i = hs n (5 + i) := fun i hi => by rw [g4 i (by omega), f1 _ _ (by omega) (by omega)]; exact hsp0 i hi
      have LR : scX M M2 := ⟨fun q2 k2 u => L1 _ _ (by omega) (by omega), fun q2 k2 u => by
        rcases u with ⟨a, b⟩ | u
        · rw [a, b, g1 _ _ (by omega) (by omega), f2.2.2.2.2.2.2.2.2.1, hrb.1]
        · exact L1 _ _ (by omega) (by omega)⟩
      have g5 : M2 54 5 = w := by rw [g2, f1 _ _ (by omega) (by omega), hM0]
      have g6 : M2 54 6 = pl := by rw [g3, f1 _ _ (by omega) (by omega), hM1]
      have eL := TR_end f4 f5
      refine xk_0 ?_
      refine xr_aloadn hc rfl rfl ?_
      refine xr_getfr hc rfl rfl (by first | assumption | rfl) (by first | assumption | rfl) ?_
      refine xr_callv0 hc rfl (by first | assumption | rfl) rfl rfl rfl (Nat.le_of_ble_eq_true rfl) (Nat.zero_le _) (Nat.zero_le _) ?_
      refine S_layByFirstUse hl hp hst (by omega) L2 g5 g6 (L3 0 (by omega)) (fun M3 a1 a2 => ?_)
      rw [← eL] at a2
      have LR3 : scX M M3 := scX_trans LR ⟨fun q2 k2 u => a1 _ _ (by omega), fun q2 k2 u => a1 _ _ (by omega)⟩
      have hR3 := RX_scr hR LR3
      have hln := t_l_in hp m.toNat _ _ hst (by omega)
      have hok0 : spok w pl (spf0 (hs n)) := fun k hk => by
        unfold spf0
        have z := st8 0 (by omega)
        by_cases e : k = 0
        · rw [if_pos e]
          exact Or.inr ⟨z.1, z.2.1⟩
        · rw [if_neg e]
          exact Or.inl rfl
      have hok1 := ck_ok hw6 (by omega) (t_l pl kd wt nx m.toNat (hs n)) (spf0 (hs n)) (hs n 1) (fun x hx => (hln.1 x hx).1) hok0
      have hrg := fillr_in (w := w) (P := pl.toNat) (W := w.toNat) (by omega) w.toNat 0 0 (ck_l pl w (t_l pl kd wt nx m.toNat (hs n)) (spf0 (hs n)) (hs n 1)).1 (by omega) (by omega) (fun k hk => by
        rcases hok1 k (by omega) with z | z
        · exact Or.inl ⟨z, by omega⟩
        · exact Or.inr (by omega))
      have hbt : t_at pl kd wt nx (ck_sp pl kd wt nx w (hs n) m.toNat) m.toNat (hs n) = (ck_l pl w (t_l pl kd wt nx m.toNat (hs n)) (spf0 (hs n)) (hs n 1)).2 - hs n 1 := by
        unfold t_at
        rw [ck_b (sp3 := ck_sp pl kd wt nx w (hs n) m.toNat) hw6 (by omega) _ (spf0 (hs n)) (hs n 1) (fun x hx => (hln.1 x hx).1) hok0 (fun j hj => fillr_keep _ _ _ _ hj)]
      refine xk_0 ?_
      refine xr_aloadn hc rfl rfl ?_
      refine xr_iloadn hc rfl rfl ?_
      refine xr_aloadn hc rfl rfl ?_
      refine xr_getfr hc rfl rfl (by first | assumption | rfl) (by first | assumption | rfl) ?_
      refine xr_getfr hc rfl rfl (by first | assumption | rfl) (by first | assumption | rfl) ?_
      refine xr_callv2 hc rfl (by first | assumption | rfl) rfl rfl rfl (Nat.le_of_ble_eq_true rfl) (Nat.zero_le _) (Nat.zero_le _) ?_
      refine S_layPlaces (sp := ck_sp pl kd wt nx w (hs n) m.toNat) hl hR3 hW (by omega) k2 (by omega) a2 (fun M4 b1 b2 => ?_)
      refine xk_0 ?_
      refine xr_aloadn hc rfl rfl ?_
      refine xr_getfr hc rfl rfl (by first | assumption | rfl) (by first | assumption | rfl) ?_
      refine xr_aloadn hc rfl rfl ?_
      refine xr_getfr hc rfl rfl (by first | assumption | rfl) (by first | assumption | rfl) ?_
      refine xr_getfr hc rfl rfl (by first | assumption | rfl) (by first | assumption | rfl) ?_
      refine xr_iloadn hc rfl rfl ?_
      refine xr_callv2 hc rfl (by first | assumption | rfl) rfl rfl rfl (Nat.le_of_ble_eq_true rfl) (Nat.zero_le _) (Nat.zero_le _) ?_
      refine S_beatsAt (N := m.toNat) (sp := ck_sp pl kd wt nx w (hs n) m.toNat) hp hst (by omega) c26 (TR_fr L2 (fun q k v1 v2 => by rw [b1 _ _ (by omega), a1 _ _ (by omega)])) f4 (by omega) k2 (fun i hi => ?_) (fun i hi => ?_) (by omega) ?_
      · rw [b1 _ _ (by omega), a2 i hi]
        exact hrg i (by omega)
      · rw [b1 _ _ (by omega), a2 i hi]
        rfl
      rw [hbt]
      refine xk_1 ?_
      refine xr_ireturn hc rfl rfl (Nat.zero_le _) (Nat.zero_le _) ?_
      simp only [o_clerk] at hQ
      rw [if_neg (by omega), if_neg hw0] at hQ
      exact hQ M4 (fun q2 k2 u => by rw [b1 _ _ (by omega), a1 _ _ (by omega), L1 _ _ (by omega) (by omega)]) b2
  · refine xk_1 ?_
    refine xr_ift hc rfl (t := 17) rfl (by simp [dz_cmp]) ?_
    refine xr_iconst hc rfl ?_
    refine xr_istore3 hc rfl rfl ?_
    refine xr_iloadn hc rfl rfl ?_
    refine xr_iff hc rfl (by simp [dz_cmp]) ?_
    refine xr_iloadn hc rfl rfl ?_
    refine xr_ireturn hc rfl rfl (Nat.zero_le _) (Nat.zero_le _) ?_
    simp only [o_clerk] at hQ
    repeat (first | rw [if_pos (by omega)] at hQ | rw [if_neg (by omega)] at hQ)
    try dsimp only at hQ
    exact hQ M (fun _ _ _ => rfl) hR
