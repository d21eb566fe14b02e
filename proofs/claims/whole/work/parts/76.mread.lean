/-! The other one reads a text. Written by l2_76.py. -/
set_option maxRecDepth 100000 in
theorem D_here {xo : Nat → List Int} {d : Nat} {Q : dz_Q} {sh : List (Nat ⊕ (Nat × Nat))} {rf : Nat → Nat → Nat} {M : Nat → Nat → Int} {tx nn p : Nat} {c : Nat → Int} (hl : ml sh rf) (htx : tx < 4) (hn : nn ≤ 60) (hc2 : ∀ k, k < nn → M 123 (60 * tx + k) = c k ∧ -128 ≤ c k ∧ c k ≤ 127) (h1f : M 115 15 = ((60 * tx : Nat) : Int)) (h2 : M 115 17 = (nn : Int)) (h3 : M 115 16 = (p : Int)) (hp : p ≤ nn) (hlt : p < nn) (hQ : Q (some (dz_i (c p))) (sh, rf, M)) : dz_E dz_pp xo (d + 1) 136 [dz_r 115] (sh, rf, M) Q := by
  refine ⟨Nat.le_of_ble_eq_true rfl, ?_⟩
  have hc := dz_E_m dz_pp xo (d + 0)
  show dz_X (dz_E dz_pp xo (d + 0)) dz_pp xo (dz_pp 136) Q 0 [some (dz_r 115)] [] 0 0 (sh, rf, M)
  obtain ⟨c0, c1, c2, c3, c4, c5, c6, c7, c8, c9, c10, c11, c12, c13, c14, c15, c16, c17, c18, c19, c20, c21, c22, c23, c24, c25, c26, c27, c28, c29⟩ := id hl
  obtain ⟨z1, z2, z3⟩ := hc2 p hlt
  have ix : (((60 * tx : Nat) : Int) + (p : Int)).toNat = 60 * tx + p := by omega
  refine xr_aloadn hc rfl rfl ?_
  refine xr_getfr hc rfl rfl (by first | assumption | rfl) (by first | assumption | rfl) ?_
  refine xr_aloadn hc rfl rfl ?_
  refine xr_getfi hc rfl (Or.inl rfl) (by first | assumption | rfl) ?_
  rw [h1f]
  refine xr_aloadn hc rfl rfl ?_
  refine xr_getfi hc rfl (Or.inl rfl) (by first | assumption | rfl) ?_
  rw [h3]
  refine xr_iaddz hc rfl (by first | exact dz_wid (by first | omega | (unfold dz_w; omega)) (by first | omega | (unfold dz_w; omega)) | rfl) ?_
  first | refine xr_iaload hc rfl (by first | assumption | rfl) (by first | omega | (unfold dz_w; omega)) (by first | omega | (unfold dz_w; omega)) ?_ | refine xr_ialoado hc rfl (by first | omega | (unfold dz_w; omega)) (by first | omega | (unfold dz_w; omega)) ?_
  rw [ix, z1]
  refine xr_ireturn hc rfl rfl (Nat.zero_le _) (Nat.zero_le _) ?_
  exact hQ
set_option maxRecDepth 100000 in
theorem D_skip {xo : Nat → List Int} {d : Nat} {Q : dz_Q} {sh : List (Nat ⊕ (Nat × Nat))} {rf : Nat → Nat → Nat} {M : Nat → Nat → Int} {tx nn p : Nat} {c : Nat → Int} (hl : ml sh rf) (htx : tx < 4) (hn : nn ≤ 60) (hc2 : ∀ k, k < nn → M 123 (60 * tx + k) = c k ∧ -128 ≤ c k ∧ c k ≤ 127) (h1f : M 115 15 = ((60 * tx : Nat) : Int)) (h2 : M 115 17 = (nn : Int)) (h3 : M 115 16 = (p : Int)) (hp : p ≤ nn) (hQ : ∀ M2 : Nat → Nat → Int, (∀ q2 k2, ¬ (q2 = 115 ∧ k2 = 16) → M2 q2 k2 = M q2 k2) → M2 115 16 = (skp c nn p : Int) → Q none (sh, rf, M2)) : dz_E dz_pp xo (d + 2) 137 [dz_r 115] (sh, rf, M) Q := by
  refine ⟨Nat.le_of_ble_eq_true rfl, ?_⟩
  have hc := dz_E_m dz_pp xo (d + 1)
  show dz_X (dz_E dz_pp xo (d + 1)) dz_pp xo (dz_pp 137) Q 0 [some (dz_r 115)] [] 0 0 (sh, rf, M)
  obtain ⟨c0, c1, c2, c3, c4, c5, c6, c7, c8, c9, c10, c11, c12, c13, c14, c15, c16, c17, c18, c19, c20, c21, c22, c23, c24, c25, c26, c27, c28, c29⟩ := id hl
  have lp : ∀ (m_ : Nat) (a : Nat) (N : Nat → Nat → Int), a + m_ = nn → (∀ q2 k2, ¬ (q2 = 115 ∧ k2 = 16) → N q2 k2 = M q2 k2) → N 115 16 = (a : Int) → skp c nn p = sk c m_ a → dz_X (dz_E dz_pp xo (d + 1)) dz_pp xo (dz_pp 137) Q 0 [some (dz_r 115)] [] 0 0 (sh, rf, N) := by
    intro m_
    induction m_ with
    | zero =>
      intro a N ha g1 g2 g3
      have e2 : N 115 17 = (nn : Int) := by rw [g1 _ _ (by omega)]; exact h2
      have g3b : skp c nn p = a := g3
      refine xr_aloadn hc rfl rfl ?_
      refine xr_getfi hc rfl (Or.inl rfl) (by first | assumption | rfl) ?_
      rw [g2]
      refine xr_aloadn hc rfl rfl ?_
      refine xr_getfi hc rfl (Or.inl rfl) (by first | assumption | rfl) ?_
      rw [e2]
      refine xr_icmp_ge hc rfl (t := 33) rfl (fun b8 => ?_) (fun b8 => ?_)
      · refine xr_return hc rfl rfl (Nat.zero_le _) (Nat.zero_le _) ?_
        exact hQ N g1 (by rw [g2, g3b])
      · omega
    | succ m_ ih =>
      intro a N ha g1 g2 g3
      have e2 : N 115 17 = (nn : Int) := by rw [g1 _ _ (by omega)]; exact h2
      have e15 : N 115 15 = ((60 * tx : Nat) : Int) := by rw [g1 _ _ (by omega)]; exact h1f
      have es : sk c (m_ + 1) a = if c a = 32 then sk c m_ (a + 1) else a := rfl
      refine xr_aloadn hc rfl rfl ?_
      refine xr_getfi hc rfl (Or.inl rfl) (by first | assumption | rfl) ?_
      rw [g2]
      refine xr_aloadn hc rfl rfl ?_
      refine xr_getfi hc rfl (Or.inl rfl) (by first | assumption | rfl) ?_
      rw [e2]
      refine xr_icmp_ge hc rfl (t := 33) rfl (fun b8 => ?_) (fun b8 => ?_)
      · refine xr_return hc rfl rfl (Nat.zero_le _) (Nat.zero_le _) ?_
        first
          | (exfalso; omega)
          | exact hQ N g1 (by rw [g2, g3, es, if_neg (by omega)])
      · refine xr_aloadn hc rfl rfl ?_
        refine xr_callv0 hc rfl (by first | assumption | rfl) rfl rfl rfl (Nat.le_of_ble_eq_true rfl) (Nat.zero_le _) (Nat.zero_le _) ?_
        refine D_here (tx := tx) (nn := nn) (p := a) (c := c) hl htx hn (fun k hk => by rw [g1 _ _ (by omega)]; exact hc2 k hk) e15 e2 g2 (by omega) (by omega) ?_
        refine xk_1 ?_
        refine xr_bipush hc rfl ?_
        refine xr_icmp_ne hc rfl (t := 33) rfl (fun b17 => ?_) (fun b17 => ?_)
        · refine xr_return hc rfl rfl (Nat.zero_le _) (Nat.zero_le _) ?_
          first
            | (exfalso; omega)
            | exact hQ N g1 (by rw [g2, g3, es, if_neg (by omega)])
        · refine xr_aloadn hc rfl rfl ?_
          refine xr_dup hc rfl rfl ?_
          refine xr_getfi hc rfl (Or.inl rfl) (by first | assumption | rfl) ?_
          rw [g2]
          refine xr_iconst hc rfl ?_
          refine xr_iaddz hc rfl (by first | exact dz_wid (by first | omega | (unfold dz_w; omega)) (by first | omega | (unfold dz_w; omega)) | rfl) ?_
          refine xr_putfi hc rfl rfl (by first | assumption | rfl) ?_
          refine xr_goto hc rfl (t := 0) rfl ?_
          exact ih (a + 1) _ (by omega) (fun q2 k2 v => by rw [dz_up_o (by omega), g1 _ _ v]) (by rw [dz_up_eq]; omega) (by rw [g3, es, if_pos (by omega)])
  exact lp (nn - p) p M (by omega) (fun _ _ _ => rfl) h3 rfl
set_option maxRecDepth 100000 in
theorem D_figure {xo : Nat → List Int} {d : Nat} {Q : dz_Q} {sh : List (Nat ⊕ (Nat × Nat))} {rf : Nat → Nat → Nat} {M : Nat → Nat → Int} {tx nn p : Nat} {c : Nat → Int} (hl : ml sh rf) (htx : tx < 4) (hn : nn ≤ 60) (hc2 : ∀ k, k < nn → M 123 (60 * tx + k) = c k ∧ -128 ≤ c k ∧ c k ≤ 127) (h1f : M 115 15 = ((60 * tx : Nat) : Int)) (h2 : M 115 17 = (nn : Int)) (h3 : M 115 16 = (p : Int)) (hp : p ≤ nn) {lo hi : Int} (hlo : 0 ≤ lo ∧ lo ≤ 9) (hhi : -1 ≤ hi ∧ hi ≤ 9) (h1 : fig c nn lo hi p → ∀ M2 : Nat → Nat → Int, (∀ q2 k2, ¬ (q2 = 115 ∧ k2 = 16) → M2 q2 k2 = M q2 k2) → M2 115 16 = ((p + 1 : Nat) : Int) → Q (some (dz_i (c p - 48))) (sh, rf, M2)) (h0 : ¬ fig c nn lo hi p → Q (some (dz_i (-9))) (sh, rf, M)) : dz_E dz_pp xo (d + 2) 138 [dz_r 115, dz_i lo, dz_i hi] (sh, rf, M) Q := by
  refine ⟨Nat.le_of_ble_eq_true rfl, ?_⟩
  have hc := dz_E_m dz_pp xo (d + 1)
  show dz_X (dz_E dz_pp xo (d + 1)) dz_pp xo (dz_pp 138) Q 0 [some (dz_r 115), some (dz_i lo), some (dz_i hi)] [] 0 0 (sh, rf, M)
  obtain ⟨c0, c1, c2, c3, c4, c5, c6, c7, c8, c9, c10, c11, c12, c13, c14, c15, c16, c17, c18, c19, c20, c21, c22, c23, c24, c25, c26, c27, c28, c29⟩ := id hl
  have ix : (((60 * tx : Nat) : Int) + ((p : Int) + 1) - 1).toNat = 60 * tx + p := by omega
  refine xr_aloadn hc rfl rfl ?_
  refine xr_getfi hc rfl (Or.inl rfl) (by first | assumption | rfl) ?_
  rw [h3]
  refine xr_aloadn hc rfl rfl ?_
  refine xr_getfi hc rfl (Or.inl rfl) (by first | assumption | rfl) ?_
  rw [h2]
  refine xr_icmp_eq hc rfl (t := 32) rfl (fun b8 => ?_) (fun b8 => ?_)
  · refine xr_bipush hc rfl ?_
    refine xr_ireturn hc rfl rfl (Nat.zero_le _) (Nat.zero_le _) ?_
    exact h0 (fun z => by have z1 := z.1; have z2 := z.2; omega)
  · obtain ⟨z1, z2, z3⟩ := hc2 p (by omega)
    refine xr_aloadn hc rfl rfl ?_
    refine xr_callv0 hc rfl (by first | assumption | rfl) rfl rfl rfl (Nat.le_of_ble_eq_true rfl) (Nat.zero_le _) (Nat.zero_le _) ?_
    refine D_here hl htx hn hc2 h1f h2 h3 hp (by omega) ?_
    refine xk_1 ?_
    refine xr_i2l hc rfl ?_
    refine xr_bipush hc rfl ?_
    refine xr_iloadn hc rfl rfl ?_
    refine xr_iaddz hc rfl (by first | exact dz_wid (by first | omega | (unfold dz_w; omega)) (by first | omega | (unfold dz_w; omega)) | rfl) ?_
    refine xr_i2l hc rfl ?_
    refine xr_bipush hc rfl ?_
    refine xr_iloadn hc rfl rfl ?_
    refine xr_iaddz hc rfl (by first | exact dz_wid (by first | omega | (unfold dz_w; omega)) (by first | omega | (unfold dz_w; omega)) | rfl) ?_
    refine xr_i2l hc rfl ?_
    refine xr_calls3 hc rfl (by decide) rfl rfl rfl (Nat.le_of_ble_eq_true rfl) (Nat.zero_le _) (Nat.zero_le _) ?_
    refine S_in (fun u1 v1 => ?_) (fun u1 => ?_)
    · refine xk_1 ?_
      refine xr_ift hc rfl (t := 35) rfl (by simp [dz_cmp]) ?_
      refine xr_aloadn hc rfl rfl ?_
      refine xr_dup hc rfl rfl ?_
      refine xr_getfi hc rfl (Or.inl rfl) (by first | assumption | rfl) ?_
      rw [h3]
      refine xr_iconst hc rfl ?_
      refine xr_iaddz hc rfl (by first | exact dz_wid (by first | omega | (unfold dz_w; omega)) (by first | omega | (unfold dz_w; omega)) | rfl) ?_
      refine xr_putfi hc rfl rfl (by first | assumption | rfl) ?_
      refine xr_aloadn hc rfl rfl ?_
      refine xr_getfr hc rfl rfl (by first | assumption | rfl) (by first | assumption | rfl) ?_
      refine xr_aloadn hc rfl rfl ?_
      refine xr_getfi hc rfl (Or.inl rfl) (by first | assumption | rfl) ?_
      rw [dz_up_k (by omega), h1f]
      refine xr_aloadn hc rfl rfl ?_
      refine xr_getfi hc rfl (Or.inl rfl) (by first | assumption | rfl) ?_
      rw [dz_up_eq]
      refine xr_iaddz hc rfl (by first | exact dz_wid (by first | omega | (unfold dz_w; omega)) (by first | omega | (unfold dz_w; omega)) | rfl) ?_
      refine xr_iconst hc rfl ?_
      refine xr_isubz hc rfl (by first | exact dz_wid (by first | omega | (unfold dz_w; omega)) (by first | omega | (unfold dz_w; omega)) | rfl) ?_
      first | refine xr_iaload hc rfl (by first | assumption | rfl) (by first | omega | (unfold dz_w; omega)) (by first | omega | (unfold dz_w; omega)) ?_ | refine xr_ialoado hc rfl (by first | omega | (unfold dz_w; omega)) (by first | omega | (unfold dz_w; omega)) ?_
      rw [ix, dz_up_ne (by omega), z1]
      refine xr_bipush hc rfl ?_
      refine xr_isubz hc rfl (by first | exact dz_wid (by first | omega | (unfold dz_w; omega)) (by first | omega | (unfold dz_w; omega)) | rfl) ?_
      refine xr_ireturn hc rfl rfl (Nat.zero_le _) (Nat.zero_le _) ?_
      refine h1 ⟨by omega, by omega, by omega⟩ _ (fun q2 k2 v => by rw [dz_up_o (by omega)]) (by rw [dz_up_eq]; omega)
    · refine xk_1 ?_
      refine xr_iff hc rfl (by simp [dz_cmp]) ?_
      refine xr_bipush hc rfl ?_
      refine xr_ireturn hc rfl rfl (Nat.zero_le _) (Nat.zero_le _) ?_
      exact h0 (fun z => by have z1 := z.1; have z2 := z.2; omega)
set_option maxRecDepth 100000 in
theorem D_readsPlaces {xo : Nat → List Int} {d : Nat} {Q : dz_Q} {sh : List (Nat ⊕ (Nat × Nat))} {rf : Nat → Nat → Nat} {M : Nat → Nat → Int} {tx nn p : Nat} {c : Nat → Int} (hl : ml sh rf) (htx : tx < 4) (hn : nn ≤ 60) (hc2 : ∀ k, k < nn → M 123 (60 * tx + k) = c k ∧ -128 ≤ c k ∧ c k ≤ 127) (h1f : M 115 15 = ((60 * tx : Nat) : Int)) (h2 : M 115 17 = (nn : Int)) (h3 : M 115 16 = (p : Int)) (hp : p ≤ nn) (hp0 : p = 0) (h1 : (rh c nn < nn ∧ c (rh c nn) = 100) → fig c nn 6 9 (rh c nn + 1) → ∀ M2 : Nat → Nat → Int, (∀ q2 k2, ¬ (q2 = 115 ∧ k2 = 16) → ¬ (q2 = 115 ∧ k2 = 18) → M2 q2 k2 = M q2 k2) → M2 115 16 = ((rh c nn + 2 : Nat) : Int) → M2 115 18 = c (rh c nn + 1) - 48 → Q (some (dz_i 1)) (sh, rf, M2)) (h0 : ¬ (rh c nn < nn ∧ c (rh c nn) = 100) → ∀ M2 : Nat → Nat → Int, (∀ q2 k2, ¬ (q2 = 115 ∧ k2 = 16) → ¬ (q2 = 115 ∧ k2 = 18) → M2 q2 k2 = M q2 k2) → M2 115 16 = (rh c nn : Int) → Q (some (dz_i 0)) (sh, rf, M2)) (h4 : (rh c nn < nn ∧ c (rh c nn) = 100) → ¬ fig c nn 6 9 (rh c nn + 1) → ∀ M2 : Nat → Nat → Int, (∀ q2 k2, ¬ (q2 = 115 ∧ k2 = 16) → ¬ (q2 = 115 ∧ k2 = 18) → M2 q2 k2 = M q2 k2) → M2 115 16 = ((rh c nn + 1 : Nat) : Int) → Q (some (dz_i 0)) (sh, rf, M2)) : dz_E dz_pp xo (d + 3) 139 [dz_r 115] (sh, rf, M) Q := by
  refine ⟨Nat.le_of_ble_eq_true rfl, ?_⟩
  have hc := dz_E_m dz_pp xo (d + 2)
  show dz_X (dz_E dz_pp xo (d + 2)) dz_pp xo (dz_pp 139) Q 0 [some (dz_r 115)] [] 0 0 (sh, rf, M)
  obtain ⟨c0, c1, c2, c3, c4, c5, c6, c7, c8, c9, c10, c11, c12, c13, c14, c15, c16, c17, c18, c19, c20, c21, c22, c23, c24, c25, c26, c27, c28, c29⟩ := id hl
  refine xr_aloadn hc rfl rfl ?_
  refine xr_callv0 hc rfl (by first | assumption | rfl) rfl rfl rfl (Nat.le_of_ble_eq_true rfl) (Nat.zero_le _) (Nat.zero_le _) ?_
  refine D_skip hl htx hn hc2 h1f h2 h3 hp (fun N g1 g2 => ?_)
  rw [hp0] at g2
  have g2 : N 115 16 = (rh c nn : Int) := g2
  have e2 : N 115 17 = (nn : Int) := by rw [g1 _ _ (by omega)]; exact h2
  have e15 : N 115 15 = ((60 * tx : Nat) : Int) := by rw [g1 _ _ (by omega)]; exact h1f
  have hle := (skp_in (c := c) (n := nn) (p := 0) (by omega)).2
  have hle : rh c nn ≤ nn := hle
  refine xk_0 ?_
  refine xr_aloadn hc rfl rfl ?_
  refine xr_getfi hc rfl (Or.inl rfl) (by first | assumption | rfl) ?_
  rw [g2]
  refine xr_aloadn hc rfl rfl ?_
  refine xr_getfi hc rfl (Or.inl rfl) (by first | assumption | rfl) ?_
  rw [e2]
  refine xr_icmp_eq hc rfl (t := 24) rfl (fun b12 => ?_) (fun b12 => ?_)
  · first
    | (exfalso; omega)
    | (skip
       refine xr_iconst hc rfl ?_
       refine xr_zreturn hc rfl rfl (Nat.zero_le _) (Nat.zero_le _) (by first | exact Or.inl rfl | exact Or.inr rfl | assumption) ?_
       exact h0 (by omega) N (fun q2 k2 v1 v2 => g1 _ _ v1) g2)
  · first
    | (exfalso; omega)
    | (skip
       refine xr_aloadn hc rfl rfl ?_
       refine xr_callv0 hc rfl (by first | assumption | rfl) rfl rfl rfl (Nat.le_of_ble_eq_true rfl) (Nat.zero_le _) (Nat.zero_le _) ?_
       refine D_here (tx := tx) (nn := nn) (p := rh c nn) (c := c) hl htx hn (fun k hk => by rw [g1 _ _ (by omega)]; exact hc2 k hk) e15 e2 g2 hle (by omega) ?_
       refine xk_1 ?_
       refine xr_bipush hc rfl ?_
       refine xr_icmp_eq hc rfl (t := 26) rfl (fun b21 => ?_) (fun b21 => ?_)
       · first
         | (exfalso; omega)
         | (skip
            refine xr_aloadn hc rfl rfl ?_
            refine xr_dup hc rfl rfl ?_
            refine xr_getfi hc rfl (Or.inl rfl) (by first | assumption | rfl) ?_
            rw [g2]
            refine xr_iconst hc rfl ?_
            refine xr_iaddz hc rfl (by first | exact dz_wid (by first | omega | (unfold dz_w; omega)) (by first | omega | (unfold dz_w; omega)) | rfl) ?_
            refine xr_putfi hc rfl rfl (by first | assumption | rfl) ?_
            refine xr_aloadn hc rfl rfl ?_
            refine xr_aloadn hc rfl rfl ?_
            refine xr_bipush hc rfl ?_
            refine xr_bipush hc rfl ?_
            refine xr_callv2 hc rfl (by first | assumption | rfl) rfl rfl rfl (Nat.le_of_ble_eq_true rfl) (Nat.zero_le _) (Nat.zero_le _) ?_
            refine D_figure (tx := tx) (nn := nn) (p := rh c nn + 1) (c := c) hl htx hn (fun k hk => by rw [dz_up_ne (by omega), g1 _ _ (by omega)]; exact hc2 k hk) (by rw [dz_up_k (by omega)]; exact e15) (by rw [dz_up_k (by omega)]; exact e2) (by rw [dz_up_eq]; omega) (by omega) (by omega) (by omega) (fun y N2 y1 y2 => ?_) (fun y => ?_)
            · refine xk_1 ?_
              refine xr_putfi hc rfl rfl (by first | assumption | rfl) ?_
              refine xr_aloadn hc rfl rfl ?_
              refine xr_getfi hc rfl (Or.inl rfl) (by first | assumption | rfl) ?_
              rw [dz_up_eq]
              refine xr_bipush hc rfl ?_
              refine xr_icmp_eq hc rfl (t := 61) rfl (fun b54 => ?_) (fun b54 => ?_)
              · first
                | (exfalso; omega)
                | (skip
                   refine xr_iconst hc rfl ?_
                   refine xr_zreturn hc rfl rfl (Nat.zero_le _) (Nat.zero_le _) (by first | exact Or.inl rfl | exact Or.inr rfl | assumption) ?_
                   first
                     | (exfalso; omega)
                     | (refine h1 ⟨by omega, by omega⟩ y _ (fun q2 k2 v1 v2 => ?_) (by rw [dz_up_k (by omega)]; exact y2) (by rw [dz_up_eq])
                        rw [dz_up_o v2, y1 _ _ v1, dz_up_o v1, g1 _ _ v1])
                     | (refine h4 ⟨by omega, by omega⟩ y _ (fun q2 k2 v1 v2 => ?_) (by rw [dz_up_k (by omega), dz_up_eq]; omega)
                        rw [dz_up_o v2, dz_up_o v1, g1 _ _ v1]))
              · first
                | (exfalso; omega)
                | (skip
                   refine xr_iconst hc rfl ?_
                   refine xr_goto hc rfl (t := 62) rfl ?_
                   refine xr_zreturn hc rfl rfl (Nat.zero_le _) (Nat.zero_le _) (by first | exact Or.inl rfl | exact Or.inr rfl | assumption) ?_
                   first
                     | (exfalso; omega)
                     | (refine h1 ⟨by omega, by omega⟩ y _ (fun q2 k2 v1 v2 => ?_) (by rw [dz_up_k (by omega)]; exact y2) (by rw [dz_up_eq])
                        rw [dz_up_o v2, y1 _ _ v1, dz_up_o v1, g1 _ _ v1])
                     | (refine h4 ⟨by omega, by omega⟩ y _ (fun q2 k2 v1 v2 => ?_) (by rw [dz_up_k (by omega), dz_up_eq]; omega)
                        rw [dz_up_o v2, dz_up_o v1, g1 _ _ v1]))
            · refine xk_1 ?_
              refine xr_putfi hc rfl rfl (by first | assumption | rfl) ?_
              refine xr_aloadn hc rfl rfl ?_
              refine xr_getfi hc rfl (Or.inl rfl) (by first | assumption | rfl) ?_
              rw [dz_up_eq]
              refine xr_bipush hc rfl ?_
              refine xr_icmp_eq hc rfl (t := 61) rfl (fun b54 => ?_) (fun b54 => ?_)
              · first
                | (exfalso; omega)
                | (skip
                   refine xr_iconst hc rfl ?_
                   refine xr_zreturn hc rfl rfl (Nat.zero_le _) (Nat.zero_le _) (by first | exact Or.inl rfl | exact Or.inr rfl | assumption) ?_
                   first
                     | (exfalso; omega)
                     | (refine h1 ⟨by omega, by omega⟩ y _ (fun q2 k2 v1 v2 => ?_) (by rw [dz_up_k (by omega)]; exact y2) (by rw [dz_up_eq])
                        rw [dz_up_o v2, y1 _ _ v1, dz_up_o v1, g1 _ _ v1])
                     | (refine h4 ⟨by omega, by omega⟩ y _ (fun q2 k2 v1 v2 => ?_) (by rw [dz_up_k (by omega), dz_up_eq]; omega)
                        rw [dz_up_o v2, dz_up_o v1, g1 _ _ v1]))
              · first
                | (exfalso; omega)
                | (skip
                   refine xr_iconst hc rfl ?_
                   refine xr_goto hc rfl (t := 62) rfl ?_
                   refine xr_zreturn hc rfl rfl (Nat.zero_le _) (Nat.zero_le _) (by first | exact Or.inl rfl | exact Or.inr rfl | assumption) ?_
                   first
                     | (exfalso; omega)
                     | (refine h1 ⟨by omega, by omega⟩ y _ (fun q2 k2 v1 v2 => ?_) (by rw [dz_up_k (by omega)]; exact y2) (by rw [dz_up_eq])
                        rw [dz_up_o v2, y1 _ _ v1, dz_up_o v1, g1 _ _ v1])
                     | (refine h4 ⟨by omega, by omega⟩ y _ (fun q2 k2 v1 v2 => ?_) (by rw [dz_up_k (by omega), dz_up_eq]; omega)
                        rw [dz_up_o v2, dz_up_o v1, g1 _ _ v1])))
       · first
         | (exfalso; omega)
         | (skip
            refine xr_iconst hc rfl ?_
            refine xr_zreturn hc rfl rfl (Nat.zero_le _) (Nat.zero_le _) (by first | exact Or.inl rfl | exact Or.inr rfl | assumption) ?_
            exact h0 (by omega) N (fun q2 k2 v1 v2 => g1 _ _ v1) g2))
set_option maxRecDepth 100000 in
theorem D_kindOfLetter {xo : Nat → List Int} {d : Nat} {Q : dz_Q} {sh : List (Nat ⊕ (Nat × Nat))} {rf : Nat → Nat → Nat} {M : Nat → Nat → Int} {x : Int} (hQ : Q (some (dz_i (kl x))) (sh, rf, M)) : dz_E dz_pp xo (d + 1) 140 [dz_i x] (sh, rf, M) Q := by
  refine ⟨Nat.le_of_ble_eq_true rfl, ?_⟩
  have hc := dz_E_m dz_pp xo (d + 0)
  show dz_X (dz_E dz_pp xo (d + 0)) dz_pp xo (dz_pp 140) Q 0 [some (dz_i x)] [] 0 0 (sh, rf, M)
  refine xr_iloadn hc rfl rfl ?_
  refine xr_bipush hc rfl ?_
  refine xr_icmp_ne hc rfl (t := 10) rfl (fun b3 => ?_) (fun b3 => ?_)
  · refine xr_iloadn hc rfl rfl ?_
    refine xr_bipush hc rfl ?_
    refine xr_icmp_ne hc rfl (t := 20) rfl (fun b13 => ?_) (fun b13 => ?_)
    · refine xr_iloadn hc rfl rfl ?_
      refine xr_bipush hc rfl ?_
      refine xr_icmp_ne hc rfl (t := 30) rfl (fun b23 => ?_) (fun b23 => ?_)
      · refine xr_iloadn hc rfl rfl ?_
        refine xr_bipush hc rfl ?_
        refine xr_icmp_ne hc rfl (t := 40) rfl (fun b33 => ?_) (fun b33 => ?_)
        · refine xr_iloadn hc rfl rfl ?_
          refine xr_bipush hc rfl ?_
          refine xr_icmp_ne hc rfl (t := 50) rfl (fun b43 => ?_) (fun b43 => ?_)
          · refine xr_iloadn hc rfl rfl ?_
            refine xr_bipush hc rfl ?_
            refine xr_icmp_ne hc rfl (t := 60) rfl (fun b53 => ?_) (fun b53 => ?_)
            · refine xr_bipush hc rfl ?_
              refine xr_ireturn hc rfl rfl (Nat.zero_le _) (Nat.zero_le _) ?_
              unfold kl at hQ
              repeat (first | rw [if_pos (by omega)] at hQ | rw [if_neg (by omega)] at hQ)
              exact hQ
            · refine xr_iconst hc rfl ?_
              refine xr_goto hc rfl (t := 62) rfl ?_
              refine xr_ireturn hc rfl rfl (Nat.zero_le _) (Nat.zero_le _) ?_
              unfold kl at hQ
              repeat (first | rw [if_pos (by omega)] at hQ | rw [if_neg (by omega)] at hQ)
              exact hQ
          · refine xr_iconst hc rfl ?_
            refine xr_goto hc rfl (t := 62) rfl ?_
            refine xr_ireturn hc rfl rfl (Nat.zero_le _) (Nat.zero_le _) ?_
            unfold kl at hQ
            repeat (first | rw [if_pos (by omega)] at hQ | rw [if_neg (by omega)] at hQ)
            exact hQ
        · refine xr_iconst hc rfl ?_
          refine xr_goto hc rfl (t := 62) rfl ?_
          refine xr_ireturn hc rfl rfl (Nat.zero_le _) (Nat.zero_le _) ?_
          unfold kl at hQ
          repeat (first | rw [if_pos (by omega)] at hQ | rw [if_neg (by omega)] at hQ)
          exact hQ
      · refine xr_iconst hc rfl ?_
        refine xr_goto hc rfl (t := 62) rfl ?_
        refine xr_ireturn hc rfl rfl (Nat.zero_le _) (Nat.zero_le _) ?_
        unfold kl at hQ
        repeat (first | rw [if_pos (by omega)] at hQ | rw [if_neg (by omega)] at hQ)
        exact hQ
    · refine xr_iconst hc rfl ?_
      refine xr_goto hc rfl (t := 62) rfl ?_
      refine xr_ireturn hc rfl rfl (Nat.zero_le _) (Nat.zero_le _) ?_
      unfold kl at hQ
      repeat (first | rw [if_pos (by omega)] at hQ | rw [if_neg (by omega)] at hQ)
      exact hQ
  · refine xr_iconst hc rfl ?_
    refine xr_goto hc rfl (t := 62) rfl ?_
    refine xr_ireturn hc rfl rfl (Nat.zero_le _) (Nat.zero_le _) ?_
    unfold kl at hQ
    repeat (first | rw [if_pos (by omega)] at hQ | rw [if_neg (by omega)] at hQ)
    exact hQ
set_option maxRecDepth 100000 in
theorem D_isTaken {xo : Nat → List Int} {d : Nat} {Q : dz_Q} {sh : List (Nat ⊕ (Nat × Nat))} {rf : Nat → Nat → Nat} {M : Nat → Nat → Int} {i : Nat} {P : Nat → Int} {x : Int} (hl : ml sh rf) (hi : i ≤ 6) (hw : M 115 20 = (i : Int)) (hP : ∀ k, k < i → M 125 (5 * k + 1) = P k) (h1 : ly_at P x i 0 ≠ -9 → Q (some (dz_i 1)) (sh, rf, M)) (h0 : ly_at P x i 0 = -9 → Q (some (dz_i 0)) (sh, rf, M)) : dz_E dz_pp xo (d + 1) 141 [dz_r 115, dz_i x] (sh, rf, M) Q := by
  refine ⟨Nat.le_of_ble_eq_true rfl, ?_⟩
  have hc := dz_E_m dz_pp xo (d + 0)
  show dz_X (dz_E dz_pp xo (d + 0)) dz_pp xo (dz_pp 141) Q 0 [some (dz_r 115), some (dz_i x), none, none] [] 0 0 (sh, rf, M)
  obtain ⟨c0, c1, c2, c3, c4, c5, c6, c7, c8, c9, c10, c11, c12, c13, c14, c15, c16, c17, c18, c19, c20, c21, c22, c23, c24, c25, c26, c27, c28, c29⟩ := id hl
  have hly : ly_at P x i 0 = -9 ↔ ∀ j, j < i → P j ≠ x := by
    have z := ly_free (f := P) (w := (i : Int)) (p := x) (by omega)
    rw [Int.toNat_natCast] at z
    exact z.trans ⟨fun y j hj => y j (by omega), fun y j hj => y j (by omega)⟩
  have lp : ∀ (m_ : Nat) (k : Nat) (f : Int), k + m_ = i → ((f = 0 ∧ ∀ j, j < k → P j ≠ x) ∨ (f = 1 ∧ ∃ j, j < k ∧ P j = x)) → dz_X (dz_E dz_pp xo (d + 0)) dz_pp xo (dz_pp 141) Q 4 [some (dz_r 115), some (dz_i x), some (dz_i f), some (dz_i (k : Int))] [] 0 0 (sh, rf, M) := by
    intro m_
    induction m_ with
    | zero =>
      intro k f hk hf
      have f01 : f = 0 ∨ f = 1 := hf.elim (fun z => Or.inl z.1) (fun z => Or.inr z.1)
      refine xr_iloadn hc rfl rfl ?_
      refine xr_aloadn hc rfl rfl ?_
      refine xr_getfi hc rfl (Or.inl rfl) (by first | assumption | rfl) ?_
      rw [hw]
      refine xr_icmp_ge hc rfl (t := 42) rfl (fun b9 => ?_) (fun b9 => ?_)
      · refine xr_iloadn hc rfl rfl ?_
        refine xr_zreturn hc rfl rfl (Nat.zero_le _) (Nat.zero_le _) (by first | exact Or.inl rfl | exact Or.inr rfl | assumption) ?_
        rcases hf with ⟨z1, z2⟩ | ⟨z1, jj, z2, z3⟩
        · rw [z1]
          exact h0 (hly.mpr (fun j hj => z2 j (by omega)))
        · rw [z1]
          exact h1 (fun z => hly.mp z jj (by omega) z3)
      · omega
    | succ m_ ih =>
      intro k f hk hf
      have ix : (5 * (k : Int) + 1).toNat = 5 * k + 1 := by omega
      have hPk := hP k (by omega)
      refine xr_iloadn hc rfl rfl ?_
      refine xr_aloadn hc rfl rfl ?_
      refine xr_getfi hc rfl (Or.inl rfl) (by first | assumption | rfl) ?_
      rw [hw]
      refine xr_icmp_ge hc rfl (t := 42) rfl (fun b9 => ?_) (fun b9 => ?_)
      · omega
      · refine xr_iloadn hc rfl rfl ?_
        refine xr_if_ne hc rfl (t := 30) rfl (fun b13 => ?_) (fun b13 => ?_)
        · refine xr_iconst hc rfl ?_
          refine xr_goto hc rfl (t := 35) rfl ?_
          refine xr_istore2 hc rfl rfl ?_
          refine xr_iincz3 hc rfl rfl (by first | exact dz_wid (by first | omega | (unfold dz_w; omega)) (by first | omega | (unfold dz_w; omega)) | rfl) ?_
          refine xr_goto hc rfl (t := 4) rfl ?_
          refine ih (k + 1) _ (by omega) ?_
          rcases hf with ⟨z1, z2⟩ | ⟨z1, jj, z2, z3⟩
          · first
              | (exfalso; omega)
              | exact Or.inr ⟨rfl, k, by omega, by omega⟩
              | exact Or.inl ⟨rfl, fun j hj => by
                  by_cases e : j = k
                  · rw [e]
                    omega
                  · exact z2 j (by omega)⟩
          · first
              | (exfalso; omega)
              | exact Or.inr ⟨rfl, jj, by omega, z3⟩
        · refine xr_aloadn hc rfl rfl ?_
          refine xr_getfr hc rfl rfl (by first | assumption | rfl) (by first | assumption | rfl) ?_
          refine xr_iconst hc rfl ?_
          refine xr_iloadn hc rfl rfl ?_
          refine xr_imulz hc rfl (by first | exact dz_wid (by first | omega | (unfold dz_w; omega)) (by first | omega | (unfold dz_w; omega)) | rfl) ?_
          refine xr_iconst hc rfl ?_
          refine xr_iaddz hc rfl (by first | exact dz_wid (by first | omega | (unfold dz_w; omega)) (by first | omega | (unfold dz_w; omega)) | rfl) ?_
          first | refine xr_iaload hc rfl (by first | assumption | rfl) (by first | omega | (unfold dz_w; omega)) (by first | omega | (unfold dz_w; omega)) ?_ | refine xr_ialoado hc rfl (by first | omega | (unfold dz_w; omega)) (by first | omega | (unfold dz_w; omega)) ?_
          rw [ix, hPk]
          refine xr_iloadn hc rfl rfl ?_
          refine xr_icmp_ne hc rfl (t := 34) rfl (fun b27 => ?_) (fun b27 => ?_)
          · refine xr_iconst hc rfl ?_
            refine xr_istore2 hc rfl rfl ?_
            refine xr_iincz3 hc rfl rfl (by first | exact dz_wid (by first | omega | (unfold dz_w; omega)) (by first | omega | (unfold dz_w; omega)) | rfl) ?_
            refine xr_goto hc rfl (t := 4) rfl ?_
            refine ih (k + 1) _ (by omega) ?_
            rcases hf with ⟨z1, z2⟩ | ⟨z1, jj, z2, z3⟩
            · first
                | (exfalso; omega)
                | exact Or.inr ⟨rfl, k, by omega, by omega⟩
                | exact Or.inl ⟨rfl, fun j hj => by
                    by_cases e : j = k
                    · rw [e]
                      omega
                    · exact z2 j (by omega)⟩
            · first
                | (exfalso; omega)
                | exact Or.inr ⟨rfl, jj, by omega, z3⟩
          · refine xr_iconst hc rfl ?_
            refine xr_goto hc rfl (t := 35) rfl ?_
            refine xr_istore2 hc rfl rfl ?_
            refine xr_iincz3 hc rfl rfl (by first | exact dz_wid (by first | omega | (unfold dz_w; omega)) (by first | omega | (unfold dz_w; omega)) | rfl) ?_
            refine xr_goto hc rfl (t := 4) rfl ?_
            refine ih (k + 1) _ (by omega) ?_
            rcases hf with ⟨z1, z2⟩ | ⟨z1, jj, z2, z3⟩
            · first
                | (exfalso; omega)
                | exact Or.inr ⟨rfl, k, by omega, by omega⟩
                | exact Or.inl ⟨rfl, fun j hj => by
                    by_cases e : j = k
                    · rw [e]
                      omega
                    · exact z2 j (by omega)⟩
            · first
                | (exfalso; omega)
                | exact Or.inr ⟨rfl, jj, by omega, z3⟩
  refine xr_iconst hc rfl ?_
  refine xr_istore2 hc rfl rfl ?_
  refine xr_iconst hc rfl ?_
  refine xr_istore3 hc rfl rfl ?_
  exact lp i 0 0 (by omega) (Or.inl ⟨rfl, fun j hj => by omega⟩)
set_option maxRecDepth 100000 in
theorem D_areAllThere {xo : Nat → List Int} {d : Nat} {Q : dz_Q} {sh : List (Nat ⊕ (Nat × Nat))} {rf : Nat → Nat → Nat} {M : Nat → Nat → Int} {c : Nat → Int} {ps : Nat → Nat} {W : Nat} (hl : ml sh rf) (hW6 : W ≤ 6) (hdm : (M 115 20 = (W : Int) ∧ ∀ k, k < W → M 125 (5 * k) = wKd c ps k ∧ M 125 (5 * k + 1) = wPl c ps k ∧ M 125 (5 * k + 2) = wVl c ps k ∧ M 125 (5 * k + 3) = wWt c ps k ∧ M 125 (5 * k + 4) = wNx c ps k)) (h1 : rat c ps W W = true → Q (some (dz_i 1)) (sh, rf, M)) (h0 : ¬ rat c ps W W = true → Q (some (dz_i 0)) (sh, rf, M)) : dz_E dz_pp xo (d + 1) 143 [dz_r 115] (sh, rf, M) Q := by
  refine ⟨Nat.le_of_ble_eq_true rfl, ?_⟩
  have hc := dz_E_m dz_pp xo (d + 0)
  show dz_X (dz_E dz_pp xo (d + 0)) dz_pp xo (dz_pp 143) Q 0 [some (dz_r 115), none, none] [] 0 0 (sh, rf, M)
  obtain ⟨c0, c1, c2, c3, c4, c5, c6, c7, c8, c9, c10, c11, c12, c13, c14, c15, c16, c17, c18, c19, c20, c21, c22, c23, c24, c25, c26, c27, c28, c29⟩ := id hl
  have lp : ∀ (m_ : Nat) (k : Nat) (f : Int), k + m_ = W → ((f = 1 ∧ ∀ j, j < k → wWt c ps j < W ∧ wNx c ps j < W) ∨ (f = 0 ∧ ∃ j, j < k ∧ ¬ (wWt c ps j < W ∧ wNx c ps j < W))) → dz_X (dz_E dz_pp xo (d + 0)) dz_pp xo (dz_pp 143) Q 4 [some (dz_r 115), some (dz_i f), some (dz_i (k : Int))] [] 0 0 (sh, rf, M) := by
    intro m_
    induction m_ with
    | zero =>
      intro k f hk hf
      have f01 : f = 0 ∨ f = 1 := hf.elim (fun z => Or.inr z.1) (fun z => Or.inl z.1)
      refine xr_iloadn hc rfl rfl ?_
      refine xr_aloadn hc rfl rfl ?_
      refine xr_getfi hc rfl (Or.inl rfl) (by first | assumption | rfl) ?_
      rw [hdm.1]
      refine xr_icmp_ge hc rfl (t := 62) rfl (fun b9 => ?_) (fun b9 => ?_)
      · refine xr_iloadn hc rfl rfl ?_
        refine xr_zreturn hc rfl rfl (Nat.zero_le _) (Nat.zero_le _) (by first | exact Or.inl rfl | exact Or.inr rfl | assumption) ?_
        rcases hf with ⟨z1, z2⟩ | ⟨z1, jj, z2, z3⟩
        · rw [z1]
          exact h1 ((rat_all W).mpr (fun j hj => z2 j (by omega)))
        · rw [z1]
          exact h0 (fun z => z3 ((rat_all W).mp z jj (by omega)))
      · omega
    | succ m_ ih =>
      intro k f hk hf
      have ix3 : (5 * (k : Int) + 3).toNat = 5 * k + 3 := by omega
      have ix4 : (5 * (k : Int) + 4).toNat = 5 * k + 4 := by omega
      obtain ⟨d1, d2, d3, d4, d5⟩ := hdm.2 k (by omega)
      refine xr_iloadn hc rfl rfl ?_
      refine xr_aloadn hc rfl rfl ?_
      refine xr_getfi hc rfl (Or.inl rfl) (by first | assumption | rfl) ?_
      rw [hdm.1]
      refine xr_icmp_ge hc rfl (t := 62) rfl (fun b9 => ?_) (fun b9 => ?_)
      · omega
      · refine xr_iloadn hc rfl rfl ?_
        refine xr_if_eq hc rfl (t := 54) rfl (fun b13 => ?_) (fun b13 => ?_)
        · refine xr_iconst hc rfl ?_
          refine xr_istore1 hc rfl rfl ?_
          refine xr_iincz2 hc rfl rfl (by first | exact dz_wid (by first | omega | (unfold dz_w; omega)) (by first | omega | (unfold dz_w; omega)) | rfl) ?_
          refine xr_goto hc rfl (t := 4) rfl ?_
          refine ih (k + 1) _ (by omega) ?_
          rcases hf with ⟨z1, z2⟩ | ⟨z1, jj, z2, z3⟩
          · first
              | (exfalso; omega)
              | exact Or.inr ⟨rfl, k, by omega, by omega⟩
              | exact Or.inl ⟨rfl, fun j hj => by
                  by_cases e : j = k
                  · rw [e]
                    omega
                  · exact z2 j (by omega)⟩
          · first
              | (exfalso; omega)
              | exact Or.inr ⟨rfl, jj, by omega, z3⟩
        · refine xr_aloadn hc rfl rfl ?_
          refine xr_getfr hc rfl rfl (by first | assumption | rfl) (by first | assumption | rfl) ?_
          refine xr_iconst hc rfl ?_
          refine xr_iloadn hc rfl rfl ?_
          refine xr_imulz hc rfl (by first | exact dz_wid (by first | omega | (unfold dz_w; omega)) (by first | omega | (unfold dz_w; omega)) | rfl) ?_
          refine xr_iconst hc rfl ?_
          refine xr_iaddz hc rfl (by first | exact dz_wid (by first | omega | (unfold dz_w; omega)) (by first | omega | (unfold dz_w; omega)) | rfl) ?_
          first | refine xr_iaload hc rfl (by first | assumption | rfl) (by first | omega | (unfold dz_w; omega)) (by first | omega | (unfold dz_w; omega)) ?_ | refine xr_ialoado hc rfl (by first | omega | (unfold dz_w; omega)) (by first | omega | (unfold dz_w; omega)) ?_
          rw [ix3, d4]
          refine xr_aloadn hc rfl rfl ?_
          refine xr_getfi hc rfl (Or.inl rfl) (by first | assumption | rfl) ?_
          rw [hdm.1]
          refine xr_icmp_ge hc rfl (t := 54) rfl (fun b30 => ?_) (fun b30 => ?_)
          · refine xr_iconst hc rfl ?_
            refine xr_istore1 hc rfl rfl ?_
            refine xr_iincz2 hc rfl rfl (by first | exact dz_wid (by first | omega | (unfold dz_w; omega)) (by first | omega | (unfold dz_w; omega)) | rfl) ?_
            refine xr_goto hc rfl (t := 4) rfl ?_
            refine ih (k + 1) _ (by omega) ?_
            rcases hf with ⟨z1, z2⟩ | ⟨z1, jj, z2, z3⟩
            · first
                | (exfalso; omega)
                | exact Or.inr ⟨rfl, k, by omega, by omega⟩
                | exact Or.inl ⟨rfl, fun j hj => by
                    by_cases e : j = k
                    · rw [e]
                      omega
                    · exact z2 j (by omega)⟩
            · first
                | (exfalso; omega)
                | exact Or.inr ⟨rfl, jj, by omega, z3⟩
          · refine xr_aloadn hc rfl rfl ?_
            refine xr_getfr hc rfl rfl (by first | assumption | rfl) (by first | assumption | rfl) ?_
            refine xr_iconst hc rfl ?_
            refine xr_iloadn hc rfl rfl ?_
            refine xr_imulz hc rfl (by first | exact dz_wid (by first | omega | (unfold dz_w; omega)) (by first | omega | (unfold dz_w; omega)) | rfl) ?_
            refine xr_iconst hc rfl ?_
            refine xr_iaddz hc rfl (by first | exact dz_wid (by first | omega | (unfold dz_w; omega)) (by first | omega | (unfold dz_w; omega)) | rfl) ?_
            first | refine xr_iaload hc rfl (by first | assumption | rfl) (by first | omega | (unfold dz_w; omega)) (by first | omega | (unfold dz_w; omega)) ?_ | refine xr_ialoado hc rfl (by first | omega | (unfold dz_w; omega)) (by first | omega | (unfold dz_w; omega)) ?_
            rw [ix4, d5]
            refine xr_aloadn hc rfl rfl ?_
            refine xr_getfi hc rfl (Or.inl rfl) (by first | assumption | rfl) ?_
            rw [hdm.1]
            refine xr_icmp_ge hc rfl (t := 54) rfl (fun b47 => ?_) (fun b47 => ?_)
            · refine xr_iconst hc rfl ?_
              refine xr_istore1 hc rfl rfl ?_
              refine xr_iincz2 hc rfl rfl (by first | exact dz_wid (by first | omega | (unfold dz_w; omega)) (by first | omega | (unfold dz_w; omega)) | rfl) ?_
              refine xr_goto hc rfl (t := 4) rfl ?_
              refine ih (k + 1) _ (by omega) ?_
              rcases hf with ⟨z1, z2⟩ | ⟨z1, jj, z2, z3⟩
              · first
                  | (exfalso; omega)
                  | exact Or.inr ⟨rfl, k, by omega, by omega⟩
                  | exact Or.inl ⟨rfl, fun j hj => by
                      by_cases e : j = k
                      · rw [e]
                        omega
                      · exact z2 j (by omega)⟩
              · first
                  | (exfalso; omega)
                  | exact Or.inr ⟨rfl, jj, by omega, z3⟩
            · refine xr_iconst hc rfl ?_
              refine xr_goto hc rfl (t := 55) rfl ?_
              refine xr_istore1 hc rfl rfl ?_
              refine xr_iincz2 hc rfl rfl (by first | exact dz_wid (by first | omega | (unfold dz_w; omega)) (by first | omega | (unfold dz_w; omega)) | rfl) ?_
              refine xr_goto hc rfl (t := 4) rfl ?_
              refine ih (k + 1) _ (by omega) ?_
              rcases hf with ⟨z1, z2⟩ | ⟨z1, jj, z2, z3⟩
              · first
                  | (exfalso; omega)
                  | exact Or.inr ⟨rfl, k, by omega, by omega⟩
                  | exact Or.inl ⟨rfl, fun j hj => by
                      by_cases e : j = k
                      · rw [e]
                        omega
                      · exact z2 j (by omega)⟩
              · first
                  | (exfalso; omega)
                  | exact Or.inr ⟨rfl, jj, by omega, z3⟩
  refine xr_iconst hc rfl ?_
  refine xr_istore1 hc rfl rfl ?_
  refine xr_iconst hc rfl ?_
  refine xr_istore2 hc rfl rfl ?_
  exact lp W 0 1 (by omega) (Or.inl ⟨rfl, fun j hj => by omega⟩)
