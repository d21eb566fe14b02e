/-! The best placing: the class. Written by l2_67.py. -/
/-- the best one so far, and its rank -/
def BST (M : Nat → Nat → Int) (W : Nat) (bw br : Int) : Prop := M 54 4 = bw ∧ ((bw = 1000000 ∧ br = 1000000000000) ∨ (0 ≤ bw ∧ bw ≤ 9999 ∧ dig (M 57) W ∧ br = bw * 1000000 + key (M 57) W))
def un (sp : Nat → Int) : Nat → Nat
  | 0 => 0
  | k + 1 => un sp k + if sp k = -9 then 1 else 0
theorem un_le (sp : Nat → Int) : ∀ k, un sp k ≤ k
  | 0 => Nat.le_refl _
  | k + 1 => by
    have ih := un_le sp k
    unfold un
    split <;> omega
theorem un_pos {sp : Nat → Int} {i : Nat} (h : sp i = -9) : ∀ k, i < k → 1 ≤ un sp k
  | 0, hk => by omega
  | k + 1, hk => by
    unfold un
    by_cases e : i = k
    · rw [← e, if_pos h]
      omega
    · have ih := un_pos h k (by omega)
      omega
theorem un_fup {sp : Nat → Int} {i : Nat} {p : Int} (h : sp i = -9) (hp : p ≠ -9) : ∀ k, (i < k → un (fup sp i p) k + 1 = un sp k) ∧ (k ≤ i → un (fup sp i p) k = un sp k)
  | 0 => ⟨fun z => by omega, fun _ => rfl⟩
  | k + 1 => by
    have ih := un_fup h hp k
    unfold un
    by_cases e : k = i
    · rw [e, fup_eq, if_neg hp, if_pos h]
      rw [e] at ih
      exact ⟨fun _ => by have z := ih.2 (Nat.le_refl _); omega, fun z => by omega⟩
    · rw [fup_ne e]
      refine ⟨fun z => ?_, fun z => ?_⟩
      · have y := ih.1 (by omega)
        omega
      · have y := ih.2 (by omega)
        omega
theorem wa_at {p t pl : Int} (hpl : 0 < pl) (hp : 0 ≤ p ∧ p < pl) : p = (t + wa p t pl) % pl := by
  unfold wa
  rw [Int.add_emod_emod, show t + (p - t) = p by omega, Int.emod_eq_of_lt hp.1 hp.2]
set_option maxRecDepth 100000 in
theorem S_isAhead {xo : Nat → List Int} {d : Nat} {Q : dz_Q} {sh : List (Nat ⊕ (Nat × Nat))} {rf : Nat → Nat → Nat} {M : Nat → Nat → Int} {w : Int} (hl : cl sh rf) (h5 : M 54 5 = w) (hw : 0 ≤ w ∧ w ≤ 6) (d1 : dig (M 56) w.toNat) (d2 : dig (M 57) w.toNat) (h1 : key (M 56) w.toNat < key (M 57) w.toNat → Q (some (dz_i 1)) (sh, rf, M)) (h2 : ¬ key (M 56) w.toNat < key (M 57) w.toNat → Q (some (dz_i 0)) (sh, rf, M)) : dz_E dz_pp xo (d + 1) 34 [dz_r 54, dz_r 56, dz_r 57] (sh, rf, M) Q := by
  refine ⟨Nat.le_of_ble_eq_true rfl, ?_⟩
  have hc := dz_E_m dz_pp xo (d + 0)
  show dz_X (dz_E dz_pp xo (d + 0)) dz_pp xo (dz_pp 34) Q 0 [some (dz_r 54), some (dz_r 56), some (dz_r 57), none] [] 0 0 (sh, rf, M)
  obtain ⟨c0, c1, c2, c3, c4, c5, c6, c7, c8, c9, c10, c11, c12, c13, c14, c15, c16, c17, c18, c19, c20, c21, c22, c23, c24, c25, c26, c27, c28, c29, c30, c31, c32, c33, c34, c35, c36⟩ := id hl
  have k0 : sh[54]? = some (.inl 2) := c28.1
  have k1 : rf 54 1 = 55 + 1 := c28.2.1
  have k2 : sh[55]? = some (.inr (0, 6)) := c28.2.2.1
  have k3 : rf 54 2 = 56 + 1 := c28.2.2.2.1
  have k4 : sh[56]? = some (.inr (0, 6)) := c28.2.2.2.2.1
  have k5 : rf 54 3 = 57 + 1 := c28.2.2.2.2.2.1
  have k6 : sh[57]? = some (.inr (0, 6)) := c28.2.2.2.2.2.2
  have k7 : rf 54 0 = 50 + 1 := c29
  have ht := c26
  have lp : ∀ (m_ : Nat) (i : Nat), (i : Int) + m_ = w → (∀ k, k < i → M 56 k = M 57 k) → dz_X (dz_E dz_pp xo (d + 0)) dz_pp xo (dz_pp 34) Q 2 [some (dz_r 54), some (dz_r 56), some (dz_r 57), some (dz_i (i : Int))] [] 0 0 (sh, rf, M) := by
    intro m_
    induction m_ with
    | zero =>
      intro i hi he
      refine xr_iloadn hc rfl rfl ?_
      refine xr_aloadn hc rfl rfl ?_
      refine xr_getfi hc rfl (Or.inl rfl) (by first | assumption | rfl) ?_
      rw [h5]
      refine xr_icmp_ge hc rfl (t := 40) rfl (fun b7 => ?_) (fun b7 => ?_)
      · refine xr_iconst hc rfl ?_
        refine xr_zreturn hc rfl rfl (Nat.zero_le _) (Nat.zero_le _) (by first | exact Or.inl rfl | exact Or.inr rfl | assumption) ?_
        exact h2 (by rw [key_c w.toNat (fun k hk => he k (by omega))]; omega)
      · omega
    | succ m_ ih =>
      intro i hi he
      refine xr_iloadn hc rfl rfl ?_
      refine xr_aloadn hc rfl rfl ?_
      refine xr_getfi hc rfl (Or.inl rfl) (by first | assumption | rfl) ?_
      rw [h5]
      refine xr_icmp_ge hc rfl (t := 40) rfl (fun b7 => ?_) (fun b7 => ?_)
      · omega
      · refine xr_aloadn hc rfl rfl ?_
        refine xr_iloadn hc rfl rfl ?_
        first | refine xr_iaload hc rfl (by first | assumption | rfl) (by first | omega | (unfold dz_w; omega)) (by first | omega | (unfold dz_w; omega)) ?_ | refine xr_ialoado hc rfl (by first | omega | (unfold dz_w; omega)) (by first | omega | (unfold dz_w; omega)) ?_
        rw [Int.toNat_natCast]
        refine xr_aloadn hc rfl rfl ?_
        refine xr_iloadn hc rfl rfl ?_
        first | refine xr_iaload hc rfl (by first | assumption | rfl) (by first | omega | (unfold dz_w; omega)) (by first | omega | (unfold dz_w; omega)) ?_ | refine xr_ialoado hc rfl (by first | omega | (unfold dz_w; omega)) (by first | omega | (unfold dz_w; omega)) ?_
        rw [Int.toNat_natCast]
        refine xr_icmp_eq hc rfl (t := 34) rfl (fun b16 => ?_) (fun b16 => ?_)
        · refine xr_iincz3 hc rfl rfl (by first | exact dz_wid (by first | omega | (unfold dz_w; omega)) (by first | omega | (unfold dz_w; omega)) | rfl) ?_
          refine xr_goto hc rfl (t := 2) rfl ?_
          refine ih (i + 1) (by omega) (fun k hk => ?_)
          by_cases e : k = i
          · rw [e]
            omega
          · exact he k (by omega)
        · refine xr_aloadn hc rfl rfl ?_
          refine xr_iloadn hc rfl rfl ?_
          first | refine xr_iaload hc rfl (by first | assumption | rfl) (by first | omega | (unfold dz_w; omega)) (by first | omega | (unfold dz_w; omega)) ?_ | refine xr_ialoado hc rfl (by first | omega | (unfold dz_w; omega)) (by first | omega | (unfold dz_w; omega)) ?_
          rw [Int.toNat_natCast]
          refine xr_aloadn hc rfl rfl ?_
          refine xr_iloadn hc rfl rfl ?_
          first | refine xr_iaload hc rfl (by first | assumption | rfl) (by first | omega | (unfold dz_w; omega)) (by first | omega | (unfold dz_w; omega)) ?_ | refine xr_ialoado hc rfl (by first | omega | (unfold dz_w; omega)) (by first | omega | (unfold dz_w; omega)) ?_
          rw [Int.toNat_natCast]
          refine xr_icmp_ge hc rfl (t := 32) rfl (fun b25 => ?_) (fun b25 => ?_)
          · refine xr_iconst hc rfl ?_
            refine xr_zreturn hc rfl rfl (Nat.zero_le _) (Nat.zero_le _) (by first | exact Or.inl rfl | exact Or.inr rfl | assumption) ?_
            first
              | exact h1 (key_ltn (i := i) (by omega) he (by omega) d1 d2)
              | exact h2 (fun z => by have z2 := key_ltn (i := i) (n := w.toNat) (by omega) (fun k hk => (he k hk).symm) (show M 57 i < M 56 i by omega) d2 d1; omega)
          · refine xr_iconst hc rfl ?_
            refine xr_goto hc rfl (t := 33) rfl ?_
            refine xr_zreturn hc rfl rfl (Nat.zero_le _) (Nat.zero_le _) (by first | exact Or.inl rfl | exact Or.inr rfl | assumption) ?_
            first
              | exact h1 (key_ltn (i := i) (by omega) he (by omega) d1 d2)
              | exact h2 (fun z => by have z2 := key_ltn (i := i) (n := w.toNat) (by omega) (fun k hk => (he k hk).symm) (show M 57 i < M 56 i by omega) d2 d1; omega)
  refine xr_iconst hc rfl ?_
  refine xr_istore3 hc rfl rfl ?_
  exact lp w.toNat 0 (by omega) (fun k hk => by omega)
set_option maxRecDepth 100000 in
theorem S_settle {xo : Nat → List Int} {d : Nat} {Q : dz_Q} {sh : List (Nat ⊕ (Nat × Nat))} {rf : Nat → Nat → Nat} {M : Nat → Nat → Int} {w pl u bw br : Int} (hl : cl sh rf) (h5 : M 54 5 = w) (h6 : M 54 6 = pl) (hw : 0 ≤ w ∧ w ≤ 6) (hpl : 6 ≤ pl ∧ pl ≤ 9) (hdF : dig (fillr w pl.toNat w.toNat 0 0 (M 55)) w.toNat) (hu : 0 ≤ u ∧ u ≤ 9999) (hub : u ≤ bw) (hb : BST M w.toNat bw br) (hQ : ∀ (M2 : Nat → Nat → Int), (∀ q2 k2, ¬ (q2 = 54 ∧ k2 = 4) → q2 ≠ 56 → q2 ≠ 57 → M2 q2 k2 = M q2 k2) → ((u * 1000000 + key (fillr w pl.toNat w.toNat 0 0 (M 55)) w.toNat < br ∧ BST M2 w.toNat u (u * 1000000 + key (fillr w pl.toNat w.toNat 0 0 (M 55)) w.toNat) ∧ ∀ k, k < w.toNat → M2 57 k = (fillr w pl.toNat w.toNat 0 0 (M 55)) k) ∨ (br ≤ u * 1000000 + key (fillr w pl.toNat w.toNat 0 0 (M 55)) w.toNat ∧ BST M2 w.toNat bw br ∧ ∀ k, k < w.toNat → M2 57 k = M 57 k)) → Q none (sh, rf, M2)) : dz_E dz_pp xo (d + 3) 33 [dz_r 54, dz_i u] (sh, rf, M) Q := by
  refine ⟨Nat.le_of_ble_eq_true rfl, ?_⟩
  have hc := dz_E_m dz_pp xo (d + 2)
  show dz_X (dz_E dz_pp xo (d + 2)) dz_pp xo (dz_pp 33) Q 0 [some (dz_r 54), some (dz_i u)] [] 0 0 (sh, rf, M)
  obtain ⟨c0, c1, c2, c3, c4, c5, c6, c7, c8, c9, c10, c11, c12, c13, c14, c15, c16, c17, c18, c19, c20, c21, c22, c23, c24, c25, c26, c27, c28, c29, c30, c31, c32, c33, c34, c35, c36⟩ := id hl
  have k0 : sh[54]? = some (.inl 2) := c28.1
  have k1 : rf 54 1 = 55 + 1 := c28.2.1
  have k2 : sh[55]? = some (.inr (0, 6)) := c28.2.2.1
  have k3 : rf 54 2 = 56 + 1 := c28.2.2.2.1
  have k4 : sh[56]? = some (.inr (0, 6)) := c28.2.2.2.2.1
  have k5 : rf 54 3 = 57 + 1 := c28.2.2.2.2.2.1
  have k6 : sh[57]? = some (.inr (0, 6)) := c28.2.2.2.2.2.2
  have k7 : rf 54 0 = 50 + 1 := c29
  have ht := c26
  obtain ⟨b1, b2⟩ := id hb
  have kF := key_in w.toNat (by omega) hdF
  refine xr_aloadn hc rfl rfl ?_
  refine xr_aloadn hc rfl rfl ?_
  refine xr_getfr hc rfl rfl (by first | assumption | rfl) (by first | assumption | rfl) ?_
  refine xr_callv1 hc rfl (by first | assumption | rfl) rfl rfl rfl (Nat.le_of_ble_eq_true rfl) (Nat.zero_le _) (Nat.zero_le _) ?_
  refine S_fillRest (w := w) (pl := pl) hl h5 h6 hw hpl k4 (by omega) (fun N f1 f2 => ?_)
  have n4 : N 54 4 = bw := by rw [f1 _ _ (by omega)]; exact b1
  have dF : dig (fillr w pl.toNat w.toNat 0 0 (M 55)) w.toNat := hdF
  have d56 : dig (N 56) w.toNat := fun k hk => by rw [f2 k hk]; exact hdF k hk
  have k56 : key (N 56) w.toNat = key (fillr w pl.toNat w.toNat 0 0 (M 55)) w.toNat := key_c _ f2
  have k57 : key (N 57) w.toNat = key (M 57) w.toNat := key_c _ (fun k hk => f1 _ _ (by omega))
  have hlt : u < bw → u * 1000000 + key (fillr w pl.toNat w.toNat 0 0 (M 55)) w.toNat < br := fun z => by
    rcases b2 with ⟨y1, y2⟩ | ⟨y1, y2, y3, y4⟩
    · omega
    · have y5 := key_in w.toNat (by omega) y3
      omega
  refine xk_0 ?_
  refine xr_iloadn hc rfl rfl ?_
  refine xr_aloadn hc rfl rfl ?_
  refine xr_getfi hc rfl (Or.inl rfl) (by first | assumption | rfl) ?_
  rw [n4]
  refine xr_icmp_lt hc rfl (t := 31) rfl (fun b13 => ?_) (fun b13 => ?_)
  · refine xr_aloadn hc rfl rfl ?_
    refine xr_iloadn hc rfl rfl ?_
    refine xr_putfi hc rfl rfl (by first | assumption | rfl) ?_
    refine xr_aloadn hc rfl rfl ?_
    refine xr_getfr hc rfl rfl (by first | assumption | rfl) (by first | assumption | rfl) ?_
    refine xr_iconst hc rfl ?_
    refine xr_aloadn hc rfl rfl ?_
    refine xr_getfr hc rfl rfl (by first | assumption | rfl) (by first | assumption | rfl) ?_
    refine xr_iconst hc rfl ?_
    refine xr_bipush hc rfl ?_
    refine xr_copy hc rfl rfl (by first | assumption | rfl) (by first | assumption | rfl) (by first | omega | (unfold dz_w; omega)) (by first | omega | (unfold dz_w; omega)) (by first | omega | (unfold dz_w; omega)) (by first | omega | (unfold dz_w; omega)) (by first | omega | (unfold dz_w; omega)) (by first | decide | (simp [dz_cats]; done) | exact Nat.le_of_ble_eq_true rfl) ?_
    refine xr_return hc rfl rfl (Nat.zero_le _) (Nat.zero_le _) ?_
    by_cases hz : u * 1000000 + key (fillr w pl.toNat w.toNat 0 0 (M 55)) w.toNat < br
    · first
        | (exfalso; omega)
        | (skip
           have cp : ∀ q2 k2, q2 ≠ 57 → dz_cpy (dz_up N 54 4 u) 56 57 (Int.toNat 0) (Int.toNat 0) (Int.toNat 6) q2 k2 = dz_up N 54 4 u q2 k2 := fun q2 k2 v => by
             unfold dz_cpy
             rw [if_neg (fun z => v z.1)]
           have cp2 : ∀ k, k < w.toNat → dz_cpy (dz_up N 54 4 u) 56 57 (Int.toNat 0) (Int.toNat 0) (Int.toNat 6) 57 k = (fillr w pl.toNat w.toNat 0 0 (M 55)) k := fun k hk => by
             unfold dz_cpy
             rw [if_pos ⟨rfl, by omega, by omega⟩, dz_up_ne (by omega), ← f2 k hk]
             congr 1
             omega
           refine hQ _ (fun q2 k2 v1 v2 v3 => ?_) (Or.inl ⟨by omega, ⟨?_, Or.inr ⟨by omega, by omega, fun k hk => ?_, ?_⟩⟩, cp2⟩)
           · rw [cp _ _ v3]
             by_cases e : q2 = 54
             · subst e
               rw [dz_up_k (by omega), f1 _ _ v2]
             · rw [dz_up_ne e, f1 _ _ v2]
           · rw [cp _ _ (by omega), dz_up_eq]
           · rw [cp2 k hk]
             exact dF k hk
           · rw [key_c w.toNat cp2])
    · first
        | (exfalso; have z := hlt (by omega); omega)
        | (refine hQ N (fun q2 k2 v1 v2 v3 => f1 _ _ v2) (Or.inr ⟨by omega, ⟨n4, ?_⟩, fun k hk => f1 _ _ (by omega)⟩)
           rcases b2 with y1 | ⟨y1, y2, y3, y4⟩
           · exact Or.inl y1
           · exact Or.inr ⟨y1, y2, fun k hk => by rw [f1 _ _ (by omega)]; exact y3 k hk, by rw [k57]; exact y4⟩)
  · refine xr_aloadn hc rfl rfl ?_
    refine xr_aloadn hc rfl rfl ?_
    refine xr_getfr hc rfl rfl (by first | assumption | rfl) (by first | assumption | rfl) ?_
    refine xr_aloadn hc rfl rfl ?_
    refine xr_getfr hc rfl rfl (by first | assumption | rfl) (by first | assumption | rfl) ?_
    refine xr_callv2 hc rfl (by first | assumption | rfl) rfl rfl rfl (Nat.le_of_ble_eq_true rfl) (Nat.zero_le _) (Nat.zero_le _) ?_
    have hq4 : bw ≤ 9999 ∧ dig (M 57) w.toNat ∧ br = bw * 1000000 + key (M 57) w.toNat := by
      rcases b2 with ⟨y1, y2⟩ | ⟨y1, y2, y3, y4⟩
      · omega
      · exact ⟨y2, y3, y4⟩
    refine S_isAhead (w := w) hl (by rw [f1 _ _ (by omega)]; exact h5) hw d56 (fun k hk => by rw [f1 _ _ (by omega)]; exact hq4.2.1 k hk) (fun y => ?_) (fun y => ?_)
    all_goals rw [k56, k57] at y
    · refine xk_1 ?_
      refine xr_iff hc rfl (by simp [dz_cmp]) ?_
      refine xr_aloadn hc rfl rfl ?_
      refine xr_iloadn hc rfl rfl ?_
      refine xr_putfi hc rfl rfl (by first | assumption | rfl) ?_
      refine xr_aloadn hc rfl rfl ?_
      refine xr_getfr hc rfl rfl (by first | assumption | rfl) (by first | assumption | rfl) ?_
      refine xr_iconst hc rfl ?_
      refine xr_aloadn hc rfl rfl ?_
      refine xr_getfr hc rfl rfl (by first | assumption | rfl) (by first | assumption | rfl) ?_
      refine xr_iconst hc rfl ?_
      refine xr_bipush hc rfl ?_
      refine xr_copy hc rfl rfl (by first | assumption | rfl) (by first | assumption | rfl) (by first | omega | (unfold dz_w; omega)) (by first | omega | (unfold dz_w; omega)) (by first | omega | (unfold dz_w; omega)) (by first | omega | (unfold dz_w; omega)) (by first | omega | (unfold dz_w; omega)) (by first | decide | (simp [dz_cats]; done) | exact Nat.le_of_ble_eq_true rfl) ?_
      refine xr_return hc rfl rfl (Nat.zero_le _) (Nat.zero_le _) ?_
      by_cases hz : u * 1000000 + key (fillr w pl.toNat w.toNat 0 0 (M 55)) w.toNat < br
      · first
          | (exfalso; omega)
          | (skip
             have cp : ∀ q2 k2, q2 ≠ 57 → dz_cpy (dz_up N 54 4 u) 56 57 (Int.toNat 0) (Int.toNat 0) (Int.toNat 6) q2 k2 = dz_up N 54 4 u q2 k2 := fun q2 k2 v => by
               unfold dz_cpy
               rw [if_neg (fun z => v z.1)]
             have cp2 : ∀ k, k < w.toNat → dz_cpy (dz_up N 54 4 u) 56 57 (Int.toNat 0) (Int.toNat 0) (Int.toNat 6) 57 k = (fillr w pl.toNat w.toNat 0 0 (M 55)) k := fun k hk => by
               unfold dz_cpy
               rw [if_pos ⟨rfl, by omega, by omega⟩, dz_up_ne (by omega), ← f2 k hk]
               congr 1
               omega
             refine hQ _ (fun q2 k2 v1 v2 v3 => ?_) (Or.inl ⟨by omega, ⟨?_, Or.inr ⟨by omega, by omega, fun k hk => ?_, ?_⟩⟩, cp2⟩)
             · rw [cp _ _ v3]
               by_cases e : q2 = 54
               · subst e
                 rw [dz_up_k (by omega), f1 _ _ v2]
               · rw [dz_up_ne e, f1 _ _ v2]
             · rw [cp _ _ (by omega), dz_up_eq]
             · rw [cp2 k hk]
               exact dF k hk
             · rw [key_c w.toNat cp2])
      · first
          | (exfalso; have z := hlt (by omega); omega)
          | (refine hQ N (fun q2 k2 v1 v2 v3 => f1 _ _ v2) (Or.inr ⟨by omega, ⟨n4, ?_⟩, fun k hk => f1 _ _ (by omega)⟩)
             rcases b2 with y1 | ⟨y1, y2, y3, y4⟩
             · exact Or.inl y1
             · exact Or.inr ⟨y1, y2, fun k hk => by rw [f1 _ _ (by omega)]; exact y3 k hk, by rw [k57]; exact y4⟩)
    · refine xk_1 ?_
      refine xr_ift hc rfl (t := 51) rfl (by simp [dz_cmp]) ?_
      refine xr_return hc rfl rfl (Nat.zero_le _) (Nat.zero_le _) ?_
      by_cases hz : u * 1000000 + key (fillr w pl.toNat w.toNat 0 0 (M 55)) w.toNat < br
      · first
          | (exfalso; omega)
          | (skip
             have cp : ∀ q2 k2, q2 ≠ 57 → dz_cpy (dz_up N 54 4 u) 56 57 (Int.toNat 0) (Int.toNat 0) (Int.toNat 6) q2 k2 = dz_up N 54 4 u q2 k2 := fun q2 k2 v => by
               unfold dz_cpy
               rw [if_neg (fun z => v z.1)]
             have cp2 : ∀ k, k < w.toNat → dz_cpy (dz_up N 54 4 u) 56 57 (Int.toNat 0) (Int.toNat 0) (Int.toNat 6) 57 k = (fillr w pl.toNat w.toNat 0 0 (M 55)) k := fun k hk => by
               unfold dz_cpy
               rw [if_pos ⟨rfl, by omega, by omega⟩, dz_up_ne (by omega), ← f2 k hk]
               congr 1
               omega
             refine hQ _ (fun q2 k2 v1 v2 v3 => ?_) (Or.inl ⟨by omega, ⟨?_, Or.inr ⟨by omega, by omega, fun k hk => ?_, ?_⟩⟩, cp2⟩)
             · rw [cp _ _ v3]
               by_cases e : q2 = 54
               · subst e
                 rw [dz_up_k (by omega), f1 _ _ v2]
               · rw [dz_up_ne e, f1 _ _ v2]
             · rw [cp _ _ (by omega), dz_up_eq]
             · rw [cp2 k hk]
               exact dF k hk
             · rw [key_c w.toNat cp2])
      · first
          | (exfalso; have z := hlt (by omega); omega)
          | (refine hQ N (fun q2 k2 v1 v2 v3 => f1 _ _ v2) (Or.inr ⟨by omega, ⟨n4, ?_⟩, fun k hk => f1 _ _ (by omega)⟩)
             rcases b2 with y1 | ⟨y1, y2, y3, y4⟩
             · exact Or.inl y1
             · exact Or.inr ⟨y1, y2, fun k hk => by rw [f1 _ _ (by omega)]; exact y3 k hk, by rw [k57]; exact y4⟩)
